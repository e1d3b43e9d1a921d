theorem dX11_raze_0 : decode cX11_raze 0 = .ok (.aload_n 0, 1) := by decide +kernel
theorem dX11_raze_1 : decode cX11_raze 1 = .ok (.iload_n 1, 1) := by decide +kernel
theorem dX11_raze_2 : decode cX11_raze 2 = .ok (.invokevirtual 118, 3) := by decide +kernel
theorem dX11_raze_5 : decode cX11_raze 5 = .ok (.aload_n 0, 1) := by decide +kernel
theorem dX11_raze_6 : decode cX11_raze 6 = .ok (.iload_n 1, 1) := by decide +kernel
theorem dX11_raze_7 : decode cX11_raze 7 = .ok (.invokevirtual 260, 3) := by decide +kernel
theorem dX11_raze_10 : decode cX11_raze 10 = .ok (.aload_n 0, 1) := by decide +kernel
theorem dX11_raze_11 : decode cX11_raze 11 = .ok (.invokevirtual 245, 3) := by decide +kernel
theorem dX11_raze_14 : decode cX11_raze 14 = .ok (.aload_n 0, 1) := by decide +kernel
theorem dX11_raze_15 : decode cX11_raze 15 = .ok (.iload_n 1, 1) := by decide +kernel
theorem dX11_raze_16 : decode cX11_raze 16 = .ok (.bipush 6, 2) := by decide +kernel
theorem dX11_raze_18 : decode cX11_raze 18 = .ok (.invokevirtual 128, 3) := by decide +kernel
theorem dX11_raze_21 : decode cX11_raze 21 = .ok (.istore_n 2, 1) := by decide +kernel
theorem dX11_raze_22 : decode cX11_raze 22 = .ok (.aload_n 0, 1) := by decide +kernel
theorem dX11_raze_23 : decode cX11_raze 23 = .ok (.getfield 19, 3) := by decide +kernel
theorem dX11_raze_26 : decode cX11_raze 26 = .ok (.getfield 232, 3) := by decide +kernel
theorem dX11_raze_29 : decode cX11_raze 29 = .ok (.aload_n 0, 1) := by decide +kernel
theorem dX11_raze_30 : decode cX11_raze 30 = .ok (.getfield 19, 3) := by decide +kernel
theorem dX11_raze_33 : decode cX11_raze 33 = .ok (.getfield 220, 3) := by decide +kernel
theorem dX11_raze_36 : decode cX11_raze 36 = .ok (.aload_n 0, 1) := by decide +kernel
theorem dX11_raze_37 : decode cX11_raze 37 = .ok (.getfield 19, 3) := by decide +kernel
theorem dX11_raze_40 : decode cX11_raze 40 = .ok (.getfield 205, 3) := by decide +kernel
theorem dX11_raze_43 : decode cX11_raze 43 = .ok (.iload_n 1, 1) := by decide +kernel
theorem dX11_raze_44 : decode cX11_raze 44 = .ok (.iconst 0, 1) := by decide +kernel
theorem dX11_raze_45 : decode cX11_raze 45 = .ok (.iconst 0, 1) := by decide +kernel
theorem dX11_raze_46 : decode cX11_raze 46 = .ok (.iconst 1, 1) := by decide +kernel
theorem dX11_raze_47 : decode cX11_raze 47 = .ok (.invokevirtual 290, 3) := by decide +kernel
theorem dX11_raze_50 : decode cX11_raze 50 = .ok (.aload_n 0, 1) := by decide +kernel
theorem dX11_raze_51 : decode cX11_raze 51 = .ok (.getfield 19, 3) := by decide +kernel
theorem dX11_raze_54 : decode cX11_raze 54 = .ok (.iload_n 1, 1) := by decide +kernel
theorem dX11_raze_55 : decode cX11_raze 55 = .ok (.invokevirtual 294, 3) := by decide +kernel
theorem dX11_raze_58 : decode cX11_raze 58 = .ok (.iload_n 2, 1) := by decide +kernel
theorem dX11_raze_59 : decode cX11_raze 59 = .ok (.ireturn, 1) := by decide +kernel
set_option maxRecDepth 100000 in
set_option maxHeartbeats 200000 in
theorem T_X11_raze_0 {X : CX} (hX : Ok X cX11_raze 3 RX11 (some .int)) (hdx : dX X = 11) {r : Except String Int32 × Hp} (x1 : Int32) (h : Hp) (hf : f_X11_raze x1 h = some r) : J X (oX tvI r) 0 [(0, .ref 1), (1, .int x1)] [] h := by
  unfold f_X11_raze at hf
  refine J_aload_n hX 0 dX11_raze_0 rfl rfl ?_
  refine J_iload_n hX 1 dX11_raze_1 rfl rfl ?_
  obtain ⟨r_1, e_2, hf⟩ := bdE hf
  rcases exE hf with ⟨v_3, h_4, z_6, hg⟩ | ⟨E_5, h_4, z_6, z_6r⟩
  all_goals clear hf
  rotate_left
  · subst z_6
    exact V_kx hX [.int x1] dX11_raze_2 cw_X11_118 ob_1 rfl (C_X11_checkHouse (okG hX) e_2) (ltD hdx rfl) rfl rfl rfl rfl z_6r
  subst z_6
  have hf := hg
  clear hg
  refine V_k0 hX [.int x1] dX11_raze_2 cw_X11_118 ob_1 rfl (C_X11_checkHouse (okG hX) e_2) (ltD hdx rfl) rfl rfl rfl rfl rfl ?_
  refine J_aload_n hX 0 dX11_raze_5 rfl rfl ?_
  refine J_iload_n hX 1 dX11_raze_6 rfl rfl ?_
  obtain ⟨r_7, e_8, hf⟩ := bdE hf
  rcases exE hf with ⟨v_9, h_10, z_12, hg⟩ | ⟨E_11, h_10, z_12, z_12r⟩
  all_goals clear hf
  rotate_left
  · subst z_12
    exact V_kx hX [.int x1] dX11_raze_7 cw_X11_260 ob_1 rfl (C_X11_checkUp (okG hX) e_8) (ltD hdx rfl) rfl rfl rfl rfl z_12r
  subst z_12
  have hf := hg
  clear hg
  refine V_k0 hX [.int x1] dX11_raze_7 cw_X11_260 ob_1 rfl (C_X11_checkUp (okG hX) e_8) (ltD hdx rfl) rfl rfl rfl rfl rfl ?_
  refine J_aload_n hX 0 dX11_raze_10 rfl rfl ?_
  obtain ⟨r_13, e_14, hf⟩ := bdE hf
  refine V_0 hX [] dX11_raze_11 cw_X11_245 ob_1 rfl (C_X11_remember (okG hX) e_14) (ltD hdx rfl) rfl rfl rfl rfl ?_
  refine J_aload_n hX 0 dX11_raze_14 rfl rfl ?_
  refine J_iload_n hX 1 dX11_raze_15 rfl rfl ?_
  refine J_bipush hX 6 dX11_raze_16 rfl ?_
  obtain ⟨r_15, e_16, hf⟩ := bdE hf
  refine V_1 hX [.int x1, .int 6] dX11_raze_18 cw_X11_128 ob_1 rfl (C_X11_loadOf (okG hX) e_16) (ltD hdx rfl) rfl rfl rfl rfl ?_
  refine J_istore_n hX [(2, .int r_15.1), (0, .ref 1), (1, .int x1)] dX11_raze_21 rfl rfl rfl ?_
  refine J_aload_n hX 1 dX11_raze_22 rfl rfl ?_
  refine J_getR hX 100 dX11_raze_23 fl_X11_19 ob_1 rfl rfl ?_
  refine J_getR hX 109 dX11_raze_26 fl_X11_232 (city_ob isc_100) rfl rfl ?_
  refine J_aload_n hX 1 dX11_raze_29 rfl rfl ?_
  refine J_getR hX 100 dX11_raze_30 fl_X11_19 ob_1 rfl rfl ?_
  refine J_getI hX dX11_raze_33 fl_X11_220 (city_ob isc_100) rfl ?_
  refine J_aload_n hX 1 dX11_raze_36 rfl rfl ?_
  refine J_getR hX 100 dX11_raze_37 fl_X11_19 ob_1 rfl rfl ?_
  refine J_getI hX dX11_raze_40 fl_X11_205 (city_ob isc_100) rfl ?_
  refine J_iload_n hX 2 dX11_raze_43 rfl rfl ?_
  refine J_iconst hX 0 dX11_raze_44 rfl ?_
  refine J_iconst hX 0 dX11_raze_45 rfl ?_
  refine J_iconst hX 1 dX11_raze_46 rfl ?_
  obtain ⟨r_17, e_18, hf⟩ := bdE hf
  refine V_0 hX [.int (r_15.2 100 13), .int (r_15.2 100 12), .int x1, .int 0, .int 0, .int 1] dX11_raze_47 cw_X11_290 (log_ob (city_log isc_100)) rfl (C_X6_add (okG hX) (city_log isc_100) e_18) (ltD hdx rfl) rfl rfl rfl rfl ?_
  refine J_aload_n hX 1 dX11_raze_50 rfl rfl ?_
  refine J_getR hX 100 dX11_raze_51 fl_X11_19 ob_1 rfl rfl ?_
  refine J_iload_n hX 2 dX11_raze_54 rfl rfl ?_
  obtain ⟨r_19, e_20, hf⟩ := bdE hf
  refine V_0 hX [.int x1] dX11_raze_55 cw_X11_294 (city_ob isc_100) rfl (C_X1_takeDown (okG hX) isc_100 e_20) (ltD hdx rfl) rfl rfl rfl rfl ?_
  refine J_iload_n hX 0 dX11_raze_58 rfl rfl ?_
  exact E_Ix hX dX11_raze_59 hf
set_option maxRecDepth 100000 in
set_option maxHeartbeats 200000 in
theorem C_X11_raze {G : GX} (hG : GOk G) {x1 : Int32} {h : Hp} {r : Except String Int32 × Hp} (hf : f_X11_raze x1 h = some r) : Ctr G 11 yX11_raze cX11_raze 3 (some .int) [.ref 1, .int x1] h (oX tvI r) :=
  Ctr_of hG RX11 rfl (by decide) rfl (fun X _ hdx hX => T_X11_raze_0 hX hdx x1 h hf)
theorem dX11_falls_0 : decode cX11_falls 0 = .ok (.iload_n 1, 1) := by decide +kernel
theorem dX11_falls_1 : decode cX11_falls 1 = .ok (.invokestatic 283, 3) := by decide +kernel
theorem dX11_falls_4 : decode cX11_falls 4 = .ok (.aload_n 0, 1) := by decide +kernel
theorem dX11_falls_5 : decode cX11_falls 5 = .ok (.iload_n 1, 1) := by decide +kernel
theorem dX11_falls_6 : decode cX11_falls 6 = .ok (.invokevirtual 211, 3) := by decide +kernel
theorem dX11_falls_9 : decode cX11_falls 9 = .ok (.ireturn, 1) := by decide +kernel
set_option maxRecDepth 100000 in
set_option maxHeartbeats 200000 in
theorem T_X11_falls_0 {X : CX} (hX : Ok X cX11_falls 2 RX11 (some .int)) (hdx : dX X = 11) {r : Except String Int32 × Hp} (x1 : Int32) (h : Hp) (hf : f_X11_falls x1 h = some r) : J X (oX tvI r) 0 [(0, .ref 1), (1, .int x1)] [] h := by
  unfold f_X11_falls at hf
  refine J_iload_n hX 1 dX11_falls_0 rfl rfl ?_
  obtain ⟨r_1, e_2, hf⟩ := bdE hf
  rcases exE hf with ⟨v_3, h_4, z_6, hg⟩ | ⟨E_5, h_4, z_6, z_6r⟩
  all_goals clear hf
  rotate_left
  · subst z_6
    exact S_kx hX [.int x1] dX11_falls_1 cw_X11_283 (C_X11_checkEvening (okG hX) e_2) (ltD hdx rfl) rfl rfl rfl rfl z_6r
  subst z_6
  have hf := hg
  clear hg
  refine S_k0 hX [.int x1] dX11_falls_1 cw_X11_283 (C_X11_checkEvening (okG hX) e_2) (ltD hdx rfl) rfl rfl rfl rfl rfl ?_
  refine J_aload_n hX 0 dX11_falls_4 rfl rfl ?_
  refine J_iload_n hX 1 dX11_falls_5 rfl rfl ?_
  obtain ⟨r_7, e_8, hf⟩ := bdE hf
  refine V_1 hX [.int x1] dX11_falls_6 cw_X11_211 ob_1 rfl (C_X11_fallsNow (okG hX) e_8) (ltD hdx rfl) rfl rfl rfl rfl ?_
  exact E_Ix hX dX11_falls_9 hf
set_option maxRecDepth 100000 in
set_option maxHeartbeats 200000 in
theorem C_X11_falls {G : GX} (hG : GOk G) {x1 : Int32} {h : Hp} {r : Except String Int32 × Hp} (hf : f_X11_falls x1 h = some r) : Ctr G 11 yX11_falls cX11_falls 2 (some .int) [.ref 1, .int x1] h (oX tvI r) :=
  Ctr_of hG RX11 rfl (by decide) rfl (fun X _ hdx hX => T_X11_falls_0 hX hdx x1 h hf)
theorem dX11_rounds_0 : decode cX11_rounds 0 = .ok (.iload_n 1, 1) := by decide +kernel
theorem dX11_rounds_1 : decode cX11_rounds 1 = .ok (.invokestatic 283, 3) := by decide +kernel
theorem dX11_rounds_4 : decode cX11_rounds 4 = .ok (.aload_n 0, 1) := by decide +kernel
theorem dX11_rounds_5 : decode cX11_rounds 5 = .ok (.iload_n 1, 1) := by decide +kernel
theorem dX11_rounds_6 : decode cX11_rounds 6 = .ok (.invokevirtual 211, 3) := by decide +kernel
theorem dX11_rounds_9 : decode cX11_rounds 9 = .ok (.pop, 1) := by decide +kernel
theorem dX11_rounds_10 : decode cX11_rounds 10 = .ok (.aload_n 0, 1) := by decide +kernel
theorem dX11_rounds_11 : decode cX11_rounds 11 = .ok (.getfield 39, 3) := by decide +kernel
theorem dX11_rounds_14 : decode cX11_rounds 14 = .ok (.getfield 297, 3) := by decide +kernel
theorem dX11_rounds_17 : decode cX11_rounds 17 = .ok (.ireturn, 1) := by decide +kernel
set_option maxRecDepth 100000 in
set_option maxHeartbeats 200000 in
theorem T_X11_rounds_0 {X : CX} (hX : Ok X cX11_rounds 2 RX11 (some .int)) (hdx : dX X = 11) {r : Except String Int32 × Hp} (x1 : Int32) (h : Hp) (hf : f_X11_rounds x1 h = some r) : J X (oX tvI r) 0 [(0, .ref 1), (1, .int x1)] [] h := by
  unfold f_X11_rounds at hf
  refine J_iload_n hX 1 dX11_rounds_0 rfl rfl ?_
  obtain ⟨r_1, e_2, hf⟩ := bdE hf
  rcases exE hf with ⟨v_3, h_4, z_6, hg⟩ | ⟨E_5, h_4, z_6, z_6r⟩
  all_goals clear hf
  rotate_left
  · subst z_6
    exact S_kx hX [.int x1] dX11_rounds_1 cw_X11_283 (C_X11_checkEvening (okG hX) e_2) (ltD hdx rfl) rfl rfl rfl rfl z_6r
  subst z_6
  have hf := hg
  clear hg
  refine S_k0 hX [.int x1] dX11_rounds_1 cw_X11_283 (C_X11_checkEvening (okG hX) e_2) (ltD hdx rfl) rfl rfl rfl rfl rfl ?_
  refine J_aload_n hX 0 dX11_rounds_4 rfl rfl ?_
  refine J_iload_n hX 1 dX11_rounds_5 rfl rfl ?_
  obtain ⟨r_7, e_8, hf⟩ := bdE hf
  refine V_1 hX [.int x1] dX11_rounds_6 cw_X11_211 ob_1 rfl (C_X11_fallsNow (okG hX) e_8) (ltD hdx rfl) rfl rfl rfl rfl ?_
  refine J_pop hX dX11_rounds_9 rfl ?_
  refine J_aload_n hX 0 dX11_rounds_10 rfl rfl ?_
  refine J_getR hX 4 dX11_rounds_11 fl_X11_39 ob_1 rfl rfl ?_
  refine J_getI hX dX11_rounds_14 fl_X11_297 ob_4 rfl ?_
  exact E_Ix hX dX11_rounds_17 hf
set_option maxRecDepth 100000 in
set_option maxHeartbeats 200000 in
theorem C_X11_rounds {G : GX} (hG : GOk G) {x1 : Int32} {h : Hp} {r : Except String Int32 × Hp} (hf : f_X11_rounds x1 h = some r) : Ctr G 11 yX11_rounds cX11_rounds 2 (some .int) [.ref 1, .int x1] h (oX tvI r) :=
  Ctr_of hG RX11 rfl (by decide) rfl (fun X _ hdx hX => T_X11_rounds_0 hX hdx x1 h hf)
theorem dX11_pulledBy_0 : decode cX11_pulledBy 0 = .ok (.aload_n 0, 1) := by decide +kernel
theorem dX11_pulledBy_1 : decode cX11_pulledBy 1 = .ok (.getfield 23, 3) := by decide +kernel
theorem dX11_pulledBy_4 : decode cX11_pulledBy 4 = .ok (.aload_n 0, 1) := by decide +kernel
theorem dX11_pulledBy_5 : decode cX11_pulledBy 5 = .ok (.getfield 19, 3) := by decide +kernel
theorem dX11_pulledBy_8 : decode cX11_pulledBy 8 = .ok (.invokevirtual 82, 3) := by decide +kernel
theorem dX11_pulledBy_11 : decode cX11_pulledBy 11 = .ok (.aload_n 0, 1) := by decide +kernel
theorem dX11_pulledBy_12 : decode cX11_pulledBy 12 = .ok (.getfield 23, 3) := by decide +kernel
theorem dX11_pulledBy_15 : decode cX11_pulledBy 15 = .ok (.iload_n 1, 1) := by decide +kernel
theorem dX11_pulledBy_16 : decode cX11_pulledBy 16 = .ok (.invokevirtual 294, 3) := by decide +kernel
theorem dX11_pulledBy_19 : decode cX11_pulledBy 19 = .ok (.iconst 1, 1) := by decide +kernel
theorem dX11_pulledBy_20 : decode cX11_pulledBy 20 = .ok (.aload_n 0, 1) := by decide +kernel
theorem dX11_pulledBy_21 : decode cX11_pulledBy 21 = .ok (.getfield 39, 3) := by decide +kernel
theorem dX11_pulledBy_24 : decode cX11_pulledBy 24 = .ok (.aload_n 0, 1) := by decide +kernel
theorem dX11_pulledBy_25 : decode cX11_pulledBy 25 = .ok (.getfield 23, 3) := by decide +kernel
theorem dX11_pulledBy_28 : decode cX11_pulledBy 28 = .ok (.aload_n 0, 1) := by decide +kernel
theorem dX11_pulledBy_29 : decode cX11_pulledBy 29 = .ok (.getfield 29, 3) := by decide +kernel
theorem dX11_pulledBy_32 : decode cX11_pulledBy 32 = .ok (.aload_n 0, 1) := by decide +kernel
theorem dX11_pulledBy_33 : decode cX11_pulledBy 33 = .ok (.getfield 23, 3) := by decide +kernel
theorem dX11_pulledBy_36 : decode cX11_pulledBy 36 = .ok (.getfield 205, 3) := by decide +kernel
theorem dX11_pulledBy_39 : decode cX11_pulledBy 39 = .ok (.invokevirtual 363, 3) := by decide +kernel
theorem dX11_pulledBy_42 : decode cX11_pulledBy 42 = .ok (.invokestatic 248, 3) := by decide +kernel
theorem dX11_pulledBy_45 : decode cX11_pulledBy 45 = .ok (.iadd, 1) := by decide +kernel
theorem dX11_pulledBy_46 : decode cX11_pulledBy 46 = .ok (.ireturn, 1) := by decide +kernel
set_option maxRecDepth 100000 in
set_option maxHeartbeats 200000 in
theorem T_X11_pulledBy_0 {X : CX} (hX : Ok X cX11_pulledBy 2 RX11 (some .int)) (hdx : dX X = 7) {r : Int32 × Hp} (x1 : Int32) (h : Hp) (hf : f_X11_pulledBy x1 h = some r) : J X ((.inl (some (.int r.1)), r.2)) 0 [(0, .ref 1), (1, .int x1)] [] h := by
  unfold f_X11_pulledBy at hf
  refine J_aload_n hX 0 dX11_pulledBy_0 rfl rfl ?_
  refine J_getR hX 116 dX11_pulledBy_1 fl_X11_23 ob_1 rfl rfl ?_
  refine J_aload_n hX 0 dX11_pulledBy_4 rfl rfl ?_
  refine J_getR hX 100 dX11_pulledBy_5 fl_X11_19 ob_1 rfl rfl ?_
  obtain ⟨r_1, e_2, hf⟩ := bdE hf
  refine V_0 hX [.ref 100] dX11_pulledBy_8 cw_X11_82 (city_ob isc_116) rfl (C_X1_copyFrom (okG hX) isc_116 isc_100 e_2) (ltD hdx rfl) rfl rfl rfl rfl ?_
  refine J_aload_n hX 0 dX11_pulledBy_11 rfl rfl ?_
  refine J_getR hX 116 dX11_pulledBy_12 fl_X11_23 ob_1 rfl rfl ?_
  refine J_iload_n hX 1 dX11_pulledBy_15 rfl rfl ?_
  obtain ⟨r_3, e_4, hf⟩ := bdE hf
  refine V_0 hX [.int x1] dX11_pulledBy_16 cw_X11_294 (city_ob isc_116) rfl (C_X1_takeDown (okG hX) isc_116 e_4) (ltD hdx rfl) rfl rfl rfl rfl ?_
  refine J_iconst hX 1 dX11_pulledBy_19 rfl ?_
  refine J_aload_n hX 0 dX11_pulledBy_20 rfl rfl ?_
  refine J_getR hX 4 dX11_pulledBy_21 fl_X11_39 ob_1 rfl rfl ?_
  refine J_aload_n hX 0 dX11_pulledBy_24 rfl rfl ?_
  refine J_getR hX 116 dX11_pulledBy_25 fl_X11_23 ob_1 rfl rfl ?_
  refine J_aload_n hX 0 dX11_pulledBy_28 rfl rfl ?_
  refine J_getR hX 500 dX11_pulledBy_29 fl_X11_29 ob_1 rfl rfl ?_
  refine J_aload_n hX 0 dX11_pulledBy_32 rfl rfl ?_
  refine J_getR hX 116 dX11_pulledBy_33 fl_X11_23 ob_1 rfl rfl ?_
  refine J_getI hX dX11_pulledBy_36 fl_X11_205 (city_ob isc_116) rfl ?_
  obtain ⟨r_5, e_6, hf⟩ := bdE hf
  refine V_1 hX [.ref 116, .ref 500, .int (r_3 116 12)] dX11_pulledBy_39 cw_X11_363 ob_4 rfl (C_X3_fall (okG hX) isc_116 isl_500 e_6) (ltD hdx rfl) rfl rfl rfl rfl ?_
  refine S_1 hX [.int r_5.1] dX11_pulledBy_42 cw_X11_248 (C_J6_bitCount_0f7a4 (okG hX) rfl) (ltD hdx rfl) rfl rfl rfl rfl ?_
  refine J_iadd hX dX11_pulledBy_45 ?_
  exact E_Ii hX dX11_pulledBy_46 hf
set_option maxRecDepth 100000 in
set_option maxHeartbeats 200000 in
theorem C_X11_pulledBy {G : GX} (hG : GOk G) {x1 : Int32} {h : Hp} {r : Int32 × Hp} (hf : f_X11_pulledBy x1 h = some r) : Ctr G 7 yX11_pulledBy cX11_pulledBy 2 (some .int) [.ref 1, .int x1] h ((.inl (some (.int r.1)), r.2)) :=
  Ctr_of hG RX11 rfl (by decide) rfl (fun X _ hdx hX => T_X11_pulledBy_0 hX hdx x1 h hf)
theorem dX11_pulls_0 : decode cX11_pulls 0 = .ok (.aload_n 0, 1) := by decide +kernel
theorem dX11_pulls_1 : decode cX11_pulls 1 = .ok (.iload_n 1, 1) := by decide +kernel
theorem dX11_pulls_2 : decode cX11_pulls 2 = .ok (.invokevirtual 118, 3) := by decide +kernel
theorem dX11_pulls_5 : decode cX11_pulls 5 = .ok (.aload_n 0, 1) := by decide +kernel
theorem dX11_pulls_6 : decode cX11_pulls 6 = .ok (.iload_n 1, 1) := by decide +kernel
theorem dX11_pulls_7 : decode cX11_pulls 7 = .ok (.invokevirtual 260, 3) := by decide +kernel
theorem dX11_pulls_10 : decode cX11_pulls 10 = .ok (.aload_n 0, 1) := by decide +kernel
theorem dX11_pulls_11 : decode cX11_pulls 11 = .ok (.iload_n 1, 1) := by decide +kernel
theorem dX11_pulls_12 : decode cX11_pulls 12 = .ok (.invokevirtual 300, 3) := by decide +kernel
theorem dX11_pulls_15 : decode cX11_pulls 15 = .ok (.ireturn, 1) := by decide +kernel
set_option maxRecDepth 100000 in
set_option maxHeartbeats 200000 in
theorem T_X11_pulls_0 {X : CX} (hX : Ok X cX11_pulls 2 RX11 (some .int)) (hdx : dX X = 11) {r : Except String Int32 × Hp} (x1 : Int32) (h : Hp) (hf : f_X11_pulls x1 h = some r) : J X (oX tvI r) 0 [(0, .ref 1), (1, .int x1)] [] h := by
  unfold f_X11_pulls at hf
  refine J_aload_n hX 0 dX11_pulls_0 rfl rfl ?_
  refine J_iload_n hX 1 dX11_pulls_1 rfl rfl ?_
  obtain ⟨r_1, e_2, hf⟩ := bdE hf
  rcases exE hf with ⟨v_3, h_4, z_6, hg⟩ | ⟨E_5, h_4, z_6, z_6r⟩
  all_goals clear hf
  rotate_left
  · subst z_6
    exact V_kx hX [.int x1] dX11_pulls_2 cw_X11_118 ob_1 rfl (C_X11_checkHouse (okG hX) e_2) (ltD hdx rfl) rfl rfl rfl rfl z_6r
  subst z_6
  have hf := hg
  clear hg
  refine V_k0 hX [.int x1] dX11_pulls_2 cw_X11_118 ob_1 rfl (C_X11_checkHouse (okG hX) e_2) (ltD hdx rfl) rfl rfl rfl rfl rfl ?_
  refine J_aload_n hX 0 dX11_pulls_5 rfl rfl ?_
  refine J_iload_n hX 1 dX11_pulls_6 rfl rfl ?_
  obtain ⟨r_7, e_8, hf⟩ := bdE hf
  rcases exE hf with ⟨v_9, h_10, z_12, hg⟩ | ⟨E_11, h_10, z_12, z_12r⟩
  all_goals clear hf
  rotate_left
  · subst z_12
    exact V_kx hX [.int x1] dX11_pulls_7 cw_X11_260 ob_1 rfl (C_X11_checkUp (okG hX) e_8) (ltD hdx rfl) rfl rfl rfl rfl z_12r
  subst z_12
  have hf := hg
  clear hg
  refine V_k0 hX [.int x1] dX11_pulls_7 cw_X11_260 ob_1 rfl (C_X11_checkUp (okG hX) e_8) (ltD hdx rfl) rfl rfl rfl rfl rfl ?_
  refine J_aload_n hX 0 dX11_pulls_10 rfl rfl ?_
  refine J_iload_n hX 1 dX11_pulls_11 rfl rfl ?_
  obtain ⟨r_13, e_14, hf⟩ := bdE hf
  refine V_1 hX [.int x1] dX11_pulls_12 cw_X11_300 ob_1 rfl (C_X11_pulledBy (okG hX) e_14) (ltD hdx rfl) rfl rfl rfl rfl ?_
  exact E_Ix hX dX11_pulls_15 hf
set_option maxRecDepth 100000 in
set_option maxHeartbeats 200000 in
theorem C_X11_pulls {G : GX} (hG : GOk G) {x1 : Int32} {h : Hp} {r : Except String Int32 × Hp} (hf : f_X11_pulls x1 h = some r) : Ctr G 11 yX11_pulls cX11_pulls 2 (some .int) [.ref 1, .int x1] h (oX tvI r) :=
  Ctr_of hG RX11 rfl (by decide) rfl (fun X _ hdx hX => T_X11_pulls_0 hX hdx x1 h hf)
theorem dX11_key_0 : decode cX11_key 0 = .ok (.iconst (-1), 1) := by decide +kernel
theorem dX11_key_1 : decode cX11_key 1 = .ok (.istore_n 1, 1) := by decide +kernel
theorem dX11_key_2 : decode cX11_key 2 = .ok (.iconst 0, 1) := by decide +kernel
theorem dX11_key_3 : decode cX11_key 3 = .ok (.istore_n 2, 1) := by decide +kernel
theorem dX11_key_4 : decode cX11_key 4 = .ok (.iconst 0, 1) := by decide +kernel
theorem dX11_key_5 : decode cX11_key 5 = .ok (.istore_n 3, 1) := by decide +kernel
theorem dX11_key_6 : decode cX11_key 6 = .ok (.iload_n 3, 1) := by decide +kernel
theorem dX11_key_7 : decode cX11_key 7 = .ok (.bipush 8, 2) := by decide +kernel
theorem dX11_key_9 : decode cX11_key 9 = .ok (.if_icmp .ge 42, 3) := by decide +kernel
theorem dX11_key_12 : decode cX11_key 12 = .ok (.aload_n 0, 1) := by decide +kernel
theorem dX11_key_13 : decode cX11_key 13 = .ok (.getfield 19, 3) := by decide +kernel
theorem dX11_key_16 : decode cX11_key 16 = .ok (.iload_n 3, 1) := by decide +kernel
theorem dX11_key_17 : decode cX11_key 17 = .ok (.invokevirtual 148, 3) := by decide +kernel
theorem dX11_key_20 : decode cX11_key 20 = .ok (.ifCond .eq 11, 3) := by decide +kernel
theorem dX11_key_23 : decode cX11_key 23 = .ok (.aload_n 0, 1) := by decide +kernel
theorem dX11_key_24 : decode cX11_key 24 = .ok (.iload_n 3, 1) := by decide +kernel
theorem dX11_key_25 : decode cX11_key 25 = .ok (.invokevirtual 300, 3) := by decide +kernel
theorem dX11_key_28 : decode cX11_key 28 = .ok (.goto 4, 3) := by decide +kernel
theorem dX11_key_31 : decode cX11_key 31 = .ok (.iconst 0, 1) := by decide +kernel
theorem dX11_key_32 : decode cX11_key 32 = .ok (.istore 4, 2) := by decide +kernel
theorem dX11_key_34 : decode cX11_key 34 = .ok (.iload 4, 2) := by decide +kernel
theorem dX11_key_36 : decode cX11_key 36 = .ok (.iload_n 2, 1) := by decide +kernel
theorem dX11_key_37 : decode cX11_key 37 = .ok (.if_icmp .le 8, 3) := by decide +kernel
theorem dX11_key_40 : decode cX11_key 40 = .ok (.iload 4, 2) := by decide +kernel
theorem dX11_key_42 : decode cX11_key 42 = .ok (.istore_n 2, 1) := by decide +kernel
theorem dX11_key_43 : decode cX11_key 43 = .ok (.iload_n 3, 1) := by decide +kernel
theorem dX11_key_44 : decode cX11_key 44 = .ok (.istore_n 1, 1) := by decide +kernel
theorem dX11_key_45 : decode cX11_key 45 = .ok (.iinc 3 1, 3) := by decide +kernel
theorem dX11_key_48 : decode cX11_key 48 = .ok (.goto (-42), 3) := by decide +kernel
theorem dX11_key_51 : decode cX11_key 51 = .ok (.iload_n 1, 1) := by decide +kernel
theorem dX11_key_52 : decode cX11_key 52 = .ok (.ireturn, 1) := by decide +kernel
set_option maxRecDepth 100000 in
set_option maxHeartbeats 200000 in
theorem T_X11_key_32 {X : CX} (hX : Ok X cX11_key 5 RX11 (some .int)) (hdx : dX X = 8) {r : Int32 × Hp} (x1 : Int32) (x2 : Int32) (x3 : Int32) (t0 : Int32) (q_6 : Int32 → Int32 → Int32 → Hp → Option (Int32 × Hp)) (hq_6 : ∀ (x1 : Int32) (x2 : Int32) (x3 : Int32) (h : Hp), q_6 x1 x2 x3 h = some r → J X ((.inl (some (.int r.1)), r.2)) 6 [(0, .ref 1), (1, .int x1), (2, .int x2), (3, .int x3)] [] h) (h : Hp) (hf : F_X11_key_32 q_6 x1 x2 x3 t0 h = some r) : J X ((.inl (some (.int r.1)), r.2)) 32 [(0, .ref 1), (1, .int x1), (2, .int x2), (3, .int x3)] [.int t0] h := by
  unfold F_X11_key_32 at hf
  refine J_istore hX [(4, .int t0), (0, .ref 1), (1, .int x1), (2, .int x2), (3, .int x3)] dX11_key_32 rfl rfl ?_
  refine J_iload hX 0 dX11_key_34 rfl ?_
  refine J_iload_n hX 3 dX11_key_36 rfl rfl ?_
  rcases ifE hf with ⟨c_1, hf⟩ | ⟨c_1, hf⟩
  · refine J_icmp_leF hX 45 dX11_key_37 rfl c_1 ?_
    refine J_iload hX 0 dX11_key_40 rfl ?_
    refine J_istore_n hX [(2, .int t0), (4, .int t0), (0, .ref 1), (1, .int x1), (3, .int x3)] dX11_key_42 rfl rfl rfl ?_
    refine J_iload_n hX 4 dX11_key_43 rfl rfl ?_
    refine J_istore_n hX [(1, .int x3), (2, .int t0), (4, .int t0), (0, .ref 1), (3, .int x3)] dX11_key_44 rfl rfl rfl ?_
    refine J_iinc hX (x3 + 1) 4 [(3, .int (x3 + 1)), (1, .int x3), (2, .int t0), (4, .int t0), (0, .ref 1)] dX11_key_45 rfl rfl rfl rfl ?_
    refine J_goto hX 6 dX11_key_48 rfl ?_
    refine J_sub [4, 1, 2, 0] [(0, .ref 1), (1, .int x3), (2, .int t0), (3, .int (x3 + 1))] rfl ?_
    exact hq_6 x3 t0 (x3 + 1) h hf
  · refine J_icmp_leT hX 45 dX11_key_37 rfl c_1 ?_
    refine J_iinc hX (x3 + 1) 4 [(3, .int (x3 + 1)), (4, .int t0), (0, .ref 1), (1, .int x1), (2, .int x2)] dX11_key_45 rfl rfl rfl rfl ?_
    refine J_goto hX 6 dX11_key_48 rfl ?_
    refine J_sub [2, 3, 4, 0] [(0, .ref 1), (1, .int x1), (2, .int x2), (3, .int (x3 + 1))] rfl ?_
    exact hq_6 x1 x2 (x3 + 1) h hf
set_option maxRecDepth 100000 in
set_option maxHeartbeats 200000 in
theorem T_X11_key_6_s {X : CX} (hX : Ok X cX11_key 5 RX11 (some .int)) (hdx : dX X = 8) {r : Int32 × Hp} (q_6 : Int32 → Int32 → Int32 → Hp → Option (Int32 × Hp)) (hq_6 : ∀ (x1 : Int32) (x2 : Int32) (x3 : Int32) (h : Hp), q_6 x1 x2 x3 h = some r → J X ((.inl (some (.int r.1)), r.2)) 6 [(0, .ref 1), (1, .int x1), (2, .int x2), (3, .int x3)] [] h) (x1 : Int32) (x2 : Int32) (x3 : Int32) (h : Hp) (hf : S_X11_key_6 q_6 x1 x2 x3 h = some r) : J X ((.inl (some (.int r.1)), r.2)) 6 [(0, .ref 1), (1, .int x1), (2, .int x2), (3, .int x3)] [] h := by
  unfold S_X11_key_6 at hf
  refine J_iload_n hX 3 dX11_key_6 rfl rfl ?_
  refine J_bipush hX 8 dX11_key_7 rfl ?_
  rcases ifE hf with ⟨c_1, hf⟩ | ⟨c_1, hf⟩
  · refine J_icmp_geF hX 51 dX11_key_9 rfl c_1 ?_
    refine J_aload_n hX 0 dX11_key_12 rfl rfl ?_
    refine J_getR hX 100 dX11_key_13 fl_X11_19 ob_1 rfl rfl ?_
    refine J_iload_n hX 3 dX11_key_16 rfl rfl ?_
    refine V_1 hX [.int x3] dX11_key_17 cw_X11_148 (city_ob isc_100) rfl (C_X1_isUp (okG hX) isc_100 rfl) (ltD hdx rfl) rfl rfl rfl rfl ?_
    rcases ifE hf with ⟨c_2, hf⟩ | ⟨c_2, hf⟩
    · refine J_if_eqF hX 31 dX11_key_20 rfl (b2iT c_2) ?_
      refine J_aload_n hX 0 dX11_key_23 rfl rfl ?_
      refine J_iload_n hX 3 dX11_key_24 rfl rfl ?_
      obtain ⟨r_3, e_4, hf⟩ := bdE hf
      refine V_1 hX [.int x3] dX11_key_25 cw_X11_300 ob_1 rfl (C_X11_pulledBy (okG hX) e_4) (ltD hdx rfl) rfl rfl rfl rfl ?_
      refine J_goto hX 32 dX11_key_28 rfl ?_
      exact T_X11_key_32 hX hdx x1 x2 x3 r_3.1 q_6 hq_6 r_3.2 hf
    · refine J_if_eqT hX 31 dX11_key_20 rfl (b2iF c_2) ?_
      refine J_iconst hX 0 dX11_key_31 rfl ?_
      exact T_X11_key_32 hX hdx x1 x2 x3 0 q_6 hq_6 h hf
  · refine J_icmp_geT hX 51 dX11_key_9 rfl c_1 ?_
    refine J_iload_n hX 1 dX11_key_51 rfl rfl ?_
    exact E_Ii hX dX11_key_52 hf
set_option maxRecDepth 100000 in
set_option maxHeartbeats 200000 in
theorem T_X11_key_6 {X : CX} (hX : Ok X cX11_key 5 RX11 (some .int)) (hdx : dX X = 8) {r : Int32 × Hp} : ∀ (n : Nat) (x1 : Int32) (x2 : Int32) (x3 : Int32) (h : Hp), F_X11_key_6 n x1 x2 x3 h = some r → J X ((.inl (some (.int r.1)), r.2)) 6 [(0, .ref 1), (1, .int x1), (2, .int x2), (3, .int x3)] [] h := by
  intro n
  induction n with
  | zero => intro x1 x2 x3 h hf; exact nomatch hf
  | succ n ih => intro x1 x2 x3 h hf; exact T_X11_key_6_s hX hdx _ (fun x1 x2 x3 h hf => ih x1 x2 x3 h hf) x1 x2 x3 h hf
set_option maxRecDepth 100000 in
set_option maxHeartbeats 200000 in
theorem T_X11_key_0 {X : CX} (hX : Ok X cX11_key 5 RX11 (some .int)) (hdx : dX X = 8) {r : Int32 × Hp} (h : Hp) (hf : f_X11_key h = some r) : J X ((.inl (some (.int r.1)), r.2)) 0 [(0, .ref 1)] [] h := by
  unfold f_X11_key at hf
  refine J_iconst hX (-1) dX11_key_0 rfl ?_
  refine J_istore_n hX [(1, .int (-1)), (0, .ref 1)] dX11_key_1 rfl rfl rfl ?_
  refine J_iconst hX 0 dX11_key_2 rfl ?_
  refine J_istore_n hX [(2, .int 0), (1, .int (-1)), (0, .ref 1)] dX11_key_3 rfl rfl rfl ?_
  refine J_iconst hX 0 dX11_key_4 rfl ?_
  refine J_istore_n hX [(3, .int 0), (2, .int 0), (1, .int (-1)), (0, .ref 1)] dX11_key_5 rfl rfl rfl ?_
  refine J_sub [3, 2, 1, 0] [(0, .ref 1), (1, .int (-1)), (2, .int 0), (3, .int 0)] rfl ?_
  exact T_X11_key_6 hX hdx FU (-1) 0 0 h hf
set_option maxRecDepth 100000 in
set_option maxHeartbeats 200000 in
theorem C_X11_key {G : GX} (hG : GOk G) {h : Hp} {r : Int32 × Hp} (hf : f_X11_key h = some r) : Ctr G 8 yX11_key cX11_key 5 (some .int) [.ref 1] h ((.inl (some (.int r.1)), r.2)) :=
  Ctr_of hG RX11 rfl (by decide) rfl (fun X _ hdx hX => T_X11_key_0 hX hdx h hf)
theorem dX11_spare_0 : decode cX11_spare 0 = .ok (.iconst 1, 1) := by decide +kernel
theorem dX11_spare_1 : decode cX11_spare 1 = .ok (.aload_n 0, 1) := by decide +kernel
theorem dX11_spare_2 : decode cX11_spare 2 = .ok (.getfield 19, 3) := by decide +kernel
theorem dX11_spare_5 : decode cX11_spare 5 = .ok (.getfield 217, 3) := by decide +kernel
theorem dX11_spare_8 : decode cX11_spare 8 = .ok (.ishl, 1) := by decide +kernel
theorem dX11_spare_9 : decode cX11_spare 9 = .ok (.iconst 1, 1) := by decide +kernel
theorem dX11_spare_10 : decode cX11_spare 10 = .ok (.isub, 1) := by decide +kernel
theorem dX11_spare_11 : decode cX11_spare 11 = .ok (.istore_n 1, 1) := by decide +kernel
theorem dX11_spare_12 : decode cX11_spare 12 = .ok (.iconst 0, 1) := by decide +kernel
theorem dX11_spare_13 : decode cX11_spare 13 = .ok (.istore_n 2, 1) := by decide +kernel
theorem dX11_spare_14 : decode cX11_spare 14 = .ok (.iload_n 2, 1) := by decide +kernel
theorem dX11_spare_15 : decode cX11_spare 15 = .ok (.bipush 7, 2) := by decide +kernel
theorem dX11_spare_17 : decode cX11_spare 17 = .ok (.if_icmp .ge 59, 3) := by decide +kernel
theorem dX11_spare_20 : decode cX11_spare 20 = .ok (.aload_n 0, 1) := by decide +kernel
theorem dX11_spare_21 : decode cX11_spare 21 = .ok (.iload_n 2, 1) := by decide +kernel
theorem dX11_spare_22 : decode cX11_spare 22 = .ok (.invokevirtual 211, 3) := by decide +kernel
theorem dX11_spare_25 : decode cX11_spare 25 = .ok (.istore_n 3, 1) := by decide +kernel
theorem dX11_spare_26 : decode cX11_spare 26 = .ok (.iconst 0, 1) := by decide +kernel
theorem dX11_spare_27 : decode cX11_spare 27 = .ok (.istore 4, 2) := by decide +kernel
theorem dX11_spare_29 : decode cX11_spare 29 = .ok (.iload 4, 2) := by decide +kernel
theorem dX11_spare_31 : decode cX11_spare 31 = .ok (.aload_n 0, 1) := by decide +kernel
theorem dX11_spare_32 : decode cX11_spare 32 = .ok (.getfield 19, 3) := by decide +kernel
theorem dX11_spare_35 : decode cX11_spare 35 = .ok (.getfield 217, 3) := by decide +kernel
theorem dX11_spare_38 : decode cX11_spare 38 = .ok (.if_icmp .ge 32, 3) := by decide +kernel
theorem dX11_spare_41 : decode cX11_spare 41 = .ok (.aload_n 0, 1) := by decide +kernel
theorem dX11_spare_42 : decode cX11_spare 42 = .ok (.iload 4, 2) := by decide +kernel
theorem dX11_spare_44 : decode cX11_spare 44 = .ok (.iload_n 2, 1) := by decide +kernel
theorem dX11_spare_45 : decode cX11_spare 45 = .ok (.invokevirtual 208, 3) := by decide +kernel
theorem dX11_spare_48 : decode cX11_spare 48 = .ok (.iload_n 3, 1) := by decide +kernel
theorem dX11_spare_49 : decode cX11_spare 49 = .ok (.iconst (-1), 1) := by decide +kernel
theorem dX11_spare_50 : decode cX11_spare 50 = .ok (.ixor, 1) := by decide +kernel
theorem dX11_spare_51 : decode cX11_spare 51 = .ok (.iand, 1) := by decide +kernel
theorem dX11_spare_52 : decode cX11_spare 52 = .ok (.ifCond .eq 12, 3) := by decide +kernel
theorem dX11_spare_55 : decode cX11_spare 55 = .ok (.iload_n 1, 1) := by decide +kernel
theorem dX11_spare_56 : decode cX11_spare 56 = .ok (.iconst 1, 1) := by decide +kernel
theorem dX11_spare_57 : decode cX11_spare 57 = .ok (.iload 4, 2) := by decide +kernel
theorem dX11_spare_59 : decode cX11_spare 59 = .ok (.ishl, 1) := by decide +kernel
theorem dX11_spare_60 : decode cX11_spare 60 = .ok (.iconst (-1), 1) := by decide +kernel
theorem dX11_spare_61 : decode cX11_spare 61 = .ok (.ixor, 1) := by decide +kernel
theorem dX11_spare_62 : decode cX11_spare 62 = .ok (.iand, 1) := by decide +kernel
theorem dX11_spare_63 : decode cX11_spare 63 = .ok (.istore_n 1, 1) := by decide +kernel
theorem dX11_spare_64 : decode cX11_spare 64 = .ok (.iinc 4 1, 3) := by decide +kernel
theorem dX11_spare_67 : decode cX11_spare 67 = .ok (.goto (-38), 3) := by decide +kernel
theorem dX11_spare_70 : decode cX11_spare 70 = .ok (.iinc 2 1, 3) := by decide +kernel
theorem dX11_spare_73 : decode cX11_spare 73 = .ok (.goto (-59), 3) := by decide +kernel
theorem dX11_spare_76 : decode cX11_spare 76 = .ok (.iload_n 1, 1) := by decide +kernel
theorem dX11_spare_77 : decode cX11_spare 77 = .ok (.ireturn, 1) := by decide +kernel
set_option maxRecDepth 100000 in
set_option maxHeartbeats 200000 in
theorem T_X11_spare_29_s {X : CX} (hX : Ok X cX11_spare 5 RX11 (some .int)) (hdx : dX X = 8) {r : Int32 × Hp} (x2 : Int32) (x3 : Int32) (q_14 : Int32 → Int32 → Hp → Option (Int32 × Hp)) (hq_14 : ∀ (x1 : Int32) (x2 : Int32) (h : Hp), q_14 x1 x2 h = some r → J X ((.inl (some (.int r.1)), r.2)) 14 [(0, .ref 1), (1, .int x1), (2, .int x2)] [] h) (q_29 : Int32 → Int32 → Hp → Option (Int32 × Hp)) (hq_29 : ∀ (x1 : Int32) (x4 : Int32) (h : Hp), q_29 x1 x4 h = some r → J X ((.inl (some (.int r.1)), r.2)) 29 [(0, .ref 1), (1, .int x1), (2, .int x2), (3, .int x3), (4, .int x4)] [] h) (x1 : Int32) (x4 : Int32) (h : Hp) (hf : S_X11_spare_29 q_14 x2 x3 q_29 x1 x4 h = some r) : J X ((.inl (some (.int r.1)), r.2)) 29 [(0, .ref 1), (1, .int x1), (2, .int x2), (3, .int x3), (4, .int x4)] [] h := by
  unfold S_X11_spare_29 at hf
  refine J_iload hX 4 dX11_spare_29 rfl ?_
  refine J_aload_n hX 0 dX11_spare_31 rfl rfl ?_
  refine J_getR hX 100 dX11_spare_32 fl_X11_19 ob_1 rfl rfl ?_
  refine J_getI hX dX11_spare_35 fl_X11_217 (city_ob isc_100) rfl ?_
  rcases ifE hf with ⟨c_1, hf⟩ | ⟨c_1, hf⟩
  · refine J_icmp_geF hX 70 dX11_spare_38 rfl c_1 ?_
    refine J_aload_n hX 0 dX11_spare_41 rfl rfl ?_
    refine J_iload hX 4 dX11_spare_42 rfl ?_
    refine J_iload_n hX 2 dX11_spare_44 rfl rfl ?_
    obtain ⟨r_2, e_3, hf⟩ := bdE hf
    refine V_1 hX [.int x4, .int x2] dX11_spare_45 cw_X11_208 ob_1 rfl (C_X11_fallsWithout (okG hX) e_3) (ltD hdx rfl) rfl rfl rfl rfl ?_
    refine J_iload_n hX 3 dX11_spare_48 rfl rfl ?_
    refine J_iconst hX (-1) dX11_spare_49 rfl ?_
    refine J_ixor hX dX11_spare_50 ?_
    refine J_iand hX dX11_spare_51 ?_
    rcases ifE hf with ⟨c_4, hf⟩ | ⟨c_4, hf⟩
    · refine J_if_eqT hX 64 dX11_spare_52 rfl c_4 ?_
      refine J_iinc hX (x4 + 1) 4 [(4, .int (x4 + 1)), (0, .ref 1), (1, .int x1), (2, .int x2), (3, .int x3)] dX11_spare_64 rfl rfl rfl rfl ?_
      refine J_goto hX 29 dX11_spare_67 rfl ?_
      refine J_sub [1, 2, 3, 4, 0] [(0, .ref 1), (1, .int x1), (2, .int x2), (3, .int x3), (4, .int (x4 + 1))] rfl ?_
      exact hq_29 x1 (x4 + 1) r_2.2 hf
    · refine J_if_eqF hX 64 dX11_spare_52 rfl c_4 ?_
      refine J_iload_n hX 1 dX11_spare_55 rfl rfl ?_
      refine J_iconst hX 1 dX11_spare_56 rfl ?_
      refine J_iload hX 4 dX11_spare_57 rfl ?_
      refine J_ishl hX dX11_spare_59 ?_
      refine J_iconst hX (-1) dX11_spare_60 rfl ?_
      refine J_ixor hX dX11_spare_61 ?_
      refine J_iand hX dX11_spare_62 ?_
      obtain ⟨x1_5, e_6, hf⟩ := bndE hf
      refine J_nm e_6 ?_
      refine J_istore_n hX [(1, .int x1_5), (0, .ref 1), (2, .int x2), (3, .int x3), (4, .int x4)] dX11_spare_63 rfl rfl rfl ?_
      refine J_iinc hX (x4 + 1) 4 [(4, .int (x4 + 1)), (1, .int x1_5), (0, .ref 1), (2, .int x2), (3, .int x3)] dX11_spare_64 rfl rfl rfl rfl ?_
      refine J_goto hX 29 dX11_spare_67 rfl ?_
      refine J_sub [2, 1, 3, 4, 0] [(0, .ref 1), (1, .int x1_5), (2, .int x2), (3, .int x3), (4, .int (x4 + 1))] rfl ?_
      exact hq_29 x1_5 (x4 + 1) r_2.2 hf
  · refine J_icmp_geT hX 70 dX11_spare_38 rfl c_1 ?_
    refine J_iinc hX (x2 + 1) 2 [(2, .int (x2 + 1)), (0, .ref 1), (1, .int x1), (3, .int x3), (4, .int x4)] dX11_spare_70 rfl rfl rfl rfl ?_
    refine J_goto hX 14 dX11_spare_73 rfl ?_
    refine J_sub [1, 2, 0] [(0, .ref 1), (1, .int x1), (2, .int (x2 + 1))] rfl ?_
    exact hq_14 x1 (x2 + 1) h hf
set_option maxRecDepth 100000 in
set_option maxHeartbeats 200000 in
theorem T_X11_spare_29 {X : CX} (hX : Ok X cX11_spare 5 RX11 (some .int)) (hdx : dX X = 8) {r : Int32 × Hp} (x2 : Int32) (x3 : Int32) (q_14 : Int32 → Int32 → Hp → Option (Int32 × Hp)) (hq_14 : ∀ (x1 : Int32) (x2 : Int32) (h : Hp), q_14 x1 x2 h = some r → J X ((.inl (some (.int r.1)), r.2)) 14 [(0, .ref 1), (1, .int x1), (2, .int x2)] [] h) : ∀ (n : Nat) (x1 : Int32) (x4 : Int32) (h : Hp), F_X11_spare_29 q_14 x2 x3 n x1 x4 h = some r → J X ((.inl (some (.int r.1)), r.2)) 29 [(0, .ref 1), (1, .int x1), (2, .int x2), (3, .int x3), (4, .int x4)] [] h := by
  intro n
  induction n with
  | zero => intro x1 x4 h hf; exact nomatch hf
  | succ n ih => intro x1 x4 h hf; exact T_X11_spare_29_s hX hdx x2 x3 q_14 hq_14 _ (fun x1 x4 h hf => ih x1 x4 h hf) x1 x4 h hf
set_option maxRecDepth 100000 in
set_option maxHeartbeats 200000 in
theorem T_X11_spare_14_s {X : CX} (hX : Ok X cX11_spare 5 RX11 (some .int)) (hdx : dX X = 8) {r : Int32 × Hp} (q_14 : Int32 → Int32 → Hp → Option (Int32 × Hp)) (hq_14 : ∀ (x1 : Int32) (x2 : Int32) (h : Hp), q_14 x1 x2 h = some r → J X ((.inl (some (.int r.1)), r.2)) 14 [(0, .ref 1), (1, .int x1), (2, .int x2)] [] h) (x1 : Int32) (x2 : Int32) (h : Hp) (hf : S_X11_spare_14 q_14 x1 x2 h = some r) : J X ((.inl (some (.int r.1)), r.2)) 14 [(0, .ref 1), (1, .int x1), (2, .int x2)] [] h := by
  unfold S_X11_spare_14 at hf
  refine J_iload_n hX 2 dX11_spare_14 rfl rfl ?_
  refine J_bipush hX 7 dX11_spare_15 rfl ?_
  rcases ifE hf with ⟨c_1, hf⟩ | ⟨c_1, hf⟩
  · refine J_icmp_geF hX 76 dX11_spare_17 rfl c_1 ?_
    refine J_aload_n hX 0 dX11_spare_20 rfl rfl ?_
    refine J_iload_n hX 2 dX11_spare_21 rfl rfl ?_
    obtain ⟨r_2, e_3, hf⟩ := bdE hf
    refine V_1 hX [.int x2] dX11_spare_22 cw_X11_211 ob_1 rfl (C_X11_fallsNow (okG hX) e_3) (ltD hdx rfl) rfl rfl rfl rfl ?_
    refine J_istore_n hX [(3, .int r_2.1), (0, .ref 1), (1, .int x1), (2, .int x2)] dX11_spare_25 rfl rfl rfl ?_
    refine J_iconst hX 0 dX11_spare_26 rfl ?_
    refine J_istore hX [(4, .int 0), (3, .int r_2.1), (0, .ref 1), (1, .int x1), (2, .int x2)] dX11_spare_27 rfl rfl ?_
    refine J_sub [2, 3, 4, 1, 0] [(0, .ref 1), (1, .int x1), (2, .int x2), (3, .int r_2.1), (4, .int 0)] rfl ?_
    exact T_X11_spare_29 hX hdx x2 r_2.1 q_14 hq_14 FU x1 0 r_2.2 hf
  · refine J_icmp_geT hX 76 dX11_spare_17 rfl c_1 ?_
    refine J_iload_n hX 1 dX11_spare_76 rfl rfl ?_
    exact E_Ii hX dX11_spare_77 hf
set_option maxRecDepth 100000 in
set_option maxHeartbeats 200000 in
theorem T_X11_spare_14 {X : CX} (hX : Ok X cX11_spare 5 RX11 (some .int)) (hdx : dX X = 8) {r : Int32 × Hp} : ∀ (n : Nat) (x1 : Int32) (x2 : Int32) (h : Hp), F_X11_spare_14 n x1 x2 h = some r → J X ((.inl (some (.int r.1)), r.2)) 14 [(0, .ref 1), (1, .int x1), (2, .int x2)] [] h := by
  intro n
  induction n with
  | zero => intro x1 x2 h hf; exact nomatch hf
  | succ n ih => intro x1 x2 h hf; exact T_X11_spare_14_s hX hdx _ (fun x1 x2 h hf => ih x1 x2 h hf) x1 x2 h hf
set_option maxRecDepth 100000 in
set_option maxHeartbeats 200000 in
theorem T_X11_spare_0 {X : CX} (hX : Ok X cX11_spare 5 RX11 (some .int)) (hdx : dX X = 8) {r : Int32 × Hp} (h : Hp) (hf : f_X11_spare h = some r) : J X ((.inl (some (.int r.1)), r.2)) 0 [(0, .ref 1)] [] h := by
  unfold f_X11_spare at hf
  refine J_iconst hX 1 dX11_spare_0 rfl ?_
  refine J_aload_n hX 0 dX11_spare_1 rfl rfl ?_
  refine J_getR hX 100 dX11_spare_2 fl_X11_19 ob_1 rfl rfl ?_
  refine J_getI hX dX11_spare_5 fl_X11_217 (city_ob isc_100) rfl ?_
  refine J_ishl hX dX11_spare_8 ?_
  refine J_iconst hX 1 dX11_spare_9 rfl ?_
  refine J_isub hX dX11_spare_10 ?_
  obtain ⟨x1_1, e_2, hf⟩ := bndE hf
  refine J_nm e_2 ?_
  refine J_istore_n hX [(1, .int x1_1), (0, .ref 1)] dX11_spare_11 rfl rfl rfl ?_
  refine J_iconst hX 0 dX11_spare_12 rfl ?_
  refine J_istore_n hX [(2, .int 0), (1, .int x1_1), (0, .ref 1)] dX11_spare_13 rfl rfl rfl ?_
  refine J_sub [2, 1, 0] [(0, .ref 1), (1, .int x1_1), (2, .int 0)] rfl ?_
  exact T_X11_spare_14 hX hdx FU x1_1 0 h hf
set_option maxRecDepth 100000 in
set_option maxHeartbeats 200000 in
theorem C_X11_spare {G : GX} (hG : GOk G) {h : Hp} {r : Int32 × Hp} (hf : f_X11_spare h = some r) : Ctr G 8 yX11_spare cX11_spare 5 (some .int) [.ref 1] h ((.inl (some (.int r.1)), r.2)) :=
  Ctr_of hG RX11 rfl (by decide) rfl (fun X _ hdx hX => T_X11_spare_0 hX hdx h hf)
theorem dX11_weakest_0 : decode cX11_weakest 0 = .ok (.iconst 0, 1) := by decide +kernel
theorem dX11_weakest_1 : decode cX11_weakest 1 = .ok (.istore_n 1, 1) := by decide +kernel
theorem dX11_weakest_2 : decode cX11_weakest 2 = .ok (.iconst 0, 1) := by decide +kernel
theorem dX11_weakest_3 : decode cX11_weakest 3 = .ok (.istore_n 2, 1) := by decide +kernel
theorem dX11_weakest_4 : decode cX11_weakest 4 = .ok (.iconst 0, 1) := by decide +kernel
theorem dX11_weakest_5 : decode cX11_weakest 5 = .ok (.istore_n 3, 1) := by decide +kernel
theorem dX11_weakest_6 : decode cX11_weakest 6 = .ok (.iload_n 3, 1) := by decide +kernel
theorem dX11_weakest_7 : decode cX11_weakest 7 = .ok (.bipush 7, 2) := by decide +kernel
theorem dX11_weakest_9 : decode cX11_weakest 9 = .ok (.if_icmp .ge 30, 3) := by decide +kernel
theorem dX11_weakest_12 : decode cX11_weakest 12 = .ok (.aload_n 0, 1) := by decide +kernel
theorem dX11_weakest_13 : decode cX11_weakest 13 = .ok (.iload_n 3, 1) := by decide +kernel
theorem dX11_weakest_14 : decode cX11_weakest 14 = .ok (.invokevirtual 211, 3) := by decide +kernel
theorem dX11_weakest_17 : decode cX11_weakest 17 = .ok (.invokestatic 248, 3) := by decide +kernel
theorem dX11_weakest_20 : decode cX11_weakest 20 = .ok (.istore 4, 2) := by decide +kernel
theorem dX11_weakest_22 : decode cX11_weakest 22 = .ok (.iload 4, 2) := by decide +kernel
theorem dX11_weakest_24 : decode cX11_weakest 24 = .ok (.iload_n 2, 1) := by decide +kernel
theorem dX11_weakest_25 : decode cX11_weakest 25 = .ok (.if_icmp .le 8, 3) := by decide +kernel
theorem dX11_weakest_28 : decode cX11_weakest 28 = .ok (.iload 4, 2) := by decide +kernel
theorem dX11_weakest_30 : decode cX11_weakest 30 = .ok (.istore_n 2, 1) := by decide +kernel
theorem dX11_weakest_31 : decode cX11_weakest 31 = .ok (.iload_n 3, 1) := by decide +kernel
theorem dX11_weakest_32 : decode cX11_weakest 32 = .ok (.istore_n 1, 1) := by decide +kernel
theorem dX11_weakest_33 : decode cX11_weakest 33 = .ok (.iinc 3 1, 3) := by decide +kernel
theorem dX11_weakest_36 : decode cX11_weakest 36 = .ok (.goto (-30), 3) := by decide +kernel
theorem dX11_weakest_39 : decode cX11_weakest 39 = .ok (.iload_n 1, 1) := by decide +kernel
theorem dX11_weakest_40 : decode cX11_weakest 40 = .ok (.ireturn, 1) := by decide +kernel
set_option maxRecDepth 100000 in
set_option maxHeartbeats 200000 in
theorem T_X11_weakest_6_s {X : CX} (hX : Ok X cX11_weakest 5 RX11 (some .int)) (hdx : dX X = 8) {r : Int32 × Hp} (q_6 : Int32 → Int32 → Int32 → Hp → Option (Int32 × Hp)) (hq_6 : ∀ (x1 : Int32) (x2 : Int32) (x3 : Int32) (h : Hp), q_6 x1 x2 x3 h = some r → J X ((.inl (some (.int r.1)), r.2)) 6 [(0, .ref 1), (1, .int x1), (2, .int x2), (3, .int x3)] [] h) (x1 : Int32) (x2 : Int32) (x3 : Int32) (h : Hp) (hf : S_X11_weakest_6 q_6 x1 x2 x3 h = some r) : J X ((.inl (some (.int r.1)), r.2)) 6 [(0, .ref 1), (1, .int x1), (2, .int x2), (3, .int x3)] [] h := by
  unfold S_X11_weakest_6 at hf
  refine J_iload_n hX 3 dX11_weakest_6 rfl rfl ?_
  refine J_bipush hX 7 dX11_weakest_7 rfl ?_
  rcases ifE hf with ⟨c_1, hf⟩ | ⟨c_1, hf⟩
  · refine J_icmp_geF hX 39 dX11_weakest_9 rfl c_1 ?_
    refine J_aload_n hX 0 dX11_weakest_12 rfl rfl ?_
    refine J_iload_n hX 3 dX11_weakest_13 rfl rfl ?_
    obtain ⟨r_2, e_3, hf⟩ := bdE hf
    refine V_1 hX [.int x3] dX11_weakest_14 cw_X11_211 ob_1 rfl (C_X11_fallsNow (okG hX) e_3) (ltD hdx rfl) rfl rfl rfl rfl ?_
    refine S_1 hX [.int r_2.1] dX11_weakest_17 cw_X11_248 (C_J6_bitCount_0f7a4 (okG hX) rfl) (ltD hdx rfl) rfl rfl rfl rfl ?_
    obtain ⟨x4_4, e_5, hf⟩ := bndE hf
    refine J_nm e_5 ?_
    refine J_istore hX [(4, .int x4_4), (0, .ref 1), (1, .int x1), (2, .int x2), (3, .int x3)] dX11_weakest_20 rfl rfl ?_
    refine J_iload hX 0 dX11_weakest_22 rfl ?_
    refine J_iload_n hX 3 dX11_weakest_24 rfl rfl ?_
    rcases ifE hf with ⟨c_6, hf⟩ | ⟨c_6, hf⟩
    · refine J_icmp_leF hX 33 dX11_weakest_25 rfl c_6 ?_
      refine J_iload hX 0 dX11_weakest_28 rfl ?_
      refine J_istore_n hX [(2, .int x4_4), (4, .int x4_4), (0, .ref 1), (1, .int x1), (3, .int x3)] dX11_weakest_30 rfl rfl rfl ?_
      refine J_iload_n hX 4 dX11_weakest_31 rfl rfl ?_
      refine J_istore_n hX [(1, .int x3), (2, .int x4_4), (4, .int x4_4), (0, .ref 1), (3, .int x3)] dX11_weakest_32 rfl rfl rfl ?_
      refine J_iinc hX (x3 + 1) 4 [(3, .int (x3 + 1)), (1, .int x3), (2, .int x4_4), (4, .int x4_4), (0, .ref 1)] dX11_weakest_33 rfl rfl rfl rfl ?_
      refine J_goto hX 6 dX11_weakest_36 rfl ?_
      refine J_sub [4, 1, 2, 0] [(0, .ref 1), (1, .int x3), (2, .int x4_4), (3, .int (x3 + 1))] rfl ?_
      exact hq_6 x3 x4_4 (x3 + 1) r_2.2 hf
    · refine J_icmp_leT hX 33 dX11_weakest_25 rfl c_6 ?_
      refine J_iinc hX (x3 + 1) 4 [(3, .int (x3 + 1)), (4, .int x4_4), (0, .ref 1), (1, .int x1), (2, .int x2)] dX11_weakest_33 rfl rfl rfl rfl ?_
      refine J_goto hX 6 dX11_weakest_36 rfl ?_
      refine J_sub [2, 3, 4, 0] [(0, .ref 1), (1, .int x1), (2, .int x2), (3, .int (x3 + 1))] rfl ?_
      exact hq_6 x1 x2 (x3 + 1) r_2.2 hf
  · refine J_icmp_geT hX 39 dX11_weakest_9 rfl c_1 ?_
    refine J_iload_n hX 1 dX11_weakest_39 rfl rfl ?_
    exact E_Ii hX dX11_weakest_40 hf
set_option maxRecDepth 100000 in
set_option maxHeartbeats 200000 in
theorem T_X11_weakest_6 {X : CX} (hX : Ok X cX11_weakest 5 RX11 (some .int)) (hdx : dX X = 8) {r : Int32 × Hp} : ∀ (n : Nat) (x1 : Int32) (x2 : Int32) (x3 : Int32) (h : Hp), F_X11_weakest_6 n x1 x2 x3 h = some r → J X ((.inl (some (.int r.1)), r.2)) 6 [(0, .ref 1), (1, .int x1), (2, .int x2), (3, .int x3)] [] h := by
  intro n
  induction n with
  | zero => intro x1 x2 x3 h hf; exact nomatch hf
  | succ n ih => intro x1 x2 x3 h hf; exact T_X11_weakest_6_s hX hdx _ (fun x1 x2 x3 h hf => ih x1 x2 x3 h hf) x1 x2 x3 h hf
set_option maxRecDepth 100000 in
set_option maxHeartbeats 200000 in
theorem T_X11_weakest_0 {X : CX} (hX : Ok X cX11_weakest 5 RX11 (some .int)) (hdx : dX X = 8) {r : Int32 × Hp} (h : Hp) (hf : f_X11_weakest h = some r) : J X ((.inl (some (.int r.1)), r.2)) 0 [(0, .ref 1)] [] h := by
  unfold f_X11_weakest at hf
  refine J_iconst hX 0 dX11_weakest_0 rfl ?_
  refine J_istore_n hX [(1, .int 0), (0, .ref 1)] dX11_weakest_1 rfl rfl rfl ?_
  refine J_iconst hX 0 dX11_weakest_2 rfl ?_
  refine J_istore_n hX [(2, .int 0), (1, .int 0), (0, .ref 1)] dX11_weakest_3 rfl rfl rfl ?_
  refine J_iconst hX 0 dX11_weakest_4 rfl ?_
  refine J_istore_n hX [(3, .int 0), (2, .int 0), (1, .int 0), (0, .ref 1)] dX11_weakest_5 rfl rfl rfl ?_
  refine J_sub [3, 2, 1, 0] [(0, .ref 1), (1, .int 0), (2, .int 0), (3, .int 0)] rfl ?_
  exact T_X11_weakest_6 hX hdx FU 0 0 0 h hf
set_option maxRecDepth 100000 in
set_option maxHeartbeats 200000 in
theorem C_X11_weakest {G : GX} (hG : GOk G) {h : Hp} {r : Int32 × Hp} (hf : f_X11_weakest h = some r) : Ctr G 8 yX11_weakest cX11_weakest 5 (some .int) [.ref 1] h ((.inl (some (.int r.1)), r.2)) :=
  Ctr_of hG RX11 rfl (by decide) rfl (fun X _ hdx hX => T_X11_weakest_0 hX hdx h hf)
theorem dX11_props_0 : decode cX11_props 0 = .ok (.iload_n 1, 1) := by decide +kernel
theorem dX11_props_1 : decode cX11_props 1 = .ok (.invokestatic 283, 3) := by decide +kernel
theorem dX11_props_4 : decode cX11_props 4 = .ok (.aload_n 0, 1) := by decide +kernel
theorem dX11_props_5 : decode cX11_props 5 = .ok (.getfield 39, 3) := by decide +kernel
theorem dX11_props_8 : decode cX11_props 8 = .ok (.getfield 182, 3) := by decide +kernel
theorem dX11_props_11 : decode cX11_props 11 = .ok (.astore_n 2, 1) := by decide +kernel
theorem dX11_props_12 : decode cX11_props 12 = .ok (.aload_n 2, 1) := by decide +kernel
theorem dX11_props_13 : decode cX11_props 13 = .ok (.aload_n 0, 1) := by decide +kernel
theorem dX11_props_14 : decode cX11_props 14 = .ok (.getfield 19, 3) := by decide +kernel
theorem dX11_props_17 : decode cX11_props 17 = .ok (.aload_n 0, 1) := by decide +kernel
theorem dX11_props_18 : decode cX11_props 18 = .ok (.getfield 29, 3) := by decide +kernel
theorem dX11_props_21 : decode cX11_props 21 = .ok (.iload_n 1, 1) := by decide +kernel
theorem dX11_props_22 : decode cX11_props 22 = .ok (.invokevirtual 303, 3) := by decide +kernel
theorem dX11_props_25 : decode cX11_props 25 = .ok (.aload_n 2, 1) := by decide +kernel
theorem dX11_props_26 : decode cX11_props 26 = .ok (.invokevirtual 307, 3) := by decide +kernel
theorem dX11_props_29 : decode cX11_props 29 = .ok (.istore_n 3, 1) := by decide +kernel
theorem dX11_props_30 : decode cX11_props 30 = .ok (.iconst 0, 1) := by decide +kernel
theorem dX11_props_31 : decode cX11_props 31 = .ok (.istore 4, 2) := by decide +kernel
theorem dX11_props_33 : decode cX11_props 33 = .ok (.iload 4, 2) := by decide +kernel
theorem dX11_props_35 : decode cX11_props 35 = .ok (.bipush 8, 2) := by decide +kernel
theorem dX11_props_37 : decode cX11_props 37 = .ok (.if_icmp .ge 38, 3) := by decide +kernel
theorem dX11_props_40 : decode cX11_props 40 = .ok (.iload_n 3, 1) := by decide +kernel
theorem dX11_props_41 : decode cX11_props 41 = .ok (.iload 4, 2) := by decide +kernel
theorem dX11_props_43 : decode cX11_props 43 = .ok (.ishr, 1) := by decide +kernel
theorem dX11_props_44 : decode cX11_props 44 = .ok (.iconst 1, 1) := by decide +kernel
theorem dX11_props_45 : decode cX11_props 45 = .ok (.iand, 1) := by decide +kernel
theorem dX11_props_46 : decode cX11_props 46 = .ok (.iconst 1, 1) := by decide +kernel
theorem dX11_props_47 : decode cX11_props 47 = .ok (.if_icmp .ne 22, 3) := by decide +kernel
theorem dX11_props_50 : decode cX11_props 50 = .ok (.aload_n 2, 1) := by decide +kernel
theorem dX11_props_51 : decode cX11_props 51 = .ok (.getfield 166, 3) := by decide +kernel
theorem dX11_props_54 : decode cX11_props 54 = .ok (.iload 4, 2) := by decide +kernel
theorem dX11_props_56 : decode cX11_props 56 = .ok (.iaload, 1) := by decide +kernel
theorem dX11_props_57 : decode cX11_props 57 = .ok (.aload_n 0, 1) := by decide +kernel
theorem dX11_props_58 : decode cX11_props 58 = .ok (.getfield 19, 3) := by decide +kernel
theorem dX11_props_61 : decode cX11_props 61 = .ok (.getfield 226, 3) := by decide +kernel
theorem dX11_props_64 : decode cX11_props 64 = .ok (.if_icmp .le 5, 3) := by decide +kernel
theorem dX11_props_67 : decode cX11_props 67 = .ok (.iconst (-1), 1) := by decide +kernel
theorem dX11_props_68 : decode cX11_props 68 = .ok (.ireturn, 1) := by decide +kernel
theorem dX11_props_69 : decode cX11_props 69 = .ok (.iinc 4 1, 3) := by decide +kernel
theorem dX11_props_72 : decode cX11_props 72 = .ok (.goto (-39), 3) := by decide +kernel
theorem dX11_props_75 : decode cX11_props 75 = .ok (.iload_n 3, 1) := by decide +kernel
theorem dX11_props_76 : decode cX11_props 76 = .ok (.ireturn, 1) := by decide +kernel
set_option maxRecDepth 100000 in
set_option maxHeartbeats 200000 in
theorem T_X11_props_33_s {X : CX} (hX : Ok X cX11_props 5 RX11 (some .int)) (hdx : dX X = 11) {r : Except String Int32 × Hp} (x3 : Int32) (q_33 : Int32 → Hp → Option (Except String Int32 × Hp)) (hq_33 : ∀ (x4 : Int32) (h : Hp), q_33 x4 h = some r → J X (oX tvI r) 33 [(0, .ref 1), (2, .ref 5), (3, .int x3), (4, .int x4)] [] h) (x4 : Int32) (h : Hp) (hf : S_X11_props_33 x3 q_33 x4 h = some r) : J X (oX tvI r) 33 [(0, .ref 1), (2, .ref 5), (3, .int x3), (4, .int x4)] [] h := by
  unfold S_X11_props_33 at hf
  refine J_iload hX 3 dX11_props_33 rfl ?_
  refine J_bipush hX 8 dX11_props_35 rfl ?_
  rcases ifE hf with ⟨c_1, hf⟩ | ⟨c_1, hf⟩
  · refine J_icmp_geF hX 75 dX11_props_37 rfl c_1 ?_
    refine J_iload_n hX 2 dX11_props_40 rfl rfl ?_
    refine J_iload hX 3 dX11_props_41 rfl ?_
    refine J_ishr hX dX11_props_43 ?_
    refine J_iconst hX 1 dX11_props_44 rfl ?_
    refine J_iand hX dX11_props_45 ?_
    refine J_iconst hX 1 dX11_props_46 rfl ?_
    rcases ifE hf with ⟨c_2, hf⟩ | ⟨c_2, hf⟩
    · refine J_icmp_neF hX 69 dX11_props_47 rfl c_2 ?_
      refine J_aload_n hX 1 dX11_props_50 rfl rfl ?_
      refine J_getR hX 9 dX11_props_51 fl_X11_166 ob_5 rfl rfl ?_
      refine J_iload hX 3 dX11_props_54 rfl ?_
      obtain ⟨g_3, hf⟩ := gdE hf
      refine J_ald hX x4.toNatClampNeg dX11_props_56 ar_9 (Or.inl ⟨rfl, rfl⟩) g_3 rfl ?_
      refine J_aload_n hX 0 dX11_props_57 rfl rfl ?_
      refine J_getR hX 100 dX11_props_58 fl_X11_19 ob_1 rfl rfl ?_
      refine J_getI hX dX11_props_61 fl_X11_226 (city_ob isc_100) rfl ?_
      rcases ifE hf with ⟨c_4, hf⟩ | ⟨c_4, hf⟩
      · refine J_icmp_leF hX 69 dX11_props_64 rfl c_4 ?_
        refine J_iconst hX (-1) dX11_props_67 rfl ?_
        exact E_Ix hX dX11_props_68 hf
      · refine J_icmp_leT hX 69 dX11_props_64 rfl c_4 ?_
        refine J_iinc hX (x4 + 1) 3 [(4, .int (x4 + 1)), (0, .ref 1), (2, .ref 5), (3, .int x3)] dX11_props_69 rfl rfl rfl rfl ?_
        refine J_goto hX 33 dX11_props_72 rfl ?_
        refine J_sub [1, 2, 3, 0] [(0, .ref 1), (2, .ref 5), (3, .int x3), (4, .int (x4 + 1))] rfl ?_
        exact hq_33 (x4 + 1) h hf
    · refine J_icmp_neT hX 69 dX11_props_47 rfl c_2 ?_
      refine J_iinc hX (x4 + 1) 3 [(4, .int (x4 + 1)), (0, .ref 1), (2, .ref 5), (3, .int x3)] dX11_props_69 rfl rfl rfl rfl ?_
      refine J_goto hX 33 dX11_props_72 rfl ?_
      refine J_sub [1, 2, 3, 0] [(0, .ref 1), (2, .ref 5), (3, .int x3), (4, .int (x4 + 1))] rfl ?_
      exact hq_33 (x4 + 1) h hf
  · refine J_icmp_geT hX 75 dX11_props_37 rfl c_1 ?_
    refine J_iload_n hX 2 dX11_props_75 rfl rfl ?_
    exact E_Ix hX dX11_props_76 hf
set_option maxRecDepth 100000 in
set_option maxHeartbeats 200000 in
theorem T_X11_props_33 {X : CX} (hX : Ok X cX11_props 5 RX11 (some .int)) (hdx : dX X = 11) {r : Except String Int32 × Hp} (x3 : Int32) : ∀ (n : Nat) (x4 : Int32) (h : Hp), F_X11_props_33 x3 n x4 h = some r → J X (oX tvI r) 33 [(0, .ref 1), (2, .ref 5), (3, .int x3), (4, .int x4)] [] h := by
  intro n
  induction n with
  | zero => intro x4 h hf; exact nomatch hf
  | succ n ih => intro x4 h hf; exact T_X11_props_33_s hX hdx x3 _ (fun x4 h hf => ih x4 h hf) x4 h hf
set_option maxRecDepth 100000 in
set_option maxHeartbeats 200000 in
theorem T_X11_props_0 {X : CX} (hX : Ok X cX11_props 5 RX11 (some .int)) (hdx : dX X = 11) {r : Except String Int32 × Hp} (x1 : Int32) (h : Hp) (hf : f_X11_props x1 h = some r) : J X (oX tvI r) 0 [(0, .ref 1), (1, .int x1)] [] h := by
  unfold f_X11_props at hf
  refine J_iload_n hX 1 dX11_props_0 rfl rfl ?_
  obtain ⟨r_1, e_2, hf⟩ := bdE hf
  rcases exE hf with ⟨v_3, h_4, z_6, hg⟩ | ⟨E_5, h_4, z_6, z_6r⟩
  all_goals clear hf
  rotate_left
  · subst z_6
    exact S_kx hX [.int x1] dX11_props_1 cw_X11_283 (C_X11_checkEvening (okG hX) e_2) (ltD hdx rfl) rfl rfl rfl rfl z_6r
  subst z_6
  have hf := hg
  clear hg
  refine S_k0 hX [.int x1] dX11_props_1 cw_X11_283 (C_X11_checkEvening (okG hX) e_2) (ltD hdx rfl) rfl rfl rfl rfl rfl ?_
  refine J_aload_n hX 0 dX11_props_4 rfl rfl ?_
  refine J_getR hX 4 dX11_props_5 fl_X11_39 ob_1 rfl rfl ?_
  refine J_getR hX 5 dX11_props_8 fl_X11_182 ob_4 rfl rfl ?_
  refine J_astore_n hX [(2, .ref 5), (0, .ref 1), (1, .int x1)] dX11_props_11 rfl rfl rfl ?_
  refine J_aload_n hX 0 dX11_props_12 rfl rfl ?_
  refine J_aload_n hX 1 dX11_props_13 rfl rfl ?_
  refine J_getR hX 100 dX11_props_14 fl_X11_19 ob_1 rfl rfl ?_
  refine J_aload_n hX 1 dX11_props_17 rfl rfl ?_
  refine J_getR hX 500 dX11_props_18 fl_X11_29 ob_1 rfl rfl ?_
  refine J_iload_n hX 2 dX11_props_21 rfl rfl ?_
  obtain ⟨r_7, e_8, hf⟩ := bdE hf
  refine V_0 hX [.ref 100, .ref 500, .int x1] dX11_props_22 cw_X11_303 ob_5 rfl (C_X9_measure (okG hX) isc_100 isl_500 e_8) (ltD hdx rfl) rfl rfl rfl rfl ?_
  refine J_aload_n hX 0 dX11_props_25 rfl rfl ?_
  obtain ⟨r_9, e_10, hf⟩ := bdE hf
  refine V_1 hX [] dX11_props_26 cw_X11_307 ob_5 rfl (C_X9_saggingSet (okG hX) e_10) (ltD hdx rfl) rfl rfl rfl rfl ?_
  refine J_istore_n hX [(3, .int r_9), (2, .ref 5), (0, .ref 1), (1, .int x1)] dX11_props_29 rfl rfl rfl ?_
  refine J_iconst hX 0 dX11_props_30 rfl ?_
  refine J_istore hX [(4, .int 0), (3, .int r_9), (2, .ref 5), (0, .ref 1), (1, .int x1)] dX11_props_31 rfl rfl ?_
  refine J_sub [3, 2, 1, 0] [(0, .ref 1), (2, .ref 5), (3, .int r_9), (4, .int 0)] rfl ?_
  exact T_X11_props_33 hX hdx r_9 FU 0 r_7 hf
set_option maxRecDepth 100000 in
set_option maxHeartbeats 200000 in
theorem C_X11_props {G : GX} (hG : GOk G) {x1 : Int32} {h : Hp} {r : Except String Int32 × Hp} (hf : f_X11_props x1 h = some r) : Ctr G 11 yX11_props cX11_props 5 (some .int) [.ref 1, .int x1] h (oX tvI r) :=
  Ctr_of hG RX11 rfl (by decide) rfl (fun X _ hdx hX => T_X11_props_0 hX hdx x1 h hf)
theorem dX11_toldHouses_0 : decode cX11_toldHouses 0 = .ok (.aload_n 0, 1) := by decide +kernel
theorem dX11_toldHouses_1 : decode cX11_toldHouses 1 = .ok (.getfield 10, 3) := by decide +kernel
theorem dX11_toldHouses_4 : decode cX11_toldHouses 4 = .ok (.getfield 74, 3) := by decide +kernel
theorem dX11_toldHouses_7 : decode cX11_toldHouses 7 = .ok (.istore_n 1, 1) := by decide +kernel
theorem dX11_toldHouses_8 : decode cX11_toldHouses 8 = .ok (.aload_n 0, 1) := by decide +kernel
theorem dX11_toldHouses_9 : decode cX11_toldHouses 9 = .ok (.getfield 10, 3) := by decide +kernel
theorem dX11_toldHouses_12 : decode cX11_toldHouses 12 = .ok (.iconst 0, 1) := by decide +kernel
theorem dX11_toldHouses_13 : decode cX11_toldHouses 13 = .ok (.putfield 74, 3) := by decide +kernel
theorem dX11_toldHouses_16 : decode cX11_toldHouses 16 = .ok (.iconst 0, 1) := by decide +kernel
theorem dX11_toldHouses_17 : decode cX11_toldHouses 17 = .ok (.istore_n 2, 1) := by decide +kernel
theorem dX11_toldHouses_18 : decode cX11_toldHouses 18 = .ok (.iload_n 1, 1) := by decide +kernel
theorem dX11_toldHouses_19 : decode cX11_toldHouses 19 = .ok (.iconst 5, 1) := by decide +kernel
theorem dX11_toldHouses_20 : decode cX11_toldHouses 20 = .ok (.if_icmp .gt 7, 3) := by decide +kernel
theorem dX11_toldHouses_23 : decode cX11_toldHouses 23 = .ok (.iconst 1, 1) := by decide +kernel
theorem dX11_toldHouses_24 : decode cX11_toldHouses 24 = .ok (.goto 4, 3) := by decide +kernel
theorem dX11_toldHouses_27 : decode cX11_toldHouses 27 = .ok (.iconst 0, 1) := by decide +kernel
theorem dX11_toldHouses_28 : decode cX11_toldHouses 28 = .ok (.istore_n 3, 1) := by decide +kernel
theorem dX11_toldHouses_29 : decode cX11_toldHouses 29 = .ok (.iconst 0, 1) := by decide +kernel
theorem dX11_toldHouses_30 : decode cX11_toldHouses 30 = .ok (.istore 4, 2) := by decide +kernel
theorem dX11_toldHouses_32 : decode cX11_toldHouses 32 = .ok (.iload_n 3, 1) := by decide +kernel
theorem dX11_toldHouses_33 : decode cX11_toldHouses 33 = .ok (.ifCond .eq 64, 3) := by decide +kernel
theorem dX11_toldHouses_36 : decode cX11_toldHouses 36 = .ok (.iload 4, 2) := by decide +kernel
theorem dX11_toldHouses_38 : decode cX11_toldHouses 38 = .ok (.iload_n 1, 1) := by decide +kernel
theorem dX11_toldHouses_39 : decode cX11_toldHouses 39 = .ok (.if_icmp .ge 58, 3) := by decide +kernel
theorem dX11_toldHouses_42 : decode cX11_toldHouses 42 = .ok (.aload_n 0, 1) := by decide +kernel
theorem dX11_toldHouses_43 : decode cX11_toldHouses 43 = .ok (.getfield 10, 3) := by decide +kernel
theorem dX11_toldHouses_46 : decode cX11_toldHouses 46 = .ok (.iload 4, 2) := by decide +kernel
theorem dX11_toldHouses_48 : decode cX11_toldHouses 48 = .ok (.invokevirtual 413, 3) := by decide +kernel
theorem dX11_toldHouses_51 : decode cX11_toldHouses 51 = .ok (.istore 5, 2) := by decide +kernel
theorem dX11_toldHouses_53 : decode cX11_toldHouses 53 = .ok (.aload_n 0, 1) := by decide +kernel
theorem dX11_toldHouses_54 : decode cX11_toldHouses 54 = .ok (.getfield 19, 3) := by decide +kernel
theorem dX11_toldHouses_57 : decode cX11_toldHouses 57 = .ok (.iload 5, 2) := by decide +kernel
theorem dX11_toldHouses_59 : decode cX11_toldHouses 59 = .ok (.invokevirtual 148, 3) := by decide +kernel
theorem dX11_toldHouses_62 : decode cX11_toldHouses 62 = .ok (.ifCond .eq 16, 3) := by decide +kernel
theorem dX11_toldHouses_65 : decode cX11_toldHouses 65 = .ok (.iload_n 2, 1) := by decide +kernel
theorem dX11_toldHouses_66 : decode cX11_toldHouses 66 = .ok (.iload 5, 2) := by decide +kernel
theorem dX11_toldHouses_68 : decode cX11_toldHouses 68 = .ok (.ishr, 1) := by decide +kernel
theorem dX11_toldHouses_69 : decode cX11_toldHouses 69 = .ok (.iconst 1, 1) := by decide +kernel
theorem dX11_toldHouses_70 : decode cX11_toldHouses 70 = .ok (.iand, 1) := by decide +kernel
theorem dX11_toldHouses_71 : decode cX11_toldHouses 71 = .ok (.ifCond .ne 7, 3) := by decide +kernel
theorem dX11_toldHouses_74 : decode cX11_toldHouses 74 = .ok (.iconst 1, 1) := by decide +kernel
theorem dX11_toldHouses_75 : decode cX11_toldHouses 75 = .ok (.goto 4, 3) := by decide +kernel
theorem dX11_toldHouses_78 : decode cX11_toldHouses 78 = .ok (.iconst 0, 1) := by decide +kernel
theorem dX11_toldHouses_79 : decode cX11_toldHouses 79 = .ok (.istore_n 3, 1) := by decide +kernel
theorem dX11_toldHouses_80 : decode cX11_toldHouses 80 = .ok (.iload_n 3, 1) := by decide +kernel
theorem dX11_toldHouses_81 : decode cX11_toldHouses 81 = .ok (.ifCond .eq 10, 3) := by decide +kernel
theorem dX11_toldHouses_84 : decode cX11_toldHouses 84 = .ok (.iload_n 2, 1) := by decide +kernel
theorem dX11_toldHouses_85 : decode cX11_toldHouses 85 = .ok (.iconst 1, 1) := by decide +kernel
theorem dX11_toldHouses_86 : decode cX11_toldHouses 86 = .ok (.iload 5, 2) := by decide +kernel
theorem dX11_toldHouses_88 : decode cX11_toldHouses 88 = .ok (.ishl, 1) := by decide +kernel
theorem dX11_toldHouses_89 : decode cX11_toldHouses 89 = .ok (.ior, 1) := by decide +kernel
theorem dX11_toldHouses_90 : decode cX11_toldHouses 90 = .ok (.istore_n 2, 1) := by decide +kernel
theorem dX11_toldHouses_91 : decode cX11_toldHouses 91 = .ok (.iinc 4 1, 3) := by decide +kernel
theorem dX11_toldHouses_94 : decode cX11_toldHouses 94 = .ok (.goto (-62), 3) := by decide +kernel
theorem dX11_toldHouses_97 : decode cX11_toldHouses 97 = .ok (.iload_n 3, 1) := by decide +kernel
theorem dX11_toldHouses_98 : decode cX11_toldHouses 98 = .ok (.ifCond .ne 11, 3) := by decide +kernel
theorem dX11_toldHouses_101 : decode cX11_toldHouses 101 = .ok (.new 92, 3) := by decide +kernel
theorem dX11_toldHouses_104 : decode cX11_toldHouses 104 = .ok (.dup, 1) := by decide +kernel
theorem dX11_toldHouses_105 : decode cX11_toldHouses 105 = .ok (.invokespecial 94, 3) := by decide +kernel
theorem dX11_toldHouses_108 : decode cX11_toldHouses 108 = .ok (.athrow, 1) := by decide +kernel
theorem dX11_toldHouses_109 : decode cX11_toldHouses 109 = .ok (.iload_n 2, 1) := by decide +kernel
theorem dX11_toldHouses_110 : decode cX11_toldHouses 110 = .ok (.ireturn, 1) := by decide +kernel
set_option maxRecDepth 100000 in
set_option maxHeartbeats 200000 in
theorem T_X11_toldHouses_97 {X : CX} (hX : Ok X cX11_toldHouses 6 RX11 (some .int)) (hdx : dX X = 10) {r : Except String Int32 × Hp} (x2 : Int32) (x3 : Int32) (h : Hp) (hf : F_X11_toldHouses_97 x2 x3 h = some r) : J X (oX tvI r) 97 [(2, .int x2), (3, .int x3)] [] h := by
  unfold F_X11_toldHouses_97 at hf
  refine J_iload_n hX 1 dX11_toldHouses_97 rfl rfl ?_
  rcases ifE hf with ⟨c_1, hf⟩ | ⟨c_1, hf⟩
  · refine J_if_neF hX 109 dX11_toldHouses_98 rfl c_1 ?_
    exact E_thr hX exN dX11_toldHouses_101 dX11_toldHouses_104 dX11_toldHouses_105 dX11_toldHouses_108 tw_X11_92_94 (ltD hdx rfl) rfl hf
  · refine J_if_neT hX 109 dX11_toldHouses_98 rfl c_1 ?_
    refine J_iload_n hX 0 dX11_toldHouses_109 rfl rfl ?_
    exact E_Ix hX dX11_toldHouses_110 hf
set_option maxRecDepth 100000 in
set_option maxHeartbeats 200000 in
theorem T_X11_toldHouses_79 {X : CX} (hX : Ok X cX11_toldHouses 6 RX11 (some .int)) (hdx : dX X = 10) {r : Except String Int32 × Hp} (x1 : Int32) (x2 : Int32) (x4 : Int32) (x5 : Int32) (t0 : Int32) (q_32 : Int32 → Int32 → Int32 → Hp → Option (Except String Int32 × Hp)) (hq_32 : ∀ (x2 : Int32) (x3 : Int32) (x4 : Int32) (h : Hp), q_32 x2 x3 x4 h = some r → J X (oX tvI r) 32 [(0, .ref 1), (1, .int x1), (2, .int x2), (3, .int x3), (4, .int x4)] [] h) (h : Hp) (hf : F_X11_toldHouses_79 q_32 x1 x2 x4 x5 t0 h = some r) : J X (oX tvI r) 79 [(0, .ref 1), (1, .int x1), (2, .int x2), (4, .int x4), (5, .int x5)] [.int t0] h := by
  unfold F_X11_toldHouses_79 at hf
  refine J_istore_n hX [(3, .int t0), (0, .ref 1), (1, .int x1), (2, .int x2), (4, .int x4), (5, .int x5)] dX11_toldHouses_79 rfl rfl rfl ?_
  refine J_iload_n hX 0 dX11_toldHouses_80 rfl rfl ?_
  rcases ifE hf with ⟨c_1, hf⟩ | ⟨c_1, hf⟩
  · refine J_if_eqT hX 91 dX11_toldHouses_81 rfl c_1 ?_
    refine J_iinc hX (x4 + 1) 4 [(4, .int (x4 + 1)), (3, .int t0), (0, .ref 1), (1, .int x1), (2, .int x2), (5, .int x5)] dX11_toldHouses_91 rfl rfl rfl rfl ?_
    refine J_goto hX 32 dX11_toldHouses_94 rfl ?_
    refine J_sub [2, 3, 4, 1, 0] [(0, .ref 1), (1, .int x1), (2, .int x2), (3, .int t0), (4, .int (x4 + 1))] rfl ?_
    exact hq_32 x2 t0 (x4 + 1) h hf
  · refine J_if_eqF hX 91 dX11_toldHouses_81 rfl c_1 ?_
    refine J_iload_n hX 3 dX11_toldHouses_84 rfl rfl ?_
    refine J_iconst hX 1 dX11_toldHouses_85 rfl ?_
    refine J_iload hX 5 dX11_toldHouses_86 rfl ?_
    refine J_ishl hX dX11_toldHouses_88 ?_
    refine J_ior hX dX11_toldHouses_89 ?_
    obtain ⟨x2_2, e_3, hf⟩ := bndE hf
    refine J_nm e_3 ?_
    refine J_istore_n hX [(2, .int x2_2), (3, .int t0), (0, .ref 1), (1, .int x1), (4, .int x4), (5, .int x5)] dX11_toldHouses_90 rfl rfl rfl ?_
    refine J_iinc hX (x4 + 1) 4 [(4, .int (x4 + 1)), (2, .int x2_2), (3, .int t0), (0, .ref 1), (1, .int x1), (5, .int x5)] dX11_toldHouses_91 rfl rfl rfl rfl ?_
    refine J_goto hX 32 dX11_toldHouses_94 rfl ?_
    refine J_sub [3, 4, 1, 2, 0] [(0, .ref 1), (1, .int x1), (2, .int x2_2), (3, .int t0), (4, .int (x4 + 1))] rfl ?_
    exact hq_32 x2_2 t0 (x4 + 1) h hf
set_option maxRecDepth 100000 in
set_option maxHeartbeats 200000 in
theorem T_X11_toldHouses_32_s {X : CX} (hX : Ok X cX11_toldHouses 6 RX11 (some .int)) (hdx : dX X = 10) {r : Except String Int32 × Hp} (x1 : Int32) (q_32 : Int32 → Int32 → Int32 → Hp → Option (Except String Int32 × Hp)) (hq_32 : ∀ (x2 : Int32) (x3 : Int32) (x4 : Int32) (h : Hp), q_32 x2 x3 x4 h = some r → J X (oX tvI r) 32 [(0, .ref 1), (1, .int x1), (2, .int x2), (3, .int x3), (4, .int x4)] [] h) (x2 : Int32) (x3 : Int32) (x4 : Int32) (h : Hp) (hf : S_X11_toldHouses_32 x1 q_32 x2 x3 x4 h = some r) : J X (oX tvI r) 32 [(0, .ref 1), (1, .int x1), (2, .int x2), (3, .int x3), (4, .int x4)] [] h := by
  unfold S_X11_toldHouses_32 at hf
  refine J_iload_n hX 3 dX11_toldHouses_32 rfl rfl ?_
  rcases ifE hf with ⟨c_1, hf⟩ | ⟨c_1, hf⟩
  · refine J_if_eqT hX 97 dX11_toldHouses_33 rfl c_1 ?_
    refine J_sub [2, 3] [(2, .int x2), (3, .int x3)] rfl ?_
    exact T_X11_toldHouses_97 hX hdx x2 x3 h hf
  · refine J_if_eqF hX 97 dX11_toldHouses_33 rfl c_1 ?_
    refine J_iload hX 4 dX11_toldHouses_36 rfl ?_
    refine J_iload_n hX 1 dX11_toldHouses_38 rfl rfl ?_
    rcases ifE hf with ⟨c_2, hf⟩ | ⟨c_2, hf⟩
    · refine J_icmp_geF hX 97 dX11_toldHouses_39 rfl c_2 ?_
      refine J_aload_n hX 0 dX11_toldHouses_42 rfl rfl ?_
      refine J_getR hX 2 dX11_toldHouses_43 fl_X11_10 ob_1 rfl rfl ?_
      refine J_iload hX 4 dX11_toldHouses_46 rfl ?_
      obtain ⟨r_3, e_4, hf⟩ := bdE hf
      refine V_1 hX [.int x4] dX11_toldHouses_48 cw_X11_413 ob_2 rfl (C_X10_byteAt (okG hX) e_4) (ltD hdx rfl) rfl rfl rfl rfl ?_
      refine J_istore hX [(5, .int r_3), (0, .ref 1), (1, .int x1), (2, .int x2), (3, .int x3), (4, .int x4)] dX11_toldHouses_51 rfl rfl ?_
      refine J_aload_n hX 1 dX11_toldHouses_53 rfl rfl ?_
      refine J_getR hX 100 dX11_toldHouses_54 fl_X11_19 ob_1 rfl rfl ?_
      refine J_iload hX 0 dX11_toldHouses_57 rfl ?_
      refine V_1 hX [.int r_3] dX11_toldHouses_59 cw_X11_148 (city_ob isc_100) rfl (C_X1_isUp (okG hX) isc_100 rfl) (ltD hdx rfl) rfl rfl rfl rfl ?_
      rcases ifE hf with ⟨c_5, hf⟩ | ⟨c_5, hf⟩
      · refine J_if_eqF hX 78 dX11_toldHouses_62 rfl (b2iT c_5) ?_
        refine J_iload_n hX 3 dX11_toldHouses_65 rfl rfl ?_
        refine J_iload hX 0 dX11_toldHouses_66 rfl ?_
        refine J_ishr hX dX11_toldHouses_68 ?_
        refine J_iconst hX 1 dX11_toldHouses_69 rfl ?_
        refine J_iand hX dX11_toldHouses_70 ?_
        rcases ifE hf with ⟨c_6, hf⟩ | ⟨c_6, hf⟩
        · refine J_if_neF hX 78 dX11_toldHouses_71 rfl c_6 ?_
          refine J_iconst hX 1 dX11_toldHouses_74 rfl ?_
          refine J_goto hX 79 dX11_toldHouses_75 rfl ?_
          refine J_sub [1, 2, 3, 5, 0] [(0, .ref 1), (1, .int x1), (2, .int x2), (4, .int x4), (5, .int r_3)] rfl ?_
          exact T_X11_toldHouses_79 hX hdx x1 x2 x4 r_3 1 q_32 hq_32 h hf
        · refine J_if_neT hX 78 dX11_toldHouses_71 rfl c_6 ?_
          refine J_iconst hX 0 dX11_toldHouses_78 rfl ?_
          refine J_sub [1, 2, 3, 5, 0] [(0, .ref 1), (1, .int x1), (2, .int x2), (4, .int x4), (5, .int r_3)] rfl ?_
          exact T_X11_toldHouses_79 hX hdx x1 x2 x4 r_3 0 q_32 hq_32 h hf
      · refine J_if_eqT hX 78 dX11_toldHouses_62 rfl (b2iF c_5) ?_
        refine J_iconst hX 0 dX11_toldHouses_78 rfl ?_
        refine J_sub [1, 2, 3, 5, 0] [(0, .ref 1), (1, .int x1), (2, .int x2), (4, .int x4), (5, .int r_3)] rfl ?_
        exact T_X11_toldHouses_79 hX hdx x1 x2 x4 r_3 0 q_32 hq_32 h hf
    · refine J_icmp_geT hX 97 dX11_toldHouses_39 rfl c_2 ?_
      refine J_sub [2, 3] [(2, .int x2), (3, .int x3)] rfl ?_
      exact T_X11_toldHouses_97 hX hdx x2 x3 h hf
set_option maxRecDepth 100000 in
set_option maxHeartbeats 200000 in
theorem T_X11_toldHouses_32 {X : CX} (hX : Ok X cX11_toldHouses 6 RX11 (some .int)) (hdx : dX X = 10) {r : Except String Int32 × Hp} (x1 : Int32) : ∀ (n : Nat) (x2 : Int32) (x3 : Int32) (x4 : Int32) (h : Hp), F_X11_toldHouses_32 x1 n x2 x3 x4 h = some r → J X (oX tvI r) 32 [(0, .ref 1), (1, .int x1), (2, .int x2), (3, .int x3), (4, .int x4)] [] h := by
  intro n
  induction n with
  | zero => intro x2 x3 x4 h hf; exact nomatch hf
  | succ n ih => intro x2 x3 x4 h hf; exact T_X11_toldHouses_32_s hX hdx x1 _ (fun x2 x3 x4 h hf => ih x2 x3 x4 h hf) x2 x3 x4 h hf
set_option maxRecDepth 100000 in
set_option maxHeartbeats 200000 in
theorem T_X11_toldHouses_0 {X : CX} (hX : Ok X cX11_toldHouses 6 RX11 (some .int)) (hdx : dX X = 10) {r : Except String Int32 × Hp} (h : Hp) (hf : f_X11_toldHouses h = some r) : J X (oX tvI r) 0 [(0, .ref 1)] [] h := by
  unfold f_X11_toldHouses at hf
  refine J_aload_n hX 0 dX11_toldHouses_0 rfl rfl ?_
  refine J_getR hX 2 dX11_toldHouses_1 fl_X11_10 ob_1 rfl rfl ?_
  refine J_getI hX dX11_toldHouses_4 fl_X11_74 ob_2 rfl ?_
  refine J_istore_n hX [(1, .int (h 2 1)), (0, .ref 1)] dX11_toldHouses_7 rfl rfl rfl ?_
  refine J_aload_n hX 1 dX11_toldHouses_8 rfl rfl ?_
  refine J_getR hX 2 dX11_toldHouses_9 fl_X11_10 ob_1 rfl rfl ?_
  refine J_iconst hX 0 dX11_toldHouses_12 rfl ?_
  obtain ⟨h_1, e_2, hf⟩ := bndE hf
  refine J_putI hX dX11_toldHouses_13 fl_X11_74 fw_8_1 ob_2 rfl rfl rfl ?_
  refine J_nmh e_2 ?_
  refine J_iconst hX 0 dX11_toldHouses_16 rfl ?_
  refine J_istore_n hX [(2, .int 0), (1, .int (h 2 1)), (0, .ref 1)] dX11_toldHouses_17 rfl rfl rfl ?_
  refine J_iload_n hX 1 dX11_toldHouses_18 rfl rfl ?_
  refine J_iconst hX 5 dX11_toldHouses_19 rfl ?_
  rcases ifE hf with ⟨c_3, hf⟩ | ⟨c_3, hf⟩
  · refine J_icmp_gtT hX 27 dX11_toldHouses_20 rfl c_3 ?_
    refine J_iconst hX 0 dX11_toldHouses_27 rfl ?_
    refine J_istore_n hX [(3, .int 0), (2, .int 0), (1, .int (h 2 1)), (0, .ref 1)] dX11_toldHouses_28 rfl rfl rfl ?_
    refine J_iconst hX 0 dX11_toldHouses_29 rfl ?_
    refine J_istore hX [(4, .int 0), (3, .int 0), (2, .int 0), (1, .int (h 2 1)), (0, .ref 1)] dX11_toldHouses_30 rfl rfl ?_
    refine J_sub [4, 3, 2, 1, 0] [(0, .ref 1), (1, .int (h 2 1)), (2, .int 0), (3, .int 0), (4, .int 0)] rfl ?_
    exact T_X11_toldHouses_32 hX hdx (h 2 1) FU 0 0 0 h_1 hf
  · refine J_icmp_gtF hX 27 dX11_toldHouses_20 rfl c_3 ?_
    refine J_iconst hX 1 dX11_toldHouses_23 rfl ?_
    refine J_goto hX 28 dX11_toldHouses_24 rfl ?_
    refine J_istore_n hX [(3, .int 1), (2, .int 0), (1, .int (h 2 1)), (0, .ref 1)] dX11_toldHouses_28 rfl rfl rfl ?_
    refine J_iconst hX 0 dX11_toldHouses_29 rfl ?_
    refine J_istore hX [(4, .int 0), (3, .int 1), (2, .int 0), (1, .int (h 2 1)), (0, .ref 1)] dX11_toldHouses_30 rfl rfl ?_
    refine J_sub [4, 3, 2, 1, 0] [(0, .ref 1), (1, .int (h 2 1)), (2, .int 0), (3, .int 1), (4, .int 0)] rfl ?_
    exact T_X11_toldHouses_32 hX hdx (h 2 1) FU 0 1 0 h_1 hf
set_option maxRecDepth 100000 in
set_option maxHeartbeats 200000 in
theorem C_X11_toldHouses {G : GX} (hG : GOk G) {h : Hp} {r : Except String Int32 × Hp} (hf : f_X11_toldHouses h = some r) : Ctr G 10 yX11_toldHouses cX11_toldHouses 6 (some .int) [.ref 1] h (oX tvI r) :=
  Ctr_of hG RX11 rfl (by decide) rfl (fun X _ hdx hX => T_X11_toldHouses_0 hX hdx h hf)
theorem dX11_order_0 : decode cX11_order 0 = .ok (.aload_n 0, 1) := by decide +kernel
theorem dX11_order_1 : decode cX11_order 1 = .ok (.invokevirtual 310, 3) := by decide +kernel
theorem dX11_order_4 : decode cX11_order 4 = .ok (.istore_n 2, 1) := by decide +kernel
theorem dX11_order_5 : decode cX11_order 5 = .ok (.aload_n 0, 1) := by decide +kernel
theorem dX11_order_6 : decode cX11_order 6 = .ok (.getfield 46, 3) := by decide +kernel
theorem dX11_order_9 : decode cX11_order 9 = .ok (.aload_n 0, 1) := by decide +kernel
theorem dX11_order_10 : decode cX11_order 10 = .ok (.getfield 19, 3) := by decide +kernel
theorem dX11_order_13 : decode cX11_order 13 = .ok (.aload_n 0, 1) := by decide +kernel
theorem dX11_order_14 : decode cX11_order 14 = .ok (.getfield 29, 3) := by decide +kernel
theorem dX11_order_17 : decode cX11_order 17 = .ok (.aload_n 0, 1) := by decide +kernel
theorem dX11_order_18 : decode cX11_order 18 = .ok (.getfield 39, 3) := by decide +kernel
theorem dX11_order_21 : decode cX11_order 21 = .ok (.iload_n 2, 1) := by decide +kernel
theorem dX11_order_22 : decode cX11_order 22 = .ok (.invokevirtual 313, 3) := by decide +kernel
theorem dX11_order_25 : decode cX11_order 25 = .ok (.iload_n 1, 1) := by decide +kernel
theorem dX11_order_26 : decode cX11_order 26 = .ok (.ifCond .lt 35, 3) := by decide +kernel
theorem dX11_order_29 : decode cX11_order 29 = .ok (.iload_n 1, 1) := by decide +kernel
theorem dX11_order_30 : decode cX11_order 30 = .ok (.iload_n 2, 1) := by decide +kernel
theorem dX11_order_31 : decode cX11_order 31 = .ok (.invokestatic 248, 3) := by decide +kernel
theorem dX11_order_34 : decode cX11_order 34 = .ok (.if_icmp .ge 27, 3) := by decide +kernel
theorem dX11_order_37 : decode cX11_order 37 = .ok (.iload_n 1, 1) := by decide +kernel
theorem dX11_order_38 : decode cX11_order 38 = .ok (.aload_n 0, 1) := by decide +kernel
theorem dX11_order_39 : decode cX11_order 39 = .ok (.getfield 46, 3) := by decide +kernel
theorem dX11_order_42 : decode cX11_order 42 = .ok (.getfield 317, 3) := by decide +kernel
theorem dX11_order_45 : decode cX11_order 45 = .ok (.arraylength, 1) := by decide +kernel
theorem dX11_order_46 : decode cX11_order 46 = .ok (.if_icmp .ge 15, 3) := by decide +kernel
theorem dX11_order_49 : decode cX11_order 49 = .ok (.aload_n 0, 1) := by decide +kernel
theorem dX11_order_50 : decode cX11_order 50 = .ok (.getfield 46, 3) := by decide +kernel
theorem dX11_order_53 : decode cX11_order 53 = .ok (.getfield 317, 3) := by decide +kernel
theorem dX11_order_56 : decode cX11_order 56 = .ok (.iload_n 1, 1) := by decide +kernel
theorem dX11_order_57 : decode cX11_order 57 = .ok (.iaload, 1) := by decide +kernel
theorem dX11_order_58 : decode cX11_order 58 = .ok (.goto 4, 3) := by decide +kernel
theorem dX11_order_61 : decode cX11_order 61 = .ok (.iconst (-1), 1) := by decide +kernel
theorem dX11_order_62 : decode cX11_order 62 = .ok (.ireturn, 1) := by decide +kernel
set_option maxRecDepth 100000 in
set_option maxHeartbeats 200000 in
theorem T_X11_order_0 {X : CX} (hX : Ok X cX11_order 3 RX11 (some .int)) (hdx : dX X = 33) {r : Except String Int32 × Hp} (x1 : Int32) (h : Hp) (hf : f_X11_order x1 h = some r) : J X (oX tvI r) 0 [(0, .ref 1), (1, .int x1)] [] h := by
  unfold f_X11_order at hf
  refine J_aload_n hX 0 dX11_order_0 rfl rfl ?_
  obtain ⟨r_1, e_2, hf⟩ := bdE hf
  rcases exE hf with ⟨v_3, h_4, z_6, hg⟩ | ⟨E_5, h_4, z_6, z_6r⟩
  all_goals clear hf
  rotate_left
  · subst z_6
    exact V_kx hX [] dX11_order_1 cw_X11_310 ob_1 rfl (C_X11_toldHouses (okG hX) e_2) (ltD hdx rfl) rfl rfl rfl rfl z_6r
  subst z_6
  have hf := hg
  clear hg
  refine V_k1 hX [] dX11_order_1 cw_X11_310 ob_1 rfl (C_X11_toldHouses (okG hX) e_2) (ltD hdx rfl) rfl rfl rfl rfl rfl ?_
  refine J_istore_n hX [(2, .int v_3), (0, .ref 1), (1, .int x1)] dX11_order_4 rfl rfl rfl ?_
  refine J_aload_n hX 1 dX11_order_5 rfl rfl ?_
  refine J_getR hX 15 dX11_order_6 fl_X11_46 ob_1 rfl rfl ?_
  refine J_aload_n hX 1 dX11_order_9 rfl rfl ?_
  refine J_getR hX 100 dX11_order_10 fl_X11_19 ob_1 rfl rfl ?_
  refine J_aload_n hX 1 dX11_order_13 rfl rfl ?_
  refine J_getR hX 500 dX11_order_14 fl_X11_29 ob_1 rfl rfl ?_
  refine J_aload_n hX 1 dX11_order_17 rfl rfl ?_
  refine J_getR hX 4 dX11_order_18 fl_X11_39 ob_1 rfl rfl ?_
  refine J_iload_n hX 0 dX11_order_21 rfl rfl ?_
  obtain ⟨r_7, e_8, hf⟩ := bdE hf
  refine V_0 hX [.ref 100, .ref 500, .ref 4, .int v_3] dX11_order_22 cw_X11_313 ob_15 rfl (C_X8_solve (okG hX) isc_100 isl_500 e_8) (ltD hdx rfl) rfl rfl rfl rfl ?_
  refine J_iload_n hX 2 dX11_order_25 rfl rfl ?_
  rcases ifE hf with ⟨c_9, hf⟩ | ⟨c_9, hf⟩
  · refine J_if_ltT hX 61 dX11_order_26 rfl c_9 ?_
    refine J_iconst hX (-1) dX11_order_61 rfl ?_
    exact E_Ix hX dX11_order_62 hf
  · refine J_if_ltF hX 61 dX11_order_26 rfl c_9 ?_
    refine J_iload_n hX 2 dX11_order_29 rfl rfl ?_
    refine J_iload_n hX 0 dX11_order_30 rfl rfl ?_
    refine S_1 hX [.int v_3] dX11_order_31 cw_X11_248 (C_J6_bitCount_0f7a4 (okG hX) rfl) (ltD hdx rfl) rfl rfl rfl rfl ?_
    rcases ifE hf with ⟨c_10, hf⟩ | ⟨c_10, hf⟩
    · refine J_icmp_geF hX 61 dX11_order_34 rfl c_10 ?_
      refine J_iload_n hX 2 dX11_order_37 rfl rfl ?_
      refine J_aload_n hX 1 dX11_order_38 rfl rfl ?_
      refine J_getR hX 15 dX11_order_39 fl_X11_46 ob_1 rfl rfl ?_
      refine J_getR hX 16 dX11_order_42 fl_X11_317 ob_15 rfl rfl ?_
      refine J_alen hX 5 dX11_order_45 ar_16 (by decide) rfl ?_
      rcases ifE hf with ⟨c_11, hf⟩ | ⟨c_11, hf⟩
      · refine J_icmp_geF hX 61 dX11_order_46 rfl c_11 ?_
        refine J_aload_n hX 1 dX11_order_49 rfl rfl ?_
        refine J_getR hX 15 dX11_order_50 fl_X11_46 ob_1 rfl rfl ?_
        refine J_getR hX 16 dX11_order_53 fl_X11_317 ob_15 rfl rfl ?_
        refine J_iload_n hX 2 dX11_order_56 rfl rfl ?_
        obtain ⟨g_12, hf⟩ := gdE hf
        refine J_ald hX x1.toNatClampNeg dX11_order_57 ar_16 (Or.inl ⟨rfl, rfl⟩) g_12 rfl ?_
        refine J_goto hX 62 dX11_order_58 rfl ?_
        exact E_Ix hX dX11_order_62 hf
      · refine J_icmp_geT hX 61 dX11_order_46 rfl c_11 ?_
        refine J_iconst hX (-1) dX11_order_61 rfl ?_
        exact E_Ix hX dX11_order_62 hf
    · refine J_icmp_geT hX 61 dX11_order_34 rfl c_10 ?_
      refine J_iconst hX (-1) dX11_order_61 rfl ?_
      exact E_Ix hX dX11_order_62 hf
set_option maxRecDepth 100000 in
set_option maxHeartbeats 200000 in
theorem C_X11_order {G : GX} (hG : GOk G) {x1 : Int32} {h : Hp} {r : Except String Int32 × Hp} (hf : f_X11_order x1 h = some r) : Ctr G 33 yX11_order cX11_order 3 (some .int) [.ref 1, .int x1] h (oX tvI r) :=
  Ctr_of hG RX11 rfl (by decide) rfl (fun X _ hdx hX => T_X11_order_0 hX hdx x1 h hf)
theorem dX11_means_0 : decode cX11_means 0 = .ok (.aload_n 0, 1) := by decide +kernel
theorem dX11_means_1 : decode cX11_means 1 = .ok (.invokevirtual 310, 3) := by decide +kernel
theorem dX11_means_4 : decode cX11_means 4 = .ok (.istore_n 1, 1) := by decide +kernel
theorem dX11_means_5 : decode cX11_means 5 = .ok (.aload_n 0, 1) := by decide +kernel
theorem dX11_means_6 : decode cX11_means 6 = .ok (.getfield 46, 3) := by decide +kernel
theorem dX11_means_9 : decode cX11_means 9 = .ok (.aload_n 0, 1) := by decide +kernel
theorem dX11_means_10 : decode cX11_means 10 = .ok (.getfield 19, 3) := by decide +kernel
theorem dX11_means_13 : decode cX11_means 13 = .ok (.aload_n 0, 1) := by decide +kernel
theorem dX11_means_14 : decode cX11_means 14 = .ok (.getfield 29, 3) := by decide +kernel
theorem dX11_means_17 : decode cX11_means 17 = .ok (.aload_n 0, 1) := by decide +kernel
theorem dX11_means_18 : decode cX11_means 18 = .ok (.getfield 39, 3) := by decide +kernel
theorem dX11_means_21 : decode cX11_means 21 = .ok (.iload_n 1, 1) := by decide +kernel
theorem dX11_means_22 : decode cX11_means 22 = .ok (.invokevirtual 313, 3) := by decide +kernel
theorem dX11_means_25 : decode cX11_means 25 = .ok (.aload_n 0, 1) := by decide +kernel
theorem dX11_means_26 : decode cX11_means 26 = .ok (.getfield 46, 3) := by decide +kernel
theorem dX11_means_29 : decode cX11_means 29 = .ok (.getfield 320, 3) := by decide +kernel
theorem dX11_means_32 : decode cX11_means 32 = .ok (.ireturn, 1) := by decide +kernel
set_option maxRecDepth 100000 in
set_option maxHeartbeats 200000 in
theorem T_X11_means_0 {X : CX} (hX : Ok X cX11_means 2 RX11 (some .int)) (hdx : dX X = 33) {r : Except String Int32 × Hp} (h : Hp) (hf : f_X11_means h = some r) : J X (oX tvI r) 0 [(0, .ref 1)] [] h := by
  unfold f_X11_means at hf
  refine J_aload_n hX 0 dX11_means_0 rfl rfl ?_
  obtain ⟨r_1, e_2, hf⟩ := bdE hf
  rcases exE hf with ⟨v_3, h_4, z_6, hg⟩ | ⟨E_5, h_4, z_6, z_6r⟩
  all_goals clear hf
  rotate_left
  · subst z_6
    exact V_kx hX [] dX11_means_1 cw_X11_310 ob_1 rfl (C_X11_toldHouses (okG hX) e_2) (ltD hdx rfl) rfl rfl rfl rfl z_6r
  subst z_6
  have hf := hg
  clear hg
  refine V_k1 hX [] dX11_means_1 cw_X11_310 ob_1 rfl (C_X11_toldHouses (okG hX) e_2) (ltD hdx rfl) rfl rfl rfl rfl rfl ?_
  refine J_istore_n hX [(1, .int v_3), (0, .ref 1)] dX11_means_4 rfl rfl rfl ?_
  refine J_aload_n hX 1 dX11_means_5 rfl rfl ?_
  refine J_getR hX 15 dX11_means_6 fl_X11_46 ob_1 rfl rfl ?_
  refine J_aload_n hX 1 dX11_means_9 rfl rfl ?_
  refine J_getR hX 100 dX11_means_10 fl_X11_19 ob_1 rfl rfl ?_
  refine J_aload_n hX 1 dX11_means_13 rfl rfl ?_
  refine J_getR hX 500 dX11_means_14 fl_X11_29 ob_1 rfl rfl ?_
  refine J_aload_n hX 1 dX11_means_17 rfl rfl ?_
  refine J_getR hX 4 dX11_means_18 fl_X11_39 ob_1 rfl rfl ?_
  refine J_iload_n hX 0 dX11_means_21 rfl rfl ?_
  obtain ⟨r_7, e_8, hf⟩ := bdE hf
  refine V_0 hX [.ref 100, .ref 500, .ref 4, .int v_3] dX11_means_22 cw_X11_313 ob_15 rfl (C_X8_solve (okG hX) isc_100 isl_500 e_8) (ltD hdx rfl) rfl rfl rfl rfl ?_
  refine J_aload_n hX 1 dX11_means_25 rfl rfl ?_
  refine J_getR hX 15 dX11_means_26 fl_X11_46 ob_1 rfl rfl ?_
  refine J_getI hX dX11_means_29 fl_X11_320 ob_15 rfl ?_
  exact E_Ix hX dX11_means_32 hf
set_option maxRecDepth 100000 in
set_option maxHeartbeats 200000 in
theorem C_X11_means {G : GX} (hG : GOk G) {h : Hp} {r : Except String Int32 × Hp} (hf : f_X11_means h = some r) : Ctr G 33 yX11_means cX11_means 2 (some .int) [.ref 1] h (oX tvI r) :=
  Ctr_of hG RX11 rfl (by decide) rfl (fun X _ hdx hX => T_X11_means_0 hX hdx h hf)
theorem dX11_collectBreaks_0 : decode cX11_collectBreaks 0 = .ok (.aload_n 0, 1) := by decide +kernel
theorem dX11_collectBreaks_1 : decode cX11_collectBreaks 1 = .ok (.getfield 10, 3) := by decide +kernel
theorem dX11_collectBreaks_4 : decode cX11_collectBreaks 4 = .ok (.getfield 74, 3) := by decide +kernel
theorem dX11_collectBreaks_7 : decode cX11_collectBreaks 7 = .ok (.istore_n 1, 1) := by decide +kernel
theorem dX11_collectBreaks_8 : decode cX11_collectBreaks 8 = .ok (.aload_n 0, 1) := by decide +kernel
theorem dX11_collectBreaks_9 : decode cX11_collectBreaks 9 = .ok (.getfield 10, 3) := by decide +kernel
theorem dX11_collectBreaks_12 : decode cX11_collectBreaks 12 = .ok (.iconst 0, 1) := by decide +kernel
theorem dX11_collectBreaks_13 : decode cX11_collectBreaks 13 = .ok (.putfield 74, 3) := by decide +kernel
theorem dX11_collectBreaks_16 : decode cX11_collectBreaks 16 = .ok (.iload_n 1, 1) := by decide +kernel
theorem dX11_collectBreaks_17 : decode cX11_collectBreaks 17 = .ok (.bipush 40, 2) := by decide +kernel
theorem dX11_collectBreaks_19 : decode cX11_collectBreaks 19 = .ok (.if_icmp .gt 13, 3) := by decide +kernel
theorem dX11_collectBreaks_22 : decode cX11_collectBreaks 22 = .ok (.iload_n 1, 1) := by decide +kernel
theorem dX11_collectBreaks_23 : decode cX11_collectBreaks 23 = .ok (.iconst 2, 1) := by decide +kernel
theorem dX11_collectBreaks_24 : decode cX11_collectBreaks 24 = .ok (.irem, 1) := by decide +kernel
theorem dX11_collectBreaks_25 : decode cX11_collectBreaks 25 = .ok (.ifCond .ne 7, 3) := by decide +kernel
theorem dX11_collectBreaks_28 : decode cX11_collectBreaks 28 = .ok (.iconst 1, 1) := by decide +kernel
theorem dX11_collectBreaks_29 : decode cX11_collectBreaks 29 = .ok (.goto 4, 3) := by decide +kernel
theorem dX11_collectBreaks_32 : decode cX11_collectBreaks 32 = .ok (.iconst 0, 1) := by decide +kernel
theorem dX11_collectBreaks_33 : decode cX11_collectBreaks 33 = .ok (.istore_n 2, 1) := by decide +kernel
theorem dX11_collectBreaks_34 : decode cX11_collectBreaks 34 = .ok (.iconst 0, 1) := by decide +kernel
theorem dX11_collectBreaks_35 : decode cX11_collectBreaks 35 = .ok (.istore_n 3, 1) := by decide +kernel
theorem dX11_collectBreaks_36 : decode cX11_collectBreaks 36 = .ok (.iload_n 2, 1) := by decide +kernel
theorem dX11_collectBreaks_37 : decode cX11_collectBreaks 37 = .ok (.ifCond .eq 30, 3) := by decide +kernel
theorem dX11_collectBreaks_40 : decode cX11_collectBreaks 40 = .ok (.iload_n 3, 1) := by decide +kernel
theorem dX11_collectBreaks_41 : decode cX11_collectBreaks 41 = .ok (.iload_n 1, 1) := by decide +kernel
theorem dX11_collectBreaks_42 : decode cX11_collectBreaks 42 = .ok (.if_icmp .ge 25, 3) := by decide +kernel
theorem dX11_collectBreaks_45 : decode cX11_collectBreaks 45 = .ok (.aload_n 0, 1) := by decide +kernel
theorem dX11_collectBreaks_46 : decode cX11_collectBreaks 46 = .ok (.getfield 19, 3) := by decide +kernel
theorem dX11_collectBreaks_49 : decode cX11_collectBreaks 49 = .ok (.aload_n 0, 1) := by decide +kernel
theorem dX11_collectBreaks_50 : decode cX11_collectBreaks 50 = .ok (.getfield 10, 3) := by decide +kernel
theorem dX11_collectBreaks_53 : decode cX11_collectBreaks 53 = .ok (.iload_n 3, 1) := by decide +kernel
theorem dX11_collectBreaks_54 : decode cX11_collectBreaks 54 = .ok (.invokevirtual 413, 3) := by decide +kernel
theorem dX11_collectBreaks_57 : decode cX11_collectBreaks 57 = .ok (.invokevirtual 131, 3) := by decide +kernel
theorem dX11_collectBreaks_60 : decode cX11_collectBreaks 60 = .ok (.istore_n 2, 1) := by decide +kernel
theorem dX11_collectBreaks_61 : decode cX11_collectBreaks 61 = .ok (.iinc 3 2, 3) := by decide +kernel
theorem dX11_collectBreaks_64 : decode cX11_collectBreaks 64 = .ok (.goto (-28), 3) := by decide +kernel
theorem dX11_collectBreaks_67 : decode cX11_collectBreaks 67 = .ok (.iload_n 2, 1) := by decide +kernel
theorem dX11_collectBreaks_68 : decode cX11_collectBreaks 68 = .ok (.ifCond .ne 11, 3) := by decide +kernel
theorem dX11_collectBreaks_71 : decode cX11_collectBreaks 71 = .ok (.new 92, 3) := by decide +kernel
theorem dX11_collectBreaks_74 : decode cX11_collectBreaks 74 = .ok (.dup, 1) := by decide +kernel
theorem dX11_collectBreaks_75 : decode cX11_collectBreaks 75 = .ok (.invokespecial 94, 3) := by decide +kernel
theorem dX11_collectBreaks_78 : decode cX11_collectBreaks 78 = .ok (.athrow, 1) := by decide +kernel
theorem dX11_collectBreaks_79 : decode cX11_collectBreaks 79 = .ok (.aload_n 0, 1) := by decide +kernel
theorem dX11_collectBreaks_80 : decode cX11_collectBreaks 80 = .ok (.getfield 60, 3) := by decide +kernel
theorem dX11_collectBreaks_83 : decode cX11_collectBreaks 83 = .ok (.aload_n 0, 1) := by decide +kernel
theorem dX11_collectBreaks_84 : decode cX11_collectBreaks 84 = .ok (.getfield 10, 3) := by decide +kernel
theorem dX11_collectBreaks_87 : decode cX11_collectBreaks 87 = .ok (.iload_n 1, 1) := by decide +kernel
theorem dX11_collectBreaks_88 : decode cX11_collectBreaks 88 = .ok (.invokevirtual 416, 3) := by decide +kernel
theorem dX11_collectBreaks_91 : decode cX11_collectBreaks 91 = .ok (.aload_n 0, 1) := by decide +kernel
theorem dX11_collectBreaks_92 : decode cX11_collectBreaks 92 = .ok (.getfield 60, 3) := by decide +kernel
theorem dX11_collectBreaks_95 : decode cX11_collectBreaks 95 = .ok (.aload_n 0, 1) := by decide +kernel
theorem dX11_collectBreaks_96 : decode cX11_collectBreaks 96 = .ok (.getfield 19, 3) := by decide +kernel
theorem dX11_collectBreaks_99 : decode cX11_collectBreaks 99 = .ok (.aload_n 0, 1) := by decide +kernel
theorem dX11_collectBreaks_100 : decode cX11_collectBreaks 100 = .ok (.getfield 23, 3) := by decide +kernel
theorem dX11_collectBreaks_103 : decode cX11_collectBreaks 103 = .ok (.aload_n 0, 1) := by decide +kernel
theorem dX11_collectBreaks_104 : decode cX11_collectBreaks 104 = .ok (.getfield 39, 3) := by decide +kernel
theorem dX11_collectBreaks_107 : decode cX11_collectBreaks 107 = .ok (.getfield 182, 3) := by decide +kernel
theorem dX11_collectBreaks_110 : decode cX11_collectBreaks 110 = .ok (.invokevirtual 420, 3) := by decide +kernel
theorem dX11_collectBreaks_113 : decode cX11_collectBreaks 113 = .ok (.return_, 1) := by decide +kernel
set_option maxRecDepth 100000 in
set_option maxHeartbeats 200000 in
theorem T_X11_collectBreaks_67 {X : CX} (hX : Ok X cX11_collectBreaks 4 RX11 none) (hdx : dX X = 10) {r : Except String Unit × Hp} (x1 : Int32) (x2 : Int32) (h : Hp) (hf : F_X11_collectBreaks_67 x1 x2 h = some r) : J X (oX tvV r) 67 [(0, .ref 1), (1, .int x1), (2, .int x2)] [] h := by
  unfold F_X11_collectBreaks_67 at hf
  refine J_iload_n hX 2 dX11_collectBreaks_67 rfl rfl ?_
  rcases ifE hf with ⟨c_1, hf⟩ | ⟨c_1, hf⟩
  · refine J_if_neF hX 79 dX11_collectBreaks_68 rfl c_1 ?_
    exact E_thr hX exN dX11_collectBreaks_71 dX11_collectBreaks_74 dX11_collectBreaks_75 dX11_collectBreaks_78 tw_X11_92_94 (ltD hdx rfl) rfl hf
  · refine J_if_neT hX 79 dX11_collectBreaks_68 rfl c_1 ?_
    refine J_aload_n hX 0 dX11_collectBreaks_79 rfl rfl ?_
    refine J_getR hX 23 dX11_collectBreaks_80 fl_X11_60 ob_1 rfl rfl ?_
    refine J_aload_n hX 0 dX11_collectBreaks_83 rfl rfl ?_
    refine J_getR hX 2 dX11_collectBreaks_84 fl_X11_10 ob_1 rfl rfl ?_
    refine J_iload_n hX 1 dX11_collectBreaks_87 rfl rfl ?_
    obtain ⟨r_2, e_3, hf⟩ := bdE hf
    refine V_0 hX [.ref 2, .int x1] dX11_collectBreaks_88 cw_X11_416 ob_23 rfl (C_X0_tell (okG hX) e_3) (ltD hdx rfl) rfl rfl rfl rfl ?_
    refine J_aload_n hX 0 dX11_collectBreaks_91 rfl rfl ?_
    refine J_getR hX 23 dX11_collectBreaks_92 fl_X11_60 ob_1 rfl rfl ?_
    refine J_aload_n hX 0 dX11_collectBreaks_95 rfl rfl ?_
    refine J_getR hX 100 dX11_collectBreaks_96 fl_X11_19 ob_1 rfl rfl ?_
    refine J_aload_n hX 0 dX11_collectBreaks_99 rfl rfl ?_
    refine J_getR hX 116 dX11_collectBreaks_100 fl_X11_23 ob_1 rfl rfl ?_
    refine J_aload_n hX 0 dX11_collectBreaks_103 rfl rfl ?_
    refine J_getR hX 4 dX11_collectBreaks_104 fl_X11_39 ob_1 rfl rfl ?_
    refine J_getR hX 5 dX11_collectBreaks_107 fl_X11_182 ob_4 rfl rfl ?_
    obtain ⟨r_4, e_5, hf⟩ := bdE hf
    refine V_0 hX [.ref 100, .ref 116, .ref 5] dX11_collectBreaks_110 cw_X11_420 ob_23 rfl (C_X0_collect (okG hX) isc_100 isc_116 e_5) (ltD hdx rfl) rfl rfl rfl rfl ?_
    exact E_Vx hX dX11_collectBreaks_113 hf
set_option maxRecDepth 100000 in
set_option maxHeartbeats 200000 in
theorem T_X11_collectBreaks_36_s {X : CX} (hX : Ok X cX11_collectBreaks 4 RX11 none) (hdx : dX X = 10) {r : Except String Unit × Hp} (x1 : Int32) (q_36 : Int32 → Int32 → Hp → Option (Except String Unit × Hp)) (hq_36 : ∀ (x2 : Int32) (x3 : Int32) (h : Hp), q_36 x2 x3 h = some r → J X (oX tvV r) 36 [(0, .ref 1), (1, .int x1), (2, .int x2), (3, .int x3)] [] h) (x2 : Int32) (x3 : Int32) (h : Hp) (hf : S_X11_collectBreaks_36 x1 q_36 x2 x3 h = some r) : J X (oX tvV r) 36 [(0, .ref 1), (1, .int x1), (2, .int x2), (3, .int x3)] [] h := by
  unfold S_X11_collectBreaks_36 at hf
  refine J_iload_n hX 2 dX11_collectBreaks_36 rfl rfl ?_
  rcases ifE hf with ⟨c_1, hf⟩ | ⟨c_1, hf⟩
  · refine J_if_eqT hX 67 dX11_collectBreaks_37 rfl c_1 ?_
    refine J_sub [0, 1, 2] [(0, .ref 1), (1, .int x1), (2, .int x2)] rfl ?_
    exact T_X11_collectBreaks_67 hX hdx x1 x2 h hf
  · refine J_if_eqF hX 67 dX11_collectBreaks_37 rfl c_1 ?_
    refine J_iload_n hX 3 dX11_collectBreaks_40 rfl rfl ?_
    refine J_iload_n hX 1 dX11_collectBreaks_41 rfl rfl ?_
    rcases ifE hf with ⟨c_2, hf⟩ | ⟨c_2, hf⟩
    · refine J_icmp_geF hX 67 dX11_collectBreaks_42 rfl c_2 ?_
      refine J_aload_n hX 0 dX11_collectBreaks_45 rfl rfl ?_
      refine J_getR hX 100 dX11_collectBreaks_46 fl_X11_19 ob_1 rfl rfl ?_
      refine J_aload_n hX 0 dX11_collectBreaks_49 rfl rfl ?_
      refine J_getR hX 2 dX11_collectBreaks_50 fl_X11_10 ob_1 rfl rfl ?_
      refine J_iload_n hX 3 dX11_collectBreaks_53 rfl rfl ?_
      obtain ⟨r_3, e_4, hf⟩ := bdE hf
      refine V_1 hX [.int x3] dX11_collectBreaks_54 cw_X11_413 ob_2 rfl (C_X10_byteAt (okG hX) e_4) (ltD hdx rfl) rfl rfl rfl rfl ?_
      refine V_1 hX [.int r_3] dX11_collectBreaks_57 cw_X11_131 (city_ob isc_100) rfl (C_X1_isHouse (okG hX) isc_100 rfl) (ltD hdx rfl) rfl rfl rfl rfl ?_
      obtain ⟨x2_5, e_6, hf⟩ := bndE hf
      refine J_nm e_6 ?_
      refine J_istore_n hX [(2, .int x2_5), (0, .ref 1), (1, .int x1), (3, .int x3)] dX11_collectBreaks_60 rfl rfl rfl ?_
      refine J_iinc hX (x3 + 2) 3 [(3, .int (x3 + 2)), (2, .int x2_5), (0, .ref 1), (1, .int x1)] dX11_collectBreaks_61 rfl rfl rfl rfl ?_
      refine J_goto hX 36 dX11_collectBreaks_64 rfl ?_
      refine J_sub [2, 3, 1, 0] [(0, .ref 1), (1, .int x1), (2, .int x2_5), (3, .int (x3 + 2))] rfl ?_
      exact hq_36 x2_5 (x3 + 2) h hf
    · refine J_icmp_geT hX 67 dX11_collectBreaks_42 rfl c_2 ?_
      refine J_sub [0, 1, 2] [(0, .ref 1), (1, .int x1), (2, .int x2)] rfl ?_
      exact T_X11_collectBreaks_67 hX hdx x1 x2 h hf
set_option maxRecDepth 100000 in
set_option maxHeartbeats 200000 in
theorem T_X11_collectBreaks_36 {X : CX} (hX : Ok X cX11_collectBreaks 4 RX11 none) (hdx : dX X = 10) {r : Except String Unit × Hp} (x1 : Int32) : ∀ (n : Nat) (x2 : Int32) (x3 : Int32) (h : Hp), F_X11_collectBreaks_36 x1 n x2 x3 h = some r → J X (oX tvV r) 36 [(0, .ref 1), (1, .int x1), (2, .int x2), (3, .int x3)] [] h := by
  intro n
  induction n with
  | zero => intro x2 x3 h hf; exact nomatch hf
  | succ n ih => intro x2 x3 h hf; exact T_X11_collectBreaks_36_s hX hdx x1 _ (fun x2 x3 h hf => ih x2 x3 h hf) x2 x3 h hf
set_option maxRecDepth 100000 in
set_option maxHeartbeats 200000 in
theorem T_X11_collectBreaks_0 {X : CX} (hX : Ok X cX11_collectBreaks 4 RX11 none) (hdx : dX X = 10) {r : Except String Unit × Hp} (h : Hp) (hf : f_X11_collectBreaks h = some r) : J X (oX tvV r) 0 [(0, .ref 1)] [] h := by
  unfold f_X11_collectBreaks at hf
  refine J_aload_n hX 0 dX11_collectBreaks_0 rfl rfl ?_
  refine J_getR hX 2 dX11_collectBreaks_1 fl_X11_10 ob_1 rfl rfl ?_
  refine J_getI hX dX11_collectBreaks_4 fl_X11_74 ob_2 rfl ?_
  refine J_istore_n hX [(1, .int (h 2 1)), (0, .ref 1)] dX11_collectBreaks_7 rfl rfl rfl ?_
  refine J_aload_n hX 1 dX11_collectBreaks_8 rfl rfl ?_
  refine J_getR hX 2 dX11_collectBreaks_9 fl_X11_10 ob_1 rfl rfl ?_
  refine J_iconst hX 0 dX11_collectBreaks_12 rfl ?_
  obtain ⟨h_1, e_2, hf⟩ := bndE hf
  refine J_putI hX dX11_collectBreaks_13 fl_X11_74 fw_8_1 ob_2 rfl rfl rfl ?_
  refine J_nmh e_2 ?_
  refine J_iload_n hX 0 dX11_collectBreaks_16 rfl rfl ?_
  refine J_bipush hX 40 dX11_collectBreaks_17 rfl ?_
  rcases ifE hf with ⟨c_3, hf⟩ | ⟨c_3, hf⟩
  · refine J_icmp_gtT hX 32 dX11_collectBreaks_19 rfl c_3 ?_
    refine J_iconst hX 0 dX11_collectBreaks_32 rfl ?_
    refine J_istore_n hX [(2, .int 0), (1, .int (h 2 1)), (0, .ref 1)] dX11_collectBreaks_33 rfl rfl rfl ?_
    refine J_iconst hX 0 dX11_collectBreaks_34 rfl ?_
    refine J_istore_n hX [(3, .int 0), (2, .int 0), (1, .int (h 2 1)), (0, .ref 1)] dX11_collectBreaks_35 rfl rfl rfl ?_
    refine J_sub [3, 2, 1, 0] [(0, .ref 1), (1, .int (h 2 1)), (2, .int 0), (3, .int 0)] rfl ?_
    exact T_X11_collectBreaks_36 hX hdx (h 2 1) FU 0 0 h_1 hf
  · refine J_icmp_gtF hX 32 dX11_collectBreaks_19 rfl c_3 ?_
    refine J_iload_n hX 0 dX11_collectBreaks_22 rfl rfl ?_
    refine J_iconst hX 2 dX11_collectBreaks_23 rfl ?_
    refine J_irem hX (by decide) dX11_collectBreaks_24 ?_
    rcases ifE hf with ⟨c_4, hf⟩ | ⟨c_4, hf⟩
    · refine J_if_neF hX 32 dX11_collectBreaks_25 rfl c_4 ?_
      refine J_iconst hX 1 dX11_collectBreaks_28 rfl ?_
      refine J_goto hX 33 dX11_collectBreaks_29 rfl ?_
      refine J_istore_n hX [(2, .int 1), (1, .int (h 2 1)), (0, .ref 1)] dX11_collectBreaks_33 rfl rfl rfl ?_
      refine J_iconst hX 0 dX11_collectBreaks_34 rfl ?_
      refine J_istore_n hX [(3, .int 0), (2, .int 1), (1, .int (h 2 1)), (0, .ref 1)] dX11_collectBreaks_35 rfl rfl rfl ?_
      refine J_sub [3, 2, 1, 0] [(0, .ref 1), (1, .int (h 2 1)), (2, .int 1), (3, .int 0)] rfl ?_
      exact T_X11_collectBreaks_36 hX hdx (h 2 1) FU 1 0 h_1 hf
    · refine J_if_neT hX 32 dX11_collectBreaks_25 rfl c_4 ?_
      refine J_iconst hX 0 dX11_collectBreaks_32 rfl ?_
      refine J_istore_n hX [(2, .int 0), (1, .int (h 2 1)), (0, .ref 1)] dX11_collectBreaks_33 rfl rfl rfl ?_
      refine J_iconst hX 0 dX11_collectBreaks_34 rfl ?_
      refine J_istore_n hX [(3, .int 0), (2, .int 0), (1, .int (h 2 1)), (0, .ref 1)] dX11_collectBreaks_35 rfl rfl rfl ?_
      refine J_sub [3, 2, 1, 0] [(0, .ref 1), (1, .int (h 2 1)), (2, .int 0), (3, .int 0)] rfl ?_
      exact T_X11_collectBreaks_36 hX hdx (h 2 1) FU 0 0 h_1 hf
set_option maxRecDepth 100000 in
set_option maxHeartbeats 200000 in
theorem C_X11_collectBreaks {G : GX} (hG : GOk G) {h : Hp} {r : Except String Unit × Hp} (hf : f_X11_collectBreaks h = some r) : Ctr G 10 yX11_collectBreaks cX11_collectBreaks 4 none [.ref 1] h (oX tvV r) :=
  Ctr_of hG RX11 rfl (by decide) rfl (fun X _ hdx hX => T_X11_collectBreaks_0 hX hdx h hf)
theorem dX11_broken_0 : decode cX11_broken 0 = .ok (.aload_n 0, 1) := by decide +kernel
theorem dX11_broken_1 : decode cX11_broken 1 = .ok (.invokevirtual 323, 3) := by decide +kernel
theorem dX11_broken_4 : decode cX11_broken 4 = .ok (.iload_n 1, 1) := by decide +kernel
theorem dX11_broken_5 : decode cX11_broken 5 = .ok (.ifCond .ne 11, 3) := by decide +kernel
theorem dX11_broken_8 : decode cX11_broken 8 = .ok (.aload_n 0, 1) := by decide +kernel
theorem dX11_broken_9 : decode cX11_broken 9 = .ok (.getfield 60, 3) := by decide +kernel
theorem dX11_broken_12 : decode cX11_broken 12 = .ok (.getfield 326, 3) := by decide +kernel
theorem dX11_broken_15 : decode cX11_broken 15 = .ok (.ireturn, 1) := by decide +kernel
theorem dX11_broken_16 : decode cX11_broken 16 = .ok (.aload_n 0, 1) := by decide +kernel
theorem dX11_broken_17 : decode cX11_broken 17 = .ok (.getfield 60, 3) := by decide +kernel
theorem dX11_broken_20 : decode cX11_broken 20 = .ok (.getfield 326, 3) := by decide +kernel
theorem dX11_broken_23 : decode cX11_broken 23 = .ok (.ifCond .le 15, 3) := by decide +kernel
theorem dX11_broken_26 : decode cX11_broken 26 = .ok (.aload_n 0, 1) := by decide +kernel
theorem dX11_broken_27 : decode cX11_broken 27 = .ok (.getfield 60, 3) := by decide +kernel
theorem dX11_broken_30 : decode cX11_broken 30 = .ok (.getfield 329, 3) := by decide +kernel
theorem dX11_broken_33 : decode cX11_broken 33 = .ok (.iconst 0, 1) := by decide +kernel
theorem dX11_broken_34 : decode cX11_broken 34 = .ok (.iaload, 1) := by decide +kernel
theorem dX11_broken_35 : decode cX11_broken 35 = .ok (.goto 4, 3) := by decide +kernel
theorem dX11_broken_38 : decode cX11_broken 38 = .ok (.iconst (-1), 1) := by decide +kernel
theorem dX11_broken_39 : decode cX11_broken 39 = .ok (.ireturn, 1) := by decide +kernel
set_option maxRecDepth 100000 in
set_option maxHeartbeats 200000 in
theorem T_X11_broken_0 {X : CX} (hX : Ok X cX11_broken 2 RX11 (some .int)) (hdx : dX X = 11) {r : Except String Int32 × Hp} (x1 : Int32) (h : Hp) (hf : f_X11_broken x1 h = some r) : J X (oX tvI r) 0 [(0, .ref 1), (1, .int x1)] [] h := by
  unfold f_X11_broken at hf
  refine J_aload_n hX 0 dX11_broken_0 rfl rfl ?_
  obtain ⟨r_1, e_2, hf⟩ := bdE hf
  rcases exE hf with ⟨v_3, h_4, z_6, hg⟩ | ⟨E_5, h_4, z_6, z_6r⟩
  all_goals clear hf
  rotate_left
  · subst z_6
    exact V_kx hX [] dX11_broken_1 cw_X11_323 ob_1 rfl (C_X11_collectBreaks (okG hX) e_2) (ltD hdx rfl) rfl rfl rfl rfl z_6r
  subst z_6
  have hf := hg
  clear hg
  refine V_k0 hX [] dX11_broken_1 cw_X11_323 ob_1 rfl (C_X11_collectBreaks (okG hX) e_2) (ltD hdx rfl) rfl rfl rfl rfl rfl ?_
  refine J_iload_n hX 1 dX11_broken_4 rfl rfl ?_
  rcases ifE hf with ⟨c_7, hf⟩ | ⟨c_7, hf⟩
  · refine J_if_neF hX 16 dX11_broken_5 rfl c_7 ?_
    refine J_aload_n hX 0 dX11_broken_8 rfl rfl ?_
    refine J_getR hX 23 dX11_broken_9 fl_X11_60 ob_1 rfl rfl ?_
    refine J_getI hX dX11_broken_12 fl_X11_326 ob_23 rfl ?_
    exact E_Ix hX dX11_broken_15 hf
  · refine J_if_neT hX 16 dX11_broken_5 rfl c_7 ?_
    refine J_aload_n hX 0 dX11_broken_16 rfl rfl ?_
    refine J_getR hX 23 dX11_broken_17 fl_X11_60 ob_1 rfl rfl ?_
    refine J_getI hX dX11_broken_20 fl_X11_326 ob_23 rfl ?_
    rcases ifE hf with ⟨c_8, hf⟩ | ⟨c_8, hf⟩
    · refine J_if_leF hX 38 dX11_broken_23 rfl c_8 ?_
      refine J_aload_n hX 0 dX11_broken_26 rfl rfl ?_
      refine J_getR hX 23 dX11_broken_27 fl_X11_60 ob_1 rfl rfl ?_
      refine J_getR hX 24 dX11_broken_30 fl_X11_329 ob_23 rfl rfl ?_
      refine J_iconst hX 0 dX11_broken_33 rfl ?_
      refine J_ald hX 0 dX11_broken_34 ar_24 (Or.inl ⟨rfl, rfl⟩) (by decide) (by decide) ?_
      refine J_goto hX 39 dX11_broken_35 rfl ?_
      exact E_Ix hX dX11_broken_39 hf
    · refine J_if_leT hX 38 dX11_broken_23 rfl c_8 ?_
      refine J_iconst hX (-1) dX11_broken_38 rfl ?_
      exact E_Ix hX dX11_broken_39 hf
set_option maxRecDepth 100000 in
set_option maxHeartbeats 200000 in
theorem C_X11_broken {G : GX} (hG : GOk G) {x1 : Int32} {h : Hp} {r : Except String Int32 × Hp} (hf : f_X11_broken x1 h = some r) : Ctr G 11 yX11_broken cX11_broken 2 (some .int) [.ref 1, .int x1] h (oX tvI r) :=
  Ctr_of hG RX11 rfl (by decide) rfl (fun X _ hdx hX => T_X11_broken_0 hX hdx x1 h hf)
theorem dX11_tap_0 : decode cX11_tap 0 = .ok (.aload_n 0, 1) := by decide +kernel
theorem dX11_tap_1 : decode cX11_tap 1 = .ok (.invokevirtual 323, 3) := by decide +kernel
theorem dX11_tap_4 : decode cX11_tap 4 = .ok (.aload_n 0, 1) := by decide +kernel
theorem dX11_tap_5 : decode cX11_tap 5 = .ok (.getfield 60, 3) := by decide +kernel
theorem dX11_tap_8 : decode cX11_tap 8 = .ok (.getfield 326, 3) := by decide +kernel
theorem dX11_tap_11 : decode cX11_tap 11 = .ok (.iconst 2, 1) := by decide +kernel
theorem dX11_tap_12 : decode cX11_tap 12 = .ok (.if_icmp .ge 7, 3) := by decide +kernel
theorem dX11_tap_15 : decode cX11_tap 15 = .ok (.iconst (-1), 1) := by decide +kernel
theorem dX11_tap_16 : decode cX11_tap 16 = .ok (.goto 17, 3) := by decide +kernel
theorem dX11_tap_19 : decode cX11_tap 19 = .ok (.aload_n 0, 1) := by decide +kernel
theorem dX11_tap_20 : decode cX11_tap 20 = .ok (.getfield 60, 3) := by decide +kernel
theorem dX11_tap_23 : decode cX11_tap 23 = .ok (.aload_n 0, 1) := by decide +kernel
theorem dX11_tap_24 : decode cX11_tap 24 = .ok (.getfield 19, 3) := by decide +kernel
theorem dX11_tap_27 : decode cX11_tap 27 = .ok (.getfield 229, 3) := by decide +kernel
theorem dX11_tap_30 : decode cX11_tap 30 = .ok (.invokevirtual 332, 3) := by decide +kernel
theorem dX11_tap_33 : decode cX11_tap 33 = .ok (.ireturn, 1) := by decide +kernel
set_option maxRecDepth 100000 in
set_option maxHeartbeats 200000 in
theorem T_X11_tap_0 {X : CX} (hX : Ok X cX11_tap 1 RX11 (some .int)) (hdx : dX X = 11) {r : Except String Int32 × Hp} (h : Hp) (hf : f_X11_tap h = some r) : J X (oX tvI r) 0 [(0, .ref 1)] [] h := by
  unfold f_X11_tap at hf
  refine J_aload_n hX 0 dX11_tap_0 rfl rfl ?_
  obtain ⟨r_1, e_2, hf⟩ := bdE hf
  rcases exE hf with ⟨v_3, h_4, z_6, hg⟩ | ⟨E_5, h_4, z_6, z_6r⟩
  all_goals clear hf
  rotate_left
  · subst z_6
    exact V_kx hX [] dX11_tap_1 cw_X11_323 ob_1 rfl (C_X11_collectBreaks (okG hX) e_2) (ltD hdx rfl) rfl rfl rfl rfl z_6r
  subst z_6
  have hf := hg
  clear hg
  refine V_k0 hX [] dX11_tap_1 cw_X11_323 ob_1 rfl (C_X11_collectBreaks (okG hX) e_2) (ltD hdx rfl) rfl rfl rfl rfl rfl ?_
  refine J_aload_n hX 0 dX11_tap_4 rfl rfl ?_
  refine J_getR hX 23 dX11_tap_5 fl_X11_60 ob_1 rfl rfl ?_
  refine J_getI hX dX11_tap_8 fl_X11_326 ob_23 rfl ?_
  refine J_iconst hX 2 dX11_tap_11 rfl ?_
  rcases ifE hf with ⟨c_7, hf⟩ | ⟨c_7, hf⟩
  · refine J_icmp_geF hX 19 dX11_tap_12 rfl c_7 ?_
    refine J_iconst hX (-1) dX11_tap_15 rfl ?_
    refine J_goto hX 33 dX11_tap_16 rfl ?_
    exact E_Ix hX dX11_tap_33 hf
  · refine J_icmp_geT hX 19 dX11_tap_12 rfl c_7 ?_
    refine J_aload_n hX 0 dX11_tap_19 rfl rfl ?_
    refine J_getR hX 23 dX11_tap_20 fl_X11_60 ob_1 rfl rfl ?_
    refine J_aload_n hX 0 dX11_tap_23 rfl rfl ?_
    refine J_getR hX 100 dX11_tap_24 fl_X11_19 ob_1 rfl rfl ?_
    refine J_getI hX dX11_tap_27 fl_X11_229 (city_ob isc_100) rfl ?_
    obtain ⟨r_8, e_9, hf⟩ := bdE hf
    refine V_1 hX [.int (h_4 100 11)] dX11_tap_30 cw_X11_332 ob_23 rfl (C_X0_bestTap (okG hX) e_9) (ltD hdx rfl) rfl rfl rfl rfl ?_
    exact E_Ix hX dX11_tap_33 hf
set_option maxRecDepth 100000 in
set_option maxHeartbeats 200000 in
theorem C_X11_tap {G : GX} (hG : GOk G) {h : Hp} {r : Except String Int32 × Hp} (hf : f_X11_tap h = some r) : Ctr G 11 yX11_tap cX11_tap 1 (some .int) [.ref 1] h (oX tvI r) :=
  Ctr_of hG RX11 rfl (by decide) rfl (fun X _ hdx hX => T_X11_tap_0 hX hdx h hf)
theorem dX11_sagWed_0 : decode cX11_sagWed 0 = .ok (.aload_n 0, 1) := by decide +kernel
theorem dX11_sagWed_1 : decode cX11_sagWed 1 = .ok (.getfield 23, 3) := by decide +kernel
theorem dX11_sagWed_4 : decode cX11_sagWed 4 = .ok (.aload_n 0, 1) := by decide +kernel
theorem dX11_sagWed_5 : decode cX11_sagWed 5 = .ok (.getfield 19, 3) := by decide +kernel
theorem dX11_sagWed_8 : decode cX11_sagWed 8 = .ok (.invokevirtual 82, 3) := by decide +kernel
theorem dX11_sagWed_11 : decode cX11_sagWed 11 = .ok (.aload_n 0, 1) := by decide +kernel
theorem dX11_sagWed_12 : decode cX11_sagWed 12 = .ok (.getfield 23, 3) := by decide +kernel
theorem dX11_sagWed_15 : decode cX11_sagWed 15 = .ok (.iload_n 1, 1) := by decide +kernel
theorem dX11_sagWed_16 : decode cX11_sagWed 16 = .ok (.iload_n 2, 1) := by decide +kernel
theorem dX11_sagWed_17 : decode cX11_sagWed 17 = .ok (.invokevirtual 274, 3) := by decide +kernel
theorem dX11_sagWed_20 : decode cX11_sagWed 20 = .ok (.aload_n 0, 1) := by decide +kernel
theorem dX11_sagWed_21 : decode cX11_sagWed 21 = .ok (.getfield 39, 3) := by decide +kernel
theorem dX11_sagWed_24 : decode cX11_sagWed 24 = .ok (.getfield 182, 3) := by decide +kernel
theorem dX11_sagWed_27 : decode cX11_sagWed 27 = .ok (.aload_n 0, 1) := by decide +kernel
theorem dX11_sagWed_28 : decode cX11_sagWed 28 = .ok (.getfield 23, 3) := by decide +kernel
theorem dX11_sagWed_31 : decode cX11_sagWed 31 = .ok (.aload_n 0, 1) := by decide +kernel
theorem dX11_sagWed_32 : decode cX11_sagWed 32 = .ok (.getfield 29, 3) := by decide +kernel
theorem dX11_sagWed_35 : decode cX11_sagWed 35 = .ok (.aload_n 0, 1) := by decide +kernel
theorem dX11_sagWed_36 : decode cX11_sagWed 36 = .ok (.getfield 23, 3) := by decide +kernel
theorem dX11_sagWed_39 : decode cX11_sagWed 39 = .ok (.getfield 205, 3) := by decide +kernel
theorem dX11_sagWed_42 : decode cX11_sagWed 42 = .ok (.invokevirtual 303, 3) := by decide +kernel
theorem dX11_sagWed_45 : decode cX11_sagWed 45 = .ok (.aload_n 0, 1) := by decide +kernel
theorem dX11_sagWed_46 : decode cX11_sagWed 46 = .ok (.getfield 39, 3) := by decide +kernel
theorem dX11_sagWed_49 : decode cX11_sagWed 49 = .ok (.getfield 182, 3) := by decide +kernel
theorem dX11_sagWed_52 : decode cX11_sagWed 52 = .ok (.aload_n 0, 1) := by decide +kernel
theorem dX11_sagWed_53 : decode cX11_sagWed 53 = .ok (.getfield 23, 3) := by decide +kernel
theorem dX11_sagWed_56 : decode cX11_sagWed 56 = .ok (.getfield 229, 3) := by decide +kernel
theorem dX11_sagWed_59 : decode cX11_sagWed 59 = .ok (.invokevirtual 335, 3) := by decide +kernel
theorem dX11_sagWed_62 : decode cX11_sagWed 62 = .ok (.ireturn, 1) := by decide +kernel
set_option maxRecDepth 100000 in
set_option maxHeartbeats 200000 in
theorem T_X11_sagWed_0 {X : CX} (hX : Ok X cX11_sagWed 3 RX11 (some .int)) (hdx : dX X = 6) {r : Int32 × Hp} (x1 : Int32) (x2 : Int32) (h : Hp) (hf : f_X11_sagWed x1 x2 h = some r) : J X ((.inl (some (.int r.1)), r.2)) 0 [(0, .ref 1), (1, .int x1), (2, .int x2)] [] h := by
  unfold f_X11_sagWed at hf
  refine J_aload_n hX 0 dX11_sagWed_0 rfl rfl ?_
  refine J_getR hX 116 dX11_sagWed_1 fl_X11_23 ob_1 rfl rfl ?_
  refine J_aload_n hX 0 dX11_sagWed_4 rfl rfl ?_
  refine J_getR hX 100 dX11_sagWed_5 fl_X11_19 ob_1 rfl rfl ?_
  obtain ⟨r_1, e_2, hf⟩ := bdE hf
  refine V_0 hX [.ref 100] dX11_sagWed_8 cw_X11_82 (city_ob isc_116) rfl (C_X1_copyFrom (okG hX) isc_116 isc_100 e_2) (ltD hdx rfl) rfl rfl rfl rfl ?_
  refine J_aload_n hX 0 dX11_sagWed_11 rfl rfl ?_
  refine J_getR hX 116 dX11_sagWed_12 fl_X11_23 ob_1 rfl rfl ?_
  refine J_iload_n hX 1 dX11_sagWed_15 rfl rfl ?_
  refine J_iload_n hX 2 dX11_sagWed_16 rfl rfl ?_
  obtain ⟨r_3, e_4, hf⟩ := bdE hf
  refine V_0 hX [.int x1, .int x2] dX11_sagWed_17 cw_X11_274 (city_ob isc_116) rfl (C_X1_marry (okG hX) isc_116 e_4) (ltD hdx rfl) rfl rfl rfl rfl ?_
  refine J_aload_n hX 0 dX11_sagWed_20 rfl rfl ?_
  refine J_getR hX 4 dX11_sagWed_21 fl_X11_39 ob_1 rfl rfl ?_
  refine J_getR hX 5 dX11_sagWed_24 fl_X11_182 ob_4 rfl rfl ?_
  refine J_aload_n hX 0 dX11_sagWed_27 rfl rfl ?_
  refine J_getR hX 116 dX11_sagWed_28 fl_X11_23 ob_1 rfl rfl ?_
  refine J_aload_n hX 0 dX11_sagWed_31 rfl rfl ?_
  refine J_getR hX 500 dX11_sagWed_32 fl_X11_29 ob_1 rfl rfl ?_
  refine J_aload_n hX 0 dX11_sagWed_35 rfl rfl ?_
  refine J_getR hX 116 dX11_sagWed_36 fl_X11_23 ob_1 rfl rfl ?_
  refine J_getI hX dX11_sagWed_39 fl_X11_205 (city_ob isc_116) rfl ?_
  obtain ⟨r_5, e_6, hf⟩ := bdE hf
  refine V_0 hX [.ref 116, .ref 500, .int (r_3 116 12)] dX11_sagWed_42 cw_X11_303 ob_5 rfl (C_X9_measure (okG hX) isc_116 isl_500 e_6) (ltD hdx rfl) rfl rfl rfl rfl ?_
  refine J_aload_n hX 0 dX11_sagWed_45 rfl rfl ?_
  refine J_getR hX 4 dX11_sagWed_46 fl_X11_39 ob_1 rfl rfl ?_
  refine J_getR hX 5 dX11_sagWed_49 fl_X11_182 ob_4 rfl rfl ?_
  refine J_aload_n hX 0 dX11_sagWed_52 rfl rfl ?_
  refine J_getR hX 116 dX11_sagWed_53 fl_X11_23 ob_1 rfl rfl ?_
  refine J_getI hX dX11_sagWed_56 fl_X11_229 (city_ob isc_116) rfl ?_
  obtain ⟨r_7, e_8, hf⟩ := bdE hf
  refine V_1 hX [.int (r_5 116 11)] dX11_sagWed_59 cw_X11_335 ob_5 rfl (C_X9_greatestSag (okG hX) e_8) (ltD hdx rfl) rfl rfl rfl rfl ?_
  exact E_Ii hX dX11_sagWed_62 hf
set_option maxRecDepth 100000 in
set_option maxHeartbeats 200000 in
theorem C_X11_sagWed {G : GX} (hG : GOk G) {x1 : Int32} {x2 : Int32} {h : Hp} {r : Int32 × Hp} (hf : f_X11_sagWed x1 x2 h = some r) : Ctr G 6 yX11_sagWed cX11_sagWed 3 (some .int) [.ref 1, .int x1, .int x2] h ((.inl (some (.int r.1)), r.2)) :=
  Ctr_of hG RX11 rfl (by decide) rfl (fun X _ hdx hX => T_X11_sagWed_0 hX hdx x1 x2 h hf)
theorem dX11_eases_0 : decode cX11_eases 0 = .ok (.aload_n 0, 1) := by decide +kernel
theorem dX11_eases_1 : decode cX11_eases 1 = .ok (.invokevirtual 151, 3) := by decide +kernel
theorem dX11_eases_4 : decode cX11_eases 4 = .ok (.aload_n 0, 1) := by decide +kernel
theorem dX11_eases_5 : decode cX11_eases 5 = .ok (.getfield 19, 3) := by decide +kernel
theorem dX11_eases_8 : decode cX11_eases 8 = .ok (.getfield 229, 3) := by decide +kernel
theorem dX11_eases_11 : decode cX11_eases 11 = .ok (.invokevirtual 335, 3) := by decide +kernel
theorem dX11_eases_14 : decode cX11_eases 14 = .ok (.istore_n 1, 1) := by decide +kernel
theorem dX11_eases_15 : decode cX11_eases 15 = .ok (.iconst (-1), 1) := by decide +kernel
theorem dX11_eases_16 : decode cX11_eases 16 = .ok (.istore_n 2, 1) := by decide +kernel
theorem dX11_eases_17 : decode cX11_eases 17 = .ok (.iconst 0, 1) := by decide +kernel
theorem dX11_eases_18 : decode cX11_eases 18 = .ok (.istore_n 3, 1) := by decide +kernel
theorem dX11_eases_19 : decode cX11_eases 19 = .ok (.iload_n 3, 1) := by decide +kernel
theorem dX11_eases_20 : decode cX11_eases 20 = .ok (.bipush 8, 2) := by decide +kernel
theorem dX11_eases_22 : decode cX11_eases 22 = .ok (.if_icmp .ge 80, 3) := by decide +kernel
theorem dX11_eases_25 : decode cX11_eases 25 = .ok (.iload_n 3, 1) := by decide +kernel
theorem dX11_eases_26 : decode cX11_eases 26 = .ok (.iconst 1, 1) := by decide +kernel
theorem dX11_eases_27 : decode cX11_eases 27 = .ok (.iadd, 1) := by decide +kernel
theorem dX11_eases_28 : decode cX11_eases 28 = .ok (.istore 4, 2) := by decide +kernel
theorem dX11_eases_30 : decode cX11_eases 30 = .ok (.iload 4, 2) := by decide +kernel
theorem dX11_eases_32 : decode cX11_eases 32 = .ok (.bipush 8, 2) := by decide +kernel
theorem dX11_eases_34 : decode cX11_eases 34 = .ok (.if_icmp .ge 62, 3) := by decide +kernel
theorem dX11_eases_37 : decode cX11_eases 37 = .ok (.aload_n 0, 1) := by decide +kernel
theorem dX11_eases_38 : decode cX11_eases 38 = .ok (.getfield 19, 3) := by decide +kernel
theorem dX11_eases_41 : decode cX11_eases 41 = .ok (.iload_n 3, 1) := by decide +kernel
theorem dX11_eases_42 : decode cX11_eases 42 = .ok (.invokevirtual 148, 3) := by decide +kernel
theorem dX11_eases_45 : decode cX11_eases 45 = .ok (.ifCond .eq 25, 3) := by decide +kernel
theorem dX11_eases_48 : decode cX11_eases 48 = .ok (.aload_n 0, 1) := by decide +kernel
theorem dX11_eases_49 : decode cX11_eases 49 = .ok (.getfield 19, 3) := by decide +kernel
theorem dX11_eases_52 : decode cX11_eases 52 = .ok (.iload 4, 2) := by decide +kernel
theorem dX11_eases_54 : decode cX11_eases 54 = .ok (.invokevirtual 148, 3) := by decide +kernel
theorem dX11_eases_57 : decode cX11_eases 57 = .ok (.ifCond .eq 13, 3) := by decide +kernel
theorem dX11_eases_60 : decode cX11_eases 60 = .ok (.aload_n 0, 1) := by decide +kernel
theorem dX11_eases_61 : decode cX11_eases 61 = .ok (.iload_n 3, 1) := by decide +kernel
theorem dX11_eases_62 : decode cX11_eases 62 = .ok (.iload 4, 2) := by decide +kernel
theorem dX11_eases_64 : decode cX11_eases 64 = .ok (.invokevirtual 338, 3) := by decide +kernel
theorem dX11_eases_67 : decode cX11_eases 67 = .ok (.goto 4, 3) := by decide +kernel
theorem dX11_eases_70 : decode cX11_eases 70 = .ok (.iload_n 1, 1) := by decide +kernel
theorem dX11_eases_71 : decode cX11_eases 71 = .ok (.istore 5, 2) := by decide +kernel
theorem dX11_eases_73 : decode cX11_eases 73 = .ok (.iload 5, 2) := by decide +kernel
theorem dX11_eases_75 : decode cX11_eases 75 = .ok (.iload_n 1, 1) := by decide +kernel
theorem dX11_eases_76 : decode cX11_eases 76 = .ok (.if_icmp .ge 14, 3) := by decide +kernel
theorem dX11_eases_79 : decode cX11_eases 79 = .ok (.iload 5, 2) := by decide +kernel
theorem dX11_eases_81 : decode cX11_eases 81 = .ok (.istore_n 1, 1) := by decide +kernel
theorem dX11_eases_82 : decode cX11_eases 82 = .ok (.bipush 8, 2) := by decide +kernel
theorem dX11_eases_84 : decode cX11_eases 84 = .ok (.iload_n 3, 1) := by decide +kernel
theorem dX11_eases_85 : decode cX11_eases 85 = .ok (.imul, 1) := by decide +kernel
theorem dX11_eases_86 : decode cX11_eases 86 = .ok (.iload 4, 2) := by decide +kernel
theorem dX11_eases_88 : decode cX11_eases 88 = .ok (.iadd, 1) := by decide +kernel
theorem dX11_eases_89 : decode cX11_eases 89 = .ok (.istore_n 2, 1) := by decide +kernel
theorem dX11_eases_90 : decode cX11_eases 90 = .ok (.iinc 4 1, 3) := by decide +kernel
theorem dX11_eases_93 : decode cX11_eases 93 = .ok (.goto (-63), 3) := by decide +kernel
theorem dX11_eases_96 : decode cX11_eases 96 = .ok (.iinc 3 1, 3) := by decide +kernel
theorem dX11_eases_99 : decode cX11_eases 99 = .ok (.goto (-80), 3) := by decide +kernel
theorem dX11_eases_102 : decode cX11_eases 102 = .ok (.iload_n 2, 1) := by decide +kernel
theorem dX11_eases_103 : decode cX11_eases 103 = .ok (.ireturn, 1) := by decide +kernel
set_option maxRecDepth 100000 in
set_option maxHeartbeats 200000 in
theorem T_X11_eases_71 {X : CX} (hX : Ok X cX11_eases 6 RX11 (some .int)) (hdx : dX X = 7) {r : Int32 × Hp} (x1 : Int32) (x2 : Int32) (x3 : Int32) (x4 : Int32) (t0 : Int32) (q_19 : Int32 → Int32 → Int32 → Hp → Option (Int32 × Hp)) (hq_19 : ∀ (x1 : Int32) (x2 : Int32) (x3 : Int32) (h : Hp), q_19 x1 x2 x3 h = some r → J X ((.inl (some (.int r.1)), r.2)) 19 [(0, .ref 1), (1, .int x1), (2, .int x2), (3, .int x3)] [] h) (q_30 : Int32 → Int32 → Int32 → Hp → Option (Int32 × Hp)) (hq_30 : ∀ (x1 : Int32) (x2 : Int32) (x4 : Int32) (h : Hp), q_30 x1 x2 x4 h = some r → J X ((.inl (some (.int r.1)), r.2)) 30 [(0, .ref 1), (1, .int x1), (2, .int x2), (3, .int x3), (4, .int x4)] [] h) (h : Hp) (hf : F_X11_eases_71 q_19 q_30 x1 x2 x3 x4 t0 h = some r) : J X ((.inl (some (.int r.1)), r.2)) 71 [(0, .ref 1), (1, .int x1), (2, .int x2), (3, .int x3), (4, .int x4)] [.int t0] h := by
  unfold F_X11_eases_71 at hf
  refine J_istore hX [(5, .int t0), (0, .ref 1), (1, .int x1), (2, .int x2), (3, .int x3), (4, .int x4)] dX11_eases_71 rfl rfl ?_
  refine J_iload hX 0 dX11_eases_73 rfl ?_
  refine J_iload_n hX 2 dX11_eases_75 rfl rfl ?_
  rcases ifE hf with ⟨c_1, hf⟩ | ⟨c_1, hf⟩
  · refine J_icmp_geF hX 90 dX11_eases_76 rfl c_1 ?_
    refine J_iload hX 0 dX11_eases_79 rfl ?_
    refine J_istore_n hX [(1, .int t0), (5, .int t0), (0, .ref 1), (2, .int x2), (3, .int x3), (4, .int x4)] dX11_eases_81 rfl rfl rfl ?_
    refine J_bipush hX 8 dX11_eases_82 rfl ?_
    refine J_iload_n hX 4 dX11_eases_84 rfl rfl ?_
    refine J_imul hX dX11_eases_85 ?_
    refine J_iload hX 5 dX11_eases_86 rfl ?_
    refine J_iadd hX dX11_eases_88 ?_
    obtain ⟨x2_2, e_3, hf⟩ := bndE hf
    refine J_nm e_3 ?_
    refine J_istore_n hX [(2, .int x2_2), (1, .int t0), (5, .int t0), (0, .ref 1), (3, .int x3), (4, .int x4)] dX11_eases_89 rfl rfl rfl ?_
    refine J_iinc hX (x4 + 1) 5 [(4, .int (x4 + 1)), (2, .int x2_2), (1, .int t0), (5, .int t0), (0, .ref 1), (3, .int x3)] dX11_eases_90 rfl rfl rfl rfl ?_
    refine J_goto hX 30 dX11_eases_93 rfl ?_
    refine J_sub [4, 2, 1, 5, 0] [(0, .ref 1), (1, .int t0), (2, .int x2_2), (3, .int x3), (4, .int (x4 + 1))] rfl ?_
    exact hq_30 t0 x2_2 (x4 + 1) h hf
  · refine J_icmp_geT hX 90 dX11_eases_76 rfl c_1 ?_
    refine J_iinc hX (x4 + 1) 5 [(4, .int (x4 + 1)), (5, .int t0), (0, .ref 1), (1, .int x1), (2, .int x2), (3, .int x3)] dX11_eases_90 rfl rfl rfl rfl ?_
    refine J_goto hX 30 dX11_eases_93 rfl ?_
    refine J_sub [2, 3, 4, 5, 0] [(0, .ref 1), (1, .int x1), (2, .int x2), (3, .int x3), (4, .int (x4 + 1))] rfl ?_
    exact hq_30 x1 x2 (x4 + 1) h hf
set_option maxRecDepth 100000 in
set_option maxHeartbeats 200000 in
theorem T_X11_eases_30_s {X : CX} (hX : Ok X cX11_eases 6 RX11 (some .int)) (hdx : dX X = 7) {r : Int32 × Hp} (x3 : Int32) (q_19 : Int32 → Int32 → Int32 → Hp → Option (Int32 × Hp)) (hq_19 : ∀ (x1 : Int32) (x2 : Int32) (x3 : Int32) (h : Hp), q_19 x1 x2 x3 h = some r → J X ((.inl (some (.int r.1)), r.2)) 19 [(0, .ref 1), (1, .int x1), (2, .int x2), (3, .int x3)] [] h) (q_30 : Int32 → Int32 → Int32 → Hp → Option (Int32 × Hp)) (hq_30 : ∀ (x1 : Int32) (x2 : Int32) (x4 : Int32) (h : Hp), q_30 x1 x2 x4 h = some r → J X ((.inl (some (.int r.1)), r.2)) 30 [(0, .ref 1), (1, .int x1), (2, .int x2), (3, .int x3), (4, .int x4)] [] h) (x1 : Int32) (x2 : Int32) (x4 : Int32) (h : Hp) (hf : S_X11_eases_30 q_19 x3 q_30 x1 x2 x4 h = some r) : J X ((.inl (some (.int r.1)), r.2)) 30 [(0, .ref 1), (1, .int x1), (2, .int x2), (3, .int x3), (4, .int x4)] [] h := by
  unfold S_X11_eases_30 at hf
  refine J_iload hX 4 dX11_eases_30 rfl ?_
  refine J_bipush hX 8 dX11_eases_32 rfl ?_
  rcases ifE hf with ⟨c_1, hf⟩ | ⟨c_1, hf⟩
  · refine J_icmp_geF hX 96 dX11_eases_34 rfl c_1 ?_
    refine J_aload_n hX 0 dX11_eases_37 rfl rfl ?_
    refine J_getR hX 100 dX11_eases_38 fl_X11_19 ob_1 rfl rfl ?_
    refine J_iload_n hX 3 dX11_eases_41 rfl rfl ?_
    refine V_1 hX [.int x3] dX11_eases_42 cw_X11_148 (city_ob isc_100) rfl (C_X1_isUp (okG hX) isc_100 rfl) (ltD hdx rfl) rfl rfl rfl rfl ?_
    rcases ifE hf with ⟨c_2, hf⟩ | ⟨c_2, hf⟩
    · refine J_if_eqF hX 70 dX11_eases_45 rfl (b2iT c_2) ?_
      refine J_aload_n hX 0 dX11_eases_48 rfl rfl ?_
      refine J_getR hX 100 dX11_eases_49 fl_X11_19 ob_1 rfl rfl ?_
      refine J_iload hX 4 dX11_eases_52 rfl ?_
      refine V_1 hX [.int x4] dX11_eases_54 cw_X11_148 (city_ob isc_100) rfl (C_X1_isUp (okG hX) isc_100 rfl) (ltD hdx rfl) rfl rfl rfl rfl ?_
      rcases ifE hf with ⟨c_3, hf⟩ | ⟨c_3, hf⟩
      · refine J_if_eqF hX 70 dX11_eases_57 rfl (b2iT c_3) ?_
        refine J_aload_n hX 0 dX11_eases_60 rfl rfl ?_
        refine J_iload_n hX 3 dX11_eases_61 rfl rfl ?_
        refine J_iload hX 4 dX11_eases_62 rfl ?_
        obtain ⟨r_4, e_5, hf⟩ := bdE hf
        refine V_1 hX [.int x3, .int x4] dX11_eases_64 cw_X11_338 ob_1 rfl (C_X11_sagWed (okG hX) e_5) (ltD hdx rfl) rfl rfl rfl rfl ?_
        refine J_goto hX 71 dX11_eases_67 rfl ?_
        exact T_X11_eases_71 hX hdx x1 x2 x3 x4 r_4.1 q_19 hq_19 q_30 hq_30 r_4.2 hf
      · refine J_if_eqT hX 70 dX11_eases_57 rfl (b2iF c_3) ?_
        refine J_iload_n hX 1 dX11_eases_70 rfl rfl ?_
        exact T_X11_eases_71 hX hdx x1 x2 x3 x4 x1 q_19 hq_19 q_30 hq_30 h hf
    · refine J_if_eqT hX 70 dX11_eases_45 rfl (b2iF c_2) ?_
      refine J_iload_n hX 1 dX11_eases_70 rfl rfl ?_
      exact T_X11_eases_71 hX hdx x1 x2 x3 x4 x1 q_19 hq_19 q_30 hq_30 h hf
  · refine J_icmp_geT hX 96 dX11_eases_34 rfl c_1 ?_
    refine J_iinc hX (x3 + 1) 3 [(3, .int (x3 + 1)), (0, .ref 1), (1, .int x1), (2, .int x2), (4, .int x4)] dX11_eases_96 rfl rfl rfl rfl ?_
    refine J_goto hX 19 dX11_eases_99 rfl ?_
    refine J_sub [1, 2, 3, 0] [(0, .ref 1), (1, .int x1), (2, .int x2), (3, .int (x3 + 1))] rfl ?_
    exact hq_19 x1 x2 (x3 + 1) h hf
set_option maxRecDepth 100000 in
set_option maxHeartbeats 200000 in
theorem T_X11_eases_30 {X : CX} (hX : Ok X cX11_eases 6 RX11 (some .int)) (hdx : dX X = 7) {r : Int32 × Hp} (x3 : Int32) (q_19 : Int32 → Int32 → Int32 → Hp → Option (Int32 × Hp)) (hq_19 : ∀ (x1 : Int32) (x2 : Int32) (x3 : Int32) (h : Hp), q_19 x1 x2 x3 h = some r → J X ((.inl (some (.int r.1)), r.2)) 19 [(0, .ref 1), (1, .int x1), (2, .int x2), (3, .int x3)] [] h) : ∀ (n : Nat) (x1 : Int32) (x2 : Int32) (x4 : Int32) (h : Hp), F_X11_eases_30 q_19 x3 n x1 x2 x4 h = some r → J X ((.inl (some (.int r.1)), r.2)) 30 [(0, .ref 1), (1, .int x1), (2, .int x2), (3, .int x3), (4, .int x4)] [] h := by
  intro n
  induction n with
  | zero => intro x1 x2 x4 h hf; exact nomatch hf
  | succ n ih => intro x1 x2 x4 h hf; exact T_X11_eases_30_s hX hdx x3 q_19 hq_19 _ (fun x1 x2 x4 h hf => ih x1 x2 x4 h hf) x1 x2 x4 h hf
set_option maxRecDepth 100000 in
set_option maxHeartbeats 200000 in
theorem T_X11_eases_19_s {X : CX} (hX : Ok X cX11_eases 6 RX11 (some .int)) (hdx : dX X = 7) {r : Int32 × Hp} (q_19 : Int32 → Int32 → Int32 → Hp → Option (Int32 × Hp)) (hq_19 : ∀ (x1 : Int32) (x2 : Int32) (x3 : Int32) (h : Hp), q_19 x1 x2 x3 h = some r → J X ((.inl (some (.int r.1)), r.2)) 19 [(0, .ref 1), (1, .int x1), (2, .int x2), (3, .int x3)] [] h) (x1 : Int32) (x2 : Int32) (x3 : Int32) (h : Hp) (hf : S_X11_eases_19 q_19 x1 x2 x3 h = some r) : J X ((.inl (some (.int r.1)), r.2)) 19 [(0, .ref 1), (1, .int x1), (2, .int x2), (3, .int x3)] [] h := by
  unfold S_X11_eases_19 at hf
  refine J_iload_n hX 3 dX11_eases_19 rfl rfl ?_
  refine J_bipush hX 8 dX11_eases_20 rfl ?_
  rcases ifE hf with ⟨c_1, hf⟩ | ⟨c_1, hf⟩
  · refine J_icmp_geF hX 102 dX11_eases_22 rfl c_1 ?_
    refine J_iload_n hX 3 dX11_eases_25 rfl rfl ?_
    refine J_iconst hX 1 dX11_eases_26 rfl ?_
    refine J_iadd hX dX11_eases_27 ?_
    refine J_istore hX [(4, .int (x3 + 1)), (0, .ref 1), (1, .int x1), (2, .int x2), (3, .int x3)] dX11_eases_28 rfl rfl ?_
    refine J_sub [1, 2, 3, 4, 0] [(0, .ref 1), (1, .int x1), (2, .int x2), (3, .int x3), (4, .int (x3 + 1))] rfl ?_
    exact T_X11_eases_30 hX hdx x3 q_19 hq_19 FU x1 x2 (x3 + 1) h hf
  · refine J_icmp_geT hX 102 dX11_eases_22 rfl c_1 ?_
    refine J_iload_n hX 2 dX11_eases_102 rfl rfl ?_
    exact E_Ii hX dX11_eases_103 hf
set_option maxRecDepth 100000 in
set_option maxHeartbeats 200000 in
theorem T_X11_eases_19 {X : CX} (hX : Ok X cX11_eases 6 RX11 (some .int)) (hdx : dX X = 7) {r : Int32 × Hp} : ∀ (n : Nat) (x1 : Int32) (x2 : Int32) (x3 : Int32) (h : Hp), F_X11_eases_19 n x1 x2 x3 h = some r → J X ((.inl (some (.int r.1)), r.2)) 19 [(0, .ref 1), (1, .int x1), (2, .int x2), (3, .int x3)] [] h := by
  intro n
  induction n with
  | zero => intro x1 x2 x3 h hf; exact nomatch hf
  | succ n ih => intro x1 x2 x3 h hf; exact T_X11_eases_19_s hX hdx _ (fun x1 x2 x3 h hf => ih x1 x2 x3 h hf) x1 x2 x3 h hf
set_option maxRecDepth 100000 in
set_option maxHeartbeats 200000 in
theorem T_X11_eases_0 {X : CX} (hX : Ok X cX11_eases 6 RX11 (some .int)) (hdx : dX X = 7) {r : Int32 × Hp} (h : Hp) (hf : f_X11_eases h = some r) : J X ((.inl (some (.int r.1)), r.2)) 0 [(0, .ref 1)] [] h := by
  unfold f_X11_eases at hf
  refine J_aload_n hX 0 dX11_eases_0 rfl rfl ?_
  obtain ⟨r_1, e_2, hf⟩ := bdE hf
  refine V_1 hX [] dX11_eases_1 cw_X11_151 ob_1 rfl (C_X11_measured (okG hX) e_2) (ltD hdx rfl) rfl rfl rfl rfl ?_
  refine J_aload_n hX 0 dX11_eases_4 rfl rfl ?_
  refine J_getR hX 100 dX11_eases_5 fl_X11_19 ob_1 rfl rfl ?_
  refine J_getI hX dX11_eases_8 fl_X11_229 (city_ob isc_100) rfl ?_
  obtain ⟨r_3, e_4, hf⟩ := bdE hf
  refine V_1 hX [.int (r_1 100 11)] dX11_eases_11 cw_X11_335 ob_5 rfl (C_X9_greatestSag (okG hX) e_4) (ltD hdx rfl) rfl rfl rfl rfl ?_
  refine J_istore_n hX [(1, .int r_3), (0, .ref 1)] dX11_eases_14 rfl rfl rfl ?_
  refine J_iconst hX (-1) dX11_eases_15 rfl ?_
  refine J_istore_n hX [(2, .int (-1)), (1, .int r_3), (0, .ref 1)] dX11_eases_16 rfl rfl rfl ?_
  refine J_iconst hX 0 dX11_eases_17 rfl ?_
  refine J_istore_n hX [(3, .int 0), (2, .int (-1)), (1, .int r_3), (0, .ref 1)] dX11_eases_18 rfl rfl rfl ?_
  refine J_sub [3, 2, 1, 0] [(0, .ref 1), (1, .int r_3), (2, .int (-1)), (3, .int 0)] rfl ?_
  exact T_X11_eases_19 hX hdx FU r_3 (-1) 0 r_1 hf
set_option maxRecDepth 100000 in
set_option maxHeartbeats 200000 in
theorem C_X11_eases {G : GX} (hG : GOk G) {h : Hp} {r : Int32 × Hp} (hf : f_X11_eases h = some r) : Ctr G 7 yX11_eases cX11_eases 6 (some .int) [.ref 1] h ((.inl (some (.int r.1)), r.2)) :=
  Ctr_of hG RX11 rfl (by decide) rfl (fun X _ hdx hX => T_X11_eases_0 hX hdx h hf)
theorem dX11_sagging_0 : decode cX11_sagging 0 = .ok (.aload_n 0, 1) := by decide +kernel
theorem dX11_sagging_1 : decode cX11_sagging 1 = .ok (.invokevirtual 151, 3) := by decide +kernel
theorem dX11_sagging_4 : decode cX11_sagging 4 = .ok (.aload_n 0, 1) := by decide +kernel
theorem dX11_sagging_5 : decode cX11_sagging 5 = .ok (.getfield 19, 3) := by decide +kernel
theorem dX11_sagging_8 : decode cX11_sagging 8 = .ok (.getfield 229, 3) := by decide +kernel
theorem dX11_sagging_11 : decode cX11_sagging 11 = .ok (.invokevirtual 335, 3) := by decide +kernel
theorem dX11_sagging_14 : decode cX11_sagging 14 = .ok (.ireturn, 1) := by decide +kernel
set_option maxRecDepth 100000 in
set_option maxHeartbeats 200000 in
theorem T_X11_sagging_0 {X : CX} (hX : Ok X cX11_sagging 1 RX11 (some .int)) (hdx : dX X = 7) {r : Int32 × Hp} (h : Hp) (hf : f_X11_sagging h = some r) : J X ((.inl (some (.int r.1)), r.2)) 0 [(0, .ref 1)] [] h := by
  unfold f_X11_sagging at hf
  refine J_aload_n hX 0 dX11_sagging_0 rfl rfl ?_
  obtain ⟨r_1, e_2, hf⟩ := bdE hf
  refine V_1 hX [] dX11_sagging_1 cw_X11_151 ob_1 rfl (C_X11_measured (okG hX) e_2) (ltD hdx rfl) rfl rfl rfl rfl ?_
  refine J_aload_n hX 0 dX11_sagging_4 rfl rfl ?_
  refine J_getR hX 100 dX11_sagging_5 fl_X11_19 ob_1 rfl rfl ?_
  refine J_getI hX dX11_sagging_8 fl_X11_229 (city_ob isc_100) rfl ?_
  obtain ⟨r_3, e_4, hf⟩ := bdE hf
  refine V_1 hX [.int (r_1 100 11)] dX11_sagging_11 cw_X11_335 ob_5 rfl (C_X9_greatestSag (okG hX) e_4) (ltD hdx rfl) rfl rfl rfl rfl ?_
  exact E_Ii hX dX11_sagging_14 hf
set_option maxRecDepth 100000 in
set_option maxHeartbeats 200000 in
theorem C_X11_sagging {G : GX} (hG : GOk G) {h : Hp} {r : Int32 × Hp} (hf : f_X11_sagging h = some r) : Ctr G 7 yX11_sagging cX11_sagging 1 (some .int) [.ref 1] h ((.inl (some (.int r.1)), r.2)) :=
  Ctr_of hG RX11 rfl (by decide) rfl (fun X _ hdx hX => T_X11_sagging_0 hX hdx h hf)
theorem dX11_ring_0 : decode cX11_ring 0 = .ok (.aload_n 0, 1) := by decide +kernel
theorem dX11_ring_1 : decode cX11_ring 1 = .ok (.iload_n 1, 1) := by decide +kernel
theorem dX11_ring_2 : decode cX11_ring 2 = .ok (.invokevirtual 118, 3) := by decide +kernel
theorem dX11_ring_5 : decode cX11_ring 5 = .ok (.aload_n 0, 1) := by decide +kernel
theorem dX11_ring_6 : decode cX11_ring 6 = .ok (.getfield 19, 3) := by decide +kernel
theorem dX11_ring_9 : decode cX11_ring 9 = .ok (.iload_n 1, 1) := by decide +kernel
theorem dX11_ring_10 : decode cX11_ring 10 = .ok (.invokevirtual 341, 3) := by decide +kernel
theorem dX11_ring_13 : decode cX11_ring 13 = .ok (.iload_n 1, 1) := by decide +kernel
theorem dX11_ring_14 : decode cX11_ring 14 = .ok (.ishr, 1) := by decide +kernel
theorem dX11_ring_15 : decode cX11_ring 15 = .ok (.iconst 1, 1) := by decide +kernel
theorem dX11_ring_16 : decode cX11_ring 16 = .ok (.iand, 1) := by decide +kernel
theorem dX11_ring_17 : decode cX11_ring 17 = .ok (.iconst 1, 1) := by decide +kernel
theorem dX11_ring_18 : decode cX11_ring 18 = .ok (.if_icmp .ne 7, 3) := by decide +kernel
theorem dX11_ring_21 : decode cX11_ring 21 = .ok (.iconst 1, 1) := by decide +kernel
theorem dX11_ring_22 : decode cX11_ring 22 = .ok (.goto 4, 3) := by decide +kernel
theorem dX11_ring_25 : decode cX11_ring 25 = .ok (.iconst 0, 1) := by decide +kernel
theorem dX11_ring_26 : decode cX11_ring 26 = .ok (.ireturn, 1) := by decide +kernel
set_option maxRecDepth 100000 in
set_option maxHeartbeats 200000 in
theorem T_X11_ring_0 {X : CX} (hX : Ok X cX11_ring 2 RX11 (some .boolean)) (hdx : dX X = 11) {r : Except String Bool × Hp} (x1 : Int32) (h : Hp) (hf : f_X11_ring x1 h = some r) : J X (oX tvZ r) 0 [(0, .ref 1), (1, .int x1)] [] h := by
  unfold f_X11_ring at hf
  refine J_aload_n hX 0 dX11_ring_0 rfl rfl ?_
  refine J_iload_n hX 1 dX11_ring_1 rfl rfl ?_
  obtain ⟨r_1, e_2, hf⟩ := bdE hf
  rcases exE hf with ⟨v_3, h_4, z_6, hg⟩ | ⟨E_5, h_4, z_6, z_6r⟩
  all_goals clear hf
  rotate_left
  · subst z_6
    exact V_kx hX [.int x1] dX11_ring_2 cw_X11_118 ob_1 rfl (C_X11_checkHouse (okG hX) e_2) (ltD hdx rfl) rfl rfl rfl rfl z_6r
  subst z_6
  have hf := hg
  clear hg
  refine V_k0 hX [.int x1] dX11_ring_2 cw_X11_118 ob_1 rfl (C_X11_checkHouse (okG hX) e_2) (ltD hdx rfl) rfl rfl rfl rfl rfl ?_
  refine J_aload_n hX 0 dX11_ring_5 rfl rfl ?_
  refine J_getR hX 100 dX11_ring_6 fl_X11_19 ob_1 rfl rfl ?_
  refine J_iload_n hX 1 dX11_ring_9 rfl rfl ?_
  obtain ⟨r_7, e_8, hf⟩ := bdE hf
  refine V_1 hX [.int x1] dX11_ring_10 cw_X11_341 (city_ob isc_100) rfl (C_X1_onward (okG hX) isc_100 e_8) (ltD hdx rfl) rfl rfl rfl rfl ?_
  refine J_iload_n hX 1 dX11_ring_13 rfl rfl ?_
  refine J_ishr hX dX11_ring_14 ?_
  refine J_iconst hX 1 dX11_ring_15 rfl ?_
  refine J_iand hX dX11_ring_16 ?_
  refine J_iconst hX 1 dX11_ring_17 rfl ?_
  rcases ifE hf with ⟨c_9, hf⟩ | ⟨c_9, hf⟩
  · refine J_icmp_neF hX 25 dX11_ring_18 rfl c_9 ?_
    refine J_iconst hX 1 dX11_ring_21 rfl ?_
    refine J_goto hX 26 dX11_ring_22 rfl ?_
    exact E_Zx hX dX11_ring_26 rfl hf
  · refine J_icmp_neT hX 25 dX11_ring_18 rfl c_9 ?_
    refine J_iconst hX 0 dX11_ring_25 rfl ?_
    exact E_Zx hX dX11_ring_26 rfl hf
set_option maxRecDepth 100000 in
set_option maxHeartbeats 200000 in
theorem C_X11_ring {G : GX} (hG : GOk G) {x1 : Int32} {h : Hp} {r : Except String Bool × Hp} (hf : f_X11_ring x1 h = some r) : Ctr G 11 yX11_ring cX11_ring 2 (some .boolean) [.ref 1, .int x1] h (oX tvZ r) :=
  Ctr_of hG RX11 rfl (by decide) rfl (fun X _ hdx hX => T_X11_ring_0 hX hdx x1 h hf)
theorem dX11_held_0 : decode cX11_held 0 = .ok (.aload_n 0, 1) := by decide +kernel
theorem dX11_held_1 : decode cX11_held 1 = .ok (.iload_n 1, 1) := by decide +kernel
theorem dX11_held_2 : decode cX11_held 2 = .ok (.invokevirtual 118, 3) := by decide +kernel
theorem dX11_held_5 : decode cX11_held 5 = .ok (.aload_n 0, 1) := by decide +kernel
theorem dX11_held_6 : decode cX11_held 6 = .ok (.getfield 19, 3) := by decide +kernel
theorem dX11_held_9 : decode cX11_held 9 = .ok (.iload_n 1, 1) := by decide +kernel
theorem dX11_held_10 : decode cX11_held 10 = .ok (.invokevirtual 341, 3) := by decide +kernel
theorem dX11_held_13 : decode cX11_held 13 = .ok (.ireturn, 1) := by decide +kernel
set_option maxRecDepth 100000 in
set_option maxHeartbeats 200000 in
theorem T_X11_held_0 {X : CX} (hX : Ok X cX11_held 2 RX11 (some .int)) (hdx : dX X = 11) {r : Except String Int32 × Hp} (x1 : Int32) (h : Hp) (hf : f_X11_held x1 h = some r) : J X (oX tvI r) 0 [(0, .ref 1), (1, .int x1)] [] h := by
  unfold f_X11_held at hf
  refine J_aload_n hX 0 dX11_held_0 rfl rfl ?_
  refine J_iload_n hX 1 dX11_held_1 rfl rfl ?_
  obtain ⟨r_1, e_2, hf⟩ := bdE hf
  rcases exE hf with ⟨v_3, h_4, z_6, hg⟩ | ⟨E_5, h_4, z_6, z_6r⟩
  all_goals clear hf
  rotate_left
  · subst z_6
    exact V_kx hX [.int x1] dX11_held_2 cw_X11_118 ob_1 rfl (C_X11_checkHouse (okG hX) e_2) (ltD hdx rfl) rfl rfl rfl rfl z_6r
  subst z_6
  have hf := hg
  clear hg
  refine V_k0 hX [.int x1] dX11_held_2 cw_X11_118 ob_1 rfl (C_X11_checkHouse (okG hX) e_2) (ltD hdx rfl) rfl rfl rfl rfl rfl ?_
  refine J_aload_n hX 0 dX11_held_5 rfl rfl ?_
  refine J_getR hX 100 dX11_held_6 fl_X11_19 ob_1 rfl rfl ?_
  refine J_iload_n hX 1 dX11_held_9 rfl rfl ?_
  obtain ⟨r_7, e_8, hf⟩ := bdE hf
  refine V_1 hX [.int x1] dX11_held_10 cw_X11_341 (city_ob isc_100) rfl (C_X1_onward (okG hX) isc_100 e_8) (ltD hdx rfl) rfl rfl rfl rfl ?_
  exact E_Ix hX dX11_held_13 hf
set_option maxRecDepth 100000 in
set_option maxHeartbeats 200000 in
theorem C_X11_held {G : GX} (hG : GOk G) {x1 : Int32} {h : Hp} {r : Except String Int32 × Hp} (hf : f_X11_held x1 h = some r) : Ctr G 11 yX11_held cX11_held 2 (some .int) [.ref 1, .int x1] h (oX tvI r) :=
  Ctr_of hG RX11 rfl (by decide) rfl (fun X _ hdx hX => T_X11_held_0 hX hdx x1 h hf)
theorem dX11_ends_0 : decode cX11_ends 0 = .ok (.iconst 0, 1) := by decide +kernel
theorem dX11_ends_1 : decode cX11_ends 1 = .ok (.istore_n 1, 1) := by decide +kernel
theorem dX11_ends_2 : decode cX11_ends 2 = .ok (.iconst 0, 1) := by decide +kernel
theorem dX11_ends_3 : decode cX11_ends 3 = .ok (.istore_n 2, 1) := by decide +kernel
theorem dX11_ends_4 : decode cX11_ends 4 = .ok (.iload_n 2, 1) := by decide +kernel
theorem dX11_ends_5 : decode cX11_ends 5 = .ok (.bipush 8, 2) := by decide +kernel
theorem dX11_ends_7 : decode cX11_ends 7 = .ok (.if_icmp .ge 37, 3) := by decide +kernel
theorem dX11_ends_10 : decode cX11_ends 10 = .ok (.aload_n 0, 1) := by decide +kernel
theorem dX11_ends_11 : decode cX11_ends 11 = .ok (.getfield 19, 3) := by decide +kernel
theorem dX11_ends_14 : decode cX11_ends 14 = .ok (.iload_n 2, 1) := by decide +kernel
theorem dX11_ends_15 : decode cX11_ends 15 = .ok (.invokevirtual 148, 3) := by decide +kernel
theorem dX11_ends_18 : decode cX11_ends 18 = .ok (.ifCond .eq 20, 3) := by decide +kernel
theorem dX11_ends_21 : decode cX11_ends 21 = .ok (.aload_n 0, 1) := by decide +kernel
theorem dX11_ends_22 : decode cX11_ends 22 = .ok (.getfield 19, 3) := by decide +kernel
theorem dX11_ends_25 : decode cX11_ends 25 = .ok (.iload_n 2, 1) := by decide +kernel
theorem dX11_ends_26 : decode cX11_ends 26 = .ok (.invokevirtual 344, 3) := by decide +kernel
theorem dX11_ends_29 : decode cX11_ends 29 = .ok (.ifCond .ne 9, 3) := by decide +kernel
theorem dX11_ends_32 : decode cX11_ends 32 = .ok (.iload_n 1, 1) := by decide +kernel
theorem dX11_ends_33 : decode cX11_ends 33 = .ok (.iconst 1, 1) := by decide +kernel
theorem dX11_ends_34 : decode cX11_ends 34 = .ok (.iload_n 2, 1) := by decide +kernel
theorem dX11_ends_35 : decode cX11_ends 35 = .ok (.ishl, 1) := by decide +kernel
theorem dX11_ends_36 : decode cX11_ends 36 = .ok (.ior, 1) := by decide +kernel
theorem dX11_ends_37 : decode cX11_ends 37 = .ok (.istore_n 1, 1) := by decide +kernel
theorem dX11_ends_38 : decode cX11_ends 38 = .ok (.iinc 2 1, 3) := by decide +kernel
theorem dX11_ends_41 : decode cX11_ends 41 = .ok (.goto (-37), 3) := by decide +kernel
theorem dX11_ends_44 : decode cX11_ends 44 = .ok (.iload_n 1, 1) := by decide +kernel
theorem dX11_ends_45 : decode cX11_ends 45 = .ok (.ireturn, 1) := by decide +kernel
set_option maxRecDepth 100000 in
set_option maxHeartbeats 200000 in
theorem T_X11_ends_4_s {X : CX} (hX : Ok X cX11_ends 3 RX11 (some .int)) (hdx : dX X = 5) {r : Int32} (h : Hp) (q_4 : Int32 → Int32 → Option Int32) (hq_4 : ∀ (x1 : Int32) (x2 : Int32), q_4 x1 x2 = some r → J X ((.inl (some (.int r)), h)) 4 [(0, .ref 1), (1, .int x1), (2, .int x2)] [] h) (x1 : Int32) (x2 : Int32) (hf : S_X11_ends_4 h q_4 x1 x2 = some r) : J X ((.inl (some (.int r)), h)) 4 [(0, .ref 1), (1, .int x1), (2, .int x2)] [] h := by
  unfold S_X11_ends_4 at hf
  refine J_iload_n hX 2 dX11_ends_4 rfl rfl ?_
  refine J_bipush hX 8 dX11_ends_5 rfl ?_
  rcases ifE hf with ⟨c_1, hf⟩ | ⟨c_1, hf⟩
  · refine J_icmp_geF hX 44 dX11_ends_7 rfl c_1 ?_
    refine J_aload_n hX 0 dX11_ends_10 rfl rfl ?_
    refine J_getR hX 100 dX11_ends_11 fl_X11_19 ob_1 rfl rfl ?_
    refine J_iload_n hX 2 dX11_ends_14 rfl rfl ?_
    refine V_1 hX [.int x2] dX11_ends_15 cw_X11_148 (city_ob isc_100) rfl (C_X1_isUp (okG hX) isc_100 rfl) (ltD hdx rfl) rfl rfl rfl rfl ?_
    rcases ifE hf with ⟨c_2, hf⟩ | ⟨c_2, hf⟩
    · refine J_if_eqF hX 38 dX11_ends_18 rfl (b2iT c_2) ?_
      refine J_aload_n hX 0 dX11_ends_21 rfl rfl ?_
      refine J_getR hX 100 dX11_ends_22 fl_X11_19 ob_1 rfl rfl ?_
      refine J_iload_n hX 2 dX11_ends_25 rfl rfl ?_
      obtain ⟨r_3, e_4, hf⟩ := bdE hf
      refine V_1 hX [.int x2] dX11_ends_26 cw_X11_344 (city_ob isc_100) rfl (C_X1_leansOn (okG hX) isc_100 e_4) (ltD hdx rfl) rfl rfl rfl rfl ?_
      rcases ifE hf with ⟨c_5, hf⟩ | ⟨c_5, hf⟩
      · refine J_if_neF hX 38 dX11_ends_29 rfl c_5 ?_
        refine J_iload_n hX 1 dX11_ends_32 rfl rfl ?_
        refine J_iconst hX 1 dX11_ends_33 rfl ?_
        refine J_iload_n hX 2 dX11_ends_34 rfl rfl ?_
        refine J_ishl hX dX11_ends_35 ?_
        refine J_ior hX dX11_ends_36 ?_
        obtain ⟨x1_6, e_7, hf⟩ := bndE hf
        refine J_nm e_7 ?_
        refine J_istore_n hX [(1, .int x1_6), (0, .ref 1), (2, .int x2)] dX11_ends_37 rfl rfl rfl ?_
        refine J_iinc hX (x2 + 1) 2 [(2, .int (x2 + 1)), (1, .int x1_6), (0, .ref 1)] dX11_ends_38 rfl rfl rfl rfl ?_
        refine J_goto hX 4 dX11_ends_41 rfl ?_
        refine J_sub [2, 1, 0] [(0, .ref 1), (1, .int x1_6), (2, .int (x2 + 1))] rfl ?_
        exact hq_4 x1_6 (x2 + 1) hf
      · refine J_if_neT hX 38 dX11_ends_29 rfl c_5 ?_
        refine J_iinc hX (x2 + 1) 2 [(2, .int (x2 + 1)), (0, .ref 1), (1, .int x1)] dX11_ends_38 rfl rfl rfl rfl ?_
        refine J_goto hX 4 dX11_ends_41 rfl ?_
        refine J_sub [1, 2, 0] [(0, .ref 1), (1, .int x1), (2, .int (x2 + 1))] rfl ?_
        exact hq_4 x1 (x2 + 1) hf
    · refine J_if_eqT hX 38 dX11_ends_18 rfl (b2iF c_2) ?_
      refine J_iinc hX (x2 + 1) 2 [(2, .int (x2 + 1)), (0, .ref 1), (1, .int x1)] dX11_ends_38 rfl rfl rfl rfl ?_
      refine J_goto hX 4 dX11_ends_41 rfl ?_
      refine J_sub [1, 2, 0] [(0, .ref 1), (1, .int x1), (2, .int (x2 + 1))] rfl ?_
      exact hq_4 x1 (x2 + 1) hf
  · refine J_icmp_geT hX 44 dX11_ends_7 rfl c_1 ?_
    refine J_iload_n hX 1 dX11_ends_44 rfl rfl ?_
    exact E_Ip hX dX11_ends_45 hf
set_option maxRecDepth 100000 in
set_option maxHeartbeats 200000 in
theorem T_X11_ends_4 {X : CX} (hX : Ok X cX11_ends 3 RX11 (some .int)) (hdx : dX X = 5) {r : Int32} (h : Hp) : ∀ (n : Nat) (x1 : Int32) (x2 : Int32), F_X11_ends_4 h n x1 x2 = some r → J X ((.inl (some (.int r)), h)) 4 [(0, .ref 1), (1, .int x1), (2, .int x2)] [] h := by
  intro n
  induction n with
  | zero => intro x1 x2 hf; exact nomatch hf
  | succ n ih => intro x1 x2 hf; exact T_X11_ends_4_s hX hdx h _ (fun x1 x2 hf => ih x1 x2 hf) x1 x2 hf
set_option maxRecDepth 100000 in
set_option maxHeartbeats 200000 in
theorem T_X11_ends_0 {X : CX} (hX : Ok X cX11_ends 3 RX11 (some .int)) (hdx : dX X = 5) {r : Int32} (h : Hp) (hf : f_X11_ends h = some r) : J X ((.inl (some (.int r)), h)) 0 [(0, .ref 1)] [] h := by
  unfold f_X11_ends at hf
  refine J_iconst hX 0 dX11_ends_0 rfl ?_
  refine J_istore_n hX [(1, .int 0), (0, .ref 1)] dX11_ends_1 rfl rfl rfl ?_
  refine J_iconst hX 0 dX11_ends_2 rfl ?_
  refine J_istore_n hX [(2, .int 0), (1, .int 0), (0, .ref 1)] dX11_ends_3 rfl rfl rfl ?_
  refine J_sub [2, 1, 0] [(0, .ref 1), (1, .int 0), (2, .int 0)] rfl ?_
  exact T_X11_ends_4 hX hdx h FU 0 0 hf
set_option maxRecDepth 100000 in
set_option maxHeartbeats 200000 in
theorem C_X11_ends {G : GX} (hG : GOk G) {h : Hp} {r : Int32} (hf : f_X11_ends h = some r) : Ctr G 5 yX11_ends cX11_ends 3 (some .int) [.ref 1] h ((.inl (some (.int r)), h)) :=
  Ctr_of hG RX11 rfl (by decide) rfl (fun X _ hdx hX => T_X11_ends_0 hX hdx h hf)
theorem dX11_pairs_0 : decode cX11_pairs 0 = .ok (.iload_n 0, 1) := by decide +kernel
theorem dX11_pairs_1 : decode cX11_pairs 1 = .ok (.iload_n 0, 1) := by decide +kernel
theorem dX11_pairs_2 : decode cX11_pairs 2 = .ok (.iconst 1, 1) := by decide +kernel
theorem dX11_pairs_3 : decode cX11_pairs 3 = .ok (.isub, 1) := by decide +kernel
theorem dX11_pairs_4 : decode cX11_pairs 4 = .ok (.imul, 1) := by decide +kernel
theorem dX11_pairs_5 : decode cX11_pairs 5 = .ok (.iconst 2, 1) := by decide +kernel
theorem dX11_pairs_6 : decode cX11_pairs 6 = .ok (.idiv, 1) := by decide +kernel
theorem dX11_pairs_7 : decode cX11_pairs 7 = .ok (.ireturn, 1) := by decide +kernel
set_option maxRecDepth 100000 in
set_option maxHeartbeats 200000 in
theorem T_X11_pairs_0 {X : CX} (hX : Ok X cX11_pairs 1 RX11 (some .int)) (hdx : dX X = 2) {r : Int32} (x0 : Int32) (h : Hp) (hf : f_X11_pairs x0 h = r) : J X ((.inl (some (.int r)), h)) 0 [(0, .int x0)] [] h := by
  unfold f_X11_pairs at hf
  refine J_iload_n hX 0 dX11_pairs_0 rfl rfl ?_
  refine J_iload_n hX 0 dX11_pairs_1 rfl rfl ?_
  refine J_iconst hX 1 dX11_pairs_2 rfl ?_
  refine J_isub hX dX11_pairs_3 ?_
  refine J_imul hX dX11_pairs_4 ?_
  refine J_iconst hX 2 dX11_pairs_5 rfl ?_
  refine J_idiv hX (by decide) dX11_pairs_6 ?_
  exact E_It hX dX11_pairs_7 hf
set_option maxRecDepth 100000 in
set_option maxHeartbeats 200000 in
theorem C_X11_pairs {G : GX} (hG : GOk G) {x0 : Int32} {h : Hp} {r : Int32} (hf : f_X11_pairs x0 h = r) : Ctr G 2 yX11_pairs cX11_pairs 1 (some .int) [.int x0] h ((.inl (some (.int r)), h)) :=
  Ctr_of hG RX11 rfl (by decide) rfl (fun X _ hdx hX => T_X11_pairs_0 hX hdx x0 h hf)
theorem dX11_apart_0 : decode cX11_apart 0 = .ok (.aload_n 0, 1) := by decide +kernel
theorem dX11_apart_1 : decode cX11_apart 1 = .ok (.iload_n 1, 1) := by decide +kernel
theorem dX11_apart_2 : decode cX11_apart 2 = .ok (.invokevirtual 118, 3) := by decide +kernel
theorem dX11_apart_5 : decode cX11_apart 5 = .ok (.aload_n 0, 1) := by decide +kernel
theorem dX11_apart_6 : decode cX11_apart 6 = .ok (.getfield 19, 3) := by decide +kernel
theorem dX11_apart_9 : decode cX11_apart 9 = .ok (.iload_n 1, 1) := by decide +kernel
theorem dX11_apart_10 : decode cX11_apart 10 = .ok (.invokevirtual 148, 3) := by decide +kernel
theorem dX11_apart_13 : decode cX11_apart 13 = .ok (.ifCond .ne 5, 3) := by decide +kernel
theorem dX11_apart_16 : decode cX11_apart 16 = .ok (.iconst 0, 1) := by decide +kernel
theorem dX11_apart_17 : decode cX11_apart 17 = .ok (.ireturn, 1) := by decide +kernel
theorem dX11_apart_18 : decode cX11_apart 18 = .ok (.aload_n 0, 1) := by decide +kernel
theorem dX11_apart_19 : decode cX11_apart 19 = .ok (.getfield 19, 3) := by decide +kernel
theorem dX11_apart_22 : decode cX11_apart 22 = .ok (.iload_n 1, 1) := by decide +kernel
theorem dX11_apart_23 : decode cX11_apart 23 = .ok (.aload_n 0, 1) := by decide +kernel
theorem dX11_apart_24 : decode cX11_apart 24 = .ok (.getfield 19, 3) := by decide +kernel
theorem dX11_apart_27 : decode cX11_apart 27 = .ok (.getfield 229, 3) := by decide +kernel
theorem dX11_apart_30 : decode cX11_apart 30 = .ok (.invokevirtual 347, 3) := by decide +kernel
theorem dX11_apart_33 : decode cX11_apart 33 = .ok (.iconst 1, 1) := by decide +kernel
theorem dX11_apart_34 : decode cX11_apart 34 = .ok (.iload_n 1, 1) := by decide +kernel
theorem dX11_apart_35 : decode cX11_apart 35 = .ok (.ishl, 1) := by decide +kernel
theorem dX11_apart_36 : decode cX11_apart 36 = .ok (.iconst (-1), 1) := by decide +kernel
theorem dX11_apart_37 : decode cX11_apart 37 = .ok (.ixor, 1) := by decide +kernel
theorem dX11_apart_38 : decode cX11_apart 38 = .ok (.iand, 1) := by decide +kernel
theorem dX11_apart_39 : decode cX11_apart 39 = .ok (.istore_n 2, 1) := by decide +kernel
theorem dX11_apart_40 : decode cX11_apart 40 = .ok (.iload_n 2, 1) := by decide +kernel
theorem dX11_apart_41 : decode cX11_apart 41 = .ok (.invokestatic 248, 3) := by decide +kernel
theorem dX11_apart_44 : decode cX11_apart 44 = .ok (.invokestatic 350, 3) := by decide +kernel
theorem dX11_apart_47 : decode cX11_apart 47 = .ok (.istore_n 3, 1) := by decide +kernel
theorem dX11_apart_48 : decode cX11_apart 48 = .ok (.iload_n 2, 1) := by decide +kernel
theorem dX11_apart_49 : decode cX11_apart 49 = .ok (.istore 4, 2) := by decide +kernel
theorem dX11_apart_51 : decode cX11_apart 51 = .ok (.iconst 0, 1) := by decide +kernel
theorem dX11_apart_52 : decode cX11_apart 52 = .ok (.istore 5, 2) := by decide +kernel
theorem dX11_apart_54 : decode cX11_apart 54 = .ok (.iload 5, 2) := by decide +kernel
theorem dX11_apart_56 : decode cX11_apart 56 = .ok (.bipush 8, 2) := by decide +kernel
theorem dX11_apart_58 : decode cX11_apart 58 = .ok (.if_icmp .ge 52, 3) := by decide +kernel
theorem dX11_apart_61 : decode cX11_apart 61 = .ok (.iload 4, 2) := by decide +kernel
theorem dX11_apart_63 : decode cX11_apart 63 = .ok (.iload 5, 2) := by decide +kernel
theorem dX11_apart_65 : decode cX11_apart 65 = .ok (.ishr, 1) := by decide +kernel
theorem dX11_apart_66 : decode cX11_apart 66 = .ok (.iconst 1, 1) := by decide +kernel
theorem dX11_apart_67 : decode cX11_apart 67 = .ok (.iand, 1) := by decide +kernel
theorem dX11_apart_68 : decode cX11_apart 68 = .ok (.iconst 1, 1) := by decide +kernel
theorem dX11_apart_69 : decode cX11_apart 69 = .ok (.if_icmp .ne 35, 3) := by decide +kernel
theorem dX11_apart_72 : decode cX11_apart 72 = .ok (.aload_n 0, 1) := by decide +kernel
theorem dX11_apart_73 : decode cX11_apart 73 = .ok (.getfield 19, 3) := by decide +kernel
theorem dX11_apart_76 : decode cX11_apart 76 = .ok (.iload 5, 2) := by decide +kernel
theorem dX11_apart_78 : decode cX11_apart 78 = .ok (.iload_n 2, 1) := by decide +kernel
theorem dX11_apart_79 : decode cX11_apart 79 = .ok (.invokevirtual 347, 3) := by decide +kernel
theorem dX11_apart_82 : decode cX11_apart 82 = .ok (.istore 6, 2) := by decide +kernel
theorem dX11_apart_84 : decode cX11_apart 84 = .ok (.iload_n 3, 1) := by decide +kernel
theorem dX11_apart_85 : decode cX11_apart 85 = .ok (.iload 6, 2) := by decide +kernel
theorem dX11_apart_87 : decode cX11_apart 87 = .ok (.invokestatic 248, 3) := by decide +kernel
theorem dX11_apart_90 : decode cX11_apart 90 = .ok (.invokestatic 350, 3) := by decide +kernel
theorem dX11_apart_93 : decode cX11_apart 93 = .ok (.isub, 1) := by decide +kernel
theorem dX11_apart_94 : decode cX11_apart 94 = .ok (.istore_n 3, 1) := by decide +kernel
theorem dX11_apart_95 : decode cX11_apart 95 = .ok (.iload 4, 2) := by decide +kernel
theorem dX11_apart_97 : decode cX11_apart 97 = .ok (.iload 6, 2) := by decide +kernel
theorem dX11_apart_99 : decode cX11_apart 99 = .ok (.iconst (-1), 1) := by decide +kernel
theorem dX11_apart_100 : decode cX11_apart 100 = .ok (.ixor, 1) := by decide +kernel
theorem dX11_apart_101 : decode cX11_apart 101 = .ok (.iand, 1) := by decide +kernel
theorem dX11_apart_102 : decode cX11_apart 102 = .ok (.istore 4, 2) := by decide +kernel
theorem dX11_apart_104 : decode cX11_apart 104 = .ok (.iinc 5 1, 3) := by decide +kernel
theorem dX11_apart_107 : decode cX11_apart 107 = .ok (.goto (-53), 3) := by decide +kernel
theorem dX11_apart_110 : decode cX11_apart 110 = .ok (.iload_n 3, 1) := by decide +kernel
theorem dX11_apart_111 : decode cX11_apart 111 = .ok (.ireturn, 1) := by decide +kernel
set_option maxRecDepth 100000 in
set_option maxHeartbeats 200000 in
theorem T_X11_apart_54_s {X : CX} (hX : Ok X cX11_apart 7 RX11 (some .int)) (hdx : dX X = 11) {r : Except String Int32 × Hp} (x2 : Int32) (q_54 : Int32 → Int32 → Int32 → Hp → Option (Except String Int32 × Hp)) (hq_54 : ∀ (x3 : Int32) (x4 : Int32) (x5 : Int32) (h : Hp), q_54 x3 x4 x5 h = some r → J X (oX tvI r) 54 [(0, .ref 1), (2, .int x2), (3, .int x3), (4, .int x4), (5, .int x5)] [] h) (x3 : Int32) (x4 : Int32) (x5 : Int32) (h : Hp) (hf : S_X11_apart_54 x2 q_54 x3 x4 x5 h = some r) : J X (oX tvI r) 54 [(0, .ref 1), (2, .int x2), (3, .int x3), (4, .int x4), (5, .int x5)] [] h := by
  unfold S_X11_apart_54 at hf
  refine J_iload hX 4 dX11_apart_54 rfl ?_
  refine J_bipush hX 8 dX11_apart_56 rfl ?_
  rcases ifE hf with ⟨c_1, hf⟩ | ⟨c_1, hf⟩
  · refine J_icmp_geF hX 110 dX11_apart_58 rfl c_1 ?_
    refine J_iload hX 3 dX11_apart_61 rfl ?_
    refine J_iload hX 4 dX11_apart_63 rfl ?_
    refine J_ishr hX dX11_apart_65 ?_
    refine J_iconst hX 1 dX11_apart_66 rfl ?_
    refine J_iand hX dX11_apart_67 ?_
    refine J_iconst hX 1 dX11_apart_68 rfl ?_
    rcases ifE hf with ⟨c_2, hf⟩ | ⟨c_2, hf⟩
    · refine J_icmp_neF hX 104 dX11_apart_69 rfl c_2 ?_
      refine J_aload_n hX 0 dX11_apart_72 rfl rfl ?_
      refine J_getR hX 100 dX11_apart_73 fl_X11_19 ob_1 rfl rfl ?_
      refine J_iload hX 4 dX11_apart_76 rfl ?_
      refine J_iload_n hX 1 dX11_apart_78 rfl rfl ?_
      obtain ⟨r_3, e_4, hf⟩ := bdE hf
      refine V_1 hX [.int x5, .int x2] dX11_apart_79 cw_X11_347 (city_ob isc_100) rfl (C_X1_pieceOf (okG hX) isc_100 e_4) (ltD hdx rfl) rfl rfl rfl rfl ?_
      refine J_istore hX [(6, .int r_3), (0, .ref 1), (2, .int x2), (3, .int x3), (4, .int x4), (5, .int x5)] dX11_apart_82 rfl rfl ?_
      refine J_iload_n hX 3 dX11_apart_84 rfl rfl ?_
      refine J_iload hX 0 dX11_apart_85 rfl ?_
      refine S_1 hX [.int r_3] dX11_apart_87 cw_X11_248 (C_J6_bitCount_0f7a4 (okG hX) rfl) (ltD hdx rfl) rfl rfl rfl rfl ?_
      refine S_1 hX [.int (f_J6_bitCount_0f7a4 r_3 h)] dX11_apart_90 cw_X11_350 (C_X11_pairs (okG hX) rfl) (ltD hdx rfl) rfl rfl rfl rfl ?_
      refine J_isub hX dX11_apart_93 ?_
      obtain ⟨x3_5, e_6, hf⟩ := bndE hf
      refine J_nm e_6 ?_
      refine J_istore_n hX [(3, .int x3_5), (6, .int r_3), (0, .ref 1), (2, .int x2), (4, .int x4), (5, .int x5)] dX11_apart_94 rfl rfl rfl ?_
      refine J_iload hX 4 dX11_apart_95 rfl ?_
      refine J_iload hX 1 dX11_apart_97 rfl ?_
      refine J_iconst hX (-1) dX11_apart_99 rfl ?_
      refine J_ixor hX dX11_apart_100 ?_
      refine J_iand hX dX11_apart_101 ?_
      obtain ⟨x4_7, e_8, hf⟩ := bndE hf
      refine J_nm e_8 ?_
      refine J_istore hX [(4, .int x4_7), (3, .int x3_5), (6, .int r_3), (0, .ref 1), (2, .int x2), (5, .int x5)] dX11_apart_102 rfl rfl ?_
      refine J_iinc hX (x5 + 1) 5 [(5, .int (x5 + 1)), (4, .int x4_7), (3, .int x3_5), (6, .int r_3), (0, .ref 1), (2, .int x2)] dX11_apart_104 rfl rfl rfl rfl ?_
      refine J_goto hX 54 dX11_apart_107 rfl ?_
      refine J_sub [4, 5, 2, 1, 0] [(0, .ref 1), (2, .int x2), (3, .int x3_5), (4, .int x4_7), (5, .int (x5 + 1))] rfl ?_
      exact hq_54 x3_5 x4_7 (x5 + 1) h hf
    · refine J_icmp_neT hX 104 dX11_apart_69 rfl c_2 ?_
      refine J_iinc hX (x5 + 1) 4 [(5, .int (x5 + 1)), (0, .ref 1), (2, .int x2), (3, .int x3), (4, .int x4)] dX11_apart_104 rfl rfl rfl rfl ?_
      refine J_goto hX 54 dX11_apart_107 rfl ?_
      refine J_sub [1, 2, 3, 4, 0] [(0, .ref 1), (2, .int x2), (3, .int x3), (4, .int x4), (5, .int (x5 + 1))] rfl ?_
      exact hq_54 x3 x4 (x5 + 1) h hf
  · refine J_icmp_geT hX 110 dX11_apart_58 rfl c_1 ?_
    refine J_iload_n hX 2 dX11_apart_110 rfl rfl ?_
    exact E_Ix hX dX11_apart_111 hf
set_option maxRecDepth 100000 in
set_option maxHeartbeats 200000 in
theorem T_X11_apart_54 {X : CX} (hX : Ok X cX11_apart 7 RX11 (some .int)) (hdx : dX X = 11) {r : Except String Int32 × Hp} (x2 : Int32) : ∀ (n : Nat) (x3 : Int32) (x4 : Int32) (x5 : Int32) (h : Hp), F_X11_apart_54 x2 n x3 x4 x5 h = some r → J X (oX tvI r) 54 [(0, .ref 1), (2, .int x2), (3, .int x3), (4, .int x4), (5, .int x5)] [] h := by
  intro n
  induction n with
  | zero => intro x3 x4 x5 h hf; exact nomatch hf
  | succ n ih => intro x3 x4 x5 h hf; exact T_X11_apart_54_s hX hdx x2 _ (fun x3 x4 x5 h hf => ih x3 x4 x5 h hf) x3 x4 x5 h hf
set_option maxRecDepth 100000 in
set_option maxHeartbeats 200000 in
theorem T_X11_apart_0 {X : CX} (hX : Ok X cX11_apart 7 RX11 (some .int)) (hdx : dX X = 11) {r : Except String Int32 × Hp} (x1 : Int32) (h : Hp) (hf : f_X11_apart x1 h = some r) : J X (oX tvI r) 0 [(0, .ref 1), (1, .int x1)] [] h := by
  unfold f_X11_apart at hf
  refine J_aload_n hX 0 dX11_apart_0 rfl rfl ?_
  refine J_iload_n hX 1 dX11_apart_1 rfl rfl ?_
  obtain ⟨r_1, e_2, hf⟩ := bdE hf
  rcases exE hf with ⟨v_3, h_4, z_6, hg⟩ | ⟨E_5, h_4, z_6, z_6r⟩
  all_goals clear hf
  rotate_left
  · subst z_6
    exact V_kx hX [.int x1] dX11_apart_2 cw_X11_118 ob_1 rfl (C_X11_checkHouse (okG hX) e_2) (ltD hdx rfl) rfl rfl rfl rfl z_6r
  subst z_6
  have hf := hg
  clear hg
  refine V_k0 hX [.int x1] dX11_apart_2 cw_X11_118 ob_1 rfl (C_X11_checkHouse (okG hX) e_2) (ltD hdx rfl) rfl rfl rfl rfl rfl ?_
  refine J_aload_n hX 0 dX11_apart_5 rfl rfl ?_
  refine J_getR hX 100 dX11_apart_6 fl_X11_19 ob_1 rfl rfl ?_
  refine J_iload_n hX 1 dX11_apart_9 rfl rfl ?_
  refine V_1 hX [.int x1] dX11_apart_10 cw_X11_148 (city_ob isc_100) rfl (C_X1_isUp (okG hX) isc_100 rfl) (ltD hdx rfl) rfl rfl rfl rfl ?_
  rcases ifE hf with ⟨c_7, hf⟩ | ⟨c_7, hf⟩
  · refine J_if_neT hX 18 dX11_apart_13 rfl (b2iT c_7) ?_
    refine J_aload_n hX 0 dX11_apart_18 rfl rfl ?_
    refine J_getR hX 100 dX11_apart_19 fl_X11_19 ob_1 rfl rfl ?_
    refine J_iload_n hX 1 dX11_apart_22 rfl rfl ?_
    refine J_aload_n hX 0 dX11_apart_23 rfl rfl ?_
    refine J_getR hX 100 dX11_apart_24 fl_X11_19 ob_1 rfl rfl ?_
    refine J_getI hX dX11_apart_27 fl_X11_229 (city_ob isc_100) rfl ?_
    obtain ⟨r_8, e_9, hf⟩ := bdE hf
    refine V_1 hX [.int x1, .int (h_4 100 11)] dX11_apart_30 cw_X11_347 (city_ob isc_100) rfl (C_X1_pieceOf (okG hX) isc_100 e_9) (ltD hdx rfl) rfl rfl rfl rfl ?_
    refine J_iconst hX 1 dX11_apart_33 rfl ?_
    refine J_iload_n hX 1 dX11_apart_34 rfl rfl ?_
    refine J_ishl hX dX11_apart_35 ?_
    refine J_iconst hX (-1) dX11_apart_36 rfl ?_
    refine J_ixor hX dX11_apart_37 ?_
    refine J_iand hX dX11_apart_38 ?_
    obtain ⟨x2_10, e_11, hf⟩ := bndE hf
    refine J_nm e_11 ?_
    refine J_istore_n hX [(2, .int x2_10), (0, .ref 1), (1, .int x1)] dX11_apart_39 rfl rfl rfl ?_
    refine J_iload_n hX 0 dX11_apart_40 rfl rfl ?_
    refine S_1 hX [.int x2_10] dX11_apart_41 cw_X11_248 (C_J6_bitCount_0f7a4 (okG hX) rfl) (ltD hdx rfl) rfl rfl rfl rfl ?_
    refine S_1 hX [.int (f_J6_bitCount_0f7a4 x2_10 h_4)] dX11_apart_44 cw_X11_350 (C_X11_pairs (okG hX) rfl) (ltD hdx rfl) rfl rfl rfl rfl ?_
    obtain ⟨x3_12, e_13, hf⟩ := bndE hf
    refine J_nm e_13 ?_
    refine J_istore_n hX [(3, .int x3_12), (2, .int x2_10), (0, .ref 1), (1, .int x1)] dX11_apart_47 rfl rfl rfl ?_
    refine J_iload_n hX 1 dX11_apart_48 rfl rfl ?_
    refine J_istore hX [(4, .int x2_10), (3, .int x3_12), (2, .int x2_10), (0, .ref 1), (1, .int x1)] dX11_apart_49 rfl rfl ?_
    refine J_iconst hX 0 dX11_apart_51 rfl ?_
    refine J_istore hX [(5, .int 0), (4, .int x2_10), (3, .int x3_12), (2, .int x2_10), (0, .ref 1), (1, .int x1)] dX11_apart_52 rfl rfl ?_
    refine J_sub [4, 3, 2, 1, 0] [(0, .ref 1), (2, .int x2_10), (3, .int x3_12), (4, .int x2_10), (5, .int 0)] rfl ?_
    exact T_X11_apart_54 hX hdx x2_10 FU x3_12 x2_10 0 h_4 hf
  · refine J_if_neF hX 18 dX11_apart_13 rfl (b2iF c_7) ?_
    refine J_iconst hX 0 dX11_apart_16 rfl ?_
    exact E_Ix hX dX11_apart_17 hf
set_option maxRecDepth 100000 in
set_option maxHeartbeats 200000 in
theorem C_X11_apart {G : GX} (hG : GOk G) {x1 : Int32} {h : Hp} {r : Except String Int32 × Hp} (hf : f_X11_apart x1 h = some r) : Ctr G 11 yX11_apart cX11_apart 7 (some .int) [.ref 1, .int x1] h (oX tvI r) :=
  Ctr_of hG RX11 rfl (by decide) rfl (fun X _ hdx hX => T_X11_apart_0 hX hdx x1 h hf)
theorem dX11_pieces_0 : decode cX11_pieces 0 = .ok (.iconst 0, 1) := by decide +kernel
theorem dX11_pieces_1 : decode cX11_pieces 1 = .ok (.istore_n 1, 1) := by decide +kernel
theorem dX11_pieces_2 : decode cX11_pieces 2 = .ok (.aload_n 0, 1) := by decide +kernel
theorem dX11_pieces_3 : decode cX11_pieces 3 = .ok (.getfield 19, 3) := by decide +kernel
theorem dX11_pieces_6 : decode cX11_pieces 6 = .ok (.getfield 229, 3) := by decide +kernel
theorem dX11_pieces_9 : decode cX11_pieces 9 = .ok (.istore_n 2, 1) := by decide +kernel
theorem dX11_pieces_10 : decode cX11_pieces 10 = .ok (.iconst 0, 1) := by decide +kernel
theorem dX11_pieces_11 : decode cX11_pieces 11 = .ok (.istore_n 3, 1) := by decide +kernel
theorem dX11_pieces_12 : decode cX11_pieces 12 = .ok (.iload_n 3, 1) := by decide +kernel
theorem dX11_pieces_13 : decode cX11_pieces 13 = .ok (.bipush 8, 2) := by decide +kernel
theorem dX11_pieces_15 : decode cX11_pieces 15 = .ok (.if_icmp .ge 41, 3) := by decide +kernel
theorem dX11_pieces_18 : decode cX11_pieces 18 = .ok (.iload_n 2, 1) := by decide +kernel
theorem dX11_pieces_19 : decode cX11_pieces 19 = .ok (.iload_n 3, 1) := by decide +kernel
theorem dX11_pieces_20 : decode cX11_pieces 20 = .ok (.ishr, 1) := by decide +kernel
theorem dX11_pieces_21 : decode cX11_pieces 21 = .ok (.iconst 1, 1) := by decide +kernel
theorem dX11_pieces_22 : decode cX11_pieces 22 = .ok (.iand, 1) := by decide +kernel
theorem dX11_pieces_23 : decode cX11_pieces 23 = .ok (.iconst 1, 1) := by decide +kernel
theorem dX11_pieces_24 : decode cX11_pieces 24 = .ok (.if_icmp .ne 26, 3) := by decide +kernel
theorem dX11_pieces_27 : decode cX11_pieces 27 = .ok (.iinc 1 1, 3) := by decide +kernel
theorem dX11_pieces_30 : decode cX11_pieces 30 = .ok (.iload_n 2, 1) := by decide +kernel
theorem dX11_pieces_31 : decode cX11_pieces 31 = .ok (.aload_n 0, 1) := by decide +kernel
theorem dX11_pieces_32 : decode cX11_pieces 32 = .ok (.getfield 19, 3) := by decide +kernel
theorem dX11_pieces_35 : decode cX11_pieces 35 = .ok (.iload_n 3, 1) := by decide +kernel
theorem dX11_pieces_36 : decode cX11_pieces 36 = .ok (.aload_n 0, 1) := by decide +kernel
theorem dX11_pieces_37 : decode cX11_pieces 37 = .ok (.getfield 19, 3) := by decide +kernel
theorem dX11_pieces_40 : decode cX11_pieces 40 = .ok (.getfield 229, 3) := by decide +kernel
theorem dX11_pieces_43 : decode cX11_pieces 43 = .ok (.invokevirtual 347, 3) := by decide +kernel
theorem dX11_pieces_46 : decode cX11_pieces 46 = .ok (.iconst (-1), 1) := by decide +kernel
theorem dX11_pieces_47 : decode cX11_pieces 47 = .ok (.ixor, 1) := by decide +kernel
theorem dX11_pieces_48 : decode cX11_pieces 48 = .ok (.iand, 1) := by decide +kernel
theorem dX11_pieces_49 : decode cX11_pieces 49 = .ok (.istore_n 2, 1) := by decide +kernel
theorem dX11_pieces_50 : decode cX11_pieces 50 = .ok (.iinc 3 1, 3) := by decide +kernel
theorem dX11_pieces_53 : decode cX11_pieces 53 = .ok (.goto (-41), 3) := by decide +kernel
theorem dX11_pieces_56 : decode cX11_pieces 56 = .ok (.iload_n 1, 1) := by decide +kernel
theorem dX11_pieces_57 : decode cX11_pieces 57 = .ok (.ireturn, 1) := by decide +kernel
set_option maxRecDepth 100000 in
set_option maxHeartbeats 200000 in
theorem T_X11_pieces_12_s {X : CX} (hX : Ok X cX11_pieces 4 RX11 (some .int)) (hdx : dX X = 7) {r : Int32} (h : Hp) (q_12 : Int32 → Int32 → Int32 → Option Int32) (hq_12 : ∀ (x1 : Int32) (x2 : Int32) (x3 : Int32), q_12 x1 x2 x3 = some r → J X ((.inl (some (.int r)), h)) 12 [(0, .ref 1), (1, .int x1), (2, .int x2), (3, .int x3)] [] h) (x1 : Int32) (x2 : Int32) (x3 : Int32) (hf : S_X11_pieces_12 h q_12 x1 x2 x3 = some r) : J X ((.inl (some (.int r)), h)) 12 [(0, .ref 1), (1, .int x1), (2, .int x2), (3, .int x3)] [] h := by
  unfold S_X11_pieces_12 at hf
  refine J_iload_n hX 3 dX11_pieces_12 rfl rfl ?_
  refine J_bipush hX 8 dX11_pieces_13 rfl ?_
  rcases ifE hf with ⟨c_1, hf⟩ | ⟨c_1, hf⟩
  · refine J_icmp_geF hX 56 dX11_pieces_15 rfl c_1 ?_
    refine J_iload_n hX 2 dX11_pieces_18 rfl rfl ?_
    refine J_iload_n hX 3 dX11_pieces_19 rfl rfl ?_
    refine J_ishr hX dX11_pieces_20 ?_
    refine J_iconst hX 1 dX11_pieces_21 rfl ?_
    refine J_iand hX dX11_pieces_22 ?_
    refine J_iconst hX 1 dX11_pieces_23 rfl ?_
    rcases ifE hf with ⟨c_2, hf⟩ | ⟨c_2, hf⟩
    · refine J_icmp_neF hX 50 dX11_pieces_24 rfl c_2 ?_
      refine J_iinc hX (x1 + 1) 1 [(1, .int (x1 + 1)), (0, .ref 1), (2, .int x2), (3, .int x3)] dX11_pieces_27 rfl rfl rfl rfl ?_
      refine J_iload_n hX 2 dX11_pieces_30 rfl rfl ?_
      refine J_aload_n hX 1 dX11_pieces_31 rfl rfl ?_
      refine J_getR hX 100 dX11_pieces_32 fl_X11_19 ob_1 rfl rfl ?_
      refine J_iload_n hX 3 dX11_pieces_35 rfl rfl ?_
      refine J_aload_n hX 1 dX11_pieces_36 rfl rfl ?_
      refine J_getR hX 100 dX11_pieces_37 fl_X11_19 ob_1 rfl rfl ?_
      refine J_getI hX dX11_pieces_40 fl_X11_229 (city_ob isc_100) rfl ?_
      obtain ⟨r_3, e_4, hf⟩ := bdE hf
      refine V_1 hX [.int x3, .int (h 100 11)] dX11_pieces_43 cw_X11_347 (city_ob isc_100) rfl (C_X1_pieceOf (okG hX) isc_100 e_4) (ltD hdx rfl) rfl rfl rfl rfl ?_
      refine J_iconst hX (-1) dX11_pieces_46 rfl ?_
      refine J_ixor hX dX11_pieces_47 ?_
      refine J_iand hX dX11_pieces_48 ?_
      obtain ⟨x2_5, e_6, hf⟩ := bndE hf
      refine J_nm e_6 ?_
      refine J_istore_n hX [(2, .int x2_5), (1, .int (x1 + 1)), (0, .ref 1), (3, .int x3)] dX11_pieces_49 rfl rfl rfl ?_
      refine J_iinc hX (x3 + 1) 3 [(3, .int (x3 + 1)), (2, .int x2_5), (1, .int (x1 + 1)), (0, .ref 1)] dX11_pieces_50 rfl rfl rfl rfl ?_
      refine J_goto hX 12 dX11_pieces_53 rfl ?_
      refine J_sub [3, 2, 1, 0] [(0, .ref 1), (1, .int (x1 + 1)), (2, .int x2_5), (3, .int (x3 + 1))] rfl ?_
      exact hq_12 (x1 + 1) x2_5 (x3 + 1) hf
    · refine J_icmp_neT hX 50 dX11_pieces_24 rfl c_2 ?_
      refine J_iinc hX (x3 + 1) 3 [(3, .int (x3 + 1)), (0, .ref 1), (1, .int x1), (2, .int x2)] dX11_pieces_50 rfl rfl rfl rfl ?_
      refine J_goto hX 12 dX11_pieces_53 rfl ?_
      refine J_sub [1, 2, 3, 0] [(0, .ref 1), (1, .int x1), (2, .int x2), (3, .int (x3 + 1))] rfl ?_
      exact hq_12 x1 x2 (x3 + 1) hf
  · refine J_icmp_geT hX 56 dX11_pieces_15 rfl c_1 ?_
    refine J_iload_n hX 1 dX11_pieces_56 rfl rfl ?_
    exact E_Ip hX dX11_pieces_57 hf
set_option maxRecDepth 100000 in
set_option maxHeartbeats 200000 in
theorem T_X11_pieces_12 {X : CX} (hX : Ok X cX11_pieces 4 RX11 (some .int)) (hdx : dX X = 7) {r : Int32} (h : Hp) : ∀ (n : Nat) (x1 : Int32) (x2 : Int32) (x3 : Int32), F_X11_pieces_12 h n x1 x2 x3 = some r → J X ((.inl (some (.int r)), h)) 12 [(0, .ref 1), (1, .int x1), (2, .int x2), (3, .int x3)] [] h := by
  intro n
  induction n with
  | zero => intro x1 x2 x3 hf; exact nomatch hf
  | succ n ih => intro x1 x2 x3 hf; exact T_X11_pieces_12_s hX hdx h _ (fun x1 x2 x3 hf => ih x1 x2 x3 hf) x1 x2 x3 hf
set_option maxRecDepth 100000 in
set_option maxHeartbeats 200000 in
theorem T_X11_pieces_0 {X : CX} (hX : Ok X cX11_pieces 4 RX11 (some .int)) (hdx : dX X = 7) {r : Int32} (h : Hp) (hf : f_X11_pieces h = some r) : J X ((.inl (some (.int r)), h)) 0 [(0, .ref 1)] [] h := by
  unfold f_X11_pieces at hf
  refine J_iconst hX 0 dX11_pieces_0 rfl ?_
  refine J_istore_n hX [(1, .int 0), (0, .ref 1)] dX11_pieces_1 rfl rfl rfl ?_
  refine J_aload_n hX 1 dX11_pieces_2 rfl rfl ?_
  refine J_getR hX 100 dX11_pieces_3 fl_X11_19 ob_1 rfl rfl ?_
  refine J_getI hX dX11_pieces_6 fl_X11_229 (city_ob isc_100) rfl ?_
  refine J_istore_n hX [(2, .int (h 100 11)), (1, .int 0), (0, .ref 1)] dX11_pieces_9 rfl rfl rfl ?_
  refine J_iconst hX 0 dX11_pieces_10 rfl ?_
  refine J_istore_n hX [(3, .int 0), (2, .int (h 100 11)), (1, .int 0), (0, .ref 1)] dX11_pieces_11 rfl rfl rfl ?_
  refine J_sub [3, 2, 1, 0] [(0, .ref 1), (1, .int 0), (2, .int (h 100 11)), (3, .int 0)] rfl ?_
  exact T_X11_pieces_12 hX hdx h FU 0 (h 100 11) 0 hf
set_option maxRecDepth 100000 in
set_option maxHeartbeats 200000 in
theorem C_X11_pieces {G : GX} (hG : GOk G) {h : Hp} {r : Int32} (hf : f_X11_pieces h = some r) : Ctr G 7 yX11_pieces cX11_pieces 4 (some .int) [.ref 1] h ((.inl (some (.int r)), h)) :=
  Ctr_of hG RX11 rfl (by decide) rfl (fun X _ hdx hX => T_X11_pieces_0 hX hdx h hf)
theorem dX11_straight_0 : decode cX11_straight 0 = .ok (.iconst 0, 1) := by decide +kernel
theorem dX11_straight_1 : decode cX11_straight 1 = .ok (.istore_n 1, 1) := by decide +kernel
theorem dX11_straight_2 : decode cX11_straight 2 = .ok (.iconst 0, 1) := by decide +kernel
theorem dX11_straight_3 : decode cX11_straight 3 = .ok (.istore_n 2, 1) := by decide +kernel
theorem dX11_straight_4 : decode cX11_straight 4 = .ok (.iload_n 2, 1) := by decide +kernel
theorem dX11_straight_5 : decode cX11_straight 5 = .ok (.bipush 8, 2) := by decide +kernel
theorem dX11_straight_7 : decode cX11_straight 7 = .ok (.if_icmp .ge 37, 3) := by decide +kernel
theorem dX11_straight_10 : decode cX11_straight 10 = .ok (.aload_n 0, 1) := by decide +kernel
theorem dX11_straight_11 : decode cX11_straight 11 = .ok (.getfield 19, 3) := by decide +kernel
theorem dX11_straight_14 : decode cX11_straight 14 = .ok (.iload_n 2, 1) := by decide +kernel
theorem dX11_straight_15 : decode cX11_straight 15 = .ok (.invokevirtual 148, 3) := by decide +kernel
theorem dX11_straight_18 : decode cX11_straight 18 = .ok (.ifCond .eq 20, 3) := by decide +kernel
theorem dX11_straight_21 : decode cX11_straight 21 = .ok (.aload_n 0, 1) := by decide +kernel
theorem dX11_straight_22 : decode cX11_straight 22 = .ok (.getfield 19, 3) := by decide +kernel
theorem dX11_straight_25 : decode cX11_straight 25 = .ok (.iload_n 2, 1) := by decide +kernel
theorem dX11_straight_26 : decode cX11_straight 26 = .ok (.invokevirtual 353, 3) := by decide +kernel
theorem dX11_straight_29 : decode cX11_straight 29 = .ok (.ifCond .ne 9, 3) := by decide +kernel
theorem dX11_straight_32 : decode cX11_straight 32 = .ok (.iload_n 1, 1) := by decide +kernel
theorem dX11_straight_33 : decode cX11_straight 33 = .ok (.iconst 1, 1) := by decide +kernel
theorem dX11_straight_34 : decode cX11_straight 34 = .ok (.iload_n 2, 1) := by decide +kernel
theorem dX11_straight_35 : decode cX11_straight 35 = .ok (.ishl, 1) := by decide +kernel
theorem dX11_straight_36 : decode cX11_straight 36 = .ok (.ior, 1) := by decide +kernel
theorem dX11_straight_37 : decode cX11_straight 37 = .ok (.istore_n 1, 1) := by decide +kernel
theorem dX11_straight_38 : decode cX11_straight 38 = .ok (.iinc 2 1, 3) := by decide +kernel
theorem dX11_straight_41 : decode cX11_straight 41 = .ok (.goto (-37), 3) := by decide +kernel
theorem dX11_straight_44 : decode cX11_straight 44 = .ok (.iload_n 1, 1) := by decide +kernel
theorem dX11_straight_45 : decode cX11_straight 45 = .ok (.ireturn, 1) := by decide +kernel
set_option maxRecDepth 100000 in
set_option maxHeartbeats 200000 in
theorem T_X11_straight_4_s {X : CX} (hX : Ok X cX11_straight 3 RX11 (some .int)) (hdx : dX X = 6) {r : Int32} (h : Hp) (q_4 : Int32 → Int32 → Option Int32) (hq_4 : ∀ (x1 : Int32) (x2 : Int32), q_4 x1 x2 = some r → J X ((.inl (some (.int r)), h)) 4 [(0, .ref 1), (1, .int x1), (2, .int x2)] [] h) (x1 : Int32) (x2 : Int32) (hf : S_X11_straight_4 h q_4 x1 x2 = some r) : J X ((.inl (some (.int r)), h)) 4 [(0, .ref 1), (1, .int x1), (2, .int x2)] [] h := by
  unfold S_X11_straight_4 at hf
  refine J_iload_n hX 2 dX11_straight_4 rfl rfl ?_
  refine J_bipush hX 8 dX11_straight_5 rfl ?_
  rcases ifE hf with ⟨c_1, hf⟩ | ⟨c_1, hf⟩
  · refine J_icmp_geF hX 44 dX11_straight_7 rfl c_1 ?_
    refine J_aload_n hX 0 dX11_straight_10 rfl rfl ?_
    refine J_getR hX 100 dX11_straight_11 fl_X11_19 ob_1 rfl rfl ?_
    refine J_iload_n hX 2 dX11_straight_14 rfl rfl ?_
    refine V_1 hX [.int x2] dX11_straight_15 cw_X11_148 (city_ob isc_100) rfl (C_X1_isUp (okG hX) isc_100 rfl) (ltD hdx rfl) rfl rfl rfl rfl ?_
    rcases ifE hf with ⟨c_2, hf⟩ | ⟨c_2, hf⟩
    · refine J_if_eqF hX 38 dX11_straight_18 rfl (b2iT c_2) ?_
      refine J_aload_n hX 0 dX11_straight_21 rfl rfl ?_
      refine J_getR hX 100 dX11_straight_22 fl_X11_19 ob_1 rfl rfl ?_
      refine J_iload_n hX 2 dX11_straight_25 rfl rfl ?_
      obtain ⟨r_3, e_4, hf⟩ := bdE hf
      refine V_1 hX [.int x2] dX11_straight_26 cw_X11_353 (city_ob isc_100) rfl (C_X1_touching (okG hX) isc_100 e_4) (ltD hdx rfl) rfl rfl rfl rfl ?_
      rcases ifE hf with ⟨c_5, hf⟩ | ⟨c_5, hf⟩
      · refine J_if_neF hX 38 dX11_straight_29 rfl c_5 ?_
        refine J_iload_n hX 1 dX11_straight_32 rfl rfl ?_
        refine J_iconst hX 1 dX11_straight_33 rfl ?_
        refine J_iload_n hX 2 dX11_straight_34 rfl rfl ?_
        refine J_ishl hX dX11_straight_35 ?_
        refine J_ior hX dX11_straight_36 ?_
        obtain ⟨x1_6, e_7, hf⟩ := bndE hf
        refine J_nm e_7 ?_
        refine J_istore_n hX [(1, .int x1_6), (0, .ref 1), (2, .int x2)] dX11_straight_37 rfl rfl rfl ?_
        refine J_iinc hX (x2 + 1) 2 [(2, .int (x2 + 1)), (1, .int x1_6), (0, .ref 1)] dX11_straight_38 rfl rfl rfl rfl ?_
        refine J_goto hX 4 dX11_straight_41 rfl ?_
        refine J_sub [2, 1, 0] [(0, .ref 1), (1, .int x1_6), (2, .int (x2 + 1))] rfl ?_
        exact hq_4 x1_6 (x2 + 1) hf
      · refine J_if_neT hX 38 dX11_straight_29 rfl c_5 ?_
        refine J_iinc hX (x2 + 1) 2 [(2, .int (x2 + 1)), (0, .ref 1), (1, .int x1)] dX11_straight_38 rfl rfl rfl rfl ?_
        refine J_goto hX 4 dX11_straight_41 rfl ?_
        refine J_sub [1, 2, 0] [(0, .ref 1), (1, .int x1), (2, .int (x2 + 1))] rfl ?_
        exact hq_4 x1 (x2 + 1) hf
    · refine J_if_eqT hX 38 dX11_straight_18 rfl (b2iF c_2) ?_
      refine J_iinc hX (x2 + 1) 2 [(2, .int (x2 + 1)), (0, .ref 1), (1, .int x1)] dX11_straight_38 rfl rfl rfl rfl ?_
      refine J_goto hX 4 dX11_straight_41 rfl ?_
      refine J_sub [1, 2, 0] [(0, .ref 1), (1, .int x1), (2, .int (x2 + 1))] rfl ?_
      exact hq_4 x1 (x2 + 1) hf
  · refine J_icmp_geT hX 44 dX11_straight_7 rfl c_1 ?_
    refine J_iload_n hX 1 dX11_straight_44 rfl rfl ?_
    exact E_Ip hX dX11_straight_45 hf
set_option maxRecDepth 100000 in
set_option maxHeartbeats 200000 in
theorem T_X11_straight_4 {X : CX} (hX : Ok X cX11_straight 3 RX11 (some .int)) (hdx : dX X = 6) {r : Int32} (h : Hp) : ∀ (n : Nat) (x1 : Int32) (x2 : Int32), F_X11_straight_4 h n x1 x2 = some r → J X ((.inl (some (.int r)), h)) 4 [(0, .ref 1), (1, .int x1), (2, .int x2)] [] h := by
  intro n
  induction n with
  | zero => intro x1 x2 hf; exact nomatch hf
  | succ n ih => intro x1 x2 hf; exact T_X11_straight_4_s hX hdx h _ (fun x1 x2 hf => ih x1 x2 hf) x1 x2 hf
set_option maxRecDepth 100000 in
set_option maxHeartbeats 200000 in
theorem T_X11_straight_0 {X : CX} (hX : Ok X cX11_straight 3 RX11 (some .int)) (hdx : dX X = 6) {r : Int32} (h : Hp) (hf : f_X11_straight h = some r) : J X ((.inl (some (.int r)), h)) 0 [(0, .ref 1)] [] h := by
  unfold f_X11_straight at hf
  refine J_iconst hX 0 dX11_straight_0 rfl ?_
  refine J_istore_n hX [(1, .int 0), (0, .ref 1)] dX11_straight_1 rfl rfl rfl ?_
  refine J_iconst hX 0 dX11_straight_2 rfl ?_
  refine J_istore_n hX [(2, .int 0), (1, .int 0), (0, .ref 1)] dX11_straight_3 rfl rfl rfl ?_
  refine J_sub [2, 1, 0] [(0, .ref 1), (1, .int 0), (2, .int 0)] rfl ?_
  exact T_X11_straight_4 hX hdx h FU 0 0 hf
set_option maxRecDepth 100000 in
set_option maxHeartbeats 200000 in
theorem C_X11_straight {G : GX} (hG : GOk G) {h : Hp} {r : Int32} (hf : f_X11_straight h = some r) : Ctr G 6 yX11_straight cX11_straight 3 (some .int) [.ref 1] h ((.inl (some (.int r)), h)) :=
  Ctr_of hG RX11 rfl (by decide) rfl (fun X _ hdx hX => T_X11_straight_0 hX hdx h hf)
theorem dX11_leans_0 : decode cX11_leans 0 = .ok (.iconst 0, 1) := by decide +kernel
theorem dX11_leans_1 : decode cX11_leans 1 = .ok (.istore_n 1, 1) := by decide +kernel
theorem dX11_leans_2 : decode cX11_leans 2 = .ok (.iconst 0, 1) := by decide +kernel
theorem dX11_leans_3 : decode cX11_leans 3 = .ok (.istore_n 2, 1) := by decide +kernel
theorem dX11_leans_4 : decode cX11_leans 4 = .ok (.iload_n 2, 1) := by decide +kernel
theorem dX11_leans_5 : decode cX11_leans 5 = .ok (.bipush 8, 2) := by decide +kernel
theorem dX11_leans_7 : decode cX11_leans 7 = .ok (.if_icmp .ge 23, 3) := by decide +kernel
theorem dX11_leans_10 : decode cX11_leans 10 = .ok (.iload_n 1, 1) := by decide +kernel
theorem dX11_leans_11 : decode cX11_leans 11 = .ok (.aload_n 0, 1) := by decide +kernel
theorem dX11_leans_12 : decode cX11_leans 12 = .ok (.getfield 19, 3) := by decide +kernel
theorem dX11_leans_15 : decode cX11_leans 15 = .ok (.iload_n 2, 1) := by decide +kernel
theorem dX11_leans_16 : decode cX11_leans 16 = .ok (.invokevirtual 344, 3) := by decide +kernel
theorem dX11_leans_19 : decode cX11_leans 19 = .ok (.invokestatic 248, 3) := by decide +kernel
theorem dX11_leans_22 : decode cX11_leans 22 = .ok (.iadd, 1) := by decide +kernel
theorem dX11_leans_23 : decode cX11_leans 23 = .ok (.istore_n 1, 1) := by decide +kernel
theorem dX11_leans_24 : decode cX11_leans 24 = .ok (.iinc 2 1, 3) := by decide +kernel
theorem dX11_leans_27 : decode cX11_leans 27 = .ok (.goto (-23), 3) := by decide +kernel
theorem dX11_leans_30 : decode cX11_leans 30 = .ok (.iload_n 1, 1) := by decide +kernel
theorem dX11_leans_31 : decode cX11_leans 31 = .ok (.ireturn, 1) := by decide +kernel
set_option maxRecDepth 100000 in
set_option maxHeartbeats 200000 in
theorem T_X11_leans_4_s {X : CX} (hX : Ok X cX11_leans 3 RX11 (some .int)) (hdx : dX X = 5) {r : Int32} (h : Hp) (q_4 : Int32 → Int32 → Option Int32) (hq_4 : ∀ (x1 : Int32) (x2 : Int32), q_4 x1 x2 = some r → J X ((.inl (some (.int r)), h)) 4 [(0, .ref 1), (1, .int x1), (2, .int x2)] [] h) (x1 : Int32) (x2 : Int32) (hf : S_X11_leans_4 h q_4 x1 x2 = some r) : J X ((.inl (some (.int r)), h)) 4 [(0, .ref 1), (1, .int x1), (2, .int x2)] [] h := by
  unfold S_X11_leans_4 at hf
  refine J_iload_n hX 2 dX11_leans_4 rfl rfl ?_
  refine J_bipush hX 8 dX11_leans_5 rfl ?_
  rcases ifE hf with ⟨c_1, hf⟩ | ⟨c_1, hf⟩
  · refine J_icmp_geF hX 30 dX11_leans_7 rfl c_1 ?_
    refine J_iload_n hX 1 dX11_leans_10 rfl rfl ?_
    refine J_aload_n hX 0 dX11_leans_11 rfl rfl ?_
    refine J_getR hX 100 dX11_leans_12 fl_X11_19 ob_1 rfl rfl ?_
    refine J_iload_n hX 2 dX11_leans_15 rfl rfl ?_
    obtain ⟨r_2, e_3, hf⟩ := bdE hf
    refine V_1 hX [.int x2] dX11_leans_16 cw_X11_344 (city_ob isc_100) rfl (C_X1_leansOn (okG hX) isc_100 e_3) (ltD hdx rfl) rfl rfl rfl rfl ?_
    refine S_1 hX [.int r_2] dX11_leans_19 cw_X11_248 (C_J6_bitCount_0f7a4 (okG hX) rfl) (ltD hdx rfl) rfl rfl rfl rfl ?_
    refine J_iadd hX dX11_leans_22 ?_
    obtain ⟨x1_4, e_5, hf⟩ := bndE hf
    refine J_nm e_5 ?_
    refine J_istore_n hX [(1, .int x1_4), (0, .ref 1), (2, .int x2)] dX11_leans_23 rfl rfl rfl ?_
    refine J_iinc hX (x2 + 1) 2 [(2, .int (x2 + 1)), (1, .int x1_4), (0, .ref 1)] dX11_leans_24 rfl rfl rfl rfl ?_
    refine J_goto hX 4 dX11_leans_27 rfl ?_
    refine J_sub [2, 1, 0] [(0, .ref 1), (1, .int x1_4), (2, .int (x2 + 1))] rfl ?_
    exact hq_4 x1_4 (x2 + 1) hf
  · refine J_icmp_geT hX 30 dX11_leans_7 rfl c_1 ?_
    refine J_iload_n hX 1 dX11_leans_30 rfl rfl ?_
    exact E_Ip hX dX11_leans_31 hf
set_option maxRecDepth 100000 in
set_option maxHeartbeats 200000 in
theorem T_X11_leans_4 {X : CX} (hX : Ok X cX11_leans 3 RX11 (some .int)) (hdx : dX X = 5) {r : Int32} (h : Hp) : ∀ (n : Nat) (x1 : Int32) (x2 : Int32), F_X11_leans_4 h n x1 x2 = some r → J X ((.inl (some (.int r)), h)) 4 [(0, .ref 1), (1, .int x1), (2, .int x2)] [] h := by
  intro n
  induction n with
  | zero => intro x1 x2 hf; exact nomatch hf
  | succ n ih => intro x1 x2 hf; exact T_X11_leans_4_s hX hdx h _ (fun x1 x2 hf => ih x1 x2 hf) x1 x2 hf
set_option maxRecDepth 100000 in
set_option maxHeartbeats 200000 in
theorem T_X11_leans_0 {X : CX} (hX : Ok X cX11_leans 3 RX11 (some .int)) (hdx : dX X = 5) {r : Int32} (h : Hp) (hf : f_X11_leans h = some r) : J X ((.inl (some (.int r)), h)) 0 [(0, .ref 1)] [] h := by
  unfold f_X11_leans at hf
  refine J_iconst hX 0 dX11_leans_0 rfl ?_
  refine J_istore_n hX [(1, .int 0), (0, .ref 1)] dX11_leans_1 rfl rfl rfl ?_
  refine J_iconst hX 0 dX11_leans_2 rfl ?_
  refine J_istore_n hX [(2, .int 0), (1, .int 0), (0, .ref 1)] dX11_leans_3 rfl rfl rfl ?_
  refine J_sub [2, 1, 0] [(0, .ref 1), (1, .int 0), (2, .int 0)] rfl ?_
  exact T_X11_leans_4 hX hdx h FU 0 0 hf
set_option maxRecDepth 100000 in
set_option maxHeartbeats 200000 in
theorem C_X11_leans {G : GX} (hG : GOk G) {h : Hp} {r : Int32} (hf : f_X11_leans h = some r) : Ctr G 5 yX11_leans cX11_leans 3 (some .int) [.ref 1] h ((.inl (some (.int r)), h)) :=
  Ctr_of hG RX11 rfl (by decide) rfl (fun X _ hdx hX => T_X11_leans_0 hX hdx h hf)
theorem dX11_twins_0 : decode cX11_twins 0 = .ok (.iconst 0, 1) := by decide +kernel
theorem dX11_twins_1 : decode cX11_twins 1 = .ok (.istore_n 1, 1) := by decide +kernel
theorem dX11_twins_2 : decode cX11_twins 2 = .ok (.iconst 0, 1) := by decide +kernel
theorem dX11_twins_3 : decode cX11_twins 3 = .ok (.istore_n 2, 1) := by decide +kernel
theorem dX11_twins_4 : decode cX11_twins 4 = .ok (.iload_n 2, 1) := by decide +kernel
theorem dX11_twins_5 : decode cX11_twins 5 = .ok (.bipush 8, 2) := by decide +kernel
theorem dX11_twins_7 : decode cX11_twins 7 = .ok (.if_icmp .ge 92, 3) := by decide +kernel
theorem dX11_twins_10 : decode cX11_twins 10 = .ok (.iload_n 2, 1) := by decide +kernel
theorem dX11_twins_11 : decode cX11_twins 11 = .ok (.iconst 1, 1) := by decide +kernel
theorem dX11_twins_12 : decode cX11_twins 12 = .ok (.iadd, 1) := by decide +kernel
theorem dX11_twins_13 : decode cX11_twins 13 = .ok (.istore_n 3, 1) := by decide +kernel
theorem dX11_twins_14 : decode cX11_twins 14 = .ok (.iload_n 3, 1) := by decide +kernel
theorem dX11_twins_15 : decode cX11_twins 15 = .ok (.bipush 8, 2) := by decide +kernel
theorem dX11_twins_17 : decode cX11_twins 17 = .ok (.if_icmp .ge 76, 3) := by decide +kernel
theorem dX11_twins_20 : decode cX11_twins 20 = .ok (.aload_n 0, 1) := by decide +kernel
theorem dX11_twins_21 : decode cX11_twins 21 = .ok (.getfield 19, 3) := by decide +kernel
theorem dX11_twins_24 : decode cX11_twins 24 = .ok (.iload_n 2, 1) := by decide +kernel
theorem dX11_twins_25 : decode cX11_twins 25 = .ok (.invokevirtual 148, 3) := by decide +kernel
theorem dX11_twins_28 : decode cX11_twins 28 = .ok (.ifCond .eq 59, 3) := by decide +kernel
theorem dX11_twins_31 : decode cX11_twins 31 = .ok (.aload_n 0, 1) := by decide +kernel
theorem dX11_twins_32 : decode cX11_twins 32 = .ok (.getfield 19, 3) := by decide +kernel
theorem dX11_twins_35 : decode cX11_twins 35 = .ok (.iload_n 3, 1) := by decide +kernel
theorem dX11_twins_36 : decode cX11_twins 36 = .ok (.invokevirtual 148, 3) := by decide +kernel
theorem dX11_twins_39 : decode cX11_twins 39 = .ok (.ifCond .eq 48, 3) := by decide +kernel
theorem dX11_twins_42 : decode cX11_twins 42 = .ok (.aload_n 0, 1) := by decide +kernel
theorem dX11_twins_43 : decode cX11_twins 43 = .ok (.getfield 19, 3) := by decide +kernel
theorem dX11_twins_46 : decode cX11_twins 46 = .ok (.getfield 135, 3) := by decide +kernel
theorem dX11_twins_49 : decode cX11_twins 49 = .ok (.iload_n 2, 1) := by decide +kernel
theorem dX11_twins_50 : decode cX11_twins 50 = .ok (.iaload, 1) := by decide +kernel
theorem dX11_twins_51 : decode cX11_twins 51 = .ok (.aload_n 0, 1) := by decide +kernel
theorem dX11_twins_52 : decode cX11_twins 52 = .ok (.getfield 19, 3) := by decide +kernel
theorem dX11_twins_55 : decode cX11_twins 55 = .ok (.getfield 135, 3) := by decide +kernel
theorem dX11_twins_58 : decode cX11_twins 58 = .ok (.iload_n 3, 1) := by decide +kernel
theorem dX11_twins_59 : decode cX11_twins 59 = .ok (.iaload, 1) := by decide +kernel
theorem dX11_twins_60 : decode cX11_twins 60 = .ok (.if_icmp .ne 27, 3) := by decide +kernel
theorem dX11_twins_63 : decode cX11_twins 63 = .ok (.aload_n 0, 1) := by decide +kernel
theorem dX11_twins_64 : decode cX11_twins 64 = .ok (.getfield 19, 3) := by decide +kernel
theorem dX11_twins_67 : decode cX11_twins 67 = .ok (.getfield 139, 3) := by decide +kernel
theorem dX11_twins_70 : decode cX11_twins 70 = .ok (.iload_n 2, 1) := by decide +kernel
theorem dX11_twins_71 : decode cX11_twins 71 = .ok (.iaload, 1) := by decide +kernel
theorem dX11_twins_72 : decode cX11_twins 72 = .ok (.aload_n 0, 1) := by decide +kernel
theorem dX11_twins_73 : decode cX11_twins 73 = .ok (.getfield 19, 3) := by decide +kernel
theorem dX11_twins_76 : decode cX11_twins 76 = .ok (.getfield 139, 3) := by decide +kernel
theorem dX11_twins_79 : decode cX11_twins 79 = .ok (.iload_n 3, 1) := by decide +kernel
theorem dX11_twins_80 : decode cX11_twins 80 = .ok (.iaload, 1) := by decide +kernel
theorem dX11_twins_81 : decode cX11_twins 81 = .ok (.if_icmp .ne 6, 3) := by decide +kernel
theorem dX11_twins_84 : decode cX11_twins 84 = .ok (.iinc 1 1, 3) := by decide +kernel
theorem dX11_twins_87 : decode cX11_twins 87 = .ok (.iinc 3 1, 3) := by decide +kernel
theorem dX11_twins_90 : decode cX11_twins 90 = .ok (.goto (-76), 3) := by decide +kernel
theorem dX11_twins_93 : decode cX11_twins 93 = .ok (.iinc 2 1, 3) := by decide +kernel
theorem dX11_twins_96 : decode cX11_twins 96 = .ok (.goto (-92), 3) := by decide +kernel
theorem dX11_twins_99 : decode cX11_twins 99 = .ok (.iload_n 1, 1) := by decide +kernel
theorem dX11_twins_100 : decode cX11_twins 100 = .ok (.ireturn, 1) := by decide +kernel
set_option maxRecDepth 100000 in
set_option maxHeartbeats 200000 in
theorem T_X11_twins_14_s {X : CX} (hX : Ok X cX11_twins 4 RX11 (some .int)) (hdx : dX X = 4) {r : Int32} (h : Hp) (x2 : Int32) (q_4 : Int32 → Int32 → Option Int32) (hq_4 : ∀ (x1 : Int32) (x2 : Int32), q_4 x1 x2 = some r → J X ((.inl (some (.int r)), h)) 4 [(0, .ref 1), (1, .int x1), (2, .int x2)] [] h) (q_14 : Int32 → Int32 → Option Int32) (hq_14 : ∀ (x1 : Int32) (x3 : Int32), q_14 x1 x3 = some r → J X ((.inl (some (.int r)), h)) 14 [(0, .ref 1), (1, .int x1), (2, .int x2), (3, .int x3)] [] h) (x1 : Int32) (x3 : Int32) (hf : S_X11_twins_14 q_4 h x2 q_14 x1 x3 = some r) : J X ((.inl (some (.int r)), h)) 14 [(0, .ref 1), (1, .int x1), (2, .int x2), (3, .int x3)] [] h := by
  unfold S_X11_twins_14 at hf
  refine J_iload_n hX 3 dX11_twins_14 rfl rfl ?_
  refine J_bipush hX 8 dX11_twins_15 rfl ?_
  rcases ifE hf with ⟨c_1, hf⟩ | ⟨c_1, hf⟩
  · refine J_icmp_geF hX 93 dX11_twins_17 rfl c_1 ?_
    refine J_aload_n hX 0 dX11_twins_20 rfl rfl ?_
    refine J_getR hX 100 dX11_twins_21 fl_X11_19 ob_1 rfl rfl ?_
    refine J_iload_n hX 2 dX11_twins_24 rfl rfl ?_
    refine V_1 hX [.int x2] dX11_twins_25 cw_X11_148 (city_ob isc_100) rfl (C_X1_isUp (okG hX) isc_100 rfl) (ltD hdx rfl) rfl rfl rfl rfl ?_
    rcases ifE hf with ⟨c_2, hf⟩ | ⟨c_2, hf⟩
    · refine J_if_eqF hX 87 dX11_twins_28 rfl (b2iT c_2) ?_
      refine J_aload_n hX 0 dX11_twins_31 rfl rfl ?_
      refine J_getR hX 100 dX11_twins_32 fl_X11_19 ob_1 rfl rfl ?_
      refine J_iload_n hX 3 dX11_twins_35 rfl rfl ?_
      refine V_1 hX [.int x3] dX11_twins_36 cw_X11_148 (city_ob isc_100) rfl (C_X1_isUp (okG hX) isc_100 rfl) (ltD hdx rfl) rfl rfl rfl rfl ?_
      rcases ifE hf with ⟨c_3, hf⟩ | ⟨c_3, hf⟩
      · refine J_if_eqF hX 87 dX11_twins_39 rfl (b2iT c_3) ?_
        refine J_aload_n hX 0 dX11_twins_42 rfl rfl ?_
        refine J_getR hX 100 dX11_twins_43 fl_X11_19 ob_1 rfl rfl ?_
        refine J_getR hX 101 dX11_twins_46 fl_X11_135 (city_ob isc_100) rfl rfl ?_
        refine J_iload_n hX 2 dX11_twins_49 rfl rfl ?_
        obtain ⟨g_4, hf⟩ := gdE hf
        refine J_ald hX x2.toNatClampNeg dX11_twins_50 (city_ar 1 8 (by decide) isc_100) (Or.inl ⟨rfl, rfl⟩) g_4 rfl ?_
        refine J_aload_n hX 0 dX11_twins_51 rfl rfl ?_
        refine J_getR hX 100 dX11_twins_52 fl_X11_19 ob_1 rfl rfl ?_
        refine J_getR hX 101 dX11_twins_55 fl_X11_135 (city_ob isc_100) rfl rfl ?_
        refine J_iload_n hX 3 dX11_twins_58 rfl rfl ?_
        obtain ⟨g_5, hf⟩ := gdE hf
        refine J_ald hX x3.toNatClampNeg dX11_twins_59 (city_ar 1 8 (by decide) isc_100) (Or.inl ⟨rfl, rfl⟩) g_5 rfl ?_
        rcases ifE hf with ⟨c_6, hf⟩ | ⟨c_6, hf⟩
        · refine J_icmp_neF hX 87 dX11_twins_60 rfl c_6 ?_
          refine J_aload_n hX 0 dX11_twins_63 rfl rfl ?_
          refine J_getR hX 100 dX11_twins_64 fl_X11_19 ob_1 rfl rfl ?_
          refine J_getR hX 102 dX11_twins_67 fl_X11_139 (city_ob isc_100) rfl rfl ?_
          refine J_iload_n hX 2 dX11_twins_70 rfl rfl ?_
          obtain ⟨g_7, hf⟩ := gdE hf
          refine J_ald hX x2.toNatClampNeg dX11_twins_71 (city_ar 2 8 (by decide) isc_100) (Or.inl ⟨rfl, rfl⟩) g_7 rfl ?_
          refine J_aload_n hX 0 dX11_twins_72 rfl rfl ?_
          refine J_getR hX 100 dX11_twins_73 fl_X11_19 ob_1 rfl rfl ?_
          refine J_getR hX 102 dX11_twins_76 fl_X11_139 (city_ob isc_100) rfl rfl ?_
          refine J_iload_n hX 3 dX11_twins_79 rfl rfl ?_
          obtain ⟨g_8, hf⟩ := gdE hf
          refine J_ald hX x3.toNatClampNeg dX11_twins_80 (city_ar 2 8 (by decide) isc_100) (Or.inl ⟨rfl, rfl⟩) g_8 rfl ?_
          rcases ifE hf with ⟨c_9, hf⟩ | ⟨c_9, hf⟩
          · refine J_icmp_neF hX 87 dX11_twins_81 rfl c_9 ?_
            refine J_iinc hX (x1 + 1) 1 [(1, .int (x1 + 1)), (0, .ref 1), (2, .int x2), (3, .int x3)] dX11_twins_84 rfl rfl rfl rfl ?_
            refine J_iinc hX (x3 + 1) 3 [(3, .int (x3 + 1)), (1, .int (x1 + 1)), (0, .ref 1), (2, .int x2)] dX11_twins_87 rfl rfl rfl rfl ?_
            refine J_goto hX 14 dX11_twins_90 rfl ?_
            refine J_sub [2, 1, 3, 0] [(0, .ref 1), (1, .int (x1 + 1)), (2, .int x2), (3, .int (x3 + 1))] rfl ?_
            exact hq_14 (x1 + 1) (x3 + 1) hf
          · refine J_icmp_neT hX 87 dX11_twins_81 rfl c_9 ?_
            refine J_iinc hX (x3 + 1) 3 [(3, .int (x3 + 1)), (0, .ref 1), (1, .int x1), (2, .int x2)] dX11_twins_87 rfl rfl rfl rfl ?_
            refine J_goto hX 14 dX11_twins_90 rfl ?_
            refine J_sub [1, 2, 3, 0] [(0, .ref 1), (1, .int x1), (2, .int x2), (3, .int (x3 + 1))] rfl ?_
            exact hq_14 x1 (x3 + 1) hf
        · refine J_icmp_neT hX 87 dX11_twins_60 rfl c_6 ?_
          refine J_iinc hX (x3 + 1) 3 [(3, .int (x3 + 1)), (0, .ref 1), (1, .int x1), (2, .int x2)] dX11_twins_87 rfl rfl rfl rfl ?_
          refine J_goto hX 14 dX11_twins_90 rfl ?_
          refine J_sub [1, 2, 3, 0] [(0, .ref 1), (1, .int x1), (2, .int x2), (3, .int (x3 + 1))] rfl ?_
          exact hq_14 x1 (x3 + 1) hf
      · refine J_if_eqT hX 87 dX11_twins_39 rfl (b2iF c_3) ?_
        refine J_iinc hX (x3 + 1) 3 [(3, .int (x3 + 1)), (0, .ref 1), (1, .int x1), (2, .int x2)] dX11_twins_87 rfl rfl rfl rfl ?_
        refine J_goto hX 14 dX11_twins_90 rfl ?_
        refine J_sub [1, 2, 3, 0] [(0, .ref 1), (1, .int x1), (2, .int x2), (3, .int (x3 + 1))] rfl ?_
        exact hq_14 x1 (x3 + 1) hf
    · refine J_if_eqT hX 87 dX11_twins_28 rfl (b2iF c_2) ?_
      refine J_iinc hX (x3 + 1) 3 [(3, .int (x3 + 1)), (0, .ref 1), (1, .int x1), (2, .int x2)] dX11_twins_87 rfl rfl rfl rfl ?_
      refine J_goto hX 14 dX11_twins_90 rfl ?_
      refine J_sub [1, 2, 3, 0] [(0, .ref 1), (1, .int x1), (2, .int x2), (3, .int (x3 + 1))] rfl ?_
      exact hq_14 x1 (x3 + 1) hf
  · refine J_icmp_geT hX 93 dX11_twins_17 rfl c_1 ?_
    refine J_iinc hX (x2 + 1) 2 [(2, .int (x2 + 1)), (0, .ref 1), (1, .int x1), (3, .int x3)] dX11_twins_93 rfl rfl rfl rfl ?_
    refine J_goto hX 4 dX11_twins_96 rfl ?_
    refine J_sub [1, 2, 0] [(0, .ref 1), (1, .int x1), (2, .int (x2 + 1))] rfl ?_
    exact hq_4 x1 (x2 + 1) hf
set_option maxRecDepth 100000 in
set_option maxHeartbeats 200000 in
theorem T_X11_twins_14 {X : CX} (hX : Ok X cX11_twins 4 RX11 (some .int)) (hdx : dX X = 4) {r : Int32} (h : Hp) (x2 : Int32) (q_4 : Int32 → Int32 → Option Int32) (hq_4 : ∀ (x1 : Int32) (x2 : Int32), q_4 x1 x2 = some r → J X ((.inl (some (.int r)), h)) 4 [(0, .ref 1), (1, .int x1), (2, .int x2)] [] h) : ∀ (n : Nat) (x1 : Int32) (x3 : Int32), F_X11_twins_14 q_4 h x2 n x1 x3 = some r → J X ((.inl (some (.int r)), h)) 14 [(0, .ref 1), (1, .int x1), (2, .int x2), (3, .int x3)] [] h := by
  intro n
  induction n with
  | zero => intro x1 x3 hf; exact nomatch hf
  | succ n ih => intro x1 x3 hf; exact T_X11_twins_14_s hX hdx h x2 q_4 hq_4 _ (fun x1 x3 hf => ih x1 x3 hf) x1 x3 hf
set_option maxRecDepth 100000 in
set_option maxHeartbeats 200000 in
theorem T_X11_twins_4_s {X : CX} (hX : Ok X cX11_twins 4 RX11 (some .int)) (hdx : dX X = 4) {r : Int32} (h : Hp) (q_4 : Int32 → Int32 → Option Int32) (hq_4 : ∀ (x1 : Int32) (x2 : Int32), q_4 x1 x2 = some r → J X ((.inl (some (.int r)), h)) 4 [(0, .ref 1), (1, .int x1), (2, .int x2)] [] h) (x1 : Int32) (x2 : Int32) (hf : S_X11_twins_4 h q_4 x1 x2 = some r) : J X ((.inl (some (.int r)), h)) 4 [(0, .ref 1), (1, .int x1), (2, .int x2)] [] h := by
  unfold S_X11_twins_4 at hf
  refine J_iload_n hX 2 dX11_twins_4 rfl rfl ?_
  refine J_bipush hX 8 dX11_twins_5 rfl ?_
  rcases ifE hf with ⟨c_1, hf⟩ | ⟨c_1, hf⟩
  · refine J_icmp_geF hX 99 dX11_twins_7 rfl c_1 ?_
    refine J_iload_n hX 2 dX11_twins_10 rfl rfl ?_
    refine J_iconst hX 1 dX11_twins_11 rfl ?_
    refine J_iadd hX dX11_twins_12 ?_
    refine J_istore_n hX [(3, .int (x2 + 1)), (0, .ref 1), (1, .int x1), (2, .int x2)] dX11_twins_13 rfl rfl rfl ?_
    refine J_sub [1, 2, 3, 0] [(0, .ref 1), (1, .int x1), (2, .int x2), (3, .int (x2 + 1))] rfl ?_
    exact T_X11_twins_14 hX hdx h x2 q_4 hq_4 FU x1 (x2 + 1) hf
  · refine J_icmp_geT hX 99 dX11_twins_7 rfl c_1 ?_
    refine J_iload_n hX 1 dX11_twins_99 rfl rfl ?_
    exact E_Ip hX dX11_twins_100 hf
set_option maxRecDepth 100000 in
set_option maxHeartbeats 200000 in
theorem T_X11_twins_4 {X : CX} (hX : Ok X cX11_twins 4 RX11 (some .int)) (hdx : dX X = 4) {r : Int32} (h : Hp) : ∀ (n : Nat) (x1 : Int32) (x2 : Int32), F_X11_twins_4 h n x1 x2 = some r → J X ((.inl (some (.int r)), h)) 4 [(0, .ref 1), (1, .int x1), (2, .int x2)] [] h := by
  intro n
  induction n with
  | zero => intro x1 x2 hf; exact nomatch hf
  | succ n ih => intro x1 x2 hf; exact T_X11_twins_4_s hX hdx h _ (fun x1 x2 hf => ih x1 x2 hf) x1 x2 hf
set_option maxRecDepth 100000 in
set_option maxHeartbeats 200000 in
theorem T_X11_twins_0 {X : CX} (hX : Ok X cX11_twins 4 RX11 (some .int)) (hdx : dX X = 4) {r : Int32} (h : Hp) (hf : f_X11_twins h = some r) : J X ((.inl (some (.int r)), h)) 0 [(0, .ref 1)] [] h := by
  unfold f_X11_twins at hf
  refine J_iconst hX 0 dX11_twins_0 rfl ?_
  refine J_istore_n hX [(1, .int 0), (0, .ref 1)] dX11_twins_1 rfl rfl rfl ?_
  refine J_iconst hX 0 dX11_twins_2 rfl ?_
  refine J_istore_n hX [(2, .int 0), (1, .int 0), (0, .ref 1)] dX11_twins_3 rfl rfl rfl ?_
  refine J_sub [2, 1, 0] [(0, .ref 1), (1, .int 0), (2, .int 0)] rfl ?_
  exact T_X11_twins_4 hX hdx h FU 0 0 hf
set_option maxRecDepth 100000 in
set_option maxHeartbeats 200000 in
theorem C_X11_twins {G : GX} (hG : GOk G) {h : Hp} {r : Int32} (hf : f_X11_twins h = some r) : Ctr G 4 yX11_twins cX11_twins 4 (some .int) [.ref 1] h ((.inl (some (.int r)), h)) :=
  Ctr_of hG RX11 rfl (by decide) rfl (fun X _ hdx hX => T_X11_twins_0 hX hdx h hf)
theorem dX11_oldest_0 : decode cX11_oldest 0 = .ok (.iconst (-1), 1) := by decide +kernel
theorem dX11_oldest_1 : decode cX11_oldest 1 = .ok (.istore_n 1, 1) := by decide +kernel
theorem dX11_oldest_2 : decode cX11_oldest 2 = .ok (.iconst (-1), 1) := by decide +kernel
theorem dX11_oldest_3 : decode cX11_oldest 3 = .ok (.istore_n 2, 1) := by decide +kernel
theorem dX11_oldest_4 : decode cX11_oldest 4 = .ok (.iconst 0, 1) := by decide +kernel
theorem dX11_oldest_5 : decode cX11_oldest 5 = .ok (.istore_n 3, 1) := by decide +kernel
theorem dX11_oldest_6 : decode cX11_oldest 6 = .ok (.iload_n 3, 1) := by decide +kernel
theorem dX11_oldest_7 : decode cX11_oldest 7 = .ok (.bipush 8, 2) := by decide +kernel
theorem dX11_oldest_9 : decode cX11_oldest 9 = .ok (.if_icmp .ge 45, 3) := by decide +kernel
theorem dX11_oldest_12 : decode cX11_oldest 12 = .ok (.aload_n 0, 1) := by decide +kernel
theorem dX11_oldest_13 : decode cX11_oldest 13 = .ok (.getfield 19, 3) := by decide +kernel
theorem dX11_oldest_16 : decode cX11_oldest 16 = .ok (.iload_n 3, 1) := by decide +kernel
theorem dX11_oldest_17 : decode cX11_oldest 17 = .ok (.invokevirtual 148, 3) := by decide +kernel
theorem dX11_oldest_20 : decode cX11_oldest 20 = .ok (.ifCond .eq 28, 3) := by decide +kernel
theorem dX11_oldest_23 : decode cX11_oldest 23 = .ok (.aload_n 0, 1) := by decide +kernel
theorem dX11_oldest_24 : decode cX11_oldest 24 = .ok (.getfield 19, 3) := by decide +kernel
theorem dX11_oldest_27 : decode cX11_oldest 27 = .ok (.getfield 145, 3) := by decide +kernel
theorem dX11_oldest_30 : decode cX11_oldest 30 = .ok (.iload_n 3, 1) := by decide +kernel
theorem dX11_oldest_31 : decode cX11_oldest 31 = .ok (.iaload, 1) := by decide +kernel
theorem dX11_oldest_32 : decode cX11_oldest 32 = .ok (.iload_n 2, 1) := by decide +kernel
theorem dX11_oldest_33 : decode cX11_oldest 33 = .ok (.if_icmp .le 15, 3) := by decide +kernel
theorem dX11_oldest_36 : decode cX11_oldest 36 = .ok (.aload_n 0, 1) := by decide +kernel
theorem dX11_oldest_37 : decode cX11_oldest 37 = .ok (.getfield 19, 3) := by decide +kernel
theorem dX11_oldest_40 : decode cX11_oldest 40 = .ok (.getfield 145, 3) := by decide +kernel
theorem dX11_oldest_43 : decode cX11_oldest 43 = .ok (.iload_n 3, 1) := by decide +kernel
theorem dX11_oldest_44 : decode cX11_oldest 44 = .ok (.iaload, 1) := by decide +kernel
theorem dX11_oldest_45 : decode cX11_oldest 45 = .ok (.istore_n 2, 1) := by decide +kernel
theorem dX11_oldest_46 : decode cX11_oldest 46 = .ok (.iload_n 3, 1) := by decide +kernel
theorem dX11_oldest_47 : decode cX11_oldest 47 = .ok (.istore_n 1, 1) := by decide +kernel
theorem dX11_oldest_48 : decode cX11_oldest 48 = .ok (.iinc 3 1, 3) := by decide +kernel
theorem dX11_oldest_51 : decode cX11_oldest 51 = .ok (.goto (-45), 3) := by decide +kernel
theorem dX11_oldest_54 : decode cX11_oldest 54 = .ok (.iload_n 1, 1) := by decide +kernel
theorem dX11_oldest_55 : decode cX11_oldest 55 = .ok (.ireturn, 1) := by decide +kernel
set_option maxRecDepth 100000 in
set_option maxHeartbeats 200000 in
theorem T_X11_oldest_6_s {X : CX} (hX : Ok X cX11_oldest 4 RX11 (some .int)) (hdx : dX X = 4) {r : Int32} (h : Hp) (q_6 : Int32 → Int32 → Int32 → Option Int32) (hq_6 : ∀ (x1 : Int32) (x2 : Int32) (x3 : Int32), q_6 x1 x2 x3 = some r → J X ((.inl (some (.int r)), h)) 6 [(0, .ref 1), (1, .int x1), (2, .int x2), (3, .int x3)] [] h) (x1 : Int32) (x2 : Int32) (x3 : Int32) (hf : S_X11_oldest_6 h q_6 x1 x2 x3 = some r) : J X ((.inl (some (.int r)), h)) 6 [(0, .ref 1), (1, .int x1), (2, .int x2), (3, .int x3)] [] h := by
  unfold S_X11_oldest_6 at hf
  refine J_iload_n hX 3 dX11_oldest_6 rfl rfl ?_
  refine J_bipush hX 8 dX11_oldest_7 rfl ?_
  rcases ifE hf with ⟨c_1, hf⟩ | ⟨c_1, hf⟩
  · refine J_icmp_geF hX 54 dX11_oldest_9 rfl c_1 ?_
    refine J_aload_n hX 0 dX11_oldest_12 rfl rfl ?_
    refine J_getR hX 100 dX11_oldest_13 fl_X11_19 ob_1 rfl rfl ?_
    refine J_iload_n hX 3 dX11_oldest_16 rfl rfl ?_
    refine V_1 hX [.int x3] dX11_oldest_17 cw_X11_148 (city_ob isc_100) rfl (C_X1_isUp (okG hX) isc_100 rfl) (ltD hdx rfl) rfl rfl rfl rfl ?_
    rcases ifE hf with ⟨c_2, hf⟩ | ⟨c_2, hf⟩
    · refine J_if_eqF hX 48 dX11_oldest_20 rfl (b2iT c_2) ?_
      refine J_aload_n hX 0 dX11_oldest_23 rfl rfl ?_
      refine J_getR hX 100 dX11_oldest_24 fl_X11_19 ob_1 rfl rfl ?_
      refine J_getR hX 104 dX11_oldest_27 fl_X11_145 (city_ob isc_100) rfl rfl ?_
      refine J_iload_n hX 3 dX11_oldest_30 rfl rfl ?_
      obtain ⟨g_3, hf⟩ := gdE hf
      refine J_ald hX x3.toNatClampNeg dX11_oldest_31 (city_ar 4 8 (by decide) isc_100) (Or.inl ⟨rfl, rfl⟩) g_3 rfl ?_
      refine J_iload_n hX 2 dX11_oldest_32 rfl rfl ?_
      rcases ifE hf with ⟨c_4, hf⟩ | ⟨c_4, hf⟩
      · refine J_icmp_leF hX 48 dX11_oldest_33 rfl c_4 ?_
        refine J_aload_n hX 0 dX11_oldest_36 rfl rfl ?_
        refine J_getR hX 100 dX11_oldest_37 fl_X11_19 ob_1 rfl rfl ?_
        refine J_getR hX 104 dX11_oldest_40 fl_X11_145 (city_ob isc_100) rfl rfl ?_
        refine J_iload_n hX 3 dX11_oldest_43 rfl rfl ?_
        obtain ⟨g_5, hf⟩ := gdE hf
        refine J_ald hX x3.toNatClampNeg dX11_oldest_44 (city_ar 4 8 (by decide) isc_100) (Or.inl ⟨rfl, rfl⟩) g_5 rfl ?_
        obtain ⟨x2_6, e_7, hf⟩ := bndE hf
        refine J_nm e_7 ?_
        refine J_istore_n hX [(2, .int x2_6), (0, .ref 1), (1, .int x1), (3, .int x3)] dX11_oldest_45 rfl rfl rfl ?_
        refine J_iload_n hX 3 dX11_oldest_46 rfl rfl ?_
        refine J_istore_n hX [(1, .int x3), (2, .int x2_6), (0, .ref 1), (3, .int x3)] dX11_oldest_47 rfl rfl rfl ?_
        refine J_iinc hX (x3 + 1) 3 [(3, .int (x3 + 1)), (1, .int x3), (2, .int x2_6), (0, .ref 1)] dX11_oldest_48 rfl rfl rfl rfl ?_
        refine J_goto hX 6 dX11_oldest_51 rfl ?_
        refine J_sub [3, 1, 2, 0] [(0, .ref 1), (1, .int x3), (2, .int x2_6), (3, .int (x3 + 1))] rfl ?_
        exact hq_6 x3 x2_6 (x3 + 1) hf
      · refine J_icmp_leT hX 48 dX11_oldest_33 rfl c_4 ?_
        refine J_iinc hX (x3 + 1) 3 [(3, .int (x3 + 1)), (0, .ref 1), (1, .int x1), (2, .int x2)] dX11_oldest_48 rfl rfl rfl rfl ?_
        refine J_goto hX 6 dX11_oldest_51 rfl ?_
        refine J_sub [1, 2, 3, 0] [(0, .ref 1), (1, .int x1), (2, .int x2), (3, .int (x3 + 1))] rfl ?_
        exact hq_6 x1 x2 (x3 + 1) hf
    · refine J_if_eqT hX 48 dX11_oldest_20 rfl (b2iF c_2) ?_
      refine J_iinc hX (x3 + 1) 3 [(3, .int (x3 + 1)), (0, .ref 1), (1, .int x1), (2, .int x2)] dX11_oldest_48 rfl rfl rfl rfl ?_
      refine J_goto hX 6 dX11_oldest_51 rfl ?_
      refine J_sub [1, 2, 3, 0] [(0, .ref 1), (1, .int x1), (2, .int x2), (3, .int (x3 + 1))] rfl ?_
      exact hq_6 x1 x2 (x3 + 1) hf
  · refine J_icmp_geT hX 54 dX11_oldest_9 rfl c_1 ?_
    refine J_iload_n hX 1 dX11_oldest_54 rfl rfl ?_
    exact E_Ip hX dX11_oldest_55 hf
set_option maxRecDepth 100000 in
set_option maxHeartbeats 200000 in
theorem T_X11_oldest_6 {X : CX} (hX : Ok X cX11_oldest 4 RX11 (some .int)) (hdx : dX X = 4) {r : Int32} (h : Hp) : ∀ (n : Nat) (x1 : Int32) (x2 : Int32) (x3 : Int32), F_X11_oldest_6 h n x1 x2 x3 = some r → J X ((.inl (some (.int r)), h)) 6 [(0, .ref 1), (1, .int x1), (2, .int x2), (3, .int x3)] [] h := by
  intro n
  induction n with
  | zero => intro x1 x2 x3 hf; exact nomatch hf
  | succ n ih => intro x1 x2 x3 hf; exact T_X11_oldest_6_s hX hdx h _ (fun x1 x2 x3 hf => ih x1 x2 x3 hf) x1 x2 x3 hf
set_option maxRecDepth 100000 in
set_option maxHeartbeats 200000 in
theorem T_X11_oldest_0 {X : CX} (hX : Ok X cX11_oldest 4 RX11 (some .int)) (hdx : dX X = 4) {r : Int32} (h : Hp) (hf : f_X11_oldest h = some r) : J X ((.inl (some (.int r)), h)) 0 [(0, .ref 1)] [] h := by
  unfold f_X11_oldest at hf
  refine J_iconst hX (-1) dX11_oldest_0 rfl ?_
  refine J_istore_n hX [(1, .int (-1)), (0, .ref 1)] dX11_oldest_1 rfl rfl rfl ?_
  refine J_iconst hX (-1) dX11_oldest_2 rfl ?_
  refine J_istore_n hX [(2, .int (-1)), (1, .int (-1)), (0, .ref 1)] dX11_oldest_3 rfl rfl rfl ?_
  refine J_iconst hX 0 dX11_oldest_4 rfl ?_
  refine J_istore_n hX [(3, .int 0), (2, .int (-1)), (1, .int (-1)), (0, .ref 1)] dX11_oldest_5 rfl rfl rfl ?_
  refine J_sub [3, 2, 1, 0] [(0, .ref 1), (1, .int (-1)), (2, .int (-1)), (3, .int 0)] rfl ?_
  exact T_X11_oldest_6 hX hdx h FU (-1) (-1) 0 hf
set_option maxRecDepth 100000 in
set_option maxHeartbeats 200000 in
theorem C_X11_oldest {G : GX} (hG : GOk G) {h : Hp} {r : Int32} (hf : f_X11_oldest h = some r) : Ctr G 4 yX11_oldest cX11_oldest 4 (some .int) [.ref 1] h ((.inl (some (.int r)), h)) :=
  Ctr_of hG RX11 rfl (by decide) rfl (fun X _ hdx hX => T_X11_oldest_0 hX hdx h hf)
theorem dX11_gates_0 : decode cX11_gates 0 = .ok (.iload_n 1, 1) := by decide +kernel
theorem dX11_gates_1 : decode cX11_gates 1 = .ok (.iconst (-1), 1) := by decide +kernel
theorem dX11_gates_2 : decode cX11_gates 2 = .ok (.if_icmp .eq 8, 3) := by decide +kernel
theorem dX11_gates_5 : decode cX11_gates 5 = .ok (.aload_n 0, 1) := by decide +kernel
theorem dX11_gates_6 : decode cX11_gates 6 = .ok (.iload_n 1, 1) := by decide +kernel
theorem dX11_gates_7 : decode cX11_gates 7 = .ok (.invokevirtual 193, 3) := by decide +kernel
theorem dX11_gates_10 : decode cX11_gates 10 = .ok (.aload_n 0, 1) := by decide +kernel
theorem dX11_gates_11 : decode cX11_gates 11 = .ok (.getfield 23, 3) := by decide +kernel
theorem dX11_gates_14 : decode cX11_gates 14 = .ok (.aload_n 0, 1) := by decide +kernel
theorem dX11_gates_15 : decode cX11_gates 15 = .ok (.getfield 19, 3) := by decide +kernel
theorem dX11_gates_18 : decode cX11_gates 18 = .ok (.invokevirtual 82, 3) := by decide +kernel
theorem dX11_gates_21 : decode cX11_gates 21 = .ok (.iconst 0, 1) := by decide +kernel
theorem dX11_gates_22 : decode cX11_gates 22 = .ok (.istore_n 2, 1) := by decide +kernel
theorem dX11_gates_23 : decode cX11_gates 23 = .ok (.iload_n 2, 1) := by decide +kernel
theorem dX11_gates_24 : decode cX11_gates 24 = .ok (.bipush 6, 2) := by decide +kernel
theorem dX11_gates_26 : decode cX11_gates 26 = .ok (.if_icmp .ge 18, 3) := by decide +kernel
theorem dX11_gates_29 : decode cX11_gates 29 = .ok (.aload_n 0, 1) := by decide +kernel
theorem dX11_gates_30 : decode cX11_gates 30 = .ok (.getfield 23, 3) := by decide +kernel
theorem dX11_gates_33 : decode cX11_gates 33 = .ok (.iload_n 2, 1) := by decide +kernel
theorem dX11_gates_34 : decode cX11_gates 34 = .ok (.iconst (-1), 1) := by decide +kernel
theorem dX11_gates_35 : decode cX11_gates 35 = .ok (.invokevirtual 280, 3) := by decide +kernel
theorem dX11_gates_38 : decode cX11_gates 38 = .ok (.iinc 2 1, 3) := by decide +kernel
theorem dX11_gates_41 : decode cX11_gates 41 = .ok (.goto (-18), 3) := by decide +kernel
theorem dX11_gates_44 : decode cX11_gates 44 = .ok (.aload_n 0, 1) := by decide +kernel
theorem dX11_gates_45 : decode cX11_gates 45 = .ok (.getfield 39, 3) := by decide +kernel
theorem dX11_gates_48 : decode cX11_gates 48 = .ok (.getfield 182, 3) := by decide +kernel
theorem dX11_gates_51 : decode cX11_gates 51 = .ok (.aload_n 0, 1) := by decide +kernel
theorem dX11_gates_52 : decode cX11_gates 52 = .ok (.getfield 23, 3) := by decide +kernel
theorem dX11_gates_55 : decode cX11_gates 55 = .ok (.aload_n 0, 1) := by decide +kernel
theorem dX11_gates_56 : decode cX11_gates 56 = .ok (.getfield 29, 3) := by decide +kernel
theorem dX11_gates_59 : decode cX11_gates 59 = .ok (.aload_n 0, 1) := by decide +kernel
theorem dX11_gates_60 : decode cX11_gates 60 = .ok (.getfield 23, 3) := by decide +kernel
theorem dX11_gates_63 : decode cX11_gates 63 = .ok (.getfield 205, 3) := by decide +kernel
theorem dX11_gates_66 : decode cX11_gates 66 = .ok (.invokevirtual 303, 3) := by decide +kernel
theorem dX11_gates_69 : decode cX11_gates 69 = .ok (.aload_n 0, 1) := by decide +kernel
theorem dX11_gates_70 : decode cX11_gates 70 = .ok (.getfield 53, 3) := by decide +kernel
theorem dX11_gates_73 : decode cX11_gates 73 = .ok (.aload_n 0, 1) := by decide +kernel
theorem dX11_gates_74 : decode cX11_gates 74 = .ok (.getfield 23, 3) := by decide +kernel
theorem dX11_gates_77 : decode cX11_gates 77 = .ok (.aload_n 0, 1) := by decide +kernel
theorem dX11_gates_78 : decode cX11_gates 78 = .ok (.getfield 39, 3) := by decide +kernel
theorem dX11_gates_81 : decode cX11_gates 81 = .ok (.getfield 182, 3) := by decide +kernel
theorem dX11_gates_84 : decode cX11_gates 84 = .ok (.invokevirtual 356, 3) := by decide +kernel
theorem dX11_gates_87 : decode cX11_gates 87 = .ok (.istore_n 2, 1) := by decide +kernel
theorem dX11_gates_88 : decode cX11_gates 88 = .ok (.iload_n 1, 1) := by decide +kernel
theorem dX11_gates_89 : decode cX11_gates 89 = .ok (.iconst (-1), 1) := by decide +kernel
theorem dX11_gates_90 : decode cX11_gates 90 = .ok (.if_icmp .ne 7, 3) := by decide +kernel
theorem dX11_gates_93 : decode cX11_gates 93 = .ok (.iload_n 2, 1) := by decide +kernel
theorem dX11_gates_94 : decode cX11_gates 94 = .ok (.goto 11, 3) := by decide +kernel
theorem dX11_gates_97 : decode cX11_gates 97 = .ok (.aload_n 0, 1) := by decide +kernel
theorem dX11_gates_98 : decode cX11_gates 98 = .ok (.getfield 53, 3) := by decide +kernel
theorem dX11_gates_101 : decode cX11_gates 101 = .ok (.iload_n 1, 1) := by decide +kernel
theorem dX11_gates_102 : decode cX11_gates 102 = .ok (.invokevirtual 359, 3) := by decide +kernel
theorem dX11_gates_105 : decode cX11_gates 105 = .ok (.ireturn, 1) := by decide +kernel
set_option maxRecDepth 100000 in
set_option maxHeartbeats 200000 in
theorem T_X11_gates_23_s {X : CX} (hX : Ok X cX11_gates 3 RX11 (some .int)) (hdx : dX X = 11) {r : Except String Int32 × Hp} (x1 : Int32) (q_23 : Int32 → Hp → Option (Except String Int32 × Hp)) (hq_23 : ∀ (x2 : Int32) (h : Hp), q_23 x2 h = some r → J X (oX tvI r) 23 [(0, .ref 1), (1, .int x1), (2, .int x2)] [] h) (x2 : Int32) (h : Hp) (hf : S_X11_gates_23 x1 q_23 x2 h = some r) : J X (oX tvI r) 23 [(0, .ref 1), (1, .int x1), (2, .int x2)] [] h := by
  unfold S_X11_gates_23 at hf
  refine J_iload_n hX 2 dX11_gates_23 rfl rfl ?_
  refine J_bipush hX 6 dX11_gates_24 rfl ?_
  rcases ifE hf with ⟨c_1, hf⟩ | ⟨c_1, hf⟩
  · refine J_icmp_geF hX 44 dX11_gates_26 rfl c_1 ?_
    refine J_aload_n hX 0 dX11_gates_29 rfl rfl ?_
    refine J_getR hX 116 dX11_gates_30 fl_X11_23 ob_1 rfl rfl ?_
    refine J_iload_n hX 2 dX11_gates_33 rfl rfl ?_
    refine J_iconst hX (-1) dX11_gates_34 rfl ?_
    obtain ⟨r_2, e_3, hf⟩ := bdE hf
    refine V_0 hX [.int x2, .int (-1)] dX11_gates_35 cw_X11_280 (city_ob isc_116) rfl (C_X1_put (okG hX) isc_116 e_3) (ltD hdx rfl) rfl rfl rfl rfl ?_
    refine J_iinc hX (x2 + 1) 2 [(2, .int (x2 + 1)), (0, .ref 1), (1, .int x1)] dX11_gates_38 rfl rfl rfl rfl ?_
    refine J_goto hX 23 dX11_gates_41 rfl ?_
    refine J_sub [1, 2, 0] [(0, .ref 1), (1, .int x1), (2, .int (x2 + 1))] rfl ?_
    exact hq_23 (x2 + 1) r_2 hf
  · refine J_icmp_geT hX 44 dX11_gates_26 rfl c_1 ?_
    refine J_aload_n hX 0 dX11_gates_44 rfl rfl ?_
    refine J_getR hX 4 dX11_gates_45 fl_X11_39 ob_1 rfl rfl ?_
    refine J_getR hX 5 dX11_gates_48 fl_X11_182 ob_4 rfl rfl ?_
    refine J_aload_n hX 0 dX11_gates_51 rfl rfl ?_
    refine J_getR hX 116 dX11_gates_52 fl_X11_23 ob_1 rfl rfl ?_
    refine J_aload_n hX 0 dX11_gates_55 rfl rfl ?_
    refine J_getR hX 500 dX11_gates_56 fl_X11_29 ob_1 rfl rfl ?_
    refine J_aload_n hX 0 dX11_gates_59 rfl rfl ?_
    refine J_getR hX 116 dX11_gates_60 fl_X11_23 ob_1 rfl rfl ?_
    refine J_getI hX dX11_gates_63 fl_X11_205 (city_ob isc_116) rfl ?_
    obtain ⟨r_4, e_5, hf⟩ := bdE hf
    refine V_0 hX [.ref 116, .ref 500, .int (h 116 12)] dX11_gates_66 cw_X11_303 ob_5 rfl (C_X9_measure (okG hX) isc_116 isl_500 e_5) (ltD hdx rfl) rfl rfl rfl rfl ?_
    refine J_aload_n hX 0 dX11_gates_69 rfl rfl ?_
    refine J_getR hX 19 dX11_gates_70 fl_X11_53 ob_1 rfl rfl ?_
    refine J_aload_n hX 0 dX11_gates_73 rfl rfl ?_
    refine J_getR hX 116 dX11_gates_74 fl_X11_23 ob_1 rfl rfl ?_
    refine J_aload_n hX 0 dX11_gates_77 rfl rfl ?_
    refine J_getR hX 4 dX11_gates_78 fl_X11_39 ob_1 rfl rfl ?_
    refine J_getR hX 5 dX11_gates_81 fl_X11_182 ob_4 rfl rfl ?_
    obtain ⟨r_6, e_7, hf⟩ := bdE hf
    refine V_1 hX [.ref 116, .ref 5] dX11_gates_84 cw_X11_356 ob_19 rfl (C_X7_solve (okG hX) isc_116 e_7) (ltD hdx rfl) rfl rfl rfl rfl ?_
    refine J_istore_n hX [(2, .int r_6.1), (0, .ref 1), (1, .int x1)] dX11_gates_87 rfl rfl rfl ?_
    refine J_iload_n hX 2 dX11_gates_88 rfl rfl ?_
    refine J_iconst hX (-1) dX11_gates_89 rfl ?_
    rcases ifE hf with ⟨c_8, hf⟩ | ⟨c_8, hf⟩
    · refine J_icmp_neF hX 97 dX11_gates_90 rfl c_8 ?_
      refine J_iload_n hX 0 dX11_gates_93 rfl rfl ?_
      refine J_goto hX 105 dX11_gates_94 rfl ?_
      exact E_Ix hX dX11_gates_105 hf
    · refine J_icmp_neT hX 97 dX11_gates_90 rfl c_8 ?_
      refine J_aload_n hX 1 dX11_gates_97 rfl rfl ?_
      refine J_getR hX 19 dX11_gates_98 fl_X11_53 ob_1 rfl rfl ?_
      refine J_iload_n hX 2 dX11_gates_101 rfl rfl ?_
      obtain ⟨r_9, e_10, hf⟩ := bdE hf
      refine V_1 hX [.int x1] dX11_gates_102 cw_X11_359 ob_19 rfl (C_X7_placeOf (okG hX) e_10) (ltD hdx rfl) rfl rfl rfl rfl ?_
      exact E_Ix hX dX11_gates_105 hf
set_option maxRecDepth 100000 in
set_option maxHeartbeats 200000 in
theorem T_X11_gates_23 {X : CX} (hX : Ok X cX11_gates 3 RX11 (some .int)) (hdx : dX X = 11) {r : Except String Int32 × Hp} (x1 : Int32) : ∀ (n : Nat) (x2 : Int32) (h : Hp), F_X11_gates_23 x1 n x2 h = some r → J X (oX tvI r) 23 [(0, .ref 1), (1, .int x1), (2, .int x2)] [] h := by
  intro n
  induction n with
  | zero => intro x2 h hf; exact nomatch hf
  | succ n ih => intro x2 h hf; exact T_X11_gates_23_s hX hdx x1 _ (fun x2 h hf => ih x2 h hf) x2 h hf
set_option maxRecDepth 100000 in
set_option maxHeartbeats 200000 in
theorem T_X11_gates_10 {X : CX} (hX : Ok X cX11_gates 3 RX11 (some .int)) (hdx : dX X = 11) {r : Except String Int32 × Hp} (x1 : Int32) (h : Hp) (hf : F_X11_gates_10 x1 h = some r) : J X (oX tvI r) 10 [(0, .ref 1), (1, .int x1)] [] h := by
  unfold F_X11_gates_10 at hf
  refine J_aload_n hX 0 dX11_gates_10 rfl rfl ?_
  refine J_getR hX 116 dX11_gates_11 fl_X11_23 ob_1 rfl rfl ?_
  refine J_aload_n hX 0 dX11_gates_14 rfl rfl ?_
  refine J_getR hX 100 dX11_gates_15 fl_X11_19 ob_1 rfl rfl ?_
  obtain ⟨r_1, e_2, hf⟩ := bdE hf
  refine V_0 hX [.ref 100] dX11_gates_18 cw_X11_82 (city_ob isc_116) rfl (C_X1_copyFrom (okG hX) isc_116 isc_100 e_2) (ltD hdx rfl) rfl rfl rfl rfl ?_
  refine J_iconst hX 0 dX11_gates_21 rfl ?_
  refine J_istore_n hX [(2, .int 0), (0, .ref 1), (1, .int x1)] dX11_gates_22 rfl rfl rfl ?_
  refine J_sub [1, 2, 0] [(0, .ref 1), (1, .int x1), (2, .int 0)] rfl ?_
  exact T_X11_gates_23 hX hdx x1 FU 0 r_1 hf
set_option maxRecDepth 100000 in
set_option maxHeartbeats 200000 in
theorem T_X11_gates_0 {X : CX} (hX : Ok X cX11_gates 3 RX11 (some .int)) (hdx : dX X = 11) {r : Except String Int32 × Hp} (x1 : Int32) (h : Hp) (hf : f_X11_gates x1 h = some r) : J X (oX tvI r) 0 [(0, .ref 1), (1, .int x1)] [] h := by
  unfold f_X11_gates at hf
  refine J_iload_n hX 1 dX11_gates_0 rfl rfl ?_
  refine J_iconst hX (-1) dX11_gates_1 rfl ?_
  rcases ifE hf with ⟨c_1, hf⟩ | ⟨c_1, hf⟩
  · refine J_icmp_eqT hX 10 dX11_gates_2 rfl c_1 ?_
    exact T_X11_gates_10 hX hdx x1 h hf
  · refine J_icmp_eqF hX 10 dX11_gates_2 rfl c_1 ?_
    refine J_aload_n hX 0 dX11_gates_5 rfl rfl ?_
    refine J_iload_n hX 1 dX11_gates_6 rfl rfl ?_
    obtain ⟨r_2, e_3, hf⟩ := bdE hf
    rcases exE hf with ⟨v_4, h_5, z_7, hg⟩ | ⟨E_6, h_5, z_7, z_7r⟩
    all_goals clear hf
    rotate_left
    · subst z_7
      exact V_kx hX [.int x1] dX11_gates_7 cw_X11_193 ob_1 rfl (C_X11_checkPerson (okG hX) e_3) (ltD hdx rfl) rfl rfl rfl rfl z_7r
    subst z_7
    have hf := hg
    clear hg
    refine V_k0 hX [.int x1] dX11_gates_7 cw_X11_193 ob_1 rfl (C_X11_checkPerson (okG hX) e_3) (ltD hdx rfl) rfl rfl rfl rfl rfl ?_
    exact T_X11_gates_10 hX hdx x1 h_5 hf
set_option maxRecDepth 100000 in
set_option maxHeartbeats 200000 in
theorem C_X11_gates {G : GX} (hG : GOk G) {x1 : Int32} {h : Hp} {r : Except String Int32 × Hp} (hf : f_X11_gates x1 h = some r) : Ctr G 11 yX11_gates cX11_gates 3 (some .int) [.ref 1, .int x1] h (oX tvI r) :=
  Ctr_of hG RX11 rfl (by decide) rfl (fun X _ hdx hX => T_X11_gates_0 hX hdx x1 h hf)
theorem dX11_checkTwoPeople_0 : decode cX11_checkTwoPeople 0 = .ok (.aload_n 0, 1) := by decide +kernel
theorem dX11_checkTwoPeople_1 : decode cX11_checkTwoPeople 1 = .ok (.iload_n 1, 1) := by decide +kernel
theorem dX11_checkTwoPeople_2 : decode cX11_checkTwoPeople 2 = .ok (.invokevirtual 193, 3) := by decide +kernel
theorem dX11_checkTwoPeople_5 : decode cX11_checkTwoPeople 5 = .ok (.aload_n 0, 1) := by decide +kernel
theorem dX11_checkTwoPeople_6 : decode cX11_checkTwoPeople 6 = .ok (.iload_n 2, 1) := by decide +kernel
theorem dX11_checkTwoPeople_7 : decode cX11_checkTwoPeople 7 = .ok (.invokevirtual 193, 3) := by decide +kernel
theorem dX11_checkTwoPeople_10 : decode cX11_checkTwoPeople 10 = .ok (.iload_n 1, 1) := by decide +kernel
theorem dX11_checkTwoPeople_11 : decode cX11_checkTwoPeople 11 = .ok (.iload_n 2, 1) := by decide +kernel
theorem dX11_checkTwoPeople_12 : decode cX11_checkTwoPeople 12 = .ok (.if_icmp .ne 11, 3) := by decide +kernel
theorem dX11_checkTwoPeople_15 : decode cX11_checkTwoPeople 15 = .ok (.new 92, 3) := by decide +kernel
theorem dX11_checkTwoPeople_18 : decode cX11_checkTwoPeople 18 = .ok (.dup, 1) := by decide +kernel
theorem dX11_checkTwoPeople_19 : decode cX11_checkTwoPeople 19 = .ok (.invokespecial 94, 3) := by decide +kernel
theorem dX11_checkTwoPeople_22 : decode cX11_checkTwoPeople 22 = .ok (.athrow, 1) := by decide +kernel
theorem dX11_checkTwoPeople_23 : decode cX11_checkTwoPeople 23 = .ok (.return_, 1) := by decide +kernel
set_option maxRecDepth 100000 in
set_option maxHeartbeats 200000 in
theorem T_X11_checkTwoPeople_0 {X : CX} (hX : Ok X cX11_checkTwoPeople 3 RX11 none) (hdx : dX X = 11) {r : Except String Unit × Hp} (x1 : Int32) (x2 : Int32) (h : Hp) (hf : f_X11_checkTwoPeople x1 x2 h = some r) : J X (oX tvV r) 0 [(0, .ref 1), (1, .int x1), (2, .int x2)] [] h := by
  unfold f_X11_checkTwoPeople at hf
  refine J_aload_n hX 0 dX11_checkTwoPeople_0 rfl rfl ?_
  refine J_iload_n hX 1 dX11_checkTwoPeople_1 rfl rfl ?_
  obtain ⟨r_1, e_2, hf⟩ := bdE hf
  rcases exE hf with ⟨v_3, h_4, z_6, hg⟩ | ⟨E_5, h_4, z_6, z_6r⟩
  all_goals clear hf
  rotate_left
  · subst z_6
    exact V_kx hX [.int x1] dX11_checkTwoPeople_2 cw_X11_193 ob_1 rfl (C_X11_checkPerson (okG hX) e_2) (ltD hdx rfl) rfl rfl rfl rfl z_6r
  subst z_6
  have hf := hg
  clear hg
  refine V_k0 hX [.int x1] dX11_checkTwoPeople_2 cw_X11_193 ob_1 rfl (C_X11_checkPerson (okG hX) e_2) (ltD hdx rfl) rfl rfl rfl rfl rfl ?_
  refine J_aload_n hX 0 dX11_checkTwoPeople_5 rfl rfl ?_
  refine J_iload_n hX 2 dX11_checkTwoPeople_6 rfl rfl ?_
  obtain ⟨r_7, e_8, hf⟩ := bdE hf
  rcases exE hf with ⟨v_9, h_10, z_12, hg⟩ | ⟨E_11, h_10, z_12, z_12r⟩
  all_goals clear hf
  rotate_left
  · subst z_12
    exact V_kx hX [.int x2] dX11_checkTwoPeople_7 cw_X11_193 ob_1 rfl (C_X11_checkPerson (okG hX) e_8) (ltD hdx rfl) rfl rfl rfl rfl z_12r
  subst z_12
  have hf := hg
  clear hg
  refine V_k0 hX [.int x2] dX11_checkTwoPeople_7 cw_X11_193 ob_1 rfl (C_X11_checkPerson (okG hX) e_8) (ltD hdx rfl) rfl rfl rfl rfl rfl ?_
  refine J_iload_n hX 1 dX11_checkTwoPeople_10 rfl rfl ?_
  refine J_iload_n hX 2 dX11_checkTwoPeople_11 rfl rfl ?_
  rcases ifE hf with ⟨c_13, hf⟩ | ⟨c_13, hf⟩
  · refine J_icmp_neF hX 23 dX11_checkTwoPeople_12 rfl c_13 ?_
    exact E_thr hX exN dX11_checkTwoPeople_15 dX11_checkTwoPeople_18 dX11_checkTwoPeople_19 dX11_checkTwoPeople_22 tw_X11_92_94 (ltD hdx rfl) rfl hf
  · refine J_icmp_neT hX 23 dX11_checkTwoPeople_12 rfl c_13 ?_
    exact E_Vx hX dX11_checkTwoPeople_23 hf
set_option maxRecDepth 100000 in
set_option maxHeartbeats 200000 in
theorem C_X11_checkTwoPeople {G : GX} (hG : GOk G) {x1 : Int32} {x2 : Int32} {h : Hp} {r : Except String Unit × Hp} (hf : f_X11_checkTwoPeople x1 x2 h = some r) : Ctr G 11 yX11_checkTwoPeople cX11_checkTwoPeople 3 none [.ref 1, .int x1, .int x2] h (oX tvV r) :=
  Ctr_of hG RX11 rfl (by decide) rfl (fun X _ hdx hX => T_X11_checkTwoPeople_0 hX hdx x1 x2 h hf)
theorem dX11_swap_0 : decode cX11_swap 0 = .ok (.aload_n 0, 1) := by decide +kernel
theorem dX11_swap_1 : decode cX11_swap 1 = .ok (.iload_n 1, 1) := by decide +kernel
theorem dX11_swap_2 : decode cX11_swap 2 = .ok (.iload_n 2, 1) := by decide +kernel
theorem dX11_swap_3 : decode cX11_swap 3 = .ok (.invokevirtual 360, 3) := by decide +kernel
theorem dX11_swap_6 : decode cX11_swap 6 = .ok (.aload_n 0, 1) := by decide +kernel
theorem dX11_swap_7 : decode cX11_swap 7 = .ok (.aload_n 0, 1) := by decide +kernel
theorem dX11_swap_8 : decode cX11_swap 8 = .ok (.getfield 19, 3) := by decide +kernel
theorem dX11_swap_11 : decode cX11_swap 11 = .ok (.getfield 205, 3) := by decide +kernel
theorem dX11_swap_14 : decode cX11_swap 14 = .ok (.invokevirtual 211, 3) := by decide +kernel
theorem dX11_swap_17 : decode cX11_swap 17 = .ok (.invokestatic 248, 3) := by decide +kernel
theorem dX11_swap_20 : decode cX11_swap 20 = .ok (.istore_n 3, 1) := by decide +kernel
theorem dX11_swap_21 : decode cX11_swap 21 = .ok (.aload_n 0, 1) := by decide +kernel
theorem dX11_swap_22 : decode cX11_swap 22 = .ok (.getfield 23, 3) := by decide +kernel
theorem dX11_swap_25 : decode cX11_swap 25 = .ok (.aload_n 0, 1) := by decide +kernel
theorem dX11_swap_26 : decode cX11_swap 26 = .ok (.getfield 19, 3) := by decide +kernel
theorem dX11_swap_29 : decode cX11_swap 29 = .ok (.invokevirtual 82, 3) := by decide +kernel
theorem dX11_swap_32 : decode cX11_swap 32 = .ok (.aload_n 0, 1) := by decide +kernel
theorem dX11_swap_33 : decode cX11_swap 33 = .ok (.getfield 23, 3) := by decide +kernel
theorem dX11_swap_36 : decode cX11_swap 36 = .ok (.iload_n 1, 1) := by decide +kernel
theorem dX11_swap_37 : decode cX11_swap 37 = .ok (.aload_n 0, 1) := by decide +kernel
theorem dX11_swap_38 : decode cX11_swap 38 = .ok (.getfield 19, 3) := by decide +kernel
theorem dX11_swap_41 : decode cX11_swap 41 = .ok (.iload_n 2, 1) := by decide +kernel
theorem dX11_swap_42 : decode cX11_swap 42 = .ok (.invokevirtual 196, 3) := by decide +kernel
theorem dX11_swap_45 : decode cX11_swap 45 = .ok (.invokevirtual 280, 3) := by decide +kernel
theorem dX11_swap_48 : decode cX11_swap 48 = .ok (.aload_n 0, 1) := by decide +kernel
theorem dX11_swap_49 : decode cX11_swap 49 = .ok (.getfield 23, 3) := by decide +kernel
theorem dX11_swap_52 : decode cX11_swap 52 = .ok (.iload_n 2, 1) := by decide +kernel
theorem dX11_swap_53 : decode cX11_swap 53 = .ok (.aload_n 0, 1) := by decide +kernel
theorem dX11_swap_54 : decode cX11_swap 54 = .ok (.getfield 19, 3) := by decide +kernel
theorem dX11_swap_57 : decode cX11_swap 57 = .ok (.iload_n 1, 1) := by decide +kernel
theorem dX11_swap_58 : decode cX11_swap 58 = .ok (.invokevirtual 196, 3) := by decide +kernel
theorem dX11_swap_61 : decode cX11_swap 61 = .ok (.invokevirtual 280, 3) := by decide +kernel
theorem dX11_swap_64 : decode cX11_swap 64 = .ok (.aload_n 0, 1) := by decide +kernel
theorem dX11_swap_65 : decode cX11_swap 65 = .ok (.getfield 39, 3) := by decide +kernel
theorem dX11_swap_68 : decode cX11_swap 68 = .ok (.aload_n 0, 1) := by decide +kernel
theorem dX11_swap_69 : decode cX11_swap 69 = .ok (.getfield 23, 3) := by decide +kernel
theorem dX11_swap_72 : decode cX11_swap 72 = .ok (.aload_n 0, 1) := by decide +kernel
theorem dX11_swap_73 : decode cX11_swap 73 = .ok (.getfield 29, 3) := by decide +kernel
theorem dX11_swap_76 : decode cX11_swap 76 = .ok (.aload_n 0, 1) := by decide +kernel
theorem dX11_swap_77 : decode cX11_swap 77 = .ok (.getfield 23, 3) := by decide +kernel
theorem dX11_swap_80 : decode cX11_swap 80 = .ok (.getfield 205, 3) := by decide +kernel
theorem dX11_swap_83 : decode cX11_swap 83 = .ok (.invokevirtual 363, 3) := by decide +kernel
theorem dX11_swap_86 : decode cX11_swap 86 = .ok (.invokestatic 248, 3) := by decide +kernel
theorem dX11_swap_89 : decode cX11_swap 89 = .ok (.iload_n 3, 1) := by decide +kernel
theorem dX11_swap_90 : decode cX11_swap 90 = .ok (.if_icmp .ge 7, 3) := by decide +kernel
theorem dX11_swap_93 : decode cX11_swap 93 = .ok (.iconst 1, 1) := by decide +kernel
theorem dX11_swap_94 : decode cX11_swap 94 = .ok (.goto 4, 3) := by decide +kernel
theorem dX11_swap_97 : decode cX11_swap 97 = .ok (.iconst 0, 1) := by decide +kernel
theorem dX11_swap_98 : decode cX11_swap 98 = .ok (.ireturn, 1) := by decide +kernel
set_option maxRecDepth 100000 in
set_option maxHeartbeats 200000 in
theorem T_X11_swap_0 {X : CX} (hX : Ok X cX11_swap 4 RX11 (some .boolean)) (hdx : dX X = 12) {r : Except String Bool × Hp} (x1 : Int32) (x2 : Int32) (h : Hp) (hf : f_X11_swap x1 x2 h = some r) : J X (oX tvZ r) 0 [(0, .ref 1), (1, .int x1), (2, .int x2)] [] h := by
  unfold f_X11_swap at hf
  refine J_aload_n hX 0 dX11_swap_0 rfl rfl ?_
  refine J_iload_n hX 1 dX11_swap_1 rfl rfl ?_
  refine J_iload_n hX 2 dX11_swap_2 rfl rfl ?_
  obtain ⟨r_1, e_2, hf⟩ := bdE hf
  rcases exE hf with ⟨v_3, h_4, z_6, hg⟩ | ⟨E_5, h_4, z_6, z_6r⟩
  all_goals clear hf
  rotate_left
  · subst z_6
    exact V_kx hX [.int x1, .int x2] dX11_swap_3 cw_X11_360 ob_1 rfl (C_X11_checkTwoPeople (okG hX) e_2) (ltD hdx rfl) rfl rfl rfl rfl z_6r
  subst z_6
  have hf := hg
  clear hg
  refine V_k0 hX [.int x1, .int x2] dX11_swap_3 cw_X11_360 ob_1 rfl (C_X11_checkTwoPeople (okG hX) e_2) (ltD hdx rfl) rfl rfl rfl rfl rfl ?_
  refine J_aload_n hX 0 dX11_swap_6 rfl rfl ?_
  refine J_aload_n hX 0 dX11_swap_7 rfl rfl ?_
  refine J_getR hX 100 dX11_swap_8 fl_X11_19 ob_1 rfl rfl ?_
  refine J_getI hX dX11_swap_11 fl_X11_205 (city_ob isc_100) rfl ?_
  obtain ⟨r_7, e_8, hf⟩ := bdE hf
  refine V_1 hX [.int (h_4 100 12)] dX11_swap_14 cw_X11_211 ob_1 rfl (C_X11_fallsNow (okG hX) e_8) (ltD hdx rfl) rfl rfl rfl rfl ?_
  refine S_1 hX [.int r_7.1] dX11_swap_17 cw_X11_248 (C_J6_bitCount_0f7a4 (okG hX) rfl) (ltD hdx rfl) rfl rfl rfl rfl ?_
  obtain ⟨x3_9, e_10, hf⟩ := bndE hf
  refine J_nm e_10 ?_
  refine J_istore_n hX [(3, .int x3_9), (0, .ref 1), (1, .int x1), (2, .int x2)] dX11_swap_20 rfl rfl rfl ?_
  refine J_aload_n hX 1 dX11_swap_21 rfl rfl ?_
  refine J_getR hX 116 dX11_swap_22 fl_X11_23 ob_1 rfl rfl ?_
  refine J_aload_n hX 1 dX11_swap_25 rfl rfl ?_
  refine J_getR hX 100 dX11_swap_26 fl_X11_19 ob_1 rfl rfl ?_
  obtain ⟨r_11, e_12, hf⟩ := bdE hf
  refine V_0 hX [.ref 100] dX11_swap_29 cw_X11_82 (city_ob isc_116) rfl (C_X1_copyFrom (okG hX) isc_116 isc_100 e_12) (ltD hdx rfl) rfl rfl rfl rfl ?_
  refine J_aload_n hX 1 dX11_swap_32 rfl rfl ?_
  refine J_getR hX 116 dX11_swap_33 fl_X11_23 ob_1 rfl rfl ?_
  refine J_iload_n hX 2 dX11_swap_36 rfl rfl ?_
  refine J_aload_n hX 1 dX11_swap_37 rfl rfl ?_
  refine J_getR hX 100 dX11_swap_38 fl_X11_19 ob_1 rfl rfl ?_
  refine J_iload_n hX 3 dX11_swap_41 rfl rfl ?_
  obtain ⟨r_13, e_14, hf⟩ := bdE hf
  refine V_1 hX [.int x2] dX11_swap_42 cw_X11_196 (city_ob isc_100) rfl (C_X1_placeOf (okG hX) isc_100 e_14) (ltD hdx rfl) rfl rfl rfl rfl ?_
  obtain ⟨r_15, e_16, hf⟩ := bdE hf
  refine V_0 hX [.int x1, .int r_13] dX11_swap_45 cw_X11_280 (city_ob isc_116) rfl (C_X1_put (okG hX) isc_116 e_16) (ltD hdx rfl) rfl rfl rfl rfl ?_
  refine J_aload_n hX 1 dX11_swap_48 rfl rfl ?_
  refine J_getR hX 116 dX11_swap_49 fl_X11_23 ob_1 rfl rfl ?_
  refine J_iload_n hX 3 dX11_swap_52 rfl rfl ?_
  refine J_aload_n hX 1 dX11_swap_53 rfl rfl ?_
  refine J_getR hX 100 dX11_swap_54 fl_X11_19 ob_1 rfl rfl ?_
  refine J_iload_n hX 2 dX11_swap_57 rfl rfl ?_
  obtain ⟨r_17, e_18, hf⟩ := bdE hf
  refine V_1 hX [.int x1] dX11_swap_58 cw_X11_196 (city_ob isc_100) rfl (C_X1_placeOf (okG hX) isc_100 e_18) (ltD hdx rfl) rfl rfl rfl rfl ?_
  obtain ⟨r_19, e_20, hf⟩ := bdE hf
  refine V_0 hX [.int x2, .int r_17] dX11_swap_61 cw_X11_280 (city_ob isc_116) rfl (C_X1_put (okG hX) isc_116 e_20) (ltD hdx rfl) rfl rfl rfl rfl ?_
  refine J_aload_n hX 1 dX11_swap_64 rfl rfl ?_
  refine J_getR hX 4 dX11_swap_65 fl_X11_39 ob_1 rfl rfl ?_
  refine J_aload_n hX 1 dX11_swap_68 rfl rfl ?_
  refine J_getR hX 116 dX11_swap_69 fl_X11_23 ob_1 rfl rfl ?_
  refine J_aload_n hX 1 dX11_swap_72 rfl rfl ?_
  refine J_getR hX 500 dX11_swap_73 fl_X11_29 ob_1 rfl rfl ?_
  refine J_aload_n hX 1 dX11_swap_76 rfl rfl ?_
  refine J_getR hX 116 dX11_swap_77 fl_X11_23 ob_1 rfl rfl ?_
  refine J_getI hX dX11_swap_80 fl_X11_205 (city_ob isc_116) rfl ?_
  obtain ⟨r_21, e_22, hf⟩ := bdE hf
  refine V_1 hX [.ref 116, .ref 500, .int (r_19 116 12)] dX11_swap_83 cw_X11_363 ob_4 rfl (C_X3_fall (okG hX) isc_116 isl_500 e_22) (ltD hdx rfl) rfl rfl rfl rfl ?_
  refine S_1 hX [.int r_21.1] dX11_swap_86 cw_X11_248 (C_J6_bitCount_0f7a4 (okG hX) rfl) (ltD hdx rfl) rfl rfl rfl rfl ?_
  refine J_iload_n hX 0 dX11_swap_89 rfl rfl ?_
  rcases ifE hf with ⟨c_23, hf⟩ | ⟨c_23, hf⟩
  · refine J_icmp_geF hX 97 dX11_swap_90 rfl c_23 ?_
    refine J_iconst hX 1 dX11_swap_93 rfl ?_
    refine J_goto hX 98 dX11_swap_94 rfl ?_
    exact E_Zx hX dX11_swap_98 rfl hf
  · refine J_icmp_geT hX 97 dX11_swap_90 rfl c_23 ?_
    refine J_iconst hX 0 dX11_swap_97 rfl ?_
    exact E_Zx hX dX11_swap_98 rfl hf
set_option maxRecDepth 100000 in
set_option maxHeartbeats 200000 in
theorem C_X11_swap {G : GX} (hG : GOk G) {x1 : Int32} {x2 : Int32} {h : Hp} {r : Except String Bool × Hp} (hf : f_X11_swap x1 x2 h = some r) : Ctr G 12 yX11_swap cX11_swap 4 (some .boolean) [.ref 1, .int x1, .int x2] h (oX tvZ r) :=
  Ctr_of hG RX11 rfl (by decide) rfl (fun X _ hdx hX => T_X11_swap_0 hX hdx x1 x2 h hf)
theorem dX11_gain_0 : decode cX11_gain 0 = .ok (.iload_n 2, 1) := by decide +kernel
theorem dX11_gain_1 : decode cX11_gain 1 = .ok (.iconst 1, 1) := by decide +kernel
theorem dX11_gain_2 : decode cX11_gain 2 = .ok (.if_icmp .ne 15, 3) := by decide +kernel
theorem dX11_gain_5 : decode cX11_gain 5 = .ok (.iload_n 3, 1) := by decide +kernel
theorem dX11_gain_6 : decode cX11_gain 6 = .ok (.iconst 1, 1) := by decide +kernel
theorem dX11_gain_7 : decode cX11_gain 7 = .ok (.if_icmp .ne 8, 3) := by decide +kernel
theorem dX11_gain_10 : decode cX11_gain 10 = .ok (.bipush (-3), 2) := by decide +kernel
theorem dX11_gain_12 : decode cX11_gain 12 = .ok (.goto 4, 3) := by decide +kernel
theorem dX11_gain_15 : decode cX11_gain 15 = .ok (.iconst 2, 1) := by decide +kernel
theorem dX11_gain_16 : decode cX11_gain 16 = .ok (.ireturn, 1) := by decide +kernel
theorem dX11_gain_17 : decode cX11_gain 17 = .ok (.iload_n 3, 1) := by decide +kernel
theorem dX11_gain_18 : decode cX11_gain 18 = .ok (.ifCond .ne 7, 3) := by decide +kernel
theorem dX11_gain_21 : decode cX11_gain 21 = .ok (.iconst 3, 1) := by decide +kernel
theorem dX11_gain_22 : decode cX11_gain 22 = .ok (.goto 16, 3) := by decide +kernel
theorem dX11_gain_25 : decode cX11_gain 25 = .ok (.aload_n 0, 1) := by decide +kernel
theorem dX11_gain_26 : decode cX11_gain 26 = .ok (.getfield 19, 3) := by decide +kernel
theorem dX11_gain_29 : decode cX11_gain 29 = .ok (.iload_n 1, 1) := by decide +kernel
theorem dX11_gain_30 : decode cX11_gain 30 = .ok (.invokevirtual 199, 3) := by decide +kernel
theorem dX11_gain_33 : decode cX11_gain 33 = .ok (.bipush 10, 2) := by decide +kernel
theorem dX11_gain_35 : decode cX11_gain 35 = .ok (.idiv, 1) := by decide +kernel
theorem dX11_gain_36 : decode cX11_gain 36 = .ok (.iconst 4, 1) := by decide +kernel
theorem dX11_gain_37 : decode cX11_gain 37 = .ok (.isub, 1) := by decide +kernel
theorem dX11_gain_38 : decode cX11_gain 38 = .ok (.ireturn, 1) := by decide +kernel
set_option maxRecDepth 100000 in
set_option maxHeartbeats 200000 in
theorem T_X11_gain_0 {X : CX} (hX : Ok X cX11_gain 4 RX11 (some .int)) (hdx : dX X = 4) {r : Int32} (x1 : Int32) (x2 : Int32) (x3 : Int32) (h : Hp) (hf : f_X11_gain x1 x2 x3 h = some r) : J X ((.inl (some (.int r)), h)) 0 [(0, .ref 1), (1, .int x1), (2, .int x2), (3, .int x3)] [] h := by
  unfold f_X11_gain at hf
  refine J_iload_n hX 2 dX11_gain_0 rfl rfl ?_
  refine J_iconst hX 1 dX11_gain_1 rfl ?_
  rcases ifE hf with ⟨c_1, hf⟩ | ⟨c_1, hf⟩
  · refine J_icmp_neF hX 17 dX11_gain_2 rfl c_1 ?_
    refine J_iload_n hX 3 dX11_gain_5 rfl rfl ?_
    refine J_iconst hX 1 dX11_gain_6 rfl ?_
    rcases ifE hf with ⟨c_2, hf⟩ | ⟨c_2, hf⟩
    · refine J_icmp_neF hX 15 dX11_gain_7 rfl c_2 ?_
      refine J_bipush hX (-3) dX11_gain_10 rfl ?_
      refine J_goto hX 16 dX11_gain_12 rfl ?_
      exact E_Ip hX dX11_gain_16 hf
    · refine J_icmp_neT hX 15 dX11_gain_7 rfl c_2 ?_
      refine J_iconst hX 2 dX11_gain_15 rfl ?_
      exact E_Ip hX dX11_gain_16 hf
  · refine J_icmp_neT hX 17 dX11_gain_2 rfl c_1 ?_
    refine J_iload_n hX 3 dX11_gain_17 rfl rfl ?_
    rcases ifE hf with ⟨c_3, hf⟩ | ⟨c_3, hf⟩
    · refine J_if_neF hX 25 dX11_gain_18 rfl c_3 ?_
      refine J_iconst hX 3 dX11_gain_21 rfl ?_
      refine J_goto hX 38 dX11_gain_22 rfl ?_
      exact E_Ip hX dX11_gain_38 hf
    · refine J_if_neT hX 25 dX11_gain_18 rfl c_3 ?_
      refine J_aload_n hX 0 dX11_gain_25 rfl rfl ?_
      refine J_getR hX 100 dX11_gain_26 fl_X11_19 ob_1 rfl rfl ?_
      refine J_iload_n hX 1 dX11_gain_29 rfl rfl ?_
      obtain ⟨r_4, e_5, hf⟩ := bdE hf
      refine V_1 hX [.int x1] dX11_gain_30 cw_X11_199 (city_ob isc_100) rfl (C_X1_holdOf (okG hX) isc_100 e_5) (ltD hdx rfl) rfl rfl rfl rfl ?_
      refine J_bipush hX 10 dX11_gain_33 rfl ?_
      refine J_idiv hX (by decide) dX11_gain_35 ?_
      refine J_iconst hX 4 dX11_gain_36 rfl ?_
      refine J_isub hX dX11_gain_37 ?_
      exact E_Ip hX dX11_gain_38 hf
set_option maxRecDepth 100000 in
set_option maxHeartbeats 200000 in
theorem C_X11_gain {G : GX} (hG : GOk G) {x1 : Int32} {x2 : Int32} {x3 : Int32} {h : Hp} {r : Int32} (hf : f_X11_gain x1 x2 x3 h = some r) : Ctr G 4 yX11_gain cX11_gain 4 (some .int) [.ref 1, .int x1, .int x2, .int x3] h ((.inl (some (.int r)), h)) :=
  Ctr_of hG RX11 rfl (by decide) rfl (fun X _ hdx hX => T_X11_gain_0 hX hdx x1 x2 x3 h hf)
theorem dX11_rests_0 : decode cX11_rests 0 = .ok (.aload_n 0, 1) := by decide +kernel
theorem dX11_rests_1 : decode cX11_rests 1 = .ok (.iload_n 1, 1) := by decide +kernel
theorem dX11_rests_2 : decode cX11_rests 2 = .ok (.iload_n 2, 1) := by decide +kernel
theorem dX11_rests_3 : decode cX11_rests 3 = .ok (.invokevirtual 360, 3) := by decide +kernel
theorem dX11_rests_6 : decode cX11_rests 6 = .ok (.iconst 0, 1) := by decide +kernel
theorem dX11_rests_7 : decode cX11_rests 7 = .ok (.istore_n 3, 1) := by decide +kernel
theorem dX11_rests_8 : decode cX11_rests 8 = .ok (.iconst 0, 1) := by decide +kernel
theorem dX11_rests_9 : decode cX11_rests 9 = .ok (.istore 4, 2) := by decide +kernel
theorem dX11_rests_11 : decode cX11_rests 11 = .ok (.iload 4, 2) := by decide +kernel
theorem dX11_rests_13 : decode cX11_rests 13 = .ok (.iconst 4, 1) := by decide +kernel
theorem dX11_rests_14 : decode cX11_rests 14 = .ok (.if_icmp .ge 74, 3) := by decide +kernel
theorem dX11_rests_17 : decode cX11_rests 17 = .ok (.iload 4, 2) := by decide +kernel
theorem dX11_rests_19 : decode cX11_rests 19 = .ok (.iconst 1, 1) := by decide +kernel
theorem dX11_rests_20 : decode cX11_rests 20 = .ok (.ishr, 1) := by decide +kernel
theorem dX11_rests_21 : decode cX11_rests 21 = .ok (.istore 5, 2) := by decide +kernel
theorem dX11_rests_23 : decode cX11_rests 23 = .ok (.iload 4, 2) := by decide +kernel
theorem dX11_rests_25 : decode cX11_rests 25 = .ok (.iconst 1, 1) := by decide +kernel
theorem dX11_rests_26 : decode cX11_rests 26 = .ok (.iand, 1) := by decide +kernel
theorem dX11_rests_27 : decode cX11_rests 27 = .ok (.istore 6, 2) := by decide +kernel
theorem dX11_rests_29 : decode cX11_rests 29 = .ok (.aload_n 0, 1) := by decide +kernel
theorem dX11_rests_30 : decode cX11_rests 30 = .ok (.iload_n 1, 1) := by decide +kernel
theorem dX11_rests_31 : decode cX11_rests 31 = .ok (.iconst 1, 1) := by decide +kernel
theorem dX11_rests_32 : decode cX11_rests 32 = .ok (.iload 5, 2) := by decide +kernel
theorem dX11_rests_34 : decode cX11_rests 34 = .ok (.isub, 1) := by decide +kernel
theorem dX11_rests_35 : decode cX11_rests 35 = .ok (.iload 6, 2) := by decide +kernel
theorem dX11_rests_37 : decode cX11_rests 37 = .ok (.invokevirtual 367, 3) := by decide +kernel
theorem dX11_rests_40 : decode cX11_rests 40 = .ok (.aload_n 0, 1) := by decide +kernel
theorem dX11_rests_41 : decode cX11_rests 41 = .ok (.iload_n 1, 1) := by decide +kernel
theorem dX11_rests_42 : decode cX11_rests 42 = .ok (.iload 5, 2) := by decide +kernel
theorem dX11_rests_44 : decode cX11_rests 44 = .ok (.iload 6, 2) := by decide +kernel
theorem dX11_rests_46 : decode cX11_rests 46 = .ok (.invokevirtual 367, 3) := by decide +kernel
theorem dX11_rests_49 : decode cX11_rests 49 = .ok (.if_icmp .gt 33, 3) := by decide +kernel
theorem dX11_rests_52 : decode cX11_rests 52 = .ok (.aload_n 0, 1) := by decide +kernel
theorem dX11_rests_53 : decode cX11_rests 53 = .ok (.iload_n 2, 1) := by decide +kernel
theorem dX11_rests_54 : decode cX11_rests 54 = .ok (.iconst 1, 1) := by decide +kernel
theorem dX11_rests_55 : decode cX11_rests 55 = .ok (.iload 6, 2) := by decide +kernel
theorem dX11_rests_57 : decode cX11_rests 57 = .ok (.isub, 1) := by decide +kernel
theorem dX11_rests_58 : decode cX11_rests 58 = .ok (.iload 5, 2) := by decide +kernel
theorem dX11_rests_60 : decode cX11_rests 60 = .ok (.invokevirtual 367, 3) := by decide +kernel
theorem dX11_rests_63 : decode cX11_rests 63 = .ok (.aload_n 0, 1) := by decide +kernel
theorem dX11_rests_64 : decode cX11_rests 64 = .ok (.iload_n 2, 1) := by decide +kernel
theorem dX11_rests_65 : decode cX11_rests 65 = .ok (.iload 6, 2) := by decide +kernel
theorem dX11_rests_67 : decode cX11_rests 67 = .ok (.iload 5, 2) := by decide +kernel
theorem dX11_rests_69 : decode cX11_rests 69 = .ok (.invokevirtual 367, 3) := by decide +kernel
theorem dX11_rests_72 : decode cX11_rests 72 = .ok (.if_icmp .gt 10, 3) := by decide +kernel
theorem dX11_rests_75 : decode cX11_rests 75 = .ok (.iload_n 3, 1) := by decide +kernel
theorem dX11_rests_76 : decode cX11_rests 76 = .ok (.iconst 1, 1) := by decide +kernel
theorem dX11_rests_77 : decode cX11_rests 77 = .ok (.iload 4, 2) := by decide +kernel
theorem dX11_rests_79 : decode cX11_rests 79 = .ok (.ishl, 1) := by decide +kernel
theorem dX11_rests_80 : decode cX11_rests 80 = .ok (.ior, 1) := by decide +kernel
theorem dX11_rests_81 : decode cX11_rests 81 = .ok (.istore_n 3, 1) := by decide +kernel
theorem dX11_rests_82 : decode cX11_rests 82 = .ok (.iinc 4 1, 3) := by decide +kernel
theorem dX11_rests_85 : decode cX11_rests 85 = .ok (.goto (-74), 3) := by decide +kernel
theorem dX11_rests_88 : decode cX11_rests 88 = .ok (.iload_n 3, 1) := by decide +kernel
theorem dX11_rests_89 : decode cX11_rests 89 = .ok (.ireturn, 1) := by decide +kernel
set_option maxRecDepth 100000 in
set_option maxHeartbeats 200000 in
theorem T_X11_rests_11_s {X : CX} (hX : Ok X cX11_rests 7 RX11 (some .int)) (hdx : dX X = 12) {r : Except String Int32 × Hp} (x1 : Int32) (x2 : Int32) (q_11 : Int32 → Int32 → Hp → Option (Except String Int32 × Hp)) (hq_11 : ∀ (x3 : Int32) (x4 : Int32) (h : Hp), q_11 x3 x4 h = some r → J X (oX tvI r) 11 [(0, .ref 1), (1, .int x1), (2, .int x2), (3, .int x3), (4, .int x4)] [] h) (x3 : Int32) (x4 : Int32) (h : Hp) (hf : S_X11_rests_11 x1 x2 q_11 x3 x4 h = some r) : J X (oX tvI r) 11 [(0, .ref 1), (1, .int x1), (2, .int x2), (3, .int x3), (4, .int x4)] [] h := by
  unfold S_X11_rests_11 at hf
  refine J_iload hX 4 dX11_rests_11 rfl ?_
  refine J_iconst hX 4 dX11_rests_13 rfl ?_
  rcases ifE hf with ⟨c_1, hf⟩ | ⟨c_1, hf⟩
  · refine J_icmp_geF hX 88 dX11_rests_14 rfl c_1 ?_
    refine J_iload hX 4 dX11_rests_17 rfl ?_
    refine J_iconst hX 1 dX11_rests_19 rfl ?_
    refine J_ishr hX dX11_rests_20 ?_
    refine J_istore hX [(5, .int (shr x4 1)), (0, .ref 1), (1, .int x1), (2, .int x2), (3, .int x3), (4, .int x4)] dX11_rests_21 rfl rfl ?_
    refine J_iload hX 5 dX11_rests_23 rfl ?_
    refine J_iconst hX 1 dX11_rests_25 rfl ?_
    refine J_iand hX dX11_rests_26 ?_
    refine J_istore hX [(6, .int (x4 &&& 1)), (5, .int (shr x4 1)), (0, .ref 1), (1, .int x1), (2, .int x2), (3, .int x3), (4, .int x4)] dX11_rests_27 rfl rfl ?_
    refine J_aload_n hX 2 dX11_rests_29 rfl rfl ?_
    refine J_iload_n hX 3 dX11_rests_30 rfl rfl ?_
    refine J_iconst hX 1 dX11_rests_31 rfl ?_
    refine J_iload hX 1 dX11_rests_32 rfl ?_
    refine J_isub hX dX11_rests_34 ?_
    refine J_iload hX 0 dX11_rests_35 rfl ?_
    obtain ⟨r_2, e_3, hf⟩ := bdE hf
    refine V_1 hX [.int x1, .int (1 - (shr x4 1)), .int (x4 &&& 1)] dX11_rests_37 cw_X11_367 ob_1 rfl (C_X11_gain (okG hX) e_3) (ltD hdx rfl) rfl rfl rfl rfl ?_
    refine J_aload_n hX 2 dX11_rests_40 rfl rfl ?_
    refine J_iload_n hX 3 dX11_rests_41 rfl rfl ?_
    refine J_iload hX 1 dX11_rests_42 rfl ?_
    refine J_iload hX 0 dX11_rests_44 rfl ?_
    obtain ⟨r_4, e_5, hf⟩ := bdE hf
    refine V_1 hX [.int x1, .int (shr x4 1), .int (x4 &&& 1)] dX11_rests_46 cw_X11_367 ob_1 rfl (C_X11_gain (okG hX) e_5) (ltD hdx rfl) rfl rfl rfl rfl ?_
    rcases ifE hf with ⟨c_6, hf⟩ | ⟨c_6, hf⟩
    · refine J_icmp_gtT hX 82 dX11_rests_49 rfl c_6 ?_
      refine J_iinc hX (x4 + 1) 6 [(4, .int (x4 + 1)), (6, .int (x4 &&& 1)), (5, .int (shr x4 1)), (0, .ref 1), (1, .int x1), (2, .int x2), (3, .int x3)] dX11_rests_82 rfl rfl rfl rfl ?_
      refine J_goto hX 11 dX11_rests_85 rfl ?_
      refine J_sub [3, 4, 5, 6, 0] [(0, .ref 1), (1, .int x1), (2, .int x2), (3, .int x3), (4, .int (x4 + 1))] rfl ?_
      exact hq_11 x3 (x4 + 1) h hf
    · refine J_icmp_gtF hX 82 dX11_rests_49 rfl c_6 ?_
      refine J_aload_n hX 2 dX11_rests_52 rfl rfl ?_
      refine J_iload_n hX 4 dX11_rests_53 rfl rfl ?_
      refine J_iconst hX 1 dX11_rests_54 rfl ?_
      refine J_iload hX 0 dX11_rests_55 rfl ?_
      refine J_isub hX dX11_rests_57 ?_
      refine J_iload hX 1 dX11_rests_58 rfl ?_
      obtain ⟨r_7, e_8, hf⟩ := bdE hf
      refine V_1 hX [.int x2, .int (1 - (x4 &&& 1)), .int (shr x4 1)] dX11_rests_60 cw_X11_367 ob_1 rfl (C_X11_gain (okG hX) e_8) (ltD hdx rfl) rfl rfl rfl rfl ?_
      refine J_aload_n hX 2 dX11_rests_63 rfl rfl ?_
      refine J_iload_n hX 4 dX11_rests_64 rfl rfl ?_
      refine J_iload hX 0 dX11_rests_65 rfl ?_
      refine J_iload hX 1 dX11_rests_67 rfl ?_
      obtain ⟨r_9, e_10, hf⟩ := bdE hf
      refine V_1 hX [.int x2, .int (x4 &&& 1), .int (shr x4 1)] dX11_rests_69 cw_X11_367 ob_1 rfl (C_X11_gain (okG hX) e_10) (ltD hdx rfl) rfl rfl rfl rfl ?_
      rcases ifE hf with ⟨c_11, hf⟩ | ⟨c_11, hf⟩
      · refine J_icmp_gtT hX 82 dX11_rests_72 rfl c_11 ?_
        refine J_iinc hX (x4 + 1) 6 [(4, .int (x4 + 1)), (6, .int (x4 &&& 1)), (5, .int (shr x4 1)), (0, .ref 1), (1, .int x1), (2, .int x2), (3, .int x3)] dX11_rests_82 rfl rfl rfl rfl ?_
        refine J_goto hX 11 dX11_rests_85 rfl ?_
        refine J_sub [3, 4, 5, 6, 0] [(0, .ref 1), (1, .int x1), (2, .int x2), (3, .int x3), (4, .int (x4 + 1))] rfl ?_
        exact hq_11 x3 (x4 + 1) h hf
      · refine J_icmp_gtF hX 82 dX11_rests_72 rfl c_11 ?_
        refine J_iload_n hX 5 dX11_rests_75 rfl rfl ?_
        refine J_iconst hX 1 dX11_rests_76 rfl ?_
        refine J_iload hX 6 dX11_rests_77 rfl ?_
        refine J_ishl hX dX11_rests_79 ?_
        refine J_ior hX dX11_rests_80 ?_
        obtain ⟨x3_12, e_13, hf⟩ := bndE hf
        refine J_nm e_13 ?_
        refine J_istore_n hX [(3, .int x3_12), (6, .int (x4 &&& 1)), (5, .int (shr x4 1)), (0, .ref 1), (1, .int x1), (2, .int x2), (4, .int x4)] dX11_rests_81 rfl rfl rfl ?_
        refine J_iinc hX (x4 + 1) 6 [(4, .int (x4 + 1)), (3, .int x3_12), (6, .int (x4 &&& 1)), (5, .int (shr x4 1)), (0, .ref 1), (1, .int x1), (2, .int x2)] dX11_rests_82 rfl rfl rfl rfl ?_
        refine J_goto hX 11 dX11_rests_85 rfl ?_
        refine J_sub [4, 5, 6, 1, 0] [(0, .ref 1), (1, .int x1), (2, .int x2), (3, .int x3_12), (4, .int (x4 + 1))] rfl ?_
        exact hq_11 x3_12 (x4 + 1) h hf
  · refine J_icmp_geT hX 88 dX11_rests_14 rfl c_1 ?_
    refine J_iload_n hX 3 dX11_rests_88 rfl rfl ?_
    exact E_Ix hX dX11_rests_89 hf
set_option maxRecDepth 100000 in
set_option maxHeartbeats 200000 in
theorem T_X11_rests_11 {X : CX} (hX : Ok X cX11_rests 7 RX11 (some .int)) (hdx : dX X = 12) {r : Except String Int32 × Hp} (x1 : Int32) (x2 : Int32) : ∀ (n : Nat) (x3 : Int32) (x4 : Int32) (h : Hp), F_X11_rests_11 x1 x2 n x3 x4 h = some r → J X (oX tvI r) 11 [(0, .ref 1), (1, .int x1), (2, .int x2), (3, .int x3), (4, .int x4)] [] h := by
  intro n
  induction n with
  | zero => intro x3 x4 h hf; exact nomatch hf
  | succ n ih => intro x3 x4 h hf; exact T_X11_rests_11_s hX hdx x1 x2 _ (fun x3 x4 h hf => ih x3 x4 h hf) x3 x4 h hf
set_option maxRecDepth 100000 in
set_option maxHeartbeats 200000 in
theorem T_X11_rests_0 {X : CX} (hX : Ok X cX11_rests 7 RX11 (some .int)) (hdx : dX X = 12) {r : Except String Int32 × Hp} (x1 : Int32) (x2 : Int32) (h : Hp) (hf : f_X11_rests x1 x2 h = some r) : J X (oX tvI r) 0 [(0, .ref 1), (1, .int x1), (2, .int x2)] [] h := by
  unfold f_X11_rests at hf
  refine J_aload_n hX 0 dX11_rests_0 rfl rfl ?_
  refine J_iload_n hX 1 dX11_rests_1 rfl rfl ?_
  refine J_iload_n hX 2 dX11_rests_2 rfl rfl ?_
  obtain ⟨r_1, e_2, hf⟩ := bdE hf
  rcases exE hf with ⟨v_3, h_4, z_6, hg⟩ | ⟨E_5, h_4, z_6, z_6r⟩
  all_goals clear hf
  rotate_left
  · subst z_6
    exact V_kx hX [.int x1, .int x2] dX11_rests_3 cw_X11_360 ob_1 rfl (C_X11_checkTwoPeople (okG hX) e_2) (ltD hdx rfl) rfl rfl rfl rfl z_6r
  subst z_6
  have hf := hg
  clear hg
  refine V_k0 hX [.int x1, .int x2] dX11_rests_3 cw_X11_360 ob_1 rfl (C_X11_checkTwoPeople (okG hX) e_2) (ltD hdx rfl) rfl rfl rfl rfl rfl ?_
  refine J_iconst hX 0 dX11_rests_6 rfl ?_
  refine J_istore_n hX [(3, .int 0), (0, .ref 1), (1, .int x1), (2, .int x2)] dX11_rests_7 rfl rfl rfl ?_
  refine J_iconst hX 0 dX11_rests_8 rfl ?_
  refine J_istore hX [(4, .int 0), (3, .int 0), (0, .ref 1), (1, .int x1), (2, .int x2)] dX11_rests_9 rfl rfl ?_
  refine J_sub [2, 3, 4, 1, 0] [(0, .ref 1), (1, .int x1), (2, .int x2), (3, .int 0), (4, .int 0)] rfl ?_
  exact T_X11_rests_11 hX hdx x1 x2 FU 0 0 h_4 hf
set_option maxRecDepth 100000 in
set_option maxHeartbeats 200000 in
theorem C_X11_rests {G : GX} (hG : GOk G) {x1 : Int32} {x2 : Int32} {h : Hp} {r : Except String Int32 × Hp} (hf : f_X11_rests x1 x2 h = some r) : Ctr G 12 yX11_rests cX11_rests 7 (some .int) [.ref 1, .int x1, .int x2] h (oX tvI r) :=
  Ctr_of hG RX11 rfl (by decide) rfl (fun X _ hdx hX => T_X11_rests_0 hX hdx x1 x2 h hf)
theorem dX11_odds_0 : decode cX11_odds 0 = .ok (.iload_n 1, 1) := by decide +kernel
theorem dX11_odds_1 : decode cX11_odds 1 = .ok (.iconst 0, 1) := by decide +kernel
theorem dX11_odds_2 : decode cX11_odds 2 = .ok (.iconst 4, 1) := by decide +kernel
theorem dX11_odds_3 : decode cX11_odds 3 = .ok (.invokestatic 241, 3) := by decide +kernel
theorem dX11_odds_6 : decode cX11_odds 6 = .ok (.sipush 10000, 3) := by decide +kernel
theorem dX11_odds_9 : decode cX11_odds 9 = .ok (.istore_n 2, 1) := by decide +kernel
theorem dX11_odds_10 : decode cX11_odds 10 = .ok (.iconst 0, 1) := by decide +kernel
theorem dX11_odds_11 : decode cX11_odds 11 = .ok (.istore_n 3, 1) := by decide +kernel
theorem dX11_odds_12 : decode cX11_odds 12 = .ok (.iload_n 3, 1) := by decide +kernel
theorem dX11_odds_13 : decode cX11_odds 13 = .ok (.iload_n 1, 1) := by decide +kernel
theorem dX11_odds_14 : decode cX11_odds 14 = .ok (.if_icmp .ge 54, 3) := by decide +kernel
theorem dX11_odds_17 : decode cX11_odds 17 = .ok (.iconst 0, 1) := by decide +kernel
theorem dX11_odds_18 : decode cX11_odds 18 = .ok (.istore 4, 2) := by decide +kernel
theorem dX11_odds_20 : decode cX11_odds 20 = .ok (.iload 4, 2) := by decide +kernel
theorem dX11_odds_22 : decode cX11_odds 22 = .ok (.bipush 6, 2) := by decide +kernel
theorem dX11_odds_24 : decode cX11_odds 24 = .ok (.if_icmp .ge 38, 3) := by decide +kernel
theorem dX11_odds_27 : decode cX11_odds 27 = .ok (.aload_n 0, 1) := by decide +kernel
theorem dX11_odds_28 : decode cX11_odds 28 = .ok (.getfield 19, 3) := by decide +kernel
theorem dX11_odds_31 : decode cX11_odds 31 = .ok (.iload 4, 2) := by decide +kernel
theorem dX11_odds_33 : decode cX11_odds 33 = .ok (.invokevirtual 196, 3) := by decide +kernel
theorem dX11_odds_36 : decode cX11_odds 36 = .ok (.iconst (-1), 1) := by decide +kernel
theorem dX11_odds_37 : decode cX11_odds 37 = .ok (.if_icmp .eq 19, 3) := by decide +kernel
theorem dX11_odds_40 : decode cX11_odds 40 = .ok (.iload_n 2, 1) := by decide +kernel
theorem dX11_odds_41 : decode cX11_odds 41 = .ok (.bipush 100, 2) := by decide +kernel
theorem dX11_odds_43 : decode cX11_odds 43 = .ok (.aload_n 0, 1) := by decide +kernel
theorem dX11_odds_44 : decode cX11_odds 44 = .ok (.getfield 19, 3) := by decide +kernel
theorem dX11_odds_47 : decode cX11_odds 47 = .ok (.getfield 223, 3) := by decide +kernel
theorem dX11_odds_50 : decode cX11_odds 50 = .ok (.isub, 1) := by decide +kernel
theorem dX11_odds_51 : decode cX11_odds 51 = .ok (.imul, 1) := by decide +kernel
theorem dX11_odds_52 : decode cX11_odds 52 = .ok (.bipush 100, 2) := by decide +kernel
theorem dX11_odds_54 : decode cX11_odds 54 = .ok (.idiv, 1) := by decide +kernel
theorem dX11_odds_55 : decode cX11_odds 55 = .ok (.istore_n 2, 1) := by decide +kernel
theorem dX11_odds_56 : decode cX11_odds 56 = .ok (.iinc 4 1, 3) := by decide +kernel
theorem dX11_odds_59 : decode cX11_odds 59 = .ok (.goto (-39), 3) := by decide +kernel
theorem dX11_odds_62 : decode cX11_odds 62 = .ok (.iinc 3 1, 3) := by decide +kernel
theorem dX11_odds_65 : decode cX11_odds 65 = .ok (.goto (-53), 3) := by decide +kernel
theorem dX11_odds_68 : decode cX11_odds 68 = .ok (.iload_n 2, 1) := by decide +kernel
theorem dX11_odds_69 : decode cX11_odds 69 = .ok (.ireturn, 1) := by decide +kernel
set_option maxRecDepth 100000 in
set_option maxHeartbeats 200000 in
theorem T_X11_odds_20_s {X : CX} (hX : Ok X cX11_odds 5 RX11 (some .int)) (hdx : dX X = 11) {r : Except String Int32 × Hp} (x1 : Int32) (x3 : Int32) (q_12 : Int32 → Int32 → Hp → Option (Except String Int32 × Hp)) (hq_12 : ∀ (x2 : Int32) (x3 : Int32) (h : Hp), q_12 x2 x3 h = some r → J X (oX tvI r) 12 [(0, .ref 1), (1, .int x1), (2, .int x2), (3, .int x3)] [] h) (q_20 : Int32 → Int32 → Hp → Option (Except String Int32 × Hp)) (hq_20 : ∀ (x2 : Int32) (x4 : Int32) (h : Hp), q_20 x2 x4 h = some r → J X (oX tvI r) 20 [(0, .ref 1), (1, .int x1), (2, .int x2), (3, .int x3), (4, .int x4)] [] h) (x2 : Int32) (x4 : Int32) (h : Hp) (hf : S_X11_odds_20 q_12 x1 x3 q_20 x2 x4 h = some r) : J X (oX tvI r) 20 [(0, .ref 1), (1, .int x1), (2, .int x2), (3, .int x3), (4, .int x4)] [] h := by
  unfold S_X11_odds_20 at hf
  refine J_iload hX 4 dX11_odds_20 rfl ?_
  refine J_bipush hX 6 dX11_odds_22 rfl ?_
  rcases ifE hf with ⟨c_1, hf⟩ | ⟨c_1, hf⟩
  · refine J_icmp_geF hX 62 dX11_odds_24 rfl c_1 ?_
    refine J_aload_n hX 0 dX11_odds_27 rfl rfl ?_
    refine J_getR hX 100 dX11_odds_28 fl_X11_19 ob_1 rfl rfl ?_
    refine J_iload hX 4 dX11_odds_31 rfl ?_
    obtain ⟨r_2, e_3, hf⟩ := bdE hf
    refine V_1 hX [.int x4] dX11_odds_33 cw_X11_196 (city_ob isc_100) rfl (C_X1_placeOf (okG hX) isc_100 e_3) (ltD hdx rfl) rfl rfl rfl rfl ?_
    refine J_iconst hX (-1) dX11_odds_36 rfl ?_
    rcases ifE hf with ⟨c_4, hf⟩ | ⟨c_4, hf⟩
    · refine J_icmp_eqT hX 56 dX11_odds_37 rfl c_4 ?_
      refine J_iinc hX (x4 + 1) 4 [(4, .int (x4 + 1)), (0, .ref 1), (1, .int x1), (2, .int x2), (3, .int x3)] dX11_odds_56 rfl rfl rfl rfl ?_
      refine J_goto hX 20 dX11_odds_59 rfl ?_
      refine J_sub [1, 2, 3, 4, 0] [(0, .ref 1), (1, .int x1), (2, .int x2), (3, .int x3), (4, .int (x4 + 1))] rfl ?_
      exact hq_20 x2 (x4 + 1) h hf
    · refine J_icmp_eqF hX 56 dX11_odds_37 rfl c_4 ?_
      refine J_iload_n hX 2 dX11_odds_40 rfl rfl ?_
      refine J_bipush hX 100 dX11_odds_41 rfl ?_
      refine J_aload_n hX 0 dX11_odds_43 rfl rfl ?_
      refine J_getR hX 100 dX11_odds_44 fl_X11_19 ob_1 rfl rfl ?_
      refine J_getI hX dX11_odds_47 fl_X11_223 (city_ob isc_100) rfl ?_
      refine J_isub hX dX11_odds_50 ?_
      refine J_imul hX dX11_odds_51 ?_
      refine J_bipush hX 100 dX11_odds_52 rfl ?_
      refine J_idiv hX (by decide) dX11_odds_54 ?_
      obtain ⟨x2_5, e_6, hf⟩ := bndE hf
      refine J_nm e_6 ?_
      refine J_istore_n hX [(2, .int x2_5), (0, .ref 1), (1, .int x1), (3, .int x3), (4, .int x4)] dX11_odds_55 rfl rfl rfl ?_
      refine J_iinc hX (x4 + 1) 4 [(4, .int (x4 + 1)), (2, .int x2_5), (0, .ref 1), (1, .int x1), (3, .int x3)] dX11_odds_56 rfl rfl rfl rfl ?_
      refine J_goto hX 20 dX11_odds_59 rfl ?_
      refine J_sub [2, 3, 1, 4, 0] [(0, .ref 1), (1, .int x1), (2, .int x2_5), (3, .int x3), (4, .int (x4 + 1))] rfl ?_
      exact hq_20 x2_5 (x4 + 1) h hf
  · refine J_icmp_geT hX 62 dX11_odds_24 rfl c_1 ?_
    refine J_iinc hX (x3 + 1) 3 [(3, .int (x3 + 1)), (0, .ref 1), (1, .int x1), (2, .int x2), (4, .int x4)] dX11_odds_62 rfl rfl rfl rfl ?_
    refine J_goto hX 12 dX11_odds_65 rfl ?_
    refine J_sub [1, 2, 3, 0] [(0, .ref 1), (1, .int x1), (2, .int x2), (3, .int (x3 + 1))] rfl ?_
    exact hq_12 x2 (x3 + 1) h hf
set_option maxRecDepth 100000 in
set_option maxHeartbeats 200000 in
theorem T_X11_odds_20 {X : CX} (hX : Ok X cX11_odds 5 RX11 (some .int)) (hdx : dX X = 11) {r : Except String Int32 × Hp} (x1 : Int32) (x3 : Int32) (q_12 : Int32 → Int32 → Hp → Option (Except String Int32 × Hp)) (hq_12 : ∀ (x2 : Int32) (x3 : Int32) (h : Hp), q_12 x2 x3 h = some r → J X (oX tvI r) 12 [(0, .ref 1), (1, .int x1), (2, .int x2), (3, .int x3)] [] h) : ∀ (n : Nat) (x2 : Int32) (x4 : Int32) (h : Hp), F_X11_odds_20 q_12 x1 x3 n x2 x4 h = some r → J X (oX tvI r) 20 [(0, .ref 1), (1, .int x1), (2, .int x2), (3, .int x3), (4, .int x4)] [] h := by
  intro n
  induction n with
  | zero => intro x2 x4 h hf; exact nomatch hf
  | succ n ih => intro x2 x4 h hf; exact T_X11_odds_20_s hX hdx x1 x3 q_12 hq_12 _ (fun x2 x4 h hf => ih x2 x4 h hf) x2 x4 h hf
set_option maxRecDepth 100000 in
set_option maxHeartbeats 200000 in
theorem T_X11_odds_12_s {X : CX} (hX : Ok X cX11_odds 5 RX11 (some .int)) (hdx : dX X = 11) {r : Except String Int32 × Hp} (x1 : Int32) (q_12 : Int32 → Int32 → Hp → Option (Except String Int32 × Hp)) (hq_12 : ∀ (x2 : Int32) (x3 : Int32) (h : Hp), q_12 x2 x3 h = some r → J X (oX tvI r) 12 [(0, .ref 1), (1, .int x1), (2, .int x2), (3, .int x3)] [] h) (x2 : Int32) (x3 : Int32) (h : Hp) (hf : S_X11_odds_12 x1 q_12 x2 x3 h = some r) : J X (oX tvI r) 12 [(0, .ref 1), (1, .int x1), (2, .int x2), (3, .int x3)] [] h := by
  unfold S_X11_odds_12 at hf
  refine J_iload_n hX 3 dX11_odds_12 rfl rfl ?_
  refine J_iload_n hX 1 dX11_odds_13 rfl rfl ?_
  rcases ifE hf with ⟨c_1, hf⟩ | ⟨c_1, hf⟩
  · refine J_icmp_geF hX 68 dX11_odds_14 rfl c_1 ?_
    refine J_iconst hX 0 dX11_odds_17 rfl ?_
    refine J_istore hX [(4, .int 0), (0, .ref 1), (1, .int x1), (2, .int x2), (3, .int x3)] dX11_odds_18 rfl rfl ?_
    refine J_sub [1, 2, 3, 4, 0] [(0, .ref 1), (1, .int x1), (2, .int x2), (3, .int x3), (4, .int 0)] rfl ?_
    exact T_X11_odds_20 hX hdx x1 x3 q_12 hq_12 FU x2 0 h hf
  · refine J_icmp_geT hX 68 dX11_odds_14 rfl c_1 ?_
    refine J_iload_n hX 2 dX11_odds_68 rfl rfl ?_
    exact E_Ix hX dX11_odds_69 hf
set_option maxRecDepth 100000 in
set_option maxHeartbeats 200000 in
theorem T_X11_odds_12 {X : CX} (hX : Ok X cX11_odds 5 RX11 (some .int)) (hdx : dX X = 11) {r : Except String Int32 × Hp} (x1 : Int32) : ∀ (n : Nat) (x2 : Int32) (x3 : Int32) (h : Hp), F_X11_odds_12 x1 n x2 x3 h = some r → J X (oX tvI r) 12 [(0, .ref 1), (1, .int x1), (2, .int x2), (3, .int x3)] [] h := by
  intro n
  induction n with
  | zero => intro x2 x3 h hf; exact nomatch hf
  | succ n ih => intro x2 x3 h hf; exact T_X11_odds_12_s hX hdx x1 _ (fun x2 x3 h hf => ih x2 x3 h hf) x2 x3 h hf
set_option maxRecDepth 100000 in
set_option maxHeartbeats 200000 in
theorem T_X11_odds_0 {X : CX} (hX : Ok X cX11_odds 5 RX11 (some .int)) (hdx : dX X = 11) {r : Except String Int32 × Hp} (x1 : Int32) (h : Hp) (hf : f_X11_odds x1 h = some r) : J X (oX tvI r) 0 [(0, .ref 1), (1, .int x1)] [] h := by
  unfold f_X11_odds at hf
  refine J_iload_n hX 1 dX11_odds_0 rfl rfl ?_
  refine J_iconst hX 0 dX11_odds_1 rfl ?_
  refine J_iconst hX 4 dX11_odds_2 rfl ?_
  obtain ⟨r_1, e_2, hf⟩ := bdE hf
  rcases exE hf with ⟨v_3, h_4, z_6, hg⟩ | ⟨E_5, h_4, z_6, z_6r⟩
  all_goals clear hf
  rotate_left
  · subst z_6
    exact S_kx hX [.int x1, .int 0, .int 4] dX11_odds_3 cw_X11_241 (C_X11_checkAmount (okG hX) e_2) (ltD hdx rfl) rfl rfl rfl rfl z_6r
  subst z_6
  have hf := hg
  clear hg
  refine S_k0 hX [.int x1, .int 0, .int 4] dX11_odds_3 cw_X11_241 (C_X11_checkAmount (okG hX) e_2) (ltD hdx rfl) rfl rfl rfl rfl rfl ?_
  refine J_sipush hX 10000 dX11_odds_6 rfl ?_
  refine J_istore_n hX [(2, .int 10000), (0, .ref 1), (1, .int x1)] dX11_odds_9 rfl rfl rfl ?_
  refine J_iconst hX 0 dX11_odds_10 rfl ?_
  refine J_istore_n hX [(3, .int 0), (2, .int 10000), (0, .ref 1), (1, .int x1)] dX11_odds_11 rfl rfl rfl ?_
  refine J_sub [2, 3, 1, 0] [(0, .ref 1), (1, .int x1), (2, .int 10000), (3, .int 0)] rfl ?_
  exact T_X11_odds_12 hX hdx x1 FU 10000 0 h_4 hf
set_option maxRecDepth 100000 in
set_option maxHeartbeats 200000 in
theorem C_X11_odds {G : GX} (hG : GOk G) {x1 : Int32} {h : Hp} {r : Except String Int32 × Hp} (hf : f_X11_odds x1 h = some r) : Ctr G 11 yX11_odds cX11_odds 5 (some .int) [.ref 1, .int x1] h (oX tvI r) :=
  Ctr_of hG RX11 rfl (by decide) rfl (fun X _ hdx hX => T_X11_odds_0 hX hdx x1 h hf)
theorem dX11_there_0 : decode cX11_there 0 = .ok (.iload_n 1, 1) := by decide +kernel
theorem dX11_there_1 : decode cX11_there 1 = .ok (.invokestatic 283, 3) := by decide +kernel
theorem dX11_there_4 : decode cX11_there 4 = .ok (.iconst 0, 1) := by decide +kernel
theorem dX11_there_5 : decode cX11_there 5 = .ok (.istore_n 2, 1) := by decide +kernel
theorem dX11_there_6 : decode cX11_there 6 = .ok (.iconst 0, 1) := by decide +kernel
theorem dX11_there_7 : decode cX11_there 7 = .ok (.istore_n 3, 1) := by decide +kernel
theorem dX11_there_8 : decode cX11_there 8 = .ok (.iload_n 3, 1) := by decide +kernel
theorem dX11_there_9 : decode cX11_there 9 = .ok (.bipush 6, 2) := by decide +kernel
theorem dX11_there_11 : decode cX11_there 11 = .ok (.if_icmp .ge 39, 3) := by decide +kernel
theorem dX11_there_14 : decode cX11_there 14 = .ok (.aload_n 0, 1) := by decide +kernel
theorem dX11_there_15 : decode cX11_there 15 = .ok (.getfield 19, 3) := by decide +kernel
theorem dX11_there_18 : decode cX11_there 18 = .ok (.iload_n 3, 1) := by decide +kernel
theorem dX11_there_19 : decode cX11_there 19 = .ok (.invokevirtual 196, 3) := by decide +kernel
theorem dX11_there_22 : decode cX11_there 22 = .ok (.iconst (-1), 1) := by decide +kernel
theorem dX11_there_23 : decode cX11_there 23 = .ok (.if_icmp .eq 21, 3) := by decide +kernel
theorem dX11_there_26 : decode cX11_there 26 = .ok (.aload_n 0, 1) := by decide +kernel
theorem dX11_there_27 : decode cX11_there 27 = .ok (.getfield 19, 3) := by decide +kernel
theorem dX11_there_30 : decode cX11_there 30 = .ok (.iload_n 3, 1) := by decide +kernel
theorem dX11_there_31 : decode cX11_there 31 = .ok (.iload_n 1, 1) := by decide +kernel
theorem dX11_there_32 : decode cX11_there 32 = .ok (.invokevirtual 371, 3) := by decide +kernel
theorem dX11_there_35 : decode cX11_there 35 = .ok (.ifCond .eq 9, 3) := by decide +kernel
theorem dX11_there_38 : decode cX11_there 38 = .ok (.iload_n 2, 1) := by decide +kernel
theorem dX11_there_39 : decode cX11_there 39 = .ok (.iconst 1, 1) := by decide +kernel
theorem dX11_there_40 : decode cX11_there 40 = .ok (.iload_n 3, 1) := by decide +kernel
theorem dX11_there_41 : decode cX11_there 41 = .ok (.ishl, 1) := by decide +kernel
theorem dX11_there_42 : decode cX11_there 42 = .ok (.ior, 1) := by decide +kernel
theorem dX11_there_43 : decode cX11_there 43 = .ok (.istore_n 2, 1) := by decide +kernel
theorem dX11_there_44 : decode cX11_there 44 = .ok (.iinc 3 1, 3) := by decide +kernel
theorem dX11_there_47 : decode cX11_there 47 = .ok (.goto (-39), 3) := by decide +kernel
theorem dX11_there_50 : decode cX11_there 50 = .ok (.iload_n 2, 1) := by decide +kernel
theorem dX11_there_51 : decode cX11_there 51 = .ok (.ireturn, 1) := by decide +kernel
set_option maxRecDepth 100000 in
set_option maxHeartbeats 200000 in
theorem T_X11_there_8_s {X : CX} (hX : Ok X cX11_there 4 RX11 (some .int)) (hdx : dX X = 11) {r : Except String Int32 × Hp} (x1 : Int32) (q_8 : Int32 → Int32 → Hp → Option (Except String Int32 × Hp)) (hq_8 : ∀ (x2 : Int32) (x3 : Int32) (h : Hp), q_8 x2 x3 h = some r → J X (oX tvI r) 8 [(0, .ref 1), (1, .int x1), (2, .int x2), (3, .int x3)] [] h) (x2 : Int32) (x3 : Int32) (h : Hp) (hf : S_X11_there_8 x1 q_8 x2 x3 h = some r) : J X (oX tvI r) 8 [(0, .ref 1), (1, .int x1), (2, .int x2), (3, .int x3)] [] h := by
  unfold S_X11_there_8 at hf
  refine J_iload_n hX 3 dX11_there_8 rfl rfl ?_
  refine J_bipush hX 6 dX11_there_9 rfl ?_
  rcases ifE hf with ⟨c_1, hf⟩ | ⟨c_1, hf⟩
  · refine J_icmp_geF hX 50 dX11_there_11 rfl c_1 ?_
    refine J_aload_n hX 0 dX11_there_14 rfl rfl ?_
    refine J_getR hX 100 dX11_there_15 fl_X11_19 ob_1 rfl rfl ?_
    refine J_iload_n hX 3 dX11_there_18 rfl rfl ?_
    obtain ⟨r_2, e_3, hf⟩ := bdE hf
    refine V_1 hX [.int x3] dX11_there_19 cw_X11_196 (city_ob isc_100) rfl (C_X1_placeOf (okG hX) isc_100 e_3) (ltD hdx rfl) rfl rfl rfl rfl ?_
    refine J_iconst hX (-1) dX11_there_22 rfl ?_
    rcases ifE hf with ⟨c_4, hf⟩ | ⟨c_4, hf⟩
    · refine J_icmp_eqT hX 44 dX11_there_23 rfl c_4 ?_
      refine J_iinc hX (x3 + 1) 3 [(3, .int (x3 + 1)), (0, .ref 1), (1, .int x1), (2, .int x2)] dX11_there_44 rfl rfl rfl rfl ?_
      refine J_goto hX 8 dX11_there_47 rfl ?_
      refine J_sub [1, 2, 3, 0] [(0, .ref 1), (1, .int x1), (2, .int x2), (3, .int (x3 + 1))] rfl ?_
      exact hq_8 x2 (x3 + 1) h hf
    · refine J_icmp_eqF hX 44 dX11_there_23 rfl c_4 ?_
      refine J_aload_n hX 0 dX11_there_26 rfl rfl ?_
      refine J_getR hX 100 dX11_there_27 fl_X11_19 ob_1 rfl rfl ?_
      refine J_iload_n hX 3 dX11_there_30 rfl rfl ?_
      refine J_iload_n hX 1 dX11_there_31 rfl rfl ?_
      obtain ⟨r_5, e_6, hf⟩ := bdE hf
      refine V_1 hX [.int x3, .int x1] dX11_there_32 cw_X11_371 (city_ob isc_100) rfl (C_X1_isThere (okG hX) isc_100 e_6) (ltD hdx rfl) rfl rfl rfl rfl ?_
      rcases ifE hf with ⟨c_7, hf⟩ | ⟨c_7, hf⟩
      · refine J_if_eqF hX 44 dX11_there_35 rfl (b2iT c_7) ?_
        refine J_iload_n hX 2 dX11_there_38 rfl rfl ?_
        refine J_iconst hX 1 dX11_there_39 rfl ?_
        refine J_iload_n hX 3 dX11_there_40 rfl rfl ?_
        refine J_ishl hX dX11_there_41 ?_
        refine J_ior hX dX11_there_42 ?_
        obtain ⟨x2_8, e_9, hf⟩ := bndE hf
        refine J_nm e_9 ?_
        refine J_istore_n hX [(2, .int x2_8), (0, .ref 1), (1, .int x1), (3, .int x3)] dX11_there_43 rfl rfl rfl ?_
        refine J_iinc hX (x3 + 1) 3 [(3, .int (x3 + 1)), (2, .int x2_8), (0, .ref 1), (1, .int x1)] dX11_there_44 rfl rfl rfl rfl ?_
        refine J_goto hX 8 dX11_there_47 rfl ?_
        refine J_sub [2, 3, 1, 0] [(0, .ref 1), (1, .int x1), (2, .int x2_8), (3, .int (x3 + 1))] rfl ?_
        exact hq_8 x2_8 (x3 + 1) h hf
      · refine J_if_eqT hX 44 dX11_there_35 rfl (b2iF c_7) ?_
        refine J_iinc hX (x3 + 1) 3 [(3, .int (x3 + 1)), (0, .ref 1), (1, .int x1), (2, .int x2)] dX11_there_44 rfl rfl rfl rfl ?_
        refine J_goto hX 8 dX11_there_47 rfl ?_
        refine J_sub [1, 2, 3, 0] [(0, .ref 1), (1, .int x1), (2, .int x2), (3, .int (x3 + 1))] rfl ?_
        exact hq_8 x2 (x3 + 1) h hf
  · refine J_icmp_geT hX 50 dX11_there_11 rfl c_1 ?_
    refine J_iload_n hX 2 dX11_there_50 rfl rfl ?_
    exact E_Ix hX dX11_there_51 hf
set_option maxRecDepth 100000 in
set_option maxHeartbeats 200000 in
theorem T_X11_there_8 {X : CX} (hX : Ok X cX11_there 4 RX11 (some .int)) (hdx : dX X = 11) {r : Except String Int32 × Hp} (x1 : Int32) : ∀ (n : Nat) (x2 : Int32) (x3 : Int32) (h : Hp), F_X11_there_8 x1 n x2 x3 h = some r → J X (oX tvI r) 8 [(0, .ref 1), (1, .int x1), (2, .int x2), (3, .int x3)] [] h := by
  intro n
  induction n with
  | zero => intro x2 x3 h hf; exact nomatch hf
  | succ n ih => intro x2 x3 h hf; exact T_X11_there_8_s hX hdx x1 _ (fun x2 x3 h hf => ih x2 x3 h hf) x2 x3 h hf
set_option maxRecDepth 100000 in
set_option maxHeartbeats 200000 in
theorem T_X11_there_0 {X : CX} (hX : Ok X cX11_there 4 RX11 (some .int)) (hdx : dX X = 11) {r : Except String Int32 × Hp} (x1 : Int32) (h : Hp) (hf : f_X11_there x1 h = some r) : J X (oX tvI r) 0 [(0, .ref 1), (1, .int x1)] [] h := by
  unfold f_X11_there at hf
  refine J_iload_n hX 1 dX11_there_0 rfl rfl ?_
  obtain ⟨r_1, e_2, hf⟩ := bdE hf
  rcases exE hf with ⟨v_3, h_4, z_6, hg⟩ | ⟨E_5, h_4, z_6, z_6r⟩
  all_goals clear hf
  rotate_left
  · subst z_6
    exact S_kx hX [.int x1] dX11_there_1 cw_X11_283 (C_X11_checkEvening (okG hX) e_2) (ltD hdx rfl) rfl rfl rfl rfl z_6r
  subst z_6
  have hf := hg
  clear hg
  refine S_k0 hX [.int x1] dX11_there_1 cw_X11_283 (C_X11_checkEvening (okG hX) e_2) (ltD hdx rfl) rfl rfl rfl rfl rfl ?_
  refine J_iconst hX 0 dX11_there_4 rfl ?_
  refine J_istore_n hX [(2, .int 0), (0, .ref 1), (1, .int x1)] dX11_there_5 rfl rfl rfl ?_
  refine J_iconst hX 0 dX11_there_6 rfl ?_
  refine J_istore_n hX [(3, .int 0), (2, .int 0), (0, .ref 1), (1, .int x1)] dX11_there_7 rfl rfl rfl ?_
  refine J_sub [2, 3, 1, 0] [(0, .ref 1), (1, .int x1), (2, .int 0), (3, .int 0)] rfl ?_
  exact T_X11_there_8 hX hdx x1 FU 0 0 h_4 hf
set_option maxRecDepth 100000 in
set_option maxHeartbeats 200000 in
theorem C_X11_there {G : GX} (hG : GOk G) {x1 : Int32} {h : Hp} {r : Except String Int32 × Hp} (hf : f_X11_there x1 h = some r) : Ctr G 11 yX11_there cX11_there 4 (some .int) [.ref 1, .int x1] h (oX tvI r) :=
  Ctr_of hG RX11 rfl (by decide) rfl (fun X _ hdx hX => T_X11_there_0 hX hdx x1 h hf)
