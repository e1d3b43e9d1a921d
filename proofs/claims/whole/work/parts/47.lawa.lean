set_option maxRecDepth 100000 in
set_option maxHeartbeats 200000 in
theorem LW_0 {X : CX} {R : Room} {Q : State → Prop} {kC sC Ls j n : Nat} {xs : Nat → Int32} {h h' : Hp} (hX : OkQ X cL_law_ 7 RL (some .boolean)) (hScr : ScrQ X Ls xs) (hL : Ls ≤ 3072) (hj : j + 6 ≤ Ls) (hR : 80 ≤ R.frames ∧ 80 * 80 ≤ R.locals ∧ kC + 1 ≤ R.cells ∧ sC + 6 ≤ R.slots) (hst : St_0 (fun i => xs (j + i)) h h' n) (kk : JQ X R Q (kC + n) (sC + 6 * n) 2799 [(0, .ref 0), (1, .ref 1), (2, .ref 30), (3, .ref 50), (4, .int (nI j))] [] h') : JQ X R Q kC sC 272 [(0, .ref 0), (1, .ref 1), (2, .ref 30), (3, .ref 50), (4, .int (nI j))] [] h := by
  have hr1 := hR.2.2.1
  have hr2 := hR.2.2.2
  unfold St_0 at hst
  try dsimp only at hst
  obtain ⟨v, h1, e1, e2, rfl⟩ := hst
  refine Q_aload_n hX 1 dL_law__272 rfl rfl ?_
  refine Q_aload_n hX 0 dL_law__273 rfl rfl ?_
  refine Q_iload hX 4 dL_law__274 rfl ?_
  refine Q_iconst hX 1 dL_law__276 rfl ?_
  refine Q_iadd hX dL_law__277 ?_
  refine Q_arg hX hScr hL hj 1 rfl (by decide) dL_law__278 ?_
  refine Q_aload_n hX 0 dL_law__279 rfl rfl ?_
  refine Q_iload hX 4 dL_law__280 rfl ?_
  refine Q_iconst hX 2 dL_law__282 rfl ?_
  refine Q_iadd hX dL_law__283 ?_
  refine Q_arg hX hScr hL hj 2 rfl (by decide) dL_law__284 ?_
  refine Q_aload_n hX 0 dL_law__285 rfl rfl ?_
  refine Q_iload hX 4 dL_law__286 rfl ?_
  refine Q_iconst hX 3 dL_law__288 rfl ?_
  refine Q_iadd hX dL_law__289 ?_
  refine Q_arg hX hScr hL hj 3 rfl (by decide) dL_law__290 ?_
  refine Q_aload_n hX 0 dL_law__291 rfl rfl ?_
  refine Q_iload hX 4 dL_law__292 rfl ?_
  refine Q_iconst hX 4 dL_law__294 rfl ?_
  refine Q_iadd hX dL_law__295 ?_
  refine Q_arg hX hScr hL hj 4 rfl (by decide) dL_law__296 ?_
  refine Q_aload_n hX 0 dL_law__297 rfl rfl ?_
  refine Q_iload hX 4 dL_law__298 rfl ?_
  refine Q_iconst hX 5 dL_law__300 rfl ?_
  refine Q_iadd hX dL_law__301 ?_
  refine Q_arg hX hScr hL hj 5 rfl (by decide) dL_law__302 ?_
  refine Q_V1 hX [.int (xs (j + 1)), .int (xs (j + 2)), .int (xs (j + 3)), .int (xs (j + 4)), .int (xs (j + 5))] dL_law__303 lv_135 ob_1 rfl (C_X11_feed (okGQ hX) e1) (Nat.le_trans (by decide) hR.1) (Nat.le_trans (by decide) hR.2.1) rfl rfl rfl rfl ⟨by omega, by omega⟩ ?_
  refine Q_aload_n hX 2 dL_law__306 rfl rfl ?_
  refine Q_aload_n hX 0 dL_law__307 rfl rfl ?_
  refine Q_iload hX 4 dL_law__308 rfl ?_
  refine Q_iconst hX 1 dL_law__310 rfl ?_
  refine Q_iadd hX dL_law__311 ?_
  refine Q_arg hX hScr hL hj 1 rfl (by decide) dL_law__312 ?_
  refine Q_aload_n hX 0 dL_law__313 rfl rfl ?_
  refine Q_iload hX 4 dL_law__314 rfl ?_
  refine Q_iconst hX 2 dL_law__316 rfl ?_
  refine Q_iadd hX dL_law__317 ?_
  refine Q_arg hX hScr hL hj 2 rfl (by decide) dL_law__318 ?_
  refine Q_aload_n hX 0 dL_law__319 rfl rfl ?_
  refine Q_iload hX 4 dL_law__320 rfl ?_
  refine Q_iconst hX 3 dL_law__322 rfl ?_
  refine Q_iadd hX dL_law__323 ?_
  refine Q_arg hX hScr hL hj 3 rfl (by decide) dL_law__324 ?_
  refine Q_aload_n hX 0 dL_law__325 rfl rfl ?_
  refine Q_iload hX 4 dL_law__326 rfl ?_
  refine Q_iconst hX 4 dL_law__328 rfl ?_
  refine Q_iadd hX dL_law__329 ?_
  refine Q_arg hX hScr hL hj 4 rfl (by decide) dL_law__330 ?_
  refine Q_aload_n hX 0 dL_law__331 rfl rfl ?_
  refine Q_iload hX 4 dL_law__332 rfl ?_
  refine Q_iconst hX 5 dL_law__334 rfl ?_
  refine Q_iadd hX dL_law__335 ?_
  refine Q_arg hX hScr hL hj 5 rfl (by decide) dL_law__336 ?_
  refine Q_V1 hX [.int (xs (j + 1)), .int (xs (j + 2)), .int (xs (j + 3)), .int (xs (j + 4)), .int (xs (j + 5))] dL_law__337 lv_139 ob_30 rfl (C_X12_feed (okGQ hX) e2) (Nat.le_trans (by decide) hR.1) (Nat.le_trans (by decide) hR.2.1) rfl rfl rfl rfl ⟨by omega, by omega⟩ ?_
  refine Q_icmp_eqT hX 2799 dL_law__340 rfl rfl ?_
  exact kk
set_option maxRecDepth 100000 in
set_option maxHeartbeats 200000 in
theorem LW_1 {X : CX} {R : Room} {Q : State → Prop} {kC sC Ls j n : Nat} {xs : Nat → Int32} {h h' : Hp} (hX : OkQ X cL_law_ 7 RL (some .boolean)) (hScr : ScrQ X Ls xs) (hL : Ls ≤ 3072) (hj : j + 6 ≤ Ls) (hR : 80 ≤ R.frames ∧ 80 * 80 ≤ R.locals ∧ kC + 1 ≤ R.cells ∧ sC + 6 ≤ R.slots) (hst : St_1 (fun i => xs (j + i)) h h' n) (kk : JQ X R Q (kC + n) (sC + 6 * n) 2799 [(0, .ref 0), (1, .ref 1), (2, .ref 30), (3, .ref 50), (4, .int (nI j))] [] h') : JQ X R Q kC sC 345 [(0, .ref 0), (1, .ref 1), (2, .ref 30), (3, .ref 50), (4, .int (nI j))] [] h := by
  have hr1 := hR.2.2.1
  have hr2 := hR.2.2.2
  unfold St_1 at hst
  try dsimp only at hst
  obtain ⟨v, h1, e1, e2, rfl⟩ := hst
  refine Q_aload_n hX 1 dL_law__345 rfl rfl ?_
  refine Q_aload_n hX 0 dL_law__346 rfl rfl ?_
  refine Q_iload hX 4 dL_law__347 rfl ?_
  refine Q_iconst hX 1 dL_law__349 rfl ?_
  refine Q_iadd hX dL_law__350 ?_
  refine Q_arg hX hScr hL hj 1 rfl (by decide) dL_law__351 ?_
  refine Q_V1 hX [.int (xs (j + 1))] dL_law__352 lv_140 ob_1 rfl (C_X11_end (okGQ hX) e1) (Nat.le_trans (by decide) hR.1) (Nat.le_trans (by decide) hR.2.1) rfl rfl rfl rfl ⟨by omega, by omega⟩ ?_
  refine Q_aload_n hX 2 dL_law__355 rfl rfl ?_
  refine Q_aload_n hX 0 dL_law__356 rfl rfl ?_
  refine Q_iload hX 4 dL_law__357 rfl ?_
  refine Q_iconst hX 1 dL_law__359 rfl ?_
  refine Q_iadd hX dL_law__360 ?_
  refine Q_arg hX hScr hL hj 1 rfl (by decide) dL_law__361 ?_
  refine Q_V1 hX [.int (xs (j + 1))] dL_law__362 lv_143 ob_30 rfl (C_X12_end (okGQ hX) e2) (Nat.le_trans (by decide) hR.1) (Nat.le_trans (by decide) hR.2.1) rfl rfl rfl rfl ⟨by omega, by omega⟩ ?_
  refine Q_icmp_eqT hX 2799 dL_law__365 rfl rfl ?_
  exact kk
set_option maxRecDepth 100000 in
set_option maxHeartbeats 200000 in
theorem LW_2 {X : CX} {R : Room} {Q : State → Prop} {kC sC Ls j n : Nat} {xs : Nat → Int32} {h h' : Hp} (hX : OkQ X cL_law_ 7 RL (some .boolean)) (hScr : ScrQ X Ls xs) (hL : Ls ≤ 3072) (hj : j + 6 ≤ Ls) (hR : 80 ≤ R.frames ∧ 80 * 80 ≤ R.locals ∧ kC + 1 ≤ R.cells ∧ sC + 6 ≤ R.slots) (hst : St_2 (fun i => xs (j + i)) h h' n) (kk : JQ X R Q (kC + n) (sC + 6 * n) 2799 [(0, .ref 0), (1, .ref 1), (2, .ref 30), (3, .ref 50), (4, .int (nI j))] [] h') : JQ X R Q kC sC 370 [(0, .ref 0), (1, .ref 1), (2, .ref 30), (3, .ref 50), (4, .int (nI j))] [] h := by
  have hr1 := hR.2.2.1
  have hr2 := hR.2.2.2
  unfold St_2 at hst
  try dsimp only at hst
  rcases hst with ⟨v, h1, b, e1, e2, e3, e4, rfl⟩ | ⟨h1, b, e1, e2, e3, rfl⟩ | ⟨h1, b, e1, e2, e3, rfl⟩
  · refine Q_aload_n hX 1 dL_law__370 rfl rfl ?_
    refine Q_aload_n hX 3 dL_law__371 rfl rfl ?_
    refine Q_W1 hX [.ref 1, .ref 50] dL_law__372 lw_144 (CW_city_ok (okGQ hX) e1) (Nat.le_trans (by decide) hR.1) (Nat.le_trans (by decide) hR.2.1) rfl rfl rfl rfl ⟨by omega, by omega⟩ ?_
    refine Q_istore hX [(5, .int 0), (0, .ref 0), (1, .ref 1), (2, .ref 30), (3, .ref 50), (4, .int (nI j))] dL_law__375 rfl rfl ?_
    refine Q_aload_n hX 3 dL_law__377 rfl rfl ?_
    refine Q_V1 hX [] dL_law__378 lv_149 ob_30 rfl (C_X12_city (okGQ hX) e2) (Nat.le_trans (by decide) hR.1) (Nat.le_trans (by decide) hR.2.1) rfl rfl rfl rfl ⟨by omega, by omega⟩ ?_
    refine Q_istore hX [(6, .int b), (5, .int 0), (0, .ref 0), (1, .ref 1), (2, .ref 30), (3, .ref 50), (4, .int (nI j))] dL_law__381 rfl rfl ?_
    refine Q_aload_n hX 4 dL_law__383 rfl rfl ?_
    refine Q_V1 hX [] dL_law__384 lv_150 ob_30 rfl (C_X12_thrown (okGQ hX) rfl) (Nat.le_trans (by decide) hR.1) (Nat.le_trans (by decide) hR.2.1) rfl rfl rfl rfl ⟨by omega, by omega⟩ ?_
    refine Q_nm e3 ?_
    refine Q_iload hX 1 dL_law__387 rfl ?_
    refine Q_icmp_eqT hX 394 dL_law__389 rfl rfl ?_
    refine Q_iload hX 1 dL_law__394 rfl ?_
    refine Q_if_neF hX 411 dL_law__396 rfl rfl ?_
    refine Q_aload_n hX 5 dL_law__399 rfl rfl ?_
    refine Q_iconst hX 0 dL_law__400 rfl ?_
    refine Q_lald hX dL_law__401 ar_50 (by decide) ?_
    refine Q_nmL (congrArg Int32.toInt64 e4) ?_
    refine Q_iload hX 0 dL_law__402 rfl ?_
    refine Q_i2l hX dL_law__404 ?_
    refine Q_lcmp hX dL_law__405 ?_
    refine Q_if_eqT hX 411 dL_law__406 rfl (lg_cmp_self _) ?_
    refine Q_goto hX 2799 dL_law__411 rfl ?_
    refine Q_sub [2, 3, 4, 5, 6] [(0, .ref 0), (1, .ref 1), (2, .ref 30), (3, .ref 50), (4, .int (nI j))] rfl ?_
    exact kk
  · refine Q_aload_n hX 1 dL_law__370 rfl rfl ?_
    refine Q_aload_n hX 3 dL_law__371 rfl rfl ?_
    refine Q_W1 hX [.ref 1, .ref 50] dL_law__372 lw_144 (CW_city_e1 (okGQ hX) e1) (Nat.le_trans (by decide) hR.1) (Nat.le_trans (by decide) hR.2.1) rfl rfl rfl rfl ⟨by omega, by omega⟩ ?_
    refine Q_istore hX [(5, .int 1), (0, .ref 0), (1, .ref 1), (2, .ref 30), (3, .ref 50), (4, .int (nI j))] dL_law__375 rfl rfl ?_
    refine Q_aload_n hX 3 dL_law__377 rfl rfl ?_
    refine Q_V1 hX [] dL_law__378 lv_149 ob_30 rfl (C_X12_city (okGQ hX) e2) (Nat.le_trans (by decide) hR.1) (Nat.le_trans (by decide) hR.2.1) rfl rfl rfl rfl ⟨by omega, by omega⟩ ?_
    refine Q_istore hX [(6, .int b), (5, .int 1), (0, .ref 0), (1, .ref 1), (2, .ref 30), (3, .ref 50), (4, .int (nI j))] dL_law__381 rfl rfl ?_
    refine Q_aload_n hX 4 dL_law__383 rfl rfl ?_
    refine Q_V1 hX [] dL_law__384 lv_150 ob_30 rfl (C_X12_thrown (okGQ hX) rfl) (Nat.le_trans (by decide) hR.1) (Nat.le_trans (by decide) hR.2.1) rfl rfl rfl rfl ⟨by omega, by omega⟩ ?_
    refine Q_nm e3 ?_
    refine Q_iload hX 1 dL_law__387 rfl ?_
    refine Q_icmp_eqT hX 394 dL_law__389 rfl rfl ?_
    refine Q_iload hX 1 dL_law__394 rfl ?_
    refine Q_if_neT hX 411 dL_law__396 rfl (by decide) ?_
    refine Q_goto hX 2799 dL_law__411 rfl ?_
    refine Q_sub [2, 3, 4, 5, 6] [(0, .ref 0), (1, .ref 1), (2, .ref 30), (3, .ref 50), (4, .int (nI j))] rfl ?_
    exact kk
  · refine Q_aload_n hX 1 dL_law__370 rfl rfl ?_
    refine Q_aload_n hX 3 dL_law__371 rfl rfl ?_
    refine Q_W1 hX [.ref 1, .ref 50] dL_law__372 lw_144 (CW_city_e2 (okGQ hX) e1) (Nat.le_trans (by decide) hR.1) (Nat.le_trans (by decide) hR.2.1) rfl rfl rfl rfl ⟨by omega, by omega⟩ ?_
    refine Q_istore hX [(5, .int 2), (0, .ref 0), (1, .ref 1), (2, .ref 30), (3, .ref 50), (4, .int (nI j))] dL_law__375 rfl rfl ?_
    refine Q_aload_n hX 3 dL_law__377 rfl rfl ?_
    refine Q_V1 hX [] dL_law__378 lv_149 ob_30 rfl (C_X12_city (okGQ hX) e2) (Nat.le_trans (by decide) hR.1) (Nat.le_trans (by decide) hR.2.1) rfl rfl rfl rfl ⟨by omega, by omega⟩ ?_
    refine Q_istore hX [(6, .int b), (5, .int 2), (0, .ref 0), (1, .ref 1), (2, .ref 30), (3, .ref 50), (4, .int (nI j))] dL_law__381 rfl rfl ?_
    refine Q_aload_n hX 4 dL_law__383 rfl rfl ?_
    refine Q_V1 hX [] dL_law__384 lv_150 ob_30 rfl (C_X12_thrown (okGQ hX) rfl) (Nat.le_trans (by decide) hR.1) (Nat.le_trans (by decide) hR.2.1) rfl rfl rfl rfl ⟨by omega, by omega⟩ ?_
    refine Q_nm e3 ?_
    refine Q_iload hX 1 dL_law__387 rfl ?_
    refine Q_icmp_eqT hX 394 dL_law__389 rfl rfl ?_
    refine Q_iload hX 1 dL_law__394 rfl ?_
    refine Q_if_neT hX 411 dL_law__396 rfl (by decide) ?_
    refine Q_goto hX 2799 dL_law__411 rfl ?_
    refine Q_sub [2, 3, 4, 5, 6] [(0, .ref 0), (1, .ref 1), (2, .ref 30), (3, .ref 50), (4, .int (nI j))] rfl ?_
    exact kk
set_option maxRecDepth 100000 in
set_option maxHeartbeats 200000 in
theorem LW_3 {X : CX} {R : Room} {Q : State → Prop} {kC sC Ls j n : Nat} {xs : Nat → Int32} {h h' : Hp} (hX : OkQ X cL_law_ 7 RL (some .boolean)) (hScr : ScrQ X Ls xs) (hL : Ls ≤ 3072) (hj : j + 6 ≤ Ls) (hR : 80 ≤ R.frames ∧ 80 * 80 ≤ R.locals ∧ kC + 1 ≤ R.cells ∧ sC + 6 ≤ R.slots) (hst : St_3 (fun i => xs (j + i)) h h' n) (kk : JQ X R Q (kC + n) (sC + 6 * n) 2799 [(0, .ref 0), (1, .ref 1), (2, .ref 30), (3, .ref 50), (4, .int (nI j))] [] h') : JQ X R Q kC sC 414 [(0, .ref 0), (1, .ref 1), (2, .ref 30), (3, .ref 50), (4, .int (nI j))] [] h := by
  have hr1 := hR.2.2.1
  have hr2 := hR.2.2.2
  unfold St_3 at hst
  try dsimp only at hst
  rcases hst with ⟨v, h1, b, e1, e2, e3, e4, rfl⟩ | ⟨h1, b, e1, e2, e3, rfl⟩
  · refine Q_aload_n hX 1 dL_law__414 rfl rfl ?_
    refine Q_aload_n hX 3 dL_law__415 rfl rfl ?_
    refine Q_W1 hX [.ref 1, .ref 50] dL_law__416 lw_153 (CW_law_ok (okGQ hX) e1) (Nat.le_trans (by decide) hR.1) (Nat.le_trans (by decide) hR.2.1) rfl rfl rfl rfl ⟨by omega, by omega⟩ ?_
    refine Q_istore hX [(5, .int 0), (0, .ref 0), (1, .ref 1), (2, .ref 30), (3, .ref 50), (4, .int (nI j))] dL_law__419 rfl rfl ?_
    refine Q_aload_n hX 3 dL_law__421 rfl rfl ?_
    refine Q_V1 hX [] dL_law__422 lv_155 ob_30 rfl (C_X12_law (okGQ hX) e2) (Nat.le_trans (by decide) hR.1) (Nat.le_trans (by decide) hR.2.1) rfl rfl rfl rfl ⟨by omega, by omega⟩ ?_
    refine Q_istore hX [(6, .int b), (5, .int 0), (0, .ref 0), (1, .ref 1), (2, .ref 30), (3, .ref 50), (4, .int (nI j))] dL_law__425 rfl rfl ?_
    refine Q_aload_n hX 4 dL_law__427 rfl rfl ?_
    refine Q_V1 hX [] dL_law__428 lv_150 ob_30 rfl (C_X12_thrown (okGQ hX) rfl) (Nat.le_trans (by decide) hR.1) (Nat.le_trans (by decide) hR.2.1) rfl rfl rfl rfl ⟨by omega, by omega⟩ ?_
    refine Q_nm e3 ?_
    refine Q_iload hX 1 dL_law__431 rfl ?_
    refine Q_icmp_eqT hX 438 dL_law__433 rfl rfl ?_
    refine Q_iload hX 1 dL_law__438 rfl ?_
    refine Q_if_neF hX 455 dL_law__440 rfl rfl ?_
    refine Q_aload_n hX 5 dL_law__443 rfl rfl ?_
    refine Q_iconst hX 0 dL_law__444 rfl ?_
    refine Q_lald hX dL_law__445 ar_50 (by decide) ?_
    refine Q_nmL (congrArg Int32.toInt64 e4) ?_
    refine Q_iload hX 0 dL_law__446 rfl ?_
    refine Q_i2l hX dL_law__448 ?_
    refine Q_lcmp hX dL_law__449 ?_
    refine Q_if_eqT hX 455 dL_law__450 rfl (lg_cmp_self _) ?_
    refine Q_goto hX 2799 dL_law__455 rfl ?_
    refine Q_sub [2, 3, 4, 5, 6] [(0, .ref 0), (1, .ref 1), (2, .ref 30), (3, .ref 50), (4, .int (nI j))] rfl ?_
    exact kk
  · refine Q_aload_n hX 1 dL_law__414 rfl rfl ?_
    refine Q_aload_n hX 3 dL_law__415 rfl rfl ?_
    refine Q_W1 hX [.ref 1, .ref 50] dL_law__416 lw_153 (CW_law_e1 (okGQ hX) e1) (Nat.le_trans (by decide) hR.1) (Nat.le_trans (by decide) hR.2.1) rfl rfl rfl rfl ⟨by omega, by omega⟩ ?_
    refine Q_istore hX [(5, .int 1), (0, .ref 0), (1, .ref 1), (2, .ref 30), (3, .ref 50), (4, .int (nI j))] dL_law__419 rfl rfl ?_
    refine Q_aload_n hX 3 dL_law__421 rfl rfl ?_
    refine Q_V1 hX [] dL_law__422 lv_155 ob_30 rfl (C_X12_law (okGQ hX) e2) (Nat.le_trans (by decide) hR.1) (Nat.le_trans (by decide) hR.2.1) rfl rfl rfl rfl ⟨by omega, by omega⟩ ?_
    refine Q_istore hX [(6, .int b), (5, .int 1), (0, .ref 0), (1, .ref 1), (2, .ref 30), (3, .ref 50), (4, .int (nI j))] dL_law__425 rfl rfl ?_
    refine Q_aload_n hX 4 dL_law__427 rfl rfl ?_
    refine Q_V1 hX [] dL_law__428 lv_150 ob_30 rfl (C_X12_thrown (okGQ hX) rfl) (Nat.le_trans (by decide) hR.1) (Nat.le_trans (by decide) hR.2.1) rfl rfl rfl rfl ⟨by omega, by omega⟩ ?_
    refine Q_nm e3 ?_
    refine Q_iload hX 1 dL_law__431 rfl ?_
    refine Q_icmp_eqT hX 438 dL_law__433 rfl rfl ?_
    refine Q_iload hX 1 dL_law__438 rfl ?_
    refine Q_if_neT hX 455 dL_law__440 rfl (by decide) ?_
    refine Q_goto hX 2799 dL_law__455 rfl ?_
    refine Q_sub [2, 3, 4, 5, 6] [(0, .ref 0), (1, .ref 1), (2, .ref 30), (3, .ref 50), (4, .int (nI j))] rfl ?_
    exact kk
set_option maxRecDepth 100000 in
set_option maxHeartbeats 200000 in
theorem LW_4 {X : CX} {R : Room} {Q : State → Prop} {kC sC Ls j n : Nat} {xs : Nat → Int32} {h h' : Hp} (hX : OkQ X cL_law_ 7 RL (some .boolean)) (hScr : ScrQ X Ls xs) (hL : Ls ≤ 3072) (hj : j + 6 ≤ Ls) (hR : 80 ≤ R.frames ∧ 80 * 80 ≤ R.locals ∧ kC + 1 ≤ R.cells ∧ sC + 6 ≤ R.slots) (hst : St_4 (fun i => xs (j + i)) h h' n) (kk : JQ X R Q (kC + n) (sC + 6 * n) 2799 [(0, .ref 0), (1, .ref 1), (2, .ref 30), (3, .ref 50), (4, .int (nI j))] [] h') : JQ X R Q kC sC 458 [(0, .ref 0), (1, .ref 1), (2, .ref 30), (3, .ref 50), (4, .int (nI j))] [] h := by
  have hr1 := hR.2.2.1
  have hr2 := hR.2.2.2
  unfold St_4 at hst
  try dsimp only at hst
  obtain ⟨e2, rfl⟩ := hst
  refine Q_aload_n hX 1 dL_law__458 rfl rfl ?_
  refine Q_V1 hX [] dL_law__459 lv_156 ob_1 rfl (C_X11_fault (okGQ hX) rfl) (Nat.le_trans (by decide) hR.1) (Nat.le_trans (by decide) hR.2.1) rfl rfl rfl rfl ⟨by omega, by omega⟩ ?_
  refine Q_aload_n hX 2 dL_law__462 rfl rfl ?_
  refine Q_V1 hX [] dL_law__463 lv_159 ob_30 rfl (C_X12_fault (okGQ hX) e2) (Nat.le_trans (by decide) hR.1) (Nat.le_trans (by decide) hR.2.1) rfl rfl rfl rfl ⟨by omega, by omega⟩ ?_
  refine Q_icmp_eqT hX 2799 dL_law__466 rfl rfl ?_
  exact kk
set_option maxRecDepth 100000 in
set_option maxHeartbeats 200000 in
theorem LW_5 {X : CX} {R : Room} {Q : State → Prop} {kC sC Ls j n : Nat} {xs : Nat → Int32} {h h' : Hp} (hX : OkQ X cL_law_ 7 RL (some .boolean)) (hScr : ScrQ X Ls xs) (hL : Ls ≤ 3072) (hj : j + 6 ≤ Ls) (hR : 80 ≤ R.frames ∧ 80 * 80 ≤ R.locals ∧ kC + 1 ≤ R.cells ∧ sC + 6 ≤ R.slots) (hst : St_5 (fun i => xs (j + i)) h h' n) (kk : JQ X R Q (kC + n) (sC + 6 * n) 2799 [(0, .ref 0), (1, .ref 1), (2, .ref 30), (3, .ref 50), (4, .int (nI j))] [] h') : JQ X R Q kC sC 471 [(0, .ref 0), (1, .ref 1), (2, .ref 30), (3, .ref 50), (4, .int (nI j))] [] h := by
  have hr1 := hR.2.2.1
  have hr2 := hR.2.2.2
  unfold St_5 at hst
  try dsimp only at hst
  rcases hst with ⟨v, h1, b, e1, e2, e3, e4, rfl⟩ | ⟨h1, b, e1, e2, e3, rfl⟩ | ⟨h1, b, e1, e2, e3, rfl⟩
  · refine Q_aload_n hX 1 dL_law__471 rfl rfl ?_
    refine Q_aload_n hX 0 dL_law__472 rfl rfl ?_
    refine Q_iload hX 4 dL_law__473 rfl ?_
    refine Q_iconst hX 1 dL_law__475 rfl ?_
    refine Q_iadd hX dL_law__476 ?_
    refine Q_arg hX hScr hL hj 1 rfl (by decide) dL_law__477 ?_
    refine Q_aload_n hX 0 dL_law__478 rfl rfl ?_
    refine Q_iload hX 4 dL_law__479 rfl ?_
    refine Q_iconst hX 2 dL_law__481 rfl ?_
    refine Q_iadd hX dL_law__482 ?_
    refine Q_arg hX hScr hL hj 2 rfl (by decide) dL_law__483 ?_
    refine Q_aload_n hX 3 dL_law__484 rfl rfl ?_
    refine Q_W1 hX [.ref 1, .int (xs (j + 1)), .int (xs (j + 2)), .ref 50] dL_law__485 lw_160 (CW_house_ok (okGQ hX) e1) (Nat.le_trans (by decide) hR.1) (Nat.le_trans (by decide) hR.2.1) rfl rfl rfl rfl ⟨by omega, by omega⟩ ?_
    refine Q_istore hX [(5, .int 0), (0, .ref 0), (1, .ref 1), (2, .ref 30), (3, .ref 50), (4, .int (nI j))] dL_law__488 rfl rfl ?_
    refine Q_aload_n hX 3 dL_law__490 rfl rfl ?_
    refine Q_aload_n hX 1 dL_law__491 rfl rfl ?_
    refine Q_iload hX 5 dL_law__492 rfl ?_
    refine Q_iconst hX 1 dL_law__494 rfl ?_
    refine Q_iadd hX dL_law__495 ?_
    refine Q_arg hX hScr hL hj 1 rfl (by decide) dL_law__496 ?_
    refine Q_aload_n hX 1 dL_law__497 rfl rfl ?_
    refine Q_iload hX 5 dL_law__498 rfl ?_
    refine Q_iconst hX 2 dL_law__500 rfl ?_
    refine Q_iadd hX dL_law__501 ?_
    refine Q_arg hX hScr hL hj 2 rfl (by decide) dL_law__502 ?_
    refine Q_V1 hX [.int (xs (j + 1)), .int (xs (j + 2))] dL_law__503 lv_163 ob_30 rfl (C_X12_house (okGQ hX) e2) (Nat.le_trans (by decide) hR.1) (Nat.le_trans (by decide) hR.2.1) rfl rfl rfl rfl ⟨by omega, by omega⟩ ?_
    refine Q_istore hX [(6, .int b), (5, .int 0), (0, .ref 0), (1, .ref 1), (2, .ref 30), (3, .ref 50), (4, .int (nI j))] dL_law__506 rfl rfl ?_
    refine Q_aload_n hX 4 dL_law__508 rfl rfl ?_
    refine Q_V1 hX [] dL_law__509 lv_150 ob_30 rfl (C_X12_thrown (okGQ hX) rfl) (Nat.le_trans (by decide) hR.1) (Nat.le_trans (by decide) hR.2.1) rfl rfl rfl rfl ⟨by omega, by omega⟩ ?_
    refine Q_nm e3 ?_
    refine Q_iload hX 1 dL_law__512 rfl ?_
    refine Q_icmp_eqT hX 519 dL_law__514 rfl rfl ?_
    refine Q_iload hX 1 dL_law__519 rfl ?_
    refine Q_if_neF hX 536 dL_law__521 rfl rfl ?_
    refine Q_aload_n hX 5 dL_law__524 rfl rfl ?_
    refine Q_iconst hX 0 dL_law__525 rfl ?_
    refine Q_lald hX dL_law__526 ar_50 (by decide) ?_
    refine Q_nmL (congrArg Int32.toInt64 e4) ?_
    refine Q_iload hX 0 dL_law__527 rfl ?_
    refine Q_i2l hX dL_law__529 ?_
    refine Q_lcmp hX dL_law__530 ?_
    refine Q_if_eqT hX 536 dL_law__531 rfl (lg_cmp_self _) ?_
    refine Q_goto hX 2799 dL_law__536 rfl ?_
    refine Q_sub [2, 3, 4, 5, 6] [(0, .ref 0), (1, .ref 1), (2, .ref 30), (3, .ref 50), (4, .int (nI j))] rfl ?_
    exact kk
  · refine Q_aload_n hX 1 dL_law__471 rfl rfl ?_
    refine Q_aload_n hX 0 dL_law__472 rfl rfl ?_
    refine Q_iload hX 4 dL_law__473 rfl ?_
    refine Q_iconst hX 1 dL_law__475 rfl ?_
    refine Q_iadd hX dL_law__476 ?_
    refine Q_arg hX hScr hL hj 1 rfl (by decide) dL_law__477 ?_
    refine Q_aload_n hX 0 dL_law__478 rfl rfl ?_
    refine Q_iload hX 4 dL_law__479 rfl ?_
    refine Q_iconst hX 2 dL_law__481 rfl ?_
    refine Q_iadd hX dL_law__482 ?_
    refine Q_arg hX hScr hL hj 2 rfl (by decide) dL_law__483 ?_
    refine Q_aload_n hX 3 dL_law__484 rfl rfl ?_
    refine Q_W1 hX [.ref 1, .int (xs (j + 1)), .int (xs (j + 2)), .ref 50] dL_law__485 lw_160 (CW_house_e1 (okGQ hX) e1) (Nat.le_trans (by decide) hR.1) (Nat.le_trans (by decide) hR.2.1) rfl rfl rfl rfl ⟨by omega, by omega⟩ ?_
    refine Q_istore hX [(5, .int 1), (0, .ref 0), (1, .ref 1), (2, .ref 30), (3, .ref 50), (4, .int (nI j))] dL_law__488 rfl rfl ?_
    refine Q_aload_n hX 3 dL_law__490 rfl rfl ?_
    refine Q_aload_n hX 1 dL_law__491 rfl rfl ?_
    refine Q_iload hX 5 dL_law__492 rfl ?_
    refine Q_iconst hX 1 dL_law__494 rfl ?_
    refine Q_iadd hX dL_law__495 ?_
    refine Q_arg hX hScr hL hj 1 rfl (by decide) dL_law__496 ?_
    refine Q_aload_n hX 1 dL_law__497 rfl rfl ?_
    refine Q_iload hX 5 dL_law__498 rfl ?_
    refine Q_iconst hX 2 dL_law__500 rfl ?_
    refine Q_iadd hX dL_law__501 ?_
    refine Q_arg hX hScr hL hj 2 rfl (by decide) dL_law__502 ?_
    refine Q_V1 hX [.int (xs (j + 1)), .int (xs (j + 2))] dL_law__503 lv_163 ob_30 rfl (C_X12_house (okGQ hX) e2) (Nat.le_trans (by decide) hR.1) (Nat.le_trans (by decide) hR.2.1) rfl rfl rfl rfl ⟨by omega, by omega⟩ ?_
    refine Q_istore hX [(6, .int b), (5, .int 1), (0, .ref 0), (1, .ref 1), (2, .ref 30), (3, .ref 50), (4, .int (nI j))] dL_law__506 rfl rfl ?_
    refine Q_aload_n hX 4 dL_law__508 rfl rfl ?_
    refine Q_V1 hX [] dL_law__509 lv_150 ob_30 rfl (C_X12_thrown (okGQ hX) rfl) (Nat.le_trans (by decide) hR.1) (Nat.le_trans (by decide) hR.2.1) rfl rfl rfl rfl ⟨by omega, by omega⟩ ?_
    refine Q_nm e3 ?_
    refine Q_iload hX 1 dL_law__512 rfl ?_
    refine Q_icmp_eqT hX 519 dL_law__514 rfl rfl ?_
    refine Q_iload hX 1 dL_law__519 rfl ?_
    refine Q_if_neT hX 536 dL_law__521 rfl (by decide) ?_
    refine Q_goto hX 2799 dL_law__536 rfl ?_
    refine Q_sub [2, 3, 4, 5, 6] [(0, .ref 0), (1, .ref 1), (2, .ref 30), (3, .ref 50), (4, .int (nI j))] rfl ?_
    exact kk
  · refine Q_aload_n hX 1 dL_law__471 rfl rfl ?_
    refine Q_aload_n hX 0 dL_law__472 rfl rfl ?_
    refine Q_iload hX 4 dL_law__473 rfl ?_
    refine Q_iconst hX 1 dL_law__475 rfl ?_
    refine Q_iadd hX dL_law__476 ?_
    refine Q_arg hX hScr hL hj 1 rfl (by decide) dL_law__477 ?_
    refine Q_aload_n hX 0 dL_law__478 rfl rfl ?_
    refine Q_iload hX 4 dL_law__479 rfl ?_
    refine Q_iconst hX 2 dL_law__481 rfl ?_
    refine Q_iadd hX dL_law__482 ?_
    refine Q_arg hX hScr hL hj 2 rfl (by decide) dL_law__483 ?_
    refine Q_aload_n hX 3 dL_law__484 rfl rfl ?_
    refine Q_W1 hX [.ref 1, .int (xs (j + 1)), .int (xs (j + 2)), .ref 50] dL_law__485 lw_160 (CW_house_e2 (okGQ hX) e1) (Nat.le_trans (by decide) hR.1) (Nat.le_trans (by decide) hR.2.1) rfl rfl rfl rfl ⟨by omega, by omega⟩ ?_
    refine Q_istore hX [(5, .int 2), (0, .ref 0), (1, .ref 1), (2, .ref 30), (3, .ref 50), (4, .int (nI j))] dL_law__488 rfl rfl ?_
    refine Q_aload_n hX 3 dL_law__490 rfl rfl ?_
    refine Q_aload_n hX 1 dL_law__491 rfl rfl ?_
    refine Q_iload hX 5 dL_law__492 rfl ?_
    refine Q_iconst hX 1 dL_law__494 rfl ?_
    refine Q_iadd hX dL_law__495 ?_
    refine Q_arg hX hScr hL hj 1 rfl (by decide) dL_law__496 ?_
    refine Q_aload_n hX 1 dL_law__497 rfl rfl ?_
    refine Q_iload hX 5 dL_law__498 rfl ?_
    refine Q_iconst hX 2 dL_law__500 rfl ?_
    refine Q_iadd hX dL_law__501 ?_
    refine Q_arg hX hScr hL hj 2 rfl (by decide) dL_law__502 ?_
    refine Q_V1 hX [.int (xs (j + 1)), .int (xs (j + 2))] dL_law__503 lv_163 ob_30 rfl (C_X12_house (okGQ hX) e2) (Nat.le_trans (by decide) hR.1) (Nat.le_trans (by decide) hR.2.1) rfl rfl rfl rfl ⟨by omega, by omega⟩ ?_
    refine Q_istore hX [(6, .int b), (5, .int 2), (0, .ref 0), (1, .ref 1), (2, .ref 30), (3, .ref 50), (4, .int (nI j))] dL_law__506 rfl rfl ?_
    refine Q_aload_n hX 4 dL_law__508 rfl rfl ?_
    refine Q_V1 hX [] dL_law__509 lv_150 ob_30 rfl (C_X12_thrown (okGQ hX) rfl) (Nat.le_trans (by decide) hR.1) (Nat.le_trans (by decide) hR.2.1) rfl rfl rfl rfl ⟨by omega, by omega⟩ ?_
    refine Q_nm e3 ?_
    refine Q_iload hX 1 dL_law__512 rfl ?_
    refine Q_icmp_eqT hX 519 dL_law__514 rfl rfl ?_
    refine Q_iload hX 1 dL_law__519 rfl ?_
    refine Q_if_neT hX 536 dL_law__521 rfl (by decide) ?_
    refine Q_goto hX 2799 dL_law__536 rfl ?_
    refine Q_sub [2, 3, 4, 5, 6] [(0, .ref 0), (1, .ref 1), (2, .ref 30), (3, .ref 50), (4, .int (nI j))] rfl ?_
    exact kk
set_option maxRecDepth 100000 in
set_option maxHeartbeats 200000 in
theorem LW_6 {X : CX} {R : Room} {Q : State → Prop} {kC sC Ls j n : Nat} {xs : Nat → Int32} {h h' : Hp} (hX : OkQ X cL_law_ 7 RL (some .boolean)) (hScr : ScrQ X Ls xs) (hL : Ls ≤ 3072) (hj : j + 6 ≤ Ls) (hR : 80 ≤ R.frames ∧ 80 * 80 ≤ R.locals ∧ kC + 1 ≤ R.cells ∧ sC + 6 ≤ R.slots) (hst : St_6 (fun i => xs (j + i)) h h' n) (kk : JQ X R Q (kC + n) (sC + 6 * n) 2799 [(0, .ref 0), (1, .ref 1), (2, .ref 30), (3, .ref 50), (4, .int (nI j))] [] h') : JQ X R Q kC sC 539 [(0, .ref 0), (1, .ref 1), (2, .ref 30), (3, .ref 50), (4, .int (nI j))] [] h := by
  have hr1 := hR.2.2.1
  have hr2 := hR.2.2.2
  unfold St_6 at hst
  try dsimp only at hst
  rcases hst with ⟨v, h1, b, e1, e2, e3, e4, rfl⟩ | ⟨h1, b, e1, e2, e3, rfl⟩
  · refine Q_aload_n hX 1 dL_law__539 rfl rfl ?_
    refine Q_aload_n hX 0 dL_law__540 rfl rfl ?_
    refine Q_iload hX 4 dL_law__541 rfl ?_
    refine Q_iconst hX 1 dL_law__543 rfl ?_
    refine Q_iadd hX dL_law__544 ?_
    refine Q_arg hX hScr hL hj 1 rfl (by decide) dL_law__545 ?_
    refine Q_aload_n hX 0 dL_law__546 rfl rfl ?_
    refine Q_iload hX 4 dL_law__547 rfl ?_
    refine Q_iconst hX 2 dL_law__549 rfl ?_
    refine Q_iadd hX dL_law__550 ?_
    refine Q_arg hX hScr hL hj 2 rfl (by decide) dL_law__551 ?_
    refine Q_aload_n hX 3 dL_law__552 rfl rfl ?_
    refine Q_W1 hX [.ref 1, .int (xs (j + 1)), .int (xs (j + 2)), .ref 50] dL_law__553 lw_164 (CW_part_ok (okGQ hX) e1) (Nat.le_trans (by decide) hR.1) (Nat.le_trans (by decide) hR.2.1) rfl rfl rfl rfl ⟨by omega, by omega⟩ ?_
    refine Q_istore hX [(5, .int 0), (0, .ref 0), (1, .ref 1), (2, .ref 30), (3, .ref 50), (4, .int (nI j))] dL_law__556 rfl rfl ?_
    refine Q_aload_n hX 3 dL_law__558 rfl rfl ?_
    refine Q_aload_n hX 1 dL_law__559 rfl rfl ?_
    refine Q_iload hX 5 dL_law__560 rfl ?_
    refine Q_iconst hX 1 dL_law__562 rfl ?_
    refine Q_iadd hX dL_law__563 ?_
    refine Q_arg hX hScr hL hj 1 rfl (by decide) dL_law__564 ?_
    refine Q_aload_n hX 1 dL_law__565 rfl rfl ?_
    refine Q_iload hX 5 dL_law__566 rfl ?_
    refine Q_iconst hX 2 dL_law__568 rfl ?_
    refine Q_iadd hX dL_law__569 ?_
    refine Q_arg hX hScr hL hj 2 rfl (by decide) dL_law__570 ?_
    refine Q_V1 hX [.int (xs (j + 1)), .int (xs (j + 2))] dL_law__571 lv_166 ob_30 rfl (C_X12_part (okGQ hX) e2) (Nat.le_trans (by decide) hR.1) (Nat.le_trans (by decide) hR.2.1) rfl rfl rfl rfl ⟨by omega, by omega⟩ ?_
    refine Q_istore hX [(6, .int b), (5, .int 0), (0, .ref 0), (1, .ref 1), (2, .ref 30), (3, .ref 50), (4, .int (nI j))] dL_law__574 rfl rfl ?_
    refine Q_aload_n hX 4 dL_law__576 rfl rfl ?_
    refine Q_V1 hX [] dL_law__577 lv_150 ob_30 rfl (C_X12_thrown (okGQ hX) rfl) (Nat.le_trans (by decide) hR.1) (Nat.le_trans (by decide) hR.2.1) rfl rfl rfl rfl ⟨by omega, by omega⟩ ?_
    refine Q_nm e3 ?_
    refine Q_iload hX 1 dL_law__580 rfl ?_
    refine Q_icmp_eqT hX 587 dL_law__582 rfl rfl ?_
    refine Q_iload hX 1 dL_law__587 rfl ?_
    refine Q_if_neF hX 604 dL_law__589 rfl rfl ?_
    refine Q_aload_n hX 5 dL_law__592 rfl rfl ?_
    refine Q_iconst hX 0 dL_law__593 rfl ?_
    refine Q_lald hX dL_law__594 ar_50 (by decide) ?_
    refine Q_nmL (congrArg Int32.toInt64 e4) ?_
    refine Q_iload hX 0 dL_law__595 rfl ?_
    refine Q_i2l hX dL_law__597 ?_
    refine Q_lcmp hX dL_law__598 ?_
    refine Q_if_eqT hX 604 dL_law__599 rfl (lg_cmp_self _) ?_
    refine Q_goto hX 2799 dL_law__604 rfl ?_
    refine Q_sub [2, 3, 4, 5, 6] [(0, .ref 0), (1, .ref 1), (2, .ref 30), (3, .ref 50), (4, .int (nI j))] rfl ?_
    exact kk
  · refine Q_aload_n hX 1 dL_law__539 rfl rfl ?_
    refine Q_aload_n hX 0 dL_law__540 rfl rfl ?_
    refine Q_iload hX 4 dL_law__541 rfl ?_
    refine Q_iconst hX 1 dL_law__543 rfl ?_
    refine Q_iadd hX dL_law__544 ?_
    refine Q_arg hX hScr hL hj 1 rfl (by decide) dL_law__545 ?_
    refine Q_aload_n hX 0 dL_law__546 rfl rfl ?_
    refine Q_iload hX 4 dL_law__547 rfl ?_
    refine Q_iconst hX 2 dL_law__549 rfl ?_
    refine Q_iadd hX dL_law__550 ?_
    refine Q_arg hX hScr hL hj 2 rfl (by decide) dL_law__551 ?_
    refine Q_aload_n hX 3 dL_law__552 rfl rfl ?_
    refine Q_W1 hX [.ref 1, .int (xs (j + 1)), .int (xs (j + 2)), .ref 50] dL_law__553 lw_164 (CW_part_e1 (okGQ hX) e1) (Nat.le_trans (by decide) hR.1) (Nat.le_trans (by decide) hR.2.1) rfl rfl rfl rfl ⟨by omega, by omega⟩ ?_
    refine Q_istore hX [(5, .int 1), (0, .ref 0), (1, .ref 1), (2, .ref 30), (3, .ref 50), (4, .int (nI j))] dL_law__556 rfl rfl ?_
    refine Q_aload_n hX 3 dL_law__558 rfl rfl ?_
    refine Q_aload_n hX 1 dL_law__559 rfl rfl ?_
    refine Q_iload hX 5 dL_law__560 rfl ?_
    refine Q_iconst hX 1 dL_law__562 rfl ?_
    refine Q_iadd hX dL_law__563 ?_
    refine Q_arg hX hScr hL hj 1 rfl (by decide) dL_law__564 ?_
    refine Q_aload_n hX 1 dL_law__565 rfl rfl ?_
    refine Q_iload hX 5 dL_law__566 rfl ?_
    refine Q_iconst hX 2 dL_law__568 rfl ?_
    refine Q_iadd hX dL_law__569 ?_
    refine Q_arg hX hScr hL hj 2 rfl (by decide) dL_law__570 ?_
    refine Q_V1 hX [.int (xs (j + 1)), .int (xs (j + 2))] dL_law__571 lv_166 ob_30 rfl (C_X12_part (okGQ hX) e2) (Nat.le_trans (by decide) hR.1) (Nat.le_trans (by decide) hR.2.1) rfl rfl rfl rfl ⟨by omega, by omega⟩ ?_
    refine Q_istore hX [(6, .int b), (5, .int 1), (0, .ref 0), (1, .ref 1), (2, .ref 30), (3, .ref 50), (4, .int (nI j))] dL_law__574 rfl rfl ?_
    refine Q_aload_n hX 4 dL_law__576 rfl rfl ?_
    refine Q_V1 hX [] dL_law__577 lv_150 ob_30 rfl (C_X12_thrown (okGQ hX) rfl) (Nat.le_trans (by decide) hR.1) (Nat.le_trans (by decide) hR.2.1) rfl rfl rfl rfl ⟨by omega, by omega⟩ ?_
    refine Q_nm e3 ?_
    refine Q_iload hX 1 dL_law__580 rfl ?_
    refine Q_icmp_eqT hX 587 dL_law__582 rfl rfl ?_
    refine Q_iload hX 1 dL_law__587 rfl ?_
    refine Q_if_neT hX 604 dL_law__589 rfl (by decide) ?_
    refine Q_goto hX 2799 dL_law__604 rfl ?_
    refine Q_sub [2, 3, 4, 5, 6] [(0, .ref 0), (1, .ref 1), (2, .ref 30), (3, .ref 50), (4, .int (nI j))] rfl ?_
    exact kk
set_option maxRecDepth 100000 in
set_option maxHeartbeats 200000 in
theorem LW_7 {X : CX} {R : Room} {Q : State → Prop} {kC sC Ls j n : Nat} {xs : Nat → Int32} {h h' : Hp} (hX : OkQ X cL_law_ 7 RL (some .boolean)) (hScr : ScrQ X Ls xs) (hL : Ls ≤ 3072) (hj : j + 6 ≤ Ls) (hR : 80 ≤ R.frames ∧ 80 * 80 ≤ R.locals ∧ kC + 1 ≤ R.cells ∧ sC + 6 ≤ R.slots) (hst : St_7 (fun i => xs (j + i)) h h' n) (kk : JQ X R Q (kC + n) (sC + 6 * n) 2799 [(0, .ref 0), (1, .ref 1), (2, .ref 30), (3, .ref 50), (4, .int (nI j))] [] h') : JQ X R Q kC sC 607 [(0, .ref 0), (1, .ref 1), (2, .ref 30), (3, .ref 50), (4, .int (nI j))] [] h := by
  have hr1 := hR.2.2.1
  have hr2 := hR.2.2.2
  unfold St_7 at hst
  try dsimp only at hst
  rcases hst with ⟨v, h1, b, e1, e2, e3, e4, rfl⟩ | ⟨h1, b, e1, e2, e3, rfl⟩ | ⟨h1, b, e1, e2, e3, rfl⟩
  · refine Q_aload_n hX 1 dL_law__607 rfl rfl ?_
    refine Q_aload_n hX 0 dL_law__608 rfl rfl ?_
    refine Q_iload hX 4 dL_law__609 rfl ?_
    refine Q_iconst hX 1 dL_law__611 rfl ?_
    refine Q_iadd hX dL_law__612 ?_
    refine Q_arg hX hScr hL hj 1 rfl (by decide) dL_law__613 ?_
    refine Q_aload_n hX 0 dL_law__614 rfl rfl ?_
    refine Q_iload hX 4 dL_law__615 rfl ?_
    refine Q_iconst hX 2 dL_law__617 rfl ?_
    refine Q_iadd hX dL_law__618 ?_
    refine Q_arg hX hScr hL hj 2 rfl (by decide) dL_law__619 ?_
    refine Q_aload_n hX 3 dL_law__620 rfl rfl ?_
    refine Q_W1 hX [.ref 1, .int (xs (j + 1)), .int (xs (j + 2)), .ref 50] dL_law__621 lw_167 (CW_person_ok (okGQ hX) e1) (Nat.le_trans (by decide) hR.1) (Nat.le_trans (by decide) hR.2.1) rfl rfl rfl rfl ⟨by omega, by omega⟩ ?_
    refine Q_istore hX [(5, .int 0), (0, .ref 0), (1, .ref 1), (2, .ref 30), (3, .ref 50), (4, .int (nI j))] dL_law__624 rfl rfl ?_
    refine Q_aload_n hX 3 dL_law__626 rfl rfl ?_
    refine Q_aload_n hX 1 dL_law__627 rfl rfl ?_
    refine Q_iload hX 5 dL_law__628 rfl ?_
    refine Q_iconst hX 1 dL_law__630 rfl ?_
    refine Q_iadd hX dL_law__631 ?_
    refine Q_arg hX hScr hL hj 1 rfl (by decide) dL_law__632 ?_
    refine Q_aload_n hX 1 dL_law__633 rfl rfl ?_
    refine Q_iload hX 5 dL_law__634 rfl ?_
    refine Q_iconst hX 2 dL_law__636 rfl ?_
    refine Q_iadd hX dL_law__637 ?_
    refine Q_arg hX hScr hL hj 2 rfl (by decide) dL_law__638 ?_
    refine Q_V1 hX [.int (xs (j + 1)), .int (xs (j + 2))] dL_law__639 lv_169 ob_30 rfl (C_X12_person (okGQ hX) e2) (Nat.le_trans (by decide) hR.1) (Nat.le_trans (by decide) hR.2.1) rfl rfl rfl rfl ⟨by omega, by omega⟩ ?_
    refine Q_istore hX [(6, .int b), (5, .int 0), (0, .ref 0), (1, .ref 1), (2, .ref 30), (3, .ref 50), (4, .int (nI j))] dL_law__642 rfl rfl ?_
    refine Q_aload_n hX 4 dL_law__644 rfl rfl ?_
    refine Q_V1 hX [] dL_law__645 lv_150 ob_30 rfl (C_X12_thrown (okGQ hX) rfl) (Nat.le_trans (by decide) hR.1) (Nat.le_trans (by decide) hR.2.1) rfl rfl rfl rfl ⟨by omega, by omega⟩ ?_
    refine Q_nm e3 ?_
    refine Q_iload hX 1 dL_law__648 rfl ?_
    refine Q_icmp_eqT hX 655 dL_law__650 rfl rfl ?_
    refine Q_iload hX 1 dL_law__655 rfl ?_
    refine Q_if_neF hX 672 dL_law__657 rfl rfl ?_
    refine Q_aload_n hX 5 dL_law__660 rfl rfl ?_
    refine Q_iconst hX 0 dL_law__661 rfl ?_
    refine Q_lald hX dL_law__662 ar_50 (by decide) ?_
    refine Q_nmL (congrArg Int32.toInt64 e4) ?_
    refine Q_iload hX 0 dL_law__663 rfl ?_
    refine Q_i2l hX dL_law__665 ?_
    refine Q_lcmp hX dL_law__666 ?_
    refine Q_if_eqT hX 672 dL_law__667 rfl (lg_cmp_self _) ?_
    refine Q_goto hX 2799 dL_law__672 rfl ?_
    refine Q_sub [2, 3, 4, 5, 6] [(0, .ref 0), (1, .ref 1), (2, .ref 30), (3, .ref 50), (4, .int (nI j))] rfl ?_
    exact kk
  · refine Q_aload_n hX 1 dL_law__607 rfl rfl ?_
    refine Q_aload_n hX 0 dL_law__608 rfl rfl ?_
    refine Q_iload hX 4 dL_law__609 rfl ?_
    refine Q_iconst hX 1 dL_law__611 rfl ?_
    refine Q_iadd hX dL_law__612 ?_
    refine Q_arg hX hScr hL hj 1 rfl (by decide) dL_law__613 ?_
    refine Q_aload_n hX 0 dL_law__614 rfl rfl ?_
    refine Q_iload hX 4 dL_law__615 rfl ?_
    refine Q_iconst hX 2 dL_law__617 rfl ?_
    refine Q_iadd hX dL_law__618 ?_
    refine Q_arg hX hScr hL hj 2 rfl (by decide) dL_law__619 ?_
    refine Q_aload_n hX 3 dL_law__620 rfl rfl ?_
    refine Q_W1 hX [.ref 1, .int (xs (j + 1)), .int (xs (j + 2)), .ref 50] dL_law__621 lw_167 (CW_person_e1 (okGQ hX) e1) (Nat.le_trans (by decide) hR.1) (Nat.le_trans (by decide) hR.2.1) rfl rfl rfl rfl ⟨by omega, by omega⟩ ?_
    refine Q_istore hX [(5, .int 1), (0, .ref 0), (1, .ref 1), (2, .ref 30), (3, .ref 50), (4, .int (nI j))] dL_law__624 rfl rfl ?_
    refine Q_aload_n hX 3 dL_law__626 rfl rfl ?_
    refine Q_aload_n hX 1 dL_law__627 rfl rfl ?_
    refine Q_iload hX 5 dL_law__628 rfl ?_
    refine Q_iconst hX 1 dL_law__630 rfl ?_
    refine Q_iadd hX dL_law__631 ?_
    refine Q_arg hX hScr hL hj 1 rfl (by decide) dL_law__632 ?_
    refine Q_aload_n hX 1 dL_law__633 rfl rfl ?_
    refine Q_iload hX 5 dL_law__634 rfl ?_
    refine Q_iconst hX 2 dL_law__636 rfl ?_
    refine Q_iadd hX dL_law__637 ?_
    refine Q_arg hX hScr hL hj 2 rfl (by decide) dL_law__638 ?_
    refine Q_V1 hX [.int (xs (j + 1)), .int (xs (j + 2))] dL_law__639 lv_169 ob_30 rfl (C_X12_person (okGQ hX) e2) (Nat.le_trans (by decide) hR.1) (Nat.le_trans (by decide) hR.2.1) rfl rfl rfl rfl ⟨by omega, by omega⟩ ?_
    refine Q_istore hX [(6, .int b), (5, .int 1), (0, .ref 0), (1, .ref 1), (2, .ref 30), (3, .ref 50), (4, .int (nI j))] dL_law__642 rfl rfl ?_
    refine Q_aload_n hX 4 dL_law__644 rfl rfl ?_
    refine Q_V1 hX [] dL_law__645 lv_150 ob_30 rfl (C_X12_thrown (okGQ hX) rfl) (Nat.le_trans (by decide) hR.1) (Nat.le_trans (by decide) hR.2.1) rfl rfl rfl rfl ⟨by omega, by omega⟩ ?_
    refine Q_nm e3 ?_
    refine Q_iload hX 1 dL_law__648 rfl ?_
    refine Q_icmp_eqT hX 655 dL_law__650 rfl rfl ?_
    refine Q_iload hX 1 dL_law__655 rfl ?_
    refine Q_if_neT hX 672 dL_law__657 rfl (by decide) ?_
    refine Q_goto hX 2799 dL_law__672 rfl ?_
    refine Q_sub [2, 3, 4, 5, 6] [(0, .ref 0), (1, .ref 1), (2, .ref 30), (3, .ref 50), (4, .int (nI j))] rfl ?_
    exact kk
  · refine Q_aload_n hX 1 dL_law__607 rfl rfl ?_
    refine Q_aload_n hX 0 dL_law__608 rfl rfl ?_
    refine Q_iload hX 4 dL_law__609 rfl ?_
    refine Q_iconst hX 1 dL_law__611 rfl ?_
    refine Q_iadd hX dL_law__612 ?_
    refine Q_arg hX hScr hL hj 1 rfl (by decide) dL_law__613 ?_
    refine Q_aload_n hX 0 dL_law__614 rfl rfl ?_
    refine Q_iload hX 4 dL_law__615 rfl ?_
    refine Q_iconst hX 2 dL_law__617 rfl ?_
    refine Q_iadd hX dL_law__618 ?_
    refine Q_arg hX hScr hL hj 2 rfl (by decide) dL_law__619 ?_
    refine Q_aload_n hX 3 dL_law__620 rfl rfl ?_
    refine Q_W1 hX [.ref 1, .int (xs (j + 1)), .int (xs (j + 2)), .ref 50] dL_law__621 lw_167 (CW_person_e2 (okGQ hX) e1) (Nat.le_trans (by decide) hR.1) (Nat.le_trans (by decide) hR.2.1) rfl rfl rfl rfl ⟨by omega, by omega⟩ ?_
    refine Q_istore hX [(5, .int 2), (0, .ref 0), (1, .ref 1), (2, .ref 30), (3, .ref 50), (4, .int (nI j))] dL_law__624 rfl rfl ?_
    refine Q_aload_n hX 3 dL_law__626 rfl rfl ?_
    refine Q_aload_n hX 1 dL_law__627 rfl rfl ?_
    refine Q_iload hX 5 dL_law__628 rfl ?_
    refine Q_iconst hX 1 dL_law__630 rfl ?_
    refine Q_iadd hX dL_law__631 ?_
    refine Q_arg hX hScr hL hj 1 rfl (by decide) dL_law__632 ?_
    refine Q_aload_n hX 1 dL_law__633 rfl rfl ?_
    refine Q_iload hX 5 dL_law__634 rfl ?_
    refine Q_iconst hX 2 dL_law__636 rfl ?_
    refine Q_iadd hX dL_law__637 ?_
    refine Q_arg hX hScr hL hj 2 rfl (by decide) dL_law__638 ?_
    refine Q_V1 hX [.int (xs (j + 1)), .int (xs (j + 2))] dL_law__639 lv_169 ob_30 rfl (C_X12_person (okGQ hX) e2) (Nat.le_trans (by decide) hR.1) (Nat.le_trans (by decide) hR.2.1) rfl rfl rfl rfl ⟨by omega, by omega⟩ ?_
    refine Q_istore hX [(6, .int b), (5, .int 2), (0, .ref 0), (1, .ref 1), (2, .ref 30), (3, .ref 50), (4, .int (nI j))] dL_law__642 rfl rfl ?_
    refine Q_aload_n hX 4 dL_law__644 rfl rfl ?_
    refine Q_V1 hX [] dL_law__645 lv_150 ob_30 rfl (C_X12_thrown (okGQ hX) rfl) (Nat.le_trans (by decide) hR.1) (Nat.le_trans (by decide) hR.2.1) rfl rfl rfl rfl ⟨by omega, by omega⟩ ?_
    refine Q_nm e3 ?_
    refine Q_iload hX 1 dL_law__648 rfl ?_
    refine Q_icmp_eqT hX 655 dL_law__650 rfl rfl ?_
    refine Q_iload hX 1 dL_law__655 rfl ?_
    refine Q_if_neT hX 672 dL_law__657 rfl (by decide) ?_
    refine Q_goto hX 2799 dL_law__672 rfl ?_
    refine Q_sub [2, 3, 4, 5, 6] [(0, .ref 0), (1, .ref 1), (2, .ref 30), (3, .ref 50), (4, .int (nI j))] rfl ?_
    exact kk
set_option maxRecDepth 100000 in
set_option maxHeartbeats 200000 in
theorem LW_8 {X : CX} {R : Room} {Q : State → Prop} {kC sC Ls j n : Nat} {xs : Nat → Int32} {h h' : Hp} (hX : OkQ X cL_law_ 7 RL (some .boolean)) (hScr : ScrQ X Ls xs) (hL : Ls ≤ 3072) (hj : j + 6 ≤ Ls) (hR : 80 ≤ R.frames ∧ 80 * 80 ≤ R.locals ∧ kC + 1 ≤ R.cells ∧ sC + 6 ≤ R.slots) (hst : St_8 (fun i => xs (j + i)) h h' n) (kk : JQ X R Q (kC + n) (sC + 6 * n) 2799 [(0, .ref 0), (1, .ref 1), (2, .ref 30), (3, .ref 50), (4, .int (nI j))] [] h') : JQ X R Q kC sC 675 [(0, .ref 0), (1, .ref 1), (2, .ref 30), (3, .ref 50), (4, .int (nI j))] [] h := by
  have hr1 := hR.2.2.1
  have hr2 := hR.2.2.2
  unfold St_8 at hst
  try dsimp only at hst
  rcases hst with ⟨v, h1, b, e1, e2, e3, e4, rfl⟩ | ⟨h1, b, e1, e2, e3, rfl⟩
  · refine Q_aload_n hX 1 dL_law__675 rfl rfl ?_
    refine Q_aload_n hX 0 dL_law__676 rfl rfl ?_
    refine Q_iload hX 4 dL_law__677 rfl ?_
    refine Q_iconst hX 1 dL_law__679 rfl ?_
    refine Q_iadd hX dL_law__680 ?_
    refine Q_arg hX hScr hL hj 1 rfl (by decide) dL_law__681 ?_
    refine Q_aload_n hX 3 dL_law__682 rfl rfl ?_
    refine Q_W1 hX [.ref 1, .int (xs (j + 1)), .ref 50] dL_law__683 lw_170 (CW_evenings_ok (okGQ hX) e1) (Nat.le_trans (by decide) hR.1) (Nat.le_trans (by decide) hR.2.1) rfl rfl rfl rfl ⟨by omega, by omega⟩ ?_
    refine Q_istore hX [(5, .int 0), (0, .ref 0), (1, .ref 1), (2, .ref 30), (3, .ref 50), (4, .int (nI j))] dL_law__686 rfl rfl ?_
    refine Q_aload_n hX 3 dL_law__688 rfl rfl ?_
    refine Q_aload_n hX 1 dL_law__689 rfl rfl ?_
    refine Q_iload hX 5 dL_law__690 rfl ?_
    refine Q_iconst hX 1 dL_law__692 rfl ?_
    refine Q_iadd hX dL_law__693 ?_
    refine Q_arg hX hScr hL hj 1 rfl (by decide) dL_law__694 ?_
    refine Q_V1 hX [.int (xs (j + 1))] dL_law__695 lv_173 ob_30 rfl (C_X12_evenings (okGQ hX) e2) (Nat.le_trans (by decide) hR.1) (Nat.le_trans (by decide) hR.2.1) rfl rfl rfl rfl ⟨by omega, by omega⟩ ?_
    refine Q_istore hX [(6, .int b), (5, .int 0), (0, .ref 0), (1, .ref 1), (2, .ref 30), (3, .ref 50), (4, .int (nI j))] dL_law__698 rfl rfl ?_
    refine Q_aload_n hX 4 dL_law__700 rfl rfl ?_
    refine Q_V1 hX [] dL_law__701 lv_150 ob_30 rfl (C_X12_thrown (okGQ hX) rfl) (Nat.le_trans (by decide) hR.1) (Nat.le_trans (by decide) hR.2.1) rfl rfl rfl rfl ⟨by omega, by omega⟩ ?_
    refine Q_nm e3 ?_
    refine Q_iload hX 1 dL_law__704 rfl ?_
    refine Q_icmp_eqT hX 711 dL_law__706 rfl rfl ?_
    refine Q_iload hX 1 dL_law__711 rfl ?_
    refine Q_if_neF hX 728 dL_law__713 rfl rfl ?_
    refine Q_aload_n hX 5 dL_law__716 rfl rfl ?_
    refine Q_iconst hX 0 dL_law__717 rfl ?_
    refine Q_lald hX dL_law__718 ar_50 (by decide) ?_
    refine Q_nmL (congrArg Int32.toInt64 e4) ?_
    refine Q_iload hX 0 dL_law__719 rfl ?_
    refine Q_i2l hX dL_law__721 ?_
    refine Q_lcmp hX dL_law__722 ?_
    refine Q_if_eqT hX 728 dL_law__723 rfl (lg_cmp_self _) ?_
    refine Q_goto hX 2799 dL_law__728 rfl ?_
    refine Q_sub [2, 3, 4, 5, 6] [(0, .ref 0), (1, .ref 1), (2, .ref 30), (3, .ref 50), (4, .int (nI j))] rfl ?_
    exact kk
  · refine Q_aload_n hX 1 dL_law__675 rfl rfl ?_
    refine Q_aload_n hX 0 dL_law__676 rfl rfl ?_
    refine Q_iload hX 4 dL_law__677 rfl ?_
    refine Q_iconst hX 1 dL_law__679 rfl ?_
    refine Q_iadd hX dL_law__680 ?_
    refine Q_arg hX hScr hL hj 1 rfl (by decide) dL_law__681 ?_
    refine Q_aload_n hX 3 dL_law__682 rfl rfl ?_
    refine Q_W1 hX [.ref 1, .int (xs (j + 1)), .ref 50] dL_law__683 lw_170 (CW_evenings_e1 (okGQ hX) e1) (Nat.le_trans (by decide) hR.1) (Nat.le_trans (by decide) hR.2.1) rfl rfl rfl rfl ⟨by omega, by omega⟩ ?_
    refine Q_istore hX [(5, .int 1), (0, .ref 0), (1, .ref 1), (2, .ref 30), (3, .ref 50), (4, .int (nI j))] dL_law__686 rfl rfl ?_
    refine Q_aload_n hX 3 dL_law__688 rfl rfl ?_
    refine Q_aload_n hX 1 dL_law__689 rfl rfl ?_
    refine Q_iload hX 5 dL_law__690 rfl ?_
    refine Q_iconst hX 1 dL_law__692 rfl ?_
    refine Q_iadd hX dL_law__693 ?_
    refine Q_arg hX hScr hL hj 1 rfl (by decide) dL_law__694 ?_
    refine Q_V1 hX [.int (xs (j + 1))] dL_law__695 lv_173 ob_30 rfl (C_X12_evenings (okGQ hX) e2) (Nat.le_trans (by decide) hR.1) (Nat.le_trans (by decide) hR.2.1) rfl rfl rfl rfl ⟨by omega, by omega⟩ ?_
    refine Q_istore hX [(6, .int b), (5, .int 1), (0, .ref 0), (1, .ref 1), (2, .ref 30), (3, .ref 50), (4, .int (nI j))] dL_law__698 rfl rfl ?_
    refine Q_aload_n hX 4 dL_law__700 rfl rfl ?_
    refine Q_V1 hX [] dL_law__701 lv_150 ob_30 rfl (C_X12_thrown (okGQ hX) rfl) (Nat.le_trans (by decide) hR.1) (Nat.le_trans (by decide) hR.2.1) rfl rfl rfl rfl ⟨by omega, by omega⟩ ?_
    refine Q_nm e3 ?_
    refine Q_iload hX 1 dL_law__704 rfl ?_
    refine Q_icmp_eqT hX 711 dL_law__706 rfl rfl ?_
    refine Q_iload hX 1 dL_law__711 rfl ?_
    refine Q_if_neT hX 728 dL_law__713 rfl (by decide) ?_
    refine Q_goto hX 2799 dL_law__728 rfl ?_
    refine Q_sub [2, 3, 4, 5, 6] [(0, .ref 0), (1, .ref 1), (2, .ref 30), (3, .ref 50), (4, .int (nI j))] rfl ?_
    exact kk
set_option maxRecDepth 100000 in
set_option maxHeartbeats 200000 in
theorem LW_9 {X : CX} {R : Room} {Q : State → Prop} {kC sC Ls j n : Nat} {xs : Nat → Int32} {h h' : Hp} (hX : OkQ X cL_law_ 7 RL (some .boolean)) (hScr : ScrQ X Ls xs) (hL : Ls ≤ 3072) (hj : j + 6 ≤ Ls) (hR : 80 ≤ R.frames ∧ 80 * 80 ≤ R.locals ∧ kC + 1 ≤ R.cells ∧ sC + 6 ≤ R.slots) (hst : St_9 (fun i => xs (j + i)) h h' n) (kk : JQ X R Q (kC + n) (sC + 6 * n) 2799 [(0, .ref 0), (1, .ref 1), (2, .ref 30), (3, .ref 50), (4, .int (nI j))] [] h') : JQ X R Q kC sC 731 [(0, .ref 0), (1, .ref 1), (2, .ref 30), (3, .ref 50), (4, .int (nI j))] [] h := by
  have hr1 := hR.2.2.1
  have hr2 := hR.2.2.2
  unfold St_9 at hst
  try dsimp only at hst
  rcases hst with ⟨v, h1, b, e1, e2, e3, e4, rfl⟩ | ⟨h1, b, e1, e2, e3, rfl⟩ | ⟨h1, b, e1, e2, e3, rfl⟩ | ⟨h1, b, e1, e2, e3, rfl⟩
  · refine Q_aload_n hX 1 dL_law__731 rfl rfl ?_
    refine Q_aload_n hX 0 dL_law__732 rfl rfl ?_
    refine Q_iload hX 4 dL_law__733 rfl ?_
    refine Q_iconst hX 1 dL_law__735 rfl ?_
    refine Q_iadd hX dL_law__736 ?_
    refine Q_arg hX hScr hL hj 1 rfl (by decide) dL_law__737 ?_
    refine Q_aload_n hX 0 dL_law__738 rfl rfl ?_
    refine Q_iload hX 4 dL_law__739 rfl ?_
    refine Q_iconst hX 2 dL_law__741 rfl ?_
    refine Q_iadd hX dL_law__742 ?_
    refine Q_arg hX hScr hL hj 2 rfl (by decide) dL_law__743 ?_
    refine Q_aload_n hX 0 dL_law__744 rfl rfl ?_
    refine Q_iload hX 4 dL_law__745 rfl ?_
    refine Q_iconst hX 3 dL_law__747 rfl ?_
    refine Q_iadd hX dL_law__748 ?_
    refine Q_arg hX hScr hL hj 3 rfl (by decide) dL_law__749 ?_
    refine Q_aload_n hX 0 dL_law__750 rfl rfl ?_
    refine Q_iload hX 4 dL_law__751 rfl ?_
    refine Q_iconst hX 4 dL_law__753 rfl ?_
    refine Q_iadd hX dL_law__754 ?_
    refine Q_arg hX hScr hL hj 4 rfl (by decide) dL_law__755 ?_
    refine Q_aload_n hX 3 dL_law__756 rfl rfl ?_
    refine Q_W1 hX [.ref 1, .int (xs (j + 1)), .int (xs (j + 2)), .int (xs (j + 3)), .int (xs (j + 4)), .ref 50] dL_law__757 lw_174 (CW_build_ok (okGQ hX) e1) (Nat.le_trans (by decide) hR.1) (Nat.le_trans (by decide) hR.2.1) rfl rfl rfl rfl ⟨by omega, by omega⟩ ?_
    refine Q_istore hX [(5, .int 0), (0, .ref 0), (1, .ref 1), (2, .ref 30), (3, .ref 50), (4, .int (nI j))] dL_law__760 rfl rfl ?_
    refine Q_aload_n hX 3 dL_law__762 rfl rfl ?_
    refine Q_aload_n hX 1 dL_law__763 rfl rfl ?_
    refine Q_iload hX 5 dL_law__764 rfl ?_
    refine Q_iconst hX 1 dL_law__766 rfl ?_
    refine Q_iadd hX dL_law__767 ?_
    refine Q_arg hX hScr hL hj 1 rfl (by decide) dL_law__768 ?_
    refine Q_aload_n hX 1 dL_law__769 rfl rfl ?_
    refine Q_iload hX 5 dL_law__770 rfl ?_
    refine Q_iconst hX 2 dL_law__772 rfl ?_
    refine Q_iadd hX dL_law__773 ?_
    refine Q_arg hX hScr hL hj 2 rfl (by decide) dL_law__774 ?_
    refine Q_aload_n hX 1 dL_law__775 rfl rfl ?_
    refine Q_iload hX 5 dL_law__776 rfl ?_
    refine Q_iconst hX 3 dL_law__778 rfl ?_
    refine Q_iadd hX dL_law__779 ?_
    refine Q_arg hX hScr hL hj 3 rfl (by decide) dL_law__780 ?_
    refine Q_aload_n hX 1 dL_law__781 rfl rfl ?_
    refine Q_iload hX 5 dL_law__782 rfl ?_
    refine Q_iconst hX 4 dL_law__784 rfl ?_
    refine Q_iadd hX dL_law__785 ?_
    refine Q_arg hX hScr hL hj 4 rfl (by decide) dL_law__786 ?_
    refine Q_V1 hX [.int (xs (j + 1)), .int (xs (j + 2)), .int (xs (j + 3)), .int (xs (j + 4))] dL_law__787 lv_177 ob_30 rfl (C_X12_build (okGQ hX) e2) (Nat.le_trans (by decide) hR.1) (Nat.le_trans (by decide) hR.2.1) rfl rfl rfl rfl ⟨by omega, by omega⟩ ?_
    refine Q_istore hX [(6, .int b), (5, .int 0), (0, .ref 0), (1, .ref 1), (2, .ref 30), (3, .ref 50), (4, .int (nI j))] dL_law__790 rfl rfl ?_
    refine Q_aload_n hX 4 dL_law__792 rfl rfl ?_
    refine Q_V1 hX [] dL_law__793 lv_150 ob_30 rfl (C_X12_thrown (okGQ hX) rfl) (Nat.le_trans (by decide) hR.1) (Nat.le_trans (by decide) hR.2.1) rfl rfl rfl rfl ⟨by omega, by omega⟩ ?_
    refine Q_nm e3 ?_
    refine Q_iload hX 1 dL_law__796 rfl ?_
    refine Q_icmp_eqT hX 803 dL_law__798 rfl rfl ?_
    refine Q_iload hX 1 dL_law__803 rfl ?_
    refine Q_if_neF hX 820 dL_law__805 rfl rfl ?_
    refine Q_aload_n hX 5 dL_law__808 rfl rfl ?_
    refine Q_iconst hX 0 dL_law__809 rfl ?_
    refine Q_lald hX dL_law__810 ar_50 (by decide) ?_
    refine Q_nmL (congrArg Int32.toInt64 e4) ?_
    refine Q_iload hX 0 dL_law__811 rfl ?_
    refine Q_i2l hX dL_law__813 ?_
    refine Q_lcmp hX dL_law__814 ?_
    refine Q_if_eqT hX 820 dL_law__815 rfl (lg_cmp_self _) ?_
    refine Q_goto hX 2799 dL_law__820 rfl ?_
    refine Q_sub [2, 3, 4, 5, 6] [(0, .ref 0), (1, .ref 1), (2, .ref 30), (3, .ref 50), (4, .int (nI j))] rfl ?_
    exact kk
  · refine Q_aload_n hX 1 dL_law__731 rfl rfl ?_
    refine Q_aload_n hX 0 dL_law__732 rfl rfl ?_
    refine Q_iload hX 4 dL_law__733 rfl ?_
    refine Q_iconst hX 1 dL_law__735 rfl ?_
    refine Q_iadd hX dL_law__736 ?_
    refine Q_arg hX hScr hL hj 1 rfl (by decide) dL_law__737 ?_
    refine Q_aload_n hX 0 dL_law__738 rfl rfl ?_
    refine Q_iload hX 4 dL_law__739 rfl ?_
    refine Q_iconst hX 2 dL_law__741 rfl ?_
    refine Q_iadd hX dL_law__742 ?_
    refine Q_arg hX hScr hL hj 2 rfl (by decide) dL_law__743 ?_
    refine Q_aload_n hX 0 dL_law__744 rfl rfl ?_
    refine Q_iload hX 4 dL_law__745 rfl ?_
    refine Q_iconst hX 3 dL_law__747 rfl ?_
    refine Q_iadd hX dL_law__748 ?_
    refine Q_arg hX hScr hL hj 3 rfl (by decide) dL_law__749 ?_
    refine Q_aload_n hX 0 dL_law__750 rfl rfl ?_
    refine Q_iload hX 4 dL_law__751 rfl ?_
    refine Q_iconst hX 4 dL_law__753 rfl ?_
    refine Q_iadd hX dL_law__754 ?_
    refine Q_arg hX hScr hL hj 4 rfl (by decide) dL_law__755 ?_
    refine Q_aload_n hX 3 dL_law__756 rfl rfl ?_
    refine Q_W1 hX [.ref 1, .int (xs (j + 1)), .int (xs (j + 2)), .int (xs (j + 3)), .int (xs (j + 4)), .ref 50] dL_law__757 lw_174 (CW_build_e1 (okGQ hX) e1) (Nat.le_trans (by decide) hR.1) (Nat.le_trans (by decide) hR.2.1) rfl rfl rfl rfl ⟨by omega, by omega⟩ ?_
    refine Q_istore hX [(5, .int 1), (0, .ref 0), (1, .ref 1), (2, .ref 30), (3, .ref 50), (4, .int (nI j))] dL_law__760 rfl rfl ?_
    refine Q_aload_n hX 3 dL_law__762 rfl rfl ?_
    refine Q_aload_n hX 1 dL_law__763 rfl rfl ?_
    refine Q_iload hX 5 dL_law__764 rfl ?_
    refine Q_iconst hX 1 dL_law__766 rfl ?_
    refine Q_iadd hX dL_law__767 ?_
    refine Q_arg hX hScr hL hj 1 rfl (by decide) dL_law__768 ?_
    refine Q_aload_n hX 1 dL_law__769 rfl rfl ?_
    refine Q_iload hX 5 dL_law__770 rfl ?_
    refine Q_iconst hX 2 dL_law__772 rfl ?_
    refine Q_iadd hX dL_law__773 ?_
    refine Q_arg hX hScr hL hj 2 rfl (by decide) dL_law__774 ?_
    refine Q_aload_n hX 1 dL_law__775 rfl rfl ?_
    refine Q_iload hX 5 dL_law__776 rfl ?_
    refine Q_iconst hX 3 dL_law__778 rfl ?_
    refine Q_iadd hX dL_law__779 ?_
    refine Q_arg hX hScr hL hj 3 rfl (by decide) dL_law__780 ?_
    refine Q_aload_n hX 1 dL_law__781 rfl rfl ?_
    refine Q_iload hX 5 dL_law__782 rfl ?_
    refine Q_iconst hX 4 dL_law__784 rfl ?_
    refine Q_iadd hX dL_law__785 ?_
    refine Q_arg hX hScr hL hj 4 rfl (by decide) dL_law__786 ?_
    refine Q_V1 hX [.int (xs (j + 1)), .int (xs (j + 2)), .int (xs (j + 3)), .int (xs (j + 4))] dL_law__787 lv_177 ob_30 rfl (C_X12_build (okGQ hX) e2) (Nat.le_trans (by decide) hR.1) (Nat.le_trans (by decide) hR.2.1) rfl rfl rfl rfl ⟨by omega, by omega⟩ ?_
    refine Q_istore hX [(6, .int b), (5, .int 1), (0, .ref 0), (1, .ref 1), (2, .ref 30), (3, .ref 50), (4, .int (nI j))] dL_law__790 rfl rfl ?_
    refine Q_aload_n hX 4 dL_law__792 rfl rfl ?_
    refine Q_V1 hX [] dL_law__793 lv_150 ob_30 rfl (C_X12_thrown (okGQ hX) rfl) (Nat.le_trans (by decide) hR.1) (Nat.le_trans (by decide) hR.2.1) rfl rfl rfl rfl ⟨by omega, by omega⟩ ?_
    refine Q_nm e3 ?_
    refine Q_iload hX 1 dL_law__796 rfl ?_
    refine Q_icmp_eqT hX 803 dL_law__798 rfl rfl ?_
    refine Q_iload hX 1 dL_law__803 rfl ?_
    refine Q_if_neT hX 820 dL_law__805 rfl (by decide) ?_
    refine Q_goto hX 2799 dL_law__820 rfl ?_
    refine Q_sub [2, 3, 4, 5, 6] [(0, .ref 0), (1, .ref 1), (2, .ref 30), (3, .ref 50), (4, .int (nI j))] rfl ?_
    exact kk
  · refine Q_aload_n hX 1 dL_law__731 rfl rfl ?_
    refine Q_aload_n hX 0 dL_law__732 rfl rfl ?_
    refine Q_iload hX 4 dL_law__733 rfl ?_
    refine Q_iconst hX 1 dL_law__735 rfl ?_
    refine Q_iadd hX dL_law__736 ?_
    refine Q_arg hX hScr hL hj 1 rfl (by decide) dL_law__737 ?_
    refine Q_aload_n hX 0 dL_law__738 rfl rfl ?_
    refine Q_iload hX 4 dL_law__739 rfl ?_
    refine Q_iconst hX 2 dL_law__741 rfl ?_
    refine Q_iadd hX dL_law__742 ?_
    refine Q_arg hX hScr hL hj 2 rfl (by decide) dL_law__743 ?_
    refine Q_aload_n hX 0 dL_law__744 rfl rfl ?_
    refine Q_iload hX 4 dL_law__745 rfl ?_
    refine Q_iconst hX 3 dL_law__747 rfl ?_
    refine Q_iadd hX dL_law__748 ?_
    refine Q_arg hX hScr hL hj 3 rfl (by decide) dL_law__749 ?_
    refine Q_aload_n hX 0 dL_law__750 rfl rfl ?_
    refine Q_iload hX 4 dL_law__751 rfl ?_
    refine Q_iconst hX 4 dL_law__753 rfl ?_
    refine Q_iadd hX dL_law__754 ?_
    refine Q_arg hX hScr hL hj 4 rfl (by decide) dL_law__755 ?_
    refine Q_aload_n hX 3 dL_law__756 rfl rfl ?_
    refine Q_W1 hX [.ref 1, .int (xs (j + 1)), .int (xs (j + 2)), .int (xs (j + 3)), .int (xs (j + 4)), .ref 50] dL_law__757 lw_174 (CW_build_e2 (okGQ hX) e1) (Nat.le_trans (by decide) hR.1) (Nat.le_trans (by decide) hR.2.1) rfl rfl rfl rfl ⟨by omega, by omega⟩ ?_
    refine Q_istore hX [(5, .int 2), (0, .ref 0), (1, .ref 1), (2, .ref 30), (3, .ref 50), (4, .int (nI j))] dL_law__760 rfl rfl ?_
    refine Q_aload_n hX 3 dL_law__762 rfl rfl ?_
    refine Q_aload_n hX 1 dL_law__763 rfl rfl ?_
    refine Q_iload hX 5 dL_law__764 rfl ?_
    refine Q_iconst hX 1 dL_law__766 rfl ?_
    refine Q_iadd hX dL_law__767 ?_
    refine Q_arg hX hScr hL hj 1 rfl (by decide) dL_law__768 ?_
    refine Q_aload_n hX 1 dL_law__769 rfl rfl ?_
    refine Q_iload hX 5 dL_law__770 rfl ?_
    refine Q_iconst hX 2 dL_law__772 rfl ?_
    refine Q_iadd hX dL_law__773 ?_
    refine Q_arg hX hScr hL hj 2 rfl (by decide) dL_law__774 ?_
    refine Q_aload_n hX 1 dL_law__775 rfl rfl ?_
    refine Q_iload hX 5 dL_law__776 rfl ?_
    refine Q_iconst hX 3 dL_law__778 rfl ?_
    refine Q_iadd hX dL_law__779 ?_
    refine Q_arg hX hScr hL hj 3 rfl (by decide) dL_law__780 ?_
    refine Q_aload_n hX 1 dL_law__781 rfl rfl ?_
    refine Q_iload hX 5 dL_law__782 rfl ?_
    refine Q_iconst hX 4 dL_law__784 rfl ?_
    refine Q_iadd hX dL_law__785 ?_
    refine Q_arg hX hScr hL hj 4 rfl (by decide) dL_law__786 ?_
    refine Q_V1 hX [.int (xs (j + 1)), .int (xs (j + 2)), .int (xs (j + 3)), .int (xs (j + 4))] dL_law__787 lv_177 ob_30 rfl (C_X12_build (okGQ hX) e2) (Nat.le_trans (by decide) hR.1) (Nat.le_trans (by decide) hR.2.1) rfl rfl rfl rfl ⟨by omega, by omega⟩ ?_
    refine Q_istore hX [(6, .int b), (5, .int 2), (0, .ref 0), (1, .ref 1), (2, .ref 30), (3, .ref 50), (4, .int (nI j))] dL_law__790 rfl rfl ?_
    refine Q_aload_n hX 4 dL_law__792 rfl rfl ?_
    refine Q_V1 hX [] dL_law__793 lv_150 ob_30 rfl (C_X12_thrown (okGQ hX) rfl) (Nat.le_trans (by decide) hR.1) (Nat.le_trans (by decide) hR.2.1) rfl rfl rfl rfl ⟨by omega, by omega⟩ ?_
    refine Q_nm e3 ?_
    refine Q_iload hX 1 dL_law__796 rfl ?_
    refine Q_icmp_eqT hX 803 dL_law__798 rfl rfl ?_
    refine Q_iload hX 1 dL_law__803 rfl ?_
    refine Q_if_neT hX 820 dL_law__805 rfl (by decide) ?_
    refine Q_goto hX 2799 dL_law__820 rfl ?_
    refine Q_sub [2, 3, 4, 5, 6] [(0, .ref 0), (1, .ref 1), (2, .ref 30), (3, .ref 50), (4, .int (nI j))] rfl ?_
    exact kk
  · refine Q_aload_n hX 1 dL_law__731 rfl rfl ?_
    refine Q_aload_n hX 0 dL_law__732 rfl rfl ?_
    refine Q_iload hX 4 dL_law__733 rfl ?_
    refine Q_iconst hX 1 dL_law__735 rfl ?_
    refine Q_iadd hX dL_law__736 ?_
    refine Q_arg hX hScr hL hj 1 rfl (by decide) dL_law__737 ?_
    refine Q_aload_n hX 0 dL_law__738 rfl rfl ?_
    refine Q_iload hX 4 dL_law__739 rfl ?_
    refine Q_iconst hX 2 dL_law__741 rfl ?_
    refine Q_iadd hX dL_law__742 ?_
    refine Q_arg hX hScr hL hj 2 rfl (by decide) dL_law__743 ?_
    refine Q_aload_n hX 0 dL_law__744 rfl rfl ?_
    refine Q_iload hX 4 dL_law__745 rfl ?_
    refine Q_iconst hX 3 dL_law__747 rfl ?_
    refine Q_iadd hX dL_law__748 ?_
    refine Q_arg hX hScr hL hj 3 rfl (by decide) dL_law__749 ?_
    refine Q_aload_n hX 0 dL_law__750 rfl rfl ?_
    refine Q_iload hX 4 dL_law__751 rfl ?_
    refine Q_iconst hX 4 dL_law__753 rfl ?_
    refine Q_iadd hX dL_law__754 ?_
    refine Q_arg hX hScr hL hj 4 rfl (by decide) dL_law__755 ?_
    refine Q_aload_n hX 3 dL_law__756 rfl rfl ?_
    refine Q_W1 hX [.ref 1, .int (xs (j + 1)), .int (xs (j + 2)), .int (xs (j + 3)), .int (xs (j + 4)), .ref 50] dL_law__757 lw_174 (CW_build_e3 (okGQ hX) e1) (Nat.le_trans (by decide) hR.1) (Nat.le_trans (by decide) hR.2.1) rfl rfl rfl rfl ⟨by omega, by omega⟩ ?_
    refine Q_istore hX [(5, .int 3), (0, .ref 0), (1, .ref 1), (2, .ref 30), (3, .ref 50), (4, .int (nI j))] dL_law__760 rfl rfl ?_
    refine Q_aload_n hX 3 dL_law__762 rfl rfl ?_
    refine Q_aload_n hX 1 dL_law__763 rfl rfl ?_
    refine Q_iload hX 5 dL_law__764 rfl ?_
    refine Q_iconst hX 1 dL_law__766 rfl ?_
    refine Q_iadd hX dL_law__767 ?_
    refine Q_arg hX hScr hL hj 1 rfl (by decide) dL_law__768 ?_
    refine Q_aload_n hX 1 dL_law__769 rfl rfl ?_
    refine Q_iload hX 5 dL_law__770 rfl ?_
    refine Q_iconst hX 2 dL_law__772 rfl ?_
    refine Q_iadd hX dL_law__773 ?_
    refine Q_arg hX hScr hL hj 2 rfl (by decide) dL_law__774 ?_
    refine Q_aload_n hX 1 dL_law__775 rfl rfl ?_
    refine Q_iload hX 5 dL_law__776 rfl ?_
    refine Q_iconst hX 3 dL_law__778 rfl ?_
    refine Q_iadd hX dL_law__779 ?_
    refine Q_arg hX hScr hL hj 3 rfl (by decide) dL_law__780 ?_
    refine Q_aload_n hX 1 dL_law__781 rfl rfl ?_
    refine Q_iload hX 5 dL_law__782 rfl ?_
    refine Q_iconst hX 4 dL_law__784 rfl ?_
    refine Q_iadd hX dL_law__785 ?_
    refine Q_arg hX hScr hL hj 4 rfl (by decide) dL_law__786 ?_
    refine Q_V1 hX [.int (xs (j + 1)), .int (xs (j + 2)), .int (xs (j + 3)), .int (xs (j + 4))] dL_law__787 lv_177 ob_30 rfl (C_X12_build (okGQ hX) e2) (Nat.le_trans (by decide) hR.1) (Nat.le_trans (by decide) hR.2.1) rfl rfl rfl rfl ⟨by omega, by omega⟩ ?_
    refine Q_istore hX [(6, .int b), (5, .int 3), (0, .ref 0), (1, .ref 1), (2, .ref 30), (3, .ref 50), (4, .int (nI j))] dL_law__790 rfl rfl ?_
    refine Q_aload_n hX 4 dL_law__792 rfl rfl ?_
    refine Q_V1 hX [] dL_law__793 lv_150 ob_30 rfl (C_X12_thrown (okGQ hX) rfl) (Nat.le_trans (by decide) hR.1) (Nat.le_trans (by decide) hR.2.1) rfl rfl rfl rfl ⟨by omega, by omega⟩ ?_
    refine Q_nm e3 ?_
    refine Q_iload hX 1 dL_law__796 rfl ?_
    refine Q_icmp_eqT hX 803 dL_law__798 rfl rfl ?_
    refine Q_iload hX 1 dL_law__803 rfl ?_
    refine Q_if_neT hX 820 dL_law__805 rfl (by decide) ?_
    refine Q_goto hX 2799 dL_law__820 rfl ?_
    refine Q_sub [2, 3, 4, 5, 6] [(0, .ref 0), (1, .ref 1), (2, .ref 30), (3, .ref 50), (4, .int (nI j))] rfl ?_
    exact kk
set_option maxRecDepth 100000 in
set_option maxHeartbeats 200000 in
theorem LW_10 {X : CX} {R : Room} {Q : State → Prop} {kC sC Ls j n : Nat} {xs : Nat → Int32} {h h' : Hp} (hX : OkQ X cL_law_ 7 RL (some .boolean)) (hScr : ScrQ X Ls xs) (hL : Ls ≤ 3072) (hj : j + 6 ≤ Ls) (hR : 80 ≤ R.frames ∧ 80 * 80 ≤ R.locals ∧ kC + 1 ≤ R.cells ∧ sC + 6 ≤ R.slots) (hst : St_10 (fun i => xs (j + i)) h h' n) (kk : JQ X R Q (kC + n) (sC + 6 * n) 2799 [(0, .ref 0), (1, .ref 1), (2, .ref 30), (3, .ref 50), (4, .int (nI j))] [] h') : JQ X R Q kC sC 823 [(0, .ref 0), (1, .ref 1), (2, .ref 30), (3, .ref 50), (4, .int (nI j))] [] h := by
  have hr1 := hR.2.2.1
  have hr2 := hR.2.2.2
  unfold St_10 at hst
  try dsimp only at hst
  rcases hst with ⟨v, h1, b, e1, e2, e3, e4, rfl⟩ | ⟨h1, b, e1, e2, e3, rfl⟩ | ⟨h1, b, e1, e2, e3, rfl⟩ | ⟨h1, b, e1, e2, e3, rfl⟩
  · refine Q_aload_n hX 1 dL_law__823 rfl rfl ?_
    refine Q_aload_n hX 0 dL_law__824 rfl rfl ?_
    refine Q_iload hX 4 dL_law__825 rfl ?_
    refine Q_iconst hX 1 dL_law__827 rfl ?_
    refine Q_iadd hX dL_law__828 ?_
    refine Q_arg hX hScr hL hj 1 rfl (by decide) dL_law__829 ?_
    refine Q_aload_n hX 0 dL_law__830 rfl rfl ?_
    refine Q_iload hX 4 dL_law__831 rfl ?_
    refine Q_iconst hX 2 dL_law__833 rfl ?_
    refine Q_iadd hX dL_law__834 ?_
    refine Q_arg hX hScr hL hj 2 rfl (by decide) dL_law__835 ?_
    refine Q_aload_n hX 0 dL_law__836 rfl rfl ?_
    refine Q_iload hX 4 dL_law__837 rfl ?_
    refine Q_iconst hX 3 dL_law__839 rfl ?_
    refine Q_iadd hX dL_law__840 ?_
    refine Q_arg hX hScr hL hj 3 rfl (by decide) dL_law__841 ?_
    refine Q_aload_n hX 3 dL_law__842 rfl rfl ?_
    refine Q_W1 hX [.ref 1, .int (xs (j + 1)), .int (xs (j + 2)), .int (xs (j + 3)), .ref 50] dL_law__843 lw_178 (CW_lean_ok (okGQ hX) e1) (Nat.le_trans (by decide) hR.1) (Nat.le_trans (by decide) hR.2.1) rfl rfl rfl rfl ⟨by omega, by omega⟩ ?_
    refine Q_istore hX [(5, .int 0), (0, .ref 0), (1, .ref 1), (2, .ref 30), (3, .ref 50), (4, .int (nI j))] dL_law__846 rfl rfl ?_
    refine Q_aload_n hX 3 dL_law__848 rfl rfl ?_
    refine Q_aload_n hX 1 dL_law__849 rfl rfl ?_
    refine Q_iload hX 5 dL_law__850 rfl ?_
    refine Q_iconst hX 1 dL_law__852 rfl ?_
    refine Q_iadd hX dL_law__853 ?_
    refine Q_arg hX hScr hL hj 1 rfl (by decide) dL_law__854 ?_
    refine Q_aload_n hX 1 dL_law__855 rfl rfl ?_
    refine Q_iload hX 5 dL_law__856 rfl ?_
    refine Q_iconst hX 2 dL_law__858 rfl ?_
    refine Q_iadd hX dL_law__859 ?_
    refine Q_arg hX hScr hL hj 2 rfl (by decide) dL_law__860 ?_
    refine Q_aload_n hX 1 dL_law__861 rfl rfl ?_
    refine Q_iload hX 5 dL_law__862 rfl ?_
    refine Q_iconst hX 3 dL_law__864 rfl ?_
    refine Q_iadd hX dL_law__865 ?_
    refine Q_arg hX hScr hL hj 3 rfl (by decide) dL_law__866 ?_
    refine Q_V1 hX [.int (xs (j + 1)), .int (xs (j + 2)), .int (xs (j + 3))] dL_law__867 lv_181 ob_30 rfl (C_X12_lean (okGQ hX) e2) (Nat.le_trans (by decide) hR.1) (Nat.le_trans (by decide) hR.2.1) rfl rfl rfl rfl ⟨by omega, by omega⟩ ?_
    refine Q_istore hX [(6, .int b), (5, .int 0), (0, .ref 0), (1, .ref 1), (2, .ref 30), (3, .ref 50), (4, .int (nI j))] dL_law__870 rfl rfl ?_
    refine Q_aload_n hX 4 dL_law__872 rfl rfl ?_
    refine Q_V1 hX [] dL_law__873 lv_150 ob_30 rfl (C_X12_thrown (okGQ hX) rfl) (Nat.le_trans (by decide) hR.1) (Nat.le_trans (by decide) hR.2.1) rfl rfl rfl rfl ⟨by omega, by omega⟩ ?_
    refine Q_nm e3 ?_
    refine Q_iload hX 1 dL_law__876 rfl ?_
    refine Q_icmp_eqT hX 883 dL_law__878 rfl rfl ?_
    refine Q_iload hX 1 dL_law__883 rfl ?_
    refine Q_if_neF hX 900 dL_law__885 rfl rfl ?_
    refine Q_aload_n hX 5 dL_law__888 rfl rfl ?_
    refine Q_iconst hX 0 dL_law__889 rfl ?_
    refine Q_lald hX dL_law__890 ar_50 (by decide) ?_
    refine Q_nmL (congrArg Int32.toInt64 e4) ?_
    refine Q_iload hX 0 dL_law__891 rfl ?_
    refine Q_i2l hX dL_law__893 ?_
    refine Q_lcmp hX dL_law__894 ?_
    refine Q_if_eqT hX 900 dL_law__895 rfl (lg_cmp_self _) ?_
    refine Q_goto hX 2799 dL_law__900 rfl ?_
    refine Q_sub [2, 3, 4, 5, 6] [(0, .ref 0), (1, .ref 1), (2, .ref 30), (3, .ref 50), (4, .int (nI j))] rfl ?_
    exact kk
  · refine Q_aload_n hX 1 dL_law__823 rfl rfl ?_
    refine Q_aload_n hX 0 dL_law__824 rfl rfl ?_
    refine Q_iload hX 4 dL_law__825 rfl ?_
    refine Q_iconst hX 1 dL_law__827 rfl ?_
    refine Q_iadd hX dL_law__828 ?_
    refine Q_arg hX hScr hL hj 1 rfl (by decide) dL_law__829 ?_
    refine Q_aload_n hX 0 dL_law__830 rfl rfl ?_
    refine Q_iload hX 4 dL_law__831 rfl ?_
    refine Q_iconst hX 2 dL_law__833 rfl ?_
    refine Q_iadd hX dL_law__834 ?_
    refine Q_arg hX hScr hL hj 2 rfl (by decide) dL_law__835 ?_
    refine Q_aload_n hX 0 dL_law__836 rfl rfl ?_
    refine Q_iload hX 4 dL_law__837 rfl ?_
    refine Q_iconst hX 3 dL_law__839 rfl ?_
    refine Q_iadd hX dL_law__840 ?_
    refine Q_arg hX hScr hL hj 3 rfl (by decide) dL_law__841 ?_
    refine Q_aload_n hX 3 dL_law__842 rfl rfl ?_
    refine Q_W1 hX [.ref 1, .int (xs (j + 1)), .int (xs (j + 2)), .int (xs (j + 3)), .ref 50] dL_law__843 lw_178 (CW_lean_e1 (okGQ hX) e1) (Nat.le_trans (by decide) hR.1) (Nat.le_trans (by decide) hR.2.1) rfl rfl rfl rfl ⟨by omega, by omega⟩ ?_
    refine Q_istore hX [(5, .int 1), (0, .ref 0), (1, .ref 1), (2, .ref 30), (3, .ref 50), (4, .int (nI j))] dL_law__846 rfl rfl ?_
    refine Q_aload_n hX 3 dL_law__848 rfl rfl ?_
    refine Q_aload_n hX 1 dL_law__849 rfl rfl ?_
    refine Q_iload hX 5 dL_law__850 rfl ?_
    refine Q_iconst hX 1 dL_law__852 rfl ?_
    refine Q_iadd hX dL_law__853 ?_
    refine Q_arg hX hScr hL hj 1 rfl (by decide) dL_law__854 ?_
    refine Q_aload_n hX 1 dL_law__855 rfl rfl ?_
    refine Q_iload hX 5 dL_law__856 rfl ?_
    refine Q_iconst hX 2 dL_law__858 rfl ?_
    refine Q_iadd hX dL_law__859 ?_
    refine Q_arg hX hScr hL hj 2 rfl (by decide) dL_law__860 ?_
    refine Q_aload_n hX 1 dL_law__861 rfl rfl ?_
    refine Q_iload hX 5 dL_law__862 rfl ?_
    refine Q_iconst hX 3 dL_law__864 rfl ?_
    refine Q_iadd hX dL_law__865 ?_
    refine Q_arg hX hScr hL hj 3 rfl (by decide) dL_law__866 ?_
    refine Q_V1 hX [.int (xs (j + 1)), .int (xs (j + 2)), .int (xs (j + 3))] dL_law__867 lv_181 ob_30 rfl (C_X12_lean (okGQ hX) e2) (Nat.le_trans (by decide) hR.1) (Nat.le_trans (by decide) hR.2.1) rfl rfl rfl rfl ⟨by omega, by omega⟩ ?_
    refine Q_istore hX [(6, .int b), (5, .int 1), (0, .ref 0), (1, .ref 1), (2, .ref 30), (3, .ref 50), (4, .int (nI j))] dL_law__870 rfl rfl ?_
    refine Q_aload_n hX 4 dL_law__872 rfl rfl ?_
    refine Q_V1 hX [] dL_law__873 lv_150 ob_30 rfl (C_X12_thrown (okGQ hX) rfl) (Nat.le_trans (by decide) hR.1) (Nat.le_trans (by decide) hR.2.1) rfl rfl rfl rfl ⟨by omega, by omega⟩ ?_
    refine Q_nm e3 ?_
    refine Q_iload hX 1 dL_law__876 rfl ?_
    refine Q_icmp_eqT hX 883 dL_law__878 rfl rfl ?_
    refine Q_iload hX 1 dL_law__883 rfl ?_
    refine Q_if_neT hX 900 dL_law__885 rfl (by decide) ?_
    refine Q_goto hX 2799 dL_law__900 rfl ?_
    refine Q_sub [2, 3, 4, 5, 6] [(0, .ref 0), (1, .ref 1), (2, .ref 30), (3, .ref 50), (4, .int (nI j))] rfl ?_
    exact kk
  · refine Q_aload_n hX 1 dL_law__823 rfl rfl ?_
    refine Q_aload_n hX 0 dL_law__824 rfl rfl ?_
    refine Q_iload hX 4 dL_law__825 rfl ?_
    refine Q_iconst hX 1 dL_law__827 rfl ?_
    refine Q_iadd hX dL_law__828 ?_
    refine Q_arg hX hScr hL hj 1 rfl (by decide) dL_law__829 ?_
    refine Q_aload_n hX 0 dL_law__830 rfl rfl ?_
    refine Q_iload hX 4 dL_law__831 rfl ?_
    refine Q_iconst hX 2 dL_law__833 rfl ?_
    refine Q_iadd hX dL_law__834 ?_
    refine Q_arg hX hScr hL hj 2 rfl (by decide) dL_law__835 ?_
    refine Q_aload_n hX 0 dL_law__836 rfl rfl ?_
    refine Q_iload hX 4 dL_law__837 rfl ?_
    refine Q_iconst hX 3 dL_law__839 rfl ?_
    refine Q_iadd hX dL_law__840 ?_
    refine Q_arg hX hScr hL hj 3 rfl (by decide) dL_law__841 ?_
    refine Q_aload_n hX 3 dL_law__842 rfl rfl ?_
    refine Q_W1 hX [.ref 1, .int (xs (j + 1)), .int (xs (j + 2)), .int (xs (j + 3)), .ref 50] dL_law__843 lw_178 (CW_lean_e2 (okGQ hX) e1) (Nat.le_trans (by decide) hR.1) (Nat.le_trans (by decide) hR.2.1) rfl rfl rfl rfl ⟨by omega, by omega⟩ ?_
    refine Q_istore hX [(5, .int 2), (0, .ref 0), (1, .ref 1), (2, .ref 30), (3, .ref 50), (4, .int (nI j))] dL_law__846 rfl rfl ?_
    refine Q_aload_n hX 3 dL_law__848 rfl rfl ?_
    refine Q_aload_n hX 1 dL_law__849 rfl rfl ?_
    refine Q_iload hX 5 dL_law__850 rfl ?_
    refine Q_iconst hX 1 dL_law__852 rfl ?_
    refine Q_iadd hX dL_law__853 ?_
    refine Q_arg hX hScr hL hj 1 rfl (by decide) dL_law__854 ?_
    refine Q_aload_n hX 1 dL_law__855 rfl rfl ?_
    refine Q_iload hX 5 dL_law__856 rfl ?_
    refine Q_iconst hX 2 dL_law__858 rfl ?_
    refine Q_iadd hX dL_law__859 ?_
    refine Q_arg hX hScr hL hj 2 rfl (by decide) dL_law__860 ?_
    refine Q_aload_n hX 1 dL_law__861 rfl rfl ?_
    refine Q_iload hX 5 dL_law__862 rfl ?_
    refine Q_iconst hX 3 dL_law__864 rfl ?_
    refine Q_iadd hX dL_law__865 ?_
    refine Q_arg hX hScr hL hj 3 rfl (by decide) dL_law__866 ?_
    refine Q_V1 hX [.int (xs (j + 1)), .int (xs (j + 2)), .int (xs (j + 3))] dL_law__867 lv_181 ob_30 rfl (C_X12_lean (okGQ hX) e2) (Nat.le_trans (by decide) hR.1) (Nat.le_trans (by decide) hR.2.1) rfl rfl rfl rfl ⟨by omega, by omega⟩ ?_
    refine Q_istore hX [(6, .int b), (5, .int 2), (0, .ref 0), (1, .ref 1), (2, .ref 30), (3, .ref 50), (4, .int (nI j))] dL_law__870 rfl rfl ?_
    refine Q_aload_n hX 4 dL_law__872 rfl rfl ?_
    refine Q_V1 hX [] dL_law__873 lv_150 ob_30 rfl (C_X12_thrown (okGQ hX) rfl) (Nat.le_trans (by decide) hR.1) (Nat.le_trans (by decide) hR.2.1) rfl rfl rfl rfl ⟨by omega, by omega⟩ ?_
    refine Q_nm e3 ?_
    refine Q_iload hX 1 dL_law__876 rfl ?_
    refine Q_icmp_eqT hX 883 dL_law__878 rfl rfl ?_
    refine Q_iload hX 1 dL_law__883 rfl ?_
    refine Q_if_neT hX 900 dL_law__885 rfl (by decide) ?_
    refine Q_goto hX 2799 dL_law__900 rfl ?_
    refine Q_sub [2, 3, 4, 5, 6] [(0, .ref 0), (1, .ref 1), (2, .ref 30), (3, .ref 50), (4, .int (nI j))] rfl ?_
    exact kk
  · refine Q_aload_n hX 1 dL_law__823 rfl rfl ?_
    refine Q_aload_n hX 0 dL_law__824 rfl rfl ?_
    refine Q_iload hX 4 dL_law__825 rfl ?_
    refine Q_iconst hX 1 dL_law__827 rfl ?_
    refine Q_iadd hX dL_law__828 ?_
    refine Q_arg hX hScr hL hj 1 rfl (by decide) dL_law__829 ?_
    refine Q_aload_n hX 0 dL_law__830 rfl rfl ?_
    refine Q_iload hX 4 dL_law__831 rfl ?_
    refine Q_iconst hX 2 dL_law__833 rfl ?_
    refine Q_iadd hX dL_law__834 ?_
    refine Q_arg hX hScr hL hj 2 rfl (by decide) dL_law__835 ?_
    refine Q_aload_n hX 0 dL_law__836 rfl rfl ?_
    refine Q_iload hX 4 dL_law__837 rfl ?_
    refine Q_iconst hX 3 dL_law__839 rfl ?_
    refine Q_iadd hX dL_law__840 ?_
    refine Q_arg hX hScr hL hj 3 rfl (by decide) dL_law__841 ?_
    refine Q_aload_n hX 3 dL_law__842 rfl rfl ?_
    refine Q_W1 hX [.ref 1, .int (xs (j + 1)), .int (xs (j + 2)), .int (xs (j + 3)), .ref 50] dL_law__843 lw_178 (CW_lean_e3 (okGQ hX) e1) (Nat.le_trans (by decide) hR.1) (Nat.le_trans (by decide) hR.2.1) rfl rfl rfl rfl ⟨by omega, by omega⟩ ?_
    refine Q_istore hX [(5, .int 3), (0, .ref 0), (1, .ref 1), (2, .ref 30), (3, .ref 50), (4, .int (nI j))] dL_law__846 rfl rfl ?_
    refine Q_aload_n hX 3 dL_law__848 rfl rfl ?_
    refine Q_aload_n hX 1 dL_law__849 rfl rfl ?_
    refine Q_iload hX 5 dL_law__850 rfl ?_
    refine Q_iconst hX 1 dL_law__852 rfl ?_
    refine Q_iadd hX dL_law__853 ?_
    refine Q_arg hX hScr hL hj 1 rfl (by decide) dL_law__854 ?_
    refine Q_aload_n hX 1 dL_law__855 rfl rfl ?_
    refine Q_iload hX 5 dL_law__856 rfl ?_
    refine Q_iconst hX 2 dL_law__858 rfl ?_
    refine Q_iadd hX dL_law__859 ?_
    refine Q_arg hX hScr hL hj 2 rfl (by decide) dL_law__860 ?_
    refine Q_aload_n hX 1 dL_law__861 rfl rfl ?_
    refine Q_iload hX 5 dL_law__862 rfl ?_
    refine Q_iconst hX 3 dL_law__864 rfl ?_
    refine Q_iadd hX dL_law__865 ?_
    refine Q_arg hX hScr hL hj 3 rfl (by decide) dL_law__866 ?_
    refine Q_V1 hX [.int (xs (j + 1)), .int (xs (j + 2)), .int (xs (j + 3))] dL_law__867 lv_181 ob_30 rfl (C_X12_lean (okGQ hX) e2) (Nat.le_trans (by decide) hR.1) (Nat.le_trans (by decide) hR.2.1) rfl rfl rfl rfl ⟨by omega, by omega⟩ ?_
    refine Q_istore hX [(6, .int b), (5, .int 3), (0, .ref 0), (1, .ref 1), (2, .ref 30), (3, .ref 50), (4, .int (nI j))] dL_law__870 rfl rfl ?_
    refine Q_aload_n hX 4 dL_law__872 rfl rfl ?_
    refine Q_V1 hX [] dL_law__873 lv_150 ob_30 rfl (C_X12_thrown (okGQ hX) rfl) (Nat.le_trans (by decide) hR.1) (Nat.le_trans (by decide) hR.2.1) rfl rfl rfl rfl ⟨by omega, by omega⟩ ?_
    refine Q_nm e3 ?_
    refine Q_iload hX 1 dL_law__876 rfl ?_
    refine Q_icmp_eqT hX 883 dL_law__878 rfl rfl ?_
    refine Q_iload hX 1 dL_law__883 rfl ?_
    refine Q_if_neT hX 900 dL_law__885 rfl (by decide) ?_
    refine Q_goto hX 2799 dL_law__900 rfl ?_
    refine Q_sub [2, 3, 4, 5, 6] [(0, .ref 0), (1, .ref 1), (2, .ref 30), (3, .ref 50), (4, .int (nI j))] rfl ?_
    exact kk
set_option maxRecDepth 100000 in
set_option maxHeartbeats 200000 in
theorem LW_11 {X : CX} {R : Room} {Q : State → Prop} {kC sC Ls j n : Nat} {xs : Nat → Int32} {h h' : Hp} (hX : OkQ X cL_law_ 7 RL (some .boolean)) (hScr : ScrQ X Ls xs) (hL : Ls ≤ 3072) (hj : j + 6 ≤ Ls) (hR : 80 ≤ R.frames ∧ 80 * 80 ≤ R.locals ∧ kC + 1 ≤ R.cells ∧ sC + 6 ≤ R.slots) (hst : St_11 (fun i => xs (j + i)) h h' n) (kk : JQ X R Q (kC + n) (sC + 6 * n) 2799 [(0, .ref 0), (1, .ref 1), (2, .ref 30), (3, .ref 50), (4, .int (nI j))] [] h') : JQ X R Q kC sC 903 [(0, .ref 0), (1, .ref 1), (2, .ref 30), (3, .ref 50), (4, .int (nI j))] [] h := by
  have hr1 := hR.2.2.1
  have hr2 := hR.2.2.2
  unfold St_11 at hst
  try dsimp only at hst
  rcases hst with ⟨v, h1, b, e1, e2, e3, e4, rfl⟩ | ⟨h1, b, e1, e2, e3, rfl⟩ | ⟨h1, b, e1, e2, e3, rfl⟩ | ⟨h1, b, e1, e2, e3, rfl⟩
  · refine Q_aload_n hX 1 dL_law__903 rfl rfl ?_
    refine Q_aload_n hX 0 dL_law__904 rfl rfl ?_
    refine Q_iload hX 4 dL_law__905 rfl ?_
    refine Q_iconst hX 1 dL_law__907 rfl ?_
    refine Q_iadd hX dL_law__908 ?_
    refine Q_arg hX hScr hL hj 1 rfl (by decide) dL_law__909 ?_
    refine Q_aload_n hX 0 dL_law__910 rfl rfl ?_
    refine Q_iload hX 4 dL_law__911 rfl ?_
    refine Q_iconst hX 2 dL_law__913 rfl ?_
    refine Q_iadd hX dL_law__914 ?_
    refine Q_arg hX hScr hL hj 2 rfl (by decide) dL_law__915 ?_
    refine Q_aload_n hX 3 dL_law__916 rfl rfl ?_
    refine Q_W1 hX [.ref 1, .int (xs (j + 1)), .int (xs (j + 2)), .ref 50] dL_law__917 lw_182 (CW_wed_ok (okGQ hX) e1) (Nat.le_trans (by decide) hR.1) (Nat.le_trans (by decide) hR.2.1) rfl rfl rfl rfl ⟨by omega, by omega⟩ ?_
    refine Q_istore hX [(5, .int 0), (0, .ref 0), (1, .ref 1), (2, .ref 30), (3, .ref 50), (4, .int (nI j))] dL_law__920 rfl rfl ?_
    refine Q_aload_n hX 3 dL_law__922 rfl rfl ?_
    refine Q_aload_n hX 1 dL_law__923 rfl rfl ?_
    refine Q_iload hX 5 dL_law__924 rfl ?_
    refine Q_iconst hX 1 dL_law__926 rfl ?_
    refine Q_iadd hX dL_law__927 ?_
    refine Q_arg hX hScr hL hj 1 rfl (by decide) dL_law__928 ?_
    refine Q_aload_n hX 1 dL_law__929 rfl rfl ?_
    refine Q_iload hX 5 dL_law__930 rfl ?_
    refine Q_iconst hX 2 dL_law__932 rfl ?_
    refine Q_iadd hX dL_law__933 ?_
    refine Q_arg hX hScr hL hj 2 rfl (by decide) dL_law__934 ?_
    refine Q_V1 hX [.int (xs (j + 1)), .int (xs (j + 2))] dL_law__935 lv_184 ob_30 rfl (C_X12_wed (okGQ hX) e2) (Nat.le_trans (by decide) hR.1) (Nat.le_trans (by decide) hR.2.1) rfl rfl rfl rfl ⟨by omega, by omega⟩ ?_
    refine Q_istore hX [(6, .int b), (5, .int 0), (0, .ref 0), (1, .ref 1), (2, .ref 30), (3, .ref 50), (4, .int (nI j))] dL_law__938 rfl rfl ?_
    refine Q_aload_n hX 4 dL_law__940 rfl rfl ?_
    refine Q_V1 hX [] dL_law__941 lv_150 ob_30 rfl (C_X12_thrown (okGQ hX) rfl) (Nat.le_trans (by decide) hR.1) (Nat.le_trans (by decide) hR.2.1) rfl rfl rfl rfl ⟨by omega, by omega⟩ ?_
    refine Q_nm e3 ?_
    refine Q_iload hX 1 dL_law__944 rfl ?_
    refine Q_icmp_eqT hX 951 dL_law__946 rfl rfl ?_
    refine Q_iload hX 1 dL_law__951 rfl ?_
    refine Q_if_neF hX 968 dL_law__953 rfl rfl ?_
    refine Q_aload_n hX 5 dL_law__956 rfl rfl ?_
    refine Q_iconst hX 0 dL_law__957 rfl ?_
    refine Q_lald hX dL_law__958 ar_50 (by decide) ?_
    refine Q_nmL (congrArg Int32.toInt64 e4) ?_
    refine Q_iload hX 0 dL_law__959 rfl ?_
    refine Q_i2l hX dL_law__961 ?_
    refine Q_lcmp hX dL_law__962 ?_
    refine Q_if_eqT hX 968 dL_law__963 rfl (lg_cmp_self _) ?_
    refine Q_goto hX 2799 dL_law__968 rfl ?_
    refine Q_sub [2, 3, 4, 5, 6] [(0, .ref 0), (1, .ref 1), (2, .ref 30), (3, .ref 50), (4, .int (nI j))] rfl ?_
    exact kk
  · refine Q_aload_n hX 1 dL_law__903 rfl rfl ?_
    refine Q_aload_n hX 0 dL_law__904 rfl rfl ?_
    refine Q_iload hX 4 dL_law__905 rfl ?_
    refine Q_iconst hX 1 dL_law__907 rfl ?_
    refine Q_iadd hX dL_law__908 ?_
    refine Q_arg hX hScr hL hj 1 rfl (by decide) dL_law__909 ?_
    refine Q_aload_n hX 0 dL_law__910 rfl rfl ?_
    refine Q_iload hX 4 dL_law__911 rfl ?_
    refine Q_iconst hX 2 dL_law__913 rfl ?_
    refine Q_iadd hX dL_law__914 ?_
    refine Q_arg hX hScr hL hj 2 rfl (by decide) dL_law__915 ?_
    refine Q_aload_n hX 3 dL_law__916 rfl rfl ?_
    refine Q_W1 hX [.ref 1, .int (xs (j + 1)), .int (xs (j + 2)), .ref 50] dL_law__917 lw_182 (CW_wed_e1 (okGQ hX) e1) (Nat.le_trans (by decide) hR.1) (Nat.le_trans (by decide) hR.2.1) rfl rfl rfl rfl ⟨by omega, by omega⟩ ?_
    refine Q_istore hX [(5, .int 1), (0, .ref 0), (1, .ref 1), (2, .ref 30), (3, .ref 50), (4, .int (nI j))] dL_law__920 rfl rfl ?_
    refine Q_aload_n hX 3 dL_law__922 rfl rfl ?_
    refine Q_aload_n hX 1 dL_law__923 rfl rfl ?_
    refine Q_iload hX 5 dL_law__924 rfl ?_
    refine Q_iconst hX 1 dL_law__926 rfl ?_
    refine Q_iadd hX dL_law__927 ?_
    refine Q_arg hX hScr hL hj 1 rfl (by decide) dL_law__928 ?_
    refine Q_aload_n hX 1 dL_law__929 rfl rfl ?_
    refine Q_iload hX 5 dL_law__930 rfl ?_
    refine Q_iconst hX 2 dL_law__932 rfl ?_
    refine Q_iadd hX dL_law__933 ?_
    refine Q_arg hX hScr hL hj 2 rfl (by decide) dL_law__934 ?_
    refine Q_V1 hX [.int (xs (j + 1)), .int (xs (j + 2))] dL_law__935 lv_184 ob_30 rfl (C_X12_wed (okGQ hX) e2) (Nat.le_trans (by decide) hR.1) (Nat.le_trans (by decide) hR.2.1) rfl rfl rfl rfl ⟨by omega, by omega⟩ ?_
    refine Q_istore hX [(6, .int b), (5, .int 1), (0, .ref 0), (1, .ref 1), (2, .ref 30), (3, .ref 50), (4, .int (nI j))] dL_law__938 rfl rfl ?_
    refine Q_aload_n hX 4 dL_law__940 rfl rfl ?_
    refine Q_V1 hX [] dL_law__941 lv_150 ob_30 rfl (C_X12_thrown (okGQ hX) rfl) (Nat.le_trans (by decide) hR.1) (Nat.le_trans (by decide) hR.2.1) rfl rfl rfl rfl ⟨by omega, by omega⟩ ?_
    refine Q_nm e3 ?_
    refine Q_iload hX 1 dL_law__944 rfl ?_
    refine Q_icmp_eqT hX 951 dL_law__946 rfl rfl ?_
    refine Q_iload hX 1 dL_law__951 rfl ?_
    refine Q_if_neT hX 968 dL_law__953 rfl (by decide) ?_
    refine Q_goto hX 2799 dL_law__968 rfl ?_
    refine Q_sub [2, 3, 4, 5, 6] [(0, .ref 0), (1, .ref 1), (2, .ref 30), (3, .ref 50), (4, .int (nI j))] rfl ?_
    exact kk
  · refine Q_aload_n hX 1 dL_law__903 rfl rfl ?_
    refine Q_aload_n hX 0 dL_law__904 rfl rfl ?_
    refine Q_iload hX 4 dL_law__905 rfl ?_
    refine Q_iconst hX 1 dL_law__907 rfl ?_
    refine Q_iadd hX dL_law__908 ?_
    refine Q_arg hX hScr hL hj 1 rfl (by decide) dL_law__909 ?_
    refine Q_aload_n hX 0 dL_law__910 rfl rfl ?_
    refine Q_iload hX 4 dL_law__911 rfl ?_
    refine Q_iconst hX 2 dL_law__913 rfl ?_
    refine Q_iadd hX dL_law__914 ?_
    refine Q_arg hX hScr hL hj 2 rfl (by decide) dL_law__915 ?_
    refine Q_aload_n hX 3 dL_law__916 rfl rfl ?_
    refine Q_W1 hX [.ref 1, .int (xs (j + 1)), .int (xs (j + 2)), .ref 50] dL_law__917 lw_182 (CW_wed_e2 (okGQ hX) e1) (Nat.le_trans (by decide) hR.1) (Nat.le_trans (by decide) hR.2.1) rfl rfl rfl rfl ⟨by omega, by omega⟩ ?_
    refine Q_istore hX [(5, .int 2), (0, .ref 0), (1, .ref 1), (2, .ref 30), (3, .ref 50), (4, .int (nI j))] dL_law__920 rfl rfl ?_
    refine Q_aload_n hX 3 dL_law__922 rfl rfl ?_
    refine Q_aload_n hX 1 dL_law__923 rfl rfl ?_
    refine Q_iload hX 5 dL_law__924 rfl ?_
    refine Q_iconst hX 1 dL_law__926 rfl ?_
    refine Q_iadd hX dL_law__927 ?_
    refine Q_arg hX hScr hL hj 1 rfl (by decide) dL_law__928 ?_
    refine Q_aload_n hX 1 dL_law__929 rfl rfl ?_
    refine Q_iload hX 5 dL_law__930 rfl ?_
    refine Q_iconst hX 2 dL_law__932 rfl ?_
    refine Q_iadd hX dL_law__933 ?_
    refine Q_arg hX hScr hL hj 2 rfl (by decide) dL_law__934 ?_
    refine Q_V1 hX [.int (xs (j + 1)), .int (xs (j + 2))] dL_law__935 lv_184 ob_30 rfl (C_X12_wed (okGQ hX) e2) (Nat.le_trans (by decide) hR.1) (Nat.le_trans (by decide) hR.2.1) rfl rfl rfl rfl ⟨by omega, by omega⟩ ?_
    refine Q_istore hX [(6, .int b), (5, .int 2), (0, .ref 0), (1, .ref 1), (2, .ref 30), (3, .ref 50), (4, .int (nI j))] dL_law__938 rfl rfl ?_
    refine Q_aload_n hX 4 dL_law__940 rfl rfl ?_
    refine Q_V1 hX [] dL_law__941 lv_150 ob_30 rfl (C_X12_thrown (okGQ hX) rfl) (Nat.le_trans (by decide) hR.1) (Nat.le_trans (by decide) hR.2.1) rfl rfl rfl rfl ⟨by omega, by omega⟩ ?_
    refine Q_nm e3 ?_
    refine Q_iload hX 1 dL_law__944 rfl ?_
    refine Q_icmp_eqT hX 951 dL_law__946 rfl rfl ?_
    refine Q_iload hX 1 dL_law__951 rfl ?_
    refine Q_if_neT hX 968 dL_law__953 rfl (by decide) ?_
    refine Q_goto hX 2799 dL_law__968 rfl ?_
    refine Q_sub [2, 3, 4, 5, 6] [(0, .ref 0), (1, .ref 1), (2, .ref 30), (3, .ref 50), (4, .int (nI j))] rfl ?_
    exact kk
  · refine Q_aload_n hX 1 dL_law__903 rfl rfl ?_
    refine Q_aload_n hX 0 dL_law__904 rfl rfl ?_
    refine Q_iload hX 4 dL_law__905 rfl ?_
    refine Q_iconst hX 1 dL_law__907 rfl ?_
    refine Q_iadd hX dL_law__908 ?_
    refine Q_arg hX hScr hL hj 1 rfl (by decide) dL_law__909 ?_
    refine Q_aload_n hX 0 dL_law__910 rfl rfl ?_
    refine Q_iload hX 4 dL_law__911 rfl ?_
    refine Q_iconst hX 2 dL_law__913 rfl ?_
    refine Q_iadd hX dL_law__914 ?_
    refine Q_arg hX hScr hL hj 2 rfl (by decide) dL_law__915 ?_
    refine Q_aload_n hX 3 dL_law__916 rfl rfl ?_
    refine Q_W1 hX [.ref 1, .int (xs (j + 1)), .int (xs (j + 2)), .ref 50] dL_law__917 lw_182 (CW_wed_e3 (okGQ hX) e1) (Nat.le_trans (by decide) hR.1) (Nat.le_trans (by decide) hR.2.1) rfl rfl rfl rfl ⟨by omega, by omega⟩ ?_
    refine Q_istore hX [(5, .int 3), (0, .ref 0), (1, .ref 1), (2, .ref 30), (3, .ref 50), (4, .int (nI j))] dL_law__920 rfl rfl ?_
    refine Q_aload_n hX 3 dL_law__922 rfl rfl ?_
    refine Q_aload_n hX 1 dL_law__923 rfl rfl ?_
    refine Q_iload hX 5 dL_law__924 rfl ?_
    refine Q_iconst hX 1 dL_law__926 rfl ?_
    refine Q_iadd hX dL_law__927 ?_
    refine Q_arg hX hScr hL hj 1 rfl (by decide) dL_law__928 ?_
    refine Q_aload_n hX 1 dL_law__929 rfl rfl ?_
    refine Q_iload hX 5 dL_law__930 rfl ?_
    refine Q_iconst hX 2 dL_law__932 rfl ?_
    refine Q_iadd hX dL_law__933 ?_
    refine Q_arg hX hScr hL hj 2 rfl (by decide) dL_law__934 ?_
    refine Q_V1 hX [.int (xs (j + 1)), .int (xs (j + 2))] dL_law__935 lv_184 ob_30 rfl (C_X12_wed (okGQ hX) e2) (Nat.le_trans (by decide) hR.1) (Nat.le_trans (by decide) hR.2.1) rfl rfl rfl rfl ⟨by omega, by omega⟩ ?_
    refine Q_istore hX [(6, .int b), (5, .int 3), (0, .ref 0), (1, .ref 1), (2, .ref 30), (3, .ref 50), (4, .int (nI j))] dL_law__938 rfl rfl ?_
    refine Q_aload_n hX 4 dL_law__940 rfl rfl ?_
    refine Q_V1 hX [] dL_law__941 lv_150 ob_30 rfl (C_X12_thrown (okGQ hX) rfl) (Nat.le_trans (by decide) hR.1) (Nat.le_trans (by decide) hR.2.1) rfl rfl rfl rfl ⟨by omega, by omega⟩ ?_
    refine Q_nm e3 ?_
    refine Q_iload hX 1 dL_law__944 rfl ?_
    refine Q_icmp_eqT hX 951 dL_law__946 rfl rfl ?_
    refine Q_iload hX 1 dL_law__951 rfl ?_
    refine Q_if_neT hX 968 dL_law__953 rfl (by decide) ?_
    refine Q_goto hX 2799 dL_law__968 rfl ?_
    refine Q_sub [2, 3, 4, 5, 6] [(0, .ref 0), (1, .ref 1), (2, .ref 30), (3, .ref 50), (4, .int (nI j))] rfl ?_
    exact kk
set_option maxRecDepth 100000 in
set_option maxHeartbeats 200000 in
theorem LW_12 {X : CX} {R : Room} {Q : State → Prop} {kC sC Ls j n : Nat} {xs : Nat → Int32} {h h' : Hp} (hX : OkQ X cL_law_ 7 RL (some .boolean)) (hScr : ScrQ X Ls xs) (hL : Ls ≤ 3072) (hj : j + 6 ≤ Ls) (hR : 80 ≤ R.frames ∧ 80 * 80 ≤ R.locals ∧ kC + 1 ≤ R.cells ∧ sC + 6 ≤ R.slots) (hst : St_12 (fun i => xs (j + i)) h h' n) (kk : JQ X R Q (kC + n) (sC + 6 * n) 2799 [(0, .ref 0), (1, .ref 1), (2, .ref 30), (3, .ref 50), (4, .int (nI j))] [] h') : JQ X R Q kC sC 971 [(0, .ref 0), (1, .ref 1), (2, .ref 30), (3, .ref 50), (4, .int (nI j))] [] h := by
  have hr1 := hR.2.2.1
  have hr2 := hR.2.2.2
  unfold St_12 at hst
  try dsimp only at hst
  rcases hst with ⟨v, h1, b, e1, e2, e3, e4, rfl⟩ | ⟨h1, b, e1, e2, e3, rfl⟩ | ⟨h1, b, e1, e2, e3, rfl⟩
  · refine Q_aload_n hX 1 dL_law__971 rfl rfl ?_
    refine Q_aload_n hX 0 dL_law__972 rfl rfl ?_
    refine Q_iload hX 4 dL_law__973 rfl ?_
    refine Q_iconst hX 1 dL_law__975 rfl ?_
    refine Q_iadd hX dL_law__976 ?_
    refine Q_arg hX hScr hL hj 1 rfl (by decide) dL_law__977 ?_
    refine Q_aload_n hX 3 dL_law__978 rfl rfl ?_
    refine Q_W1 hX [.ref 1, .int (xs (j + 1)), .ref 50] dL_law__979 lw_185 (CW_trim_ok (okGQ hX) e1) (Nat.le_trans (by decide) hR.1) (Nat.le_trans (by decide) hR.2.1) rfl rfl rfl rfl ⟨by omega, by omega⟩ ?_
    refine Q_istore hX [(5, .int 0), (0, .ref 0), (1, .ref 1), (2, .ref 30), (3, .ref 50), (4, .int (nI j))] dL_law__982 rfl rfl ?_
    refine Q_aload_n hX 3 dL_law__984 rfl rfl ?_
    refine Q_aload_n hX 1 dL_law__985 rfl rfl ?_
    refine Q_iload hX 5 dL_law__986 rfl ?_
    refine Q_iconst hX 1 dL_law__988 rfl ?_
    refine Q_iadd hX dL_law__989 ?_
    refine Q_arg hX hScr hL hj 1 rfl (by decide) dL_law__990 ?_
    refine Q_V1 hX [.int (xs (j + 1))] dL_law__991 lv_187 ob_30 rfl (C_X12_trim (okGQ hX) e2) (Nat.le_trans (by decide) hR.1) (Nat.le_trans (by decide) hR.2.1) rfl rfl rfl rfl ⟨by omega, by omega⟩ ?_
    refine Q_istore hX [(6, .int b), (5, .int 0), (0, .ref 0), (1, .ref 1), (2, .ref 30), (3, .ref 50), (4, .int (nI j))] dL_law__994 rfl rfl ?_
    refine Q_aload_n hX 4 dL_law__996 rfl rfl ?_
    refine Q_V1 hX [] dL_law__997 lv_150 ob_30 rfl (C_X12_thrown (okGQ hX) rfl) (Nat.le_trans (by decide) hR.1) (Nat.le_trans (by decide) hR.2.1) rfl rfl rfl rfl ⟨by omega, by omega⟩ ?_
    refine Q_nm e3 ?_
    refine Q_iload hX 1 dL_law__1000 rfl ?_
    refine Q_icmp_eqT hX 1007 dL_law__1002 rfl rfl ?_
    refine Q_iload hX 1 dL_law__1007 rfl ?_
    refine Q_if_neF hX 1024 dL_law__1009 rfl rfl ?_
    refine Q_aload_n hX 5 dL_law__1012 rfl rfl ?_
    refine Q_iconst hX 0 dL_law__1013 rfl ?_
    refine Q_lald hX dL_law__1014 ar_50 (by decide) ?_
    refine Q_nmL (congrArg Int32.toInt64 e4) ?_
    refine Q_iload hX 0 dL_law__1015 rfl ?_
    refine Q_i2l hX dL_law__1017 ?_
    refine Q_lcmp hX dL_law__1018 ?_
    refine Q_if_eqT hX 1024 dL_law__1019 rfl (lg_cmp_self _) ?_
    refine Q_goto hX 2799 dL_law__1024 rfl ?_
    refine Q_sub [2, 3, 4, 5, 6] [(0, .ref 0), (1, .ref 1), (2, .ref 30), (3, .ref 50), (4, .int (nI j))] rfl ?_
    exact kk
  · refine Q_aload_n hX 1 dL_law__971 rfl rfl ?_
    refine Q_aload_n hX 0 dL_law__972 rfl rfl ?_
    refine Q_iload hX 4 dL_law__973 rfl ?_
    refine Q_iconst hX 1 dL_law__975 rfl ?_
    refine Q_iadd hX dL_law__976 ?_
    refine Q_arg hX hScr hL hj 1 rfl (by decide) dL_law__977 ?_
    refine Q_aload_n hX 3 dL_law__978 rfl rfl ?_
    refine Q_W1 hX [.ref 1, .int (xs (j + 1)), .ref 50] dL_law__979 lw_185 (CW_trim_e1 (okGQ hX) e1) (Nat.le_trans (by decide) hR.1) (Nat.le_trans (by decide) hR.2.1) rfl rfl rfl rfl ⟨by omega, by omega⟩ ?_
    refine Q_istore hX [(5, .int 1), (0, .ref 0), (1, .ref 1), (2, .ref 30), (3, .ref 50), (4, .int (nI j))] dL_law__982 rfl rfl ?_
    refine Q_aload_n hX 3 dL_law__984 rfl rfl ?_
    refine Q_aload_n hX 1 dL_law__985 rfl rfl ?_
    refine Q_iload hX 5 dL_law__986 rfl ?_
    refine Q_iconst hX 1 dL_law__988 rfl ?_
    refine Q_iadd hX dL_law__989 ?_
    refine Q_arg hX hScr hL hj 1 rfl (by decide) dL_law__990 ?_
    refine Q_V1 hX [.int (xs (j + 1))] dL_law__991 lv_187 ob_30 rfl (C_X12_trim (okGQ hX) e2) (Nat.le_trans (by decide) hR.1) (Nat.le_trans (by decide) hR.2.1) rfl rfl rfl rfl ⟨by omega, by omega⟩ ?_
    refine Q_istore hX [(6, .int b), (5, .int 1), (0, .ref 0), (1, .ref 1), (2, .ref 30), (3, .ref 50), (4, .int (nI j))] dL_law__994 rfl rfl ?_
    refine Q_aload_n hX 4 dL_law__996 rfl rfl ?_
    refine Q_V1 hX [] dL_law__997 lv_150 ob_30 rfl (C_X12_thrown (okGQ hX) rfl) (Nat.le_trans (by decide) hR.1) (Nat.le_trans (by decide) hR.2.1) rfl rfl rfl rfl ⟨by omega, by omega⟩ ?_
    refine Q_nm e3 ?_
    refine Q_iload hX 1 dL_law__1000 rfl ?_
    refine Q_icmp_eqT hX 1007 dL_law__1002 rfl rfl ?_
    refine Q_iload hX 1 dL_law__1007 rfl ?_
    refine Q_if_neT hX 1024 dL_law__1009 rfl (by decide) ?_
    refine Q_goto hX 2799 dL_law__1024 rfl ?_
    refine Q_sub [2, 3, 4, 5, 6] [(0, .ref 0), (1, .ref 1), (2, .ref 30), (3, .ref 50), (4, .int (nI j))] rfl ?_
    exact kk
  · refine Q_aload_n hX 1 dL_law__971 rfl rfl ?_
    refine Q_aload_n hX 0 dL_law__972 rfl rfl ?_
    refine Q_iload hX 4 dL_law__973 rfl ?_
    refine Q_iconst hX 1 dL_law__975 rfl ?_
    refine Q_iadd hX dL_law__976 ?_
    refine Q_arg hX hScr hL hj 1 rfl (by decide) dL_law__977 ?_
    refine Q_aload_n hX 3 dL_law__978 rfl rfl ?_
    refine Q_W1 hX [.ref 1, .int (xs (j + 1)), .ref 50] dL_law__979 lw_185 (CW_trim_e2 (okGQ hX) e1) (Nat.le_trans (by decide) hR.1) (Nat.le_trans (by decide) hR.2.1) rfl rfl rfl rfl ⟨by omega, by omega⟩ ?_
    refine Q_istore hX [(5, .int 2), (0, .ref 0), (1, .ref 1), (2, .ref 30), (3, .ref 50), (4, .int (nI j))] dL_law__982 rfl rfl ?_
    refine Q_aload_n hX 3 dL_law__984 rfl rfl ?_
    refine Q_aload_n hX 1 dL_law__985 rfl rfl ?_
    refine Q_iload hX 5 dL_law__986 rfl ?_
    refine Q_iconst hX 1 dL_law__988 rfl ?_
    refine Q_iadd hX dL_law__989 ?_
    refine Q_arg hX hScr hL hj 1 rfl (by decide) dL_law__990 ?_
    refine Q_V1 hX [.int (xs (j + 1))] dL_law__991 lv_187 ob_30 rfl (C_X12_trim (okGQ hX) e2) (Nat.le_trans (by decide) hR.1) (Nat.le_trans (by decide) hR.2.1) rfl rfl rfl rfl ⟨by omega, by omega⟩ ?_
    refine Q_istore hX [(6, .int b), (5, .int 2), (0, .ref 0), (1, .ref 1), (2, .ref 30), (3, .ref 50), (4, .int (nI j))] dL_law__994 rfl rfl ?_
    refine Q_aload_n hX 4 dL_law__996 rfl rfl ?_
    refine Q_V1 hX [] dL_law__997 lv_150 ob_30 rfl (C_X12_thrown (okGQ hX) rfl) (Nat.le_trans (by decide) hR.1) (Nat.le_trans (by decide) hR.2.1) rfl rfl rfl rfl ⟨by omega, by omega⟩ ?_
    refine Q_nm e3 ?_
    refine Q_iload hX 1 dL_law__1000 rfl ?_
    refine Q_icmp_eqT hX 1007 dL_law__1002 rfl rfl ?_
    refine Q_iload hX 1 dL_law__1007 rfl ?_
    refine Q_if_neT hX 1024 dL_law__1009 rfl (by decide) ?_
    refine Q_goto hX 2799 dL_law__1024 rfl ?_
    refine Q_sub [2, 3, 4, 5, 6] [(0, .ref 0), (1, .ref 1), (2, .ref 30), (3, .ref 50), (4, .int (nI j))] rfl ?_
    exact kk
set_option maxRecDepth 100000 in
set_option maxHeartbeats 200000 in
theorem LW_13 {X : CX} {R : Room} {Q : State → Prop} {kC sC Ls j n : Nat} {xs : Nat → Int32} {h h' : Hp} (hX : OkQ X cL_law_ 7 RL (some .boolean)) (hScr : ScrQ X Ls xs) (hL : Ls ≤ 3072) (hj : j + 6 ≤ Ls) (hR : 80 ≤ R.frames ∧ 80 * 80 ≤ R.locals ∧ kC + 1 ≤ R.cells ∧ sC + 6 ≤ R.slots) (hst : St_13 (fun i => xs (j + i)) h h' n) (kk : JQ X R Q (kC + n) (sC + 6 * n) 2799 [(0, .ref 0), (1, .ref 1), (2, .ref 30), (3, .ref 50), (4, .int (nI j))] [] h') : JQ X R Q kC sC 1027 [(0, .ref 0), (1, .ref 1), (2, .ref 30), (3, .ref 50), (4, .int (nI j))] [] h := by
  have hr1 := hR.2.2.1
  have hr2 := hR.2.2.2
  unfold St_13 at hst
  try dsimp only at hst
  rcases hst with ⟨v, h1, b, e1, e2, e3, e4, rfl⟩ | ⟨h1, b, e1, e2, e3, rfl⟩ | ⟨h1, b, e1, e2, e3, rfl⟩
  · refine Q_aload_n hX 1 dL_law__1027 rfl rfl ?_
    refine Q_aload_n hX 0 dL_law__1028 rfl rfl ?_
    refine Q_iload hX 4 dL_law__1029 rfl ?_
    refine Q_iconst hX 1 dL_law__1031 rfl ?_
    refine Q_iadd hX dL_law__1032 ?_
    refine Q_arg hX hScr hL hj 1 rfl (by decide) dL_law__1033 ?_
    refine Q_aload_n hX 0 dL_law__1034 rfl rfl ?_
    refine Q_iload hX 4 dL_law__1035 rfl ?_
    refine Q_iconst hX 2 dL_law__1037 rfl ?_
    refine Q_iadd hX dL_law__1038 ?_
    refine Q_arg hX hScr hL hj 2 rfl (by decide) dL_law__1039 ?_
    refine Q_aload_n hX 3 dL_law__1040 rfl rfl ?_
    refine Q_W1 hX [.ref 1, .int (xs (j + 1)), .int (xs (j + 2)), .ref 50] dL_law__1041 lw_188 (CW_move_ok (okGQ hX) e1) (Nat.le_trans (by decide) hR.1) (Nat.le_trans (by decide) hR.2.1) rfl rfl rfl rfl ⟨by omega, by omega⟩ ?_
    refine Q_istore hX [(5, .int 0), (0, .ref 0), (1, .ref 1), (2, .ref 30), (3, .ref 50), (4, .int (nI j))] dL_law__1044 rfl rfl ?_
    refine Q_aload_n hX 3 dL_law__1046 rfl rfl ?_
    refine Q_aload_n hX 1 dL_law__1047 rfl rfl ?_
    refine Q_iload hX 5 dL_law__1048 rfl ?_
    refine Q_iconst hX 1 dL_law__1050 rfl ?_
    refine Q_iadd hX dL_law__1051 ?_
    refine Q_arg hX hScr hL hj 1 rfl (by decide) dL_law__1052 ?_
    refine Q_aload_n hX 1 dL_law__1053 rfl rfl ?_
    refine Q_iload hX 5 dL_law__1054 rfl ?_
    refine Q_iconst hX 2 dL_law__1056 rfl ?_
    refine Q_iadd hX dL_law__1057 ?_
    refine Q_arg hX hScr hL hj 2 rfl (by decide) dL_law__1058 ?_
    refine Q_V1 hX [.int (xs (j + 1)), .int (xs (j + 2))] dL_law__1059 lv_190 ob_30 rfl (C_X12_move (okGQ hX) e2) (Nat.le_trans (by decide) hR.1) (Nat.le_trans (by decide) hR.2.1) rfl rfl rfl rfl ⟨by omega, by omega⟩ ?_
    refine Q_istore hX [(6, .int b), (5, .int 0), (0, .ref 0), (1, .ref 1), (2, .ref 30), (3, .ref 50), (4, .int (nI j))] dL_law__1062 rfl rfl ?_
    refine Q_aload_n hX 4 dL_law__1064 rfl rfl ?_
    refine Q_V1 hX [] dL_law__1065 lv_150 ob_30 rfl (C_X12_thrown (okGQ hX) rfl) (Nat.le_trans (by decide) hR.1) (Nat.le_trans (by decide) hR.2.1) rfl rfl rfl rfl ⟨by omega, by omega⟩ ?_
    refine Q_nm e3 ?_
    refine Q_iload hX 1 dL_law__1068 rfl ?_
    refine Q_icmp_eqT hX 1075 dL_law__1070 rfl rfl ?_
    refine Q_iload hX 1 dL_law__1075 rfl ?_
    refine Q_if_neF hX 1092 dL_law__1077 rfl rfl ?_
    refine Q_aload_n hX 5 dL_law__1080 rfl rfl ?_
    refine Q_iconst hX 0 dL_law__1081 rfl ?_
    refine Q_lald hX dL_law__1082 ar_50 (by decide) ?_
    refine Q_nmL (congrArg Int32.toInt64 e4) ?_
    refine Q_iload hX 0 dL_law__1083 rfl ?_
    refine Q_i2l hX dL_law__1085 ?_
    refine Q_lcmp hX dL_law__1086 ?_
    refine Q_if_eqT hX 1092 dL_law__1087 rfl (lg_cmp_self _) ?_
    refine Q_goto hX 2799 dL_law__1092 rfl ?_
    refine Q_sub [2, 3, 4, 5, 6] [(0, .ref 0), (1, .ref 1), (2, .ref 30), (3, .ref 50), (4, .int (nI j))] rfl ?_
    exact kk
  · refine Q_aload_n hX 1 dL_law__1027 rfl rfl ?_
    refine Q_aload_n hX 0 dL_law__1028 rfl rfl ?_
    refine Q_iload hX 4 dL_law__1029 rfl ?_
    refine Q_iconst hX 1 dL_law__1031 rfl ?_
    refine Q_iadd hX dL_law__1032 ?_
    refine Q_arg hX hScr hL hj 1 rfl (by decide) dL_law__1033 ?_
    refine Q_aload_n hX 0 dL_law__1034 rfl rfl ?_
    refine Q_iload hX 4 dL_law__1035 rfl ?_
    refine Q_iconst hX 2 dL_law__1037 rfl ?_
    refine Q_iadd hX dL_law__1038 ?_
    refine Q_arg hX hScr hL hj 2 rfl (by decide) dL_law__1039 ?_
    refine Q_aload_n hX 3 dL_law__1040 rfl rfl ?_
    refine Q_W1 hX [.ref 1, .int (xs (j + 1)), .int (xs (j + 2)), .ref 50] dL_law__1041 lw_188 (CW_move_e1 (okGQ hX) e1) (Nat.le_trans (by decide) hR.1) (Nat.le_trans (by decide) hR.2.1) rfl rfl rfl rfl ⟨by omega, by omega⟩ ?_
    refine Q_istore hX [(5, .int 1), (0, .ref 0), (1, .ref 1), (2, .ref 30), (3, .ref 50), (4, .int (nI j))] dL_law__1044 rfl rfl ?_
    refine Q_aload_n hX 3 dL_law__1046 rfl rfl ?_
    refine Q_aload_n hX 1 dL_law__1047 rfl rfl ?_
    refine Q_iload hX 5 dL_law__1048 rfl ?_
    refine Q_iconst hX 1 dL_law__1050 rfl ?_
    refine Q_iadd hX dL_law__1051 ?_
    refine Q_arg hX hScr hL hj 1 rfl (by decide) dL_law__1052 ?_
    refine Q_aload_n hX 1 dL_law__1053 rfl rfl ?_
    refine Q_iload hX 5 dL_law__1054 rfl ?_
    refine Q_iconst hX 2 dL_law__1056 rfl ?_
    refine Q_iadd hX dL_law__1057 ?_
    refine Q_arg hX hScr hL hj 2 rfl (by decide) dL_law__1058 ?_
    refine Q_V1 hX [.int (xs (j + 1)), .int (xs (j + 2))] dL_law__1059 lv_190 ob_30 rfl (C_X12_move (okGQ hX) e2) (Nat.le_trans (by decide) hR.1) (Nat.le_trans (by decide) hR.2.1) rfl rfl rfl rfl ⟨by omega, by omega⟩ ?_
    refine Q_istore hX [(6, .int b), (5, .int 1), (0, .ref 0), (1, .ref 1), (2, .ref 30), (3, .ref 50), (4, .int (nI j))] dL_law__1062 rfl rfl ?_
    refine Q_aload_n hX 4 dL_law__1064 rfl rfl ?_
    refine Q_V1 hX [] dL_law__1065 lv_150 ob_30 rfl (C_X12_thrown (okGQ hX) rfl) (Nat.le_trans (by decide) hR.1) (Nat.le_trans (by decide) hR.2.1) rfl rfl rfl rfl ⟨by omega, by omega⟩ ?_
    refine Q_nm e3 ?_
    refine Q_iload hX 1 dL_law__1068 rfl ?_
    refine Q_icmp_eqT hX 1075 dL_law__1070 rfl rfl ?_
    refine Q_iload hX 1 dL_law__1075 rfl ?_
    refine Q_if_neT hX 1092 dL_law__1077 rfl (by decide) ?_
    refine Q_goto hX 2799 dL_law__1092 rfl ?_
    refine Q_sub [2, 3, 4, 5, 6] [(0, .ref 0), (1, .ref 1), (2, .ref 30), (3, .ref 50), (4, .int (nI j))] rfl ?_
    exact kk
  · refine Q_aload_n hX 1 dL_law__1027 rfl rfl ?_
    refine Q_aload_n hX 0 dL_law__1028 rfl rfl ?_
    refine Q_iload hX 4 dL_law__1029 rfl ?_
    refine Q_iconst hX 1 dL_law__1031 rfl ?_
    refine Q_iadd hX dL_law__1032 ?_
    refine Q_arg hX hScr hL hj 1 rfl (by decide) dL_law__1033 ?_
    refine Q_aload_n hX 0 dL_law__1034 rfl rfl ?_
    refine Q_iload hX 4 dL_law__1035 rfl ?_
    refine Q_iconst hX 2 dL_law__1037 rfl ?_
    refine Q_iadd hX dL_law__1038 ?_
    refine Q_arg hX hScr hL hj 2 rfl (by decide) dL_law__1039 ?_
    refine Q_aload_n hX 3 dL_law__1040 rfl rfl ?_
    refine Q_W1 hX [.ref 1, .int (xs (j + 1)), .int (xs (j + 2)), .ref 50] dL_law__1041 lw_188 (CW_move_e2 (okGQ hX) e1) (Nat.le_trans (by decide) hR.1) (Nat.le_trans (by decide) hR.2.1) rfl rfl rfl rfl ⟨by omega, by omega⟩ ?_
    refine Q_istore hX [(5, .int 2), (0, .ref 0), (1, .ref 1), (2, .ref 30), (3, .ref 50), (4, .int (nI j))] dL_law__1044 rfl rfl ?_
    refine Q_aload_n hX 3 dL_law__1046 rfl rfl ?_
    refine Q_aload_n hX 1 dL_law__1047 rfl rfl ?_
    refine Q_iload hX 5 dL_law__1048 rfl ?_
    refine Q_iconst hX 1 dL_law__1050 rfl ?_
    refine Q_iadd hX dL_law__1051 ?_
    refine Q_arg hX hScr hL hj 1 rfl (by decide) dL_law__1052 ?_
    refine Q_aload_n hX 1 dL_law__1053 rfl rfl ?_
    refine Q_iload hX 5 dL_law__1054 rfl ?_
    refine Q_iconst hX 2 dL_law__1056 rfl ?_
    refine Q_iadd hX dL_law__1057 ?_
    refine Q_arg hX hScr hL hj 2 rfl (by decide) dL_law__1058 ?_
    refine Q_V1 hX [.int (xs (j + 1)), .int (xs (j + 2))] dL_law__1059 lv_190 ob_30 rfl (C_X12_move (okGQ hX) e2) (Nat.le_trans (by decide) hR.1) (Nat.le_trans (by decide) hR.2.1) rfl rfl rfl rfl ⟨by omega, by omega⟩ ?_
    refine Q_istore hX [(6, .int b), (5, .int 2), (0, .ref 0), (1, .ref 1), (2, .ref 30), (3, .ref 50), (4, .int (nI j))] dL_law__1062 rfl rfl ?_
    refine Q_aload_n hX 4 dL_law__1064 rfl rfl ?_
    refine Q_V1 hX [] dL_law__1065 lv_150 ob_30 rfl (C_X12_thrown (okGQ hX) rfl) (Nat.le_trans (by decide) hR.1) (Nat.le_trans (by decide) hR.2.1) rfl rfl rfl rfl ⟨by omega, by omega⟩ ?_
    refine Q_nm e3 ?_
    refine Q_iload hX 1 dL_law__1068 rfl ?_
    refine Q_icmp_eqT hX 1075 dL_law__1070 rfl rfl ?_
    refine Q_iload hX 1 dL_law__1075 rfl ?_
    refine Q_if_neT hX 1092 dL_law__1077 rfl (by decide) ?_
    refine Q_goto hX 2799 dL_law__1092 rfl ?_
    refine Q_sub [2, 3, 4, 5, 6] [(0, .ref 0), (1, .ref 1), (2, .ref 30), (3, .ref 50), (4, .int (nI j))] rfl ?_
    exact kk
set_option maxRecDepth 100000 in
set_option maxHeartbeats 200000 in
theorem LW_14 {X : CX} {R : Room} {Q : State → Prop} {kC sC Ls j n : Nat} {xs : Nat → Int32} {h h' : Hp} (hX : OkQ X cL_law_ 7 RL (some .boolean)) (hScr : ScrQ X Ls xs) (hL : Ls ≤ 3072) (hj : j + 6 ≤ Ls) (hR : 80 ≤ R.frames ∧ 80 * 80 ≤ R.locals ∧ kC + 1 ≤ R.cells ∧ sC + 6 ≤ R.slots) (hst : St_14 (fun i => xs (j + i)) h h' n) (kk : JQ X R Q (kC + n) (sC + 6 * n) 2799 [(0, .ref 0), (1, .ref 1), (2, .ref 30), (3, .ref 50), (4, .int (nI j))] [] h') : JQ X R Q kC sC 1095 [(0, .ref 0), (1, .ref 1), (2, .ref 30), (3, .ref 50), (4, .int (nI j))] [] h := by
  have hr1 := hR.2.2.1
  have hr2 := hR.2.2.2
  unfold St_14 at hst
  try dsimp only at hst
  rcases Classical.em (xs (j + 3) = 0) with c0 | c0
  · rw [show nz (xs (j + 3)) = 0 from if_pos c0] at hst
    rcases hst with ⟨v, h1, b, e1, e2, e3, e4, rfl⟩ | ⟨h1, b, e1, e2, e3, rfl⟩
    · refine Q_aload_n hX 1 dL_law__1095 rfl rfl ?_
      refine Q_aload_n hX 0 dL_law__1096 rfl rfl ?_
      refine Q_iload hX 4 dL_law__1097 rfl ?_
      refine Q_iconst hX 1 dL_law__1099 rfl ?_
      refine Q_iadd hX dL_law__1100 ?_
      refine Q_arg hX hScr hL hj 1 rfl (by decide) dL_law__1101 ?_
      refine Q_aload_n hX 0 dL_law__1102 rfl rfl ?_
      refine Q_iload hX 4 dL_law__1103 rfl ?_
      refine Q_iconst hX 2 dL_law__1105 rfl ?_
      refine Q_iadd hX dL_law__1106 ?_
      refine Q_arg hX hScr hL hj 2 rfl (by decide) dL_law__1107 ?_
      refine Q_aload_n hX 0 dL_law__1108 rfl rfl ?_
      refine Q_iload hX 4 dL_law__1109 rfl ?_
      refine Q_iconst hX 3 dL_law__1111 rfl ?_
      refine Q_iadd hX dL_law__1112 ?_
      refine Q_arg hX hScr hL hj 3 rfl (by decide) dL_law__1113 ?_
      refine Q_if_eqT hX 1121 dL_law__1114 rfl c0 ?_
      refine Q_iconst hX 0 dL_law__1121 rfl ?_
      refine Q_aload_n hX 3 dL_law__1122 rfl rfl ?_
      refine Q_W1 hX [.ref 1, .int (xs (j + 1)), .int (xs (j + 2)), .int 0, .ref 50] dL_law__1123 lw_191 (CW_come_ok (okGQ hX) e1) (Nat.le_trans (by decide) hR.1) (Nat.le_trans (by decide) hR.2.1) rfl rfl rfl rfl ⟨by omega, by omega⟩ ?_
      refine Q_istore hX [(5, .int 0), (0, .ref 0), (1, .ref 1), (2, .ref 30), (3, .ref 50), (4, .int (nI j))] dL_law__1126 rfl rfl ?_
      refine Q_aload_n hX 3 dL_law__1128 rfl rfl ?_
      refine Q_aload_n hX 1 dL_law__1129 rfl rfl ?_
      refine Q_iload hX 5 dL_law__1130 rfl ?_
      refine Q_iconst hX 1 dL_law__1132 rfl ?_
      refine Q_iadd hX dL_law__1133 ?_
      refine Q_arg hX hScr hL hj 1 rfl (by decide) dL_law__1134 ?_
      refine Q_aload_n hX 1 dL_law__1135 rfl rfl ?_
      refine Q_iload hX 5 dL_law__1136 rfl ?_
      refine Q_iconst hX 2 dL_law__1138 rfl ?_
      refine Q_iadd hX dL_law__1139 ?_
      refine Q_arg hX hScr hL hj 2 rfl (by decide) dL_law__1140 ?_
      refine Q_aload_n hX 1 dL_law__1141 rfl rfl ?_
      refine Q_iload hX 5 dL_law__1142 rfl ?_
      refine Q_iconst hX 3 dL_law__1144 rfl ?_
      refine Q_iadd hX dL_law__1145 ?_
      refine Q_arg hX hScr hL hj 3 rfl (by decide) dL_law__1146 ?_
      refine Q_if_eqT hX 1154 dL_law__1147 rfl c0 ?_
      refine Q_iconst hX 0 dL_law__1154 rfl ?_
      refine Q_V1 hX [.int (xs (j + 1)), .int (xs (j + 2)), .int 0] dL_law__1155 lv_194 ob_30 rfl (C_X12_come (okGQ hX) e2) (Nat.le_trans (by decide) hR.1) (Nat.le_trans (by decide) hR.2.1) rfl rfl rfl rfl ⟨by omega, by omega⟩ ?_
      refine Q_istore hX [(6, .int (b2i b)), (5, .int 0), (0, .ref 0), (1, .ref 1), (2, .ref 30), (3, .ref 50), (4, .int (nI j))] dL_law__1158 rfl rfl ?_
      refine Q_aload_n hX 4 dL_law__1160 rfl rfl ?_
      refine Q_V1 hX [] dL_law__1161 lv_150 ob_30 rfl (C_X12_thrown (okGQ hX) rfl) (Nat.le_trans (by decide) hR.1) (Nat.le_trans (by decide) hR.2.1) rfl rfl rfl rfl ⟨by omega, by omega⟩ ?_
      refine Q_nm e3 ?_
      refine Q_iload hX 1 dL_law__1164 rfl ?_
      refine Q_icmp_eqT hX 1171 dL_law__1166 rfl rfl ?_
      refine Q_iload hX 1 dL_law__1171 rfl ?_
      refine Q_if_neF hX 1195 dL_law__1173 rfl rfl ?_
      refine Q_aload_n hX 5 dL_law__1176 rfl rfl ?_
      refine Q_iconst hX 0 dL_law__1177 rfl ?_
      refine Q_lald hX dL_law__1178 ar_50 (by decide) ?_
      refine Q_nmL (congrArg Int32.toInt64 e4) ?_
      refine Q_iload hX 0 dL_law__1179 rfl ?_
      cases b
      · refine Q_if_eqT hX 1188 dL_law__1181 rfl rfl ?_
        refine Q_lconst hX 0 dL_law__1188 rfl ?_
        refine Q_nmL (show (0 : Int64) = (b2i false).toInt64 by decide) ?_
        refine Q_lcmp hX dL_law__1189 ?_
        refine Q_if_eqT hX 1195 dL_law__1190 rfl (lg_cmp_self _) ?_
        refine Q_goto hX 2799 dL_law__1195 rfl ?_
        refine Q_sub [2, 3, 4, 5, 6] [(0, .ref 0), (1, .ref 1), (2, .ref 30), (3, .ref 50), (4, .int (nI j))] rfl ?_
        exact kk
      · refine Q_if_eqF hX 1188 dL_law__1181 rfl (by decide) ?_
        refine Q_lconst hX 1 dL_law__1184 rfl ?_
        refine Q_nmL (show (1 : Int64) = (b2i true).toInt64 by decide) ?_
        refine Q_goto hX 1189 dL_law__1185 rfl ?_
        refine Q_lcmp hX dL_law__1189 ?_
        refine Q_if_eqT hX 1195 dL_law__1190 rfl (lg_cmp_self _) ?_
        refine Q_goto hX 2799 dL_law__1195 rfl ?_
        refine Q_sub [2, 3, 4, 5, 6] [(0, .ref 0), (1, .ref 1), (2, .ref 30), (3, .ref 50), (4, .int (nI j))] rfl ?_
        exact kk
    · refine Q_aload_n hX 1 dL_law__1095 rfl rfl ?_
      refine Q_aload_n hX 0 dL_law__1096 rfl rfl ?_
      refine Q_iload hX 4 dL_law__1097 rfl ?_
      refine Q_iconst hX 1 dL_law__1099 rfl ?_
      refine Q_iadd hX dL_law__1100 ?_
      refine Q_arg hX hScr hL hj 1 rfl (by decide) dL_law__1101 ?_
      refine Q_aload_n hX 0 dL_law__1102 rfl rfl ?_
      refine Q_iload hX 4 dL_law__1103 rfl ?_
      refine Q_iconst hX 2 dL_law__1105 rfl ?_
      refine Q_iadd hX dL_law__1106 ?_
      refine Q_arg hX hScr hL hj 2 rfl (by decide) dL_law__1107 ?_
      refine Q_aload_n hX 0 dL_law__1108 rfl rfl ?_
      refine Q_iload hX 4 dL_law__1109 rfl ?_
      refine Q_iconst hX 3 dL_law__1111 rfl ?_
      refine Q_iadd hX dL_law__1112 ?_
      refine Q_arg hX hScr hL hj 3 rfl (by decide) dL_law__1113 ?_
      refine Q_if_eqT hX 1121 dL_law__1114 rfl c0 ?_
      refine Q_iconst hX 0 dL_law__1121 rfl ?_
      refine Q_aload_n hX 3 dL_law__1122 rfl rfl ?_
      refine Q_W1 hX [.ref 1, .int (xs (j + 1)), .int (xs (j + 2)), .int 0, .ref 50] dL_law__1123 lw_191 (CW_come_e1 (okGQ hX) e1) (Nat.le_trans (by decide) hR.1) (Nat.le_trans (by decide) hR.2.1) rfl rfl rfl rfl ⟨by omega, by omega⟩ ?_
      refine Q_istore hX [(5, .int 1), (0, .ref 0), (1, .ref 1), (2, .ref 30), (3, .ref 50), (4, .int (nI j))] dL_law__1126 rfl rfl ?_
      refine Q_aload_n hX 3 dL_law__1128 rfl rfl ?_
      refine Q_aload_n hX 1 dL_law__1129 rfl rfl ?_
      refine Q_iload hX 5 dL_law__1130 rfl ?_
      refine Q_iconst hX 1 dL_law__1132 rfl ?_
      refine Q_iadd hX dL_law__1133 ?_
      refine Q_arg hX hScr hL hj 1 rfl (by decide) dL_law__1134 ?_
      refine Q_aload_n hX 1 dL_law__1135 rfl rfl ?_
      refine Q_iload hX 5 dL_law__1136 rfl ?_
      refine Q_iconst hX 2 dL_law__1138 rfl ?_
      refine Q_iadd hX dL_law__1139 ?_
      refine Q_arg hX hScr hL hj 2 rfl (by decide) dL_law__1140 ?_
      refine Q_aload_n hX 1 dL_law__1141 rfl rfl ?_
      refine Q_iload hX 5 dL_law__1142 rfl ?_
      refine Q_iconst hX 3 dL_law__1144 rfl ?_
      refine Q_iadd hX dL_law__1145 ?_
      refine Q_arg hX hScr hL hj 3 rfl (by decide) dL_law__1146 ?_
      refine Q_if_eqT hX 1154 dL_law__1147 rfl c0 ?_
      refine Q_iconst hX 0 dL_law__1154 rfl ?_
      refine Q_V1 hX [.int (xs (j + 1)), .int (xs (j + 2)), .int 0] dL_law__1155 lv_194 ob_30 rfl (C_X12_come (okGQ hX) e2) (Nat.le_trans (by decide) hR.1) (Nat.le_trans (by decide) hR.2.1) rfl rfl rfl rfl ⟨by omega, by omega⟩ ?_
      refine Q_istore hX [(6, .int (b2i b)), (5, .int 1), (0, .ref 0), (1, .ref 1), (2, .ref 30), (3, .ref 50), (4, .int (nI j))] dL_law__1158 rfl rfl ?_
      refine Q_aload_n hX 4 dL_law__1160 rfl rfl ?_
      refine Q_V1 hX [] dL_law__1161 lv_150 ob_30 rfl (C_X12_thrown (okGQ hX) rfl) (Nat.le_trans (by decide) hR.1) (Nat.le_trans (by decide) hR.2.1) rfl rfl rfl rfl ⟨by omega, by omega⟩ ?_
      refine Q_nm e3 ?_
      refine Q_iload hX 1 dL_law__1164 rfl ?_
      refine Q_icmp_eqT hX 1171 dL_law__1166 rfl rfl ?_
      refine Q_iload hX 1 dL_law__1171 rfl ?_
      refine Q_if_neT hX 1195 dL_law__1173 rfl (by decide) ?_
      refine Q_goto hX 2799 dL_law__1195 rfl ?_
      refine Q_sub [2, 3, 4, 5, 6] [(0, .ref 0), (1, .ref 1), (2, .ref 30), (3, .ref 50), (4, .int (nI j))] rfl ?_
      exact kk
  · rw [show nz (xs (j + 3)) = 1 from if_neg c0] at hst
    rcases hst with ⟨v, h1, b, e1, e2, e3, e4, rfl⟩ | ⟨h1, b, e1, e2, e3, rfl⟩
    · refine Q_aload_n hX 1 dL_law__1095 rfl rfl ?_
      refine Q_aload_n hX 0 dL_law__1096 rfl rfl ?_
      refine Q_iload hX 4 dL_law__1097 rfl ?_
      refine Q_iconst hX 1 dL_law__1099 rfl ?_
      refine Q_iadd hX dL_law__1100 ?_
      refine Q_arg hX hScr hL hj 1 rfl (by decide) dL_law__1101 ?_
      refine Q_aload_n hX 0 dL_law__1102 rfl rfl ?_
      refine Q_iload hX 4 dL_law__1103 rfl ?_
      refine Q_iconst hX 2 dL_law__1105 rfl ?_
      refine Q_iadd hX dL_law__1106 ?_
      refine Q_arg hX hScr hL hj 2 rfl (by decide) dL_law__1107 ?_
      refine Q_aload_n hX 0 dL_law__1108 rfl rfl ?_
      refine Q_iload hX 4 dL_law__1109 rfl ?_
      refine Q_iconst hX 3 dL_law__1111 rfl ?_
      refine Q_iadd hX dL_law__1112 ?_
      refine Q_arg hX hScr hL hj 3 rfl (by decide) dL_law__1113 ?_
      refine Q_if_eqF hX 1121 dL_law__1114 rfl c0 ?_
      refine Q_iconst hX 1 dL_law__1117 rfl ?_
      refine Q_goto hX 1122 dL_law__1118 rfl ?_
      refine Q_aload_n hX 3 dL_law__1122 rfl rfl ?_
      refine Q_W1 hX [.ref 1, .int (xs (j + 1)), .int (xs (j + 2)), .int 1, .ref 50] dL_law__1123 lw_191 (CW_come_ok (okGQ hX) e1) (Nat.le_trans (by decide) hR.1) (Nat.le_trans (by decide) hR.2.1) rfl rfl rfl rfl ⟨by omega, by omega⟩ ?_
      refine Q_istore hX [(5, .int 0), (0, .ref 0), (1, .ref 1), (2, .ref 30), (3, .ref 50), (4, .int (nI j))] dL_law__1126 rfl rfl ?_
      refine Q_aload_n hX 3 dL_law__1128 rfl rfl ?_
      refine Q_aload_n hX 1 dL_law__1129 rfl rfl ?_
      refine Q_iload hX 5 dL_law__1130 rfl ?_
      refine Q_iconst hX 1 dL_law__1132 rfl ?_
      refine Q_iadd hX dL_law__1133 ?_
      refine Q_arg hX hScr hL hj 1 rfl (by decide) dL_law__1134 ?_
      refine Q_aload_n hX 1 dL_law__1135 rfl rfl ?_
      refine Q_iload hX 5 dL_law__1136 rfl ?_
      refine Q_iconst hX 2 dL_law__1138 rfl ?_
      refine Q_iadd hX dL_law__1139 ?_
      refine Q_arg hX hScr hL hj 2 rfl (by decide) dL_law__1140 ?_
      refine Q_aload_n hX 1 dL_law__1141 rfl rfl ?_
      refine Q_iload hX 5 dL_law__1142 rfl ?_
      refine Q_iconst hX 3 dL_law__1144 rfl ?_
      refine Q_iadd hX dL_law__1145 ?_
      refine Q_arg hX hScr hL hj 3 rfl (by decide) dL_law__1146 ?_
      refine Q_if_eqF hX 1154 dL_law__1147 rfl c0 ?_
      refine Q_iconst hX 1 dL_law__1150 rfl ?_
      refine Q_goto hX 1155 dL_law__1151 rfl ?_
      refine Q_V1 hX [.int (xs (j + 1)), .int (xs (j + 2)), .int 1] dL_law__1155 lv_194 ob_30 rfl (C_X12_come (okGQ hX) e2) (Nat.le_trans (by decide) hR.1) (Nat.le_trans (by decide) hR.2.1) rfl rfl rfl rfl ⟨by omega, by omega⟩ ?_
      refine Q_istore hX [(6, .int (b2i b)), (5, .int 0), (0, .ref 0), (1, .ref 1), (2, .ref 30), (3, .ref 50), (4, .int (nI j))] dL_law__1158 rfl rfl ?_
      refine Q_aload_n hX 4 dL_law__1160 rfl rfl ?_
      refine Q_V1 hX [] dL_law__1161 lv_150 ob_30 rfl (C_X12_thrown (okGQ hX) rfl) (Nat.le_trans (by decide) hR.1) (Nat.le_trans (by decide) hR.2.1) rfl rfl rfl rfl ⟨by omega, by omega⟩ ?_
      refine Q_nm e3 ?_
      refine Q_iload hX 1 dL_law__1164 rfl ?_
      refine Q_icmp_eqT hX 1171 dL_law__1166 rfl rfl ?_
      refine Q_iload hX 1 dL_law__1171 rfl ?_
      refine Q_if_neF hX 1195 dL_law__1173 rfl rfl ?_
      refine Q_aload_n hX 5 dL_law__1176 rfl rfl ?_
      refine Q_iconst hX 0 dL_law__1177 rfl ?_
      refine Q_lald hX dL_law__1178 ar_50 (by decide) ?_
      refine Q_nmL (congrArg Int32.toInt64 e4) ?_
      refine Q_iload hX 0 dL_law__1179 rfl ?_
      cases b
      · refine Q_if_eqT hX 1188 dL_law__1181 rfl rfl ?_
        refine Q_lconst hX 0 dL_law__1188 rfl ?_
        refine Q_nmL (show (0 : Int64) = (b2i false).toInt64 by decide) ?_
        refine Q_lcmp hX dL_law__1189 ?_
        refine Q_if_eqT hX 1195 dL_law__1190 rfl (lg_cmp_self _) ?_
        refine Q_goto hX 2799 dL_law__1195 rfl ?_
        refine Q_sub [2, 3, 4, 5, 6] [(0, .ref 0), (1, .ref 1), (2, .ref 30), (3, .ref 50), (4, .int (nI j))] rfl ?_
        exact kk
      · refine Q_if_eqF hX 1188 dL_law__1181 rfl (by decide) ?_
        refine Q_lconst hX 1 dL_law__1184 rfl ?_
        refine Q_nmL (show (1 : Int64) = (b2i true).toInt64 by decide) ?_
        refine Q_goto hX 1189 dL_law__1185 rfl ?_
        refine Q_lcmp hX dL_law__1189 ?_
        refine Q_if_eqT hX 1195 dL_law__1190 rfl (lg_cmp_self _) ?_
        refine Q_goto hX 2799 dL_law__1195 rfl ?_
        refine Q_sub [2, 3, 4, 5, 6] [(0, .ref 0), (1, .ref 1), (2, .ref 30), (3, .ref 50), (4, .int (nI j))] rfl ?_
        exact kk
    · refine Q_aload_n hX 1 dL_law__1095 rfl rfl ?_
      refine Q_aload_n hX 0 dL_law__1096 rfl rfl ?_
      refine Q_iload hX 4 dL_law__1097 rfl ?_
      refine Q_iconst hX 1 dL_law__1099 rfl ?_
      refine Q_iadd hX dL_law__1100 ?_
      refine Q_arg hX hScr hL hj 1 rfl (by decide) dL_law__1101 ?_
      refine Q_aload_n hX 0 dL_law__1102 rfl rfl ?_
      refine Q_iload hX 4 dL_law__1103 rfl ?_
      refine Q_iconst hX 2 dL_law__1105 rfl ?_
      refine Q_iadd hX dL_law__1106 ?_
      refine Q_arg hX hScr hL hj 2 rfl (by decide) dL_law__1107 ?_
      refine Q_aload_n hX 0 dL_law__1108 rfl rfl ?_
      refine Q_iload hX 4 dL_law__1109 rfl ?_
      refine Q_iconst hX 3 dL_law__1111 rfl ?_
      refine Q_iadd hX dL_law__1112 ?_
      refine Q_arg hX hScr hL hj 3 rfl (by decide) dL_law__1113 ?_
      refine Q_if_eqF hX 1121 dL_law__1114 rfl c0 ?_
      refine Q_iconst hX 1 dL_law__1117 rfl ?_
      refine Q_goto hX 1122 dL_law__1118 rfl ?_
      refine Q_aload_n hX 3 dL_law__1122 rfl rfl ?_
      refine Q_W1 hX [.ref 1, .int (xs (j + 1)), .int (xs (j + 2)), .int 1, .ref 50] dL_law__1123 lw_191 (CW_come_e1 (okGQ hX) e1) (Nat.le_trans (by decide) hR.1) (Nat.le_trans (by decide) hR.2.1) rfl rfl rfl rfl ⟨by omega, by omega⟩ ?_
      refine Q_istore hX [(5, .int 1), (0, .ref 0), (1, .ref 1), (2, .ref 30), (3, .ref 50), (4, .int (nI j))] dL_law__1126 rfl rfl ?_
      refine Q_aload_n hX 3 dL_law__1128 rfl rfl ?_
      refine Q_aload_n hX 1 dL_law__1129 rfl rfl ?_
      refine Q_iload hX 5 dL_law__1130 rfl ?_
      refine Q_iconst hX 1 dL_law__1132 rfl ?_
      refine Q_iadd hX dL_law__1133 ?_
      refine Q_arg hX hScr hL hj 1 rfl (by decide) dL_law__1134 ?_
      refine Q_aload_n hX 1 dL_law__1135 rfl rfl ?_
      refine Q_iload hX 5 dL_law__1136 rfl ?_
      refine Q_iconst hX 2 dL_law__1138 rfl ?_
      refine Q_iadd hX dL_law__1139 ?_
      refine Q_arg hX hScr hL hj 2 rfl (by decide) dL_law__1140 ?_
      refine Q_aload_n hX 1 dL_law__1141 rfl rfl ?_
      refine Q_iload hX 5 dL_law__1142 rfl ?_
      refine Q_iconst hX 3 dL_law__1144 rfl ?_
      refine Q_iadd hX dL_law__1145 ?_
      refine Q_arg hX hScr hL hj 3 rfl (by decide) dL_law__1146 ?_
      refine Q_if_eqF hX 1154 dL_law__1147 rfl c0 ?_
      refine Q_iconst hX 1 dL_law__1150 rfl ?_
      refine Q_goto hX 1155 dL_law__1151 rfl ?_
      refine Q_V1 hX [.int (xs (j + 1)), .int (xs (j + 2)), .int 1] dL_law__1155 lv_194 ob_30 rfl (C_X12_come (okGQ hX) e2) (Nat.le_trans (by decide) hR.1) (Nat.le_trans (by decide) hR.2.1) rfl rfl rfl rfl ⟨by omega, by omega⟩ ?_
      refine Q_istore hX [(6, .int (b2i b)), (5, .int 1), (0, .ref 0), (1, .ref 1), (2, .ref 30), (3, .ref 50), (4, .int (nI j))] dL_law__1158 rfl rfl ?_
      refine Q_aload_n hX 4 dL_law__1160 rfl rfl ?_
      refine Q_V1 hX [] dL_law__1161 lv_150 ob_30 rfl (C_X12_thrown (okGQ hX) rfl) (Nat.le_trans (by decide) hR.1) (Nat.le_trans (by decide) hR.2.1) rfl rfl rfl rfl ⟨by omega, by omega⟩ ?_
      refine Q_nm e3 ?_
      refine Q_iload hX 1 dL_law__1164 rfl ?_
      refine Q_icmp_eqT hX 1171 dL_law__1166 rfl rfl ?_
      refine Q_iload hX 1 dL_law__1171 rfl ?_
      refine Q_if_neT hX 1195 dL_law__1173 rfl (by decide) ?_
      refine Q_goto hX 2799 dL_law__1195 rfl ?_
      refine Q_sub [2, 3, 4, 5, 6] [(0, .ref 0), (1, .ref 1), (2, .ref 30), (3, .ref 50), (4, .int (nI j))] rfl ?_
      exact kk
set_option maxRecDepth 100000 in
set_option maxHeartbeats 200000 in
theorem LW_15 {X : CX} {R : Room} {Q : State → Prop} {kC sC Ls j n : Nat} {xs : Nat → Int32} {h h' : Hp} (hX : OkQ X cL_law_ 7 RL (some .boolean)) (hScr : ScrQ X Ls xs) (hL : Ls ≤ 3072) (hj : j + 6 ≤ Ls) (hR : 80 ≤ R.frames ∧ 80 * 80 ≤ R.locals ∧ kC + 1 ≤ R.cells ∧ sC + 6 ≤ R.slots) (hst : St_15 (fun i => xs (j + i)) h h' n) (kk : JQ X R Q (kC + n) (sC + 6 * n) 2799 [(0, .ref 0), (1, .ref 1), (2, .ref 30), (3, .ref 50), (4, .int (nI j))] [] h') : JQ X R Q kC sC 1198 [(0, .ref 0), (1, .ref 1), (2, .ref 30), (3, .ref 50), (4, .int (nI j))] [] h := by
  have hr1 := hR.2.2.1
  have hr2 := hR.2.2.2
  unfold St_15 at hst
  try dsimp only at hst
  rcases hst with ⟨v, h1, b, e1, e2, e3, e4, rfl⟩ | ⟨h1, b, e1, e2, e3, rfl⟩ | ⟨h1, b, e1, e2, e3, rfl⟩
  · refine Q_aload_n hX 1 dL_law__1198 rfl rfl ?_
    refine Q_aload_n hX 0 dL_law__1199 rfl rfl ?_
    refine Q_iload hX 4 dL_law__1200 rfl ?_
    refine Q_iconst hX 1 dL_law__1202 rfl ?_
    refine Q_iadd hX dL_law__1203 ?_
    refine Q_arg hX hScr hL hj 1 rfl (by decide) dL_law__1204 ?_
    refine Q_aload_n hX 3 dL_law__1205 rfl rfl ?_
    refine Q_W1 hX [.ref 1, .int (xs (j + 1)), .ref 50] dL_law__1206 lw_195 (CW_raze_ok (okGQ hX) e1) (Nat.le_trans (by decide) hR.1) (Nat.le_trans (by decide) hR.2.1) rfl rfl rfl rfl ⟨by omega, by omega⟩ ?_
    refine Q_istore hX [(5, .int 0), (0, .ref 0), (1, .ref 1), (2, .ref 30), (3, .ref 50), (4, .int (nI j))] dL_law__1209 rfl rfl ?_
    refine Q_aload_n hX 3 dL_law__1211 rfl rfl ?_
    refine Q_aload_n hX 1 dL_law__1212 rfl rfl ?_
    refine Q_iload hX 5 dL_law__1213 rfl ?_
    refine Q_iconst hX 1 dL_law__1215 rfl ?_
    refine Q_iadd hX dL_law__1216 ?_
    refine Q_arg hX hScr hL hj 1 rfl (by decide) dL_law__1217 ?_
    refine Q_V1 hX [.int (xs (j + 1))] dL_law__1218 lv_197 ob_30 rfl (C_X12_raze (okGQ hX) e2) (Nat.le_trans (by decide) hR.1) (Nat.le_trans (by decide) hR.2.1) rfl rfl rfl rfl ⟨by omega, by omega⟩ ?_
    refine Q_istore hX [(6, .int b), (5, .int 0), (0, .ref 0), (1, .ref 1), (2, .ref 30), (3, .ref 50), (4, .int (nI j))] dL_law__1221 rfl rfl ?_
    refine Q_aload_n hX 4 dL_law__1223 rfl rfl ?_
    refine Q_V1 hX [] dL_law__1224 lv_150 ob_30 rfl (C_X12_thrown (okGQ hX) rfl) (Nat.le_trans (by decide) hR.1) (Nat.le_trans (by decide) hR.2.1) rfl rfl rfl rfl ⟨by omega, by omega⟩ ?_
    refine Q_nm e3 ?_
    refine Q_iload hX 1 dL_law__1227 rfl ?_
    refine Q_icmp_eqT hX 1234 dL_law__1229 rfl rfl ?_
    refine Q_iload hX 1 dL_law__1234 rfl ?_
    refine Q_if_neF hX 1251 dL_law__1236 rfl rfl ?_
    refine Q_aload_n hX 5 dL_law__1239 rfl rfl ?_
    refine Q_iconst hX 0 dL_law__1240 rfl ?_
    refine Q_lald hX dL_law__1241 ar_50 (by decide) ?_
    refine Q_nmL (congrArg Int32.toInt64 e4) ?_
    refine Q_iload hX 0 dL_law__1242 rfl ?_
    refine Q_i2l hX dL_law__1244 ?_
    refine Q_lcmp hX dL_law__1245 ?_
    refine Q_if_eqT hX 1251 dL_law__1246 rfl (lg_cmp_self _) ?_
    refine Q_goto hX 2799 dL_law__1251 rfl ?_
    refine Q_sub [2, 3, 4, 5, 6] [(0, .ref 0), (1, .ref 1), (2, .ref 30), (3, .ref 50), (4, .int (nI j))] rfl ?_
    exact kk
  · refine Q_aload_n hX 1 dL_law__1198 rfl rfl ?_
    refine Q_aload_n hX 0 dL_law__1199 rfl rfl ?_
    refine Q_iload hX 4 dL_law__1200 rfl ?_
    refine Q_iconst hX 1 dL_law__1202 rfl ?_
    refine Q_iadd hX dL_law__1203 ?_
    refine Q_arg hX hScr hL hj 1 rfl (by decide) dL_law__1204 ?_
    refine Q_aload_n hX 3 dL_law__1205 rfl rfl ?_
    refine Q_W1 hX [.ref 1, .int (xs (j + 1)), .ref 50] dL_law__1206 lw_195 (CW_raze_e1 (okGQ hX) e1) (Nat.le_trans (by decide) hR.1) (Nat.le_trans (by decide) hR.2.1) rfl rfl rfl rfl ⟨by omega, by omega⟩ ?_
    refine Q_istore hX [(5, .int 1), (0, .ref 0), (1, .ref 1), (2, .ref 30), (3, .ref 50), (4, .int (nI j))] dL_law__1209 rfl rfl ?_
    refine Q_aload_n hX 3 dL_law__1211 rfl rfl ?_
    refine Q_aload_n hX 1 dL_law__1212 rfl rfl ?_
    refine Q_iload hX 5 dL_law__1213 rfl ?_
    refine Q_iconst hX 1 dL_law__1215 rfl ?_
    refine Q_iadd hX dL_law__1216 ?_
    refine Q_arg hX hScr hL hj 1 rfl (by decide) dL_law__1217 ?_
    refine Q_V1 hX [.int (xs (j + 1))] dL_law__1218 lv_197 ob_30 rfl (C_X12_raze (okGQ hX) e2) (Nat.le_trans (by decide) hR.1) (Nat.le_trans (by decide) hR.2.1) rfl rfl rfl rfl ⟨by omega, by omega⟩ ?_
    refine Q_istore hX [(6, .int b), (5, .int 1), (0, .ref 0), (1, .ref 1), (2, .ref 30), (3, .ref 50), (4, .int (nI j))] dL_law__1221 rfl rfl ?_
    refine Q_aload_n hX 4 dL_law__1223 rfl rfl ?_
    refine Q_V1 hX [] dL_law__1224 lv_150 ob_30 rfl (C_X12_thrown (okGQ hX) rfl) (Nat.le_trans (by decide) hR.1) (Nat.le_trans (by decide) hR.2.1) rfl rfl rfl rfl ⟨by omega, by omega⟩ ?_
    refine Q_nm e3 ?_
    refine Q_iload hX 1 dL_law__1227 rfl ?_
    refine Q_icmp_eqT hX 1234 dL_law__1229 rfl rfl ?_
    refine Q_iload hX 1 dL_law__1234 rfl ?_
    refine Q_if_neT hX 1251 dL_law__1236 rfl (by decide) ?_
    refine Q_goto hX 2799 dL_law__1251 rfl ?_
    refine Q_sub [2, 3, 4, 5, 6] [(0, .ref 0), (1, .ref 1), (2, .ref 30), (3, .ref 50), (4, .int (nI j))] rfl ?_
    exact kk
  · refine Q_aload_n hX 1 dL_law__1198 rfl rfl ?_
    refine Q_aload_n hX 0 dL_law__1199 rfl rfl ?_
    refine Q_iload hX 4 dL_law__1200 rfl ?_
    refine Q_iconst hX 1 dL_law__1202 rfl ?_
    refine Q_iadd hX dL_law__1203 ?_
    refine Q_arg hX hScr hL hj 1 rfl (by decide) dL_law__1204 ?_
    refine Q_aload_n hX 3 dL_law__1205 rfl rfl ?_
    refine Q_W1 hX [.ref 1, .int (xs (j + 1)), .ref 50] dL_law__1206 lw_195 (CW_raze_e2 (okGQ hX) e1) (Nat.le_trans (by decide) hR.1) (Nat.le_trans (by decide) hR.2.1) rfl rfl rfl rfl ⟨by omega, by omega⟩ ?_
    refine Q_istore hX [(5, .int 2), (0, .ref 0), (1, .ref 1), (2, .ref 30), (3, .ref 50), (4, .int (nI j))] dL_law__1209 rfl rfl ?_
    refine Q_aload_n hX 3 dL_law__1211 rfl rfl ?_
    refine Q_aload_n hX 1 dL_law__1212 rfl rfl ?_
    refine Q_iload hX 5 dL_law__1213 rfl ?_
    refine Q_iconst hX 1 dL_law__1215 rfl ?_
    refine Q_iadd hX dL_law__1216 ?_
    refine Q_arg hX hScr hL hj 1 rfl (by decide) dL_law__1217 ?_
    refine Q_V1 hX [.int (xs (j + 1))] dL_law__1218 lv_197 ob_30 rfl (C_X12_raze (okGQ hX) e2) (Nat.le_trans (by decide) hR.1) (Nat.le_trans (by decide) hR.2.1) rfl rfl rfl rfl ⟨by omega, by omega⟩ ?_
    refine Q_istore hX [(6, .int b), (5, .int 2), (0, .ref 0), (1, .ref 1), (2, .ref 30), (3, .ref 50), (4, .int (nI j))] dL_law__1221 rfl rfl ?_
    refine Q_aload_n hX 4 dL_law__1223 rfl rfl ?_
    refine Q_V1 hX [] dL_law__1224 lv_150 ob_30 rfl (C_X12_thrown (okGQ hX) rfl) (Nat.le_trans (by decide) hR.1) (Nat.le_trans (by decide) hR.2.1) rfl rfl rfl rfl ⟨by omega, by omega⟩ ?_
    refine Q_nm e3 ?_
    refine Q_iload hX 1 dL_law__1227 rfl ?_
    refine Q_icmp_eqT hX 1234 dL_law__1229 rfl rfl ?_
    refine Q_iload hX 1 dL_law__1234 rfl ?_
    refine Q_if_neT hX 1251 dL_law__1236 rfl (by decide) ?_
    refine Q_goto hX 2799 dL_law__1251 rfl ?_
    refine Q_sub [2, 3, 4, 5, 6] [(0, .ref 0), (1, .ref 1), (2, .ref 30), (3, .ref 50), (4, .int (nI j))] rfl ?_
    exact kk
set_option maxRecDepth 100000 in
set_option maxHeartbeats 200000 in
theorem LW_16 {X : CX} {R : Room} {Q : State → Prop} {kC sC Ls j n : Nat} {xs : Nat → Int32} {h h' : Hp} (hX : OkQ X cL_law_ 7 RL (some .boolean)) (hScr : ScrQ X Ls xs) (hL : Ls ≤ 3072) (hj : j + 6 ≤ Ls) (hR : 80 ≤ R.frames ∧ 80 * 80 ≤ R.locals ∧ kC + 1 ≤ R.cells ∧ sC + 6 ≤ R.slots) (hst : St_16 (fun i => xs (j + i)) h h' n) (kk : JQ X R Q (kC + n) (sC + 6 * n) 2799 [(0, .ref 0), (1, .ref 1), (2, .ref 30), (3, .ref 50), (4, .int (nI j))] [] h') : JQ X R Q kC sC 1254 [(0, .ref 0), (1, .ref 1), (2, .ref 30), (3, .ref 50), (4, .int (nI j))] [] h := by
  have hr1 := hR.2.2.1
  have hr2 := hR.2.2.2
  unfold St_16 at hst
  try dsimp only at hst
  rcases hst with ⟨v, h1, b, e1, e2, e3, e4, rfl⟩ | ⟨h1, b, e1, e2, e3, rfl⟩
  · refine Q_aload_n hX 1 dL_law__1254 rfl rfl ?_
    refine Q_aload_n hX 0 dL_law__1255 rfl rfl ?_
    refine Q_iload hX 4 dL_law__1256 rfl ?_
    refine Q_iconst hX 1 dL_law__1258 rfl ?_
    refine Q_iadd hX dL_law__1259 ?_
    refine Q_arg hX hScr hL hj 1 rfl (by decide) dL_law__1260 ?_
    refine Q_aload_n hX 3 dL_law__1261 rfl rfl ?_
    refine Q_W1 hX [.ref 1, .int (xs (j + 1)), .ref 50] dL_law__1262 lw_198 (CW_falls_ok (okGQ hX) e1) (Nat.le_trans (by decide) hR.1) (Nat.le_trans (by decide) hR.2.1) rfl rfl rfl rfl ⟨by omega, by omega⟩ ?_
    refine Q_istore hX [(5, .int 0), (0, .ref 0), (1, .ref 1), (2, .ref 30), (3, .ref 50), (4, .int (nI j))] dL_law__1265 rfl rfl ?_
    refine Q_aload_n hX 3 dL_law__1267 rfl rfl ?_
    refine Q_aload_n hX 1 dL_law__1268 rfl rfl ?_
    refine Q_iload hX 5 dL_law__1269 rfl ?_
    refine Q_iconst hX 1 dL_law__1271 rfl ?_
    refine Q_iadd hX dL_law__1272 ?_
    refine Q_arg hX hScr hL hj 1 rfl (by decide) dL_law__1273 ?_
    refine Q_V1 hX [.int (xs (j + 1))] dL_law__1274 lv_200 ob_30 rfl (C_X12_falls (okGQ hX) e2) (Nat.le_trans (by decide) hR.1) (Nat.le_trans (by decide) hR.2.1) rfl rfl rfl rfl ⟨by omega, by omega⟩ ?_
    refine Q_istore hX [(6, .int b), (5, .int 0), (0, .ref 0), (1, .ref 1), (2, .ref 30), (3, .ref 50), (4, .int (nI j))] dL_law__1277 rfl rfl ?_
    refine Q_aload_n hX 4 dL_law__1279 rfl rfl ?_
    refine Q_V1 hX [] dL_law__1280 lv_150 ob_30 rfl (C_X12_thrown (okGQ hX) rfl) (Nat.le_trans (by decide) hR.1) (Nat.le_trans (by decide) hR.2.1) rfl rfl rfl rfl ⟨by omega, by omega⟩ ?_
    refine Q_nm e3 ?_
    refine Q_iload hX 1 dL_law__1283 rfl ?_
    refine Q_icmp_eqT hX 1290 dL_law__1285 rfl rfl ?_
    refine Q_iload hX 1 dL_law__1290 rfl ?_
    refine Q_if_neF hX 1307 dL_law__1292 rfl rfl ?_
    refine Q_aload_n hX 5 dL_law__1295 rfl rfl ?_
    refine Q_iconst hX 0 dL_law__1296 rfl ?_
    refine Q_lald hX dL_law__1297 ar_50 (by decide) ?_
    refine Q_nmL (congrArg Int32.toInt64 e4) ?_
    refine Q_iload hX 0 dL_law__1298 rfl ?_
    refine Q_i2l hX dL_law__1300 ?_
    refine Q_lcmp hX dL_law__1301 ?_
    refine Q_if_eqT hX 1307 dL_law__1302 rfl (lg_cmp_self _) ?_
    refine Q_goto hX 2799 dL_law__1307 rfl ?_
    refine Q_sub [2, 3, 4, 5, 6] [(0, .ref 0), (1, .ref 1), (2, .ref 30), (3, .ref 50), (4, .int (nI j))] rfl ?_
    exact kk
  · refine Q_aload_n hX 1 dL_law__1254 rfl rfl ?_
    refine Q_aload_n hX 0 dL_law__1255 rfl rfl ?_
    refine Q_iload hX 4 dL_law__1256 rfl ?_
    refine Q_iconst hX 1 dL_law__1258 rfl ?_
    refine Q_iadd hX dL_law__1259 ?_
    refine Q_arg hX hScr hL hj 1 rfl (by decide) dL_law__1260 ?_
    refine Q_aload_n hX 3 dL_law__1261 rfl rfl ?_
    refine Q_W1 hX [.ref 1, .int (xs (j + 1)), .ref 50] dL_law__1262 lw_198 (CW_falls_e1 (okGQ hX) e1) (Nat.le_trans (by decide) hR.1) (Nat.le_trans (by decide) hR.2.1) rfl rfl rfl rfl ⟨by omega, by omega⟩ ?_
    refine Q_istore hX [(5, .int 1), (0, .ref 0), (1, .ref 1), (2, .ref 30), (3, .ref 50), (4, .int (nI j))] dL_law__1265 rfl rfl ?_
    refine Q_aload_n hX 3 dL_law__1267 rfl rfl ?_
    refine Q_aload_n hX 1 dL_law__1268 rfl rfl ?_
    refine Q_iload hX 5 dL_law__1269 rfl ?_
    refine Q_iconst hX 1 dL_law__1271 rfl ?_
    refine Q_iadd hX dL_law__1272 ?_
    refine Q_arg hX hScr hL hj 1 rfl (by decide) dL_law__1273 ?_
    refine Q_V1 hX [.int (xs (j + 1))] dL_law__1274 lv_200 ob_30 rfl (C_X12_falls (okGQ hX) e2) (Nat.le_trans (by decide) hR.1) (Nat.le_trans (by decide) hR.2.1) rfl rfl rfl rfl ⟨by omega, by omega⟩ ?_
    refine Q_istore hX [(6, .int b), (5, .int 1), (0, .ref 0), (1, .ref 1), (2, .ref 30), (3, .ref 50), (4, .int (nI j))] dL_law__1277 rfl rfl ?_
    refine Q_aload_n hX 4 dL_law__1279 rfl rfl ?_
    refine Q_V1 hX [] dL_law__1280 lv_150 ob_30 rfl (C_X12_thrown (okGQ hX) rfl) (Nat.le_trans (by decide) hR.1) (Nat.le_trans (by decide) hR.2.1) rfl rfl rfl rfl ⟨by omega, by omega⟩ ?_
    refine Q_nm e3 ?_
    refine Q_iload hX 1 dL_law__1283 rfl ?_
    refine Q_icmp_eqT hX 1290 dL_law__1285 rfl rfl ?_
    refine Q_iload hX 1 dL_law__1290 rfl ?_
    refine Q_if_neT hX 1307 dL_law__1292 rfl (by decide) ?_
    refine Q_goto hX 2799 dL_law__1307 rfl ?_
    refine Q_sub [2, 3, 4, 5, 6] [(0, .ref 0), (1, .ref 1), (2, .ref 30), (3, .ref 50), (4, .int (nI j))] rfl ?_
    exact kk
set_option maxRecDepth 100000 in
set_option maxHeartbeats 200000 in
theorem LW_17 {X : CX} {R : Room} {Q : State → Prop} {kC sC Ls j n : Nat} {xs : Nat → Int32} {h h' : Hp} (hX : OkQ X cL_law_ 7 RL (some .boolean)) (hScr : ScrQ X Ls xs) (hL : Ls ≤ 3072) (hj : j + 6 ≤ Ls) (hR : 80 ≤ R.frames ∧ 80 * 80 ≤ R.locals ∧ kC + 1 ≤ R.cells ∧ sC + 6 ≤ R.slots) (hst : St_17 (fun i => xs (j + i)) h h' n) (kk : JQ X R Q (kC + n) (sC + 6 * n) 2799 [(0, .ref 0), (1, .ref 1), (2, .ref 30), (3, .ref 50), (4, .int (nI j))] [] h') : JQ X R Q kC sC 1310 [(0, .ref 0), (1, .ref 1), (2, .ref 30), (3, .ref 50), (4, .int (nI j))] [] h := by
  have hr1 := hR.2.2.1
  have hr2 := hR.2.2.2
  unfold St_17 at hst
  try dsimp only at hst
  rcases hst with ⟨v, h1, b, e1, e2, e3, e4, rfl⟩ | ⟨h1, b, e1, e2, e3, rfl⟩
  · refine Q_aload_n hX 1 dL_law__1310 rfl rfl ?_
    refine Q_aload_n hX 0 dL_law__1311 rfl rfl ?_
    refine Q_iload hX 4 dL_law__1312 rfl ?_
    refine Q_iconst hX 1 dL_law__1314 rfl ?_
    refine Q_iadd hX dL_law__1315 ?_
    refine Q_arg hX hScr hL hj 1 rfl (by decide) dL_law__1316 ?_
    refine Q_aload_n hX 3 dL_law__1317 rfl rfl ?_
    refine Q_W1 hX [.ref 1, .int (xs (j + 1)), .ref 50] dL_law__1318 lw_201 (CW_rounds_ok (okGQ hX) e1) (Nat.le_trans (by decide) hR.1) (Nat.le_trans (by decide) hR.2.1) rfl rfl rfl rfl ⟨by omega, by omega⟩ ?_
    refine Q_istore hX [(5, .int 0), (0, .ref 0), (1, .ref 1), (2, .ref 30), (3, .ref 50), (4, .int (nI j))] dL_law__1321 rfl rfl ?_
    refine Q_aload_n hX 3 dL_law__1323 rfl rfl ?_
    refine Q_aload_n hX 1 dL_law__1324 rfl rfl ?_
    refine Q_iload hX 5 dL_law__1325 rfl ?_
    refine Q_iconst hX 1 dL_law__1327 rfl ?_
    refine Q_iadd hX dL_law__1328 ?_
    refine Q_arg hX hScr hL hj 1 rfl (by decide) dL_law__1329 ?_
    refine Q_V1 hX [.int (xs (j + 1))] dL_law__1330 lv_203 ob_30 rfl (C_X12_rounds (okGQ hX) e2) (Nat.le_trans (by decide) hR.1) (Nat.le_trans (by decide) hR.2.1) rfl rfl rfl rfl ⟨by omega, by omega⟩ ?_
    refine Q_istore hX [(6, .int b), (5, .int 0), (0, .ref 0), (1, .ref 1), (2, .ref 30), (3, .ref 50), (4, .int (nI j))] dL_law__1333 rfl rfl ?_
    refine Q_aload_n hX 4 dL_law__1335 rfl rfl ?_
    refine Q_V1 hX [] dL_law__1336 lv_150 ob_30 rfl (C_X12_thrown (okGQ hX) rfl) (Nat.le_trans (by decide) hR.1) (Nat.le_trans (by decide) hR.2.1) rfl rfl rfl rfl ⟨by omega, by omega⟩ ?_
    refine Q_nm e3 ?_
    refine Q_iload hX 1 dL_law__1339 rfl ?_
    refine Q_icmp_eqT hX 1346 dL_law__1341 rfl rfl ?_
    refine Q_iload hX 1 dL_law__1346 rfl ?_
    refine Q_if_neF hX 1363 dL_law__1348 rfl rfl ?_
    refine Q_aload_n hX 5 dL_law__1351 rfl rfl ?_
    refine Q_iconst hX 0 dL_law__1352 rfl ?_
    refine Q_lald hX dL_law__1353 ar_50 (by decide) ?_
    refine Q_nmL (congrArg Int32.toInt64 e4) ?_
    refine Q_iload hX 0 dL_law__1354 rfl ?_
    refine Q_i2l hX dL_law__1356 ?_
    refine Q_lcmp hX dL_law__1357 ?_
    refine Q_if_eqT hX 1363 dL_law__1358 rfl (lg_cmp_self _) ?_
    refine Q_goto hX 2799 dL_law__1363 rfl ?_
    refine Q_sub [2, 3, 4, 5, 6] [(0, .ref 0), (1, .ref 1), (2, .ref 30), (3, .ref 50), (4, .int (nI j))] rfl ?_
    exact kk
  · refine Q_aload_n hX 1 dL_law__1310 rfl rfl ?_
    refine Q_aload_n hX 0 dL_law__1311 rfl rfl ?_
    refine Q_iload hX 4 dL_law__1312 rfl ?_
    refine Q_iconst hX 1 dL_law__1314 rfl ?_
    refine Q_iadd hX dL_law__1315 ?_
    refine Q_arg hX hScr hL hj 1 rfl (by decide) dL_law__1316 ?_
    refine Q_aload_n hX 3 dL_law__1317 rfl rfl ?_
    refine Q_W1 hX [.ref 1, .int (xs (j + 1)), .ref 50] dL_law__1318 lw_201 (CW_rounds_e1 (okGQ hX) e1) (Nat.le_trans (by decide) hR.1) (Nat.le_trans (by decide) hR.2.1) rfl rfl rfl rfl ⟨by omega, by omega⟩ ?_
    refine Q_istore hX [(5, .int 1), (0, .ref 0), (1, .ref 1), (2, .ref 30), (3, .ref 50), (4, .int (nI j))] dL_law__1321 rfl rfl ?_
    refine Q_aload_n hX 3 dL_law__1323 rfl rfl ?_
    refine Q_aload_n hX 1 dL_law__1324 rfl rfl ?_
    refine Q_iload hX 5 dL_law__1325 rfl ?_
    refine Q_iconst hX 1 dL_law__1327 rfl ?_
    refine Q_iadd hX dL_law__1328 ?_
    refine Q_arg hX hScr hL hj 1 rfl (by decide) dL_law__1329 ?_
    refine Q_V1 hX [.int (xs (j + 1))] dL_law__1330 lv_203 ob_30 rfl (C_X12_rounds (okGQ hX) e2) (Nat.le_trans (by decide) hR.1) (Nat.le_trans (by decide) hR.2.1) rfl rfl rfl rfl ⟨by omega, by omega⟩ ?_
    refine Q_istore hX [(6, .int b), (5, .int 1), (0, .ref 0), (1, .ref 1), (2, .ref 30), (3, .ref 50), (4, .int (nI j))] dL_law__1333 rfl rfl ?_
    refine Q_aload_n hX 4 dL_law__1335 rfl rfl ?_
    refine Q_V1 hX [] dL_law__1336 lv_150 ob_30 rfl (C_X12_thrown (okGQ hX) rfl) (Nat.le_trans (by decide) hR.1) (Nat.le_trans (by decide) hR.2.1) rfl rfl rfl rfl ⟨by omega, by omega⟩ ?_
    refine Q_nm e3 ?_
    refine Q_iload hX 1 dL_law__1339 rfl ?_
    refine Q_icmp_eqT hX 1346 dL_law__1341 rfl rfl ?_
    refine Q_iload hX 1 dL_law__1346 rfl ?_
    refine Q_if_neT hX 1363 dL_law__1348 rfl (by decide) ?_
    refine Q_goto hX 2799 dL_law__1363 rfl ?_
    refine Q_sub [2, 3, 4, 5, 6] [(0, .ref 0), (1, .ref 1), (2, .ref 30), (3, .ref 50), (4, .int (nI j))] rfl ?_
    exact kk
set_option maxRecDepth 100000 in
set_option maxHeartbeats 200000 in
theorem LW_18 {X : CX} {R : Room} {Q : State → Prop} {kC sC Ls j n : Nat} {xs : Nat → Int32} {h h' : Hp} (hX : OkQ X cL_law_ 7 RL (some .boolean)) (hScr : ScrQ X Ls xs) (hL : Ls ≤ 3072) (hj : j + 6 ≤ Ls) (hR : 80 ≤ R.frames ∧ 80 * 80 ≤ R.locals ∧ kC + 1 ≤ R.cells ∧ sC + 6 ≤ R.slots) (hst : St_18 (fun i => xs (j + i)) h h' n) (kk : JQ X R Q (kC + n) (sC + 6 * n) 2799 [(0, .ref 0), (1, .ref 1), (2, .ref 30), (3, .ref 50), (4, .int (nI j))] [] h') : JQ X R Q kC sC 1366 [(0, .ref 0), (1, .ref 1), (2, .ref 30), (3, .ref 50), (4, .int (nI j))] [] h := by
  have hr1 := hR.2.2.1
  have hr2 := hR.2.2.2
  unfold St_18 at hst
  try dsimp only at hst
  rcases hst with ⟨v, h1, b, e1, e2, e3, e4, rfl⟩ | ⟨h1, b, e1, e2, e3, rfl⟩ | ⟨h1, b, e1, e2, e3, rfl⟩
  · refine Q_aload_n hX 1 dL_law__1366 rfl rfl ?_
    refine Q_aload_n hX 0 dL_law__1367 rfl rfl ?_
    refine Q_iload hX 4 dL_law__1368 rfl ?_
    refine Q_iconst hX 1 dL_law__1370 rfl ?_
    refine Q_iadd hX dL_law__1371 ?_
    refine Q_arg hX hScr hL hj 1 rfl (by decide) dL_law__1372 ?_
    refine Q_aload_n hX 3 dL_law__1373 rfl rfl ?_
    refine Q_W1 hX [.ref 1, .int (xs (j + 1)), .ref 50] dL_law__1374 lw_204 (CW_pulls_ok (okGQ hX) e1) (Nat.le_trans (by decide) hR.1) (Nat.le_trans (by decide) hR.2.1) rfl rfl rfl rfl ⟨by omega, by omega⟩ ?_
    refine Q_istore hX [(5, .int 0), (0, .ref 0), (1, .ref 1), (2, .ref 30), (3, .ref 50), (4, .int (nI j))] dL_law__1377 rfl rfl ?_
    refine Q_aload_n hX 3 dL_law__1379 rfl rfl ?_
    refine Q_aload_n hX 1 dL_law__1380 rfl rfl ?_
    refine Q_iload hX 5 dL_law__1381 rfl ?_
    refine Q_iconst hX 1 dL_law__1383 rfl ?_
    refine Q_iadd hX dL_law__1384 ?_
    refine Q_arg hX hScr hL hj 1 rfl (by decide) dL_law__1385 ?_
    refine Q_V1 hX [.int (xs (j + 1))] dL_law__1386 lv_206 ob_30 rfl (C_X12_pulls (okGQ hX) e2) (Nat.le_trans (by decide) hR.1) (Nat.le_trans (by decide) hR.2.1) rfl rfl rfl rfl ⟨by omega, by omega⟩ ?_
    refine Q_istore hX [(6, .int b), (5, .int 0), (0, .ref 0), (1, .ref 1), (2, .ref 30), (3, .ref 50), (4, .int (nI j))] dL_law__1389 rfl rfl ?_
    refine Q_aload_n hX 4 dL_law__1391 rfl rfl ?_
    refine Q_V1 hX [] dL_law__1392 lv_150 ob_30 rfl (C_X12_thrown (okGQ hX) rfl) (Nat.le_trans (by decide) hR.1) (Nat.le_trans (by decide) hR.2.1) rfl rfl rfl rfl ⟨by omega, by omega⟩ ?_
    refine Q_nm e3 ?_
    refine Q_iload hX 1 dL_law__1395 rfl ?_
    refine Q_icmp_eqT hX 1402 dL_law__1397 rfl rfl ?_
    refine Q_iload hX 1 dL_law__1402 rfl ?_
    refine Q_if_neF hX 1419 dL_law__1404 rfl rfl ?_
    refine Q_aload_n hX 5 dL_law__1407 rfl rfl ?_
    refine Q_iconst hX 0 dL_law__1408 rfl ?_
    refine Q_lald hX dL_law__1409 ar_50 (by decide) ?_
    refine Q_nmL (congrArg Int32.toInt64 e4) ?_
    refine Q_iload hX 0 dL_law__1410 rfl ?_
    refine Q_i2l hX dL_law__1412 ?_
    refine Q_lcmp hX dL_law__1413 ?_
    refine Q_if_eqT hX 1419 dL_law__1414 rfl (lg_cmp_self _) ?_
    refine Q_goto hX 2799 dL_law__1419 rfl ?_
    refine Q_sub [2, 3, 4, 5, 6] [(0, .ref 0), (1, .ref 1), (2, .ref 30), (3, .ref 50), (4, .int (nI j))] rfl ?_
    exact kk
  · refine Q_aload_n hX 1 dL_law__1366 rfl rfl ?_
    refine Q_aload_n hX 0 dL_law__1367 rfl rfl ?_
    refine Q_iload hX 4 dL_law__1368 rfl ?_
    refine Q_iconst hX 1 dL_law__1370 rfl ?_
    refine Q_iadd hX dL_law__1371 ?_
    refine Q_arg hX hScr hL hj 1 rfl (by decide) dL_law__1372 ?_
    refine Q_aload_n hX 3 dL_law__1373 rfl rfl ?_
    refine Q_W1 hX [.ref 1, .int (xs (j + 1)), .ref 50] dL_law__1374 lw_204 (CW_pulls_e1 (okGQ hX) e1) (Nat.le_trans (by decide) hR.1) (Nat.le_trans (by decide) hR.2.1) rfl rfl rfl rfl ⟨by omega, by omega⟩ ?_
    refine Q_istore hX [(5, .int 1), (0, .ref 0), (1, .ref 1), (2, .ref 30), (3, .ref 50), (4, .int (nI j))] dL_law__1377 rfl rfl ?_
    refine Q_aload_n hX 3 dL_law__1379 rfl rfl ?_
    refine Q_aload_n hX 1 dL_law__1380 rfl rfl ?_
    refine Q_iload hX 5 dL_law__1381 rfl ?_
    refine Q_iconst hX 1 dL_law__1383 rfl ?_
    refine Q_iadd hX dL_law__1384 ?_
    refine Q_arg hX hScr hL hj 1 rfl (by decide) dL_law__1385 ?_
    refine Q_V1 hX [.int (xs (j + 1))] dL_law__1386 lv_206 ob_30 rfl (C_X12_pulls (okGQ hX) e2) (Nat.le_trans (by decide) hR.1) (Nat.le_trans (by decide) hR.2.1) rfl rfl rfl rfl ⟨by omega, by omega⟩ ?_
    refine Q_istore hX [(6, .int b), (5, .int 1), (0, .ref 0), (1, .ref 1), (2, .ref 30), (3, .ref 50), (4, .int (nI j))] dL_law__1389 rfl rfl ?_
    refine Q_aload_n hX 4 dL_law__1391 rfl rfl ?_
    refine Q_V1 hX [] dL_law__1392 lv_150 ob_30 rfl (C_X12_thrown (okGQ hX) rfl) (Nat.le_trans (by decide) hR.1) (Nat.le_trans (by decide) hR.2.1) rfl rfl rfl rfl ⟨by omega, by omega⟩ ?_
    refine Q_nm e3 ?_
    refine Q_iload hX 1 dL_law__1395 rfl ?_
    refine Q_icmp_eqT hX 1402 dL_law__1397 rfl rfl ?_
    refine Q_iload hX 1 dL_law__1402 rfl ?_
    refine Q_if_neT hX 1419 dL_law__1404 rfl (by decide) ?_
    refine Q_goto hX 2799 dL_law__1419 rfl ?_
    refine Q_sub [2, 3, 4, 5, 6] [(0, .ref 0), (1, .ref 1), (2, .ref 30), (3, .ref 50), (4, .int (nI j))] rfl ?_
    exact kk
  · refine Q_aload_n hX 1 dL_law__1366 rfl rfl ?_
    refine Q_aload_n hX 0 dL_law__1367 rfl rfl ?_
    refine Q_iload hX 4 dL_law__1368 rfl ?_
    refine Q_iconst hX 1 dL_law__1370 rfl ?_
    refine Q_iadd hX dL_law__1371 ?_
    refine Q_arg hX hScr hL hj 1 rfl (by decide) dL_law__1372 ?_
    refine Q_aload_n hX 3 dL_law__1373 rfl rfl ?_
    refine Q_W1 hX [.ref 1, .int (xs (j + 1)), .ref 50] dL_law__1374 lw_204 (CW_pulls_e2 (okGQ hX) e1) (Nat.le_trans (by decide) hR.1) (Nat.le_trans (by decide) hR.2.1) rfl rfl rfl rfl ⟨by omega, by omega⟩ ?_
    refine Q_istore hX [(5, .int 2), (0, .ref 0), (1, .ref 1), (2, .ref 30), (3, .ref 50), (4, .int (nI j))] dL_law__1377 rfl rfl ?_
    refine Q_aload_n hX 3 dL_law__1379 rfl rfl ?_
    refine Q_aload_n hX 1 dL_law__1380 rfl rfl ?_
    refine Q_iload hX 5 dL_law__1381 rfl ?_
    refine Q_iconst hX 1 dL_law__1383 rfl ?_
    refine Q_iadd hX dL_law__1384 ?_
    refine Q_arg hX hScr hL hj 1 rfl (by decide) dL_law__1385 ?_
    refine Q_V1 hX [.int (xs (j + 1))] dL_law__1386 lv_206 ob_30 rfl (C_X12_pulls (okGQ hX) e2) (Nat.le_trans (by decide) hR.1) (Nat.le_trans (by decide) hR.2.1) rfl rfl rfl rfl ⟨by omega, by omega⟩ ?_
    refine Q_istore hX [(6, .int b), (5, .int 2), (0, .ref 0), (1, .ref 1), (2, .ref 30), (3, .ref 50), (4, .int (nI j))] dL_law__1389 rfl rfl ?_
    refine Q_aload_n hX 4 dL_law__1391 rfl rfl ?_
    refine Q_V1 hX [] dL_law__1392 lv_150 ob_30 rfl (C_X12_thrown (okGQ hX) rfl) (Nat.le_trans (by decide) hR.1) (Nat.le_trans (by decide) hR.2.1) rfl rfl rfl rfl ⟨by omega, by omega⟩ ?_
    refine Q_nm e3 ?_
    refine Q_iload hX 1 dL_law__1395 rfl ?_
    refine Q_icmp_eqT hX 1402 dL_law__1397 rfl rfl ?_
    refine Q_iload hX 1 dL_law__1402 rfl ?_
    refine Q_if_neT hX 1419 dL_law__1404 rfl (by decide) ?_
    refine Q_goto hX 2799 dL_law__1419 rfl ?_
    refine Q_sub [2, 3, 4, 5, 6] [(0, .ref 0), (1, .ref 1), (2, .ref 30), (3, .ref 50), (4, .int (nI j))] rfl ?_
    exact kk
set_option maxRecDepth 100000 in
set_option maxHeartbeats 200000 in
theorem LW_19 {X : CX} {R : Room} {Q : State → Prop} {kC sC Ls j n : Nat} {xs : Nat → Int32} {h h' : Hp} (hX : OkQ X cL_law_ 7 RL (some .boolean)) (hScr : ScrQ X Ls xs) (hL : Ls ≤ 3072) (hj : j + 6 ≤ Ls) (hR : 80 ≤ R.frames ∧ 80 * 80 ≤ R.locals ∧ kC + 1 ≤ R.cells ∧ sC + 6 ≤ R.slots) (hst : St_19 (fun i => xs (j + i)) h h' n) (kk : JQ X R Q (kC + n) (sC + 6 * n) 2799 [(0, .ref 0), (1, .ref 1), (2, .ref 30), (3, .ref 50), (4, .int (nI j))] [] h') : JQ X R Q kC sC 1422 [(0, .ref 0), (1, .ref 1), (2, .ref 30), (3, .ref 50), (4, .int (nI j))] [] h := by
  have hr1 := hR.2.2.1
  have hr2 := hR.2.2.2
  unfold St_19 at hst
  try dsimp only at hst
  obtain ⟨v, h1, e1, e2, rfl⟩ := hst
  refine Q_aload_n hX 1 dL_law__1422 rfl rfl ?_
  refine Q_V1 hX [] dL_law__1423 lv_207 ob_1 rfl (C_X11_key (okGQ hX) e1) (Nat.le_trans (by decide) hR.1) (Nat.le_trans (by decide) hR.2.1) rfl rfl rfl rfl ⟨by omega, by omega⟩ ?_
  refine Q_aload_n hX 2 dL_law__1426 rfl rfl ?_
  refine Q_V1 hX [] dL_law__1427 lv_210 ob_30 rfl (C_X12_key (okGQ hX) e2) (Nat.le_trans (by decide) hR.1) (Nat.le_trans (by decide) hR.2.1) rfl rfl rfl rfl ⟨by omega, by omega⟩ ?_
  refine Q_icmp_eqT hX 2799 dL_law__1430 rfl rfl ?_
  exact kk
set_option maxRecDepth 100000 in
set_option maxHeartbeats 200000 in
theorem LW_20 {X : CX} {R : Room} {Q : State → Prop} {kC sC Ls j n : Nat} {xs : Nat → Int32} {h h' : Hp} (hX : OkQ X cL_law_ 7 RL (some .boolean)) (hScr : ScrQ X Ls xs) (hL : Ls ≤ 3072) (hj : j + 6 ≤ Ls) (hR : 80 ≤ R.frames ∧ 80 * 80 ≤ R.locals ∧ kC + 1 ≤ R.cells ∧ sC + 6 ≤ R.slots) (hst : St_20 (fun i => xs (j + i)) h h' n) (kk : JQ X R Q (kC + n) (sC + 6 * n) 2799 [(0, .ref 0), (1, .ref 1), (2, .ref 30), (3, .ref 50), (4, .int (nI j))] [] h') : JQ X R Q kC sC 1435 [(0, .ref 0), (1, .ref 1), (2, .ref 30), (3, .ref 50), (4, .int (nI j))] [] h := by
  have hr1 := hR.2.2.1
  have hr2 := hR.2.2.2
  unfold St_20 at hst
  try dsimp only at hst
  obtain ⟨v, h1, e1, e2, rfl⟩ := hst
  refine Q_aload_n hX 1 dL_law__1435 rfl rfl ?_
  refine Q_V1 hX [] dL_law__1436 lv_211 ob_1 rfl (C_X11_spare (okGQ hX) e1) (Nat.le_trans (by decide) hR.1) (Nat.le_trans (by decide) hR.2.1) rfl rfl rfl rfl ⟨by omega, by omega⟩ ?_
  refine Q_aload_n hX 2 dL_law__1439 rfl rfl ?_
  refine Q_V1 hX [] dL_law__1440 lv_214 ob_30 rfl (C_X12_spare (okGQ hX) e2) (Nat.le_trans (by decide) hR.1) (Nat.le_trans (by decide) hR.2.1) rfl rfl rfl rfl ⟨by omega, by omega⟩ ?_
  refine Q_icmp_eqT hX 2799 dL_law__1443 rfl rfl ?_
  exact kk
set_option maxRecDepth 100000 in
set_option maxHeartbeats 200000 in
theorem LW_21 {X : CX} {R : Room} {Q : State → Prop} {kC sC Ls j n : Nat} {xs : Nat → Int32} {h h' : Hp} (hX : OkQ X cL_law_ 7 RL (some .boolean)) (hScr : ScrQ X Ls xs) (hL : Ls ≤ 3072) (hj : j + 6 ≤ Ls) (hR : 80 ≤ R.frames ∧ 80 * 80 ≤ R.locals ∧ kC + 1 ≤ R.cells ∧ sC + 6 ≤ R.slots) (hst : St_21 (fun i => xs (j + i)) h h' n) (kk : JQ X R Q (kC + n) (sC + 6 * n) 2799 [(0, .ref 0), (1, .ref 1), (2, .ref 30), (3, .ref 50), (4, .int (nI j))] [] h') : JQ X R Q kC sC 1448 [(0, .ref 0), (1, .ref 1), (2, .ref 30), (3, .ref 50), (4, .int (nI j))] [] h := by
  have hr1 := hR.2.2.1
  have hr2 := hR.2.2.2
  unfold St_21 at hst
  try dsimp only at hst
  obtain ⟨v, h1, e1, e2, rfl⟩ := hst
  refine Q_aload_n hX 1 dL_law__1448 rfl rfl ?_
  refine Q_V1 hX [] dL_law__1449 lv_215 ob_1 rfl (C_X11_weakest (okGQ hX) e1) (Nat.le_trans (by decide) hR.1) (Nat.le_trans (by decide) hR.2.1) rfl rfl rfl rfl ⟨by omega, by omega⟩ ?_
  refine Q_aload_n hX 2 dL_law__1452 rfl rfl ?_
  refine Q_V1 hX [] dL_law__1453 lv_218 ob_30 rfl (C_X12_weakest (okGQ hX) e2) (Nat.le_trans (by decide) hR.1) (Nat.le_trans (by decide) hR.2.1) rfl rfl rfl rfl ⟨by omega, by omega⟩ ?_
  refine Q_icmp_eqT hX 2799 dL_law__1456 rfl rfl ?_
  exact kk
set_option maxRecDepth 100000 in
set_option maxHeartbeats 200000 in
theorem LW_22 {X : CX} {R : Room} {Q : State → Prop} {kC sC Ls j n : Nat} {xs : Nat → Int32} {h h' : Hp} (hX : OkQ X cL_law_ 7 RL (some .boolean)) (hScr : ScrQ X Ls xs) (hL : Ls ≤ 3072) (hj : j + 6 ≤ Ls) (hR : 80 ≤ R.frames ∧ 80 * 80 ≤ R.locals ∧ kC + 1 ≤ R.cells ∧ sC + 6 ≤ R.slots) (hst : St_22 (fun i => xs (j + i)) h h' n) (kk : JQ X R Q (kC + n) (sC + 6 * n) 2799 [(0, .ref 0), (1, .ref 1), (2, .ref 30), (3, .ref 50), (4, .int (nI j))] [] h') : JQ X R Q kC sC 1461 [(0, .ref 0), (1, .ref 1), (2, .ref 30), (3, .ref 50), (4, .int (nI j))] [] h := by
  have hr1 := hR.2.2.1
  have hr2 := hR.2.2.2
  unfold St_22 at hst
  try dsimp only at hst
  rcases hst with ⟨v, h1, b, e1, e2, e3, e4, rfl⟩ | ⟨h1, b, e1, e2, e3, rfl⟩
  · refine Q_aload_n hX 1 dL_law__1461 rfl rfl ?_
    refine Q_aload_n hX 0 dL_law__1462 rfl rfl ?_
    refine Q_iload hX 4 dL_law__1463 rfl ?_
    refine Q_iconst hX 1 dL_law__1465 rfl ?_
    refine Q_iadd hX dL_law__1466 ?_
    refine Q_arg hX hScr hL hj 1 rfl (by decide) dL_law__1467 ?_
    refine Q_aload_n hX 3 dL_law__1468 rfl rfl ?_
    refine Q_W1 hX [.ref 1, .int (xs (j + 1)), .ref 50] dL_law__1469 lw_219 (CW_props_ok (okGQ hX) e1) (Nat.le_trans (by decide) hR.1) (Nat.le_trans (by decide) hR.2.1) rfl rfl rfl rfl ⟨by omega, by omega⟩ ?_
    refine Q_istore hX [(5, .int 0), (0, .ref 0), (1, .ref 1), (2, .ref 30), (3, .ref 50), (4, .int (nI j))] dL_law__1472 rfl rfl ?_
    refine Q_aload_n hX 3 dL_law__1474 rfl rfl ?_
    refine Q_aload_n hX 1 dL_law__1475 rfl rfl ?_
    refine Q_iload hX 5 dL_law__1476 rfl ?_
    refine Q_iconst hX 1 dL_law__1478 rfl ?_
    refine Q_iadd hX dL_law__1479 ?_
    refine Q_arg hX hScr hL hj 1 rfl (by decide) dL_law__1480 ?_
    refine Q_V1 hX [.int (xs (j + 1))] dL_law__1481 lv_221 ob_30 rfl (C_X12_props (okGQ hX) e2) (Nat.le_trans (by decide) hR.1) (Nat.le_trans (by decide) hR.2.1) rfl rfl rfl rfl ⟨by omega, by omega⟩ ?_
    refine Q_istore hX [(6, .int b), (5, .int 0), (0, .ref 0), (1, .ref 1), (2, .ref 30), (3, .ref 50), (4, .int (nI j))] dL_law__1484 rfl rfl ?_
    refine Q_aload_n hX 4 dL_law__1486 rfl rfl ?_
    refine Q_V1 hX [] dL_law__1487 lv_150 ob_30 rfl (C_X12_thrown (okGQ hX) rfl) (Nat.le_trans (by decide) hR.1) (Nat.le_trans (by decide) hR.2.1) rfl rfl rfl rfl ⟨by omega, by omega⟩ ?_
    refine Q_nm e3 ?_
    refine Q_iload hX 1 dL_law__1490 rfl ?_
    refine Q_icmp_eqT hX 1497 dL_law__1492 rfl rfl ?_
    refine Q_iload hX 1 dL_law__1497 rfl ?_
    refine Q_if_neF hX 1514 dL_law__1499 rfl rfl ?_
    refine Q_aload_n hX 5 dL_law__1502 rfl rfl ?_
    refine Q_iconst hX 0 dL_law__1503 rfl ?_
    refine Q_lald hX dL_law__1504 ar_50 (by decide) ?_
    refine Q_nmL (congrArg Int32.toInt64 e4) ?_
    refine Q_iload hX 0 dL_law__1505 rfl ?_
    refine Q_i2l hX dL_law__1507 ?_
    refine Q_lcmp hX dL_law__1508 ?_
    refine Q_if_eqT hX 1514 dL_law__1509 rfl (lg_cmp_self _) ?_
    refine Q_goto hX 2799 dL_law__1514 rfl ?_
    refine Q_sub [2, 3, 4, 5, 6] [(0, .ref 0), (1, .ref 1), (2, .ref 30), (3, .ref 50), (4, .int (nI j))] rfl ?_
    exact kk
  · refine Q_aload_n hX 1 dL_law__1461 rfl rfl ?_
    refine Q_aload_n hX 0 dL_law__1462 rfl rfl ?_
    refine Q_iload hX 4 dL_law__1463 rfl ?_
    refine Q_iconst hX 1 dL_law__1465 rfl ?_
    refine Q_iadd hX dL_law__1466 ?_
    refine Q_arg hX hScr hL hj 1 rfl (by decide) dL_law__1467 ?_
    refine Q_aload_n hX 3 dL_law__1468 rfl rfl ?_
    refine Q_W1 hX [.ref 1, .int (xs (j + 1)), .ref 50] dL_law__1469 lw_219 (CW_props_e1 (okGQ hX) e1) (Nat.le_trans (by decide) hR.1) (Nat.le_trans (by decide) hR.2.1) rfl rfl rfl rfl ⟨by omega, by omega⟩ ?_
    refine Q_istore hX [(5, .int 1), (0, .ref 0), (1, .ref 1), (2, .ref 30), (3, .ref 50), (4, .int (nI j))] dL_law__1472 rfl rfl ?_
    refine Q_aload_n hX 3 dL_law__1474 rfl rfl ?_
    refine Q_aload_n hX 1 dL_law__1475 rfl rfl ?_
    refine Q_iload hX 5 dL_law__1476 rfl ?_
    refine Q_iconst hX 1 dL_law__1478 rfl ?_
    refine Q_iadd hX dL_law__1479 ?_
    refine Q_arg hX hScr hL hj 1 rfl (by decide) dL_law__1480 ?_
    refine Q_V1 hX [.int (xs (j + 1))] dL_law__1481 lv_221 ob_30 rfl (C_X12_props (okGQ hX) e2) (Nat.le_trans (by decide) hR.1) (Nat.le_trans (by decide) hR.2.1) rfl rfl rfl rfl ⟨by omega, by omega⟩ ?_
    refine Q_istore hX [(6, .int b), (5, .int 1), (0, .ref 0), (1, .ref 1), (2, .ref 30), (3, .ref 50), (4, .int (nI j))] dL_law__1484 rfl rfl ?_
    refine Q_aload_n hX 4 dL_law__1486 rfl rfl ?_
    refine Q_V1 hX [] dL_law__1487 lv_150 ob_30 rfl (C_X12_thrown (okGQ hX) rfl) (Nat.le_trans (by decide) hR.1) (Nat.le_trans (by decide) hR.2.1) rfl rfl rfl rfl ⟨by omega, by omega⟩ ?_
    refine Q_nm e3 ?_
    refine Q_iload hX 1 dL_law__1490 rfl ?_
    refine Q_icmp_eqT hX 1497 dL_law__1492 rfl rfl ?_
    refine Q_iload hX 1 dL_law__1497 rfl ?_
    refine Q_if_neT hX 1514 dL_law__1499 rfl (by decide) ?_
    refine Q_goto hX 2799 dL_law__1514 rfl ?_
    refine Q_sub [2, 3, 4, 5, 6] [(0, .ref 0), (1, .ref 1), (2, .ref 30), (3, .ref 50), (4, .int (nI j))] rfl ?_
    exact kk
set_option maxRecDepth 100000 in
set_option maxHeartbeats 200000 in
theorem LW_23 {X : CX} {R : Room} {Q : State → Prop} {kC sC Ls j n : Nat} {xs : Nat → Int32} {h h' : Hp} (hX : OkQ X cL_law_ 7 RL (some .boolean)) (hScr : ScrQ X Ls xs) (hL : Ls ≤ 3072) (hj : j + 6 ≤ Ls) (hR : 80 ≤ R.frames ∧ 80 * 80 ≤ R.locals ∧ kC + 1 ≤ R.cells ∧ sC + 6 ≤ R.slots) (hst : St_23 (fun i => xs (j + i)) h h' n) (kk : JQ X R Q (kC + n) (sC + 6 * n) 2799 [(0, .ref 0), (1, .ref 1), (2, .ref 30), (3, .ref 50), (4, .int (nI j))] [] h') : JQ X R Q kC sC 1517 [(0, .ref 0), (1, .ref 1), (2, .ref 30), (3, .ref 50), (4, .int (nI j))] [] h := by
  have hr1 := hR.2.2.1
  have hr2 := hR.2.2.2
  unfold St_23 at hst
  try dsimp only at hst
  rcases hst with ⟨v, h1, b, e1, e2, e3, e4, rfl⟩ | ⟨h1, b, e1, e2, e3, rfl⟩
  · refine Q_aload_n hX 1 dL_law__1517 rfl rfl ?_
    refine Q_aload_n hX 0 dL_law__1518 rfl rfl ?_
    refine Q_iload hX 4 dL_law__1519 rfl ?_
    refine Q_iconst hX 1 dL_law__1521 rfl ?_
    refine Q_iadd hX dL_law__1522 ?_
    refine Q_arg hX hScr hL hj 1 rfl (by decide) dL_law__1523 ?_
    refine Q_aload_n hX 3 dL_law__1524 rfl rfl ?_
    refine Q_W1 hX [.ref 1, .int (xs (j + 1)), .ref 50] dL_law__1525 lw_222 (CW_order_ok (okGQ hX) e1) (Nat.le_trans (by decide) hR.1) (Nat.le_trans (by decide) hR.2.1) rfl rfl rfl rfl ⟨by omega, by omega⟩ ?_
    refine Q_istore hX [(5, .int 0), (0, .ref 0), (1, .ref 1), (2, .ref 30), (3, .ref 50), (4, .int (nI j))] dL_law__1528 rfl rfl ?_
    refine Q_aload_n hX 3 dL_law__1530 rfl rfl ?_
    refine Q_aload_n hX 1 dL_law__1531 rfl rfl ?_
    refine Q_iload hX 5 dL_law__1532 rfl ?_
    refine Q_iconst hX 1 dL_law__1534 rfl ?_
    refine Q_iadd hX dL_law__1535 ?_
    refine Q_arg hX hScr hL hj 1 rfl (by decide) dL_law__1536 ?_
    refine Q_V1 hX [.int (xs (j + 1))] dL_law__1537 lv_224 ob_30 rfl (C_X12_order (okGQ hX) e2) (Nat.le_trans (by decide) hR.1) (Nat.le_trans (by decide) hR.2.1) rfl rfl rfl rfl ⟨by omega, by omega⟩ ?_
    refine Q_istore hX [(6, .int b), (5, .int 0), (0, .ref 0), (1, .ref 1), (2, .ref 30), (3, .ref 50), (4, .int (nI j))] dL_law__1540 rfl rfl ?_
    refine Q_aload_n hX 4 dL_law__1542 rfl rfl ?_
    refine Q_V1 hX [] dL_law__1543 lv_150 ob_30 rfl (C_X12_thrown (okGQ hX) rfl) (Nat.le_trans (by decide) hR.1) (Nat.le_trans (by decide) hR.2.1) rfl rfl rfl rfl ⟨by omega, by omega⟩ ?_
    refine Q_nm e3 ?_
    refine Q_iload hX 1 dL_law__1546 rfl ?_
    refine Q_icmp_eqT hX 1553 dL_law__1548 rfl rfl ?_
    refine Q_iload hX 1 dL_law__1553 rfl ?_
    refine Q_if_neF hX 1570 dL_law__1555 rfl rfl ?_
    refine Q_aload_n hX 5 dL_law__1558 rfl rfl ?_
    refine Q_iconst hX 0 dL_law__1559 rfl ?_
    refine Q_lald hX dL_law__1560 ar_50 (by decide) ?_
    refine Q_nmL (congrArg Int32.toInt64 e4) ?_
    refine Q_iload hX 0 dL_law__1561 rfl ?_
    refine Q_i2l hX dL_law__1563 ?_
    refine Q_lcmp hX dL_law__1564 ?_
    refine Q_if_eqT hX 1570 dL_law__1565 rfl (lg_cmp_self _) ?_
    refine Q_goto hX 2799 dL_law__1570 rfl ?_
    refine Q_sub [2, 3, 4, 5, 6] [(0, .ref 0), (1, .ref 1), (2, .ref 30), (3, .ref 50), (4, .int (nI j))] rfl ?_
    exact kk
  · refine Q_aload_n hX 1 dL_law__1517 rfl rfl ?_
    refine Q_aload_n hX 0 dL_law__1518 rfl rfl ?_
    refine Q_iload hX 4 dL_law__1519 rfl ?_
    refine Q_iconst hX 1 dL_law__1521 rfl ?_
    refine Q_iadd hX dL_law__1522 ?_
    refine Q_arg hX hScr hL hj 1 rfl (by decide) dL_law__1523 ?_
    refine Q_aload_n hX 3 dL_law__1524 rfl rfl ?_
    refine Q_W1 hX [.ref 1, .int (xs (j + 1)), .ref 50] dL_law__1525 lw_222 (CW_order_e1 (okGQ hX) e1) (Nat.le_trans (by decide) hR.1) (Nat.le_trans (by decide) hR.2.1) rfl rfl rfl rfl ⟨by omega, by omega⟩ ?_
    refine Q_istore hX [(5, .int 1), (0, .ref 0), (1, .ref 1), (2, .ref 30), (3, .ref 50), (4, .int (nI j))] dL_law__1528 rfl rfl ?_
    refine Q_aload_n hX 3 dL_law__1530 rfl rfl ?_
    refine Q_aload_n hX 1 dL_law__1531 rfl rfl ?_
    refine Q_iload hX 5 dL_law__1532 rfl ?_
    refine Q_iconst hX 1 dL_law__1534 rfl ?_
    refine Q_iadd hX dL_law__1535 ?_
    refine Q_arg hX hScr hL hj 1 rfl (by decide) dL_law__1536 ?_
    refine Q_V1 hX [.int (xs (j + 1))] dL_law__1537 lv_224 ob_30 rfl (C_X12_order (okGQ hX) e2) (Nat.le_trans (by decide) hR.1) (Nat.le_trans (by decide) hR.2.1) rfl rfl rfl rfl ⟨by omega, by omega⟩ ?_
    refine Q_istore hX [(6, .int b), (5, .int 1), (0, .ref 0), (1, .ref 1), (2, .ref 30), (3, .ref 50), (4, .int (nI j))] dL_law__1540 rfl rfl ?_
    refine Q_aload_n hX 4 dL_law__1542 rfl rfl ?_
    refine Q_V1 hX [] dL_law__1543 lv_150 ob_30 rfl (C_X12_thrown (okGQ hX) rfl) (Nat.le_trans (by decide) hR.1) (Nat.le_trans (by decide) hR.2.1) rfl rfl rfl rfl ⟨by omega, by omega⟩ ?_
    refine Q_nm e3 ?_
    refine Q_iload hX 1 dL_law__1546 rfl ?_
    refine Q_icmp_eqT hX 1553 dL_law__1548 rfl rfl ?_
    refine Q_iload hX 1 dL_law__1553 rfl ?_
    refine Q_if_neT hX 1570 dL_law__1555 rfl (by decide) ?_
    refine Q_goto hX 2799 dL_law__1570 rfl ?_
    refine Q_sub [2, 3, 4, 5, 6] [(0, .ref 0), (1, .ref 1), (2, .ref 30), (3, .ref 50), (4, .int (nI j))] rfl ?_
    exact kk
set_option maxRecDepth 100000 in
set_option maxHeartbeats 200000 in
theorem LW_24 {X : CX} {R : Room} {Q : State → Prop} {kC sC Ls j n : Nat} {xs : Nat → Int32} {h h' : Hp} (hX : OkQ X cL_law_ 7 RL (some .boolean)) (hScr : ScrQ X Ls xs) (hL : Ls ≤ 3072) (hj : j + 6 ≤ Ls) (hR : 80 ≤ R.frames ∧ 80 * 80 ≤ R.locals ∧ kC + 1 ≤ R.cells ∧ sC + 6 ≤ R.slots) (hst : St_24 (fun i => xs (j + i)) h h' n) (kk : JQ X R Q (kC + n) (sC + 6 * n) 2799 [(0, .ref 0), (1, .ref 1), (2, .ref 30), (3, .ref 50), (4, .int (nI j))] [] h') : JQ X R Q kC sC 1573 [(0, .ref 0), (1, .ref 1), (2, .ref 30), (3, .ref 50), (4, .int (nI j))] [] h := by
  have hr1 := hR.2.2.1
  have hr2 := hR.2.2.2
  unfold St_24 at hst
  try dsimp only at hst
  rcases hst with ⟨v, h1, b, e1, e2, e3, e4, rfl⟩ | ⟨h1, b, e1, e2, e3, rfl⟩
  · refine Q_aload_n hX 1 dL_law__1573 rfl rfl ?_
    refine Q_aload_n hX 3 dL_law__1574 rfl rfl ?_
    refine Q_W1 hX [.ref 1, .ref 50] dL_law__1575 lw_225 (CW_means_ok (okGQ hX) e1) (Nat.le_trans (by decide) hR.1) (Nat.le_trans (by decide) hR.2.1) rfl rfl rfl rfl ⟨by omega, by omega⟩ ?_
    refine Q_istore hX [(5, .int 0), (0, .ref 0), (1, .ref 1), (2, .ref 30), (3, .ref 50), (4, .int (nI j))] dL_law__1578 rfl rfl ?_
    refine Q_aload_n hX 3 dL_law__1580 rfl rfl ?_
    refine Q_V1 hX [] dL_law__1581 lv_227 ob_30 rfl (C_X12_means (okGQ hX) e2) (Nat.le_trans (by decide) hR.1) (Nat.le_trans (by decide) hR.2.1) rfl rfl rfl rfl ⟨by omega, by omega⟩ ?_
    refine Q_istore hX [(6, .int b), (5, .int 0), (0, .ref 0), (1, .ref 1), (2, .ref 30), (3, .ref 50), (4, .int (nI j))] dL_law__1584 rfl rfl ?_
    refine Q_aload_n hX 4 dL_law__1586 rfl rfl ?_
    refine Q_V1 hX [] dL_law__1587 lv_150 ob_30 rfl (C_X12_thrown (okGQ hX) rfl) (Nat.le_trans (by decide) hR.1) (Nat.le_trans (by decide) hR.2.1) rfl rfl rfl rfl ⟨by omega, by omega⟩ ?_
    refine Q_nm e3 ?_
    refine Q_iload hX 1 dL_law__1590 rfl ?_
    refine Q_icmp_eqT hX 1597 dL_law__1592 rfl rfl ?_
    refine Q_iload hX 1 dL_law__1597 rfl ?_
    refine Q_if_neF hX 1614 dL_law__1599 rfl rfl ?_
    refine Q_aload_n hX 5 dL_law__1602 rfl rfl ?_
    refine Q_iconst hX 0 dL_law__1603 rfl ?_
    refine Q_lald hX dL_law__1604 ar_50 (by decide) ?_
    refine Q_nmL (congrArg Int32.toInt64 e4) ?_
    refine Q_iload hX 0 dL_law__1605 rfl ?_
    refine Q_i2l hX dL_law__1607 ?_
    refine Q_lcmp hX dL_law__1608 ?_
    refine Q_if_eqT hX 1614 dL_law__1609 rfl (lg_cmp_self _) ?_
    refine Q_goto hX 2799 dL_law__1614 rfl ?_
    refine Q_sub [2, 3, 4, 5, 6] [(0, .ref 0), (1, .ref 1), (2, .ref 30), (3, .ref 50), (4, .int (nI j))] rfl ?_
    exact kk
  · refine Q_aload_n hX 1 dL_law__1573 rfl rfl ?_
    refine Q_aload_n hX 3 dL_law__1574 rfl rfl ?_
    refine Q_W1 hX [.ref 1, .ref 50] dL_law__1575 lw_225 (CW_means_e1 (okGQ hX) e1) (Nat.le_trans (by decide) hR.1) (Nat.le_trans (by decide) hR.2.1) rfl rfl rfl rfl ⟨by omega, by omega⟩ ?_
    refine Q_istore hX [(5, .int 1), (0, .ref 0), (1, .ref 1), (2, .ref 30), (3, .ref 50), (4, .int (nI j))] dL_law__1578 rfl rfl ?_
    refine Q_aload_n hX 3 dL_law__1580 rfl rfl ?_
    refine Q_V1 hX [] dL_law__1581 lv_227 ob_30 rfl (C_X12_means (okGQ hX) e2) (Nat.le_trans (by decide) hR.1) (Nat.le_trans (by decide) hR.2.1) rfl rfl rfl rfl ⟨by omega, by omega⟩ ?_
    refine Q_istore hX [(6, .int b), (5, .int 1), (0, .ref 0), (1, .ref 1), (2, .ref 30), (3, .ref 50), (4, .int (nI j))] dL_law__1584 rfl rfl ?_
    refine Q_aload_n hX 4 dL_law__1586 rfl rfl ?_
    refine Q_V1 hX [] dL_law__1587 lv_150 ob_30 rfl (C_X12_thrown (okGQ hX) rfl) (Nat.le_trans (by decide) hR.1) (Nat.le_trans (by decide) hR.2.1) rfl rfl rfl rfl ⟨by omega, by omega⟩ ?_
    refine Q_nm e3 ?_
    refine Q_iload hX 1 dL_law__1590 rfl ?_
    refine Q_icmp_eqT hX 1597 dL_law__1592 rfl rfl ?_
    refine Q_iload hX 1 dL_law__1597 rfl ?_
    refine Q_if_neT hX 1614 dL_law__1599 rfl (by decide) ?_
    refine Q_goto hX 2799 dL_law__1614 rfl ?_
    refine Q_sub [2, 3, 4, 5, 6] [(0, .ref 0), (1, .ref 1), (2, .ref 30), (3, .ref 50), (4, .int (nI j))] rfl ?_
    exact kk
set_option maxRecDepth 100000 in
set_option maxHeartbeats 200000 in
theorem LW_25 {X : CX} {R : Room} {Q : State → Prop} {kC sC Ls j n : Nat} {xs : Nat → Int32} {h h' : Hp} (hX : OkQ X cL_law_ 7 RL (some .boolean)) (hScr : ScrQ X Ls xs) (hL : Ls ≤ 3072) (hj : j + 6 ≤ Ls) (hR : 80 ≤ R.frames ∧ 80 * 80 ≤ R.locals ∧ kC + 1 ≤ R.cells ∧ sC + 6 ≤ R.slots) (hst : St_25 (fun i => xs (j + i)) h h' n) (kk : JQ X R Q (kC + n) (sC + 6 * n) 2799 [(0, .ref 0), (1, .ref 1), (2, .ref 30), (3, .ref 50), (4, .int (nI j))] [] h') : JQ X R Q kC sC 1617 [(0, .ref 0), (1, .ref 1), (2, .ref 30), (3, .ref 50), (4, .int (nI j))] [] h := by
  have hr1 := hR.2.2.1
  have hr2 := hR.2.2.2
  unfold St_25 at hst
  try dsimp only at hst
  rcases Classical.em (xs (j + 1) = 0) with c0 | c0
  · rw [show nz (xs (j + 1)) = 0 from if_pos c0] at hst
    rcases hst with ⟨v, h1, b, e1, e2, e3, e4, rfl⟩ | ⟨h1, b, e1, e2, e3, rfl⟩
    · refine Q_aload_n hX 1 dL_law__1617 rfl rfl ?_
      refine Q_aload_n hX 0 dL_law__1618 rfl rfl ?_
      refine Q_iload hX 4 dL_law__1619 rfl ?_
      refine Q_iconst hX 1 dL_law__1621 rfl ?_
      refine Q_iadd hX dL_law__1622 ?_
      refine Q_arg hX hScr hL hj 1 rfl (by decide) dL_law__1623 ?_
      refine Q_if_eqT hX 1631 dL_law__1624 rfl c0 ?_
      refine Q_iconst hX 0 dL_law__1631 rfl ?_
      refine Q_aload_n hX 3 dL_law__1632 rfl rfl ?_
      refine Q_W1 hX [.ref 1, .int 0, .ref 50] dL_law__1633 lw_228 (CW_broken_ok (okGQ hX) e1) (Nat.le_trans (by decide) hR.1) (Nat.le_trans (by decide) hR.2.1) rfl rfl rfl rfl ⟨by omega, by omega⟩ ?_
      refine Q_istore hX [(5, .int 0), (0, .ref 0), (1, .ref 1), (2, .ref 30), (3, .ref 50), (4, .int (nI j))] dL_law__1636 rfl rfl ?_
      refine Q_aload_n hX 3 dL_law__1638 rfl rfl ?_
      refine Q_aload_n hX 1 dL_law__1639 rfl rfl ?_
      refine Q_iload hX 5 dL_law__1640 rfl ?_
      refine Q_iconst hX 1 dL_law__1642 rfl ?_
      refine Q_iadd hX dL_law__1643 ?_
      refine Q_arg hX hScr hL hj 1 rfl (by decide) dL_law__1644 ?_
      refine Q_if_eqT hX 1652 dL_law__1645 rfl c0 ?_
      refine Q_iconst hX 0 dL_law__1652 rfl ?_
      refine Q_V1 hX [.int 0] dL_law__1653 lv_231 ob_30 rfl (C_X12_broken (okGQ hX) e2) (Nat.le_trans (by decide) hR.1) (Nat.le_trans (by decide) hR.2.1) rfl rfl rfl rfl ⟨by omega, by omega⟩ ?_
      refine Q_istore hX [(6, .int b), (5, .int 0), (0, .ref 0), (1, .ref 1), (2, .ref 30), (3, .ref 50), (4, .int (nI j))] dL_law__1656 rfl rfl ?_
      refine Q_aload_n hX 4 dL_law__1658 rfl rfl ?_
      refine Q_V1 hX [] dL_law__1659 lv_150 ob_30 rfl (C_X12_thrown (okGQ hX) rfl) (Nat.le_trans (by decide) hR.1) (Nat.le_trans (by decide) hR.2.1) rfl rfl rfl rfl ⟨by omega, by omega⟩ ?_
      refine Q_nm e3 ?_
      refine Q_iload hX 1 dL_law__1662 rfl ?_
      refine Q_icmp_eqT hX 1669 dL_law__1664 rfl rfl ?_
      refine Q_iload hX 1 dL_law__1669 rfl ?_
      refine Q_if_neF hX 1686 dL_law__1671 rfl rfl ?_
      refine Q_aload_n hX 5 dL_law__1674 rfl rfl ?_
      refine Q_iconst hX 0 dL_law__1675 rfl ?_
      refine Q_lald hX dL_law__1676 ar_50 (by decide) ?_
      refine Q_nmL (congrArg Int32.toInt64 e4) ?_
      refine Q_iload hX 0 dL_law__1677 rfl ?_
      refine Q_i2l hX dL_law__1679 ?_
      refine Q_lcmp hX dL_law__1680 ?_
      refine Q_if_eqT hX 1686 dL_law__1681 rfl (lg_cmp_self _) ?_
      refine Q_goto hX 2799 dL_law__1686 rfl ?_
      refine Q_sub [2, 3, 4, 5, 6] [(0, .ref 0), (1, .ref 1), (2, .ref 30), (3, .ref 50), (4, .int (nI j))] rfl ?_
      exact kk
    · refine Q_aload_n hX 1 dL_law__1617 rfl rfl ?_
      refine Q_aload_n hX 0 dL_law__1618 rfl rfl ?_
      refine Q_iload hX 4 dL_law__1619 rfl ?_
      refine Q_iconst hX 1 dL_law__1621 rfl ?_
      refine Q_iadd hX dL_law__1622 ?_
      refine Q_arg hX hScr hL hj 1 rfl (by decide) dL_law__1623 ?_
      refine Q_if_eqT hX 1631 dL_law__1624 rfl c0 ?_
      refine Q_iconst hX 0 dL_law__1631 rfl ?_
      refine Q_aload_n hX 3 dL_law__1632 rfl rfl ?_
      refine Q_W1 hX [.ref 1, .int 0, .ref 50] dL_law__1633 lw_228 (CW_broken_e1 (okGQ hX) e1) (Nat.le_trans (by decide) hR.1) (Nat.le_trans (by decide) hR.2.1) rfl rfl rfl rfl ⟨by omega, by omega⟩ ?_
      refine Q_istore hX [(5, .int 1), (0, .ref 0), (1, .ref 1), (2, .ref 30), (3, .ref 50), (4, .int (nI j))] dL_law__1636 rfl rfl ?_
      refine Q_aload_n hX 3 dL_law__1638 rfl rfl ?_
      refine Q_aload_n hX 1 dL_law__1639 rfl rfl ?_
      refine Q_iload hX 5 dL_law__1640 rfl ?_
      refine Q_iconst hX 1 dL_law__1642 rfl ?_
      refine Q_iadd hX dL_law__1643 ?_
      refine Q_arg hX hScr hL hj 1 rfl (by decide) dL_law__1644 ?_
      refine Q_if_eqT hX 1652 dL_law__1645 rfl c0 ?_
      refine Q_iconst hX 0 dL_law__1652 rfl ?_
      refine Q_V1 hX [.int 0] dL_law__1653 lv_231 ob_30 rfl (C_X12_broken (okGQ hX) e2) (Nat.le_trans (by decide) hR.1) (Nat.le_trans (by decide) hR.2.1) rfl rfl rfl rfl ⟨by omega, by omega⟩ ?_
      refine Q_istore hX [(6, .int b), (5, .int 1), (0, .ref 0), (1, .ref 1), (2, .ref 30), (3, .ref 50), (4, .int (nI j))] dL_law__1656 rfl rfl ?_
      refine Q_aload_n hX 4 dL_law__1658 rfl rfl ?_
      refine Q_V1 hX [] dL_law__1659 lv_150 ob_30 rfl (C_X12_thrown (okGQ hX) rfl) (Nat.le_trans (by decide) hR.1) (Nat.le_trans (by decide) hR.2.1) rfl rfl rfl rfl ⟨by omega, by omega⟩ ?_
      refine Q_nm e3 ?_
      refine Q_iload hX 1 dL_law__1662 rfl ?_
      refine Q_icmp_eqT hX 1669 dL_law__1664 rfl rfl ?_
      refine Q_iload hX 1 dL_law__1669 rfl ?_
      refine Q_if_neT hX 1686 dL_law__1671 rfl (by decide) ?_
      refine Q_goto hX 2799 dL_law__1686 rfl ?_
      refine Q_sub [2, 3, 4, 5, 6] [(0, .ref 0), (1, .ref 1), (2, .ref 30), (3, .ref 50), (4, .int (nI j))] rfl ?_
      exact kk
  · rw [show nz (xs (j + 1)) = 1 from if_neg c0] at hst
    rcases hst with ⟨v, h1, b, e1, e2, e3, e4, rfl⟩ | ⟨h1, b, e1, e2, e3, rfl⟩
    · refine Q_aload_n hX 1 dL_law__1617 rfl rfl ?_
      refine Q_aload_n hX 0 dL_law__1618 rfl rfl ?_
      refine Q_iload hX 4 dL_law__1619 rfl ?_
      refine Q_iconst hX 1 dL_law__1621 rfl ?_
      refine Q_iadd hX dL_law__1622 ?_
      refine Q_arg hX hScr hL hj 1 rfl (by decide) dL_law__1623 ?_
      refine Q_if_eqF hX 1631 dL_law__1624 rfl c0 ?_
      refine Q_iconst hX 1 dL_law__1627 rfl ?_
      refine Q_goto hX 1632 dL_law__1628 rfl ?_
      refine Q_aload_n hX 3 dL_law__1632 rfl rfl ?_
      refine Q_W1 hX [.ref 1, .int 1, .ref 50] dL_law__1633 lw_228 (CW_broken_ok (okGQ hX) e1) (Nat.le_trans (by decide) hR.1) (Nat.le_trans (by decide) hR.2.1) rfl rfl rfl rfl ⟨by omega, by omega⟩ ?_
      refine Q_istore hX [(5, .int 0), (0, .ref 0), (1, .ref 1), (2, .ref 30), (3, .ref 50), (4, .int (nI j))] dL_law__1636 rfl rfl ?_
      refine Q_aload_n hX 3 dL_law__1638 rfl rfl ?_
      refine Q_aload_n hX 1 dL_law__1639 rfl rfl ?_
      refine Q_iload hX 5 dL_law__1640 rfl ?_
      refine Q_iconst hX 1 dL_law__1642 rfl ?_
      refine Q_iadd hX dL_law__1643 ?_
      refine Q_arg hX hScr hL hj 1 rfl (by decide) dL_law__1644 ?_
      refine Q_if_eqF hX 1652 dL_law__1645 rfl c0 ?_
      refine Q_iconst hX 1 dL_law__1648 rfl ?_
      refine Q_goto hX 1653 dL_law__1649 rfl ?_
      refine Q_V1 hX [.int 1] dL_law__1653 lv_231 ob_30 rfl (C_X12_broken (okGQ hX) e2) (Nat.le_trans (by decide) hR.1) (Nat.le_trans (by decide) hR.2.1) rfl rfl rfl rfl ⟨by omega, by omega⟩ ?_
      refine Q_istore hX [(6, .int b), (5, .int 0), (0, .ref 0), (1, .ref 1), (2, .ref 30), (3, .ref 50), (4, .int (nI j))] dL_law__1656 rfl rfl ?_
      refine Q_aload_n hX 4 dL_law__1658 rfl rfl ?_
      refine Q_V1 hX [] dL_law__1659 lv_150 ob_30 rfl (C_X12_thrown (okGQ hX) rfl) (Nat.le_trans (by decide) hR.1) (Nat.le_trans (by decide) hR.2.1) rfl rfl rfl rfl ⟨by omega, by omega⟩ ?_
      refine Q_nm e3 ?_
      refine Q_iload hX 1 dL_law__1662 rfl ?_
      refine Q_icmp_eqT hX 1669 dL_law__1664 rfl rfl ?_
      refine Q_iload hX 1 dL_law__1669 rfl ?_
      refine Q_if_neF hX 1686 dL_law__1671 rfl rfl ?_
      refine Q_aload_n hX 5 dL_law__1674 rfl rfl ?_
      refine Q_iconst hX 0 dL_law__1675 rfl ?_
      refine Q_lald hX dL_law__1676 ar_50 (by decide) ?_
      refine Q_nmL (congrArg Int32.toInt64 e4) ?_
      refine Q_iload hX 0 dL_law__1677 rfl ?_
      refine Q_i2l hX dL_law__1679 ?_
      refine Q_lcmp hX dL_law__1680 ?_
      refine Q_if_eqT hX 1686 dL_law__1681 rfl (lg_cmp_self _) ?_
      refine Q_goto hX 2799 dL_law__1686 rfl ?_
      refine Q_sub [2, 3, 4, 5, 6] [(0, .ref 0), (1, .ref 1), (2, .ref 30), (3, .ref 50), (4, .int (nI j))] rfl ?_
      exact kk
    · refine Q_aload_n hX 1 dL_law__1617 rfl rfl ?_
      refine Q_aload_n hX 0 dL_law__1618 rfl rfl ?_
      refine Q_iload hX 4 dL_law__1619 rfl ?_
      refine Q_iconst hX 1 dL_law__1621 rfl ?_
      refine Q_iadd hX dL_law__1622 ?_
      refine Q_arg hX hScr hL hj 1 rfl (by decide) dL_law__1623 ?_
      refine Q_if_eqF hX 1631 dL_law__1624 rfl c0 ?_
      refine Q_iconst hX 1 dL_law__1627 rfl ?_
      refine Q_goto hX 1632 dL_law__1628 rfl ?_
      refine Q_aload_n hX 3 dL_law__1632 rfl rfl ?_
      refine Q_W1 hX [.ref 1, .int 1, .ref 50] dL_law__1633 lw_228 (CW_broken_e1 (okGQ hX) e1) (Nat.le_trans (by decide) hR.1) (Nat.le_trans (by decide) hR.2.1) rfl rfl rfl rfl ⟨by omega, by omega⟩ ?_
      refine Q_istore hX [(5, .int 1), (0, .ref 0), (1, .ref 1), (2, .ref 30), (3, .ref 50), (4, .int (nI j))] dL_law__1636 rfl rfl ?_
      refine Q_aload_n hX 3 dL_law__1638 rfl rfl ?_
      refine Q_aload_n hX 1 dL_law__1639 rfl rfl ?_
      refine Q_iload hX 5 dL_law__1640 rfl ?_
      refine Q_iconst hX 1 dL_law__1642 rfl ?_
      refine Q_iadd hX dL_law__1643 ?_
      refine Q_arg hX hScr hL hj 1 rfl (by decide) dL_law__1644 ?_
      refine Q_if_eqF hX 1652 dL_law__1645 rfl c0 ?_
      refine Q_iconst hX 1 dL_law__1648 rfl ?_
      refine Q_goto hX 1653 dL_law__1649 rfl ?_
      refine Q_V1 hX [.int 1] dL_law__1653 lv_231 ob_30 rfl (C_X12_broken (okGQ hX) e2) (Nat.le_trans (by decide) hR.1) (Nat.le_trans (by decide) hR.2.1) rfl rfl rfl rfl ⟨by omega, by omega⟩ ?_
      refine Q_istore hX [(6, .int b), (5, .int 1), (0, .ref 0), (1, .ref 1), (2, .ref 30), (3, .ref 50), (4, .int (nI j))] dL_law__1656 rfl rfl ?_
      refine Q_aload_n hX 4 dL_law__1658 rfl rfl ?_
      refine Q_V1 hX [] dL_law__1659 lv_150 ob_30 rfl (C_X12_thrown (okGQ hX) rfl) (Nat.le_trans (by decide) hR.1) (Nat.le_trans (by decide) hR.2.1) rfl rfl rfl rfl ⟨by omega, by omega⟩ ?_
      refine Q_nm e3 ?_
      refine Q_iload hX 1 dL_law__1662 rfl ?_
      refine Q_icmp_eqT hX 1669 dL_law__1664 rfl rfl ?_
      refine Q_iload hX 1 dL_law__1669 rfl ?_
      refine Q_if_neT hX 1686 dL_law__1671 rfl (by decide) ?_
      refine Q_goto hX 2799 dL_law__1686 rfl ?_
      refine Q_sub [2, 3, 4, 5, 6] [(0, .ref 0), (1, .ref 1), (2, .ref 30), (3, .ref 50), (4, .int (nI j))] rfl ?_
      exact kk
set_option maxRecDepth 100000 in
set_option maxHeartbeats 200000 in
theorem LW_26 {X : CX} {R : Room} {Q : State → Prop} {kC sC Ls j n : Nat} {xs : Nat → Int32} {h h' : Hp} (hX : OkQ X cL_law_ 7 RL (some .boolean)) (hScr : ScrQ X Ls xs) (hL : Ls ≤ 3072) (hj : j + 6 ≤ Ls) (hR : 80 ≤ R.frames ∧ 80 * 80 ≤ R.locals ∧ kC + 1 ≤ R.cells ∧ sC + 6 ≤ R.slots) (hst : St_26 (fun i => xs (j + i)) h h' n) (kk : JQ X R Q (kC + n) (sC + 6 * n) 2799 [(0, .ref 0), (1, .ref 1), (2, .ref 30), (3, .ref 50), (4, .int (nI j))] [] h') : JQ X R Q kC sC 1689 [(0, .ref 0), (1, .ref 1), (2, .ref 30), (3, .ref 50), (4, .int (nI j))] [] h := by
  have hr1 := hR.2.2.1
  have hr2 := hR.2.2.2
  unfold St_26 at hst
  try dsimp only at hst
  rcases hst with ⟨v, h1, b, e1, e2, e3, e4, rfl⟩ | ⟨h1, b, e1, e2, e3, rfl⟩
  · refine Q_aload_n hX 1 dL_law__1689 rfl rfl ?_
    refine Q_aload_n hX 3 dL_law__1690 rfl rfl ?_
    refine Q_W1 hX [.ref 1, .ref 50] dL_law__1691 lw_232 (CW_tap_ok (okGQ hX) e1) (Nat.le_trans (by decide) hR.1) (Nat.le_trans (by decide) hR.2.1) rfl rfl rfl rfl ⟨by omega, by omega⟩ ?_
    refine Q_istore hX [(5, .int 0), (0, .ref 0), (1, .ref 1), (2, .ref 30), (3, .ref 50), (4, .int (nI j))] dL_law__1694 rfl rfl ?_
    refine Q_aload_n hX 3 dL_law__1696 rfl rfl ?_
    refine Q_V1 hX [] dL_law__1697 lv_234 ob_30 rfl (C_X12_tap (okGQ hX) e2) (Nat.le_trans (by decide) hR.1) (Nat.le_trans (by decide) hR.2.1) rfl rfl rfl rfl ⟨by omega, by omega⟩ ?_
    refine Q_istore hX [(6, .int b), (5, .int 0), (0, .ref 0), (1, .ref 1), (2, .ref 30), (3, .ref 50), (4, .int (nI j))] dL_law__1700 rfl rfl ?_
    refine Q_aload_n hX 4 dL_law__1702 rfl rfl ?_
    refine Q_V1 hX [] dL_law__1703 lv_150 ob_30 rfl (C_X12_thrown (okGQ hX) rfl) (Nat.le_trans (by decide) hR.1) (Nat.le_trans (by decide) hR.2.1) rfl rfl rfl rfl ⟨by omega, by omega⟩ ?_
    refine Q_nm e3 ?_
    refine Q_iload hX 1 dL_law__1706 rfl ?_
    refine Q_icmp_eqT hX 1713 dL_law__1708 rfl rfl ?_
    refine Q_iload hX 1 dL_law__1713 rfl ?_
    refine Q_if_neF hX 1730 dL_law__1715 rfl rfl ?_
    refine Q_aload_n hX 5 dL_law__1718 rfl rfl ?_
    refine Q_iconst hX 0 dL_law__1719 rfl ?_
    refine Q_lald hX dL_law__1720 ar_50 (by decide) ?_
    refine Q_nmL (congrArg Int32.toInt64 e4) ?_
    refine Q_iload hX 0 dL_law__1721 rfl ?_
    refine Q_i2l hX dL_law__1723 ?_
    refine Q_lcmp hX dL_law__1724 ?_
    refine Q_if_eqT hX 1730 dL_law__1725 rfl (lg_cmp_self _) ?_
    refine Q_goto hX 2799 dL_law__1730 rfl ?_
    refine Q_sub [2, 3, 4, 5, 6] [(0, .ref 0), (1, .ref 1), (2, .ref 30), (3, .ref 50), (4, .int (nI j))] rfl ?_
    exact kk
  · refine Q_aload_n hX 1 dL_law__1689 rfl rfl ?_
    refine Q_aload_n hX 3 dL_law__1690 rfl rfl ?_
    refine Q_W1 hX [.ref 1, .ref 50] dL_law__1691 lw_232 (CW_tap_e1 (okGQ hX) e1) (Nat.le_trans (by decide) hR.1) (Nat.le_trans (by decide) hR.2.1) rfl rfl rfl rfl ⟨by omega, by omega⟩ ?_
    refine Q_istore hX [(5, .int 1), (0, .ref 0), (1, .ref 1), (2, .ref 30), (3, .ref 50), (4, .int (nI j))] dL_law__1694 rfl rfl ?_
    refine Q_aload_n hX 3 dL_law__1696 rfl rfl ?_
    refine Q_V1 hX [] dL_law__1697 lv_234 ob_30 rfl (C_X12_tap (okGQ hX) e2) (Nat.le_trans (by decide) hR.1) (Nat.le_trans (by decide) hR.2.1) rfl rfl rfl rfl ⟨by omega, by omega⟩ ?_
    refine Q_istore hX [(6, .int b), (5, .int 1), (0, .ref 0), (1, .ref 1), (2, .ref 30), (3, .ref 50), (4, .int (nI j))] dL_law__1700 rfl rfl ?_
    refine Q_aload_n hX 4 dL_law__1702 rfl rfl ?_
    refine Q_V1 hX [] dL_law__1703 lv_150 ob_30 rfl (C_X12_thrown (okGQ hX) rfl) (Nat.le_trans (by decide) hR.1) (Nat.le_trans (by decide) hR.2.1) rfl rfl rfl rfl ⟨by omega, by omega⟩ ?_
    refine Q_nm e3 ?_
    refine Q_iload hX 1 dL_law__1706 rfl ?_
    refine Q_icmp_eqT hX 1713 dL_law__1708 rfl rfl ?_
    refine Q_iload hX 1 dL_law__1713 rfl ?_
    refine Q_if_neT hX 1730 dL_law__1715 rfl (by decide) ?_
    refine Q_goto hX 2799 dL_law__1730 rfl ?_
    refine Q_sub [2, 3, 4, 5, 6] [(0, .ref 0), (1, .ref 1), (2, .ref 30), (3, .ref 50), (4, .int (nI j))] rfl ?_
    exact kk
