theorem oX_ok {α : Type} {tv : α → Option Value} {v : α} {h1 : Hp} : oX tv (Except.ok v, h1) = (.inl (tv v), h1) := rfl
theorem oX_er {α : Type} {tv : α → Option Value} {E : String} {h1 : Hp} : oX tv (Except.error E, h1) = (.inr E, h1) := rfl
theorem Q_nmL {X : CX} {R : Room} {Q : State → Prop} {kC sC : Nat} {pc : Nat} {L : List (Nat × Value)} {S : List Value} {h : Hp} {v x : Int64} (e : v = x) (kk : JQ X R Q kC sC pc L (.long x :: S) h) : JQ X R Q kC sC pc L (.long v :: S) h := e ▸ kk
theorem cast_0 : Cond.castable "java/lang/IllegalArgumentException" "java/lang/IllegalArgumentException" ∈ NW := List.mem_filter.mpr ⟨tin_4 _ (List.mem_of_getElem? (i := 112) rfl), rfl⟩
theorem cast_1 : Cond.castable "java/lang/UnsupportedOperationException" "java/lang/UnsupportedOperationException" ∈ NW := List.mem_filter.mpr ⟨tin_4 _ (List.mem_of_getElem? (i := 178) rfl), rfl⟩
theorem cast_2 : Cond.castable "java/lang/IndexOutOfBoundsException" "java/lang/IndexOutOfBoundsException" ∈ NW := List.mem_filter.mpr ⟨tin_5 _ (List.mem_of_getElem? (i := 29) rfl), rfl⟩
theorem cast_3 : Cond.castable "java/util/NoSuchElementException" "java/util/NoSuchElementException" ∈ NW := List.mem_filter.mpr ⟨tin_5 _ (List.mem_of_getElem? (i := 44) rfl), rfl⟩
theorem cast_4 : Cond.castable "java/lang/IllegalStateException" "java/lang/IllegalStateException" ∈ NW := List.mem_filter.mpr ⟨tin_5 _ (List.mem_of_getElem? (i := 133) rfl), rfl⟩
theorem dL_city_0 : decode cL_city 0 = .ok (.aload_n 1, 1) := by decide +kernel
theorem dL_city_1 : decode cL_city 1 = .ok (.iconst 0, 1) := by decide +kernel
theorem dL_city_2 : decode cL_city 2 = .ok (.aload_n 0, 1) := by decide +kernel
theorem dL_city_3 : decode cL_city 3 = .ok (.invokevirtual 7, 3) := by decide +kernel
theorem dL_city_6 : decode cL_city 6 = .ok (.i2l, 1) := by decide +kernel
theorem dL_city_7 : decode cL_city 7 = .ok (.lastore, 1) := by decide +kernel
theorem dL_city_8 : decode cL_city 8 = .ok (.goto 9, 3) := by decide +kernel
theorem dL_city_11 : decode cL_city 11 = .ok (.astore_n 2, 1) := by decide +kernel
theorem dL_city_12 : decode cL_city 12 = .ok (.iconst 1, 1) := by decide +kernel
theorem dL_city_13 : decode cL_city 13 = .ok (.ireturn, 1) := by decide +kernel
theorem dL_city_14 : decode cL_city 14 = .ok (.astore_n 2, 1) := by decide +kernel
theorem dL_city_15 : decode cL_city 15 = .ok (.iconst 2, 1) := by decide +kernel
theorem dL_city_16 : decode cL_city 16 = .ok (.ireturn, 1) := by decide +kernel
theorem dL_city_17 : decode cL_city 17 = .ok (.iconst 0, 1) := by decide +kernel
theorem dL_city_18 : decode cL_city 18 = .ok (.ireturn, 1) := by decide +kernel
theorem cw_L_city : CWv RL 7 yX11_city cX11_city 2 (some .int) 0 := ⟨⟨(tbk tin_3 201 rfl rfl), (tbk tin_1 1 rfl rfl), (tbk tin_3 204 rfl rfl), by decide +kernel, by decide +kernel, by decide +kernel⟩, (tbk tin_3 202 rfl rfl), (tbk tin_3 203 rfl rfl)⟩
set_option maxRecDepth 100000 in
set_option maxHeartbeats 100000 in
theorem CW_city_ok {G : GX} (hG : GOk G) {h h1 : Hp} {v : Int32} (hf : f_X11_city h = some (Except.ok v, h1)) : CtrW G 15 yL_city cL_city 3 [(0, 8, 11, 13), (0, 8, 14, 15)] [.ref 1, .ref 50] h 0 (up1 h1 50 0 v) 0 :=
  CtrW_of hG RL rfl (by decide) rfl (fun X hX1 hX hT => by
    subst hX1
    show JQ X _ _ 0 0 0 [(0, .ref 1), (1, .ref 50)] [] h
    refine Q_aload_n hX 1 dL_city_0 rfl rfl ?_
    refine Q_iconst hX 0 dL_city_1 rfl ?_
    refine Q_aload_n hX 0 dL_city_2 rfl rfl ?_
    have hc := C_X11_city (okGQ hX) hf
    rw [oX_ok] at hc
    refine Q_V1 hX [] dL_city_3 cw_L_city ob_1 rfl hc (by decide) (by decide) rfl rfl rfl rfl ⟨Nat.le_refl _, Nat.le_refl _⟩ ?_
    refine Q_i2l hX dL_city_6 ?_
    refine Q_last hX dL_city_7 ar_50 (by decide) ?_
    refine Q_goto hX 17 dL_city_8 rfl ?_
    refine Q_iconst hX 0 dL_city_17 rfl ?_
    exact Q_iret hX dL_city_18 (Nat.le_refl _) (Nat.le_refl _))
set_option maxRecDepth 100000 in
set_option maxHeartbeats 100000 in
theorem CW_city_e1 {G : GX} (hG : GOk G) {h h1 : Hp} (hf : f_X11_city h = some (Except.error "java/lang/IllegalArgumentException", h1)) : CtrW G 15 yL_city cL_city 3 [(0, 8, 11, 13), (0, 8, 14, 15)] [.ref 1, .ref 50] h 1 h1 1 :=
  CtrW_of hG RL rfl (by decide) rfl (fun X hX1 hX hT => by
    subst hX1
    show JQ X _ _ 0 0 0 [(0, .ref 1), (1, .ref 50)] [] h
    refine Q_aload_n hX 1 dL_city_0 rfl rfl ?_
    refine Q_iconst hX 0 dL_city_1 rfl ?_
    refine Q_aload_n hX 0 dL_city_2 rfl rfl ?_
    have hc := C_X11_city (okGQ hX) hf
    rw [oX_er] at hc
    refine Q_Vx hX [] dL_city_3 cw_L_city ob_1 rfl hc (by decide) (by decide) rfl rfl rfl rfl ⟨Nat.le_refl _, Nat.le_refl _⟩ ?_
    refine Q_catch hX hT (name := "java/lang/IllegalArgumentException") [] [(0, 8, 14, 15)] (0, 8, 11, 13) [(0, .ref 1), (1, .ref 50)] rfl (fun z hz => by cases hz) (by decide) (by decide) (tbk tin_3 199 rfl rfl) cast_0 (Or.inr ⟨2, rfl, dL_city_11, rfl⟩) rfl rfl ?_
    refine Q_iconst hX 1 dL_city_12 rfl ?_
    exact Q_iret hX dL_city_13 (Nat.le_refl _) (Nat.le_refl _))
set_option maxRecDepth 100000 in
set_option maxHeartbeats 100000 in
theorem CW_city_e2 {G : GX} (hG : GOk G) {h h1 : Hp} (hf : f_X11_city h = some (Except.error "java/lang/UnsupportedOperationException", h1)) : CtrW G 15 yL_city cL_city 3 [(0, 8, 11, 13), (0, 8, 14, 15)] [.ref 1, .ref 50] h 2 h1 1 :=
  CtrW_of hG RL rfl (by decide) rfl (fun X hX1 hX hT => by
    subst hX1
    show JQ X _ _ 0 0 0 [(0, .ref 1), (1, .ref 50)] [] h
    refine Q_aload_n hX 1 dL_city_0 rfl rfl ?_
    refine Q_iconst hX 0 dL_city_1 rfl ?_
    refine Q_aload_n hX 0 dL_city_2 rfl rfl ?_
    have hc := C_X11_city (okGQ hX) hf
    rw [oX_er] at hc
    refine Q_Vx hX [] dL_city_3 cw_L_city ob_1 rfl hc (by decide) (by decide) rfl rfl rfl rfl ⟨Nat.le_refl _, Nat.le_refl _⟩ ?_
    refine Q_catch hX hT (name := "java/lang/UnsupportedOperationException") [(0, 8, 11, 13)] [] (0, 8, 14, 15) [(0, .ref 1), (1, .ref 50)] rfl (fun z hz => by
        simp only [List.mem_cons, List.not_mem_nil, or_false] at hz
        rcases hz with rfl <;> first | exact ⟨by decide, "java/lang/IllegalArgumentException", (tbk tin_3 199 rfl rfl), by decide⟩) (by decide) (by decide) (tbk tin_3 200 rfl rfl) cast_1 (Or.inr ⟨2, rfl, dL_city_14, rfl⟩) rfl rfl ?_
    refine Q_iconst hX 2 dL_city_15 rfl ?_
    exact Q_iret hX dL_city_16 (Nat.le_refl _) (Nat.le_refl _))
theorem dL_law_0 : decode cL_law 0 = .ok (.aload_n 1, 1) := by decide +kernel
theorem dL_law_1 : decode cL_law 1 = .ok (.iconst 0, 1) := by decide +kernel
theorem dL_law_2 : decode cL_law 2 = .ok (.aload_n 0, 1) := by decide +kernel
theorem dL_law_3 : decode cL_law 3 = .ok (.invokevirtual 17, 3) := by decide +kernel
theorem dL_law_6 : decode cL_law 6 = .ok (.i2l, 1) := by decide +kernel
theorem dL_law_7 : decode cL_law 7 = .ok (.lastore, 1) := by decide +kernel
theorem dL_law_8 : decode cL_law 8 = .ok (.goto 6, 3) := by decide +kernel
theorem dL_law_11 : decode cL_law 11 = .ok (.astore_n 2, 1) := by decide +kernel
theorem dL_law_12 : decode cL_law 12 = .ok (.iconst 1, 1) := by decide +kernel
theorem dL_law_13 : decode cL_law 13 = .ok (.ireturn, 1) := by decide +kernel
theorem dL_law_14 : decode cL_law 14 = .ok (.iconst 0, 1) := by decide +kernel
theorem dL_law_15 : decode cL_law 15 = .ok (.ireturn, 1) := by decide +kernel
theorem cw_L_law : CWv RL 17 yX11_law cX11_law 2 (some .int) 0 := ⟨⟨(tbk tin_4 194 rfl rfl), (tbk tin_1 1 rfl rfl), (tbk tin_4 197 rfl rfl), by decide +kernel, by decide +kernel, by decide +kernel⟩, (tbk tin_4 195 rfl rfl), (tbk tin_4 196 rfl rfl)⟩
set_option maxRecDepth 100000 in
set_option maxHeartbeats 100000 in
theorem CW_law_ok {G : GX} (hG : GOk G) {h h1 : Hp} {v : Int32} (hf : f_X11_law h = some (Except.ok v, h1)) : CtrW G 47 yL_law cL_law 3 [(0, 8, 11, 13)] [.ref 1, .ref 50] h 0 (up1 h1 50 0 v) 0 :=
  CtrW_of hG RL rfl (by decide) rfl (fun X hX1 hX hT => by
    subst hX1
    show JQ X _ _ 0 0 0 [(0, .ref 1), (1, .ref 50)] [] h
    refine Q_aload_n hX 1 dL_law_0 rfl rfl ?_
    refine Q_iconst hX 0 dL_law_1 rfl ?_
    refine Q_aload_n hX 0 dL_law_2 rfl rfl ?_
    have hc := C_X11_law (okGQ hX) hf
    rw [oX_ok] at hc
    refine Q_V1 hX [] dL_law_3 cw_L_law ob_1 rfl hc (by decide) (by decide) rfl rfl rfl rfl ⟨Nat.le_refl _, Nat.le_refl _⟩ ?_
    refine Q_i2l hX dL_law_6 ?_
    refine Q_last hX dL_law_7 ar_50 (by decide) ?_
    refine Q_goto hX 14 dL_law_8 rfl ?_
    refine Q_iconst hX 0 dL_law_14 rfl ?_
    exact Q_iret hX dL_law_15 (Nat.le_refl _) (Nat.le_refl _))
set_option maxRecDepth 100000 in
set_option maxHeartbeats 100000 in
theorem CW_law_e1 {G : GX} (hG : GOk G) {h h1 : Hp} (hf : f_X11_law h = some (Except.error "java/lang/IllegalArgumentException", h1)) : CtrW G 47 yL_law cL_law 3 [(0, 8, 11, 13)] [.ref 1, .ref 50] h 1 h1 1 :=
  CtrW_of hG RL rfl (by decide) rfl (fun X hX1 hX hT => by
    subst hX1
    show JQ X _ _ 0 0 0 [(0, .ref 1), (1, .ref 50)] [] h
    refine Q_aload_n hX 1 dL_law_0 rfl rfl ?_
    refine Q_iconst hX 0 dL_law_1 rfl ?_
    refine Q_aload_n hX 0 dL_law_2 rfl rfl ?_
    have hc := C_X11_law (okGQ hX) hf
    rw [oX_er] at hc
    refine Q_Vx hX [] dL_law_3 cw_L_law ob_1 rfl hc (by decide) (by decide) rfl rfl rfl rfl ⟨Nat.le_refl _, Nat.le_refl _⟩ ?_
    refine Q_catch hX hT (name := "java/lang/IllegalArgumentException") [] [] (0, 8, 11, 13) [(0, .ref 1), (1, .ref 50)] rfl (fun z hz => by cases hz) (by decide) (by decide) (tbk tin_3 199 rfl rfl) cast_0 (Or.inr ⟨2, rfl, dL_law_11, rfl⟩) rfl rfl ?_
    refine Q_iconst hX 1 dL_law_12 rfl ?_
    exact Q_iret hX dL_law_13 (Nat.le_refl _) (Nat.le_refl _))
theorem dL_house_0 : decode cL_house 0 = .ok (.aload_n 3, 1) := by decide +kernel
theorem dL_house_1 : decode cL_house 1 = .ok (.iconst 0, 1) := by decide +kernel
theorem dL_house_2 : decode cL_house 2 = .ok (.aload_n 0, 1) := by decide +kernel
theorem dL_house_3 : decode cL_house 3 = .ok (.iload_n 1, 1) := by decide +kernel
theorem dL_house_4 : decode cL_house 4 = .ok (.iload_n 2, 1) := by decide +kernel
theorem dL_house_5 : decode cL_house 5 = .ok (.invokevirtual 20, 3) := by decide +kernel
theorem dL_house_8 : decode cL_house 8 = .ok (.i2l, 1) := by decide +kernel
theorem dL_house_9 : decode cL_house 9 = .ok (.lastore, 1) := by decide +kernel
theorem dL_house_10 : decode cL_house 10 = .ok (.goto 11, 3) := by decide +kernel
theorem dL_house_13 : decode cL_house 13 = .ok (.astore 4, 2) := by decide +kernel
theorem dL_house_15 : decode cL_house 15 = .ok (.iconst 1, 1) := by decide +kernel
theorem dL_house_16 : decode cL_house 16 = .ok (.ireturn, 1) := by decide +kernel
theorem dL_house_17 : decode cL_house 17 = .ok (.astore 4, 2) := by decide +kernel
theorem dL_house_19 : decode cL_house 19 = .ok (.iconst 2, 1) := by decide +kernel
theorem dL_house_20 : decode cL_house 20 = .ok (.ireturn, 1) := by decide +kernel
theorem dL_house_21 : decode cL_house 21 = .ok (.iconst 0, 1) := by decide +kernel
theorem dL_house_22 : decode cL_house 22 = .ok (.ireturn, 1) := by decide +kernel
theorem cw_L_house : CWv RL 20 yX11_house cX11_house 3 (some .int) 2 := ⟨⟨(tbk tin_5 18 rfl rfl), (tbk tin_1 1 rfl rfl), (tbk tin_5 21 rfl rfl), by decide +kernel, by decide +kernel, by decide +kernel⟩, (tbk tin_5 19 rfl rfl), (tbk tin_5 20 rfl rfl)⟩
set_option maxRecDepth 100000 in
set_option maxHeartbeats 100000 in
theorem CW_house_ok {G : GX} (hG : GOk G) {x1 : Int32} {x2 : Int32} {h h1 : Hp} {v : Int32} (hf : f_X11_house x1 x2 h = some (Except.ok v, h1)) : CtrW G 12 yL_house cL_house 5 [(0, 10, 13, 24), (0, 10, 17, 26)] [.ref 1, .int x1, .int x2, .ref 50] h 0 (up1 h1 50 0 v) 0 :=
  CtrW_of hG RL rfl (by decide) rfl (fun X hX1 hX hT => by
    subst hX1
    show JQ X _ _ 0 0 0 [(0, .ref 1), (1, .int x1), (2, .int x2), (3, .ref 50)] [] h
    refine Q_aload_n hX 3 dL_house_0 rfl rfl ?_
    refine Q_iconst hX 0 dL_house_1 rfl ?_
    refine Q_aload_n hX 0 dL_house_2 rfl rfl ?_
    refine Q_iload_n hX 1 dL_house_3 rfl rfl ?_
    refine Q_iload_n hX 2 dL_house_4 rfl rfl ?_
    have hc := C_X11_house (okGQ hX) hf
    rw [oX_ok] at hc
    refine Q_V1 hX [.int x1, .int x2] dL_house_5 cw_L_house ob_1 rfl hc (by decide) (by decide) rfl rfl rfl rfl ⟨Nat.le_refl _, Nat.le_refl _⟩ ?_
    refine Q_i2l hX dL_house_8 ?_
    refine Q_last hX dL_house_9 ar_50 (by decide) ?_
    refine Q_goto hX 21 dL_house_10 rfl ?_
    refine Q_iconst hX 0 dL_house_21 rfl ?_
    exact Q_iret hX dL_house_22 (Nat.le_refl _) (Nat.le_refl _))
set_option maxRecDepth 100000 in
set_option maxHeartbeats 100000 in
theorem CW_house_e1 {G : GX} (hG : GOk G) {x1 : Int32} {x2 : Int32} {h h1 : Hp} (hf : f_X11_house x1 x2 h = some (Except.error "java/lang/IndexOutOfBoundsException", h1)) : CtrW G 12 yL_house cL_house 5 [(0, 10, 13, 24), (0, 10, 17, 26)] [.ref 1, .int x1, .int x2, .ref 50] h 1 h1 1 :=
  CtrW_of hG RL rfl (by decide) rfl (fun X hX1 hX hT => by
    subst hX1
    show JQ X _ _ 0 0 0 [(0, .ref 1), (1, .int x1), (2, .int x2), (3, .ref 50)] [] h
    refine Q_aload_n hX 3 dL_house_0 rfl rfl ?_
    refine Q_iconst hX 0 dL_house_1 rfl ?_
    refine Q_aload_n hX 0 dL_house_2 rfl rfl ?_
    refine Q_iload_n hX 1 dL_house_3 rfl rfl ?_
    refine Q_iload_n hX 2 dL_house_4 rfl rfl ?_
    have hc := C_X11_house (okGQ hX) hf
    rw [oX_er] at hc
    refine Q_Vx hX [.int x1, .int x2] dL_house_5 cw_L_house ob_1 rfl hc (by decide) (by decide) rfl rfl rfl rfl ⟨Nat.le_refl _, Nat.le_refl _⟩ ?_
    refine Q_catch hX hT (name := "java/lang/IndexOutOfBoundsException") [] [(0, 10, 17, 26)] (0, 10, 13, 24) [(0, .ref 1), (1, .int x1), (2, .int x2), (3, .ref 50)] rfl (fun z hz => by cases hz) (by decide) (by decide) (tbk tin_5 16 rfl rfl) cast_2 (Or.inl ⟨dL_house_13, rfl⟩) rfl rfl ?_
    refine Q_iconst hX 1 dL_house_15 rfl ?_
    exact Q_iret hX dL_house_16 (Nat.le_refl _) (Nat.le_refl _))
set_option maxRecDepth 100000 in
set_option maxHeartbeats 100000 in
theorem CW_house_e2 {G : GX} (hG : GOk G) {x1 : Int32} {x2 : Int32} {h h1 : Hp} (hf : f_X11_house x1 x2 h = some (Except.error "java/util/NoSuchElementException", h1)) : CtrW G 12 yL_house cL_house 5 [(0, 10, 13, 24), (0, 10, 17, 26)] [.ref 1, .int x1, .int x2, .ref 50] h 2 h1 1 :=
  CtrW_of hG RL rfl (by decide) rfl (fun X hX1 hX hT => by
    subst hX1
    show JQ X _ _ 0 0 0 [(0, .ref 1), (1, .int x1), (2, .int x2), (3, .ref 50)] [] h
    refine Q_aload_n hX 3 dL_house_0 rfl rfl ?_
    refine Q_iconst hX 0 dL_house_1 rfl ?_
    refine Q_aload_n hX 0 dL_house_2 rfl rfl ?_
    refine Q_iload_n hX 1 dL_house_3 rfl rfl ?_
    refine Q_iload_n hX 2 dL_house_4 rfl rfl ?_
    have hc := C_X11_house (okGQ hX) hf
    rw [oX_er] at hc
    refine Q_Vx hX [.int x1, .int x2] dL_house_5 cw_L_house ob_1 rfl hc (by decide) (by decide) rfl rfl rfl rfl ⟨Nat.le_refl _, Nat.le_refl _⟩ ?_
    refine Q_catch hX hT (name := "java/util/NoSuchElementException") [(0, 10, 13, 24)] [] (0, 10, 17, 26) [(0, .ref 1), (1, .int x1), (2, .int x2), (3, .ref 50)] rfl (fun z hz => by
        simp only [List.mem_cons, List.not_mem_nil, or_false] at hz
        rcases hz with rfl <;> first | exact ⟨by decide, "java/lang/IndexOutOfBoundsException", (tbk tin_5 16 rfl rfl), by decide⟩) (by decide) (by decide) (tbk tin_5 17 rfl rfl) cast_3 (Or.inl ⟨dL_house_17, rfl⟩) rfl rfl ?_
    refine Q_iconst hX 2 dL_house_19 rfl ?_
    exact Q_iret hX dL_house_20 (Nat.le_refl _) (Nat.le_refl _))
theorem dL_part_0 : decode cL_part 0 = .ok (.aload_n 3, 1) := by decide +kernel
theorem dL_part_1 : decode cL_part 1 = .ok (.iconst 0, 1) := by decide +kernel
theorem dL_part_2 : decode cL_part 2 = .ok (.aload_n 0, 1) := by decide +kernel
theorem dL_part_3 : decode cL_part 3 = .ok (.iload_n 1, 1) := by decide +kernel
theorem dL_part_4 : decode cL_part 4 = .ok (.iload_n 2, 1) := by decide +kernel
theorem dL_part_5 : decode cL_part 5 = .ok (.invokevirtual 28, 3) := by decide +kernel
theorem dL_part_8 : decode cL_part 8 = .ok (.i2l, 1) := by decide +kernel
theorem dL_part_9 : decode cL_part 9 = .ok (.lastore, 1) := by decide +kernel
theorem dL_part_10 : decode cL_part 10 = .ok (.goto 7, 3) := by decide +kernel
theorem dL_part_13 : decode cL_part 13 = .ok (.astore 4, 2) := by decide +kernel
theorem dL_part_15 : decode cL_part 15 = .ok (.iconst 1, 1) := by decide +kernel
theorem dL_part_16 : decode cL_part 16 = .ok (.ireturn, 1) := by decide +kernel
theorem dL_part_17 : decode cL_part 17 = .ok (.iconst 0, 1) := by decide +kernel
theorem dL_part_18 : decode cL_part 18 = .ok (.ireturn, 1) := by decide +kernel
theorem cw_L_part : CWv RL 28 yX11_part cX11_part 3 (some .int) 2 := ⟨⟨(tbk tin_5 81 rfl rfl), (tbk tin_1 1 rfl rfl), (tbk tin_5 84 rfl rfl), by decide +kernel, by decide +kernel, by decide +kernel⟩, (tbk tin_5 82 rfl rfl), (tbk tin_5 83 rfl rfl)⟩
set_option maxRecDepth 100000 in
set_option maxHeartbeats 100000 in
theorem CW_part_ok {G : GX} (hG : GOk G) {x1 : Int32} {x2 : Int32} {h h1 : Hp} {v : Int32} (hf : f_X11_part x1 x2 h = some (Except.ok v, h1)) : CtrW G 12 yL_part cL_part 5 [(0, 10, 13, 24)] [.ref 1, .int x1, .int x2, .ref 50] h 0 (up1 h1 50 0 v) 0 :=
  CtrW_of hG RL rfl (by decide) rfl (fun X hX1 hX hT => by
    subst hX1
    show JQ X _ _ 0 0 0 [(0, .ref 1), (1, .int x1), (2, .int x2), (3, .ref 50)] [] h
    refine Q_aload_n hX 3 dL_part_0 rfl rfl ?_
    refine Q_iconst hX 0 dL_part_1 rfl ?_
    refine Q_aload_n hX 0 dL_part_2 rfl rfl ?_
    refine Q_iload_n hX 1 dL_part_3 rfl rfl ?_
    refine Q_iload_n hX 2 dL_part_4 rfl rfl ?_
    have hc := C_X11_part (okGQ hX) hf
    rw [oX_ok] at hc
    refine Q_V1 hX [.int x1, .int x2] dL_part_5 cw_L_part ob_1 rfl hc (by decide) (by decide) rfl rfl rfl rfl ⟨Nat.le_refl _, Nat.le_refl _⟩ ?_
    refine Q_i2l hX dL_part_8 ?_
    refine Q_last hX dL_part_9 ar_50 (by decide) ?_
    refine Q_goto hX 17 dL_part_10 rfl ?_
    refine Q_iconst hX 0 dL_part_17 rfl ?_
    exact Q_iret hX dL_part_18 (Nat.le_refl _) (Nat.le_refl _))
set_option maxRecDepth 100000 in
set_option maxHeartbeats 100000 in
theorem CW_part_e1 {G : GX} (hG : GOk G) {x1 : Int32} {x2 : Int32} {h h1 : Hp} (hf : f_X11_part x1 x2 h = some (Except.error "java/lang/IndexOutOfBoundsException", h1)) : CtrW G 12 yL_part cL_part 5 [(0, 10, 13, 24)] [.ref 1, .int x1, .int x2, .ref 50] h 1 h1 1 :=
  CtrW_of hG RL rfl (by decide) rfl (fun X hX1 hX hT => by
    subst hX1
    show JQ X _ _ 0 0 0 [(0, .ref 1), (1, .int x1), (2, .int x2), (3, .ref 50)] [] h
    refine Q_aload_n hX 3 dL_part_0 rfl rfl ?_
    refine Q_iconst hX 0 dL_part_1 rfl ?_
    refine Q_aload_n hX 0 dL_part_2 rfl rfl ?_
    refine Q_iload_n hX 1 dL_part_3 rfl rfl ?_
    refine Q_iload_n hX 2 dL_part_4 rfl rfl ?_
    have hc := C_X11_part (okGQ hX) hf
    rw [oX_er] at hc
    refine Q_Vx hX [.int x1, .int x2] dL_part_5 cw_L_part ob_1 rfl hc (by decide) (by decide) rfl rfl rfl rfl ⟨Nat.le_refl _, Nat.le_refl _⟩ ?_
    refine Q_catch hX hT (name := "java/lang/IndexOutOfBoundsException") [] [] (0, 10, 13, 24) [(0, .ref 1), (1, .int x1), (2, .int x2), (3, .ref 50)] rfl (fun z hz => by cases hz) (by decide) (by decide) (tbk tin_5 16 rfl rfl) cast_2 (Or.inl ⟨dL_part_13, rfl⟩) rfl rfl ?_
    refine Q_iconst hX 1 dL_part_15 rfl ?_
    exact Q_iret hX dL_part_16 (Nat.le_refl _) (Nat.le_refl _))
theorem dL_person_0 : decode cL_person 0 = .ok (.aload_n 3, 1) := by decide +kernel
theorem dL_person_1 : decode cL_person 1 = .ok (.iconst 0, 1) := by decide +kernel
theorem dL_person_2 : decode cL_person 2 = .ok (.aload_n 0, 1) := by decide +kernel
theorem dL_person_3 : decode cL_person 3 = .ok (.iload_n 1, 1) := by decide +kernel
theorem dL_person_4 : decode cL_person 4 = .ok (.iload_n 2, 1) := by decide +kernel
theorem dL_person_5 : decode cL_person 5 = .ok (.invokevirtual 31, 3) := by decide +kernel
theorem dL_person_8 : decode cL_person 8 = .ok (.i2l, 1) := by decide +kernel
theorem dL_person_9 : decode cL_person 9 = .ok (.lastore, 1) := by decide +kernel
theorem dL_person_10 : decode cL_person 10 = .ok (.goto 11, 3) := by decide +kernel
theorem dL_person_13 : decode cL_person 13 = .ok (.astore 4, 2) := by decide +kernel
theorem dL_person_15 : decode cL_person 15 = .ok (.iconst 1, 1) := by decide +kernel
theorem dL_person_16 : decode cL_person 16 = .ok (.ireturn, 1) := by decide +kernel
theorem dL_person_17 : decode cL_person 17 = .ok (.astore 4, 2) := by decide +kernel
theorem dL_person_19 : decode cL_person 19 = .ok (.iconst 2, 1) := by decide +kernel
theorem dL_person_20 : decode cL_person 20 = .ok (.ireturn, 1) := by decide +kernel
theorem dL_person_21 : decode cL_person 21 = .ok (.iconst 0, 1) := by decide +kernel
theorem dL_person_22 : decode cL_person 22 = .ok (.ireturn, 1) := by decide +kernel
theorem cw_L_person : CWv RL 31 yX11_person cX11_person 3 (some .int) 2 := ⟨⟨(tbk tin_5 89 rfl rfl), (tbk tin_1 1 rfl rfl), (tbk tin_5 92 rfl rfl), by decide +kernel, by decide +kernel, by decide +kernel⟩, (tbk tin_5 90 rfl rfl), (tbk tin_5 91 rfl rfl)⟩
set_option maxRecDepth 100000 in
set_option maxHeartbeats 100000 in
theorem CW_person_ok {G : GX} (hG : GOk G) {x1 : Int32} {x2 : Int32} {h h1 : Hp} {v : Int32} (hf : f_X11_person x1 x2 h = some (Except.ok v, h1)) : CtrW G 12 yL_person cL_person 5 [(0, 10, 13, 24), (0, 10, 17, 26)] [.ref 1, .int x1, .int x2, .ref 50] h 0 (up1 h1 50 0 v) 0 :=
  CtrW_of hG RL rfl (by decide) rfl (fun X hX1 hX hT => by
    subst hX1
    show JQ X _ _ 0 0 0 [(0, .ref 1), (1, .int x1), (2, .int x2), (3, .ref 50)] [] h
    refine Q_aload_n hX 3 dL_person_0 rfl rfl ?_
    refine Q_iconst hX 0 dL_person_1 rfl ?_
    refine Q_aload_n hX 0 dL_person_2 rfl rfl ?_
    refine Q_iload_n hX 1 dL_person_3 rfl rfl ?_
    refine Q_iload_n hX 2 dL_person_4 rfl rfl ?_
    have hc := C_X11_person (okGQ hX) hf
    rw [oX_ok] at hc
    refine Q_V1 hX [.int x1, .int x2] dL_person_5 cw_L_person ob_1 rfl hc (by decide) (by decide) rfl rfl rfl rfl ⟨Nat.le_refl _, Nat.le_refl _⟩ ?_
    refine Q_i2l hX dL_person_8 ?_
    refine Q_last hX dL_person_9 ar_50 (by decide) ?_
    refine Q_goto hX 21 dL_person_10 rfl ?_
    refine Q_iconst hX 0 dL_person_21 rfl ?_
    exact Q_iret hX dL_person_22 (Nat.le_refl _) (Nat.le_refl _))
set_option maxRecDepth 100000 in
set_option maxHeartbeats 100000 in
theorem CW_person_e1 {G : GX} (hG : GOk G) {x1 : Int32} {x2 : Int32} {h h1 : Hp} (hf : f_X11_person x1 x2 h = some (Except.error "java/lang/IndexOutOfBoundsException", h1)) : CtrW G 12 yL_person cL_person 5 [(0, 10, 13, 24), (0, 10, 17, 26)] [.ref 1, .int x1, .int x2, .ref 50] h 1 h1 1 :=
  CtrW_of hG RL rfl (by decide) rfl (fun X hX1 hX hT => by
    subst hX1
    show JQ X _ _ 0 0 0 [(0, .ref 1), (1, .int x1), (2, .int x2), (3, .ref 50)] [] h
    refine Q_aload_n hX 3 dL_person_0 rfl rfl ?_
    refine Q_iconst hX 0 dL_person_1 rfl ?_
    refine Q_aload_n hX 0 dL_person_2 rfl rfl ?_
    refine Q_iload_n hX 1 dL_person_3 rfl rfl ?_
    refine Q_iload_n hX 2 dL_person_4 rfl rfl ?_
    have hc := C_X11_person (okGQ hX) hf
    rw [oX_er] at hc
    refine Q_Vx hX [.int x1, .int x2] dL_person_5 cw_L_person ob_1 rfl hc (by decide) (by decide) rfl rfl rfl rfl ⟨Nat.le_refl _, Nat.le_refl _⟩ ?_
    refine Q_catch hX hT (name := "java/lang/IndexOutOfBoundsException") [] [(0, 10, 17, 26)] (0, 10, 13, 24) [(0, .ref 1), (1, .int x1), (2, .int x2), (3, .ref 50)] rfl (fun z hz => by cases hz) (by decide) (by decide) (tbk tin_5 16 rfl rfl) cast_2 (Or.inl ⟨dL_person_13, rfl⟩) rfl rfl ?_
    refine Q_iconst hX 1 dL_person_15 rfl ?_
    exact Q_iret hX dL_person_16 (Nat.le_refl _) (Nat.le_refl _))
set_option maxRecDepth 100000 in
set_option maxHeartbeats 100000 in
theorem CW_person_e2 {G : GX} (hG : GOk G) {x1 : Int32} {x2 : Int32} {h h1 : Hp} (hf : f_X11_person x1 x2 h = some (Except.error "java/util/NoSuchElementException", h1)) : CtrW G 12 yL_person cL_person 5 [(0, 10, 13, 24), (0, 10, 17, 26)] [.ref 1, .int x1, .int x2, .ref 50] h 2 h1 1 :=
  CtrW_of hG RL rfl (by decide) rfl (fun X hX1 hX hT => by
    subst hX1
    show JQ X _ _ 0 0 0 [(0, .ref 1), (1, .int x1), (2, .int x2), (3, .ref 50)] [] h
    refine Q_aload_n hX 3 dL_person_0 rfl rfl ?_
    refine Q_iconst hX 0 dL_person_1 rfl ?_
    refine Q_aload_n hX 0 dL_person_2 rfl rfl ?_
    refine Q_iload_n hX 1 dL_person_3 rfl rfl ?_
    refine Q_iload_n hX 2 dL_person_4 rfl rfl ?_
    have hc := C_X11_person (okGQ hX) hf
    rw [oX_er] at hc
    refine Q_Vx hX [.int x1, .int x2] dL_person_5 cw_L_person ob_1 rfl hc (by decide) (by decide) rfl rfl rfl rfl ⟨Nat.le_refl _, Nat.le_refl _⟩ ?_
    refine Q_catch hX hT (name := "java/util/NoSuchElementException") [(0, 10, 13, 24)] [] (0, 10, 17, 26) [(0, .ref 1), (1, .int x1), (2, .int x2), (3, .ref 50)] rfl (fun z hz => by
        simp only [List.mem_cons, List.not_mem_nil, or_false] at hz
        rcases hz with rfl <;> first | exact ⟨by decide, "java/lang/IndexOutOfBoundsException", (tbk tin_5 16 rfl rfl), by decide⟩) (by decide) (by decide) (tbk tin_5 17 rfl rfl) cast_3 (Or.inl ⟨dL_person_17, rfl⟩) rfl rfl ?_
    refine Q_iconst hX 2 dL_person_19 rfl ?_
    exact Q_iret hX dL_person_20 (Nat.le_refl _) (Nat.le_refl _))
theorem dL_evenings_0 : decode cL_evenings 0 = .ok (.aload_n 2, 1) := by decide +kernel
theorem dL_evenings_1 : decode cL_evenings 1 = .ok (.iconst 0, 1) := by decide +kernel
theorem dL_evenings_2 : decode cL_evenings 2 = .ok (.aload_n 0, 1) := by decide +kernel
theorem dL_evenings_3 : decode cL_evenings 3 = .ok (.iload_n 1, 1) := by decide +kernel
theorem dL_evenings_4 : decode cL_evenings 4 = .ok (.invokevirtual 34, 3) := by decide +kernel
theorem dL_evenings_7 : decode cL_evenings 7 = .ok (.i2l, 1) := by decide +kernel
theorem dL_evenings_8 : decode cL_evenings 8 = .ok (.lastore, 1) := by decide +kernel
theorem dL_evenings_9 : decode cL_evenings 9 = .ok (.goto 6, 3) := by decide +kernel
theorem dL_evenings_12 : decode cL_evenings 12 = .ok (.astore_n 3, 1) := by decide +kernel
theorem dL_evenings_13 : decode cL_evenings 13 = .ok (.iconst 1, 1) := by decide +kernel
theorem dL_evenings_14 : decode cL_evenings 14 = .ok (.ireturn, 1) := by decide +kernel
theorem dL_evenings_15 : decode cL_evenings 15 = .ok (.iconst 0, 1) := by decide +kernel
theorem dL_evenings_16 : decode cL_evenings 16 = .ok (.ireturn, 1) := by decide +kernel
theorem cw_L_evenings : CWv RL 34 yX11_evenings cX11_evenings 3 (some .int) 1 := ⟨⟨(tbk tin_5 107 rfl rfl), (tbk tin_1 1 rfl rfl), (tbk tin_5 110 rfl rfl), by decide +kernel, by decide +kernel, by decide +kernel⟩, (tbk tin_5 108 rfl rfl), (tbk tin_5 109 rfl rfl)⟩
set_option maxRecDepth 100000 in
set_option maxHeartbeats 100000 in
theorem CW_evenings_ok {G : GX} (hG : GOk G) {x1 : Int32} {h h1 : Hp} {v : Int32} (hf : f_X11_evenings x1 h = some (Except.ok v, h1)) : CtrW G 12 yL_evenings cL_evenings 4 [(0, 9, 12, 13)] [.ref 1, .int x1, .ref 50] h 0 (up1 h1 50 0 v) 0 :=
  CtrW_of hG RL rfl (by decide) rfl (fun X hX1 hX hT => by
    subst hX1
    show JQ X _ _ 0 0 0 [(0, .ref 1), (1, .int x1), (2, .ref 50)] [] h
    refine Q_aload_n hX 2 dL_evenings_0 rfl rfl ?_
    refine Q_iconst hX 0 dL_evenings_1 rfl ?_
    refine Q_aload_n hX 0 dL_evenings_2 rfl rfl ?_
    refine Q_iload_n hX 1 dL_evenings_3 rfl rfl ?_
    have hc := C_X11_evenings (okGQ hX) hf
    rw [oX_ok] at hc
    refine Q_V1 hX [.int x1] dL_evenings_4 cw_L_evenings ob_1 rfl hc (by decide) (by decide) rfl rfl rfl rfl ⟨Nat.le_refl _, Nat.le_refl _⟩ ?_
    refine Q_i2l hX dL_evenings_7 ?_
    refine Q_last hX dL_evenings_8 ar_50 (by decide) ?_
    refine Q_goto hX 15 dL_evenings_9 rfl ?_
    refine Q_iconst hX 0 dL_evenings_15 rfl ?_
    exact Q_iret hX dL_evenings_16 (Nat.le_refl _) (Nat.le_refl _))
set_option maxRecDepth 100000 in
set_option maxHeartbeats 100000 in
theorem CW_evenings_e1 {G : GX} (hG : GOk G) {x1 : Int32} {h h1 : Hp} (hf : f_X11_evenings x1 h = some (Except.error "java/lang/IllegalArgumentException", h1)) : CtrW G 12 yL_evenings cL_evenings 4 [(0, 9, 12, 13)] [.ref 1, .int x1, .ref 50] h 1 h1 1 :=
  CtrW_of hG RL rfl (by decide) rfl (fun X hX1 hX hT => by
    subst hX1
    show JQ X _ _ 0 0 0 [(0, .ref 1), (1, .int x1), (2, .ref 50)] [] h
    refine Q_aload_n hX 2 dL_evenings_0 rfl rfl ?_
    refine Q_iconst hX 0 dL_evenings_1 rfl ?_
    refine Q_aload_n hX 0 dL_evenings_2 rfl rfl ?_
    refine Q_iload_n hX 1 dL_evenings_3 rfl rfl ?_
    have hc := C_X11_evenings (okGQ hX) hf
    rw [oX_er] at hc
    refine Q_Vx hX [.int x1] dL_evenings_4 cw_L_evenings ob_1 rfl hc (by decide) (by decide) rfl rfl rfl rfl ⟨Nat.le_refl _, Nat.le_refl _⟩ ?_
    refine Q_catch hX hT (name := "java/lang/IllegalArgumentException") [] [] (0, 9, 12, 13) [(0, .ref 1), (1, .int x1), (2, .ref 50)] rfl (fun z hz => by cases hz) (by decide) (by decide) (tbk tin_3 199 rfl rfl) cast_0 (Or.inr ⟨3, rfl, dL_evenings_12, rfl⟩) rfl rfl ?_
    refine Q_iconst hX 1 dL_evenings_13 rfl ?_
    exact Q_iret hX dL_evenings_14 (Nat.le_refl _) (Nat.le_refl _))
theorem dL_build_0 : decode cL_build 0 = .ok (.aload 5, 2) := by decide +kernel
theorem dL_build_2 : decode cL_build 2 = .ok (.iconst 0, 1) := by decide +kernel
theorem dL_build_3 : decode cL_build 3 = .ok (.aload_n 0, 1) := by decide +kernel
theorem dL_build_4 : decode cL_build 4 = .ok (.iload_n 1, 1) := by decide +kernel
theorem dL_build_5 : decode cL_build 5 = .ok (.iload_n 2, 1) := by decide +kernel
theorem dL_build_6 : decode cL_build 6 = .ok (.iload_n 3, 1) := by decide +kernel
theorem dL_build_7 : decode cL_build 7 = .ok (.iload 4, 2) := by decide +kernel
theorem dL_build_9 : decode cL_build 9 = .ok (.invokevirtual 38, 3) := by decide +kernel
theorem dL_build_12 : decode cL_build 12 = .ok (.i2l, 1) := by decide +kernel
theorem dL_build_13 : decode cL_build 13 = .ok (.lastore, 1) := by decide +kernel
theorem dL_build_14 : decode cL_build 14 = .ok (.goto 15, 3) := by decide +kernel
theorem dL_build_17 : decode cL_build 17 = .ok (.astore 6, 2) := by decide +kernel
theorem dL_build_19 : decode cL_build 19 = .ok (.iconst 1, 1) := by decide +kernel
theorem dL_build_20 : decode cL_build 20 = .ok (.ireturn, 1) := by decide +kernel
theorem dL_build_21 : decode cL_build 21 = .ok (.astore 6, 2) := by decide +kernel
theorem dL_build_23 : decode cL_build 23 = .ok (.iconst 2, 1) := by decide +kernel
theorem dL_build_24 : decode cL_build 24 = .ok (.ireturn, 1) := by decide +kernel
theorem dL_build_25 : decode cL_build 25 = .ok (.astore 6, 2) := by decide +kernel
theorem dL_build_27 : decode cL_build 27 = .ok (.iconst 3, 1) := by decide +kernel
theorem dL_build_28 : decode cL_build 28 = .ok (.ireturn, 1) := by decide +kernel
theorem dL_build_29 : decode cL_build 29 = .ok (.iconst 0, 1) := by decide +kernel
theorem dL_build_30 : decode cL_build 30 = .ok (.ireturn, 1) := by decide +kernel
theorem cw_L_build : CWv RL 38 yX11_build cX11_build 6 (some .int) 4 := ⟨⟨(tbk tin_5 127 rfl rfl), (tbk tin_1 1 rfl rfl), (tbk tin_5 130 rfl rfl), by decide +kernel, by decide +kernel, by decide +kernel⟩, (tbk tin_5 128 rfl rfl), (tbk tin_5 129 rfl rfl)⟩
set_option maxRecDepth 100000 in
set_option maxHeartbeats 100000 in
theorem CW_build_ok {G : GX} (hG : GOk G) {x1 : Int32} {x2 : Int32} {x3 : Int32} {x4 : Int32} {h h1 : Hp} {v : Int32} (hf : f_X11_build x1 x2 x3 x4 h = some (Except.ok v, h1)) : CtrW G 12 yL_build cL_build 7 [(0, 14, 17, 24), (0, 14, 21, 13), (0, 14, 25, 42)] [.ref 1, .int x1, .int x2, .int x3, .int x4, .ref 50] h 0 (up1 h1 50 0 v) 0 :=
  CtrW_of hG RL rfl (by decide) rfl (fun X hX1 hX hT => by
    subst hX1
    show JQ X _ _ 0 0 0 [(0, .ref 1), (1, .int x1), (2, .int x2), (3, .int x3), (4, .int x4), (5, .ref 50)] [] h
    refine Q_aload hX 5 dL_build_0 rfl ?_
    refine Q_iconst hX 0 dL_build_2 rfl ?_
    refine Q_aload_n hX 0 dL_build_3 rfl rfl ?_
    refine Q_iload_n hX 1 dL_build_4 rfl rfl ?_
    refine Q_iload_n hX 2 dL_build_5 rfl rfl ?_
    refine Q_iload_n hX 3 dL_build_6 rfl rfl ?_
    refine Q_iload hX 4 dL_build_7 rfl ?_
    have hc := C_X11_build (okGQ hX) hf
    rw [oX_ok] at hc
    refine Q_V1 hX [.int x1, .int x2, .int x3, .int x4] dL_build_9 cw_L_build ob_1 rfl hc (by decide) (by decide) rfl rfl rfl rfl ⟨Nat.le_refl _, Nat.le_refl _⟩ ?_
    refine Q_i2l hX dL_build_12 ?_
    refine Q_last hX dL_build_13 ar_50 (by decide) ?_
    refine Q_goto hX 29 dL_build_14 rfl ?_
    refine Q_iconst hX 0 dL_build_29 rfl ?_
    exact Q_iret hX dL_build_30 (Nat.le_refl _) (Nat.le_refl _))
set_option maxRecDepth 100000 in
set_option maxHeartbeats 100000 in
theorem CW_build_e1 {G : GX} (hG : GOk G) {x1 : Int32} {x2 : Int32} {x3 : Int32} {x4 : Int32} {h h1 : Hp} (hf : f_X11_build x1 x2 x3 x4 h = some (Except.error "java/lang/IndexOutOfBoundsException", h1)) : CtrW G 12 yL_build cL_build 7 [(0, 14, 17, 24), (0, 14, 21, 13), (0, 14, 25, 42)] [.ref 1, .int x1, .int x2, .int x3, .int x4, .ref 50] h 1 h1 1 :=
  CtrW_of hG RL rfl (by decide) rfl (fun X hX1 hX hT => by
    subst hX1
    show JQ X _ _ 0 0 0 [(0, .ref 1), (1, .int x1), (2, .int x2), (3, .int x3), (4, .int x4), (5, .ref 50)] [] h
    refine Q_aload hX 5 dL_build_0 rfl ?_
    refine Q_iconst hX 0 dL_build_2 rfl ?_
    refine Q_aload_n hX 0 dL_build_3 rfl rfl ?_
    refine Q_iload_n hX 1 dL_build_4 rfl rfl ?_
    refine Q_iload_n hX 2 dL_build_5 rfl rfl ?_
    refine Q_iload_n hX 3 dL_build_6 rfl rfl ?_
    refine Q_iload hX 4 dL_build_7 rfl ?_
    have hc := C_X11_build (okGQ hX) hf
    rw [oX_er] at hc
    refine Q_Vx hX [.int x1, .int x2, .int x3, .int x4] dL_build_9 cw_L_build ob_1 rfl hc (by decide) (by decide) rfl rfl rfl rfl ⟨Nat.le_refl _, Nat.le_refl _⟩ ?_
    refine Q_catch hX hT (name := "java/lang/IndexOutOfBoundsException") [] [(0, 14, 21, 13), (0, 14, 25, 42)] (0, 14, 17, 24) [(0, .ref 1), (1, .int x1), (2, .int x2), (3, .int x3), (4, .int x4), (5, .ref 50)] rfl (fun z hz => by cases hz) (by decide) (by decide) (tbk tin_5 16 rfl rfl) cast_2 (Or.inl ⟨dL_build_17, rfl⟩) rfl rfl ?_
    refine Q_iconst hX 1 dL_build_19 rfl ?_
    exact Q_iret hX dL_build_20 (Nat.le_refl _) (Nat.le_refl _))
set_option maxRecDepth 100000 in
set_option maxHeartbeats 100000 in
theorem CW_build_e2 {G : GX} (hG : GOk G) {x1 : Int32} {x2 : Int32} {x3 : Int32} {x4 : Int32} {h h1 : Hp} (hf : f_X11_build x1 x2 x3 x4 h = some (Except.error "java/lang/IllegalArgumentException", h1)) : CtrW G 12 yL_build cL_build 7 [(0, 14, 17, 24), (0, 14, 21, 13), (0, 14, 25, 42)] [.ref 1, .int x1, .int x2, .int x3, .int x4, .ref 50] h 2 h1 1 :=
  CtrW_of hG RL rfl (by decide) rfl (fun X hX1 hX hT => by
    subst hX1
    show JQ X _ _ 0 0 0 [(0, .ref 1), (1, .int x1), (2, .int x2), (3, .int x3), (4, .int x4), (5, .ref 50)] [] h
    refine Q_aload hX 5 dL_build_0 rfl ?_
    refine Q_iconst hX 0 dL_build_2 rfl ?_
    refine Q_aload_n hX 0 dL_build_3 rfl rfl ?_
    refine Q_iload_n hX 1 dL_build_4 rfl rfl ?_
    refine Q_iload_n hX 2 dL_build_5 rfl rfl ?_
    refine Q_iload_n hX 3 dL_build_6 rfl rfl ?_
    refine Q_iload hX 4 dL_build_7 rfl ?_
    have hc := C_X11_build (okGQ hX) hf
    rw [oX_er] at hc
    refine Q_Vx hX [.int x1, .int x2, .int x3, .int x4] dL_build_9 cw_L_build ob_1 rfl hc (by decide) (by decide) rfl rfl rfl rfl ⟨Nat.le_refl _, Nat.le_refl _⟩ ?_
    refine Q_catch hX hT (name := "java/lang/IllegalArgumentException") [(0, 14, 17, 24)] [(0, 14, 25, 42)] (0, 14, 21, 13) [(0, .ref 1), (1, .int x1), (2, .int x2), (3, .int x3), (4, .int x4), (5, .ref 50)] rfl (fun z hz => by
        simp only [List.mem_cons, List.not_mem_nil, or_false] at hz
        rcases hz with rfl <;> first | exact ⟨by decide, "java/lang/IndexOutOfBoundsException", (tbk tin_5 16 rfl rfl), by decide⟩) (by decide) (by decide) (tbk tin_3 199 rfl rfl) cast_0 (Or.inl ⟨dL_build_21, rfl⟩) rfl rfl ?_
    refine Q_iconst hX 2 dL_build_23 rfl ?_
    exact Q_iret hX dL_build_24 (Nat.le_refl _) (Nat.le_refl _))
set_option maxRecDepth 100000 in
set_option maxHeartbeats 100000 in
theorem CW_build_e3 {G : GX} (hG : GOk G) {x1 : Int32} {x2 : Int32} {x3 : Int32} {x4 : Int32} {h h1 : Hp} (hf : f_X11_build x1 x2 x3 x4 h = some (Except.error "java/lang/IllegalStateException", h1)) : CtrW G 12 yL_build cL_build 7 [(0, 14, 17, 24), (0, 14, 21, 13), (0, 14, 25, 42)] [.ref 1, .int x1, .int x2, .int x3, .int x4, .ref 50] h 3 h1 1 :=
  CtrW_of hG RL rfl (by decide) rfl (fun X hX1 hX hT => by
    subst hX1
    show JQ X _ _ 0 0 0 [(0, .ref 1), (1, .int x1), (2, .int x2), (3, .int x3), (4, .int x4), (5, .ref 50)] [] h
    refine Q_aload hX 5 dL_build_0 rfl ?_
    refine Q_iconst hX 0 dL_build_2 rfl ?_
    refine Q_aload_n hX 0 dL_build_3 rfl rfl ?_
    refine Q_iload_n hX 1 dL_build_4 rfl rfl ?_
    refine Q_iload_n hX 2 dL_build_5 rfl rfl ?_
    refine Q_iload_n hX 3 dL_build_6 rfl rfl ?_
    refine Q_iload hX 4 dL_build_7 rfl ?_
    have hc := C_X11_build (okGQ hX) hf
    rw [oX_er] at hc
    refine Q_Vx hX [.int x1, .int x2, .int x3, .int x4] dL_build_9 cw_L_build ob_1 rfl hc (by decide) (by decide) rfl rfl rfl rfl ⟨Nat.le_refl _, Nat.le_refl _⟩ ?_
    refine Q_catch hX hT (name := "java/lang/IllegalStateException") [(0, 14, 17, 24), (0, 14, 21, 13)] [] (0, 14, 25, 42) [(0, .ref 1), (1, .int x1), (2, .int x2), (3, .int x3), (4, .int x4), (5, .ref 50)] rfl (fun z hz => by
        simp only [List.mem_cons, List.not_mem_nil, or_false] at hz
        rcases hz with rfl | rfl <;> first | exact ⟨by decide, "java/lang/IndexOutOfBoundsException", (tbk tin_5 16 rfl rfl), by decide⟩ | exact ⟨by decide, "java/lang/IllegalArgumentException", (tbk tin_3 199 rfl rfl), by decide⟩) (by decide) (by decide) (tbk tin_5 126 rfl rfl) cast_4 (Or.inl ⟨dL_build_25, rfl⟩) rfl rfl ?_
    refine Q_iconst hX 3 dL_build_27 rfl ?_
    exact Q_iret hX dL_build_28 (Nat.le_refl _) (Nat.le_refl _))
theorem dL_lean_0 : decode cL_lean 0 = .ok (.aload 4, 2) := by decide +kernel
theorem dL_lean_2 : decode cL_lean 2 = .ok (.iconst 0, 1) := by decide +kernel
theorem dL_lean_3 : decode cL_lean 3 = .ok (.aload_n 0, 1) := by decide +kernel
theorem dL_lean_4 : decode cL_lean 4 = .ok (.iload_n 1, 1) := by decide +kernel
theorem dL_lean_5 : decode cL_lean 5 = .ok (.iload_n 2, 1) := by decide +kernel
theorem dL_lean_6 : decode cL_lean 6 = .ok (.iload_n 3, 1) := by decide +kernel
theorem dL_lean_7 : decode cL_lean 7 = .ok (.invokevirtual 44, 3) := by decide +kernel
theorem dL_lean_10 : decode cL_lean 10 = .ok (.i2l, 1) := by decide +kernel
theorem dL_lean_11 : decode cL_lean 11 = .ok (.lastore, 1) := by decide +kernel
theorem dL_lean_12 : decode cL_lean 12 = .ok (.goto 15, 3) := by decide +kernel
theorem dL_lean_15 : decode cL_lean 15 = .ok (.astore 5, 2) := by decide +kernel
theorem dL_lean_17 : decode cL_lean 17 = .ok (.iconst 1, 1) := by decide +kernel
theorem dL_lean_18 : decode cL_lean 18 = .ok (.ireturn, 1) := by decide +kernel
theorem dL_lean_19 : decode cL_lean 19 = .ok (.astore 5, 2) := by decide +kernel
theorem dL_lean_21 : decode cL_lean 21 = .ok (.iconst 2, 1) := by decide +kernel
theorem dL_lean_22 : decode cL_lean 22 = .ok (.ireturn, 1) := by decide +kernel
theorem dL_lean_23 : decode cL_lean 23 = .ok (.astore 5, 2) := by decide +kernel
theorem dL_lean_25 : decode cL_lean 25 = .ok (.iconst 3, 1) := by decide +kernel
theorem dL_lean_26 : decode cL_lean 26 = .ok (.ireturn, 1) := by decide +kernel
theorem dL_lean_27 : decode cL_lean 27 = .ok (.iconst 0, 1) := by decide +kernel
theorem dL_lean_28 : decode cL_lean 28 = .ok (.ireturn, 1) := by decide +kernel
theorem cw_L_lean : CWv RL 44 yX11_lean cX11_lean 5 (some .int) 3 := ⟨⟨(tbk tin_5 155 rfl rfl), (tbk tin_1 1 rfl rfl), (tbk tin_5 158 rfl rfl), by decide +kernel, by decide +kernel, by decide +kernel⟩, (tbk tin_5 156 rfl rfl), (tbk tin_5 157 rfl rfl)⟩
set_option maxRecDepth 100000 in
set_option maxHeartbeats 100000 in
theorem CW_lean_ok {G : GX} (hG : GOk G) {x1 : Int32} {x2 : Int32} {x3 : Int32} {h h1 : Hp} {v : Int32} (hf : f_X11_lean x1 x2 x3 h = some (Except.ok v, h1)) : CtrW G 13 yL_lean cL_lean 6 [(0, 12, 15, 24), (0, 12, 19, 13), (0, 12, 23, 42)] [.ref 1, .int x1, .int x2, .int x3, .ref 50] h 0 (up1 h1 50 0 v) 0 :=
  CtrW_of hG RL rfl (by decide) rfl (fun X hX1 hX hT => by
    subst hX1
    show JQ X _ _ 0 0 0 [(0, .ref 1), (1, .int x1), (2, .int x2), (3, .int x3), (4, .ref 50)] [] h
    refine Q_aload hX 4 dL_lean_0 rfl ?_
    refine Q_iconst hX 0 dL_lean_2 rfl ?_
    refine Q_aload_n hX 0 dL_lean_3 rfl rfl ?_
    refine Q_iload_n hX 1 dL_lean_4 rfl rfl ?_
    refine Q_iload_n hX 2 dL_lean_5 rfl rfl ?_
    refine Q_iload_n hX 3 dL_lean_6 rfl rfl ?_
    have hc := C_X11_lean (okGQ hX) hf
    rw [oX_ok] at hc
    refine Q_V1 hX [.int x1, .int x2, .int x3] dL_lean_7 cw_L_lean ob_1 rfl hc (by decide) (by decide) rfl rfl rfl rfl ⟨Nat.le_refl _, Nat.le_refl _⟩ ?_
    refine Q_i2l hX dL_lean_10 ?_
    refine Q_last hX dL_lean_11 ar_50 (by decide) ?_
    refine Q_goto hX 27 dL_lean_12 rfl ?_
    refine Q_iconst hX 0 dL_lean_27 rfl ?_
    exact Q_iret hX dL_lean_28 (Nat.le_refl _) (Nat.le_refl _))
set_option maxRecDepth 100000 in
set_option maxHeartbeats 100000 in
theorem CW_lean_e1 {G : GX} (hG : GOk G) {x1 : Int32} {x2 : Int32} {x3 : Int32} {h h1 : Hp} (hf : f_X11_lean x1 x2 x3 h = some (Except.error "java/lang/IndexOutOfBoundsException", h1)) : CtrW G 13 yL_lean cL_lean 6 [(0, 12, 15, 24), (0, 12, 19, 13), (0, 12, 23, 42)] [.ref 1, .int x1, .int x2, .int x3, .ref 50] h 1 h1 1 :=
  CtrW_of hG RL rfl (by decide) rfl (fun X hX1 hX hT => by
    subst hX1
    show JQ X _ _ 0 0 0 [(0, .ref 1), (1, .int x1), (2, .int x2), (3, .int x3), (4, .ref 50)] [] h
    refine Q_aload hX 4 dL_lean_0 rfl ?_
    refine Q_iconst hX 0 dL_lean_2 rfl ?_
    refine Q_aload_n hX 0 dL_lean_3 rfl rfl ?_
    refine Q_iload_n hX 1 dL_lean_4 rfl rfl ?_
    refine Q_iload_n hX 2 dL_lean_5 rfl rfl ?_
    refine Q_iload_n hX 3 dL_lean_6 rfl rfl ?_
    have hc := C_X11_lean (okGQ hX) hf
    rw [oX_er] at hc
    refine Q_Vx hX [.int x1, .int x2, .int x3] dL_lean_7 cw_L_lean ob_1 rfl hc (by decide) (by decide) rfl rfl rfl rfl ⟨Nat.le_refl _, Nat.le_refl _⟩ ?_
    refine Q_catch hX hT (name := "java/lang/IndexOutOfBoundsException") [] [(0, 12, 19, 13), (0, 12, 23, 42)] (0, 12, 15, 24) [(0, .ref 1), (1, .int x1), (2, .int x2), (3, .int x3), (4, .ref 50)] rfl (fun z hz => by cases hz) (by decide) (by decide) (tbk tin_5 16 rfl rfl) cast_2 (Or.inl ⟨dL_lean_15, rfl⟩) rfl rfl ?_
    refine Q_iconst hX 1 dL_lean_17 rfl ?_
    exact Q_iret hX dL_lean_18 (Nat.le_refl _) (Nat.le_refl _))
set_option maxRecDepth 100000 in
set_option maxHeartbeats 100000 in
theorem CW_lean_e2 {G : GX} (hG : GOk G) {x1 : Int32} {x2 : Int32} {x3 : Int32} {h h1 : Hp} (hf : f_X11_lean x1 x2 x3 h = some (Except.error "java/lang/IllegalArgumentException", h1)) : CtrW G 13 yL_lean cL_lean 6 [(0, 12, 15, 24), (0, 12, 19, 13), (0, 12, 23, 42)] [.ref 1, .int x1, .int x2, .int x3, .ref 50] h 2 h1 1 :=
  CtrW_of hG RL rfl (by decide) rfl (fun X hX1 hX hT => by
    subst hX1
    show JQ X _ _ 0 0 0 [(0, .ref 1), (1, .int x1), (2, .int x2), (3, .int x3), (4, .ref 50)] [] h
    refine Q_aload hX 4 dL_lean_0 rfl ?_
    refine Q_iconst hX 0 dL_lean_2 rfl ?_
    refine Q_aload_n hX 0 dL_lean_3 rfl rfl ?_
    refine Q_iload_n hX 1 dL_lean_4 rfl rfl ?_
    refine Q_iload_n hX 2 dL_lean_5 rfl rfl ?_
    refine Q_iload_n hX 3 dL_lean_6 rfl rfl ?_
    have hc := C_X11_lean (okGQ hX) hf
    rw [oX_er] at hc
    refine Q_Vx hX [.int x1, .int x2, .int x3] dL_lean_7 cw_L_lean ob_1 rfl hc (by decide) (by decide) rfl rfl rfl rfl ⟨Nat.le_refl _, Nat.le_refl _⟩ ?_
    refine Q_catch hX hT (name := "java/lang/IllegalArgumentException") [(0, 12, 15, 24)] [(0, 12, 23, 42)] (0, 12, 19, 13) [(0, .ref 1), (1, .int x1), (2, .int x2), (3, .int x3), (4, .ref 50)] rfl (fun z hz => by
        simp only [List.mem_cons, List.not_mem_nil, or_false] at hz
        rcases hz with rfl <;> first | exact ⟨by decide, "java/lang/IndexOutOfBoundsException", (tbk tin_5 16 rfl rfl), by decide⟩) (by decide) (by decide) (tbk tin_3 199 rfl rfl) cast_0 (Or.inl ⟨dL_lean_19, rfl⟩) rfl rfl ?_
    refine Q_iconst hX 2 dL_lean_21 rfl ?_
    exact Q_iret hX dL_lean_22 (Nat.le_refl _) (Nat.le_refl _))
set_option maxRecDepth 100000 in
set_option maxHeartbeats 100000 in
theorem CW_lean_e3 {G : GX} (hG : GOk G) {x1 : Int32} {x2 : Int32} {x3 : Int32} {h h1 : Hp} (hf : f_X11_lean x1 x2 x3 h = some (Except.error "java/lang/IllegalStateException", h1)) : CtrW G 13 yL_lean cL_lean 6 [(0, 12, 15, 24), (0, 12, 19, 13), (0, 12, 23, 42)] [.ref 1, .int x1, .int x2, .int x3, .ref 50] h 3 h1 1 :=
  CtrW_of hG RL rfl (by decide) rfl (fun X hX1 hX hT => by
    subst hX1
    show JQ X _ _ 0 0 0 [(0, .ref 1), (1, .int x1), (2, .int x2), (3, .int x3), (4, .ref 50)] [] h
    refine Q_aload hX 4 dL_lean_0 rfl ?_
    refine Q_iconst hX 0 dL_lean_2 rfl ?_
    refine Q_aload_n hX 0 dL_lean_3 rfl rfl ?_
    refine Q_iload_n hX 1 dL_lean_4 rfl rfl ?_
    refine Q_iload_n hX 2 dL_lean_5 rfl rfl ?_
    refine Q_iload_n hX 3 dL_lean_6 rfl rfl ?_
    have hc := C_X11_lean (okGQ hX) hf
    rw [oX_er] at hc
    refine Q_Vx hX [.int x1, .int x2, .int x3] dL_lean_7 cw_L_lean ob_1 rfl hc (by decide) (by decide) rfl rfl rfl rfl ⟨Nat.le_refl _, Nat.le_refl _⟩ ?_
    refine Q_catch hX hT (name := "java/lang/IllegalStateException") [(0, 12, 15, 24), (0, 12, 19, 13)] [] (0, 12, 23, 42) [(0, .ref 1), (1, .int x1), (2, .int x2), (3, .int x3), (4, .ref 50)] rfl (fun z hz => by
        simp only [List.mem_cons, List.not_mem_nil, or_false] at hz
        rcases hz with rfl | rfl <;> first | exact ⟨by decide, "java/lang/IndexOutOfBoundsException", (tbk tin_5 16 rfl rfl), by decide⟩ | exact ⟨by decide, "java/lang/IllegalArgumentException", (tbk tin_3 199 rfl rfl), by decide⟩) (by decide) (by decide) (tbk tin_5 126 rfl rfl) cast_4 (Or.inl ⟨dL_lean_23, rfl⟩) rfl rfl ?_
    refine Q_iconst hX 3 dL_lean_25 rfl ?_
    exact Q_iret hX dL_lean_26 (Nat.le_refl _) (Nat.le_refl _))
theorem dL_wed_0 : decode cL_wed 0 = .ok (.aload_n 3, 1) := by decide +kernel
theorem dL_wed_1 : decode cL_wed 1 = .ok (.iconst 0, 1) := by decide +kernel
theorem dL_wed_2 : decode cL_wed 2 = .ok (.aload_n 0, 1) := by decide +kernel
theorem dL_wed_3 : decode cL_wed 3 = .ok (.iload_n 1, 1) := by decide +kernel
theorem dL_wed_4 : decode cL_wed 4 = .ok (.iload_n 2, 1) := by decide +kernel
theorem dL_wed_5 : decode cL_wed 5 = .ok (.invokevirtual 48, 3) := by decide +kernel
theorem dL_wed_8 : decode cL_wed 8 = .ok (.i2l, 1) := by decide +kernel
theorem dL_wed_9 : decode cL_wed 9 = .ok (.lastore, 1) := by decide +kernel
theorem dL_wed_10 : decode cL_wed 10 = .ok (.goto 15, 3) := by decide +kernel
theorem dL_wed_13 : decode cL_wed 13 = .ok (.astore 4, 2) := by decide +kernel
theorem dL_wed_15 : decode cL_wed 15 = .ok (.iconst 1, 1) := by decide +kernel
theorem dL_wed_16 : decode cL_wed 16 = .ok (.ireturn, 1) := by decide +kernel
theorem dL_wed_17 : decode cL_wed 17 = .ok (.astore 4, 2) := by decide +kernel
theorem dL_wed_19 : decode cL_wed 19 = .ok (.iconst 2, 1) := by decide +kernel
theorem dL_wed_20 : decode cL_wed 20 = .ok (.ireturn, 1) := by decide +kernel
theorem dL_wed_21 : decode cL_wed 21 = .ok (.astore 4, 2) := by decide +kernel
theorem dL_wed_23 : decode cL_wed 23 = .ok (.iconst 3, 1) := by decide +kernel
theorem dL_wed_24 : decode cL_wed 24 = .ok (.ireturn, 1) := by decide +kernel
theorem dL_wed_25 : decode cL_wed 25 = .ok (.iconst 0, 1) := by decide +kernel
theorem dL_wed_26 : decode cL_wed 26 = .ok (.ireturn, 1) := by decide +kernel
theorem cw_L_wed : CWv RL 48 yX11_wed cX11_wed 3 (some .int) 2 := ⟨⟨(tbk tin_5 166 rfl rfl), (tbk tin_1 1 rfl rfl), (tbk tin_5 169 rfl rfl), by decide +kernel, by decide +kernel, by decide +kernel⟩, (tbk tin_5 167 rfl rfl), (tbk tin_5 168 rfl rfl)⟩
set_option maxRecDepth 100000 in
set_option maxHeartbeats 100000 in
theorem CW_wed_ok {G : GX} (hG : GOk G) {x1 : Int32} {x2 : Int32} {h h1 : Hp} {v : Int32} (hf : f_X11_wed x1 x2 h = some (Except.ok v, h1)) : CtrW G 13 yL_wed cL_wed 5 [(0, 10, 13, 24), (0, 10, 17, 13), (0, 10, 21, 42)] [.ref 1, .int x1, .int x2, .ref 50] h 0 (up1 h1 50 0 v) 0 :=
  CtrW_of hG RL rfl (by decide) rfl (fun X hX1 hX hT => by
    subst hX1
    show JQ X _ _ 0 0 0 [(0, .ref 1), (1, .int x1), (2, .int x2), (3, .ref 50)] [] h
    refine Q_aload_n hX 3 dL_wed_0 rfl rfl ?_
    refine Q_iconst hX 0 dL_wed_1 rfl ?_
    refine Q_aload_n hX 0 dL_wed_2 rfl rfl ?_
    refine Q_iload_n hX 1 dL_wed_3 rfl rfl ?_
    refine Q_iload_n hX 2 dL_wed_4 rfl rfl ?_
    have hc := C_X11_wed (okGQ hX) hf
    rw [oX_ok] at hc
    refine Q_V1 hX [.int x1, .int x2] dL_wed_5 cw_L_wed ob_1 rfl hc (by decide) (by decide) rfl rfl rfl rfl ⟨Nat.le_refl _, Nat.le_refl _⟩ ?_
    refine Q_i2l hX dL_wed_8 ?_
    refine Q_last hX dL_wed_9 ar_50 (by decide) ?_
    refine Q_goto hX 25 dL_wed_10 rfl ?_
    refine Q_iconst hX 0 dL_wed_25 rfl ?_
    exact Q_iret hX dL_wed_26 (Nat.le_refl _) (Nat.le_refl _))
set_option maxRecDepth 100000 in
set_option maxHeartbeats 100000 in
theorem CW_wed_e1 {G : GX} (hG : GOk G) {x1 : Int32} {x2 : Int32} {h h1 : Hp} (hf : f_X11_wed x1 x2 h = some (Except.error "java/lang/IndexOutOfBoundsException", h1)) : CtrW G 13 yL_wed cL_wed 5 [(0, 10, 13, 24), (0, 10, 17, 13), (0, 10, 21, 42)] [.ref 1, .int x1, .int x2, .ref 50] h 1 h1 1 :=
  CtrW_of hG RL rfl (by decide) rfl (fun X hX1 hX hT => by
    subst hX1
    show JQ X _ _ 0 0 0 [(0, .ref 1), (1, .int x1), (2, .int x2), (3, .ref 50)] [] h
    refine Q_aload_n hX 3 dL_wed_0 rfl rfl ?_
    refine Q_iconst hX 0 dL_wed_1 rfl ?_
    refine Q_aload_n hX 0 dL_wed_2 rfl rfl ?_
    refine Q_iload_n hX 1 dL_wed_3 rfl rfl ?_
    refine Q_iload_n hX 2 dL_wed_4 rfl rfl ?_
    have hc := C_X11_wed (okGQ hX) hf
    rw [oX_er] at hc
    refine Q_Vx hX [.int x1, .int x2] dL_wed_5 cw_L_wed ob_1 rfl hc (by decide) (by decide) rfl rfl rfl rfl ⟨Nat.le_refl _, Nat.le_refl _⟩ ?_
    refine Q_catch hX hT (name := "java/lang/IndexOutOfBoundsException") [] [(0, 10, 17, 13), (0, 10, 21, 42)] (0, 10, 13, 24) [(0, .ref 1), (1, .int x1), (2, .int x2), (3, .ref 50)] rfl (fun z hz => by cases hz) (by decide) (by decide) (tbk tin_5 16 rfl rfl) cast_2 (Or.inl ⟨dL_wed_13, rfl⟩) rfl rfl ?_
    refine Q_iconst hX 1 dL_wed_15 rfl ?_
    exact Q_iret hX dL_wed_16 (Nat.le_refl _) (Nat.le_refl _))
set_option maxRecDepth 100000 in
set_option maxHeartbeats 100000 in
theorem CW_wed_e2 {G : GX} (hG : GOk G) {x1 : Int32} {x2 : Int32} {h h1 : Hp} (hf : f_X11_wed x1 x2 h = some (Except.error "java/lang/IllegalArgumentException", h1)) : CtrW G 13 yL_wed cL_wed 5 [(0, 10, 13, 24), (0, 10, 17, 13), (0, 10, 21, 42)] [.ref 1, .int x1, .int x2, .ref 50] h 2 h1 1 :=
  CtrW_of hG RL rfl (by decide) rfl (fun X hX1 hX hT => by
    subst hX1
    show JQ X _ _ 0 0 0 [(0, .ref 1), (1, .int x1), (2, .int x2), (3, .ref 50)] [] h
    refine Q_aload_n hX 3 dL_wed_0 rfl rfl ?_
    refine Q_iconst hX 0 dL_wed_1 rfl ?_
    refine Q_aload_n hX 0 dL_wed_2 rfl rfl ?_
    refine Q_iload_n hX 1 dL_wed_3 rfl rfl ?_
    refine Q_iload_n hX 2 dL_wed_4 rfl rfl ?_
    have hc := C_X11_wed (okGQ hX) hf
    rw [oX_er] at hc
    refine Q_Vx hX [.int x1, .int x2] dL_wed_5 cw_L_wed ob_1 rfl hc (by decide) (by decide) rfl rfl rfl rfl ⟨Nat.le_refl _, Nat.le_refl _⟩ ?_
    refine Q_catch hX hT (name := "java/lang/IllegalArgumentException") [(0, 10, 13, 24)] [(0, 10, 21, 42)] (0, 10, 17, 13) [(0, .ref 1), (1, .int x1), (2, .int x2), (3, .ref 50)] rfl (fun z hz => by
        simp only [List.mem_cons, List.not_mem_nil, or_false] at hz
        rcases hz with rfl <;> first | exact ⟨by decide, "java/lang/IndexOutOfBoundsException", (tbk tin_5 16 rfl rfl), by decide⟩) (by decide) (by decide) (tbk tin_3 199 rfl rfl) cast_0 (Or.inl ⟨dL_wed_17, rfl⟩) rfl rfl ?_
    refine Q_iconst hX 2 dL_wed_19 rfl ?_
    exact Q_iret hX dL_wed_20 (Nat.le_refl _) (Nat.le_refl _))
set_option maxRecDepth 100000 in
set_option maxHeartbeats 100000 in
theorem CW_wed_e3 {G : GX} (hG : GOk G) {x1 : Int32} {x2 : Int32} {h h1 : Hp} (hf : f_X11_wed x1 x2 h = some (Except.error "java/lang/IllegalStateException", h1)) : CtrW G 13 yL_wed cL_wed 5 [(0, 10, 13, 24), (0, 10, 17, 13), (0, 10, 21, 42)] [.ref 1, .int x1, .int x2, .ref 50] h 3 h1 1 :=
  CtrW_of hG RL rfl (by decide) rfl (fun X hX1 hX hT => by
    subst hX1
    show JQ X _ _ 0 0 0 [(0, .ref 1), (1, .int x1), (2, .int x2), (3, .ref 50)] [] h
    refine Q_aload_n hX 3 dL_wed_0 rfl rfl ?_
    refine Q_iconst hX 0 dL_wed_1 rfl ?_
    refine Q_aload_n hX 0 dL_wed_2 rfl rfl ?_
    refine Q_iload_n hX 1 dL_wed_3 rfl rfl ?_
    refine Q_iload_n hX 2 dL_wed_4 rfl rfl ?_
    have hc := C_X11_wed (okGQ hX) hf
    rw [oX_er] at hc
    refine Q_Vx hX [.int x1, .int x2] dL_wed_5 cw_L_wed ob_1 rfl hc (by decide) (by decide) rfl rfl rfl rfl ⟨Nat.le_refl _, Nat.le_refl _⟩ ?_
    refine Q_catch hX hT (name := "java/lang/IllegalStateException") [(0, 10, 13, 24), (0, 10, 17, 13)] [] (0, 10, 21, 42) [(0, .ref 1), (1, .int x1), (2, .int x2), (3, .ref 50)] rfl (fun z hz => by
        simp only [List.mem_cons, List.not_mem_nil, or_false] at hz
        rcases hz with rfl | rfl <;> first | exact ⟨by decide, "java/lang/IndexOutOfBoundsException", (tbk tin_5 16 rfl rfl), by decide⟩ | exact ⟨by decide, "java/lang/IllegalArgumentException", (tbk tin_3 199 rfl rfl), by decide⟩) (by decide) (by decide) (tbk tin_5 126 rfl rfl) cast_4 (Or.inl ⟨dL_wed_21, rfl⟩) rfl rfl ?_
    refine Q_iconst hX 3 dL_wed_23 rfl ?_
    exact Q_iret hX dL_wed_24 (Nat.le_refl _) (Nat.le_refl _))
theorem dL_trim_0 : decode cL_trim 0 = .ok (.aload_n 2, 1) := by decide +kernel
theorem dL_trim_1 : decode cL_trim 1 = .ok (.iconst 0, 1) := by decide +kernel
theorem dL_trim_2 : decode cL_trim 2 = .ok (.aload_n 0, 1) := by decide +kernel
theorem dL_trim_3 : decode cL_trim 3 = .ok (.iload_n 1, 1) := by decide +kernel
theorem dL_trim_4 : decode cL_trim 4 = .ok (.invokevirtual 51, 3) := by decide +kernel
theorem dL_trim_7 : decode cL_trim 7 = .ok (.i2l, 1) := by decide +kernel
theorem dL_trim_8 : decode cL_trim 8 = .ok (.lastore, 1) := by decide +kernel
theorem dL_trim_9 : decode cL_trim 9 = .ok (.goto 9, 3) := by decide +kernel
theorem dL_trim_12 : decode cL_trim 12 = .ok (.astore_n 3, 1) := by decide +kernel
theorem dL_trim_13 : decode cL_trim 13 = .ok (.iconst 1, 1) := by decide +kernel
theorem dL_trim_14 : decode cL_trim 14 = .ok (.ireturn, 1) := by decide +kernel
theorem dL_trim_15 : decode cL_trim 15 = .ok (.astore_n 3, 1) := by decide +kernel
theorem dL_trim_16 : decode cL_trim 16 = .ok (.iconst 2, 1) := by decide +kernel
theorem dL_trim_17 : decode cL_trim 17 = .ok (.ireturn, 1) := by decide +kernel
theorem dL_trim_18 : decode cL_trim 18 = .ok (.iconst 0, 1) := by decide +kernel
theorem dL_trim_19 : decode cL_trim 19 = .ok (.ireturn, 1) := by decide +kernel
theorem cw_L_trim : CWv RL 51 yX11_trim cX11_trim 2 (some .int) 1 := ⟨⟨(tbk tin_5 173 rfl rfl), (tbk tin_1 1 rfl rfl), (tbk tin_5 176 rfl rfl), by decide +kernel, by decide +kernel, by decide +kernel⟩, (tbk tin_5 174 rfl rfl), (tbk tin_5 175 rfl rfl)⟩
set_option maxRecDepth 100000 in
set_option maxHeartbeats 100000 in
theorem CW_trim_ok {G : GX} (hG : GOk G) {x1 : Int32} {h h1 : Hp} {v : Int32} (hf : f_X11_trim x1 h = some (Except.ok v, h1)) : CtrW G 12 yL_trim cL_trim 4 [(0, 9, 12, 24), (0, 9, 15, 42)] [.ref 1, .int x1, .ref 50] h 0 (up1 h1 50 0 v) 0 :=
  CtrW_of hG RL rfl (by decide) rfl (fun X hX1 hX hT => by
    subst hX1
    show JQ X _ _ 0 0 0 [(0, .ref 1), (1, .int x1), (2, .ref 50)] [] h
    refine Q_aload_n hX 2 dL_trim_0 rfl rfl ?_
    refine Q_iconst hX 0 dL_trim_1 rfl ?_
    refine Q_aload_n hX 0 dL_trim_2 rfl rfl ?_
    refine Q_iload_n hX 1 dL_trim_3 rfl rfl ?_
    have hc := C_X11_trim (okGQ hX) hf
    rw [oX_ok] at hc
    refine Q_V1 hX [.int x1] dL_trim_4 cw_L_trim ob_1 rfl hc (by decide) (by decide) rfl rfl rfl rfl ⟨Nat.le_refl _, Nat.le_refl _⟩ ?_
    refine Q_i2l hX dL_trim_7 ?_
    refine Q_last hX dL_trim_8 ar_50 (by decide) ?_
    refine Q_goto hX 18 dL_trim_9 rfl ?_
    refine Q_iconst hX 0 dL_trim_18 rfl ?_
    exact Q_iret hX dL_trim_19 (Nat.le_refl _) (Nat.le_refl _))
set_option maxRecDepth 100000 in
set_option maxHeartbeats 100000 in
theorem CW_trim_e1 {G : GX} (hG : GOk G) {x1 : Int32} {h h1 : Hp} (hf : f_X11_trim x1 h = some (Except.error "java/lang/IndexOutOfBoundsException", h1)) : CtrW G 12 yL_trim cL_trim 4 [(0, 9, 12, 24), (0, 9, 15, 42)] [.ref 1, .int x1, .ref 50] h 1 h1 1 :=
  CtrW_of hG RL rfl (by decide) rfl (fun X hX1 hX hT => by
    subst hX1
    show JQ X _ _ 0 0 0 [(0, .ref 1), (1, .int x1), (2, .ref 50)] [] h
    refine Q_aload_n hX 2 dL_trim_0 rfl rfl ?_
    refine Q_iconst hX 0 dL_trim_1 rfl ?_
    refine Q_aload_n hX 0 dL_trim_2 rfl rfl ?_
    refine Q_iload_n hX 1 dL_trim_3 rfl rfl ?_
    have hc := C_X11_trim (okGQ hX) hf
    rw [oX_er] at hc
    refine Q_Vx hX [.int x1] dL_trim_4 cw_L_trim ob_1 rfl hc (by decide) (by decide) rfl rfl rfl rfl ⟨Nat.le_refl _, Nat.le_refl _⟩ ?_
    refine Q_catch hX hT (name := "java/lang/IndexOutOfBoundsException") [] [(0, 9, 15, 42)] (0, 9, 12, 24) [(0, .ref 1), (1, .int x1), (2, .ref 50)] rfl (fun z hz => by cases hz) (by decide) (by decide) (tbk tin_5 16 rfl rfl) cast_2 (Or.inr ⟨3, rfl, dL_trim_12, rfl⟩) rfl rfl ?_
    refine Q_iconst hX 1 dL_trim_13 rfl ?_
    exact Q_iret hX dL_trim_14 (Nat.le_refl _) (Nat.le_refl _))
set_option maxRecDepth 100000 in
set_option maxHeartbeats 100000 in
theorem CW_trim_e2 {G : GX} (hG : GOk G) {x1 : Int32} {h h1 : Hp} (hf : f_X11_trim x1 h = some (Except.error "java/lang/IllegalStateException", h1)) : CtrW G 12 yL_trim cL_trim 4 [(0, 9, 12, 24), (0, 9, 15, 42)] [.ref 1, .int x1, .ref 50] h 2 h1 1 :=
  CtrW_of hG RL rfl (by decide) rfl (fun X hX1 hX hT => by
    subst hX1
    show JQ X _ _ 0 0 0 [(0, .ref 1), (1, .int x1), (2, .ref 50)] [] h
    refine Q_aload_n hX 2 dL_trim_0 rfl rfl ?_
    refine Q_iconst hX 0 dL_trim_1 rfl ?_
    refine Q_aload_n hX 0 dL_trim_2 rfl rfl ?_
    refine Q_iload_n hX 1 dL_trim_3 rfl rfl ?_
    have hc := C_X11_trim (okGQ hX) hf
    rw [oX_er] at hc
    refine Q_Vx hX [.int x1] dL_trim_4 cw_L_trim ob_1 rfl hc (by decide) (by decide) rfl rfl rfl rfl ⟨Nat.le_refl _, Nat.le_refl _⟩ ?_
    refine Q_catch hX hT (name := "java/lang/IllegalStateException") [(0, 9, 12, 24)] [] (0, 9, 15, 42) [(0, .ref 1), (1, .int x1), (2, .ref 50)] rfl (fun z hz => by
        simp only [List.mem_cons, List.not_mem_nil, or_false] at hz
        rcases hz with rfl <;> first | exact ⟨by decide, "java/lang/IndexOutOfBoundsException", (tbk tin_5 16 rfl rfl), by decide⟩) (by decide) (by decide) (tbk tin_5 126 rfl rfl) cast_4 (Or.inr ⟨3, rfl, dL_trim_15, rfl⟩) rfl rfl ?_
    refine Q_iconst hX 2 dL_trim_16 rfl ?_
    exact Q_iret hX dL_trim_17 (Nat.le_refl _) (Nat.le_refl _))
theorem dL_move_0 : decode cL_move 0 = .ok (.aload_n 3, 1) := by decide +kernel
theorem dL_move_1 : decode cL_move 1 = .ok (.iconst 0, 1) := by decide +kernel
theorem dL_move_2 : decode cL_move 2 = .ok (.aload_n 0, 1) := by decide +kernel
theorem dL_move_3 : decode cL_move 3 = .ok (.iload_n 1, 1) := by decide +kernel
theorem dL_move_4 : decode cL_move 4 = .ok (.iload_n 2, 1) := by decide +kernel
theorem dL_move_5 : decode cL_move 5 = .ok (.invokevirtual 54, 3) := by decide +kernel
theorem dL_move_8 : decode cL_move 8 = .ok (.i2l, 1) := by decide +kernel
theorem dL_move_9 : decode cL_move 9 = .ok (.lastore, 1) := by decide +kernel
theorem dL_move_10 : decode cL_move 10 = .ok (.goto 11, 3) := by decide +kernel
theorem dL_move_13 : decode cL_move 13 = .ok (.astore 4, 2) := by decide +kernel
theorem dL_move_15 : decode cL_move 15 = .ok (.iconst 1, 1) := by decide +kernel
theorem dL_move_16 : decode cL_move 16 = .ok (.ireturn, 1) := by decide +kernel
theorem dL_move_17 : decode cL_move 17 = .ok (.astore 4, 2) := by decide +kernel
theorem dL_move_19 : decode cL_move 19 = .ok (.iconst 2, 1) := by decide +kernel
theorem dL_move_20 : decode cL_move 20 = .ok (.ireturn, 1) := by decide +kernel
theorem dL_move_21 : decode cL_move 21 = .ok (.iconst 0, 1) := by decide +kernel
theorem dL_move_22 : decode cL_move 22 = .ok (.ireturn, 1) := by decide +kernel
theorem cw_L_move : CWv RL 54 yX11_move cX11_move 4 (some .int) 2 := ⟨⟨(tbk tin_5 184 rfl rfl), (tbk tin_1 1 rfl rfl), (tbk tin_5 187 rfl rfl), by decide +kernel, by decide +kernel, by decide +kernel⟩, (tbk tin_5 185 rfl rfl), (tbk tin_5 186 rfl rfl)⟩
set_option maxRecDepth 100000 in
set_option maxHeartbeats 100000 in
theorem CW_move_ok {G : GX} (hG : GOk G) {x1 : Int32} {x2 : Int32} {h h1 : Hp} {v : Int32} (hf : f_X11_move x1 x2 h = some (Except.ok v, h1)) : CtrW G 12 yL_move cL_move 5 [(0, 10, 13, 24), (0, 10, 17, 42)] [.ref 1, .int x1, .int x2, .ref 50] h 0 (up1 h1 50 0 v) 0 :=
  CtrW_of hG RL rfl (by decide) rfl (fun X hX1 hX hT => by
    subst hX1
    show JQ X _ _ 0 0 0 [(0, .ref 1), (1, .int x1), (2, .int x2), (3, .ref 50)] [] h
    refine Q_aload_n hX 3 dL_move_0 rfl rfl ?_
    refine Q_iconst hX 0 dL_move_1 rfl ?_
    refine Q_aload_n hX 0 dL_move_2 rfl rfl ?_
    refine Q_iload_n hX 1 dL_move_3 rfl rfl ?_
    refine Q_iload_n hX 2 dL_move_4 rfl rfl ?_
    have hc := C_X11_move (okGQ hX) hf
    rw [oX_ok] at hc
    refine Q_V1 hX [.int x1, .int x2] dL_move_5 cw_L_move ob_1 rfl hc (by decide) (by decide) rfl rfl rfl rfl ⟨Nat.le_refl _, Nat.le_refl _⟩ ?_
    refine Q_i2l hX dL_move_8 ?_
    refine Q_last hX dL_move_9 ar_50 (by decide) ?_
    refine Q_goto hX 21 dL_move_10 rfl ?_
    refine Q_iconst hX 0 dL_move_21 rfl ?_
    exact Q_iret hX dL_move_22 (Nat.le_refl _) (Nat.le_refl _))
set_option maxRecDepth 100000 in
set_option maxHeartbeats 100000 in
theorem CW_move_e1 {G : GX} (hG : GOk G) {x1 : Int32} {x2 : Int32} {h h1 : Hp} (hf : f_X11_move x1 x2 h = some (Except.error "java/lang/IndexOutOfBoundsException", h1)) : CtrW G 12 yL_move cL_move 5 [(0, 10, 13, 24), (0, 10, 17, 42)] [.ref 1, .int x1, .int x2, .ref 50] h 1 h1 1 :=
  CtrW_of hG RL rfl (by decide) rfl (fun X hX1 hX hT => by
    subst hX1
    show JQ X _ _ 0 0 0 [(0, .ref 1), (1, .int x1), (2, .int x2), (3, .ref 50)] [] h
    refine Q_aload_n hX 3 dL_move_0 rfl rfl ?_
    refine Q_iconst hX 0 dL_move_1 rfl ?_
    refine Q_aload_n hX 0 dL_move_2 rfl rfl ?_
    refine Q_iload_n hX 1 dL_move_3 rfl rfl ?_
    refine Q_iload_n hX 2 dL_move_4 rfl rfl ?_
    have hc := C_X11_move (okGQ hX) hf
    rw [oX_er] at hc
    refine Q_Vx hX [.int x1, .int x2] dL_move_5 cw_L_move ob_1 rfl hc (by decide) (by decide) rfl rfl rfl rfl ⟨Nat.le_refl _, Nat.le_refl _⟩ ?_
    refine Q_catch hX hT (name := "java/lang/IndexOutOfBoundsException") [] [(0, 10, 17, 42)] (0, 10, 13, 24) [(0, .ref 1), (1, .int x1), (2, .int x2), (3, .ref 50)] rfl (fun z hz => by cases hz) (by decide) (by decide) (tbk tin_5 16 rfl rfl) cast_2 (Or.inl ⟨dL_move_13, rfl⟩) rfl rfl ?_
    refine Q_iconst hX 1 dL_move_15 rfl ?_
    exact Q_iret hX dL_move_16 (Nat.le_refl _) (Nat.le_refl _))
set_option maxRecDepth 100000 in
set_option maxHeartbeats 100000 in
theorem CW_move_e2 {G : GX} (hG : GOk G) {x1 : Int32} {x2 : Int32} {h h1 : Hp} (hf : f_X11_move x1 x2 h = some (Except.error "java/lang/IllegalStateException", h1)) : CtrW G 12 yL_move cL_move 5 [(0, 10, 13, 24), (0, 10, 17, 42)] [.ref 1, .int x1, .int x2, .ref 50] h 2 h1 1 :=
  CtrW_of hG RL rfl (by decide) rfl (fun X hX1 hX hT => by
    subst hX1
    show JQ X _ _ 0 0 0 [(0, .ref 1), (1, .int x1), (2, .int x2), (3, .ref 50)] [] h
    refine Q_aload_n hX 3 dL_move_0 rfl rfl ?_
    refine Q_iconst hX 0 dL_move_1 rfl ?_
    refine Q_aload_n hX 0 dL_move_2 rfl rfl ?_
    refine Q_iload_n hX 1 dL_move_3 rfl rfl ?_
    refine Q_iload_n hX 2 dL_move_4 rfl rfl ?_
    have hc := C_X11_move (okGQ hX) hf
    rw [oX_er] at hc
    refine Q_Vx hX [.int x1, .int x2] dL_move_5 cw_L_move ob_1 rfl hc (by decide) (by decide) rfl rfl rfl rfl ⟨Nat.le_refl _, Nat.le_refl _⟩ ?_
    refine Q_catch hX hT (name := "java/lang/IllegalStateException") [(0, 10, 13, 24)] [] (0, 10, 17, 42) [(0, .ref 1), (1, .int x1), (2, .int x2), (3, .ref 50)] rfl (fun z hz => by
        simp only [List.mem_cons, List.not_mem_nil, or_false] at hz
        rcases hz with rfl <;> first | exact ⟨by decide, "java/lang/IndexOutOfBoundsException", (tbk tin_5 16 rfl rfl), by decide⟩) (by decide) (by decide) (tbk tin_5 126 rfl rfl) cast_4 (Or.inl ⟨dL_move_17, rfl⟩) rfl rfl ?_
    refine Q_iconst hX 2 dL_move_19 rfl ?_
    exact Q_iret hX dL_move_20 (Nat.le_refl _) (Nat.le_refl _))
theorem dL_come_0 : decode cL_come 0 = .ok (.aload 4, 2) := by decide +kernel
theorem dL_come_2 : decode cL_come 2 = .ok (.iconst 0, 1) := by decide +kernel
theorem dL_come_3 : decode cL_come 3 = .ok (.aload_n 0, 1) := by decide +kernel
theorem dL_come_4 : decode cL_come 4 = .ok (.iload_n 1, 1) := by decide +kernel
theorem dL_come_5 : decode cL_come 5 = .ok (.iload_n 2, 1) := by decide +kernel
theorem dL_come_6 : decode cL_come 6 = .ok (.iload_n 3, 1) := by decide +kernel
theorem dL_come_7 : decode cL_come 7 = .ok (.invokevirtual 57, 3) := by decide +kernel
theorem dL_come_10 : decode cL_come 10 = .ok (.ifCond .eq 7, 3) := by decide +kernel
theorem dL_come_13 : decode cL_come 13 = .ok (.lconst 1, 1) := by decide +kernel
theorem dL_come_14 : decode cL_come 14 = .ok (.goto 4, 3) := by decide +kernel
theorem dL_come_17 : decode cL_come 17 = .ok (.lconst 0, 1) := by decide +kernel
theorem dL_come_18 : decode cL_come 18 = .ok (.lastore, 1) := by decide +kernel
theorem dL_come_19 : decode cL_come 19 = .ok (.goto 7, 3) := by decide +kernel
theorem dL_come_22 : decode cL_come 22 = .ok (.astore 5, 2) := by decide +kernel
theorem dL_come_24 : decode cL_come 24 = .ok (.iconst 1, 1) := by decide +kernel
theorem dL_come_25 : decode cL_come 25 = .ok (.ireturn, 1) := by decide +kernel
theorem dL_come_26 : decode cL_come 26 = .ok (.iconst 0, 1) := by decide +kernel
theorem dL_come_27 : decode cL_come 27 = .ok (.ireturn, 1) := by decide +kernel
theorem cw_L_come : CWv RL 57 yX11_come cX11_come 4 (some .boolean) 3 := ⟨⟨(tbk tin_5 191 rfl rfl), (tbk tin_1 1 rfl rfl), (tbk tin_5 194 rfl rfl), by decide +kernel, by decide +kernel, by decide +kernel⟩, (tbk tin_5 192 rfl rfl), (tbk tin_5 193 rfl rfl)⟩
set_option maxRecDepth 100000 in
set_option maxHeartbeats 100000 in
theorem CW_come_ok {G : GX} (hG : GOk G) {x1 : Int32} {x2 : Int32} {x3 : Int32} {h h1 : Hp} {v : Bool} (hf : f_X11_come x1 x2 x3 h = some (Except.ok v, h1)) : CtrW G 12 yL_come cL_come 6 [(0, 19, 22, 24)] [.ref 1, .int x1, .int x2, .int x3, .ref 50] h 0 (up1 h1 50 0 (b2i v)) 0 :=
  CtrW_of hG RL rfl (by decide) rfl (fun X hX1 hX hT => by
    subst hX1
    show JQ X _ _ 0 0 0 [(0, .ref 1), (1, .int x1), (2, .int x2), (3, .int x3), (4, .ref 50)] [] h
    refine Q_aload hX 4 dL_come_0 rfl ?_
    refine Q_iconst hX 0 dL_come_2 rfl ?_
    refine Q_aload_n hX 0 dL_come_3 rfl rfl ?_
    refine Q_iload_n hX 1 dL_come_4 rfl rfl ?_
    refine Q_iload_n hX 2 dL_come_5 rfl rfl ?_
    refine Q_iload_n hX 3 dL_come_6 rfl rfl ?_
    have hc := C_X11_come (okGQ hX) hf
    rw [oX_ok] at hc
    refine Q_V1 hX [.int x1, .int x2, .int x3] dL_come_7 cw_L_come ob_1 rfl hc (by decide) (by decide) rfl rfl rfl rfl ⟨Nat.le_refl _, Nat.le_refl _⟩ ?_
    cases v
    · refine Q_if_eqT hX 17 dL_come_10 rfl rfl ?_
      refine Q_lconst hX 0 dL_come_17 rfl ?_
      refine Q_nmL (show (0 : Int64) = (b2i false).toInt64 by decide) ?_
      refine Q_last hX dL_come_18 ar_50 (by decide) ?_
      refine Q_goto hX 26 dL_come_19 rfl ?_
      refine Q_iconst hX 0 dL_come_26 rfl ?_
      exact Q_iret hX dL_come_27 (Nat.le_refl _) (Nat.le_refl _)
    · refine Q_if_eqF hX 17 dL_come_10 rfl (by decide) ?_
      refine Q_lconst hX 1 dL_come_13 rfl ?_
      refine Q_nmL (show (1 : Int64) = (b2i true).toInt64 by decide) ?_
      refine Q_goto hX 18 dL_come_14 rfl ?_
      refine Q_last hX dL_come_18 ar_50 (by decide) ?_
      refine Q_goto hX 26 dL_come_19 rfl ?_
      refine Q_iconst hX 0 dL_come_26 rfl ?_
      exact Q_iret hX dL_come_27 (Nat.le_refl _) (Nat.le_refl _))
set_option maxRecDepth 100000 in
set_option maxHeartbeats 100000 in
theorem CW_come_e1 {G : GX} (hG : GOk G) {x1 : Int32} {x2 : Int32} {x3 : Int32} {h h1 : Hp} (hf : f_X11_come x1 x2 x3 h = some (Except.error "java/lang/IndexOutOfBoundsException", h1)) : CtrW G 12 yL_come cL_come 6 [(0, 19, 22, 24)] [.ref 1, .int x1, .int x2, .int x3, .ref 50] h 1 h1 1 :=
  CtrW_of hG RL rfl (by decide) rfl (fun X hX1 hX hT => by
    subst hX1
    show JQ X _ _ 0 0 0 [(0, .ref 1), (1, .int x1), (2, .int x2), (3, .int x3), (4, .ref 50)] [] h
    refine Q_aload hX 4 dL_come_0 rfl ?_
    refine Q_iconst hX 0 dL_come_2 rfl ?_
    refine Q_aload_n hX 0 dL_come_3 rfl rfl ?_
    refine Q_iload_n hX 1 dL_come_4 rfl rfl ?_
    refine Q_iload_n hX 2 dL_come_5 rfl rfl ?_
    refine Q_iload_n hX 3 dL_come_6 rfl rfl ?_
    have hc := C_X11_come (okGQ hX) hf
    rw [oX_er] at hc
    refine Q_Vx hX [.int x1, .int x2, .int x3] dL_come_7 cw_L_come ob_1 rfl hc (by decide) (by decide) rfl rfl rfl rfl ⟨Nat.le_refl _, Nat.le_refl _⟩ ?_
    refine Q_catch hX hT (name := "java/lang/IndexOutOfBoundsException") [] [] (0, 19, 22, 24) [(0, .ref 1), (1, .int x1), (2, .int x2), (3, .int x3), (4, .ref 50)] rfl (fun z hz => by cases hz) (by decide) (by decide) (tbk tin_5 16 rfl rfl) cast_2 (Or.inl ⟨dL_come_22, rfl⟩) rfl rfl ?_
    refine Q_iconst hX 1 dL_come_24 rfl ?_
    exact Q_iret hX dL_come_25 (Nat.le_refl _) (Nat.le_refl _))
theorem dL_raze_0 : decode cL_raze 0 = .ok (.aload_n 2, 1) := by decide +kernel
theorem dL_raze_1 : decode cL_raze 1 = .ok (.iconst 0, 1) := by decide +kernel
theorem dL_raze_2 : decode cL_raze 2 = .ok (.aload_n 0, 1) := by decide +kernel
theorem dL_raze_3 : decode cL_raze 3 = .ok (.iload_n 1, 1) := by decide +kernel
theorem dL_raze_4 : decode cL_raze 4 = .ok (.invokevirtual 61, 3) := by decide +kernel
theorem dL_raze_7 : decode cL_raze 7 = .ok (.i2l, 1) := by decide +kernel
theorem dL_raze_8 : decode cL_raze 8 = .ok (.lastore, 1) := by decide +kernel
theorem dL_raze_9 : decode cL_raze 9 = .ok (.goto 9, 3) := by decide +kernel
theorem dL_raze_12 : decode cL_raze 12 = .ok (.astore_n 3, 1) := by decide +kernel
theorem dL_raze_13 : decode cL_raze 13 = .ok (.iconst 1, 1) := by decide +kernel
theorem dL_raze_14 : decode cL_raze 14 = .ok (.ireturn, 1) := by decide +kernel
theorem dL_raze_15 : decode cL_raze 15 = .ok (.astore_n 3, 1) := by decide +kernel
theorem dL_raze_16 : decode cL_raze 16 = .ok (.iconst 2, 1) := by decide +kernel
theorem dL_raze_17 : decode cL_raze 17 = .ok (.ireturn, 1) := by decide +kernel
theorem dL_raze_18 : decode cL_raze 18 = .ok (.iconst 0, 1) := by decide +kernel
theorem dL_raze_19 : decode cL_raze 19 = .ok (.ireturn, 1) := by decide +kernel
theorem cw_L_raze : CWv RL 61 yX11_raze cX11_raze 3 (some .int) 1 := ⟨⟨(tbk tin_5 206 rfl rfl), (tbk tin_1 1 rfl rfl), (tbk tin_5 209 rfl rfl), by decide +kernel, by decide +kernel, by decide +kernel⟩, (tbk tin_5 207 rfl rfl), (tbk tin_5 208 rfl rfl)⟩
set_option maxRecDepth 100000 in
set_option maxHeartbeats 100000 in
theorem CW_raze_ok {G : GX} (hG : GOk G) {x1 : Int32} {h h1 : Hp} {v : Int32} (hf : f_X11_raze x1 h = some (Except.ok v, h1)) : CtrW G 12 yL_raze cL_raze 4 [(0, 9, 12, 24), (0, 9, 15, 42)] [.ref 1, .int x1, .ref 50] h 0 (up1 h1 50 0 v) 0 :=
  CtrW_of hG RL rfl (by decide) rfl (fun X hX1 hX hT => by
    subst hX1
    show JQ X _ _ 0 0 0 [(0, .ref 1), (1, .int x1), (2, .ref 50)] [] h
    refine Q_aload_n hX 2 dL_raze_0 rfl rfl ?_
    refine Q_iconst hX 0 dL_raze_1 rfl ?_
    refine Q_aload_n hX 0 dL_raze_2 rfl rfl ?_
    refine Q_iload_n hX 1 dL_raze_3 rfl rfl ?_
    have hc := C_X11_raze (okGQ hX) hf
    rw [oX_ok] at hc
    refine Q_V1 hX [.int x1] dL_raze_4 cw_L_raze ob_1 rfl hc (by decide) (by decide) rfl rfl rfl rfl ⟨Nat.le_refl _, Nat.le_refl _⟩ ?_
    refine Q_i2l hX dL_raze_7 ?_
    refine Q_last hX dL_raze_8 ar_50 (by decide) ?_
    refine Q_goto hX 18 dL_raze_9 rfl ?_
    refine Q_iconst hX 0 dL_raze_18 rfl ?_
    exact Q_iret hX dL_raze_19 (Nat.le_refl _) (Nat.le_refl _))
set_option maxRecDepth 100000 in
set_option maxHeartbeats 100000 in
theorem CW_raze_e1 {G : GX} (hG : GOk G) {x1 : Int32} {h h1 : Hp} (hf : f_X11_raze x1 h = some (Except.error "java/lang/IndexOutOfBoundsException", h1)) : CtrW G 12 yL_raze cL_raze 4 [(0, 9, 12, 24), (0, 9, 15, 42)] [.ref 1, .int x1, .ref 50] h 1 h1 1 :=
  CtrW_of hG RL rfl (by decide) rfl (fun X hX1 hX hT => by
    subst hX1
    show JQ X _ _ 0 0 0 [(0, .ref 1), (1, .int x1), (2, .ref 50)] [] h
    refine Q_aload_n hX 2 dL_raze_0 rfl rfl ?_
    refine Q_iconst hX 0 dL_raze_1 rfl ?_
    refine Q_aload_n hX 0 dL_raze_2 rfl rfl ?_
    refine Q_iload_n hX 1 dL_raze_3 rfl rfl ?_
    have hc := C_X11_raze (okGQ hX) hf
    rw [oX_er] at hc
    refine Q_Vx hX [.int x1] dL_raze_4 cw_L_raze ob_1 rfl hc (by decide) (by decide) rfl rfl rfl rfl ⟨Nat.le_refl _, Nat.le_refl _⟩ ?_
    refine Q_catch hX hT (name := "java/lang/IndexOutOfBoundsException") [] [(0, 9, 15, 42)] (0, 9, 12, 24) [(0, .ref 1), (1, .int x1), (2, .ref 50)] rfl (fun z hz => by cases hz) (by decide) (by decide) (tbk tin_5 16 rfl rfl) cast_2 (Or.inr ⟨3, rfl, dL_raze_12, rfl⟩) rfl rfl ?_
    refine Q_iconst hX 1 dL_raze_13 rfl ?_
    exact Q_iret hX dL_raze_14 (Nat.le_refl _) (Nat.le_refl _))
set_option maxRecDepth 100000 in
set_option maxHeartbeats 100000 in
theorem CW_raze_e2 {G : GX} (hG : GOk G) {x1 : Int32} {h h1 : Hp} (hf : f_X11_raze x1 h = some (Except.error "java/lang/IllegalStateException", h1)) : CtrW G 12 yL_raze cL_raze 4 [(0, 9, 12, 24), (0, 9, 15, 42)] [.ref 1, .int x1, .ref 50] h 2 h1 1 :=
  CtrW_of hG RL rfl (by decide) rfl (fun X hX1 hX hT => by
    subst hX1
    show JQ X _ _ 0 0 0 [(0, .ref 1), (1, .int x1), (2, .ref 50)] [] h
    refine Q_aload_n hX 2 dL_raze_0 rfl rfl ?_
    refine Q_iconst hX 0 dL_raze_1 rfl ?_
    refine Q_aload_n hX 0 dL_raze_2 rfl rfl ?_
    refine Q_iload_n hX 1 dL_raze_3 rfl rfl ?_
    have hc := C_X11_raze (okGQ hX) hf
    rw [oX_er] at hc
    refine Q_Vx hX [.int x1] dL_raze_4 cw_L_raze ob_1 rfl hc (by decide) (by decide) rfl rfl rfl rfl ⟨Nat.le_refl _, Nat.le_refl _⟩ ?_
    refine Q_catch hX hT (name := "java/lang/IllegalStateException") [(0, 9, 12, 24)] [] (0, 9, 15, 42) [(0, .ref 1), (1, .int x1), (2, .ref 50)] rfl (fun z hz => by
        simp only [List.mem_cons, List.not_mem_nil, or_false] at hz
        rcases hz with rfl <;> first | exact ⟨by decide, "java/lang/IndexOutOfBoundsException", (tbk tin_5 16 rfl rfl), by decide⟩) (by decide) (by decide) (tbk tin_5 126 rfl rfl) cast_4 (Or.inr ⟨3, rfl, dL_raze_15, rfl⟩) rfl rfl ?_
    refine Q_iconst hX 2 dL_raze_16 rfl ?_
    exact Q_iret hX dL_raze_17 (Nat.le_refl _) (Nat.le_refl _))
theorem dL_falls_0 : decode cL_falls 0 = .ok (.aload_n 2, 1) := by decide +kernel
theorem dL_falls_1 : decode cL_falls 1 = .ok (.iconst 0, 1) := by decide +kernel
theorem dL_falls_2 : decode cL_falls 2 = .ok (.aload_n 0, 1) := by decide +kernel
theorem dL_falls_3 : decode cL_falls 3 = .ok (.iload_n 1, 1) := by decide +kernel
theorem dL_falls_4 : decode cL_falls 4 = .ok (.invokevirtual 64, 3) := by decide +kernel
theorem dL_falls_7 : decode cL_falls 7 = .ok (.i2l, 1) := by decide +kernel
theorem dL_falls_8 : decode cL_falls 8 = .ok (.lastore, 1) := by decide +kernel
theorem dL_falls_9 : decode cL_falls 9 = .ok (.goto 6, 3) := by decide +kernel
theorem dL_falls_12 : decode cL_falls 12 = .ok (.astore_n 3, 1) := by decide +kernel
theorem dL_falls_13 : decode cL_falls 13 = .ok (.iconst 1, 1) := by decide +kernel
theorem dL_falls_14 : decode cL_falls 14 = .ok (.ireturn, 1) := by decide +kernel
theorem dL_falls_15 : decode cL_falls 15 = .ok (.iconst 0, 1) := by decide +kernel
theorem dL_falls_16 : decode cL_falls 16 = .ok (.ireturn, 1) := by decide +kernel
theorem cw_L_falls : CWv RL 64 yX11_falls cX11_falls 2 (some .int) 1 := ⟨⟨(tbk tin_5 214 rfl rfl), (tbk tin_1 1 rfl rfl), (tbk tin_5 217 rfl rfl), by decide +kernel, by decide +kernel, by decide +kernel⟩, (tbk tin_5 215 rfl rfl), (tbk tin_5 216 rfl rfl)⟩
set_option maxRecDepth 100000 in
set_option maxHeartbeats 100000 in
theorem CW_falls_ok {G : GX} (hG : GOk G) {x1 : Int32} {h h1 : Hp} {v : Int32} (hf : f_X11_falls x1 h = some (Except.ok v, h1)) : CtrW G 12 yL_falls cL_falls 4 [(0, 9, 12, 24)] [.ref 1, .int x1, .ref 50] h 0 (up1 h1 50 0 v) 0 :=
  CtrW_of hG RL rfl (by decide) rfl (fun X hX1 hX hT => by
    subst hX1
    show JQ X _ _ 0 0 0 [(0, .ref 1), (1, .int x1), (2, .ref 50)] [] h
    refine Q_aload_n hX 2 dL_falls_0 rfl rfl ?_
    refine Q_iconst hX 0 dL_falls_1 rfl ?_
    refine Q_aload_n hX 0 dL_falls_2 rfl rfl ?_
    refine Q_iload_n hX 1 dL_falls_3 rfl rfl ?_
    have hc := C_X11_falls (okGQ hX) hf
    rw [oX_ok] at hc
    refine Q_V1 hX [.int x1] dL_falls_4 cw_L_falls ob_1 rfl hc (by decide) (by decide) rfl rfl rfl rfl ⟨Nat.le_refl _, Nat.le_refl _⟩ ?_
    refine Q_i2l hX dL_falls_7 ?_
    refine Q_last hX dL_falls_8 ar_50 (by decide) ?_
    refine Q_goto hX 15 dL_falls_9 rfl ?_
    refine Q_iconst hX 0 dL_falls_15 rfl ?_
    exact Q_iret hX dL_falls_16 (Nat.le_refl _) (Nat.le_refl _))
set_option maxRecDepth 100000 in
set_option maxHeartbeats 100000 in
theorem CW_falls_e1 {G : GX} (hG : GOk G) {x1 : Int32} {h h1 : Hp} (hf : f_X11_falls x1 h = some (Except.error "java/lang/IndexOutOfBoundsException", h1)) : CtrW G 12 yL_falls cL_falls 4 [(0, 9, 12, 24)] [.ref 1, .int x1, .ref 50] h 1 h1 1 :=
  CtrW_of hG RL rfl (by decide) rfl (fun X hX1 hX hT => by
    subst hX1
    show JQ X _ _ 0 0 0 [(0, .ref 1), (1, .int x1), (2, .ref 50)] [] h
    refine Q_aload_n hX 2 dL_falls_0 rfl rfl ?_
    refine Q_iconst hX 0 dL_falls_1 rfl ?_
    refine Q_aload_n hX 0 dL_falls_2 rfl rfl ?_
    refine Q_iload_n hX 1 dL_falls_3 rfl rfl ?_
    have hc := C_X11_falls (okGQ hX) hf
    rw [oX_er] at hc
    refine Q_Vx hX [.int x1] dL_falls_4 cw_L_falls ob_1 rfl hc (by decide) (by decide) rfl rfl rfl rfl ⟨Nat.le_refl _, Nat.le_refl _⟩ ?_
    refine Q_catch hX hT (name := "java/lang/IndexOutOfBoundsException") [] [] (0, 9, 12, 24) [(0, .ref 1), (1, .int x1), (2, .ref 50)] rfl (fun z hz => by cases hz) (by decide) (by decide) (tbk tin_5 16 rfl rfl) cast_2 (Or.inr ⟨3, rfl, dL_falls_12, rfl⟩) rfl rfl ?_
    refine Q_iconst hX 1 dL_falls_13 rfl ?_
    exact Q_iret hX dL_falls_14 (Nat.le_refl _) (Nat.le_refl _))
theorem dL_rounds_0 : decode cL_rounds 0 = .ok (.aload_n 2, 1) := by decide +kernel
theorem dL_rounds_1 : decode cL_rounds 1 = .ok (.iconst 0, 1) := by decide +kernel
theorem dL_rounds_2 : decode cL_rounds 2 = .ok (.aload_n 0, 1) := by decide +kernel
theorem dL_rounds_3 : decode cL_rounds 3 = .ok (.iload_n 1, 1) := by decide +kernel
theorem dL_rounds_4 : decode cL_rounds 4 = .ok (.invokevirtual 67, 3) := by decide +kernel
theorem dL_rounds_7 : decode cL_rounds 7 = .ok (.i2l, 1) := by decide +kernel
theorem dL_rounds_8 : decode cL_rounds 8 = .ok (.lastore, 1) := by decide +kernel
theorem dL_rounds_9 : decode cL_rounds 9 = .ok (.goto 6, 3) := by decide +kernel
theorem dL_rounds_12 : decode cL_rounds 12 = .ok (.astore_n 3, 1) := by decide +kernel
theorem dL_rounds_13 : decode cL_rounds 13 = .ok (.iconst 1, 1) := by decide +kernel
theorem dL_rounds_14 : decode cL_rounds 14 = .ok (.ireturn, 1) := by decide +kernel
theorem dL_rounds_15 : decode cL_rounds 15 = .ok (.iconst 0, 1) := by decide +kernel
theorem dL_rounds_16 : decode cL_rounds 16 = .ok (.ireturn, 1) := by decide +kernel
theorem cw_L_rounds : CWv RL 67 yX11_rounds cX11_rounds 2 (some .int) 1 := ⟨⟨(tbk tin_5 221 rfl rfl), (tbk tin_1 1 rfl rfl), (tbk tin_5 224 rfl rfl), by decide +kernel, by decide +kernel, by decide +kernel⟩, (tbk tin_5 222 rfl rfl), (tbk tin_5 223 rfl rfl)⟩
set_option maxRecDepth 100000 in
set_option maxHeartbeats 100000 in
theorem CW_rounds_ok {G : GX} (hG : GOk G) {x1 : Int32} {h h1 : Hp} {v : Int32} (hf : f_X11_rounds x1 h = some (Except.ok v, h1)) : CtrW G 12 yL_rounds cL_rounds 4 [(0, 9, 12, 24)] [.ref 1, .int x1, .ref 50] h 0 (up1 h1 50 0 v) 0 :=
  CtrW_of hG RL rfl (by decide) rfl (fun X hX1 hX hT => by
    subst hX1
    show JQ X _ _ 0 0 0 [(0, .ref 1), (1, .int x1), (2, .ref 50)] [] h
    refine Q_aload_n hX 2 dL_rounds_0 rfl rfl ?_
    refine Q_iconst hX 0 dL_rounds_1 rfl ?_
    refine Q_aload_n hX 0 dL_rounds_2 rfl rfl ?_
    refine Q_iload_n hX 1 dL_rounds_3 rfl rfl ?_
    have hc := C_X11_rounds (okGQ hX) hf
    rw [oX_ok] at hc
    refine Q_V1 hX [.int x1] dL_rounds_4 cw_L_rounds ob_1 rfl hc (by decide) (by decide) rfl rfl rfl rfl ⟨Nat.le_refl _, Nat.le_refl _⟩ ?_
    refine Q_i2l hX dL_rounds_7 ?_
    refine Q_last hX dL_rounds_8 ar_50 (by decide) ?_
    refine Q_goto hX 15 dL_rounds_9 rfl ?_
    refine Q_iconst hX 0 dL_rounds_15 rfl ?_
    exact Q_iret hX dL_rounds_16 (Nat.le_refl _) (Nat.le_refl _))
set_option maxRecDepth 100000 in
set_option maxHeartbeats 100000 in
theorem CW_rounds_e1 {G : GX} (hG : GOk G) {x1 : Int32} {h h1 : Hp} (hf : f_X11_rounds x1 h = some (Except.error "java/lang/IndexOutOfBoundsException", h1)) : CtrW G 12 yL_rounds cL_rounds 4 [(0, 9, 12, 24)] [.ref 1, .int x1, .ref 50] h 1 h1 1 :=
  CtrW_of hG RL rfl (by decide) rfl (fun X hX1 hX hT => by
    subst hX1
    show JQ X _ _ 0 0 0 [(0, .ref 1), (1, .int x1), (2, .ref 50)] [] h
    refine Q_aload_n hX 2 dL_rounds_0 rfl rfl ?_
    refine Q_iconst hX 0 dL_rounds_1 rfl ?_
    refine Q_aload_n hX 0 dL_rounds_2 rfl rfl ?_
    refine Q_iload_n hX 1 dL_rounds_3 rfl rfl ?_
    have hc := C_X11_rounds (okGQ hX) hf
    rw [oX_er] at hc
    refine Q_Vx hX [.int x1] dL_rounds_4 cw_L_rounds ob_1 rfl hc (by decide) (by decide) rfl rfl rfl rfl ⟨Nat.le_refl _, Nat.le_refl _⟩ ?_
    refine Q_catch hX hT (name := "java/lang/IndexOutOfBoundsException") [] [] (0, 9, 12, 24) [(0, .ref 1), (1, .int x1), (2, .ref 50)] rfl (fun z hz => by cases hz) (by decide) (by decide) (tbk tin_5 16 rfl rfl) cast_2 (Or.inr ⟨3, rfl, dL_rounds_12, rfl⟩) rfl rfl ?_
    refine Q_iconst hX 1 dL_rounds_13 rfl ?_
    exact Q_iret hX dL_rounds_14 (Nat.le_refl _) (Nat.le_refl _))
theorem dL_pulls_0 : decode cL_pulls 0 = .ok (.aload_n 2, 1) := by decide +kernel
theorem dL_pulls_1 : decode cL_pulls 1 = .ok (.iconst 0, 1) := by decide +kernel
theorem dL_pulls_2 : decode cL_pulls 2 = .ok (.aload_n 0, 1) := by decide +kernel
theorem dL_pulls_3 : decode cL_pulls 3 = .ok (.iload_n 1, 1) := by decide +kernel
theorem dL_pulls_4 : decode cL_pulls 4 = .ok (.invokevirtual 70, 3) := by decide +kernel
theorem dL_pulls_7 : decode cL_pulls 7 = .ok (.i2l, 1) := by decide +kernel
theorem dL_pulls_8 : decode cL_pulls 8 = .ok (.lastore, 1) := by decide +kernel
theorem dL_pulls_9 : decode cL_pulls 9 = .ok (.goto 9, 3) := by decide +kernel
theorem dL_pulls_12 : decode cL_pulls 12 = .ok (.astore_n 3, 1) := by decide +kernel
theorem dL_pulls_13 : decode cL_pulls 13 = .ok (.iconst 1, 1) := by decide +kernel
theorem dL_pulls_14 : decode cL_pulls 14 = .ok (.ireturn, 1) := by decide +kernel
theorem dL_pulls_15 : decode cL_pulls 15 = .ok (.astore_n 3, 1) := by decide +kernel
theorem dL_pulls_16 : decode cL_pulls 16 = .ok (.iconst 2, 1) := by decide +kernel
theorem dL_pulls_17 : decode cL_pulls 17 = .ok (.ireturn, 1) := by decide +kernel
theorem dL_pulls_18 : decode cL_pulls 18 = .ok (.iconst 0, 1) := by decide +kernel
theorem dL_pulls_19 : decode cL_pulls 19 = .ok (.ireturn, 1) := by decide +kernel
theorem cw_L_pulls : CWv RL 70 yX11_pulls cX11_pulls 2 (some .int) 1 := ⟨⟨(tbk tin_5 228 rfl rfl), (tbk tin_1 1 rfl rfl), (tbk tin_5 231 rfl rfl), by decide +kernel, by decide +kernel, by decide +kernel⟩, (tbk tin_5 229 rfl rfl), (tbk tin_5 230 rfl rfl)⟩
set_option maxRecDepth 100000 in
set_option maxHeartbeats 100000 in
theorem CW_pulls_ok {G : GX} (hG : GOk G) {x1 : Int32} {h h1 : Hp} {v : Int32} (hf : f_X11_pulls x1 h = some (Except.ok v, h1)) : CtrW G 12 yL_pulls cL_pulls 4 [(0, 9, 12, 24), (0, 9, 15, 42)] [.ref 1, .int x1, .ref 50] h 0 (up1 h1 50 0 v) 0 :=
  CtrW_of hG RL rfl (by decide) rfl (fun X hX1 hX hT => by
    subst hX1
    show JQ X _ _ 0 0 0 [(0, .ref 1), (1, .int x1), (2, .ref 50)] [] h
    refine Q_aload_n hX 2 dL_pulls_0 rfl rfl ?_
    refine Q_iconst hX 0 dL_pulls_1 rfl ?_
    refine Q_aload_n hX 0 dL_pulls_2 rfl rfl ?_
    refine Q_iload_n hX 1 dL_pulls_3 rfl rfl ?_
    have hc := C_X11_pulls (okGQ hX) hf
    rw [oX_ok] at hc
    refine Q_V1 hX [.int x1] dL_pulls_4 cw_L_pulls ob_1 rfl hc (by decide) (by decide) rfl rfl rfl rfl ⟨Nat.le_refl _, Nat.le_refl _⟩ ?_
    refine Q_i2l hX dL_pulls_7 ?_
    refine Q_last hX dL_pulls_8 ar_50 (by decide) ?_
    refine Q_goto hX 18 dL_pulls_9 rfl ?_
    refine Q_iconst hX 0 dL_pulls_18 rfl ?_
    exact Q_iret hX dL_pulls_19 (Nat.le_refl _) (Nat.le_refl _))
set_option maxRecDepth 100000 in
set_option maxHeartbeats 100000 in
theorem CW_pulls_e1 {G : GX} (hG : GOk G) {x1 : Int32} {h h1 : Hp} (hf : f_X11_pulls x1 h = some (Except.error "java/lang/IndexOutOfBoundsException", h1)) : CtrW G 12 yL_pulls cL_pulls 4 [(0, 9, 12, 24), (0, 9, 15, 42)] [.ref 1, .int x1, .ref 50] h 1 h1 1 :=
  CtrW_of hG RL rfl (by decide) rfl (fun X hX1 hX hT => by
    subst hX1
    show JQ X _ _ 0 0 0 [(0, .ref 1), (1, .int x1), (2, .ref 50)] [] h
    refine Q_aload_n hX 2 dL_pulls_0 rfl rfl ?_
    refine Q_iconst hX 0 dL_pulls_1 rfl ?_
    refine Q_aload_n hX 0 dL_pulls_2 rfl rfl ?_
    refine Q_iload_n hX 1 dL_pulls_3 rfl rfl ?_
    have hc := C_X11_pulls (okGQ hX) hf
    rw [oX_er] at hc
    refine Q_Vx hX [.int x1] dL_pulls_4 cw_L_pulls ob_1 rfl hc (by decide) (by decide) rfl rfl rfl rfl ⟨Nat.le_refl _, Nat.le_refl _⟩ ?_
    refine Q_catch hX hT (name := "java/lang/IndexOutOfBoundsException") [] [(0, 9, 15, 42)] (0, 9, 12, 24) [(0, .ref 1), (1, .int x1), (2, .ref 50)] rfl (fun z hz => by cases hz) (by decide) (by decide) (tbk tin_5 16 rfl rfl) cast_2 (Or.inr ⟨3, rfl, dL_pulls_12, rfl⟩) rfl rfl ?_
    refine Q_iconst hX 1 dL_pulls_13 rfl ?_
    exact Q_iret hX dL_pulls_14 (Nat.le_refl _) (Nat.le_refl _))
set_option maxRecDepth 100000 in
set_option maxHeartbeats 100000 in
theorem CW_pulls_e2 {G : GX} (hG : GOk G) {x1 : Int32} {h h1 : Hp} (hf : f_X11_pulls x1 h = some (Except.error "java/lang/IllegalStateException", h1)) : CtrW G 12 yL_pulls cL_pulls 4 [(0, 9, 12, 24), (0, 9, 15, 42)] [.ref 1, .int x1, .ref 50] h 2 h1 1 :=
  CtrW_of hG RL rfl (by decide) rfl (fun X hX1 hX hT => by
    subst hX1
    show JQ X _ _ 0 0 0 [(0, .ref 1), (1, .int x1), (2, .ref 50)] [] h
    refine Q_aload_n hX 2 dL_pulls_0 rfl rfl ?_
    refine Q_iconst hX 0 dL_pulls_1 rfl ?_
    refine Q_aload_n hX 0 dL_pulls_2 rfl rfl ?_
    refine Q_iload_n hX 1 dL_pulls_3 rfl rfl ?_
    have hc := C_X11_pulls (okGQ hX) hf
    rw [oX_er] at hc
    refine Q_Vx hX [.int x1] dL_pulls_4 cw_L_pulls ob_1 rfl hc (by decide) (by decide) rfl rfl rfl rfl ⟨Nat.le_refl _, Nat.le_refl _⟩ ?_
    refine Q_catch hX hT (name := "java/lang/IllegalStateException") [(0, 9, 12, 24)] [] (0, 9, 15, 42) [(0, .ref 1), (1, .int x1), (2, .ref 50)] rfl (fun z hz => by
        simp only [List.mem_cons, List.not_mem_nil, or_false] at hz
        rcases hz with rfl <;> first | exact ⟨by decide, "java/lang/IndexOutOfBoundsException", (tbk tin_5 16 rfl rfl), by decide⟩) (by decide) (by decide) (tbk tin_5 126 rfl rfl) cast_4 (Or.inr ⟨3, rfl, dL_pulls_15, rfl⟩) rfl rfl ?_
    refine Q_iconst hX 2 dL_pulls_16 rfl ?_
    exact Q_iret hX dL_pulls_17 (Nat.le_refl _) (Nat.le_refl _))
theorem dL_props_0 : decode cL_props 0 = .ok (.aload_n 2, 1) := by decide +kernel
theorem dL_props_1 : decode cL_props 1 = .ok (.iconst 0, 1) := by decide +kernel
theorem dL_props_2 : decode cL_props 2 = .ok (.aload_n 0, 1) := by decide +kernel
theorem dL_props_3 : decode cL_props 3 = .ok (.iload_n 1, 1) := by decide +kernel
theorem dL_props_4 : decode cL_props 4 = .ok (.invokevirtual 73, 3) := by decide +kernel
theorem dL_props_7 : decode cL_props 7 = .ok (.i2l, 1) := by decide +kernel
theorem dL_props_8 : decode cL_props 8 = .ok (.lastore, 1) := by decide +kernel
theorem dL_props_9 : decode cL_props 9 = .ok (.goto 6, 3) := by decide +kernel
theorem dL_props_12 : decode cL_props 12 = .ok (.astore_n 3, 1) := by decide +kernel
theorem dL_props_13 : decode cL_props 13 = .ok (.iconst 1, 1) := by decide +kernel
theorem dL_props_14 : decode cL_props 14 = .ok (.ireturn, 1) := by decide +kernel
theorem dL_props_15 : decode cL_props 15 = .ok (.iconst 0, 1) := by decide +kernel
theorem dL_props_16 : decode cL_props 16 = .ok (.ireturn, 1) := by decide +kernel
theorem cw_L_props : CWv RL 73 yX11_props cX11_props 5 (some .int) 1 := ⟨⟨(tbk tin_5 235 rfl rfl), (tbk tin_1 1 rfl rfl), (tbk tin_5 238 rfl rfl), by decide +kernel, by decide +kernel, by decide +kernel⟩, (tbk tin_5 236 rfl rfl), (tbk tin_5 237 rfl rfl)⟩
set_option maxRecDepth 100000 in
set_option maxHeartbeats 100000 in
theorem CW_props_ok {G : GX} (hG : GOk G) {x1 : Int32} {h h1 : Hp} {v : Int32} (hf : f_X11_props x1 h = some (Except.ok v, h1)) : CtrW G 12 yL_props cL_props 4 [(0, 9, 12, 24)] [.ref 1, .int x1, .ref 50] h 0 (up1 h1 50 0 v) 0 :=
  CtrW_of hG RL rfl (by decide) rfl (fun X hX1 hX hT => by
    subst hX1
    show JQ X _ _ 0 0 0 [(0, .ref 1), (1, .int x1), (2, .ref 50)] [] h
    refine Q_aload_n hX 2 dL_props_0 rfl rfl ?_
    refine Q_iconst hX 0 dL_props_1 rfl ?_
    refine Q_aload_n hX 0 dL_props_2 rfl rfl ?_
    refine Q_iload_n hX 1 dL_props_3 rfl rfl ?_
    have hc := C_X11_props (okGQ hX) hf
    rw [oX_ok] at hc
    refine Q_V1 hX [.int x1] dL_props_4 cw_L_props ob_1 rfl hc (by decide) (by decide) rfl rfl rfl rfl ⟨Nat.le_refl _, Nat.le_refl _⟩ ?_
    refine Q_i2l hX dL_props_7 ?_
    refine Q_last hX dL_props_8 ar_50 (by decide) ?_
    refine Q_goto hX 15 dL_props_9 rfl ?_
    refine Q_iconst hX 0 dL_props_15 rfl ?_
    exact Q_iret hX dL_props_16 (Nat.le_refl _) (Nat.le_refl _))
set_option maxRecDepth 100000 in
set_option maxHeartbeats 100000 in
theorem CW_props_e1 {G : GX} (hG : GOk G) {x1 : Int32} {h h1 : Hp} (hf : f_X11_props x1 h = some (Except.error "java/lang/IndexOutOfBoundsException", h1)) : CtrW G 12 yL_props cL_props 4 [(0, 9, 12, 24)] [.ref 1, .int x1, .ref 50] h 1 h1 1 :=
  CtrW_of hG RL rfl (by decide) rfl (fun X hX1 hX hT => by
    subst hX1
    show JQ X _ _ 0 0 0 [(0, .ref 1), (1, .int x1), (2, .ref 50)] [] h
    refine Q_aload_n hX 2 dL_props_0 rfl rfl ?_
    refine Q_iconst hX 0 dL_props_1 rfl ?_
    refine Q_aload_n hX 0 dL_props_2 rfl rfl ?_
    refine Q_iload_n hX 1 dL_props_3 rfl rfl ?_
    have hc := C_X11_props (okGQ hX) hf
    rw [oX_er] at hc
    refine Q_Vx hX [.int x1] dL_props_4 cw_L_props ob_1 rfl hc (by decide) (by decide) rfl rfl rfl rfl ⟨Nat.le_refl _, Nat.le_refl _⟩ ?_
    refine Q_catch hX hT (name := "java/lang/IndexOutOfBoundsException") [] [] (0, 9, 12, 24) [(0, .ref 1), (1, .int x1), (2, .ref 50)] rfl (fun z hz => by cases hz) (by decide) (by decide) (tbk tin_5 16 rfl rfl) cast_2 (Or.inr ⟨3, rfl, dL_props_12, rfl⟩) rfl rfl ?_
    refine Q_iconst hX 1 dL_props_13 rfl ?_
    exact Q_iret hX dL_props_14 (Nat.le_refl _) (Nat.le_refl _))
theorem dL_order_0 : decode cL_order 0 = .ok (.aload_n 2, 1) := by decide +kernel
theorem dL_order_1 : decode cL_order 1 = .ok (.iconst 0, 1) := by decide +kernel
theorem dL_order_2 : decode cL_order 2 = .ok (.aload_n 0, 1) := by decide +kernel
theorem dL_order_3 : decode cL_order 3 = .ok (.iload_n 1, 1) := by decide +kernel
theorem dL_order_4 : decode cL_order 4 = .ok (.invokevirtual 76, 3) := by decide +kernel
theorem dL_order_7 : decode cL_order 7 = .ok (.i2l, 1) := by decide +kernel
theorem dL_order_8 : decode cL_order 8 = .ok (.lastore, 1) := by decide +kernel
theorem dL_order_9 : decode cL_order 9 = .ok (.goto 6, 3) := by decide +kernel
theorem dL_order_12 : decode cL_order 12 = .ok (.astore_n 3, 1) := by decide +kernel
theorem dL_order_13 : decode cL_order 13 = .ok (.iconst 1, 1) := by decide +kernel
theorem dL_order_14 : decode cL_order 14 = .ok (.ireturn, 1) := by decide +kernel
theorem dL_order_15 : decode cL_order 15 = .ok (.iconst 0, 1) := by decide +kernel
theorem dL_order_16 : decode cL_order 16 = .ok (.ireturn, 1) := by decide +kernel
theorem cw_L_order : CWv RL 76 yX11_order cX11_order 3 (some .int) 1 := ⟨⟨(tbk tin_6 3 rfl rfl), (tbk tin_1 1 rfl rfl), (tbk tin_6 6 rfl rfl), by decide +kernel, by decide +kernel, by decide +kernel⟩, (tbk tin_6 4 rfl rfl), (tbk tin_6 5 rfl rfl)⟩
set_option maxRecDepth 100000 in
set_option maxHeartbeats 100000 in
theorem CW_order_ok {G : GX} (hG : GOk G) {x1 : Int32} {h h1 : Hp} {v : Int32} (hf : f_X11_order x1 h = some (Except.ok v, h1)) : CtrW G 34 yL_order cL_order 4 [(0, 9, 12, 13)] [.ref 1, .int x1, .ref 50] h 0 (up1 h1 50 0 v) 0 :=
  CtrW_of hG RL rfl (by decide) rfl (fun X hX1 hX hT => by
    subst hX1
    show JQ X _ _ 0 0 0 [(0, .ref 1), (1, .int x1), (2, .ref 50)] [] h
    refine Q_aload_n hX 2 dL_order_0 rfl rfl ?_
    refine Q_iconst hX 0 dL_order_1 rfl ?_
    refine Q_aload_n hX 0 dL_order_2 rfl rfl ?_
    refine Q_iload_n hX 1 dL_order_3 rfl rfl ?_
    have hc := C_X11_order (okGQ hX) hf
    rw [oX_ok] at hc
    refine Q_V1 hX [.int x1] dL_order_4 cw_L_order ob_1 rfl hc (by decide) (by decide) rfl rfl rfl rfl ⟨Nat.le_refl _, Nat.le_refl _⟩ ?_
    refine Q_i2l hX dL_order_7 ?_
    refine Q_last hX dL_order_8 ar_50 (by decide) ?_
    refine Q_goto hX 15 dL_order_9 rfl ?_
    refine Q_iconst hX 0 dL_order_15 rfl ?_
    exact Q_iret hX dL_order_16 (Nat.le_refl _) (Nat.le_refl _))
set_option maxRecDepth 100000 in
set_option maxHeartbeats 100000 in
theorem CW_order_e1 {G : GX} (hG : GOk G) {x1 : Int32} {h h1 : Hp} (hf : f_X11_order x1 h = some (Except.error "java/lang/IllegalArgumentException", h1)) : CtrW G 34 yL_order cL_order 4 [(0, 9, 12, 13)] [.ref 1, .int x1, .ref 50] h 1 h1 1 :=
  CtrW_of hG RL rfl (by decide) rfl (fun X hX1 hX hT => by
    subst hX1
    show JQ X _ _ 0 0 0 [(0, .ref 1), (1, .int x1), (2, .ref 50)] [] h
    refine Q_aload_n hX 2 dL_order_0 rfl rfl ?_
    refine Q_iconst hX 0 dL_order_1 rfl ?_
    refine Q_aload_n hX 0 dL_order_2 rfl rfl ?_
    refine Q_iload_n hX 1 dL_order_3 rfl rfl ?_
    have hc := C_X11_order (okGQ hX) hf
    rw [oX_er] at hc
    refine Q_Vx hX [.int x1] dL_order_4 cw_L_order ob_1 rfl hc (by decide) (by decide) rfl rfl rfl rfl ⟨Nat.le_refl _, Nat.le_refl _⟩ ?_
    refine Q_catch hX hT (name := "java/lang/IllegalArgumentException") [] [] (0, 9, 12, 13) [(0, .ref 1), (1, .int x1), (2, .ref 50)] rfl (fun z hz => by cases hz) (by decide) (by decide) (tbk tin_3 199 rfl rfl) cast_0 (Or.inr ⟨3, rfl, dL_order_12, rfl⟩) rfl rfl ?_
    refine Q_iconst hX 1 dL_order_13 rfl ?_
    exact Q_iret hX dL_order_14 (Nat.le_refl _) (Nat.le_refl _))
theorem dL_means_0 : decode cL_means 0 = .ok (.aload_n 1, 1) := by decide +kernel
theorem dL_means_1 : decode cL_means 1 = .ok (.iconst 0, 1) := by decide +kernel
theorem dL_means_2 : decode cL_means 2 = .ok (.aload_n 0, 1) := by decide +kernel
theorem dL_means_3 : decode cL_means 3 = .ok (.invokevirtual 79, 3) := by decide +kernel
theorem dL_means_6 : decode cL_means 6 = .ok (.i2l, 1) := by decide +kernel
theorem dL_means_7 : decode cL_means 7 = .ok (.lastore, 1) := by decide +kernel
theorem dL_means_8 : decode cL_means 8 = .ok (.goto 6, 3) := by decide +kernel
theorem dL_means_11 : decode cL_means 11 = .ok (.astore_n 2, 1) := by decide +kernel
theorem dL_means_12 : decode cL_means 12 = .ok (.iconst 1, 1) := by decide +kernel
theorem dL_means_13 : decode cL_means 13 = .ok (.ireturn, 1) := by decide +kernel
theorem dL_means_14 : decode cL_means 14 = .ok (.iconst 0, 1) := by decide +kernel
theorem dL_means_15 : decode cL_means 15 = .ok (.ireturn, 1) := by decide +kernel
theorem cw_L_means : CWv RL 79 yX11_means cX11_means 2 (some .int) 0 := ⟨⟨(tbk tin_6 33 rfl rfl), (tbk tin_1 1 rfl rfl), (tbk tin_6 36 rfl rfl), by decide +kernel, by decide +kernel, by decide +kernel⟩, (tbk tin_6 34 rfl rfl), (tbk tin_6 35 rfl rfl)⟩
set_option maxRecDepth 100000 in
set_option maxHeartbeats 100000 in
theorem CW_means_ok {G : GX} (hG : GOk G) {h h1 : Hp} {v : Int32} (hf : f_X11_means h = some (Except.ok v, h1)) : CtrW G 34 yL_means cL_means 3 [(0, 8, 11, 13)] [.ref 1, .ref 50] h 0 (up1 h1 50 0 v) 0 :=
  CtrW_of hG RL rfl (by decide) rfl (fun X hX1 hX hT => by
    subst hX1
    show JQ X _ _ 0 0 0 [(0, .ref 1), (1, .ref 50)] [] h
    refine Q_aload_n hX 1 dL_means_0 rfl rfl ?_
    refine Q_iconst hX 0 dL_means_1 rfl ?_
    refine Q_aload_n hX 0 dL_means_2 rfl rfl ?_
    have hc := C_X11_means (okGQ hX) hf
    rw [oX_ok] at hc
    refine Q_V1 hX [] dL_means_3 cw_L_means ob_1 rfl hc (by decide) (by decide) rfl rfl rfl rfl ⟨Nat.le_refl _, Nat.le_refl _⟩ ?_
    refine Q_i2l hX dL_means_6 ?_
    refine Q_last hX dL_means_7 ar_50 (by decide) ?_
    refine Q_goto hX 14 dL_means_8 rfl ?_
    refine Q_iconst hX 0 dL_means_14 rfl ?_
    exact Q_iret hX dL_means_15 (Nat.le_refl _) (Nat.le_refl _))
set_option maxRecDepth 100000 in
set_option maxHeartbeats 100000 in
theorem CW_means_e1 {G : GX} (hG : GOk G) {h h1 : Hp} (hf : f_X11_means h = some (Except.error "java/lang/IllegalArgumentException", h1)) : CtrW G 34 yL_means cL_means 3 [(0, 8, 11, 13)] [.ref 1, .ref 50] h 1 h1 1 :=
  CtrW_of hG RL rfl (by decide) rfl (fun X hX1 hX hT => by
    subst hX1
    show JQ X _ _ 0 0 0 [(0, .ref 1), (1, .ref 50)] [] h
    refine Q_aload_n hX 1 dL_means_0 rfl rfl ?_
    refine Q_iconst hX 0 dL_means_1 rfl ?_
    refine Q_aload_n hX 0 dL_means_2 rfl rfl ?_
    have hc := C_X11_means (okGQ hX) hf
    rw [oX_er] at hc
    refine Q_Vx hX [] dL_means_3 cw_L_means ob_1 rfl hc (by decide) (by decide) rfl rfl rfl rfl ⟨Nat.le_refl _, Nat.le_refl _⟩ ?_
    refine Q_catch hX hT (name := "java/lang/IllegalArgumentException") [] [] (0, 8, 11, 13) [(0, .ref 1), (1, .ref 50)] rfl (fun z hz => by cases hz) (by decide) (by decide) (tbk tin_3 199 rfl rfl) cast_0 (Or.inr ⟨2, rfl, dL_means_11, rfl⟩) rfl rfl ?_
    refine Q_iconst hX 1 dL_means_12 rfl ?_
    exact Q_iret hX dL_means_13 (Nat.le_refl _) (Nat.le_refl _))
theorem dL_broken_0 : decode cL_broken 0 = .ok (.aload_n 2, 1) := by decide +kernel
theorem dL_broken_1 : decode cL_broken 1 = .ok (.iconst 0, 1) := by decide +kernel
theorem dL_broken_2 : decode cL_broken 2 = .ok (.aload_n 0, 1) := by decide +kernel
theorem dL_broken_3 : decode cL_broken 3 = .ok (.iload_n 1, 1) := by decide +kernel
theorem dL_broken_4 : decode cL_broken 4 = .ok (.invokevirtual 82, 3) := by decide +kernel
theorem dL_broken_7 : decode cL_broken 7 = .ok (.i2l, 1) := by decide +kernel
theorem dL_broken_8 : decode cL_broken 8 = .ok (.lastore, 1) := by decide +kernel
theorem dL_broken_9 : decode cL_broken 9 = .ok (.goto 6, 3) := by decide +kernel
theorem dL_broken_12 : decode cL_broken 12 = .ok (.astore_n 3, 1) := by decide +kernel
theorem dL_broken_13 : decode cL_broken 13 = .ok (.iconst 1, 1) := by decide +kernel
theorem dL_broken_14 : decode cL_broken 14 = .ok (.ireturn, 1) := by decide +kernel
theorem dL_broken_15 : decode cL_broken 15 = .ok (.iconst 0, 1) := by decide +kernel
theorem dL_broken_16 : decode cL_broken 16 = .ok (.ireturn, 1) := by decide +kernel
theorem cw_L_broken : CWv RL 82 yX11_broken cX11_broken 2 (some .int) 1 := ⟨⟨(tbk tin_6 40 rfl rfl), (tbk tin_1 1 rfl rfl), (tbk tin_6 43 rfl rfl), by decide +kernel, by decide +kernel, by decide +kernel⟩, (tbk tin_6 41 rfl rfl), (tbk tin_6 42 rfl rfl)⟩
set_option maxRecDepth 100000 in
set_option maxHeartbeats 100000 in
theorem CW_broken_ok {G : GX} (hG : GOk G) {x1 : Int32} {h h1 : Hp} {v : Int32} (hf : f_X11_broken x1 h = some (Except.ok v, h1)) : CtrW G 12 yL_broken cL_broken 4 [(0, 9, 12, 13)] [.ref 1, .int x1, .ref 50] h 0 (up1 h1 50 0 v) 0 :=
  CtrW_of hG RL rfl (by decide) rfl (fun X hX1 hX hT => by
    subst hX1
    show JQ X _ _ 0 0 0 [(0, .ref 1), (1, .int x1), (2, .ref 50)] [] h
    refine Q_aload_n hX 2 dL_broken_0 rfl rfl ?_
    refine Q_iconst hX 0 dL_broken_1 rfl ?_
    refine Q_aload_n hX 0 dL_broken_2 rfl rfl ?_
    refine Q_iload_n hX 1 dL_broken_3 rfl rfl ?_
    have hc := C_X11_broken (okGQ hX) hf
    rw [oX_ok] at hc
    refine Q_V1 hX [.int x1] dL_broken_4 cw_L_broken ob_1 rfl hc (by decide) (by decide) rfl rfl rfl rfl ⟨Nat.le_refl _, Nat.le_refl _⟩ ?_
    refine Q_i2l hX dL_broken_7 ?_
    refine Q_last hX dL_broken_8 ar_50 (by decide) ?_
    refine Q_goto hX 15 dL_broken_9 rfl ?_
    refine Q_iconst hX 0 dL_broken_15 rfl ?_
    exact Q_iret hX dL_broken_16 (Nat.le_refl _) (Nat.le_refl _))
set_option maxRecDepth 100000 in
set_option maxHeartbeats 100000 in
theorem CW_broken_e1 {G : GX} (hG : GOk G) {x1 : Int32} {h h1 : Hp} (hf : f_X11_broken x1 h = some (Except.error "java/lang/IllegalArgumentException", h1)) : CtrW G 12 yL_broken cL_broken 4 [(0, 9, 12, 13)] [.ref 1, .int x1, .ref 50] h 1 h1 1 :=
  CtrW_of hG RL rfl (by decide) rfl (fun X hX1 hX hT => by
    subst hX1
    show JQ X _ _ 0 0 0 [(0, .ref 1), (1, .int x1), (2, .ref 50)] [] h
    refine Q_aload_n hX 2 dL_broken_0 rfl rfl ?_
    refine Q_iconst hX 0 dL_broken_1 rfl ?_
    refine Q_aload_n hX 0 dL_broken_2 rfl rfl ?_
    refine Q_iload_n hX 1 dL_broken_3 rfl rfl ?_
    have hc := C_X11_broken (okGQ hX) hf
    rw [oX_er] at hc
    refine Q_Vx hX [.int x1] dL_broken_4 cw_L_broken ob_1 rfl hc (by decide) (by decide) rfl rfl rfl rfl ⟨Nat.le_refl _, Nat.le_refl _⟩ ?_
    refine Q_catch hX hT (name := "java/lang/IllegalArgumentException") [] [] (0, 9, 12, 13) [(0, .ref 1), (1, .int x1), (2, .ref 50)] rfl (fun z hz => by cases hz) (by decide) (by decide) (tbk tin_3 199 rfl rfl) cast_0 (Or.inr ⟨3, rfl, dL_broken_12, rfl⟩) rfl rfl ?_
    refine Q_iconst hX 1 dL_broken_13 rfl ?_
    exact Q_iret hX dL_broken_14 (Nat.le_refl _) (Nat.le_refl _))
theorem dL_tap_0 : decode cL_tap 0 = .ok (.aload_n 1, 1) := by decide +kernel
theorem dL_tap_1 : decode cL_tap 1 = .ok (.iconst 0, 1) := by decide +kernel
theorem dL_tap_2 : decode cL_tap 2 = .ok (.aload_n 0, 1) := by decide +kernel
theorem dL_tap_3 : decode cL_tap 3 = .ok (.invokevirtual 86, 3) := by decide +kernel
theorem dL_tap_6 : decode cL_tap 6 = .ok (.i2l, 1) := by decide +kernel
theorem dL_tap_7 : decode cL_tap 7 = .ok (.lastore, 1) := by decide +kernel
theorem dL_tap_8 : decode cL_tap 8 = .ok (.goto 6, 3) := by decide +kernel
theorem dL_tap_11 : decode cL_tap 11 = .ok (.astore_n 2, 1) := by decide +kernel
theorem dL_tap_12 : decode cL_tap 12 = .ok (.iconst 1, 1) := by decide +kernel
theorem dL_tap_13 : decode cL_tap 13 = .ok (.ireturn, 1) := by decide +kernel
theorem dL_tap_14 : decode cL_tap 14 = .ok (.iconst 0, 1) := by decide +kernel
theorem dL_tap_15 : decode cL_tap 15 = .ok (.ireturn, 1) := by decide +kernel
theorem cw_L_tap : CWv RL 86 yX11_tap cX11_tap 1 (some .int) 0 := ⟨⟨(tbk tin_6 71 rfl rfl), (tbk tin_1 1 rfl rfl), (tbk tin_6 74 rfl rfl), by decide +kernel, by decide +kernel, by decide +kernel⟩, (tbk tin_6 72 rfl rfl), (tbk tin_6 73 rfl rfl)⟩
set_option maxRecDepth 100000 in
set_option maxHeartbeats 100000 in
theorem CW_tap_ok {G : GX} (hG : GOk G) {h h1 : Hp} {v : Int32} (hf : f_X11_tap h = some (Except.ok v, h1)) : CtrW G 12 yL_tap cL_tap 3 [(0, 8, 11, 13)] [.ref 1, .ref 50] h 0 (up1 h1 50 0 v) 0 :=
  CtrW_of hG RL rfl (by decide) rfl (fun X hX1 hX hT => by
    subst hX1
    show JQ X _ _ 0 0 0 [(0, .ref 1), (1, .ref 50)] [] h
    refine Q_aload_n hX 1 dL_tap_0 rfl rfl ?_
    refine Q_iconst hX 0 dL_tap_1 rfl ?_
    refine Q_aload_n hX 0 dL_tap_2 rfl rfl ?_
    have hc := C_X11_tap (okGQ hX) hf
    rw [oX_ok] at hc
    refine Q_V1 hX [] dL_tap_3 cw_L_tap ob_1 rfl hc (by decide) (by decide) rfl rfl rfl rfl ⟨Nat.le_refl _, Nat.le_refl _⟩ ?_
    refine Q_i2l hX dL_tap_6 ?_
    refine Q_last hX dL_tap_7 ar_50 (by decide) ?_
    refine Q_goto hX 14 dL_tap_8 rfl ?_
    refine Q_iconst hX 0 dL_tap_14 rfl ?_
    exact Q_iret hX dL_tap_15 (Nat.le_refl _) (Nat.le_refl _))
set_option maxRecDepth 100000 in
set_option maxHeartbeats 100000 in
theorem CW_tap_e1 {G : GX} (hG : GOk G) {h h1 : Hp} (hf : f_X11_tap h = some (Except.error "java/lang/IllegalArgumentException", h1)) : CtrW G 12 yL_tap cL_tap 3 [(0, 8, 11, 13)] [.ref 1, .ref 50] h 1 h1 1 :=
  CtrW_of hG RL rfl (by decide) rfl (fun X hX1 hX hT => by
    subst hX1
    show JQ X _ _ 0 0 0 [(0, .ref 1), (1, .ref 50)] [] h
    refine Q_aload_n hX 1 dL_tap_0 rfl rfl ?_
    refine Q_iconst hX 0 dL_tap_1 rfl ?_
    refine Q_aload_n hX 0 dL_tap_2 rfl rfl ?_
    have hc := C_X11_tap (okGQ hX) hf
    rw [oX_er] at hc
    refine Q_Vx hX [] dL_tap_3 cw_L_tap ob_1 rfl hc (by decide) (by decide) rfl rfl rfl rfl ⟨Nat.le_refl _, Nat.le_refl _⟩ ?_
    refine Q_catch hX hT (name := "java/lang/IllegalArgumentException") [] [] (0, 8, 11, 13) [(0, .ref 1), (1, .ref 50)] rfl (fun z hz => by cases hz) (by decide) (by decide) (tbk tin_3 199 rfl rfl) cast_0 (Or.inr ⟨2, rfl, dL_tap_11, rfl⟩) rfl rfl ?_
    refine Q_iconst hX 1 dL_tap_12 rfl ?_
    exact Q_iret hX dL_tap_13 (Nat.le_refl _) (Nat.le_refl _))
theorem dL_ring_0 : decode cL_ring 0 = .ok (.aload_n 2, 1) := by decide +kernel
theorem dL_ring_1 : decode cL_ring 1 = .ok (.iconst 0, 1) := by decide +kernel
theorem dL_ring_2 : decode cL_ring 2 = .ok (.aload_n 0, 1) := by decide +kernel
theorem dL_ring_3 : decode cL_ring 3 = .ok (.iload_n 1, 1) := by decide +kernel
theorem dL_ring_4 : decode cL_ring 4 = .ok (.invokevirtual 89, 3) := by decide +kernel
theorem dL_ring_7 : decode cL_ring 7 = .ok (.ifCond .eq 7, 3) := by decide +kernel
theorem dL_ring_10 : decode cL_ring 10 = .ok (.lconst 1, 1) := by decide +kernel
theorem dL_ring_11 : decode cL_ring 11 = .ok (.goto 4, 3) := by decide +kernel
theorem dL_ring_14 : decode cL_ring 14 = .ok (.lconst 0, 1) := by decide +kernel
theorem dL_ring_15 : decode cL_ring 15 = .ok (.lastore, 1) := by decide +kernel
theorem dL_ring_16 : decode cL_ring 16 = .ok (.goto 6, 3) := by decide +kernel
theorem dL_ring_19 : decode cL_ring 19 = .ok (.astore_n 3, 1) := by decide +kernel
theorem dL_ring_20 : decode cL_ring 20 = .ok (.iconst 1, 1) := by decide +kernel
theorem dL_ring_21 : decode cL_ring 21 = .ok (.ireturn, 1) := by decide +kernel
theorem dL_ring_22 : decode cL_ring 22 = .ok (.iconst 0, 1) := by decide +kernel
theorem dL_ring_23 : decode cL_ring 23 = .ok (.ireturn, 1) := by decide +kernel
theorem cw_L_ring : CWv RL 89 yX11_ring cX11_ring 2 (some .boolean) 1 := ⟨⟨(tbk tin_6 91 rfl rfl), (tbk tin_1 1 rfl rfl), (tbk tin_6 94 rfl rfl), by decide +kernel, by decide +kernel, by decide +kernel⟩, (tbk tin_6 92 rfl rfl), (tbk tin_6 93 rfl rfl)⟩
set_option maxRecDepth 100000 in
set_option maxHeartbeats 100000 in
theorem CW_ring_ok {G : GX} (hG : GOk G) {x1 : Int32} {h h1 : Hp} {v : Bool} (hf : f_X11_ring x1 h = some (Except.ok v, h1)) : CtrW G 12 yL_ring cL_ring 4 [(0, 16, 19, 24)] [.ref 1, .int x1, .ref 50] h 0 (up1 h1 50 0 (b2i v)) 0 :=
  CtrW_of hG RL rfl (by decide) rfl (fun X hX1 hX hT => by
    subst hX1
    show JQ X _ _ 0 0 0 [(0, .ref 1), (1, .int x1), (2, .ref 50)] [] h
    refine Q_aload_n hX 2 dL_ring_0 rfl rfl ?_
    refine Q_iconst hX 0 dL_ring_1 rfl ?_
    refine Q_aload_n hX 0 dL_ring_2 rfl rfl ?_
    refine Q_iload_n hX 1 dL_ring_3 rfl rfl ?_
    have hc := C_X11_ring (okGQ hX) hf
    rw [oX_ok] at hc
    refine Q_V1 hX [.int x1] dL_ring_4 cw_L_ring ob_1 rfl hc (by decide) (by decide) rfl rfl rfl rfl ⟨Nat.le_refl _, Nat.le_refl _⟩ ?_
    cases v
    · refine Q_if_eqT hX 14 dL_ring_7 rfl rfl ?_
      refine Q_lconst hX 0 dL_ring_14 rfl ?_
      refine Q_nmL (show (0 : Int64) = (b2i false).toInt64 by decide) ?_
      refine Q_last hX dL_ring_15 ar_50 (by decide) ?_
      refine Q_goto hX 22 dL_ring_16 rfl ?_
      refine Q_iconst hX 0 dL_ring_22 rfl ?_
      exact Q_iret hX dL_ring_23 (Nat.le_refl _) (Nat.le_refl _)
    · refine Q_if_eqF hX 14 dL_ring_7 rfl (by decide) ?_
      refine Q_lconst hX 1 dL_ring_10 rfl ?_
      refine Q_nmL (show (1 : Int64) = (b2i true).toInt64 by decide) ?_
      refine Q_goto hX 15 dL_ring_11 rfl ?_
      refine Q_last hX dL_ring_15 ar_50 (by decide) ?_
      refine Q_goto hX 22 dL_ring_16 rfl ?_
      refine Q_iconst hX 0 dL_ring_22 rfl ?_
      exact Q_iret hX dL_ring_23 (Nat.le_refl _) (Nat.le_refl _))
set_option maxRecDepth 100000 in
set_option maxHeartbeats 100000 in
theorem CW_ring_e1 {G : GX} (hG : GOk G) {x1 : Int32} {h h1 : Hp} (hf : f_X11_ring x1 h = some (Except.error "java/lang/IndexOutOfBoundsException", h1)) : CtrW G 12 yL_ring cL_ring 4 [(0, 16, 19, 24)] [.ref 1, .int x1, .ref 50] h 1 h1 1 :=
  CtrW_of hG RL rfl (by decide) rfl (fun X hX1 hX hT => by
    subst hX1
    show JQ X _ _ 0 0 0 [(0, .ref 1), (1, .int x1), (2, .ref 50)] [] h
    refine Q_aload_n hX 2 dL_ring_0 rfl rfl ?_
    refine Q_iconst hX 0 dL_ring_1 rfl ?_
    refine Q_aload_n hX 0 dL_ring_2 rfl rfl ?_
    refine Q_iload_n hX 1 dL_ring_3 rfl rfl ?_
    have hc := C_X11_ring (okGQ hX) hf
    rw [oX_er] at hc
    refine Q_Vx hX [.int x1] dL_ring_4 cw_L_ring ob_1 rfl hc (by decide) (by decide) rfl rfl rfl rfl ⟨Nat.le_refl _, Nat.le_refl _⟩ ?_
    refine Q_catch hX hT (name := "java/lang/IndexOutOfBoundsException") [] [] (0, 16, 19, 24) [(0, .ref 1), (1, .int x1), (2, .ref 50)] rfl (fun z hz => by cases hz) (by decide) (by decide) (tbk tin_5 16 rfl rfl) cast_2 (Or.inr ⟨3, rfl, dL_ring_19, rfl⟩) rfl rfl ?_
    refine Q_iconst hX 1 dL_ring_20 rfl ?_
    exact Q_iret hX dL_ring_21 (Nat.le_refl _) (Nat.le_refl _))
theorem dL_held_0 : decode cL_held 0 = .ok (.aload_n 2, 1) := by decide +kernel
theorem dL_held_1 : decode cL_held 1 = .ok (.iconst 0, 1) := by decide +kernel
theorem dL_held_2 : decode cL_held 2 = .ok (.aload_n 0, 1) := by decide +kernel
theorem dL_held_3 : decode cL_held 3 = .ok (.iload_n 1, 1) := by decide +kernel
theorem dL_held_4 : decode cL_held 4 = .ok (.invokevirtual 93, 3) := by decide +kernel
theorem dL_held_7 : decode cL_held 7 = .ok (.i2l, 1) := by decide +kernel
theorem dL_held_8 : decode cL_held 8 = .ok (.lastore, 1) := by decide +kernel
theorem dL_held_9 : decode cL_held 9 = .ok (.goto 6, 3) := by decide +kernel
theorem dL_held_12 : decode cL_held 12 = .ok (.astore_n 3, 1) := by decide +kernel
theorem dL_held_13 : decode cL_held 13 = .ok (.iconst 1, 1) := by decide +kernel
theorem dL_held_14 : decode cL_held 14 = .ok (.ireturn, 1) := by decide +kernel
theorem dL_held_15 : decode cL_held 15 = .ok (.iconst 0, 1) := by decide +kernel
theorem dL_held_16 : decode cL_held 16 = .ok (.ireturn, 1) := by decide +kernel
theorem cw_L_held : CWv RL 93 yX11_held cX11_held 2 (some .int) 1 := ⟨⟨(tbk tin_6 102 rfl rfl), (tbk tin_1 1 rfl rfl), (tbk tin_6 105 rfl rfl), by decide +kernel, by decide +kernel, by decide +kernel⟩, (tbk tin_6 103 rfl rfl), (tbk tin_6 104 rfl rfl)⟩
set_option maxRecDepth 100000 in
set_option maxHeartbeats 100000 in
theorem CW_held_ok {G : GX} (hG : GOk G) {x1 : Int32} {h h1 : Hp} {v : Int32} (hf : f_X11_held x1 h = some (Except.ok v, h1)) : CtrW G 12 yL_held cL_held 4 [(0, 9, 12, 24)] [.ref 1, .int x1, .ref 50] h 0 (up1 h1 50 0 v) 0 :=
  CtrW_of hG RL rfl (by decide) rfl (fun X hX1 hX hT => by
    subst hX1
    show JQ X _ _ 0 0 0 [(0, .ref 1), (1, .int x1), (2, .ref 50)] [] h
    refine Q_aload_n hX 2 dL_held_0 rfl rfl ?_
    refine Q_iconst hX 0 dL_held_1 rfl ?_
    refine Q_aload_n hX 0 dL_held_2 rfl rfl ?_
    refine Q_iload_n hX 1 dL_held_3 rfl rfl ?_
    have hc := C_X11_held (okGQ hX) hf
    rw [oX_ok] at hc
    refine Q_V1 hX [.int x1] dL_held_4 cw_L_held ob_1 rfl hc (by decide) (by decide) rfl rfl rfl rfl ⟨Nat.le_refl _, Nat.le_refl _⟩ ?_
    refine Q_i2l hX dL_held_7 ?_
    refine Q_last hX dL_held_8 ar_50 (by decide) ?_
    refine Q_goto hX 15 dL_held_9 rfl ?_
    refine Q_iconst hX 0 dL_held_15 rfl ?_
    exact Q_iret hX dL_held_16 (Nat.le_refl _) (Nat.le_refl _))
set_option maxRecDepth 100000 in
set_option maxHeartbeats 100000 in
theorem CW_held_e1 {G : GX} (hG : GOk G) {x1 : Int32} {h h1 : Hp} (hf : f_X11_held x1 h = some (Except.error "java/lang/IndexOutOfBoundsException", h1)) : CtrW G 12 yL_held cL_held 4 [(0, 9, 12, 24)] [.ref 1, .int x1, .ref 50] h 1 h1 1 :=
  CtrW_of hG RL rfl (by decide) rfl (fun X hX1 hX hT => by
    subst hX1
    show JQ X _ _ 0 0 0 [(0, .ref 1), (1, .int x1), (2, .ref 50)] [] h
    refine Q_aload_n hX 2 dL_held_0 rfl rfl ?_
    refine Q_iconst hX 0 dL_held_1 rfl ?_
    refine Q_aload_n hX 0 dL_held_2 rfl rfl ?_
    refine Q_iload_n hX 1 dL_held_3 rfl rfl ?_
    have hc := C_X11_held (okGQ hX) hf
    rw [oX_er] at hc
    refine Q_Vx hX [.int x1] dL_held_4 cw_L_held ob_1 rfl hc (by decide) (by decide) rfl rfl rfl rfl ⟨Nat.le_refl _, Nat.le_refl _⟩ ?_
    refine Q_catch hX hT (name := "java/lang/IndexOutOfBoundsException") [] [] (0, 9, 12, 24) [(0, .ref 1), (1, .int x1), (2, .ref 50)] rfl (fun z hz => by cases hz) (by decide) (by decide) (tbk tin_5 16 rfl rfl) cast_2 (Or.inr ⟨3, rfl, dL_held_12, rfl⟩) rfl rfl ?_
    refine Q_iconst hX 1 dL_held_13 rfl ?_
    exact Q_iret hX dL_held_14 (Nat.le_refl _) (Nat.le_refl _))
theorem dL_apart_0 : decode cL_apart 0 = .ok (.aload_n 2, 1) := by decide +kernel
theorem dL_apart_1 : decode cL_apart 1 = .ok (.iconst 0, 1) := by decide +kernel
theorem dL_apart_2 : decode cL_apart 2 = .ok (.aload_n 0, 1) := by decide +kernel
theorem dL_apart_3 : decode cL_apart 3 = .ok (.iload_n 1, 1) := by decide +kernel
theorem dL_apart_4 : decode cL_apart 4 = .ok (.invokevirtual 96, 3) := by decide +kernel
theorem dL_apart_7 : decode cL_apart 7 = .ok (.i2l, 1) := by decide +kernel
theorem dL_apart_8 : decode cL_apart 8 = .ok (.lastore, 1) := by decide +kernel
theorem dL_apart_9 : decode cL_apart 9 = .ok (.goto 6, 3) := by decide +kernel
theorem dL_apart_12 : decode cL_apart 12 = .ok (.astore_n 3, 1) := by decide +kernel
theorem dL_apart_13 : decode cL_apart 13 = .ok (.iconst 1, 1) := by decide +kernel
theorem dL_apart_14 : decode cL_apart 14 = .ok (.ireturn, 1) := by decide +kernel
theorem dL_apart_15 : decode cL_apart 15 = .ok (.iconst 0, 1) := by decide +kernel
theorem dL_apart_16 : decode cL_apart 16 = .ok (.ireturn, 1) := by decide +kernel
theorem cw_L_apart : CWv RL 96 yX11_apart cX11_apart 7 (some .int) 1 := ⟨⟨(tbk tin_6 109 rfl rfl), (tbk tin_1 1 rfl rfl), (tbk tin_6 112 rfl rfl), by decide +kernel, by decide +kernel, by decide +kernel⟩, (tbk tin_6 110 rfl rfl), (tbk tin_6 111 rfl rfl)⟩
set_option maxRecDepth 100000 in
set_option maxHeartbeats 100000 in
theorem CW_apart_ok {G : GX} (hG : GOk G) {x1 : Int32} {h h1 : Hp} {v : Int32} (hf : f_X11_apart x1 h = some (Except.ok v, h1)) : CtrW G 12 yL_apart cL_apart 4 [(0, 9, 12, 24)] [.ref 1, .int x1, .ref 50] h 0 (up1 h1 50 0 v) 0 :=
  CtrW_of hG RL rfl (by decide) rfl (fun X hX1 hX hT => by
    subst hX1
    show JQ X _ _ 0 0 0 [(0, .ref 1), (1, .int x1), (2, .ref 50)] [] h
    refine Q_aload_n hX 2 dL_apart_0 rfl rfl ?_
    refine Q_iconst hX 0 dL_apart_1 rfl ?_
    refine Q_aload_n hX 0 dL_apart_2 rfl rfl ?_
    refine Q_iload_n hX 1 dL_apart_3 rfl rfl ?_
    have hc := C_X11_apart (okGQ hX) hf
    rw [oX_ok] at hc
    refine Q_V1 hX [.int x1] dL_apart_4 cw_L_apart ob_1 rfl hc (by decide) (by decide) rfl rfl rfl rfl ⟨Nat.le_refl _, Nat.le_refl _⟩ ?_
    refine Q_i2l hX dL_apart_7 ?_
    refine Q_last hX dL_apart_8 ar_50 (by decide) ?_
    refine Q_goto hX 15 dL_apart_9 rfl ?_
    refine Q_iconst hX 0 dL_apart_15 rfl ?_
    exact Q_iret hX dL_apart_16 (Nat.le_refl _) (Nat.le_refl _))
set_option maxRecDepth 100000 in
set_option maxHeartbeats 100000 in
theorem CW_apart_e1 {G : GX} (hG : GOk G) {x1 : Int32} {h h1 : Hp} (hf : f_X11_apart x1 h = some (Except.error "java/lang/IndexOutOfBoundsException", h1)) : CtrW G 12 yL_apart cL_apart 4 [(0, 9, 12, 24)] [.ref 1, .int x1, .ref 50] h 1 h1 1 :=
  CtrW_of hG RL rfl (by decide) rfl (fun X hX1 hX hT => by
    subst hX1
    show JQ X _ _ 0 0 0 [(0, .ref 1), (1, .int x1), (2, .ref 50)] [] h
    refine Q_aload_n hX 2 dL_apart_0 rfl rfl ?_
    refine Q_iconst hX 0 dL_apart_1 rfl ?_
    refine Q_aload_n hX 0 dL_apart_2 rfl rfl ?_
    refine Q_iload_n hX 1 dL_apart_3 rfl rfl ?_
    have hc := C_X11_apart (okGQ hX) hf
    rw [oX_er] at hc
    refine Q_Vx hX [.int x1] dL_apart_4 cw_L_apart ob_1 rfl hc (by decide) (by decide) rfl rfl rfl rfl ⟨Nat.le_refl _, Nat.le_refl _⟩ ?_
    refine Q_catch hX hT (name := "java/lang/IndexOutOfBoundsException") [] [] (0, 9, 12, 24) [(0, .ref 1), (1, .int x1), (2, .ref 50)] rfl (fun z hz => by cases hz) (by decide) (by decide) (tbk tin_5 16 rfl rfl) cast_2 (Or.inr ⟨3, rfl, dL_apart_12, rfl⟩) rfl rfl ?_
    refine Q_iconst hX 1 dL_apart_13 rfl ?_
    exact Q_iret hX dL_apart_14 (Nat.le_refl _) (Nat.le_refl _))
theorem dL_gates_0 : decode cL_gates 0 = .ok (.aload_n 2, 1) := by decide +kernel
theorem dL_gates_1 : decode cL_gates 1 = .ok (.iconst 0, 1) := by decide +kernel
theorem dL_gates_2 : decode cL_gates 2 = .ok (.aload_n 0, 1) := by decide +kernel
theorem dL_gates_3 : decode cL_gates 3 = .ok (.iload_n 1, 1) := by decide +kernel
theorem dL_gates_4 : decode cL_gates 4 = .ok (.invokevirtual 99, 3) := by decide +kernel
theorem dL_gates_7 : decode cL_gates 7 = .ok (.i2l, 1) := by decide +kernel
theorem dL_gates_8 : decode cL_gates 8 = .ok (.lastore, 1) := by decide +kernel
theorem dL_gates_9 : decode cL_gates 9 = .ok (.goto 6, 3) := by decide +kernel
theorem dL_gates_12 : decode cL_gates 12 = .ok (.astore_n 3, 1) := by decide +kernel
theorem dL_gates_13 : decode cL_gates 13 = .ok (.iconst 1, 1) := by decide +kernel
theorem dL_gates_14 : decode cL_gates 14 = .ok (.ireturn, 1) := by decide +kernel
theorem dL_gates_15 : decode cL_gates 15 = .ok (.iconst 0, 1) := by decide +kernel
theorem dL_gates_16 : decode cL_gates 16 = .ok (.ireturn, 1) := by decide +kernel
theorem cw_L_gates : CWv RL 99 yX11_gates cX11_gates 3 (some .int) 1 := ⟨⟨(tbk tin_6 119 rfl rfl), (tbk tin_1 1 rfl rfl), (tbk tin_6 122 rfl rfl), by decide +kernel, by decide +kernel, by decide +kernel⟩, (tbk tin_6 120 rfl rfl), (tbk tin_6 121 rfl rfl)⟩
set_option maxRecDepth 100000 in
set_option maxHeartbeats 100000 in
theorem CW_gates_ok {G : GX} (hG : GOk G) {x1 : Int32} {h h1 : Hp} {v : Int32} (hf : f_X11_gates x1 h = some (Except.ok v, h1)) : CtrW G 12 yL_gates cL_gates 4 [(0, 9, 12, 24)] [.ref 1, .int x1, .ref 50] h 0 (up1 h1 50 0 v) 0 :=
  CtrW_of hG RL rfl (by decide) rfl (fun X hX1 hX hT => by
    subst hX1
    show JQ X _ _ 0 0 0 [(0, .ref 1), (1, .int x1), (2, .ref 50)] [] h
    refine Q_aload_n hX 2 dL_gates_0 rfl rfl ?_
    refine Q_iconst hX 0 dL_gates_1 rfl ?_
    refine Q_aload_n hX 0 dL_gates_2 rfl rfl ?_
    refine Q_iload_n hX 1 dL_gates_3 rfl rfl ?_
    have hc := C_X11_gates (okGQ hX) hf
    rw [oX_ok] at hc
    refine Q_V1 hX [.int x1] dL_gates_4 cw_L_gates ob_1 rfl hc (by decide) (by decide) rfl rfl rfl rfl ⟨Nat.le_refl _, Nat.le_refl _⟩ ?_
    refine Q_i2l hX dL_gates_7 ?_
    refine Q_last hX dL_gates_8 ar_50 (by decide) ?_
    refine Q_goto hX 15 dL_gates_9 rfl ?_
    refine Q_iconst hX 0 dL_gates_15 rfl ?_
    exact Q_iret hX dL_gates_16 (Nat.le_refl _) (Nat.le_refl _))
set_option maxRecDepth 100000 in
set_option maxHeartbeats 100000 in
theorem CW_gates_e1 {G : GX} (hG : GOk G) {x1 : Int32} {h h1 : Hp} (hf : f_X11_gates x1 h = some (Except.error "java/lang/IndexOutOfBoundsException", h1)) : CtrW G 12 yL_gates cL_gates 4 [(0, 9, 12, 24)] [.ref 1, .int x1, .ref 50] h 1 h1 1 :=
  CtrW_of hG RL rfl (by decide) rfl (fun X hX1 hX hT => by
    subst hX1
    show JQ X _ _ 0 0 0 [(0, .ref 1), (1, .int x1), (2, .ref 50)] [] h
    refine Q_aload_n hX 2 dL_gates_0 rfl rfl ?_
    refine Q_iconst hX 0 dL_gates_1 rfl ?_
    refine Q_aload_n hX 0 dL_gates_2 rfl rfl ?_
    refine Q_iload_n hX 1 dL_gates_3 rfl rfl ?_
    have hc := C_X11_gates (okGQ hX) hf
    rw [oX_er] at hc
    refine Q_Vx hX [.int x1] dL_gates_4 cw_L_gates ob_1 rfl hc (by decide) (by decide) rfl rfl rfl rfl ⟨Nat.le_refl _, Nat.le_refl _⟩ ?_
    refine Q_catch hX hT (name := "java/lang/IndexOutOfBoundsException") [] [] (0, 9, 12, 24) [(0, .ref 1), (1, .int x1), (2, .ref 50)] rfl (fun z hz => by cases hz) (by decide) (by decide) (tbk tin_5 16 rfl rfl) cast_2 (Or.inr ⟨3, rfl, dL_gates_12, rfl⟩) rfl rfl ?_
    refine Q_iconst hX 1 dL_gates_13 rfl ?_
    exact Q_iret hX dL_gates_14 (Nat.le_refl _) (Nat.le_refl _))
theorem dL_swap_0 : decode cL_swap 0 = .ok (.aload_n 3, 1) := by decide +kernel
theorem dL_swap_1 : decode cL_swap 1 = .ok (.iconst 0, 1) := by decide +kernel
theorem dL_swap_2 : decode cL_swap 2 = .ok (.aload_n 0, 1) := by decide +kernel
theorem dL_swap_3 : decode cL_swap 3 = .ok (.iload_n 1, 1) := by decide +kernel
theorem dL_swap_4 : decode cL_swap 4 = .ok (.iload_n 2, 1) := by decide +kernel
theorem dL_swap_5 : decode cL_swap 5 = .ok (.invokevirtual 102, 3) := by decide +kernel
theorem dL_swap_8 : decode cL_swap 8 = .ok (.ifCond .eq 7, 3) := by decide +kernel
theorem dL_swap_11 : decode cL_swap 11 = .ok (.lconst 1, 1) := by decide +kernel
theorem dL_swap_12 : decode cL_swap 12 = .ok (.goto 4, 3) := by decide +kernel
theorem dL_swap_15 : decode cL_swap 15 = .ok (.lconst 0, 1) := by decide +kernel
theorem dL_swap_16 : decode cL_swap 16 = .ok (.lastore, 1) := by decide +kernel
theorem dL_swap_17 : decode cL_swap 17 = .ok (.goto 11, 3) := by decide +kernel
theorem dL_swap_20 : decode cL_swap 20 = .ok (.astore 4, 2) := by decide +kernel
theorem dL_swap_22 : decode cL_swap 22 = .ok (.iconst 1, 1) := by decide +kernel
theorem dL_swap_23 : decode cL_swap 23 = .ok (.ireturn, 1) := by decide +kernel
theorem dL_swap_24 : decode cL_swap 24 = .ok (.astore 4, 2) := by decide +kernel
theorem dL_swap_26 : decode cL_swap 26 = .ok (.iconst 2, 1) := by decide +kernel
theorem dL_swap_27 : decode cL_swap 27 = .ok (.ireturn, 1) := by decide +kernel
theorem dL_swap_28 : decode cL_swap 28 = .ok (.iconst 0, 1) := by decide +kernel
theorem dL_swap_29 : decode cL_swap 29 = .ok (.ireturn, 1) := by decide +kernel
theorem cw_L_swap : CWv RL 102 yX11_swap cX11_swap 4 (some .boolean) 2 := ⟨⟨(tbk tin_6 159 rfl rfl), (tbk tin_1 1 rfl rfl), (tbk tin_6 162 rfl rfl), by decide +kernel, by decide +kernel, by decide +kernel⟩, (tbk tin_6 160 rfl rfl), (tbk tin_6 161 rfl rfl)⟩
set_option maxRecDepth 100000 in
set_option maxHeartbeats 100000 in
theorem CW_swap_ok {G : GX} (hG : GOk G) {x1 : Int32} {x2 : Int32} {h h1 : Hp} {v : Bool} (hf : f_X11_swap x1 x2 h = some (Except.ok v, h1)) : CtrW G 13 yL_swap cL_swap 5 [(0, 17, 20, 24), (0, 17, 24, 13)] [.ref 1, .int x1, .int x2, .ref 50] h 0 (up1 h1 50 0 (b2i v)) 0 :=
  CtrW_of hG RL rfl (by decide) rfl (fun X hX1 hX hT => by
    subst hX1
    show JQ X _ _ 0 0 0 [(0, .ref 1), (1, .int x1), (2, .int x2), (3, .ref 50)] [] h
    refine Q_aload_n hX 3 dL_swap_0 rfl rfl ?_
    refine Q_iconst hX 0 dL_swap_1 rfl ?_
    refine Q_aload_n hX 0 dL_swap_2 rfl rfl ?_
    refine Q_iload_n hX 1 dL_swap_3 rfl rfl ?_
    refine Q_iload_n hX 2 dL_swap_4 rfl rfl ?_
    have hc := C_X11_swap (okGQ hX) hf
    rw [oX_ok] at hc
    refine Q_V1 hX [.int x1, .int x2] dL_swap_5 cw_L_swap ob_1 rfl hc (by decide) (by decide) rfl rfl rfl rfl ⟨Nat.le_refl _, Nat.le_refl _⟩ ?_
    cases v
    · refine Q_if_eqT hX 15 dL_swap_8 rfl rfl ?_
      refine Q_lconst hX 0 dL_swap_15 rfl ?_
      refine Q_nmL (show (0 : Int64) = (b2i false).toInt64 by decide) ?_
      refine Q_last hX dL_swap_16 ar_50 (by decide) ?_
      refine Q_goto hX 28 dL_swap_17 rfl ?_
      refine Q_iconst hX 0 dL_swap_28 rfl ?_
      exact Q_iret hX dL_swap_29 (Nat.le_refl _) (Nat.le_refl _)
    · refine Q_if_eqF hX 15 dL_swap_8 rfl (by decide) ?_
      refine Q_lconst hX 1 dL_swap_11 rfl ?_
      refine Q_nmL (show (1 : Int64) = (b2i true).toInt64 by decide) ?_
      refine Q_goto hX 16 dL_swap_12 rfl ?_
      refine Q_last hX dL_swap_16 ar_50 (by decide) ?_
      refine Q_goto hX 28 dL_swap_17 rfl ?_
      refine Q_iconst hX 0 dL_swap_28 rfl ?_
      exact Q_iret hX dL_swap_29 (Nat.le_refl _) (Nat.le_refl _))
set_option maxRecDepth 100000 in
set_option maxHeartbeats 100000 in
theorem CW_swap_e1 {G : GX} (hG : GOk G) {x1 : Int32} {x2 : Int32} {h h1 : Hp} (hf : f_X11_swap x1 x2 h = some (Except.error "java/lang/IndexOutOfBoundsException", h1)) : CtrW G 13 yL_swap cL_swap 5 [(0, 17, 20, 24), (0, 17, 24, 13)] [.ref 1, .int x1, .int x2, .ref 50] h 1 h1 1 :=
  CtrW_of hG RL rfl (by decide) rfl (fun X hX1 hX hT => by
    subst hX1
    show JQ X _ _ 0 0 0 [(0, .ref 1), (1, .int x1), (2, .int x2), (3, .ref 50)] [] h
    refine Q_aload_n hX 3 dL_swap_0 rfl rfl ?_
    refine Q_iconst hX 0 dL_swap_1 rfl ?_
    refine Q_aload_n hX 0 dL_swap_2 rfl rfl ?_
    refine Q_iload_n hX 1 dL_swap_3 rfl rfl ?_
    refine Q_iload_n hX 2 dL_swap_4 rfl rfl ?_
    have hc := C_X11_swap (okGQ hX) hf
    rw [oX_er] at hc
    refine Q_Vx hX [.int x1, .int x2] dL_swap_5 cw_L_swap ob_1 rfl hc (by decide) (by decide) rfl rfl rfl rfl ⟨Nat.le_refl _, Nat.le_refl _⟩ ?_
    refine Q_catch hX hT (name := "java/lang/IndexOutOfBoundsException") [] [(0, 17, 24, 13)] (0, 17, 20, 24) [(0, .ref 1), (1, .int x1), (2, .int x2), (3, .ref 50)] rfl (fun z hz => by cases hz) (by decide) (by decide) (tbk tin_5 16 rfl rfl) cast_2 (Or.inl ⟨dL_swap_20, rfl⟩) rfl rfl ?_
    refine Q_iconst hX 1 dL_swap_22 rfl ?_
    exact Q_iret hX dL_swap_23 (Nat.le_refl _) (Nat.le_refl _))
set_option maxRecDepth 100000 in
set_option maxHeartbeats 100000 in
theorem CW_swap_e2 {G : GX} (hG : GOk G) {x1 : Int32} {x2 : Int32} {h h1 : Hp} (hf : f_X11_swap x1 x2 h = some (Except.error "java/lang/IllegalArgumentException", h1)) : CtrW G 13 yL_swap cL_swap 5 [(0, 17, 20, 24), (0, 17, 24, 13)] [.ref 1, .int x1, .int x2, .ref 50] h 2 h1 1 :=
  CtrW_of hG RL rfl (by decide) rfl (fun X hX1 hX hT => by
    subst hX1
    show JQ X _ _ 0 0 0 [(0, .ref 1), (1, .int x1), (2, .int x2), (3, .ref 50)] [] h
    refine Q_aload_n hX 3 dL_swap_0 rfl rfl ?_
    refine Q_iconst hX 0 dL_swap_1 rfl ?_
    refine Q_aload_n hX 0 dL_swap_2 rfl rfl ?_
    refine Q_iload_n hX 1 dL_swap_3 rfl rfl ?_
    refine Q_iload_n hX 2 dL_swap_4 rfl rfl ?_
    have hc := C_X11_swap (okGQ hX) hf
    rw [oX_er] at hc
    refine Q_Vx hX [.int x1, .int x2] dL_swap_5 cw_L_swap ob_1 rfl hc (by decide) (by decide) rfl rfl rfl rfl ⟨Nat.le_refl _, Nat.le_refl _⟩ ?_
    refine Q_catch hX hT (name := "java/lang/IllegalArgumentException") [(0, 17, 20, 24)] [] (0, 17, 24, 13) [(0, .ref 1), (1, .int x1), (2, .int x2), (3, .ref 50)] rfl (fun z hz => by
        simp only [List.mem_cons, List.not_mem_nil, or_false] at hz
        rcases hz with rfl <;> first | exact ⟨by decide, "java/lang/IndexOutOfBoundsException", (tbk tin_5 16 rfl rfl), by decide⟩) (by decide) (by decide) (tbk tin_3 199 rfl rfl) cast_0 (Or.inl ⟨dL_swap_24, rfl⟩) rfl rfl ?_
    refine Q_iconst hX 2 dL_swap_26 rfl ?_
    exact Q_iret hX dL_swap_27 (Nat.le_refl _) (Nat.le_refl _))
theorem dL_rests_0 : decode cL_rests 0 = .ok (.aload_n 3, 1) := by decide +kernel
theorem dL_rests_1 : decode cL_rests 1 = .ok (.iconst 0, 1) := by decide +kernel
theorem dL_rests_2 : decode cL_rests 2 = .ok (.aload_n 0, 1) := by decide +kernel
theorem dL_rests_3 : decode cL_rests 3 = .ok (.iload_n 1, 1) := by decide +kernel
theorem dL_rests_4 : decode cL_rests 4 = .ok (.iload_n 2, 1) := by decide +kernel
theorem dL_rests_5 : decode cL_rests 5 = .ok (.invokevirtual 106, 3) := by decide +kernel
theorem dL_rests_8 : decode cL_rests 8 = .ok (.i2l, 1) := by decide +kernel
theorem dL_rests_9 : decode cL_rests 9 = .ok (.lastore, 1) := by decide +kernel
theorem dL_rests_10 : decode cL_rests 10 = .ok (.goto 11, 3) := by decide +kernel
theorem dL_rests_13 : decode cL_rests 13 = .ok (.astore 4, 2) := by decide +kernel
theorem dL_rests_15 : decode cL_rests 15 = .ok (.iconst 1, 1) := by decide +kernel
theorem dL_rests_16 : decode cL_rests 16 = .ok (.ireturn, 1) := by decide +kernel
theorem dL_rests_17 : decode cL_rests 17 = .ok (.astore 4, 2) := by decide +kernel
theorem dL_rests_19 : decode cL_rests 19 = .ok (.iconst 2, 1) := by decide +kernel
theorem dL_rests_20 : decode cL_rests 20 = .ok (.ireturn, 1) := by decide +kernel
theorem dL_rests_21 : decode cL_rests 21 = .ok (.iconst 0, 1) := by decide +kernel
theorem dL_rests_22 : decode cL_rests 22 = .ok (.ireturn, 1) := by decide +kernel
theorem cw_L_rests : CWv RL 106 yX11_rests cX11_rests 7 (some .int) 2 := ⟨⟨(tbk tin_6 170 rfl rfl), (tbk tin_1 1 rfl rfl), (tbk tin_6 173 rfl rfl), by decide +kernel, by decide +kernel, by decide +kernel⟩, (tbk tin_6 171 rfl rfl), (tbk tin_6 172 rfl rfl)⟩
set_option maxRecDepth 100000 in
set_option maxHeartbeats 100000 in
theorem CW_rests_ok {G : GX} (hG : GOk G) {x1 : Int32} {x2 : Int32} {h h1 : Hp} {v : Int32} (hf : f_X11_rests x1 x2 h = some (Except.ok v, h1)) : CtrW G 13 yL_rests cL_rests 5 [(0, 10, 13, 24), (0, 10, 17, 13)] [.ref 1, .int x1, .int x2, .ref 50] h 0 (up1 h1 50 0 v) 0 :=
  CtrW_of hG RL rfl (by decide) rfl (fun X hX1 hX hT => by
    subst hX1
    show JQ X _ _ 0 0 0 [(0, .ref 1), (1, .int x1), (2, .int x2), (3, .ref 50)] [] h
    refine Q_aload_n hX 3 dL_rests_0 rfl rfl ?_
    refine Q_iconst hX 0 dL_rests_1 rfl ?_
    refine Q_aload_n hX 0 dL_rests_2 rfl rfl ?_
    refine Q_iload_n hX 1 dL_rests_3 rfl rfl ?_
    refine Q_iload_n hX 2 dL_rests_4 rfl rfl ?_
    have hc := C_X11_rests (okGQ hX) hf
    rw [oX_ok] at hc
    refine Q_V1 hX [.int x1, .int x2] dL_rests_5 cw_L_rests ob_1 rfl hc (by decide) (by decide) rfl rfl rfl rfl ⟨Nat.le_refl _, Nat.le_refl _⟩ ?_
    refine Q_i2l hX dL_rests_8 ?_
    refine Q_last hX dL_rests_9 ar_50 (by decide) ?_
    refine Q_goto hX 21 dL_rests_10 rfl ?_
    refine Q_iconst hX 0 dL_rests_21 rfl ?_
    exact Q_iret hX dL_rests_22 (Nat.le_refl _) (Nat.le_refl _))
set_option maxRecDepth 100000 in
set_option maxHeartbeats 100000 in
theorem CW_rests_e1 {G : GX} (hG : GOk G) {x1 : Int32} {x2 : Int32} {h h1 : Hp} (hf : f_X11_rests x1 x2 h = some (Except.error "java/lang/IndexOutOfBoundsException", h1)) : CtrW G 13 yL_rests cL_rests 5 [(0, 10, 13, 24), (0, 10, 17, 13)] [.ref 1, .int x1, .int x2, .ref 50] h 1 h1 1 :=
  CtrW_of hG RL rfl (by decide) rfl (fun X hX1 hX hT => by
    subst hX1
    show JQ X _ _ 0 0 0 [(0, .ref 1), (1, .int x1), (2, .int x2), (3, .ref 50)] [] h
    refine Q_aload_n hX 3 dL_rests_0 rfl rfl ?_
    refine Q_iconst hX 0 dL_rests_1 rfl ?_
    refine Q_aload_n hX 0 dL_rests_2 rfl rfl ?_
    refine Q_iload_n hX 1 dL_rests_3 rfl rfl ?_
    refine Q_iload_n hX 2 dL_rests_4 rfl rfl ?_
    have hc := C_X11_rests (okGQ hX) hf
    rw [oX_er] at hc
    refine Q_Vx hX [.int x1, .int x2] dL_rests_5 cw_L_rests ob_1 rfl hc (by decide) (by decide) rfl rfl rfl rfl ⟨Nat.le_refl _, Nat.le_refl _⟩ ?_
    refine Q_catch hX hT (name := "java/lang/IndexOutOfBoundsException") [] [(0, 10, 17, 13)] (0, 10, 13, 24) [(0, .ref 1), (1, .int x1), (2, .int x2), (3, .ref 50)] rfl (fun z hz => by cases hz) (by decide) (by decide) (tbk tin_5 16 rfl rfl) cast_2 (Or.inl ⟨dL_rests_13, rfl⟩) rfl rfl ?_
    refine Q_iconst hX 1 dL_rests_15 rfl ?_
    exact Q_iret hX dL_rests_16 (Nat.le_refl _) (Nat.le_refl _))
set_option maxRecDepth 100000 in
set_option maxHeartbeats 100000 in
theorem CW_rests_e2 {G : GX} (hG : GOk G) {x1 : Int32} {x2 : Int32} {h h1 : Hp} (hf : f_X11_rests x1 x2 h = some (Except.error "java/lang/IllegalArgumentException", h1)) : CtrW G 13 yL_rests cL_rests 5 [(0, 10, 13, 24), (0, 10, 17, 13)] [.ref 1, .int x1, .int x2, .ref 50] h 2 h1 1 :=
  CtrW_of hG RL rfl (by decide) rfl (fun X hX1 hX hT => by
    subst hX1
    show JQ X _ _ 0 0 0 [(0, .ref 1), (1, .int x1), (2, .int x2), (3, .ref 50)] [] h
    refine Q_aload_n hX 3 dL_rests_0 rfl rfl ?_
    refine Q_iconst hX 0 dL_rests_1 rfl ?_
    refine Q_aload_n hX 0 dL_rests_2 rfl rfl ?_
    refine Q_iload_n hX 1 dL_rests_3 rfl rfl ?_
    refine Q_iload_n hX 2 dL_rests_4 rfl rfl ?_
    have hc := C_X11_rests (okGQ hX) hf
    rw [oX_er] at hc
    refine Q_Vx hX [.int x1, .int x2] dL_rests_5 cw_L_rests ob_1 rfl hc (by decide) (by decide) rfl rfl rfl rfl ⟨Nat.le_refl _, Nat.le_refl _⟩ ?_
    refine Q_catch hX hT (name := "java/lang/IllegalArgumentException") [(0, 10, 13, 24)] [] (0, 10, 17, 13) [(0, .ref 1), (1, .int x1), (2, .int x2), (3, .ref 50)] rfl (fun z hz => by
        simp only [List.mem_cons, List.not_mem_nil, or_false] at hz
        rcases hz with rfl <;> first | exact ⟨by decide, "java/lang/IndexOutOfBoundsException", (tbk tin_5 16 rfl rfl), by decide⟩) (by decide) (by decide) (tbk tin_3 199 rfl rfl) cast_0 (Or.inl ⟨dL_rests_17, rfl⟩) rfl rfl ?_
    refine Q_iconst hX 2 dL_rests_19 rfl ?_
    exact Q_iret hX dL_rests_20 (Nat.le_refl _) (Nat.le_refl _))
theorem dL_odds_0 : decode cL_odds 0 = .ok (.aload_n 2, 1) := by decide +kernel
theorem dL_odds_1 : decode cL_odds 1 = .ok (.iconst 0, 1) := by decide +kernel
theorem dL_odds_2 : decode cL_odds 2 = .ok (.aload_n 0, 1) := by decide +kernel
theorem dL_odds_3 : decode cL_odds 3 = .ok (.iload_n 1, 1) := by decide +kernel
theorem dL_odds_4 : decode cL_odds 4 = .ok (.invokevirtual 109, 3) := by decide +kernel
theorem dL_odds_7 : decode cL_odds 7 = .ok (.i2l, 1) := by decide +kernel
theorem dL_odds_8 : decode cL_odds 8 = .ok (.lastore, 1) := by decide +kernel
theorem dL_odds_9 : decode cL_odds 9 = .ok (.goto 6, 3) := by decide +kernel
theorem dL_odds_12 : decode cL_odds 12 = .ok (.astore_n 3, 1) := by decide +kernel
theorem dL_odds_13 : decode cL_odds 13 = .ok (.iconst 1, 1) := by decide +kernel
theorem dL_odds_14 : decode cL_odds 14 = .ok (.ireturn, 1) := by decide +kernel
theorem dL_odds_15 : decode cL_odds 15 = .ok (.iconst 0, 1) := by decide +kernel
theorem dL_odds_16 : decode cL_odds 16 = .ok (.ireturn, 1) := by decide +kernel
theorem cw_L_odds : CWv RL 109 yX11_odds cX11_odds 5 (some .int) 1 := ⟨⟨(tbk tin_6 181 rfl rfl), (tbk tin_1 1 rfl rfl), (tbk tin_6 184 rfl rfl), by decide +kernel, by decide +kernel, by decide +kernel⟩, (tbk tin_6 182 rfl rfl), (tbk tin_6 183 rfl rfl)⟩
set_option maxRecDepth 100000 in
set_option maxHeartbeats 100000 in
theorem CW_odds_ok {G : GX} (hG : GOk G) {x1 : Int32} {h h1 : Hp} {v : Int32} (hf : f_X11_odds x1 h = some (Except.ok v, h1)) : CtrW G 12 yL_odds cL_odds 4 [(0, 9, 12, 13)] [.ref 1, .int x1, .ref 50] h 0 (up1 h1 50 0 v) 0 :=
  CtrW_of hG RL rfl (by decide) rfl (fun X hX1 hX hT => by
    subst hX1
    show JQ X _ _ 0 0 0 [(0, .ref 1), (1, .int x1), (2, .ref 50)] [] h
    refine Q_aload_n hX 2 dL_odds_0 rfl rfl ?_
    refine Q_iconst hX 0 dL_odds_1 rfl ?_
    refine Q_aload_n hX 0 dL_odds_2 rfl rfl ?_
    refine Q_iload_n hX 1 dL_odds_3 rfl rfl ?_
    have hc := C_X11_odds (okGQ hX) hf
    rw [oX_ok] at hc
    refine Q_V1 hX [.int x1] dL_odds_4 cw_L_odds ob_1 rfl hc (by decide) (by decide) rfl rfl rfl rfl ⟨Nat.le_refl _, Nat.le_refl _⟩ ?_
    refine Q_i2l hX dL_odds_7 ?_
    refine Q_last hX dL_odds_8 ar_50 (by decide) ?_
    refine Q_goto hX 15 dL_odds_9 rfl ?_
    refine Q_iconst hX 0 dL_odds_15 rfl ?_
    exact Q_iret hX dL_odds_16 (Nat.le_refl _) (Nat.le_refl _))
set_option maxRecDepth 100000 in
set_option maxHeartbeats 100000 in
theorem CW_odds_e1 {G : GX} (hG : GOk G) {x1 : Int32} {h h1 : Hp} (hf : f_X11_odds x1 h = some (Except.error "java/lang/IllegalArgumentException", h1)) : CtrW G 12 yL_odds cL_odds 4 [(0, 9, 12, 13)] [.ref 1, .int x1, .ref 50] h 1 h1 1 :=
  CtrW_of hG RL rfl (by decide) rfl (fun X hX1 hX hT => by
    subst hX1
    show JQ X _ _ 0 0 0 [(0, .ref 1), (1, .int x1), (2, .ref 50)] [] h
    refine Q_aload_n hX 2 dL_odds_0 rfl rfl ?_
    refine Q_iconst hX 0 dL_odds_1 rfl ?_
    refine Q_aload_n hX 0 dL_odds_2 rfl rfl ?_
    refine Q_iload_n hX 1 dL_odds_3 rfl rfl ?_
    have hc := C_X11_odds (okGQ hX) hf
    rw [oX_er] at hc
    refine Q_Vx hX [.int x1] dL_odds_4 cw_L_odds ob_1 rfl hc (by decide) (by decide) rfl rfl rfl rfl ⟨Nat.le_refl _, Nat.le_refl _⟩ ?_
    refine Q_catch hX hT (name := "java/lang/IllegalArgumentException") [] [] (0, 9, 12, 13) [(0, .ref 1), (1, .int x1), (2, .ref 50)] rfl (fun z hz => by cases hz) (by decide) (by decide) (tbk tin_3 199 rfl rfl) cast_0 (Or.inr ⟨3, rfl, dL_odds_12, rfl⟩) rfl rfl ?_
    refine Q_iconst hX 1 dL_odds_13 rfl ?_
    exact Q_iret hX dL_odds_14 (Nat.le_refl _) (Nat.le_refl _))
theorem dL_there_0 : decode cL_there 0 = .ok (.aload_n 2, 1) := by decide +kernel
theorem dL_there_1 : decode cL_there 1 = .ok (.iconst 0, 1) := by decide +kernel
theorem dL_there_2 : decode cL_there 2 = .ok (.aload_n 0, 1) := by decide +kernel
theorem dL_there_3 : decode cL_there 3 = .ok (.iload_n 1, 1) := by decide +kernel
theorem dL_there_4 : decode cL_there 4 = .ok (.invokevirtual 112, 3) := by decide +kernel
theorem dL_there_7 : decode cL_there 7 = .ok (.i2l, 1) := by decide +kernel
theorem dL_there_8 : decode cL_there 8 = .ok (.lastore, 1) := by decide +kernel
theorem dL_there_9 : decode cL_there 9 = .ok (.goto 6, 3) := by decide +kernel
theorem dL_there_12 : decode cL_there 12 = .ok (.astore_n 3, 1) := by decide +kernel
theorem dL_there_13 : decode cL_there 13 = .ok (.iconst 1, 1) := by decide +kernel
theorem dL_there_14 : decode cL_there 14 = .ok (.ireturn, 1) := by decide +kernel
theorem dL_there_15 : decode cL_there 15 = .ok (.iconst 0, 1) := by decide +kernel
theorem dL_there_16 : decode cL_there 16 = .ok (.ireturn, 1) := by decide +kernel
theorem cw_L_there : CWv RL 112 yX11_there cX11_there 4 (some .int) 1 := ⟨⟨(tbk tin_6 188 rfl rfl), (tbk tin_1 1 rfl rfl), (tbk tin_6 191 rfl rfl), by decide +kernel, by decide +kernel, by decide +kernel⟩, (tbk tin_6 189 rfl rfl), (tbk tin_6 190 rfl rfl)⟩
set_option maxRecDepth 100000 in
set_option maxHeartbeats 100000 in
theorem CW_there_ok {G : GX} (hG : GOk G) {x1 : Int32} {h h1 : Hp} {v : Int32} (hf : f_X11_there x1 h = some (Except.ok v, h1)) : CtrW G 12 yL_there cL_there 4 [(0, 9, 12, 24)] [.ref 1, .int x1, .ref 50] h 0 (up1 h1 50 0 v) 0 :=
  CtrW_of hG RL rfl (by decide) rfl (fun X hX1 hX hT => by
    subst hX1
    show JQ X _ _ 0 0 0 [(0, .ref 1), (1, .int x1), (2, .ref 50)] [] h
    refine Q_aload_n hX 2 dL_there_0 rfl rfl ?_
    refine Q_iconst hX 0 dL_there_1 rfl ?_
    refine Q_aload_n hX 0 dL_there_2 rfl rfl ?_
    refine Q_iload_n hX 1 dL_there_3 rfl rfl ?_
    have hc := C_X11_there (okGQ hX) hf
    rw [oX_ok] at hc
    refine Q_V1 hX [.int x1] dL_there_4 cw_L_there ob_1 rfl hc (by decide) (by decide) rfl rfl rfl rfl ⟨Nat.le_refl _, Nat.le_refl _⟩ ?_
    refine Q_i2l hX dL_there_7 ?_
    refine Q_last hX dL_there_8 ar_50 (by decide) ?_
    refine Q_goto hX 15 dL_there_9 rfl ?_
    refine Q_iconst hX 0 dL_there_15 rfl ?_
    exact Q_iret hX dL_there_16 (Nat.le_refl _) (Nat.le_refl _))
set_option maxRecDepth 100000 in
set_option maxHeartbeats 100000 in
theorem CW_there_e1 {G : GX} (hG : GOk G) {x1 : Int32} {h h1 : Hp} (hf : f_X11_there x1 h = some (Except.error "java/lang/IndexOutOfBoundsException", h1)) : CtrW G 12 yL_there cL_there 4 [(0, 9, 12, 24)] [.ref 1, .int x1, .ref 50] h 1 h1 1 :=
  CtrW_of hG RL rfl (by decide) rfl (fun X hX1 hX hT => by
    subst hX1
    show JQ X _ _ 0 0 0 [(0, .ref 1), (1, .int x1), (2, .ref 50)] [] h
    refine Q_aload_n hX 2 dL_there_0 rfl rfl ?_
    refine Q_iconst hX 0 dL_there_1 rfl ?_
    refine Q_aload_n hX 0 dL_there_2 rfl rfl ?_
    refine Q_iload_n hX 1 dL_there_3 rfl rfl ?_
    have hc := C_X11_there (okGQ hX) hf
    rw [oX_er] at hc
    refine Q_Vx hX [.int x1] dL_there_4 cw_L_there ob_1 rfl hc (by decide) (by decide) rfl rfl rfl rfl ⟨Nat.le_refl _, Nat.le_refl _⟩ ?_
    refine Q_catch hX hT (name := "java/lang/IndexOutOfBoundsException") [] [] (0, 9, 12, 24) [(0, .ref 1), (1, .int x1), (2, .ref 50)] rfl (fun z hz => by cases hz) (by decide) (by decide) (tbk tin_5 16 rfl rfl) cast_2 (Or.inr ⟨3, rfl, dL_there_12, rfl⟩) rfl rfl ?_
    refine Q_iconst hX 1 dL_there_13 rfl ?_
    exact Q_iret hX dL_there_14 (Nat.le_refl _) (Nat.le_refl _))
theorem dL_ahead_0 : decode cL_ahead 0 = .ok (.aload_n 2, 1) := by decide +kernel
theorem dL_ahead_1 : decode cL_ahead 1 = .ok (.iconst 0, 1) := by decide +kernel
theorem dL_ahead_2 : decode cL_ahead 2 = .ok (.aload_n 0, 1) := by decide +kernel
theorem dL_ahead_3 : decode cL_ahead 3 = .ok (.iload_n 1, 1) := by decide +kernel
theorem dL_ahead_4 : decode cL_ahead 4 = .ok (.invokevirtual 115, 3) := by decide +kernel
theorem dL_ahead_7 : decode cL_ahead 7 = .ok (.i2l, 1) := by decide +kernel
theorem dL_ahead_8 : decode cL_ahead 8 = .ok (.lastore, 1) := by decide +kernel
theorem dL_ahead_9 : decode cL_ahead 9 = .ok (.goto 6, 3) := by decide +kernel
theorem dL_ahead_12 : decode cL_ahead 12 = .ok (.astore_n 3, 1) := by decide +kernel
theorem dL_ahead_13 : decode cL_ahead 13 = .ok (.iconst 1, 1) := by decide +kernel
theorem dL_ahead_14 : decode cL_ahead 14 = .ok (.ireturn, 1) := by decide +kernel
theorem dL_ahead_15 : decode cL_ahead 15 = .ok (.iconst 0, 1) := by decide +kernel
theorem dL_ahead_16 : decode cL_ahead 16 = .ok (.ireturn, 1) := by decide +kernel
theorem cw_L_ahead : CWv RL 115 yX11_ahead cX11_ahead 2 (some .int) 1 := ⟨⟨(tbk tin_6 196 rfl rfl), (tbk tin_1 1 rfl rfl), (tbk tin_6 199 rfl rfl), by decide +kernel, by decide +kernel, by decide +kernel⟩, (tbk tin_6 197 rfl rfl), (tbk tin_6 198 rfl rfl)⟩
set_option maxRecDepth 100000 in
set_option maxHeartbeats 100000 in
theorem CW_ahead_ok {G : GX} (hG : GOk G) {x1 : Int32} {h h1 : Hp} {v : Int32} (hf : f_X11_ahead x1 h = some (Except.ok v, h1)) : CtrW G 12 yL_ahead cL_ahead 4 [(0, 9, 12, 13)] [.ref 1, .int x1, .ref 50] h 0 (up1 h1 50 0 v) 0 :=
  CtrW_of hG RL rfl (by decide) rfl (fun X hX1 hX hT => by
    subst hX1
    show JQ X _ _ 0 0 0 [(0, .ref 1), (1, .int x1), (2, .ref 50)] [] h
    refine Q_aload_n hX 2 dL_ahead_0 rfl rfl ?_
    refine Q_iconst hX 0 dL_ahead_1 rfl ?_
    refine Q_aload_n hX 0 dL_ahead_2 rfl rfl ?_
    refine Q_iload_n hX 1 dL_ahead_3 rfl rfl ?_
    have hc := C_X11_ahead (okGQ hX) hf
    rw [oX_ok] at hc
    refine Q_V1 hX [.int x1] dL_ahead_4 cw_L_ahead ob_1 rfl hc (by decide) (by decide) rfl rfl rfl rfl ⟨Nat.le_refl _, Nat.le_refl _⟩ ?_
    refine Q_i2l hX dL_ahead_7 ?_
    refine Q_last hX dL_ahead_8 ar_50 (by decide) ?_
    refine Q_goto hX 15 dL_ahead_9 rfl ?_
    refine Q_iconst hX 0 dL_ahead_15 rfl ?_
    exact Q_iret hX dL_ahead_16 (Nat.le_refl _) (Nat.le_refl _))
set_option maxRecDepth 100000 in
set_option maxHeartbeats 100000 in
theorem CW_ahead_e1 {G : GX} (hG : GOk G) {x1 : Int32} {h h1 : Hp} (hf : f_X11_ahead x1 h = some (Except.error "java/lang/IllegalArgumentException", h1)) : CtrW G 12 yL_ahead cL_ahead 4 [(0, 9, 12, 13)] [.ref 1, .int x1, .ref 50] h 1 h1 1 :=
  CtrW_of hG RL rfl (by decide) rfl (fun X hX1 hX hT => by
    subst hX1
    show JQ X _ _ 0 0 0 [(0, .ref 1), (1, .int x1), (2, .ref 50)] [] h
    refine Q_aload_n hX 2 dL_ahead_0 rfl rfl ?_
    refine Q_iconst hX 0 dL_ahead_1 rfl ?_
    refine Q_aload_n hX 0 dL_ahead_2 rfl rfl ?_
    refine Q_iload_n hX 1 dL_ahead_3 rfl rfl ?_
    have hc := C_X11_ahead (okGQ hX) hf
    rw [oX_er] at hc
    refine Q_Vx hX [.int x1] dL_ahead_4 cw_L_ahead ob_1 rfl hc (by decide) (by decide) rfl rfl rfl rfl ⟨Nat.le_refl _, Nat.le_refl _⟩ ?_
    refine Q_catch hX hT (name := "java/lang/IllegalArgumentException") [] [] (0, 9, 12, 13) [(0, .ref 1), (1, .int x1), (2, .ref 50)] rfl (fun z hz => by cases hz) (by decide) (by decide) (tbk tin_3 199 rfl rfl) cast_0 (Or.inr ⟨3, rfl, dL_ahead_12, rfl⟩) rfl rfl ?_
    refine Q_iconst hX 1 dL_ahead_13 rfl ?_
    exact Q_iret hX dL_ahead_14 (Nat.le_refl _) (Nat.le_refl _))
theorem dL_trial_0 : decode cL_trial 0 = .ok (.aload_n 3, 1) := by decide +kernel
theorem dL_trial_1 : decode cL_trial 1 = .ok (.iconst 0, 1) := by decide +kernel
theorem dL_trial_2 : decode cL_trial 2 = .ok (.aload_n 0, 1) := by decide +kernel
theorem dL_trial_3 : decode cL_trial 3 = .ok (.iload_n 1, 1) := by decide +kernel
theorem dL_trial_4 : decode cL_trial 4 = .ok (.iload_n 2, 1) := by decide +kernel
theorem dL_trial_5 : decode cL_trial 5 = .ok (.invokevirtual 118, 3) := by decide +kernel
theorem dL_trial_8 : decode cL_trial 8 = .ok (.i2l, 1) := by decide +kernel
theorem dL_trial_9 : decode cL_trial 9 = .ok (.lastore, 1) := by decide +kernel
theorem dL_trial_10 : decode cL_trial 10 = .ok (.goto 7, 3) := by decide +kernel
theorem dL_trial_13 : decode cL_trial 13 = .ok (.astore 4, 2) := by decide +kernel
theorem dL_trial_15 : decode cL_trial 15 = .ok (.iconst 1, 1) := by decide +kernel
theorem dL_trial_16 : decode cL_trial 16 = .ok (.ireturn, 1) := by decide +kernel
theorem dL_trial_17 : decode cL_trial 17 = .ok (.iconst 0, 1) := by decide +kernel
theorem dL_trial_18 : decode cL_trial 18 = .ok (.ireturn, 1) := by decide +kernel
theorem cw_L_trial : CWv RL 118 yX11_trial cX11_trial 3 (some .int) 2 := ⟨⟨(tbk tin_6 203 rfl rfl), (tbk tin_1 1 rfl rfl), (tbk tin_6 206 rfl rfl), by decide +kernel, by decide +kernel, by decide +kernel⟩, (tbk tin_6 204 rfl rfl), (tbk tin_6 205 rfl rfl)⟩
set_option maxRecDepth 100000 in
set_option maxHeartbeats 100000 in
theorem CW_trial_ok {G : GX} (hG : GOk G) {x1 : Int32} {x2 : Int32} {h h1 : Hp} {v : Int32} (hf : f_X11_trial x1 x2 h = some (Except.ok v, h1)) : CtrW G 12 yL_trial cL_trial 5 [(0, 10, 13, 13)] [.ref 1, .int x1, .int x2, .ref 50] h 0 (up1 h1 50 0 v) 0 :=
  CtrW_of hG RL rfl (by decide) rfl (fun X hX1 hX hT => by
    subst hX1
    show JQ X _ _ 0 0 0 [(0, .ref 1), (1, .int x1), (2, .int x2), (3, .ref 50)] [] h
    refine Q_aload_n hX 3 dL_trial_0 rfl rfl ?_
    refine Q_iconst hX 0 dL_trial_1 rfl ?_
    refine Q_aload_n hX 0 dL_trial_2 rfl rfl ?_
    refine Q_iload_n hX 1 dL_trial_3 rfl rfl ?_
    refine Q_iload_n hX 2 dL_trial_4 rfl rfl ?_
    have hc := C_X11_trial (okGQ hX) hf
    rw [oX_ok] at hc
    refine Q_V1 hX [.int x1, .int x2] dL_trial_5 cw_L_trial ob_1 rfl hc (by decide) (by decide) rfl rfl rfl rfl ⟨Nat.le_refl _, Nat.le_refl _⟩ ?_
    refine Q_i2l hX dL_trial_8 ?_
    refine Q_last hX dL_trial_9 ar_50 (by decide) ?_
    refine Q_goto hX 17 dL_trial_10 rfl ?_
    refine Q_iconst hX 0 dL_trial_17 rfl ?_
    exact Q_iret hX dL_trial_18 (Nat.le_refl _) (Nat.le_refl _))
set_option maxRecDepth 100000 in
set_option maxHeartbeats 100000 in
theorem CW_trial_e1 {G : GX} (hG : GOk G) {x1 : Int32} {x2 : Int32} {h h1 : Hp} (hf : f_X11_trial x1 x2 h = some (Except.error "java/lang/IllegalArgumentException", h1)) : CtrW G 12 yL_trial cL_trial 5 [(0, 10, 13, 13)] [.ref 1, .int x1, .int x2, .ref 50] h 1 h1 1 :=
  CtrW_of hG RL rfl (by decide) rfl (fun X hX1 hX hT => by
    subst hX1
    show JQ X _ _ 0 0 0 [(0, .ref 1), (1, .int x1), (2, .int x2), (3, .ref 50)] [] h
    refine Q_aload_n hX 3 dL_trial_0 rfl rfl ?_
    refine Q_iconst hX 0 dL_trial_1 rfl ?_
    refine Q_aload_n hX 0 dL_trial_2 rfl rfl ?_
    refine Q_iload_n hX 1 dL_trial_3 rfl rfl ?_
    refine Q_iload_n hX 2 dL_trial_4 rfl rfl ?_
    have hc := C_X11_trial (okGQ hX) hf
    rw [oX_er] at hc
    refine Q_Vx hX [.int x1, .int x2] dL_trial_5 cw_L_trial ob_1 rfl hc (by decide) (by decide) rfl rfl rfl rfl ⟨Nat.le_refl _, Nat.le_refl _⟩ ?_
    refine Q_catch hX hT (name := "java/lang/IllegalArgumentException") [] [] (0, 10, 13, 13) [(0, .ref 1), (1, .int x1), (2, .int x2), (3, .ref 50)] rfl (fun z hz => by cases hz) (by decide) (by decide) (tbk tin_3 199 rfl rfl) cast_0 (Or.inl ⟨dL_trial_13, rfl⟩) rfl rfl ?_
    refine Q_iconst hX 1 dL_trial_15 rfl ?_
    exact Q_iret hX dL_trial_16 (Nat.le_refl _) (Nat.le_refl _))
theorem dL_span_0 : decode cL_span 0 = .ok (.aload_n 3, 1) := by decide +kernel
theorem dL_span_1 : decode cL_span 1 = .ok (.iconst 0, 1) := by decide +kernel
theorem dL_span_2 : decode cL_span 2 = .ok (.aload_n 0, 1) := by decide +kernel
theorem dL_span_3 : decode cL_span 3 = .ok (.iload_n 1, 1) := by decide +kernel
theorem dL_span_4 : decode cL_span 4 = .ok (.iload_n 2, 1) := by decide +kernel
theorem dL_span_5 : decode cL_span 5 = .ok (.invokevirtual 122, 3) := by decide +kernel
theorem dL_span_8 : decode cL_span 8 = .ok (.i2l, 1) := by decide +kernel
theorem dL_span_9 : decode cL_span 9 = .ok (.lastore, 1) := by decide +kernel
theorem dL_span_10 : decode cL_span 10 = .ok (.goto 7, 3) := by decide +kernel
theorem dL_span_13 : decode cL_span 13 = .ok (.astore 4, 2) := by decide +kernel
theorem dL_span_15 : decode cL_span 15 = .ok (.iconst 1, 1) := by decide +kernel
theorem dL_span_16 : decode cL_span 16 = .ok (.ireturn, 1) := by decide +kernel
theorem dL_span_17 : decode cL_span 17 = .ok (.iconst 0, 1) := by decide +kernel
theorem dL_span_18 : decode cL_span 18 = .ok (.ireturn, 1) := by decide +kernel
theorem cw_L_span : CWv RL 122 yX11_span cX11_span 7 (some .int) 2 := ⟨⟨(tbk tin_6 216 rfl rfl), (tbk tin_1 1 rfl rfl), (tbk tin_6 219 rfl rfl), by decide +kernel, by decide +kernel, by decide +kernel⟩, (tbk tin_6 217 rfl rfl), (tbk tin_6 218 rfl rfl)⟩
set_option maxRecDepth 100000 in
set_option maxHeartbeats 100000 in
theorem CW_span_ok {G : GX} (hG : GOk G) {x1 : Int32} {x2 : Int32} {h h1 : Hp} {v : Int32} (hf : f_X11_span x1 x2 h = some (Except.ok v, h1)) : CtrW G 12 yL_span cL_span 5 [(0, 10, 13, 13)] [.ref 1, .int x1, .int x2, .ref 50] h 0 (up1 h1 50 0 v) 0 :=
  CtrW_of hG RL rfl (by decide) rfl (fun X hX1 hX hT => by
    subst hX1
    show JQ X _ _ 0 0 0 [(0, .ref 1), (1, .int x1), (2, .int x2), (3, .ref 50)] [] h
    refine Q_aload_n hX 3 dL_span_0 rfl rfl ?_
    refine Q_iconst hX 0 dL_span_1 rfl ?_
    refine Q_aload_n hX 0 dL_span_2 rfl rfl ?_
    refine Q_iload_n hX 1 dL_span_3 rfl rfl ?_
    refine Q_iload_n hX 2 dL_span_4 rfl rfl ?_
    have hc := C_X11_span (okGQ hX) hf
    rw [oX_ok] at hc
    refine Q_V1 hX [.int x1, .int x2] dL_span_5 cw_L_span ob_1 rfl hc (by decide) (by decide) rfl rfl rfl rfl ⟨Nat.le_refl _, Nat.le_refl _⟩ ?_
    refine Q_i2l hX dL_span_8 ?_
    refine Q_last hX dL_span_9 ar_50 (by decide) ?_
    refine Q_goto hX 17 dL_span_10 rfl ?_
    refine Q_iconst hX 0 dL_span_17 rfl ?_
    exact Q_iret hX dL_span_18 (Nat.le_refl _) (Nat.le_refl _))
set_option maxRecDepth 100000 in
set_option maxHeartbeats 100000 in
theorem CW_span_e1 {G : GX} (hG : GOk G) {x1 : Int32} {x2 : Int32} {h h1 : Hp} (hf : f_X11_span x1 x2 h = some (Except.error "java/lang/IllegalArgumentException", h1)) : CtrW G 12 yL_span cL_span 5 [(0, 10, 13, 13)] [.ref 1, .int x1, .int x2, .ref 50] h 1 h1 1 :=
  CtrW_of hG RL rfl (by decide) rfl (fun X hX1 hX hT => by
    subst hX1
    show JQ X _ _ 0 0 0 [(0, .ref 1), (1, .int x1), (2, .int x2), (3, .ref 50)] [] h
    refine Q_aload_n hX 3 dL_span_0 rfl rfl ?_
    refine Q_iconst hX 0 dL_span_1 rfl ?_
    refine Q_aload_n hX 0 dL_span_2 rfl rfl ?_
    refine Q_iload_n hX 1 dL_span_3 rfl rfl ?_
    refine Q_iload_n hX 2 dL_span_4 rfl rfl ?_
    have hc := C_X11_span (okGQ hX) hf
    rw [oX_er] at hc
    refine Q_Vx hX [.int x1, .int x2] dL_span_5 cw_L_span ob_1 rfl hc (by decide) (by decide) rfl rfl rfl rfl ⟨Nat.le_refl _, Nat.le_refl _⟩ ?_
    refine Q_catch hX hT (name := "java/lang/IllegalArgumentException") [] [] (0, 10, 13, 13) [(0, .ref 1), (1, .int x1), (2, .int x2), (3, .ref 50)] rfl (fun z hz => by cases hz) (by decide) (by decide) (tbk tin_3 199 rfl rfl) cast_0 (Or.inl ⟨dL_span_13, rfl⟩) rfl rfl ?_
    refine Q_iconst hX 1 dL_span_15 rfl ?_
    exact Q_iret hX dL_span_16 (Nat.le_refl _) (Nat.le_refl _))
theorem dL_led_0 : decode cL_led 0 = .ok (.aload_n 3, 1) := by decide +kernel
theorem dL_led_1 : decode cL_led 1 = .ok (.iconst 0, 1) := by decide +kernel
theorem dL_led_2 : decode cL_led 2 = .ok (.aload_n 0, 1) := by decide +kernel
theorem dL_led_3 : decode cL_led 3 = .ok (.iload_n 1, 1) := by decide +kernel
theorem dL_led_4 : decode cL_led 4 = .ok (.iload_n 2, 1) := by decide +kernel
theorem dL_led_5 : decode cL_led 5 = .ok (.invokevirtual 125, 3) := by decide +kernel
theorem dL_led_8 : decode cL_led 8 = .ok (.i2l, 1) := by decide +kernel
theorem dL_led_9 : decode cL_led 9 = .ok (.lastore, 1) := by decide +kernel
theorem dL_led_10 : decode cL_led 10 = .ok (.goto 7, 3) := by decide +kernel
theorem dL_led_13 : decode cL_led 13 = .ok (.astore 4, 2) := by decide +kernel
theorem dL_led_15 : decode cL_led 15 = .ok (.iconst 1, 1) := by decide +kernel
theorem dL_led_16 : decode cL_led 16 = .ok (.ireturn, 1) := by decide +kernel
theorem dL_led_17 : decode cL_led 17 = .ok (.iconst 0, 1) := by decide +kernel
theorem dL_led_18 : decode cL_led 18 = .ok (.ireturn, 1) := by decide +kernel
theorem cw_L_led : CWv RL 125 yX11_led cX11_led 5 (some .int) 2 := ⟨⟨(tbk tin_6 225 rfl rfl), (tbk tin_1 1 rfl rfl), (tbk tin_6 228 rfl rfl), by decide +kernel, by decide +kernel, by decide +kernel⟩, (tbk tin_6 226 rfl rfl), (tbk tin_6 227 rfl rfl)⟩
set_option maxRecDepth 100000 in
set_option maxHeartbeats 100000 in
theorem CW_led_ok {G : GX} (hG : GOk G) {x1 : Int32} {x2 : Int32} {h h1 : Hp} {v : Int32} (hf : f_X11_led x1 x2 h = some (Except.ok v, h1)) : CtrW G 12 yL_led cL_led 5 [(0, 10, 13, 24)] [.ref 1, .int x1, .int x2, .ref 50] h 0 (up1 h1 50 0 v) 0 :=
  CtrW_of hG RL rfl (by decide) rfl (fun X hX1 hX hT => by
    subst hX1
    show JQ X _ _ 0 0 0 [(0, .ref 1), (1, .int x1), (2, .int x2), (3, .ref 50)] [] h
    refine Q_aload_n hX 3 dL_led_0 rfl rfl ?_
    refine Q_iconst hX 0 dL_led_1 rfl ?_
    refine Q_aload_n hX 0 dL_led_2 rfl rfl ?_
    refine Q_iload_n hX 1 dL_led_3 rfl rfl ?_
    refine Q_iload_n hX 2 dL_led_4 rfl rfl ?_
    have hc := C_X11_led (okGQ hX) hf
    rw [oX_ok] at hc
    refine Q_V1 hX [.int x1, .int x2] dL_led_5 cw_L_led ob_1 rfl hc (by decide) (by decide) rfl rfl rfl rfl ⟨Nat.le_refl _, Nat.le_refl _⟩ ?_
    refine Q_i2l hX dL_led_8 ?_
    refine Q_last hX dL_led_9 ar_50 (by decide) ?_
    refine Q_goto hX 17 dL_led_10 rfl ?_
    refine Q_iconst hX 0 dL_led_17 rfl ?_
    exact Q_iret hX dL_led_18 (Nat.le_refl _) (Nat.le_refl _))
set_option maxRecDepth 100000 in
set_option maxHeartbeats 100000 in
theorem CW_led_e1 {G : GX} (hG : GOk G) {x1 : Int32} {x2 : Int32} {h h1 : Hp} (hf : f_X11_led x1 x2 h = some (Except.error "java/lang/IndexOutOfBoundsException", h1)) : CtrW G 12 yL_led cL_led 5 [(0, 10, 13, 24)] [.ref 1, .int x1, .int x2, .ref 50] h 1 h1 1 :=
  CtrW_of hG RL rfl (by decide) rfl (fun X hX1 hX hT => by
    subst hX1
    show JQ X _ _ 0 0 0 [(0, .ref 1), (1, .int x1), (2, .int x2), (3, .ref 50)] [] h
    refine Q_aload_n hX 3 dL_led_0 rfl rfl ?_
    refine Q_iconst hX 0 dL_led_1 rfl ?_
    refine Q_aload_n hX 0 dL_led_2 rfl rfl ?_
    refine Q_iload_n hX 1 dL_led_3 rfl rfl ?_
    refine Q_iload_n hX 2 dL_led_4 rfl rfl ?_
    have hc := C_X11_led (okGQ hX) hf
    rw [oX_er] at hc
    refine Q_Vx hX [.int x1, .int x2] dL_led_5 cw_L_led ob_1 rfl hc (by decide) (by decide) rfl rfl rfl rfl ⟨Nat.le_refl _, Nat.le_refl _⟩ ?_
    refine Q_catch hX hT (name := "java/lang/IndexOutOfBoundsException") [] [] (0, 10, 13, 24) [(0, .ref 1), (1, .int x1), (2, .int x2), (3, .ref 50)] rfl (fun z hz => by cases hz) (by decide) (by decide) (tbk tin_5 16 rfl rfl) cast_2 (Or.inl ⟨dL_led_13, rfl⟩) rfl rfl ?_
    refine Q_iconst hX 1 dL_led_15 rfl ?_
    exact Q_iret hX dL_led_16 (Nat.le_refl _) (Nat.le_refl _))
theorem dL_log_0 : decode cL_log 0 = .ok (.aload_n 3, 1) := by decide +kernel
theorem dL_log_1 : decode cL_log 1 = .ok (.iconst 0, 1) := by decide +kernel
theorem dL_log_2 : decode cL_log 2 = .ok (.aload_n 0, 1) := by decide +kernel
theorem dL_log_3 : decode cL_log 3 = .ok (.iload_n 1, 1) := by decide +kernel
theorem dL_log_4 : decode cL_log 4 = .ok (.iload_n 2, 1) := by decide +kernel
theorem dL_log_5 : decode cL_log 5 = .ok (.invokevirtual 128, 3) := by decide +kernel
theorem dL_log_8 : decode cL_log 8 = .ok (.i2l, 1) := by decide +kernel
theorem dL_log_9 : decode cL_log 9 = .ok (.lastore, 1) := by decide +kernel
theorem dL_log_10 : decode cL_log 10 = .ok (.goto 7, 3) := by decide +kernel
theorem dL_log_13 : decode cL_log 13 = .ok (.astore 4, 2) := by decide +kernel
theorem dL_log_15 : decode cL_log 15 = .ok (.iconst 1, 1) := by decide +kernel
theorem dL_log_16 : decode cL_log 16 = .ok (.ireturn, 1) := by decide +kernel
theorem dL_log_17 : decode cL_log 17 = .ok (.iconst 0, 1) := by decide +kernel
theorem dL_log_18 : decode cL_log 18 = .ok (.ireturn, 1) := by decide +kernel
theorem cw_L_log : CWv RL 128 yX11_log cX11_log 3 (some .int) 2 := ⟨⟨(tbk tin_6 236 rfl rfl), (tbk tin_1 1 rfl rfl), (tbk tin_6 239 rfl rfl), by decide +kernel, by decide +kernel, by decide +kernel⟩, (tbk tin_6 237 rfl rfl), (tbk tin_6 238 rfl rfl)⟩
set_option maxRecDepth 100000 in
set_option maxHeartbeats 100000 in
theorem CW_log_ok {G : GX} (hG : GOk G) {x1 : Int32} {x2 : Int32} {h h1 : Hp} {v : Int32} (hf : f_X11_log x1 x2 h = some (Except.ok v, h1)) : CtrW G 11 yL_log cL_log 5 [(0, 10, 13, 26)] [.ref 1, .int x1, .int x2, .ref 50] h 0 (up1 h1 50 0 v) 0 :=
  CtrW_of hG RL rfl (by decide) rfl (fun X hX1 hX hT => by
    subst hX1
    show JQ X _ _ 0 0 0 [(0, .ref 1), (1, .int x1), (2, .int x2), (3, .ref 50)] [] h
    refine Q_aload_n hX 3 dL_log_0 rfl rfl ?_
    refine Q_iconst hX 0 dL_log_1 rfl ?_
    refine Q_aload_n hX 0 dL_log_2 rfl rfl ?_
    refine Q_iload_n hX 1 dL_log_3 rfl rfl ?_
    refine Q_iload_n hX 2 dL_log_4 rfl rfl ?_
    have hc := C_X11_log (okGQ hX) hf
    rw [oX_ok] at hc
    refine Q_V1 hX [.int x1, .int x2] dL_log_5 cw_L_log ob_1 rfl hc (by decide) (by decide) rfl rfl rfl rfl ⟨Nat.le_refl _, Nat.le_refl _⟩ ?_
    refine Q_i2l hX dL_log_8 ?_
    refine Q_last hX dL_log_9 ar_50 (by decide) ?_
    refine Q_goto hX 17 dL_log_10 rfl ?_
    refine Q_iconst hX 0 dL_log_17 rfl ?_
    exact Q_iret hX dL_log_18 (Nat.le_refl _) (Nat.le_refl _))
set_option maxRecDepth 100000 in
set_option maxHeartbeats 100000 in
theorem CW_log_e1 {G : GX} (hG : GOk G) {x1 : Int32} {x2 : Int32} {h h1 : Hp} (hf : f_X11_log x1 x2 h = some (Except.error "java/util/NoSuchElementException", h1)) : CtrW G 11 yL_log cL_log 5 [(0, 10, 13, 26)] [.ref 1, .int x1, .int x2, .ref 50] h 1 h1 1 :=
  CtrW_of hG RL rfl (by decide) rfl (fun X hX1 hX hT => by
    subst hX1
    show JQ X _ _ 0 0 0 [(0, .ref 1), (1, .int x1), (2, .int x2), (3, .ref 50)] [] h
    refine Q_aload_n hX 3 dL_log_0 rfl rfl ?_
    refine Q_iconst hX 0 dL_log_1 rfl ?_
    refine Q_aload_n hX 0 dL_log_2 rfl rfl ?_
    refine Q_iload_n hX 1 dL_log_3 rfl rfl ?_
    refine Q_iload_n hX 2 dL_log_4 rfl rfl ?_
    have hc := C_X11_log (okGQ hX) hf
    rw [oX_er] at hc
    refine Q_Vx hX [.int x1, .int x2] dL_log_5 cw_L_log ob_1 rfl hc (by decide) (by decide) rfl rfl rfl rfl ⟨Nat.le_refl _, Nat.le_refl _⟩ ?_
    refine Q_catch hX hT (name := "java/util/NoSuchElementException") [] [] (0, 10, 13, 26) [(0, .ref 1), (1, .int x1), (2, .int x2), (3, .ref 50)] rfl (fun z hz => by cases hz) (by decide) (by decide) (tbk tin_5 17 rfl rfl) cast_3 (Or.inl ⟨dL_log_13, rfl⟩) rfl rfl ?_
    refine Q_iconst hX 1 dL_log_15 rfl ?_
    exact Q_iret hX dL_log_16 (Nat.le_refl _) (Nat.le_refl _))
