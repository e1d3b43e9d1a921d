/-! ASSEMBLY: every call of the script; the first heap -/
theorem hstep_all (k : Nat) (a : Nat → Int32) (h : Hp) (hk : k < 64) (I : Inv h) : ∃ (h' : Hp) (n : Nat), StN k a h h' n ∧ n ≤ 1 ∧ Inv h' := by
  match k, hk with
  | 0, _ => exact sp_0 (a := a) I
  | 1, _ => exact sp_1 (a := a) I
  | 2, _ => exact sp_2 (a := a) I
  | 3, _ => exact sp_3 (a := a) I
  | 4, _ => exact sp_4 (a := a) I
  | 5, _ => exact sp_5 (a := a) I
  | 6, _ => exact sp_6 (a := a) I
  | 7, _ => exact sp_7 (a := a) I
  | 8, _ => exact sp_8 (a := a) I
  | 9, _ => exact sp_9 (a := a) I
  | 10, _ => exact sp_10 (a := a) I
  | 11, _ => exact sp_11 (a := a) I
  | 12, _ => exact sp_12 (a := a) I
  | 13, _ => exact sp_13 (a := a) I
  | 14, _ => exact sp_14 (a := a) I
  | 15, _ => exact sp_15 (a := a) I
  | 16, _ => exact sp_16 (a := a) I
  | 17, _ => exact sp_17 (a := a) I
  | 18, _ => exact sp_18 (a := a) I
  | 19, _ => exact sp_19 (a := a) I
  | 20, _ => exact sp_20 (a := a) I
  | 21, _ => exact sp_21 (a := a) I
  | 22, _ => exact sp_22 (a := a) I
  | 23, _ => exact sp_23 (a := a) I
  | 24, _ => exact sp_24 (a := a) I
  | 25, _ => exact sp_25 (a := a) I
  | 26, _ => exact sp_26 (a := a) I
  | 27, _ => exact sp_27 (a := a) I
  | 28, _ => exact sp_28 (a := a) I
  | 29, _ => exact sp_29 (a := a) I
  | 30, _ => exact sp_30 (a := a) I
  | 31, _ => exact sp_31 (a := a) I
  | 32, _ => exact sp_32 (a := a) I
  | 33, _ => exact sp_33 (a := a) I
  | 34, _ => exact sp_34 (a := a) I
  | 35, _ => exact sp_35 (a := a) I
  | 36, _ => exact sp_36 (a := a) I
  | 37, _ => exact sp_37 (a := a) I
  | 38, _ => exact sp_38 (a := a) I
  | 39, _ => exact sp_39 (a := a) I
  | 40, _ => exact sp_40 (a := a) I
  | 41, _ => exact sp_41 (a := a) I
  | 42, _ => exact sp_42 (a := a) I
  | 43, _ => exact sp_43 (a := a) I
  | 44, _ => exact sp_44 (a := a) I
  | 45, _ => exact sp_45 (a := a) I
  | 46, _ => exact sp_46 (a := a) I
  | 47, _ => exact sp_47 (a := a) I
  | 48, _ => exact sp_48 (a := a) I
  | 49, _ => exact sp_49 (a := a) I
  | 50, _ => exact sp_50 (a := a) I
  | 51, _ => exact sp_51 (a := a) I
  | 52, _ => exact sp_52 (a := a) I
  | 53, _ => exact sp_53 (a := a) I
  | n + 54, _ => exact ⟨h, 0, ⟨rfl, rfl⟩, by omega, I⟩
theorem h0_31 : h0c 31 = upd (upd (fun _ => 0) 7 20) 9 1 := rfl
theorem h0_w {k : Nat} (h7 : k ≠ 7) (h9 : k ≠ 9) : h0c 31 k = 0 := by rw [h0_31, upd_ob h9, upd_ob h7]
theorem h0_bd {k b : Nat} (h7 : k ≠ 7) (h9 : k ≠ 9) : bd (h0c 31) k b := ⟨0, Nat.zero_le _, h0_w h7 h9⟩
theorem Inv_h0 : Inv h0c := by
  have up0 : ∀ i, upB 0 (h0c 31) i = false := fun i => by unfold upB; rw [decide_eq_false (Nat.not_lt_zero i)]; rfl
  have G : Gd 0 0 (h0c 31) := by
    refine ⟨⟨h0_w (by decide) (by decide), by omega, h0_w (by decide) (by decide), by omega, h0_bd (by decide) (by decide), fun z => ?_⟩, fun i hi => ⟨h0_bd (by omega) (by omega), h0_bd (by omega) (by omega), h0_bd (by omega) (by omega), h0_bd (by omega) (by omega), h0_bd (by omega) (by omega)⟩, fun i o hi ho => ⟨h0_bd (by omega) (by omega), fun _ => h0_w (by omega) (by omega)⟩, fun p hp => absurd hp (Nat.not_lt_zero p), h0_bd (by decide) (by decide), h0_bd (by decide) (by decide), h0_bd (by decide) (by decide), ⟨20, by omega, by rw [h0_31]; rfl⟩, h0_bd (by decide) (by decide), h0_bd (by decide) (by decide)⟩
    rw [h0_w (by decide) (by decide)] at z
    exact absurd z (by decide)
  have z0 : ∀ k, (k = 101 ∨ k = 102 ∨ k = 103 ∨ k = 104 ∨ k = 105 ∨ k = 109 ∨ k = 20 ∨ k = 1) → h0c k = fun _ => 0 := fun k hk => by
    rcases hk with rfl | rfl | rfl | rfl | rfl | rfl | rfl | rfl <;> rfl
  have c100 : h0c 100 = fun i => if i = 15 then 20 else if i = 17 then 1 else 0 := rfl
  have h2 : h0c 2 = fun i => if i = 2 then (-1) else if i = 5 then (-1) else 0 := rfl
  have h30 : h0c 30 = fun i => if i = 16 then (-1) else 0 := rfl
  have h500 : h0c 500 = fun i => if i = 8 then (-1) else 0 := rfl
  have V : CV0 100 h0c 0 0 (h0c 31) := by
    refine ⟨fun i hi => ?_, fun k hk => ?_, fun p hp => absurd hp (Nat.not_lt_zero p), ⟨by rw [c100]; rfl, by rw [c100]; rfl, ?_⟩, ?_⟩
    · unfold wtR fmR ivR agR
      rw [z0 (100 + 1) (by omega), z0 (100 + 2) (by omega), z0 (100 + 3) (by omega), z0 (100 + 4) (by omega), h0_w (by omega) (by omega), h0_w (by omega) (by omega), h0_w (by omega) (by omega), h0_w (by omega) (by omega)]
      exact ⟨rfl, rfl, rfl, rfl⟩
    · rw [z0 (100 + 5) (by omega), h0_w (by omega) (by omega)]
    · rw [c100, (orTo_0 (by omega)).mpr fun k _ => up0 k]; rfl
    · rw [c100, h0_w (k := 4) (by decide) (by decide), h0_w (k := 5) (by decide) (by decide), h0_w (k := 6) (by decide) (by decide), h0_w (k := 2) (by decide) (by decide), h0_31]
      exact ⟨rfl, rfl, rfl, rfl, rfl, rfl⟩
  have LGg : LG 100 h0c (h0c 31) := ⟨0, by omega, h0_w (by decide) (by decide), by rw [z0 (100 + 9) (by omega)]; rfl, fun k f hk => absurd hk (Nat.not_lt_zero k)⟩
  have w3 : ¬ h0c 31 3 = 1 := by rw [h0_w (by decide) (by decide)]; decide
  have LVv : LV 500 h0c (h0c 31) := by
    refine ⟨by rw [if_neg w3, h500]; rfl, fun l hl => ?_⟩
    unfold lnW at hl
    rw [if_neg w3] at hl
    exact absurd hl (Nat.not_lt_zero l)
  refine ⟨⟨0, 0, G, V, LGg, LVv⟩, ⟨0, by omega, by rw [h2]; rfl, by rw [h30]; rfl, fun i hi => absurd hi (Nat.not_lt_zero i), by rw [h2, h30]; rfl⟩, ⟨fun k _ => by rw [z0 20 (by omega)], false, by rw [z0 1 (by omega)]; rfl, by rw [h30]; rfl, fun z => Bool.noConfusion z⟩, ⟨0, 0, by omega, by omega, by rw [z0 1 (by omega)]; rfl, by rw [z0 1 (by omega)]; rfl, by rw [h30]; rfl, fun j hj => absurd hj (Nat.not_lt_zero j)⟩, by rw [h30]; rfl⟩
