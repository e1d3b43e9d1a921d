/-! LAYER 4. sagging -/
def msF (n m : Nat) (w : Row) (e : Int32) (i : Nat) (s : Bool × Int32) : Bool × Int32 := if upB n w i then (true, if s.1 = false ∨ s.2 < sgW n m w e 0 i then sgW n m w e 0 i else s.2) else s
def msW (n m : Nat) (w : Row) (e : Int32) (N : Nat) : Bool × Int32 := fldN (msF n m w e) (false, 0) N
theorem ms_ob {n m : Nat} {w : Row} {e : Int32} (h8 : n ≤ 8) : msW n m w e 8 = msW n m w e n := fldN_ext 8 h8 fun k x c _ => by unfold msF; rw [upB_hi c, tff]
theorem c_greatest {h : Hp} {n m : Nat} {w : Row} {e : Int32} (h8 : n ≤ 8) (S : SV h n m w e) : f_X9_greatestSag (orTo (upB n w) 8) h = some (msW n m w e n).2 := by
  have Q := loop0 (S_X9_greatestSag_7 h (orTo (upB n w) 8)) (fun _ _ _ => none) (fun j q => q (bI (msW n m w e j).1) (msW n m w e j).2 (nI j)) 8 (some (msW n m w e n).2) (by omega) (fun j hj q => ?_) (fun q => ?_)
  · exact Q
  · show S_X9_greatestSag_7 h (orTo (upB n w) 8) q (bI (msW n m w e j).1) (msW n m w e j).2 (nI j) = q (bI (msF n m w e j (msW n m w e j)).1) (msF n m w e j (msW n m w e j)).2 (nI (j + 1))
    have s9 := (S j hj).2.2.2.1
    unfold S_X9_greatestSag_7 F_X9_greatestSag_39 msF
    rw [show (8 : Int32) = nI 8 from rfl, if_pos ((nI_ltI (by omega) (by omega)).mpr hj)]
    cases hu : upB n w j
    · rw [if_neg (by rw [shr_tb (by omega), tb8 hj, hu]; exact fun q => Bool.noConfusion q), tff, nI_1]
    · rw [hu, ttt] at s9
      rw [if_pos (by rw [shr_tb (by omega), tb8 hj, hu]), ttt, gdT (nI_ix (by omega) (by omega)), bnd_eq, nI_1]
      by_cases c : (msW n m w e j).1 = false
      · rw [if_pos (show bI (msW n m w e j).1 = 0 by rw [c]; rfl), if_pos (Or.inl c), nI_clamp (by omega), s9]; rfl
      · rw [if_neg (show ¬ bI (msW n m w e j).1 = 0 by rw [bI0]; exact c), gdT (nI_ix (by omega) (by omega)), nI_clamp (by omega), s9]
        have c' : (msW n m w e j).1 = true := by
          cases z : (msW n m w e j).1
          · exact absurd z c
          · rfl
        by_cases d : (msW n m w e j).2 < sgW n m w e 0 j
        · rw [if_pos d, if_pos (Or.inr d)]; rfl
        · rw [if_neg d, if_neg (fun z => z.elim c d), c']
  · show S_X9_greatestSag_7 h (orTo (upB n w) 8) q (bI (msW n m w e 8).1) (msW n m w e 8).2 (nI 8) = _
    unfold S_X9_greatestSag_7
    rw [show (8 : Int32) = nI 8 from rfl, if_neg (by decide), ms_ob h8]
