/-! LAYER 4. texts: one line of a city -/
section L9
variable {b : Nat → Nat} {L f n m : Nat} {u g : Hp} {w : Row}
def prN (i j : Nat) : Prop := (i = 12 ∧ j = 4) ∨ (i = 13 ∧ j = 5) ∨ (i = 14 ∧ j = 6) ∨ (i = 15 ∧ j = 7)
theorem num_CV {i j : Nat} {x : Int32} (hp : prN i j) (V : CV0 116 u n m w) : CV0 116 (up1 u 116 i x) n m (upd w j x) := by
  obtain ⟨a1, a2, a3, ⟨b1, b2, b3⟩, c1, c2, c3, c4, c5, c6⟩ := V
  unfold prN at hp
  have o : ∀ k, (k < 4 ∨ 7 < k) → upd w j x k = w k := fun k hk => upd_ob (by omega)
  have q : ∀ k, (k < 12 ∨ 15 < k) → up1 u 116 i x 116 k = u 116 k := fun k hk => by rw [up1_at, upd_ob (by omega)]
  refine ⟨fun k hk => ?_, fun k hk => ?_, fun p hp => ?_, ⟨?_, ?_, ?_⟩, ?_⟩
  · unfold wtR fmR ivR agR
    rw [up1_ob (by omega), up1_ob (by omega), up1_ob (by omega), up1_ob (by omega), o _ (by omega), o _ (by omega), o _ (by omega), o _ (by omega)]
    exact a1 k hk
  · rw [up1_ob (by omega), o _ (by omega)]; exact a2 k hk
  · unfold atR hdR cmR
    rw [up1_ob (by omega), up1_ob (by omega), up1_ob (by omega), o _ (by omega), o _ (by omega), o _ (by omega)]
    exact a3 p hp
  · rw [q _ (by omega)]; exact b1
  · rw [q _ (by omega)]; exact b2
  · rw [q _ (by omega), b3]
    refine orTo_congr 8 fun k hk => ?_
    unfold upB falB
    rw [o _ (by omega)]
  · rw [q 16 (by omega), q 17 (by omega), o 2 (by omega), o 9 (by omega), up1_at]
    rcases hp with ⟨rfl, rfl⟩ | ⟨rfl, rfl⟩ | ⟨rfl, rfl⟩ | ⟨rfl, rfl⟩
    · rw [upd_at, upd_at, upd_ob (by decide), upd_ob (by decide), upd_ob (by decide), upd_ob (by decide), upd_ob (by decide), upd_ob (by decide)]
      exact ⟨rfl, c2, c3, c4, c5, c6⟩
    · rw [upd_at, upd_at, upd_ob (by decide), upd_ob (by decide), upd_ob (by decide), upd_ob (by decide), upd_ob (by decide), upd_ob (by decide)]
      exact ⟨c1, rfl, c3, c4, c5, c6⟩
    · rw [upd_at, upd_at, upd_ob (by decide), upd_ob (by decide), upd_ob (by decide), upd_ob (by decide), upd_ob (by decide), upd_ob (by decide)]
      exact ⟨c1, c2, rfl, c4, c5, c6⟩
    · rw [upd_at, upd_at, upd_ob (by decide), upd_ob (by decide), upd_ob (by decide), upd_ob (by decide), upd_ob (by decide), upd_ob (by decide)]
      exact ⟨c1, c2, c3, rfl, c5, c6⟩
theorem num_Gd {j x : Nat} (hj : (j = 4 ∧ x ≤ 6) ∨ (j = 5 ∧ x ≤ 999) ∨ (j = 6 ∧ x ≤ 100) ∨ (j = 7 ∧ x ≤ 99)) (G : Gd n m w) : Gd n m (upd w j (nI x)) := by
  obtain ⟨⟨gn0, gn1, gn2, gn3, gnL⟩, g1, g2, g3, g4, g5, g6, g7, g9, g8⟩ := G
  have o : ∀ k, (k < 4 ∨ 7 < k) → upd w j (nI x) k = w k := fun k hk => upd_ob (by omega)
  have hf : ∀ k, falB (upd w j (nI x)) k = falB w k := fun k => by unfold falB; rw [o _ (by omega)]
  have hu : ∀ k, upB n (upd w j (nI x)) k = upB n w k := fun k => by unfold upB; rw [hf]
  have bq : ∀ k B, bd w k B → (k = j → x ≤ B) → bd (upd w j (nI x)) k B := fun k B hb hx => by
    by_cases c : k = j
    · exact ⟨x, hx c, by rw [c, upd_at]⟩
    · exact bd_eq (upd_ob c) hb
  refine ⟨⟨by rw [o 0 (by omega)]; exact gn0, gn1, by rw [o 1 (by omega)]; exact gn2, gn3, GdL_cg (fun k hk => o k (by omega)) gnL⟩, fun i hi => ?_, fun i l hi hl => ?_, fun p hp => ?_, bq _ _ g4 (by omega), bq _ _ g5 (by omega), bq _ _ g6 (by omega), bq _ _ g7 (by omega), bd_eq (o _ (by omega)) g9, bd_eq (o _ (by omega)) g8⟩
  · obtain ⟨x0, x1, x2, x3, x4⟩ := g1 i hi
    exact ⟨bd_eq (o _ (by omega)) x0, bd_eq (o _ (by omega)) x1, bd_eq (o _ (by omega)) x2, bd_eq (o _ (by omega)) x3, bd_eq (o _ (by omega)) x4⟩
  · obtain ⟨x, y⟩ := g2 i l hi hl
    refine ⟨bd_eq (o _ (by omega)) x, fun q => ?_⟩
    rw [hu, hu] at q
    rw [o _ (by omega)]
    exact y q
  · obtain ⟨x, y, z⟩ := g3 p hp
    refine ⟨?_, bd_eq (o _ (by omega)) y, bd_eq (o _ (by omega)) z⟩
    rw [o _ (by omega)]
    exact x.imp id fun ⟨i, l, f, e⟩ => ⟨i, l, by rw [hf]; exact f, e⟩
theorem CIo_tr {u1 g1 : Hp} {cl ml : Option (Bool × Hp)} (F : FRc u u1) (M : FRm g g1) (h : CIo b L w u1 g1 cl ml) : CIo b L w u g cl ml := by
  rcases h with ⟨u', g', f', n', m', w', e1, e2, H, R, K, M', s⟩ | ⟨u', g', x, e1, e2, x1, x2, R, K, M'⟩
  · exact Or.inl ⟨u', g', f', n', m', w', e1, e2, H, R, FKc_trans (FKc_of F) K, FKm_trans (FKm_of M) M', s.trans F.2.2⟩
  · exact Or.inr ⟨u', g', x, e1, e2, x1, x2, R, FKc_trans (FKc_of F) K, FKm_trans (FKm_of M) M'⟩
theorem CIo_m {cl ml cl' ml' : Option (Bool × Hp)} (hc : ∀ r, cl = some r → cl' = some r) (hm : ∀ r, ml = some r → ml' = some r) (h : CIo b L w u g cl ml) : CIo b L w u g cl' ml' := by
  rcases h with ⟨u', g', f', n', m', w', e1, e2, H, R, K, M', s⟩ | ⟨u', g', x, e1, e2, x1, x2, R, K, M'⟩
  · exact Or.inl ⟨u', g', f', n', m', w', hc _ e1, hm _ e2, H, R, K, M', s⟩
  · exact Or.inr ⟨u', g', x, hc _ e1, hm _ e2, x1, x2, R, K, M'⟩
theorem wr1 {cl : Option (Bool × Hp)} : ∀ r, cl = some r → Option.bind cl (fun r => some (r.1, r.2)) = some r := fun r e => by rw [e]; rfl
theorem wr2 {cl : Option (Bool × Hp)} : ∀ r, cl = some r → Option.bind cl (fun r => if r.1 then some (true, r.2) else some (false, r.2)) = some r := fun r e => by
  rw [e]
  obtain ⟨v, h⟩ := r
  cases v <;> rfl
theorem J_num {i j lo h1 : Nat} {lo' hi' : Int32} (hp : prN i j) (hb : ∀ v, v < h1 → (j = 4 ∧ v ≤ 6) ∨ (j = 5 ∧ v ≤ 999) ∨ (j = 6 ∧ v ≤ 100) ∨ (j = 7 ∧ v ≤ 99)) (elo : lo' = nI lo) (ehi : hi' = nI h1 - 1) (hlo : lo ≤ 1000) (hh : h1 ≤ 1000) (H : ST b L n m w f u g) :
    CIo b L w u g (Option.bind (f_X10_takeNumber lo' hi' u) fun r => bnd (up1 r.2 116 i r.1) fun h => if (h 116 i) = (-1) then some (false, h) else some (true, h)) (f_X12_readNumber (nI j) lo' hi' g) := by
  have e31 := H.2.2.2.2.1
  have j7 : j ≤ 7 := by unfold prN at hp; omega
  have i2 : 116 ≠ 2 := by decide
  unfold f_X12_readNumber F_X12_readNumber_29
  rcases j_num elo ehi hlo hh H with ⟨v, u1, g1, f1, ⟨v1, v2⟩, cK, mK, H1, Fc1, Fm1⟩ | ⟨u1, g1, x, cK, mK, x1, x2, K, M⟩
  · have cK := cK (fun t h => bnd (up1 h 116 i t) fun h => if (h 116 i) = (-1) then some (false, h) else some (true, h))
    have mK := mK (fun t h => if t < 0 then gd (ix (nI j) 2190) (gd (ix (nI j) 2190) (bnd (up1 h 31 (nI j).toNatClampNeg (h 31 (nI j).toNatClampNeg)) fun h_2 => if t < 0 then some (false, h_2) else some (true, h_2))) else gd (ix (nI j) 2190) (bnd (up1 h 31 (nI j).toNatClampNeg t) fun h_2 => if t < 0 then some (false, h_2) else some (true, h_2)))
    dsimp only at cK mK
    rw [cK, mK, bnd_eq, up1_same, if_neg (nI_np (by omega)), if_neg (nI_pos (by omega)), gdT (nI_ix (by omega) (by omega)), bnd_eq, nI_clamp (by omega), if_neg (nI_pos (by omega))]
    have x31 : g1 31 = w := H1.2.2.2.2.1
    refine Or.inl ⟨_, _, f1, n, m, upd w j (nI v), rfl, rfl, ST_w H1 (up1_ob (by decide)) (up1_ob (by decide)) (up1_ob (by decide)) (up1_ob (by decide)) (by rw [up1_at, x31]) (num_CV hp H1.2.2.2.2.2.1) (num_Gd (hb v v2) H1.2.2.2.2.2.2), fun k hk => upd_ob (by unfold prN at hp; omega), ?_, ?_, by rw [up1_ob (by decide)]; exact Fc1.2.2⟩
    · exact FKc_trans (FKc_of Fc1) ⟨fun k _ hk => up1_ob (by omega), by rw [up1_ob (by decide)]⟩
    · exact FKm_trans (FKm_of Fm1) FKm_31
  · have cK := cK (fun t h => bnd (up1 h 116 i t) fun h => if (h 116 i) = (-1) then some (false, h) else some (true, h))
    have mK := mK (fun t h => if t < 0 then gd (ix (nI j) 2190) (gd (ix (nI j) 2190) (bnd (up1 h 31 (nI j).toNatClampNeg (h 31 (nI j).toNatClampNeg)) fun h_2 => if t < 0 then some (false, h_2) else some (true, h_2))) else gd (ix (nI j) 2190) (bnd (up1 h 31 (nI j).toNatClampNeg t) fun h_2 => if t < 0 then some (false, h_2) else some (true, h_2)))
    dsimp only at cK mK
    rw [cK, mK, bnd_eq, up1_same, if_pos rfl, if_pos (by decide), gdT (nI_ix (by omega) (by omega)), gdT (nI_ix (by omega) (by omega)), bnd_eq, nI_clamp (by omega), if_pos (by decide)]
    have R := RWf M e31
    refine J_bad rfl rfl (by rw [up1_ob (by decide)]; exact x1) (by rw [up1_ob (by decide)]; exact x2) (fun k hk => ?_) (FKc_trans K ⟨fun k _ hk => up1_ob (by omega), by rw [up1_ob (by decide)]⟩) (FKm_trans (FKm_of M) FKm_31)
    rw [up1_at, upd_id]
    exact R k hk
end L9
