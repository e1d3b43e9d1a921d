/-! LAYER 4. texts: the lines of a city -/
section LN
variable {b : Nat → Nat} {L f n m : Nat} {u g : Hp} {w : Row}
theorem RWf {g g' : Hp} (F : FRm g g') (e : g 31 = w) : RWk w (g' 31) := by rw [F.1 31 (by decide), e]; exact RWk_refl w
theorem ST_w {u' g' : Hp} {n' m' : Nat} {w' : Row} (H : ST b L n m w f u g) (f2 : u' 2 = u 2) (f3 : u' 3 = u 3) (f30 : g' 30 = g 30) (f38 : g' 38 = g 38) (e : g' 31 = w') (V : CV0 116 u' n' m' w') (G : Gd n' m' w') : ST b L n' m' w' f u' g' := by
  obtain ⟨X, T, Xm, ⟨p, P⟩, _⟩ := H
  refine ⟨⟨X.1, by rw [f2]; exact X.2.1, fun i hi => by rw [f3]; exact X.2.2 i hi⟩, ?_, ⟨Xm.1, by rw [f30]; exact Xm.2.1, fun i hi => by rw [f38]; exact Xm.2.2 i hi⟩, ⟨p, P.1, by rw [f30]; exact P.2.1, P.2.2⟩, e, V, G⟩
  unfold TKc at T ⊢
  rw [f2]; exact T
theorem bi_RW {a c d e : Int32} (hn : n < 8) : RWk w (biW n a c d e w) := fun k hk => bi_ob hn (by omega) (by omega) (by omega)
theorem J_house (H : ST b L n m w f u g) (hn : n < 8) : CIo b L w u g (f_X2_readHouse 116 u) (f_X12_readHouse g) := by
  have e31 := H.2.2.2.2.1
  have g0 : f_X12_houses g = nI n := by rw [m_houses, e31]; exact H.2.2.2.2.2.2.1.1
  have M0 : f_X12_readHouse g = Option.bind (f_X12_after 1017 1 99 g) fun r => if r.1 < 0 then F_X12_readHouse_41 (nI n) r.1 (-1) r.2 else Option.bind (f_X12_after 1018 0 999 r.2) fun r7 => F_X12_readHouse_41 (nI n) r.1 r7.1 r7.2 := by
    unfold f_X12_readHouse
    rw [g0, bnd_eq, if_neg (show ¬ nI n = 8 from fun z => by have := (nI_eq (b := 8) (by omega) (by omega)).mp z; omega)]
  rcases j_need (lo := 1) (h1 := 100) (lo' := 1) (hi' := 99) s_1001 s_1017 rfl (by decide) (by omega) (by omega) H with ⟨a, u1, g1, f1, ⟨a1, a2⟩, cK, mK, H1, Fc1, Fm1⟩ | ⟨u1, g1, x, cK, mK, x1, x2, K, M⟩
  · have e1 : f_X2_readHouse 116 u = F_X2_readHouse_20 116 (nI a) u1 := cK (F_X2_readHouse_20 116)
    have e2 : f_X12_readHouse g = Option.bind (f_X12_after 1018 0 999 g1) fun r7 => F_X12_readHouse_41 (nI n) (nI a) r7.1 r7.2 :=
      M0.trans ((mK (fun t h => if t < 0 then F_X12_readHouse_41 (nI n) t (-1) h else Option.bind (f_X12_after 1018 0 999 h) fun r7 => F_X12_readHouse_41 (nI n) t r7.1 r7.2)).trans (if_neg (nI_pos (by omega))))
    rw [e1, e2]
    rcases j_need (lo := 0) (h1 := 1000) (lo' := 0) (hi' := 999) s_1002 s_1018 rfl (by decide) (by omega) (by omega) H1 with ⟨c, u2, g2, f2, ⟨_, c2⟩, cK, mK, H2, Fc2, Fm2⟩ | ⟨u2, g2, x, cK, mK, x1, x2, K, M⟩
    · have Fc2 := FRc_trans Fc1 Fc2
      have Fm2 := FRm_trans Fm1 Fm2
      have e1 : F_X2_readHouse_20 116 (nI a) u1 = F_X2_readHouse_49 116 (nI a) (nI c) u2 := by
        unfold F_X2_readHouse_20
        rw [if_neg (nI_np (by omega))]
        exact cK (F_X2_readHouse_49 116 (nI a))
      have mK := mK (F_X12_readHouse_41 (nI n) (nI a))
      dsimp only at mK
      rw [e1, mK]
      unfold F_X2_readHouse_49 F_X12_readHouse_41
      rw [if_neg (nI_np (by omega)), if_neg (nI_pos (by omega))]
      rcases j_opt (h1 := 10) (hi' := 9) s_1003 s_1019 (by decide) (by omega) (by omega) H2 with ⟨d, u3, g3, f3, d2, cK, mK, H3, Fc3, Fm3⟩ | ⟨u3, g3, x, cK, mK, x1, x2, K, M⟩
      · have Fc3 := FRc_trans Fc2 Fc3
        have Fm3 := FRm_trans Fm2 Fm3
        have cK := cK (F_X2_readHouse_77 116 (nI a) (nI c))
        have mK := mK (F_X12_readHouse_68 (nI n) (nI a) (nI c))
        dsimp only at cK mK
        rw [cK, mK]
        unfold F_X2_readHouse_77 F_X12_readHouse_68
        rw [if_neg (nI_np (by omega)), if_neg (nI_pos (by omega))]
        rcases j_opt (h1 := 100) (hi' := 99) s_1004 s_1020 (by decide) (by omega) (by omega) H3 with ⟨e, u4, g4, f4, e2, cK, mK, H4, Fc4, Fm4⟩ | ⟨u4, g4, x, cK, mK, x1, x2, K, M⟩
        · have Fc4 := FRc_trans Fc3 Fc4
          have Fm4 := FRm_trans Fm3 Fm4
          have cK := cK (F_X2_readHouse_107 116 (nI a) (nI c) (nI d))
          have mK := mK (F_X12_readHouse_97 (nI n) (nI a) (nI c) (nI d))
          dsimp only at cK mK
          rw [cK, mK]
          unfold F_X2_readHouse_107 F_X12_readHouse_97
          obtain ⟨u5, c5, V5, F5⟩ := c_addHouse (x1 := nI a) (x2 := nI c) (x3 := nI d) (x4 := nI e) H4.2.2.2.2.2.1 H4.2.2.2.2.2.2 hn
          have x31 : g4 31 = w := H4.2.2.2.2.1
          have at_ : ∀ (x : Nat) (u : Hp), f_X12_at (nI n) (nI x) u = nI (74 + 5 * n + x) := fun x u => m_atI
          rw [if_neg (nI_np (by omega)), c5, obS, if_neg (show ¬ nI n = -1 from nI_np (by omega)), if_neg (nI_pos (by omega)), m_isBuilt (n := n) (by rw [x31]; exact H4.2.2.2.2.2.2.1.1) hn, obS,
            show ∀ u, f_X12_at (nI n) 2 u = nI (74 + 5 * n + 2) from at_ 2, gdT (nI_ix (by omega) (by omega)), bnd_eq, nI_clamp (by omega), show ∀ u, f_X12_at (nI n) 3 u = nI (74 + 5 * n + 3) from at_ 3, gdT (nI_ix (by omega) (by omega)), bnd_eq, nI_clamp (by omega), up1_upA, up1_upA, x31]
          refine Or.inl ⟨u5, _, f4, n + 1, m, biW n (nI a) (nI c) (nI d) (nI e) w, rfl, rfl, ST_w H4 (F5 2 (by omega)) (F5 3 (by omega)) (upA_ob (by decide)) (upA_ob (by decide)) upA_at V5 (bi_Gd H4.2.2.2.2.2.2 hn (by omega) (by omega) (by omega) (by omega)), bi_RW hn, ?_, ?_, by rw [F5 2 (by omega)]; exact Fc4.2.2⟩
          · exact FKc_trans (FKc_of Fc4) ⟨fun k _ hk => F5 k (by omega), by rw [F5 2 (by omega)]⟩
          · exact FKm_trans (FKm_of Fm4) ⟨fun k _ hk => upA_ob hk, fun i _ _ => by rw [upA_ob (by decide)]⟩
        · have cK := cK (F_X2_readHouse_107 116 (nI a) (nI c) (nI d))
          have mK := mK (F_X12_readHouse_97 (nI n) (nI a) (nI c) (nI d))
          dsimp only at cK mK
          rw [cK, mK]
          exact J_bad rfl rfl x1 x2 (RWf (FRm_trans Fm3 M) e31) (FKc_trans (FKc_of Fc3) K) (FKm_of (FRm_trans Fm3 M))
      · have cK := cK (F_X2_readHouse_77 116 (nI a) (nI c))
        have mK := mK (F_X12_readHouse_68 (nI n) (nI a) (nI c))
        dsimp only at cK mK
        rw [cK, mK]
        exact J_bad rfl rfl x1 x2 (RWf (FRm_trans Fm2 M) e31) (FKc_trans (FKc_of Fc2) K) (FKm_of (FRm_trans Fm2 M))
    · have e1 : F_X2_readHouse_20 116 (nI a) u1 = F_X2_readHouse_49 116 (nI a) (-1) u2 := by
        unfold F_X2_readHouse_20
        rw [if_neg (nI_np (by omega))]
        exact cK (F_X2_readHouse_49 116 (nI a))
      have mK := mK (F_X12_readHouse_41 (nI n) (nI a))
      dsimp only at mK
      rw [e1, mK]
      exact J_bad rfl rfl x1 x2 (RWf (FRm_trans Fm1 M) e31) (FKc_trans (FKc_of Fc1) K) (FKm_of (FRm_trans Fm1 M))
  · have e1 : f_X2_readHouse 116 u = F_X2_readHouse_20 116 (-1) u1 := cK (F_X2_readHouse_20 116)
    have e2 : f_X12_readHouse g = F_X12_readHouse_41 (nI n) (-1) (-1) g1 :=
      M0.trans ((mK (fun t h => if t < 0 then F_X12_readHouse_41 (nI n) t (-1) h else Option.bind (f_X12_after 1018 0 999 h) fun r7 => F_X12_readHouse_41 (nI n) t r7.1 r7.2)).trans (if_pos (by decide)))
    rw [e1, e2]
    exact J_bad rfl rfl x1 x2 (RWf M e31) K (FKm_of M)
end LN
