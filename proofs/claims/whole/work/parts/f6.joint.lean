/-! LAYER 4. texts: both readers side by side -/
def FKc (u u' : Hp) : Prop := (∀ k, k ≠ 2 → (k < 116 ∨ 124 < k) → u' k = u k) ∧ u' 2 1 = u 2 1
def FKm (g g' : Hp) : Prop := (∀ k, k ≠ 30 → k ≠ 31 → g' k = g k) ∧ ∀ i, i ≠ 12 → i ≠ 14 → g' 30 i = g 30 i
def RWk (w w' : Row) : Prop := ∀ k, (k = 2 ∨ k = 3 ∨ k = 8 ∨ k = 9 ∨ 132 ≤ k) → w' k = w k
theorem FKc_refl (u : Hp) : FKc u u := ⟨fun _ _ _ => rfl, rfl⟩
theorem FKm_refl (g : Hp) : FKm g g := ⟨fun _ _ _ => rfl, fun _ _ _ => rfl⟩
theorem RWk_refl (w : Row) : RWk w w := fun _ _ => rfl
theorem FKc_trans {a c d : Hp} (x : FKc a c) (y : FKc c d) : FKc a d := ⟨fun k h1 h2 => (y.1 k h1 h2).trans (x.1 k h1 h2), y.2.trans x.2⟩
theorem FKm_trans {a c d : Hp} (x : FKm a c) (y : FKm c d) : FKm a d := ⟨fun k h1 h2 => (y.1 k h1 h2).trans (x.1 k h1 h2), fun i h1 h2 => (y.2 i h1 h2).trans (x.2 i h1 h2)⟩
theorem RWk_trans {a c d : Row} (x : RWk a c) (y : RWk c d) : RWk a d := fun k h => (y k h).trans (x k h)
theorem FKc_of {u u' : Hp} (F : FRc u u') : FKc u u' := ⟨fun k h _ => F.1 k h, F.2.1⟩
theorem FKm_of {g g' : Hp} (F : FRm g g') : FKm g g' := ⟨fun k h _ => F.1 k h, F.2⟩
theorem FKc_22 {u : Hp} {v : Int32} : FKc u (up1 u 2 2 v) := ⟨fun k h _ => up1_ob h, by rw [up1_at, upd_ob (by decide)]⟩
theorem FKm_31 {g : Hp} {i : Nat} {v : Int32} : FKm g (up1 g 31 i v) := ⟨fun k _ h => up1_ob h, fun i _ _ => by rw [up1_ob (by decide)]⟩
section JJ
variable {b : Nat → Nat} {L f n m : Nat} {u g : Hp} {w : Row}
def ST (b : Nat → Nat) (L n m : Nat) (w : Row) (f : Nat) (u g : Hp) : Prop := LXc b L u ∧ TKc b L f u ∧ LXm b L g ∧ (∃ p, PTm b L p f g) ∧ g 31 = w ∧ CV0 116 u n m w ∧ Gd n m w
theorem ST_mv {u' g' : Hp} {f' p' : Nat} (H : ST b L n m w f u g) (T' : TKc b L f' u') (F : FRc u u') (P' : PTm b L p' f' g') (Fm : FRm g g') : ST b L n m w f' u' g' :=
  ⟨FRc_LX F H.1, T', FRm_LX Fm H.2.2.1, ⟨p', P'⟩, by rw [Fm.1 31 (by decide)]; exact H.2.2.2.2.1, CV0_fr H.2.2.2.2.2.1 fun k x y => F.1 k (by omega), H.2.2.2.2.2.2⟩
/-- what a line's reading leaves -/
def CIo (b : Nat → Nat) (L : Nat) (w : Row) (u g : Hp) (cl ml : Option (Bool × Hp)) : Prop :=
  (∃ u' g' f' n' m' w', cl = some (true, u') ∧ ml = some (true, g') ∧ ST b L n' m' w' f' u' g' ∧ RWk w w' ∧ FKc u u' ∧ FKm g g' ∧ u' 2 2 = u 2 2) ∨
  (∃ u' g' x, cl = some (false, u') ∧ ml = some (false, g') ∧ u' 2 2 = nI x ∧ g' 30 14 = nI x ∧ RWk w (g' 31) ∧ FKc u u' ∧ FKm g g')
/-- what a number's reading leaves, told to what goes on -/
def JOk (b : Nat → Nat) (L n m : Nat) (w : Row) (u g : Hp) (P : Nat → Hp → Prop) (cK mK : (Int32 → Hp → Option (Bool × Hp)) → Option (Bool × Hp)) : Prop :=
  (∃ v u' g' f', P v g' ∧ (∀ C, cK C = C (nI v) u') ∧ (∀ D, mK D = D (nI v) g') ∧ ST b L n m w f' u' g' ∧ FRc u u' ∧ FRm g g') ∨
  (∃ u' g' x, (∀ C, cK C = C (-1) u') ∧ (∀ D, mK D = D (-1) g') ∧ u' 2 2 = nI x ∧ g' 30 14 = nI x ∧ FKc u u' ∧ FRm g g')
theorem J_bad {u0 g0 u' g' : Hp} {x : Nat} {cl ml : Option (Bool × Hp)} (e1 : cl = some (false, u')) (e2 : ml = some (false, g')) (x1 : u' 2 2 = nI x) (x2 : g' 30 14 = nI x) (R : RWk w (g' 31)) (K : FKc u0 u') (M : FKm g0 g') : CIo b L w u0 g0 cl ml := Or.inr ⟨u', g', x, e1, e2, x1, x2, R, K, M⟩
theorem j_num {lo h1 : Nat} {lo' hi' : Int32} (elo : lo' = nI lo) (ehi : hi' = nI h1 - 1) (hlo : lo ≤ 1000) (hh : h1 ≤ 1000) (H : ST b L n m w f u g) :
    JOk b L n m w u g (fun v _ => lo ≤ v ∧ v < h1) (fun C => Option.bind (f_X10_takeNumber lo' hi' u) fun r => C r.1 r.2) (fun D => Option.bind (f_X12_number lo' hi' g) fun r => D r.1 r.2) := by
  obtain ⟨X, T, Xm, ⟨p, P⟩, _⟩ := id H
  obtain ⟨g', e', h14, Fm, hp⟩ := m_num hlo hh Xm P
  obtain ⟨A, B⟩ := c_number hlo hh X T
  rw [← elo, ← ehi] at e' A B
  cases c : nbB b L f lo h1
  · refine Or.inr ⟨up1 u 2 2 (nI f), g', f, fun C => by dsimp only; rw [B c, obS], fun D => by dsimp only; rw [e', obS, nb_no c], up1_same, h14, FKc_22, Fm⟩
  · obtain ⟨u', e, T', F⟩ := A c
    obtain ⟨v1, v2, v3⟩ := nb_np c
    exact Or.inl ⟨_, u', g', _, ⟨v2, v3⟩, fun C => by dsimp only; rw [e, obS], fun D => by dsimp only; rw [e', obS, v1], ST_mv H T' F (hp c) Fm, F, Fm⟩
theorem j_need {kc km lo h1 : Nat} {wd : List Nat} {lo' hi' : Int32} (Sc : isS kc [wd]) (Sm : isS km [wd]) (elo : lo' = nI lo) (ehi : hi' = nI h1 - 1) (hlo : lo ≤ 1000) (hh : h1 ≤ 1000) (H : ST b L n m w f u g) :
    JOk b L n m w u g (fun v _ => lo ≤ v ∧ v < h1) (fun C => Option.bind (f_X10_needs kc u) fun r => if r.1 then Option.bind (f_X10_takeNumber lo' hi' r.2) fun r5 => C r5.1 r5.2 else C (-1) r.2) (fun D => Option.bind (f_X12_after km lo' hi' g) fun r => D r.1 r.2) := by
  obtain ⟨X, T, Xm, ⟨p, P⟩, _⟩ := id H
  obtain ⟨A, B⟩ := c_needs Sc X T
  obtain ⟨A', B'⟩ := m_after Sm hlo hh Xm P
  rw [← elo, ← ehi] at A' B'
  cases c : wdB b L wd f
  · obtain ⟨g', e', h14, Fm⟩ := B' c
    exact Or.inr ⟨up1 u 2 2 (nI f), g', f, fun C => by dsimp only; rw [B c, obS]; rfl, fun D => by dsimp only; rw [e', obS], up1_same, h14, FKc_22, Fm⟩
  · obtain ⟨u1, e1, T1, F1⟩ := A c
    obtain ⟨g', e', h14, Fm, hp⟩ := A' c
    obtain ⟨A2, B2⟩ := c_number (u := u1) hlo hh (FRc_LX F1 X) T1
    rw [← elo, ← ehi] at A2 B2
    cases d : nbB b L (nxN b L f) lo h1
    · refine Or.inr ⟨up1 u1 2 2 (nI (nxN b L f)), g', nxN b L f, fun C => by dsimp only; rw [e1, obS, ttt, B2 d, obS], fun D => by dsimp only; rw [e', obS, nb_no d], up1_same, h14, FKc_trans (FKc_of F1) FKc_22, Fm⟩
    · obtain ⟨u', e, T', F⟩ := A2 d
      obtain ⟨v1, v2, v3⟩ := nb_np d
      exact Or.inl ⟨_, u', g', _, ⟨v2, v3⟩, fun C => by dsimp only; rw [e1, obS, ttt, e, obS], fun D => by dsimp only; rw [e', obS, v1], ST_mv H T' (FRc_trans F1 F) (hp d) Fm, FRc_trans F1 F, Fm⟩
theorem j_opt {kc km h1 : Nat} {wd : List Nat} {hi' : Int32} (Sc : isS kc [wd]) (Sm : isS km [wd]) (ehi : hi' = nI h1 - 1) (h0 : 0 < h1) (hh : h1 ≤ 1000) (H : ST b L n m w f u g) :
    JOk b L n m w u g (fun v _ => v < h1) (fun C => Option.bind (f_X10_takes kc u) fun r => if r.1 then Option.bind (f_X10_takeNumber 0 hi' r.2) fun r5 => C r5.1 r5.2 else C 0 r.2) (fun D => Option.bind (f_X12_passes km g) fun r => if r.1 then Option.bind (f_X12_number 0 hi' r.2) fun r5 => D r5.1 r5.2 else D 0 r.2) := by
  obtain ⟨X, T, Xm, ⟨p, P⟩, _⟩ := id H
  obtain ⟨A, B⟩ := c_takes Sc X T
  obtain ⟨A', B'⟩ := m_passes Sm Xm P
  cases c : wdB b L wd f
  · obtain ⟨g', e', P', h14, Fm⟩ := B' c
    exact Or.inl ⟨0, u, g', f, h0, fun C => by dsimp only; rw [B c, obS]; rfl, fun D => by dsimp only; rw [e', obS]; rfl, ST_mv H T (FRc_refl u) P' Fm, FRc_refl u, Fm⟩
  · obtain ⟨u1, e1, T1, F1⟩ := A c
    obtain ⟨g1, e1', P1, h14, Fm1⟩ := A' c
    rcases j_num (lo := 0) rfl ehi (by omega) hh (ST_mv H T1 F1 P1 Fm1) with ⟨v, u', g', f', ⟨_, v2⟩, cK, mK, H', F', Fm'⟩ | ⟨u', g', x, cK, mK, x1, x2, F', Fm'⟩
    · exact Or.inl ⟨v, u', g', f', v2, fun C => by dsimp only; rw [e1, obS, ttt]; exact cK C, fun D => by dsimp only; rw [e1', obS, ttt]; exact mK D, H', FRc_trans F1 F', FRm_trans Fm1 Fm'⟩
    · exact Or.inr ⟨u', g', x, fun C => by dsimp only; rw [e1, obS, ttt]; exact cK C, fun D => by dsimp only; rw [e1', obS, ttt]; exact mK D, x1, x2, FKc_trans (FKc_of F1) F', FRm_trans Fm1 Fm'⟩
theorem j_days {kc km : Nat} {wd : List Nat} (Sc : isS kc [wd]) (Sm : isS km [wd]) (H : ST b L n m w f u g) :
    JOk b L n m w u g (fun v _ => v ≤ 127) (fun C => Option.bind (f_X10_takes kc u) fun r => if r.1 then Option.bind (f_X10_takeDays r.2) fun r5 => C r5.1 r5.2 else C 127 r.2) (fun D => Option.bind (f_X12_passes km g) fun r => if r.1 then Option.bind (f_X12_figures r.2) fun r5 => D r5.1 r5.2 else D 127 r.2) := by
  obtain ⟨X, T, Xm, ⟨p, P⟩, _⟩ := id H
  obtain ⟨A, B⟩ := c_takes Sc X T
  obtain ⟨A', B'⟩ := m_passes Sm Xm P
  cases c : wdB b L wd f
  · obtain ⟨g', e', P', h14, Fm⟩ := B' c
    exact Or.inl ⟨127, u, g', f, Nat.le_refl _, fun C => by dsimp only; rw [B c, obS]; rfl, fun D => by dsimp only; rw [e', obS]; rfl, ST_mv H T (FRc_refl u) P' Fm, FRc_refl u, Fm⟩
  · obtain ⟨u1, e1, T1, F1⟩ := A c
    obtain ⟨g1, e1', P1, h14, Fm1⟩ := A' c
    obtain ⟨A2, B2⟩ := c_days (FRc_LX F1 X) T1
    obtain ⟨g2, e2', x14, Fm2, hp⟩ := m_figures (FRm_LX Fm1 Xm) P1
    cases d : dyK b L (nxN b L f) 7
    · refine Or.inr ⟨up1 u1 2 2 (nI (nxN b L f)), g2, nxN b L f, fun C => by dsimp only; rw [e1, obS, ttt, B2 d, obS], fun D => by dsimp only; rw [e1', obS, ttt, e2', obS, d, tff], up1_same, x14, FKc_trans (FKc_of F1) FKc_22, FRm_trans Fm1 Fm2⟩
    · obtain ⟨u', e, T', F⟩ := A2 d
      obtain ⟨k, k1, k2⟩ := dy_127 (b := b) (f := nxN b L f)
      exact Or.inl ⟨k, u', g2, _, k1, fun C => by dsimp only; rw [e1, obS, ttt, e, obS, k2], fun D => by dsimp only; rw [e1', obS, ttt, e2', obS, d, ttt, k2], ST_mv H T' (FRc_trans F1 F) (hp d) (FRm_trans Fm1 Fm2), FRc_trans F1 F, FRm_trans Fm1 Fm2⟩
theorem j_stand (H : ST b L n m w f u g) :
    JOk b L n m w u g (fun v q => upB n w v = true ∧ q 30 14 = nI f) (fun C => Option.bind (f_X2_readStanding 116 u) fun r => C r.1 r.2) (fun D => Option.bind (f_X12_houseTold g) fun r => D r.1 r.2) := by
  obtain ⟨X, T, Xm, ⟨p, P⟩, e31, V, G⟩ := id H
  have h8 := G.1.2.1
  have c9 : u 116 9 = nI n := V.2.2.2.1.1
  have g0 : f_X12_houses g = nI n := by rw [m_houses, e31]; exact G.1.1
  obtain ⟨A, B⟩ := c_number (lo := 0) (h1 := n) (by omega) (by omega) X T
  obtain ⟨g', e', h14, Fm, hp⟩ := m_num (lo := 0) (h1 := n) (by omega) (by omega) Xm P
  have A : nbB b L f 0 n = true → ∃ u', f_X10_takeNumber 0 (nI n - 1) u = some (nI (vcN b 48 f (dEn b L f - f)), u') ∧ TKc b L (nxN b L f) u' ∧ FRc u u' := A
  have B : nbB b L f 0 n = false → f_X10_takeNumber 0 (nI n - 1) u = some (-1, up1 u 2 2 (nI f)) := B
  have e' : f_X12_number 0 (nI n - 1) g = some (nbV b L f 0 n, g') := e'
  cases c : nbB b L f 0 n
  · refine Or.inr ⟨up1 u 2 2 (nI f), g', f, fun C => ?_, fun D => ?_, up1_same, h14, FKc_22, Fm⟩
    · dsimp only
      unfold f_X2_readStanding
      rw [c9, B c, obS, if_pos rfl, obS]
    · dsimp only
      unfold f_X12_houseTold
      rw [g0, e', obS, nb_no c, if_pos (show (-1 : Int32) < 0 by decide), obS]
  · obtain ⟨u', e, T', F⟩ := A c
    obtain ⟨v1, v2, v3⟩ := nb_np c
    have H' := ST_mv H T' F (hp c) Fm
    obtain ⟨v, hv⟩ : ∃ v, vcN b 48 f (dEn b L f - f) = v := ⟨_, rfl⟩
    rw [hv] at e v1 v3
    have iu : f_X1_isUp 116 (nI v) u' = upB n w v := c_isUp H'.2.2.2.2.2.1 h8 (by omega)
    have fl : f_X12_isFallen (nI v) g' = some (falB w v) := by rw [m_isF (by omega), H'.2.2.2.2.1]
    have un : ¬ nI v = -1 := nI_np (by omega)
    have gn : ¬ nI v < 0 := nI_pos (by omega)
    have u23 : u 2 3 = nI f := T.2.1
    have uf := up_fal (w := w) v3
    cases q : falB w v
    · refine Or.inl ⟨v, u', g', _, ⟨by rw [uf, q]; rfl, h14⟩, fun C => ?_, fun D => ?_, H', F, Fm⟩
      · dsimp only
        unfold f_X2_readStanding
        rw [c9, e, obS, if_neg un]
        dsimp only
        rw [iu, uf, q, Bool.not_false, ttt, obS]
      · dsimp only
        unfold f_X12_houseTold
        rw [g0, e', obS, v1, if_neg gn]
        dsimp only
        rw [fl, q, obS, tff, obS]
    · refine Or.inr ⟨up1 u' 2 2 (nI f), g', f, fun C => ?_, fun D => ?_, up1_same, h14, FKc_trans (FKc_of F) FKc_22, Fm⟩
      · dsimp only
        unfold f_X2_readStanding f_X10_failAt
        rw [c9, e, obS, if_neg un]
        dsimp only
        rw [iu, uf, q, Bool.not_true, tff, u23, bnd_eq, obS, obS]
      · dsimp only
        unfold f_X12_houseTold
        rw [g0, e', obS, v1, if_neg gn]
        dsimp only
        rw [fl, q, obS, ttt, obS]
end JJ
