/-! LAYER 4. spare of the model -/
def orE (n m : Nat) (w : Row) (p : Nat) : Nat → Int32
  | 0 => 0
  | e + 1 => orE n m w p e ||| ndV n m w (nI e) p
theorem or_0 {x y : Int32} : (x ||| y = 0) ↔ (x = 0 ∧ y = 0) := by
  constructor
  · intro q
    have t : ∀ k, k < 32 → (tb x k || tb y k) = false := fun k hk => by rw [← tb_or, q, tb_0]
    exact ⟨tb_ext fun k hk => by rw [tb_0]; exact (Bool.or_eq_false_iff.mp (t k hk)).1, tb_ext fun k hk => by rw [tb_0]; exact (Bool.or_eq_false_iff.mp (t k hk)).2⟩
  · rintro ⟨rfl, rfl⟩; rfl
theorem orE_0 {n m p : Nat} {w : Row} : ∀ e, (orE n m w p e = 0) ↔ spB n m w e p = true
  | 0 => ⟨fun _ => rfl, fun _ => rfl⟩
  | e + 1 => by
    show (orE n m w p e ||| ndV n m w (nI e) p = 0) ↔ (spB n m w e p && decide (ndV n m w (nI e) p = 0)) = true
    rw [or_0, orE_0 e, Bool.and_eq_true, decide_eq_true_iff]
theorem m_spare {h : Hp} {n m : Nat} (g : Gd n m (h 31)) (h21 : h 30 21 = 0) : ∃ h1, f_X12_spare h = some (orTo (spB n m (h 31) 7) m, h1) ∧ KM h h1 := by
  have h6 := g.1.2.2.2.1
  have Q := loopW S_X12_spare_9 (fun _ _ _ => none) (fun q (s : Nat × Hp) => q (orTo (spB n m (h 31) 7) s.1) (nI s.1) s.2) m (fun j s => s.1 = j ∧ KM h s.2)
    (fun r => ∃ h1, r = some (orTo (spB n m (h 31) 7) m, h1) ∧ KM h h1) (by omega) (fun j s hj hs => ?_) (fun s hs => ?_) (0, up1 h 30 0 0) ⟨rfl, KM_0⟩
  · unfold f_X12_spare
    rw [bnd_eq]
    exact Q
  · obtain ⟨j', u⟩ := s
    dsimp only at hs
    obtain ⟨hj', K⟩ := hs
    obtain rfl : j' = j := hj'
    have u31 : u 31 = h 31 := K.1 31 (by omega)
    obtain ⟨X, hX⟩ : ∃ X, orTo (spB n m (h 31) 7) j' = X := ⟨_, rfl⟩
    have inner := loopQ (fun (c : Int32 → Int32 → Hp → Option (Int32 × Hp)) k => F_X12_spare_22 c X (nI j') k) (fun c q => S_X12_spare_22 c X (nI j') q) (fun c k => rfl) (fun q (s : Nat × Hp) => q (orE n m (h 31) j' s.1) (nI s.1) s.2) 7
      (fun i s => s.1 = i ∧ KM h s.2) (fun r => ∃ h1, KM h h1 ∧ r = fun c => c (X ||| (if spB n m (h 31) 7 j' = true then shl 1 (nI j') else 0)) (nI (j' + 1)) h1) (by omega) (fun i s hi hs => ?_) (fun s hs => ?_) (0, u) ⟨rfl, K⟩
    · obtain ⟨u', K', e'⟩ := inner
      refine ⟨(j' + 1, u'), ⟨rfl, K'⟩, fun q => ?_⟩
      show S_X12_spare_9 q (orTo (spB n m (h 31) 7) j') (nI j') u = q (orTo (spB n m (h 31) 7) j' ||| (if spB n m (h 31) 7 j' = true then shl 1 (nI j') else 0)) (nI (j' + 1)) u'
      have t := congrFun e' q
      dsimp only at t
      rw [hX]
      unfold S_X12_spare_9
      rw [m_people, u31, itP g.1.2.2.1 hj (by omega)]
      exact t
    · obtain ⟨i', v⟩ := s
      dsimp only at hs
      obtain ⟨hi', Kv⟩ := hs
      obtain rfl : i' = i := hi'
      have v31 : v 31 = h 31 := Kv.1 31 (by omega)
      obtain ⟨v', e2, K2, _⟩ := m_needsOf (h := v) (n := n) (m := m) (p := j') (e := nI i') (by rw [v31]; exact g) (by rw [Kv.2 21 (by decide) (by decide) (by decide)]; exact h21) hj
      rw [v31] at e2
      refine Or.inl ⟨(i' + 1, v'), ⟨rfl, KM_trans Kv K2⟩, fun c q => ?_⟩
      show S_X12_spare_22 c X (nI j') q (orE n m (h 31) j' i') (nI i') v = q (orE n m (h 31) j' i' ||| ndV n m (h 31) (nI i') j') (nI (i' + 1)) v'
      unfold S_X12_spare_22
      rw [show (7 : Int32) = nI 7 from rfl, if_pos ((nI_ltI (by omega) (by omega)).mpr hi), e2, obS, bnd_eq, nI_1]
    · obtain ⟨i', v⟩ := s
      dsimp only at hs
      obtain ⟨hi', Kv⟩ := hs
      obtain rfl : i' = 7 := hi'
      refine ⟨_, ⟨v, Kv, rfl⟩, fun c q => ?_⟩
      show S_X12_spare_22 c X (nI j') q (orE n m (h 31) j' 7) (nI 7) v = c (X ||| (if spB n m (h 31) 7 j' = true then shl 1 (nI j') else 0)) (nI (j' + 1)) v
      unfold S_X12_spare_22 F_X12_spare_57
      rw [show (7 : Int32) = nI 7 from rfl, if_neg (by decide)]
      by_cases z : orE n m (h 31) j' 7 = 0
      · rw [if_pos z, bnd_eq, nI_1, (orE_0 7).mp z, ttt]
      · rw [if_neg z, bnd_eq, nI_1, if_neg (fun y => z ((orE_0 7).mpr y))]
  · obtain ⟨j', u⟩ := s
    dsimp only at hs
    obtain ⟨hj', K⟩ := hs
    obtain rfl : m = j' := hj'.symm
    have u31 : u 31 = h 31 := K.1 31 (by omega)
    refine ⟨_, ⟨u, rfl, K⟩, fun q => ?_⟩
    show S_X12_spare_9 q (orTo (spB n m (h 31) 7) m) (nI m) u = _
    unfold S_X12_spare_9
    rw [m_people, u31, itN g.1.2.2.1 (by omega)]
theorem sp_20 {a : Nat → Int32} {h : Hp} (I : Inv h) : ∃ h' n, St_20 a h h' n ∧ n ≤ 1 ∧ Inv h' := by
  obtain ⟨⟨n, m, N⟩, _⟩ := id I
  exact qNo (c := f_X11_spare) (md := f_X12_spare) (v := orTo (spB n m (h 31) 7) m) I (c_spare N) (fun g J ge => by
    have e31 : g 31 = h 31 := ge 31 (by omega) (by omega)
    obtain ⟨h1, e, K⟩ := m_spare (h := g) (n := n) (m := m) (by rw [e31]; exact N.1) J.2.2.2.2
    rw [e31] at e
    exact ⟨h1, e, K⟩)
