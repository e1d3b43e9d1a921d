/-! ASSEMBLY: the constructors' cells are those of the first heap -/
section CE
variable {l : Launch} {s : State} {ad : Nat → Nat} {D : va_G} {c : Nat → ClassId} {h : Hp}
theorem cell_ob {k m : Nat} (hc : cls k = m) (hm : m < 20) : cellE ((l, s, ad, D, c) : GX) h k = .inr (m, (List.range (nf m)).map fun i => if off m i = 0 then .int (h k i) else .ref (ad (k + off m i))) := by
  unfold cellE
  rw [hc, if_pos hm]
  congr 2
  refine List.map_congr_left fun i _ => ?_
  unfold fldV
  rw [hc]
theorem cell_ar {k t n : Nat} (hc : cls k = 20 + t) (ht : t < 3) (hn : alen k = n) : cellE ((l, s, ad, D, c) : GX) h k = .inl (c t, n, .inl (h k)) := by
  unfold cellE arrE
  rw [if_neg (by omega), if_neg (by omega), if_neg (by omega), hc, hn, show 20 + t - 20 = t by omega]
def cityF : Nat → Int32 := fun i => if i = 15 then 20 else if i = 17 then 1 else 0
theorem at_city {AT : Nat × va_E → Prop} {k h0 : Nat} {qs : Nat → Nat} (hk : isCity k) (B : ∀ q ∈ sh_X1 c h0 qs, AT q) (e0 : ad k = h0) (es : ∀ i, i < 10 → ad (k + 1 + i) = qs i) (hh : h k = cityF) (hz : ∀ i, 1 ≤ i → i ≤ 10 → h (k + i) = fun _ => 0) :
    ∀ j, j ≤ 10 → AT (ad (k + j), cellE ((l, s, ad, D, c) : GX) h (k + j)) := by
  have c0 := (city_ob hk).2.1
  have lg := log_ob (city_log hk)
  have la := log_ar (city_log hk)
  have ca := fun j n hj => city_ar j n hj hk
  unfold sh_X1 sh_X6 at B
  simp only [List.forall_mem_append, List.forall_mem_singleton, List.nil_append] at B
  obtain ⟨b0, ⟨⟨⟨⟨⟨⟨⟨⟨a0, a1⟩, a2⟩, a3⟩, a4⟩, a5⟩, a6⟩, a7⟩, g0, g1⟩⟩ := B
  have es0 : ad (k + 1) = qs 0 := es 0 (by omega)
  have es1 : ad (k + 2) = qs 1 := es 1 (by omega)
  have es2 : ad (k + 3) = qs 2 := es 2 (by omega)
  have es3 : ad (k + 4) = qs 3 := es 3 (by omega)
  have es4 : ad (k + 5) = qs 4 := es 4 (by omega)
  have es5 : ad (k + 6) = qs 5 := es 5 (by omega)
  have es6 : ad (k + 7) = qs 6 := es 6 (by omega)
  have es7 : ad (k + 8) = qs 7 := es 7 (by omega)
  have es8 : ad (k + 9) = qs 8 := es 8 (by omega)
  have es9 : ad (k + 10) = qs 9 := es 9 (by omega)
  have AR : ∀ j n, cls (k + j) = 20 + 0 → alen (k + j) = n → 1 ≤ j → j ≤ 10 → AT (ad (k + j), .inl (c 0, n, .inl fun _ => 0)) → AT (ad (k + j), cellE ((l, s, ad, D, c) : GX) h (k + j)) := fun j n h1 h2 h3 h4 h5 => by
    rw [cell_ar h1 (by decide) h2, hz j h3 h4]; exact h5
  intro j hj
  rcases (show j = 0 ∨ j = 1 ∨ j = 2 ∨ j = 3 ∨ j = 4 ∨ j = 5 ∨ j = 6 ∨ j = 7 ∨ j = 8 ∨ j = 9 ∨ j = 10 by omega) with rfl | rfl | rfl | rfl | rfl | rfl | rfl | rfl | rfl | rfl | rfl
  · rw [Nat.add_zero, cell_ob c0 (by decide), hh, e0]
    have : (List.range (nf 1)).map (fun i => if off 1 i = 0 then Value.int (cityF i) else .ref (ad (k + off 1 i))) = [.ref (ad (k + 1)), .ref (ad (k + 2)), .ref (ad (k + 3)), .ref (ad (k + 4)), .ref (ad (k + 5)), .ref (ad (k + 6)), .ref (ad (k + 7)), .ref (ad (k + 8)), .ref (ad (k + 9)), .int 0, .int 0, .int 0, .int 0, .int 0, .int 0, .int 20, .int 0, .int 1] := rfl
    rw [this, es0, es1, es2, es3, es4, es5, es6, es7, es8]
    exact b0
  · exact AR 1 8 (ca 1 8 (by decide)).2.1 (ca 1 8 (by decide)).2.2 (by omega) (by omega) (by rw [es0]; exact a0)
  · exact AR 2 8 (ca 2 8 (by decide)).2.1 (ca 2 8 (by decide)).2.2 (by omega) (by omega) (by rw [es1]; exact a1)
  · exact AR 3 8 (ca 3 8 (by decide)).2.1 (ca 3 8 (by decide)).2.2 (by omega) (by omega) (by rw [es2]; exact a2)
  · exact AR 4 8 (ca 4 8 (by decide)).2.1 (ca 4 8 (by decide)).2.2 (by omega) (by omega) (by rw [es3]; exact a3)
  · exact AR 5 64 (ca 5 64 (by decide)).2.1 (ca 5 64 (by decide)).2.2 (by omega) (by omega) (by rw [es4]; exact a4)
  · exact AR 6 6 (ca 6 6 (by decide)).2.1 (ca 6 6 (by decide)).2.2 (by omega) (by omega) (by rw [es5]; exact a5)
  · exact AR 7 6 (ca 7 6 (by decide)).2.1 (ca 7 6 (by decide)).2.2 (by omega) (by omega) (by rw [es6]; exact a6)
  · exact AR 8 6 (ca 8 6 (by decide)).2.1 (ca 8 6 (by decide)).2.2 (by omega) (by omega) (by rw [es7]; exact a7)
  · rw [cell_ob lg.2.1 (by decide), hz 9 (by omega) (by omega), es8]
    have : (List.range (nf 4)).map (fun i => if off 4 i = 0 then Value.int ((fun _ => 0 : Nat → Int32) i) else .ref (ad (k + 9 + off 4 i))) = [.ref (ad (k + 10)), .int 0] := rfl
    rw [this, es9]
    exact g0
  · exact AR 10 360 la.2.1 la.2.2 (by omega) (by omega) (by rw [es9]; exact g1)
def lawF : Nat → Int32 := fun i => if i = 8 then (-1) else 0
theorem at_law {AT : Nat × va_E → Prop} {k h0 : Nat} {qs : Nat → Nat} (hk : isLaw k) (B : ∀ q ∈ sh_X4 c h0 qs, AT q) (e0 : ad k = h0) (es : ∀ i, i < 7 → ad (k + 1 + i) = qs i) (hh : h k = lawF) (hz : ∀ i, 1 ≤ i → i ≤ 7 → h (k + i) = fun _ => 0) :
    ∀ j, j ≤ 7 → AT (ad (k + j), cellE ((l, s, ad, D, c) : GX) h (k + j)) := by
  have c0 := (law_ob hk).2.1
  have ca := fun j n hj => law_ar j n hj hk
  unfold sh_X4 at B
  simp only [List.forall_mem_append, List.forall_mem_singleton, List.nil_append] at B
  obtain ⟨b0, ⟨⟨⟨⟨⟨⟨a0, a1⟩, a2⟩, a3⟩, a4⟩, a5⟩, a6⟩⟩ := B
  have es0 : ad (k + 1) = qs 0 := es 0 (by omega)
  have es1 : ad (k + 2) = qs 1 := es 1 (by omega)
  have es2 : ad (k + 3) = qs 2 := es 2 (by omega)
  have es3 : ad (k + 4) = qs 3 := es 3 (by omega)
  have es4 : ad (k + 5) = qs 4 := es 4 (by omega)
  have es5 : ad (k + 6) = qs 5 := es 5 (by omega)
  have es6 : ad (k + 7) = qs 6 := es 6 (by omega)
  have AR : ∀ j n, cls (k + j) = 20 + 0 → alen (k + j) = n → 1 ≤ j → j ≤ 7 → AT (ad (k + j), .inl (c 0, n, .inl fun _ => 0)) → AT (ad (k + j), cellE ((l, s, ad, D, c) : GX) h (k + j)) := fun j n h1 h2 h3 h4 h5 => by
    rw [cell_ar h1 (by decide) h2, hz j h3 h4]; exact h5
  intro j hj
  rcases (show j = 0 ∨ j = 1 ∨ j = 2 ∨ j = 3 ∨ j = 4 ∨ j = 5 ∨ j = 6 ∨ j = 7 by omega) with rfl | rfl | rfl | rfl | rfl | rfl | rfl | rfl
  · rw [Nat.add_zero, cell_ob c0 (by decide), hh, e0]
    have : (List.range (nf 3)).map (fun i => if off 3 i = 0 then Value.int (lawF i) else .ref (ad (k + off 3 i))) = [.ref (ad (k + 1)), .ref (ad (k + 2)), .ref (ad (k + 3)), .ref (ad (k + 4)), .ref (ad (k + 5)), .ref (ad (k + 6)), .ref (ad (k + 7)), .int 0, .int (-1)] := rfl
    rw [this, es0, es1, es2, es3, es4, es5, es6]
    exact b0
  · exact AR 1 12 (ca 1 12 (by decide)).2.1 (ca 1 12 (by decide)).2.2 (by omega) (by omega) (by rw [es0]; exact a0)
  · exact AR 2 12 (ca 2 12 (by decide)).2.1 (ca 2 12 (by decide)).2.2 (by omega) (by omega) (by rw [es1]; exact a1)
  · exact AR 3 12 (ca 3 12 (by decide)).2.1 (ca 3 12 (by decide)).2.2 (by omega) (by omega) (by rw [es2]; exact a2)
  · exact AR 4 12 (ca 4 12 (by decide)).2.1 (ca 4 12 (by decide)).2.2 (by omega) (by omega) (by rw [es3]; exact a3)
  · exact AR 5 400 (ca 5 400 (by decide)).2.1 (ca 5 400 (by decide)).2.2 (by omega) (by omega) (by rw [es4]; exact a4)
  · exact AR 6 400 (ca 6 400 (by decide)).2.1 (ca 6 400 (by decide)).2.2 (by omega) (by omega) (by rw [es5]; exact a5)
  · exact AR 7 32 (ca 7 32 (by decide)).2.1 (ca 7 32 (by decide)).2.2 (by omega) (by omega) (by rw [es6]; exact a6)
end CE
