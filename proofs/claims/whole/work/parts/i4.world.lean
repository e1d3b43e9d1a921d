/-! ASSEMBLY: the world of the first heap -/
section WW
variable {l : Launch} {s : State} {D : va_G} {c : Nat → ClassId} {b q0 q1 q2 : Nat} {qs0 qs1 f : Nat → Nat} {H : Heap} {A : Nat → Prop}
theorem ad_dec {k : Nat} (hk : k ∈ objs) : adT b q0 qs0 q1 qs1 q2 f k = dec b q0 qs0 q1 qs1 q2 (enc k) := by
  have h := (enc_some k hk).1
  unfold adT enc
  rw [adL_enc, lk_map]
  cases e : encL.lookup k
  · rw [e] at h; exact Bool.noConfusion h
  · rfl
theorem ad_at {k : Nat} (hk : k ∈ objs) : ∃ (i : Nat) (p : Nat × va_E), encW[i]? = some (enc k) ∧ (wsC c q0 qs0 q1 qs1 q2)[i]? = some p ∧ p.1 = adT b q0 qs0 q1 qs1 q2 f k := by
  obtain ⟨i, hi⟩ := List.getElem?_of_mem (enc_some k hk).2
  have h : ((wsC c q0 qs0 q1 qs1 q2).map Prod.fst)[i]? = some (dec b q0 qs0 q1 qs1 q2 (enc k)) := by
    rw [ws_enc (b := b), List.getElem?_map, hi]; rfl
  rw [List.getElem?_map] at h
  cases e : (wsC c q0 qs0 q1 qs1 q2)[i]? with
  | none => rw [e] at h; cases h
  | some p =>
    rw [e] at h
    exact ⟨i, p, hi, e, by rw [ad_dec hk]; exact Option.some.inj h⟩
theorem ad_inj (hD : va_D A (wsC c q0 qs0 q1 qs1 q2)) {k k' : Nat} (hk : k ∈ objs) (hk' : k' ∈ objs) (e : adT b q0 qs0 q1 qs1 q2 f k = adT b q0 qs0 q1 qs1 q2 f k') : k = k' := by
  obtain ⟨i, p, i1, i2, i3⟩ := ad_at (c := c) (b := b) (q0 := q0) (q1 := q1) (q2 := q2) (qs0 := qs0) (qs1 := qs1) (f := f) hk
  obtain ⟨j, p', j1, j2, j3⟩ := ad_at (c := c) (b := b) (q0 := q0) (q1 := q1) (q2 := q2) (qs0 := qs0) (qs1 := qs1) (f := f) hk'
  have ij := hD.1 i j p p' i2 j2 (by rw [i3, j3, e])
  rw [ij, j1] at i1
  have ee : enc k' = enc k := Option.some.inj i1
  obtain ⟨x, hx⟩ := List.getElem?_of_mem hk
  obtain ⟨y, hy⟩ := List.getElem?_of_mem hk'
  have nx : (objs.map enc)[x]? = some (enc k) := by rw [List.getElem?_map, hx]; rfl
  have ny : (objs.map enc)[y]? = some (enc k) := by rw [List.getElem?_map, hy]; exact congrArg some ee
  have lx := (List.getElem?_eq_some_iff.mp nx).1
  have xy := (List.getElem?_inj lx enc_inj).mp (nx.trans ny.symm)
  rw [xy, hy] at hx
  exact (Option.some.inj hx).symm
theorem wl_of {G : GX} {h : Hp} {i : Nat} {p : Nat × va_E} (e : (wl G h)[i]? = some p) : ∃ k, objs[i]? = some k ∧ k ∈ objs ∧ p = (G.2.2.1 k, cellE G h k) := by
  unfold wl at e
  rw [List.getElem?_map] at e
  cases o : objs[i]? with
  | none => rw [o] at e; cases e
  | some k =>
    rw [o] at e
    exact ⟨k, rfl, List.mem_of_getElem? o, (Option.some.inj e).symm⟩
theorem wl_D (hD : va_D A (wsC c q0 qs0 q1 qs1 q2)) (h : Hp) : va_D A (wl ((l, s, adT b q0 qs0 q1 qs1 q2 f, D, c) : GX) h) := by
  refine ⟨fun i j p q hi hj e => ?_, fun i p hi => ?_⟩
  · obtain ⟨k, k1, k2, rfl⟩ := wl_of hi
    obtain ⟨k', k3, k4, rfl⟩ := wl_of hj
    have kk : k = k' := ad_inj hD k2 k4 e
    subst kk
    have lx := (List.getElem?_eq_some_iff.mp k1).1
    exact (List.getElem?_inj lx objs_nodup).mp (k1.trans k3.symm)
  · obtain ⟨k, k1, k2, rfl⟩ := wl_of hi
    obtain ⟨j, p, j1, j2, j3⟩ := ad_at (c := c) (b := b) (q0 := q0) (q1 := q1) (q2 := q2) (qs0 := qs0) (qs1 := qs1) (f := f) k2
    show A (adT b q0 qs0 q1 qs1 q2 f k)
    rw [← j3]
    exact hD.2 j p j2
theorem wl_P (hP : va_P D vwCl (wsC c q0 qs0 q1 qs1 q2) H) : va_P D vwCl (wl ((l, s, adT b q0 qs0 q1 qs1 q2 f, D, c) : GX) h0c) H := by
  intro i p hi
  obtain ⟨k, _, k2, rfl⟩ := wl_of hi
  refine at_all (AT := fun q => va_at D vwCl q H) (fun a n u v e z => ?_) (fun q hq => ?_) k k2
  · refine Eq.trans (show H[_]? = _ from z) (congrArg some ?_)
    rw [vp_cell_q, vp_cell_q]
    exact arrV_cg fun i hi => by rw [e i hi]
  · obtain ⟨j, hj⟩ := List.getElem?_of_mem hq
    exact hP j q hj
end WW
