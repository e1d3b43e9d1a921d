/-! ASSEMBLY: what holds of the launch and the law's entry -/
section GO
variable {l : Launch} {s : State} {args : Array Value} {D : va_G} {c : Nat → ClassId} {b q0 q1 q2 : Nat} {qs0 qs1 f : Nat → Nat}
theorem lk_far {k : Nat} : ∀ (L : List (Nat × Nat)), (∀ p ∈ L, p.1 < 1000) → 1000 ≤ k → L.lookup k = none
  | [], _, _ => rfl
  | (a, x) :: L, h, hk => by
    have ih := lk_far (k := k) L (fun p hp => h p (List.mem_cons_of_mem _ hp)) hk
    have ha : a < 1000 := h (a, x) List.mem_cons_self
    show (match k == a with | true => some x | false => L.lookup k) = none
    rw [beq_false_of_ne (by omega)]
    exact ih
theorem encL_lo : ∀ p ∈ encL, p.1 < 1000 := by decide +kernel
theorem ad_f {k : Nat} (h : 1000 ≤ k) : adT b q0 qs0 q1 qs1 q2 f k = f k := by
  unfold adT
  rw [adL_enc, lk_map, lk_far encL encL_lo h]
  rfl
theorem k_gok (hfl : l.flags = flags0) (hts : ∀ w ∈ lw_tbl, w.before args s = true) (hgv : (Jvm.Cond.and given_1 narrow_1).before args s = true) (hK : KN ((l, D, c) : NG) s) (hD : va_D (fun q => s.heap.size ≤ q) (wsC c q0 qs0 q1 qs1 q2)) :
    ∃ f : Nat → Nat, GOk ((l, s, adT b q0 qs0 q1 qs1 q2 f, D, c) : GX) := by
  have H : ∀ i : Nat, ∃ x : Nat × Nat, ∀ q : String × Nat × String, strT[i]? = some q → vk_R q.1 q.2.1 q.2.2 x.1 s ∧ vk_S 1 [(strBytes q.2.2).length] [strBytes q.2.2] (fun _ => x.1) (fun _ => x.2) (fun a => s.heap.size ≤ a) s s.heap := fun i => by
    cases e : strT[i]? with
    | none => exact ⟨(0, 0), fun q h => by cases h⟩
    | some r =>
      obtain ⟨aK, aV, h1, h2⟩ := k_str hts hgv i r e
      exact ⟨(aK, aV), fun q hq => by cases hq; exact ⟨h1, h2⟩⟩
  obtain ⟨F, hF⟩ := Classical.axiomOfChoice H
  have Z : ∃ (t : Nat) (v : Value), (v = .null ∨ v = .ref 3000) ∧ va_Z "jdk/internal/util/Preconditions" "SIOOBE_FORMATTER" "Ljava/util/function/BiFunction;" (cv (fun _ => t) v) (fun q => s.heap.size ≤ q) s s.heap := by
    rcases k_z2 hts hgv with h | ⟨t, h⟩
    · exact ⟨0, .null, Or.inl rfl, h⟩
    · exact ⟨t, .ref 3000, Or.inr rfl, h⟩
  obtain ⟨t, v, hv, hZ⟩ := Z
  have ex : ∃ f : Nat → Nat, (∀ i, i < 41 → f (1000 + i) = (F i).1 ∧ f (2000 + i) = (F i).2) ∧ f 3000 = t := by
    refine ⟨fun k => if k < 2000 then (F (k - 1000)).1 else if k < 3000 then (F (k - 2000)).2 else t, fun i hi => ⟨?_, ?_⟩, ?_⟩
    · show (if 1000 + i < 2000 then (F (1000 + i - 1000)).1 else _) = _
      rw [if_pos (by omega), show 1000 + i - 1000 = i by omega]
    · show (if 2000 + i < 2000 then _ else if 2000 + i < 3000 then (F (2000 + i - 2000)).2 else _) = _
      rw [if_neg (by omega), if_pos (by omega), show 2000 + i - 2000 = i by omega]
    · show (if 3000 < 2000 then _ else if 3000 < 3000 then _ else t) = t
      rw [if_neg (by omega), if_neg (by omega)]
  obtain ⟨f, hf, hft⟩ := ex
  refine ⟨f, k_flags hfl, fun h => wl_D hD h, hK.1, k_zq1 hts hgv, k_zq2 hts hgv, ⟨fun i q hq => ?_, k_z1 hts hgv, v, hv, ?_⟩, k_nw hts, k_nc hts hgv⟩
  · have hi : i < 41 := (List.getElem?_eq_some_iff.mp hq).1
    have e1 : adT b q0 qs0 q1 qs1 q2 f (1000 + i) = (F i).1 := (ad_f (by omega)).trans (hf i hi).1
    have e2 : adT b q0 qs0 q1 qs1 q2 f (2000 + i) = (F i).2 := (ad_f (by omega)).trans (hf i hi).2
    show vk_R q.1 q.2.1 q.2.2 (adT b q0 qs0 q1 qs1 q2 f (1000 + i)) s ∧ vk_S 1 [(strBytes q.2.2).length] [strBytes q.2.2] (fun _ => adT b q0 qs0 q1 qs1 q2 f (1000 + i)) (fun _ => adT b q0 qs0 q1 qs1 q2 f (2000 + i)) (fun a => s.heap.size ≤ a) s s.heap
    rw [e1, e2]
    exact hF i q hq
  · have e3 : adT b q0 qs0 q1 qs1 q2 f 3000 = t := (ad_f (by omega)).trans hft
    have e4 : cv (adT b q0 qs0 q1 qs1 q2 f) v = cv (fun _ => t) v := by
      rcases hv with rfl | rfl
      · rfl
      · show Value.ref (adT b q0 qs0 q1 qs1 q2 f 3000) = Value.ref t
        rw [e3]
    show va_Z _ _ _ (cv (adT b q0 qs0 q1 qs1 q2 f) v) (fun q => s.heap.size ≤ q) s s.heap
    rw [e4]
    exact hZ
end GO
