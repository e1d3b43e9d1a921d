/-! ASSEMBLY: the law from its entry to its end -/
section ST
variable {b q0 q1 q2 : Nat} {qs0 qs1 f : Nat → Nat}
theorem adr_0 : adT b q0 qs0 q1 qs1 q2 f 0 = b := rfl
theorem adr_1 : adT b q0 qs0 q1 qs1 q2 f 1 = q0 := rfl
theorem adr_30 : adT b q0 qs0 q1 qs1 q2 f 30 = q1 := rfl
theorem adr_50 : adT b q0 qs0 q1 qs1 q2 f 50 = q2 := rfl
end ST
theorem law_end {p : Program} {e : Env} {s : State} {m : MethodId} {below : List Frame} {meth : Method} {c : Code} {G : GX} {b : Nat} (hx : p.tables.exec = Jvm.exec) (hb : c.code = code) (hr : meth.sig.returnType = ret) (hlocks : meth.locks = false) (hG : G.2.1 = s) (kC sC j : Nat) (h : Hp) (h1 : kC ≤ room_1.cells) (h2 : sC ≤ room_1.slots) :
    JQ ((G, p, e, s, m, #[Value.ref b], below, meth, c, 0) : CX) room_1 (lw_Z below #[Value.ref b] s) kC sC 2805 [(0, .ref 0), (1, .ref 1), (2, .ref 30), (3, .ref 50), (4, .int (nI j))] [] h := by
  intro H locs ls _ _ hS
  refine lv_iconst (v := 1) hx hb dL_law__2805 (by decide) ?_
  refine va_forget (fun q hq => ?_) ?_
  · have := hS.2.2 q hq
    have h9 : G.2.1.heap.size ≤ q.base := this
    rw [hG] at h9
    exact h9
  · refine W.widen (k := 601024) (n := 7293034) h1 h2 ?_
    exact lw_ret hx hb hr hlocks dL_law__2806
set_option maxRecDepth 100000 in
theorem whole_start {p : Program} {e : Env} {s : State} {m : MethodId} {below : List Frame} {meth : Method} {c : Code} (l : Launch) (hflags : l.flags = flags0) {b L : Nat} {xs : Nat → Int32} (hL : L ≤ 3072) (C0 : lw_At p s m meth c b L xs) : W p l e room_1 s m #[Value.ref b] below meth c s.heap [] 0 0 (lw_Z below #[Value.ref b] s) (entryFrame m ([Value.ref b] : List Value).toArray 7) := by
  obtain ⟨hx, hb, hr, hml, hown, hts, hX, hbl, hlocks, hgv⟩ := id C0
  obtain ⟨D, cA, hKN⟩ := k_kn l hts
  have hA : ∀ q : Nat, s.heap.size ≤ q → (fun q : Nat => s.heap.size ≤ q) q := fun _ h => h
  have hN : OkN (((l, D, cA), p, e, s, m, #[Value.ref b], below, meth, c) : NX) (fun q => s.heap.size ≤ q) cL_law_ 7 RL (some .boolean) := ⟨hx, hb, hml, hown, k_tb hts, hr, hlocks, hKN, hA⟩
  have hl := lv_entry ([.ref b]) (n := 7) (Nat.le_of_ble_eq_true rfl)
  rw [lg_entry_eq]
  generalize (lg_sl ([.ref b]) ++ List.replicate (7 - (lg_sl ([.ref b])).length) Slot.unset).toArray = ls at hl ⊢
  have hl : lv_has ls 7 [(0, .ref b)] := hl
  have hP0 : va_P D vwCl [] s.heap := fun k q h => by simp at h
  have hD0 : va_D (fun q : Nat => s.heap.size ≤ q) [] := ⟨fun i j p q h => by simp at h, fun k q h => by simp at h⟩
  have E := law_entry (X := (((l, D, cA), p, e, s, m, #[Value.ref b], below, meth, c) : NX)) (Q := lw_Z below #[Value.ref b] s) (A := fun q => s.heap.size ≤ q) hN (b := b) (fun q0 qs0 q1 qs1 q2 => by
    intro H locs ls hP hD hS hl
    have hP : va_P D vwCl (wsC cA q0 qs0 q1 qs1 q2) H := hP
    have hD : va_D (fun q => s.heap.size ≤ q) (wsC cA q0 qs0 q1 qs1 q2) := hD
    obtain ⟨f, hG⟩ := k_gok (b := b) hflags hts hgv hKN hD
    have hW : Wd ((l, s, adT b q0 qs0 q1 qs1 q2 f, D, cA) : GX) h0c H := ⟨hS.1, fun q hq => hS.2.1 q hq (Nat.not_le.mpr hq), wl_P hP⟩
    have hOk : OkQ ((((l, s, adT b q0 qs0 q1 qs1 q2 f, D, cA) : GX), p, e, s, m, #[Value.ref b], below, meth, c, 0) : CX) cL_law_ 7 RL (some .boolean) := ⟨hx, hb, hml, hown, k_tb hts, hr, hlocks, State.WarmedH.refl s, Nat.le_refl _, fun _ _ => rfl, hG, trivial⟩
    have hScr : ScrQ ((((l, s, adT b q0 qs0 q1 qs1 q2 f, D, cA) : GX), p, e, s, m, #[Value.ref b], below, meth, c, 0) : CX) L xs := ⟨hX, hbl, Nat.not_le.mpr hbl⟩
    have K := LH (R := room_1) (Q := lw_Z below #[Value.ref b] s) Inv hOk hScr hL ⟨Nat.le_of_ble_eq_true rfl, Nat.le_of_ble_eq_true rfl⟩ hstep_all (fun kC sC j h h1 h2 => law_end hx hb hr hlocks rfl kC sC j h h1 h2) 512 0 300 30574 h0c Inv_h0 (by omega) (by omega) (Nat.le_of_ble_eq_true rfl) (Nat.le_of_ble_eq_true rfl)
    refine K H locs ls hW ?_ hS
    have hl2 := lv_sub hl [4, 3, 2, 1, 0] rfl
    exact hl2)
  exact E s.heap [] ls hP0 hD0 va_S.rf (by rw [hml]; exact hl)
