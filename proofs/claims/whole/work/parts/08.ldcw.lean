/-- a String constant by its wide entry (after the library's row for the short one) -/
theorem q_ldcwS {p : Program} {l : Launch} {e : Env} {R : Room} {s : State} {m : MethodId} {args : Array Value} {below : List Frame} {meth : Method} {c : Code} {T : State} {locs : List Loc} {cells slots : Nat}
    (X : Stand p l e R s m args below meth c T locs cells slots) (hexec : p.tables.exec = Jvm.exec) {own text : String} {index : Nat} {a : Addr} (hown : s.vm.findClass own = some m.cls) {A9 : Array Value}
    (hconst : (Cond.stringRef own index text).before A9 s = true) (hev : (Term.string own index).eval A9 s none [] s = some (.ref a)) {g : JFrame} (hg : g.method = m) (hdg : decode c.code g.pc = .ok (.ldc_w index, 3)) :
    ∀ target, Steps p.tables e below (T.setTop { g with pc := g.pc + 3, stack := .ref a :: g.stack }) target → Steps p.tables e below (T.setTop g) target := by
  obtain ⟨k, cf, i, a', hk, hcf, hcp, -, hr, hev'⟩ := Cond.stringRef_spec hown hconst
  cases hev.symm.trans hev'
  obtain ⟨k', hk', he⟩ := X.warmed.alike.2.2 _ _ hk
  have hr' : k'.resolved[index]? = some (some (.string a)) := by
    rcases X.warmed.entry hk hk' index with h | ⟨h, -⟩
    · rw [h]; exact hr
    · rw [hr] at h; cases h
  intro target hrest
  subst hg
  jvm_step X.here [hexec, hdg, ldc_w.wp_string (e := e) (s := T) (f := g) X.here.top hk' (by rw [he]; exact hcf) hcp hr']
  exact hrest
section JLW
variable {X : CX} {O : Oc} {cc cc' : ByteArray} {nL nL' : Nat} {own : String} {ret ret' : Option FieldType} {pc : Nat} {L : List (Nat × Value)} {S S0 : List Value} {h : Hp}
theorem J_ldcwS (hX : Ok X cc nL own ret) (s9 : Nat) {idx : Nat} (hd : decode cc pc = .ok (.ldc_w idx, 3)) (h1 : (strT[s9 - 1000]?).map (fun q => (q.1, q.2.1)) = some (own, idx)) (h2 : Nat.ble 1000 s9 = true) (kk : J X O (pc + 3) L (.ref s9 :: S) h) : J X O pc L S h := by
  obtain ⟨G, p, e, s, m, args, below, meth, c, d⟩ := X
  intro H locs ls hw hl hS
  have hG := hX.2.2.2.2.2.2.2.2.2.2.1
  have h2 := Nat.le_of_ble_eq_true h2
  cases hq : strT[s9 - 1000]? with
  | none => rw [hq] at h1; cases h1
  | some q =>
    rw [hq] at h1
    have hR := (hG.2.2.2.2.2.1.1 _ q hq).1
    have e9 : 1000 + (s9 - 1000) = s9 := by omega
    rw [e9] at hR
    have e1 : (q.1, q.2.1) = (own, idx) := Option.some.inj h1
    have e2 : q.1 = own := congrArg Prod.fst e1
    have e3 : q.2.1 = idx := congrArg Prod.snd e1
    rw [e2, e3] at hR
    have hZ := vk_R.warm hX.2.2.2.2.2.2.2.1 hR
    intro T hT XX
    obtain ⟨t, a1, b1⟩ := kk H locs ls hw hl hS T hT XX
    exact ⟨t, q_ldcwS XX hX.1 hX.2.2.2.1 (text := q.2.2) (a := G.2.2.1 s9) hZ.1 hZ.2 (g := F0 m pc ls (S.map (cv G.2.2.1))) rfl (by rw [hX.2.1]; exact hd) t a1, b1⟩
end JLW
