theorem lv_args_map (ad : Nat → Nat) : ∀ (vs : List Value) (i : Nat), lv_args i (vs.map (cv ad)) = (lv_args i vs).map (cL ad)
  | [], _ => rfl
  | v :: vs, i => by
    show (i, cv ad v) :: lv_args (if (cv ad v).category = 2 then i + 2 else i + 1) (vs.map (cv ad)) = _
    rw [cv_cat, lv_args_map ad vs]
    rfl
theorem lg_sl_len (ad : Nat → Nat) : ∀ vs : List Value, (lg_sl (vs.map (cv ad))).length = (lg_sl vs).length
  | [] => rfl
  | v :: vs => by
    have ih := lg_sl_len ad vs
    simp only [lg_sl, List.map_cons, List.flatMap_cons, List.length_append] at ih ⊢
    rw [ih, cv_cat]
    split <;> rfl
theorem Ctr_of {G : GX} (hG : GOk G) {d : Nat} {y : MethodName} {cc : ByteArray} {nL : Nat} {ret : Option FieldType} {As : List Value} {h : Hp} {O : Oc} (own : String) (hy : y.cls = own) (hpl : plainName y.cls = true) (hlen : Nat.ble (lg_sl As).length nL = true)
    (body : ∀ X : CX, X.1 = G → dX X = d → Ok X cc nL own ret → J X O 0 (lv_args 0 As) [] h) : Ctr G d y cc nL ret As h O := by
  refine vx_ofW (cc := cc) (maxL := nL) (ret := ret) hpl rfl ?_
  intro p e s m args below meth c s₁ B hml hno hP
  obtain ⟨rfl, hW, hw⟩ := hP
  have hts := atoms_spec (ws := .code y cc nL ret :: TB) B.pre
  have hown : s.vm.findClass own = some m.cls := hy ▸ findClass_of_methodNamed B.named
  have hj := body (G, p, e, s, m, (As.map (cv G.2.2.1)).toArray, below, meth, c, d) rfl rfl
    ⟨B.exec, B.bytes, hml, hown, fun w h => hts w (List.mem_cons_of_mem _ h), B.returns, B.notSynchronized, hW, hw.1, hw.2.1, hG, hno⟩
  have hl := lv_entry (As.map (cv G.2.2.1)) (n := nL) (by rw [lg_sl_len]; exact Nat.le_of_ble_eq_true hlen)
  rw [lg_entry_eq]
  generalize (lg_sl (As.map (cv G.2.2.1)) ++ List.replicate (nL - (lg_sl (As.map (cv G.2.2.1))).length) Slot.unset).toArray = ls at hl ⊢
  rw [lv_args_map] at hl
  exact hj s.heap [] ls hw (by rw [hml]; exact hl) va_S.rf
/-- what the tables say of a call -/
def CW (own : String) (idx : Nat) (y : MethodName) (cc : ByteArray) (nL : Nat) (ret : Option FieldType) (n : Nat) : Prop :=
  Cond.methodLink own idx y ∈ TB ∧ Cond.initialized y.cls ∈ TB ∧ Cond.code y cc nL ret ∈ TB ∧ (y.cls ≠ "java/lang/invoke/MethodHandle" ∧ y.cls ≠ "java/lang/invoke/VarHandle" ∧ (parseMethodDescriptor y.desc).map (fun d => d.parameters.length) = some n)
def CWv (own : String) (idx : Nat) (y : MethodName) (cc : ByteArray) (nL : Nat) (ret : Option FieldType) (n : Nat) : Prop := CW own idx y cc nL ret n ∧ Cond.instanceMethod y ∈ TB ∧ Cond.selects y.cls y y ∈ TB
def CWs (own : String) (idx : Nat) (y : MethodName) (cc : ByteArray) (nL : Nat) (ret : Option FieldType) (n : Nat) : Prop := CW own idx y cc nL ret n ∧ Cond.static y ∈ TB
section JC
variable {G : GX} {p : Program} {e : Env} {s : State} {m : MethodId} {args : Array Value} {below : List Frame} {meth : Method} {c : Code} {d : Nat} {O Oc' : Oc} {cc cc' : ByteArray} {nL nL' : Nat} {own : String} {ret ret' : Option FieldType} {pc : Nat} {L : List (Nat × Value)} {S : List Value} {h : Hp}
theorem cw_B (hX : Ok (G, p, e, s, m, args, below, meth, c, d) cc nL own ret) {idx n : Nat} {y : MethodName} (hw : CW own idx y cc' nL' ret' n) {d' : Nat} (hd : d' < d) (hnl : Nat.blt nL' 60 = true) :
    CallB (rmO d O) s args own idx y cc' nL' ret' (.code y cc' nL' ret' :: TB) (rmO d' Oc') (nX Oc') (6 * nX Oc') n := by
  have ht : ∀ w ∈ TB, w.before args s = true := hX.2.2.2.2.1
  have hdd := hd
  have hn := Nat.blt_eq.mp hnl
  refine callB_of n ht (good_TB _ fun w q => (List.mem_cons.mp q).elim (fun q => q ▸ hw.2.2.1) id) rfl rfl rfl (ht _ hw.2.1) (ht _ hw.1) hw.2.2.2 ⟨?_, ?_⟩
  · show d' + 1 ≤ d
    omega
  · show 8 + (nL' + 11) + 80 * d' ≤ 80 * d
    omega
/-- behind a call -/
theorem J_run {H : Heap} {locs : List Loc} {ls : Array Slot} {st0 : List Value} {a : Array Value} (hX : Ok (G, p, e, s, m, args, below, meth, c, d) cc nL own ret) (hw : Wd G h H) (hl : lv_has ls c.maxLocals (L.map (cL G.2.2.1))) (hS : va_S (bs G) s.heap H locs)
    (hr : vx_Run p G.1 e (rmO d O) s m args below meth c H locs 0 0 (nX Oc') (6 * nX Oc') (F0 m pc ls st0) (S.map (cv G.2.2.1)) (QcO G Oc' a) (XcO G Oc') (bs G))
    (hk : (∃ v h1, Oc' = (.inl v, h1) ∧ J (G, p, e, s, m, args, below, meth, c, d) O (pc + 3) L (v.toList ++ S) h1) ∨ (∃ E h1, Oc' = (.inr E, h1) ∧ O = (.inr E, h1))) :
    W p G.1 e (rmO d O) s m args below meth c H locs 0 0 (vx_MQ below (QcO G O) (XcO G O) args s (nX O) (6 * nX O) (bs G)) (F0 m pc ls st0) := by
  have hS2 : ∀ {t T' : State} {st₀ : State} {Lc : List Loc} {h1 : Hp}, st₀.heap = H → T'.heap = t.heap → Wd G h1 t.heap → st₀.heap.size ≤ t.heap.size → (∀ q ∈ Lc, bs G q.base) → va_S (bs G) s.heap T'.heap (locs ++ Lc) := by
    intro t T' st₀ Lc h1 h0 e1 hw1 hz hL
    rw [h0] at hz
    refine ⟨by rw [e1]; exact Nat.le_trans hS.1 hz, fun q hq hn => ?_, fun q hq => (List.mem_append.mp hq).elim (hS.2.2 q) (hL q)⟩
    have hq0 : q < G.2.1.heap.size := Nat.not_le.mp hn
    rw [e1, hw1.2.1 q hq0, hX.2.2.2.2.2.2.2.2.2.1 q hq0]
  intro T hT X
  rcases hr T hT X with ⟨v, st₀, t, T', Lc, h0, X', hL, e1, e2, hQ, st⟩ | ⟨q, st₀, t, T', Lc, E, ce, h0, X', hL, e1, e2, hx, hce, hcv, hcl, st⟩
  · rcases hk with ⟨v0, h1, rfl, kk⟩ | ⟨E, h1, rfl, -⟩
    · obtain ⟨hv, hw1, hz⟩ := hQ
      cases hv
      obtain ⟨t2, a1, b1⟩ := kk T'.heap (locs ++ Lc) ls (by rw [e1]; exact hw1) hl (hS2 h0 e1 hw1 hz hL) T' rfl X'
      refine ⟨t2, st t2 ?_, b1⟩
      cases v0 <;> exact a1
    · exact hQ.elim
  · rcases hk with ⟨v0, h1, rfl, kk⟩ | ⟨E', h1, rfl, rfl⟩
    · exact hx.elim
    · obtain ⟨hE, hw1, hz⟩ := hx
      subst hE
      have hS1 := hS2 h0 e1 hw1 hz hL
      obtain ⟨t2, a1, b1⟩ := vx_out (mc := nX (.inr E, h1)) (ms := 6 * nX (.inr E, h1)) (Qc := QcO G (.inr E, h1)) (XC := XcO G (.inr E, h1)) (free := bs G) (pc := pc) (ls := ls) (rest := S.map (cv G.2.2.1)) (H := T'.heap) (fun x hx => (hX.2.2.2.2.2.2.2.2.2.2.2 x hx).elim) hX.2.2.2.2.2.2.1 (by rw [e1]; exact hce) hcv hcl
        (fun t9 ht9 _ => ⟨rfl, by rw [ht9, e1]; exact hw1, by rw [ht9]; exact hS1.1⟩) (fun z hz => hS1.2.2 z hz) (Nat.le_of_eq (Nat.zero_add _)) (Nat.le_of_eq (Nat.zero_add _)) T' rfl X'
      exact ⟨t2, st.trans a1, b1⟩
end JC
section JC2
variable {X : CX} {O : Oc} {cc cc' : ByteArray} {nL nL' : Nat} {own : String} {ret ret' : Option FieldType} {pc : Nat} {L : List (Nat × Value)} {S S0 : List Value} {h : Hp}
theorem J_callV (hX : Ok X cc nL own ret) {idx n k ci d' : Nat} {y : MethodName} {Oc' : Oc} (As : List Value) (hdc : decode cc pc = .ok (.invokevirtual idx, 3)) (hw : CWv own idx y cc' nL' ret' n) (ho : Ob k ci) (hcn : (vwCl[ci]?).map (fun q => q.1) = some y.cls)
    (hc : Ctr X.1 d' y cc' nL' ret' (.ref k :: As) h Oc') (hd : d' < dX X) (hnl : Nat.blt nL' 60 = true) (hn : As.length = n) (hst : S0 = As.reverse ++ .ref k :: S) (hsm : Nat.ble (S.map fun v => v.category).sum 8 = true)
    (hle : nX Oc' ≤ nX O)
    (hk : (∃ v h1, Oc' = (.inl v, h1) ∧ J X O (pc + 3) L (v.toList ++ S) h1) ∨ (∃ E h1, Oc' = (.inr E, h1) ∧ O = (.inr E, h1))) : J X O pc L S0 h := by
  obtain ⟨G, p, e, s, m, args, below, meth, c, d⟩ := X
  intro H locs ls hwd hl hS
  subst hst
  obtain ⟨i, i1, i2⟩ := Wd_ob hwd ho
  have hK := va_K.moved hX.2.2.2.2.2.2.2.1.alike hX.2.2.2.2.2.2.2.2.2.2.1.2.2.1
  have ht : ∀ w ∈ TB, w.before args s = true := hX.2.2.2.2.1
  cases hcc : vwCl[ci]? with
  | none => rw [hcc] at hcn; cases hcn
  | some q =>
    rw [hcc] at hcn
    have hq : q.1 = y.cls := Option.some.inj hcn
    obtain ⟨cell, c1, c2, c3⟩ := va_recv hK hwd.2.2 hcc i2
    refine J_run (a := (Value.ref (G.2.2.1 k) :: As.map (cv G.2.2.1)).toArray) (Oc' := Oc') (S := S) hX hwd hl hS (vx_runV (cc := cc) (nL := nL) (Ts := TB) (own := own) (C := y.cls) (b := G.2.2.1 k) (As := As.map (cv G.2.2.1)) (n := n) (index := idx) ⟨hX.1, hX.2.1, hX.2.2.1, hX.2.2.2.1, ht⟩ hc ⟨cw_B hX hw.1 hd hnl, ht _ hw.2.1, ht _ hw.2.2⟩
      ⟨fun a U g mk q => q, ⟨cell, c1, c2, by rw [← hq]; exact c3⟩, fun U hU hW => ⟨rfl, hX.2.2.2.2.2.2.2.1.trans hW, by rw [hU]; exact hwd⟩⟩ rfl (by rw [List.length_map]; exact hn) (hl.1.trans hX.2.2.1) (by
        show (As.reverse ++ .ref k :: S).map (cv G.2.2.1) = _
        rw [List.map_append, List.map_reverse]; rfl) (by
        show 2 * 0 + _ ≤ 8
        rw [cat_sum]; have := Nat.le_of_ble_eq_true hsm; omega) hdc ⟨by show 0 + nX Oc' ≤ nX O; omega, by show 0 + 6 * nX Oc' ≤ 6 * nX O; omega⟩) hk
theorem J_callS (hX : Ok X cc nL own ret) {idx n d' : Nat} {y : MethodName} {Oc' : Oc} (As : List Value) (hdc : decode cc pc = .ok (.invokestatic idx, 3)) (hw : CWs own idx y cc' nL' ret' n)
    (hc : Ctr X.1 d' y cc' nL' ret' As h Oc') (hd : d' < dX X) (hnl : Nat.blt nL' 60 = true) (hn : As.length = n) (hst : S0 = As.reverse ++ S) (hsm : Nat.ble (S.map fun v => v.category).sum 8 = true)
    (hle : nX Oc' ≤ nX O)
    (hk : (∃ v h1, Oc' = (.inl v, h1) ∧ J X O (pc + 3) L (v.toList ++ S) h1) ∨ (∃ E h1, Oc' = (.inr E, h1) ∧ O = (.inr E, h1))) : J X O pc L S0 h := by
  obtain ⟨G, p, e, s, m, args, below, meth, c, d⟩ := X
  intro H locs ls hwd hl hS
  subst hst
  have ht : ∀ w ∈ TB, w.before args s = true := hX.2.2.2.2.1
  refine J_run (a := (As.map (cv G.2.2.1)).toArray) (Oc' := Oc') (S := S) hX hwd hl hS (vx_runS (cc := cc) (nL := nL) (Ts := TB) (own := own) (As := As.map (cv G.2.2.1)) (n := n) (index := idx) ⟨hX.1, hX.2.1, hX.2.2.1, hX.2.2.2.1, ht⟩ hc ⟨cw_B hX hw.1 hd hnl, ht _ hw.2⟩
      ⟨fun a U g mk q => q, fun U hU hW => ⟨rfl, hX.2.2.2.2.2.2.2.1.trans hW, by rw [hU]; exact hwd⟩⟩ rfl (by rw [List.length_map]; exact hn) (hl.1.trans hX.2.2.1) (by
        show (As.reverse ++ S).map (cv G.2.2.1) = _
        rw [List.map_append, List.map_reverse]) (by
        show 2 * 0 + _ ≤ 8
        rw [cat_sum]; have := Nat.le_of_ble_eq_true hsm; omega) hdc ⟨by show 0 + nX Oc' ≤ nX O; omega, by show 0 + 6 * nX Oc' ≤ 6 * nX O; omega⟩) hk
/-- new E(); its throw -/
def exN : List String := ["java/lang/RuntimeException", "java/lang/Exception"]
def TW (own : String) (ik ic : Nat) (E : String) (names : List String) : Prop := (Bundle.fit E = true ∧ (∀ n ∈ names, Bundle.fit n = true)) ∧ Cond.classLink own ik E ∈ TB ∧ Cond.initialized E ∈ TB ∧ (∀ w ∈ vx_at0 own ic E names, w ∈ TB ∨ w ∈ NW) ∧ (∀ w ∈ Cond.classLink own ik E :: Cond.initialized E :: vx_at0 own ic E names, vx_ot w = true) ∧ names.length < 5
theorem J_throw (hX : Ok X cc nL own ret) {ik ic : Nat} {E : String} (names : List String) (d0 : decode cc pc = .ok (.new ik, 3)) (d3 : decode cc (pc + 3) = .ok (.dup, 1)) (d4 : decode cc (pc + 4) = .ok (.invokespecial ic, 3)) (d7 : decode cc (pc + 7) = .ok (.athrow, 1))
    (hw : TW own ik ic E names) (hd : 9 < dX X) (hsm : Nat.ble (S.map fun v => v.category).sum 8 = true) (hO : O = (.inr E, h)) : J X O pc L S h := by
  obtain ⟨G, p, e, s, m, args, below, meth, c, d⟩ := X
  intro H locs ls hwd hl hS
  subst hO
  have ht : ∀ w ∈ TB, w.before args s = true := hX.2.2.2.2.1
  have hA := hX.2.2.2.2.2.2.2.1.alike
  have hG := hX.2.2.2.2.2.2.2.2.2.2.1
  have hz := hX.2.2.2.2.2.2.2.2.1
  have hb := hX.2.2.2.2.2.2.2.2.2.1
  have hdd : 9 < d := hd
  have hnm := hw.2.2.2.2.2
  have hmov : ∀ a : Nat, a < G.2.1.heap.size → ¬ bs G a → s.heap[a]? = G.2.1.heap[a]? := fun a h1 _ => hb a h1
  refine vx_throw0 (names := names) (A := bs G) (mc := nX (.inr E, h)) (ms := 6 * nX (.inr E, h)) hX.1 hX.2.1 hG.1 hX.2.2.2.1 hw.1.1 hw.1.2 (ht _ hw.2.1) (ht _ hw.2.2.1) (fun w q => (hw.2.2.2.1 w q).elim (ht w) (fun q2 => nw_warm hX.2.2.2.2.2.2.2.1 (List.mem_filter.mp q2).2 (hG.2.2.2.2.2.2.1 w q2))) hw.2.2.2.2.1
    ((hG.2.2.2.1.moved hA).kept hmov) ((hG.2.2.2.2.1.moved hA).kept hmov) hS hl.1 d0 d3 d4 d7 (fun x hx => (hX.2.2.2.2.2.2.2.2.2.2.2 x hx).elim) (by show names.length + 3 < d; omega)
    (by show _ ≤ 80 * d; rw [cat_sum]; have := Nat.le_of_ble_eq_true hsm; omega) (Nat.le_refl _) (Nat.le_refl _) hX.2.2.2.2.2.2.1 ?_ hS.2.2 (Nat.le_refl _) (Nat.le_refl _)
  intro t _ h1 h2
  refine ⟨rfl, ⟨Nat.le_trans hwd.1 h1, fun q hq => (h2 q (Nat.lt_of_lt_of_le hq hwd.1)).trans (hwd.2.1 q hq), fun k q hk => (hwd.2.2 k q hk).kept (h2 q.1 (hwd.2.2 k q hk).lt)⟩, Nat.le_trans hS.1 h1⟩
/-- the library's own -/
def MW (own : String) (idx : Nat) (y : MethodName) (bytes : ByteArray) (n : Nat) : Prop := Cond.methodLink own idx y ∈ TB ∧ Cond.static y ∈ TB ∧ Cond.initialized "java/lang/Math" ∈ TB ∧ Cond.code y bytes n (some .int) ∈ TB
def imin (x y : Int32) : Int32 := if y < x then y else x
def imax (x y : Int32) : Int32 := if x < y then y else x
def iabs (x : Int32) : Int32 := if 0 ≤ x then x else 0 - x
theorem J_min (hX : Ok X cc nL own ret) {idx : Nat} {x y : Int32} (hdc : decode cc pc = .ok (.invokestatic idx, 3)) (hw : MW own idx Lib.Math.min.name Lib.Math.min.code 2) (hd : 1 < dX X) (hsm : Nat.ble (S.map fun v => v.category).sum 8 = true) (kk : J X O (pc + 3) L (.int (imin x y) :: S) h) : J X O pc L (.int y :: .int x :: S) h := by
  obtain ⟨G, p, e, s, m, args, below, meth, c, d⟩ := X
  intro H locs ls hwd hl hS
  have ht : ∀ w ∈ TB, w.before args s = true := hX.2.2.2.2.1
  have hdd : 1 < d := hd
  exact va_mmin hX.1 hX.2.1 hl.1.symm hX.2.2.2.1 (ht _ hw.1) (ht _ hw.2.1) (ht _ hw.2.2.1) (ht _ hw.2.2.2) (by show 1 ≤ d; omega) (by show _ ≤ 80 * d; rw [cat_sum]; have := Nat.le_of_ble_eq_true hsm; omega) (Nat.zero_le _) (Nat.zero_le _) hdc (kk H locs ls hwd hl hS)
theorem J_max (hX : Ok X cc nL own ret) {idx : Nat} {x y : Int32} (hdc : decode cc pc = .ok (.invokestatic idx, 3)) (hw : MW own idx Lib.Math.max.name Lib.Math.max.code 2) (hd : 1 < dX X) (hsm : Nat.ble (S.map fun v => v.category).sum 8 = true) (kk : J X O (pc + 3) L (.int (imax x y) :: S) h) : J X O pc L (.int y :: .int x :: S) h := by
  obtain ⟨G, p, e, s, m, args, below, meth, c, d⟩ := X
  intro H locs ls hwd hl hS
  have ht : ∀ w ∈ TB, w.before args s = true := hX.2.2.2.2.1
  have hdd : 1 < d := hd
  exact va_mmax hX.1 hX.2.1 hl.1.symm hX.2.2.2.1 (ht _ hw.1) (ht _ hw.2.1) (ht _ hw.2.2.1) (ht _ hw.2.2.2) (by show 1 ≤ d; omega) (by show _ ≤ 80 * d; rw [cat_sum]; have := Nat.le_of_ble_eq_true hsm; omega) (Nat.zero_le _) (Nat.zero_le _) hdc (kk H locs ls hwd hl hS)
theorem J_abs (hX : Ok X cc nL own ret) {idx : Nat} {x : Int32} (hdc : decode cc pc = .ok (.invokestatic idx, 3)) (hw : MW own idx Lib.Math.abs.name Lib.Math.abs.code 1) (hd : 1 < dX X) (hsm : Nat.ble (S.map fun v => v.category).sum 8 = true) (kk : J X O (pc + 3) L (.int (iabs x) :: S) h) : J X O pc L (.int x :: S) h := by
  obtain ⟨G, p, e, s, m, args, below, meth, c, d⟩ := X
  intro H locs ls hwd hl hS
  have ht : ∀ w ∈ TB, w.before args s = true := hX.2.2.2.2.1
  have hdd : 1 < d := hd
  exact va_mabs hX.1 hX.2.1 hl.1.symm hX.2.2.2.1 (ht _ hw.1) (ht _ hw.2.1) (ht _ hw.2.2.1) (ht _ hw.2.2.2) (by show 1 ≤ d; omega) (by show _ ≤ 80 * d; rw [cat_sum]; have := Nat.le_of_ble_eq_true hsm; omega) (Nat.zero_le _) (Nat.zero_le _) hdc (kk H locs ls hwd hl hS)
def AW (own : String) (idx : Nat) : Prop := Cond.methodLink own idx arraycopyName ∈ TB ∧ Cond.native arraycopyName ∈ TB ∧ Cond.static arraycopyName ∈ TB ∧ Cond.initialized "java/lang/System" ∈ TB
/-- n entries of g from sp on, put into f from dp on -/
abbrev cpy (g f : Nat → Int32) (sp dp n : Nat) : Nat → Int32 := va_cpy g f sp dp n
theorem J_copy (hX : Ok X cc nL own ret) {idx k0 k1 n0 n1 : Nat} {sp dp n : Int32} (a b c9 : Nat) (hdc : decode cc pc = .ok (.invokestatic idx, 3)) (hw : AW own idx) (a0 : Ar k0 0 n0) (a1 : Ar k1 0 n1) (h1 : ¬ sp < 0) (h2 : ¬ dp < 0) (h3 : ¬ n < 0) (ea : sp.toNatClampNeg = a) (eb : dp.toNatClampNeg = b) (ec : n.toNatClampNeg = c9) (h4 : sp.toNatClampNeg + n.toNatClampNeg ≤ n0) (h5 : dp.toNatClampNeg + n.toNatClampNeg ≤ n1) (hd : 1 < dX X) (hsm : Nat.ble (S.map fun v => v.category).sum 8 = true)
    (kk : J X O (pc + 3) L S (upA h k1 (va_cpy (h k0) (h k1) a b c9))) : J X O pc L (.int n :: .int dp :: .ref k1 :: .int sp :: .ref k0 :: S) h := by
  subst ea; subst eb; subst ec
  obtain ⟨G, p, e, s, m, args, below, meth, c, d⟩ := X
  intro H locs ls hwd hl hS
  have ht : ∀ w ∈ TB, w.before args s = true := hX.2.2.2.2.1
  have hdd : 1 < d := hd
  have hK := va_K.moved hX.2.2.2.2.2.2.2.1.alike hX.2.2.2.2.2.2.2.2.2.2.1.2.2.1
  have hD := hX.2.2.2.2.2.2.2.2.2.2.1.2.1 h
  obtain ⟨q0, p0, w0⟩ := Wd_ar hwd a0 (by decide) (by decide)
  obtain ⟨q1, p1, w1⟩ := Wd_ar hwd a1 (by decide) (by decide)
  refine va_copyi (ty := .int) hX.1 hX.2.1 hl.1.symm hX.2.2.2.1 (ht _ hw.1) (ht _ hw.2.1) (ht _ hw.2.2.1) (ht _ hw.2.2.2) hK hwd.2.2 hD hS q0 q1 0 0 w0 w1 rfl rfl rfl h1 h2 h3 h4 h5 (fun _ _ => rfl) (by show 1 ≤ d; omega) (by
    show _ ≤ 80 * d; rw [cat_sum]; have := Nat.le_of_ble_eq_true hsm
    have e9 : nativeFrameWords "java/lang/System" "arraycopy" 5 ≤ 60 := by decide
    omega) hdc (fun H1 locs1 hP _ hS1 => ?_)
  rw [wl_set (h' := upA h k1 (cpy (h k0) (h k1) sp.toNatClampNeg dp.toNatClampNeg n.toNatClampNeg)) p1 (cellE_ar a1 (by decide) (by decide)) (fun k' e => cellE_ne e)] at hP
  exact kk H1 locs1 ls (Wd_put hX.2.2.2.2.2.2.2.2.1 hX.2.2.2.2.2.2.2.2.2.1 hP hS1) hl hS1
end JC2

/-! rows for programs: how a value of a function is taken apart -/
def FU : Nat := 4000000
def bnd {α β : Type} (e : α) (f : α → β) : β := f e
def gd {α : Type} (c : Prop) [Decidable c] (b : Option α) : Option α := if c then b else none
def exB {α β : Type} (r : Except String α × Hp) (k : α → Hp → Option (Except String β × Hp)) : Option (Except String β × Hp) := match r.1 with
  | .ok v => k v r.2
  | .error E => some (.error E, r.2)
theorem bndE {α β : Type} {e : α} {f : α → β} {r : β} (h : bnd e f = r) : ∃ x, e = x ∧ f x = r := ⟨e, rfl, h⟩
theorem gdE {α : Type} {c : Prop} [Decidable c] {b : Option α} {r : α} (h : gd c b = some r) : c ∧ b = some r := by
  unfold gd at h
  split at h
  · exact ⟨by assumption, h⟩
  · cases h
theorem ifE {α : Type} {c : Prop} [Decidable c] {a b r : α} (h : (if c then a else b) = r) : (c ∧ a = r) ∨ (¬ c ∧ b = r) := by
  split at h
  · exact Or.inl ⟨by assumption, h⟩
  · exact Or.inr ⟨by assumption, h⟩
theorem bdE {α β : Type} {o : Option α} {f : α → Option β} {r : β} (h : Option.bind o f = some r) : ∃ v, o = some v ∧ f v = some r := by
  cases o with
  | none => cases h
  | some v => exact ⟨v, rfl, h⟩
theorem exE {α β : Type} {r : Except String α × Hp} {k : α → Hp → Option (Except String β × Hp)} {t : Except String β × Hp} (h : exB r k = some t) : (∃ v h1, r = (.ok v, h1) ∧ k v h1 = some t) ∨ (∃ E h1, r = (.error E, h1) ∧ t = (.error E, h1)) := by
  obtain ⟨r1, r2⟩ := r
  cases r1 with
  | ok v => exact Or.inl ⟨v, r2, rfl, h⟩
  | error E => exact Or.inr ⟨E, r2, rfl, (Option.some.inj h).symm⟩
theorem b2iT {b : Bool} (h : b = true) : ¬ b2i b = 0 := by subst h; decide
theorem b2iF {b : Bool} (h : ¬ b = true) : b2i b = 0 := by cases b <;> first | rfl | exact absurd rfl h
theorem b2i01 (b : Bool) : b2i b = 0 ∨ b2i b = 1 := by cases b <;> simp [b2i]
theorem ltD {X : CX} {d d' : Nat} (h : dX X = d) (hb : Nat.blt d' d = true) : d' < dX X := h ▸ Nat.blt_eq.mp hb
/-- a boolean out of a number that is 0 or 1 -/
def toB (x : Int32) : Option Bool := if x = 0 then some false else if x = 1 then some true else none
theorem toBE {x : Int32} {b : Bool} (h : toB x = some b) : x = b2i b := by
  unfold toB at h
  split at h
  · cases h; assumption
  · split at h
    · cases h; assumption
    · cases h
def tvI (v : Int32) : Option Value := some (.int v)
def tvZ (v : Bool) : Option Value := some (.int (b2i v))
def tvV (_ : Unit) : Option Value := none
def tvN (v : Option Nat) : Option Value := some (va_rf v)
def oX {α : Type} (tv : α → Option Value) (r : Except String α × Hp) : Oc := match r.1 with
  | .ok v => (.inl (tv v), r.2)
  | .error E => (.inr E, r.2)
theorem sw_def (lo hi : Int) (x : Int32) (hall : ∀ v : Int, lo ≤ v → v ≤ hi → ¬ x = Int32.ofInt v) : x.toInt < lo ∨ hi < x.toInt := by
  by_cases h1 : lo ≤ x.toInt
  · by_cases h2 : x.toInt ≤ hi
    · exact absurd (Int32.ofInt_toInt x).symm (hall _ h1 h2)
    · exact Or.inr (by omega)
  · exact Or.inl (by omega)
section JE
variable {X : CX} {cc cc' : ByteArray} {nL nL' : Nat} {own : String} {ret ret' : Option FieldType} {pc : Nat} {L : List (Nat × Value)} {S S0 : List Value} {h : Hp} {O : Oc}
-- ends: total, pure, impure, throwing
theorem E_It (hX : Ok X cc nL own (some .int)) {v r : Int32} (hd : decode cc pc = .ok (.ireturn, 1)) (hf : v = r) : J X (.inl (some (.int r)), h) pc L [.int v] h := by subst hf; exact J_iret hX hd rfl
theorem E_Ip (hX : Ok X cc nL own (some .int)) {v r : Int32} (hd : decode cc pc = .ok (.ireturn, 1)) (hf : some v = some r) : J X (.inl (some (.int r)), h) pc L [.int v] h := by cases hf; exact J_iret hX hd rfl
theorem E_Ii (hX : Ok X cc nL own (some .int)) {v : Int32} {r : Int32 × Hp} (hd : decode cc pc = .ok (.ireturn, 1)) (hf : some (v, h) = some r) : J X (.inl (some (.int r.1)), r.2) pc L [.int v] h := by cases hf; exact J_iret hX hd rfl
theorem E_Ix (hX : Ok X cc nL own (some .int)) {v : Int32} {r : Except String Int32 × Hp} (hd : decode cc pc = .ok (.ireturn, 1)) (hf : some (Except.ok v, h) = some r) : J X (oX tvI r) pc L [.int v] h := by cases hf; exact J_iret hX hd rfl
theorem E_Zt (hX : Ok X cc nL own (some .boolean)) {v : Int32} {b r : Bool} (hd : decode cc pc = .ok (.ireturn, 1)) (hb : v = b2i b) (hf : b = r) : J X (.inl (some (.int (b2i r))), h) pc L [.int v] h := by subst hf; subst hb; exact J_zret hX hd (b2i01 _) rfl
theorem E_Zp (hX : Ok X cc nL own (some .boolean)) {v : Int32} {b r : Bool} (hd : decode cc pc = .ok (.ireturn, 1)) (hb : v = b2i b) (hf : some b = some r) : J X (.inl (some (.int (b2i r))), h) pc L [.int v] h := by cases hf; subst hb; exact J_zret hX hd (b2i01 _) rfl
theorem E_Zi (hX : Ok X cc nL own (some .boolean)) {v : Int32} {b : Bool} {r : Bool × Hp} (hd : decode cc pc = .ok (.ireturn, 1)) (hb : v = b2i b) (hf : some (b, h) = some r) : J X (.inl (some (.int (b2i r.1))), r.2) pc L [.int v] h := by cases hf; subst hb; exact J_zret hX hd (b2i01 _) rfl
theorem E_Zx (hX : Ok X cc nL own (some .boolean)) {v : Int32} {b : Bool} {r : Except String Bool × Hp} (hd : decode cc pc = .ok (.ireturn, 1)) (hb : v = b2i b) (hf : some (Except.ok b, h) = some r) : J X (oX tvZ r) pc L [.int v] h := by cases hf; subst hb; exact J_zret hX hd (b2i01 _) rfl
theorem E_Vp (hX : Ok X cc nL own none) {r : Unit} (hd : decode cc pc = .ok (.return_, 1)) (hf : some () = some r) : J X (.inl none, h) pc L [] h := J_vret hX hd rfl
theorem E_Vi (hX : Ok X cc nL own none) {r : Hp} (hd : decode cc pc = .ok (.return_, 1)) (hf : some h = some r) : J X (.inl none, r) pc L [] h := by cases hf; exact J_vret hX hd rfl
theorem E_Vx (hX : Ok X cc nL own none) {r : Except String Unit × Hp} (hd : decode cc pc = .ok (.return_, 1)) (hf : some (Except.ok (), h) = some r) : J X (oX tvV r) pc L [] h := by cases hf; exact J_vret hX hd rfl
theorem E_thr (hX : Ok X cc nL own ret) {α : Type} {tv : α → Option Value} {r : Except String α × Hp} {ik ic : Nat} {E : String} (names : List String) (d0 : decode cc pc = .ok (.new ik, 3)) (d3 : decode cc (pc + 3) = .ok (.dup, 1)) (d4 : decode cc (pc + 4) = .ok (.invokespecial ic, 3)) (d7 : decode cc (pc + 7) = .ok (.athrow, 1))
    (hw : TW own ik ic E names) (hd : 9 < dX X) (hsm : Nat.ble (S.map fun v => v.category).sum 8 = true) (hf : some (Except.error E, h) = some r) : J X (oX tv r) pc L S h := by cases hf; exact J_throw hX names d0 d3 d4 d7 hw hd hsm rfl
-- calls: a value, nothing; of a callee that throws: both ways
theorem V_1 (hX : Ok X cc nL own ret) {idx n k ci d' : Nat} {y : MethodName} {v : Value} {h1 : Hp} (As : List Value) (hdc : decode cc pc = .ok (.invokevirtual idx, 3)) (hw : CWv own idx y cc' nL' ret' n) (ho : Ob k ci) (hcn : (vwCl[ci]?).map (fun q => q.1) = some y.cls)
    (hc : Ctr X.1 d' y cc' nL' ret' (.ref k :: As) h (.inl (some v), h1)) (hd : d' < dX X) (hnl : Nat.blt nL' 60 = true) (hn : As.length = n) (hst : S0 = As.reverse ++ .ref k :: S) (hsm : Nat.ble (S.map fun v => v.category).sum 8 = true) (kk : J X O (pc + 3) L (v :: S) h1) : J X O pc L S0 h :=
  J_callV hX As hdc hw ho hcn hc hd hnl hn hst hsm (Nat.zero_le _) (Or.inl ⟨_, _, rfl, kk⟩)
theorem V_0 (hX : Ok X cc nL own ret) {idx n k ci d' : Nat} {y : MethodName} {h1 : Hp} (As : List Value) (hdc : decode cc pc = .ok (.invokevirtual idx, 3)) (hw : CWv own idx y cc' nL' ret' n) (ho : Ob k ci) (hcn : (vwCl[ci]?).map (fun q => q.1) = some y.cls)
    (hc : Ctr X.1 d' y cc' nL' ret' (.ref k :: As) h (.inl none, h1)) (hd : d' < dX X) (hnl : Nat.blt nL' 60 = true) (hn : As.length = n) (hst : S0 = As.reverse ++ .ref k :: S) (hsm : Nat.ble (S.map fun v => v.category).sum 8 = true) (kk : J X O (pc + 3) L S h1) : J X O pc L S0 h :=
  J_callV hX As hdc hw ho hcn hc hd hnl hn hst hsm (Nat.zero_le _) (Or.inl ⟨_, _, rfl, kk⟩)
theorem V_x (hX : Ok X cc nL own ret) {α : Type} {tv : α → Option Value} {r : Except String α × Hp} {idx n k ci d' : Nat} {y : MethodName} {h1 : Hp} {E : String} (As : List Value) (hdc : decode cc pc = .ok (.invokevirtual idx, 3)) (hw : CWv own idx y cc' nL' ret' n) (ho : Ob k ci) (hcn : (vwCl[ci]?).map (fun q => q.1) = some y.cls)
    (hc : Ctr X.1 d' y cc' nL' ret' (.ref k :: As) h (.inr E, h1)) (hd : d' < dX X) (hnl : Nat.blt nL' 60 = true) (hn : As.length = n) (hst : S0 = As.reverse ++ .ref k :: S) (hsm : Nat.ble (S.map fun v => v.category).sum 8 = true) (hr : r = (.error E, h1)) : J X (oX tv r) pc L S0 h := by
  subst hr
  exact J_callV hX As hdc hw ho hcn hc hd hnl hn hst hsm (Nat.le_refl _) (Or.inr ⟨_, _, rfl, rfl⟩)
theorem S_1 (hX : Ok X cc nL own ret) {idx n d' : Nat} {y : MethodName} {v : Value} {h1 : Hp} (As : List Value) (hdc : decode cc pc = .ok (.invokestatic idx, 3)) (hw : CWs own idx y cc' nL' ret' n)
    (hc : Ctr X.1 d' y cc' nL' ret' As h (.inl (some v), h1)) (hd : d' < dX X) (hnl : Nat.blt nL' 60 = true) (hn : As.length = n) (hst : S0 = As.reverse ++ S) (hsm : Nat.ble (S.map fun v => v.category).sum 8 = true) (kk : J X O (pc + 3) L (v :: S) h1) : J X O pc L S0 h :=
  J_callS hX As hdc hw hc hd hnl hn hst hsm (Nat.zero_le _) (Or.inl ⟨_, _, rfl, kk⟩)
theorem S_0 (hX : Ok X cc nL own ret) {idx n d' : Nat} {y : MethodName} {h1 : Hp} (As : List Value) (hdc : decode cc pc = .ok (.invokestatic idx, 3)) (hw : CWs own idx y cc' nL' ret' n)
    (hc : Ctr X.1 d' y cc' nL' ret' As h (.inl none, h1)) (hd : d' < dX X) (hnl : Nat.blt nL' 60 = true) (hn : As.length = n) (hst : S0 = As.reverse ++ S) (hsm : Nat.ble (S.map fun v => v.category).sum 8 = true) (kk : J X O (pc + 3) L S h1) : J X O pc L S0 h :=
  J_callS hX As hdc hw hc hd hnl hn hst hsm (Nat.zero_le _) (Or.inl ⟨_, _, rfl, kk⟩)
theorem S_x (hX : Ok X cc nL own ret) {α : Type} {tv : α → Option Value} {r : Except String α × Hp} {idx n d' : Nat} {y : MethodName} {h1 : Hp} {E : String} (As : List Value) (hdc : decode cc pc = .ok (.invokestatic idx, 3)) (hw : CWs own idx y cc' nL' ret' n)
    (hc : Ctr X.1 d' y cc' nL' ret' As h (.inr E, h1)) (hd : d' < dX X) (hnl : Nat.blt nL' 60 = true) (hn : As.length = n) (hst : S0 = As.reverse ++ S) (hsm : Nat.ble (S.map fun v => v.category).sum 8 = true) (hr : r = (.error E, h1)) : J X (oX tv r) pc L S0 h := by
  subst hr
  exact J_callS hX As hdc hw hc hd hnl hn hst hsm (Nat.le_refl _) (Or.inr ⟨_, _, rfl, rfl⟩)
end JE
