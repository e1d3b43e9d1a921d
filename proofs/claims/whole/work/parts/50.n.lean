/-! the constructors: a world that grows, by addresses; 'pre' the cells that are spoken of by place, 'rest' the others -/
abbrev NG := Launch × va_G × (Nat → ClassId)
def tysN (c : Nat → ClassId) : List (ClassId × FieldType) := [(c 0, .int), (c 1, .byte), (c 2, .boolean), (c 3, .long), (c 4, .object "LeanCity$City")]
def nwN : Cond → Bool
  | .methodLinkNest _ _ _ _ => true
  | _ => false
def NWN : List Cond := lw_tbl.filter nwN
def KN (g : NG) (s : State) : Prop := va_K g.2.1 vwCl (tysN g.2.2) s ∧ va_AO "LeanCity$City" s ∧ ∀ w ∈ NWN, va_Nw w s
theorem KN.warm {g : NG} {s U : State} (hW : s.WarmedH U.vm) (h : KN g s) : KN g U := by
  refine ⟨va_K.moved hW.alike h.1, va_AO.moved hW.alike h.2.1, fun w hw => ?_⟩
  have hb := (List.mem_filter.mp hw).2
  have h1 := h.2.2 w hw
  cases w <;> first | (cases hb; done) | exact va_Nw.warmM hW h1
theorem KN.same {g : NG} {s U : State} (hv : s.vm = U.vm) (h : KN g s) : KN g U := by
  refine ⟨va_K.moved (hv ▸ Vm.Alike.refl s.vm) h.1, va_AO.moved (hv ▸ Vm.Alike.refl s.vm) h.2.1, fun w hw => ?_⟩
  have hb := (List.mem_filter.mp hw).2
  have h1 := h.2.2 w hw
  cases w <;> first | (cases hb; done) | exact va_Nw.same rfl hv h1
abbrev NX := NG × Program × Env × State × MethodId × Array Value × List Frame × Method × Code
def JN (X : NX) (R : Room) (Q : State → Prop) (A : Nat → Prop) (kC sC : Nat) (pc : Nat) (L : List (Nat × Value)) (S : List Value) (ws : va_W) : Prop := match X with
  | (g, p, e, s, m, args, below, meth, c) => ∀ (H : Heap) (locs : List Loc) (ls : Array Slot), va_P g.2.1 vwCl ws H → va_D A ws → va_S A s.heap H locs → lv_has ls c.maxLocals L →
      W p g.1 e R s m args below meth c H locs kC sC Q (F0 m pc ls S)
def OkN (X : NX) (A : Nat → Prop) (cc : ByteArray) (nL : Nat) (own : String) (ret : Option FieldType) : Prop := match X with
  | (g, p, e, s, m, args, below, meth, c) => p.tables.exec = Jvm.exec ∧ c.code = cc ∧ c.maxLocals = nL ∧ s.vm.findClass own = some m.cls ∧ (∀ w ∈ TB, w.before args s = true) ∧ meth.sig.returnType = ret ∧ meth.locks = false ∧ KN g s ∧ (∀ q : Nat, s.heap.size ≤ q → A q)
def InitN (X : NX) : Prop := X.2.2.2.2.2.2.2.1.name = "<init>"
/-- a constructor's contract: its own raw cell becomes the cells that Post tells -/
def CtN (g : NG) (d : Nat) (y : MethodName) (cc : ByteArray) (nL : Nat) (ci : Nat) (raw : List Value) (mc ms : Nat) (Post : Nat → va_W → Prop) : Prop :=
  ∀ (h0 sz : Nat), Met g.1 y (.code y cc nL none :: TB) { frames := d, cells := mc, slots := ms, locals := 80 * d } (va_Pc [.ref h0] (fun U => U.heap.size = sz ∧ KN g U ∧ va_P g.2.1 vwCl [(h0, .inr (ci, raw))] U.heap))
    (fun _ st o t => o = .returned none ∧ (∃ ws, Post h0 ws ∧ va_P g.2.1 vwCl ws t.heap ∧ va_D (va_A [(h0, .inr (ci, raw))] sz) ws) ∧ va_F (va_A [(h0, .inr (ci, raw))] sz) st t) mc ms (va_A [(h0, .inr (ci, raw))] sz)
theorem CtN_of {g : NG} {d : Nat} {y : MethodName} {cc : ByteArray} {nL ci : Nat} {raw : List Value} {mc ms : Nat} {Post : Nat → va_W → Prop} (own : String) (hy : y.cls = own) (hpl : plainName y.cls = true) (hnm : y.name = "<init>") (hlen : Nat.ble 1 nL = true)
    (body : ∀ (X : NX) (A : Nat → Prop) (h0 : Nat), X.1 = g → OkN X A cc nL own none → InitN X → JN X { frames := d, cells := mc, slots := ms, locals := 80 * d } (MQ X.2.2.2.2.2.2.1 (fun _ st o t => o = .returned none ∧ (∃ ws, Post h0 ws ∧ va_P g.2.1 vwCl ws t.heap ∧ va_D A ws) ∧ va_F A st t) X.2.2.2.2.2.1 X.2.2.2.1 mc ms A) A 0 0 0 [(0, .ref h0)] [] [(h0, .inr (ci, raw))]) : CtN g d y cc nL ci raw mc ms Post := by
  intro h0 sz
  refine Met.ofW (cc := cc) (maxL := nL) (ret := none) hpl rfl ?_
  intro p e s m args below meth c s₁ B hml hv
  obtain ⟨rfl, hsz, hK, hP⟩ := hv
  subst hsz
  have hts := atoms_spec (ws := .code y cc nL none :: TB) B.pre
  have hown : s.vm.findClass own = some m.cls := hy ▸ findClass_of_methodNamed B.named
  have hin : meth.name = "<init>" := (name_of_methodNamed B.named B.method).1.trans hnm
  have hD : va_D (va_A [(h0, .inr (ci, raw))] s.heap.size) [(h0, .inr (ci, raw))] := va_D.self (A := fun _ => True) ⟨fun i j x q hi hj _ => by
    have h1 := (List.getElem?_eq_some_iff.mp hi).1
    have h2 := (List.getElem?_eq_some_iff.mp hj).1
    simp only [List.length_cons, List.length_nil] at h1 h2
    omega, fun _ _ _ => trivial⟩
  have hj := body (g, p, e, s, m, ([.ref h0] : List Value).toArray, below, meth, c) (va_A [(h0, .inr (ci, raw))] s.heap.size) h0 rfl
    ⟨B.exec, B.bytes, hml, hown, fun w h => hts w (List.mem_cons_of_mem _ h), B.returns, B.notSynchronized, hK, fun q h => Or.inr h⟩ hin
  have hl := lv_entry ([.ref h0]) (n := nL) (Nat.le_of_ble_eq_true hlen)
  rw [lg_entry_eq]
  generalize (lg_sl ([.ref h0]) ++ List.replicate (nL - (lg_sl ([.ref h0])).length) Slot.unset).toArray = ls at hl ⊢
  exact hj s.heap [] ls hP hD va_S.rf (by rw [hml]; exact hl)
section NR
variable {X : NX} {R : Room} {Q : State → Prop} {A : Nat → Prop} {kC sC : Nat} {cc cc' : ByteArray} {nL nL' : Nat} {own : String} {ret : Option FieldType} {pc : Nat} {L : List (Nat × Value)} {S : List Value} {ws pre rest : va_W}
theorem N_aload_n (hX : OkN X A cc nL own ret) {f : Fin 4} {i x : Nat} (k : Nat) (hd : decode cc pc = .ok (.aload_n f, 1)) (hi : (f : Nat) = i) (hk : L[k]? = some (i, .ref x)) (kk : JN X R Q A kC sC (pc + 1) L (.ref x :: S) ws) : JN X R Q A kC sC pc L S ws := by
  obtain ⟨g, p, e, s, m, args, below, meth, c⟩ := X
  intro H locs ls hP hD hS hl
  exact lv_aload_n hX.1 hX.2.1 hd hi (lv_at hl k hk) (kk H locs ls hP hD hS hl)
theorem N_iload_n (hX : OkN X A cc nL own ret) {f : Fin 4} {i : Nat} {x : Int32} (k : Nat) (hd : decode cc pc = .ok (.iload_n f, 1)) (hi : (f : Nat) = i) (hk : L[k]? = some (i, .int x)) (kk : JN X R Q A kC sC (pc + 1) L (.int x :: S) ws) : JN X R Q A kC sC pc L S ws := by
  obtain ⟨g, p, e, s, m, args, below, meth, c⟩ := X
  intro H locs ls hP hD hS hl
  exact lv_iload_n hX.1 hX.2.1 hd hi (lv_at hl k hk) (kk H locs ls hP hD hS hl)
theorem N_iconst (hX : OkN X A cc nL own ret) {n : Int} (v : Int32) (hd : decode cc pc = .ok (.iconst n, 1)) (hv : Int32.ofInt n = v) (kk : JN X R Q A kC sC (pc + 1) L (.int v :: S) ws) : JN X R Q A kC sC pc L S ws := by
  obtain ⟨g, p, e, s, m, args, below, meth, c⟩ := X
  intro H locs ls hP hD hS hl
  exact lv_iconst hX.1 hX.2.1 hd hv (kk H locs ls hP hD hS hl)
theorem N_bipush (hX : OkN X A cc nL own ret) {n : Int} (v : Int32) (hd : decode cc pc = .ok (.bipush n, 2)) (hv : (Int8.ofInt n).toInt32 = v) (kk : JN X R Q A kC sC (pc + 2) L (.int v :: S) ws) : JN X R Q A kC sC pc L S ws := by
  obtain ⟨g, p, e, s, m, args, below, meth, c⟩ := X
  intro H locs ls hP hD hS hl
  exact lv_bipush hX.1 hX.2.1 hd hv (kk H locs ls hP hD hS hl)
theorem N_sipush (hX : OkN X A cc nL own ret) {n : Int} (v : Int32) (hd : decode cc pc = .ok (.sipush n, 3)) (hv : (Int16.ofInt n).toInt32 = v) (kk : JN X R Q A kC sC (pc + 3) L (.int v :: S) ws) : JN X R Q A kC sC pc L S ws := by
  obtain ⟨g, p, e, s, m, args, below, meth, c⟩ := X
  intro H locs ls hP hD hS hl
  exact lv_sipush hX.1 hX.2.1 hd hv (kk H locs ls hP hD hS hl)
theorem N_dup (hX : OkN X A cc nL own ret) {v : Value} (hd : decode cc pc = .ok (.dup, 1)) (hv : v.category = 1) (kk : JN X R Q A kC sC (pc + 1) L (v :: v :: S) ws) : JN X R Q A kC sC pc L (v :: S) ws := by
  obtain ⟨g, p, e, s, m, args, below, meth, c⟩ := X
  intro H locs ls hP hD hS hl
  exact lv_dup hX.1 hX.2.1 hd hv (kk H locs ls hP hD hS hl)
theorem N_goto (hX : OkN X A cc nL own ret) {off : Int} (tgt : Nat) (hd : decode cc pc = .ok (.goto off, 3)) (ht : (pc : Int) + off = (tgt : Int)) (kk : JN X R Q A kC sC tgt L S ws) : JN X R Q A kC sC pc L S ws := by
  obtain ⟨g, p, e, s, m, args, below, meth, c⟩ := X
  intro H locs ls hP hD hS hl
  exact lv_goto hX.1 hX.2.1 hd ht (kk H locs ls hP hD hS hl)
theorem N_istore_n (hX : OkN X A cc nL own ret) {f : Fin 4} {i : Nat} {x : Int32} (L' : List (Nat × Value)) (hd : decode cc pc = .ok (.istore_n f, 1)) (hi : (f : Nat) = i) (hn : Nat.blt i nL = true) (hl' : (i, Value.int x) :: L.filter (fun q => !(q.1 == i) && !(q.1 + 1 == i && q.2.category == 2)) = L') (kk : JN X R Q A kC sC (pc + 1) L' S ws) : JN X R Q A kC sC pc L (.int x :: S) ws := by
  obtain ⟨g, p, e, s, m, args, below, meth, c⟩ := X
  intro H locs ls hP hD hS hl
  exact lv_istore_n hX.1 hX.2.1 hd hi hl (by rw [hX.2.2.1]; exact Nat.blt_eq.mp hn) hl' (fun ls' h9 => kk H locs ls' hP hD hS h9)
theorem N_istore (hX : OkN X A cc nL own ret) {i : Nat} {x : Int32} (L' : List (Nat × Value)) (hd : decode cc pc = .ok (.istore i, 2)) (hn : Nat.blt i nL = true) (hl' : (i, Value.int x) :: L.filter (fun q => !(q.1 == i) && !(q.1 + 1 == i && q.2.category == 2)) = L') (kk : JN X R Q A kC sC (pc + 2) L' S ws) : JN X R Q A kC sC pc L (.int x :: S) ws := by
  obtain ⟨g, p, e, s, m, args, below, meth, c⟩ := X
  intro H locs ls hP hD hS hl
  exact lv_istore hX.1 hX.2.1 hd hl (by rw [hX.2.2.1]; exact Nat.blt_eq.mp hn) hl' (fun ls' h9 => kk H locs ls' hP hD hS h9)
theorem N_astore_n (hX : OkN X A cc nL own ret) {f : Fin 4} {i x : Nat} (L' : List (Nat × Value)) (hd : decode cc pc = .ok (.astore_n f, 1)) (hi : (f : Nat) = i) (hn : Nat.blt i nL = true) (hl' : (i, Value.ref x) :: L.filter (fun q => !(q.1 == i) && !(q.1 + 1 == i && q.2.category == 2)) = L') (kk : JN X R Q A kC sC (pc + 1) L' S ws) : JN X R Q A kC sC pc L (.ref x :: S) ws := by
  obtain ⟨g, p, e, s, m, args, below, meth, c⟩ := X
  intro H locs ls hP hD hS hl
  exact lv_astore_n hX.1 hX.2.1 hd hi hl (by rw [hX.2.2.1]; exact Nat.blt_eq.mp hn) hl' (fun ls' h9 => kk H locs ls' hP hD hS h9)
theorem N_iinc (hX : OkN X A cc nL own ret) {i : Nat} {n : Int} {x : Int32} (v : Int32) (k : Nat) (L' : List (Nat × Value)) (hd : decode cc pc = .ok (.iinc i n, 3)) (hk : L[k]? = some (i, .int x)) (hv : x + Int32.ofInt n = v) (hn : Nat.blt i nL = true) (hl' : (i, Value.int v) :: L.filter (fun q => !(q.1 == i) && !(q.1 + 1 == i && q.2.category == 2)) = L') (kk : JN X R Q A kC sC (pc + 3) L' S ws) : JN X R Q A kC sC pc L S ws := by
  obtain ⟨g, p, e, s, m, args, below, meth, c⟩ := X
  intro H locs ls hP hD hS hl
  exact lv_iinc hX.1 hX.2.1 hd hl hk hv (by rw [hX.2.2.1]; exact Nat.blt_eq.mp hn) hl' (fun ls' h9 => kk H locs ls' hP hD hS h9)
theorem N_geT (hX : OkN X A cc nL own ret) {x y : Int32} {off : Int} (tgt : Nat) (hd : decode cc pc = .ok (.if_icmp .ge off, 3)) (ht : (pc : Int) + off = (tgt : Int)) (hc : ¬ (x < y)) (kk : JN X R Q A kC sC tgt L S ws) : JN X R Q A kC sC pc L (.int y :: .int x :: S) ws := by
  obtain ⟨g, p, e, s, m, args, below, meth, c⟩ := X
  intro H locs ls hP hD hS hl
  exact lv_icmp_ge hX.1 hX.2.1 hd ht (fun _ => kk H locs ls hP hD hS hl) (fun q => absurd (Int32.not_lt.mp hc) q)
theorem N_geF (hX : OkN X A cc nL own ret) {x y : Int32} {off : Int} (tgt : Nat) (hd : decode cc pc = .ok (.if_icmp .ge off, 3)) (ht : (pc : Int) + off = (tgt : Int)) (hc : x < y) (kk : JN X R Q A kC sC (pc + 3) L S ws) : JN X R Q A kC sC pc L (.int y :: .int x :: S) ws := by
  obtain ⟨g, p, e, s, m, args, below, meth, c⟩ := X
  intro H locs ls hP hD hS hl
  exact lv_icmp_ge hX.1 hX.2.1 hd ht (fun q => absurd q (Int32.not_le.mpr hc)) (fun _ => kk H locs ls hP hD hS hl)
theorem N_objInit (hX : OkN X A cc nL own ret) {idx a : Nat} (hd : decode cc pc = .ok (.invokespecial idx, 3)) (h1 : Cond.methodLink own idx Lib.objectInit ∈ TB) (h2 : Cond.instanceMethod Lib.objectInit ∈ TB) (h3 : Cond.code Lib.objectInit ⟨#[0xb1]⟩ 1 none ∈ TB) (hr : 1 ≤ R.frames ∧ 40 ≤ R.locals) (hsm : Nat.ble (S.map fun v => v.category).sum 8 = true) (kk : JN X R Q A kC sC (pc + 3) L S ws) : JN X R Q A kC sC pc L (.ref a :: S) ws := by
  obtain ⟨g, p, e, s, m, args, below, meth, c⟩ := X
  intro H locs ls hP hD hS hl
  have ht : ∀ w ∈ TB, w.before args s = true := hX.2.2.2.2.1
  exact W.objInit hX.1 hX.2.1 hX.2.2.2.1 (ht _ h1) (ht _ h2) (ht _ h3) rfl hl.1 rfl hd hr.1 (by have := Nat.le_of_ble_eq_true hsm; show 2 * 0 + _ + 12 ≤ _; omega) (kk H locs ls hP hD hS hl)
theorem nd_of {A : Nat → Prop} {ws : va_W} (hD : va_D A ws) : (ws.map Prod.fst).Nodup := by
  refine List.pairwise_iff_getElem.mpr fun i j hi hj hij he => ?_
  rw [List.length_map] at hi hj
  rw [List.getElem_map, List.getElem_map] at he
  have := hD.1 i j ws[i] ws[j] (List.getElem?_eq_getElem hi) (List.getElem?_eq_getElem hj) he
  omega
theorem nd_to {A : Nat → Prop} {ws : va_W} (hn : (ws.map Prod.fst).Nodup) (hA : ∀ x ∈ ws, A x.1) : va_D A ws := by
  refine ⟨fun i j x q hi hj he => ?_, fun k q hk => hA q (List.mem_of_getElem? hk)⟩
  have h1 : (ws.map Prod.fst)[i]? = some x.1 := by rw [List.getElem?_map, hi]; rfl
  have h2 : (ws.map Prod.fst)[j]? = some q.1 := by rw [List.getElem?_map, hj]; rfl
  rw [he] at h1
  obtain ⟨a1, b1⟩ := List.getElem?_eq_some_iff.mp h1
  obtain ⟨a2, b2⟩ := List.getElem?_eq_some_iff.mp h2
  have hpw := List.pairwise_iff_getElem.mp hn
  rcases Nat.lt_trichotomy i j with z | z | z
  · exact absurd (b1.trans b2.symm) (hpw i j a1 a2 z)
  · exact z
  · exact absurd (b2.trans b1.symm) (hpw j i a2 a1 z)
theorem vaD_mem {A : Nat → Prop} {ws : va_W} (hD : va_D A ws) {x : Nat × va_E} (h : x ∈ ws) : A x.1 := by
  obtain ⟨i, hi⟩ := List.getElem?_of_mem h
  exact hD.2 i x hi
theorem vaP_mem {D : va_G} {ws : va_W} {H : Heap} (hP : va_P D vwCl ws H) {x : Nat × va_E} (h : x ∈ ws) : va_at D vwCl x H := by
  obtain ⟨i, hi⟩ := List.getElem?_of_mem h
  exact hP i x hi
theorem vaP_of {D : va_G} {ws : va_W} {H : Heap} (h : ∀ x ∈ ws, va_at D vwCl x H) : va_P D vwCl ws H := fun _ q hk => h q (List.mem_of_getElem? hk)
theorem N_perm (ws' : va_W) (hp : ws.Perm ws') (kk : JN X R Q A kC sC pc L S ws') : JN X R Q A kC sC pc L S ws := by
  obtain ⟨g, p, e, s, m, args, below, meth, c⟩ := X
  intro H locs ls hP hD hS hl
  exact kk H locs ls (vaP_of fun x hx => vaP_mem hP (hp.mem_iff.mpr hx)) (nd_to ((hp.map Prod.fst).nodup_iff.mp (nd_of hD)) fun x hx => vaD_mem hD (hp.mem_iff.mpr hx)) hS hl
/-- the cell last made goes behind the tracked ones -/
theorem N_track {x : Nat × va_E} (kk : JN X R Q A kC sC pc L S ((pre ++ [x]) ++ rest)) : JN X R Q A kC sC pc L S (pre ++ (rest ++ [x])) := by
  refine N_perm _ ?_ kk
  rw [List.append_assoc]
  exact List.Perm.append_left pre List.perm_append_comm
theorem N_newarr (hX : OkN X A cc nL own ret) {atype : ArrayType} {n : Int32} (t N : Nat) {a0 : vp_A} (hd : decode cc pc = .ok (.newarray atype, 2)) (harr : Cond.arrayClass (newarray.typeOf atype) ∈ TB) (ht : (tysN X.1.2.2)[t]? = some (X.1.2.2 t, newarray.typeOf atype)) (hprim : ∀ C, newarray.typeOf atype ≠ .object C)
    (ha : ∀ cA : ClassId, vp_cell cA a0 = arrV cA N (fun _ => defaultValue (newarray.typeOf atype))) (hn : ¬ n < 0) (hN : n.toNatClampNeg = N) (hb : N * componentBytes (newarray.typeOf atype) ≤ 536870912) (hc : kC + 1 ≤ R.cells ∧ sC + N ≤ R.slots)
    (kk : ∀ q : Nat, JN X R Q A (kC + 1) (sC + N) (pc + 2) L (.ref q :: S) (pre ++ (rest ++ [(q, .inl (X.1.2.2 t, a0))]))) : JN X R Q A kC sC pc L (.int n :: S) (pre ++ rest) := by
  obtain ⟨g, p, e, s, m, args, below, meth, c⟩ := X
  intro H locs ls hP hD hS hl
  refine va_newa hX.1 hX.2.1 (hX.2.2.2.2.1 _ harr) rfl hX.2.2.2.2.2.2.2.1.1 hP hD hS hX.2.2.2.2.2.2.2.2 ha hn hN hb hc.1 hc.2 hd (fun q cA H1 hK1 hP1 hD1 hS1 => ?_)
  have e1 : cA = g.2.2 t := by
    have h1 := (hK1.2 (tysN g.2.2).length (cA, newarray.typeOf atype) (by rw [List.getElem?_append_right (Nat.le_refl _), Nat.sub_self]; rfl)).2
    have h2 := (hX.2.2.2.2.2.2.2.1.1.2 t _ ht).2
    generalize newarray.typeOf atype = ty at h1 h2 hprim
    cases ty with
    | object C => exact absurd rfl (hprim C)
    | _ => exact Option.some.inj (Eq.trans (Eq.symm h1) h2)
  subst e1
  rw [List.append_assoc] at hP1 hD1
  exact kk q H1 locs ls hP1 hD1 hS1 hl
theorem N_newq (hX : OkN X A cc nL own ret) {idx : Nat} {n : Int32} (N : Nat) (hd : decode cc pc = .ok (.anewarray idx, 3)) (hcl : Cond.classLink own idx "LeanCity$City" ∈ TB) (hn : ¬ n < 0) (hN : n.toNatClampNeg = N) (hb : N * 4 ≤ 536870912) (hc : kC + 1 ≤ R.cells ∧ sC + N ≤ R.slots)
    (kk : ∀ q : Nat, JN X R Q A (kC + 1) (sC + N) (pc + 3) L (.ref q :: S) (pre ++ (rest ++ [(q, .inl (X.1.2.2 4, N, .inr (.inr (.inr (.inr fun _ => none)))))]))) : JN X R Q A kC sC pc L (.int n :: S) (pre ++ rest) := by
  obtain ⟨g, p, e, s, m, args, below, meth, c⟩ := X
  intro H locs ls hP hD hS hl
  refine va_newq hX.1 hX.2.1 hX.2.2.2.1 (hX.2.2.2.2.1 _ hcl) hX.2.2.2.2.2.2.2.1.2.1 hX.2.2.2.2.2.2.2.1.1 hP hD hS hX.2.2.2.2.2.2.2.2 hn hN hb hc.1 hc.2 hd (fun q cA H1 hK1 hP1 hD1 hS1 => ?_)
  have e1 : cA = g.2.2 4 := by
    obtain ⟨_, _, _, _, _, h1⟩ := (hK1.2 (tysN g.2.2).length (cA, .object "LeanCity$City") (by rw [List.getElem?_append_right (Nat.le_refl _), Nat.sub_self]; rfl)).2
    obtain ⟨_, _, _, _, _, h2⟩ := (hX.2.2.2.2.2.2.2.1.1.2 4 (g.2.2 4, .object "LeanCity$City") rfl).2
    exact Option.some.inj (h1.symm.trans h2)
  subst e1
  rw [List.append_assoc] at hP1 hD1
  exact kk q H1 locs ls hP1 hD1 hS1 hl
theorem N_new (hX : OkN X A cc nL own ret) {idx ci N : Nat} {C : String} {T : u_T} {fs : List Value} (hd : decode cc pc = .ok (.new idx, 3)) (hcl : Cond.classLink own idx C ∈ TB) (hin : Cond.instantiable C N ∈ TB) (hini : Cond.initialized C ∈ TB) (hc : vwCl[ci]? = some (C, T, N))
    (hfs : ∀ j, j < N → defaultValue ((parseFieldDescriptor (T j).2.2.1).getD .int) = vp_V fs j) (hr : kC + 1 ≤ R.cells ∧ sC + N ≤ R.slots) (kk : ∀ q : Nat, JN X R Q A (kC + 1) (sC + N) (pc + 3) L (.ref q :: S) (pre ++ (rest ++ [(q, .inr (ci, fs))]))) : JN X R Q A kC sC pc L S (pre ++ rest) := by
  obtain ⟨g, p, e, s, m, args, below, meth, c⟩ := X
  intro H locs ls hP hD hS hl
  have ht : ∀ w ∈ TB, w.before args s = true := hX.2.2.2.2.1
  refine va_new (C := C) (T := T) (N := N) (fs := fs) hX.1 hX.2.1 ht (u_wsTB hc) _ (u_tyTB hc) hX.2.2.2.1 (ht _ hcl) (ht _ hin) (ht _ hini) hX.2.2.2.2.2.2.2.1.1 hP hD hS hX.2.2.2.2.2.2.2.2 hc hfs hr.1 hr.2 hd (fun q H1 hP1 hD1 hS1 => ?_)
  rw [List.append_assoc] at hP1 hD1
  exact kk q H1 locs ls hP1 hD1 hS1 hl
/-- a field of a tracked cell -/
theorem N_get (hX : OkN X A cc nL own ret) {idx ci fi k a : Nat} {fs : List Value} {v : Value} (hd : decode cc pc = .ok (.getfield idx, 3)) (hf : FL own idx ci fi) (hk : pre[k]? = some (a, .inr (ci, fs))) (hv : fs[fi]? = some v) (kk : JN X R Q A kC sC (pc + 3) L (v :: S) (pre ++ rest)) : JN X R Q A kC sC pc L (.ref a :: S) (pre ++ rest) := by
  obtain ⟨g, p, e, s, m, args, below, meth, c⟩ := X
  obtain ⟨C, T, N, h1, h2, h3, h4⟩ := hf
  intro H locs ls hP hD hS hl
  have hk' : (pre ++ rest)[k]? = some (a, .inr (ci, fs)) := by rw [List.getElem?_append_left (List.getElem?_eq_some_iff.mp hk).1]; exact hk
  exact va_get (C := C) (T := T) (N := N) hX.1 hX.2.1 hX.2.2.2.2.1 (u_wsTB h1) hX.2.2.2.1 hX.2.2.2.2.2.2.2.1.1 hP k hk' h1 fi h2 (hX.2.2.2.2.1 _ h4) (fun _ q => q) hv hd (kk H locs ls hP hD hS hl)
theorem set_pre {pre rest : va_W} {k : Nat} {x : Nat × va_E} (hk : k < pre.length) : (pre ++ rest).set k x = pre.set k x ++ rest := by
  rw [List.set_append_left _ _ hk]
def FWf (ci fi : Nat) (own : String) (ty : FieldType) : Prop := ∃ (C : String) (T : u_T) (N : Nat), vwCl[ci]? = some (C, T, N) ∧ (T fi).2.2.2 = true ∧ (T fi).1 = own ∧ parseFieldDescriptor (T fi).2.2.1 = some ty
theorem N_putF (hX : OkN X A cc nL own ret) (hin : InitN X) {idx ci fi k a : Nat} {fs : List Value} {v : Value} {ty : FieldType} (pre' : va_W) (hd : decode cc pc = .ok (.putfield idx, 3)) (hf : FL own idx ci fi) (hw : FWf ci fi own ty) (hk : pre[k]? = some (a, .inr (ci, fs))) (hn : narrow ty v = v) (hfit : fits ty v = true) (hl0 : Nat.blt fi fs.length = true) (hp : pre.set k (a, .inr (ci, fs.set fi v)) = pre')
    (kk : JN X R Q A kC sC (pc + 3) L S (pre' ++ rest)) : JN X R Q A kC sC pc L (v :: .ref a :: S) (pre ++ rest) := by
  obtain ⟨g, p, e, s, m, args, below, meth, c⟩ := X
  obtain ⟨C, T, N, h1, h2, h3, h4⟩ := hf
  obtain ⟨C', T', N', g1, g2, g3, g4⟩ := hw
  obtain ⟨rfl, rfl, rfl⟩ : C = C' ∧ T = T' ∧ N = N' := by
    have q := h1.symm.trans g1
    simp only [Option.some.injEq, Prod.mk.injEq] at q
    exact q
  intro H locs ls hP hD hS hl
  have hlt := (List.getElem?_eq_some_iff.mp hk).1
  have hk' : (pre ++ rest)[k]? = some (a, .inr (ci, fs)) := by rw [List.getElem?_append_left hlt]; exact hk
  refine va_putF (C := C) (T := T) (N := N) (v := v) (ty := ty) hX.1 hX.2.1 hX.2.2.2.2.1 (u_wsTB h1) _ (u_tyTB h1) (u_nmTB h1) hX.2.2.2.1 hX.2.2.2.2.2.2.2.1.1 hP hD hS k hk' h1 fi h2 (hX.2.2.2.2.1 _ h4) (fun _ q => q) g2 hin g3 g4 hn hfit (Nat.blt_eq.mp hl0) hd (fun H1 locs1 hP1 hD1 hS1 => ?_)
  rw [set_pre hlt, hp] at hP1 hD1
  exact kk H1 locs1 ls hP1 hD1 hS1 hl
theorem N_put (hX : OkN X A cc nL own ret) {idx ci fi k a : Nat} {fs : List Value} {v : Value} {ty : FieldType} (pre' : va_W) (hd : decode cc pc = .ok (.putfield idx, 3)) (hf : FL own idx ci fi) (hw : FW ci fi ty) (hk : pre[k]? = some (a, .inr (ci, fs))) (hn : narrow ty v = v) (hfit : fits ty v = true) (hl0 : Nat.blt fi fs.length = true) (hp : pre.set k (a, .inr (ci, fs.set fi v)) = pre')
    (kk : JN X R Q A kC sC (pc + 3) L S (pre' ++ rest)) : JN X R Q A kC sC pc L (v :: .ref a :: S) (pre ++ rest) := by
  obtain ⟨g, p, e, s, m, args, below, meth, c⟩ := X
  obtain ⟨C, T, N, h1, h2, h3, h4⟩ := hf
  obtain ⟨C', T', N', g1, g2, g4⟩ := hw
  obtain ⟨rfl, rfl, rfl⟩ : C = C' ∧ T = T' ∧ N = N' := by
    have q := h1.symm.trans g1
    simp only [Option.some.injEq, Prod.mk.injEq] at q
    exact q
  intro H locs ls hP hD hS hl
  have hlt := (List.getElem?_eq_some_iff.mp hk).1
  have hk' : (pre ++ rest)[k]? = some (a, .inr (ci, fs)) := by rw [List.getElem?_append_left hlt]; exact hk
  refine va_put (C := C) (T := T) (N := N) (v := v) (ty := ty) hX.1 hX.2.1 hX.2.2.2.2.1 (u_wsTB h1) _ (u_tyTB h1) (u_nmTB h1) hX.2.2.2.1 hX.2.2.2.2.2.2.2.1.1 hP hD hS k hk' h1 fi h2 (hX.2.2.2.2.1 _ h4) (fun _ q => q) g2 g4 hn hfit (Nat.blt_eq.mp hl0) hd (fun H1 locs1 hP1 hD1 hS1 => ?_)
  rw [set_pre hlt, hp] at hP1 hD1
  exact kk H1 locs1 ls hP1 hD1 hS1 hl
theorem N_alenq (hX : OkN X A cc nL own ret) {k a N : Nat} {f : Nat → Option Nat} (v : Int32) (hd : decode cc pc = .ok (.arraylength, 1)) (hk : pre[k]? = some (a, .inl (X.1.2.2 4, N, .inr (.inr (.inr (.inr f)))))) (hv : Int32.ofNat N = v) (kk : JN X R Q A kC sC (pc + 1) L (.int v :: S) (pre ++ rest)) : JN X R Q A kC sC pc L (.ref a :: S) (pre ++ rest) := by
  obtain ⟨g, p, e, s, m, args, below, meth, c⟩ := X
  intro H locs ls hP hD hS hl
  have hk' := (List.getElem?_append_left (l₂ := rest) (List.getElem?_eq_some_iff.mp hk).1).trans hk
  exact va_alen (ty := .object "LeanCity$City") hX.1 hX.2.1 hX.2.2.2.2.2.2.2.1.1 hP k 4 hk' rfl hv hd (kk H locs ls hP hD hS hl)
theorem N_iast (hX : OkN X A cc nL own ret) {k a N : Nat} {f : Nat → Int32} {i x : Int32} (pre' : va_W) (hd : decode cc pc = .ok (.iastore, 1)) (hk : pre[k]? = some (a, .inl (X.1.2.2 0, N, .inl f))) (hi : ix i N) (hp : pre.set k (a, .inl (X.1.2.2 0, N, .inl (upd f i.toNatClampNeg x))) = pre') (kk : JN X R Q A kC sC (pc + 1) L S (pre' ++ rest)) : JN X R Q A kC sC pc L (.int x :: .int i :: .ref a :: S) (pre ++ rest) := by
  obtain ⟨g, p, e, s, m, args, below, meth, c⟩ := X
  intro H locs ls hP hD hS hl
  have hlt := (List.getElem?_eq_some_iff.mp hk).1
  have hk' := (List.getElem?_append_left (l₂ := rest) hlt).trans hk
  refine va_iast hX.1 hX.2.1 hX.2.2.2.2.2.2.2.1.1 hP hD hS k 0 hk' rfl (ix_in hi) hd (fun H1 locs1 hP1 hD1 hS1 => ?_)
  rw [set_pre hlt, hp] at hP1 hD1
  exact kk H1 locs1 ls hP1 hD1 hS1 hl
/-- a city that stands in the rest is put into a tracked row -/
theorem N_astq (hX : OkN X A cc nL own ret) {k a N v : Nat} {vs : List Value} {f : Nat → Option Nat} {i : Int32} (pre' : va_W) (hd : decode cc pc = .ok (.aastore, 1)) (hk : pre[k]? = some (a, .inl (X.1.2.2 4, N, .inr (.inr (.inr (.inr f)))))) (hv : (v, .inr (1, vs)) ∈ rest) (hi : ix i N) (hp : pre.set k (a, .inl (X.1.2.2 4, N, .inr (.inr (.inr (.inr (va_up f i.toNatClampNeg (some v))))))) = pre')
    (kk : JN X R Q A kC sC (pc + 1) L S (pre' ++ rest)) : JN X R Q A kC sC pc L (.ref v :: .int i :: .ref a :: S) (pre ++ rest) := by
  obtain ⟨g, p, e, s, m, args, below, meth, c⟩ := X
  intro H locs ls hP hD hS hl
  have hlt := (List.getElem?_eq_some_iff.mp hk).1
  have hk' := (List.getElem?_append_left (l₂ := rest) hlt).trans hk
  obtain ⟨qk, hqk⟩ := List.getElem?_of_mem (List.mem_append_right pre hv)
  refine va_astq (r := (RX1, TX1, 18)) hX.1 hX.2.1 hX.2.2.2.2.2.2.2.1.1 hP hD hS k 4 qk 1 hk' rfl hqk rfl (ix_in hi) hd (fun H1 locs1 hP1 hD1 hS1 => ?_)
  rw [set_pre hlt, hp] at hP1 hD1
  exact kk H1 locs1 ls hP1 hD1 hS1 hl
end NR
section NC
variable {X : NX} {R : Room} {Q : State → Prop} {A : Nat → Prop} {kC sC : Nat} {cc cc' : ByteArray} {nL nL' : Nat} {own : String} {ret : Option FieldType} {pc : Nat} {L : List (Nat × Value)} {S : List Value} {ws pre rest : va_W}
/-- a constructor is called on the cell last made -/
theorem N_call (hX : OkN X A cc nL own ret) {idx d' ci q mc ms : Nat} {y : MethodName} {raw : List Value} {Post : Nat → va_W → Prop} (hd : decode cc pc = .ok (.invokespecial idx, 3)) (hw : (CW own idx y cc' nL' none 0 ∨ (Cond.methodLinkNest own idx y "LeanCity" ∈ NWN ∧ Cond.initialized y.cls ∈ TB ∧ Cond.code y cc' nL' none ∈ TB ∧ (y.cls ≠ "java/lang/invoke/MethodHandle" ∧ y.cls ≠ "java/lang/invoke/VarHandle" ∧ (parseMethodDescriptor y.desc).map (fun d => d.parameters.length) = some 0))) ∧ Cond.instanceMethod y ∈ TB) (hy1 : y.name = "<init>") (hc : CtN X.1 d' y cc' nL' ci raw mc ms Post)
    (hdd : d' + 1 ≤ R.frames) (hdl : 80 * d' + 79 ≤ R.locals) (hnl : Nat.blt nL' 60 = true) (hr : kC + mc ≤ R.cells ∧ sC + ms ≤ R.slots) (hsm : Nat.ble (S.map fun v => v.category).sum 8 = true)
    (kk : ∀ w1 : va_W, Post q w1 → JN X R Q A (kC + mc) (sC + ms) (pc + 3) L S (pre ++ (rest ++ w1))) : JN X R Q A kC sC pc L (.ref q :: S) (pre ++ (rest ++ [(q, .inr (ci, raw))])) := by
  obtain ⟨g, p, e, s, m, args, below, meth, c⟩ := X
  intro H locs ls hP hD hS hl
  have ht : ∀ w ∈ TB, w.before args s = true := hX.2.2.2.2.1
  have hn6 := Nat.blt_eq.mp hnl
  rw [← List.append_assoc] at hP hD
  generalize hwr : pre ++ rest = wr at hP hD
  have hPc : va_P g.2.1 vwCl [(q, .inr (ci, raw))] H := vaP_of fun x hx => vaP_mem hP (List.mem_append_right _ hx)
  have hFree : ∀ z, va_A [(q, .inr (ci, raw))] H.size z → A z := by
    intro z hz
    rcases hz with ⟨k, e9, h9⟩ | h9
    · exact vaD_mem hD (x := (z, e9)) (List.mem_append_right _ (List.mem_of_getElem? h9))
    · exact hX.2.2.2.2.2.2.2.2 z (Nat.le_trans hS.1 h9)
  have hPreS : PreS s H (va_Pc [.ref q] (fun U => U.heap.size = H.size ∧ KN g U ∧ va_P g.2.1 vwCl [(q, .inr (ci, raw))] U.heap)) [.ref q] :=
    ⟨fun a U g9 mk z => ⟨z.1, z.2.1, KN.same (s := U) (U := U.calling g9 mk a) rfl z.2.2.1, z.2.2.2⟩, fun U hU hW => ⟨rfl, by rw [hU], hX.2.2.2.2.2.2.2.1.warm hW, by rw [hU]; exact hPc⟩⟩
  have hsm8 : 2 * (F0 m pc ls (.ref q :: S)).monitorRoom + (S.map fun v => v.category).sum ≤ 8 := by
    show 2 * 0 + _ ≤ 8
    have := Nat.le_of_ble_eq_true hsm; omega
  have hR2 : d' + 1 ≤ R.frames ∧ 8 + (nL' + 11) + 80 * d' ≤ R.locals := ⟨hdd, by omega⟩
  have hr1 : va_Run p g.1 e R s m args below meth c H locs kC sC mc ms (F0 m pc ls (.ref q :: S)) S (fun st o t => o = .returned none ∧ (∃ ws, Post q ws ∧ va_P g.2.1 vwCl ws t.heap ∧ va_D (va_A [(q, .inr (ci, raw))] H.size) ws) ∧ va_F (va_A [(q, .inr (ci, raw))] H.size) st t) (va_A [(q, .inr (ci, raw))] H.size) := by
    rcases hw.1 with hw1 | hw1
    · have hB : CallB R s args own idx y cc' nL' none (.code y cc' nL' none :: TB) { frames := d', cells := mc, slots := ms, locals := 80 * d' } mc ms 0 :=
        callB_of 0 ht (good_TB _ fun w q => (List.mem_cons.mp q).elim (fun q => q ▸ hw1.2.2.1) id) rfl rfl rfl (ht _ hw1.2.1) (ht _ hw1.1) hw1.2.2.2 hR2
      exact va_runI (cc := cc) (nL := nL) (Ts := TB) (own := own) (b := q) (As := []) (rest := S) (n := 0) (index := idx) ⟨hX.1, hX.2.1, hX.2.2.1, hX.2.2.2.1, ht⟩ (hc q H.size) ⟨hB, hy1, ht _ hw.2⟩ hPreS rfl rfl (hl.1.trans hX.2.2.1) rfl hsm8 hd hr
    · have hB : va_CN R s args own idx y "LeanCity" cc' nL' none (.code y cc' nL' none :: TB) { frames := d', cells := mc, slots := ms, locals := 80 * d' } mc ms 0 :=
        va_cnB 0 ht (good_TB _ fun w q => (List.mem_cons.mp q).elim (fun q => q ▸ hw1.2.2.1) id) rfl rfl rfl (hX.2.2.2.2.2.2.2.1.2.2 _ hw1.1) (ht _ hw1.2.1) hw1.2.2.2 hR2
      exact va_runIN (cc := cc) (nL := nL) (Ts := TB) (own := own) (b := q) (As := []) (rest := S) (n := 0) (index := idx) ⟨hX.1, hX.2.1, hX.2.2.1, hX.2.2.2.1, ht⟩ (hc q H.size) ⟨hB, hy1, ht _ hw.2⟩ hPreS rfl rfl (hl.1.trans hX.2.2.1) rfl hsm8 hd hr
  intro T hT XX
  obtain ⟨v, st₀, t, T', Lc, h0, X', hL, e1, e2, ⟨hv, ⟨w1, hPost, hP1, hD1⟩, hF⟩, st⟩ := hr1 T hT XX
  cases hv
  obtain ⟨hz, hk⟩ := hF
  rw [h0] at hz hk
  have hkeep : ∀ x ∈ wr, x.1 < H.size ∧ ¬ va_A [(q, .inr (ci, raw))] H.size x.1 := by
    intro x hx
    have hlt := (vaP_mem hP (List.mem_append_left _ hx)).lt
    refine ⟨hlt, fun hz => ?_⟩
    rcases hz with ⟨k, e9, h9⟩ | h9
    · have hm : (x.1, e9) ∈ [(q, (.inr (ci, raw) : va_E))] := List.mem_of_getElem? h9
      simp only [List.mem_cons, List.not_mem_nil, or_false, Prod.mk.injEq] at hm
      have hnd := nd_of hD
      rw [List.map_append, List.map_cons, List.map_nil, List.nodup_append] at hnd
      exact hnd.2.2 x.1 (List.mem_map_of_mem hx) q (List.mem_singleton.mpr rfl) hm.1
    · omega
  obtain ⟨t2, a1, b1⟩ := kk w1 hPost T'.heap (locs ++ Lc) ls (by
      rw [← List.append_assoc, hwr]
      refine vaP_of fun x hx => ?_
      rw [e1]
      rcases List.mem_append.mp hx with hx | hx
      · exact (vaP_mem hP (List.mem_append_left _ hx)).kept (hk x.1 (hkeep x hx).1 (hkeep x hx).2)
      · exact vaP_mem hP1 hx) (by
      rw [← List.append_assoc, hwr]
      refine nd_to ?_ fun x hx => ?_
      · rw [List.map_append, List.nodup_append]
        have hnd := nd_of hD
        rw [List.map_append, List.nodup_append] at hnd
        refine ⟨hnd.1, nd_of hD1, fun a ha b hb hab => ?_⟩
        obtain ⟨x, hx, rfl⟩ := List.mem_map.mp ha
        obtain ⟨z, hz9, rfl⟩ := List.mem_map.mp hb
        exact (hkeep x hx).2 (hab ▸ vaD_mem hD1 hz9)
      · rcases List.mem_append.mp hx with hx | hx
        · exact vaD_mem hD (List.mem_append_left _ hx)
        · exact hFree _ (vaD_mem hD1 hx)) ⟨Nat.le_trans hS.1 (by rw [e1]; exact hz), fun z h1 h2 => by
        rw [e1, hk z (Nat.lt_of_lt_of_le h1 hS.1) (fun z9 => h2 (hFree z z9))]; exact hS.2.1 z h1 h2, fun z hz9 => (List.mem_append.mp hz9).elim (hS.2.2 z) (fun h9 => hFree _ (hL z h9))⟩ hl T' rfl X'
  exact ⟨t2, st t2 a1, b1⟩
theorem N_vret (hX : OkN X A cc nL own none) {mc ms : Nat} {Post : va_W → Prop} (hd : decode cc pc = .ok (.return_, 1)) (hp : Post ws) (h1 : kC ≤ mc) (h2 : sC ≤ ms) :
    JN X R (MQ X.2.2.2.2.2.2.1 (fun _ st o t => o = .returned none ∧ (∃ ws, Post ws ∧ va_P X.1.2.1 vwCl ws t.heap ∧ va_D A ws) ∧ va_F A st t) X.2.2.2.2.2.1 X.2.2.2.1 mc ms A) A kC sC pc L [] ws := by
  obtain ⟨g, p, e, s, m, args, below, meth, c⟩ := X
  intro H locs ls hP hD hS hl
  refine W.widen (k := mc) (n := ms) h1 h2 ?_
  exact W.vret hX.1 hX.2.1 hX.2.2.2.2.2.1 (fun t ht hW => ⟨rfl, ⟨ws, hp, by rw [ht]; exact hP, hD⟩, hS.F ht⟩) hS.2.2 hd hX.2.2.2.2.2.2.1
end NC
