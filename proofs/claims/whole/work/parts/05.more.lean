
theorem okG {X : CX} {cc : ByteArray} {nL : Nat} {own : String} {ret : Option FieldType} (hX : Ok X cc nL own ret) : GOk X.1 := by
  obtain ⟨G, p, e, s, m, args, below, meth, c, d⟩ := X
  exact hX.2.2.2.2.2.2.2.2.2.2.1
def onN {β : Type} (r : Option Nat) (a : β) (f : Nat → β) : β := match r with
  | none => a
  | some k => f k
theorem onE {β : Type} {r : Option Nat} {a t : β} {f : Nat → β} (h : onN r a f = t) : (r = none ∧ a = t) ∨ ∃ k, r = some k ∧ f k = t := by
  cases r with
  | none => exact Or.inl ⟨rfl, h⟩
  | some k => exact Or.inr ⟨k, rfl, h⟩
def cityB (k : Nat) : Bool := decide (100 ≤ k) && (decide (k < 436) && ((k - 100) % 16 == 0))
theorem cityB_is {k : Nat} (h : cityB k = true) : isCity k := by
  simp only [cityB, Bool.and_eq_true, decide_eq_true_eq, beq_iff_eq] at h
  exact ⟨(k - 100) / 16, by omega, by omega⟩
theorem isCity_of {k : Nat} (h : cityB k = true) : isCity k := cityB_is h
theorem isc_100 : isCity 100 := isCity_of (by decide)
theorem isc_116 : isCity 116 := isCity_of (by decide)
theorem isc_132 : isCity 132 := isCity_of (by decide)
theorem isl_500 : isLaw 500 := ⟨0, by decide, rfl⟩
theorem isl_516 : isLaw 516 := ⟨1, by decide, rfl⟩
theorem isl_532 : isLaw 532 := ⟨2, by decide, rfl⟩
theorem cityRel27 {i : Int32} (h : ix i 12) : isCity (148 + 16 * i.toNatClampNeg) := ⟨3 + i.toNatClampNeg, by have := h.2; omega, by omega⟩
theorem cityRel17 {i : Int32} (h : ix i 6) : isCity (340 + 16 * i.toNatClampNeg) := ⟨15 + i.toNatClampNeg, by have := h.2; omega, by omega⟩
def isStr (s : Nat) : Prop := 1000 ≤ s ∧ s < 1000 + strT.length
theorem isStr_of {s : Nat} (h : (decide (1000 ≤ s) && decide (s < 1000 + strT.length)) = true) : isStr s := by
  simp only [Bool.and_eq_true, decide_eq_true_eq] at h
  exact h
def sTx (s : Nat) : String := ((strT[s - 1000]?).map (fun q => q.2.2)).getD ""
def sLn (s : Nat) : Nat := (strBytes (sTx s)).length
def sLen (s : Nat) : Int32 := Int32.ofNat (sLn s)
def sAt (s k : Nat) : Int32 := (strBytes (sTx s)).getD k 0
section JK
variable {X : CX} {cc cc' : ByteArray} {nL nL' : Nat} {own : String} {ret ret' : Option FieldType} {pc : Nat} {L : List (Nat × Value)} {S S0 : List Value} {h : Hp} {O : Oc} {β : Type} {tv' : β → Option Value} {v : β}
theorem V_kx (hX : Ok X cc nL own ret) {α : Type} {tv : α → Option Value} {r : Except String α × Hp} {idx n k ci d' : Nat} {y : MethodName} {h1 : Hp} {E : String} (As : List Value) (hdc : decode cc pc = .ok (.invokevirtual idx, 3)) (hw : CWv own idx y cc' nL' ret' n) (ho : Ob k ci) (hcn : (vwCl[ci]?).map (fun q => q.1) = some y.cls)
    (hc : Ctr X.1 d' y cc' nL' ret' (.ref k :: As) h (oX tv' (Except.error E, h1))) (hd : d' < dX X) (hnl : Nat.blt nL' 60 = true) (hn : As.length = n) (hst : S0 = As.reverse ++ .ref k :: S) (hsm : Nat.ble (S.map fun v => v.category).sum 8 = true) (hr : r = (.error E, h1)) : J X (oX tv r) pc L S0 h :=
  V_x hX As hdc hw ho hcn hc hd hnl hn hst hsm hr
theorem V_k0 (hX : Ok X cc nL own ret) {idx n k ci d' : Nat} {y : MethodName} {h1 : Hp} (As : List Value) (hdc : decode cc pc = .ok (.invokevirtual idx, 3)) (hw : CWv own idx y cc' nL' ret' n) (ho : Ob k ci) (hcn : (vwCl[ci]?).map (fun q => q.1) = some y.cls)
    (hc : Ctr X.1 d' y cc' nL' ret' (.ref k :: As) h (oX tv' (Except.ok v, h1))) (hd : d' < dX X) (hnl : Nat.blt nL' 60 = true) (hn : As.length = n) (hst : S0 = As.reverse ++ .ref k :: S) (hsm : Nat.ble (S.map fun v => v.category).sum 8 = true) (htv : tv' v = none) (kk : J X O (pc + 3) L S h1) : J X O pc L S0 h := by
  have e : oX tv' (Except.ok v, h1) = (.inl none, h1) := by show (Sum.inl (tv' v), h1) = _; rw [htv]
  rw [e] at hc
  exact V_0 hX As hdc hw ho hcn hc hd hnl hn hst hsm kk
theorem V_k1 (hX : Ok X cc nL own ret) {idx n k ci d' : Nat} {y : MethodName} {h1 : Hp} {w : Value} (As : List Value) (hdc : decode cc pc = .ok (.invokevirtual idx, 3)) (hw : CWv own idx y cc' nL' ret' n) (ho : Ob k ci) (hcn : (vwCl[ci]?).map (fun q => q.1) = some y.cls)
    (hc : Ctr X.1 d' y cc' nL' ret' (.ref k :: As) h (oX tv' (Except.ok v, h1))) (hd : d' < dX X) (hnl : Nat.blt nL' 60 = true) (hn : As.length = n) (hst : S0 = As.reverse ++ .ref k :: S) (hsm : Nat.ble (S.map fun v => v.category).sum 8 = true) (htv : tv' v = some w) (kk : J X O (pc + 3) L (w :: S) h1) : J X O pc L S0 h := by
  have e : oX tv' (Except.ok v, h1) = (.inl (some w), h1) := by show (Sum.inl (tv' v), h1) = _; rw [htv]
  rw [e] at hc
  exact V_1 hX As hdc hw ho hcn hc hd hnl hn hst hsm kk
theorem S_kx (hX : Ok X cc nL own ret) {α : Type} {tv : α → Option Value} {r : Except String α × Hp} {idx n d' : Nat} {y : MethodName} {h1 : Hp} {E : String} (As : List Value) (hdc : decode cc pc = .ok (.invokestatic idx, 3)) (hw : CWs own idx y cc' nL' ret' n)
    (hc : Ctr X.1 d' y cc' nL' ret' As h (oX tv' (Except.error E, h1))) (hd : d' < dX X) (hnl : Nat.blt nL' 60 = true) (hn : As.length = n) (hst : S0 = As.reverse ++ S) (hsm : Nat.ble (S.map fun v => v.category).sum 8 = true) (hr : r = (.error E, h1)) : J X (oX tv r) pc L S0 h :=
  S_x hX As hdc hw hc hd hnl hn hst hsm hr
theorem S_k0 (hX : Ok X cc nL own ret) {idx n d' : Nat} {y : MethodName} {h1 : Hp} (As : List Value) (hdc : decode cc pc = .ok (.invokestatic idx, 3)) (hw : CWs own idx y cc' nL' ret' n)
    (hc : Ctr X.1 d' y cc' nL' ret' As h (oX tv' (Except.ok v, h1))) (hd : d' < dX X) (hnl : Nat.blt nL' 60 = true) (hn : As.length = n) (hst : S0 = As.reverse ++ S) (hsm : Nat.ble (S.map fun v => v.category).sum 8 = true) (htv : tv' v = none) (kk : J X O (pc + 3) L S h1) : J X O pc L S0 h := by
  have e : oX tv' (Except.ok v, h1) = (.inl none, h1) := by show (Sum.inl (tv' v), h1) = _; rw [htv]
  rw [e] at hc
  exact S_0 hX As hdc hw hc hd hnl hn hst hsm kk
end JK
section JS
variable {X : CX} {O : Oc} {cc cc' : ByteArray} {nL nL' : Nat} {own : String} {ret ret' : Option FieldType} {pc : Nat} {L : List (Nat × Value)} {S S0 : List Value} {h : Hp}
theorem J_nm {v x : Int32} (e : v = x) (kk : J X O pc L (.int x :: S) h) : J X O pc L (.int v :: S) h := e ▸ kk
theorem J_nmh {h' h1 : Hp} (e : h' = h1) (kk : J X O pc L S h1) : J X O pc L S h' := e ▸ kk
theorem J_null (hX : Ok X cc nL own ret) (hd : decode cc pc = .ok (.aconst_null, 1)) (kk : J X O (pc + 1) L (.null :: S) h) : J X O pc L S h := by
  obtain ⟨G, p, e, s, m, args, below, meth, c, d⟩ := X
  intro H locs ls hw hl hS
  exact lv_null hX.1 hX.2.1 hd (kk H locs ls hw hl hS)
theorem J_astore_nN (hX : Ok X cc nL own ret) {f : Fin 4} {i : Nat} (L' : List (Nat × Value)) (hd : decode cc pc = .ok (.astore_n f, 1)) (hi : (f : Nat) = i) (hn : Nat.blt i nL = true) (hl' : (i, Value.null) :: L.filter (fun q => !(q.1 == i) && !(q.1 + 1 == i && q.2.category == 2)) = L') (kk : J X O (pc + 1) L' S h) : J X O pc L (.null :: S) h := by
  obtain ⟨G, p, e, s, m, args, below, meth, c, d⟩ := X
  intro H locs ls hw hl hS
  subst hl'
  exact lv_astore_nN hX.1 hX.2.1 hd hi hl (by rw [hX.2.2.1]; exact Nat.blt_eq.mp hn) rfl (fun ls' h9 => kk H locs ls' hw (by rw [cL_filter] at h9; exact h9) hS)
theorem J_aload_nN (hX : Ok X cc nL own ret) {f : Fin 4} {i : Nat} (k : Nat) (hd : decode cc pc = .ok (.aload_n f, 1)) (hi : (f : Nat) = i) (hk : L[k]? = some (i, .null)) (kk : J X O (pc + 1) L (.null :: S) h) : J X O pc L S h := by
  obtain ⟨G, p, e, s, m, args, below, meth, c, d⟩ := X
  intro H locs ls hw hl hS
  exact lv_aload_nN hX.1 hX.2.1 hd hi (lv_at hl k (cL_get hk)) (kk H locs ls hw hl hS)
theorem E_R5 (hX : Ok X cc nL own (some (.object "LeanCity$Strain"))) {r : Hp} (hd : decode cc pc = .ok (.areturn, 1)) (hf : some h = some r) : J X (.inl (some (.ref 5)), r) pc L [.ref 5] h := by
  cases hf; exact J_aret hX rfl (Or.inr ⟨_, rfl⟩) hd rfl
theorem E_N0 (hX : Ok X cc nL own (some (.object "LeanCity$City"))) {r : Option Nat} (hd : decode cc pc = .ok (.areturn, 1)) (hf : some none = some r) : J X (.inl (some (va_rf r)), h) pc L [.null] h := by
  cases hf; exact J_aret hX rfl (Or.inl rfl) hd rfl
theorem E_N1 (hX : Ok X cc nL own (some (.object "LeanCity$City"))) {r : Option Nat} {k : Nat} (hd : decode cc pc = .ok (.areturn, 1)) (hf : some (some k) = some r) : J X (.inl (some (va_rf r)), h) pc L [.ref k] h := by
  cases hf; exact J_aret hX rfl (Or.inr ⟨_, rfl⟩) hd rfl
theorem J_ldcS (hX : Ok X cc nL own ret) (s9 : Nat) {idx : Nat} (hd : decode cc pc = .ok (.ldc idx, 2)) (h1 : (strT[s9 - 1000]?).map (fun q => (q.1, q.2.1)) = some (own, idx)) (h2 : Nat.ble 1000 s9 = true) (kk : J X O (pc + 2) L (.ref s9 :: S) h) : J X O pc L S h := by
  obtain ⟨G, p, e, s, m, args, below, meth, c, d⟩ := X
  intro H locs ls hw hl hS
  have hG := hX.2.2.2.2.2.2.2.2.2.2.1
  have h2 := Nat.le_of_ble_eq_true h2
  cases hq : strT[s9 - 1000]? with
  | none => rw [hq] at h1; cases h1
  | some q =>
    rw [hq] at h1
    have hR := (hG.2.2.2.2.2.1.1 _ q hq).1
    have e9 : 1000 + (s9 - 1000) = s9 := by omega
    rw [e9] at hR
    have e1 : (q.1, q.2.1) = (own, idx) := Option.some.inj h1
    have e2 : q.1 = own := congrArg Prod.fst e1
    have e3 : q.2.1 = idx := congrArg Prod.snd e1
    rw [e2, e3] at hR
    exact va_ldcS hX.1 hX.2.1 hX.2.2.2.1 (vk_R.warm hX.2.2.2.2.2.2.2.1 hR) hd (kk H locs ls hw hl hS)
end JS
