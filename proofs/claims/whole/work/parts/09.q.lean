/-! the same rows for a frame of any end, with cells counted: for the law and its catchers -/
def JQ (X : CX) (R : Room) (Q : State → Prop) (kC sC : Nat) (pc : Nat) (L : List (Nat × Value)) (S : List Value) (h : Hp) : Prop := match X with
  | (G, p, e, s, m, args, below, meth, c, _) => ∀ (H : Heap) (locs : List Loc) (ls : Array Slot), Wd G h H → lv_has ls c.maxLocals (L.map (cL G.2.2.1)) → va_S (bs G) s.heap H locs →
      W p G.1 e R s m args below meth c H locs kC sC Q (F0 m pc ls (S.map (cv G.2.2.1)))
def JX (X : CX) (R : Room) (Q : State → Prop) (kC sC : Nat) (pc : Nat) (L : List (Nat × Value)) (h : Hp) (E : String) : Prop := match X with
  | (G, p, e, s, m, args, below, meth, c, _) => ∀ (H : Heap) (locs : List Loc) (ls : Array Slot) (q : Addr) (ce : Cell) (rest : List Value), Wd G h H → lv_has ls c.maxLocals (L.map (cL G.2.2.1)) → va_S (bs G) s.heap H locs → H[q]? = some ce → ce.vm = .none → s.vm.findClass E = some ce.cls →
      vx_W p G.1 e R s m args below meth c H locs kC sC Q (F0 m pc ls rest) q
def OkQ (X : CX) (cc : ByteArray) (nL : Nat) (own : String) (ret : Option FieldType) : Prop := match X with
  | (G, p, e, s, m, args, below, meth, c, d) => p.tables.exec = Jvm.exec ∧ c.code = cc ∧ c.maxLocals = nL ∧ s.vm.findClass own = some m.cls ∧ (∀ w ∈ TB, w.before args s = true) ∧ meth.sig.returnType = ret ∧ meth.locks = false ∧ G.2.1.WarmedH s.vm ∧ G.2.1.heap.size ≤ s.heap.size ∧ (∀ q : Nat, q < G.2.1.heap.size → s.heap[q]? = G.2.1.heap[q]?) ∧ GOk G ∧ True
section JQR
variable {X : CX} {R : Room} {Q : State → Prop} {kC sC : Nat} {cc : ByteArray} {nL : Nat} {own : String} {ret : Option FieldType} {pc : Nat} {L : List (Nat × Value)} {S : List Value} {h : Hp}
theorem Q_iadd (hX : OkQ X cc nL own ret) {x y : Int32} (hd : decode cc pc = .ok (.iadd, 1)) (kk : JQ X R Q kC sC (pc + 1) L (.int (x + y) :: S) h) : JQ X R Q kC sC pc L (.int y :: .int x :: S) h := by
  obtain ⟨G, p, e, s, m, args, below, meth, c, d⟩ := X
  intro H locs ls hw hl hS
  exact lv_iadd hX.1 hX.2.1 hd (kk H locs ls hw hl hS)
theorem Q_isub (hX : OkQ X cc nL own ret) {x y : Int32} (hd : decode cc pc = .ok (.isub, 1)) (kk : JQ X R Q kC sC (pc + 1) L (.int (x - y) :: S) h) : JQ X R Q kC sC pc L (.int y :: .int x :: S) h := by
  obtain ⟨G, p, e, s, m, args, below, meth, c, d⟩ := X
  intro H locs ls hw hl hS
  exact lv_isub hX.1 hX.2.1 hd (kk H locs ls hw hl hS)
theorem Q_iand (hX : OkQ X cc nL own ret) {x y : Int32} (hd : decode cc pc = .ok (.iand, 1)) (kk : JQ X R Q kC sC (pc + 1) L (.int (x &&& y) :: S) h) : JQ X R Q kC sC pc L (.int y :: .int x :: S) h := by
  obtain ⟨G, p, e, s, m, args, below, meth, c, d⟩ := X
  intro H locs ls hw hl hS
  exact lv_iand hX.1 hX.2.1 hd (kk H locs ls hw hl hS)
theorem Q_icmp_eqT (hX : OkQ X cc nL own ret) {x y : Int32} {off : Int} (tgt : Nat) (hd : decode cc pc = .ok (.if_icmp .eq off, 3)) (ht : (pc : Int) + off = (tgt : Int)) (hc : x = y) (kk : JQ X R Q kC sC tgt L S h) : JQ X R Q kC sC pc L (.int y :: .int x :: S) h := by
  obtain ⟨G, p, e, s, m, args, below, meth, c, d⟩ := X
  intro H locs ls hw hl hS
  exact lv_icmp_eq hX.1 hX.2.1 hd ht (fun _ => kk H locs ls hw hl hS) (fun q => absurd hc q)
theorem Q_icmp_eqF (hX : OkQ X cc nL own ret) {x y : Int32} {off : Int} (tgt : Nat) (hd : decode cc pc = .ok (.if_icmp .eq off, 3)) (ht : (pc : Int) + off = (tgt : Int)) (hc : ¬ (x = y)) (kk : JQ X R Q kC sC (pc + 3) L S h) : JQ X R Q kC sC pc L (.int y :: .int x :: S) h := by
  obtain ⟨G, p, e, s, m, args, below, meth, c, d⟩ := X
  intro H locs ls hw hl hS
  exact lv_icmp_eq hX.1 hX.2.1 hd ht (fun q => absurd q hc) (fun _ => kk H locs ls hw hl hS)
theorem Q_if_eqT (hX : OkQ X cc nL own ret) {x : Int32} {off : Int} (tgt : Nat) (hd : decode cc pc = .ok (.ifCond .eq off, 3)) (ht : (pc : Int) + off = (tgt : Int)) (hc : x = 0) (kk : JQ X R Q kC sC tgt L S h) : JQ X R Q kC sC pc L (.int x :: S) h := by
  obtain ⟨G, p, e, s, m, args, below, meth, c, d⟩ := X
  intro H locs ls hw hl hS
  exact lv_if_eq hX.1 hX.2.1 hd ht (fun _ => kk H locs ls hw hl hS) (fun q => absurd hc q)
theorem Q_if_eqF (hX : OkQ X cc nL own ret) {x : Int32} {off : Int} (tgt : Nat) (hd : decode cc pc = .ok (.ifCond .eq off, 3)) (ht : (pc : Int) + off = (tgt : Int)) (hc : ¬ (x = 0)) (kk : JQ X R Q kC sC (pc + 3) L S h) : JQ X R Q kC sC pc L (.int x :: S) h := by
  obtain ⟨G, p, e, s, m, args, below, meth, c, d⟩ := X
  intro H locs ls hw hl hS
  exact lv_if_eq hX.1 hX.2.1 hd ht (fun q => absurd q hc) (fun _ => kk H locs ls hw hl hS)
theorem Q_icmp_neT (hX : OkQ X cc nL own ret) {x y : Int32} {off : Int} (tgt : Nat) (hd : decode cc pc = .ok (.if_icmp .ne off, 3)) (ht : (pc : Int) + off = (tgt : Int)) (hc : ¬ (x = y)) (kk : JQ X R Q kC sC tgt L S h) : JQ X R Q kC sC pc L (.int y :: .int x :: S) h := by
  obtain ⟨G, p, e, s, m, args, below, meth, c, d⟩ := X
  intro H locs ls hw hl hS
  exact lv_icmp_ne hX.1 hX.2.1 hd ht (fun _ => kk H locs ls hw hl hS) (fun q => absurd q hc)
theorem Q_icmp_neF (hX : OkQ X cc nL own ret) {x y : Int32} {off : Int} (tgt : Nat) (hd : decode cc pc = .ok (.if_icmp .ne off, 3)) (ht : (pc : Int) + off = (tgt : Int)) (hc : x = y) (kk : JQ X R Q kC sC (pc + 3) L S h) : JQ X R Q kC sC pc L (.int y :: .int x :: S) h := by
  obtain ⟨G, p, e, s, m, args, below, meth, c, d⟩ := X
  intro H locs ls hw hl hS
  exact lv_icmp_ne hX.1 hX.2.1 hd ht (fun q => absurd hc q) (fun _ => kk H locs ls hw hl hS)
theorem Q_if_neT (hX : OkQ X cc nL own ret) {x : Int32} {off : Int} (tgt : Nat) (hd : decode cc pc = .ok (.ifCond .ne off, 3)) (ht : (pc : Int) + off = (tgt : Int)) (hc : ¬ (x = 0)) (kk : JQ X R Q kC sC tgt L S h) : JQ X R Q kC sC pc L (.int x :: S) h := by
  obtain ⟨G, p, e, s, m, args, below, meth, c, d⟩ := X
  intro H locs ls hw hl hS
  exact lv_if_ne hX.1 hX.2.1 hd ht (fun _ => kk H locs ls hw hl hS) (fun q => absurd q hc)
theorem Q_if_neF (hX : OkQ X cc nL own ret) {x : Int32} {off : Int} (tgt : Nat) (hd : decode cc pc = .ok (.ifCond .ne off, 3)) (ht : (pc : Int) + off = (tgt : Int)) (hc : x = 0) (kk : JQ X R Q kC sC (pc + 3) L S h) : JQ X R Q kC sC pc L (.int x :: S) h := by
  obtain ⟨G, p, e, s, m, args, below, meth, c, d⟩ := X
  intro H locs ls hw hl hS
  exact lv_if_ne hX.1 hX.2.1 hd ht (fun q => absurd hc q) (fun _ => kk H locs ls hw hl hS)
theorem Q_icmp_ltT (hX : OkQ X cc nL own ret) {x y : Int32} {off : Int} (tgt : Nat) (hd : decode cc pc = .ok (.if_icmp .lt off, 3)) (ht : (pc : Int) + off = (tgt : Int)) (hc : x < y) (kk : JQ X R Q kC sC tgt L S h) : JQ X R Q kC sC pc L (.int y :: .int x :: S) h := by
  obtain ⟨G, p, e, s, m, args, below, meth, c, d⟩ := X
  intro H locs ls hw hl hS
  exact lv_icmp_lt hX.1 hX.2.1 hd ht (fun _ => kk H locs ls hw hl hS) (fun q => absurd hc q)
theorem Q_icmp_ltF (hX : OkQ X cc nL own ret) {x y : Int32} {off : Int} (tgt : Nat) (hd : decode cc pc = .ok (.if_icmp .lt off, 3)) (ht : (pc : Int) + off = (tgt : Int)) (hc : ¬ (x < y)) (kk : JQ X R Q kC sC (pc + 3) L S h) : JQ X R Q kC sC pc L (.int y :: .int x :: S) h := by
  obtain ⟨G, p, e, s, m, args, below, meth, c, d⟩ := X
  intro H locs ls hw hl hS
  exact lv_icmp_lt hX.1 hX.2.1 hd ht (fun q => absurd q hc) (fun _ => kk H locs ls hw hl hS)
theorem Q_if_ltT (hX : OkQ X cc nL own ret) {x : Int32} {off : Int} (tgt : Nat) (hd : decode cc pc = .ok (.ifCond .lt off, 3)) (ht : (pc : Int) + off = (tgt : Int)) (hc : x < 0) (kk : JQ X R Q kC sC tgt L S h) : JQ X R Q kC sC pc L (.int x :: S) h := by
  obtain ⟨G, p, e, s, m, args, below, meth, c, d⟩ := X
  intro H locs ls hw hl hS
  exact lv_if_lt hX.1 hX.2.1 hd ht (fun _ => kk H locs ls hw hl hS) (fun q => absurd hc q)
theorem Q_if_ltF (hX : OkQ X cc nL own ret) {x : Int32} {off : Int} (tgt : Nat) (hd : decode cc pc = .ok (.ifCond .lt off, 3)) (ht : (pc : Int) + off = (tgt : Int)) (hc : ¬ (x < 0)) (kk : JQ X R Q kC sC (pc + 3) L S h) : JQ X R Q kC sC pc L (.int x :: S) h := by
  obtain ⟨G, p, e, s, m, args, below, meth, c, d⟩ := X
  intro H locs ls hw hl hS
  exact lv_if_lt hX.1 hX.2.1 hd ht (fun q => absurd q hc) (fun _ => kk H locs ls hw hl hS)
theorem Q_icmp_geT (hX : OkQ X cc nL own ret) {x y : Int32} {off : Int} (tgt : Nat) (hd : decode cc pc = .ok (.if_icmp .ge off, 3)) (ht : (pc : Int) + off = (tgt : Int)) (hc : ¬ (x < y)) (kk : JQ X R Q kC sC tgt L S h) : JQ X R Q kC sC pc L (.int y :: .int x :: S) h := by
  obtain ⟨G, p, e, s, m, args, below, meth, c, d⟩ := X
  intro H locs ls hw hl hS
  exact lv_icmp_ge hX.1 hX.2.1 hd ht (fun _ => kk H locs ls hw hl hS) (fun q => absurd (Int32.not_lt.mp hc) q)
theorem Q_icmp_geF (hX : OkQ X cc nL own ret) {x y : Int32} {off : Int} (tgt : Nat) (hd : decode cc pc = .ok (.if_icmp .ge off, 3)) (ht : (pc : Int) + off = (tgt : Int)) (hc : x < y) (kk : JQ X R Q kC sC (pc + 3) L S h) : JQ X R Q kC sC pc L (.int y :: .int x :: S) h := by
  obtain ⟨G, p, e, s, m, args, below, meth, c, d⟩ := X
  intro H locs ls hw hl hS
  exact lv_icmp_ge hX.1 hX.2.1 hd ht (fun q => absurd q (Int32.not_le.mpr hc)) (fun _ => kk H locs ls hw hl hS)
theorem Q_if_geT (hX : OkQ X cc nL own ret) {x : Int32} {off : Int} (tgt : Nat) (hd : decode cc pc = .ok (.ifCond .ge off, 3)) (ht : (pc : Int) + off = (tgt : Int)) (hc : ¬ (x < 0)) (kk : JQ X R Q kC sC tgt L S h) : JQ X R Q kC sC pc L (.int x :: S) h := by
  obtain ⟨G, p, e, s, m, args, below, meth, c, d⟩ := X
  intro H locs ls hw hl hS
  exact lv_if_ge hX.1 hX.2.1 hd ht (fun _ => kk H locs ls hw hl hS) (fun q => absurd (Int32.not_lt.mp hc) q)
theorem Q_if_geF (hX : OkQ X cc nL own ret) {x : Int32} {off : Int} (tgt : Nat) (hd : decode cc pc = .ok (.ifCond .ge off, 3)) (ht : (pc : Int) + off = (tgt : Int)) (hc : x < 0) (kk : JQ X R Q kC sC (pc + 3) L S h) : JQ X R Q kC sC pc L (.int x :: S) h := by
  obtain ⟨G, p, e, s, m, args, below, meth, c, d⟩ := X
  intro H locs ls hw hl hS
  exact lv_if_ge hX.1 hX.2.1 hd ht (fun q => absurd q (Int32.not_le.mpr hc)) (fun _ => kk H locs ls hw hl hS)
theorem Q_icmp_gtT (hX : OkQ X cc nL own ret) {x y : Int32} {off : Int} (tgt : Nat) (hd : decode cc pc = .ok (.if_icmp .gt off, 3)) (ht : (pc : Int) + off = (tgt : Int)) (hc : y < x) (kk : JQ X R Q kC sC tgt L S h) : JQ X R Q kC sC pc L (.int y :: .int x :: S) h := by
  obtain ⟨G, p, e, s, m, args, below, meth, c, d⟩ := X
  intro H locs ls hw hl hS
  exact lv_icmp_gt hX.1 hX.2.1 hd ht (fun _ => kk H locs ls hw hl hS) (fun q => absurd hc q)
theorem Q_icmp_gtF (hX : OkQ X cc nL own ret) {x y : Int32} {off : Int} (tgt : Nat) (hd : decode cc pc = .ok (.if_icmp .gt off, 3)) (ht : (pc : Int) + off = (tgt : Int)) (hc : ¬ (y < x)) (kk : JQ X R Q kC sC (pc + 3) L S h) : JQ X R Q kC sC pc L (.int y :: .int x :: S) h := by
  obtain ⟨G, p, e, s, m, args, below, meth, c, d⟩ := X
  intro H locs ls hw hl hS
  exact lv_icmp_gt hX.1 hX.2.1 hd ht (fun q => absurd q hc) (fun _ => kk H locs ls hw hl hS)
theorem Q_if_gtT (hX : OkQ X cc nL own ret) {x : Int32} {off : Int} (tgt : Nat) (hd : decode cc pc = .ok (.ifCond .gt off, 3)) (ht : (pc : Int) + off = (tgt : Int)) (hc : 0 < x) (kk : JQ X R Q kC sC tgt L S h) : JQ X R Q kC sC pc L (.int x :: S) h := by
  obtain ⟨G, p, e, s, m, args, below, meth, c, d⟩ := X
  intro H locs ls hw hl hS
  exact lv_if_gt hX.1 hX.2.1 hd ht (fun _ => kk H locs ls hw hl hS) (fun q => absurd hc q)
theorem Q_if_gtF (hX : OkQ X cc nL own ret) {x : Int32} {off : Int} (tgt : Nat) (hd : decode cc pc = .ok (.ifCond .gt off, 3)) (ht : (pc : Int) + off = (tgt : Int)) (hc : ¬ (0 < x)) (kk : JQ X R Q kC sC (pc + 3) L S h) : JQ X R Q kC sC pc L (.int x :: S) h := by
  obtain ⟨G, p, e, s, m, args, below, meth, c, d⟩ := X
  intro H locs ls hw hl hS
  exact lv_if_gt hX.1 hX.2.1 hd ht (fun q => absurd q hc) (fun _ => kk H locs ls hw hl hS)
theorem Q_icmp_leT (hX : OkQ X cc nL own ret) {x y : Int32} {off : Int} (tgt : Nat) (hd : decode cc pc = .ok (.if_icmp .le off, 3)) (ht : (pc : Int) + off = (tgt : Int)) (hc : ¬ (y < x)) (kk : JQ X R Q kC sC tgt L S h) : JQ X R Q kC sC pc L (.int y :: .int x :: S) h := by
  obtain ⟨G, p, e, s, m, args, below, meth, c, d⟩ := X
  intro H locs ls hw hl hS
  exact lv_icmp_le hX.1 hX.2.1 hd ht (fun _ => kk H locs ls hw hl hS) (fun q => absurd (Int32.not_lt.mp hc) q)
theorem Q_icmp_leF (hX : OkQ X cc nL own ret) {x y : Int32} {off : Int} (tgt : Nat) (hd : decode cc pc = .ok (.if_icmp .le off, 3)) (ht : (pc : Int) + off = (tgt : Int)) (hc : y < x) (kk : JQ X R Q kC sC (pc + 3) L S h) : JQ X R Q kC sC pc L (.int y :: .int x :: S) h := by
  obtain ⟨G, p, e, s, m, args, below, meth, c, d⟩ := X
  intro H locs ls hw hl hS
  exact lv_icmp_le hX.1 hX.2.1 hd ht (fun q => absurd q (Int32.not_le.mpr hc)) (fun _ => kk H locs ls hw hl hS)
theorem Q_if_leT (hX : OkQ X cc nL own ret) {x : Int32} {off : Int} (tgt : Nat) (hd : decode cc pc = .ok (.ifCond .le off, 3)) (ht : (pc : Int) + off = (tgt : Int)) (hc : ¬ (0 < x)) (kk : JQ X R Q kC sC tgt L S h) : JQ X R Q kC sC pc L (.int x :: S) h := by
  obtain ⟨G, p, e, s, m, args, below, meth, c, d⟩ := X
  intro H locs ls hw hl hS
  exact lv_if_le hX.1 hX.2.1 hd ht (fun _ => kk H locs ls hw hl hS) (fun q => absurd (Int32.not_lt.mp hc) q)
theorem Q_if_leF (hX : OkQ X cc nL own ret) {x : Int32} {off : Int} (tgt : Nat) (hd : decode cc pc = .ok (.ifCond .le off, 3)) (ht : (pc : Int) + off = (tgt : Int)) (hc : 0 < x) (kk : JQ X R Q kC sC (pc + 3) L S h) : JQ X R Q kC sC pc L (.int x :: S) h := by
  obtain ⟨G, p, e, s, m, args, below, meth, c, d⟩ := X
  intro H locs ls hw hl hS
  exact lv_if_le hX.1 hX.2.1 hd ht (fun q => absurd q (Int32.not_le.mpr hc)) (fun _ => kk H locs ls hw hl hS)
theorem Q_iconst (hX : OkQ X cc nL own ret) {n : Int} (v : Int32) (hd : decode cc pc = .ok (.iconst n, 1)) (hv : Int32.ofInt n = v) (kk : JQ X R Q kC sC (pc + 1) L (.int v :: S) h) : JQ X R Q kC sC pc L S h := by
  obtain ⟨G, p, e, s, m, args, below, meth, c, d⟩ := X
  intro H locs ls hw hl hS
  exact lv_iconst hX.1 hX.2.1 hd hv (kk H locs ls hw hl hS)
theorem Q_bipush (hX : OkQ X cc nL own ret) {n : Int} (v : Int32) (hd : decode cc pc = .ok (.bipush n, 2)) (hv : (Int8.ofInt n).toInt32 = v) (kk : JQ X R Q kC sC (pc + 2) L (.int v :: S) h) : JQ X R Q kC sC pc L S h := by
  obtain ⟨G, p, e, s, m, args, below, meth, c, d⟩ := X
  intro H locs ls hw hl hS
  exact lv_bipush hX.1 hX.2.1 hd hv (kk H locs ls hw hl hS)
theorem Q_lconst (hX : OkQ X cc nL own ret) {n : Fin 2} (v : Int64) (hd : decode cc pc = .ok (.lconst n, 1)) (hv : Int64.ofNat (n : Nat) = v) (kk : JQ X R Q kC sC (pc + 1) L (.long v :: S) h) : JQ X R Q kC sC pc L S h := by
  obtain ⟨G, p, e, s, m, args, below, meth, c, d⟩ := X
  intro H locs ls hw hl hS
  exact lv_lconst hX.1 hX.2.1 hd hv (kk H locs ls hw hl hS)
theorem Q_iload (hX : OkQ X cc nL own ret) {i : Nat} {x : Int32} (k : Nat) (hd : decode cc pc = .ok (.iload i, 2)) (hk : L[k]? = some (i, .int x)) (kk : JQ X R Q kC sC (pc + 2) L (.int x :: S) h) : JQ X R Q kC sC pc L S h := by
  obtain ⟨G, p, e, s, m, args, below, meth, c, d⟩ := X
  intro H locs ls hw hl hS
  exact lv_iload hX.1 hX.2.1 hd (lv_at hl k (cL_get hk)) (kk H locs ls hw hl hS)
theorem Q_iload_n (hX : OkQ X cc nL own ret) {f : Fin 4} {i : Nat} {x : Int32} (k : Nat) (hd : decode cc pc = .ok (.iload_n f, 1)) (hi : (f : Nat) = i) (hk : L[k]? = some (i, .int x)) (kk : JQ X R Q kC sC (pc + 1) L (.int x :: S) h) : JQ X R Q kC sC pc L S h := by
  obtain ⟨G, p, e, s, m, args, below, meth, c, d⟩ := X
  intro H locs ls hw hl hS
  exact lv_iload_n hX.1 hX.2.1 hd hi (lv_at hl k (cL_get hk)) (kk H locs ls hw hl hS)
theorem Q_aload (hX : OkQ X cc nL own ret) {i : Nat} {x : Nat} (k : Nat) (hd : decode cc pc = .ok (.aload i, 2)) (hk : L[k]? = some (i, .ref x)) (kk : JQ X R Q kC sC (pc + 2) L (.ref x :: S) h) : JQ X R Q kC sC pc L S h := by
  obtain ⟨G, p, e, s, m, args, below, meth, c, d⟩ := X
  intro H locs ls hw hl hS
  exact lv_aload hX.1 hX.2.1 hd (lv_at hl k (cL_get hk)) (kk H locs ls hw hl hS)
theorem Q_aload_n (hX : OkQ X cc nL own ret) {f : Fin 4} {i : Nat} {x : Nat} (k : Nat) (hd : decode cc pc = .ok (.aload_n f, 1)) (hi : (f : Nat) = i) (hk : L[k]? = some (i, .ref x)) (kk : JQ X R Q kC sC (pc + 1) L (.ref x :: S) h) : JQ X R Q kC sC pc L S h := by
  obtain ⟨G, p, e, s, m, args, below, meth, c, d⟩ := X
  intro H locs ls hw hl hS
  exact lv_aload_n hX.1 hX.2.1 hd hi (lv_at hl k (cL_get hk)) (kk H locs ls hw hl hS)
theorem Q_istore (hX : OkQ X cc nL own ret) {i : Nat} {x : Int32} (L' : List (Nat × Value)) (hd : decode cc pc = .ok (.istore i, 2)) (hn : Nat.blt i nL = true) (hl' : (i, Value.int x) :: L.filter (fun q => !(q.1 == i) && !(q.1 + 1 == i && q.2.category == 2)) = L') (kk : JQ X R Q kC sC (pc + 2) L' S h) : JQ X R Q kC sC pc L (.int x :: S) h := by
  obtain ⟨G, p, e, s, m, args, below, meth, c, d⟩ := X
  intro H locs ls hw hl hS
  subst hl'
  exact lv_istore hX.1 hX.2.1 hd hl (by rw [hX.2.2.1]; exact Nat.blt_eq.mp hn) rfl (fun ls' h9 => kk H locs ls' hw (by rw [cL_filter] at h9; exact h9) hS)
theorem Q_istore_n (hX : OkQ X cc nL own ret) {f : Fin 4} {i : Nat} {x : Int32} (L' : List (Nat × Value)) (hd : decode cc pc = .ok (.istore_n f, 1)) (hi : (f : Nat) = i) (hn : Nat.blt i nL = true) (hl' : (i, Value.int x) :: L.filter (fun q => !(q.1 == i) && !(q.1 + 1 == i && q.2.category == 2)) = L') (kk : JQ X R Q kC sC (pc + 1) L' S h) : JQ X R Q kC sC pc L (.int x :: S) h := by
  obtain ⟨G, p, e, s, m, args, below, meth, c, d⟩ := X
  intro H locs ls hw hl hS
  subst hl'
  exact lv_istore_n hX.1 hX.2.1 hd hi hl (by rw [hX.2.2.1]; exact Nat.blt_eq.mp hn) rfl (fun ls' h9 => kk H locs ls' hw (by rw [cL_filter] at h9; exact h9) hS)
theorem Q_astore (hX : OkQ X cc nL own ret) {i : Nat} {x : Nat} (L' : List (Nat × Value)) (hd : decode cc pc = .ok (.astore i, 2)) (hn : Nat.blt i nL = true) (hl' : (i, Value.ref x) :: L.filter (fun q => !(q.1 == i) && !(q.1 + 1 == i && q.2.category == 2)) = L') (kk : JQ X R Q kC sC (pc + 2) L' S h) : JQ X R Q kC sC pc L (.ref x :: S) h := by
  obtain ⟨G, p, e, s, m, args, below, meth, c, d⟩ := X
  intro H locs ls hw hl hS
  subst hl'
  exact lv_astore hX.1 hX.2.1 hd hl (by rw [hX.2.2.1]; exact Nat.blt_eq.mp hn) rfl (fun ls' h9 => kk H locs ls' hw (by rw [cL_filter] at h9; exact h9) hS)
theorem Q_astore_n (hX : OkQ X cc nL own ret) {f : Fin 4} {i : Nat} {x : Nat} (L' : List (Nat × Value)) (hd : decode cc pc = .ok (.astore_n f, 1)) (hi : (f : Nat) = i) (hn : Nat.blt i nL = true) (hl' : (i, Value.ref x) :: L.filter (fun q => !(q.1 == i) && !(q.1 + 1 == i && q.2.category == 2)) = L') (kk : JQ X R Q kC sC (pc + 1) L' S h) : JQ X R Q kC sC pc L (.ref x :: S) h := by
  obtain ⟨G, p, e, s, m, args, below, meth, c, d⟩ := X
  intro H locs ls hw hl hS
  subst hl'
  exact lv_astore_n hX.1 hX.2.1 hd hi hl (by rw [hX.2.2.1]; exact Nat.blt_eq.mp hn) rfl (fun ls' h9 => kk H locs ls' hw (by rw [cL_filter] at h9; exact h9) hS)
theorem Q_iinc (hX : OkQ X cc nL own ret) {i : Nat} {n : Int} {x : Int32} (v : Int32) (k : Nat) (L' : List (Nat × Value)) (hd : decode cc pc = .ok (.iinc i n, 3)) (hk : L[k]? = some (i, .int x)) (hv : x + Int32.ofInt n = v) (hn : Nat.blt i nL = true) (hl' : (i, Value.int v) :: L.filter (fun q => !(q.1 == i) && !(q.1 + 1 == i && q.2.category == 2)) = L') (kk : JQ X R Q kC sC (pc + 3) L' S h) : JQ X R Q kC sC pc L S h := by
  obtain ⟨G, p, e, s, m, args, below, meth, c, d⟩ := X
  intro H locs ls hw hl hS
  subst hl'
  exact lv_iinc hX.1 hX.2.1 hd hl (cL_get hk) hv (by rw [hX.2.2.1]; exact Nat.blt_eq.mp hn) rfl (fun ls' h9 => kk H locs ls' hw (by rw [cL_filter] at h9; exact h9) hS)
theorem Q_goto (hX : OkQ X cc nL own ret) {off : Int} (tgt : Nat) (hd : decode cc pc = .ok (.goto off, 3)) (ht : (pc : Int) + off = (tgt : Int)) (kk : JQ X R Q kC sC tgt L S h) : JQ X R Q kC sC pc L S h := by
  obtain ⟨G, p, e, s, m, args, below, meth, c, d⟩ := X
  intro H locs ls hw hl hS
  exact lv_goto hX.1 hX.2.1 hd ht (kk H locs ls hw hl hS)
theorem Q_pop (hX : OkQ X cc nL own ret) {v : Value} (hd : decode cc pc = .ok (.pop, 1)) (hv : v.category = 1) (kk : JQ X R Q kC sC (pc + 1) L S h) : JQ X R Q kC sC pc L (v :: S) h := by
  obtain ⟨G, p, e, s, m, args, below, meth, c, d⟩ := X
  intro H locs ls hw hl hS
  exact lv_pop hX.1 hX.2.1 hd (by rw [cv_cat]; exact hv) (kk H locs ls hw hl hS)
theorem Q_i2l (hX : OkQ X cc nL own ret) {x : Int32} (hd : decode cc pc = .ok (.i2l, 1)) (kk : JQ X R Q kC sC (pc + 1) L (.long x.toInt64 :: S) h) : JQ X R Q kC sC pc L (.int x :: S) h := by
  obtain ⟨G, p, e, s, m, args, below, meth, c, d⟩ := X
  intro H locs ls hw hl hS
  exact lv_i2l hX.1 hX.2.1 hd rfl (kk H locs ls hw hl hS)
theorem Q_lcmp (hX : OkQ X cc nL own ret) {x y : Int64} (hd : decode cc pc = .ok (.lcmp, 1)) (kk : JQ X R Q kC sC (pc + 1) L (.int (lg_cmp x y) :: S) h) : JQ X R Q kC sC pc L (.long y :: .long x :: S) h := by
  obtain ⟨G, p, e, s, m, args, below, meth, c, d⟩ := X
  intro H locs ls hw hl hS
  exact W.lcmp hX.1 hX.2.1 hd (kk H locs ls hw hl hS)
theorem Q_sub (ks : List Nat) (L' : List (Nat × Value)) (hL : lv_pick L ks = L') (kk : JQ X R Q kC sC pc L' S h) : JQ X R Q kC sC pc L S h := by
  obtain ⟨G, p, e, s, m, args, below, meth, c, d⟩ := X
  intro H locs ls hw hl hS
  refine kk H locs ls hw (lv_sub hl ks ?_) hS
  subst hL
  simp only [lv_pick, List.getElem?_map, List.map_filterMap]
theorem Q_eq {S' : List Value} {h' : Hp} (e1 : S = S') (e2 : h = h') (kk : JQ X R Q kC sC pc L S' h') : JQ X R Q kC sC pc L S h := by subst e1; subst e2; exact kk
theorem Q_lald (hX : OkQ X cc nL own ret) {k n : Nat} {i : Int32} (hd : decode cc pc = .ok (.laload, 1)) (ha : Ar k 3 n) (hi : ix i n) (kk : JQ X R Q kC sC (pc + 1) L (.long (h k i.toNatClampNeg).toInt64 :: S) h) : JQ X R Q kC sC pc L (.int i :: .ref k :: S) h := by
  obtain ⟨G, p, e, s, m, args, below, meth, c, d⟩ := X
  intro H locs ls hw hl hS
  have hK := va_K.moved hX.2.2.2.2.2.2.2.1.alike hX.2.2.2.2.2.2.2.2.2.2.1.2.2.1
  obtain ⟨q, q1, q2⟩ := Wd_ar3 hw ha
  exact va_lald hX.1 hX.2.1 hK hw.2.2 q 3 q2 rfl (ix_in hi) hd (kk H locs ls hw hl hS)
theorem Q_last (hX : OkQ X cc nL own ret) {k n : Nat} {i x : Int32} (hd : decode cc pc = .ok (.lastore, 1)) (ha : Ar k 3 n) (hi : ix i n) (kk : JQ X R Q kC sC (pc + 1) L S (up1 h k i.toNatClampNeg x)) : JQ X R Q kC sC pc L (.long x.toInt64 :: .int i :: .ref k :: S) h := by
  obtain ⟨G, p, e, s, m, args, below, meth, c, d⟩ := X
  intro H locs ls hw hl hS
  have hK := va_K.moved hX.2.2.2.2.2.2.2.1.alike hX.2.2.2.2.2.2.2.2.2.2.1.2.2.1
  have hD := hX.2.2.2.2.2.2.2.2.2.2.1.2.1 h
  obtain ⟨q, q1, q2⟩ := Wd_ar3 hw ha
  refine va_last hX.1 hX.2.1 hK hw.2.2 hD hS q 3 q2 rfl (ix_in hi) hd (fun H1 locs1 hP _ hS1 => ?_)
  have e3 : cls k = 20 + 3 := ha.2.1
  rw [wl_set (h' := up1 h k i.toNatClampNeg x) q1 (by
    unfold cellE arrE
    rw [if_neg (by omega), if_pos (by omega), ha.2.2, e3]
    unfold up1
    rw [upA_eq]
    have e9 : (fun j => (upd (h k) i.toNatClampNeg x j).toInt64) = vp_updL (fun j => (h k j).toInt64) i.toNatClampNeg x.toInt64 := by
      funext j
      unfold vp_updL upd
      split <;> rfl
    rw [e9]) (fun k' e => cellE_ne e)] at hP
  exact kk H1 locs1 ls (Wd_put hX.2.2.2.2.2.2.2.2.1 hX.2.2.2.2.2.2.2.2.2.1 hP hS1) hl hS1
theorem Q_switchOut (hX : OkQ X cc nL own ret) {dflt lo hi : Int} {offs : Array Int} {len : Nat} {x : Int32} (tgt : Nat) (hd : decode cc pc = .ok (.tableswitch dflt lo hi offs, len)) (hq : x.toInt < lo ∨ hi < x.toInt) (ht : (pc : Int) + dflt = (tgt : Int)) (kk : JQ X R Q kC sC tgt L S h) : JQ X R Q kC sC pc L (.int x :: S) h := by
  obtain ⟨G, p, e, s, m, args, below, meth, c, d⟩ := X
  intro H locs ls hw hl hS
  exact lv_tableOut hX.1 hX.2.1 hd hq ht (kk H locs ls hw hl hS)
theorem Q_switchIn (hX : OkQ X cc nL own ret) {dflt lo hi : Int} {offs : Array Int} {len : Nat} {x : Int32} {off : Int} (tgt : Nat) (hd : decode cc pc = .ok (.tableswitch dflt lo hi offs, len)) (h1 : ¬ x.toInt < lo) (h2 : ¬ hi < x.toInt) (ho : offs[(x.toInt - lo).toNat]? = some off) (ht : (pc : Int) + off = (tgt : Int)) (kk : JQ X R Q kC sC tgt L S h) : JQ X R Q kC sC pc L (.int x :: S) h := by
  obtain ⟨G, p, e, s, m, args, below, meth, c, d⟩ := X
  intro H locs ls hw hl hS
  exact lv_tableIn hX.1 hX.2.1 hd h1 h2 ho ht (kk H locs ls hw hl hS)

theorem okGQ (hX : OkQ X cc nL own ret) : GOk X.1 := by
  obtain ⟨G, p, e, s, m, args, below, meth, c, d⟩ := X
  exact hX.2.2.2.2.2.2.2.2.2.2.1
theorem Q_nm {v x : Int32} (e : v = x) (kk : JQ X R Q kC sC pc L (.int x :: S) h) : JQ X R Q kC sC pc L (.int v :: S) h := e ▸ kk
end JQR
section JQC
variable {G : GX} {p : Program} {e : Env} {s : State} {m : MethodId} {args : Array Value} {below : List Frame} {meth : Method} {c : Code} {d : Nat} {R : Room} {Q : State → Prop} {kC sC : Nat} {cc cc' : ByteArray} {nL nL' : Nat} {own : String} {ret ret' : Option FieldType} {pc : Nat} {L : List (Nat × Value)} {S : List Value} {h : Hp} {Oc' : Oc}
theorem cwQ_B (hX : OkQ (G, p, e, s, m, args, below, meth, c, d) cc nL own ret) {idx n : Nat} {y : MethodName} (hw : CW own idx y cc' nL' ret' n) {d' : Nat} (hd : d' + 1 ≤ R.frames) (hl : 80 * d' + 79 ≤ R.locals) (hnl : Nat.blt nL' 60 = true) :
    CallB R s args own idx y cc' nL' ret' (.code y cc' nL' ret' :: TB) (rmO d' Oc') (nX Oc') (6 * nX Oc') n := by
  have ht : ∀ w ∈ TB, w.before args s = true := hX.2.2.2.2.1
  have hn := Nat.blt_eq.mp hnl
  refine callB_of n ht (good_TB _ fun w q => (List.mem_cons.mp q).elim (fun q => q ▸ hw.2.2.1) id) rfl rfl rfl (ht _ hw.2.1) (ht _ hw.1) hw.2.2.2 ⟨hd, ?_⟩
  show 8 + (nL' + 11) + 80 * d' ≤ R.locals
  omega
theorem Q_S2 {H : Heap} {locs : List Loc} (hX : OkQ (G, p, e, s, m, args, below, meth, c, d) cc nL own ret) (hS : va_S (bs G) s.heap H locs) {t T' st₀ : State} {Lc : List Loc} {h1 : Hp} (h0 : st₀.heap = H) (e1 : T'.heap = t.heap) (hw1 : Wd G h1 t.heap) (hz : st₀.heap.size ≤ t.heap.size) (hL : ∀ q ∈ Lc, bs G q.base) : va_S (bs G) s.heap T'.heap (locs ++ Lc) := by
  rw [h0] at hz
  refine ⟨by rw [e1]; exact Nat.le_trans hS.1 hz, fun q hq hn => ?_, fun q hq => (List.mem_append.mp hq).elim (hS.2.2 q) (hL q)⟩
  have hq0 : q < G.2.1.heap.size := Nat.not_le.mp hn
  rw [e1, hw1.2.1 q hq0, hX.2.2.2.2.2.2.2.2.2.1 q hq0]
theorem Q_run {H : Heap} {locs : List Loc} {ls : Array Slot} {st0 : List Value} {a : Array Value} (hX : OkQ (G, p, e, s, m, args, below, meth, c, d) cc nL own ret) (hl : lv_has ls c.maxLocals (L.map (cL G.2.2.1))) (hS : va_S (bs G) s.heap H locs)
    {mc ms : Nat} (hr : vx_Run p G.1 e R s m args below meth c H locs kC sC mc ms (F0 m pc ls st0) (S.map (cv G.2.2.1)) (QcO G Oc' a) (XcO G Oc') (bs G))
    (hk : (∃ v h1, Oc' = (.inl v, h1) ∧ JQ (G, p, e, s, m, args, below, meth, c, d) R Q (kC + mc) (sC + ms) (pc + 3) L (v.toList ++ S) h1) ∨ (∃ E h1, Oc' = (.inr E, h1) ∧ JX (G, p, e, s, m, args, below, meth, c, d) R Q (kC + mc) (sC + ms) pc L h1 E)) :
    W p G.1 e R s m args below meth c H locs kC sC Q (F0 m pc ls st0) := by
  intro T hT X
  rcases hr T hT X with ⟨v, st₀, t, T', Lc, h0, X', hL, e1, e2, hQ, st⟩ | ⟨q, st₀, t, T', Lc, E, ce, h0, X', hL, e1, e2, hx, hce, hcv, hcl, st⟩
  · rcases hk with ⟨v0, h1, rfl, kk⟩ | ⟨E, h1, rfl, -⟩
    · obtain ⟨hv, hw1, hz⟩ := hQ
      cases hv
      obtain ⟨t2, a1, b1⟩ := kk T'.heap (locs ++ Lc) ls (by rw [e1]; exact hw1) hl (Q_S2 hX hS h0 e1 hw1 hz hL) T' rfl X'
      refine ⟨t2, st t2 ?_, b1⟩
      cases v0 <;> exact a1
    · exact hQ.elim
  · rcases hk with ⟨v0, h1, rfl, kk⟩ | ⟨E', h1, rfl, kk⟩
    · exact hx.elim
    · obtain ⟨hE, hw1, hz⟩ := hx
      subst hE
      obtain ⟨t2, a1, b1⟩ := kk T'.heap (locs ++ Lc) ls q ce (S.map (cv G.2.2.1)) (by rw [e1]; exact hw1) hl (Q_S2 hX hS h0 e1 hw1 hz hL) (by rw [e1]; exact hce) hcv hcl T' rfl X'
      exact ⟨t2, st.trans a1, b1⟩
end JQC
section JQD
variable {X : CX} {R : Room} {Q : State → Prop} {kC sC : Nat} {cc cc' : ByteArray} {nL nL' : Nat} {own : String} {ret ret' : Option FieldType} {pc : Nat} {L : List (Nat × Value)} {S S0 : List Value} {h : Hp}
theorem Q_callV (hX : OkQ X cc nL own ret) {idx n k ci d' : Nat} {y : MethodName} {Oc' : Oc} (As : List Value) (hdc : decode cc pc = .ok (.invokevirtual idx, 3)) (hw : CWv own idx y cc' nL' ret' n) (ho : Ob k ci) (hcn : (vwCl[ci]?).map (fun q => q.1) = some y.cls)
    (hc : Ctr X.1 d' y cc' nL' ret' (.ref k :: As) h Oc') (hd : d' + 1 ≤ R.frames) (hdl : 80 * d' + 79 ≤ R.locals) (hnl : Nat.blt nL' 60 = true) (hn : As.length = n) (hst : S0 = As.reverse ++ .ref k :: S) (hsm : Nat.ble (S.map fun v => v.category).sum 8 = true)
    (hle : kC + nX Oc' ≤ R.cells ∧ sC + 6 * nX Oc' ≤ R.slots)
    (hk : (∃ v h1, Oc' = (.inl v, h1) ∧ JQ X R Q (kC + nX Oc') (sC + 6 * nX Oc') (pc + 3) L (v.toList ++ S) h1) ∨ (∃ E h1, Oc' = (.inr E, h1) ∧ JX X R Q (kC + nX Oc') (sC + 6 * nX Oc') pc L h1 E)) : JQ X R Q kC sC pc L S0 h := by
  obtain ⟨G, p, e, s, m, args, below, meth, c, d⟩ := X
  intro H locs ls hwd hl hS
  subst hst
  obtain ⟨i, i1, i2⟩ := Wd_ob hwd ho
  have hK := va_K.moved hX.2.2.2.2.2.2.2.1.alike hX.2.2.2.2.2.2.2.2.2.2.1.2.2.1
  have ht : ∀ w ∈ TB, w.before args s = true := hX.2.2.2.2.1
  cases hcc : vwCl[ci]? with
  | none => rw [hcc] at hcn; cases hcn
  | some q =>
    rw [hcc] at hcn
    have hq : q.1 = y.cls := Option.some.inj hcn
    obtain ⟨cell, c1, c2, c3⟩ := va_recv hK hwd.2.2 hcc i2
    refine Q_run (a := (Value.ref (G.2.2.1 k) :: As.map (cv G.2.2.1)).toArray) (Oc' := Oc') (S := S) hX hl hS (vx_runV (cc := cc) (nL := nL) (Ts := TB) (own := own) (C := y.cls) (b := G.2.2.1 k) (As := As.map (cv G.2.2.1)) (n := n) (index := idx) ⟨hX.1, hX.2.1, hX.2.2.1, hX.2.2.2.1, ht⟩ hc ⟨cwQ_B hX hw.1 hd hdl hnl, ht _ hw.2.1, ht _ hw.2.2⟩
      ⟨fun a U g mk q => q, ⟨cell, c1, c2, by rw [← hq]; exact c3⟩, fun U hU hW => ⟨rfl, hX.2.2.2.2.2.2.2.1.trans hW, by rw [hU]; exact hwd⟩⟩ rfl (by rw [List.length_map]; exact hn) (hl.1.trans hX.2.2.1) (by
        show (As.reverse ++ .ref k :: S).map (cv G.2.2.1) = _
        rw [List.map_append, List.map_reverse]; rfl) (by
        show 2 * 0 + _ ≤ 8
        rw [cat_sum]; have := Nat.le_of_ble_eq_true hsm; omega) hdc hle) hk
/-- a value back -/
theorem Q_V1 (hX : OkQ X cc nL own ret) {idx n k ci d' : Nat} {y : MethodName} {v : Value} {h1 : Hp} (As : List Value) (hdc : decode cc pc = .ok (.invokevirtual idx, 3)) (hw : CWv own idx y cc' nL' ret' n) (ho : Ob k ci) (hcn : (vwCl[ci]?).map (fun q => q.1) = some y.cls)
    (hc : Ctr X.1 d' y cc' nL' ret' (.ref k :: As) h (.inl (some v), h1)) (hd : d' + 1 ≤ R.frames) (hdl : 80 * d' + 79 ≤ R.locals) (hnl : Nat.blt nL' 60 = true) (hn : As.length = n) (hst : S0 = As.reverse ++ .ref k :: S) (hsm : Nat.ble (S.map fun v => v.category).sum 8 = true) (hle : kC ≤ R.cells ∧ sC ≤ R.slots)
    (kk : JQ X R Q kC sC (pc + 3) L (v :: S) h1) : JQ X R Q kC sC pc L S0 h :=
  Q_callV hX As hdc hw ho hcn hc hd hdl hnl hn hst hsm hle (Or.inl ⟨_, _, rfl, kk⟩)
theorem Q_V0 (hX : OkQ X cc nL own ret) {idx n k ci d' : Nat} {y : MethodName} {h1 : Hp} (As : List Value) (hdc : decode cc pc = .ok (.invokevirtual idx, 3)) (hw : CWv own idx y cc' nL' ret' n) (ho : Ob k ci) (hcn : (vwCl[ci]?).map (fun q => q.1) = some y.cls)
    (hc : Ctr X.1 d' y cc' nL' ret' (.ref k :: As) h (.inl none, h1)) (hd : d' + 1 ≤ R.frames) (hdl : 80 * d' + 79 ≤ R.locals) (hnl : Nat.blt nL' 60 = true) (hn : As.length = n) (hst : S0 = As.reverse ++ .ref k :: S) (hsm : Nat.ble (S.map fun v => v.category).sum 8 = true) (hle : kC ≤ R.cells ∧ sC ≤ R.slots)
    (kk : JQ X R Q kC sC (pc + 3) L S h1) : JQ X R Q kC sC pc L S0 h :=
  Q_callV hX As hdc hw ho hcn hc hd hdl hnl hn hst hsm hle (Or.inl ⟨_, _, rfl, kk⟩)
theorem Q_Vx (hX : OkQ X cc nL own ret) {idx n k ci d' : Nat} {y : MethodName} {E : String} {h1 : Hp} (As : List Value) (hdc : decode cc pc = .ok (.invokevirtual idx, 3)) (hw : CWv own idx y cc' nL' ret' n) (ho : Ob k ci) (hcn : (vwCl[ci]?).map (fun q => q.1) = some y.cls)
    (hc : Ctr X.1 d' y cc' nL' ret' (.ref k :: As) h (.inr E, h1)) (hd : d' + 1 ≤ R.frames) (hdl : 80 * d' + 79 ≤ R.locals) (hnl : Nat.blt nL' 60 = true) (hn : As.length = n) (hst : S0 = As.reverse ++ .ref k :: S) (hsm : Nat.ble (S.map fun v => v.category).sum 8 = true) (hle : kC + 1 ≤ R.cells ∧ sC + 6 ≤ R.slots)
    (kk : JX X R Q (kC + 1) (sC + 6) pc L h1 E) : JQ X R Q kC sC pc L S0 h :=
  Q_callV hX As hdc hw ho hcn hc hd hdl hnl hn hst hsm hle (Or.inr ⟨_, _, rfl, kk⟩)
def entOf (q : Nat × Nat × Nat × Nat) : ExceptionTableEntry := ⟨q.1, q.2.1, q.2.2.1, q.2.2.2⟩
def TabQ (X : CX) (hh : List (Nat × Nat × Nat × Nat)) : Prop := X.2.2.2.2.2.2.2.2.1.exceptionTable.toList = hh.map entOf
/-- a catch: the entries ahead of it are of other classes; its first instruction stores what was thrown -/
theorem Q_catch (hX : OkQ X cc nL own ret) {hh : List (Nat × Nat × Nat × Nat)} (hT : TabQ X hh) {E name : String} (pre suf : List (Nat × Nat × Nat × Nat)) (x : Nat × Nat × Nat × Nat) (L' : List (Nat × Value)) {i len : Nat} (hs : hh = pre ++ x :: suf)
    (hpre : ∀ z ∈ pre, z.2.2.2 ≠ 0 ∧ ∃ nm : String, Cond.classLink own z.2.2.2 nm ∈ TB ∧ (E, nm) ∈ ncL) (hcov : covers (entOf x) pc = true) (h0 : x.2.2.2 ≠ 0) (hlink : Cond.classLink own x.2.2.2 name ∈ TB) (hcast : Cond.castable E name ∈ NW)
    (hd : decode cc x.2.2.1 = .ok (.astore i, 2) ∧ len = 2 ∨ ∃ f : Fin 4, (f : Nat) = i ∧ decode cc x.2.2.1 = .ok (.astore_n f, 1) ∧ len = 1) (hi : Nat.blt i nL = true) (hL' : L.filter (fun q => !(q.1 == i) && !(q.1 + 1 == i && q.2.category == 2)) = L')
    (kk : JQ X R Q kC sC (x.2.2.1 + len) L' [] h) : JX X R Q kC sC pc L h E := by
  obtain ⟨G, p, e, s, m, args, below, meth, c, d⟩ := X
  intro H locs ls q ce rest hwd hl hS hce hcv hcl
  have ht : ∀ w ∈ TB, w.before args s = true := hX.2.2.2.2.1
  have hG := hX.2.2.2.2.2.2.2.2.2.2.1
  have hW := hX.2.2.2.2.2.2.2.1
  subst hL'
  refine vx_catch hX.2.2.2.1 (pre.map entOf) (entOf x) (suf.map entOf) (by
      have hT' : c.exceptionTable.toList = hh.map entOf := hT
      rw [hT', hs, List.map_append, List.map_cons]) (fun z hz => ?_) hcov h0 (ht _ hlink) (nw_warm hW (List.mem_filter.mp hcast).2 (hG.2.2.2.2.2.2.1 _ hcast)) hce hcv hcl ?_
  · obtain ⟨z0, hz0, rfl⟩ := List.mem_map.mp hz
    obtain ⟨h1, nm, h2, h3⟩ := hpre z0 hz0
    exact Or.inr ⟨h1, nm, ht _ h2, va_Nc.moved hW.alike (hG.2.2.2.2.2.2.2 (E, nm) h3)⟩
  · have fin : ∀ ls' : Array Slot, lv_has ls' c.maxLocals ((i, Value.ref q) :: (L.map (cL G.2.2.1)).filter (fun q => !(q.1 == i) && !(q.1 + 1 == i && q.2.category == 2))) → W p G.1 e R s m args below meth c H locs kC sC Q (F0 m (x.2.2.1 + len) ls' []) := by
      intro ls' h9
      rw [cL_filter] at h9
      exact kk H locs ls' hwd ⟨h9.1, h9.2.1, fun z hz => h9.2.2 z (List.mem_cons_of_mem _ hz)⟩ hS
    have hlt : i < c.maxLocals := by rw [hX.2.2.1]; exact Nat.blt_eq.mp hi
    rcases hd with ⟨hd, rfl⟩ | ⟨f, hf, hd, rfl⟩
    · exact lv_astore hX.1 hX.2.1 hd hl hlt rfl (fun ls' h9 => fin ls' h9)
    · exact lv_astore_n hX.1 hX.2.1 hd hf hl hlt rfl (fun ls' h9 => fin ls' h9)
theorem QcO_mono {G : GX} {O : Oc} {k n : Nat} : True := trivial
end JQD
/-- a catcher's contract: it gives a number and a heap, with so many cells made -/
def CtrW (G : GX) (d : Nat) (y : MethodName) (cc : ByteArray) (nL : Nat) (hh : List (Nat × Nat × Nat × Nat)) (As : List Value) (h : Hp) (v : Int32) (h1 : Hp) (k : Nat) : Prop :=
  vx_Met G.1 y (.codeWith y cc nL (some .int) hh :: TB) { frames := d, cells := k, slots := 6 * k, locals := 80 * d } (va_Pc (As.map (cv G.2.2.1)) (St G h)) (QcO G (.inl (some (.int v)), h1)) (XcO G (.inl (some (.int v)), h1)) k (6 * k) (bs G)
theorem CtrW_of {G : GX} (hG : GOk G) {d : Nat} {y : MethodName} {cc : ByteArray} {nL : Nat} {hh : List (Nat × Nat × Nat × Nat)} {As : List Value} {h : Hp} {v : Int32} {h1 : Hp} {k : Nat} (own : String) (hy : y.cls = own) (hpl : plainName y.cls = true) (hlen : Nat.ble (lg_sl As).length nL = true)
    (body : ∀ X : CX, X.1 = G → OkQ X cc nL own (some .int) → TabQ X hh → JQ X { frames := d, cells := k, slots := 6 * k, locals := 80 * d } (vx_MQ X.2.2.2.2.2.2.1 (QcO G (.inl (some (.int v)), h1)) (XcO G (.inl (some (.int v)), h1)) X.2.2.2.2.2.1 X.2.2.2.1 k (6 * k) (bs G)) 0 0 0 (lv_args 0 As) [] h) : CtrW G d y cc nL hh As h v h1 k := by
  refine vx_ofWH (cc := cc) (maxL := nL) (ret := some .int) (hh := hh) hpl rfl ?_
  intro p e s m args below meth c s₁ B hml hP
  obtain ⟨rfl, hW, hw⟩ := hP
  have hts := atoms_spec (ws := .codeWith y cc nL (some .int) hh :: TB) B.pre
  have hown : s.vm.findClass own = some m.cls := hy ▸ findClass_of_methodNamed B.named
  have htab := vx_table (x := y) B (hts _ List.mem_cons_self)
  have hj := body (G, p, e, s, m, (As.map (cv G.2.2.1)).toArray, below, meth, c, d) rfl
    ⟨B.exec, B.bytes, hml, hown, fun w h => hts w (List.mem_cons_of_mem _ h), B.returns, B.notSynchronized, hW, hw.1, hw.2.1, hG, trivial⟩ htab
  have hl := lv_entry (As.map (cv G.2.2.1)) (n := nL) (by rw [lg_sl_len]; exact Nat.le_of_ble_eq_true hlen)
  rw [lg_entry_eq]
  generalize (lg_sl (As.map (cv G.2.2.1)) ++ List.replicate (nL - (lg_sl (As.map (cv G.2.2.1))).length) Slot.unset).toArray = ls at hl ⊢
  rw [lv_args_map] at hl
  exact hj s.heap [] ls hw (by rw [hml]; exact hl) va_S.rf
section JQE
variable {X : CX} {R : Room} {cc cc' : ByteArray} {nL nL' : Nat} {own : String} {ret ret' : Option FieldType} {pc : Nat} {L : List (Nat × Value)} {S S0 : List Value} {h : Hp} {Q : State → Prop} {kC sC : Nat}
theorem Q_iret (hX : OkQ X cc nL own (some .int)) {v : Int32} {k kC sC : Nat} (hd : decode cc pc = .ok (.ireturn, 1)) (h1 : kC ≤ k) (h2 : sC ≤ 6 * k) : JQ X R (vx_MQ X.2.2.2.2.2.2.1 (QcO X.1 (.inl (some (.int v)), h)) (XcO X.1 (.inl (some (.int v)), h)) X.2.2.2.2.2.1 X.2.2.2.1 k (6 * k) (bs X.1)) kC sC pc L [.int v] h := by
  obtain ⟨G, p, e, s, m, args, below, meth, c, d⟩ := X
  intro H locs ls hw hl hS
  refine W.widen (k := k) (n := 6 * k) h1 h2 ?_
  exact vx_ret (W.iret hX.1 hX.2.1 hX.2.2.2.2.2.1 (fun t ht hW => ⟨rfl, by rw [ht]; exact hw, by rw [ht]; exact hS.1⟩) hS.2.2 hd hX.2.2.2.2.2.2.1)
/-- a call of a catcher -/
theorem Q_W1 (hX : OkQ X cc nL own ret) {idx n d' : Nat} {y : MethodName} {hh : List (Nat × Nat × Nat × Nat)} {v : Int32} {h1 : Hp} {k : Nat} (As : List Value) (hdc : decode cc pc = .ok (.invokestatic idx, 3))
    (hw : Cond.methodLink own idx y ∈ TB ∧ Cond.static y ∈ TB ∧ Cond.initialized y.cls ∈ TB ∧ Cond.codeWith y cc' nL' (some .int) hh ∈ TB ∧ (y.cls ≠ "java/lang/invoke/MethodHandle" ∧ y.cls ≠ "java/lang/invoke/VarHandle" ∧ (parseMethodDescriptor y.desc).map (fun d => d.parameters.length) = some n))
    (hc : CtrW X.1 d' y cc' nL' hh As h v h1 k) (hd : d' + 1 ≤ R.frames) (hdl : 80 * d' + 79 ≤ R.locals) (hnl : Nat.blt nL' 60 = true) (hn : As.length = n) (hst : S0 = As.reverse ++ S) (hsm : Nat.ble (S.map fun v => v.category).sum 8 = true) (hle : kC + k ≤ R.cells ∧ sC + 6 * k ≤ R.slots)
    (kk : JQ X R Q (kC + k) (sC + 6 * k) (pc + 3) L (.int v :: S) h1) : JQ X R Q kC sC pc L S0 h := by
  obtain ⟨G, p, e, s, m, args, below, meth, c, d⟩ := X
  intro H locs ls hwd hl hS
  subst hst
  have ht : ∀ w ∈ TB, w.before args s = true := hX.2.2.2.2.1
  have hn6 := Nat.blt_eq.mp hnl
  refine Q_run (a := (As.map (cv G.2.2.1)).toArray) (Oc' := (.inl (some (.int v)), h1)) (S := S) hX hl hS (vx_runSX (cc := cc) (nL := nL) (Ts := TB) (own := own) (As := As.map (cv G.2.2.1)) (n := n) (index := idx) ⟨hX.1, hX.2.1, hX.2.2.1, hX.2.2.2.1, ht⟩ hc
      (vx_cwSW (ws := .codeWith y cc' nL' (some .int) hh :: TB) n ht (good_TB _ fun w q => ?_) rfl rfl rfl hw.2.2.2.2 ⟨hd, ?_⟩)
      ⟨fun a U g mk q => q, fun U hU hW => ⟨rfl, hX.2.2.2.2.2.2.2.1.trans hW, by rw [hU]; exact hwd⟩⟩ rfl (by rw [List.length_map]; exact hn) (hl.1.trans hX.2.2.1) (by
        show (As.reverse ++ S).map (cv G.2.2.1) = _
        rw [List.map_append, List.map_reverse]) (by
        show 2 * 0 + _ ≤ 8
        rw [cat_sum]; have := Nat.le_of_ble_eq_true hsm; omega) hdc hle) (Or.inl ⟨_, _, rfl, kk⟩)
  · unfold va_wsS at q
    simp only [List.cons_append, List.nil_append, List.mem_cons] at q
    rcases q with rfl | rfl | rfl | rfl | q
    · exact hw.1
    · exact hw.2.1
    · exact hw.2.2.1
    · exact hw.2.2.2.1
    · exact q
  · show 8 + (nL' + 11) + 80 * d' ≤ R.locals
    omega
end JQE
