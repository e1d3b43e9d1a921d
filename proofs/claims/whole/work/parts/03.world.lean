/-! The objects that the law makes, by numbers (0..99 by themselves, cities from 100 on by sixteens, laws from 500 on); a heap of theirs is a function. -/
def mainC : List Nat := [99, 9, 8, 20, 2, 7, 20, 20, 20, 20, 20, 20, 20, 20, 20, 6, 20, 24, 20, 5, 20, 20, 20, 0, 20, 20, 20, 24, 99, 99, 10, 20, 20, 20, 20, 20, 20, 20, 21, 20, 20, 20, 20, 22, 20, 20, 20, 99, 99, 99, 23, 99, 99, 99, 99, 99, 99, 99, 99, 99, 99, 99, 99, 99, 99, 99, 99, 99, 99, 99, 99, 99, 99, 99, 99, 99, 99, 99, 99, 99, 99, 99, 99, 99, 99, 99, 99, 99, 99, 99, 99, 99, 99, 99, 99, 99, 99, 99, 99, 99]
def mainL : List Nat := [0, 0, 0, 400, 0, 0, 8, 8, 8, 8, 8, 8, 8, 8, 9, 0, 5, 6, 5, 0, 1792, 48, 6, 0, 65, 520, 40, 12, 0, 0, 0, 2190, 1341, 1341, 492, 5904, 8, 8, 400, 5, 400, 5, 5, 65, 520, 8, 1792, 0, 0, 0, 1, 0, 0, 0, 0, 0, 0, 0, 0, 0, 0, 0, 0, 0, 0, 0, 0, 0, 0, 0, 0, 0, 0, 0, 0, 0, 0, 0, 0, 0, 0, 0, 0, 0, 0, 0, 0, 0, 0, 0, 0, 0, 0, 0, 0, 0, 0, 0, 0, 0]
def cityC : List Nat := [1, 20, 20, 20, 20, 20, 20, 20, 20, 4, 20, 99, 99, 99, 99, 99]
def cityL : List Nat := [0, 8, 8, 8, 8, 64, 6, 6, 6, 0, 360, 0, 0, 0, 0, 0]
def lawC : List Nat := [3, 20, 20, 20, 20, 20, 20, 20, 99, 99, 99, 99, 99, 99, 99, 99]
def lawL : List Nat := [0, 12, 12, 12, 12, 400, 400, 32, 0, 0, 0, 0, 0, 0, 0, 0]
def rfT : List (List Nat) := [[1, 0, 2, 3, 0], [1, 2, 3, 4, 5, 6, 7, 8, 9, 0, 0, 0, 0, 0, 0, 0, 0, 0], [1, 0], [1, 2, 3, 4, 5, 6, 7, 0, 0], [1, 0], [1, 2, 3], [1, 0, 2, 3], [1, 2, 3, 4, 5, 6, 7, 8, 9, 0, 0], [1, 0, 0, 0, 0, 0, 0], [1, 99, 115, 499, 515, 3, 14, 18, 22, 131, 531, 0, 26, 0, 0], [0, 1, 2, 3, 4, 5, 0, 0, 6, 7, 8, 0, 0, 0, 0, 0, 0, 9, 0, 10, 0, 0, 0, 11, 12, 13, 14, 15, 16]]
def strT : List (String × Nat × String) := [("LeanCity$CityReader", 35, "house person lean wander prop evening week"), ("LeanCity$CityReader", 78, "weight"), ("LeanCity$CityReader", 84, "firm"), ("LeanCity$CityReader", 86, "ivy"), ("LeanCity$CityReader", 91, "age"), ("LeanCity$CityReader", 107, "at"), ("LeanCity$CityReader", 109, "hold"), ("LeanCity$CityReader", 111, "on"), ("LeanCity$CityReader", 101, "part"), ("LeanCity$LawReader", 36, "firm soft grow"), ("LeanCity$LawReader", 50, "if"), ("LeanCity$LawReader", 77, "not"), ("LeanCity$LawReader", 88, "leaning leant held"), ("LeanCity$LawReader", 93, "house weight ivy age evening press"), ("LeanCity$LawReader", 75, "and"), ("LeanCity$LawReader", 66, "or"), ("LeanCityModel", 184, "house"), ("LeanCityModel", 152, "weight"), ("LeanCityModel", 158, "firm"), ("LeanCityModel", 160, "ivy"), ("LeanCityModel", 165, "age"), ("LeanCityModel", 190, "lean"), ("LeanCityModel", 174, "part"), ("LeanCityModel", 195, "person"), ("LeanCityModel", 176, "at"), ("LeanCityModel", 177, "hold"), ("LeanCityModel", 179, "on"), ("LeanCityModel", 200, "wander"), ("LeanCityModel", 205, "prop"), ("LeanCityModel", 207, "evening"), ("LeanCityModel", 209, "week"), ("LeanCityModel", 257, "soft"), ("LeanCityModel", 259, "grow"), ("LeanCityModel", 261, "if"), ("LeanCityModel", 239, "not"), ("LeanCityModel", 227, "leaning"), ("LeanCityModel", 229, "leant"), ("LeanCityModel", 231, "held"), ("LeanCityModel", 214, "press"), ("LeanCityModel", 250, "and"), ("LeanCityModel", 255, "or")]
abbrev Hp := Nat → Nat → Int32
def upA (h : Hp) (k : Nat) (f : Nat → Int32) : Hp := fun k' => if k' = k then f else h k'
def up1 (h : Hp) (k i : Nat) (v : Int32) : Hp := upA h k (upd (h k) i v)
def shl (x y : Int32) : Int32 := x <<< (y &&& 31)
def shr (x y : Int32) : Int32 := x >>> (y &&& 31)
def ushr (x y : Int32) : Int32 := (x.toUInt32 >>> (y.toUInt32 &&& Int32.toUInt32 31)).toInt32
def rem (x y : Int32) : Int32 := x - x / y * y
def b2i (b : Bool) : Int32 := if b then 1 else 0
def cls (k : Nat) : Nat := if k < 100 then mainC.getD k 99 else if k < 436 then cityC.getD ((k - 100) % 16) 99 else if k < 500 then 99 else if k < 548 then lawC.getD ((k - 500) % 16) 99 else 99
def alen (k : Nat) : Nat := if k < 100 then mainL.getD k 0 else if k < 436 then cityL.getD ((k - 100) % 16) 0 else if k < 500 then 0 else if k < 548 then lawL.getD ((k - 500) % 16) 0 else 0
def off (c i : Nat) : Nat := (rfT.getD c []).getD i 0
def nf (c : Nat) : Nat := (rfT.getD c []).length
def rel (k i : Nat) : Nat := if k = 27 then 148 + 16 * i else 340 + 16 * i
def objs : List Nat := (List.range 548).filter (fun k => cls k != 99)
theorem objs_nodup : objs.Nodup := List.nodup_range.filter _
/-- launch, the state at the law's entry, addresses by number, classes and slots, array classes -/
abbrev GX := Launch × State × (Nat → Nat) × va_G × (Nat → ClassId)
def fldV (G : GX) (h : Hp) (k i : Nat) : Value := if off (cls k) i = 0 then .int (h k i) else .ref (G.2.2.1 (k + off (cls k) i))
def arrE (G : GX) (h : Hp) (k : Nat) : ((Nat → Int32) ⊕ (Nat → Int64) ⊕ (Nat → UInt32) ⊕ (Nat → UInt64) ⊕ (Nat → Option Nat)) :=
  if cls k = 23 then .inr (.inl fun i => (h k i).toInt64) else if cls k = 24 then .inr (.inr (.inr (.inr fun i => some (G.2.2.1 (rel k i))))) else .inl (h k)
def cellE (G : GX) (h : Hp) (k : Nat) : va_E := if cls k < 20 then .inr (cls k, (List.range (nf (cls k))).map (fldV G h k)) else .inl (G.2.2.2.2 (cls k - 20), alen k, arrE G h k)
def wl (G : GX) (h : Hp) : va_W := objs.map (fun k => (G.2.2.1 k, cellE G h k))
def tysG (G : GX) : List (ClassId × FieldType) := [(G.2.2.2.2 0, .int), (G.2.2.2.2 1, .byte), (G.2.2.2.2 2, .boolean), (G.2.2.2.2 3, .long), (G.2.2.2.2 4, .object "LeanCity$City")]
def bs (G : GX) : Nat → Prop := fun q => G.2.1.heap.size ≤ q
def TB : List Cond := lw_tbl.filter goodWord
def Wd (G : GX) (h : Hp) (H : Heap) : Prop := G.2.1.heap.size ≤ H.size ∧ (∀ q : Nat, q < G.2.1.heap.size → H[q]? = G.2.1.heap[q]?) ∧ va_P G.2.2.2.1 vwCl (wl G h) H
def St (G : GX) (h : Hp) (U : State) : Prop := G.2.1.WarmedH U.vm ∧ Wd G h U.heap
def cv (ad : Nat → Nat) : Value → Value
  | .ref k => .ref (ad k)
  | v => v
def cL (ad : Nat → Nat) (q : Nat × Value) : Nat × Value := (q.1, cv ad q.2)
def strBytes (t : String) : List Int32 := t.toList.map (fun c => Int32.ofNat c.toNat)
def StrOk (G : GX) : Prop := (∀ (i : Nat) (q : String × Nat × String), strT[i]? = some q → vk_R q.1 q.2.1 q.2.2 (G.2.2.1 (1000 + i)) G.2.1 ∧ vk_S 1 [(strBytes q.2.2).length] [strBytes q.2.2] (fun _ => G.2.2.1 (1000 + i)) (fun _ => G.2.2.1 (2000 + i)) (bs G) G.2.1 G.2.1.heap) ∧ va_Z "java/lang/String" "COMPACT_STRINGS" "Z" (.int 1) (bs G) G.2.1 G.2.1.heap ∧ ∃ v : Value, (v = .null ∨ v = .ref 3000) ∧ va_Z "jdk/internal/util/Preconditions" "SIOOBE_FORMATTER" "Ljava/util/function/BiFunction;" (cv G.2.2.1 v) (bs G) G.2.1 G.2.1.heap
def nwB : Cond → Bool
  | .castable _ _ => true
  | .declares _ => true
  | _ => false
def NW : List Cond := lw_tbl.filter nwB
theorem nw_warm {w : Cond} {s U : State} {args : Array Value} (hW : s.WarmedH U.vm) (hb : nwB w = true) (h : va_Nw w s) : w.before args U = true := by
  cases w <;> first | (cases hb; done) | exact va_Nw.use rfl (va_Nw.warmC hW h) | exact va_Nw.use rfl (va_Nw.warmD hW h)
def ncL : List (String × String) := [("java/lang/UnsupportedOperationException", "java/lang/IllegalArgumentException"), ("java/util/NoSuchElementException", "java/lang/IndexOutOfBoundsException"), ("java/lang/IllegalArgumentException", "java/lang/IndexOutOfBoundsException"), ("java/lang/IllegalStateException", "java/lang/IndexOutOfBoundsException"), ("java/lang/IllegalStateException", "java/lang/IllegalArgumentException")]
def GOk (G : GX) : Prop := G.1.stackTraces = false ∧ (∀ h, va_D (bs G) (wl G h)) ∧ va_K G.2.2.2.1 vwCl (tysG G) G.2.1 ∧ vx_Zq Bundle.tN "UNASSIGNED_STACK" Bundle.steD (bs G) G.2.1 G.2.1.heap ∧ vx_Zq Bundle.tN "SUPPRESSED_SENTINEL" Bundle.listD (bs G) G.2.1 G.2.1.heap ∧ StrOk G ∧ (∀ w ∈ NW, va_Nw w G.2.1) ∧ (∀ q ∈ ncL, va_Nc q.1 q.2 G.2.1)
/-- how a method ends: a value or nothing, or a throw of a class; the heap then -/
abbrev Oc := (Option Value ⊕ String) × Hp
def QcO (G : GX) (O : Oc) : Array Value → State → Outcome → State → Prop := fun _ st o t => match O.1 with
  | .inl v => o = .returned (v.map (cv G.2.2.1)) ∧ Wd G O.2 t.heap ∧ st.heap.size ≤ t.heap.size
  | .inr _ => False
def XcO (G : GX) (O : Oc) : String → State → State → Prop := fun E st t => match O.1 with
  | .inl _ => False
  | .inr E' => E = E' ∧ Wd G O.2 t.heap ∧ st.heap.size ≤ t.heap.size
def nX (O : Oc) : Nat := match O.1 with
  | .inl _ => 0
  | .inr _ => 1
def rmO (d : Nat) (O : Oc) : Room := { frames := d, cells := nX O, slots := 6 * nX O, locals := 80 * d }
def Ctr (G : GX) (d : Nat) (y : MethodName) (cc : ByteArray) (nL : Nat) (ret : Option FieldType) (As : List Value) (h : Hp) (O : Oc) : Prop :=
  vx_Met G.1 y (.code y cc nL ret :: TB) (rmO d O) (va_Pc (As.map (cv G.2.2.1)) (St G h)) (QcO G O) (XcO G O) (nX O) (6 * nX O) (bs G)
/-- a method's own frame -/
abbrev CX := GX × Program × Env × State × MethodId × Array Value × List Frame × Method × Code × Nat
def J (X : CX) (O : Oc) (pc : Nat) (L : List (Nat × Value)) (S : List Value) (h : Hp) : Prop := match X with
  | (G, p, e, s, m, args, below, meth, c, d) => ∀ (H : Heap) (locs : List Loc) (ls : Array Slot), Wd G h H → lv_has ls c.maxLocals (L.map (cL G.2.2.1)) → va_S (bs G) s.heap H locs →
      W p G.1 e (rmO d O) s m args below meth c H locs 0 0 (vx_MQ below (QcO G O) (XcO G O) args s (nX O) (6 * nX O) (bs G)) (F0 m pc ls (S.map (cv G.2.2.1)))
def dX (X : CX) : Nat := X.2.2.2.2.2.2.2.2.2
def Ok (X : CX) (cc : ByteArray) (nL : Nat) (own : String) (ret : Option FieldType) : Prop := match X with
  | (G, p, e, s, m, args, below, meth, c, d) => p.tables.exec = Jvm.exec ∧ c.code = cc ∧ c.maxLocals = nL ∧ s.vm.findClass own = some m.cls ∧ (∀ w ∈ TB, w.before args s = true) ∧ meth.sig.returnType = ret ∧ meth.locks = false ∧ G.2.1.WarmedH s.vm ∧ G.2.1.heap.size ≤ s.heap.size ∧ (∀ q : Nat, q < G.2.1.heap.size → s.heap[q]? = G.2.1.heap[q]?) ∧ GOk G ∧ (∀ x ∈ c.exceptionTable.toList, False)
theorem cv_cat (ad : Nat → Nat) (v : Value) : (cv ad v).category = v.category := by cases v <;> rfl
theorem cat_sum (ad : Nat → Nat) (S : List Value) : ((S.map (cv ad)).map fun v => v.category).sum = (S.map fun v => v.category).sum := by
  rw [List.map_map]; congr 1; exact List.map_congr_left fun v _ => cv_cat ad v
theorem wl_at {G : GX} {h : Hp} {k : Nat} (hk : k ∈ objs) : ∃ i : Nat, objs[i]? = some k ∧ (wl G h)[i]? = some (G.2.2.1 k, cellE G h k) := by
  obtain ⟨i, hi⟩ := List.getElem?_of_mem hk
  exact ⟨i, hi, by rw [wl, List.getElem?_map, hi]; rfl⟩
theorem wl_set {G : GX} {h h' : Hp} {k i : Nat} {E : va_E} (hi : objs[i]? = some k) (hE : E = cellE G h' k) (ho : ∀ k', k' ≠ k → cellE G h' k' = cellE G h k') : (wl G h).set i (G.2.2.1 k, E) = wl G h' := by
  subst hE
  refine List.ext_getElem? fun j => ?_
  rw [List.getElem?_set]
  have hlt : i < objs.length := (List.getElem?_eq_some_iff.mp hi).1
  by_cases e : i = j
  · subst e
    rw [if_pos rfl, if_pos (by rw [wl, List.length_map]; exact hlt), wl, List.getElem?_map, hi]; rfl
  · rw [if_neg e]
    simp only [wl, List.getElem?_map]
    cases hj : objs[j]? with
    | none => rfl
    | some k' =>
      have hne : k' ≠ k := by
        intro q; subst q
        have hjl : j < objs.length := (List.getElem?_eq_some_iff.mp hj).1
        have h1 := (List.getElem?_eq_some_iff.mp hi).2
        have h2 := (List.getElem?_eq_some_iff.mp hj).2
        have hp := List.pairwise_iff_getElem.mp objs_nodup
        rcases Nat.lt_or_gt_of_ne e with q | q
        · exact hp i j hlt hjl q (h1.trans h2.symm)
        · exact hp j i hjl hlt q (h2.trans h1.symm)
      show some (G.2.2.1 k', cellE G h k') = some (G.2.2.1 k', cellE G h' k')
      rw [ho k' hne]
theorem upA_ne {h : Hp} {k k' : Nat} {f : Nat → Int32} (e : k' ≠ k) : upA h k f k' = h k' := if_neg e
theorem upA_eq {h : Hp} {k : Nat} {f : Nat → Int32} : upA h k f k = f := if_pos rfl
theorem cellE_ne {G : GX} {h : Hp} {k k' : Nat} {f : Nat → Int32} (e : k' ≠ k) : cellE G (upA h k f) k' = cellE G h k' := by
  unfold cellE arrE
  rw [upA_ne e]
  congr 3
  refine List.map_congr_left fun i _ => ?_
  unfold fldV
  rw [upA_ne e]
def Ob (k c : Nat) : Prop := k ∈ objs ∧ cls k = c ∧ c < 20
def Ar (k t n : Nat) : Prop := k ∈ objs ∧ cls k = 20 + t ∧ alen k = n
def isCity (k : Nat) : Prop := ∃ c, c < 21 ∧ k = 100 + 16 * c
def isLog (k : Nat) : Prop := ∃ c, c < 21 ∧ k = 109 + 16 * c
def isLaw (k : Nat) : Prop := ∃ c, c < 3 ∧ k = 500 + 16 * c
theorem city_ob {k : Nat} (hk : isCity k) : Ob k 1 := by
  obtain ⟨c, hc, rfl⟩ := hk
  exact (show ∀ c, c < 21 → (100 + 16 * c ∈ objs ∧ cls (100 + 16 * c) = 1 ∧ 1 < 20) by decide +kernel) c hc
theorem city_log {k : Nat} (hk : isCity k) : isLog (k + 9) := by
  obtain ⟨c, hc, rfl⟩ := hk
  exact ⟨c, hc, by omega⟩
theorem log_ob {k : Nat} (hk : isLog k) : Ob k 4 := by
  obtain ⟨c, hc, rfl⟩ := hk
  exact (show ∀ c, c < 21 → (109 + 16 * c ∈ objs ∧ cls (109 + 16 * c) = 4 ∧ 4 < 20) by decide +kernel) c hc
theorem log_ar {k : Nat} (hk : isLog k) : Ar (k + 1) 0 360 := by
  obtain ⟨c, hc, rfl⟩ := hk
  exact (show ∀ c, c < 21 → (109 + 16 * c + 1 ∈ objs ∧ cls (109 + 16 * c + 1) = 20 + 0 ∧ alen (109 + 16 * c + 1) = 360) by decide +kernel) c hc
theorem law_ob {k : Nat} (hk : isLaw k) : Ob k 3 := by
  obtain ⟨c, hc, rfl⟩ := hk
  exact (show ∀ c, c < 3 → (500 + 16 * c ∈ objs ∧ cls (500 + 16 * c) = 3 ∧ 3 < 20) by decide +kernel) c hc
theorem city_ar {k : Nat} (j n : Nat) (hj : (j, n) ∈ [(1, 8), (2, 8), (3, 8), (4, 8), (5, 64), (6, 6), (7, 6), (8, 6)]) (hk : isCity k) : Ar (k + j) 0 n := by
  obtain ⟨c, hc, rfl⟩ := hk
  exact (show ∀ q ∈ [(1, 8), (2, 8), (3, 8), (4, 8), (5, 64), (6, 6), (7, 6), (8, 6)], ∀ c, c < 21 → (100 + 16 * c + q.1 ∈ objs ∧ cls (100 + 16 * c + q.1) = 20 + 0 ∧ alen (100 + 16 * c + q.1) = q.2) by decide +kernel) (j, n) hj c hc
theorem law_ar {k : Nat} (j n : Nat) (hj : (j, n) ∈ [(1, 12), (2, 12), (3, 12), (4, 12), (5, 400), (6, 400), (7, 32)]) (hk : isLaw k) : Ar (k + j) 0 n := by
  obtain ⟨c, hc, rfl⟩ := hk
  exact (show ∀ q ∈ [(1, 12), (2, 12), (3, 12), (4, 12), (5, 400), (6, 400), (7, 32)], ∀ c, c < 3 → (500 + 16 * c + q.1 ∈ objs ∧ cls (500 + 16 * c + q.1) = 20 + 0 ∧ alen (500 + 16 * c + q.1) = q.2) by decide +kernel) (j, n) hj c hc
theorem ob_of {k c : Nat} (h : (objs.contains k && (cls k == c && decide (c < 20))) = true) : Ob k c := by
  simp only [Bool.and_eq_true, List.contains_iff_mem, beq_iff_eq, decide_eq_true_eq] at h
  exact h
theorem ar_of {k t n : Nat} (h : (objs.contains k && (cls k == 20 + t && alen k == n)) = true) : Ar k t n := by
  simp only [Bool.and_eq_true, List.contains_iff_mem, beq_iff_eq] at h
  exact h
/-- a field by its entry in the class of the code -/
def FL (own : String) (idx ci fi : Nat) : Prop := ∃ (C : String) (T : u_T) (N : Nat), vwCl[ci]? = some (C, T, N) ∧ fi < N ∧ N = nf ci ∧ Cond.fieldLink own idx (T fi).1 (T fi).2.1 (T fi).2.2.1 ∈ TB
theorem u_wsTB {ci : Nat} {C : String} {T : u_T} {N : Nat} (h : vwCl[ci]? = some (C, T, N)) : ∀ w ∈ u_ws C T N, w ∈ TB := by
  have hm := List.mem_of_getElem? h
  exact (show ∀ q ∈ vwCl, ∀ w ∈ u_ws q.1 q.2.1 q.2.2, w ∈ TB by decide +kernel) _ hm
theorem u_tyTB {ci : Nat} {C : String} {T : u_T} {N : Nat} (h : vwCl[ci]? = some (C, T, N)) : ∀ k, k < N → parseFieldDescriptor (T k).2.2.1 = some ((parseFieldDescriptor (T k).2.2.1).getD .int) := by
  have hm := List.mem_of_getElem? h
  exact (show ∀ q ∈ vwCl, ∀ k, k < q.2.2 → parseFieldDescriptor (q.2.1 k).2.2.1 = some ((parseFieldDescriptor (q.2.1 k).2.2.1).getD .int) by decide +kernel) _ hm
theorem u_nmTB {ci : Nat} {C : String} {T : u_T} {N : Nat} (h : vwCl[ci]? = some (C, T, N)) : ∀ a, a < N → ∀ b, b < N → a ≠ b → (T a).2.1 ≠ (T b).2.1 := by
  have hm := List.mem_of_getElem? h
  exact (show ∀ q ∈ vwCl, ∀ a, a < q.2.2 → ∀ b, b < q.2.2 → a ≠ b → (q.2.1 a).2.1 ≠ (q.2.1 b).2.1 by decide +kernel) _ hm
theorem TB_good : ∀ w ∈ TB, goodWord w = true := fun w h => (List.mem_filter.mp h).2
theorem TB_in {w : Cond} (h : w ∈ lw_tbl) (g : goodWord w = true) : w ∈ TB := List.mem_filter.mpr ⟨h, g⟩
theorem TB_all : TB.all goodWord = true := List.all_eq_true.mpr TB_good
theorem good_TB (ws : List Cond) (h : ∀ w ∈ ws, w ∈ TB) : GoodIn TB ws := fun w hw => ⟨h w hw, good_of_word (TB_good w (h w hw))⟩
theorem cL_filter (ad : Nat → Nat) (i : Nat) (L : List (Nat × Value)) :
    (L.map (cL ad)).filter (fun q => !(q.1 == i) && !(q.1 + 1 == i && q.2.category == 2)) = (L.filter (fun q => !(q.1 == i) && !(q.1 + 1 == i && q.2.category == 2))).map (cL ad) := by
  rw [List.filter_map]
  congr 1
  refine List.filter_congr fun q _ => ?_
  show (!(q.1 == i) && !(q.1 + 1 == i && (cv ad q.2).category == 2)) = _
  rw [cv_cat]
theorem cL_get {ad : Nat → Nat} {L : List (Nat × Value)} {k : Nat} {i : Nat} {v : Value} (h : L[k]? = some (i, v)) : (L.map (cL ad))[k]? = some (i, cv ad v) := by
  rw [List.getElem?_map, h]; rfl
theorem Wd_ar {G : GX} {h : Hp} {H : Heap} {k t n : Nat} (hw : Wd G h H) (hk : Ar k t n) (ht : t ≠ 3) (ht' : t ≠ 4) : ∃ i : Nat, objs[i]? = some k ∧ (wl G h)[i]? = some (G.2.2.1 k, .inl (G.2.2.2.2 t, n, .inl (h k))) := by
  obtain ⟨i, h1, h2⟩ := wl_at (G := G) (h := h) hk.1
  refine ⟨i, h1, h2.trans ?_⟩
  have e : cls k = 20 + t := hk.2.1
  unfold cellE arrE
  rw [if_neg (by omega), if_neg (by omega), if_neg (by omega), hk.2.2, e, Nat.add_sub_cancel_left]
theorem Wd_ar3 {G : GX} {h : Hp} {H : Heap} {k n : Nat} (hw : Wd G h H) (hk : Ar k 3 n) : ∃ i : Nat, objs[i]? = some k ∧ (wl G h)[i]? = some (G.2.2.1 k, .inl (G.2.2.2.2 3, n, .inr (.inl fun i => (h k i).toInt64))) := by
  obtain ⟨i, h1, h2⟩ := wl_at (G := G) (h := h) hk.1
  refine ⟨i, h1, h2.trans ?_⟩
  have e : cls k = 20 + 3 := hk.2.1
  unfold cellE arrE
  rw [if_neg (by omega), if_pos (by omega), hk.2.2, e]
theorem Wd_ar4 {G : GX} {h : Hp} {H : Heap} {k n : Nat} (hw : Wd G h H) (hk : Ar k 4 n) : ∃ i : Nat, objs[i]? = some k ∧ (wl G h)[i]? = some (G.2.2.1 k, .inl (G.2.2.2.2 4, n, .inr (.inr (.inr (.inr fun i => some (G.2.2.1 (rel k i))))))) := by
  obtain ⟨i, h1, h2⟩ := wl_at (G := G) (h := h) hk.1
  refine ⟨i, h1, h2.trans ?_⟩
  have e : cls k = 20 + 4 := hk.2.1
  unfold cellE arrE
  rw [if_neg (by omega), if_neg (by omega), if_pos (by omega), hk.2.2, e]
theorem Wd_ob {G : GX} {h : Hp} {H : Heap} {k c : Nat} (hw : Wd G h H) (hk : Ob k c) : ∃ i : Nat, objs[i]? = some k ∧ (wl G h)[i]? = some (G.2.2.1 k, .inr (c, (List.range (nf c)).map (fldV G h k))) := by
  obtain ⟨i, h1, h2⟩ := wl_at (G := G) (h := h) hk.1
  refine ⟨i, h1, h2.trans ?_⟩
  unfold cellE
  rw [if_pos (by rw [hk.2.1]; exact hk.2.2), hk.2.1]
theorem cellE_ar {G : GX} {h : Hp} {k t n : Nat} {f : Nat → Int32} (hk : Ar k t n) (ht : t ≠ 3) (ht' : t ≠ 4) : (.inl (G.2.2.2.2 t, n, .inl f) : va_E) = cellE G (upA h k f) k := by
  have e : cls k = 20 + t := hk.2.1
  unfold cellE arrE
  rw [if_neg (by omega), if_neg (by omega), if_neg (by omega), hk.2.2, e, Nat.add_sub_cancel_left, upA_eq]
theorem Wd_put {G : GX} {h' : Hp} {H1 : Heap} {s : State} {locs : List Loc} (hs : G.2.1.heap.size ≤ s.heap.size) (hb : ∀ q : Nat, q < G.2.1.heap.size → s.heap[q]? = G.2.1.heap[q]?) (hP : va_P G.2.2.2.1 vwCl (wl G h') H1) (hS : va_S (bs G) s.heap H1 locs) : Wd G h' H1 :=
  ⟨Nat.le_trans hs hS.1, fun q hq => (hS.2.1 q (Nat.lt_of_lt_of_le hq hs) (fun z => absurd hq (Nat.not_lt.mpr z))).trans (hb q hq), hP⟩
theorem fs_get {G : GX} {h : Hp} {k c fi : Nat} (hf : fi < nf c) : ((List.range (nf c)).map (fldV G h k))[fi]? = some (fldV G h k fi) := by
  rw [List.getElem?_map, List.getElem?_range hf]; rfl
theorem fs_set {G : GX} {h : Hp} {k c fi : Nat} {v : Int32} (hk : Ob k c) (hf : fi < nf c) (h0 : off c fi = 0) : ((List.range (nf c)).map (fldV G h k)).set fi (.int v) = (List.range (nf c)).map (fldV G (up1 h k fi v) k) := by
  refine List.ext_getElem? fun j => ?_
  rw [List.getElem?_set]
  by_cases e : fi = j
  · subst e
    rw [if_pos rfl, if_pos (by rw [List.length_map, List.length_range]; exact hf), fs_get hf]
    unfold fldV up1
    rw [hk.2.1, if_pos h0, upA_eq]
    simp [upd]
  · rw [if_neg e]
    simp only [List.getElem?_map]
    by_cases hj : j < nf c
    · rw [List.getElem?_range hj]
      show some (fldV G h k j) = some (fldV G (up1 h k fi v) k j)
      unfold fldV up1
      rw [upA_eq]
      unfold upd
      by_cases z : off (cls k) j = 0
      · rw [if_pos z, if_pos z, if_neg (fun q : j = fi => e q.symm)]
      · rw [if_neg z, if_neg z]
    · rw [List.getElem?_eq_none (by rw [List.length_range]; omega)]; rfl
section JR
variable {X : CX} {O : Oc} {cc : ByteArray} {nL : Nat} {own : String} {ret : Option FieldType} {pc : Nat} {L : List (Nat × Value)} {S : List Value} {h : Hp}
theorem J_iadd (hX : Ok X cc nL own ret) {x y : Int32} (hd : decode cc pc = .ok (.iadd, 1)) (kk : J X O (pc + 1) L (.int (x + y) :: S) h) : J X O pc L (.int y :: .int x :: S) h := by
  obtain ⟨G, p, e, s, m, args, below, meth, c, d⟩ := X
  intro H locs ls hw hl hS
  exact lv_iadd hX.1 hX.2.1 hd (kk H locs ls hw hl hS)
theorem J_isub (hX : Ok X cc nL own ret) {x y : Int32} (hd : decode cc pc = .ok (.isub, 1)) (kk : J X O (pc + 1) L (.int (x - y) :: S) h) : J X O pc L (.int y :: .int x :: S) h := by
  obtain ⟨G, p, e, s, m, args, below, meth, c, d⟩ := X
  intro H locs ls hw hl hS
  exact lv_isub hX.1 hX.2.1 hd (kk H locs ls hw hl hS)
theorem J_imul (hX : Ok X cc nL own ret) {x y : Int32} (hd : decode cc pc = .ok (.imul, 1)) (kk : J X O (pc + 1) L (.int (x * y) :: S) h) : J X O pc L (.int y :: .int x :: S) h := by
  obtain ⟨G, p, e, s, m, args, below, meth, c, d⟩ := X
  intro H locs ls hw hl hS
  exact lv_imul hX.1 hX.2.1 hd (kk H locs ls hw hl hS)
theorem J_iand (hX : Ok X cc nL own ret) {x y : Int32} (hd : decode cc pc = .ok (.iand, 1)) (kk : J X O (pc + 1) L (.int (x &&& y) :: S) h) : J X O pc L (.int y :: .int x :: S) h := by
  obtain ⟨G, p, e, s, m, args, below, meth, c, d⟩ := X
  intro H locs ls hw hl hS
  exact lv_iand hX.1 hX.2.1 hd (kk H locs ls hw hl hS)
theorem J_ior (hX : Ok X cc nL own ret) {x y : Int32} (hd : decode cc pc = .ok (.ior, 1)) (kk : J X O (pc + 1) L (.int (x ||| y) :: S) h) : J X O pc L (.int y :: .int x :: S) h := by
  obtain ⟨G, p, e, s, m, args, below, meth, c, d⟩ := X
  intro H locs ls hw hl hS
  exact lv_ior hX.1 hX.2.1 hd (kk H locs ls hw hl hS)
theorem J_ixor (hX : Ok X cc nL own ret) {x y : Int32} (hd : decode cc pc = .ok (.ixor, 1)) (kk : J X O (pc + 1) L (.int (x ^^^ y) :: S) h) : J X O pc L (.int y :: .int x :: S) h := by
  obtain ⟨G, p, e, s, m, args, below, meth, c, d⟩ := X
  intro H locs ls hw hl hS
  exact lv_ixor hX.1 hX.2.1 hd (kk H locs ls hw hl hS)
theorem J_ishl (hX : Ok X cc nL own ret) {x y : Int32} (hd : decode cc pc = .ok (.ishl, 1)) (kk : J X O (pc + 1) L (.int (shl x y) :: S) h) : J X O pc L (.int y :: .int x :: S) h := by
  obtain ⟨G, p, e, s, m, args, below, meth, c, d⟩ := X
  intro H locs ls hw hl hS
  exact lv_ishl hX.1 hX.2.1 hd (kk H locs ls hw hl hS)
theorem J_ishr (hX : Ok X cc nL own ret) {x y : Int32} (hd : decode cc pc = .ok (.ishr, 1)) (kk : J X O (pc + 1) L (.int (shr x y) :: S) h) : J X O pc L (.int y :: .int x :: S) h := by
  obtain ⟨G, p, e, s, m, args, below, meth, c, d⟩ := X
  intro H locs ls hw hl hS
  exact lv_ishr hX.1 hX.2.1 hd (kk H locs ls hw hl hS)
theorem J_idiv (hX : Ok X cc nL own ret) {x y : Int32} (hne : ¬ y = 0) (hd : decode cc pc = .ok (.idiv, 1)) (kk : J X O (pc + 1) L (.int (x / y) :: S) h) : J X O pc L (.int y :: .int x :: S) h := by
  obtain ⟨G, p, e, s, m, args, below, meth, c, d⟩ := X
  intro H locs ls hw hl hS
  exact lv_idiv hX.1 hX.2.1 hd hne (kk H locs ls hw hl hS)
theorem J_irem (hX : Ok X cc nL own ret) {x y : Int32} (hne : ¬ y = 0) (hd : decode cc pc = .ok (.irem, 1)) (kk : J X O (pc + 1) L (.int (rem x y) :: S) h) : J X O pc L (.int y :: .int x :: S) h := by
  obtain ⟨G, p, e, s, m, args, below, meth, c, d⟩ := X
  intro H locs ls hw hl hS
  exact lv_irem hX.1 hX.2.1 hd hne (kk H locs ls hw hl hS)
theorem J_iushr (hX : Ok X cc nL own ret) {x y : Int32} (hd : decode cc pc = .ok (.iushr, 1)) (kk : J X O (pc + 1) L (.int (ushr x y) :: S) h) : J X O pc L (.int y :: .int x :: S) h := by
  obtain ⟨G, p, e, s, m, args, below, meth, c, d⟩ := X
  intro H locs ls hw hl hS
  exact lv_iushr hX.1 hX.2.1 hd rfl (kk H locs ls hw hl hS)
theorem J_icmp_eqT (hX : Ok X cc nL own ret) {x y : Int32} {off : Int} (tgt : Nat) (hd : decode cc pc = .ok (.if_icmp .eq off, 3)) (ht : (pc : Int) + off = (tgt : Int)) (hc : x = y) (kk : J X O tgt L S h) : J X O pc L (.int y :: .int x :: S) h := by
  obtain ⟨G, p, e, s, m, args, below, meth, c, d⟩ := X
  intro H locs ls hw hl hS
  exact lv_icmp_eq hX.1 hX.2.1 hd ht (fun _ => kk H locs ls hw hl hS) (fun q => absurd hc q)
theorem J_icmp_eqF (hX : Ok X cc nL own ret) {x y : Int32} {off : Int} (tgt : Nat) (hd : decode cc pc = .ok (.if_icmp .eq off, 3)) (ht : (pc : Int) + off = (tgt : Int)) (hc : ¬ (x = y)) (kk : J X O (pc + 3) L S h) : J X O pc L (.int y :: .int x :: S) h := by
  obtain ⟨G, p, e, s, m, args, below, meth, c, d⟩ := X
  intro H locs ls hw hl hS
  exact lv_icmp_eq hX.1 hX.2.1 hd ht (fun q => absurd q hc) (fun _ => kk H locs ls hw hl hS)
theorem J_if_eqT (hX : Ok X cc nL own ret) {x : Int32} {off : Int} (tgt : Nat) (hd : decode cc pc = .ok (.ifCond .eq off, 3)) (ht : (pc : Int) + off = (tgt : Int)) (hc : x = 0) (kk : J X O tgt L S h) : J X O pc L (.int x :: S) h := by
  obtain ⟨G, p, e, s, m, args, below, meth, c, d⟩ := X
  intro H locs ls hw hl hS
  exact lv_if_eq hX.1 hX.2.1 hd ht (fun _ => kk H locs ls hw hl hS) (fun q => absurd hc q)
theorem J_if_eqF (hX : Ok X cc nL own ret) {x : Int32} {off : Int} (tgt : Nat) (hd : decode cc pc = .ok (.ifCond .eq off, 3)) (ht : (pc : Int) + off = (tgt : Int)) (hc : ¬ (x = 0)) (kk : J X O (pc + 3) L S h) : J X O pc L (.int x :: S) h := by
  obtain ⟨G, p, e, s, m, args, below, meth, c, d⟩ := X
  intro H locs ls hw hl hS
  exact lv_if_eq hX.1 hX.2.1 hd ht (fun q => absurd q hc) (fun _ => kk H locs ls hw hl hS)
theorem J_icmp_neT (hX : Ok X cc nL own ret) {x y : Int32} {off : Int} (tgt : Nat) (hd : decode cc pc = .ok (.if_icmp .ne off, 3)) (ht : (pc : Int) + off = (tgt : Int)) (hc : ¬ (x = y)) (kk : J X O tgt L S h) : J X O pc L (.int y :: .int x :: S) h := by
  obtain ⟨G, p, e, s, m, args, below, meth, c, d⟩ := X
  intro H locs ls hw hl hS
  exact lv_icmp_ne hX.1 hX.2.1 hd ht (fun _ => kk H locs ls hw hl hS) (fun q => absurd q hc)
theorem J_icmp_neF (hX : Ok X cc nL own ret) {x y : Int32} {off : Int} (tgt : Nat) (hd : decode cc pc = .ok (.if_icmp .ne off, 3)) (ht : (pc : Int) + off = (tgt : Int)) (hc : x = y) (kk : J X O (pc + 3) L S h) : J X O pc L (.int y :: .int x :: S) h := by
  obtain ⟨G, p, e, s, m, args, below, meth, c, d⟩ := X
  intro H locs ls hw hl hS
  exact lv_icmp_ne hX.1 hX.2.1 hd ht (fun q => absurd hc q) (fun _ => kk H locs ls hw hl hS)
theorem J_if_neT (hX : Ok X cc nL own ret) {x : Int32} {off : Int} (tgt : Nat) (hd : decode cc pc = .ok (.ifCond .ne off, 3)) (ht : (pc : Int) + off = (tgt : Int)) (hc : ¬ (x = 0)) (kk : J X O tgt L S h) : J X O pc L (.int x :: S) h := by
  obtain ⟨G, p, e, s, m, args, below, meth, c, d⟩ := X
  intro H locs ls hw hl hS
  exact lv_if_ne hX.1 hX.2.1 hd ht (fun _ => kk H locs ls hw hl hS) (fun q => absurd q hc)
theorem J_if_neF (hX : Ok X cc nL own ret) {x : Int32} {off : Int} (tgt : Nat) (hd : decode cc pc = .ok (.ifCond .ne off, 3)) (ht : (pc : Int) + off = (tgt : Int)) (hc : x = 0) (kk : J X O (pc + 3) L S h) : J X O pc L (.int x :: S) h := by
  obtain ⟨G, p, e, s, m, args, below, meth, c, d⟩ := X
  intro H locs ls hw hl hS
  exact lv_if_ne hX.1 hX.2.1 hd ht (fun q => absurd hc q) (fun _ => kk H locs ls hw hl hS)
theorem J_icmp_ltT (hX : Ok X cc nL own ret) {x y : Int32} {off : Int} (tgt : Nat) (hd : decode cc pc = .ok (.if_icmp .lt off, 3)) (ht : (pc : Int) + off = (tgt : Int)) (hc : x < y) (kk : J X O tgt L S h) : J X O pc L (.int y :: .int x :: S) h := by
  obtain ⟨G, p, e, s, m, args, below, meth, c, d⟩ := X
  intro H locs ls hw hl hS
  exact lv_icmp_lt hX.1 hX.2.1 hd ht (fun _ => kk H locs ls hw hl hS) (fun q => absurd hc q)
theorem J_icmp_ltF (hX : Ok X cc nL own ret) {x y : Int32} {off : Int} (tgt : Nat) (hd : decode cc pc = .ok (.if_icmp .lt off, 3)) (ht : (pc : Int) + off = (tgt : Int)) (hc : ¬ (x < y)) (kk : J X O (pc + 3) L S h) : J X O pc L (.int y :: .int x :: S) h := by
  obtain ⟨G, p, e, s, m, args, below, meth, c, d⟩ := X
  intro H locs ls hw hl hS
  exact lv_icmp_lt hX.1 hX.2.1 hd ht (fun q => absurd q hc) (fun _ => kk H locs ls hw hl hS)
theorem J_if_ltT (hX : Ok X cc nL own ret) {x : Int32} {off : Int} (tgt : Nat) (hd : decode cc pc = .ok (.ifCond .lt off, 3)) (ht : (pc : Int) + off = (tgt : Int)) (hc : x < 0) (kk : J X O tgt L S h) : J X O pc L (.int x :: S) h := by
  obtain ⟨G, p, e, s, m, args, below, meth, c, d⟩ := X
  intro H locs ls hw hl hS
  exact lv_if_lt hX.1 hX.2.1 hd ht (fun _ => kk H locs ls hw hl hS) (fun q => absurd hc q)
theorem J_if_ltF (hX : Ok X cc nL own ret) {x : Int32} {off : Int} (tgt : Nat) (hd : decode cc pc = .ok (.ifCond .lt off, 3)) (ht : (pc : Int) + off = (tgt : Int)) (hc : ¬ (x < 0)) (kk : J X O (pc + 3) L S h) : J X O pc L (.int x :: S) h := by
  obtain ⟨G, p, e, s, m, args, below, meth, c, d⟩ := X
  intro H locs ls hw hl hS
  exact lv_if_lt hX.1 hX.2.1 hd ht (fun q => absurd q hc) (fun _ => kk H locs ls hw hl hS)
theorem J_icmp_geT (hX : Ok X cc nL own ret) {x y : Int32} {off : Int} (tgt : Nat) (hd : decode cc pc = .ok (.if_icmp .ge off, 3)) (ht : (pc : Int) + off = (tgt : Int)) (hc : ¬ (x < y)) (kk : J X O tgt L S h) : J X O pc L (.int y :: .int x :: S) h := by
  obtain ⟨G, p, e, s, m, args, below, meth, c, d⟩ := X
  intro H locs ls hw hl hS
  exact lv_icmp_ge hX.1 hX.2.1 hd ht (fun _ => kk H locs ls hw hl hS) (fun q => absurd (Int32.not_lt.mp hc) q)
theorem J_icmp_geF (hX : Ok X cc nL own ret) {x y : Int32} {off : Int} (tgt : Nat) (hd : decode cc pc = .ok (.if_icmp .ge off, 3)) (ht : (pc : Int) + off = (tgt : Int)) (hc : x < y) (kk : J X O (pc + 3) L S h) : J X O pc L (.int y :: .int x :: S) h := by
  obtain ⟨G, p, e, s, m, args, below, meth, c, d⟩ := X
  intro H locs ls hw hl hS
  exact lv_icmp_ge hX.1 hX.2.1 hd ht (fun q => absurd q (Int32.not_le.mpr hc)) (fun _ => kk H locs ls hw hl hS)
theorem J_if_geT (hX : Ok X cc nL own ret) {x : Int32} {off : Int} (tgt : Nat) (hd : decode cc pc = .ok (.ifCond .ge off, 3)) (ht : (pc : Int) + off = (tgt : Int)) (hc : ¬ (x < 0)) (kk : J X O tgt L S h) : J X O pc L (.int x :: S) h := by
  obtain ⟨G, p, e, s, m, args, below, meth, c, d⟩ := X
  intro H locs ls hw hl hS
  exact lv_if_ge hX.1 hX.2.1 hd ht (fun _ => kk H locs ls hw hl hS) (fun q => absurd (Int32.not_lt.mp hc) q)
theorem J_if_geF (hX : Ok X cc nL own ret) {x : Int32} {off : Int} (tgt : Nat) (hd : decode cc pc = .ok (.ifCond .ge off, 3)) (ht : (pc : Int) + off = (tgt : Int)) (hc : x < 0) (kk : J X O (pc + 3) L S h) : J X O pc L (.int x :: S) h := by
  obtain ⟨G, p, e, s, m, args, below, meth, c, d⟩ := X
  intro H locs ls hw hl hS
  exact lv_if_ge hX.1 hX.2.1 hd ht (fun q => absurd q (Int32.not_le.mpr hc)) (fun _ => kk H locs ls hw hl hS)
theorem J_icmp_gtT (hX : Ok X cc nL own ret) {x y : Int32} {off : Int} (tgt : Nat) (hd : decode cc pc = .ok (.if_icmp .gt off, 3)) (ht : (pc : Int) + off = (tgt : Int)) (hc : y < x) (kk : J X O tgt L S h) : J X O pc L (.int y :: .int x :: S) h := by
  obtain ⟨G, p, e, s, m, args, below, meth, c, d⟩ := X
  intro H locs ls hw hl hS
  exact lv_icmp_gt hX.1 hX.2.1 hd ht (fun _ => kk H locs ls hw hl hS) (fun q => absurd hc q)
theorem J_icmp_gtF (hX : Ok X cc nL own ret) {x y : Int32} {off : Int} (tgt : Nat) (hd : decode cc pc = .ok (.if_icmp .gt off, 3)) (ht : (pc : Int) + off = (tgt : Int)) (hc : ¬ (y < x)) (kk : J X O (pc + 3) L S h) : J X O pc L (.int y :: .int x :: S) h := by
  obtain ⟨G, p, e, s, m, args, below, meth, c, d⟩ := X
  intro H locs ls hw hl hS
  exact lv_icmp_gt hX.1 hX.2.1 hd ht (fun q => absurd q hc) (fun _ => kk H locs ls hw hl hS)
theorem J_if_gtT (hX : Ok X cc nL own ret) {x : Int32} {off : Int} (tgt : Nat) (hd : decode cc pc = .ok (.ifCond .gt off, 3)) (ht : (pc : Int) + off = (tgt : Int)) (hc : 0 < x) (kk : J X O tgt L S h) : J X O pc L (.int x :: S) h := by
  obtain ⟨G, p, e, s, m, args, below, meth, c, d⟩ := X
  intro H locs ls hw hl hS
  exact lv_if_gt hX.1 hX.2.1 hd ht (fun _ => kk H locs ls hw hl hS) (fun q => absurd hc q)
theorem J_if_gtF (hX : Ok X cc nL own ret) {x : Int32} {off : Int} (tgt : Nat) (hd : decode cc pc = .ok (.ifCond .gt off, 3)) (ht : (pc : Int) + off = (tgt : Int)) (hc : ¬ (0 < x)) (kk : J X O (pc + 3) L S h) : J X O pc L (.int x :: S) h := by
  obtain ⟨G, p, e, s, m, args, below, meth, c, d⟩ := X
  intro H locs ls hw hl hS
  exact lv_if_gt hX.1 hX.2.1 hd ht (fun q => absurd q hc) (fun _ => kk H locs ls hw hl hS)
theorem J_icmp_leT (hX : Ok X cc nL own ret) {x y : Int32} {off : Int} (tgt : Nat) (hd : decode cc pc = .ok (.if_icmp .le off, 3)) (ht : (pc : Int) + off = (tgt : Int)) (hc : ¬ (y < x)) (kk : J X O tgt L S h) : J X O pc L (.int y :: .int x :: S) h := by
  obtain ⟨G, p, e, s, m, args, below, meth, c, d⟩ := X
  intro H locs ls hw hl hS
  exact lv_icmp_le hX.1 hX.2.1 hd ht (fun _ => kk H locs ls hw hl hS) (fun q => absurd (Int32.not_lt.mp hc) q)
theorem J_icmp_leF (hX : Ok X cc nL own ret) {x y : Int32} {off : Int} (tgt : Nat) (hd : decode cc pc = .ok (.if_icmp .le off, 3)) (ht : (pc : Int) + off = (tgt : Int)) (hc : y < x) (kk : J X O (pc + 3) L S h) : J X O pc L (.int y :: .int x :: S) h := by
  obtain ⟨G, p, e, s, m, args, below, meth, c, d⟩ := X
  intro H locs ls hw hl hS
  exact lv_icmp_le hX.1 hX.2.1 hd ht (fun q => absurd q (Int32.not_le.mpr hc)) (fun _ => kk H locs ls hw hl hS)
theorem J_if_leT (hX : Ok X cc nL own ret) {x : Int32} {off : Int} (tgt : Nat) (hd : decode cc pc = .ok (.ifCond .le off, 3)) (ht : (pc : Int) + off = (tgt : Int)) (hc : ¬ (0 < x)) (kk : J X O tgt L S h) : J X O pc L (.int x :: S) h := by
  obtain ⟨G, p, e, s, m, args, below, meth, c, d⟩ := X
  intro H locs ls hw hl hS
  exact lv_if_le hX.1 hX.2.1 hd ht (fun _ => kk H locs ls hw hl hS) (fun q => absurd (Int32.not_lt.mp hc) q)
theorem J_if_leF (hX : Ok X cc nL own ret) {x : Int32} {off : Int} (tgt : Nat) (hd : decode cc pc = .ok (.ifCond .le off, 3)) (ht : (pc : Int) + off = (tgt : Int)) (hc : 0 < x) (kk : J X O (pc + 3) L S h) : J X O pc L (.int x :: S) h := by
  obtain ⟨G, p, e, s, m, args, below, meth, c, d⟩ := X
  intro H locs ls hw hl hS
  exact lv_if_le hX.1 hX.2.1 hd ht (fun q => absurd q (Int32.not_le.mpr hc)) (fun _ => kk H locs ls hw hl hS)
theorem J_ineg (hX : Ok X cc nL own ret) {x : Int32} (hd : decode cc pc = .ok (.ineg, 1)) (kk : J X O (pc + 1) L (.int (-x) :: S) h) : J X O pc L (.int x :: S) h := by
  obtain ⟨G, p, e, s, m, args, below, meth, c, d⟩ := X
  intro H locs ls hw hl hS
  exact lv_ineg hX.1 hX.2.1 hd (kk H locs ls hw hl hS)
theorem J_iconst (hX : Ok X cc nL own ret) {n : Int} (v : Int32) (hd : decode cc pc = .ok (.iconst n, 1)) (hv : Int32.ofInt n = v) (kk : J X O (pc + 1) L (.int v :: S) h) : J X O pc L S h := by
  obtain ⟨G, p, e, s, m, args, below, meth, c, d⟩ := X
  intro H locs ls hw hl hS
  exact lv_iconst hX.1 hX.2.1 hd hv (kk H locs ls hw hl hS)
theorem J_bipush (hX : Ok X cc nL own ret) {n : Int} (v : Int32) (hd : decode cc pc = .ok (.bipush n, 2)) (hv : (Int8.ofInt n).toInt32 = v) (kk : J X O (pc + 2) L (.int v :: S) h) : J X O pc L S h := by
  obtain ⟨G, p, e, s, m, args, below, meth, c, d⟩ := X
  intro H locs ls hw hl hS
  exact lv_bipush hX.1 hX.2.1 hd hv (kk H locs ls hw hl hS)
theorem J_sipush (hX : Ok X cc nL own ret) {n : Int} (v : Int32) (hd : decode cc pc = .ok (.sipush n, 3)) (hv : (Int16.ofInt n).toInt32 = v) (kk : J X O (pc + 3) L (.int v :: S) h) : J X O pc L S h := by
  obtain ⟨G, p, e, s, m, args, below, meth, c, d⟩ := X
  intro H locs ls hw hl hS
  exact lv_sipush hX.1 hX.2.1 hd hv (kk H locs ls hw hl hS)
theorem J_lconst (hX : Ok X cc nL own ret) {n : Fin 2} (v : Int64) (hd : decode cc pc = .ok (.lconst n, 1)) (hv : Int64.ofNat (n : Nat) = v) (kk : J X O (pc + 1) L (.long v :: S) h) : J X O pc L S h := by
  obtain ⟨G, p, e, s, m, args, below, meth, c, d⟩ := X
  intro H locs ls hw hl hS
  exact lv_lconst hX.1 hX.2.1 hd hv (kk H locs ls hw hl hS)
theorem J_ldc (hX : Ok X cc nL own ret) {idx : Nat} (v : Int32) (hd : decode cc pc = .ok (.ldc idx, 2)) (hw : Cond.constant own idx v ∈ TB) (kk : J X O (pc + 2) L (.int v :: S) h) : J X O pc L S h := by
  obtain ⟨G, p, e, s, m, args, below, meth, c, d⟩ := X
  intro H locs ls hwd hl hS
  exact lv_ldc hX.1 hX.2.1 hX.2.2.2.1 (hX.2.2.2.2.1 _ hw) hd (kk H locs ls hwd hl hS)
theorem J_ldcw (hX : Ok X cc nL own ret) {idx : Nat} (v : Int32) (hd : decode cc pc = .ok (.ldc_w idx, 3)) (hw : Cond.constant own idx v ∈ TB) (kk : J X O (pc + 3) L (.int v :: S) h) : J X O pc L S h := by
  obtain ⟨G, p, e, s, m, args, below, meth, c, d⟩ := X
  intro H locs ls hwd hl hS
  exact lv_ldcw hX.1 hX.2.1 hX.2.2.2.1 (hX.2.2.2.2.1 _ hw) hd (kk H locs ls hwd hl hS)
theorem J_iload (hX : Ok X cc nL own ret) {i : Nat} {x : Int32} (k : Nat) (hd : decode cc pc = .ok (.iload i, 2)) (hk : L[k]? = some (i, .int x)) (kk : J X O (pc + 2) L (.int x :: S) h) : J X O pc L S h := by
  obtain ⟨G, p, e, s, m, args, below, meth, c, d⟩ := X
  intro H locs ls hw hl hS
  exact lv_iload hX.1 hX.2.1 hd (lv_at hl k (cL_get hk)) (kk H locs ls hw hl hS)
theorem J_iload_n (hX : Ok X cc nL own ret) {f : Fin 4} {i : Nat} {x : Int32} (k : Nat) (hd : decode cc pc = .ok (.iload_n f, 1)) (hi : (f : Nat) = i) (hk : L[k]? = some (i, .int x)) (kk : J X O (pc + 1) L (.int x :: S) h) : J X O pc L S h := by
  obtain ⟨G, p, e, s, m, args, below, meth, c, d⟩ := X
  intro H locs ls hw hl hS
  exact lv_iload_n hX.1 hX.2.1 hd hi (lv_at hl k (cL_get hk)) (kk H locs ls hw hl hS)
theorem J_aload (hX : Ok X cc nL own ret) {i : Nat} {x : Nat} (k : Nat) (hd : decode cc pc = .ok (.aload i, 2)) (hk : L[k]? = some (i, .ref x)) (kk : J X O (pc + 2) L (.ref x :: S) h) : J X O pc L S h := by
  obtain ⟨G, p, e, s, m, args, below, meth, c, d⟩ := X
  intro H locs ls hw hl hS
  exact lv_aload hX.1 hX.2.1 hd (lv_at hl k (cL_get hk)) (kk H locs ls hw hl hS)
theorem J_aload_n (hX : Ok X cc nL own ret) {f : Fin 4} {i : Nat} {x : Nat} (k : Nat) (hd : decode cc pc = .ok (.aload_n f, 1)) (hi : (f : Nat) = i) (hk : L[k]? = some (i, .ref x)) (kk : J X O (pc + 1) L (.ref x :: S) h) : J X O pc L S h := by
  obtain ⟨G, p, e, s, m, args, below, meth, c, d⟩ := X
  intro H locs ls hw hl hS
  exact lv_aload_n hX.1 hX.2.1 hd hi (lv_at hl k (cL_get hk)) (kk H locs ls hw hl hS)
theorem J_istore (hX : Ok X cc nL own ret) {i : Nat} {x : Int32} (L' : List (Nat × Value)) (hd : decode cc pc = .ok (.istore i, 2)) (hn : Nat.blt i nL = true) (hl' : (i, Value.int x) :: L.filter (fun q => !(q.1 == i) && !(q.1 + 1 == i && q.2.category == 2)) = L') (kk : J X O (pc + 2) L' S h) : J X O pc L (.int x :: S) h := by
  obtain ⟨G, p, e, s, m, args, below, meth, c, d⟩ := X
  intro H locs ls hw hl hS
  subst hl'
  exact lv_istore hX.1 hX.2.1 hd hl (by rw [hX.2.2.1]; exact Nat.blt_eq.mp hn) rfl (fun ls' h9 => kk H locs ls' hw (by rw [cL_filter] at h9; exact h9) hS)
theorem J_istore_n (hX : Ok X cc nL own ret) {f : Fin 4} {i : Nat} {x : Int32} (L' : List (Nat × Value)) (hd : decode cc pc = .ok (.istore_n f, 1)) (hi : (f : Nat) = i) (hn : Nat.blt i nL = true) (hl' : (i, Value.int x) :: L.filter (fun q => !(q.1 == i) && !(q.1 + 1 == i && q.2.category == 2)) = L') (kk : J X O (pc + 1) L' S h) : J X O pc L (.int x :: S) h := by
  obtain ⟨G, p, e, s, m, args, below, meth, c, d⟩ := X
  intro H locs ls hw hl hS
  subst hl'
  exact lv_istore_n hX.1 hX.2.1 hd hi hl (by rw [hX.2.2.1]; exact Nat.blt_eq.mp hn) rfl (fun ls' h9 => kk H locs ls' hw (by rw [cL_filter] at h9; exact h9) hS)
theorem J_astore (hX : Ok X cc nL own ret) {i : Nat} {x : Nat} (L' : List (Nat × Value)) (hd : decode cc pc = .ok (.astore i, 2)) (hn : Nat.blt i nL = true) (hl' : (i, Value.ref x) :: L.filter (fun q => !(q.1 == i) && !(q.1 + 1 == i && q.2.category == 2)) = L') (kk : J X O (pc + 2) L' S h) : J X O pc L (.ref x :: S) h := by
  obtain ⟨G, p, e, s, m, args, below, meth, c, d⟩ := X
  intro H locs ls hw hl hS
  subst hl'
  exact lv_astore hX.1 hX.2.1 hd hl (by rw [hX.2.2.1]; exact Nat.blt_eq.mp hn) rfl (fun ls' h9 => kk H locs ls' hw (by rw [cL_filter] at h9; exact h9) hS)
theorem J_astore_n (hX : Ok X cc nL own ret) {f : Fin 4} {i : Nat} {x : Nat} (L' : List (Nat × Value)) (hd : decode cc pc = .ok (.astore_n f, 1)) (hi : (f : Nat) = i) (hn : Nat.blt i nL = true) (hl' : (i, Value.ref x) :: L.filter (fun q => !(q.1 == i) && !(q.1 + 1 == i && q.2.category == 2)) = L') (kk : J X O (pc + 1) L' S h) : J X O pc L (.ref x :: S) h := by
  obtain ⟨G, p, e, s, m, args, below, meth, c, d⟩ := X
  intro H locs ls hw hl hS
  subst hl'
  exact lv_astore_n hX.1 hX.2.1 hd hi hl (by rw [hX.2.2.1]; exact Nat.blt_eq.mp hn) rfl (fun ls' h9 => kk H locs ls' hw (by rw [cL_filter] at h9; exact h9) hS)
theorem J_iinc (hX : Ok X cc nL own ret) {i : Nat} {n : Int} {x : Int32} (v : Int32) (k : Nat) (L' : List (Nat × Value)) (hd : decode cc pc = .ok (.iinc i n, 3)) (hk : L[k]? = some (i, .int x)) (hv : x + Int32.ofInt n = v) (hn : Nat.blt i nL = true) (hl' : (i, Value.int v) :: L.filter (fun q => !(q.1 == i) && !(q.1 + 1 == i && q.2.category == 2)) = L') (kk : J X O (pc + 3) L' S h) : J X O pc L S h := by
  obtain ⟨G, p, e, s, m, args, below, meth, c, d⟩ := X
  intro H locs ls hw hl hS
  subst hl'
  exact lv_iinc hX.1 hX.2.1 hd hl (cL_get hk) hv (by rw [hX.2.2.1]; exact Nat.blt_eq.mp hn) rfl (fun ls' h9 => kk H locs ls' hw (by rw [cL_filter] at h9; exact h9) hS)
theorem J_goto (hX : Ok X cc nL own ret) {off : Int} (tgt : Nat) (hd : decode cc pc = .ok (.goto off, 3)) (ht : (pc : Int) + off = (tgt : Int)) (kk : J X O tgt L S h) : J X O pc L S h := by
  obtain ⟨G, p, e, s, m, args, below, meth, c, d⟩ := X
  intro H locs ls hw hl hS
  exact lv_goto hX.1 hX.2.1 hd ht (kk H locs ls hw hl hS)
theorem J_dup (hX : Ok X cc nL own ret) {v : Value} (hd : decode cc pc = .ok (.dup, 1)) (hv : v.category = 1) (kk : J X O (pc + 1) L (v :: v :: S) h) : J X O pc L (v :: S) h := by
  obtain ⟨G, p, e, s, m, args, below, meth, c, d⟩ := X
  intro H locs ls hw hl hS
  exact lv_dup hX.1 hX.2.1 hd (by rw [cv_cat]; exact hv) (kk H locs ls hw hl hS)
theorem J_dup2 (hX : Ok X cc nL own ret) {v w : Value} (hd : decode cc pc = .ok (.dup2, 1)) (hv : v.category = 1) (hw' : w.category = 1) (kk : J X O (pc + 1) L (v :: w :: v :: w :: S) h) : J X O pc L (v :: w :: S) h := by
  obtain ⟨G, p, e, s, m, args, below, meth, c, d⟩ := X
  intro H locs ls hw hl hS
  exact lv_dup2_11 hX.1 hX.2.1 hd (by rw [cv_cat]; exact hv) (by rw [cv_cat]; exact hw') (kk H locs ls hw hl hS)
theorem J_pop (hX : Ok X cc nL own ret) {v : Value} (hd : decode cc pc = .ok (.pop, 1)) (hv : v.category = 1) (kk : J X O (pc + 1) L S h) : J X O pc L (v :: S) h := by
  obtain ⟨G, p, e, s, m, args, below, meth, c, d⟩ := X
  intro H locs ls hw hl hS
  exact lv_pop hX.1 hX.2.1 hd (by rw [cv_cat]; exact hv) (kk H locs ls hw hl hS)
theorem J_i2b (hX : Ok X cc nL own ret) {x : Int32} (hd : decode cc pc = .ok (.i2b, 1)) (kk : J X O (pc + 1) L (.int x.toInt8.toInt32 :: S) h) : J X O pc L (.int x :: S) h := by
  obtain ⟨G, p, e, s, m, args, below, meth, c, d⟩ := X
  intro H locs ls hw hl hS
  exact lv_i2b hX.1 hX.2.1 hd rfl (kk H locs ls hw hl hS)
theorem J_i2l (hX : Ok X cc nL own ret) {x : Int32} (hd : decode cc pc = .ok (.i2l, 1)) (kk : J X O (pc + 1) L (.long x.toInt64 :: S) h) : J X O pc L (.int x :: S) h := by
  obtain ⟨G, p, e, s, m, args, below, meth, c, d⟩ := X
  intro H locs ls hw hl hS
  exact lv_i2l hX.1 hX.2.1 hd rfl (kk H locs ls hw hl hS)
theorem J_lcmp (hX : Ok X cc nL own ret) {x y : Int64} (hd : decode cc pc = .ok (.lcmp, 1)) (kk : J X O (pc + 1) L (.int (lg_cmp x y) :: S) h) : J X O pc L (.long y :: .long x :: S) h := by
  obtain ⟨G, p, e, s, m, args, below, meth, c, d⟩ := X
  intro H locs ls hw hl hS
  exact W.lcmp hX.1 hX.2.1 hd (kk H locs ls hw hl hS)
theorem J_sub (ks : List Nat) (L' : List (Nat × Value)) (hL : lv_pick L ks = L') (kk : J X O pc L' S h) : J X O pc L S h := by
  obtain ⟨G, p, e, s, m, args, below, meth, c, d⟩ := X
  intro H locs ls hw hl hS
  refine kk H locs ls hw (lv_sub hl ks ?_) hS
  subst hL
  simp only [lv_pick, List.getElem?_map, List.map_filterMap]
theorem J_eq {S' : List Value} {h' : Hp} (e1 : S = S') (e2 : h = h') (kk : J X O pc L S' h') : J X O pc L S h := by subst e1; subst e2; exact kk
/-- fields -/
theorem J_getI (hX : Ok X cc nL own ret) {idx ci fi k : Nat} (hd : decode cc pc = .ok (.getfield idx, 3)) (hf : FL own idx ci fi) (ho : Ob k ci) (h0 : off ci fi = 0) (kk : J X O (pc + 3) L (.int (h k fi) :: S) h) : J X O pc L (.ref k :: S) h := by
  obtain ⟨G, p, e, s, m, args, below, meth, c, d⟩ := X
  obtain ⟨C, T, N, h1, h2, h3, h4⟩ := hf
  intro H locs ls hw hl hS
  obtain ⟨i, i1, i2⟩ := Wd_ob hw ho
  have hv : ((List.range (nf ci)).map (fldV G h k))[fi]? = some (.int (h k fi)) := by
    rw [fs_get (by rw [← h3]; exact h2)]; unfold fldV; rw [ho.2.1, if_pos h0]
  exact va_get (D := G.2.2.2.1) (cl := vwCl) (tys := tysG G) (C := C) (T := T) (N := N) hX.1 hX.2.1 hX.2.2.2.2.1 (u_wsTB h1) hX.2.2.2.1 (va_K.moved hX.2.2.2.2.2.2.2.1.alike hX.2.2.2.2.2.2.2.2.2.2.1.2.2.1) hw.2.2 i i2 h1 fi h2 (hX.2.2.2.2.1 _ h4) (fun _ q => q) hv hd (kk H locs ls hw hl hS)
theorem J_getR (hX : Ok X cc nL own ret) {idx ci fi k : Nat} (t : Nat) (hd : decode cc pc = .ok (.getfield idx, 3)) (hf : FL own idx ci fi) (ho : Ob k ci) (h0 : Nat.blt 0 (off ci fi) = true) (ht : k + off ci fi = t) (kk : J X O (pc + 3) L (.ref t :: S) h) : J X O pc L (.ref k :: S) h := by
  obtain ⟨G, p, e, s, m, args, below, meth, c, d⟩ := X
  obtain ⟨C, T, N, h1, h2, h3, h4⟩ := hf
  intro H locs ls hw hl hS
  obtain ⟨i, i1, i2⟩ := Wd_ob hw ho
  have hv : ((List.range (nf ci)).map (fldV G h k))[fi]? = some (.ref (G.2.2.1 t)) := by
    rw [fs_get (by rw [← h3]; exact h2)]; unfold fldV; rw [ho.2.1, if_neg (Nat.pos_iff_ne_zero.mp (Nat.blt_eq.mp h0)), ht]
  exact va_get (D := G.2.2.2.1) (cl := vwCl) (tys := tysG G) (C := C) (T := T) (N := N) hX.1 hX.2.1 hX.2.2.2.2.1 (u_wsTB h1) hX.2.2.2.1 (va_K.moved hX.2.2.2.2.2.2.2.1.alike hX.2.2.2.2.2.2.2.2.2.2.1.2.2.1) hw.2.2 i i2 h1 fi h2 (hX.2.2.2.2.1 _ h4) (fun _ q => q) hv hd (kk H locs ls hw hl hS)
/-- an int field that is not final, its type told -/
def FW (ci fi : Nat) (ty : FieldType) : Prop := ∃ (C : String) (T : u_T) (N : Nat), vwCl[ci]? = some (C, T, N) ∧ (T fi).2.2.2 = false ∧ parseFieldDescriptor (T fi).2.2.1 = some ty
theorem J_putI (hX : Ok X cc nL own ret) {idx ci fi k : Nat} {x : Int32} {ty : FieldType} (hd : decode cc pc = .ok (.putfield idx, 3)) (hf : FL own idx ci fi) (hw0 : FW ci fi ty) (ho : Ob k ci) (h0 : off ci fi = 0) (hn : narrow ty (.int x) = .int x) (hfit : fits ty (.int x) = true) (kk : J X O (pc + 3) L S (up1 h k fi x)) : J X O pc L (.int x :: .ref k :: S) h := by
  obtain ⟨G, p, e, s, m, args, below, meth, c, d⟩ := X
  obtain ⟨C, T, N, h1, h2, h3, h4⟩ := hf
  obtain ⟨C', T', N', g1, g2, g3⟩ := hw0
  obtain ⟨rfl, rfl, rfl⟩ : C = C' ∧ T = T' ∧ N = N' := by
    have q := h1.symm.trans g1
    simp only [Option.some.injEq, Prod.mk.injEq] at q
    exact q
  intro H locs ls hw hl hS
  obtain ⟨i, i1, i2⟩ := Wd_ob hw ho
  have hfi : fi < nf ci := by rw [← h3]; exact h2
  refine va_put (D := G.2.2.2.1) (cl := vwCl) (tys := tysG G) (C := C) (T := T) (N := N) (A := bs G) (v := .int x) hX.1 hX.2.1 hX.2.2.2.2.1 (u_wsTB h1) _ (u_tyTB h1) (u_nmTB h1) hX.2.2.2.1 (va_K.moved hX.2.2.2.2.2.2.2.1.alike hX.2.2.2.2.2.2.2.2.2.2.1.2.2.1) hw.2.2 (hX.2.2.2.2.2.2.2.2.2.2.1.2.1 h) hS i i2 h1 fi h2 (hX.2.2.2.2.1 _ h4) (fun _ q => q) g2 g3 hn hfit (by rw [List.length_map, List.length_range]; exact hfi) hd (fun H1 locs1 hP hD hS1 => ?_)
  rw [fs_set ho hfi h0, wl_set (h' := up1 h k fi x) i1 (by unfold cellE; rw [if_pos (by rw [ho.2.1]; exact ho.2.2), ho.2.1]) (fun k' e => cellE_ne e)] at hP
  exact kk H1 locs1 ls (Wd_put hX.2.2.2.2.2.2.2.2.1 hX.2.2.2.2.2.2.2.2.2.1 hP hS1) hl hS1
/-- arrays -/
abbrev ix (i : Int32) (n : Nat) : Prop := ¬ i < 0 ∧ i.toNatClampNeg < n
theorem ix_in {i : Int32} {n : Nat} (h : ix i n) : vp_in i n := fun q => q.elim h.1 (fun q => absurd h.2 (Nat.not_lt.mpr q))
theorem J_ald (hX : Ok X cc nL own ret) {k t n : Nat} {i : Int32} (j : Nat) {ins : Instr} (hd : decode cc pc = .ok (ins, 1)) (ha : Ar k t n) (ht : (t = 0 ∧ ins = .iaload) ∨ (t = 1 ∧ ins = .baload) ∨ (t = 2 ∧ ins = .baload)) (hi : ix i n) (hj : i.toNatClampNeg = j) (kk : J X O (pc + 1) L (.int (h k j) :: S) h) : J X O pc L (.int i :: .ref k :: S) h := by
  subst hj
  obtain ⟨G, p, e, s, m, args, below, meth, c, d⟩ := X
  intro H locs ls hw hl hS
  have hK := va_K.moved hX.2.2.2.2.2.2.2.1.alike hX.2.2.2.2.2.2.2.2.2.2.1.2.2.1
  rcases ht with ⟨rfl, rfl⟩ | ⟨rfl, rfl⟩ | ⟨rfl, rfl⟩
  · obtain ⟨q, q1, q2⟩ := Wd_ar hw ha (by decide) (by decide)
    exact va_iald hX.1 hX.2.1 hK hw.2.2 q 0 q2 rfl (ix_in hi) hd (kk H locs ls hw hl hS)
  · obtain ⟨q, q1, q2⟩ := Wd_ar hw ha (by decide) (by decide)
    exact va_bald hX.1 hX.2.1 hK hw.2.2 q 1 q2 rfl (ix_in hi) hd (kk H locs ls hw hl hS)
  · obtain ⟨q, q1, q2⟩ := Wd_ar hw ha (by decide) (by decide)
    exact va_zald hX.1 hX.2.1 hK hw.2.2 q 2 q2 rfl (ix_in hi) hd (kk H locs ls hw hl hS)
theorem J_ast (hX : Ok X cc nL own ret) {k t n : Nat} {i x : Int32} (j : Nat) (y : Int32) {ins : Instr} (hd : decode cc pc = .ok (ins, 1)) (ha : Ar k t n) (ht : (t = 0 ∧ ins = .iastore ∧ y = x) ∨ (t = 1 ∧ ins = .bastore ∧ y = vp_nar .byte x) ∨ (t = 2 ∧ ins = .bastore ∧ y = vp_nar .boolean x)) (hi : ix i n) (hj : i.toNatClampNeg = j) (kk : J X O (pc + 1) L S (up1 h k j y)) : J X O pc L (.int x :: .int i :: .ref k :: S) h := by
  subst hj
  obtain ⟨G, p, e, s, m, args, below, meth, c, d⟩ := X
  intro H locs ls hw hl hS
  have hK := va_K.moved hX.2.2.2.2.2.2.2.1.alike hX.2.2.2.2.2.2.2.2.2.2.1.2.2.1
  have hD := hX.2.2.2.2.2.2.2.2.2.2.1.2.1 h
  rcases ht with ⟨rfl, rfl, rfl⟩ | ⟨rfl, rfl, rfl⟩ | ⟨rfl, rfl, rfl⟩
  · obtain ⟨q, q1, q2⟩ := Wd_ar hw ha (by decide) (by decide)
    refine va_iast hX.1 hX.2.1 hK hw.2.2 hD hS q 0 q2 rfl (ix_in hi) hd (fun H1 locs1 hP _ hS1 => ?_)
    rw [wl_set (h' := up1 h k i.toNatClampNeg y) q1 (cellE_ar ha (by decide) (by decide)) (fun k' e => cellE_ne e)] at hP
    exact kk H1 locs1 ls (Wd_put hX.2.2.2.2.2.2.2.2.1 hX.2.2.2.2.2.2.2.2.2.1 hP hS1) hl hS1
  · obtain ⟨q, q1, q2⟩ := Wd_ar hw ha (by decide) (by decide)
    refine va_bast hX.1 hX.2.1 hK hw.2.2 hD hS q 1 q2 rfl (ix_in hi) hd (fun H1 locs1 hP _ hS1 => ?_)
    rw [wl_set (h' := up1 h k i.toNatClampNeg (vp_nar .byte x)) q1 (cellE_ar ha (by decide) (by decide)) (fun k' e => cellE_ne e)] at hP
    exact kk H1 locs1 ls (Wd_put hX.2.2.2.2.2.2.2.2.1 hX.2.2.2.2.2.2.2.2.2.1 hP hS1) hl hS1
  · obtain ⟨q, q1, q2⟩ := Wd_ar hw ha (by decide) (by decide)
    refine va_zast hX.1 hX.2.1 hK hw.2.2 hD hS q 2 q2 rfl (ix_in hi) hd (fun H1 locs1 hP _ hS1 => ?_)
    rw [wl_set (h' := up1 h k i.toNatClampNeg (vp_nar .boolean x)) q1 (cellE_ar ha (by decide) (by decide)) (fun k' e => cellE_ne e)] at hP
    exact kk H1 locs1 ls (Wd_put hX.2.2.2.2.2.2.2.2.1 hX.2.2.2.2.2.2.2.2.2.1 hP hS1) hl hS1
theorem J_lald (hX : Ok X cc nL own ret) {k n : Nat} {i : Int32} (hd : decode cc pc = .ok (.laload, 1)) (ha : Ar k 3 n) (hi : ix i n) (kk : J X O (pc + 1) L (.long (h k i.toNatClampNeg).toInt64 :: S) h) : J X O pc L (.int i :: .ref k :: S) h := by
  obtain ⟨G, p, e, s, m, args, below, meth, c, d⟩ := X
  intro H locs ls hw hl hS
  have hK := va_K.moved hX.2.2.2.2.2.2.2.1.alike hX.2.2.2.2.2.2.2.2.2.2.1.2.2.1
  obtain ⟨q, q1, q2⟩ := Wd_ar3 hw ha
  exact va_lald hX.1 hX.2.1 hK hw.2.2 q 3 q2 rfl (ix_in hi) hd (kk H locs ls hw hl hS)
theorem J_last (hX : Ok X cc nL own ret) {k n : Nat} {i x : Int32} (hd : decode cc pc = .ok (.lastore, 1)) (ha : Ar k 3 n) (hi : ix i n) (kk : J X O (pc + 1) L S (up1 h k i.toNatClampNeg x)) : J X O pc L (.long x.toInt64 :: .int i :: .ref k :: S) h := by
  obtain ⟨G, p, e, s, m, args, below, meth, c, d⟩ := X
  intro H locs ls hw hl hS
  have hK := va_K.moved hX.2.2.2.2.2.2.2.1.alike hX.2.2.2.2.2.2.2.2.2.2.1.2.2.1
  have hD := hX.2.2.2.2.2.2.2.2.2.2.1.2.1 h
  obtain ⟨q, q1, q2⟩ := Wd_ar3 hw ha
  refine va_last hX.1 hX.2.1 hK hw.2.2 hD hS q 3 q2 rfl (ix_in hi) hd (fun H1 locs1 hP _ hS1 => ?_)
  have e3 : cls k = 20 + 3 := ha.2.1
  rw [wl_set (h' := up1 h k i.toNatClampNeg x) q1 (by
    unfold cellE arrE
    rw [if_neg (by omega), if_pos (by omega), ha.2.2, e3]
    unfold up1
    rw [upA_eq]
    have e9 : (fun j => (upd (h k) i.toNatClampNeg x j).toInt64) = vp_updL (fun j => (h k j).toInt64) i.toNatClampNeg x.toInt64 := by
      funext j
      unfold vp_updL upd
      split <;> rfl
    rw [e9]) (fun k' e => cellE_ne e)] at hP
  exact kk H1 locs1 ls (Wd_put hX.2.2.2.2.2.2.2.2.1 hX.2.2.2.2.2.2.2.2.2.1 hP hS1) hl hS1
theorem J_aald (hX : Ok X cc nL own ret) {k n : Nat} {i : Int32} (t : Nat) (hd : decode cc pc = .ok (.aaload, 1)) (ha : Ar k 4 n) (hi : ix i n) (ht : rel k i.toNatClampNeg = t) (kk : J X O (pc + 1) L (.ref t :: S) h) : J X O pc L (.int i :: .ref k :: S) h := by
  obtain ⟨G, p, e, s, m, args, below, meth, c, d⟩ := X
  intro H locs ls hw hl hS
  subst ht
  have hK := va_K.moved hX.2.2.2.2.2.2.2.1.alike hX.2.2.2.2.2.2.2.2.2.2.1.2.2.1
  obtain ⟨q, q1, q2⟩ := Wd_ar4 hw ha
  exact va_aldq hX.1 hX.2.1 hK hw.2.2 q 4 q2 rfl (ix_in hi) hd (kk H locs ls hw hl hS)
theorem J_alen (hX : Ok X cc nL own ret) {k t n : Nat} (v : Int32) (hd : decode cc pc = .ok (.arraylength, 1)) (ha : Ar k t n) (ht : t < 5) (hv : Int32.ofNat n = v) (kk : J X O (pc + 1) L (.int v :: S) h) : J X O pc L (.ref k :: S) h := by
  obtain ⟨G, p, e, s, m, args, below, meth, c, d⟩ := X
  intro H locs ls hw hl hS
  have hK := va_K.moved hX.2.2.2.2.2.2.2.1.alike hX.2.2.2.2.2.2.2.2.2.2.1.2.2.1
  rcases (show t = 3 ∨ t = 4 ∨ (t ≠ 3 ∧ t ≠ 4) by omega) with rfl | rfl | ⟨e3, e4⟩
  · obtain ⟨q, q1, q2⟩ := Wd_ar3 hw ha
    exact va_alen (ty := .long) hX.1 hX.2.1 hK hw.2.2 q 3 q2 rfl hv hd (kk H locs ls hw hl hS)
  · obtain ⟨q, q1, q2⟩ := Wd_ar4 hw ha
    exact va_alen (ty := .object "LeanCity$City") hX.1 hX.2.1 hK hw.2.2 q 4 q2 rfl hv hd (kk H locs ls hw hl hS)
  · obtain ⟨q, q1, q2⟩ := Wd_ar hw ha e3 e4
    rcases (show t = 0 ∨ t = 1 ∨ t = 2 by omega) with rfl | rfl | rfl
    · exact va_alen (ty := .int) hX.1 hX.2.1 hK hw.2.2 q 0 q2 rfl hv hd (kk H locs ls hw hl hS)
    · exact va_alen (ty := .byte) hX.1 hX.2.1 hK hw.2.2 q 1 q2 rfl hv hd (kk H locs ls hw hl hS)
    · exact va_alen (ty := .boolean) hX.1 hX.2.1 hK hw.2.2 q 2 q2 rfl hv hd (kk H locs ls hw hl hS)
/-- ends -/
theorem J_iret (hX : Ok X cc nL own (some .int)) {v : Int32} (hd : decode cc pc = .ok (.ireturn, 1)) (hO : O = (.inl (some (.int v)), h)) : J X O pc L [.int v] h := by
  obtain ⟨G, p, e, s, m, args, below, meth, c, d⟩ := X
  intro H locs ls hw hl hS
  subst hO
  exact vx_ret (W.iret hX.1 hX.2.1 hX.2.2.2.2.2.1 (fun t ht hW => ⟨rfl, by rw [ht]; exact hw, by rw [ht]; exact hS.1⟩) hS.2.2 hd hX.2.2.2.2.2.2.1)
theorem J_zret (hX : Ok X cc nL own (some .boolean)) {v : Int32} (hd : decode cc pc = .ok (.ireturn, 1)) (hv : v = 0 ∨ v = 1) (hO : O = (.inl (some (.int v)), h)) : J X O pc L [.int v] h := by
  obtain ⟨G, p, e, s, m, args, below, meth, c, d⟩ := X
  intro H locs ls hw hl hS
  subst hO
  exact vx_ret (W.zret hX.1 hX.2.1 hX.2.2.2.2.2.1 (by rcases hv with rfl | rfl <;> decide) (fun t ht hW => ⟨rfl, by rw [ht]; exact hw, by rw [ht]; exact hS.1⟩) hS.2.2 hd hX.2.2.2.2.2.2.1)
theorem J_vret (hX : Ok X cc nL own none) (hd : decode cc pc = .ok (.return_, 1)) (hO : O = (.inl none, h)) : J X O pc L [] h := by
  obtain ⟨G, p, e, s, m, args, below, meth, c, d⟩ := X
  intro H locs ls hw hl hS
  subst hO
  exact vx_ret (W.vret hX.1 hX.2.1 hX.2.2.2.2.2.1 (fun t ht hW => ⟨rfl, by rw [ht]; exact hw, by rw [ht]; exact hS.1⟩) hS.2.2 hd hX.2.2.2.2.2.2.1)
theorem J_aret (hX : Ok X cc nL own ret) {v : Value} {n : String} (hr : ret = some (.object n)) (hv : v = .null ∨ ∃ a, v = .ref a) (hd : decode cc pc = .ok (.areturn, 1)) (hO : O = (.inl (some v), h)) : J X O pc L [v] h := by
  obtain ⟨G, p, e, s, m, args, below, meth, c, d⟩ := X
  intro H locs ls hw hl hS
  subst hO
  refine vx_ret (W.aret (v := cv G.2.2.1 v) hX.1 hX.2.1 (hX.2.2.2.2.2.1.trans hr) (Or.inl ⟨n, rfl⟩) ?_ (fun t ht hW => ⟨rfl, by rw [ht]; exact hw, by rw [ht]; exact hS.1⟩) hS.2.2 hd hX.2.2.2.2.2.2.1)
  rcases hv with rfl | ⟨a, rfl⟩
  · exact Or.inl rfl
  · exact Or.inr ⟨_, rfl⟩
theorem J_ifnonnullT (hX : Ok X cc nL own ret) {x : Nat} {off : Int} (tgt : Nat) (hd : decode cc pc = .ok (.ifnonnull off, 3)) (ht : (pc : Int) + off = (tgt : Int)) (kk : J X O tgt L S h) : J X O pc L (.ref x :: S) h := by
  obtain ⟨G, p, e, s, m, args, below, meth, c, d⟩ := X
  intro H locs ls hw hl hS
  exact lv_ifnonnull hX.1 hX.2.1 hd ht (kk H locs ls hw hl hS)
theorem J_ifnonnullN (hX : Ok X cc nL own ret) {off : Int} (hd : decode cc pc = .ok (.ifnonnull off, 3)) (kk : J X O (pc + 3) L S h) : J X O pc L (.null :: S) h := by
  obtain ⟨G, p, e, s, m, args, below, meth, c, d⟩ := X
  intro H locs ls hw hl hS
  exact lv_ifnonnullN hX.1 hX.2.1 hd (kk H locs ls hw hl hS)
theorem J_ifnullF (hX : Ok X cc nL own ret) {x : Nat} {off : Int} (hd : decode cc pc = .ok (.ifnull off, 3)) (kk : J X O (pc + 3) L S h) : J X O pc L (.ref x :: S) h := by
  obtain ⟨G, p, e, s, m, args, below, meth, c, d⟩ := X
  intro H locs ls hw hl hS
  exact lv_ifnull hX.1 hX.2.1 hd (kk H locs ls hw hl hS)
theorem J_ifnullN (hX : Ok X cc nL own ret) {off : Int} (tgt : Nat) (hd : decode cc pc = .ok (.ifnull off, 3)) (ht : (pc : Int) + off = (tgt : Int)) (kk : J X O tgt L S h) : J X O pc L (.null :: S) h := by
  obtain ⟨G, p, e, s, m, args, below, meth, c, d⟩ := X
  intro H locs ls hw hl hS
  exact lv_ifnullN hX.1 hX.2.1 hd ht (kk H locs ls hw hl hS)
theorem J_switchOut (hX : Ok X cc nL own ret) {dflt lo hi : Int} {offs : Array Int} {len : Nat} {x : Int32} (tgt : Nat) (hd : decode cc pc = .ok (.tableswitch dflt lo hi offs, len)) (hq : x.toInt < lo ∨ hi < x.toInt) (ht : (pc : Int) + dflt = (tgt : Int)) (kk : J X O tgt L S h) : J X O pc L (.int x :: S) h := by
  obtain ⟨G, p, e, s, m, args, below, meth, c, d⟩ := X
  intro H locs ls hw hl hS
  exact lv_tableOut hX.1 hX.2.1 hd hq ht (kk H locs ls hw hl hS)
theorem J_switchIn (hX : Ok X cc nL own ret) {dflt lo hi : Int} {offs : Array Int} {len : Nat} {x : Int32} {off : Int} (tgt : Nat) (hd : decode cc pc = .ok (.tableswitch dflt lo hi offs, len)) (h1 : ¬ x.toInt < lo) (h2 : ¬ hi < x.toInt) (ho : offs[(x.toInt - lo).toNat]? = some off) (ht : (pc : Int) + off = (tgt : Int)) (kk : J X O tgt L S h) : J X O pc L (.int x :: S) h := by
  obtain ⟨G, p, e, s, m, args, below, meth, c, d⟩ := X
  intro H locs ls hw hl hS
  exact lv_tableIn hX.1 hX.2.1 hd h1 h2 ho ht (kk H locs ls hw hl hS)
end JR
