/-! THE CLAIM OUT OF ONE WALK OF THE LAW'S BODY. Your part is whole_start (and what it stands on); all else here is the same for every law, but numbers. -/
def R_law : String := "LeanCityLaw"
def lw_P (b : Addr) (xs : List Int32) (args : Array Value) (s : State) : Prop := args = #[.ref b] ∧ s.IntsAt b xs ∧ xs.length ≤ 3072 ∧ (Jvm.Cond.and given_1 narrow_1).before args s = true
def lw_Q (_ : Array Value) (s : State) (o : Outcome) (t : State) : Prop := o = .returned (some (.int 1)) ∧ Framed s o t [] 601024 7293034
def lw_Z (below : List Frame) (a : Array Value) (s : State) : State → Prop := fun t => ∃ o, t.status = .running ∧ Ended t below o ∧ lw_Q a s o t
/-- the law's own end, with 1 on the stack, nothing written that was there before, its room as the claim has it -/
theorem lw_ret {p : Program} {l : Launch} {e : Env} {s : State} {m : MethodId} {below : List Frame} {meth : Method} {c : Code} {b : Nat} (hx : p.tables.exec = Jvm.exec) (hb : c.code = code) (hr : meth.sig.returnType = ret) (hlocks : meth.locks = false) {pc : Nat} {H : Heap} {ls : Array Slot} (hdg : decode code pc = .ok (.ireturn, 1)) : W p l e room_1 s m #[Value.ref b] below meth c H [] 601024 7293034 (lw_Z below #[Value.ref b] s) (F0 m pc ls [.int 1]) := by
  intro T hT X
  obtain ⟨fs, hret, hrun, hended, hW, hframe⟩ := X.leave (v := some (.int 1)) (hlocks := hlocks) (fun h => by rw [hr] at h; cases h)
  have hmeth' : T.vm.method? m = some meth := X.method'
  refine ⟨T.setFrames fs, ?_, .returned (some (.int 1)), hrun, hended, rfl, ⟨_, rfl⟩, hW, hframe⟩
  jvm_step X.here [X.here.top, hx, hb, hdg, hmeth', hr, ret, narrow_b1]
  (try refine ⟨rfl, ?_⟩); (try refine ⟨rfl, ?_⟩)
  first | (intro acts; rw [hret _ acts rfl rfl rfl]) | rw [hret _ _ rfl rfl rfl]
  exact Steps.refl _
/-- what holds at the law's entry: the machine, the code, the tables' words (any of lw_tbl by 'hts w (by decide +kernel)'), the script of L ints xs at the cell b, what the Statement gives of the start (any of its parts by flat_of_before) -/
def lw_At (p : Program) (s : State) (m : MethodId) (meth : Method) (c : Code) (b L : Nat) (xs : Nat → Int32) : Prop :=
  p.tables.exec = Jvm.exec ∧ c.code = code ∧ meth.sig.returnType = ret ∧ c.maxLocals = 7 ∧ s.vm.findClass R_law = some m.cls ∧ (∀ w ∈ lw_tbl, w.before #[Value.ref b] s = true) ∧ va_X b L xs s s.heap ∧ b < s.heap.size ∧ meth.locks = false ∧ (Jvm.Cond.and given_1 narrow_1).before #[Value.ref b] s = true
/-- one call of the script: what its case must do -/
def StN (k : Nat) (a : Nat → Int32) (h h' : Hp) (n : Nat) : Prop := match k with
  | 0 => St_0 a h h' n
  | 1 => St_1 a h h' n
  | 2 => St_2 a h h' n
  | 3 => St_3 a h h' n
  | 4 => St_4 a h h' n
  | 5 => St_5 a h h' n
  | 6 => St_6 a h h' n
  | 7 => St_7 a h h' n
  | 8 => St_8 a h h' n
  | 9 => St_9 a h h' n
  | 10 => St_10 a h h' n
  | 11 => St_11 a h h' n
  | 12 => St_12 a h h' n
  | 13 => St_13 a h h' n
  | 14 => St_14 a h h' n
  | 15 => St_15 a h h' n
  | 16 => St_16 a h h' n
  | 17 => St_17 a h h' n
  | 18 => St_18 a h h' n
  | 19 => St_19 a h h' n
  | 20 => St_20 a h h' n
  | 21 => St_21 a h h' n
  | 22 => St_22 a h h' n
  | 23 => St_23 a h h' n
  | 24 => St_24 a h h' n
  | 25 => St_25 a h h' n
  | 26 => St_26 a h h' n
  | 27 => St_27 a h h' n
  | 28 => St_28 a h h' n
  | 29 => St_29 a h h' n
  | 30 => St_30 a h h' n
  | 31 => St_31 a h h' n
  | 32 => St_32 a h h' n
  | 33 => St_33 a h h' n
  | 34 => St_34 a h h' n
  | 35 => St_35 a h h' n
  | 36 => St_36 a h h' n
  | 37 => St_37 a h h' n
  | 38 => St_38 a h h' n
  | 39 => St_39 a h h' n
  | 40 => St_40 a h h' n
  | 41 => St_41 a h h' n
  | 42 => St_42 a h h' n
  | 43 => St_43 a h h' n
  | 44 => St_44 a h h' n
  | 45 => St_45 a h h' n
  | 46 => St_46 a h h' n
  | 47 => St_47 a h h' n
  | 48 => St_48 a h h' n
  | 49 => St_49 a h h' n
  | 50 => St_50 a h h' n
  | 51 => St_51 a h h' n
  | 52 => St_52 a h h' n
  | 53 => St_53 a h h' n
  | _ => h' = h ∧ n = 0
set_option maxRecDepth 100000 in
set_option maxHeartbeats 1000000 in
theorem LD {X : CX} {R : Room} {Q : State → Prop} {kC sC Ls j n : Nat} {xs : Nat → Int32} {h h' : Hp} (hX : OkQ X cL_law_ 7 RL (some .boolean)) (hScr : ScrQ X Ls xs) (hL : Ls ≤ 3072) (hj : j + 6 ≤ Ls) (hR : 80 ≤ R.frames ∧ 80 * 80 ≤ R.locals ∧ kC + 1 ≤ R.cells ∧ sC + 6 ≤ R.slots) (k : Nat) (hk : k < 64) (hst : StN k (fun i => xs (j + i)) h h' n) (kk : JQ X R Q (kC + n) (sC + 6 * n) 2799 [(0, .ref 0), (1, .ref 1), (2, .ref 30), (3, .ref 50), (4, .int (nI j))] [] h') : JQ X R Q kC sC 40 [(0, .ref 0), (1, .ref 1), (2, .ref 30), (3, .ref 50), (4, .int (nI j))] [.int (nI k)] h := by
  match k, hk, hst with
  | 0, hk, hst =>
    refine Q_switchIn hX (off := 232) 272 dL_law__40 (by decide) (by decide) (by decide) rfl ?_
    exact LW_0 hX hScr hL hj hR hst kk
  | 1, hk, hst =>
    refine Q_switchIn hX (off := 305) 345 dL_law__40 (by decide) (by decide) (by decide) rfl ?_
    exact LW_1 hX hScr hL hj hR hst kk
  | 2, hk, hst =>
    refine Q_switchIn hX (off := 330) 370 dL_law__40 (by decide) (by decide) (by decide) rfl ?_
    exact LW_2 hX hScr hL hj hR hst kk
  | 3, hk, hst =>
    refine Q_switchIn hX (off := 374) 414 dL_law__40 (by decide) (by decide) (by decide) rfl ?_
    exact LW_3 hX hScr hL hj hR hst kk
  | 4, hk, hst =>
    refine Q_switchIn hX (off := 418) 458 dL_law__40 (by decide) (by decide) (by decide) rfl ?_
    exact LW_4 hX hScr hL hj hR hst kk
  | 5, hk, hst =>
    refine Q_switchIn hX (off := 431) 471 dL_law__40 (by decide) (by decide) (by decide) rfl ?_
    exact LW_5 hX hScr hL hj hR hst kk
  | 6, hk, hst =>
    refine Q_switchIn hX (off := 499) 539 dL_law__40 (by decide) (by decide) (by decide) rfl ?_
    exact LW_6 hX hScr hL hj hR hst kk
  | 7, hk, hst =>
    refine Q_switchIn hX (off := 567) 607 dL_law__40 (by decide) (by decide) (by decide) rfl ?_
    exact LW_7 hX hScr hL hj hR hst kk
  | 8, hk, hst =>
    refine Q_switchIn hX (off := 635) 675 dL_law__40 (by decide) (by decide) (by decide) rfl ?_
    exact LW_8 hX hScr hL hj hR hst kk
  | 9, hk, hst =>
    refine Q_switchIn hX (off := 691) 731 dL_law__40 (by decide) (by decide) (by decide) rfl ?_
    exact LW_9 hX hScr hL hj hR hst kk
  | 10, hk, hst =>
    refine Q_switchIn hX (off := 783) 823 dL_law__40 (by decide) (by decide) (by decide) rfl ?_
    exact LW_10 hX hScr hL hj hR hst kk
  | 11, hk, hst =>
    refine Q_switchIn hX (off := 863) 903 dL_law__40 (by decide) (by decide) (by decide) rfl ?_
    exact LW_11 hX hScr hL hj hR hst kk
  | 12, hk, hst =>
    refine Q_switchIn hX (off := 931) 971 dL_law__40 (by decide) (by decide) (by decide) rfl ?_
    exact LW_12 hX hScr hL hj hR hst kk
  | 13, hk, hst =>
    refine Q_switchIn hX (off := 987) 1027 dL_law__40 (by decide) (by decide) (by decide) rfl ?_
    exact LW_13 hX hScr hL hj hR hst kk
  | 14, hk, hst =>
    refine Q_switchIn hX (off := 1055) 1095 dL_law__40 (by decide) (by decide) (by decide) rfl ?_
    exact LW_14 hX hScr hL hj hR hst kk
  | 15, hk, hst =>
    refine Q_switchIn hX (off := 1158) 1198 dL_law__40 (by decide) (by decide) (by decide) rfl ?_
    exact LW_15 hX hScr hL hj hR hst kk
  | 16, hk, hst =>
    refine Q_switchIn hX (off := 1214) 1254 dL_law__40 (by decide) (by decide) (by decide) rfl ?_
    exact LW_16 hX hScr hL hj hR hst kk
  | 17, hk, hst =>
    refine Q_switchIn hX (off := 1270) 1310 dL_law__40 (by decide) (by decide) (by decide) rfl ?_
    exact LW_17 hX hScr hL hj hR hst kk
  | 18, hk, hst =>
    refine Q_switchIn hX (off := 1326) 1366 dL_law__40 (by decide) (by decide) (by decide) rfl ?_
    exact LW_18 hX hScr hL hj hR hst kk
  | 19, hk, hst =>
    refine Q_switchIn hX (off := 1382) 1422 dL_law__40 (by decide) (by decide) (by decide) rfl ?_
    exact LW_19 hX hScr hL hj hR hst kk
  | 20, hk, hst =>
    refine Q_switchIn hX (off := 1395) 1435 dL_law__40 (by decide) (by decide) (by decide) rfl ?_
    exact LW_20 hX hScr hL hj hR hst kk
  | 21, hk, hst =>
    refine Q_switchIn hX (off := 1408) 1448 dL_law__40 (by decide) (by decide) (by decide) rfl ?_
    exact LW_21 hX hScr hL hj hR hst kk
  | 22, hk, hst =>
    refine Q_switchIn hX (off := 1421) 1461 dL_law__40 (by decide) (by decide) (by decide) rfl ?_
    exact LW_22 hX hScr hL hj hR hst kk
  | 23, hk, hst =>
    refine Q_switchIn hX (off := 1477) 1517 dL_law__40 (by decide) (by decide) (by decide) rfl ?_
    exact LW_23 hX hScr hL hj hR hst kk
  | 24, hk, hst =>
    refine Q_switchIn hX (off := 1533) 1573 dL_law__40 (by decide) (by decide) (by decide) rfl ?_
    exact LW_24 hX hScr hL hj hR hst kk
  | 25, hk, hst =>
    refine Q_switchIn hX (off := 1577) 1617 dL_law__40 (by decide) (by decide) (by decide) rfl ?_
    exact LW_25 hX hScr hL hj hR hst kk
  | 26, hk, hst =>
    refine Q_switchIn hX (off := 1649) 1689 dL_law__40 (by decide) (by decide) (by decide) rfl ?_
    exact LW_26 hX hScr hL hj hR hst kk
  | 27, hk, hst =>
    refine Q_switchIn hX (off := 1693) 1733 dL_law__40 (by decide) (by decide) (by decide) rfl ?_
    exact LW_27 hX hScr hL hj hR hst kk
  | 28, hk, hst =>
    refine Q_switchIn hX (off := 1706) 1746 dL_law__40 (by decide) (by decide) (by decide) rfl ?_
    exact LW_28 hX hScr hL hj hR hst kk
  | 29, hk, hst =>
    refine Q_switchIn hX (off := 1719) 1759 dL_law__40 (by decide) (by decide) (by decide) rfl ?_
    exact LW_29 hX hScr hL hj hR hst kk
  | 30, hk, hst =>
    refine Q_switchIn hX (off := 1782) 1822 dL_law__40 (by decide) (by decide) (by decide) rfl ?_
    exact LW_30 hX hScr hL hj hR hst kk
  | 31, hk, hst =>
    refine Q_switchIn hX (off := 1838) 1878 dL_law__40 (by decide) (by decide) (by decide) rfl ?_
    exact LW_31 hX hScr hL hj hR hst kk
  | 32, hk, hst =>
    refine Q_switchIn hX (off := 1851) 1891 dL_law__40 (by decide) (by decide) (by decide) rfl ?_
    exact LW_32 hX hScr hL hj hR hst kk
  | 33, hk, hst =>
    refine Q_switchIn hX (off := 1907) 1947 dL_law__40 (by decide) (by decide) (by decide) rfl ?_
    exact LW_33 hX hScr hL hj hR hst kk
  | 34, hk, hst =>
    refine Q_switchIn hX (off := 1920) 1960 dL_law__40 (by decide) (by decide) (by decide) rfl ?_
    exact LW_34 hX hScr hL hj hR hst kk
  | 35, hk, hst =>
    refine Q_switchIn hX (off := 1976) 2016 dL_law__40 (by decide) (by decide) (by decide) rfl ?_
    exact LW_35 hX hScr hL hj hR hst kk
  | 36, hk, hst =>
    refine Q_switchIn hX (off := 2051) 2091 dL_law__40 (by decide) (by decide) (by decide) rfl ?_
    exact LW_36 hX hScr hL hj hR hst kk
  | 37, hk, hst =>
    refine Q_switchIn hX (off := 2119) 2159 dL_law__40 (by decide) (by decide) (by decide) rfl ?_
    exact LW_37 hX hScr hL hj hR hst kk
  | 38, hk, hst =>
    refine Q_switchIn hX (off := 2175) 2215 dL_law__40 (by decide) (by decide) (by decide) rfl ?_
    exact LW_38 hX hScr hL hj hR hst kk
  | 39, hk, hst =>
    refine Q_switchIn hX (off := 2188) 2228 dL_law__40 (by decide) (by decide) (by decide) rfl ?_
    exact LW_39 hX hScr hL hj hR hst kk
  | 40, hk, hst =>
    refine Q_switchIn hX (off := 2201) 2241 dL_law__40 (by decide) (by decide) (by decide) rfl ?_
    exact LW_40 hX hScr hL hj hR hst kk
  | 41, hk, hst =>
    refine Q_switchIn hX (off := 2257) 2297 dL_law__40 (by decide) (by decide) (by decide) rfl ?_
    exact LW_41 hX hScr hL hj hR hst kk
  | 42, hk, hst =>
    refine Q_switchIn hX (off := 2270) 2310 dL_law__40 (by decide) (by decide) (by decide) rfl ?_
    exact LW_42 hX hScr hL hj hR hst kk
  | 43, hk, hst =>
    refine Q_switchIn hX (off := 2283) 2323 dL_law__40 (by decide) (by decide) (by decide) rfl ?_
    exact LW_43 hX hScr hL hj hR hst kk
  | 44, hk, hst =>
    refine Q_switchIn hX (off := 2296) 2336 dL_law__40 (by decide) (by decide) (by decide) rfl ?_
    exact LW_44 hX hScr hL hj hR hst kk
  | 45, hk, hst =>
    refine Q_switchIn hX (off := 2352) 2392 dL_law__40 (by decide) (by decide) (by decide) rfl ?_
    exact LW_45 hX hScr hL hj hR hst kk
  | 46, hk, hst =>
    refine Q_switchIn hX (off := 2436) 2476 dL_law__40 (by decide) (by decide) (by decide) rfl ?_
    exact LW_46 hX hScr hL hj hR hst kk
  | 47, hk, hst =>
    refine Q_switchIn hX (off := 2520) 2560 dL_law__40 (by decide) (by decide) (by decide) rfl ?_
    exact LW_47 hX hScr hL hj hR hst kk
  | 48, hk, hst =>
    refine Q_switchIn hX (off := 2604) 2644 dL_law__40 (by decide) (by decide) (by decide) rfl ?_
    exact LW_48 hX hScr hL hj hR hst kk
  | 49, hk, hst =>
    refine Q_switchIn hX (off := 2672) 2712 dL_law__40 (by decide) (by decide) (by decide) rfl ?_
    exact LW_49 hX hScr hL hj hR hst kk
  | 50, hk, hst =>
    refine Q_switchIn hX (off := 2697) 2737 dL_law__40 (by decide) (by decide) (by decide) rfl ?_
    exact LW_50 hX hScr hL hj hR hst kk
  | 51, hk, hst =>
    refine Q_switchIn hX (off := 2710) 2750 dL_law__40 (by decide) (by decide) (by decide) rfl ?_
    exact LW_51 hX hScr hL hj hR hst kk
  | 52, hk, hst =>
    refine Q_switchIn hX (off := 2721) 2761 dL_law__40 (by decide) (by decide) (by decide) rfl ?_
    exact LW_52 hX hScr hL hj hR hst kk
  | 53, hk, hst =>
    refine Q_switchIn hX (off := 2734) 2774 dL_law__40 (by decide) (by decide) (by decide) rfl ?_
    exact LW_53 hX hScr hL hj hR hst kk
  | k + 54, hk, hst =>
    obtain ⟨rfl, rfl⟩ : h' = h ∧ n = 0 := hst
    refine Q_switchOut hX 2799 dL_law__40 (Or.inr ?_) rfl kk
    rw [nI_toInt (by omega)]
    omega
theorem le6 {j L : Nat} (hL : L ≤ 3072) (hj : j ≤ 4000) : (nI L - 6 < nI j) ↔ ¬ (j + 6 ≤ L) := by
  have e : (6 : Int32) = nI 6 := by decide
  rw [e, Int32.lt_iff_toInt_lt, pk_sub_toInt (by omega) (by omega), nI_toInt (by omega)]
  omega
set_option maxRecDepth 100000 in
set_option maxHeartbeats 1000000 in
/-- from the loop's head: every call of the script does its step -/
theorem LH {X : CX} {R : Room} {Q : State → Prop} {Ls : Nat} {xs : Nat → Int32} (Inv : Hp → Prop) (hX : OkQ X cL_law_ 7 RL (some .boolean)) (hScr : ScrQ X Ls xs) (hL : Ls ≤ 3072) (hR : 80 ≤ R.frames ∧ 80 * 80 ≤ R.locals)
    (hstep : ∀ (k : Nat) (a : Nat → Int32) (h : Hp), k < 64 → Inv h → ∃ (h' : Hp) (n : Nat), StN k a h h' n ∧ n ≤ 1 ∧ Inv h')
    (hend : ∀ (kC sC j : Nat) (h : Hp), kC ≤ R.cells → sC ≤ R.slots → JQ X R Q kC sC 2805 [(0, .ref 0), (1, .ref 1), (2, .ref 30), (3, .ref 50), (4, .int (nI j))] [] h) :
    ∀ (m j kC sC : Nat) (h : Hp), Inv h → Ls < j + 6 * (m + 1) → j ≤ Ls + 6 → kC + m + 1 ≤ R.cells → sC + 6 * m + 6 ≤ R.slots → JQ X R Q kC sC 23 [(0, .ref 0), (1, .ref 1), (2, .ref 30), (3, .ref 50), (4, .int (nI j))] [] h := by
  intro m
  induction m with
  | zero =>
    intro j kC sC h hI h1 h2 h3 h4
    refine Q_iload hX 4 dL_law__23 rfl ?_
    refine Q_aload_n hX 0 dL_law__25 rfl rfl ?_
    refine Q_slen hX hScr dL_law__26 ?_
    refine Q_bipush hX 6 dL_law__27 rfl ?_
    refine Q_isub hX dL_law__29 ?_
    refine Q_icmp_gtT hX 2805 dL_law__30 rfl ((le6 hL (by omega)).mpr (by omega)) ?_
    exact hend kC sC j h (by omega) (by omega)
  | succ m ih =>
    intro j kC sC h hI h1 h2 h3 h4
    refine Q_iload hX 4 dL_law__23 rfl ?_
    refine Q_aload_n hX 0 dL_law__25 rfl rfl ?_
    refine Q_slen hX hScr dL_law__26 ?_
    refine Q_bipush hX 6 dL_law__27 rfl ?_
    refine Q_isub hX dL_law__29 ?_
    by_cases hj : j + 6 ≤ Ls
    · refine Q_icmp_gtF hX 2805 dL_law__30 rfl (fun q => (le6 hL (by omega)).mp q hj) ?_
      refine Q_aload_n hX 0 dL_law__33 rfl rfl ?_
      refine Q_iload hX 4 dL_law__34 rfl ?_
      have e0 : nI j = nI j + 0 := (Int32.add_zero _).symm
      refine Q_nm e0 ?_
      refine Q_arg hX hScr hL hj 0 rfl (by decide) dL_law__36 ?_
      refine Q_bipush hX 63 dL_law__37 rfl ?_
      refine Q_iand hX dL_law__39 ?_
      obtain ⟨k, hk, hek⟩ := pk_andE (xs (j + 0)) (m := 63) 6 (by decide)
      refine Q_nm hek ?_
      obtain ⟨h', n, hst, hn, hI'⟩ := hstep k (fun i => xs (j + i)) h hk hI
      refine LD hX hScr hL hj ⟨hR.1, hR.2, by omega, by omega⟩ k hk hst ?_
      refine Q_iinc hX (nI j + 6) 4 [(4, .int (nI j + 6)), (0, .ref 0), (1, .ref 1), (2, .ref 30), (3, .ref 50)] dL_law__2799 rfl rfl rfl rfl ?_
      refine Q_goto hX 23 dL_law__2802 rfl ?_
      have e6 : nI j + 6 = nI (j + 6) := by
        have e : (6 : Int32) = nI 6 := by decide
        rw [e, nI_add]
      rw [e6]
      refine Q_sub [1, 2, 3, 4, 0] _ rfl ?_
      exact ih (j + 6) (kC + n) (sC + 6 * n) h' hI' (by omega) (by omega) (by omega) (by omega)
    · refine Q_icmp_gtT hX 2805 dL_law__30 rfl ((le6 hL (by omega)).mpr hj) ?_
      exact hend kC sC j h (by omega) (by omega)
