/-! LAYER 4. What a row of the world says: n houses, m people, an evening e -/
abbrev Row := Nat → Int32
def wtR (w : Row) (i : Nat) : Int32 := w (74 + 5 * i)
def fmR (w : Row) (i : Nat) : Int32 := w (74 + 5 * i + 1)
def ivR (w : Row) (i : Nat) : Int32 := w (74 + 5 * i + 2)
def agR (w : Row) (i : Nat) : Int32 := w (74 + 5 * i + 3)
def falB (w : Row) (i : Nat) : Bool := decide (w (74 + 5 * i + 4) = 1)
def ptR (w : Row) (i o : Nat) : Int32 := w (10 + 8 * i + o)
def atR (w : Row) (p : Nat) : Int32 := w (114 + 3 * p)
def hdR (w : Row) (p : Nat) : Int32 := w (114 + 3 * p + 1)
def cmR (w : Row) (p : Nat) : Int32 := w (114 + 3 * p + 2)
def upB (n : Nat) (w : Row) (i : Nat) : Bool := decide (i < n) && !falB w i
def z0 : Row := fun _ => 0
/-- PRESS -/
def prW (n : Nat) (w : Row) : Row := (roundsS n (wtR w) (ptR w) (z0, z0) 12).1
def psW (n : Nat) (w : Row) (i : Nat) : Int32 := sumTo (ptR w i) n
/-- what it BEARS -/
def brW (n : Nat) (w : Row) (i : Nat) : Int32 := prW n w i + (if psW n w i = 0 then wtR w i else 0)
def thB (w : Row) (e : Int32) (i p : Nat) : Bool := thereB (atR w p) (cmR w p) e (nI i)
def hpW (m : Nat) (w : Row) (e : Int32) (i : Nat) : Int32 := sumTo (fun p => if thB w e i p then hdR w p else 0) m
def fcW (n m : Nat) (w : Row) (e : Int32) (i : Nat) : Nat → Int32
  | 0 => nI i
  | 1 => wtR w i
  | 2 => ivR w i
  | 3 => agR w i
  | 4 => e
  | 5 => prW n w i
  | 6 => bI (decide (0 < psW n w i))
  | 7 => bI (anyTo (fun o => decide (0 < ptR w o i)) n)
  | 8 => bI (anyTo (thB w e i) m)
  | _ => 0
/-! the law -/
def cdW (w : Row) (j : Nat) : Nat := (w (541 + 2 * j)).toNatClampNeg
def nmW (w : Row) (j : Nat) : Int32 := w (541 + 2 * j + 1)
def fromW (w : Row) (l : Nat) : Nat := (w (493 + 4 * l + 2)).toNatClampNeg
def toW (w : Row) (l : Nat) : Nat := (w (493 + 4 * l + 3)).toNatClampNeg
def runW (F : Nat → Int32) (w : Row) (l : Nat) : Nat × Row := runM F (cdW w) (nmW w) (fromW w l) z0 (toW w l - fromW w l)
def hlW (F : Nat → Int32) (w : Row) (l : Nat) : Bool := decide ((runW F w l).1 = 0) || decide ((runW F w l).2 0 = 1)
def lnW (w : Row) : Nat := if w 3 = 1 then (w 492).toNatClampNeg else 0
def smF (F : Nat → Int32) (w : Row) (k : Int32) (l : Nat) : Int32 := if w (493 + 4 * l) = k then (if hlW F w l then w (493 + 4 * l + 1) else 0) else 0
def smW (n m : Nat) (w : Row) (e : Int32) (k : Int32) (i : Nat) : Int32 := sumTo (smF (fcW n m w e i) w k) (lnW w)
/-- what it STANDS by, PROPS of a set apart -/
def stW (n m : Nat) (w : Row) (e : Int32) (i : Nat) : Int32 := imax 0 (fmR w i + ivR w i + hpW m w e i + smW n m w e 0 i - smW n m w e 1 i)
def sgW (n m : Nat) (w : Row) (e pp : Int32) (i : Nat) : Int32 := brW n w i - (stW n m w e i + (if tb pp i then w 7 else 0))
def sgB (n m : Nat) (w : Row) (e pp : Int32) (i : Nat) : Bool := !falB w i && decide (0 < sgW n m w e pp i)
/-! a FALL: a round's rows of the log, its houses gone, all rounds -/
def tlF (n m : Nat) (w : Row) (e pp t : Int32) (i : Nat) (v : Row) : Row := if sgB n m w e pp i then tellW (nI i) t (sgW n m w e pp i) 0 v else v
def gnF (n m : Nat) (w : Row) (e pp : Int32) (i : Nat) (v : Row) : Row := if sgB n m w e pp i then goneW i m v else v
def rdT (n m : Nat) (w : Row) (e pp t : Int32) : Row := fldN (tlF n m w e pp t) w n
def rdG (n m : Nat) (w : Row) (e pp : Int32) (v : Row) : Row := fldN (gnF n m w e pp) v n
def rdW (n m : Nat) (w : Row) (e pp t : Int32) : Row := rdG n m w e pp (rdT n m w e pp t)
def sgS (n m : Nat) (w : Row) (e pp : Int32) : Int32 := orTo (sgB n m w e pp) n
/-- (bits, rounds, the row then) -/
def flS (n m : Nat) (e pp : Int32) : Nat → Nat → Row → Int32 × Nat × Row
  | 0, t, w => (0, t, w)
  | k + 1, t, w => if sgS n m w e pp = 0 then (0, t, w) else (sgS n m w e pp ||| (flS n m e pp k (t + 1) (rdW n m w e pp (nI (t + 1)))).1, (flS n m e pp k (t + 1) (rdW n m w e pp (nI (t + 1)))).2)
def fallW (n m : Nat) (e pp : Int32) (w : Row) : Int32 × Nat × Row := flS n m e pp 9 0 w
/-! an evening more -/
def ageW (n m : Nat) (e : Int32) (i : Nat) (w : Row) : Row :=
  if falB w i then w else
    if w 4 = 0 then upd (upd w (74 + 5 * i + 2) (imin 9 (ivR w i + smW n m w e 2 i))) (74 + 5 * i + 3) (imin 99 (agR w i + 1))
    else upd w (74 + 5 * i + 2) (imin 9 (ivR w i + smW n m w e 2 i))
def agW (n m : Nat) (e : Int32) (w : Row) : Row := fldN (ageW n m e) w n
def drS (s : Int32) : Int32 := 1103515245 * s + 12345
def drV (s : Int32) : Int32 := shr s 16 &&& 32767
def upS (w : Row) : Nat → Bool := fun i => !falB w i
/-- the place-th of a set, below n -/
def nthT (p : Nat → Bool) : Nat → Nat → Nat
  | 0, _ => 0
  | n + 1, x => if p n = true ∧ cnt p n = x then n else nthT p n x
def wanW (n : Nat) (p : Nat) (w : Row) : Row :=
  if atR w p = -1 then w else
    if rem (drV (drS (w 9))) 100 < w 6 then
      if cnt (upS w) n = 0 then upd w 9 (drS (w 9)) else
        upd (upd w 9 (drS (drS (w 9)))) (114 + 3 * p) (nI (nthT (upS w) n ((drV (drS (drS (w 9)))).toNatClampNeg % cnt (upS w) n)))
    else upd w 9 (drS (w 9))
def tickW (w : Row) : Row := if w 4 + 1 = 7 then upd (upd w 4 0) 5 (imin 9999 (w 5 + 1)) else upd w 4 (w 4 + 1)
/-- an evening more (calm: nobody wanders) -/
def evW (calm : Bool) (n m : Nat) (w : Row) : Row :=
  tickW (if calm then agW n m (w 4) (fallW n m (w 4) 0 w).2.2 else fldN (wanW n) (agW n m (w 4) (fallW n m (w 4) 0 w).2.2) m)
def goW (calm : Bool) (n m : Nat) (w : Row) : Nat → Row := fldN (fun _ v => evW calm n m v) w
/-! types of codes: what is on the stack (true: 0 or 1) -/
def tyS (c : Nat) (s : List Bool) : Option (List Bool) :=
  if c ≤ 5 ∨ c = 9 then some (false :: s)
  else if c ≤ 8 then some (true :: s)
  else if c = 13 then (match s with | true :: r => some (true :: r) | _ => none)
  else if c = 10 then (match s with | false :: false :: r => some (false :: r) | _ => none)
  else if c = 11 ∨ c = 12 then (match s with | false :: false :: r => some (true :: r) | _ => none)
  else (match s with | true :: true :: r => some (true :: r) | _ => none)
def tyR (cd : Nat → Nat) (b : Nat) : Nat → Option (List Bool)
  | 0 => some []
  | j + 1 => Option.bind (tyR cd b j) (tyS (cd (b + j)))
/-- codes b, .., b + j - 1 stand, deep at most 20 -/
def tyOk (cd : Nat → Nat) (b j : Nat) : Prop := ∀ i, i ≤ j → ∃ s, tyR cd b i = some s ∧ s.length ≤ 20
def bd (w : Row) (k b : Nat) : Prop := ∃ a, a ≤ b ∧ w k = nI a
/-- line l of the law in the row -/
def lnOk (w : Row) (l : Nat) : Prop := bd w (493 + 4 * l) 2 ∧ bd w (493 + 4 * l + 1) 99 ∧ bd w (493 + 4 * l + 2) 400 ∧ bd w (493 + 4 * l + 3) 400 ∧ fromW w l ≤ toW w l ∧
  (∀ j, fromW w l ≤ j → j < toW w l → bd w (541 + 2 * j) 15) ∧ tyOk (cdW w) (fromW w l) (toW w l - fromW w l) ∧
  (fromW w l = toW w l ∨ tyR (cdW w) (fromW w l) (toW w l - fromW w l) = some [true])
def GdL (w : Row) : Prop := bd w 3 1 ∧ (w 3 = 1 → bd w 492 12 ∧ ∀ l, l < (w 492).toNatClampNeg → lnOk w l)
/-- counts and the law -/
def GdN (n m : Nat) (w : Row) : Prop := w 0 = nI n ∧ n ≤ 8 ∧ w 1 = nI m ∧ m ≤ 6 ∧ GdL w
/-- press is laid -/
def laid (n : Nat) (h : Hp) : Prop := ∀ i, i < 8 → h 36 i = prW n (h 31) i
/-- all but the model's rows of work -/
def ES (h h' : Hp) : Prop := ∀ k, k ≠ 36 → k ≠ 37 → k ≠ 40 → h' k = h k
theorem ES_refl (h : Hp) : ES h h := fun _ _ _ _ => rfl
theorem ES_trans {a b c : Hp} (x : ES a b) (y : ES b c) : ES a c := fun k p q r => (y k p q r).trans (x k p q r)
theorem tyS_ok {c : Nat} {s s' : List Bool} (hc : c ≤ 15) (h : tyS c s = some s') (hs : s.length ≤ 20) : okM c s.length ∧ s'.length = (if c ≤ 9 then s.length + 1 else if c = 13 then s.length else s.length - 1) := by
  have k : c = 0 ∨ c = 1 ∨ c = 2 ∨ c = 3 ∨ c = 4 ∨ c = 5 ∨ c = 6 ∨ c = 7 ∨ c = 8 ∨ c = 9 ∨ c = 10 ∨ c = 11 ∨ c = 12 ∨ c = 13 ∨ c = 14 ∨ c = 15 := by omega
  unfold okM
  rcases k with rfl | rfl | rfl | rfl | rfl | rfl | rfl | rfl | rfl | rfl | rfl | rfl | rfl | rfl | rfl | rfl <;>
    (simp [tyS] at h ⊢) <;>
    (first
      | (subst h; simp; omega)
      | (rcases s with _ | ⟨a, _ | ⟨b, r⟩⟩ <;> (try cases a) <;> (try cases b) <;> simp at h ⊢ <;> (try subst h) <;> (try simp at hs ⊢) <;> (try omega)))
theorem rounds_ext {n : Nat} {wt : Nat → Int32} {pt : Nat → Nat → Int32} (h8 : n ≤ 8) {s s' : (Nat → Int32) × (Nat → Int32)} (hs : ∀ o, o < 8 → s.1 o = s'.1 o) :
    ∀ k o, o < 8 → (roundsS n wt pt s k).1 o = (roundsS n wt pt s' k).1 o := by
  have G : ∀ (pr pr' nx nx' : Nat → Int32), (∀ o, o < 8 → pr o = pr' o) → (∀ o, o < 8 → nx o = nx' o) → ∀ i, i ≤ n → ∀ o, o < 8 → givesAll n wt pt pr nx i o = givesAll n wt pt pr' nx' i o := by
    intro pr pr' nx nx' hp hx i
    induction i with
    | zero => intro _ o ho; exact hx o ho
    | succ i ih =>
      intro hi o ho
      have h1 := ih (by omega) o ho
      show givesS n wt pt pr i (givesAll n wt pt pr nx i) o = givesS n wt pt pr' i (givesAll n wt pt pr' nx' i) o
      unfold givesS
      rw [hp i (by omega)]
      split
      · unfold givS; rw [h1]
      · exact h1
  intro k
  induction k with
  | zero => exact hs
  | succ k ih =>
    intro o ho
    show (if o < 8 then givesAll n wt pt (roundsS n wt pt s k).1 (fun o => if o < 8 then 0 else (roundsS n wt pt s k).2 o) n o else _) = (if o < 8 then givesAll n wt pt (roundsS n wt pt s' k).1 (fun o => if o < 8 then 0 else (roundsS n wt pt s' k).2 o) n o else _)
    rw [if_pos ho, if_pos ho]
    exact G _ _ _ _ ih (fun o ho => by rw [if_pos ho, if_pos ho]) n (Nat.le_refl n) o ho
theorem m_laysE {h : Hp} {n : Nat} (hn : h 31 0 = nI n) (h8 : n ≤ 8) : ∃ h', f_X12_lays h = some h' ∧ ES h h' ∧ laid n h' := by
  refine ⟨_, m_lays hn h8, fun k a b _ => WP_ob a b, fun i hi => ?_⟩
  rw [WP_36, WP_31]
  exact rounds_ext h8 (fun o ho => if_pos ho) 12 i hi
