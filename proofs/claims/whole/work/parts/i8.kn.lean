/-! ASSEMBLY: what the law's frame knows -/
theorem k_kn {s : State} {args : Array Value} (l : Launch) (hts : ∀ w ∈ lw_tbl, w.before args s = true) : ∃ (D : va_G) (c : Nat → ClassId), KN ((l, D, c) : NG) s := by
  obtain ⟨D, hD⟩ := k_cls (k_tb hts)
  obtain ⟨c0, a0⟩ := k_arP (ty := .int) (by simp) (hts _ (by decide +kernel))
  obtain ⟨c1, a1⟩ := k_arP (ty := .byte) (by simp) (hts _ (by decide +kernel))
  obtain ⟨c2, a2⟩ := k_arP (ty := .boolean) (by simp) (hts _ (by decide +kernel))
  obtain ⟨c3, a3⟩ := k_arP (ty := .long) (by simp) (hts _ (by decide +kernel))
  have hov : (Cond.arrayOver (.object "LeanCity$City")).before args s = true := hts _ (by decide +kernel)
  obtain ⟨c4, a4⟩ := k_arC hov
  refine ⟨D, fun k => if k = 0 then c0 else if k = 1 then c1 else if k = 2 then c2 else if k = 3 then c3 else c4, ⟨hD, fun k q hq => ?_⟩, va_AO.of (A := args) hov, k_nwn hts⟩
  match k, hq with
  | 0, hq => cases hq; exact a0
  | 1, hq => cases hq; exact a1
  | 2, hq => cases hq; exact a2
  | 3, hq => cases hq; exact a3
  | 4, hq => cases hq; exact a4
  | k + 5, hq => simp [tysN] at hq
