/-! ASSEMBLY: what the tables say -/
section WO5
variable {s : State} {args : Array Value}
theorem k_nw (hts : ∀ w ∈ lw_tbl, w.before args s = true) : ∀ w ∈ NW, va_Nw w s := by
  intro w hw
  have hb := (List.mem_filter.mp hw).2
  have h := hts w (List.mem_filter.mp hw).1
  cases w <;> first | (cases hb; done) | exact va_Nw.of rfl h
theorem k_nwn (hts : ∀ w ∈ lw_tbl, w.before args s = true) : ∀ w ∈ NWN, va_Nw w s := by
  intro w hw
  have hb := (List.mem_filter.mp hw).2
  have h := hts w (List.mem_filter.mp hw).1
  cases w <;> first | (cases hb; done) | exact va_Nw.of rfl h
theorem k_tb (hts : ∀ w ∈ lw_tbl, w.before args s = true) : ∀ w ∈ TB, w.before args s = true := fun w hw => hts w (List.mem_filter.mp hw).1
theorem k_flags {l : Launch} (h : l.flags = flags0) : l.stackTraces = false := by
  unfold Launch.stackTraces
  rw [h]
  decide
theorem k_zq1 (hts : ∀ w ∈ lw_tbl, w.before args s = true) (hgv : (Jvm.Cond.and given_1 narrow_1).before args s = true) : vx_Zq Bundle.tN "UNASSIGNED_STACK" Bundle.steD (fun q => s.heap.size ≤ q) s s.heap :=
  vx_Zqof (args := args) (hts _ (by decide +kernel)) (hts _ (by decide +kernel)) (flat_of_before _ hgv _ (by decide +kernel)) (fun a h q => by omega)
theorem k_zq2 (hts : ∀ w ∈ lw_tbl, w.before args s = true) (hgv : (Jvm.Cond.and given_1 narrow_1).before args s = true) : vx_Zq Bundle.tN "SUPPRESSED_SENTINEL" Bundle.listD (fun q => s.heap.size ≤ q) s s.heap :=
  vx_Zqof (args := args) (hts _ (by decide +kernel)) (hts _ (by decide +kernel)) (flat_of_before _ hgv _ (by decide +kernel)) (fun a h q => by omega)
theorem k_nc (hts : ∀ w ∈ lw_tbl, w.before args s = true) (hgv : (Jvm.Cond.and given_1 narrow_1).before args s = true) : ∀ q ∈ ncL, va_Nc q.1 q.2 s := fun q hq =>
  by
  have hs := flat_of_before _ hgv
  unfold ncL at hq
  simp only [List.mem_cons, List.not_mem_nil, or_false] at hq
  rcases hq with rfl | rfl | rfl | rfl | rfl | rfl | rfl | rfl <;> exact va_Nc.of (args := args) (hs _ (by decide +kernel))
end WO5
