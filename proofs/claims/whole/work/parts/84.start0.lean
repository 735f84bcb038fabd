theorem inlX9 : ∀ w ∈ wsX90, w ∈ wsL_law := fun w h => List.mem_append_left _ (List.mem_append_left _ (List.mem_append_left _ (List.mem_append_left _ (List.mem_append_left _ (List.mem_append_left _ (List.mem_append_left _ (List.mem_append_left _ (List.mem_append_left _ (List.mem_append_left _ (List.mem_append_left _ (List.mem_append_right _ h)))))))))))
theorem inlX10 : ∀ w ∈ wsX100, w ∈ wsL_law := fun w h => List.mem_append_left _ (List.mem_append_left _ (List.mem_append_left _ (List.mem_append_left _ (List.mem_append_left _ (List.mem_append_left _ (List.mem_append_left _ (List.mem_append_left _ (List.mem_append_left _ (List.mem_append_left _ (List.mem_append_right _ h))))))))))
theorem inlX7 : ∀ w ∈ wsX70, w ∈ wsL_law := fun w h => List.mem_append_left _ (List.mem_append_left _ (List.mem_append_left _ (List.mem_append_left _ (List.mem_append_left _ (List.mem_append_left _ (List.mem_append_left _ (List.mem_append_left _ (List.mem_append_left _ (List.mem_append_right _ h)))))))))
theorem inlX3 : ∀ w ∈ wsX30, w ∈ wsL_law := fun w h => List.mem_append_left _ (List.mem_append_left _ (List.mem_append_left _ (List.mem_append_left _ (List.mem_append_left _ (List.mem_append_left _ (List.mem_append_left _ (List.mem_append_left _ (List.mem_append_right _ h))))))))
theorem inlX8 : ∀ w ∈ wsX80, w ∈ wsL_law := fun w h => List.mem_append_left _ (List.mem_append_left _ (List.mem_append_left _ (List.mem_append_left _ (List.mem_append_left _ (List.mem_append_left _ (List.mem_append_left _ (List.mem_append_right _ h)))))))
theorem inlX0 : ∀ w ∈ wsX00, w ∈ wsL_law := fun w h => List.mem_append_left _ (List.mem_append_left _ (List.mem_append_left _ (List.mem_append_left _ (List.mem_append_left _ (List.mem_append_left _ (List.mem_append_right _ h))))))
theorem inlX5 : ∀ w ∈ wsX50, w ∈ wsL_law := fun w h => List.mem_append_left _ (List.mem_append_left _ (List.mem_append_left _ (List.mem_append_left _ (List.mem_append_left _ (List.mem_append_right _ h)))))
theorem inlX6 : ∀ w ∈ wsX60, w ∈ wsL_law := fun w h => List.mem_append_left _ (List.mem_append_left _ (List.mem_append_left _ (List.mem_append_left _ (List.mem_append_right _ h))))
theorem inlX1 : ∀ w ∈ wsX10, w ∈ wsL_law := fun w h => List.mem_append_left _ (List.mem_append_left _ (List.mem_append_left _ (List.mem_append_right _ h)))
theorem inlX2 : ∀ w ∈ wsX20, w ∈ wsL_law := fun w h => List.mem_append_left _ (List.mem_append_left _ (List.mem_append_right _ h))
theorem inlX4 : ∀ w ∈ wsX40, w ∈ wsL_law := fun w h => List.mem_append_left _ (List.mem_append_right _ h)
/-- the reference's state at its birth -/
def M00 : St := (fun k => if k = 3 then 2 else 0, fun k => if k = 7 then upd (fun _ => 0) 1 2 else fun _ => 0, 0)
theorem Inv00 : Inv S01 M00 := by
  refine ⟨0, 0, 2, 0, 0, 0, 0, ⟨by omega, rfl, rfl, rfl⟩, ⟨⟨by omega, rfl, rfl⟩, ⟨by omega, by omega, rfl, rfl⟩, ⟨rfl, rfl, rfl⟩, ⟨rfl, rfl, rfl⟩, fun i => ⟨0, by omega, rfl⟩, fun i hi => absurd hi (by omega)⟩, ?_, ⟨⟨by omega, by omega, rfl, rfl, rfl⟩, fun j hj => absurd hj (by omega)⟩, ⟨⟨by omega, rfl⟩, fun k hk => ⟨?_, fun q => absurd q (by rw [Nat.zero_div]; decide)⟩⟩, ⟨by omega, rfl, rfl, rfl, rfl⟩, rfl⟩
  · exact ⟨⟨rfl, rfl, rfl, rfl, rfl, rfl, rfl, rfl⟩, 0, 2, 0, 0, ⟨by omega, rfl, rfl, rfl, rfl, by decide, rfl, fun q => absurd q (by omega), Or.inl rfl, by decide, 0, rfl, by omega⟩, fun i hi => absurd hi (by omega)⟩
  · rw [Nat.zero_div]; rfl
theorem arr_of {args : Array Value} {s : State} {ty : FieldType} (h : (Cond.arrayClass ty).before args s = true) : ∃ cA : ClassId, s.vm.findClass ("[" ++ ty.toString) = some cA ∧ ArrOfT s cA ty := by
  obtain ⟨cA, kA, comp, h1, h2, h3⟩ := Cond.arrayClass_spec h
  exact ⟨cA, h1, fun n z => ⟨fun k h => (by cases h), kA, h2, comp, h3⟩⟩
set_option maxHeartbeats 4000000 in
set_option maxRecDepth 100000 in
theorem xN_of {args : Array Value} {s : State} (h : ∀ w ∈ lw_tbl, w.before args s = true) : xN s := by
  intro q hq
  have hm : ∀ q ∈ xNw, Cond.fieldLinkNest q.1 q.2.1 q.2.2.1 q.2.2.2.1 q.2.2.2.2 "TenArrows" ∈ lw_tbl := by decide +kernel
  exact va_Nw.of rfl (h _ (hm q hq))
set_option maxHeartbeats 4000000 in
set_option maxRecDepth 100000 in
theorem xM_of {args : Array Value} {s : State} (h : ∀ w ∈ lw_tbl, w.before args s = true) : xM s := by
  intro k q hq
  have hm : ∀ q ∈ xMw, Cond.methodLinkNest RX9 q.1 q.2 RX9 ∈ lw_tbl := by decide +kernel
  exact va_Nw.of rfl (h _ (hm q (List.mem_of_getElem? hq)))
