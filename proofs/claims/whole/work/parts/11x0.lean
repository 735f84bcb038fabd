def wX (cI cZ : ClassId) (a : Nat → Nat) (S : St) : va_W := [(a 0, .inr (9, [.ref (a 1), .ref (a 3), .ref (a 7), .ref (a 9), .ref (a 11), .ref (a 13), .ref (a 16), .ref (a 18), .ref (a 19), .long S.2.2])), (a 1, .inr (7, [.ref (a 2), .int (S.1 0)])), (a 2, .inl (cI, 40, .inl (S.2.1 0))), (a 3, .inr (3, [.int (S.1 1), .int (S.1 2), .int (S.1 3), .int (S.1 4), .int (S.1 5), .int (S.1 6), .ref (a 4), .ref (a 5), .ref (a 6), .ref (a 20)])), (a 4, .inl (cI, 8, .inl (S.2.1 1))), (a 5, .inl (cI, 8, .inl (S.2.1 2))), (a 6, .inl (cI, 8, .inl (S.2.1 3))), (a 7, .inr (8, [.int (S.1 7), .int (S.1 8), .int (S.1 9), .int (S.1 10), .int (S.1 11), .int (S.1 12), .int (S.1 13), .int (S.1 14), .ref (a 8)])), (a 8, .inl (cI, 8, .inl (S.2.1 4))), (a 9, .inr (0, [.ref (a 10), .int (S.1 15), .int (S.1 16)])), (a 10, .inl (cI, 224, .inl (S.2.1 5))), (a 11, .inr (5, [.ref (a 12), .int (S.1 17)])), (a 12, .inl (cI, 32, .inl (S.2.1 6))), (a 13, .inr (6, [.ref (a 14), .ref (a 15), .int (S.1 18), .int (S.1 19), .int (S.1 20), .int (S.1 21)])), (a 14, .inl (cI, 6, .inl (S.2.1 7))), (a 15, .inl (cI, 6, .inl (S.2.1 8))), (a 16, .inr (1, [.ref (a 3), .ref (a 7), .ref (a 17)])), (a 17, .inl (cI, 7, .inl (S.2.1 9))), (a 18, .inr (2, [.ref (a 3), .ref (a 7)])), (a 19, .inr (4, [.ref (a 16), .int (S.1 22), .int (S.1 23), .int (S.1 24), .int (S.1 25), .int (S.1 26)])), (a 20, .inl (cI, 8, .inl (S.2.1 10)))]
def xA (a : Nat → Nat) : Nat → Prop := fun q => ∃ k, k < 21 ∧ q = a k
def xJ (a : Nat → Nat) : Prop := ∀ i j, i < 21 → j < 21 → a i = a j → i = j
theorem xAt (cI cZ : ClassId) (a : Nat → Nat) (S : St) {k : Nat} {q : Nat × va_E} (h : (wX cI cZ a S)[k]? = some q) : k < 21 ∧ q.1 = a k := by
  have hk : k < 21 := (List.getElem?_eq_some_iff.mp h).1
  refine ⟨hk, ?_⟩
  have h1 : ((wX cI cZ a S).map Prod.fst)[k]? = some q.1 := by rw [List.getElem?_map, h]; rfl
  rw [show (wX cI cZ a S).map Prod.fst = (List.range 21).map a from rfl, List.getElem?_map, List.getElem?_range hk] at h1
  exact (Option.some.inj h1).symm
theorem xD {cI cZ : ClassId} {a : Nat → Nat} (hJ : xJ a) : ∀ S : St, va_D (xA a) (wX cI cZ a S) := by
  intro S
  refine ⟨fun i j x y hi hj hxy => ?_, fun k q hk => ?_⟩
  · obtain ⟨h1, h2⟩ := xAt cI cZ a S hi
    obtain ⟨h3, h4⟩ := xAt cI cZ a S hj
    exact hJ i j h1 h3 (by rw [← h2, ← h4, hxy])
  · obtain ⟨h1, h2⟩ := xAt cI cZ a S hk
    exact ⟨k, h1, h2⟩
