def wM (cI cZ : ClassId) (a : Nat → Nat) (S : St) : va_W := [(a 0, .inr (10, [.int (S.1 0), .ref (a 1), .int (S.1 1), .int (S.1 2), .int (S.1 3), .int (S.1 4), .int (S.1 5), .ref (a 2), .ref (a 3), .ref (a 4), .ref (a 5), .ref (a 6), .int (S.1 6), .ref (a 7), .ref (a 8), .ref (a 9), .int (S.1 7), .ref (a 10), .ref (a 11), .int (S.1 8), .ref (a 12), .ref (a 13), .long S.2.2, .int (S.1 9), .int (S.1 10), .ref (a 14), .int (S.1 11), .int (S.1 12), .int (S.1 13), .int (S.1 14), .int (S.1 15)])), (a 1, .inl (cI, 40, .inl (S.2.1 0))), (a 2, .inl (cI, 2, .inl (S.2.1 1))), (a 3, .inl (cI, 8, .inl (S.2.1 2))), (a 4, .inl (cI, 8, .inl (S.2.1 3))), (a 5, .inl (cI, 8, .inl (S.2.1 4))), (a 6, .inl (cI, 5, .inl (S.2.1 5))), (a 7, .inl (cI, 24, .inl (S.2.1 6))), (a 8, .inl (cI, 16, .inl (S.2.1 7))), (a 9, .inl (cI, 224, .inl (S.2.1 8))), (a 10, .inl (cI, 32, .inl (S.2.1 9))), (a 11, .inl (cZ, 2, .inl (S.2.1 10))), (a 12, .inl (cI, 6, .inl (S.2.1 11))), (a 13, .inl (cI, 6, .inl (S.2.1 12))), (a 14, .inl (cI, 16, .inl (S.2.1 13)))]
def mA (a : Nat → Nat) : Nat → Prop := fun q => ∃ k, k < 15 ∧ q = a k
def mJ (a : Nat → Nat) : Prop := ∀ i j, i < 15 → j < 15 → a i = a j → i = j
theorem mAt (cI cZ : ClassId) (a : Nat → Nat) (S : St) {k : Nat} {q : Nat × va_E} (h : (wM cI cZ a S)[k]? = some q) : k < 15 ∧ q.1 = a k := by
  have hk : k < 15 := (List.getElem?_eq_some_iff.mp h).1
  refine ⟨hk, ?_⟩
  have h1 : ((wM cI cZ a S).map Prod.fst)[k]? = some q.1 := by rw [List.getElem?_map, h]; rfl
  rw [show (wM cI cZ a S).map Prod.fst = (List.range 15).map a from rfl, List.getElem?_map, List.getElem?_range hk] at h1
  exact (Option.some.inj h1).symm
theorem mD {cI cZ : ClassId} {a : Nat → Nat} (hJ : mJ a) : ∀ S : St, va_D (mA a) (wM cI cZ a S) := by
  intro S
  refine ⟨fun i j x y hi hj hxy => ?_, fun k q hk => ?_⟩
  · obtain ⟨h1, h2⟩ := mAt cI cZ a S hi
    obtain ⟨h3, h4⟩ := mAt cI cZ a S hj
    exact hJ i j h1 h3 (by rw [← h2, ← h4, hxy])
  · obtain ⟨h1, h2⟩ := mAt cI cZ a S hk
    exact ⟨k, h1, h2⟩
