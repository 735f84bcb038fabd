/-! ===== questions about what is, tests, seed ===== -/
theorem inC {i N : Nat} (h : i < N) (hN : N < 2147483648) : ¬ (nI i < 0 ∨ N ≤ i) := by
  rintro (q | q)
  · exact nI_pos (by omega) q
  · omega
theorem op_byBook {S M : St} (h : Inv S M) : ∃ r M', f_X9_byBook S = some r ∧ f_X10_byBook M = some (r, M') ∧ Inv S M' := by
  have h0 := h
  obtain ⟨tl, st, ar, ct, fi, fl, tc, hT, hL, hW, hA, hSl, hTe, hs0⟩ := h
  refine ⟨_, sI M 0 0, rfl, ?_, h0.t 0⟩
  unfold f_X10_byBook
  rw [nm_eq, show (sI M 0 0).1 3 = S.1 1 from hL.2.1.2.2.2.trans hL.2.1.2.2.1.symm, show (sI M 0 0).2.1 7 3 = S.1 9 from hW.1.2.2.2.1.symm, show (sI M 0 0).2.1 7 2 = S.1 8 from hW.1.2.2.1.symm]
theorem op_about {S M : St} (h : Inv S M) (x : Int32) : ∃ r M', f_X9_about x S = some r ∧ f_X10_about x M = some (r, M') ∧ Inv S M' := by
  have h0 := h
  obtain ⟨tl, st, ar, ct, fi, fl, tc, hT, hL, hW, hA, hSl, hTe, hs0⟩ := h
  have w := hW.1
  by_cases c0 : x = 0
  · subst c0
    exact ⟨_, sI M 0 0, rfl, congrArg (fun z => some (z, sI M 0 0)) (show M.1 3 = S.1 1 from hL.2.1.2.2.2.trans hL.2.1.2.2.1.symm), h0.t 0⟩
  by_cases c1 : x = 1
  · subst c1
    exact ⟨_, sI M 0 0, rfl, congrArg (fun z => some (z, sI M 0 0)) (show M.1 5 = S.1 6 from hL.1.2.2.trans hL.1.2.1.symm), h0.t 0⟩
  by_cases c2 : x = 2
  · subst c2
    exact ⟨_, sI M 0 0, rfl, congrArg (fun z => some (z, sI M 0 0)) (show M.2.1 7 0 = S.1 10 from w.1.symm), h0.t 0⟩
  by_cases c3 : x = 3
  · subst c3
    exact ⟨_, sI M 0 0, rfl, congrArg (fun z => some (z, sI M 0 0)) (show M.2.1 7 1 = S.1 7 from w.2.1.symm), h0.t 0⟩
  by_cases c4 : x = 4
  · subst c4
    exact ⟨_, sI M 0 0, rfl, congrArg (fun z => some (z, sI M 0 0)) (show M.2.1 7 2 = S.1 8 from w.2.2.1.symm), h0.t 0⟩
  by_cases c5 : x = 5
  · subst c5
    exact ⟨_, sI M 0 0, rfl, congrArg (fun z => some (z, sI M 0 0)) (show M.2.1 7 3 = S.1 9 from w.2.2.2.1.symm), h0.t 0⟩
  by_cases c6 : x = 6
  · subst c6
    exact ⟨_, sI M 0 0, rfl, congrArg (fun z => some (z, sI M 0 0)) (show M.2.1 7 4 = S.1 11 from w.2.2.2.2.1.symm), h0.t 0⟩
  by_cases c7 : x = 7
  · subst c7
    exact ⟨_, sI M 0 0, rfl, congrArg (fun z => some (z, sI M 0 0)) (show M.2.1 7 5 = S.1 12 from w.2.2.2.2.2.1.symm), h0.t 0⟩
  by_cases c8 : x = 8
  · subst c8
    exact ⟨_, sI M 0 0, rfl, congrArg (fun z => some (z + 50, sI M 0 0)) (show M.2.1 7 6 = S.1 13 from w.2.2.2.2.2.2.1.symm), h0.t 0⟩
  by_cases c9 : x = 9
  · subst c9
    exact ⟨_, sI M 0 0, rfl, congrArg (fun z => some (z, sI M 0 0)) (show M.2.1 7 7 = S.1 14 from w.2.2.2.2.2.2.2.symm), h0.t 0⟩
  by_cases c10 : x = 10
  · subst c10
    exact ⟨_, sI M 0 0, rfl, congrArg (fun z => some (z, sI M 0 0)) (show M.1 7 = S.1 16 from hA.1.2.2.2.1.trans hA.1.2.2.1.symm), h0.t 0⟩
  by_cases c11 : x = 11
  · subst c11
    exact ⟨_, sI M 0 0, rfl, congrArg (fun z => some (z, sI M 0 0)) (show M.1 8 = S.1 18 from hTe.2.2.1.trans hTe.2.1.symm), h0.t 0⟩
  by_cases c12 : x = 12
  · subst c12
    exact ⟨_, sI M 0 0, rfl, congrArg (fun z => some (z, sI M 0 0)) (show M.1 1 = S.1 0 from hT.2.2.1.trans hT.2.1.symm), h0.t 0⟩
  by_cases c13 : x = 13
  · subst c13
    exact ⟨_, sI M 0 0, rfl, congrArg (fun z => some (z + 5, sI M 0 0)) (show M.2.1 1 0 = S.1 4 from hL.2.2.1.2.1.symm), h0.t 0⟩
  by_cases c14 : x = 14
  · subst c14
    exact ⟨_, sI M 0 0, rfl, congrArg (fun z => some (z + 5, sI M 0 0)) (show M.2.1 1 1 = S.1 5 from hL.2.2.1.2.2.symm), h0.t 0⟩
  refine ⟨-2, sI M 0 0, ?_, ?_, h0.t 0⟩
  · unfold f_X9_about
    rw [if_neg c0, if_neg c1, if_neg c2, if_neg c3, if_neg c4, if_neg c5, if_neg c6, if_neg c7, if_neg c8, if_neg c9, if_neg c10, if_neg c11, if_neg c12, if_neg c13, if_neg c14]
  · unfold f_X10_about
    rw [nm_eq, if_neg c0, if_neg c1, if_neg c2, if_neg c3, if_neg c4, if_neg c5, if_neg c6, if_neg c7, if_neg c8, if_neg c9, if_neg c10, if_neg c11, if_neg c12, if_neg c13, if_neg c14]
theorem op_stage {S M : St} (h : Inv S M) (x y : Int32) : ∃ r M', f_X9_stage x y S = some r ∧ f_X10_stage x y M = some (r, M') ∧ Inv S M' := by
  have h0 := h
  obtain ⟨tl, st, ar, ct, fi, fl, tc, h⟩ := h
  have hL := h.2.1
  obtain ⟨g1, pl, hh, b, lo, ⟨v1, v2, v3, v4, v5, v6, v7, v8, v9, v10, v11⟩, h3⟩ := id h.2.2.1
  have v2 : S.1 10 = nI pl := v2
  have v5 : S.1 11 = nI lo := v5
  have hst : st ≤ 8 := hL.1.1
  have hlo : lo < 256 := lo_256 (by omega) v6
  have h5 : (sI M 0 0).1 5 = nI st := hL.1.2.2
  have p0 : (sI M 0 0).2.1 7 0 = nI pl := by rw [sI2, ← v2]; exact g1.1.symm
  have p4 : (sI M 0 0).2.1 7 4 = nI lo := by rw [sI2, ← v5]; exact g1.2.2.2.2.1.symm
  unfold f_X9_stage f_X10_stage
  rw [nm_eq]
  rcases (or_assoc.mpr (pk_ix x (n := st) (by omega))) with hx | ⟨s, hs, rfl⟩
  · rw [has_no hL.1.2.1 hx, noS_no h5 hst hx]
    simp only [bSome]
    rw [if_pos trivial, if_neg (by decide)]
    exact ⟨_, _, rfl, rfl, h0.t 0⟩
  rw [has_yes hL.1.2.1 hst hs, noS_yes h5 hst hs, kindOf_yes hL.1.2.1 hst hs, valueOf_yes hL.1.2.1 hst hs, gorseOf_yes hL.1.2.1 hst hs, p0, p4]
  simp only [bSome]
  rw [if_neg (show ¬ ((1 : Int32) = 0) by decide), if_pos trivial]
  simp only [if_neg (inN (show s < 8 by omega) (show 8 < 2147483648 by omega))]
  simp only [clN (show s < 2147483648 by omega)]
  by_cases c0 : y = 0
  · rw [if_pos c0, if_pos c0]
    refine ⟨_, sI M 0 0, rfl, ?_, h0.t 0⟩
    rw [sI2, hL.2.2.2.1.1]
  rw [if_neg c0, if_neg c0]
  by_cases c1 : y = 1
  · rw [if_pos c1, if_pos c1]
    refine ⟨_, sI M 0 0, rfl, ?_, h0.t 0⟩
    rw [sI2, hL.2.2.2.1.2.1]
  rw [if_neg c1, if_neg c1]
  by_cases c2 : y = 2
  · rw [if_pos c2, if_pos c2]
    refine ⟨_, sI M 0 0, rfl, ?_, h0.t 0⟩
    rw [sI2, hL.2.2.2.1.2.2]
  rw [if_neg c2, if_neg c2]
  by_cases c3 : y = 3
  · rw [if_pos c3, if_pos c3]
    by_cases c : s < pl
    · unfold f_X8_errorOf
      rw [laid_yes v2 (by omega) c]
      simp only [bSome]
      rw [if_neg (show ¬ ((1 : Int32) = 0) by decide), if_neg (show ¬ ((1 : Int32) = 0) by decide), if_neg (show ¬ nI pl ≤ nI s by rw [leN (by omega) (by omega)]; omega), show (8 : Int32) + nI s = nI (8 + s) from nI_add 8 s, if_neg (inN (show 8 + s < 16 by omega) (by omega)), clN (show 8 + s < 2147483648 by omega), if_neg (inN (show s < 8 by omega) (by omega)), clN (by omega)]
      simp only [bSome]
      refine ⟨_, sI M 0 0, rfl, ?_, h0.t 0⟩
      rw [sI2, show S.2.1 4 s = M.2.1 7 (8 + s) from h3 s c]
    · rw [laid_no v2 (Or.inr ((leN (by omega) (by omega)).mpr (by omega))), if_pos ((leN (by omega) (by omega)).mpr (by omega))]
      simp only [bSome]
      rw [if_pos trivial]
      exact ⟨_, _, rfl, rfl, h0.t 0⟩
  rw [if_neg c3, if_neg c3]
  by_cases c4 : y = 4
  · rw [if_pos c4, if_pos c4, bit_get s (by omega) lo hlo]
    by_cases c : s < pl
    · rw [isLost_yes v2 (by omega) v5 hlo c]
      simp only [bSome]
      by_cases z : lo / 2 ^ s % 2 = 0
      · rw [z, if_pos (show nI 0 = 0 from rfl)]
        exact ⟨_, _, rfl, rfl, h0.t 0⟩
      · have z1 : lo / 2 ^ s % 2 = 1 := by omega
        rw [z1, if_neg (by decide)]
        exact ⟨_, _, rfl, rfl, h0.t 0⟩
    · rw [isLost_no v2 (Or.inr ((leN (by omega) (by omega)).mpr (by omega))), bit_above pl (by omega) s (by omega) (by omega) lo hlo v6]
      simp only [bSome]
      rw [if_pos trivial]
      exact ⟨_, _, rfl, rfl, h0.t 0⟩
  rw [if_neg c4, if_neg c4]
  exact ⟨_, _, rfl, rfl, h0.t 0⟩
/-! ===== sums ===== -/
def sumI (f : Nat → Int32) : Nat → Nat → Int32
  | _, 0 => 0
  | i, k + 1 => f i + sumI f (i + 1) k
theorem sumI_cong {f g : Nat → Int32} : ∀ (k i : Nat), (∀ j, i ≤ j → j < i + k → f j = g j) → sumI f i k = sumI g i k
  | 0, _, _ => rfl
  | k + 1, i, h => by
    rw [sumI, sumI, h i (by omega) (by omega), sumI_cong k (i + 1) (fun j h1 h2 => h j (by omega) (by omega))]
theorem sumI_last (f : Nat → Int32) : ∀ (k i : Nat), sumI f i (k + 1) = sumI f i k + f (i + k)
  | 0, i => by simp [sumI]
  | k + 1, i => by
    rw [sumI, sumI_last f k (i + 1), ← Int32.add_assoc, sumI]
    congr 2; omega
theorem errT {S : St} {pl : Nat} (h10 : S.1 10 = nI pl) (hpl : pl ≤ 8) : ∀ (k i n : Nat) (acc : Int32), i + k = pl → k < n → l_X8_errorsTogether_4 S n acc (nI i) = some (acc + sumI (S.2.1 4) i k) := by
  intro k
  induction k with
  | zero =>
    intro i n acc hi hn
    obtain ⟨n, rfl⟩ : ∃ m, n = m + 1 := ⟨n - 1, by omega⟩
    rw [l_X8_errorsTogether_4, h10, if_pos ((leN (by omega) (by omega)).mpr (by omega)), sumI, Int32.add_zero]
  | succ k ih =>
    intro i n acc hi hn
    obtain ⟨n, rfl⟩ : ∃ m, n = m + 1 := ⟨n - 1, by omega⟩
    rw [l_X8_errorsTogether_4, h10, if_neg (by rw [leN (by omega) (by omega)]; omega)]
    unfold f_X8_errorOf
    rw [laid_yes h10 hpl (by omega)]
    simp only [bSome]
    rw [if_neg (show ¬ ((1 : Int32) = 0) by decide), if_neg (inN (show i < 8 by omega) (by omega)), clN (by omega)]
    simp only [bSome]
    rw [show nI i + 1 = nI (i + 1) from nI_1 i, ih (i + 1) n _ (by omega) (by omega), sumI, Int32.add_assoc]
theorem truM {M : St} {pl : Nat} (h0 : M.2.1 7 0 = nI pl) (hpl : pl ≤ 8) : ∀ (k i n : Nat) (acc : Int32), i + k = pl → k < n → l_X10_truly_11 M n acc (nI i) = some (acc + sumI (fun j => 1000 + M.2.1 7 (8 + j)) i k) := by
  intro k
  induction k with
  | zero =>
    intro i n acc hi hn
    obtain ⟨n, rfl⟩ : ∃ m, n = m + 1 := ⟨n - 1, by omega⟩
    rw [l_X10_truly_11, h0, if_pos ((leN (by omega) (by omega)).mpr (by omega)), sumI, Int32.add_zero]
  | succ k ih =>
    intro i n acc hi hn
    obtain ⟨n, rfl⟩ : ∃ m, n = m + 1 := ⟨n - 1, by omega⟩
    rw [l_X10_truly_11, h0, if_neg (by rw [leN (by omega) (by omega)]; omega), show (8 : Int32) + nI i = nI (8 + i) from nI_add 8 i, if_neg (inN (show 8 + i < 16 by omega) (by omega)), clN (by omega), nm_eq, show nI i + 1 = nI (i + 1) from nI_1 i, ih (i + 1) n _ (by omega) (by omega), sumI, Int32.add_assoc]
theorem sum1000 (f : Nat → Int32) : ∀ (k i : Nat), sumI (fun j => 1000 + f j) i k = 1000 * nI k + sumI f i k
  | 0, i => rfl
  | k + 1, i => by
    rw [sumI, sum1000 f k (i + 1), sumI, ← nI_1 k, Int32.mul_add, Int32.mul_one]
    ac_rfl
theorem op_truly {S M : St} (h : Inv S M) : ∃ r M', f_X9_truly S = some r ∧ f_X10_truly M = some (r, M') ∧ Inv S M' := by
  have h0 := h
  obtain ⟨tl, st, ar, ct, fi, fl, tc, h⟩ := h
  have hL := h.2.1
  obtain ⟨g1, pl, hh, b, lo, ⟨v1, v2, v3, v4, v5, v6, v7, v8, v9, v10, v11⟩, h3⟩ := id h.2.2.1
  have v2 : S.1 10 = nI pl := v2
  have hst : st ≤ 8 := hL.1.1
  have p0 : (sI M 0 0).2.1 7 0 = nI pl := by rw [sI2, ← v2]; exact g1.1.symm
  unfold f_X9_truly f_X10_truly f_X8_errorsTogether
  rw [nm_eq]
  rw [show (0 : Int32) = nI 0 from rfl] at p0 ⊢
  rw [errT v2 (by omega) pl 0 fuel _ (by omega) (Nat.lt_of_le_of_lt (show pl ≤ 8 by omega) (by decide)), truM p0 (by omega) pl 0 fuel _ (by omega) (Nat.lt_of_le_of_lt (show pl ≤ 8 by omega) (by decide)), v2]
  simp only [bSome]
  refine ⟨_, sI M 0 (nI 0), rfl, ?_, h0.t 0⟩
  have e : sumI (fun j => 1000 + (sI M 0 (nI 0)).2.1 7 (8 + j)) 0 pl = 1000 * nI pl + sumI (S.2.1 4) 0 pl := by
    rw [sum1000 (fun j => (sI M 0 (nI 0)).2.1 7 (8 + j))]
    rw [sumI_cong (f := S.2.1 4) (g := fun j => (sI M 0 (nI 0)).2.1 7 (8 + j)) pl 0 (fun j _ hj => h3 j (by omega))]
  rw [e, show nI 0 + sumI (S.2.1 4) 0 pl = sumI (S.2.1 4) 0 pl from Int32.zero_add _, Int32.add_assoc]
/-! ===== tests, seed ===== -/
theorem op_untest {S M : St} (h : Inv S M) : ∃ r S' M', f_X9_untest S = some (r, S') ∧ f_X10_untest M = some (r, M') ∧ Inv S' M' := by
  obtain ⟨tl, st, ar, ct, fi, fl, tc, hT, hL, hW, hA, hSl, hTe, hs0⟩ := h
  refine ⟨nI tc, sI S 18 0, sI (sI M 0 0) 8 0, ?_, ?_, tl, st, ar, ct, fi, fl, 0, hT, hL, hW, hA, hSl, ⟨by omega, rfl, rfl, hTe.2.2.2⟩, hs0⟩
  · unfold f_X9_untest; rw [nm_eq, hTe.2.1]
  · unfold f_X10_untest; rw [nm_eq, nm_eq, show (sI M 0 0).1 8 = nI tc from hTe.2.2.1]
theorem op_seed {S M : St} (h : Inv S M) (v : Int64) : ∃ r S' M', f_X9_seed v S = some (r, S') ∧ f_X10_seed v M = some (r, M') ∧ Inv S' M' := by
  obtain ⟨tl, st, ar, ct, fi, fl, tc, hT, hL, hW, hA, hSl, hTe, hs0⟩ := h
  refine ⟨S.2.2, sL S v, sL (sI M 0 0) v, rfl, ?_, tl, st, ar, ct, fi, fl, tc, hT, hL, hW, hA, hSl, hTe, rfl⟩
  unfold f_X10_seed
  rw [nm_eq, nm_eq, hs0]; rfl
theorem op_test {S M : St} (h : Inv S M) (x y : Int32) : ∃ r S' M', f_X9_test x y S = some (r, S') ∧ f_X10_test x y M = some (r, M') ∧ Inv S' M' := by
  have h0 := h
  obtain ⟨tl, st, ar, ct, fi, fl, tc, hT, hL, hW, hA, hSl, hTe, hs0⟩ := h
  obtain ⟨t1, t2, t3, t4, t5⟩ := id hTe
  unfold f_X9_test f_X10_test
  rw [nm_eq, show (0 : Int64) = (0 : Int32).toInt64 from rfl, show (7 : Int64) = (7 : Int32).toInt64 from rfl, show (-9 : Int64) = (-9 : Int32).toInt64 from rfl, show (9 : Int64) = (9 : Int32).toInt64 from rfl]
  by_cases c1 : x < 0
  · rw [if_pos c1, in_no (Or.inl c1)]
    exact ⟨_, _, _, rfl, rfl, h0.t 0⟩
  rw [if_neg c1]
  have z7 : (7 : Int32).toInt = 7 := rfl
  have z8 : (8 : Int32).toInt = 8 := rfl
  have z9 : (9 : Int32).toInt = 9 := rfl
  have z0 : (0 : Int32).toInt = 0 := rfl
  have zm : (-9 : Int32).toInt = -9 := rfl
  by_cases c2 : 8 ≤ x
  · rw [if_pos c2, in_no (Or.inr (by rw [fa_le] at c2; rw [fa_lt]; omega))]
    exact ⟨_, _, _, rfl, rfl, h0.t 0⟩
  rw [if_neg c2, in_yes (by rw [fa_lt] at c1; rw [fa_le]; omega) (by rw [fa_le] at c2; rw [fa_le]; omega)]
  simp only [bSome]
  rw [if_neg (show ¬ ((1 : Int32) = 0) by decide)]
  by_cases c3 : y < -9
  · rw [if_pos c3, in_no (Or.inl c3)]
    exact ⟨_, _, _, rfl, rfl, h0.t 0⟩
  rw [if_neg c3]
  by_cases c4 : y ≤ 9
  · rw [if_pos c4, in_yes (by rw [fa_lt] at c3; rw [fa_le]; omega) c4]
    simp only [bSome]
    rw [if_neg (show ¬ ((1 : Int32) = 0) by decide), show (sI M 0 0).1 8 = nI tc from t3]
    unfold f_X6_append
    rw [t2, if_neg (nI_pos (by omega))]
    by_cases c : tc = 6
    · subst c
      rw [if_neg (show ¬ nI 6 < 6 by decide), if_pos (show nI 6 = 6 from rfl)]
      exact ⟨_, _, _, rfl, rfl, h0.t 0⟩
    · have hlt : tc < 6 := by omega
      rw [if_pos (show nI tc < 6 from (ltN (b := 6) (by omega) (by omega)).mpr hlt), if_neg (show ¬ nI tc = 6 from fun q => by rw [show (6 : Int32) = nI 6 from rfl, eqN (by omega) (by omega)] at q; exact c q)]
      refine ⟨nI (tc + 1), sI (sA (sA S 7 tc x) 8 tc y) 18 (nI (tc + 1)), sI (sA (sA (sI M 0 0) 11 tc x) 12 tc y) 8 (nI (tc + 1)), ?_, ?_, tl, st, ar, ct, fi, fl, tc + 1, hT, hL, hW, hA, hSl, ⟨by omega, rfl, rfl, ?_, ?_⟩, hs0⟩
      · rw [if_neg (inN hlt (by omega)), clN (by omega), nm_eq, show (sA S 7 tc x).1 18 = nI tc from t2, if_neg (inN hlt (by omega)), clN (by omega), nm_eq, nm_eq, show (sA (sA S 7 tc x) 8 tc y).1 18 = nI tc from t2, show nI tc + 1 = nI (tc + 1) from nI_1 tc]
        rfl
      · rw [if_neg (inN hlt (by omega)), clN (by omega), nm_eq, show (sA (sI M 0 0) 11 tc x).1 8 = nI tc from t3, if_neg (inN hlt (by omega)), clN (by omega), nm_eq, nm_eq, show (sA (sA (sI M 0 0) 11 tc x) 12 tc y).1 8 = nI tc from t3, show nI tc + 1 = nI (tc + 1) from nI_1 tc]
        rfl
      · show upd (S.2.1 7) tc x = upd (M.2.1 11) tc x
        rw [t4]
      · show upd (S.2.1 8) tc y = upd (M.2.1 12) tc y
        rw [t5]
  · rw [if_neg c4, in_no (Or.inr (by rw [fa_le] at c4; rw [fa_lt]; omega))]
    exact ⟨_, _, _, rfl, rfl, h0.t 0⟩
