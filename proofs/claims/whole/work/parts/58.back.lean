/-! ===== back ===== -/
theorem gl_step (g : Nat → Int32) {pl n : Nat} (h : n < pl) : sumI g (pl - (n + 1)) (n + 1) = g (pl - (n + 1)) + sumI g (pl - n) n := by
  rw [sumI, show pl - (n + 1) + 1 = pl - n by omega]
theorem back_run {S M : St} {st pl xv G : Nat} (h6 : S.1 6 = nI st) (hst : st ≤ 8) (h10 : S.1 10 = nI pl) (hpl : pl ≤ st) (p0 : M.2.1 7 0 = nI pl) (hg : M.2.1 4 = S.2.1 3) (eG : sumI (S.2.1 3) 0 pl = nI G) (hG : G ≤ 9 * pl) (hx : xv ≤ 10) :
    ∀ (k n fx fm : Nat), n + k = pl → k < fx → k < fm → ∃ t v, l_X2_howFarBack_16 (nI xv * nI G) S fx (nI n) = some (t, v) ∧ l_X10_back_37 (nI xv) (nI G) M fm (nI n) (sumI (S.2.1 3) (pl - n) n) = some (if t = 0 then v else nI pl) := by
  intro k
  induction k with
  | zero =>
    intro n fx fm hn h1 h2
    obtain ⟨fx, rfl⟩ : ∃ m, fx = m + 1 := ⟨fx - 1, by omega⟩
    obtain ⟨fm, rfl⟩ : ∃ m, fm = m + 1 := ⟨fm - 1, by omega⟩
    have e : n = pl := by omega
    subst e
    refine ⟨1, nI n, ?_, ?_⟩
    · rw [l_X2_howFarBack_16, h10, if_pos ((leN (by omega) (by omega)).mpr (Nat.le_refl _))]
    · have hm : xv * G ≤ 10 * G := Nat.mul_le_mul_right G hx
      rw [l_X10_back_37, Nat.sub_self, eG, nI_mul, show (10 : Int32) = nI 10 from rfl, nI_mul, if_pos ((leN (by omega) (by omega)).mpr hm), if_neg (by decide)]
  | succ k ih =>
    intro n fx fm hn h1 h2
    obtain ⟨fx, rfl⟩ : ∃ m, fx = m + 1 := ⟨fx - 1, by omega⟩
    obtain ⟨fm, rfl⟩ : ∃ m, fm = m + 1 := ⟨fm - 1, by omega⟩
    rw [l_X2_howFarBack_16, l_X10_back_37, h10, p0, if_neg (show ¬ nI pl ≤ nI n by rw [leN (by omega) (by omega)]; omega), golast h6 hst h10 hpl (by omega)]
    simp only [bSome]
    by_cases c : 10 * sumI (S.2.1 3) (pl - n) n < nI xv * nI G
    · rw [if_pos c, if_neg (show ¬ nI xv * nI G ≤ 10 * sumI (S.2.1 3) (pl - n) n by rw [fa_lt] at c; rw [fa_le]; omega)]
      rw [show nI n + 1 = nI (n + 1) from nI_1 n, nI_sub (show n + 1 ≤ pl by omega), if_neg (inN (show pl - (n + 1) < 8 by omega) (by omega)), clN (by omega), nm_eq, hg, Int32.add_comm, ← gl_step _ (by omega)]
      exact ih (n + 1) fx fm (by omega) (by omega) (by omega)
    · rw [if_neg c, if_pos (show nI xv * nI G ≤ 10 * sumI (S.2.1 3) (pl - n) n by rw [fa_lt] at c; rw [fa_le]; omega)]
      exact ⟨0, nI n, rfl, by rw [if_pos rfl]⟩
theorem op_back {S M : St} (h : Inv S M) (x : Int32) : ∃ r M', f_X9_back x S = some r ∧ f_X10_back x M = some (r, M') ∧ Inv S M' := by
  have h0 := h
  obtain ⟨tl, st, ar, ct, fi, fl, tc, h⟩ := h
  have hL := h.2.1
  obtain ⟨pl, hpl, hst, h10, p0, h6, h5, -, -⟩ := h.get
  have hg : (sI M 0 0).2.1 4 = S.2.1 3 := hL.2.2.2.1.2.2.symm
  unfold f_X9_back f_X10_back
  rw [nm_eq, show (1 : Int64) = (1 : Int32).toInt64 from rfl, show (10 : Int64) = (10 : Int32).toInt64 from rfl]
  have z1 : (1 : Int32).toInt = 1 := rfl
  have z10 : (10 : Int32).toInt = 10 := rfl
  by_cases c1 : x < 1
  · rw [if_pos c1, in_no (Or.inl c1)]
    simp only [bSome]
    rw [if_pos trivial]
    exact ⟨_, _, rfl, rfl, h0.t 0⟩
  rw [if_neg c1]
  by_cases c2 : x ≤ 10
  · have hx1 : 1 ≤ x := by rw [fa_lt] at c1; rw [fa_le]; omega
    rw [if_pos c2, in_yes hx1 c2]
    obtain ⟨xv, hxv, rfl⟩ : ∃ k : Nat, k < 11 ∧ x = nI k := smI (by rw [fa_le] at hx1; omega) (by rw [fa_le] at c2; omega)
    simp only [bSome]
    rw [if_neg (show ¬ ((1 : Int32) = 0) by decide)]
    unfold f_X2_howFarBack
    rw [h10, golast h6 hst h10 hpl (Nat.le_refl _), glaid_eq p0 (by omega), hg, Nat.sub_self]
    simp only [bSome]
    obtain ⟨G, hG, eG⟩ := gsum hL.2.2.2.2.1 pl 0
    rw [eG]
    by_cases c : G = 0
    · subst c
      rw [if_neg (by decide), if_pos (show nI 0 = 0 from rfl)]
      exact ⟨_, _, rfl, rfl, h0.t 0⟩
    have cn : ¬ nI G = 0 := fun q => by rw [show (0 : Int32) = nI 0 from rfl, eqN (by omega) (by omega)] at q; exact c q
    rw [if_pos (show (0 : Int32) < nI G by rw [show (0 : Int32) = nI 0 from rfl, ltN (by omega) (by omega)]; omega), if_neg cn]
    obtain ⟨t, v, r1, r2⟩ := back_run (M := sI M 0 0) h6 hst h10 hpl p0 hg eG hG (show xv ≤ 10 by omega) pl 0 fuel fuel (by omega) (by rw [fuelv]; omega) (by rw [fuelv]; omega)
    rw [show sumI (S.2.1 3) (pl - 0) 0 = 0 from rfl] at r2
    rw [show (0 : Int32) = nI 0 from rfl] at r2 ⊢
    rw [r1, r2]
    simp only [bSome]
    refine ⟨if t = 0 then v else nI pl, sI M 0 (nI 0), ?_, rfl, h0.t 0⟩
    by_cases ct : t = 0
    · rw [if_pos ct, if_pos ct]; rfl
    · rw [if_neg ct, if_neg ct]; rfl
  · rw [if_neg c2, in_no (Or.inr (by rw [fa_le] at c2; rw [fa_lt]; omega))]
    simp only [bSome]
    rw [if_pos trivial]
    exact ⟨_, _, rfl, rfl, h0.t 0⟩
/-! ===== shows, soonest ===== -/
theorem show_l {S M : St} (h : S.1 6 = M.1 5) (a m : Int32) : ∀ (n : Nat) (x3 x4 x5 : Int32), l_X2_firstShort_8 a m S n x3 x4 x5 = l_X10_showsBy_8 a m M n x3 x4 x5 := by
  intro n
  induction n with
  | zero => intro x3 x4 x5; rw [l_X2_firstShort_8, l_X10_showsBy_8]
  | succ n ih =>
    intro x3 x4 x5
    rw [l_X2_firstShort_8, l_X10_showsBy_8, h]
    unfold j_X2_firstShort_38 j_X10_showsBy_35
    simp only [ih, Int32.add_zero]
theorem show_f {S M : St} (h : S.1 6 = M.1 5) (a m : Int32) : f_X2_firstShort a m S = f_X10_showsBy a m M := by
  unfold f_X2_firstShort f_X10_showsBy
  rw [show_l h]
theorem show_run {S : St} {st : Nat} (h6 : S.1 6 = nI st) (hst : st ≤ 8) (a m : Int32) : ∀ (k i n : Nat) (x3 x4 : Int32), i + k = st → k < n → ∃ t j, j ≤ 8 ∧ l_X2_firstShort_8 a m S n x3 x4 (nI i) = some (t, nI j) := by
  intro k
  induction k with
  | zero =>
    intro i n x3 x4 hi hn
    obtain ⟨n, rfl⟩ : ∃ m, n = m + 1 := ⟨n - 1, by omega⟩
    exact ⟨1, i, by omega, by rw [l_X2_firstShort_8, h6, if_pos ((leN (by omega) (by omega)).mpr (by omega))]⟩
  | succ k ih =>
    intro i n x3 x4 hi hn
    obtain ⟨n, rfl⟩ : ∃ m, n = m + 1 := ⟨n - 1, by omega⟩
    rw [l_X2_firstShort_8, h6, if_neg (by rw [leN (by omega) (by omega)]; omega)]
    have hj : ∀ y3 y4, ∃ t j, j ≤ 8 ∧ j_X2_firstShort_38 (l_X2_firstShort_8 a m S n) a m y3 y4 (nI i) S = some (t, nI j) := by
      intro y3 y4
      unfold j_X2_firstShort_38
      rw [show nI i + 1 = nI (i + 1) from nI_1 i]
      split
      · exact ih (i + 1) n _ _ (by omega) (by omega)
      · exact ih (i + 1) n _ _ (by omega) (by omega)
    split
    · split
      · exact hj _ _
      · exact ⟨0, i, by omega, rfl⟩
    · exact hj _ _
theorem show_v {S : St} {st : Nat} (h6 : S.1 6 = nI st) (hst : st ≤ 8) (a m : Int32) : ∃ v, f_X2_firstShort a m S = some v ∧ (v = -9 ∨ ∃ j, j ≤ 8 ∧ v = nI j) := by
  obtain ⟨t, j, hj, e⟩ := show_run h6 hst a m st 0 fuel m 0 (by omega) (by rw [fuelv]; omega)
  unfold f_X2_firstShort
  rw [show (0 : Int32) = nI 0 from rfl] at e ⊢
  rw [e]
  simp only [bSome]
  by_cases c : t = 0
  · rw [if_pos c]; exact ⟨_, rfl, Or.inr ⟨j, hj, rfl⟩⟩
  · rw [if_neg c]; exact ⟨_, rfl, Or.inl rfl⟩
theorem op_shows {S M : St} (h : Inv S M) (x y : Int32) : ∃ r M', f_X9_shows x y S = some r ∧ f_X10_shows x y M = some (r, M') ∧ Inv S M' := by
  have h0 := h
  obtain ⟨tl, st, ar, ct, fi, fl, tc, h⟩ := h
  obtain ⟨pl, hpl, hst, h10, p0, h6, h5, -, -⟩ := h.get
  unfold f_X9_shows f_X10_shows
  rw [nm_eq, show (2 : Int64) = (2 : Int32).toInt64 from rfl, show (9 : Int64) = (9 : Int32).toInt64 from rfl]
  rcases (or_assoc.mpr (pk_ix x (n := st) (by omega))) with hx | ⟨s, hs, rfl⟩
  · rw [has_no h6 hx, noS_no h5 hst hx]
    simp only [bSome]
    rw [if_pos trivial, if_neg (by decide)]
    exact ⟨_, _, rfl, rfl, h0.t 0⟩
  rw [has_yes h6 hst hs, noS_yes h5 hst hs]
  simp only [bSome]
  rw [if_neg (show ¬ ((1 : Int32) = 0) by decide), if_pos trivial]
  have z2 : (2 : Int32).toInt = 2 := rfl
  have z9 : (9 : Int32).toInt = 9 := rfl
  by_cases c1 : y < 2
  · rw [if_pos c1, in_no (Or.inl c1)]
    simp only [bSome]
    rw [if_pos trivial]
    exact ⟨_, _, rfl, rfl, h0.t 0⟩
  rw [if_neg c1]
  by_cases c2 : y ≤ 9
  · rw [if_pos c2, in_yes (by rw [fa_lt] at c1; rw [fa_le]; omega) c2, ← show_f (S := S) (h6.trans h5.symm)]
    obtain ⟨v, hv, -⟩ := show_v h6 hst (nI s) y
    rw [hv]
    simp only [bSome]
    rw [if_neg (show ¬ ((1 : Int32) = 0) by decide)]
    exact ⟨_, _, rfl, rfl, h0.t 0⟩
  · rw [if_neg c2, in_no (Or.inr (by rw [fa_le] at c2; rw [fa_lt]; omega))]
    simp only [bSome]
    rw [if_pos trivial]
    exact ⟨_, _, rfl, rfl, h0.t 0⟩
theorem worst_run {S M : St} {st : Nat} (h6 : S.1 6 = nI st) (h5 : M.1 5 = nI st) (hst : st ≤ 8) (m a b : Int32) : ∀ (k i n1 n2 acc : Nat), i + k = st → k < n1 → k < n2 → acc ≤ 9 → ∃ w, w ≤ 9 ∧ l_X2_worstWait_4 m S n1 (nI acc) (nI i) = some (nI w) ∧ l_X10_soonest_25 a b m M n2 (nI acc) (nI i) = some (nI w) := by
  intro k
  induction k with
  | zero =>
    intro i n1 n2 acc hi h1 h2 ha
    obtain ⟨n1, rfl⟩ : ∃ m, n1 = m + 1 := ⟨n1 - 1, by omega⟩
    obtain ⟨n2, rfl⟩ : ∃ m, n2 = m + 1 := ⟨n2 - 1, by omega⟩
    refine ⟨acc, ha, ?_, ?_⟩
    · rw [l_X2_worstWait_4, h6, if_pos ((leN (by omega) (by omega)).mpr (by omega))]
    · rw [l_X10_soonest_25, h5, if_pos ((leN (by omega) (by omega)).mpr (by omega))]
  | succ k ih =>
    intro i n1 n2 acc hi h1 h2 ha
    obtain ⟨n1, rfl⟩ : ∃ m, n1 = m + 1 := ⟨n1 - 1, by omega⟩
    obtain ⟨n2, rfl⟩ : ∃ m, n2 = m + 1 := ⟨n2 - 1, by omega⟩
    obtain ⟨v, hv, hv2⟩ := show_v h6 hst (nI i) m
    rw [l_X2_worstWait_4, l_X10_soonest_25, h6, h5, if_neg (show ¬ nI st ≤ nI i by rw [leN (by omega) (by omega)]; omega), if_neg (show ¬ nI st ≤ nI i by rw [leN (by omega) (by omega)]; omega), ← show_f (S := S) (h6.trans h5.symm), hv]
    simp only [bSome]
    have key : ∀ t0 : Int32, (∃ w, w ≤ 9 ∧ (if nI acc < t0 then t0 else nI acc) = nI w) → ∃ w, w ≤ 9 ∧ j_X2_worstWait_40 (l_X2_worstWait_4 m S n1) m (nI i) t0 (nI acc) S = some (nI w) ∧ j_X10_soonest_60 (l_X10_soonest_25 a b m M n2) a b m (nI acc) (nI i) t0 M = some (nI w) := by
      intro t0 ⟨w, hw, e⟩
      unfold j_X2_worstWait_40 j_X10_soonest_60
      rw [show nI i + 1 = nI (i + 1) from nI_1 i]
      by_cases c : nI acc < t0
      · rw [if_pos c] at e ⊢
        rw [if_neg (show ¬ t0 ≤ nI acc by rw [fa_lt] at c; rw [fa_le]; omega), e]
        exact ih (i + 1) n1 n2 w (by omega) (by omega) (by omega) hw
      · rw [if_neg c, if_pos (show t0 ≤ nI acc by rw [fa_lt] at c; rw [fa_le]; omega)]
        exact ih (i + 1) n1 n2 acc (by omega) (by omega) (by omega) ha
    rcases hv2 with rfl | ⟨j, hj, rfl⟩
    · rw [if_pos rfl, if_pos rfl]
      refine key 9 ?_
      by_cases c : nI acc < 9
      · rw [if_pos c]; exact ⟨9, by omega, rfl⟩
      · rw [if_neg c]; exact ⟨acc, ha, rfl⟩
    · have c9 : ¬ nI j = -9 := fun q => by
        have := congrArg Int32.toInt q
        rw [nI_toInt (by omega)] at this
        have z : (-9 : Int32).toInt = -9 := rfl
        omega
      rw [if_neg c9, if_neg c9]
      refine key (nI j - nI i) ?_
      by_cases c : nI acc < nI j - nI i
      · rw [if_pos c]
        rw [fa_lt, fb_subI (by rw [nI_toInt (by omega), nI_toInt (by omega)]; omega) (by rw [nI_toInt (by omega), nI_toInt (by omega)]; omega), nI_toInt (by omega), nI_toInt (by omega), nI_toInt (by omega)] at c
        exact ⟨j - i, by omega, nI_sub (by omega)⟩
      · rw [if_neg c]; exact ⟨acc, ha, rfl⟩
theorem best_run {S M : St} {st : Nat} (h6 : S.1 6 = nI st) (h5 : M.1 5 = nI st) (hst : st ≤ 8) : ∀ (k m n1 n2 : Nat) (b w : Int32), m + k = 10 → k < n1 → k < n2 → ∃ r, l_X2_bestArrows_10 S n1 b w (nI m) = some r ∧ l_X10_soonest_13 M n2 b w (nI m) = some r := by
  intro k
  induction k with
  | zero =>
    intro m n1 n2 b w hm h1 h2
    obtain ⟨n1, rfl⟩ : ∃ m, n1 = m + 1 := ⟨n1 - 1, by omega⟩
    obtain ⟨n2, rfl⟩ : ∃ m, n2 = m + 1 := ⟨n2 - 1, by omega⟩
    refine ⟨b, ?_, ?_⟩
    · rw [l_X2_bestArrows_10, if_pos (show (9 : Int32) < nI m by rw [show (9 : Int32) = nI 9 from rfl, ltN (by omega) (by omega)]; omega)]
    · rw [l_X10_soonest_13, if_pos (show (9 : Int32) < nI m by rw [show (9 : Int32) = nI 9 from rfl, ltN (by omega) (by omega)]; omega)]
  | succ k ih =>
    intro m n1 n2 b w hm h1 h2
    obtain ⟨n1, rfl⟩ : ∃ m, n1 = m + 1 := ⟨n1 - 1, by omega⟩
    obtain ⟨n2, rfl⟩ : ∃ m, n2 = m + 1 := ⟨n2 - 1, by omega⟩
    have c9 : ¬ (9 : Int32) < nI m := by rw [show (9 : Int32) = nI 9 from rfl, ltN (by omega) (by omega)]; omega
    obtain ⟨v, hv, e1, e2⟩ := worst_run h6 h5 hst (nI m) b w st 0 fuel fuel 0 (by omega) (by rw [fuelv]; omega) (by rw [fuelv]; omega) (by omega)
    rw [l_X2_bestArrows_10, l_X10_soonest_13, if_neg c9, if_neg c9]
    unfold f_X2_worstWait
    rw [show (0 : Int32) = nI 0 from rfl, e1, e2]
    simp only [bSome]
    unfold j_X10_soonest_95
    rw [show nI m + 1 = nI (m + 1) from nI_1 m]
    by_cases c : w ≤ nI v
    · simp only [if_pos c]
      exact ih (m + 1) n1 n2 b w (by omega) (by omega) (by omega)
    · simp only [if_neg c]
      exact ih (m + 1) n1 n2 (nI m) (nI v) (by omega) (by omega) (by omega)
theorem op_soonest {S M : St} (h : Inv S M) : ∃ r M', f_X9_soonest S = some r ∧ f_X10_soonest M = some (r, M') ∧ Inv S M' := by
  have h0 := h
  obtain ⟨tl, st, ar, ct, fi, fl, tc, h⟩ := h
  obtain ⟨pl, hpl, hst, h10, p0, h6, h5, -, -⟩ := h.get
  obtain ⟨v, hv, e1, e2⟩ := worst_run h6 h5 hst (nI 2) (-9) 999999 st 0 fuel fuel 0 (by omega) (by rw [fuelv]; omega) (by rw [fuelv]; omega) (by omega)
  obtain ⟨r, r1, r2⟩ := best_run h6 h5 hst 7 3 fuel 999 (nI 2) (nI v) (by omega) (by rw [fuelv]; omega) (by omega)
  refine ⟨r, sI M 0 0, ?_, ?_, h0.t 0⟩
  · unfold f_X9_soonest f_X2_bestArrows f_X2_worstWait
    rw [show (2 : Int32) = nI 2 from rfl, show (0 : Int32) = nI 0 from rfl, e1]
    simp only [bSome]
    rw [show (3 : Int32) = nI 3 from rfl, r1]
    rfl
  · unfold f_X10_soonest
    rw [nm_eq, show fuel = 999 + 1 from rfl, l_X10_soonest_13, if_neg (by decide)]
    rw [show (2 : Int32) = nI 2 from rfl]
    rw [show (0 : Int32) = nI 0 from rfl] at e2 r2 ⊢
    rw [e2]
    simp only [bSome]
    unfold j_X10_soonest_95
    have cn : ¬ (999999 : Int32) ≤ nI v := by
      rw [fa_le, nI_toInt (by omega)]
      have z : (999999 : Int32).toInt = 999999 := rfl
      omega
    rw [if_neg cn, if_neg cn, show nI 2 + 1 = nI 3 from nI_1 2, r2]
    rfl
