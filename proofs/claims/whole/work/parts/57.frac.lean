/-! ===== fractions in least terms: both run Euclid ===== -/
theorem remI {x y : Int32} (hy : y ≠ 0) : (x - x / y * y).toInt = x.toInt.tmod y.toInt := by
  have hy0 : y.toInt ≠ 0 := fun q => hy ((fa_eq y 0).mpr q)
  rw [Int32.toInt_sub, Int32.toInt_mul, Int32.toInt_div]
  have e : (x.toInt - ((x.toInt.tdiv y.toInt).bmod (2 ^ 32) * y.toInt).bmod (2 ^ 32)).bmod (2 ^ 32) = (x.toInt - x.toInt.tdiv y.toInt * y.toInt).bmod (2 ^ 32) := by
    rw [Int.sub_bmod_bmod, ← Int.sub_bmod_bmod, Int.bmod_mul_bmod, Int.sub_bmod_bmod]
  rw [e]
  have e2 : x.toInt - x.toInt.tdiv y.toInt * y.toInt = x.toInt.tmod y.toInt := by
    have := Int.tdiv_mul_add_tmod x.toInt y.toInt
    omega
  rw [e2]
  have hr := fb_rng y
  have hx := fb_rng x
  have h1 : (x.toInt.tmod y.toInt).natAbs < y.toInt.natAbs := by
    rw [Int.natAbs_tmod]
    exact Nat.mod_lt _ (by omega)
  exact fb_bmod (by omega) (by omega)
theorem remA {x y : Int32} (hy : y ≠ 0) : (x - x / y * y).toInt.natAbs = x.toInt.natAbs % y.toInt.natAbs := by
  rw [remI hy, Int.natAbs_tmod]
theorem nz_of {x : Int32} (h : ¬ x = 0) : 0 < x.toInt.natAbs := by
  have : x.toInt ≠ 0 := fun q => h ((fa_eq x 0).mpr q)
  omega
theorem div_run : ∀ (j : Nat) (p q : Int32), q.toInt.natAbs < 2 ^ j → (¬ p = 0 ∨ ¬ q = 0) → ∃ g, ¬ g = 0 ∧ (∀ n, 2 * j < n → l_X10_divisor_7 n p q = some g) ∧ ∀ n i, 2 * j < n → i + 2 * j < 64 → l_X9_commonDivisor_7 n p q (nI i) = some g := by
  intro j
  induction j with
  | zero =>
    intro p q hq hpq
    have q0 : q = 0 := by
      rw [fa_eq]
      have : (0 : Int32).toInt = 0 := rfl
      have : q.toInt.natAbs < 1 := hq
      omega
    refine ⟨p, hpq.resolve_right (fun z => z q0), fun n hn => ?_, fun n i hn hi => ?_⟩
    · obtain ⟨n, rfl⟩ : ∃ m, n = m + 1 := ⟨n - 1, by omega⟩
      rw [l_X10_divisor_7, if_pos q0]
    · obtain ⟨n, rfl⟩ : ∃ m, n = m + 1 := ⟨n - 1, by omega⟩
      rw [l_X9_commonDivisor_7, if_neg (show ¬ (64 : Int32) ≤ nI i by rw [show (64 : Int32) = nI 64 from rfl, leN (by omega) (by omega)]; omega), if_pos q0]
  | succ j ih =>
    intro p q hq hpq
    by_cases q0 : q = 0
    · refine ⟨p, hpq.resolve_right (fun z => z q0), fun n hn => ?_, fun n i hn hi => ?_⟩
      · obtain ⟨n, rfl⟩ : ∃ m, n = m + 1 := ⟨n - 1, by omega⟩
        rw [l_X10_divisor_7, if_pos q0]
      · obtain ⟨n, rfl⟩ : ∃ m, n = m + 1 := ⟨n - 1, by omega⟩
        rw [l_X9_commonDivisor_7, if_neg (show ¬ (64 : Int32) ≤ nI i by rw [show (64 : Int32) = nI 64 from rfl, leN (by omega) (by omega)]; omega), if_pos q0]
    · obtain ⟨r, hr⟩ : ∃ r, r = p - p / q * q := ⟨_, rfl⟩
      have ra : r.toInt.natAbs = p.toInt.natAbs % q.toInt.natAbs := by rw [hr]; exact remA q0
      have rlt : r.toInt.natAbs < q.toInt.natAbs := by rw [ra]; exact Nat.mod_lt _ (nz_of q0)
      by_cases r0 : r = 0
      · refine ⟨q, q0, fun n hn => ?_, fun n i hn hi => ?_⟩
        · obtain ⟨n, rfl⟩ : ∃ m, n = m + 2 := ⟨n - 2, by omega⟩
          rw [l_X10_divisor_7, if_neg q0, if_neg q0, ← hr, l_X10_divisor_7, if_pos r0]
        · obtain ⟨n, rfl⟩ : ∃ m, n = m + 2 := ⟨n - 2, by omega⟩
          rw [l_X9_commonDivisor_7, if_neg (show ¬ (64 : Int32) ≤ nI i by rw [show (64 : Int32) = nI 64 from rfl, leN (by omega) (by omega)]; omega), if_neg q0, if_neg q0, ← hr, show nI i + 1 = nI (i + 1) from nI_1 i, l_X9_commonDivisor_7, if_neg (show ¬ (64 : Int32) ≤ nI (i + 1) by rw [show (64 : Int32) = nI 64 from rfl, leN (by omega) (by omega)]; omega), if_pos r0]
      · obtain ⟨r2, hr2⟩ : ∃ r2, r2 = q - q / r * r := ⟨_, rfl⟩
        have ra2 : r2.toInt.natAbs = q.toInt.natAbs % r.toInt.natAbs := by rw [hr2]; exact remA r0
        have half : r2.toInt.natAbs < 2 ^ j := by
          have hp := nz_of r0
          have h1 : q.toInt.natAbs % r.toInt.natAbs < r.toInt.natAbs := Nat.mod_lt _ hp
          have h2 := Nat.div_add_mod q.toInt.natAbs r.toInt.natAbs
          have h3 : 1 ≤ q.toInt.natAbs / r.toInt.natAbs := (Nat.one_le_div_iff hp).mpr (by omega)
          have h4 : r.toInt.natAbs * 1 ≤ r.toInt.natAbs * (q.toInt.natAbs / r.toInt.natAbs) := Nat.mul_le_mul_left _ h3
          have h5 : 2 ^ (j + 1) = 2 * 2 ^ j := by rw [Nat.pow_succ, Nat.mul_comm]
          rw [ra2]
          omega
        obtain ⟨g, g0, g1, g2⟩ := ih r r2 half (Or.inl r0)
        refine ⟨g, g0, fun n hn => ?_, fun n i hn hi => ?_⟩
        · obtain ⟨n, rfl⟩ : ∃ m, n = m + 2 := ⟨n - 2, by omega⟩
          rw [l_X10_divisor_7, if_neg q0, if_neg q0, ← hr, l_X10_divisor_7, if_neg r0, if_neg r0, ← hr2]
          exact g1 n (by omega)
        · obtain ⟨n, rfl⟩ : ∃ m, n = m + 2 := ⟨n - 2, by omega⟩
          rw [l_X9_commonDivisor_7, if_neg (show ¬ (64 : Int32) ≤ nI i by rw [show (64 : Int32) = nI 64 from rfl, leN (by omega) (by omega)]; omega), if_neg q0, if_neg q0, ← hr, show nI i + 1 = nI (i + 1) from nI_1 i, l_X9_commonDivisor_7, if_neg (show ¬ (64 : Int32) ≤ nI (i + 1) by rw [show (64 : Int32) = nI 64 from rfl, leN (by omega) (by omega)]; omega), if_neg r0, if_neg r0, ← hr2, show nI (i + 1) + 1 = nI (i + 2) from nI_1 (i + 1)]
          exact g2 n (i + 2) (by omega) (by omega)
theorem fuelv : fuel = 1000 := rfl
theorem size_abs (t : Int32) : f_X10_size t = some (if 0 ≤ t then t else 0 - t) := by
  unfold f_X10_size
  by_cases c : 0 ≤ t
  · rw [if_pos c, if_pos c]
  · rw [if_neg c, if_neg c, Int32.zero_sub]
theorem frac_eq (t b u : Int32) (hb : ¬ b = 0) (h : b.toInt.natAbs < 2 ^ 30) : ∃ r, f_X9_fraction t b u = some r ∧ f_X10_fraction t b u = some r := by
  obtain ⟨g, g0, g1, g2⟩ := div_run 30 (if 0 ≤ t then t else 0 - t) b h (Or.inr hb)
  unfold f_X9_fraction f_X10_fraction f_X9_commonDivisor f_X10_divisor
  rw [size_abs]
  simp only [bSome]
  rw [show (0 : Int32) = nI 0 from rfl] at g1 g2 ⊢
  rw [g1 fuel (by rw [fuelv]; omega), g2 fuel 0 (by rw [fuelv]; omega) (by omega)]
  simp only [bSome]
  rw [show (0 : Int32) = nI 0 from rfl] at g0
  rw [if_neg g0]
  by_cases c : u = nI 0
  · simp only [if_pos c, if_neg g0]
    exact ⟨_, rfl, rfl⟩
  · simp only [if_neg c, if_neg g0]
    exact ⟨_, rfl, rfl⟩
/-! ===== gorse together ===== -/
theorem gsum {f : Nat → Int32} (h : ∀ i, ∃ g : Nat, g ≤ 9 ∧ f i = nI g) : ∀ (k i : Nat), ∃ G : Nat, G ≤ 9 * k ∧ sumI f i k = nI G
  | 0, i => ⟨0, by omega, rfl⟩
  | k + 1, i => by
    obtain ⟨G, h1, h2⟩ := gsum h k (i + 1)
    obtain ⟨g, h3, h4⟩ := h i
    exact ⟨g + G, by omega, by rw [sumI, h2, h4, nI_add]⟩
theorem gol {S : St} {st pl : Nat} (h6 : S.1 6 = nI st) (hst : st ≤ 8) (h10 : S.1 10 = nI pl) (hpl : pl ≤ st) : ∀ (k i n : Nat) (acc : Int32), i + k = pl → k < n → l_X2_gorseOfLast_12 S n acc (nI i) = some (acc + sumI (S.2.1 3) i k) := by
  intro k
  induction k with
  | zero =>
    intro i n acc hi hn
    obtain ⟨n, rfl⟩ : ∃ m, n = m + 1 := ⟨n - 1, by omega⟩
    rw [l_X2_gorseOfLast_12, h10, if_pos ((leN (by omega) (by omega)).mpr (by omega)), sumI, Int32.add_zero]
  | succ k ih =>
    intro i n acc hi hn
    obtain ⟨n, rfl⟩ : ∃ m, n = m + 1 := ⟨n - 1, by omega⟩
    rw [l_X2_gorseOfLast_12, h10, if_neg (by rw [leN (by omega) (by omega)]; omega), gorseOf_yes h6 hst (by omega)]
    simp only [bSome]
    rw [show nI i + 1 = nI (i + 1) from nI_1 i, ih (i + 1) n _ (by omega) (by omega), sumI, Int32.add_assoc]
theorem golast {S : St} {st pl k : Nat} (h6 : S.1 6 = nI st) (hst : st ≤ 8) (h10 : S.1 10 = nI pl) (hpl : pl ≤ st) (hk : k ≤ pl) : f_X2_gorseOfLast (nI k) S = some (sumI (S.2.1 3) (pl - k) k) := by
  unfold f_X2_gorseOfLast
  rw [h10, nI_sub hk, gol h6 hst h10 hpl k (pl - k) fuel _ (by omega) (by rw [fuelv]; omega)]
  simp only [bSome]
  rw [Int32.zero_add]
theorem glaid {M : St} {pl : Nat} (h0 : M.2.1 7 0 = nI pl) (hpl : pl ≤ 8) : ∀ (k i n : Nat) (acc : Int32), i + k = pl → k < n → l_X10_gorseLaid_4 M n acc (nI i) = some (acc + sumI (M.2.1 4) i k) := by
  intro k
  induction k with
  | zero =>
    intro i n acc hi hn
    obtain ⟨n, rfl⟩ : ∃ m, n = m + 1 := ⟨n - 1, by omega⟩
    rw [l_X10_gorseLaid_4, h0, if_pos ((leN (by omega) (by omega)).mpr (by omega)), sumI, Int32.add_zero]
  | succ k ih =>
    intro i n acc hi hn
    obtain ⟨n, rfl⟩ : ∃ m, n = m + 1 := ⟨n - 1, by omega⟩
    rw [l_X10_gorseLaid_4, h0, if_neg (by rw [leN (by omega) (by omega)]; omega), if_neg (inN (show i < 8 by omega) (by omega)), clN (by omega), nm_eq, show nI i + 1 = nI (i + 1) from nI_1 i, ih (i + 1) n _ (by omega) (by omega), sumI, Int32.add_assoc]
theorem glaid_eq {M : St} {pl : Nat} (h0 : M.2.1 7 0 = nI pl) (hpl : pl ≤ 8) : f_X10_gorseLaid M = some (sumI (M.2.1 4) 0 pl) := by
  unfold f_X10_gorseLaid
  rw [show (0 : Int32) = nI 0 from rfl, glaid h0 hpl pl 0 fuel _ (by omega) (by rw [fuelv]; omega)]
  simp only [bSome]
  rw [show nI 0 = 0 from rfl, Int32.zero_add]
/-- what the questions read: the line, the place, the page -/
theorem Inx.get {tl st ar ct fi fl tc : Nat} {S M : St} (h : Inx tl st ar ct fi fl tc S M) : ∃ pl, pl ≤ st ∧ st ≤ 8 ∧ S.1 10 = nI pl ∧ (sI M 0 0).2.1 7 0 = nI pl ∧ S.1 6 = nI st ∧ (sI M 0 0).1 5 = nI st ∧ (S.1 12 = nI 0 ∨ S.1 12 = nI 1) ∧ (sI M 0 0).2.1 7 5 = S.1 12 := by
  have hL := h.2.1
  obtain ⟨g1, pl, hh, b, lo, ⟨v1, v2, v3, v4, v5, v6, v7, v8, v9, v10, v11⟩, h3⟩ := id h.2.2.1
  have v2 : S.1 10 = nI pl := v2
  exact ⟨pl, v1, hL.1.1, v2, by rw [sI2, ← v2]; exact g1.1.symm, hL.1.2.1, hL.1.2.2, v9, g1.2.2.2.2.2.1.symm⟩
theorem in_last {x : Int32} {pl : Nat} (hpl : pl ≤ 8) (h : x < 0 ∨ nI pl ≤ x) : f_X10_in x.toInt64 0 (nI pl - 1).toInt64 = some 0 := by
  rw [show (0 : Int64) = (0 : Int32).toInt64 from rfl, in_no]
  rcases h with h | h
  · exact Or.inl h
  · right
    rw [fa_le, nI_toInt (by omega)] at h
    rw [fa_lt, fb_subI (by rw [nI_toInt (by omega)]; simp; omega) (by rw [nI_toInt (by omega)]; simp; omega), nI_toInt (by omega)]
    simp; omega
theorem in_last1 {s pl : Nat} (hpl : pl ≤ 8) (hs : s < pl) : f_X10_in (nI s).toInt64 0 (nI pl - 1).toInt64 = some 1 := by
  rw [show (0 : Int64) = (0 : Int32).toInt64 from rfl, in_yes (show (0 : Int32) ≤ nI s from nI_pos' (by omega)) (by rw [show (1 : Int32) = nI 1 from rfl, nI_sub (by omega), leN (by omega) (by omega)]; omega)]
theorem op_where {S M : St} (h : Inv S M) (x u : Int32) : ∃ r M', f_X9_where x u S = some r ∧ f_X10_where x u M = some (r, M') ∧ Inv S M' := by
  have h0 := h
  obtain ⟨tl, st, ar, ct, fi, fl, tc, h⟩ := h
  have hL := h.2.1
  obtain ⟨pl, hpl, hst, h10, p0, h6, h5, -, -⟩ := h.get
  have hg : (sI M 0 0).2.1 4 = S.2.1 3 := hL.2.2.2.1.2.2.symm
  unfold f_X9_where f_X10_where
  rw [nm_eq, p0]
  rcases (or_assoc.mpr (pk_ix x (n := pl) (by omega))) with hx | ⟨s, hs, rfl⟩
  · rw [laid_no h10 hx, in_last (by omega) hx]
    simp only [bSome]
    rw [if_pos trivial, if_pos trivial]
    exact ⟨_, _, rfl, rfl, h0.t 0⟩
  rw [laid_yes h10 (by omega) hs, in_last1 (by omega) hs]
  simp only [bSome]
  rw [if_neg (show ¬ ((1 : Int32) = 0) by decide), if_neg (show ¬ ((1 : Int32) = 0) by decide), h10, golast h6 hst h10 hpl (Nat.le_refl _), glaid_eq p0 (by omega), hg, Nat.sub_self]
  simp only [bSome]
  obtain ⟨G, hG, eG⟩ := gsum hL.2.2.2.2.1 pl 0
  rw [eG]
  by_cases c : G = 0
  · subst c
    rw [if_neg (by decide), if_pos (show nI 0 = 0 from rfl)]
    exact ⟨_, _, rfl, rfl, h0.t 0⟩
  have cn : ¬ nI G = 0 := fun q => by rw [show (0 : Int32) = nI 0 from rfl, eqN (by omega) (by omega)] at q; exact c q
  rw [if_pos (show (0 : Int32) < nI G by rw [show (0 : Int32) = nI 0 from rfl, ltN (by omega) (by omega)]; omega), if_neg cn, gorseOf_yes h6 hst (by omega), if_neg (inN (show s < 8 by omega) (by omega)), clN (by omega)]
  obtain ⟨r, r1, r2⟩ := frac_eq (S.2.1 3 s) (nI G) u cn (by rw [nI_toInt (by omega)]; omega)
  simp only [bSome]
  rw [r1, r2]
  exact ⟨r, sI M 0 0, rfl, rfl, h0.t 0⟩
