/-! ===== days ===== -/
theorem day_run {st : Nat} (hst : st ≤ 8) (a b acc : Int32) : ∀ (k i n1 n2 : Nat) (x : Int32) (S M : St), S.1 6 = nI st → M.1 5 = nI st → M.2.1 4 = S.2.1 3 → S.2.2 = M.2.2 → i + k = st → k < n1 → k < n2 →
    ∃ x' sd, l_X9_lossesOfDay_10 n1 x (nI i) S = some (x', sL S sd) ∧ l_X10_days_37 a b n2 (acc + x) (nI i) M = some (acc + x', sL M sd) := by
  intro k
  induction k with
  | zero =>
    intro i n1 n2 x S M h6 h5 hg hs hi h1 h2
    obtain ⟨n1, rfl⟩ : ∃ m, n1 = m + 1 := ⟨n1 - 1, by omega⟩
    obtain ⟨n2, rfl⟩ : ∃ m, n2 = m + 1 := ⟨n2 - 1, by omega⟩
    refine ⟨x, S.2.2, ?_, ?_⟩
    · rw [l_X9_lossesOfDay_10, h6, if_pos ((leN (by omega) (by omega)).mpr (by omega))]; rfl
    · rw [l_X10_days_37, h5, if_pos ((leN (by omega) (by omega)).mpr (by omega)), hs]; rfl
  | succ k ih =>
    intro i n1 n2 x S M h6 h5 hg hs hi h1 h2
    obtain ⟨n1, rfl⟩ : ∃ m, n1 = m + 1 := ⟨n1 - 1, by omega⟩
    obtain ⟨n2, rfl⟩ : ∃ m, n2 = m + 1 := ⟨n2 - 1, by omega⟩
    rw [l_X9_lossesOfDay_10, l_X10_days_37, h6, h5, if_neg (show ¬ nI st ≤ nI i by rw [leN (by omega) (by omega)]; omega), if_neg (show ¬ nI st ≤ nI i by rw [leN (by omega) (by omega)]; omega), nm_eq, nm_eq, hs]
    obtain ⟨sd, hsd⟩ : ∃ z, z = M.2.2 * 6364136223846793005 + 1442695040888963407 := ⟨_, rfl⟩
    rw [← hsd, gorseOf_yes (S := sL S sd) h6 hst (by omega), if_neg (inN (show i < 8 by omega) (by omega)), clN (by omega)]
    simp only [bSome]
    rw [show (sL S sd).2.2 = sd from rfl, show (sL M sd).2.2 = sd from rfl, show (sL S sd).2.1 3 i = S.2.1 3 i from rfl, show (sL M sd).2.1 4 i = S.2.1 3 i from congrFun hg i, show nI i + 1 = nI (i + 1) from nI_1 i]
    by_cases cc : 0 ≤ lg_cmp ((sd.toUInt64 >>> ((33 : Int32).toInt64.toUInt64 &&& Int64.toUInt64 63)).toInt64 - (sd.toUInt64 >>> ((33 : Int32).toInt64.toUInt64 &&& Int64.toUInt64 63)).toInt64 / 10 * 10) (S.2.1 3 i).toInt64
    · simp only [if_pos cc]
      rw [Int32.add_zero]
      exact ih (i + 1) n1 n2 x (sL S sd) (sL M sd) h6 h5 hg rfl (by omega) (by omega) (by omega)
    · simp only [if_neg cc]
      rw [Int32.add_assoc]
      exact ih (i + 1) n1 n2 (x + 1) (sL S sd) (sL M sd) h6 h5 hg rfl (by omega) (by omega) (by omega)
theorem days_run {st pl xv : Nat} (hst : st ≤ 8) (hpl : pl ≤ st) (hxv : xv ≤ 20) : ∀ (k m n1 n2 : Nat) (acc : Int32) (S M : St), S.1 6 = nI st → M.1 5 = nI st → S.1 10 = nI pl → M.2.1 7 0 = nI pl → M.2.1 4 = S.2.1 3 → S.2.2 = M.2.2 → m + k = xv → k < n1 → k < n2 →
    ∃ x' sd, l_X9_days_18 (nI xv) n1 acc (nI m) S = some (x', sL S sd) ∧ l_X10_days_24 (nI xv) n2 acc (nI m) M = some (x', sL M sd) := by
  intro k
  induction k with
  | zero =>
    intro m n1 n2 acc S M h6 h5 h10 p0 hg hs hi h1 h2
    obtain ⟨n1, rfl⟩ : ∃ m, n1 = m + 1 := ⟨n1 - 1, by omega⟩
    obtain ⟨n2, rfl⟩ : ∃ m, n2 = m + 1 := ⟨n2 - 1, by omega⟩
    refine ⟨acc, S.2.2, ?_, ?_⟩
    · rw [l_X9_days_18, if_pos ((leN (by omega) (by omega)).mpr (by omega))]; rfl
    · rw [l_X10_days_24, if_pos ((leN (by omega) (by omega)).mpr (by omega)), hs]; rfl
  | succ k ih =>
    intro m n1 n2 acc S M h6 h5 h10 p0 hg hs hi h1 h2
    obtain ⟨n1, rfl⟩ : ∃ m, n1 = m + 1 := ⟨n1 - 1, by omega⟩
    obtain ⟨n2, rfl⟩ : ∃ m, n2 = m + 1 := ⟨n2 - 1, by omega⟩
    obtain ⟨x', sd, e1, e2⟩ := day_run hst (nI xv) (nI m) acc (st - pl) pl fuel fuel 0 S M h6 h5 hg hs (by omega) (by rw [fuelv]; omega) (by rw [fuelv]; omega)
    rw [Int32.add_zero] at e2
    rw [l_X9_days_18, l_X10_days_24, if_neg (show ¬ nI xv ≤ nI m by rw [leN (by omega) (by omega)]; omega), if_neg (show ¬ nI xv ≤ nI m by rw [leN (by omega) (by omega)]; omega)]
    unfold f_X9_lossesOfDay
    rw [h10, p0, e1, e2]
    simp only [bSome]
    rw [show nI m + 1 = nI (m + 1) from nI_1 m]
    exact ih (m + 1) n1 n2 (acc + x') (sL S sd) (sL M sd) h6 h5 h10 p0 hg rfl (by omega) (by omega) (by omega)
theorem op_days {S M : St} (h : Inv S M) (x : Int32) : ∃ r S' M', f_X9_days x S = some (r, S') ∧ f_X10_days x M = some (r, M') ∧ Inv S' M' := by
  have h0 := h
  obtain ⟨tl, st, ar, ct, fi, fl, tc, h⟩ := h
  have hL := h.2.1
  obtain ⟨pl, hpl, hst, h10, p0, h6, h5, -, -⟩ := h.get
  have hg : (sI M 0 0).2.1 4 = S.2.1 3 := hL.2.2.2.1.2.2.symm
  unfold f_X9_days f_X10_days
  rw [nm_eq, show (1 : Int64) = (1 : Int32).toInt64 from rfl, show (20 : Int64) = (20 : Int32).toInt64 from rfl]
  have z1 : (1 : Int32).toInt = 1 := rfl
  have z20 : (20 : Int32).toInt = 20 := rfl
  by_cases c1 : x < 1
  · rw [if_pos c1, in_no (Or.inl c1)]
    simp only [bSome]
    rw [if_pos trivial]
    exact ⟨_, _, _, rfl, rfl, h0.t 0⟩
  rw [if_neg c1]
  by_cases c2 : x ≤ 20
  · have hx1 : 1 ≤ x := by rw [fa_lt] at c1; rw [fa_le]; omega
    rw [if_pos c2, in_yes hx1 c2]
    obtain ⟨xv, hxv, rfl⟩ : ∃ k : Nat, k < 21 ∧ x = nI k := smI (by rw [fa_le] at hx1; omega) (by rw [fa_le] at c2; omega)
    simp only [bSome]
    rw [if_neg (show ¬ ((1 : Int32) = 0) by decide)]
    obtain ⟨x', sd, e1, e2⟩ := days_run hst hpl (show xv ≤ 20 by omega) xv 0 fuel fuel (nI 0) S (sI M 0 0) h6 h5 h10 p0 hg h.2.2.2.2.2.2 (by omega) (by rw [fuelv]; omega) (by rw [fuelv]; omega)
    rw [show (0 : Int32) = nI 0 from rfl] at e2 ⊢
    rw [e1, e2]
    simp only [bSome]
    obtain ⟨hT, hL, hW, hA, hSl, hTe, hs0⟩ := h
    exact ⟨x', _, _, rfl, rfl, tl, st, ar, ct, fi, fl, tc, hT, hL, hW, hA, hSl, hTe, rfl⟩
  · rw [if_neg c2, in_no (Or.inr (by rw [fa_le] at c2; rw [fa_lt]; omega))]
    simp only [bSome]
    rw [if_pos trivial]
    exact ⟨_, _, _, rfl, rfl, h0.t 0⟩
/-! ===== changes ===== -/
theorem zero_run (a b : Int32) {M : St} {tc : Nat} (h8 : M.1 8 = nI tc) (htc : tc ≤ 6) : ∀ (k i n : Nat), i + k = tc → k < n → l_X10_findChanges_38 a b M n 0 (nI i) = some 0 := by
  intro k
  induction k with
  | zero =>
    intro i n hi hn
    obtain ⟨n, rfl⟩ : ∃ m, n = m + 1 := ⟨n - 1, by omega⟩
    rw [l_X10_findChanges_38, h8, if_pos ((leN (by omega) (by omega)).mpr (by omega))]
  | succ k ih =>
    intro i n hi hn
    obtain ⟨n, rfl⟩ : ∃ m, n = m + 1 := ⟨n - 1, by omega⟩
    rw [l_X10_findChanges_38, h8, if_neg (by rw [leN (by omega) (by omega)]; omega), if_pos rfl, show nI i + 1 = nI (i + 1) from nI_1 i]
    exact ih (i + 1) n (by omega) (by omega)
theorem so_run {S M : St} {tc : Nat} (told a b : Int32) (h18 : S.1 18 = nI tc) (h8 : M.1 8 = nI tc) (htc : tc ≤ 6) (ht : M.1 4 = told) (e7 : S.2.1 7 = M.2.1 11) (e8 : S.2.1 8 = M.2.1 12) : ∀ (k i n1 n2 : Nat), i + k = tc → k < n1 → k < n2 →
    (l_X6_allAreSo_3 told a b S n1 (nI i) = some 0 ∧ l_X10_findChanges_38 a b M n2 1 (nI i) = some 0) ∨ (l_X6_allAreSo_3 told a b S n1 (nI i) = some 1 ∧ l_X10_findChanges_38 a b M n2 1 (nI i) = some 1) := by
  intro k
  induction k with
  | zero =>
    intro i n1 n2 hi h1 h2
    obtain ⟨n1, rfl⟩ : ∃ m, n1 = m + 1 := ⟨n1 - 1, by omega⟩
    obtain ⟨n2, rfl⟩ : ∃ m, n2 = m + 1 := ⟨n2 - 1, by omega⟩
    right
    constructor
    · rw [l_X6_allAreSo_3, h18, if_pos ((leN (by omega) (by omega)).mpr (by omega))]
    · rw [l_X10_findChanges_38, h8, if_pos ((leN (by omega) (by omega)).mpr (by omega))]
  | succ k ih =>
    intro i n1 n2 hi h1 h2
    obtain ⟨n1, rfl⟩ : ∃ m, n1 = m + 1 := ⟨n1 - 1, by omega⟩
    obtain ⟨n2, rfl⟩ : ∃ m, n2 = m + 1 := ⟨n2 - 1, by omega⟩
    rw [l_X6_allAreSo_3, l_X10_findChanges_38, h18, h8, if_neg (show ¬ nI tc ≤ nI i by rw [leN (by omega) (by omega)]; omega), if_neg (show ¬ nI tc ≤ nI i by rw [leN (by omega) (by omega)]; omega), if_neg (show ¬ (6 : Int32) ≤ nI i by rw [show (6 : Int32) = nI 6 from rfl, leN (by omega) (by omega)]; omega), if_neg (show ¬ ((1 : Int32) = 0) by decide)]
    have hin : ¬ (nI i < 0 ∨ 6 ≤ (nI i).toNatClampNeg) := inN (by omega) (by omega)
    unfold j_X6_allAreSo_35 j_X10_findChanges_77
    simp only [if_neg hin]
    rw [clN (by omega), ht, e7, e8, show nI i + 1 = nI (i + 1) from nI_1 i]
    have fin : ∀ t0 : Int32, ((if M.2.1 12 i = t0 then l_X6_allAreSo_3 told a b S n1 (nI (i + 1)) else some 0) = some 0 ∧ (if M.2.1 12 i = t0 then l_X10_findChanges_38 a b M n2 1 (nI (i + 1)) else l_X10_findChanges_38 a b M n2 0 (nI (i + 1))) = some 0) ∨ ((if M.2.1 12 i = t0 then l_X6_allAreSo_3 told a b S n1 (nI (i + 1)) else some 0) = some 1 ∧ (if M.2.1 12 i = t0 then l_X10_findChanges_38 a b M n2 1 (nI (i + 1)) else l_X10_findChanges_38 a b M n2 0 (nI (i + 1))) = some 1) := by
      intro t0
      by_cases c : M.2.1 12 i = t0
      · simp only [if_pos c]
        exact ih (i + 1) n1 n2 (by omega) (by omega) (by omega)
      · simp only [if_neg c]
        left
        exact ⟨trivial, zero_run a b h8 htc k (i + 1) n2 (by omega) (by omega)⟩
    by_cases c : a ≤ M.2.1 11 i
    · simp only [if_pos c]; exact fin b
    · simp only [if_neg c]; exact fin told
/-- the counts of changes beside each other -/
def RCh (c : Nat) (S M : St) : Prop := S.1 19 = nI c ∧ M.1 11 = nI c ∧ S.1 20 = M.1 12 ∧ (c = 0 → S.1 20 = -9 ∧ S.1 21 = -9 ∧ M.1 13 = 0) ∧ (0 < c → S.1 21 = M.1 13)
/-- only those counts differ -/
def FCh (S0 M0 S M : St) : Prop := (∀ k, k < 19 → S.1 k = S0.1 k) ∧ S.2 = S0.2 ∧ (∀ k, k < 11 → M.1 k = M0.1 k) ∧ M.2 = M0.2
theorem ch_in {S0 M0 : St} {tc : Nat} (told a : Int32) (h18 : S0.1 18 = nI tc) (h8 : M0.1 8 = nI tc) (htc : tc ≤ 6) (ht : M0.1 4 = told) (e7 : S0.2.1 7 = M0.2.1 11) (e8 : S0.2.1 8 = M0.2.1 12) : ∀ (k n1 n2 c : Nat) (x : Int32) (S M : St), x.toInt = 10 - (k : Int) → k ≤ 19 → k < n1 → k < n2 → c + k ≤ 1000 → RCh c S M → FCh S0 M0 S M →
    ∃ c' S' M', l_X6_seekChanges_28 told a n1 x S = some S' ∧ l_X10_findChanges_27 a n2 x M = some M' ∧ c' ≤ c + k ∧ RCh c' S' M' ∧ FCh S0 M0 S' M' := by
  intro k
  have z9 : (9 : Int32).toInt = 9 := rfl
  have zo : (1 : Int32).toInt = 1 := rfl
  induction k with
  | zero =>
    intro n1 n2 c x S M hx hk h1 h2 hc hR hF
    obtain ⟨n1, rfl⟩ : ∃ m, n1 = m + 1 := ⟨n1 - 1, by omega⟩
    obtain ⟨n2, rfl⟩ : ∃ m, n2 = m + 1 := ⟨n2 - 1, by omega⟩
    have c9 : (9 : Int32) < x := by rw [fa_lt]; omega
    exact ⟨c, S, M, by rw [l_X6_seekChanges_28, if_pos c9], by rw [l_X10_findChanges_27, if_pos c9], by omega, hR, hF⟩
  | succ k ih =>
    intro n1 n2 c x S M hx hk h1 h2 hc hR hF
    obtain ⟨n1, rfl⟩ : ∃ m, n1 = m + 1 := ⟨n1 - 1, by omega⟩
    obtain ⟨n2, rfl⟩ : ∃ m, n2 = m + 1 := ⟨n2 - 1, by omega⟩
    have c9 : ¬ (9 : Int32) < x := by rw [fa_lt]; omega
    have hx1 : (x + 1).toInt = 10 - (k : Int) := by rw [fb_addI (by omega) (by omega)]; omega
    obtain ⟨F1, F2, F3, F4⟩ := id hF
    obtain ⟨R1, R2, R3, R4, R5⟩ := id hR
    have run := so_run (S := S) (M := M) told a x ((F1 18 (by omega)).trans h18) ((F3 8 (by omega)).trans h8) htc ((F3 4 (by omega)).trans ht) (by rw [F2, F4]; exact e7) (by rw [F2, F4]; exact e8) tc 0 fuel fuel (by omega) (by rw [fuelv]; omega) (by rw [fuelv]; omega)
    have fin2 : ∀ (S2 M2 : St) (c2 : Nat), RCh c2 S2 M2 → FCh S0 M0 S2 M2 → c2 ≤ c + 1 → ∃ c' S' M', l_X6_seekChanges_28 told a n1 (x + 1) S2 = some S' ∧ l_X10_findChanges_27 a n2 (x + 1) M2 = some M' ∧ c' ≤ c + (k + 1) ∧ RCh c' S' M' ∧ FCh S0 M0 S' M' := by
      intro S2 M2 c2 r f hc2
      obtain ⟨c', S', M', q1, q2, q3, q4, q5⟩ := ih n1 n2 c2 (x + 1) S2 M2 hx1 (by omega) (by omega) (by omega) (by omega) r f
      exact ⟨c', S', M', q1, q2, by omega, q4, q5⟩
    rw [l_X6_seekChanges_28, l_X10_findChanges_27, if_neg c9, if_neg c9]
    unfold f_X6_allAreSo
    rw [show l_X6_allAreSo_3 told a x S fuel 0 = l_X6_allAreSo_3 told a x S fuel (nI 0) from rfl, show l_X10_findChanges_38 a x M fuel 1 0 = l_X10_findChanges_38 a x M fuel 1 (nI 0) from rfl]
    rcases run with ⟨g1, g2⟩ | ⟨g1, g2⟩
    · rw [g1, g2]
      simp only [bSome]
      rw [if_pos trivial, if_pos trivial]
      simp only [bSome]
      rw [if_pos trivial]
      unfold j_X10_findChanges_116 j_X10_findChanges_120 j_X10_findChanges_137
      simp only [nm_eq]
      rw [if_pos trivial, if_pos trivial]
      have keep : ∀ M1 : St, M1 = sI (sI (sI M 12 (M.1 12)) 11 ((sI M 12 (M.1 12)).1 11 + 0)) 13 ((sI (sI M 12 (M.1 12)) 11 ((sI M 12 (M.1 12)).1 11 + 0)).1 13 ||| 0) → M1 = M := by
        intro M1 e
        rw [e]
        refine ext3 (fun j => ?_) (fun _ _ => rfl) rfl
        simp only [sI1]
        by_cases j13 : j = 13
        · subst j13; simp
        · by_cases j11 : j = 11
          · subst j11; simp
          · by_cases j12 : j = 12
            · subst j12; simp
            · simp [j13, j11, j12]
      rw [keep _ rfl]
      exact fin2 S M c hR hF (by omega)
    · rw [g1, g2]
      simp only [bSome]
      rw [if_neg (show ¬ ((1 : Nat) = 0) by decide)]
      simp only [bSome]
      rw [if_neg (show ¬ ((1 : Int32) = 0) by decide), if_neg (show ¬ ((1 : Int32) = 0) by decide)]
      unfold f_X6_countChange j_X6_countChange_25 j_X10_findChanges_116 j_X10_findChanges_120 j_X10_findChanges_137
      simp only [nm_eq]
      rw [R1, R2]
      simp only [if_neg (show ¬ ((1 : Int32) = 0) by decide)]
      by_cases c0 : c = 0
      · subst c0
        rw [if_pos (show nI 0 = 0 from rfl), if_pos (show nI 0 = 0 from rfl)]
        simp only [bSome]
        refine fin2 _ _ 1 ⟨?_, ?_, rfl, fun z => absurd z (by omega), fun _ => ?_⟩ ⟨fun k hk => ?_, F2, fun k hk => ?_, F4⟩ (by omega)
        · show S.1 19 + 1 = nI 1
          rw [R1]; rfl
        · show M.1 11 + 1 = nI 1
          rw [R2]; rfl
        · show (0 : Int32) ||| _ = M.1 13 ||| _
          rw [(R4 rfl).2.2]
        · rw [sI1, if_neg (by omega), sI1, if_neg (by omega), sI1, if_neg (by omega), sI1, if_neg (by omega)]; exact F1 k hk
        · rw [sI1, if_neg (by omega), sI1, if_neg (by omega), sI1, if_neg (by omega)]; exact F3 k hk
      · have cn : ¬ nI c = 0 := fun q => by rw [show (0 : Int32) = nI 0 from rfl, eqN (by omega) (by omega)] at q; exact c0 q
        rw [if_neg cn, if_neg cn]
        simp only [bSome]
        refine fin2 _ _ (c + 1) ⟨?_, ?_, R3, fun z => absurd z (by omega), fun _ => ?_⟩ ⟨fun k hk => ?_, F2, fun k hk => ?_, F4⟩ (by omega)
        · show nI c + 1 = nI (c + 1)
          exact nI_1 c
        · show M.1 11 + 1 = nI (c + 1)
          rw [R2]; exact nI_1 c
        · show S.1 21 ||| _ = M.1 13 ||| _
          rw [R5 (by omega)]
        · rw [sI1, if_neg (by omega), sI1, if_neg (by omega)]; exact F1 k hk
        · rw [sI1, if_neg (by omega), sI1, if_neg (by omega), sI1, if_neg (by omega)]; exact F3 k hk
theorem ch_out {S0 M0 : St} {tc : Nat} (told : Int32) (h18 : S0.1 18 = nI tc) (h8 : M0.1 8 = nI tc) (htc : tc ≤ 6) (ht : M0.1 4 = told) (e7 : S0.2.1 7 = M0.2.1 11) (e8 : S0.2.1 8 = M0.2.1 12) : ∀ (k i n1 n2 c : Nat) (S M : St), i + k = 9 → k < n1 → k < n2 → c + 19 * k ≤ 1000 → RCh c S M → FCh S0 M0 S M →
    ∃ c' S' M', l_X6_seekChanges_19 told n1 (nI i) S = some S' ∧ l_X10_findChanges_18 n2 (nI i) M = some M' ∧ c' ≤ 1000 ∧ RCh c' S' M' ∧ FCh S0 M0 S' M' := by
  intro k
  induction k with
  | zero =>
    intro i n1 n2 c S M hi h1 h2 hc hR hF
    obtain ⟨n1, rfl⟩ : ∃ m, n1 = m + 1 := ⟨n1 - 1, by omega⟩
    obtain ⟨n2, rfl⟩ : ∃ m, n2 = m + 1 := ⟨n2 - 1, by omega⟩
    have c9 : (8 : Int32) < nI i := by rw [show (8 : Int32) = nI 8 from rfl, ltN (by omega) (by omega)]; omega
    exact ⟨c, S, M, by rw [l_X6_seekChanges_19, if_pos c9], by rw [l_X10_findChanges_18, if_pos c9], by omega, hR, hF⟩
  | succ k ih =>
    intro i n1 n2 c S M hi h1 h2 hc hR hF
    obtain ⟨n1, rfl⟩ : ∃ m, n1 = m + 1 := ⟨n1 - 1, by omega⟩
    obtain ⟨n2, rfl⟩ : ∃ m, n2 = m + 1 := ⟨n2 - 1, by omega⟩
    have c9 : ¬ (8 : Int32) < nI i := by rw [show (8 : Int32) = nI 8 from rfl, ltN (by omega) (by omega)]; omega
    obtain ⟨c', S', M', q1, q2, q3, q4, q5⟩ := ch_in told (nI i) h18 h8 htc ht e7 e8 19 fuel fuel c (-9) S M rfl (by omega) (by rw [fuelv]; omega) (by rw [fuelv]; omega) (by omega) hR hF
    rw [l_X6_seekChanges_19, l_X10_findChanges_18, if_neg c9, if_neg c9, q1, q2]
    simp only [bSome]
    rw [show nI i + 1 = nI (i + 1) from nI_1 i]
    exact ih (i + 1) n1 n2 c' S' M' (by omega) (by omega) (by omega) (by omega) q4 q5
theorem op_changes {S M : St} (h : Inv S M) (x : Int32) : ∃ r S' M', f_X9_changes x S = some (r, S') ∧ f_X10_changes x M = some (r, M') ∧ Inv S' M' := by
  have h0 := h
  obtain ⟨tl, st, ar, ct, fi, fl, tc, hT, hL, hW, hA, hSl, hTe, hs0⟩ := h
  obtain ⟨t1, t2, t3, t4, t5⟩ := id hTe
  unfold f_X9_changes f_X10_changes
  rw [nm_eq, show (0 : Int64) = (0 : Int32).toInt64 from rfl, show (2 : Int64) = (2 : Int32).toInt64 from rfl]
  have z2 : (2 : Int32).toInt = 2 := rfl
  have z0 : (0 : Int32).toInt = 0 := rfl
  by_cases c1 : x < 0
  · rw [if_pos c1, in_no (Or.inl c1)]
    simp only [bSome]
    rw [if_pos trivial]
    exact ⟨_, _, _, rfl, rfl, h0.t 0⟩
  rw [if_neg c1]
  by_cases c2 : x ≤ 2
  · rw [if_pos c2, in_yes (by rw [fa_lt] at c1; rw [fa_le]; omega) c2]
    simp only [bSome]
    rw [if_neg (show ¬ ((1 : Int32) = 0) by decide)]
    unfold f_X6_seekChanges f_X10_findChanges
    simp only [nm_eq]
    obtain ⟨c, S', M', q1, q2, q3, q4, q5⟩ := ch_out (S0 := S) (M0 := sI M 0 0) (S.1 2) t2 t3 t1 hL.2.2.1.1.symm t4 t5 9 0 fuel fuel 0 (sI (sI (sI S 19 0) 20 (-9)) 21 (-9)) (sI (sI (sI (sI M 0 0) 11 0) 12 (-9)) 13 0) (by omega) (by rw [fuelv]; omega) (by rw [fuelv]; omega) (by omega) ⟨rfl, rfl, rfl, fun _ => ⟨rfl, rfl, rfl⟩, fun z => absurd z (by omega)⟩ ⟨fun k hk => by rw [sI1, if_neg (by omega), sI1, if_neg (by omega), sI1, if_neg (by omega)], rfl, fun k hk => by rw [sI1, if_neg (by omega), sI1, if_neg (by omega), sI1, if_neg (by omega)], rfl⟩
    rw [show l_X6_seekChanges_19 (S.1 2) fuel 0 (sI (sI (sI S 19 0) 20 (-9)) 21 (-9)) = _ from q1, show l_X10_findChanges_18 fuel 0 (sI (sI (sI (sI M 0 0) 11 0) 12 (-9)) 13 0) = _ from q2]
    simp only [bSome]
    obtain ⟨F1, F2, F3, F4⟩ := q5
    obtain ⟨R1, R2, R3, R4, R5⟩ := q4
    have hI : Inv S' M' := (h0.x F1 (fun k _ => by rw [F2]) (by rw [F2])).m (F3 1 (by omega)) (F3 3 (by omega)) (F3 4 (by omega)) (F3 5 (by omega)) (F3 7 (by omega)) (F3 8 (by omega)) (fun k _ => by rw [F4]; rfl) (by rw [F4]; rfl)
    by_cases x0 : x = 0
    · rw [if_pos x0, if_pos x0]
      exact ⟨nI c, S', M', by rw [R1], by rw [R2], hI⟩
    rw [if_neg x0, if_neg x0, R2]
    by_cases cz : c = 0
    · subst cz
      rw [if_pos (show nI 0 = 0 from rfl), (R4 rfl).1, (R4 rfl).2.1]
      refine ⟨-9, S', M', ?_, rfl, hI⟩
      split <;> rfl
    · rw [if_neg (show ¬ nI c = 0 from fun q => by rw [show (0 : Int32) = nI 0 from rfl, eqN (by omega) (by omega)] at q; exact cz q), R3, R5 (by omega)]
      by_cases x1 : x = 1
      · rw [if_pos x1, if_pos x1]
        exact ⟨_, S', M', rfl, rfl, hI⟩
      · rw [if_neg x1, if_neg x1]
        exact ⟨_, S', M', rfl, rfl, hI⟩
  · rw [if_neg c2, in_no (Or.inr (by rw [fa_le] at c2; rw [fa_lt]; omega))]
    simp only [bSome]
    rw [if_pos trivial]
    exact ⟨_, _, _, rfl, rfl, h0.t 0⟩
