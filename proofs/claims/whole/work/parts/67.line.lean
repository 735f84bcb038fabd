/-! ===== line: the line that stands on the board ===== -/
theorem cF_all {S : St} {tl : Nat} (h0 : S.1 0 = nI tl) (htl : tl ≤ 40) : ∀ (r i f : Nat), i + r = tl → r < f → cF S f i = some (-9) → ∀ k, i ≤ k → k < tl → okB (S.2.1 0) k := by
  intro r
  induction r with
  | zero => intro i f hi _ _ k h1 h2; omega
  | succ r ih =>
    intro i f hi hf hc k h1 h2
    obtain ⟨f, rfl⟩ : ∃ m, f = m + 1 := ⟨f - 1, by omega⟩
    by_cases d : okB (S.2.1 0) i
    · rw [cF_ok h0 htl (by omega) d] at hc
      by_cases e : k = i
      · rw [e]; exact d
      · exact ih (i + 1) f (by omega) (by omega) hc k (by omega) h2
    · rw [cF_bad h0 htl (by omega) d] at hc
      have y := congrArg Int32.toInt (Option.some.inj hc)
      rw [nI_toInt (by omega), show (-9 : Int32).toInt = -9 from rfl] at y
      omega
theorem digN {x : Int32} {lo hi : Nat} (hh : hi < 100) (h : nI lo ≤ x ∧ x ≤ nI hi) (hl : lo ≤ hi) : ∃ d : Nat, lo ≤ d ∧ d ≤ hi ∧ x = nI d := by
  obtain ⟨h1, h2⟩ := h
  rw [fa_le, nI_toInt (by omega)] at h1
  rw [fa_le, nI_toInt (by omega)] at h2
  obtain ⟨d, d1, d2⟩ := smI (x := x) (n := hi + 1) (by omega) (by omega)
  subst d2
  rw [nI_toInt (by omega)] at h1
  exact ⟨d, by omega, by omega, rfl⟩
theorem readX_run {T : Nat → Int32} {tl st : Nat} (htl : tl = 6 + 4 * st) (hst : st ≤ 8) : ∀ (r i f : Nat) (S : St), i + r = st → r < f → S.1 6 = nI st → S.1 0 = nI tl → S.2.1 0 = T →
    ∃ S', l_X3_read_a1_70 f (nI i) S = some S' ∧ S'.1 = S.1 ∧ S'.2.2 = S.2.2 ∧ (∀ k, k ≠ 1 → k ≠ 2 → k ≠ 3 → k ≠ 10 → S'.2.1 k = S.2.1 k) ∧ (∀ c, c < 3 → ∀ q, S'.2.1 (1 + c) q = if i ≤ q ∧ q < st then T (6 + 4 * q + 1 + c) - 48 else S.2.1 (1 + c) q) ∧ ∀ q, S'.2.1 10 q = if i ≤ q ∧ q < st then gnd (T (6 + 4 * q + 1) - 48) (T (6 + 4 * q + 2) - 48) else S.2.1 10 q := by
  intro r
  induction r with
  | zero =>
    intro i f S hi hf h6 h0 hT
    obtain ⟨f, rfl⟩ : ∃ m, f = m + 1 := ⟨f - 1, by omega⟩
    refine ⟨S, ?_, rfl, rfl, fun _ _ _ _ _ => rfl, fun c _ q => ?_, fun q => ?_⟩
    · rw [l_X3_read_a1_70, h6, if_pos ((leN (by omega) (by omega)).mpr (by omega))]
    · rw [if_neg (by omega)]
    · rw [if_neg (by omega)]
  | succ r ih =>
    intro i f S hi hf h6 h0 hT
    obtain ⟨f, rfl⟩ : ∃ m, f = m + 1 := ⟨f - 1, by omega⟩
    have dg : ∀ (S' : St) (k : Nat), S'.1 0 = nI tl → S'.2.1 0 = T → k < tl → f_X7_digitAt (nI k) S' = some (T k - 48) := by
      intro S' k e1 e2 e3
      rw [digitAt_eq e1 (by omega) e3, e2]
    rw [l_X3_read_a1_70, h6, if_neg (by rw [leN (by omega) (by omega)]; omega), if_neg (show ¬ (8 : Int32) ≤ nI i by rw [show (8 : Int32) = nI 8 from rfl, leN (by omega) (by omega)]; omega), show (4 : Int32) * nI i = nI (4 * i) from nI_mul 4 i, show (6 : Int32) + nI (4 * i) = nI (6 + 4 * i) from nI_add 6 (4 * i), nm_eq]
    simp only [if_neg (inN (show i < 8 by omega) (show 8 < 2147483648 by omega))]
    rw [clN (by omega), show nI (6 + 4 * i) + 1 = nI (6 + 4 * i + 1) from nI_add _ 1, show nI (6 + 4 * i) + 2 = nI (6 + 4 * i + 2) from nI_add _ 2, show nI (6 + 4 * i) + 3 = nI (6 + 4 * i + 3) from nI_add _ 3, dg S (6 + 4 * i + 1) h0 hT (by omega)]
    simp only [bSome, nm_eq]
    rw [dg (sA S 1 i (T (6 + 4 * i + 1) - 48)) (6 + 4 * i + 2) h0 hT (by omega)]
    simp only [bSome]
    rw [dg (sA (sA S 1 i (T (6 + 4 * i + 1) - 48)) 2 i (T (6 + 4 * i + 2) - 48)) (6 + 4 * i + 3) h0 hT (by omega)]
    simp only [bSome]
    rw [errG_eq]
    simp only [bSome]
    rw [show nI i + 1 = nI (i + 1) from nI_1 i]
    have g1 : (sA (sA (sA S 1 i (T (6 + 4 * i + 1) - 48)) 2 i (T (6 + 4 * i + 2) - 48)) 3 i (T (6 + 4 * i + 3) - 48)).2.1 1 i = T (6 + 4 * i + 1) - 48 := if_pos rfl
    have g2 : (sA (sA (sA S 1 i (T (6 + 4 * i + 1) - 48)) 2 i (T (6 + 4 * i + 2) - 48)) 3 i (T (6 + 4 * i + 3) - 48)).2.1 2 i = T (6 + 4 * i + 2) - 48 := if_pos rfl
    rw [g1, g2]
    obtain ⟨S', e1, e2, e3, e4, e5, e9⟩ := ih (i + 1) f (sA (sA (sA (sA S 1 i (T (6 + 4 * i + 1) - 48)) 2 i (T (6 + 4 * i + 2) - 48)) 3 i (T (6 + 4 * i + 3) - 48)) 10 i (gnd (T (6 + 4 * i + 1) - 48) (T (6 + 4 * i + 2) - 48))) (by omega) (by omega) h6 h0 hT
    refine ⟨S', e1, e2, e3, fun k k1 k2 k3 k4 => ?_, fun c hc q => ?_, fun q => ?_⟩
    · rw [e4 k k1 k2 k3 k4, sA2, if_neg k4, sA2, if_neg k3, sA2, if_neg k2, sA2, if_neg k1]
    rotate_left
    · rw [e9 q, show (sA (sA (sA (sA S 1 i (T (6 + 4 * i + 1) - 48)) 2 i (T (6 + 4 * i + 2) - 48)) 3 i (T (6 + 4 * i + 3) - 48)) 10 i (gnd (T (6 + 4 * i + 1) - 48) (T (6 + 4 * i + 2) - 48))).2.1 10 q = if q = i then gnd (T (6 + 4 * i + 1) - 48) (T (6 + 4 * i + 2) - 48) else S.2.1 10 q from rfl]
      by_cases d1 : q = i
      · rw [if_neg (by omega), if_pos d1, if_pos (by omega), d1]
      · rw [if_neg d1]
        by_cases d2 : i + 1 ≤ q ∧ q < st
        · rw [if_pos d2, if_pos (by omega)]
        · rw [if_neg d2, if_neg (by omega)]
    · rw [e5 c hc q]
      have e6 : (sA (sA (sA (sA S 1 i (T (6 + 4 * i + 1) - 48)) 2 i (T (6 + 4 * i + 2) - 48)) 3 i (T (6 + 4 * i + 3) - 48)) 10 i (gnd (T (6 + 4 * i + 1) - 48) (T (6 + 4 * i + 2) - 48))).2.1 (1 + c) q = if q = i then T (6 + 4 * i + 1 + c) - 48 else S.2.1 (1 + c) q := by
        rcases (show c = 0 ∨ c = 1 ∨ c = 2 by omega) with rfl | rfl | rfl <;> rfl
      rw [e6]
      by_cases d1 : q = i
      · rw [if_neg (by omega), if_pos d1, if_pos (by omega), d1]
      · rw [if_neg d1]
        by_cases d2 : i + 1 ≤ q ∧ q < st
        · rw [if_pos d2, if_pos (by omega)]
        · rw [if_neg d2, if_neg (by omega)]
theorem readM_run {st : Nat} (hst : st ≤ 8) : ∀ (r i f : Nat) (M : St), i + r = st → r < f → M.1 5 = nI st →
    ∃ M', l_X10_line_71 f (nI i) M = some M' ∧ M'.1 = M.1 ∧ M'.2.2 = M.2.2 ∧ (∀ k, k ≠ 2 → k ≠ 3 → k ≠ 4 → M'.2.1 k = M.2.1 k) ∧ ∀ c, c < 3 → ∀ q, M'.2.1 (2 + c) q = if i ≤ q ∧ q < st then M.2.1 6 (3 * q + c) else M.2.1 (2 + c) q := by
  intro r
  induction r with
  | zero =>
    intro i f M hi hf h5
    obtain ⟨f, rfl⟩ : ∃ m, f = m + 1 := ⟨f - 1, by omega⟩
    refine ⟨M, ?_, rfl, rfl, fun _ _ _ _ => rfl, fun c _ q => ?_⟩
    · rw [l_X10_line_71, h5, if_pos ((leN (by omega) (by omega)).mpr (by omega))]
    · rw [if_neg (by omega)]
  | succ r ih =>
    intro i f M hi hf h5
    obtain ⟨f, rfl⟩ : ∃ m, f = m + 1 := ⟨f - 1, by omega⟩
    rw [l_X10_line_71, h5, if_neg (by rw [leN (by omega) (by omega)]; omega), show (3 : Int32) * nI i = nI (3 * i) from nI_mul 3 i, show nI (3 * i) + 1 = nI (3 * i + 1) from nI_add _ 1, show nI (3 * i) + 2 = nI (3 * i + 2) from nI_add _ 2]
    simp only [if_neg (inN (show i < 8 by omega) (show 8 < 2147483648 by omega)), if_neg (inN (show 3 * i < 24 by omega) (show 24 < 2147483648 by omega)), if_neg (inN (show 3 * i + 1 < 24 by omega) (show 24 < 2147483648 by omega)), if_neg (inN (show 3 * i + 2 < 24 by omega) (show 24 < 2147483648 by omega)), nm_eq]
    rw [clN (show i < 2147483648 by omega), clN (show 3 * i < 2147483648 by omega), clN (show 3 * i + 1 < 2147483648 by omega), clN (show 3 * i + 2 < 2147483648 by omega), show nI i + 1 = nI (i + 1) from nI_1 i]
    obtain ⟨M', e1, e2, e3, e4, e5⟩ := ih (i + 1) f (sA (sA (sA M 2 i (M.2.1 6 (3 * i))) 3 i (M.2.1 6 (3 * i + 1))) 4 i (M.2.1 6 (3 * i + 2))) (by omega) (by omega) h5
    refine ⟨M', e1, e2, e3, fun k k1 k2 k3 => ?_, fun c hc q => ?_⟩
    · rw [e4 k k1 k2 k3, sA2, if_neg k3, sA2, if_neg k2, sA2, if_neg k1]
    · rw [e5 c hc q]
      have e6 : (sA (sA (sA M 2 i (M.2.1 6 (3 * i))) 3 i (M.2.1 6 (3 * i + 1))) 4 i (M.2.1 6 (3 * i + 2))).2.1 (2 + c) q = if q = i then M.2.1 6 (3 * i + c) else M.2.1 (2 + c) q := by
        rcases (show c = 0 ∨ c = 1 ∨ c = 2 by omega) with rfl | rfl | rfl <;> rfl
      have e7 : (sA (sA (sA M 2 i (M.2.1 6 (3 * i))) 3 i (M.2.1 6 (3 * i + 1))) 4 i (M.2.1 6 (3 * i + 2))).2.1 6 = M.2.1 6 := rfl
      rw [e6, e7]
      by_cases d1 : q = i
      · rw [if_neg (by omega), if_pos d1, if_pos (by omega), d1]
      · rw [if_neg d1]
        by_cases d2 : i + 1 ≤ q ∧ q < st
        · rw [if_pos d2, if_pos (by omega)]
        · rw [if_neg d2, if_neg (by omega)]
theorem page0_run : ∀ (r i f : Nat) (M : St), i + r = 16 → r < f →
    ∃ M', l_X10_line_133 f (nI i) M = some M' ∧ M'.1 = M.1 ∧ M'.2.2 = M.2.2 ∧ (∀ k, k ≠ 7 → M'.2.1 k = M.2.1 k) ∧ ∀ q, M'.2.1 7 q = if i ≤ q ∧ q < 16 then 0 else M.2.1 7 q := by
  intro r
  induction r with
  | zero =>
    intro i f M hi hf
    obtain ⟨f, rfl⟩ : ∃ m, f = m + 1 := ⟨f - 1, by omega⟩
    refine ⟨M, ?_, rfl, rfl, fun _ _ => rfl, fun q => ?_⟩
    · rw [l_X10_line_133, if_pos (show (16 : Int32) ≤ nI i by rw [show (16 : Int32) = nI 16 from rfl, leN (by omega) (by omega)]; omega)]
    · rw [if_neg (by omega)]
  | succ r ih =>
    intro i f M hi hf
    obtain ⟨f, rfl⟩ : ∃ m, f = m + 1 := ⟨f - 1, by omega⟩
    rw [l_X10_line_133, if_neg (show ¬ (16 : Int32) ≤ nI i by rw [show (16 : Int32) = nI 16 from rfl, leN (by omega) (by omega)]; omega), if_neg (inN (show i < 16 by omega) (by omega)), nm_eq, clN (by omega), show nI i + 1 = nI (i + 1) from nI_1 i]
    obtain ⟨M', e1, e2, e3, e4, e5⟩ := ih (i + 1) f (sA M 7 i 0) (by omega) (by omega)
    refine ⟨M', e1, e2, e3, fun k k1 => ?_, fun q => ?_⟩
    · rw [e4 k k1, sA2, if_neg k1]
    · rw [e5 q, show (sA M 7 i 0).2.1 7 q = (if q = i then 0 else M.2.1 7 q) from rfl]
      by_cases d1 : q = i
      · rw [if_neg (by omega), if_pos d1, if_pos (by omega)]
      · rw [if_neg d1]
        by_cases d2 : i + 1 ≤ q ∧ q < 16
        · rw [if_pos d2, if_pos (by omega)]
        · rw [if_neg d2, if_neg (by omega)]
theorem lineX {S : St} {tl n : Nat} (h0 : S.1 0 = nI tl) (htl : tl = 6 + 4 * n) (hn : n ≤ 8) : ∃ S', f_X3_read_a1 S = some S' ∧
    (S'.1 1 = S.2.1 0 1 - 48 ∧ S'.1 2 = S.2.1 0 2 - 48 - 5 ∧ S'.1 3 = S.2.1 0 3 - 48 ∧ S'.1 4 = S.2.1 0 4 - 48 - 5 ∧ S'.1 5 = S.2.1 0 5 - 48 - 5 ∧ S'.1 6 = nI n) ∧ (∀ k, k < 1 ∨ 7 ≤ k → S'.1 k = S.1 k) ∧ S'.2.2 = S.2.2 ∧ (∀ k, k ≠ 1 → k ≠ 2 → k ≠ 3 → k ≠ 10 → S'.2.1 k = S.2.1 k) ∧ (∀ c, c < 3 → ∀ q, S'.2.1 (1 + c) q = if q < n then S.2.1 0 (6 + 4 * q + 1 + c) - 48 else S.2.1 (1 + c) q) ∧ Gr n S' := by
  have dg : ∀ (S' : St) (k : Nat), S'.1 0 = nI tl → S'.2.1 0 = S.2.1 0 → k < tl → f_X7_digitAt (nI k) S' = some (S.2.1 0 k - 48) := by
    intro S' k e1 e2 e3
    rw [digitAt_eq e1 (by omega) e3, e2]
  unfold f_X3_read_a1
  rw [show f_X7_digitAt (1 : Int32) S = _ from dg S 1 h0 rfl (by omega)]
  simp only [bSome, nm_eq]
  rw [show f_X7_digitAt (2 : Int32) (sI S 1 (S.2.1 0 1 - 48)) = _ from dg _ 2 h0 rfl (by omega)]
  simp only [bSome]
  rw [show f_X7_digitAt (3 : Int32) (sI (sI S 1 (S.2.1 0 1 - 48)) 2 (S.2.1 0 2 - 48 - 5)) = _ from dg _ 3 h0 rfl (by omega)]
  simp only [bSome]
  rw [show f_X7_digitAt (4 : Int32) (sI (sI (sI S 1 (S.2.1 0 1 - 48)) 2 (S.2.1 0 2 - 48 - 5)) 3 (S.2.1 0 3 - 48)) = _ from dg _ 4 h0 rfl (by omega)]
  simp only [bSome]
  rw [show f_X7_digitAt (5 : Int32) (sI (sI (sI (sI S 1 (S.2.1 0 1 - 48)) 2 (S.2.1 0 2 - 48 - 5)) 3 (S.2.1 0 3 - 48)) 4 (S.2.1 0 4 - 48 - 5)) = _ from dg _ 5 h0 rfl (by omega)]
  simp only [bSome]
  unfold f_X7_stages
  simp only [bSome]
  rw [show (sI (sI (sI (sI (sI S 1 (S.2.1 0 1 - 48)) 2 (S.2.1 0 2 - 48 - 5)) 3 (S.2.1 0 3 - 48)) 4 (S.2.1 0 4 - 48 - 5)) 5 (S.2.1 0 5 - 48 - 5)).1 0 = nI tl from h0]
  rw [show (nI tl - 6) / 4 = nI n by
    rw [show (6 : Int32) = nI 6 from rfl, show (4 : Int32) = nI 4 from rfl, nI_sub (by omega), nI_div (by omega) (by omega) (by omega)]
    congr 1; omega]
  have em : (if nI n < (8 : Int32) then nI n else 8) = nI n := by
    by_cases c : n = 8
    · rw [c]; rfl
    · rw [if_pos (show nI n < (8 : Int32) by rw [show (8 : Int32) = nI 8 from rfl, ltN (by omega) (by omega)]; omega)]
  have ex : (if (0 : Int32) < nI n then nI n else 0) = nI n := by
    by_cases c : n = 0
    · rw [c]; rfl
    · rw [if_pos (show (0 : Int32) < nI n by rw [show (0 : Int32) = nI 0 from rfl, ltN (by omega) (by omega)]; omega)]
  rw [em, ex]
  obtain ⟨S', e1, e2, e3, e4, e5, e9⟩ := readX_run (T := S.2.1 0) htl hn n 0 fuel (sI (sI (sI (sI (sI (sI S 1 (S.2.1 0 1 - 48)) 2 (S.2.1 0 2 - 48 - 5)) 3 (S.2.1 0 3 - 48)) 4 (S.2.1 0 4 - 48 - 5)) 5 (S.2.1 0 5 - 48 - 5)) 6 (nI n)) (by omega) (by rw [fuelv]; omega) rfl h0 rfl
  rw [show l_X3_read_a1_70 fuel 0 (sI (sI (sI (sI (sI (sI S 1 (S.2.1 0 1 - 48)) 2 (S.2.1 0 2 - 48 - 5)) 3 (S.2.1 0 3 - 48)) 4 (S.2.1 0 4 - 48 - 5)) 5 (S.2.1 0 5 - 48 - 5)) 6 (nI n)) = _ from e1]
  simp only [bSome]
  refine ⟨S', rfl, ?_, ?_, e3, e4, ?_, ?_⟩
  · rw [e2]
    exact ⟨rfl, rfl, rfl, rfl, rfl, rfl⟩
  · intro k hk
    rw [e2]
    simp only [sI1]
    rw [if_neg (by omega), if_neg (by omega), if_neg (by omega), if_neg (by omega), if_neg (by omega), if_neg (by omega)]
  · intro c hc q
    rw [e5 c hc q]
    by_cases d : q < n
    · rw [if_pos (by omega), if_pos d]
    · rw [if_neg (by omega), if_neg d]
      rfl
  · intro i hi
    rw [e9 i, show S'.2.1 1 i = _ from e5 0 (by omega) i, show S'.2.1 2 i = _ from e5 1 (by omega) i, if_pos (by omega), if_pos (by omega), if_pos (by omega)]
theorem dig5 {x : Int32} {d : Nat} (h : x = nI d) (hd : d ≤ 9) : -9 ≤ (x - 5).toInt ∧ (x - 5).toInt ≤ 9 := by
  have z : (5 : Int32).toInt = 5 := rfl
  subst h
  rw [fb_subI (by rw [nI_toInt (by omega), z]; omega) (by rw [nI_toInt (by omega), z]; omega), nI_toInt (by omega), z]
  omega
theorem op_line {S M : St} (h : Inv S M) : ∃ r S' M', f_X9_line S = some (r, S') ∧ f_X10_line M = some (r, M') ∧ Inv S' M' := by
  have hI := h
  obtain ⟨tl, st, ar, ct, fi, fl, tc, h⟩ := h
  obtain ⟨x1, x2, x3, x4⟩ := h.1
  have hL := h.2.1
  have hTe := h.2.2.2.2.2.1
  have hs := h.2.2.2.2.2.2
  unfold f_X9_line f_X10_line
  rw [nm_eq]
  rcases reading (M := sI M 0 0) x2 x1 x3 x4.symm with ⟨p, M', hp, q1, q2, q3⟩ | ⟨n, M1, n1, n2, q1, q2, q3, q4, q5, q6⟩
  · have hne : ¬ nI p = (-9 : Int32) := fun z => by
      have y := congrArg Int32.toInt z
      rw [nI_toInt (by omega), show (-9 : Int32).toInt = -9 from rfl] at y
      omega
    rw [q1, q2]
    simp only [bSome]
    rw [if_neg hne, if_neg hne]
    exact ⟨_, _, _, rfl, rfl, q3.inv (hI.t 0)⟩
  have hall := cF_all x2 x1 tl 0 fuel (by omega) (by rw [fuelv]; omega) q1
  rw [q1, q2]
  simp only [bSome]
  rw [if_pos trivial, if_pos trivial]
  obtain ⟨d1, a1, a2, a3⟩ : ∃ d : Nat, 2 ≤ d ∧ d ≤ 9 ∧ S.2.1 0 1 - 48 = nI d := digN (by omega) (by have := hall 1 (by omega) (by omega); unfold okB at this; rw [if_neg (by omega), if_pos rfl] at this; exact this) (by omega)
  have dh : ∀ i, 2 ≤ i → i < 6 → ∃ d : Nat, 0 ≤ d ∧ d ≤ 9 ∧ S.2.1 0 i - 48 = nI d := fun i i1 i2 => digN (by omega) (by have := hall i (by omega) (by omega); unfold okB at this; rw [if_neg (by omega), if_neg (by omega), if_pos i2] at this; exact this) (by omega)
  have dg : ∀ q, q < n → ∃ g : Nat, 0 ≤ g ∧ g ≤ 9 ∧ S.2.1 0 (6 + 4 * q + 1 + 2) - 48 = nI g := fun q hq => digN (by omega) (by have := hall (6 + 4 * q + 1 + 2) (by omega) (by omega); unfold okB at this; rw [if_neg (by omega), if_neg (by omega), if_neg (by omega), if_neg (by omega), if_neg (by omega), if_neg (by omega)] at this; exact this) (by omega)
  obtain ⟨S1, u1, ⟨v1, v2, v3, v4, v5, v6⟩, u2, u3, u4, u5, u9⟩ := lineX x2 n2 n1
  rw [u1]
  simp only [bSome]
  unfold f_X8_begin_a3
  simp only [nm_eq, bSome]
  unfold f_X0_forget
  simp only [nm_eq, bSome]
  unfold f_X5_forget
  simp only [nm_eq, bSome]
  obtain ⟨M2, w1, w2, w3, w4, w5⟩ := readM_run n1 n 0 fuel (sI (sA (sA (sI (sI M1 3 (M1.2.1 5 0)) 4 (M1.2.1 5 1)) 1 0 (M1.2.1 5 3)) 1 1 (M1.2.1 5 4)) 5 (nI n)) (by omega) (by rw [fuelv]; omega) rfl
  have g1 : l_X10_line_71 fuel 0 (sI (sA (sA (sI (sI M1 3 (M1.2.1 5 0)) 4 ((sI M1 3 (M1.2.1 5 0)).2.1 5 1)) 1 0 ((sI (sI M1 3 (M1.2.1 5 0)) 4 ((sI M1 3 (M1.2.1 5 0)).2.1 5 1)).2.1 5 3)) 1 1 ((sA (sI (sI M1 3 (M1.2.1 5 0)) 4 ((sI M1 3 (M1.2.1 5 0)).2.1 5 1)) 1 0 ((sI (sI M1 3 (M1.2.1 5 0)) 4 ((sI M1 3 (M1.2.1 5 0)).2.1 5 1)).2.1 5 3)).2.1 5 4)) 5 ((sA (sA (sI (sI M1 3 (M1.2.1 5 0)) 4 ((sI M1 3 (M1.2.1 5 0)).2.1 5 1)) 1 0 ((sI (sI M1 3 (M1.2.1 5 0)) 4 ((sI M1 3 (M1.2.1 5 0)).2.1 5 1)).2.1 5 3)) 1 1 ((sA (sI (sI M1 3 (M1.2.1 5 0)) 4 ((sI M1 3 (M1.2.1 5 0)).2.1 5 1)) 1 0 ((sI (sI M1 3 (M1.2.1 5 0)) 4 ((sI M1 3 (M1.2.1 5 0)).2.1 5 1)).2.1 5 3)).2.1 5 4)).1 6)) = some M2 := by
    rw [show ((sA (sA (sI (sI M1 3 (M1.2.1 5 0)) 4 ((sI M1 3 (M1.2.1 5 0)).2.1 5 1)) 1 0 ((sI (sI M1 3 (M1.2.1 5 0)) 4 ((sI M1 3 (M1.2.1 5 0)).2.1 5 1)).2.1 5 3)) 1 1 ((sA (sI (sI M1 3 (M1.2.1 5 0)) 4 ((sI M1 3 (M1.2.1 5 0)).2.1 5 1)) 1 0 ((sI (sI M1 3 (M1.2.1 5 0)) 4 ((sI M1 3 (M1.2.1 5 0)).2.1 5 1)).2.1 5 3)).2.1 5 4)).1 6) = nI n from q4]
    exact w1
  rw [g1]
  simp only [bSome]
  obtain ⟨M3, y1, y2, y3, y4, y5⟩ := page0_run 16 0 fuel M2 (by omega) (by rw [fuelv]; omega)
  rw [show l_X10_line_133 fuel 0 M2 = _ from y1]
  simp only [bSome]
  have m5 : M3.1 5 = nI n := by rw [y2, w2]; rfl
  have m3 : M3.1 3 = nI d1 := by
    rw [y2, w2]
    show M1.2.1 5 0 = _
    rw [q5 0 (by omega), ← a3]; rfl
  have m4 : M3.1 4 = S1.1 2 := by
    rw [y2, w2]
    show M1.2.1 5 1 = _
    rw [q5 1 (by omega), v2]; rfl
  have r5 : M3.2.1 5 = M1.2.1 5 := by rw [y4 5 (by omega), w4 5 (by omega) (by omega) (by omega)]; rfl
  have rk : ∀ k, k = 0 ∨ 8 ≤ k → M3.2.1 k = M.2.1 k := by
    intro k hk
    rw [y4 k (by omega), w4 k (by omega) (by omega) (by omega), sI2, sA2, if_neg (by omega), sA2, if_neg (by omega), sI2, sI2, q3.2.1 k (by omega) (by omega)]
    rfl
  have m1 : ∀ k, k = 1 ∨ k = 8 → M3.1 k = M.1 k := by
    intro k hk
    rw [y2, w2]
    rcases hk with rfl | rfl
    · exact (q3.1 1 (by omega) (by omega)).trans rfl
    · exact (q3.1 8 (by omega) (by omega)).trans rfl
  have pz : ∀ q, q < 16 → M3.2.1 7 q = 0 := fun q hq => by rw [y5 q, if_pos (by omega)]
  have r1 : M3.2.1 1 0 = S1.1 4 ∧ M3.2.1 1 1 = S1.1 5 := by
    rw [y4 1 (by omega), w4 1 (by omega) (by omega) (by omega), v4, v5]
    constructor
    · show M1.2.1 5 3 = _
      rw [q5 3 (by omega)]; rfl
    · show M1.2.1 5 4 = _
      rw [q5 4 (by omega)]; rfl
  have rw3 : ∀ c, c < 3 → (∀ q, S.2.1 (1 + c) q = M.2.1 (2 + c) q) → S1.2.1 (1 + c) = M3.2.1 (2 + c) := by
    intro c hc ho
    funext q
    rw [u5 c hc q, y4 (2 + c) (by omega), w5 c hc q]
    by_cases d : q < n
    · rw [if_pos d, if_pos (by omega)]
      show _ = M1.2.1 6 (3 * q + c)
      rw [q6 (3 * q + c) (by omega)]
      unfold svT
      rw [show (3 * q + c) / 3 = q by omega, show (3 * q + c) % 3 = c by omega]
    · rw [if_neg d, if_neg (by omega), sI2, sA2, if_neg (by omega), sA2, if_neg (by omega), sI2, sI2, q3.2.1 (2 + c) (by omega) (by omega), sI2, ho q]
  have hg : ∀ i, ∃ g : Nat, g ≤ 9 ∧ S1.2.1 3 i = nI g := by
    intro i
    rw [show S1.2.1 3 i = _ from u5 2 (by omega) i]
    by_cases d : i < n
    · rw [if_pos d]
      obtain ⟨g, -, e1, e2⟩ := dg i d
      exact ⟨g, e1, e2⟩
    · rw [if_neg d]
      exact hL.2.2.2.2.1 i
  obtain ⟨d2, -, b1, b2⟩ := dh 2 (by omega) (by omega)
  obtain ⟨d3, -, b3, b4⟩ := dh 3 (by omega) (by omega)
  refine ⟨nI n, _, _, congrArg some (Prod.ext v6 rfl), congrArg some (Prod.ext m5 rfl), tl, n, d1, 0, 0, 0, tc, ?_, ?_, ?_, ?_, ?_, ?_, ?_⟩
  · exact ⟨x1, (u2 0 (by omega)).trans x2, (m1 1 (Or.inl rfl)).trans x3, (u4 0 (by omega) (by omega) (by omega) (by omega)).trans (x4.trans (rk 0 (Or.inl rfl)).symm)⟩
  · exact ⟨⟨n1, v6, m5⟩, ⟨a1, a2, v1.trans a3, m3⟩, ⟨m4.symm, r1.1.symm, r1.2.symm⟩, ⟨rw3 0 (by omega) (fun q => by rw [hL.2.2.2.1.1]), rw3 1 (by omega) (fun q => by rw [hL.2.2.2.1.2.1]), rw3 2 (by omega) (fun q => by rw [hL.2.2.2.1.2.2])⟩, hg, u9⟩
  · refine ⟨⟨(pz 0 (by omega)).symm, (v1.trans a3).trans m3.symm, (pz 2 (by omega)).symm, (pz 3 (by omega)).symm, (pz 4 (by omega)).symm, (pz 5 (by omega)).symm, m4.symm, ?_⟩, 0, d1, 0, 0, ⟨by omega, rfl, v1.trans a3, rfl, rfl, by decide, rfl, fun q => absurd q (by omega), Or.inl rfl, ?_, d3, v3.trans b4, b3⟩, fun i hi => absurd hi (by omega)⟩
    · show S1.1 3 = M3.2.1 5 2
      rw [r5, q5 2 (by omega), v3]; rfl
    · show -9 ≤ (S1.1 2).toInt ∧ (S1.1 2).toInt ≤ 9
      rw [v2]
      exact dig5 b2 b1
  · exact ⟨⟨by omega, by omega, rfl, rfl, rfl⟩, fun j hj => absurd hj (by omega)⟩
  · refine ⟨⟨by omega, rfl⟩, fun k hk => ⟨?_, fun q => absurd q (by rw [Nat.zero_div]; decide)⟩⟩
    rw [Nat.zero_div]
    rcases (show k = 0 ∨ k = 1 by omega) with rfl | rfl <;> rfl
  · exact ⟨hTe.1, (u2 18 (by omega)).trans hTe.2.1, (m1 8 (Or.inr rfl)).trans hTe.2.2.1, (u4 7 (by omega) (by omega) (by omega) (by omega)).trans (hTe.2.2.2.1.trans (rk 11 (by omega)).symm), (u4 8 (by omega) (by omega) (by omega) (by omega)).trans (hTe.2.2.2.2.trans (rk 12 (by omega)).symm)⟩
  · show S1.2.2 = M3.2.2
    rw [u3, y3, w3]
    exact hs.trans q3.2.2.symm
