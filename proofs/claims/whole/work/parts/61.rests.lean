/-! ===== rests: what the leaders lose ===== -/
def absI (x : Int32) : Int32 := if 0 ≤ x then x else 0 - x
/-- what one loses who mended 'own', by OFF -/
def losI (own off : Int32) : Int32 := absI off + 2 * absI own
theorem sumI_add (f g : Nat → Int32) : ∀ (k i : Nat), sumI (fun s => f s + g s) i k = sumI f i k + sumI g i k
  | 0, _ => rfl
  | k + 1, i => by
    rw [sumI, sumI, sumI, sumI_add f g k (i + 1)]
    ac_rfl
theorem sumI_shift (f : Nat → Int32) : ∀ (k i d : Nat), sumI (fun s => f (d + s)) i k = sumI f (d + i) k
  | 0, _, _ => rfl
  | k + 1, i, d => by
    rw [sumI, sumI, sumI_shift f k (i + 1) d, Nat.add_assoc]
theorem par_sum (a b : Int32) : ∀ (k i ld : Nat), ld < 2 → (ld + i) % 2 = (ld + i) % 2 → sumI (fun j => if (ld + j) % 2 = 0 then a else b) i k = nI (k - tSN ((ld + i) % 2) k) * a + nI (tSN ((ld + i) % 2) k) * b
  | 0, _, _, _, _ => by
    show (0 : Int32) = nI 0 * a + nI 0 * b
    rw [show nI 0 = 0 from rfl, Int32.zero_mul, Int32.zero_mul]; rfl
  | k + 1, i, ld, h, _ => by
    have ih := par_sum a b k (i + 1) ld h rfl
    rw [sumI, ih]
    have hle : ∀ q, q < 2 → ∀ m, tSN q m ≤ m := by
      intro q hq m
      induction m generalizing q with
      | zero => exact Nat.le_refl 0
      | succ m ihm =>
        have := ihm (1 - q) (by omega)
        rw [tSN]; omega
    rcases (show (ld + i) % 2 = 0 ∨ (ld + i) % 2 = 1 by omega) with q | q
    · have q1 : (ld + (i + 1)) % 2 = 1 := by omega
      rw [q, q1, if_pos rfl, tSN]
      have := hle 1 (by omega) k
      rw [show k + 1 - (0 + tSN (1 - 0) k) = (k - tSN 1 k) + 1 by simp; omega, show 0 + tSN (1 - 0) k = tSN 1 k by simp, ← nI_1, Int32.add_mul, Int32.one_mul]
      ac_rfl
    · have q1 : (ld + (i + 1)) % 2 = 0 := by omega
      rw [q, q1, if_neg (by decide), tSN]
      have := hle 0 (by omega) k
      rw [show k + 1 - (1 + tSN (1 - 1) k) = k - tSN 0 k by simp; omega, show 1 + tSN (1 - 1) k = tSN 0 k + 1 by simp; omega, ← nI_1, Int32.add_mul, Int32.one_mul]
      ac_rfl
theorem par2 {ld i : Nat} (hl : ld < 2) (hi : i < 9) : (nI ld + nI i) - (nI ld + nI i) / 2 * 2 = nI ((ld + i) % 2) := by
  rw [nI_add, show (2 : Int32) = nI 2 from rfl, nI_div (by omega) (by omega) (by omega), nI_mul, nI_sub (by omega)]
  congr 1; omega
theorem lossM_run {S M : St} {pl n ld : Nat} (hE : PgE S M) (p0 : M.2.1 7 0 = nI pl) (p5 : M.2.1 7 5 = nI ld) (hld : ld < 2) (hn : pl + n ≤ 8) (a b own : Int32) : ∀ (k i f : Nat) (acc : Int32), i + k = n → k < f → l_X10_lossOf_6 (nI n) a b own M f acc (nI i) = some (acc + sumI (fun j => ers S (pl + j) (nI ((ld + j) % 2)) + (if (ld + j) % 2 = 0 then a else b)) i k) := by
  intro k
  induction k with
  | zero =>
    intro i f acc hi hf
    obtain ⟨f, rfl⟩ : ∃ m, f = m + 1 := ⟨f - 1, by omega⟩
    rw [l_X10_lossOf_6, if_pos ((leN (by omega) (by omega)).mpr (by omega)), sumI, Int32.add_zero]
  | succ k ih =>
    intro i f acc hi hf
    obtain ⟨f, rfl⟩ : ∃ m, f = m + 1 := ⟨f - 1, by omega⟩
    have hl : nI ((ld + i) % 2) = nI 0 ∨ nI ((ld + i) % 2) = nI 1 := by
      rcases (show (ld + i) % 2 = 0 ∨ (ld + i) % 2 = 1 by omega) with q | q <;> rw [q]
      · exact Or.inl rfl
      · exact Or.inr rfl
    rw [l_X10_lossOf_6, if_neg (by rw [leN (by omega) (by omega)]; omega), p5, par2 hld (by omega), nm_eq, p0, nI_add, errorOf_eq hE (by omega) hl]
    simp only [bSome]
    unfold j_X10_lossOf_52
    rw [show nI i + 1 = nI (i + 1) from nI_1 i]
    have e : (if nI ((ld + i) % 2) = 0 then l_X10_lossOf_6 (nI n) a b own M f (acc + (ers S (pl + i) (nI ((ld + i) % 2)) + a)) (nI (i + 1)) else l_X10_lossOf_6 (nI n) a b own M f (acc + (ers S (pl + i) (nI ((ld + i) % 2)) + b)) (nI (i + 1))) = l_X10_lossOf_6 (nI n) a b own M f (acc + (ers S (pl + i) (nI ((ld + i) % 2)) + (if (ld + i) % 2 = 0 then a else b))) (nI (i + 1)) := by
      rcases (show (ld + i) % 2 = 0 ∨ (ld + i) % 2 = 1 by omega) with q | q
      · rw [q, if_pos (show nI 0 = 0 from rfl), if_pos rfl]
      · rw [q, if_neg (by decide), if_neg (by decide)]
    rw [e, ih (i + 1) f _ (by omega) (by omega), sumI, Int32.add_assoc]
/-- OFF when they mend by a and b: what is unmended, and their turns -/
def offAB (U : Int32) (n t : Nat) (a b : Int32) : Int32 := U + nI (n - t) * a + nI t * b
theorem lossM {S M : St} {pl n ld : Nat} (hE : PgE S M) (p0 : M.2.1 7 0 = nI pl) (p5 : M.2.1 7 5 = nI ld) (hld : ld < 2) (hn : pl + n ≤ 8) (a b own : Int32) : f_X10_lossOf (nI n) a b own M = some (losI own (offAB (sumI (fun s => ers S s (nI (planN ld pl n / 2 ^ s % 2))) pl n) n (tSN ld n) a b)) := by
  unfold f_X10_lossOf
  rw [show (0 : Int32) = nI 0 from rfl, lossM_run hE p0 p5 hld hn a b own n 0 fuel _ (by omega) (by rw [fuelv]; omega)]
  simp only [bSome]
  rw [size_abs, size_abs]
  simp only [bSome]
  have e : nI 0 + sumI (fun j => ers S (pl + j) (nI ((ld + j) % 2)) + (if (ld + j) % 2 = 0 then a else b)) 0 n = offAB (sumI (fun s => ers S s (nI (planN ld pl n / 2 ^ s % 2))) pl n) n (tSN ld n) a b := by
    rw [show nI 0 = 0 from rfl, Int32.zero_add, sumI_add, par_sum a b n 0 ld hld rfl]
    have e1 : sumI (fun j => ers S (pl + j) (nI ((ld + j) % 2))) 0 n = sumI (fun s => ers S s (nI (planN ld pl n / 2 ^ s % 2))) pl n := by
      rw [show sumI (fun s => ers S s (nI (planN ld pl n / 2 ^ s % 2))) pl n = sumI (fun s => ers S s (nI (planN ld pl n / 2 ^ s % 2))) (pl + 0) n from rfl, ← sumI_shift (fun s => ers S s (nI (planN ld pl n / 2 ^ s % 2))) n 0 pl]
      exact sumI_cong n 0 (fun j _ hj => by rw [plan_bit ld hld pl (by omega) n (by omega) hn j (by omega)])
    rw [e1, show (ld + 0) % 2 = ld by omega]
    unfold offAB
    rw [Int32.add_assoc]
  rw [e]
  rfl
/-- what the class has laid out for its leaders -/
def XMend (U : Int32) (n t : Nat) (S : St) : Prop := S.1 22 = U ∧ S.1 23 = nI (n - t) ∧ S.1 24 = nI t
theorem restX {S : St} {U : Int32} {n t : Nat} (hX : XMend U n t S) (a b : Int32) : f_X4_offMended a b S = some (offAB U n t a b) := by
  unfold f_X4_offMended offAB
  rw [hX.1, hX.2.1, hX.2.2]
theorem lossX (own off : Int32) : f_X4_lossOf own off = some (losI own off) := rfl
theorem rz_run {M : St} (nn a b one two : Int32) : ∀ (k n : Nat) (x : Int32), x.toInt = 3 - (k : Int) → k ≤ 5 → k < n → l_X10_findRests_54 nn a b one two M n 0 x = some 0 := by
  intro k
  have z2 : (2 : Int32).toInt = 2 := rfl
  have zo : (1 : Int32).toInt = 1 := rfl
  induction k with
  | zero =>
    intro n x hx hk hn
    obtain ⟨n, rfl⟩ : ∃ m, n = m + 1 := ⟨n - 1, by omega⟩
    rw [l_X10_findRests_54, if_pos (by rw [fa_lt]; omega)]
  | succ k ih =>
    intro n x hx hk hn
    obtain ⟨n, rfl⟩ : ∃ m, n = m + 1 := ⟨n - 1, by omega⟩
    rw [l_X10_findRests_54, if_neg (by rw [fa_lt]; omega), if_pos rfl]
    exact ih n (x + 1) (by rw [fb_addI (by omega) (by omega)]; omega) (by omega) (by omega)
theorem rest_in {S M : St} {U : Int32} {n t : Nat} (hX : XMend U n t S) (hM : ∀ a b own, f_X10_lossOf (nI n) a b own M = some (losI own (offAB U n t a b))) (a b : Int32) : ∀ (k n1 n2 : Nat) (x : Int32), x.toInt = 3 - (k : Int) → k ≤ 5 → k < n1 → k < n2 →
    ((l_X4_isAtRest_3 a b S n1 x = some 0 ∨ l_X4_isAtRest_3 a b S n1 x = some 1) ∧ l_X10_findRests_54 (nI n) a b (losI a (offAB U n t a b)) (losI b (offAB U n t a b)) M n2 1 x = some 0) ∨ (l_X4_isAtRest_3 a b S n1 x = some 2 ∧ l_X10_findRests_54 (nI n) a b (losI a (offAB U n t a b)) (losI b (offAB U n t a b)) M n2 1 x = some 1) := by
  intro k
  have z2 : (2 : Int32).toInt = 2 := rfl
  have zo : (1 : Int32).toInt = 1 := rfl
  induction k with
  | zero =>
    intro n1 n2 x hx hk h1 h2
    obtain ⟨n1, rfl⟩ : ∃ m, n1 = m + 1 := ⟨n1 - 1, by omega⟩
    obtain ⟨n2, rfl⟩ : ∃ m, n2 = m + 1 := ⟨n2 - 1, by omega⟩
    right
    rw [l_X4_isAtRest_3, l_X10_findRests_54, if_pos (show (2 : Int32) < x by rw [fa_lt]; omega), if_pos (show (2 : Int32) < x by rw [fa_lt]; omega)]
    exact ⟨rfl, rfl⟩
  | succ k ih =>
    intro n1 n2 x hx hk h1 h2
    obtain ⟨n1, rfl⟩ : ∃ m, n1 = m + 1 := ⟨n1 - 1, by omega⟩
    obtain ⟨n2, rfl⟩ : ∃ m, n2 = m + 1 := ⟨n2 - 1, by omega⟩
    have c2 : ¬ (2 : Int32) < x := by rw [fa_lt]; omega
    have hx1 : (x + 1).toInt = 3 - (k : Int) := by rw [fb_addI (by omega) (by omega)]; omega
    have hz := rz_run (M := M) (nI n) a b (losI a (offAB U n t a b)) (losI b (offAB U n t a b)) k n2 (x + 1) hx1 (by omega) (by omega)
    rw [l_X4_isAtRest_3, l_X10_findRests_54, if_neg c2, if_neg c2, if_neg (show ¬ ((1 : Int32) = 0) by decide), restX hX, restX hX, restX hX, hM, hM]
    simp only [bSome, lossX]
    by_cases q1 : losI a (offAB U n t a b) ≤ losI x (offAB U n t x b)
    · rw [if_pos q1, if_neg (show ¬ losI x (offAB U n t x b) < losI a (offAB U n t a b) by rw [fa_le] at q1; rw [fa_lt]; omega)]
      by_cases q2 : losI b (offAB U n t a b) ≤ losI x (offAB U n t a x)
      · rw [if_pos q2, if_neg (show ¬ losI x (offAB U n t a x) < losI b (offAB U n t a b) by rw [fa_le] at q2; rw [fa_lt]; omega)]
        exact ih n1 n2 (x + 1) hx1 (by omega) (by omega) (by omega)
      · rw [if_neg q2, if_pos (show losI x (offAB U n t a x) < losI b (offAB U n t a b) by rw [fa_le] at q2; rw [fa_lt]; omega)]
        exact Or.inl ⟨Or.inr rfl, hz⟩
    · rw [if_neg q1, if_pos (show losI x (offAB U n t x b) < losI a (offAB U n t a b) by rw [fa_le] at q1; rw [fa_lt]; omega)]
      exact Or.inl ⟨Or.inl rfl, hz⟩
def RRe (c : Nat) (S M : St) : Prop := S.1 25 = nI c ∧ M.1 14 = nI c ∧ S.1 26 = M.1 15
def FRe (S0 M0 S M : St) : Prop := (∀ k, k < 25 → S.1 k = S0.1 k) ∧ S.2 = S0.2 ∧ (∀ k, k < 14 → M.1 k = M0.1 k) ∧ M.2 = M0.2
theorem re_in {S0 M0 : St} {U : Int32} {n t : Nat} (hX : XMend U n t S0) (hM : ∀ M, (∀ k, k < 14 → M.1 k = M0.1 k) → M.2 = M0.2 → ∀ a b own, f_X10_lossOf (nI n) a b own M = some (losI own (offAB U n t a b))) (a : Int32) : ∀ (k n1 n2 c : Nat) (x : Int32) (S M : St), x.toInt = 3 - (k : Int) → k ≤ 5 → k < n1 → k < n2 → c + k ≤ 1000 → RRe c S M → FRe S0 M0 S M →
    ∃ c' S' M', l_X4_seekRests_63 a n1 x S = some S' ∧ l_X10_findRests_22 (nI n) a n2 x M = some M' ∧ c' ≤ c + k ∧ RRe c' S' M' ∧ FRe S0 M0 S' M' := by
  intro k
  have z2 : (2 : Int32).toInt = 2 := rfl
  have zo : (1 : Int32).toInt = 1 := rfl
  induction k with
  | zero =>
    intro n1 n2 c x S M hx hk h1 h2 hc hR hF
    obtain ⟨n1, rfl⟩ : ∃ m, n1 = m + 1 := ⟨n1 - 1, by omega⟩
    obtain ⟨n2, rfl⟩ : ∃ m, n2 = m + 1 := ⟨n2 - 1, by omega⟩
    have c2 : (2 : Int32) < x := by rw [fa_lt]; omega
    exact ⟨c, S, M, by rw [l_X4_seekRests_63, if_pos c2], by rw [l_X10_findRests_22, if_pos c2], by omega, hR, hF⟩
  | succ k ih =>
    intro n1 n2 c x S M hx hk h1 h2 hc hR hF
    obtain ⟨n1, rfl⟩ : ∃ m, n1 = m + 1 := ⟨n1 - 1, by omega⟩
    obtain ⟨n2, rfl⟩ : ∃ m, n2 = m + 1 := ⟨n2 - 1, by omega⟩
    have c2 : ¬ (2 : Int32) < x := by rw [fa_lt]; omega
    have hx1 : (x + 1).toInt = 3 - (k : Int) := by rw [fb_addI (by omega) (by omega)]; omega
    obtain ⟨F1, F2, F3, F4⟩ := id hF
    obtain ⟨R1, R2, R3⟩ := id hR
    have hX2 : XMend U n t S := ⟨(F1 22 (by omega)).trans hX.1, (F1 23 (by omega)).trans hX.2.1, (F1 24 (by omega)).trans hX.2.2⟩
    have hM2 := hM M F3 F4
    have run := rest_in hX2 hM2 a x 5 fuel fuel (-2) rfl (by omega) (by rw [fuelv]; omega) (by rw [fuelv]; omega)
    have fin2 : ∀ (S2 M2 : St) (c2 : Nat), RRe c2 S2 M2 → FRe S0 M0 S2 M2 → c2 ≤ c + 1 → ∃ c' S' M', l_X4_seekRests_63 a n1 (x + 1) S2 = some S' ∧ l_X10_findRests_22 (nI n) a n2 (x + 1) M2 = some M' ∧ c' ≤ c + (k + 1) ∧ RRe c' S' M' ∧ FRe S0 M0 S' M' := by
      intro S2 M2 c2 r f hc2
      obtain ⟨c', S', M', q1, q2, q3, q4, q5⟩ := ih n1 n2 c2 (x + 1) S2 M2 hx1 (by omega) (by omega) (by omega) (by omega) r f
      exact ⟨c', S', M', q1, q2, by omega, q4, q5⟩
    rw [l_X4_seekRests_63, l_X10_findRests_22, if_neg c2, if_neg c2, hM2, hM2]
    simp only [bSome]
    unfold f_X4_isAtRest
    rcases run with ⟨g1, g2⟩ | ⟨g1, g2⟩
    · have e0 : ((l_X4_isAtRest_3 a x S fuel (-2)).bind fun o3 => if o3 = 0 then some (0 : Int32) else if o3 = 1 then some 0 else some 1) = some 0 := by
        rcases g1 with g1 | g1 <;> rw [g1] <;> rfl
      rw [e0, g2]
      simp only [bSome]
      rw [if_pos trivial, if_pos trivial]
      unfold j_X10_findRests_134 j_X10_findRests_138
      simp only [nm_eq]
      rw [if_pos trivial]
      have keep : sI (sI M 15 (M.1 15)) 14 ((sI M 15 (M.1 15)).1 14 + 0) = M := by
        refine ext3 (fun j => ?_) (fun _ _ => rfl) rfl
        simp only [sI1]
        by_cases j14 : j = 14
        · subst j14; simp
        · by_cases j15 : j = 15
          · subst j15; simp
          · simp [j14, j15]
      rw [keep]
      exact fin2 S M c hR hF (by omega)
    · rw [g1, g2]
      simp only [bSome]
      rw [if_neg (show ¬ ((2 : Nat) = 0) by decide), if_neg (show ¬ ((2 : Nat) = 1) by decide)]
      simp only [bSome]
      rw [if_neg (show ¬ ((1 : Int32) = 0) by decide), if_neg (show ¬ ((1 : Int32) = 0) by decide)]
      unfold f_X4_countRest j_X4_countRest_21 j_X10_findRests_134 j_X10_findRests_138
      simp only [nm_eq]
      rw [R1, R2]
      simp only [if_neg (show ¬ ((1 : Int32) = 0) by decide)]
      by_cases c0 : c = 0
      · subst c0
        rw [if_pos (show nI 0 = 0 from rfl), if_pos (show nI 0 = 0 from rfl)]
        simp only [bSome]
        refine fin2 _ _ 1 ⟨?_, ?_, rfl⟩ ⟨fun k hk => ?_, F2, fun k hk => ?_, F4⟩ (by omega)
        · show S.1 25 + 1 = nI 1
          rw [R1]; rfl
        · show M.1 14 + 1 = nI 1
          rw [R2]; rfl
        · rw [sI1, if_neg (by omega), sI1, if_neg (by omega)]; exact F1 k hk
        · rw [sI1, if_neg (by omega), sI1, if_neg (by omega)]; exact F3 k hk
      · have cn : ¬ nI c = 0 := fun q => by rw [show (0 : Int32) = nI 0 from rfl, eqN (by omega) (by omega)] at q; exact c0 q
        rw [if_neg cn, if_neg cn]
        simp only [bSome]
        refine fin2 _ _ (c + 1) ⟨?_, ?_, R3⟩ ⟨fun k hk => ?_, F2, fun k hk => ?_, F4⟩ (by omega)
        · show nI c + 1 = nI (c + 1)
          exact nI_1 c
        · show M.1 14 + 1 = nI (c + 1)
          rw [R2]; exact nI_1 c
        · rw [sI1, if_neg (by omega)]; exact F1 k hk
        · rw [sI1, if_neg (by omega), sI1, if_neg (by omega)]; exact F3 k hk
theorem re_out {S0 M0 : St} {U : Int32} {n t : Nat} (hX : XMend U n t S0) (hM : ∀ M, (∀ k, k < 14 → M.1 k = M0.1 k) → M.2 = M0.2 → ∀ a b own, f_X10_lossOf (nI n) a b own M = some (losI own (offAB U n t a b))) : ∀ (k n1 n2 c : Nat) (x : Int32) (S M : St), x.toInt = 3 - (k : Int) → k ≤ 5 → k < n1 → k < n2 → c + 5 * k ≤ 1000 → RRe c S M → FRe S0 M0 S M →
    ∃ c' S' M', l_X4_seekRests_54 n1 x S = some S' ∧ l_X10_findRests_14 (nI n) n2 x M = some M' ∧ RRe c' S' M' ∧ FRe S0 M0 S' M' := by
  intro k
  have z2 : (2 : Int32).toInt = 2 := rfl
  have zo : (1 : Int32).toInt = 1 := rfl
  induction k with
  | zero =>
    intro n1 n2 c x S M hx hk h1 h2 hc hR hF
    obtain ⟨n1, rfl⟩ : ∃ m, n1 = m + 1 := ⟨n1 - 1, by omega⟩
    obtain ⟨n2, rfl⟩ : ∃ m, n2 = m + 1 := ⟨n2 - 1, by omega⟩
    have c2 : (2 : Int32) < x := by rw [fa_lt]; omega
    exact ⟨c, S, M, by rw [l_X4_seekRests_54, if_pos c2], by rw [l_X10_findRests_14, if_pos c2], hR, hF⟩
  | succ k ih =>
    intro n1 n2 c x S M hx hk h1 h2 hc hR hF
    obtain ⟨n1, rfl⟩ : ∃ m, n1 = m + 1 := ⟨n1 - 1, by omega⟩
    obtain ⟨n2, rfl⟩ : ∃ m, n2 = m + 1 := ⟨n2 - 1, by omega⟩
    have c2 : ¬ (2 : Int32) < x := by rw [fa_lt]; omega
    have hx1 : (x + 1).toInt = 3 - (k : Int) := by rw [fb_addI (by omega) (by omega)]; omega
    obtain ⟨c', S', M', q1, q2, q3, q4, q5⟩ := re_in hX hM x 5 fuel fuel c (-2) S M rfl (by omega) (by rw [fuelv]; omega) (by rw [fuelv]; omega) (by omega) hR hF
    rw [l_X4_seekRests_54, l_X10_findRests_14, if_neg c2, if_neg c2, q1, q2]
    simp only [bSome]
    exact ih n1 n2 c' (x + 1) S' M' hx1 (by omega) (by omega) (by omega) (by omega) q4 q5
theorem op_rests {S M : St} (h : Inv S M) (x y : Int32) : ∃ r S' M', f_X9_rests x y S = some (r, S') ∧ f_X10_rests x y M = some (r, M') ∧ Inv S' M' := by
  have h0 := h
  obtain ⟨tl, st, ar, ct, fi, fl, tc, h⟩ := h
  obtain ⟨pl, hpl, hst, h10, p0, h6, h5, hld, p5⟩ := h.get
  have hE : PgE S (sI M 0 0) := PgE.of h.2.1 h.2.2.1
  obtain ⟨ld, hl2, eld⟩ : ∃ ld : Nat, ld < 2 ∧ S.1 12 = nI ld := by
    rcases hld with q | q
    · exact ⟨0, by omega, q⟩
    · exact ⟨1, by omega, q⟩
  rw [eld] at p5
  unfold f_X9_rests f_X10_rests
  rw [nm_eq, ahead_eq h5 p0 hpl]
  simp only [bSome]
  rcases (or_assoc.mpr (pk_ix x (n := st - pl + 1) (by omega))) with hx | ⟨n, hn, rfl⟩
  · rw [(reach_no h6 h10 hpl hst hx).1, (reach_no h6 h10 hpl hst hx).2]
    simp only [bSome]
    rw [if_pos trivial, if_pos trivial]
    exact ⟨_, _, _, rfl, rfl, h0.t 0⟩
  rw [(reach_yes h6 h10 hpl hst hn).1, (reach_yes h6 h10 hpl hst hn).2]
  simp only [bSome]
  rw [if_neg (show ¬ ((1 : Int32) = 0) by decide), if_neg (show ¬ ((1 : Int32) = 0) by decide), show (0 : Int64) = (0 : Int32).toInt64 from rfl, show (1 : Int64) = (1 : Int32).toInt64 from rfl]
  have z1 : (1 : Int32).toInt = 1 := rfl
  have z0 : (0 : Int32).toInt = 0 := rfl
  by_cases c1 : y < 0
  · rw [if_pos c1, in_no (Or.inl c1)]
    simp only [bSome]
    rw [if_pos trivial]
    exact ⟨_, _, _, rfl, rfl, h0.t 0⟩
  rw [if_neg c1]
  by_cases c2 : y ≤ 1
  · have hy0 : 0 ≤ y := by rw [fa_lt] at c1; rw [fa_le]; omega
    rw [if_pos c2, in_yes hy0 c2]
    simp only [bSome]
    rw [if_neg (show ¬ ((1 : Int32) = 0) by decide)]
    have hn8 : pl + n ≤ 8 := by omega
    have hplan : f_X1_planByTurns (nI n) S = some (nI (planN ld pl n)) := by
      unfold f_X1_planByTurns
      rw [eld, h10, show (0 : Int32) = nI 0 from rfl, turn_run h10 hn8 n pl fuel 0 ld (by omega) (by rw [fuelv]; omega) hl2 (Nat.two_pow_pos pl)]
      simp only [bSome]
      rw [Nat.zero_add]
    have hlt := plan_lt ld hl2 pl (by omega) n (by omega) hn8
    obtain ⟨U, hU⟩ : ∃ z, z = sumI (fun s => ers S s (nI (planN ld pl n / 2 ^ s % 2))) pl n := ⟨_, rfl⟩
    have hoff := offX h6 hst h.2.1.2.2.2.2.2 h10 (show pl + n ≤ st by omega) hlt
    rw [← hU] at hoff
    unfold f_X4_seekRests f_X10_findRests
    rw [hplan]
    simp only [bSome]
    rw [hoff]
    simp only [bSome]
    rw [bitC _ hlt, plan_pc ld hl2 pl (by omega) n (by omega) hn8]
    simp only [bSome, nm_eq]
    have hle := plan_tS ld hl2 n (by omega)
    rw [show (sI (sI S 22 U) 24 (nI (tSN ld n))).1 24 = nI (tSN ld n) from rfl, nI_sub hle]
    obtain ⟨S0, hS0⟩ : ∃ z, z = sI (sI (sI S 22 U) 24 (nI (tSN ld n))) 23 (nI (n - tSN ld n)) := ⟨_, rfl⟩
    rw [← hS0]
    have hX : XMend U n (tSN ld n) S0 := by rw [hS0]; exact ⟨rfl, rfl, rfl⟩
    have hM : ∀ M1 : St, (∀ k, k < 14 → M1.1 k = (sI M 0 0).1 k) → M1.2 = (sI M 0 0).2 → ∀ a b own, f_X10_lossOf (nI n) a b own M1 = some (losI own (offAB U n (tSN ld n) a b)) := by
      intro M1 _ e2 a b own
      have hE1 : PgE S M1 := by unfold PgE at *; rw [e2]; exact hE
      rw [hU]
      exact lossM hE1 (by rw [e2]; exact p0) (by rw [e2]; exact p5) hl2 hn8 a b own
    obtain ⟨c, S', M', q1, q2, q4, q5⟩ := re_out (S0 := S0) (M0 := sI M 0 0) hX hM 5 fuel fuel 0 (-2) (sI (sI S0 25 0) 26 (-9)) (sI (sI (sI M 0 0) 14 0) 15 (-9)) rfl (by omega) (by rw [fuelv]; omega) (by rw [fuelv]; omega) (by omega) ⟨rfl, rfl, rfl⟩ ⟨fun k hk => by rw [sI1, if_neg (by omega), sI1, if_neg (by omega)], rfl, fun k hk => by rw [sI1, if_neg (by omega), sI1, if_neg (by omega)], rfl⟩
    rw [q1, q2]
    simp only [bSome]
    obtain ⟨F1, F2, F3, F4⟩ := q5
    obtain ⟨R1, R2, R3⟩ := q4
    have hI : Inv S' M' := (h0.x (fun k hk => by rw [F1 k (by omega), hS0, sI1, if_neg (by omega), sI1, if_neg (by omega), sI1, if_neg (by omega)]) (fun k _ => by rw [F2, hS0]; rfl) (by rw [F2, hS0]; rfl)).m (F3 1 (by omega)) (F3 3 (by omega)) (F3 4 (by omega)) (F3 5 (by omega)) (F3 7 (by omega)) (F3 8 (by omega)) (fun k _ => by rw [F4]; rfl) (by rw [F4]; rfl)
    by_cases y0 : y = 0
    · rw [if_pos y0, if_pos y0]
      exact ⟨nI c, S', M', by rw [R1], by rw [R2], hI⟩
    · rw [if_neg y0, if_neg y0, R3]
      exact ⟨_, S', M', rfl, rfl, hI⟩
  · rw [if_neg c2, in_no (Or.inr (by rw [fa_le] at c2; rw [fa_lt]; omega))]
    simp only [bSome]
    rw [if_pos trivial]
    exact ⟨_, _, _, rfl, rfl, h0.t 0⟩
