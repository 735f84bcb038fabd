/-! ===== fault: what may stand where ===== -/
def okB (T : Nat → Int32) (i : Nat) : Prop :=
  if i = 0 then T i = 65 else if i = 1 then (2 ≤ T i - 48 ∧ T i - 48 ≤ 9) else if i < 6 then (0 ≤ T i - 48 ∧ T i - 48 ≤ 9) else if 38 ≤ i then False else
  if (i - 6) % 4 = 0 then T i = 76 else if (i - 6) % 4 = 1 then (0 ≤ T i - 48 ∧ T i - 48 ≤ 3) else (0 ≤ T i - 48 ∧ T i - 48 ≤ 9)
theorem byteAt_eq {S : St} {tl i : Nat} (h0 : S.1 0 = nI tl) (htl : tl ≤ 40) (hi : i < tl) : f_X7_byteAt (nI i) S = some (S.2.1 0 i) := by
  unfold f_X7_byteAt
  rw [h0, if_neg (nI_pos (by omega)), if_neg (by rw [leN (by omega) (by omega)]; omega), if_neg (show ¬ (40 : Int32) ≤ nI i by rw [show (40 : Int32) = nI 40 from rfl, leN (by omega) (by omega)]; omega), if_neg (inN (by omega) (by omega)), clN (by omega)]
theorem digitAt_eq {S : St} {tl i : Nat} (h0 : S.1 0 = nI tl) (htl : tl ≤ 40) (hi : i < tl) : f_X7_digitAt (nI i) S = some (S.2.1 0 i - 48) := by
  unfold f_X7_digitAt
  rw [byteAt_eq h0 htl hi]
  simp only [bSome]
theorem isDigit_eq {S : St} {tl i : Nat} (h0 : S.1 0 = nI tl) (htl : tl ≤ 40) (hi : i < tl) (lo hi' : Int32) : f_X7_isDigit (nI i) lo hi' S = some (if lo ≤ S.2.1 0 i - 48 ∧ S.2.1 0 i - 48 ≤ hi' then 1 else 0) := by
  unfold f_X7_isDigit
  rw [digitAt_eq h0 htl hi]
  simp only [bSome]
  generalize S.2.1 0 i - 48 = d
  by_cases c1 : d < lo
  · rw [if_pos c1, if_neg (fun q => by have := q.1; rw [fa_le] at this; rw [fa_lt] at c1; omega)]
  · rw [if_neg c1]
    by_cases c2 : hi' < d
    · rw [if_pos c2, if_neg (fun q => by have := q.2; rw [fa_le] at this; rw [fa_lt] at c2; omega)]
    · rw [if_neg c2, if_pos ⟨by rw [fa_lt] at c1; rw [fa_le]; omega, by rw [fa_lt] at c2; rw [fa_le]; omega⟩]
theorem bool_id (p : Prop) (d : Decidable p) : (if (if p then (1 : Int32) else 0) = 0 ∨ (if p then (1 : Int32) else 0) = 1 then some (if p then (1 : Int32) else 0) else none) = some (if p then (1 : Int32) else 0) := by
  by_cases c : p
  · simp only [if_pos c]; rfl
  · simp only [if_neg c]; rfl
theorem may_eq {S : St} {tl i : Nat} (h0 : S.1 0 = nI tl) (htl : tl ≤ 40) (hi : i < tl) : ∃ v, f_X7_mayStand (nI i) S = some v ∧ ((okB (S.2.1 0) i ∧ v = 1) ∨ (¬ okB (S.2.1 0) i ∧ v = 0)) := by
  have fin : ∀ (p : Prop) (d : Decidable p), (okB (S.2.1 0) i ↔ p) → ((okB (S.2.1 0) i ∧ (if p then (1 : Int32) else 0) = 1) ∨ (¬ okB (S.2.1 0) i ∧ (if p then (1 : Int32) else 0) = 0)) := by
    intro p d hp
    by_cases c : p
    · exact Or.inl ⟨hp.mpr c, by rw [if_pos c]⟩
    · exact Or.inr ⟨fun q => c (hp.mp q), by rw [if_neg c]⟩
  unfold f_X7_mayStand
  by_cases c6 : i < 6
  · rw [if_neg (show ¬ (6 : Int32) ≤ nI i by rw [show (6 : Int32) = nI 6 from rfl, leN (by omega) (by omega)]; omega)]
    unfold f_X7_mayStandInHead
    by_cases c0 : i = 0
    · rw [if_pos (show nI i = 0 by rw [c0]; rfl), byteAt_eq h0 htl hi]
      simp only [bSome]
      by_cases c : S.2.1 0 i = 65
      · rw [if_pos c]
        exact ⟨1, rfl, Or.inl ⟨by unfold okB; rw [if_pos c0]; exact c, rfl⟩⟩
      · rw [if_neg c]
        exact ⟨0, rfl, Or.inr ⟨by unfold okB; rw [if_pos c0]; exact c, rfl⟩⟩
    · rw [if_neg (show ¬ nI i = 0 from fun q => by rw [show (0 : Int32) = nI 0 from rfl, eqN (by omega) (by omega)] at q; exact c0 q)]
      by_cases c1 : i = 1
      · rw [if_pos (show nI i = 1 by rw [c1]; rfl), isDigit_eq h0 htl hi]
        simp only [bSome]
        rw [bool_id]
        simp only [bSome]
        rw [bool_id]
        exact ⟨_, rfl, fin _ _ (by unfold okB; rw [if_neg c0, if_pos c1])⟩
      · rw [if_neg (show ¬ nI i = 1 from fun q => by rw [show (1 : Int32) = nI 1 from rfl, eqN (by omega) (by omega)] at q; exact c1 q), isDigit_eq h0 htl hi]
        simp only [bSome]
        rw [bool_id]
        simp only [bSome]
        rw [bool_id]
        exact ⟨_, rfl, fin _ _ (by unfold okB; rw [if_neg c0, if_neg c1, if_pos c6])⟩
  · rw [if_pos (show (6 : Int32) ≤ nI i by rw [show (6 : Int32) = nI 6 from rfl, leN (by omega) (by omega)]; omega)]
    by_cases c38 : i < 38
    · rw [if_pos (show nI i < (38 : Int32) by rw [show (38 : Int32) = nI 38 from rfl, ltN (by omega) (by omega)]; omega)]
      have em : (nI i - 6) - (nI i - 6) / 4 * 4 = nI ((i - 6) % 4) := by
        rw [show (6 : Int32) = nI 6 from rfl, show (4 : Int32) = nI 4 from rfl, nI_sub (by omega), nI_div (by omega) (by omega) (by omega), nI_mul, nI_sub (by omega)]
        congr 1; omega
      rw [em]
      by_cases d0 : (i - 6) % 4 = 0
      · rw [d0, if_pos (show nI 0 = 0 from rfl), byteAt_eq h0 htl hi]
        simp only [bSome]
        by_cases c : S.2.1 0 i = 76
        · rw [if_pos c]
          exact ⟨1, rfl, Or.inl ⟨by unfold okB; rw [if_neg (by omega), if_neg (by omega), if_neg c6, if_neg (by omega), if_pos d0]; exact c, rfl⟩⟩
        · rw [if_neg c]
          exact ⟨0, rfl, Or.inr ⟨by unfold okB; rw [if_neg (by omega), if_neg (by omega), if_neg c6, if_neg (by omega), if_pos d0]; exact c, rfl⟩⟩
      · rw [if_neg (show ¬ nI ((i - 6) % 4) = 0 from fun q => by rw [show (0 : Int32) = nI 0 from rfl, eqN (by omega) (by omega)] at q; exact d0 q)]
        by_cases d1 : (i - 6) % 4 = 1
        · rw [d1, if_pos (show nI 1 = 1 from rfl), isDigit_eq h0 htl hi]
          simp only [bSome]
          rw [bool_id]
          exact ⟨_, rfl, fin _ _ (by unfold okB; rw [if_neg (by omega), if_neg (by omega), if_neg c6, if_neg (by omega), if_neg d0, if_pos d1])⟩
        · rw [if_neg (show ¬ nI ((i - 6) % 4) = 1 from fun q => by rw [show (1 : Int32) = nI 1 from rfl, eqN (by omega) (by omega)] at q; exact d1 q), isDigit_eq h0 htl hi]
          simp only [bSome]
          rw [bool_id]
          exact ⟨_, rfl, fin _ _ (by unfold okB; rw [if_neg (by omega), if_neg (by omega), if_neg c6, if_neg (by omega), if_neg d0, if_neg d1])⟩
    · rw [if_neg (show ¬ nI i < (38 : Int32) by rw [show (38 : Int32) = nI 38 from rfl, ltN (by omega) (by omega)]; omega)]
      exact ⟨0, rfl, Or.inr ⟨by unfold okB; rw [if_neg (by omega), if_neg (by omega), if_neg c6, if_pos (by omega)]; exact id, rfl⟩⟩
/-- the class's answer from a place on -/
def cF (S : St) (f i : Nat) : Option Int32 := (l_X7_firstFault_2 S f (nI i)).bind fun o2 => if o2.1 = 0 then some o2.2 else (f_X7_isWhole S).bind fun r27 => if r27 = 0 then some (S.1 0) else some (-9 : Int32)
theorem cF_ok {S : St} {tl i : Nat} (h0 : S.1 0 = nI tl) (htl : tl ≤ 40) (hi : i < tl) (h : okB (S.2.1 0) i) (f : Nat) : cF S (f + 1) i = cF S f (i + 1) := by
  obtain ⟨v, e, q⟩ := may_eq h0 htl hi
  rcases q with ⟨-, rfl⟩ | ⟨q, -⟩
  · unfold cF
    rw [l_X7_firstFault_2, h0, if_neg (by rw [leN (by omega) (by omega)]; omega), e, ← h0]
    simp only [bSome]
    rw [if_neg (show ¬ (1 : Int32) = 0 by decide), show nI i + 1 = nI (i + 1) from nI_1 i]
  · exact absurd h q
theorem cF_bad {S : St} {tl i : Nat} (h0 : S.1 0 = nI tl) (htl : tl ≤ 40) (hi : i < tl) (h : ¬ okB (S.2.1 0) i) (f : Nat) : cF S (f + 1) i = some (nI i) := by
  obtain ⟨v, e, q⟩ := may_eq h0 htl hi
  rcases q with ⟨q, -⟩ | ⟨-, rfl⟩
  · exact absurd q h
  · unfold cF
    rw [l_X7_firstFault_2, h0, if_neg (by rw [leN (by omega) (by omega)]; omega), e]
    simp only [bSome]
    rw [if_pos trivial]
    simp only [bSome]
    rw [if_pos trivial]
theorem cF_end {S : St} {tl : Nat} (h0 : S.1 0 = nI tl) (htl : tl ≤ 40) (f : Nat) : cF S (f + 1) tl = some (if tl < 6 ∨ ¬ (tl - 6) % 4 = 0 then nI tl else -9) := by
  unfold cF
  rw [l_X7_firstFault_2, h0, if_pos ((leN (by omega) (by omega)).mpr (Nat.le_refl _))]
  simp only [bSome]
  rw [if_neg (show ¬ (1 : Nat) = 0 by decide)]
  unfold f_X7_isWhole
  rw [h0]
  by_cases c6 : tl < 6
  · rw [if_pos (show nI tl < (6 : Int32) by rw [show (6 : Int32) = nI 6 from rfl, ltN (by omega) (by omega)]; omega), if_pos (Or.inl c6)]
    rfl
  · rw [if_neg (show ¬ nI tl < (6 : Int32) by rw [show (6 : Int32) = nI 6 from rfl, ltN (by omega) (by omega)]; omega)]
    have em : (nI tl - 6) - (nI tl - 6) / 4 * 4 = nI ((tl - 6) % 4) := by
      rw [show (6 : Int32) = nI 6 from rfl, show (4 : Int32) = nI 4 from rfl, nI_sub (by omega), nI_div (by omega) (by omega) (by omega), nI_mul, nI_sub (by omega)]
      congr 1; omega
    rw [em]
    by_cases d0 : (tl - 6) % 4 = 0
    · rw [d0, if_pos (show nI 0 = 0 from rfl), if_neg (by omega)]
      rfl
    · rw [if_neg (show ¬ nI ((tl - 6) % 4) = 0 from fun q => by rw [show (0 : Int32) = nI 0 from rfl, eqN (by omega) (by omega)] at q; exact d0 q), if_pos (Or.inr d0)]
      rfl
/-! ===== the reference's reading ===== -/
/-- the state of a reading beside the one it began with -/
def Ag (M0 M : St) : Prop := (∀ k, k ≠ 2 → k ≠ 6 → M.1 k = M0.1 k) ∧ (∀ k, k ≠ 5 → k ≠ 6 → M.2.1 k = M0.2.1 k) ∧ M.2.2 = M0.2.2
theorem Ag.i2 {M0 M : St} (h : Ag M0 M) (v : Int32) : Ag M0 (sI M 2 v) := ⟨fun k h2 h6 => by rw [sI1, if_neg h2]; exact h.1 k h2 h6, h.2.1, h.2.2⟩
theorem Ag.i6 {M0 M : St} (h : Ag M0 M) (v : Int32) : Ag M0 (sI M 6 v) := ⟨fun k h2 h6 => by rw [sI1, if_neg h6]; exact h.1 k h2 h6, h.2.1, h.2.2⟩
theorem Ag.a5 {M0 M : St} (h : Ag M0 M) (i : Nat) (v : Int32) : Ag M0 (sA M 5 i v) := ⟨h.1, fun k h5 h6 => by rw [sA2, if_neg h5]; exact h.2.1 k h5 h6, h.2.2⟩
theorem Ag.a6 {M0 M : St} (h : Ag M0 M) (i : Nat) (v : Int32) : Ag M0 (sA M 6 i v) := ⟨h.1, fun k h5 h6 => by rw [sA2, if_neg h6]; exact h.2.1 k h5 h6, h.2.2⟩
theorem Ag.inv {S M0 M : St} (h : Ag M0 M) (hI : Inv S M0) : Inv S M := hI.m (h.1 1 (by omega) (by omega)) (h.1 3 (by omega) (by omega)) (h.1 4 (by omega) (by omega)) (h.1 5 (by omega) (by omega)) (h.1 7 (by omega) (by omega)) (h.1 8 (by omega) (by omega)) (fun k hk => h.2.1 k (by omega) (by omega)) h.2.2
theorem fig {S M : St} {tl p : Nat} (h0 : S.1 0 = nI tl) (htl : tl ≤ 40) (t1 : M.1 1 = nI tl) (eT : M.2.1 0 = S.2.1 0) (p2 : M.1 2 = nI p) (hp : p ≤ tl) (lo hi : Int32) (hlo : 0 ≤ lo) (hok : okB (S.2.1 0) p ↔ (lo ≤ S.2.1 0 p - 48 ∧ S.2.1 0 p - 48 ≤ hi)) (hw : p = tl → p < 6 ∨ ¬ (p - 6) % 4 = 0) (f : Nat) :
    (cF S (f + 1) p = some (nI p) ∧ f_X10_figure lo hi M = some (-9, M)) ∨ (p < tl ∧ okB (S.2.1 0) p ∧ cF S (f + 1) p = cF S f (p + 1) ∧ f_X10_figure lo hi M = some (S.2.1 0 p - 48, sI M 2 (nI (p + 1))) ∧ ¬ S.2.1 0 p - 48 = -9) := by
  unfold f_X10_figure
  rw [p2, t1]
  by_cases c : p = tl
  · left
    rw [if_pos (by rw [c])]
    refine ⟨?_, rfl⟩
    rw [c, cF_end h0 htl, if_pos (c ▸ hw c)]
  · rw [if_neg (fun q => c ((eqN (by omega) (by omega)).mp q)), if_neg (inN (show p < 40 by omega) (by omega)), clN (by omega), eT, in_w]
    simp only [bSome]
    by_cases d : okB (S.2.1 0) p
    · right
      have d' := hok.mp d
      refine ⟨by omega, d, cF_ok h0 htl (by omega) d f, ?_, ?_⟩
      · rw [if_pos d', if_neg (show ¬ (1 : Int32) = 0 by decide), nm_eq, show nI p + 1 = nI (p + 1) from nI_1 p, show (sI M 2 (nI (p + 1))).1 2 = nI (p + 1) from rfl, show nI (p + 1) - 1 = nI p from nI_pred p, if_neg (inN (show p < 40 by omega) (by omega)), clN (by omega), show (sI M 2 (nI (p + 1))).2.1 0 = M.2.1 0 from rfl, eT]
      · intro q
        have := d'.1
        rw [q, fa_le] at this
        rw [fa_le] at hlo
        rw [show (-9 : Int32).toInt = -9 from rfl] at this
        rw [show (0 : Int32).toInt = 0 from rfl] at hlo
        omega
    · left
      refine ⟨cF_bad h0 htl (by omega) d f, ?_⟩
      rw [if_neg (fun q => d (hok.mpr q)), if_pos rfl]
/-- what the head holds at i -/
def hvT (T : Nat → Int32) (i : Nat) : Int32 := if i = 0 ∨ i = 2 then T (1 + i) - 48 else T (1 + i) - 48 - 5
theorem head_run {S M0 : St} {tl : Nat} (h0 : S.1 0 = nI tl) (htl : tl ≤ 40) (t1 : M0.1 1 = nI tl) (eT : M0.2.1 0 = S.2.1 0) : ∀ (r k f g : Nat) (M : St), k + r = 5 → 1 + k ≤ tl → r < g → Ag M0 M → M.1 2 = nI (1 + k) → M.1 6 = 0 → (∀ i, i < k → M.2.1 5 i = hvT (S.2.1 0) i) →
    (∃ p M', cF S (f + r) (1 + k) = some (nI p) ∧ p ≤ tl ∧ l_X10_readLine_37 g (nI k) M = some (0, M') ∧ M'.1 2 = nI p ∧ Ag M0 M') ∨
    (∃ M', 6 ≤ tl ∧ cF S (f + r) (1 + k) = cF S f 6 ∧ l_X10_readLine_37 g (nI k) M = some (1, M') ∧ Ag M0 M' ∧ M'.1 2 = nI 6 ∧ M'.1 6 = 0 ∧ ∀ i, i < 5 → M'.2.1 5 i = hvT (S.2.1 0) i) := by
  intro r
  induction r with
  | zero =>
    intro k f g M hk htk hg hA p2 p6 hh
    obtain ⟨g, rfl⟩ : ∃ m, g = m + 1 := ⟨g - 1, by omega⟩
    have e : k = 5 := by omega
    subst e
    right
    refine ⟨M, by omega, rfl, ?_, hA, p2, p6, hh⟩
    rw [l_X10_readLine_37, if_pos (by decide)]
  | succ r ih =>
    intro k f g M hk htk hg hA p2 p6 hh
    obtain ⟨g, rfl⟩ : ∃ m, g = m + 1 := ⟨g - 1, by omega⟩
    have hstep : ∀ lo : Int32, 0 ≤ lo → (okB (S.2.1 0) (1 + k) ↔ (lo ≤ S.2.1 0 (1 + k) - 48 ∧ S.2.1 0 (1 + k) - 48 ≤ 9)) →
        (∃ p M', cF S (f + (r + 1)) (1 + k) = some (nI p) ∧ p ≤ tl ∧ j_X10_readLine_52 (l_X10_readLine_37 g) (nI k) lo M = some (0, M') ∧ M'.1 2 = nI p ∧ Ag M0 M') ∨
        (∃ M', 6 ≤ tl ∧ cF S (f + (r + 1)) (1 + k) = cF S f 6 ∧ j_X10_readLine_52 (l_X10_readLine_37 g) (nI k) lo M = some (1, M') ∧ Ag M0 M' ∧ M'.1 2 = nI 6 ∧ M'.1 6 = 0 ∧ ∀ i, i < 5 → M'.2.1 5 i = hvT (S.2.1 0) i) := by
      intro lo hlo hok
      unfold j_X10_readLine_52
      rcases fig h0 htl (by rw [hA.1 1 (by omega) (by omega)]; exact t1) (by rw [hA.2.1 0 (by omega) (by omega)]; exact eT) p2 htk lo 9 hlo hok (fun _ => by omega) (f + r) with ⟨q1, q2⟩ | ⟨q0, q3, q1, q2, q4⟩
      · left
        rw [q2]
        simp only [bSome]
        rw [if_pos trivial]
        exact ⟨1 + k, M, q1, htk, rfl, p2, hA⟩
      · rw [q2]
        simp only [bSome]
        rw [if_neg q4, show f + (r + 1) = (f + r) + 1 from rfl, q1]
        have fin : ∀ v, v = hvT (S.2.1 0) k → (∃ p M', cF S (f + r) (1 + k + 1) = some (nI p) ∧ p ≤ tl ∧ l_X10_readLine_37 g (nI k + 1) (sA (sI M 2 (nI (1 + k + 1))) 5 k v) = some (0, M') ∧ M'.1 2 = nI p ∧ Ag M0 M') ∨
            (∃ M', 6 ≤ tl ∧ cF S (f + r) (1 + k + 1) = cF S f 6 ∧ l_X10_readLine_37 g (nI k + 1) (sA (sI M 2 (nI (1 + k + 1))) 5 k v) = some (1, M') ∧ Ag M0 M' ∧ M'.1 2 = nI 6 ∧ M'.1 6 = 0 ∧ ∀ i, i < 5 → M'.2.1 5 i = hvT (S.2.1 0) i) := by
          intro v hv
          rw [show nI k + 1 = nI (k + 1) from nI_1 k]
          refine ih (k + 1) f g _ (by omega) (by omega) (by omega) ((hA.i2 _).a5 k v) rfl p6 (fun i hi => ?_)
          rw [sA2, if_pos rfl]
          unfold upd
          by_cases d : i = k
          · rw [if_pos d, hv, d]
          · rw [if_neg d]
            exact hh i (by omega)
        by_cases c0 : k = 0
        · rw [if_pos (show nI k = 0 by rw [c0]; rfl)]
          unfold j_X10_readLine_83
          rw [if_neg (inN (show k < 5 by omega) (by omega)), clN (by omega), nm_eq]
          exact fin _ (by unfold hvT; rw [if_pos (Or.inl c0)])
        rw [if_neg (show ¬ nI k = 0 from fun q => by rw [show (0 : Int32) = nI 0 from rfl, eqN (by omega) (by omega)] at q; exact c0 q)]
        by_cases c2 : k = 2
        · rw [if_pos (show nI k = 2 by rw [c2]; rfl)]
          unfold j_X10_readLine_83
          rw [if_neg (inN (show k < 5 by omega) (by omega)), clN (by omega), nm_eq]
          exact fin _ (by unfold hvT; rw [if_pos (Or.inr c2)])
        rw [if_neg (show ¬ nI k = 2 from fun q => by rw [show (2 : Int32) = nI 2 from rfl, eqN (by omega) (by omega)] at q; exact c2 q), if_neg (inN (show k < 5 by omega) (by omega)), clN (by omega), nm_eq]
        exact fin _ (by unfold hvT; rw [if_neg (by omega)])
    rw [l_X10_readLine_37, if_neg (show ¬ (5 : Int32) ≤ nI k by rw [show (5 : Int32) = nI 5 from rfl, leN (by omega) (by omega)]; omega)]
    by_cases c0 : k = 0
    · rw [if_pos (show nI k = 0 by rw [c0]; rfl)]
      exact hstep 2 (by decide) (by unfold okB; rw [if_neg (by omega), if_pos (by omega)])
    · rw [if_neg (show ¬ nI k = 0 from fun q => by rw [show (0 : Int32) = nI 0 from rfl, eqN (by omega) (by omega)] at q; exact c0 q)]
      exact hstep 0 (by decide) (by unfold okB; rw [if_neg (by omega), if_neg (by omega), if_pos (by omega)])
/-- what the stages hold at i -/
def svT (T : Nat → Int32) (i : Nat) : Int32 := T (6 + 4 * (i / 3) + 1 + i % 3) - 48
theorem tri_run {S M0 : St} {tl j : Nat} (h0 : S.1 0 = nI tl) (htl : tl ≤ 40) (t1 : M0.1 1 = nI tl) (eT : M0.2.1 0 = S.2.1 0) (hj : j < 8) : ∀ (r c f g : Nat) (M : St), c + r = 3 → 6 + 4 * j + 1 + c ≤ tl → r < g → Ag M0 M → M.1 2 = nI (6 + 4 * j + 1 + c) → M.1 6 = nI j → (∀ i, i < 5 → M.2.1 5 i = hvT (S.2.1 0) i) → (∀ i, i < 3 * j + c → M.2.1 6 i = svT (S.2.1 0) i) →
    (∃ p M', cF S (f + r) (6 + 4 * j + 1 + c) = some (nI p) ∧ p ≤ tl ∧ l_X10_readLine_148 g (nI c) M = some (0, M') ∧ M'.1 2 = nI p ∧ Ag M0 M') ∨
    (∃ M', 6 + 4 * (j + 1) ≤ tl ∧ cF S (f + r) (6 + 4 * j + 1 + c) = cF S f (6 + 4 * (j + 1)) ∧ l_X10_readLine_148 g (nI c) M = some (1, M') ∧ Ag M0 M' ∧ M'.1 2 = nI (6 + 4 * (j + 1)) ∧ M'.1 6 = nI j ∧ (∀ i, i < 5 → M'.2.1 5 i = hvT (S.2.1 0) i) ∧ ∀ i, i < 3 * (j + 1) → M'.2.1 6 i = svT (S.2.1 0) i) := by
  intro r
  induction r with
  | zero =>
    intro c f g M hc htc hg hA p2 p6 hh hs
    obtain ⟨g, rfl⟩ : ∃ m, g = m + 1 := ⟨g - 1, by omega⟩
    have e : c = 3 := by omega
    subst e
    right
    refine ⟨M, by omega, rfl, ?_, hA, p2, p6, hh, hs⟩
    rw [l_X10_readLine_148, if_pos (by decide)]
  | succ r ih =>
    intro c f g M hc htc hg hA p2 p6 hh hs
    obtain ⟨g, rfl⟩ : ∃ m, g = m + 1 := ⟨g - 1, by omega⟩
    have hstep : ∀ hi : Int32, (okB (S.2.1 0) (6 + 4 * j + 1 + c) ↔ (0 ≤ S.2.1 0 (6 + 4 * j + 1 + c) - 48 ∧ S.2.1 0 (6 + 4 * j + 1 + c) - 48 ≤ hi)) →
        (∃ p M', cF S (f + (r + 1)) (6 + 4 * j + 1 + c) = some (nI p) ∧ p ≤ tl ∧ j_X10_readLine_165 (l_X10_readLine_148 g) (nI c) hi 0 M = some (0, M') ∧ M'.1 2 = nI p ∧ Ag M0 M') ∨
        (∃ M', 6 + 4 * (j + 1) ≤ tl ∧ cF S (f + (r + 1)) (6 + 4 * j + 1 + c) = cF S f (6 + 4 * (j + 1)) ∧ j_X10_readLine_165 (l_X10_readLine_148 g) (nI c) hi 0 M = some (1, M') ∧ Ag M0 M' ∧ M'.1 2 = nI (6 + 4 * (j + 1)) ∧ M'.1 6 = nI j ∧ (∀ i, i < 5 → M'.2.1 5 i = hvT (S.2.1 0) i) ∧ ∀ i, i < 3 * (j + 1) → M'.2.1 6 i = svT (S.2.1 0) i) := by
      intro hi hok
      unfold j_X10_readLine_165
      rcases fig h0 htl (by rw [hA.1 1 (by omega) (by omega)]; exact t1) (by rw [hA.2.1 0 (by omega) (by omega)]; exact eT) p2 htc 0 hi (by decide) hok (fun _ => by omega) (f + r) with ⟨q1, q2⟩ | ⟨q0, q3, q1, q2, q4⟩
      · left
        rw [q2]
        simp only [bSome]
        rw [if_pos trivial]
        exact ⟨_, M, q1, htc, rfl, p2, hA⟩
      · rw [q2]
        simp only [bSome]
        rw [if_neg q4, show f + (r + 1) = (f + r) + 1 from rfl, q1, show (sI M 2 (nI (6 + 4 * j + 1 + c + 1))).1 6 = nI j from p6, show (3 : Int32) * nI j = nI (3 * j) from nI_mul 3 j, nI_add, if_neg (inN (show 3 * j + c < 24 by omega) (by omega)), clN (by omega), nm_eq, show nI c + 1 = nI (c + 1) from nI_1 c]
        refine ih (c + 1) f g _ (by omega) (by omega) (by omega) ((hA.i2 _).a6 _ _) rfl p6 hh (fun i hi => ?_)
        rw [sA2, if_pos rfl]
        unfold upd
        by_cases d : i = 3 * j + c
        · rw [if_pos d, d]
          unfold svT
          rw [show (3 * j + c) / 3 = j by omega, show (3 * j + c) % 3 = c by omega]
        · rw [if_neg d]
          exact hs i (by omega)
    rw [l_X10_readLine_148, if_neg (show ¬ (3 : Int32) ≤ nI c by rw [show (3 : Int32) = nI 3 from rfl, leN (by omega) (by omega)]; omega)]
    by_cases c0 : c = 0
    · rw [if_pos (show nI c = 0 by rw [c0]; rfl)]
      exact hstep 3 (by unfold okB; rw [if_neg (by omega), if_neg (by omega), if_neg (by omega), if_neg (by omega), if_neg (by omega), if_pos (by omega)])
    · rw [if_neg (show ¬ nI c = 0 from fun q => by rw [show (0 : Int32) = nI 0 from rfl, eqN (by omega) (by omega)] at q; exact c0 q)]
      exact hstep 9 (by unfold okB; rw [if_neg (by omega), if_neg (by omega), if_neg (by omega), if_neg (by omega), if_neg (by omega), if_neg (by omega)])
theorem stages_run {S M0 : St} {tl : Nat} (h0 : S.1 0 = nI tl) (htl : tl ≤ 40) (t1 : M0.1 1 = nI tl) (eT : M0.2.1 0 = S.2.1 0) : ∀ (r j f g : Nat) (M : St), j + r = 8 → 6 + 4 * j ≤ tl → r < g → 4 * r < f → Ag M0 M → M.1 2 = nI (6 + 4 * j) → M.1 6 = nI j → (∀ i, i < 5 → M.2.1 5 i = hvT (S.2.1 0) i) → (∀ i, i < 3 * j → M.2.1 6 i = svT (S.2.1 0) i) →
    (∃ p o M', o < 2 ∧ cF S f (6 + 4 * j) = some (nI p) ∧ p ≤ tl ∧ l_X10_readLine_97 g M = some (o, M') ∧ M'.1 2 = nI p ∧ Ag M0 M') ∨
    (∃ n M', n ≤ 8 ∧ tl = 6 + 4 * n ∧ cF S f (6 + 4 * j) = some (-9) ∧ l_X10_readLine_97 g M = some (2, M') ∧ Ag M0 M' ∧ M'.1 6 = nI n ∧ (∀ i, i < 5 → M'.2.1 5 i = hvT (S.2.1 0) i) ∧ ∀ i, i < 3 * n → M'.2.1 6 i = svT (S.2.1 0) i) := by
  intro r
  induction r with
  | zero =>
    intro j f g M hj htj hg hf hA p2 p6 hh hs
    obtain ⟨g, rfl⟩ : ∃ m, g = m + 1 := ⟨g - 1, by omega⟩
    obtain ⟨f, rfl⟩ : ∃ m, f = m + 1 := ⟨f - 1, by omega⟩
    have e : j = 8 := by omega
    subst e
    rw [l_X10_readLine_97, hA.1 1 (by omega) (by omega), t1, p2]
    by_cases c : tl = 38
    · right
      rw [if_pos ((leN (by omega) (by omega)).mpr (by omega))]
      refine ⟨8, M, by omega, by omega, ?_, rfl, hA, p6, hh, hs⟩
      rw [show 6 + 4 * 8 = tl by omega, cF_end h0 htl, if_neg (by omega)]
    · left
      rw [if_neg (by rw [leN (by omega) (by omega)]; omega), if_neg (inN (show 6 + 4 * 8 < 40 by omega) (by omega)), p6]
      have hb : cF S (f + 1) (6 + 4 * 8) = some (nI (6 + 4 * 8)) := cF_bad h0 htl (by omega) (by unfold okB; rw [if_neg (by omega), if_neg (by omega), if_neg (by omega), if_pos (by omega)]; exact id) f
      by_cases d : M.2.1 0 (nI (6 + 4 * 8)).toNatClampNeg = 76
      · rw [if_pos d, if_pos (show nI 8 = 8 from rfl)]
        exact ⟨_, 0, M, by omega, hb, by omega, rfl, p2, hA⟩
      · rw [if_neg d]
        exact ⟨_, 0, M, by omega, hb, by omega, rfl, p2, hA⟩
  | succ r ih =>
    intro j f g M hj htj hg hf hA p2 p6 hh hs
    obtain ⟨g, rfl⟩ : ∃ m, g = m + 1 := ⟨g - 1, by omega⟩
    obtain ⟨f, rfl⟩ : ∃ m, f = m + 1 + 3 := ⟨f - 4, by omega⟩
    rw [l_X10_readLine_97, hA.1 1 (by omega) (by omega), t1, p2]
    by_cases c : tl = 6 + 4 * j
    · right
      rw [if_pos ((leN (by omega) (by omega)).mpr (by omega))]
      refine ⟨j, M, by omega, c, ?_, rfl, hA, p6, hh, hs⟩
      rw [← c, show f + 1 + 3 = (f + 3) + 1 by omega, cF_end h0 htl, if_neg (by omega)]
    · rw [if_neg (by rw [leN (by omega) (by omega)]; omega), if_neg (inN (show 6 + 4 * j < 40 by omega) (by omega)), clN (by omega), hA.2.1 0 (by omega) (by omega), eT, p6]
      have hok : okB (S.2.1 0) (6 + 4 * j) ↔ S.2.1 0 (6 + 4 * j) = 76 := by
        unfold okB
        rw [if_neg (by omega), if_neg (by omega), if_neg (by omega), if_neg (by omega), if_pos (by omega)]
      by_cases d : S.2.1 0 (6 + 4 * j) = 76
      · rw [if_pos d, if_neg (show ¬ nI j = 8 from fun q => by rw [show (8 : Int32) = nI 8 from rfl, eqN (by omega) (by omega)] at q; omega), nm_eq, show nI (6 + 4 * j) + 1 = nI (6 + 4 * j + 1) from nI_1 _, show f + 1 + 3 = (f + 3) + 1 by omega, cF_ok h0 htl (by omega) (hok.mpr d)]
        rcases tri_run h0 htl t1 eT (show j < 8 by omega) 3 0 f fuel (sI M 2 (nI (6 + 4 * j + 1))) (by omega) (by omega) (by rw [fuelv]; omega) (hA.i2 _) rfl p6 hh hs with ⟨p, M', q1, q2, q3, q4, q5⟩ | ⟨M', q0, q1, q3, q4, q5, q6, q7, q8⟩
        · left
          rw [show l_X10_readLine_148 fuel 0 (sI M 2 (nI (6 + 4 * j + 1))) = _ from q3]
          simp only [bSome]
          rw [if_pos trivial]
          exact ⟨p, 1, M', by omega, q1, q2, rfl, q4, q5⟩
        · rw [show l_X10_readLine_148 fuel 0 (sI M 2 (nI (6 + 4 * j + 1))) = _ from q3]
          simp only [bSome]
          rw [if_neg (show ¬ (1 : Nat) = 0 by decide), nm_eq, q6, show nI j + 1 = nI (j + 1) from nI_1 j, show cF S (f + 3) (6 + 4 * j + 1) = cF S f (6 + 4 * (j + 1)) from q1]
          exact ih (j + 1) f g _ (by omega) q0 (by omega) (by omega) (q4.i6 _) q5 rfl q7 q8
      · left
        rw [if_neg d]
        exact ⟨_, 0, M, by omega, by rw [show f + 1 + 3 = (f + 3) + 1 by omega]; exact cF_bad h0 htl (by omega) (fun q => d (hok.mp q)) _, by omega, rfl, p2, hA⟩
/-- the whole reading: both sides find the same fault, or none -/
theorem reading {S M : St} {tl : Nat} (h0 : S.1 0 = nI tl) (htl : tl ≤ 40) (t1 : M.1 1 = nI tl) (eT : M.2.1 0 = S.2.1 0) :
    (∃ p M', p ≤ tl ∧ f_X7_firstFault S = some (nI p) ∧ f_X10_readLine M = some (nI p, M') ∧ Ag M M') ∨
    (∃ n M', n ≤ 8 ∧ tl = 6 + 4 * n ∧ f_X7_firstFault S = some (-9) ∧ f_X10_readLine M = some (-9, M') ∧ Ag M M' ∧ M'.1 6 = nI n ∧ (∀ i, i < 5 → M'.2.1 5 i = hvT (S.2.1 0) i) ∧ ∀ i, i < 3 * n → M'.2.1 6 i = svT (S.2.1 0) i) := by
  rw [show f_X7_firstFault S = cF S fuel 0 from rfl]
  have hA : Ag M (sI (sI M 2 0) 6 0) := ((show Ag M M from ⟨fun _ _ _ => rfl, fun _ _ _ => rfl, rfl⟩).i2 0).i6 0
  unfold f_X10_readLine
  rw [nm_eq, nm_eq, show (sI (sI M 2 0) 6 0).1 1 = nI tl from t1, show (sI (sI M 2 0) 6 0).2.1 0 = S.2.1 0 from eT, show fuel = 999 + 1 from rfl]
  by_cases c : tl = 0
  · left
    rw [if_pos (show nI tl = 0 by rw [c]; rfl)]
    refine ⟨0, _, by omega, ?_, rfl, hA⟩
    have e := cF_end h0 htl 999
    rw [if_pos (by omega), c] at e
    exact e
  rw [if_neg (show ¬ nI tl = 0 from fun q => by rw [show (0 : Int32) = nI 0 from rfl, eqN (by omega) (by omega)] at q; exact c q)]
  have hok : okB (S.2.1 0) 0 ↔ S.2.1 0 0 = 65 := by unfold okB; rw [if_pos rfl]
  by_cases d : S.2.1 0 0 = 65
  · rw [if_pos d, cF_ok h0 htl (by omega) (hok.mpr d), nm_eq]
    rcases head_run h0 htl t1 eT 5 0 994 (999 + 1) (sI (sI (sI M 2 0) 6 0) 2 1) (by omega) (by omega) (by omega) (hA.i2 1) rfl rfl (fun i hi => absurd hi (by omega)) with ⟨p, M', q1, q2, q3, q4, q5⟩ | ⟨M', q0, q1, q3, q4, q5, q6, q7⟩
    · left
      rw [show l_X10_readLine_37 (999 + 1) 0 (sI (sI (sI M 2 0) 6 0) 2 1) = _ from q3]
      simp only [bSome]
      rw [if_pos trivial, q4]
      exact ⟨p, M', q2, q1, rfl, q5⟩
    · rw [show l_X10_readLine_37 (999 + 1) 0 (sI (sI (sI M 2 0) 6 0) 2 1) = _ from q3, show cF S 999 (0 + 1) = cF S 994 6 from q1]
      simp only [bSome]
      rw [if_neg (show ¬ (1 : Nat) = 0 by decide)]
      rcases stages_run h0 htl t1 eT 8 0 994 (999 + 1) M' (by omega) (by omega) (by omega) (by omega) q4 q5 q6 q7 (fun i hi => absurd hi (by omega)) with ⟨p, o, M2, w0, w1, w2, w3, w4, w5⟩ | ⟨n, M2, w0, w1, w2, w3, w4, w5, w6, w7⟩
      · left
        rw [w3, show cF S 994 6 = _ from w1]
        simp only [bSome]
        rcases (show o = 0 ∨ o = 1 by omega) with rfl | rfl
        · rw [if_pos rfl, w4]
          exact ⟨p, M2, w2, rfl, rfl, w5⟩
        · rw [if_neg (show ¬ (1 : Nat) = 0 by decide), if_pos rfl, w4]
          exact ⟨p, M2, w2, rfl, rfl, w5⟩
      · right
        rw [w3, show cF S 994 6 = _ from w2]
        simp only [bSome]
        rw [if_neg (show ¬ (2 : Nat) = 0 by decide), if_neg (show ¬ (2 : Nat) = 1 by decide)]
        exact ⟨n, M2, w0, w1, trivial, rfl, w4, w5, w6, w7⟩
  · left
    rw [if_neg d]
    exact ⟨0, _, by omega, cF_bad h0 htl (by omega) (fun q => d (hok.mp q)) 999, rfl, hA⟩
theorem op_fault {S M : St} (h : Inv S M) : ∃ r M', f_X9_fault S = some r ∧ f_X10_fault M = some (r, M') ∧ Inv S M' := by
  have h0 := h
  obtain ⟨tl, st, ar, ct, fi, fl, tc, h⟩ := h
  obtain ⟨x1, x2, x3, x4⟩ := h.1
  unfold f_X9_fault f_X10_fault
  rw [nm_eq]
  rcases reading (M := sI M 0 0) x2 x1 x3 x4.symm with ⟨p, M', -, q1, q2, q3⟩ | ⟨n, M', -, -, q1, q2, q3, -⟩
  · rw [q1, q2]
    exact ⟨_, _, rfl, rfl, q3.inv (h0.t 0)⟩
  · rw [q1, q2]
    exact ⟨_, _, rfl, rfl, q3.inv (h0.t 0)⟩
