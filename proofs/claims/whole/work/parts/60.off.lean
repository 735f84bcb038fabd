/-! ===== off ===== -/
theorem reach_no {S : St} {st pl : Nat} (h6 : S.1 6 = nI st) (h10 : S.1 10 = nI pl) (hpl : pl ≤ st) (hst : st ≤ 8) {x : Int32} (h : x < 0 ∨ nI (st - pl + 1) ≤ x) : f_X1_reaches x S = some 0 ∧ f_X10_in x.toInt64 0 (nI (st - pl)).toInt64 = some 0 := by
  constructor
  · unfold f_X1_reaches
    rw [h6, h10, nI_sub hpl]
    by_cases c : x < 0
    · rw [if_pos c]
    · rw [if_neg c, if_pos]
      have h := h.resolve_left c
      rw [fa_le, nI_toInt (by omega)] at h
      rw [fa_lt, nI_toInt (by omega)]
      omega
  · rw [show (0 : Int64) = (0 : Int32).toInt64 from rfl, in_no]
    rcases h with h | h
    · exact Or.inl h
    · right
      rw [fa_le, nI_toInt (by omega)] at h
      rw [fa_lt, nI_toInt (by omega)]
      omega
theorem reach_yes {S : St} {st pl n : Nat} (h6 : S.1 6 = nI st) (h10 : S.1 10 = nI pl) (hpl : pl ≤ st) (hst : st ≤ 8) (h : n < st - pl + 1) : f_X1_reaches (nI n) S = some 1 ∧ f_X10_in (nI n).toInt64 0 (nI (st - pl)).toInt64 = some 1 := by
  constructor
  · unfold f_X1_reaches
    rw [h6, h10, nI_sub hpl, if_neg (nI_pos (by omega)), if_neg (by rw [ltN (by omega) (by omega)]; omega)]
  · rw [show (0 : Int64) = (0 : Int32).toInt64 from rfl, in_yes (nI_pos' (by omega)) ((leN (by omega) (by omega)).mpr (by omega))]
theorem ahead_eq {M : St} {st pl : Nat} (h5 : M.1 5 = nI st) (p0 : M.2.1 7 0 = nI pl) (hpl : pl ≤ st) : f_X10_ahead M = some (nI (st - pl)) := by
  unfold f_X10_ahead
  rw [h5, p0, nI_sub hpl]
theorem bit01 (p s : Nat) : nI (p / 2 ^ s % 2) = nI 0 ∨ nI (p / 2 ^ s % 2) = nI 1 := by
  rcases (show p / 2 ^ s % 2 = 0 ∨ p / 2 ^ s % 2 = 1 by omega) with q | q <;> rw [q]
  · exact Or.inl rfl
  · exact Or.inr rfl
theorem offX_run {S : St} {st pl n p : Nat} (h6 : S.1 6 = nI st) (hst : st ≤ 8) (hG : Gr st S) (h10 : S.1 10 = nI pl) (hn : pl + n ≤ st) (hp : p < 256) : ∀ (k i f : Nat) (acc : Int32), i + k = pl + n → k < f → l_X1_offBy_11 (nI n) (nI p) S f acc (nI i) = some (acc + sumI (fun s => ers S s (nI (p / 2 ^ s % 2))) i k) := by
  intro k
  induction k with
  | zero =>
    intro i f acc hi hf
    obtain ⟨f, rfl⟩ : ∃ m, f = m + 1 := ⟨f - 1, by omega⟩
    rw [l_X1_offBy_11, h10, nI_add, if_pos ((leN (by omega) (by omega)).mpr (by omega)), sumI, Int32.add_zero]
  | succ k ih =>
    intro i f acc hi hf
    obtain ⟨f, rfl⟩ : ∃ m, f = m + 1 := ⟨f - 1, by omega⟩
    rw [l_X1_offBy_11, h10, nI_add, if_neg (by rw [leN (by omega) (by omega)]; omega)]
    unfold f_X1_leaderBy
    rw [bit_get i (by omega) p hp]
    simp only [bSome]
    rw [errorAt_eq h6 hst hG (by omega)]
    simp only [bSome]
    rw [show nI i + 1 = nI (i + 1) from nI_1 i, ih (i + 1) f _ (by omega) (by omega), sumI, Int32.add_assoc]
theorem offX {S : St} {st pl n p : Nat} (h6 : S.1 6 = nI st) (hst : st ≤ 8) (hG : Gr st S) (h10 : S.1 10 = nI pl) (hn : pl + n ≤ st) (hp : p < 256) : f_X1_offBy (nI n) (nI p) S = some (sumI (fun s => ers S s (nI (p / 2 ^ s % 2))) pl n) := by
  unfold f_X1_offBy
  rw [h10, offX_run h6 hst hG h10 hn hp n pl fuel _ (by omega) (by rw [fuelv]; omega)]
  simp only [bSome]
  rw [Int32.zero_add]
theorem offM_run {S M : St} {pl n p : Nat} (hE : PgE S M) (p0 : M.2.1 7 0 = nI pl) (hn : pl + n ≤ 8) (hp : p < 256) : ∀ (k i f : Nat) (acc : Int32), i + k = pl + n → k < f → l_X10_offBy_10 (nI n) (nI p) M f acc (nI i) = some (acc + sumI (fun s => ers S s (nI (p / 2 ^ s % 2))) i k) := by
  intro k
  induction k with
  | zero =>
    intro i f acc hi hf
    obtain ⟨f, rfl⟩ : ∃ m, f = m + 1 := ⟨f - 1, by omega⟩
    rw [l_X10_offBy_10, p0, nI_add, if_pos ((leN (by omega) (by omega)).mpr (by omega)), sumI, Int32.add_zero]
  | succ k ih =>
    intro i f acc hi hf
    obtain ⟨f, rfl⟩ : ∃ m, f = m + 1 := ⟨f - 1, by omega⟩
    rw [l_X10_offBy_10, p0, nI_add, if_neg (by rw [leN (by omega) (by omega)]; omega), bit_get i (by omega) p hp, errorOf_eq hE (by omega) (bit01 p i)]
    simp only [bSome]
    rw [show nI i + 1 = nI (i + 1) from nI_1 i, ih (i + 1) f _ (by omega) (by omega), sumI, Int32.add_assoc]
theorem offM {S M : St} {pl n p : Nat} (hE : PgE S M) (p0 : M.2.1 7 0 = nI pl) (hn : pl + n ≤ 8) (hp : p < 256) : f_X10_offBy (nI n) (nI p) M = some (sumI (fun s => ers S s (nI (p / 2 ^ s % 2))) pl n) := by
  unfold f_X10_offBy
  rw [p0, offM_run hE p0 hn hp n pl fuel _ (by omega) (by rw [fuelv]; omega)]
  simp only [bSome]
  rw [Int32.zero_add]
theorem op_off {S M : St} (h : Inv S M) (x y : Int32) : ∃ r M', f_X9_off x y S = some r ∧ f_X10_off x y M = some (r, M') ∧ Inv S M' := by
  have h0 := h
  obtain ⟨tl, st, ar, ct, fi, fl, tc, h⟩ := h
  obtain ⟨pl, hpl, hst, h10, p0, h6, h5, -, -⟩ := h.get
  have hE : PgE S (sI M 0 0) := PgE.of h.2.1 h.2.2.1
  unfold f_X9_off f_X10_off
  rw [nm_eq, ahead_eq h5 p0 hpl]
  simp only [bSome]
  rcases (or_assoc.mpr (pk_ix x (n := st - pl + 1) (by omega))) with hx | ⟨n, hn, rfl⟩
  · rw [(reach_no h6 h10 hpl hst hx).1, (reach_no h6 h10 hpl hst hx).2]
    simp only [bSome]
    rw [if_pos trivial, if_pos trivial]
    exact ⟨_, _, rfl, rfl, h0.t 0⟩
  rw [(reach_yes h6 h10 hpl hst hn).1, (reach_yes h6 h10 hpl hst hn).2]
  simp only [bSome]
  rw [if_neg (show ¬ ((1 : Int32) = 0) by decide), if_neg (show ¬ ((1 : Int32) = 0) by decide), show (0 : Int64) = (0 : Int32).toInt64 from rfl, show (255 : Int64) = (255 : Int32).toInt64 from rfl]
  have z : (255 : Int32).toInt = 255 := rfl
  have z0 : (0 : Int32).toInt = 0 := rfl
  by_cases c1 : y < 0
  · rw [if_pos c1, in_no (Or.inl c1)]
    simp only [bSome]
    rw [if_pos trivial]
    exact ⟨_, _, rfl, rfl, h0.t 0⟩
  rw [if_neg c1]
  by_cases c2 : y ≤ 255
  · have hy0 : 0 ≤ y := by rw [fa_lt] at c1; rw [fa_le]; omega
    rw [if_pos c2, in_yes hy0 c2]
    obtain ⟨p, hp, rfl⟩ : ∃ k : Nat, k < 256 ∧ y = nI k := smI (by rw [fa_le] at hy0; omega) (by rw [fa_le] at c2; omega)
    rw [offX h6 hst h.2.1.2.2.2.2.2 h10 (by omega) hp, offM hE p0 (by omega) hp]
    simp only [bSome]
    rw [if_neg (show ¬ ((1 : Int32) = 0) by decide)]
    exact ⟨_, _, rfl, rfl, h0.t 0⟩
  · rw [if_neg c2, in_no (Or.inr (by rw [fa_le] at c2; rw [fa_lt]; omega))]
    simp only [bSome]
    rw [if_pos trivial]
    exact ⟨_, _, rfl, rfl, h0.t 0⟩
/-! ===== counting bits ===== -/
set_option maxRecDepth 100000 in
theorem bitC : ∀ p, p < 256 → f_J6_bitCount_0f7a4 (nI p) = some (nI (pcb p)) := by decide +kernel
/-! ===== rests ===== -/
def planN : Nat → Nat → Nat → Nat
  | _, _, 0 => 0
  | ld, i, k + 1 => ld * 2 ^ i + planN (1 - ld) (i + 1) k
def tSN : Nat → Nat → Nat
  | _, 0 => 0
  | ld, k + 1 => ld + tSN (1 - ld) k
set_option maxRecDepth 100000 in
theorem bit_put : ∀ i, i < 8 → ∀ ld, ld < 2 → ∀ p, p < 2 ^ i → nI p ||| (nI ld <<< (nI i &&& 31)) = nI (p + ld * 2 ^ i) := by decide +kernel
theorem turn_run {S : St} {pl n : Nat} (h10 : S.1 10 = nI pl) (hn : pl + n ≤ 8) : ∀ (k i f p ld : Nat), i + k = pl + n → k < f → ld < 2 → p < 2 ^ i → l_X1_planByTurns_19 (nI n) S f (nI p) (nI ld) (nI i) = some (nI (p + planN ld i k)) := by
  intro k
  induction k with
  | zero =>
    intro i f p ld hi hf hld hp
    obtain ⟨f, rfl⟩ : ∃ m, f = m + 1 := ⟨f - 1, by omega⟩
    rw [l_X1_planByTurns_19, h10, nI_add, if_pos ((leN (by omega) (by omega)).mpr (by omega))]
    rfl
  | succ k ih =>
    intro i f p ld hi hf hld hp
    obtain ⟨f, rfl⟩ : ∃ m, f = m + 1 := ⟨f - 1, by omega⟩
    rw [l_X1_planByTurns_19, h10, nI_add, if_neg (by rw [leN (by omega) (by omega)]; omega), bit_put i (by omega) ld hld p hp, show (1 : Int32) = nI 1 from rfl, nI_sub (by omega), nI_add, ih (i + 1) f _ _ (by omega) (by omega) (by omega) ?_, planN, Nat.add_assoc]
    rw [Nat.pow_succ]
    rcases (show ld = 0 ∨ ld = 1 by omega) with rfl | rfl <;> omega
set_option maxRecDepth 100000 in
theorem plan_lt : ∀ ld, ld < 2 → ∀ pl, pl < 9 → ∀ n, n < 9 → pl + n ≤ 8 → planN ld pl n < 256 := by decide +kernel
set_option maxRecDepth 100000 in
theorem plan_pc : ∀ ld, ld < 2 → ∀ pl, pl < 9 → ∀ n, n < 9 → pl + n ≤ 8 → pcb (planN ld pl n) = tSN ld n := by decide +kernel
set_option maxRecDepth 100000 in
theorem plan_tS : ∀ ld, ld < 2 → ∀ n, n < 9 → tSN ld n ≤ n := by decide +kernel
set_option maxRecDepth 100000 in
theorem plan_bit : ∀ ld, ld < 2 → ∀ pl, pl < 9 → ∀ n, n < 9 → pl + n ≤ 8 → ∀ i, i < n → planN ld pl n / 2 ^ (pl + i) % 2 = (ld + i) % 2 := by decide +kernel
