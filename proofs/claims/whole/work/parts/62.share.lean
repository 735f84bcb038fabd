/-! ===== share ===== -/
/-- what a source makes at a stage -/
def srcI (S : St) (k s : Nat) : Int32 := if k = 0 then S.1 13 else if k = 1 then gnd (S.2.1 1 s) (S.2.1 2 s) else if k = 2 then (if S.1 12 = 0 then S.1 4 else S.1 5) else -(S.1 14)
def mkI (S : St) (pl n k : Nat) : Int32 := sumI (srcI S k) pl n
def msI (S : St) (pl n set : Nat) : Int32 := sumI (fun k => if set / 2 ^ k % 2 = 1 then mkI S pl n k else 0) 0 4
theorem sumI_const (c : Int32) : ∀ (k i : Nat), sumI (fun _ => c) i k = nI k * c
  | 0, _ => by rw [sumI, show nI 0 = 0 from rfl, Int32.zero_mul]
  | k + 1, i => by
    rw [sumI, sumI_const c k (i + 1), ← nI_1, Int32.add_mul, Int32.one_mul, Int32.add_comm]
theorem grX_run {S : St} {st pl n : Nat} (h6 : S.1 6 = nI st) (hst : st ≤ 8) (hG : Gr st S) (h10 : S.1 10 = nI pl) (hn : pl + n ≤ st) : ∀ (k i f : Nat) (acc : Int32), i + k = pl + n → k < f → l_X1_groundOf_10 (nI n) S f acc (nI i) = some (acc + sumI (fun s => gnd (S.2.1 1 s) (S.2.1 2 s)) i k) := by
  intro k
  induction k with
  | zero =>
    intro i f acc hi hf
    obtain ⟨f, rfl⟩ : ∃ m, f = m + 1 := ⟨f - 1, by omega⟩
    rw [l_X1_groundOf_10, h10, nI_add, if_pos ((leN (by omega) (by omega)).mpr (by omega)), sumI, Int32.add_zero]
  | succ k ih =>
    intro i f acc hi hf
    obtain ⟨f, rfl⟩ : ∃ m, f = m + 1 := ⟨f - 1, by omega⟩
    rw [l_X1_groundOf_10, h10, nI_add, if_neg (by rw [leN (by omega) (by omega)]; omega), groundAt_eq h6 hst hG (by omega)]
    simp only [bSome]
    rw [show nI i + 1 = nI (i + 1) from nI_1 i, ih (i + 1) f _ (by omega) (by omega), sumI, Int32.add_assoc]
theorem mbo_eq {S : St} {st pl n k : Nat} (h6 : S.1 6 = nI st) (hst : st ≤ 8) (hG : Gr st S) (h10 : S.1 10 = nI pl) (hn : pl + n ≤ st) (hk : k < 4) : f_X1_madeByOne (nI k) (nI n) S = some (mkI S pl n k) := by
  unfold f_X1_madeByOne mkI
  rcases (show k = 0 ∨ k = 1 ∨ k = 2 ∨ k = 3 by omega) with rfl | rfl | rfl | rfl
  · rw [if_pos (show nI 0 = 0 from rfl), show srcI S 0 = fun _ => S.1 13 from rfl, sumI_const]
  · rw [if_neg (by decide), if_pos (show nI 1 = 1 from rfl)]
    unfold f_X1_groundOf
    rw [h10, grX_run h6 hst hG h10 hn n pl fuel _ (by omega) (by rw [fuelv]; omega)]
    simp only [bSome]
    rw [Int32.zero_add]; rfl
  · rw [if_neg (by decide), if_neg (by decide), if_pos (show nI 2 = 2 from rfl)]
    unfold f_X3_bentOf
    rw [show srcI S 2 = fun _ => (if S.1 12 = 0 then S.1 4 else S.1 5) from rfl, sumI_const]
    by_cases c : S.1 12 = 0
    · rw [if_pos c, if_pos c]; rfl
    · rw [if_neg c, if_neg c]; rfl
  · rw [if_neg (by decide), if_neg (by decide), if_neg (by decide), show srcI S 3 = fun _ => -(S.1 14) from rfl, sumI_const, Int32.neg_mul, Int32.mul_neg]
theorem mb_run {S : St} {st pl n set : Nat} (h6 : S.1 6 = nI st) (hst : st ≤ 8) (hG : Gr st S) (h10 : S.1 10 = nI pl) (hn : pl + n ≤ st) (hs : set < 256) : ∀ (k i f : Nat) (acc : Int32), i + k = 4 → k < f → l_X1_madeBy_5 (nI set) (nI n) S f acc (nI i) = some (acc + sumI (fun k => if set / 2 ^ k % 2 = 1 then mkI S pl n k else 0) i k) := by
  intro k
  induction k with
  | zero =>
    intro i f acc hi hf
    obtain ⟨f, rfl⟩ : ∃ m, f = m + 1 := ⟨f - 1, by omega⟩
    rw [l_X1_madeBy_5, if_pos (show (4 : Int32) ≤ nI i by rw [show (4 : Int32) = nI 4 from rfl, leN (by omega) (by omega)]; omega), sumI, Int32.add_zero]
  | succ k ih =>
    intro i f acc hi hf
    obtain ⟨f, rfl⟩ : ∃ m, f = m + 1 := ⟨f - 1, by omega⟩
    rw [l_X1_madeBy_5, if_neg (show ¬ (4 : Int32) ≤ nI i by rw [show (4 : Int32) = nI 4 from rfl, leN (by omega) (by omega)]; omega), bit_get i (by omega) set hs, mbo_eq h6 hst hG h10 hn (by omega)]
    simp only [bSome]
    rw [show nI i + 1 = nI (i + 1) from nI_1 i, sumI, ← Int32.add_assoc]
    by_cases c : set / 2 ^ i % 2 = 1
    · rw [c, if_pos (show nI 1 = 1 from rfl), if_pos rfl, ih (i + 1) f _ (by omega) (by omega)]
    · have c0 : set / 2 ^ i % 2 = 0 := by omega
      rw [c0, if_neg (by decide), if_neg (by decide), ih (i + 1) f _ (by omega) (by omega), Int32.add_zero]
theorem mb_eq {S : St} {st pl n set : Nat} (h6 : S.1 6 = nI st) (hst : st ≤ 8) (hG : Gr st S) (h10 : S.1 10 = nI pl) (hn : pl + n ≤ st) (hs : set < 256) : f_X1_madeBy (nI set) (nI n) S = some (absI (msI S pl n set)) := by
  unfold f_X1_madeBy
  rw [show (0 : Int32) = nI 0 from rfl, mb_run h6 hst hG h10 hn hs 4 0 fuel _ (by omega) (by rw [fuelv]; omega)]
  simp only [bSome]
  rw [show nI 0 + sumI (fun k => if set / 2 ^ k % 2 = 1 then mkI S pl n k else 0) 0 4 = msI S pl n set from Int32.zero_add _]
  rfl
/-- the page beside the work, as far as sources go -/
theorem sourceOf_eq {S M : St} {s k : Nat} (hE : PgE S M) (p5 : M.2.1 7 5 = S.1 12) (hld : S.1 12 = nI 0 ∨ S.1 12 = nI 1) (hs : s < 8) (hk : k < 4) : f_X10_sourceOf (nI s) (nI k) M = some (srcI S k s) := by
  obtain ⟨h1, h2, h3, h4, h5, h6⟩ := hE
  unfold f_X10_sourceOf srcI
  rcases (show k = 0 ∨ k = 1 ∨ k = 2 ∨ k = 3 by omega) with rfl | rfl | rfl | rfl
  · rw [if_pos (show nI 0 = 0 from rfl), if_pos rfl, h1]
  · rw [if_neg (by decide), if_pos (show nI 1 = 1 from rfl), if_neg (inN hs (by omega)), clN (by omega), ground_m hs]
    simp only [bSome]
    rw [if_neg (by decide), if_pos trivial, h5, h6]
  · rw [if_neg (by decide), if_neg (by decide), if_pos (show nI 2 = 2 from rfl), p5, if_neg (show ¬ (2 : Nat) = 0 by decide), if_neg (show ¬ (2 : Nat) = 1 by decide), if_pos (show (2 : Nat) = 2 from rfl), h3, h4]
    rcases hld with q | q
    · rw [q, if_neg (by decide), if_pos (show nI 0 = 0 from rfl)]; rfl
    · rw [q, if_neg (by decide), if_neg (by decide)]; rfl
  · rw [if_neg (by decide), if_neg (by decide), if_neg (by decide), if_neg (by decide), if_neg (by decide), if_neg (by decide), h2]
theorem s66_run {S M : St} {pl n set k : Nat} (a c : Int32) (hE : PgE S M) (p0 : M.2.1 7 0 = nI pl) (p5 : M.2.1 7 5 = S.1 12) (hld : S.1 12 = nI 0 ∨ S.1 12 = nI 1) (hn : pl + n ≤ 8) (hs : set < 256) (hk : k < 4) : ∀ (r i f : Nat) (acc : Int32), i + r = pl + n → r < f → l_X10_share_66 a (nI n) c (nI set) (nI k) M f acc (nI i) = some (acc + (if set / 2 ^ k % 2 = 1 then sumI (srcI S k) i r else 0)) := by
  intro r
  induction r with
  | zero =>
    intro i f acc hi hf
    obtain ⟨f, rfl⟩ : ∃ m, f = m + 1 := ⟨f - 1, by omega⟩
    rw [l_X10_share_66, p0, nI_add, if_pos ((leN (by omega) (by omega)).mpr (by omega)), sumI]
    have e : (if set / 2 ^ k % 2 = 1 then (0 : Int32) else 0) = 0 := by split <;> rfl
    rw [e, Int32.add_zero]
  | succ r ih =>
    intro i f acc hi hf
    obtain ⟨f, rfl⟩ : ∃ m, f = m + 1 := ⟨f - 1, by omega⟩
    rw [l_X10_share_66, p0, nI_add, if_neg (by rw [leN (by omega) (by omega)]; omega), hasm_eq (by omega) hs, sourceOf_eq hE p5 hld (by omega) hk]
    simp only [bSome]
    rw [show nI i + 1 = nI (i + 1) from nI_1 i]
    by_cases q : set / 2 ^ k % 2 = 1
    · rw [q, if_neg (by decide), ih (i + 1) f _ (by omega) (by omega), if_pos q, if_pos rfl, sumI, Int32.add_assoc]
    · have q0 : set / 2 ^ k % 2 = 0 := by omega
      rw [q0, if_pos (show nI 0 = 0 from rfl), ih (i + 1) f _ (by omega) (by omega), if_neg q, if_neg (by decide), Int32.add_assoc]
      rfl
theorem s52_run {S M : St} {pl n set : Nat} (a c : Int32) (hE : PgE S M) (p0 : M.2.1 7 0 = nI pl) (p5 : M.2.1 7 5 = S.1 12) (hld : S.1 12 = nI 0 ∨ S.1 12 = nI 1) (hn : pl + n ≤ 8) (hs : set < 256) : ∀ (r i f : Nat) (acc : Int32), i + r = 4 → r < f → l_X10_share_52 a (nI n) c (nI set) M f acc (nI i) = some (acc + sumI (fun k => if set / 2 ^ k % 2 = 1 then mkI S pl n k else 0) i r) := by
  intro r
  induction r with
  | zero =>
    intro i f acc hi hf
    obtain ⟨f, rfl⟩ : ∃ m, f = m + 1 := ⟨f - 1, by omega⟩
    rw [l_X10_share_52, if_pos (show (4 : Int32) ≤ nI i by rw [show (4 : Int32) = nI 4 from rfl, leN (by omega) (by omega)]; omega), sumI, Int32.add_zero]
  | succ r ih =>
    intro i f acc hi hf
    obtain ⟨f, rfl⟩ : ∃ m, f = m + 1 := ⟨f - 1, by omega⟩
    rw [l_X10_share_52, if_neg (show ¬ (4 : Int32) ≤ nI i by rw [show (4 : Int32) = nI 4 from rfl, leN (by omega) (by omega)]; omega), p0, s66_run a c hE p0 p5 hld hn hs (by omega) n pl fuel acc (by omega) (by rw [fuelv]; omega)]
    simp only [bSome]
    rw [show nI i + 1 = nI (i + 1) from nI_1 i, ih (i + 1) f _ (by omega) (by omega), sumI, Int32.add_assoc]
    rfl
theorem s39_run {S M0 : St} {pl n : Nat} (a c : Int32) (hE : PgE S M0) (p0 : M0.2.1 7 0 = nI pl) (p5 : M0.2.1 7 5 = S.1 12) (hld : S.1 12 = nI 0 ∨ S.1 12 = nI 1) (hn : pl + n ≤ 8) : ∀ (r i f : Nat) (g : Nat → Int32), i + r = 16 → r < f → l_X10_share_39 a (nI n) c f (nI i) (sR M0 13 g) = some (sR M0 13 (fun j => if i ≤ j ∧ j < 16 then absI (msI S pl n j) else g j)) := by
  intro r
  induction r with
  | zero =>
    intro i f g hi hf
    obtain ⟨f, rfl⟩ : ∃ m, f = m + 1 := ⟨f - 1, by omega⟩
    rw [l_X10_share_39, if_pos (show (16 : Int32) ≤ nI i by rw [show (16 : Int32) = nI 16 from rfl, leN (by omega) (by omega)]; omega)]
    congr 2
    funext j
    rw [if_neg (by omega)]
  | succ r ih =>
    intro i f g hi hf
    obtain ⟨f, rfl⟩ : ∃ m, f = m + 1 := ⟨f - 1, by omega⟩
    rw [l_X10_share_39, if_neg (show ¬ (16 : Int32) ≤ nI i by rw [show (16 : Int32) = nI 16 from rfl, leN (by omega) (by omega)]; omega), show (0 : Int32) = nI 0 from rfl, s52_run (M := sR M0 13 g) a c hE p0 p5 hld hn (show i < 256 by omega) 4 0 fuel _ (by omega) (by rw [fuelv]; omega)]
    simp only [bSome]
    rw [size_abs]
    simp only [bSome]
    rw [show nI 0 + sumI (fun k => if i / 2 ^ k % 2 = 1 then mkI S pl n k else 0) 0 4 = msI S pl n i from Int32.zero_add _, show (if (0 : Int32) ≤ msI S pl n i then msI S pl n i else 0 - msI S pl n i) = absI (msI S pl n i) from rfl, if_neg (show ¬ (nI i < nI 0 ∨ 16 ≤ (nI i).toNatClampNeg) from inN (show i < 16 by omega) (by omega)), clN (by omega), nm_eq, show nI i + 1 = nI (i + 1) from nI_1 i, sA_sR, sR_at, sR_sR, ih (i + 1) f _ (by omega) (by omega)]
    congr 2
    funext j
    unfold upd
    by_cases c1 : j = i
    · subst c1
      rw [if_neg (by omega), if_pos rfl, if_pos (by omega)]
    · by_cases c2 : i + 1 ≤ j ∧ j < 16
      · rw [if_pos c2, if_pos (by omega)]
      · rw [if_neg c2, if_neg c1, if_neg (by omega)]
set_option maxRecDepth 100000 in
theorem manyE : ∀ p, p < 256 → f_X10_many (nI p) = some (nI (pcb p)) := by decide +kernel
set_option maxRecDepth 100000 in
theorem wtE : ∀ s, s < 4 → ∀ set, set < 16 → set / 2 ^ s % 2 = 0 → pcb set < 4 ∧ set + 2 ^ s < 16 := by decide +kernel
set_option maxRecDepth 100000 in
theorem ordE : ∀ k, k < 4 → ∃ u, u < 7 ∧ ∃ v, v < 7 ∧ f_X10_orders (nI k) = some (nI u) ∧ f_X10_orders (3 - nI k) = some (nI v) ∧ f_X1_ordersAround (nI k) = some (nI u * nI v) := by decide +kernel
theorem sh_run {S M : St} {st pl n src : Nat} (c : Int32) (h6 : S.1 6 = nI st) (hst : st ≤ 8) (hG : Gr st S) (h10 : S.1 10 = nI pl) (hn : pl + n ≤ st) (hsrc : src < 4) (hv : ∀ j, j < 16 → M.2.1 13 j = absI (msI S pl n j)) : ∀ (r i f1 f2 : Nat) (acc : Int32), i + r = 16 → r < f1 → r < f2 → ∃ v, l_X1_shareIn24ths_5 (nI src) (nI n) S f1 acc (nI i) = some v ∧ l_X10_share_142 (nI src) c M f2 acc (nI i) = some v := by
  intro r
  induction r with
  | zero =>
    intro i f1 f2 acc hi h1 h2
    obtain ⟨f1, rfl⟩ : ∃ m, f1 = m + 1 := ⟨f1 - 1, by omega⟩
    obtain ⟨f2, rfl⟩ : ∃ m, f2 = m + 1 := ⟨f2 - 1, by omega⟩
    have q : (16 : Int32) ≤ nI i := by rw [show (16 : Int32) = nI 16 from rfl, leN (by omega) (by omega)]; omega
    exact ⟨acc, by rw [l_X1_shareIn24ths_5, if_pos q], by rw [l_X10_share_142, if_pos q]⟩
  | succ r ih =>
    intro i f1 f2 acc hi h1 h2
    obtain ⟨f1, rfl⟩ : ∃ m, f1 = m + 1 := ⟨f1 - 1, by omega⟩
    obtain ⟨f2, rfl⟩ : ∃ m, f2 = m + 1 := ⟨f2 - 1, by omega⟩
    have q : ¬ (16 : Int32) ≤ nI i := by rw [show (16 : Int32) = nI 16 from rfl, leN (by omega) (by omega)]; omega
    rw [l_X1_shareIn24ths_5, l_X10_share_142, if_neg q, if_neg q, bit_get src (by omega) i (by omega), hasm_eq (show src < 8 by omega) (show i < 256 by omega), show nI i + 1 = nI (i + 1) from nI_1 i]
    simp only [bSome]
    by_cases c0 : i / 2 ^ src % 2 = 0
    · obtain ⟨w1, w2⟩ := wtE src hsrc i (by omega) c0
      obtain ⟨u, -, v, -, o1, o2, o3⟩ := ordE (pcb i) w1
      rw [c0, if_pos (show nI 0 = 0 from rfl), if_pos (show nI 0 = 0 from rfl), bit_or src (by omega) i (by omega) c0, mb_eq h6 hst hG h10 hn (by omega), mb_eq h6 hst hG h10 hn (by omega), bitC i (by omega), manyE i (by omega)]
      simp only [bSome]
      rw [o1, o2, o3]
      simp only [bSome]
      rw [if_neg (inN (show i + 2 ^ src < 16 by omega) (by omega)), if_neg (inN (show i < 16 by omega) (by omega)), clN (by omega), clN (by omega), hv _ w2, hv i (by omega), nm_eq]
      exact ih (i + 1) f1 f2 _ (by omega) (by omega) (by omega)
    · have c1 : i / 2 ^ src % 2 = 1 := by omega
      rw [c1, if_neg (by decide), if_neg (by decide)]
      exact ih (i + 1) f1 f2 acc (by omega) (by omega) (by omega)
theorem op_share {S M : St} (h : Inv S M) (x y u : Int32) : ∃ r M', f_X9_share x y u S = some r ∧ f_X10_share x y u M = some (r, M') ∧ Inv S M' := by
  have h0 := h
  obtain ⟨tl, st, ar, ct, fi, fl, tc, h⟩ := h
  obtain ⟨pl, hpl, hst, h10, p0, h6, h5, hld, p5⟩ := h.get
  have hE : PgE S (sI M 0 0) := PgE.of h.2.1 h.2.2.1
  unfold f_X9_share f_X10_share
  rw [nm_eq, ahead_eq h5 p0 hpl]
  have z3 : (3 : Int32).toInt = 3 := rfl
  have z4 : (4 : Int32).toInt = 4 := rfl
  have z0 : (0 : Int32).toInt = 0 := rfl
  by_cases c1 : x < 0
  · rw [if_pos c1, show (0 : Int64) = (0 : Int32).toInt64 from rfl, show (3 : Int64) = (3 : Int32).toInt64 from rfl, in_no (Or.inl c1)]
    simp only [bSome]
    rw [if_pos trivial]
    exact ⟨_, _, rfl, rfl, h0.t 0⟩
  rw [if_neg c1]
  by_cases c2 : x < 4
  · have hx0 : 0 ≤ x := by rw [fa_lt] at c1; rw [fa_le]; omega
    obtain ⟨src, hsrc, rfl⟩ : ∃ k : Nat, k < 4 ∧ x = nI k := smI (by rw [fa_le] at hx0; omega) (by rw [fa_lt] at c2; omega)
    have hin : f_X10_in (nI src).toInt64 0 3 = some 1 := by
      rw [show (0 : Int64) = (0 : Int32).toInt64 from rfl, show (3 : Int64) = (3 : Int32).toInt64 from rfl, in_yes hx0 (by rw [fa_lt] at c2; rw [fa_le]; omega)]
    rw [if_pos c2, hin]
    simp only [bSome]
    rw [if_neg (show ¬ ((1 : Int32) = 0) by decide)]
    rcases (or_assoc.mpr (pk_ix y (n := st - pl + 1) (by omega))) with hy | ⟨n, hn, rfl⟩
    · rw [(reach_no h6 h10 hpl hst hy).1, (reach_no h6 h10 hpl hst hy).2]
      simp only [bSome]
      rw [if_pos trivial, if_pos trivial]
      exact ⟨_, _, rfl, rfl, h0.t 0⟩
    rw [(reach_yes h6 h10 hpl hst hn).1, (reach_yes h6 h10 hpl hst hn).2]
    simp only [bSome]
    rw [if_neg (show ¬ ((1 : Int32) = 0) by decide), if_neg (show ¬ ((1 : Int32) = 0) by decide)]
    have r39 := s39_run (M0 := sI M 0 0) (pl := pl) (n := n) (nI src) u hE p0 p5 hld (by omega) 16 0 fuel ((sI M 0 0).2.1 13) (by omega) (by rw [fuelv]; omega)
    rw [sR_self] at r39
    obtain ⟨v, v1, v2⟩ := sh_run (M := sR (sI M 0 0) 13 (fun j => if 0 ≤ j ∧ j < 16 then absI (msI S pl n j) else (sI M 0 0).2.1 13 j)) (n := n) u h6 hst h.2.1.2.2.2.2.2 h10 (by omega) hsrc (fun j hj => by rw [sR_at, if_pos (by omega)]) 16 0 fuel fuel 0 (by omega) (by rw [fuelv]; omega) (by rw [fuelv]; omega)
    obtain ⟨r, r1, r2⟩ := frac_eq v 24 u (by decide) (by decide)
    unfold f_X1_shareIn24ths
    rw [show l_X1_shareIn24ths_5 (nI src) (nI n) S fuel 0 0 = some v from v1, show l_X10_share_39 (nI src) (nI n) u fuel 0 (sI M 0 0) = _ from r39]
    simp only [bSome]
    rw [show l_X10_share_142 (nI src) u (sR (sI M 0 0) 13 (fun j => if 0 ≤ j ∧ j < 16 then absI (msI S pl n j) else (sI M 0 0).2.1 13 j)) fuel 0 0 = some v from v2]
    simp only [bSome]
    rw [r1, r2]
    simp only [bSome]
    exact ⟨r, _, rfl, rfl, h0.m rfl rfl rfl rfl rfl rfl (fun k hk => by rw [sR2, if_neg (by omega)]; rfl) rfl⟩
  · rw [if_neg c2, show (0 : Int64) = (0 : Int32).toInt64 from rfl, show (3 : Int64) = (3 : Int32).toInt64 from rfl, in_no (Or.inr (by rw [fa_lt] at c2; rw [fa_lt]; omega))]
    simp only [bSome]
    rw [if_pos trivial]
    exact ⟨_, _, rfl, rfl, h0.t 0⟩
