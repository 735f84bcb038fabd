/-! ===== ints without overflow (rows of kit/laws/COUNTS, pasted) ===== -/
theorem fb_rng (x : Int32) : -2147483648 ≤ x.toInt ∧ x.toInt < 2147483648 := by
  have h1 := Int32.le_toInt x
  have h2 := Int32.toInt_lt x
  omega
theorem fb_bmod {z : Int} (h1 : -2147483648 ≤ z) (h2 : z < 2147483648) : z.bmod (2 ^ 32) = z := by
  rw [Int.bmod_eq_of_le (by omega) (by omega)]
theorem fb_addI {x y : Int32} (h1 : -2147483648 ≤ x.toInt + y.toInt) (h2 : x.toInt + y.toInt < 2147483648) : (x + y).toInt = x.toInt + y.toInt := by
  rw [Int32.toInt_add, fb_bmod h1 h2]
theorem fb_subI {x y : Int32} (h1 : -2147483648 ≤ x.toInt - y.toInt) (h2 : x.toInt - y.toInt < 2147483648) : (x - y).toInt = x.toInt - y.toInt := by
  rw [Int32.toInt_sub, fb_bmod h1 h2]
theorem fb_mulI {x y : Int32} (h1 : -2147483648 ≤ x.toInt * y.toInt) (h2 : x.toInt * y.toInt < 2147483648) : (x * y).toInt = x.toInt * y.toInt := by
  rw [Int32.toInt_mul, fb_bmod h1 h2]
theorem in_yes {x y z : Int32} (h1 : y ≤ x) (h2 : x ≤ z) : f_X10_in x.toInt64 y.toInt64 z.toInt64 = some 1 := by rw [in_w, if_pos ⟨h1, h2⟩]
theorem in_no {x y z : Int32} (h : x < y ∨ z < x) : f_X10_in x.toInt64 y.toInt64 z.toInt64 = some 0 := by
  rw [in_w, if_neg]
  rintro ⟨h1, h2⟩
  rw [fa_le] at h1 h2
  rw [fa_lt, fa_lt] at h
  omega
/-! ===== stages ===== -/
theorem has_no {S : St} {st : Nat} (h6 : S.1 6 = nI st) {x : Int32} (h : x < 0 ∨ nI st ≤ x) : f_X3_has x S = some 0 := by
  unfold f_X3_has
  by_cases h0 : x < 0
  · rw [if_pos h0]
  · rw [if_neg h0, h6, if_pos (h.resolve_left h0)]
theorem has_yes {S : St} {st i : Nat} (h6 : S.1 6 = nI st) (hst : st ≤ 8) (hi : i < st) : f_X3_has (nI i) S = some 1 := by
  unfold f_X3_has
  rw [h6]
  simp (disch := omega) only [fa_lit, ltN, leN, if_neg]
theorem noS_no {M : St} {st : Nat} (h5 : M.1 5 = nI st) (hst : st ≤ 8) {x : Int32} (h : x < 0 ∨ nI st ≤ x) : f_X10_noStage x M = some 1 := by
  unfold f_X10_noStage
  rw [h5, show (0 : Int64) = (0 : Int32).toInt64 from rfl, in_w, if_neg]
  · rfl
  · rintro ⟨h1, h2⟩
    rcases h with h | h
    · rw [fa_lt] at h; rw [fa_le] at h1; omega
    · rw [fa_le] at h h2
      rw [fb_subI (by rw [nI_toInt (by omega)]; simp; omega) (by rw [nI_toInt (by omega)]; simp; omega), nI_toInt (by omega)] at h2
      rw [nI_toInt (by omega)] at h
      simp at h2; omega
theorem noS_yes {M : St} {st i : Nat} (h5 : M.1 5 = nI st) (hst : st ≤ 8) (hi : i < st) : f_X10_noStage (nI i) M = some 0 := by
  unfold f_X10_noStage
  rw [h5, show (0 : Int64) = (0 : Int32).toInt64 from rfl, in_w, if_pos]
  · rfl
  · rw [show (1 : Int32) = nI 1 from rfl, nI_sub (by omega), show (0 : Int32) = nI 0 from rfl, leN (by omega) (by omega), leN (by omega) (by omega)]
    omega
theorem kindOf_yes {S : St} {st i : Nat} (h6 : S.1 6 = nI st) (hst : st ≤ 8) (hi : i < st) : f_X3_kindOf (nI i) S = some (S.2.1 1 i) := by
  unfold f_X3_kindOf
  rw [has_yes h6 hst hi]
  simp only [bSome]
  rw [if_neg (by decide), if_neg (inN (by omega) (by omega)), clN (by omega)]
theorem valueOf_yes {S : St} {st i : Nat} (h6 : S.1 6 = nI st) (hst : st ≤ 8) (hi : i < st) : f_X3_valueOf (nI i) S = some (S.2.1 2 i) := by
  unfold f_X3_valueOf
  rw [has_yes h6 hst hi]
  simp only [bSome]
  rw [if_neg (by decide), if_neg (inN (by omega) (by omega)), clN (by omega)]
theorem gorseOf_yes {S : St} {st i : Nat} (h6 : S.1 6 = nI st) (hst : st ≤ 8) (hi : i < st) : f_X3_gorseOf (nI i) S = some (S.2.1 3 i) := by
  unfold f_X3_gorseOf
  rw [has_yes h6 hst hi]
  simp only [bSome]
  rw [if_neg (by decide), if_neg (inN (by omega) (by omega)), clN (by omega)]
theorem laid_no {S : St} {pl : Nat} (h : S.1 10 = nI pl) {x : Int32} (hx : x < 0 ∨ nI pl ≤ x) : f_X8_isLaid x S = some 0 := by
  unfold f_X8_isLaid
  by_cases h0 : x < 0
  · rw [if_pos h0]
  · rw [if_neg h0, h, if_pos (hx.resolve_left h0)]
theorem laid_yes {S : St} {pl i : Nat} (h : S.1 10 = nI pl) (hpl : pl ≤ 8) (hi : i < pl) : f_X8_isLaid (nI i) S = some 1 := by
  unfold f_X8_isLaid
  rw [h]
  simp (disch := omega) only [fa_lit, ltN, leN, if_neg]
/-! ===== errors ===== -/
theorem errG_eq (k v : Int32) : f_X3_errorOfGround k v = some (gnd k v) := by
  unfold f_X3_errorOfGround gnd
  split
  · rfl
  · split
    · rfl
    · split <;> rfl
theorem stepped_eq {S : St} {st i : Nat} (h6 : S.1 6 = nI st) (hst : st ≤ 8) (hi : i < st) : f_X3_groundIfStepped (nI i) S = some (gnd 2 (S.2.1 2 i)) := by
  unfold f_X3_groundIfStepped
  rw [valueOf_yes h6 hst hi]
  simp only [bSome]
  rw [errG_eq]
  simp only [bSome]
theorem groundAt_eq {S : St} {st i : Nat} (h6 : S.1 6 = nI st) (hst : st ≤ 8) (hG : Gr st S) (hi : i < st) : f_X3_groundAt (nI i) S = some (gnd (S.2.1 1 i) (S.2.1 2 i)) := by
  unfold f_X3_groundAt
  rw [has_yes h6 hst hi]
  simp only [bSome]
  rw [if_neg (by decide), if_neg (inN (by omega) (by omega)), clN (by omega), hG i hi]
theorem ground_m {M : St} {i : Nat} (hi : i < 8) (k : Int32) : f_X10_ground (nI i) k M = some (gnd k (M.2.1 3 i)) := by
  unfold f_X10_ground gnd
  simp only [if_neg (inN hi (show 8 < 2147483648 by omega))]
  simp only [clN (show i < 2147483648 by omega)]
  split
  · rfl
  · split
    · rfl
    · split <;> rfl
/-- the error of a stage, by who leads (the class's state) -/
def ers (S : St) (s : Nat) (ld : Int32) : Int32 := S.1 13 + gnd (S.2.1 1 s) (S.2.1 2 s) + (if ld = 0 then S.1 4 else S.1 5) - S.1 14
theorem errorAt_eq {S : St} {st i : Nat} (h6 : S.1 6 = nI st) (hst : st ≤ 8) (hG : Gr st S) (hi : i < st) (ld : Int32) : f_X1_errorAt (nI i) ld S = some (ers S i ld) := by
  unfold f_X1_errorAt f_X3_bentOf ers
  rw [groundAt_eq h6 hst hG hi]
  simp only [bSome]
  split
  · rfl
  · rfl
/-- the page beside the work, as far as errors go -/
def PgE (S M : St) : Prop := S.1 13 = M.2.1 7 6 ∧ S.1 14 = M.2.1 7 7 ∧ S.1 4 = M.2.1 1 0 ∧ S.1 5 = M.2.1 1 1 ∧ S.2.1 1 = M.2.1 2 ∧ S.2.1 2 = M.2.1 3
theorem errorOf_eq {S M : St} {i : Nat} (h : PgE S M) (hi : i < 8) {ld : Int32} (hl : ld = nI 0 ∨ ld = nI 1) : f_X10_errorOf (nI i) ld M = some (ers S i ld) := by
  obtain ⟨h1, h2, h3, h4, h5, h6⟩ := h
  unfold f_X10_errorOf ers
  rw [if_neg (inN hi (by omega)), clN (by omega), ground_m hi]
  simp only [bSome]
  rw [h1, h2, h3, h4, h5, h6]
  rcases hl with rfl | rfl
  · rw [if_neg (by decide), if_pos (show nI 0 = 0 from rfl)]
    rfl
  · rw [if_neg (by decide), if_neg (by decide)]
    rfl
theorem PgE.of {st ar : Nat} {S M : St} (hL : ILa st ar S M) (hW : IWo st ar S M) : PgE S M := ⟨hW.1.2.2.2.2.2.2.1, hW.1.2.2.2.2.2.2.2, hL.2.2.1.2.1, hL.2.2.1.2.2, hL.2.2.2.1.1, hL.2.2.2.1.2.1⟩
/-! ===== bits of what is lost ===== -/
set_option maxRecDepth 100000 in
theorem bit_get : ∀ s, s < 8 → ∀ lo, lo < 256 → (nI lo >>> (nI s &&& 31)) &&& 1 = nI (lo / 2 ^ s % 2) := by decide +kernel
set_option maxRecDepth 100000 in
theorem bit_or : ∀ s, s < 8 → ∀ lo, lo < 256 → lo / 2 ^ s % 2 = 0 → nI lo ||| ((1 : Int32) <<< (nI s &&& 31)) = nI (lo + 2 ^ s) := by decide +kernel
set_option maxRecDepth 100000 in
theorem bit_clr : ∀ s, s < 8 → ∀ lo, lo < 256 → lo / 2 ^ s % 2 = 1 → nI lo &&& (((1 : Int32) <<< (nI s &&& 31)) ^^^ (-1)) = nI (lo - 2 ^ s) := by decide +kernel
set_option maxRecDepth 100000 in
theorem bit_lose : ∀ pl, pl < 9 → ∀ lo, lo < 256 → (lo < 2 ^ pl ∧ 0 < pl ∧ lo / 2 ^ (pl - 1) % 2 = 0) → (lo + 2 ^ (pl - 1) < 2 ^ pl ∧ pcb (lo + 2 ^ (pl - 1)) = pcb lo + 1 ∧ (lo + 2 ^ (pl - 1)) / 2 ^ (pl - 1) % 2 = 1) := by decide +kernel
set_option maxRecDepth 100000 in
theorem bit_find : ∀ s, s < 8 → ∀ lo, lo < 256 → lo / 2 ^ s % 2 = 1 → pcb (lo - 2 ^ s) + 1 = pcb lo := by decide +kernel
set_option maxRecDepth 100000 in
theorem bit_above : ∀ pl, pl < 9 → ∀ s, s < 8 → pl ≤ s → ∀ lo, lo < 256 → lo < 2 ^ pl → lo / 2 ^ s % 2 = 0 := by decide +kernel
theorem pow8 : ∀ pl, pl < 9 → 2 ^ pl ≤ 256 := by decide
/-! ===== change, stretch, knot, clear ===== -/
theorem op_change {S M : St} (h : Inv S M) : ∃ r S' M', f_X9_change S = some (r, S') ∧ f_X10_change M = some (r, M') ∧ Inv S' M' := by
  obtain ⟨tl, st, ar, ct, fi, fl, tc, h⟩ := h
  refine act_of h ?_
  intro S1 x1 x2 x3 M1 m1 m2 hW hL
  have e : S1.1 12 = M1.2.1 7 5 := hW.1.2.2.2.2.2.1
  refine ⟨1 - S1.1 12, sI S1 12 (1 - S1.1 12), sA M1 7 5 (1 - S1.1 12), ?_, ?_, ?_, ?_, rfl, ?_, ?_, rfl, ?_⟩
  · simp only [nm_eq, sI1]; rfl
  · simp only [nm_eq, sA2, ← e]; rfl
  · intro k hk; rw [sI1, if_neg (by omega)]
  · intro k _; rfl
  · intro k _; rfl
  · intro k hk; rw [sA2, if_neg hk]
  · obtain ⟨h1, pl, hh, b, lo, ⟨v1, v2, v3, v4, v5, v6, v7, v8, v9, v10, v11⟩, h3⟩ := hW
    refine ⟨⟨h1.1, h1.2.1, h1.2.2.1, h1.2.2.2.1, h1.2.2.2.2.1, rfl, h1.2.2.2.2.2.2⟩, pl, hh, b, lo, ⟨v1, v2, v3, v4, v5, v6, v7, v8, ?_, v10, v11⟩, fun i hi => by rw [sA2, if_pos rfl]; unfold upd; rw [if_neg (by omega)]; exact h3 i hi⟩
    show 1 - S1.1 12 = nI 0 ∨ 1 - S1.1 12 = nI 1
    have v9 : S1.1 12 = nI 0 ∨ S1.1 12 = nI 1 := v9
    rcases v9 with q | q <;> rw [q] <;> decide
theorem abs9 {y : Int32} (h1 : -100 ≤ y.toInt) (h2 : y.toInt ≤ 100) : ((if 0 ≤ y then y else 0 - y) ≤ 9) ↔ (-9 ≤ y ∧ y ≤ 9) := by
  have z : (0 : Int32).toInt = 0 := rfl
  have z9 : (9 : Int32).toInt = 9 := rfl
  have zm : (-9 : Int32).toInt = -9 := rfl
  by_cases h : 0 ≤ y
  · rw [if_pos h]
    rw [fa_le] at h
    simp only [fa_le]
    omega
  · rw [if_neg h]
    rw [fa_le] at h
    simp only [fa_le]
    rw [fb_subI (by omega) (by omega)]
    omega
theorem op_stretch {S M : St} (h : Inv S M) (x : Int32) : ∃ r S' M', f_X9_stretch x S = some (r, S') ∧ f_X10_stretch x M = some (r, M') ∧ Inv S' M' := by
  have h0 := h
  obtain ⟨tl, st, ar, ct, fi, fl, tc, h⟩ := h
  unfold f_X9_stretch f_X10_stretch
  rw [nm_eq, show (-3 : Int64) = (-3 : Int32).toInt64 from rfl, show (3 : Int64) = (3 : Int32).toInt64 from rfl]
  have z3 : (3 : Int32).toInt = 3 := rfl
  have zm : (-3 : Int32).toInt = -3 := rfl
  by_cases c1 : x < -3
  · rw [if_pos c1, in_no (Or.inl c1)]
    exact ⟨_, _, _, rfl, rfl, h0.t 0⟩
  rw [if_neg c1]
  by_cases c2 : 3 < x
  · rw [if_pos c2, in_no (Or.inr c2)]
    exact ⟨_, _, _, rfl, rfl, h0.t 0⟩
  rw [if_neg c2, in_yes (by rw [fa_lt] at c1; rw [fa_le]; omega) (by rw [fa_lt] at c2; rw [fa_le]; omega)]
  simp only [bSome]
  rw [if_neg (show ¬ ((1 : Int32) = 0) by decide)]
  by_cases c3 : x = 0
  · rw [if_pos c3, if_pos c3]
    exact ⟨_, _, _, rfl, rfl, h0.t 0⟩
  rw [if_neg c3, if_neg c3]
  have hW := h.2.2.1
  have e : S.1 13 = M.2.1 7 6 := hW.1.2.2.2.2.2.2.1
  have hb : -9 ≤ (S.1 13).toInt ∧ (S.1 13).toInt ≤ 9 := by
    obtain ⟨-, pl, hh, b, lo, ⟨v1, v2, v3, v4, v5, v6, v7, v8, v9, v10, v11⟩, h3⟩ := hW
    exact v10
  rw [fa_lt] at c1 c2
  have hs : (S.1 13 + x).toInt = (S.1 13).toInt + x.toInt := fb_addI (by omega) (by omega)
  rw [show ((sI M 0 0).2.1 7 6 + x) = S.1 13 + x by rw [sI2, e], show (-9 : Int64) = (-9 : Int32).toInt64 from rfl, show (9 : Int64) = (9 : Int32).toInt64 from rfl]
  have habs := abs9 (y := S.1 13 + x) (by omega) (by omega)
  by_cases c4 : -9 ≤ S.1 13 + x ∧ S.1 13 + x ≤ 9
  · rw [if_pos (habs.mpr c4), in_yes c4.1 c4.2]
    simp only [bSome]
    rw [if_neg (show ¬ ((1 : Int32) = 0) by decide)]
    refine act_of h ?_
    intro S1 x1 x2 x3 M1 m1 m2 hW hL
    have e1 : S1.1 13 = M1.2.1 7 6 := hW.1.2.2.2.2.2.2.1
    have e2 : S1.1 13 = S.1 13 := x1 13 (by omega) (by omega)
    refine ⟨S1.1 13 + x + 50, sI S1 13 (S1.1 13 + x), sA M1 7 6 (S1.1 13 + x), ?_, ?_, ?_, ?_, rfl, ?_, ?_, rfl, ?_⟩
    · simp only [nm_eq, sI1]; rfl
    · simp only [nm_eq, sA2, ← e1]; rfl
    · intro k hk; rw [sI1, if_neg (by omega)]
    · intro k _; rfl
    · intro k _; rfl
    · intro k hk; rw [sA2, if_neg hk]
    · obtain ⟨h1, pl, hh, b, lo, ⟨v1, v2, v3, v4, v5, v6, v7, v8, v9, v10, v11⟩, h3⟩ := hW
      refine ⟨⟨h1.1, h1.2.1, h1.2.2.1, h1.2.2.2.1, h1.2.2.2.2.1, h1.2.2.2.2.2.1, rfl, h1.2.2.2.2.2.2.2⟩, pl, hh, b, lo, ⟨v1, v2, v3, v4, v5, v6, v7, v8, v9, ?_, v11⟩, fun i hi => by rw [sA2, if_pos rfl]; unfold upd; rw [if_neg (by omega)]; exact h3 i hi⟩
      show -9 ≤ (S1.1 13 + x).toInt ∧ (S1.1 13 + x).toInt ≤ 9
      rw [e2]
      obtain ⟨q1, q2⟩ := c4
      rw [fa_le] at q1 q2
      exact ⟨q1, q2⟩
  · rw [if_neg (fun q => c4 (habs.mp q)), in_w, if_neg c4]
    exact ⟨_, _, _, rfl, rfl, h0.t 0⟩
theorem op_knot {S M : St} (h : Inv S M) : ∃ r S' M', f_X9_knot S = some (r, S') ∧ f_X10_knot M = some (r, M') ∧ Inv S' M' := by
  have h0 := h
  obtain ⟨tl, st, ar, ct, fi, fl, tc, h⟩ := h
  have hW := h.2.2.1
  have e : S.1 14 = M.2.1 7 7 := hW.1.2.2.2.2.2.2.2
  obtain ⟨kn, k1, k2⟩ : ∃ kn : Nat, S.1 14 = nI kn ∧ kn ≤ 9 := by
    obtain ⟨-, pl, hh, b, lo, ⟨v1, v2, v3, v4, v5, v6, v7, v8, v9, v10, v11⟩, h3⟩ := hW
    exact v11
  unfold f_X9_knot f_X10_knot
  rw [nm_eq, show (sI M 0 0).2.1 7 7 = nI kn by rw [sI2, ← e, k1], k1]
  by_cases c : kn = 9
  · subst c
    rw [if_neg (by decide), if_pos (by decide)]
    exact ⟨_, _, _, rfl, rfl, h0.t 0⟩
  · rw [if_pos (by rw [show (9 : Int32) = nI 9 from rfl, ltN (by omega) (by omega)]; omega), if_neg (by rw [show (9 : Int32) = nI 9 from rfl, eqN (by omega) (by omega)]; omega)]
    refine act_of h ?_
    intro S1 x1 x2 x3 M1 m1 m2 hW hL
    have e1 : S1.1 14 = M1.2.1 7 7 := hW.1.2.2.2.2.2.2.2
    have e2 : S1.1 14 = nI kn := by rw [x1 14 (by omega) (by omega), k1]
    refine ⟨nI (kn + 1), sI S1 14 (nI (kn + 1)), sA M1 7 7 (nI (kn + 1)), ?_, ?_, ?_, ?_, rfl, ?_, ?_, rfl, ?_⟩
    · rw [e2, show nI kn + 1 = nI (kn + 1) from nI_1 kn]; rfl
    · rw [← e1, e2, show nI kn + 1 = nI (kn + 1) from nI_1 kn]; rfl
    · intro k hk; rw [sI1, if_neg (by omega)]
    · intro k _; rfl
    · intro k _; rfl
    · intro k hk; rw [sA2, if_neg hk]
    · obtain ⟨h1, pl, hh, b, lo, ⟨v1, v2, v3, v4, v5, v6, v7, v8, v9, v10, v11⟩, h3⟩ := hW
      exact ⟨⟨h1.1, h1.2.1, h1.2.2.1, h1.2.2.2.1, h1.2.2.2.2.1, h1.2.2.2.2.2.1, h1.2.2.2.2.2.2.1, rfl⟩, pl, hh, b, lo, ⟨v1, v2, v3, v4, v5, v6, v7, v8, v9, v10, kn + 1, rfl, by omega⟩, fun i hi => by rw [sA2, if_pos rfl]; unfold upd; rw [if_neg (by omega)]; exact h3 i hi⟩
theorem op_clear {S M : St} (h : Inv S M) : ∃ r S' M', f_X9_clear S = some (r, S') ∧ f_X10_clear M = some (r, M') ∧ Inv S' M' := by
  have h0 := h
  obtain ⟨tl, st, ar, ct, fi, fl, tc, h⟩ := h
  have hW := h.2.2.1
  have e : S.1 14 = M.2.1 7 7 := hW.1.2.2.2.2.2.2.2
  unfold f_X9_clear f_X10_clear
  rw [nm_eq, show (sI M 0 0).2.1 7 7 = S.1 14 by rw [sI2, ← e]]
  by_cases c : S.1 14 = 0
  · rw [if_pos c, if_pos c]
    exact ⟨_, _, _, rfl, rfl, h0.t 0⟩
  · rw [if_neg c, if_neg c]
    refine act_of h ?_
    intro S1 x1 x2 x3 M1 m1 m2 hW hL
    refine ⟨S.1 14, sI S1 14 0, sA M1 7 7 0, rfl, rfl, ?_, ?_, rfl, ?_, ?_, rfl, ?_⟩
    · intro k hk; rw [sI1, if_neg (by omega)]
    · intro k _; rfl
    · intro k _; rfl
    · intro k hk; rw [sA2, if_neg hk]
    · obtain ⟨h1, pl, hh, b, lo, ⟨v1, v2, v3, v4, v5, v6, v7, v8, v9, v10, v11⟩, h3⟩ := hW
      exact ⟨⟨h1.1, h1.2.1, h1.2.2.1, h1.2.2.2.1, h1.2.2.2.2.1, h1.2.2.2.2.2.1, h1.2.2.2.2.2.2.1, rfl⟩, pl, hh, b, lo, ⟨v1, v2, v3, v4, v5, v6, v7, v8, v9, v10, 0, rfl, by omega⟩, fun i hi => by rw [sA2, if_pos rfl]; unfold upd; rw [if_neg (by omega)]; exact h3 i hi⟩
