/-! ===== lose, find ===== -/
theorem hasm_eq {lo s : Nat} (hs : s < 8) (hlo : lo < 256) : f_X10_has (nI lo) (nI s) = some (nI (lo / 2 ^ s % 2)) := by
  unfold f_X10_has
  rw [bit_get s hs lo hlo]
  by_cases c : lo / 2 ^ s % 2 = 1
  · rw [c, if_pos (show nI 1 = 1 from rfl)]; rfl
  · have e : lo / 2 ^ s % 2 = 0 := by omega
    rw [e, if_neg (by decide)]; rfl
theorem isLost_yes {S : St} {pl lo s : Nat} (h10 : S.1 10 = nI pl) (hpl : pl ≤ 8) (h11 : S.1 11 = nI lo) (hlo : lo < 256) (hs : s < pl) : f_X8_isLost (nI s) S = some (nI (lo / 2 ^ s % 2)) := by
  unfold f_X8_isLost
  rw [laid_yes h10 hpl hs]
  simp only [bSome]
  rw [if_neg (by decide), h11, bit_get s (by omega) lo hlo]
  by_cases c : lo / 2 ^ s % 2 = 1
  · rw [c, if_pos (show nI 1 = 1 from rfl)]; rfl
  · have e : lo / 2 ^ s % 2 = 0 := by omega
    rw [e, if_neg (by decide)]; rfl
theorem isLost_no {S : St} {pl : Nat} (h10 : S.1 10 = nI pl) {x : Int32} (hx : x < 0 ∨ nI pl ≤ x) : f_X8_isLost x S = some 0 := by
  unfold f_X8_isLost
  rw [laid_no h10 hx]
  simp only [bSome]
  rw [if_pos trivial]
theorem lo_256 {pl lo : Nat} (h : pl ≤ 8) (hl : lo < 2 ^ pl) : lo < 256 := Nat.lt_of_lt_of_le hl (pow8 pl (by omega))
theorem op_lose {S M : St} (h : Inv S M) : ∃ r S' M', f_X9_lose S = some (r, S') ∧ f_X10_lose M = some (r, M') ∧ Inv S' M' := by
  have h0 := h
  obtain ⟨tl, st, ar, ct, fi, fl, tc, h⟩ := h
  have hL := h.2.1
  obtain ⟨g1, pl, hh, b, lo, ⟨v1, v2, v3, v4, v5, v6, v7, v8, v9, v10, v11⟩, h3⟩ := id h.2.2.1
  have v2 : S.1 10 = nI pl := v2
  have v4 : S.1 8 = nI b := v4
  have v5 : S.1 11 = nI lo := v5
  have hst : st ≤ 8 := hL.1.1
  have har : ar ≤ 9 := hL.2.1.2.1
  have hlo : lo < 256 := lo_256 (by omega) v6
  have p0 : (sI M 0 0).2.1 7 0 = nI pl := by rw [sI2, ← v2]; exact g1.1.symm
  have p4 : (sI M 0 0).2.1 7 4 = nI lo := by rw [sI2, ← v5]; exact g1.2.2.2.2.1.symm
  unfold f_X9_lose f_X10_lose
  rw [nm_eq, v2, p0, p4]
  by_cases c1 : pl = 0
  · subst c1
    rw [laid_no v2 (Or.inl (by decide)), if_pos (by decide)]
    simp only [bSome]
    rw [if_pos trivial]
    exact ⟨_, _, _, rfl, rfl, h0.t 0⟩
  rw [show nI pl - 1 = nI (pl - 1) by rw [show (1 : Int32) = nI 1 from rfl, nI_sub (by omega)], laid_yes v2 (by omega) (by omega), if_neg (nI_pos (by omega)), isLost_yes v2 (by omega) v5 hlo (by omega), hasm_eq (by omega) hlo]
  simp only [bSome]
  rw [if_neg (show ¬ ((1 : Int32) = 0) by decide)]
  by_cases c2 : lo / 2 ^ (pl - 1) % 2 = 1
  · rw [c2, if_neg (by decide), if_neg (by decide)]
    exact ⟨_, _, _, rfl, rfl, h0.t 0⟩
  have c3 : lo / 2 ^ (pl - 1) % 2 = 0 := by omega
  rw [c3, if_pos (show nI 0 = 0 from rfl), if_pos (show nI 0 = 0 from rfl)]
  have hb1 : 1 ≤ b := v8 (by omega) c3
  obtain ⟨l1, l2, l3⟩ := bit_lose pl (by omega) lo hlo ⟨v6, by omega, c3⟩
  refine act_of h ?_
  intro S1 x1 x2 x3 M1 m1 m2 hW1 hL1
  have w11 : S1.1 11 = nI lo := by rw [x1 11 (by omega) (by omega)]; exact v5
  have w8 : S1.1 8 = nI b := by rw [x1 8 (by omega) (by omega)]; exact v4
  have q4 : M1.2.1 7 4 = nI lo := by rw [← w11]; exact hW1.1.2.2.2.2.1.symm
  have q2 : M1.2.1 7 2 = nI b := by rw [← w8]; exact hW1.1.2.2.1.symm
  have eb : nI b - 1 = nI (b - 1) := by rw [show (1 : Int32) = nI 1 from rfl, nI_sub (by omega)]
  refine ⟨nI (b - 1), sI (sI S1 11 (nI (lo + 2 ^ (pl - 1)))) 8 (nI (b - 1)), sA (sA M1 7 4 (nI (lo + 2 ^ (pl - 1)))) 7 2 (nI (b - 1)), ?_, ?_, ?_, ?_, rfl, ?_, ?_, rfl, ?_⟩
  · unfold f_X8_leaveBehind
    rw [w11, bit_or (pl - 1) (by omega) lo hlo c3, nm_eq, nm_eq, show (sI S1 11 (nI (lo + 2 ^ (pl - 1)))).1 8 = nI b from w8, eb]
    rfl
  · rw [q4, bit_or (pl - 1) (by omega) lo hlo c3, nm_eq, nm_eq, show (sA M1 7 4 (nI (lo + 2 ^ (pl - 1)))).2.1 7 2 = nI b from q2, eb]
    rfl
  · intro k hk; rw [sI1, if_neg (by omega), sI1, if_neg (by omega)]
  · intro k _; rfl
  · intro k _; rfl
  · intro k hk; rw [sA2, if_neg hk, sA2, if_neg hk]
  · obtain ⟨h1, pl1, hh1, b1, lo1, ⟨u1, u2, u3, u4, u5, u6, u7, u8, u9, u10, u11⟩, h31⟩ := hW1
    have w10 : S1.1 10 = nI pl := by rw [x1 10 (by omega) (by omega)]; exact v2
    have w7 : S1.1 7 = nI hh := by rw [x1 7 (by omega) (by omega)]; exact v3
    refine ⟨⟨h1.1, h1.2.1, rfl, h1.2.2.2.1, rfl, h1.2.2.2.2.2⟩, pl, hh, b - 1, lo + 2 ^ (pl - 1), ⟨v1, w10, w7, rfl, rfl, l1, by omega, fun _ q => by omega, u9, u10, u11⟩, fun i hi => ?_⟩
    have em : (sA (sA M1 7 4 (nI (lo + 2 ^ (pl - 1)))) 7 2 (nI (b - 1))).2.1 7 (8 + i) = M1.2.1 7 (8 + i) := by
      rw [sA2, if_pos rfl]; unfold upd; rw [if_neg (by omega), sA2, if_pos rfl]; unfold upd; rw [if_neg (by omega)]
    rw [em, m2 7 (by omega)]
    show S1.2.1 4 i = _
    rw [x2 4 (by omega)]
    exact h3 i hi
theorem op_find {S M : St} (h : Inv S M) (x : Int32) : ∃ r S' M', f_X9_find x S = some (r, S') ∧ f_X10_find x M = some (r, M') ∧ Inv S' M' := by
  have h0 := h
  obtain ⟨tl, st, ar, ct, fi, fl, tc, h⟩ := h
  have hL := h.2.1
  obtain ⟨g1, pl, hh, b, lo, ⟨v1, v2, v3, v4, v5, v6, v7, v8, v9, v10, v11⟩, h3⟩ := id h.2.2.1
  have v2 : S.1 10 = nI pl := v2
  have v4 : S.1 8 = nI b := v4
  have v5 : S.1 11 = nI lo := v5
  have hst : st ≤ 8 := hL.1.1
  have har : ar ≤ 9 := hL.2.1.2.1
  have hlo : lo < 256 := lo_256 (by omega) v6
  have p4 : (sI M 0 0).2.1 7 4 = nI lo := by rw [sI2, ← v5]; exact g1.2.2.2.2.1.symm
  unfold f_X9_find f_X10_find
  rw [nm_eq, p4]
  have h5 : (sI M 0 0).1 5 = nI st := hL.1.2.2
  rcases (or_assoc.mpr (pk_ix x (n := st) (by omega))) with hx | ⟨s, hs, rfl⟩
  · rw [has_no hL.1.2.1 hx, noS_no h5 hst hx]
    simp only [bSome]
    rw [if_pos trivial, if_neg (by decide)]
    exact ⟨_, _, _, rfl, rfl, h0.t 0⟩
  rw [has_yes hL.1.2.1 hst hs, noS_yes h5 hst hs, hasm_eq (by omega) hlo]
  simp only [bSome]
  rw [if_neg (show ¬ ((1 : Int32) = 0) by decide), if_pos trivial]
  by_cases c1 : s < pl
  · rw [isLost_yes v2 (by omega) v5 hlo c1]
    simp only [bSome]
    by_cases c2 : lo / 2 ^ s % 2 = 0
    · rw [c2, if_pos (show nI 0 = 0 from rfl), if_pos (show nI 0 = 0 from rfl)]
      exact ⟨_, _, _, rfl, rfl, h0.t 0⟩
    have c3 : lo / 2 ^ s % 2 = 1 := by omega
    rw [c3, if_neg (by decide), if_neg (by decide)]
    have l2 := bit_find s (by omega) lo hlo c3
    refine act_of h ?_
    intro S1 x1 x2 x3 M1 m1 m2 hW1 hL1
    have w11 : S1.1 11 = nI lo := by rw [x1 11 (by omega) (by omega)]; exact v5
    have w8 : S1.1 8 = nI b := by rw [x1 8 (by omega) (by omega)]; exact v4
    have q4 : M1.2.1 7 4 = nI lo := by rw [← w11]; exact hW1.1.2.2.2.2.1.symm
    have q2 : M1.2.1 7 2 = nI b := by rw [← w8]; exact hW1.1.2.2.1.symm
    have eb : nI b + 1 = nI (b + 1) := nI_1 b
    refine ⟨nI (b + 1), sI (sI S1 11 (nI (lo - 2 ^ s))) 8 (nI (b + 1)), sA (sA M1 7 4 (nI (lo - 2 ^ s))) 7 2 (nI (b + 1)), ?_, ?_, ?_, ?_, rfl, ?_, ?_, rfl, ?_⟩
    · unfold f_X8_bringBack
      rw [w11, bit_clr s (by omega) lo hlo c3, nm_eq, nm_eq, show (sI S1 11 (nI (lo - 2 ^ s))).1 8 = nI b from w8, eb]
      rfl
    · rw [q4, bit_clr s (by omega) lo hlo c3, nm_eq, nm_eq, show (sA M1 7 4 (nI (lo - 2 ^ s))).2.1 7 2 = nI b from q2, eb]
      rfl
    · intro k hk; rw [sI1, if_neg (by omega), sI1, if_neg (by omega)]
    · intro k _; rfl
    · intro k _; rfl
    · intro k hk; rw [sA2, if_neg hk, sA2, if_neg hk]
    · obtain ⟨h1, pl1, hh1, b1, lo1, ⟨u1, u2, u3, u4, u5, u6, u7, u8, u9, u10, u11⟩, h31⟩ := hW1
      have w10 : S1.1 10 = nI pl := by rw [x1 10 (by omega) (by omega)]; exact v2
      have w7 : S1.1 7 = nI hh := by rw [x1 7 (by omega) (by omega)]; exact v3
      refine ⟨⟨h1.1, h1.2.1, rfl, h1.2.2.2.1, rfl, h1.2.2.2.2.2⟩, pl, hh, b + 1, lo - 2 ^ s, ⟨v1, w10, w7, rfl, rfl, Nat.lt_of_le_of_lt (Nat.sub_le _ _) v6, by omega, fun _ q => by omega, u9, u10, u11⟩, fun i hi => ?_⟩
      have em : (sA (sA M1 7 4 (nI (lo - 2 ^ s))) 7 2 (nI (b + 1))).2.1 7 (8 + i) = M1.2.1 7 (8 + i) := by
        rw [sA2, if_pos rfl]; unfold upd; rw [if_neg (by omega), sA2, if_pos rfl]; unfold upd; rw [if_neg (by omega)]
      rw [em, m2 7 (by omega)]
      show S1.2.1 4 i = _
      rw [x2 4 (by omega)]
      exact h3 i hi
  · rw [isLost_no v2 (Or.inr ((leN (by omega) (by omega)).mpr (by omega))), bit_above pl (by omega) s (by omega) (by omega) lo hlo v6]
    simp only [bSome]
    rw [if_pos trivial, if_pos (show nI 0 = 0 from rfl)]
    exact ⟨_, _, _, rfl, rfl, h0.t 0⟩
/-! ===== undo, slots ===== -/
/-- the work taken from a saved row, on both sides -/
theorem ld_work {st ar : Nat} {S M : St} {g er m : Nat → Int32} (hst : st ≤ 8) (h : RowR st ar g er m) : IWo st ar (ldRow S g er) (sR M 7 (bput (M.2.1 7) 0 0 m)) := by
  refine h.cong hst (fun k hk => ?_) (fun i hi => ?_) (fun k hk => ?_)
  · show (if 7 ≤ 7 + k ∧ 7 + k < 15 then g (7 + k - 7) else S.1 (7 + k)) = g k
    rw [if_pos (by omega)]
    exact congrArg g (by omega)
  · show (if i < 8 then er i else S.2.1 4 i) = er i
    rw [if_pos hi]
  · show (if 0 + 0 ≤ k ∧ k < 0 + 16 then m (k - 0) else M.2.1 7 k) = m k
    rw [if_pos (by omega)]
    exact congrArg m (by omega)
theorem op_undo {S M : St} (h : Inv S M) : ∃ r S' M', f_X9_undo S = some (r, S') ∧ f_X10_undo M = some (r, M') ∧ Inv S' M' := by
  have h0 := h
  obtain ⟨tl, st, ar, ct, fi, fl, tc, h⟩ := h
  obtain ⟨hT, hL, hW, ⟨⟨a1, a2, a3, a4, a5⟩, hR⟩, hSl, hTe, hs0⟩ := h
  have hst : st ≤ 8 := hL.1.1
  unfold f_X9_undo f_X10_undo
  rw [nm_eq, a3, show (sI M 0 0).1 7 = nI ct from a4]
  by_cases c : ct = 0
  · subst c
    rw [if_pos (show nI 0 = 0 from rfl), if_pos (show nI 0 = 0 from rfl)]
    exact ⟨_, _, _, rfl, rfl, h0.t 0⟩
  have cn : ¬ nI ct = 0 := fun q => by rw [show (0 : Int32) = nI 0 from rfl, eqN (by omega) (by omega)] at q; exact c q
  have em : nI ct - 1 = nI (ct - 1) := by rw [show (1 : Int32) = nI 1 from rfl, nI_sub (by omega)]
  rw [if_neg cn, if_neg cn, em, nm_eq]
  unfold f_X0_takeBack_a7
  rw [a3, if_neg cn, em, nm_eq, show (sI S 16 (nI (ct - 1))).1 16 = nI (ct - 1) from rfl, startOf_eq (S := sI S 16 (nI (ct - 1))) (fi := fi) a5 a2 (by omega)]
  simp only [bSome]
  rw [loadFrom_a10 _ (by omega), show (0 : Int32) = nI 0 from rfl, undo_27 (ct := ct - 1) (by omega) 16 0 fuel (sI (sI M 0 (nI 0)) 7 (nI (ct - 1))) (by omega) (by decide) rfl]
  simp only [bSome]
  refine ⟨nI (ct - 1), _, _, rfl, rfl, tl, st, ar, ct - 1, fi, fl, tc, hT, hL, ?_, ⟨⟨by omega, a2, rfl, rfl, a5⟩, fun j hj => hR j (by omega)⟩, hSl, hTe, hs0⟩
  exact ld_work hst (hR (ct - 1) (by omega))
set_option maxRecDepth 100000 in
theorem fl_or : ∀ k, k < 2 → ∀ fl, fl < 4 → nI fl ||| ((1 : Int32) <<< (nI k &&& 31)) = nI (fl ||| 2 ^ k) ∧ (fl ||| 2 ^ k) < 4 ∧ (fl ||| 2 ^ k) / 2 ^ k % 2 = 1 ∧ (fl ||| 2 ^ k) / 2 ^ (1 - k) % 2 = fl / 2 ^ (1 - k) % 2 := by decide +kernel
theorem slot_no {x : Int32} (h : x < 0 ∨ nI 2 ≤ x) : f_X5_has x = some 0 ∧ f_X10_in x.toInt64 0 1 = some 0 := by
  constructor
  · unfold f_X5_has
    by_cases c : x < 0
    · rw [if_pos c]
    · rw [if_neg c, if_pos (show (2 : Int32) ≤ x from h.resolve_left c)]
  · rw [show (0 : Int64) = (0 : Int32).toInt64 from rfl, show (1 : Int64) = (1 : Int32).toInt64 from rfl, in_no]
    rcases h with h | h
    · exact Or.inl h
    · right
      rw [fa_le] at h
      rw [fa_lt]
      have : (nI 2).toInt = 2 := rfl
      have : (1 : Int32).toInt = 1 := rfl
      omega
theorem slot_yes {k : Nat} (h : k < 2) : f_X5_has (nI k) = some 1 ∧ f_X10_in (nI k).toInt64 0 1 = some 1 := by
  rcases (show k = 0 ∨ k = 1 by omega) with rfl | rfl <;> decide
theorem op_keep {S M : St} (h : Inv S M) (x : Int32) : ∃ r S' M', f_X9_keep x S = some (r, S') ∧ f_X10_keep x M = some (r, M') ∧ Inv S' M' := by
  have h0 := h
  obtain ⟨tl, st, ar, ct, fi, fl, tc, h⟩ := h
  obtain ⟨hT, hL, hW, hA, ⟨⟨f1, f2⟩, f3⟩, hTe, hs0⟩ := h
  have hst : st ≤ 8 := hL.1.1
  unfold f_X9_keep f_X10_keep
  rw [nm_eq]
  rcases (or_assoc.mpr (pk_ix x (n := 2) (by omega))) with hx | ⟨q, hq, rfl⟩
  · rw [(slot_no hx).1, (slot_no hx).2]
    simp only [bSome]
    rw [if_pos trivial, if_pos trivial]
    exact ⟨_, _, _, rfl, rfl, h0.t 0⟩
  rw [(slot_yes hq).1, (slot_yes hq).2]
  simp only [bSome]
  rw [if_neg (show ¬ ((1 : Int32) = 0) by decide), if_neg (show ¬ ((1 : Int32) = 0) by decide), if_neg (inN hq (by omega)), clN (by omega), nm_eq]
  unfold f_X5_store_a7
  obtain ⟨o1, o2, o3, o4⟩ := fl_or q hq fl f1
  rw [show nI q * 16 = nI (16 * q) by rw [show (16 : Int32) = nI 16 from rfl, nI_mul, Nat.mul_comm], saveTo_a12 S hq, show (0 : Int32) = nI 0 from rfl, keep_26 hq 16 0 fuel (sA (sI M 0 (nI 0)) 10 q 1) (by omega) (by decide)]
  simp only [bSome]
  rw [nm_eq, show (sR S 6 (rowput (S.2.1 6) q (fun k => S.1 (7 + k)) (S.2.1 4))).1 17 = nI fl from f2, o1]
  have e0 : S.1 10 = M.2.1 7 0 := hW.1.1
  refine ⟨S.1 10, _, sR (sA (sI M 0 (nI 0)) 10 q 1) 9 (bput (M.2.1 9) (16 * q) 0 (M.2.1 7)), rfl, by rw [e0]; rfl, tl, st, ar, ct, fi, fl ||| 2 ^ q, tc, hT, hL, hW, hA, ⟨⟨o2, rfl⟩, ?_⟩, hTe, hs0⟩
  intro k hk
  show upd (M.2.1 10) q 1 k = nI ((fl ||| 2 ^ q) / 2 ^ k % 2) ∧ ((fl ||| 2 ^ q) / 2 ^ k % 2 = 1 → RowR st ar (fun i => rowput (S.2.1 6) q (fun k => S.1 (7 + k)) (S.2.1 4) (16 * k + i)) (fun i => rowput (S.2.1 6) q (fun k => S.1 (7 + k)) (S.2.1 4) (16 * k + (8 + i))) (fun i => bput (M.2.1 9) (16 * q) 0 (M.2.1 7) (16 * k + i)))
  by_cases c : k = q
  · subst c
    rw [o3]
    refine ⟨by unfold upd; rw [if_pos rfl]; rfl, fun _ => ?_⟩
    refine RowR.cong (show RowR st ar (fun k => S.1 (7 + k)) (S.2.1 4) (M.2.1 7) from hW) hst (fun j hj => rp_g hj) (fun i hi => rp_e hi) (fun j hj => ?_)
    unfold bput
    rw [if_pos (by omega)]
    exact congrArg (M.2.1 7) (by omega)
  · have e1 : k = 1 - q := by omega
    rw [e1, o4, ← e1]
    obtain ⟨r1, r2⟩ := f3 k hk
    refine ⟨by unfold upd; rw [if_neg c]; exact r1, fun z => ?_⟩
    refine (r2 z).cong hst (fun j hj => rp_o (by omega)) (fun i hi => rp_o (by omega)) (fun j hj => ?_)
    unfold bput
    rw [if_neg (by omega)]
set_option maxRecDepth 100000 in
theorem fl_bit : ∀ k, k < 2 → ∀ fl, fl < 4 → (nI fl >>> (nI k &&& 31)) &&& 1 = nI (fl / 2 ^ k % 2) := by decide +kernel
theorem op_again {S M : St} (h : Inv S M) (x : Int32) : ∃ r S' M', f_X9_again x S = some (r, S') ∧ f_X10_again x M = some (r, M') ∧ Inv S' M' := by
  have h0 := h
  obtain ⟨tl, st, ar, ct, fi, fl, tc, h⟩ := h
  obtain ⟨hT, hL, hW, hA, ⟨⟨f1, f2⟩, f3⟩, hTe, hs0⟩ := h
  have hst : st ≤ 8 := hL.1.1
  unfold f_X9_again f_X10_again
  rw [nm_eq]
  rcases (or_assoc.mpr (pk_ix x (n := 2) (by omega))) with hx | ⟨q, hq, rfl⟩
  · rw [(slot_no hx).1, (slot_no hx).2]
    simp only [bSome]
    rw [if_pos trivial, if_pos trivial]
    exact ⟨_, _, _, rfl, rfl, h0.t 0⟩
  unfold f_X5_holds
  rw [(slot_yes hq).1, (slot_yes hq).2]
  simp only [bSome]
  rw [if_neg (show ¬ ((1 : Int32) = 0) by decide), if_neg (show ¬ ((1 : Int32) = 0) by decide), if_neg (show ¬ ((1 : Int32) = 0) by decide), if_neg (inN hq (by omega)), clN (by omega), f2, fl_bit q hq fl f1]
  obtain ⟨r1, r2⟩ := f3 q hq
  rw [show (sI M 0 0).2.1 10 q = nI (fl / 2 ^ q % 2) from r1]
  by_cases c : fl / 2 ^ q % 2 = 0
  · rw [c, if_neg (by decide), if_pos (show nI 0 = 0 from rfl)]
    simp only [bSome]
    rw [if_pos trivial]
    exact ⟨_, _, _, rfl, rfl, h0.t 0⟩
  have c1 : fl / 2 ^ q % 2 = 1 := by omega
  rw [c1, if_pos (show nI 1 = 1 from rfl), if_neg (by decide)]
  simp only [bSome]
  rw [if_neg (show ¬ ((1 : Int32) = 0) by decide)]
  unfold f_X5_fetch_a7
  rw [show nI q * 16 = nI (16 * q) by rw [show (16 : Int32) = nI 16 from rfl, nI_mul, Nat.mul_comm], loadFrom_a12 S hq, show (0 : Int32) = nI 0 from rfl, again_31 hq 16 0 fuel (sI M 0 (nI 0)) (by omega) (by decide)]
  unfold f_X0_forget
  simp only [bSome, nm_eq]
  have hrow := r2 c1
  have hw : IWo st ar (ldRow S (fun k => S.2.1 6 (16 * q + k)) (fun i => S.2.1 6 (16 * q + (8 + i)))) (sR (sI M 0 (nI 0)) 7 (bput (M.2.1 7) 0 0 (fun i => M.2.1 9 (16 * q + i)))) := ld_work hst hrow
  have e0 := hw.1.1
  refine ⟨_, _, sI (sR (sI M 0 (nI 0)) 7 (bput (M.2.1 7) 0 0 (fun i => M.2.1 9 (16 * q + i)))) 7 (nI 0), rfl, ?_, tl, st, ar, 0, 0, fl, tc, hT, hL, hw, ⟨⟨by omega, by omega, rfl, rfl, rfl⟩, fun j hj => absurd hj (by omega)⟩, ⟨⟨f1, f2⟩, f3⟩, hTe, hs0⟩
  · exact congrArg (fun z => some (z, sI (sR (sI M 0 (nI 0)) 7 (bput (M.2.1 7) 0 0 (fun i => M.2.1 9 (16 * q + i)))) 7 (nI 0))) e0.symm
