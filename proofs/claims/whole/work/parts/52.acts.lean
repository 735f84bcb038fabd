/-! ===== an act is noted ===== -/
theorem RowR.cong {st ar : Nat} {g er m g' er' m' : Nat → Int32} (h : RowR st ar g er m) (hst : st ≤ 8) (hg : ∀ k, k < 8 → g' k = g k) (he : ∀ i, i < 8 → er' i = er i) (hm : ∀ k, k < 16 → m' k = m k) : RowR st ar g' er' m' := by
  obtain ⟨h1, pl, hh, b, lo, hv, h3⟩ := h
  refine ⟨?_, pl, hh, b, lo, ?_, fun i hi => ?_⟩
  · rw [hg 3 (by omega), hg 0 (by omega), hg 1 (by omega), hg 2 (by omega), hg 4 (by omega), hg 5 (by omega), hg 6 (by omega), hg 7 (by omega), hm 0 (by omega), hm 1 (by omega), hm 2 (by omega), hm 3 (by omega), hm 4 (by omega), hm 5 (by omega), hm 6 (by omega), hm 7 (by omega)]
    exact h1
  · unfold RowV at *
    rw [hg 3 (by omega), hg 0 (by omega), hg 1 (by omega), hg 4 (by omega), hg 5 (by omega), hg 6 (by omega), hg 7 (by omega)]
    exact hv
  · have := hv.1
    rw [he i (by omega), hm (8 + i) (by omega)]
    exact h3 i hi
theorem startOf_eq {S : St} {fi k : Nat} (h : S.1 15 = nI fi) (hf : fi < 14) (hk : k ≤ 14) : f_X0_startOf (nI k) S = some (nI (16 * ((fi + k) % 14))) := by
  unfold f_X0_startOf
  rw [h]
  simp (disch := omega) only [fa_lit, nI_add, nI_div, nI_mul, nI_sub]
  congr 2
  omega
theorem rem_note {tl st ar ct fi fl tc : Nat} {S M : St} (h : Inx tl st ar ct fi fl tc S M) : ∃ S1 M1 ct1 fi1, f_X0_remember_a7 S = some S1 ∧ f_X10_note (sI M 0 0) = some M1 ∧ Inx tl st ar ct1 fi1 fl tc S1 M1 ∧ (∀ k, k ≠ 15 → k ≠ 16 → S1.1 k = S.1 k) ∧ (∀ k, k ≠ 5 → S1.2.1 k = S.2.1 k) ∧ S1.2.2 = S.2.2 ∧ (∀ k, k ≠ 0 → k ≠ 7 → M1.1 k = M.1 k) ∧ (∀ k, k ≠ 8 → M1.2.1 k = M.2.1 k) ∧ M1.2.2 = M.2.2 := by
  obtain ⟨hT, hL, hW, hA, hSl, hTe, hs0⟩ := h
  obtain ⟨⟨a1, a2, a3, a4, a5⟩, hR⟩ := id hA
  have hst : st ≤ 8 := hL.1.1
  have hst1 := startOf_eq (k := ct) a5 a2 a1
  have hq : (fi + ct) % 14 < 14 := by omega
  have hrow : RowR st ar (fun k => S.1 (7 + k)) (S.2.1 4) (M.2.1 7) := hW
  by_cases hc : ct = 14
  · subst hc
    have e0 : (fi + 14) % 14 = fi := by omega
    rw [e0] at hst1
    refine ⟨sI (sR S 5 (rowput (S.2.1 5) fi (fun k => S.1 (7 + k)) (S.2.1 4))) 15 (nI ((fi + 1) % 14)), sI (sI (sR (sI M 0 0) 8 (bput (fun i => if 0 ≤ i ∧ i < 208 then M.2.1 8 (i + 16) else M.2.1 8 i) (16 * 13) 0 (M.2.1 7))) 7 (nI 13)) 7 (nI 14), 14, (fi + 1) % 14, ?_, ?_, ⟨hT, hL, hW, ⟨⟨by omega, by omega, a3, rfl, rfl⟩, ?_⟩, hSl, hTe, hs0⟩, ?_, ?_, rfl, ?_, ?_, rfl⟩
    · unfold f_X0_remember_a7
      rw [a3, hst1]
      simp only [bSome]
      rw [saveTo_a10 S a2]
      obtain ⟨S0, hS0⟩ : ∃ z, z = sR S 5 (rowput (S.2.1 5) fi (fun k => S.1 (7 + k)) (S.2.1 4)) := ⟨_, rfl⟩
      rw [← hS0]
      simp only [bSome]
      rw [show S0.1 16 = nI 14 by rw [hS0]; exact a3, show S0.1 15 = nI fi by rw [hS0]; exact a5, if_pos (by decide), nm_eq]
      simp (disch := omega) only [fa_lit, nI_add, nI_div, nI_mul, nI_sub]
      rw [show fi + 1 - (fi + 1) / 14 * 14 = (fi + 1) % 14 by omega]
    · unfold f_X10_note
      rw [show (sI M 0 0).1 7 = nI 14 from a4, if_pos (by decide), show (0 : Int32) = nI 0 from rfl, note_11 208 0 fuel _ (by omega) (by decide)]
      simp only [bSome, nm_eq]
      unfold j_X10_note_49
      have e1 : (sR (sI M 0 (nI 0)) 8 (fun i => if 0 ≤ i ∧ i < 208 then (sI M 0 (nI 0)).2.1 8 (i + 16) else (sI M 0 (nI 0)).2.1 8 i)).1 7 = nI 14 := a4
      rw [e1, show nI 14 - 1 = nI 13 by decide, show (0 : Int32) = nI 0 from rfl, note_51 (ct := 13) (by omega) 16 0 fuel _ (by omega) (by decide) (by rw [sI1, if_pos rfl])]
      simp only [bSome, nm_eq]
      congr 1
      refine ext3 (fun j => ?_) (fun j i => ?_) rfl
      · simp only [sI1, sR1]
        by_cases hj : j = 7
        · subst hj; simp; decide
        · simp [hj]
      · simp only [sI2, sR2]
        by_cases hj : j = 8
        · subst hj; simp
        · simp [hj]
    · intro j hj
      show RowR st ar (fun k => rowput (S.2.1 5) fi (fun k => S.1 (7 + k)) (S.2.1 4) (16 * (((fi + 1) % 14 + j) % 14) + k)) (fun i => rowput (S.2.1 5) fi (fun k => S.1 (7 + k)) (S.2.1 4) (16 * (((fi + 1) % 14 + j) % 14) + (8 + i))) (fun k => bput (fun i => if 0 ≤ i ∧ i < 208 then M.2.1 8 (i + 16) else M.2.1 8 i) (16 * 13) 0 (M.2.1 7) (16 * j + k))
      by_cases h13 : j = 13
      · subst h13
        have e2 : ((fi + 1) % 14 + 13) % 14 = fi := by omega
        rw [e2]
        refine hrow.cong hst (fun k hk => ?_) (fun i hi => ?_) (fun k hk => ?_)
        · exact rp_g hk
        · exact rp_e hi
        · unfold bput
          rw [if_pos (by omega)]
          exact congrArg (M.2.1 7) (by omega)
      · have e2 : ((fi + 1) % 14 + j) % 14 = (fi + (j + 1)) % 14 := by omega
        have hne : (fi + (j + 1)) % 14 ≠ fi := by omega
        rw [e2]
        refine (hR (j + 1) (by omega)).cong hst (fun k hk => ?_) (fun i hi => ?_) (fun k hk => ?_)
        · exact rp_o (by omega)
        · exact rp_o (by omega)
        · unfold bput
          rw [if_neg (by omega)]
          show (if 0 ≤ 16 * j + k ∧ 16 * j + k < 208 then M.2.1 8 (16 * j + k + 16) else M.2.1 8 (16 * j + k)) = _
          rw [if_pos (by omega)]
          exact congrArg (M.2.1 8) (by omega)
    · intro k h15 h16
      rw [sI1, if_neg h15, sR1]
    · intro k h5
      rw [sI2, sR2, if_neg h5]
    · intro k h0 h7
      simp only [sI1, sR1, if_neg h7, if_neg h0]
    · intro k h8
      simp only [sI2, sR2, if_neg h8]
  · refine ⟨sI (sR S 5 (rowput (S.2.1 5) ((fi + ct) % 14) (fun k => S.1 (7 + k)) (S.2.1 4))) 16 (nI (ct + 1)), sI (sR (sI M 0 0) 8 (bput (M.2.1 8) (16 * ct) 0 (M.2.1 7))) 7 (nI (ct + 1)), ct + 1, fi, ?_, ?_, ⟨hT, hL, hW, ⟨⟨by omega, a2, rfl, rfl, a5⟩, ?_⟩, hSl, hTe, hs0⟩, ?_, ?_, rfl, ?_, ?_, rfl⟩
    · unfold f_X0_remember_a7
      rw [a3, hst1]
      simp only [bSome]
      rw [saveTo_a10 S hq]
      obtain ⟨S0, hS0⟩ : ∃ z, z = sR S 5 (rowput (S.2.1 5) ((fi + ct) % 14) (fun k => S.1 (7 + k)) (S.2.1 4)) := ⟨_, rfl⟩
      rw [← hS0]
      simp only [bSome]
      rw [show S0.1 16 = nI ct by rw [hS0]; exact a3, if_neg (by rw [show (14 : Int32) = nI 14 from rfl, eqN (by omega) (by omega)]; exact hc), nm_eq, show nI ct + 1 = nI (ct + 1) from nI_1 ct]
    · unfold f_X10_note
      rw [show (sI M 0 0).1 7 = nI ct from a4, if_neg (by rw [show (14 : Int32) = nI 14 from rfl, eqN (by omega) (by omega)]; exact hc)]
      unfold j_X10_note_49
      rw [show (0 : Int32) = nI 0 from rfl, note_51 (ct := ct) (by omega) 16 0 fuel _ (by omega) (by decide) (by exact a4)]
      simp only [bSome, nm_eq]
      rw [show (sR (sI M 0 (nI 0)) 8 (bput ((sI M 0 (nI 0)).2.1 8) (16 * ct) 0 ((sI M 0 (nI 0)).2.1 7))).1 7 = nI ct from a4, show nI ct + 1 = nI (ct + 1) from nI_1 ct]
      rfl
    · intro j hj
      show RowR st ar (fun k => rowput (S.2.1 5) ((fi + ct) % 14) (fun k => S.1 (7 + k)) (S.2.1 4) (16 * ((fi + j) % 14) + k)) (fun i => rowput (S.2.1 5) ((fi + ct) % 14) (fun k => S.1 (7 + k)) (S.2.1 4) (16 * ((fi + j) % 14) + (8 + i))) (fun k => bput (M.2.1 8) (16 * ct) 0 (M.2.1 7) (16 * j + k))
      by_cases hjc : j = ct
      · subst hjc
        refine hrow.cong hst (fun k hk => ?_) (fun i hi => ?_) (fun k hk => ?_)
        · exact rp_g hk
        · exact rp_e hi
        · unfold bput
          rw [if_pos (by omega)]
          exact congrArg (M.2.1 7) (by omega)
      · have hne : (fi + j) % 14 ≠ (fi + ct) % 14 := by omega
        refine (hR j (by omega)).cong hst (fun k hk => ?_) (fun i hi => ?_) (fun k hk => ?_)
        · exact rp_o (by omega)
        · exact rp_o (by omega)
        · unfold bput
          rw [if_neg (by omega)]
    · intro k h15 h16
      rw [sI1, if_neg h16, sR1]
    · intro k h5
      rw [sI2, sR2, if_neg h5]
    · intro k h0 h7
      simp only [sI1, sR1, if_neg h7, if_neg h0]
    · intro k h8
      simp only [sI2, sR2, if_neg h8]
/-! ===== acts on the work ===== -/
theorem Inx.inv {tl st ar ct fi fl tc : Nat} {S M : St} (h : Inx tl st ar ct fi fl tc S M) : Inv S M := ⟨tl, st, ar, ct, fi, fl, tc, h⟩
/-- an act: noted on both sides, then the work changes alike -/
theorem act_of {tl st ar ct fi fl tc : Nat} {S M : St} (h : Inx tl st ar ct fi fl tc S M) {fx : St → Option (Int32 × St)} {fm : St → Option (Int32 × St)}
    (hx : ∀ S1 : St, (∀ k, k ≠ 15 → k ≠ 16 → S1.1 k = S.1 k) → (∀ k, k ≠ 5 → S1.2.1 k = S.2.1 k) → S1.2.2 = S.2.2 → ∀ M1 : St, (∀ k, k ≠ 0 → k ≠ 7 → M1.1 k = M.1 k) → (∀ k, k ≠ 8 → M1.2.1 k = M.2.1 k) → IWo st ar S1 M1 → ILa st ar S1 M1 →
      ∃ r S' M', fx S1 = some (r, S') ∧ fm M1 = some (r, M') ∧ (∀ k, k < 7 ∨ 15 ≤ k → S'.1 k = S1.1 k) ∧ (∀ k, k ≠ 4 → S'.2.1 k = S1.2.1 k) ∧ S'.2.2 = S1.2.2 ∧ (∀ k, 0 < k → M'.1 k = M1.1 k) ∧ (∀ k, k ≠ 7 → M'.2.1 k = M1.2.1 k) ∧ M'.2.2 = M1.2.2 ∧ IWo st ar S' M') :
    ∃ r S' M', (f_X0_remember_a7 S).bind fx = some (r, S') ∧ (f_X10_note (sI M 0 0)).bind fm = some (r, M') ∧ Inv S' M' := by
  obtain ⟨S1, M1, ct1, fi1, e1, e2, hI, h1, h2, h3, h4, h5, h6⟩ := rem_note h
  obtain ⟨r, S', M', g1, g2, g3, g4, g5, g6, g7, g8, g9⟩ := hx S1 h1 h2 h3 M1 h4 h5 hI.2.2.1 hI.2.1
  refine ⟨r, S', M', ?_, ?_, (hI.work g3 g4 g5 g6 g7 g8 g9).inv⟩
  · rw [e1]; exact g1
  · rw [e2]; exact g2
/-- the eight numbers of a row alike, by what they were -/
theorem op_doubled {S M : St} (h : Inv S M) : ∃ r S' M', f_X9_doubled S = some (r, S') ∧ f_X10_doubled M = some (r, M') ∧ Inv S' M' := by
  obtain ⟨tl, st, ar, ct, fi, fl, tc, h⟩ := h
  refine act_of h ?_
  intro S1 x1 x2 x3 M1 m1 m2 hW hL
  have e : S1.1 9 = M1.2.1 7 3 := hW.1.2.2.2.1
  refine ⟨S1.1 9 + 1, sI S1 9 (S1.1 9 + 1), sA M1 7 3 (S1.1 9 + 1), ?_, ?_, ?_, ?_, rfl, ?_, ?_, rfl, ?_⟩
  · simp only [nm_eq, sI1]; rfl
  · simp only [nm_eq, sA2, ← e]; rfl
  · intro k hk; rw [sI1, if_neg (by omega)]
  · intro k _; rfl
  · intro k _; rfl
  · intro k hk; rw [sA2, if_neg hk]
  · obtain ⟨h1, pl, hh, b, lo, hv, h3⟩ := hW
    exact ⟨⟨h1.1, h1.2.1, h1.2.2.1, rfl, h1.2.2.2.2⟩, pl, hh, b, lo, hv, fun i hi => by rw [sA2, if_pos rfl]; unfold upd; rw [if_neg (by omega)]; exact h3 i hi⟩
