/-! ===== lay ===== -/
def layX (S : St) (t : Int32) (h b pl : Nat) (err : Int32) : St := sI (sA (sI (sI (sI S 9 t) 7 (nI h)) 8 (nI b)) 4 pl err) 10 (nI (pl + 1))
def layM (M : St) (t : Int32) (h b pl : Nat) (err : Int32) : St := sR M 7 (fun k => if k = 0 then nI (pl + 1) else if k = 1 then nI h else if k = 2 then nI b else if k = 3 then t else if k = 8 + pl then err else M.2.1 7 k)
theorem pin47 {S : St} {pl h b : Nat} (h10 : S.1 10 = nI pl) (hpl : pl < 8) (h7 : S.1 7 = nI h) (h8 : S.1 8 = nI b) (hh : 0 < h) (err : Int32) : j_X8_pinAndPick_47 err S = some (layX S (S.1 9) (h - 1) (b + 1) pl err) := by
  unfold j_X8_pinAndPick_47
  simp only [nm_eq]
  have e1 : (sI (sI S 7 (S.1 7 - 1)) 8 ((sI S 7 (S.1 7 - 1)).1 8 + 1)).1 10 = nI pl := h10
  rw [e1, if_neg (inN hpl (by omega)), clN (by omega)]
  congr 1
  refine ext3 (fun j => ?_) (fun j i => ?_) rfl
  · unfold layX
    simp only [sI1, sA1]
    by_cases j10 : j = 10
    · subst j10; simp; rw [h10]; exact nI_1 pl
    · simp only [if_neg j10]
      by_cases j8 : j = 8
      · subst j8; simp; rw [h8]; exact nI_1 b
      · simp only [if_neg j8]
        by_cases j7 : j = 7
        · subst j7; simp; rw [h7, show (1 : Int32) = nI 1 from rfl, nI_sub (by omega)]
        · simp only [if_neg j7]
          by_cases j9 : j = 9
          · subst j9; simp
          · simp only [if_neg j9]
  · rfl
theorem pin_eq {S : St} {pl h b : Nat} (h10 : S.1 10 = nI pl) (hpl : pl < 8) (h7 : S.1 7 = nI h) (h8 : S.1 8 = nI b) (hh : 0 < h + b) (hb : h + b < 1000) (err : Int32) : f_X8_pinAndPick err S = some (if h = 0 then layX S (S.1 9 + 1) (b - 1) 1 pl err else layX S (S.1 9) (h - 1) (b + 1) pl err) := by
  unfold f_X8_pinAndPick
  rw [h10, if_neg (nI_pos (by omega)), if_pos (show nI pl < 8 from (ltN (b := 8) (by omega) (by omega)).mpr hpl), h7]
  by_cases c : h = 0
  · subst c
    rw [if_pos (show nI 0 = 0 from rfl), if_pos rfl]
    simp only [nm_eq]
    rw [pin47 (pl := pl) (h := b) (b := 0) (S := sI (sI (sI S 7 (S.1 8)) 8 0) 9 ((sI (sI S 7 (S.1 8)) 8 0).1 9 + 1)) h10 hpl h8 rfl (by omega)]
    congr 1
    refine ext3 (fun j => ?_) (fun j i => ?_) rfl
    · unfold layX
      simp only [sI1, sA1]
      by_cases j10 : j = 10
      · simp only [if_pos j10]
      · simp only [if_neg j10]
        by_cases j8 : j = 8
        · simp only [if_pos j8]
        · simp only [if_neg j8]
          by_cases j7 : j = 7
          · simp only [if_pos j7]
          · simp only [if_neg j7]
            by_cases j9 : j = 9
            · subst j9; simp
            · simp only [if_neg j9]
    · rfl
  · rw [if_neg (show ¬ nI h = 0 from fun q => by rw [show (0 : Int32) = nI 0 from rfl, eqN (by omega) (by omega)] at q; exact c q), if_neg c, pin47 h10 hpl h7 h8 (by omega)]
theorem lay73 {S M : St} {pl h b : Nat} {ld : Int32} (hE : PgE S M) (h0 : M.2.1 7 0 = nI pl) (hpl : pl < 8) (h1 : M.2.1 7 1 = nI h) (h2 : M.2.1 7 2 = nI b) (hh : 0 < h) (h5 : M.2.1 7 5 = ld) (hl : ld = nI 0 ∨ ld = nI 1) : j_X10_lay_73 M = some (ers S pl ld + 20000, layM M (M.2.1 7 3) (h - 1) (b + 1) pl (ers S pl ld)) := by
  unfold j_X10_lay_73
  simp only [nm_eq]
  obtain ⟨M2, hM2⟩ : ∃ z, z = sA (sA M 7 1 (M.2.1 7 1 - 1)) 7 2 ((sA M 7 1 (M.2.1 7 1 - 1)).2.1 7 2 + 1) := ⟨_, rfl⟩
  rw [← hM2, h0]
  have e5 : M2.2.1 7 5 = ld := by rw [hM2]; exact h5
  have hE2 : PgE S M2 := by rw [hM2]; exact hE
  rw [e5, errorOf_eq hE2 hpl hl]
  simp only [bSome]
  rw [show (8 : Int32) + nI pl = nI (8 + pl) from nI_add 8 pl, if_neg (inN (by omega) (by omega)), if_neg (inN (by omega) (by omega)), clN (by omega)]
  have e0 : (sA M2 7 (8 + pl) (ers S pl ld)).2.1 7 0 = nI pl := by
    rw [sA2, if_pos rfl]; unfold upd; rw [if_neg (by omega), hM2]; exact h0
  rw [e0, show nI pl + 1 = nI (pl + 1) from nI_1 pl]
  have eA : (sA (sA M2 7 (8 + pl) (ers S pl ld)) 7 0 (nI (pl + 1))).2.1 7 (8 + pl) = ers S pl ld := by
    rw [sA2, if_pos rfl]
    unfold upd
    rw [if_neg (by omega), sA2, if_pos rfl]
    unfold upd
    rw [if_pos rfl]
  have eX : sA (sA M2 7 (8 + pl) (ers S pl ld)) 7 0 (nI (pl + 1)) = layM M (M.2.1 7 3) (h - 1) (b + 1) pl (ers S pl ld) := by
    refine ext3 (fun j => ?_) (fun j i => ?_) ?_
    · rw [hM2]; rfl
    · unfold layM
      rw [sA2, sR2]
      by_cases hj : j = 7
      · subst hj
        rw [if_pos rfl, if_pos rfl, sA2, if_pos rfl]
        unfold upd
        by_cases i0 : i = 0
        · rw [if_pos i0, if_pos i0]
        · rw [if_neg i0, if_neg i0]
          have hm : M2.2.1 7 i = if i = 2 then nI (b + 1) else if i = 1 then nI (h - 1) else M.2.1 7 i := by
            rw [hM2, sA2, if_pos rfl]
            unfold upd
            by_cases i2 : i = 2
            · rw [if_pos i2, if_pos i2]
              show M.2.1 7 2 + 1 = _
              rw [h2]; exact nI_1 b
            · rw [if_neg i2, if_neg i2, sA2, if_pos rfl]
              unfold upd
              by_cases i1 : i = 1
              · rw [if_pos i1, if_pos i1, h1, show (1 : Int32) = nI 1 from rfl, nI_sub (by omega)]
              · rw [if_neg i1, if_neg i1]
          rw [hm]
          by_cases i1 : i = 1
          · rw [if_pos i1, if_neg (by omega), if_neg (by omega), if_pos i1]
          · rw [if_neg i1, if_neg i1]
            by_cases i2 : i = 2
            · rw [if_pos i2, if_pos i2, if_neg (by omega)]
            · rw [if_neg i2, if_neg i2]
              by_cases i3 : i = 3
              · rw [if_pos i3, if_neg (by omega), i3]
              · rw [if_neg i3]
      · rw [if_neg hj, if_neg hj, sA2, if_neg hj, hM2, sA2, if_neg hj, sA2, if_neg hj]
    · rw [hM2]; rfl
  rw [eA, eX]
theorem lay_row {st ar : Nat} {S M : St} {t err ld : Int32} {h b pl lo h' b' : Nat} (hst : st ≤ 8) (hp : pl < st) (hW : IWo st ar S M) (h10 : S.1 10 = nI pl) (h11 : S.1 11 = nI lo) (hlo : lo < 2 ^ pl) (hs : h' + b' + pcb lo = ar) (hb : 1 ≤ b') (he : ∀ i, i < pl → S.2.1 4 i = M.2.1 7 (8 + i)) : IWo st ar (layX S t h' b' pl err) (layM M t h' b' pl err) := by
  obtain ⟨g1, pl0, hh0, b0, lo0, ⟨v1, v2, v3, v4, v5, v6, v7, v8, v9, v10, v11⟩, h3⟩ := hW
  refine ⟨⟨rfl, rfl, rfl, rfl, g1.2.2.2.2.1.trans ?_, g1.2.2.2.2.2.1.trans ?_, g1.2.2.2.2.2.2.1.trans ?_, g1.2.2.2.2.2.2.2.trans ?_⟩, pl + 1, h', b', lo, ⟨by omega, rfl, rfl, rfl, h11, ?_, hs, fun _ _ => hb, v9, v10, v11⟩, ?_⟩
  · show _ = (if 4 = 8 + pl then err else M.2.1 7 4); rw [if_neg (by omega)]
  · show _ = (if 5 = 8 + pl then err else M.2.1 7 5); rw [if_neg (by omega)]
  · show _ = (if 6 = 8 + pl then err else M.2.1 7 6); rw [if_neg (by omega)]
  · show _ = (if 7 = 8 + pl then err else M.2.1 7 7); rw [if_neg (by omega)]
  · rw [Nat.pow_succ]; omega
  · intro i hi
    have er : (layM M t h' b' pl err).2.1 7 (8 + i) = if 8 + i = 8 + pl then err else M.2.1 7 (8 + i) := by
      unfold layM
      rw [sR2, if_pos rfl, if_neg (by omega), if_neg (by omega), if_neg (by omega), if_neg (by omega)]
    rw [er]
    show upd (S.2.1 4) pl err i = _
    unfold upd
    by_cases c : i = pl
    · rw [if_pos c, if_pos (by omega)]
    · rw [if_neg c, if_neg (by omega)]
      exact he i (by omega)
def layFx (pl : Nat) (S1 : St) : Option (Int32 × St) :=
  (f_X1_errorAt (nI pl) (S1.1 12) S1).bind fun r63 =>
  (f_X8_pinAndPick r63 S1).bind fun r72 =>
  some ((r63 + (20000 : Int32)), r72)
def layFm (r32 : St) : Option (Int32 × St) :=
  if (r32.2.1 7 1) = 0 then
    nm (sA r32 7 1 (r32.2.1 7 2)) fun S55 =>
    nm (sA S55 7 2 (0 : Int32)) fun S62 =>
    nm (sA S62 7 3 ((S62.2.1 7 3) + (1 : Int32))) fun S72 =>
    j_X10_lay_73 S72
  else
    j_X10_lay_73 r32
theorem lay_act {st ar pl hh b lo : Nat} {S1 M1 : St} (hst : st ≤ 8) (har : ar ≤ 9) (hp : pl < st) (hs : hh + b + pcb lo = ar) (c2 : ¬ hh + b = 0) (v6 : lo < 2 ^ pl) (w10 : S1.1 10 = nI pl) (w7 : S1.1 7 = nI hh) (w8 : S1.1 8 = nI b) (w11 : S1.1 11 = nI lo) (hld : S1.1 12 = nI 0 ∨ S1.1 12 = nI 1) (hW1 : IWo st ar S1 M1) (hL1 : ILa st ar S1 M1) (he : ∀ i, i < pl → S1.2.1 4 i = M1.2.1 7 (8 + i)) :
    ∃ r S' M', layFx pl S1 = some (r, S') ∧ layFm M1 = some (r, M') ∧ (∀ k, k < 7 ∨ 15 ≤ k → S'.1 k = S1.1 k) ∧ (∀ k, k ≠ 4 → S'.2.1 k = S1.2.1 k) ∧ S'.2.2 = S1.2.2 ∧ (∀ k, 0 < k → M'.1 k = M1.1 k) ∧ (∀ k, k ≠ 7 → M'.2.1 k = M1.2.1 k) ∧ M'.2.2 = M1.2.2 ∧ IWo st ar S' M' := by
  have q0 : M1.2.1 7 0 = nI pl := by rw [← w10]; exact hW1.1.1.symm
  have q1 : M1.2.1 7 1 = nI hh := by rw [← w7]; exact hW1.1.2.1.symm
  have q2 : M1.2.1 7 2 = nI b := by rw [← w8]; exact hW1.1.2.2.1.symm
  have q3 : M1.2.1 7 3 = S1.1 9 := hW1.1.2.2.2.1.symm
  have q5 : M1.2.1 7 5 = S1.1 12 := hW1.1.2.2.2.2.2.1.symm
  have hE := PgE.of hL1 hW1
  have herr := errorAt_eq hL1.1.2.1 hst hL1.2.2.2.2.2 hp (S1.1 12)
  unfold layFx layFm
  rw [herr]
  simp only [bSome]
  rw [pin_eq w10 (by omega) w7 w8 (by omega) (by omega)]
  simp only [bSome]
  obtain ⟨E, hE0⟩ : ∃ z, z = ers S1 pl (S1.1 12) := ⟨_, rfl⟩
  obtain ⟨K, hK0⟩ : ∃ z : Int32, z = 20000 := ⟨_, rfl⟩
  by_cases c : hh = 0
  · subst c
    rw [if_pos rfl, q1, if_pos (show nI 0 = 0 from rfl)]
    simp only [nm_eq]
    obtain ⟨M2, hM2⟩ : ∃ z, z = sA (sA (sA M1 7 1 (M1.2.1 7 2)) 7 2 0) 7 3 ((sA (sA M1 7 1 (M1.2.1 7 2)) 7 2 0).2.1 7 3 + 1) := ⟨_, rfl⟩
    rw [← hM2]
    have hE2 : PgE S1 M2 := by rw [hM2]; exact hE
    rw [lay73 (h := b) (b := 0) hE2 (by rw [hM2]; exact q0) (by omega) (by rw [hM2]; exact q2) (by rw [hM2]; rfl) (by omega) (by rw [hM2]; exact q5) hld]
    have e3 : M2.2.1 7 3 = S1.1 9 + 1 := by rw [hM2, ← q3]; rfl
    have eM : layM M2 (M2.2.1 7 3) (b - 1) (0 + 1) pl (ers S1 pl (S1.1 12)) = layM M1 (S1.1 9 + 1) (b - 1) 1 pl (ers S1 pl (S1.1 12)) := by
      unfold layM
      rw [e3]
      refine ext3 (fun j => by rw [hM2]; rfl) (fun j i => ?_) (by rw [hM2]; rfl)
      rw [sR2, sR2]
      by_cases hj : j = 7
      · rw [if_pos hj, if_pos hj]
        by_cases i0 : i = 0
        · rw [if_pos i0, if_pos i0]
        · rw [if_neg i0, if_neg i0]
          by_cases i1 : i = 1
          · rw [if_pos i1, if_pos i1]
          · rw [if_neg i1, if_neg i1]
            by_cases i2 : i = 2
            · rw [if_pos i2, if_pos i2]
            · rw [if_neg i2, if_neg i2]
              by_cases i3 : i = 3
              · rw [if_pos i3, if_pos i3]
              · rw [if_neg i3, if_neg i3, hM2, sA2, if_pos rfl]
                unfold upd
                rw [if_neg i3, sA2, if_pos rfl]
                unfold upd
                rw [if_neg i2, sA2, if_pos rfl]
                unfold upd
                rw [if_neg i1]
      · rw [if_neg hj, if_neg hj, hM2, sA2, if_neg hj, sA2, if_neg hj, sA2, if_neg hj]
    rw [eM, ← hE0, ← hK0]
    refine ⟨E + K, layX S1 (S1.1 9 + 1) (b - 1) 1 pl E, layM M1 (S1.1 9 + 1) (b - 1) 1 pl E, rfl, rfl, ?_, ?_, rfl, ?_, ?_, rfl, lay_row (ld := S1.1 12) (h := 0) (b := b) hst (by omega) hW1 w10 w11 v6 (by omega) (by omega) he⟩
    · intro k hk
      unfold layX
      simp only [sI1, sA1]
      simp (disch := omega) only [if_neg]
    · intro k hk
      unfold layX
      rw [sI2, sA2, if_neg hk]; rfl
    · intro k _; rfl
    · intro k hk; unfold layM; rw [sR2, if_neg hk]
  · rw [if_neg c, q1, if_neg (show ¬ nI hh = 0 from fun q => by rw [show (0 : Int32) = nI 0 from rfl, eqN (by omega) (by omega)] at q; exact c q)]
    rw [lay73 (h := hh) (b := b) hE q0 (by omega) q1 q2 (by omega) q5 hld, q3, ← hE0, ← hK0]
    refine ⟨E + K, layX S1 (S1.1 9) (hh - 1) (b + 1) pl E, layM M1 (S1.1 9) (hh - 1) (b + 1) pl E, rfl, rfl, ?_, ?_, rfl, ?_, ?_, rfl, lay_row (ld := S1.1 12) (h := hh) (b := b) hst (by omega) hW1 w10 w11 v6 (by omega) (by omega) he⟩
    · intro k hk
      unfold layX
      simp only [sI1, sA1]
      simp (disch := omega) only [if_neg]
    · intro k hk
      unfold layX
      rw [sI2, sA2, if_neg hk]; rfl
    · intro k _; rfl
    · intro k hk; unfold layM; rw [sR2, if_neg hk]
set_option maxRecDepth 100000 in
theorem op_lay {S M : St} (h : Inv S M) : ∃ r S' M', f_X9_lay S = some (r, S') ∧ f_X10_lay M = some (r, M') ∧ Inv S' M' := by
  have h0 := h
  obtain ⟨tl, st, ar, ct, fi, fl, tc, h⟩ := h
  have hL := h.2.1
  obtain ⟨g1, pl, hh, b, lo, ⟨v1, v2, v3, v4, v5, v6, v7, v8, v9, v10, v11⟩, h3⟩ := id h.2.2.1
  have v2 : S.1 10 = nI pl := v2
  have v3 : S.1 7 = nI hh := v3
  have v4 : S.1 8 = nI b := v4
  have v5 : S.1 11 = nI lo := v5
  have hst : st ≤ 8 := hL.1.1
  have har : ar ≤ 9 := hL.2.1.2.1
  have p0 : (sI M 0 0).2.1 7 0 = nI pl := by rw [sI2, ← v2]; exact g1.1.symm
  have p1 : (sI M 0 0).2.1 7 1 = nI hh := by rw [sI2, ← v3]; exact g1.2.1.symm
  have p2 : (sI M 0 0).2.1 7 2 = nI b := by rw [sI2, ← v4]; exact g1.2.2.1.symm
  unfold f_X9_lay f_X10_lay
  rw [nm_eq, v2, v3, v4, p1, p2, nI_add]
  unfold f_X10_ahead
  rw [p0, show (sI M 0 0).1 5 = nI st from hL.1.2.2, nI_sub v1]
  simp only [bSome]
  by_cases c1 : pl = st
  · subst c1
    rw [has_no hL.1.2.1 (Or.inr (by rw [fa_le]; omega)), Nat.sub_self]
    simp only [bSome]
    rw [if_pos trivial, if_pos (show nI 0 = 0 from rfl)]
    exact ⟨_, _, _, rfl, rfl, h0.t 0⟩
  rw [has_yes hL.1.2.1 hst (show pl < st by omega)]
  simp only [bSome]
  rw [if_neg (show ¬ ((1 : Int32) = 0) by decide), if_neg (show ¬ nI (st - pl) = 0 from fun q => by rw [show (0 : Int32) = nI 0 from rfl, eqN (by omega) (by omega)] at q; omega)]
  by_cases c2 : hh + b = 0
  · rw [c2, if_neg (by decide), if_pos (show nI 0 = 0 from rfl)]
    exact ⟨_, _, _, rfl, rfl, h0.t 0⟩
  rw [if_pos (show (0 : Int32) < nI (hh + b) by rw [show (0 : Int32) = nI 0 from rfl, ltN (by omega) (by omega)]; omega), if_neg (show ¬ nI (hh + b) = 0 from fun q => by rw [show (0 : Int32) = nI 0 from rfl, eqN (by omega) (by omega)] at q; omega)]
  exact act_of h (fx := layFx pl) (fm := layFm) (fun S1 x1 x2 x3 M1 m1 m2 hW1 hL1 => lay_act hst har (by omega) v7 c2 v6 (by rw [x1 10 (by omega) (by omega)]; exact v2) (by rw [x1 7 (by omega) (by omega)]; exact v3) (by rw [x1 8 (by omega) (by omega)]; exact v4) (by rw [x1 11 (by omega) (by omega)]; exact v5) (by rw [x1 12 (by omega) (by omega)]; exact v9) hW1 hL1 (fun i hi => by rw [x2 4 (by omega), m2 7 (by omega)]; exact h3 i hi))
