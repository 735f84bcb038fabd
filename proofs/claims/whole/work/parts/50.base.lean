/-! ===== numbers: rows of kit/laws/NUMBERS that are taken here (pasted), and a few of my own ===== -/
theorem fa_lt (a b : Int32) : a < b ↔ a.toInt < b.toInt := Int32.lt_iff_toInt_lt
theorem fa_le (a b : Int32) : a ≤ b ↔ a.toInt ≤ b.toInt := Int32.le_iff_toInt_le
theorem fa_eq (a b : Int32) : a = b ↔ a.toInt = b.toInt := Int32.toInt_inj.symm
theorem fa_lt64 (a b : Int64) : a < b ↔ a.toInt < b.toInt := Int64.lt_iff_toInt_lt
theorem fa_le64 (a b : Int64) : a ≤ b ↔ a.toInt ≤ b.toInt := Int64.le_iff_toInt_le
theorem fa_wide_lt (a b : Int32) : a.toInt64 < b.toInt64 ↔ a < b := by rw [fa_lt64, fa_lt, Int32.toInt_toInt64, Int32.toInt_toInt64]
theorem fa_wide_le (a b : Int32) : a.toInt64 ≤ b.toInt64 ↔ a ≤ b := by rw [fa_le64, fa_le, Int32.toInt_toInt64, Int32.toInt_toInt64]
theorem fa_lit (n : Nat) : (OfNat.ofNat n : Int32) = nI n := rfl
theorem fa_and (a b : Nat) : nI a &&& nI b = nI (a &&& b) := by
  apply Int32.toBitVec_inj.1
  show BitVec.ofNat 32 a &&& BitVec.ofNat 32 b = BitVec.ofNat 32 (a &&& b)
  apply BitVec.eq_of_getLsbD_eq
  intro i hi
  simp [hi]
theorem fa_or (a b : Nat) : nI a ||| nI b = nI (a ||| b) := by
  apply Int32.toBitVec_inj.1
  show BitVec.ofNat 32 a ||| BitVec.ofNat 32 b = BitVec.ofNat 32 (a ||| b)
  apply BitVec.eq_of_getLsbD_eq
  intro i hi
  simp [hi]
theorem leN {a b : Nat} (ha : a < 2147483648) (hb : b < 2147483648) : nI a ≤ nI b ↔ a ≤ b := nI_leI ha hb
theorem ltN {a b : Nat} (ha : a < 2147483648) (hb : b < 2147483648) : nI a < nI b ↔ a < b := nI_ltI ha hb
theorem eqN {a b : Nat} (ha : a < 2147483648) (hb : b < 2147483648) : nI a = nI b ↔ a = b := nI_eq ha hb
theorem clN {n : Nat} (h : n < 2147483648) : (nI n).toNatClampNeg = n := nI_clamp h
theorem lzN {n : Nat} (h : n < 2147483648) : nI n < 0 ↔ False := ⟨fun q => nI_pos h q, False.elim⟩
theorem z0 : (0 : Int32) = nI 0 := rfl
theorem inN {i N : Nat} (h : i < N) (hN : N < 2147483648) : ¬ (nI i < 0 ∨ N ≤ (nI i).toNatClampNeg) := nI_in h hN
theorem smI {x : Int32} {n : Nat} (h0 : 0 ≤ x.toInt) (h : x.toInt < n) : ∃ k : Nat, k < n ∧ x = nI k := by
  refine ⟨x.toInt.toNat, by omega, ?_⟩
  rw [fa_eq, nI_toInt (by have := Int32.toInt_lt x; omega)]
  omega
/-! ===== states ===== -/
theorem sI1 (S : St) (k : Nat) (v : Int32) (j : Nat) : (sI S k v).1 j = if j = k then v else S.1 j := rfl
theorem sI2 (S : St) (k : Nat) (v : Int32) : (sI S k v).2 = S.2 := rfl
theorem sR1 (S : St) (k : Nat) (f : Nat → Int32) : (sR S k f).1 = S.1 := rfl
theorem sR2 (S : St) (k : Nat) (f : Nat → Int32) (j : Nat) : (sR S k f).2.1 j = if j = k then f else S.2.1 j := rfl
theorem sR3 (S : St) (k : Nat) (f : Nat → Int32) : (sR S k f).2.2 = S.2.2 := rfl
theorem sA1 (S : St) (k i : Nat) (v : Int32) : (sA S k i v).1 = S.1 := rfl
theorem sA2 (S : St) (k i : Nat) (v : Int32) (j : Nat) : (sA S k i v).2.1 j = if j = k then upd (S.2.1 k) i v else S.2.1 j := rfl
theorem sA3 (S : St) (k i : Nat) (v : Int32) : (sA S k i v).2.2 = S.2.2 := rfl
theorem sL1 (S : St) (v : Int64) : (sL S v).1 = S.1 := rfl
theorem sL2 (S : St) (v : Int64) : (sL S v).2.1 = S.2.1 := rfl
theorem sL3 (S : St) (v : Int64) : (sL S v).2.2 = v := rfl
theorem bSome {α β : Type} (x : α) (f : α → Option β) : (some x).bind f = f x := Eq.trans (Eq.refl ((some x).bind f)) (Eq.refl (f x))
theorem nm_eq {α β : Type} (e : α) (k : α → Option β) : nm e k = k e := Eq.trans (Eq.refl (nm e k)) (Eq.refl (k e))
theorem ext3 {S T : St} (h1 : ∀ j, S.1 j = T.1 j) (h2 : ∀ j i, S.2.1 j i = T.2.1 j i) (h3 : S.2.2 = T.2.2) : S = T := by
  obtain ⟨a, b, c⟩ := S
  obtain ⟨a', b', c'⟩ := T
  have e1 : a = a' := funext h1
  have e2 : b = b' := funext fun j => funext fun i => h2 j i
  have e3 : c = c' := h3
  subst e1; subst e2; subst e3
  rfl
theorem sR_sR (S : St) (k : Nat) (f g : Nat → Int32) : sR (sR S k f) k g = sR S k g := by
  refine ext3 (fun _ => rfl) (fun j i => ?_) rfl
  rw [sR2, sR2, sR2]
  by_cases h : j = k <;> simp [h]
theorem sA_sR (S : St) (k i : Nat) (v : Int32) : sA S k i v = sR S k (upd (S.2.1 k) i v) := rfl
theorem sR_at (S : St) (k : Nat) (f : Nat → Int32) : (sR S k f).2.1 k = f := by rw [sR2, if_pos rfl]
/-! ===== 'in' of the reference ===== -/
theorem in_w (x y z : Int32) : f_X10_in x.toInt64 y.toInt64 z.toInt64 = some (if y ≤ x ∧ x ≤ z then 1 else 0) := by
  unfold f_X10_in
  simp only [lg_cmp_lt, lg_cmp_gt, fa_wide_lt]
  by_cases h1 : x < y
  · rw [if_pos h1, if_neg]
    rintro ⟨h, -⟩
    rw [fa_lt] at h1; rw [fa_le] at h; omega
  · rw [if_neg h1]
    by_cases h2 : z < x
    · rw [if_pos h2, if_neg]
      rintro ⟨-, h⟩
      rw [fa_lt] at h2; rw [fa_le] at h; omega
    · rw [if_neg h2, if_pos]
      rw [fa_lt] at h1 h2; rw [fa_le, fa_le]; omega
/-! ===== the two states beside each other ===== -/
def pcb (lo : Nat) : Nat := lo % 2 + lo / 2 % 2 + lo / 4 % 2 + lo / 8 % 2 + lo / 16 % 2 + lo / 32 % 2 + lo / 64 % 2 + lo / 128 % 2
/-- a row of the work that can be: pl stages laid of st, ar arrows, h in hand, b at the back, lo lost -/
def RowV (st ar : Nat) (g : Nat → Int32) (pl h b lo : Nat) : Prop :=
  pl ≤ st ∧ g 3 = nI pl ∧ g 0 = nI h ∧ g 1 = nI b ∧ g 4 = nI lo ∧ lo < 2 ^ pl ∧ h + b + pcb lo = ar ∧ (0 < pl → lo / 2 ^ (pl - 1) % 2 = 0 → 1 ≤ b) ∧ (g 5 = nI 0 ∨ g 5 = nI 1) ∧ (-9 ≤ (g 6).toInt ∧ (g 6).toInt ≤ 9) ∧ ∃ kn : Nat, g 7 = nI kn ∧ kn ≤ 9
/-- the class's row g with its errors er, beside the reference's page m -/
def RowR (st ar : Nat) (g er m : Nat → Int32) : Prop :=
  (g 3 = m 0 ∧ g 0 = m 1 ∧ g 1 = m 2 ∧ g 2 = m 3 ∧ g 4 = m 4 ∧ g 5 = m 5 ∧ g 6 = m 6 ∧ g 7 = m 7) ∧ ∃ pl h b lo, RowV st ar g pl h b lo ∧ ∀ i, i < pl → er i = m (8 + i)
/-- what the ground of a kind makes -/
def gnd (k v : Int32) : Int32 := if k = 1 then (-v) * v else if k = 2 then -v else if k = 3 then (-2) * v else 0
/-- the class's row of grounds is what its kinds and values make -/
def Gr (st : Nat) (S : St) : Prop := ∀ i, i < st → S.2.1 10 i = gnd (S.2.1 1 i) (S.2.1 2 i)
def ITx (tl : Nat) (S M : St) : Prop := tl ≤ 40 ∧ S.1 0 = nI tl ∧ M.1 1 = nI tl ∧ S.2.1 0 = M.2.1 0
def ILa (st ar : Nat) (S M : St) : Prop :=
  (st ≤ 8 ∧ S.1 6 = nI st ∧ M.1 5 = nI st) ∧ (2 ≤ ar ∧ ar ≤ 9 ∧ S.1 1 = nI ar ∧ M.1 3 = nI ar) ∧ (S.1 2 = M.1 4 ∧ S.1 4 = M.2.1 1 0 ∧ S.1 5 = M.2.1 1 1) ∧ (S.2.1 1 = M.2.1 2 ∧ S.2.1 2 = M.2.1 3 ∧ S.2.1 3 = M.2.1 4) ∧ (∀ i, ∃ g : Nat, g ≤ 9 ∧ S.2.1 3 i = nI g) ∧ Gr st S
def IWo (st ar : Nat) (S M : St) : Prop := RowR st ar (fun k => S.1 (7 + k)) (S.2.1 4) (M.2.1 7)
def IAc (st ar ct fi : Nat) (S M : St) : Prop :=
  (ct ≤ 14 ∧ fi < 14 ∧ S.1 16 = nI ct ∧ M.1 7 = nI ct ∧ S.1 15 = nI fi) ∧ ∀ j, j < ct → RowR st ar (fun k => S.2.1 5 (16 * ((fi + j) % 14) + k)) (fun i => S.2.1 5 (16 * ((fi + j) % 14) + (8 + i))) (fun k => M.2.1 8 (16 * j + k))
def ISl (st ar fl : Nat) (S M : St) : Prop :=
  (fl < 4 ∧ S.1 17 = nI fl) ∧ ∀ k, k < 2 → M.2.1 10 k = nI (fl / 2 ^ k % 2) ∧ (fl / 2 ^ k % 2 = 1 → RowR st ar (fun i => S.2.1 6 (16 * k + i)) (fun i => S.2.1 6 (16 * k + (8 + i))) (fun i => M.2.1 9 (16 * k + i)))
def ITe (tc : Nat) (S M : St) : Prop := tc ≤ 6 ∧ S.1 18 = nI tc ∧ M.1 8 = nI tc ∧ S.2.1 7 = M.2.1 11 ∧ S.2.1 8 = M.2.1 12
def Inx (tl st ar ct fi fl tc : Nat) (S M : St) : Prop := ITx tl S M ∧ ILa st ar S M ∧ IWo st ar S M ∧ IAc st ar ct fi S M ∧ ISl st ar fl S M ∧ ITe tc S M ∧ S.2.2 = M.2.2
def Inv (S M : St) : Prop := ∃ tl st ar ct fi fl tc : Nat, Inx tl st ar ct fi fl tc S M
/-- what the relation reads of the reference's state -/
theorem Inv.m {S M M' : St} (h : Inv S M) (h1 : M'.1 1 = M.1 1) (h3 : M'.1 3 = M.1 3) (h4 : M'.1 4 = M.1 4) (h5 : M'.1 5 = M.1 5) (h7 : M'.1 7 = M.1 7) (h8 : M'.1 8 = M.1 8)
    (ha : ∀ k, k < 5 ∨ (7 ≤ k ∧ k < 13) → M'.2.1 k = M.2.1 k) (hs : M'.2.2 = M.2.2) : Inv S M' := by
  obtain ⟨tl, st, ar, ct, fi, fl, tc, hT, hL, hW, hA, hSl, hTe, hs0⟩ := h
  refine ⟨tl, st, ar, ct, fi, fl, tc, ?_, ?_, ?_, ?_, ?_, ?_, by rw [hs]; exact hs0⟩
  · unfold ITx at *; rw [h1, ha 0 (by omega)]; exact hT
  · unfold ILa at *; rw [h5, h3, h4, ha 1 (by omega), ha 2 (by omega), ha 3 (by omega), ha 4 (by omega)]; exact hL
  · unfold IWo at *; rw [ha 7 (by omega)]; exact hW
  · unfold IAc at *; rw [h7, ha 8 (by omega)]; exact hA
  · unfold ISl at *; rw [ha 10 (by omega), ha 9 (by omega)]; exact hSl
  · unfold ITe at *; rw [h8, ha 11 (by omega), ha 12 (by omega)]; exact hTe
/-- the reference's 'thrown' isn't read -/
theorem Inv.t {S M : St} (h : Inv S M) (v : Int32) : Inv S (sI M 0 v) := h.m rfl rfl rfl rfl rfl rfl (fun _ _ => rfl) rfl
/-- two states of the class that differ only where nothing is kept -/
theorem Inv.x {S S' M : St} (h : Inv S M) (hi : ∀ k, k < 19 → S'.1 k = S.1 k) (ha : ∀ k, k ≠ 9 → S'.2.1 k = S.2.1 k) (hs : S'.2.2 = S.2.2) : Inv S' M := by
  obtain ⟨tl, st, ar, ct, fi, fl, tc, hT, hL, hW, hA, hSl, hTe, hs0⟩ := h
  refine ⟨tl, st, ar, ct, fi, fl, tc, ?_, ?_, ?_, ?_, ?_, ?_, by rw [hs]; exact hs0⟩
  · unfold ITx at *; rw [hi 0 (by omega), ha 0 (by omega)]; exact hT
  · unfold ILa Gr at *; rw [hi 6 (by omega), hi 1 (by omega), hi 2 (by omega), hi 4 (by omega), hi 5 (by omega), ha 1 (by omega), ha 2 (by omega), ha 3 (by omega), ha 10 (by omega)]; exact hL
  · unfold IWo RowR RowV at *
    simp only [hi 7 (by omega), hi 8 (by omega), hi 9 (by omega), hi 10 (by omega), hi 11 (by omega), hi 12 (by omega), hi 13 (by omega), hi 14 (by omega), ha 4 (by omega)]; exact hW
  · unfold IAc at *; rw [hi 16 (by omega), hi 15 (by omega), ha 5 (by omega)]; exact hA
  · unfold ISl at *; rw [hi 17 (by omega), ha 6 (by omega)]; exact hSl
  · unfold ITe at *; rw [hi 18 (by omega), ha 7 (by omega), ha 8 (by omega)]; exact hTe
/-- only the work has changed -/
theorem Inx.work {tl st ar ct fi fl tc : Nat} {S M S' M' : St} (h : Inx tl st ar ct fi fl tc S M) (hi : ∀ k, k < 7 ∨ 15 ≤ k → S'.1 k = S.1 k) (ha : ∀ k, k ≠ 4 → S'.2.1 k = S.2.1 k) (hs : S'.2.2 = S.2.2)
    (mi : ∀ k, 0 < k → M'.1 k = M.1 k) (ma : ∀ k, k ≠ 7 → M'.2.1 k = M.2.1 k) (ms : M'.2.2 = M.2.2) (hw : IWo st ar S' M') : Inx tl st ar ct fi fl tc S' M' := by
  obtain ⟨hT, hL, hW, hA, hSl, hTe, hs0⟩ := h
  refine ⟨?_, ?_, hw, ?_, ?_, ?_, by rw [hs, ms]; exact hs0⟩
  · unfold ITx at *; rw [hi 0 (by omega), ha 0 (by omega), mi 1 (by omega), ma 0 (by omega)]; exact hT
  · unfold ILa Gr at *; rw [hi 6 (by omega), hi 1 (by omega), hi 2 (by omega), hi 4 (by omega), hi 5 (by omega), ha 1 (by omega), ha 2 (by omega), ha 3 (by omega), ha 10 (by omega), mi 5 (by omega), mi 3 (by omega), mi 4 (by omega), ma 1 (by omega), ma 2 (by omega), ma 3 (by omega), ma 4 (by omega)]; exact hL
  · unfold IAc at *; rw [hi 16 (by omega), hi 15 (by omega), ha 5 (by omega), mi 7 (by omega), ma 8 (by omega)]; exact hA
  · unfold ISl at *; rw [hi 17 (by omega), ha 6 (by omega), ma 10 (by omega), ma 9 (by omega)]; exact hSl
  · unfold ITe at *; rw [hi 18 (by omega), ha 7 (by omega), ha 8 (by omega), mi 8 (by omega), ma 11 (by omega), ma 12 (by omega)]; exact hTe
/-! ===== calls that only answer, and the text ===== -/
theorem op_wipe {S M : St} (h : Inv S M) : ∃ r S' M', f_X9_wipe S = some (r, S') ∧ f_X10_wipe M = some (r, M') ∧ Inv S' M' := by
  obtain ⟨tl, st, ar, ct, fi, fl, tc, hT, hL, hW, hA, hSl, hTe, hs0⟩ := h
  refine ⟨nI tl, sI S 0 0, sI (sI M 0 0) 1 0, ?_, ?_, 0, st, ar, ct, fi, fl, tc, ?_, hL, hW, hA, hSl, hTe, hs0⟩
  · rw [f_X9_wipe, nm_eq, hT.2.1]
  · rw [f_X10_wipe, nm_eq, nm_eq]
    simp only [sI1]
    rw [hT.2.2.1]; rfl
  · exact ⟨by omega, rfl, rfl, hT.2.2.2⟩
theorem op_write {S M : St} (h : Inv S M) (x : Int32) : ∃ r S' M', f_X9_write x S = some (r, S') ∧ f_X10_write x M = some (r, M') ∧ Inv S' M' := by
  have hin := in_w x 0 255
  by_cases hx : 0 ≤ x ∧ x ≤ 255
  · rw [if_pos hx] at hin
    obtain ⟨tl, st, ar, ct, fi, fl, tc, hT, hL, hW, hA, hSl, hTe, hs0⟩ := id h
    obtain ⟨t1, t2, t3, t4⟩ := hT
    have hx0 : ¬ x < 0 := by have := hx.1; rw [fa_le] at this; rw [fa_lt]; omega
    by_cases hl : tl < 40
    · refine ⟨nI (tl + 1), sI (sA S 0 tl x) 0 (nI (tl + 1)), sI (sA (sI M 0 0) 0 tl x) 1 (nI (tl + 1)), ?_, ?_, tl + 1, st, ar, ct, fi, fl, tc, ?_, hL, hW, hA, hSl, hTe, hs0⟩
      · have h1 : f_X7_append x S = some (1, sI (sA S 0 tl x) 0 (nI (tl + 1))) := by
          rw [f_X7_append, t2, if_neg (nI_pos (by omega)), if_pos (show nI tl < 40 from (ltN (b := 40) (by omega) (by omega)).mpr hl), if_neg (inN hl (by omega)), nm_eq, nm_eq, clN (by omega)]
          simp only [sA1, t2]
          rw [show nI tl + 1 = nI (tl + 1) from nI_1 tl]
        rw [f_X9_write, if_neg hx0, if_pos hx.2, h1]
        rfl
      · rw [f_X10_write, nm_eq]
        rw [show f_X10_in x.toInt64 0 255 = some 1 from hin]
        simp only [bSome]
        rw [if_neg (by decide)]
        have e1 : (sI M 0 0).1 1 = nI tl := t3
        rw [e1, if_neg (show ¬ nI tl = 40 from fun q => by rw [show (40 : Int32) = nI 40 from rfl, eqN (by omega) (by omega)] at q; omega), if_neg (inN hl (by omega)), nm_eq, nm_eq, clN (by omega)]
        simp only [sA1, e1]
        rw [show nI tl + 1 = nI (tl + 1) from nI_1 tl]
        rfl
      · refine ⟨by omega, rfl, rfl, ?_⟩
        show upd (S.2.1 0) tl x = upd (M.2.1 0) tl x
        rw [t4]
    · have e : tl = 40 := by omega
      subst e
      refine ⟨-4, S, sI M 0 0, ?_, ?_, h.t 0⟩
      · have h1 : f_X7_append x S = some (0, S) := by
          rw [f_X7_append, t2, if_neg (nI_pos (by omega)), if_neg (show ¬ nI 40 < 40 by decide)]
        rw [f_X9_write, if_neg hx0, if_pos hx.2, h1]
        rfl
      · rw [f_X10_write, nm_eq]
        rw [show f_X10_in x.toInt64 0 255 = some 1 from hin]
        simp only [bSome]
        rw [if_neg (by decide)]
        have e1 : (sI M 0 0).1 1 = nI 40 := t3
        rw [e1, if_pos (show nI 40 = 40 from rfl)]
  · rw [if_neg hx] at hin
    refine ⟨-2, S, sI M 0 0, ?_, ?_, h.t 0⟩
    · rw [f_X9_write]
      by_cases h1 : x < 0
      · rw [if_pos h1]
      · rw [if_neg h1, if_neg]
        intro h2
        exact hx ⟨by rw [fa_lt] at h1; rw [fa_le]; have : (0 : Int32).toInt = 0 := rfl; omega, h2⟩
    · rw [f_X10_write, nm_eq]
      rw [show f_X10_in x.toInt64 0 255 = some 0 from hin]
      rfl
