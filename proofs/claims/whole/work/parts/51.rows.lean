/-! ===== rows of saved work ===== -/
def rowput (C : Nat → Int32) (q : Nat) (g er : Nat → Int32) : Nat → Int32 := fun j => if 16 * q ≤ j ∧ j < 16 * q + 8 then g (j - 16 * q) else if 16 * q + 8 ≤ j ∧ j < 16 * q + 16 then er (j - (16 * q + 8)) else C j
theorem nI_sub {a b : Nat} (h : b ≤ a) : nI a - nI b = nI (a - b) := pk_sub h
theorem nI_mul (a b : Nat) : nI a * nI b = nI (a * b) := pk_mul a b
theorem nI_div {a d : Nat} (ha : a < 2147483648) (h0 : 0 < d) (hd : d < 2147483648) : nI a / nI d = nI (a / d) := pk_div ha h0 hd
theorem rp_g {C g er : Nat → Int32} {q k : Nat} (h : k < 8) : rowput C q g er (16 * q + k) = g k := by
  unfold rowput
  rw [if_pos (by omega)]
  congr 1; omega
theorem rp_e {C g er : Nat → Int32} {q i : Nat} (h : i < 8) : rowput C q g er (16 * q + (8 + i)) = er i := by
  unfold rowput
  rw [if_neg (by omega), if_pos (by omega)]
  congr 1; omega
theorem rp_o {C g er : Nat → Int32} {q j : Nat} (h : j < 16 * q ∨ 16 * q + 16 ≤ j) : rowput C q g er j = C j := by
  unfold rowput
  rw [if_neg (by omega), if_neg (by omega)]
set_option maxHeartbeats 4000000 in
theorem saveTo_a10 (S : St) {q : Nat} (hq : q < 14) : f_X8_saveTo_a10 (nI (16 * q)) S = some (sR S 5 (rowput (S.2.1 5) q (fun k => S.1 (7 + k)) (S.2.1 4))) := by
  obtain ⟨b, hb⟩ : ∃ b, b = 16 * q := ⟨_, rfl⟩
  have hb2 : b ≤ 208 := by omega
  unfold f_X8_saveTo_a10
  rw [← hb]
  simp (disch := omega) only [nm_eq, fa_lit, nI_add, nI_sub, ltN, leN, clN, if_neg, if_pos, sA_sR, sR1, sR2, sR_sR]
  congr 2
  funext j
  unfold va_cpy rowput upd
  simp only [reduceIte]
  rw [← hb]
  by_cases h1 : b + 8 ≤ j ∧ j < b + 16
  · rw [if_pos (by omega), if_neg (by omega), if_pos h1]
    simp
  · rw [if_neg (by omega)]
    by_cases h2 : b ≤ j ∧ j < b + 8
    · rw [if_pos h2]
      rcases (show j = b ∨ j = b + 1 ∨ j = b + 2 ∨ j = b + 3 ∨ j = b + 4 ∨ j = b + 5 ∨ j = b + 6 ∨ j = b + 7 by omega) with r | r | r | r | r | r | r | r <;> subst r <;> simp
    · rw [if_neg h2, if_neg h1]
      repeat (rw [if_neg (by omega)])
set_option maxHeartbeats 4000000 in
theorem saveTo_a12 (S : St) {q : Nat} (hq : q < 2) : f_X8_saveTo_a12 (nI (16 * q)) S = some (sR S 6 (rowput (S.2.1 6) q (fun k => S.1 (7 + k)) (S.2.1 4))) := by
  obtain ⟨b, hb⟩ : ∃ b, b = 16 * q := ⟨_, rfl⟩
  have hb2 : b ≤ 16 := by omega
  unfold f_X8_saveTo_a12
  rw [← hb]
  simp (disch := omega) only [nm_eq, fa_lit, nI_add, nI_sub, ltN, leN, clN, if_neg, if_pos, sA_sR, sR1, sR2, sR_sR]
  congr 2
  funext j
  unfold va_cpy rowput upd
  simp only [reduceIte]
  rw [← hb]
  by_cases h1 : b + 8 ≤ j ∧ j < b + 16
  · rw [if_pos (by omega), if_neg (by omega), if_pos h1]
    simp
  · rw [if_neg (by omega)]
    by_cases h2 : b ≤ j ∧ j < b + 8
    · rw [if_pos h2]
      rcases (show j = b ∨ j = b + 1 ∨ j = b + 2 ∨ j = b + 3 ∨ j = b + 4 ∨ j = b + 5 ∨ j = b + 6 ∨ j = b + 7 by omega) with r | r | r | r | r | r | r | r <;> subst r <;> simp
    · rw [if_neg h2, if_neg h1]
      repeat (rw [if_neg (by omega)])
theorem nm_u {α β : Type} {e : α} {k : α → Option β} {y : Option β} (h : ∀ v, v = e → k v = y) : nm e k = y := h e rfl
/-- the work as a saved row has it -/
def ldRow (S : St) (g er : Nat → Int32) : St := (fun k => if 7 ≤ k ∧ k < 15 then g (k - 7) else S.1 k, fun k => if k = 4 then (fun i => if i < 8 then er i else S.2.1 4 i) else S.2.1 k, S.2.2)
set_option maxHeartbeats 4000000 in
theorem loadFrom_a10 (S : St) {q : Nat} (hq : q < 14) : f_X8_loadFrom_a10 (nI (16 * q)) S = some (ldRow S (fun k => S.2.1 5 (16 * q + k)) (fun i => S.2.1 5 (16 * q + (8 + i)))) := by
  obtain ⟨b, hb⟩ : ∃ b, b = 16 * q := ⟨_, rfl⟩
  have hb2 : b ≤ 208 := by omega
  unfold f_X8_loadFrom_a10
  rw [← hb]
  simp (disch := omega) only [fa_lit, nI_add, nI_sub, ltN, leN, clN, if_neg, if_pos]
  refine nm_u (fun A1 e1 => nm_u (fun A2 e2 => nm_u (fun A3 e3 => nm_u (fun A4 e4 => nm_u (fun A5 e5 => nm_u (fun A6 e6 => nm_u (fun A7 e7 => nm_u (fun A8 e8 => nm_u (fun A9 e9 => ?_)))))))))
  have t1 : A1.2 = S.2 := by rw [e1, sI2]
  have t2 : A2.2 = S.2 := by rw [e2, sI2, t1]
  have t3 : A3.2 = S.2 := by rw [e3, sI2, t2]
  have t4 : A4.2 = S.2 := by rw [e4, sI2, t3]
  have t5 : A5.2 = S.2 := by rw [e5, sI2, t4]
  have t6 : A6.2 = S.2 := by rw [e6, sI2, t5]
  have t7 : A7.2 = S.2 := by rw [e7, sI2, t6]
  have t8 : A8.2 = S.2 := by rw [e8, sI2, t7]
  congr 1
  rw [t8] at e9
  rw [t7] at e8; rw [t6] at e7; rw [t5] at e6; rw [t4] at e5; rw [t3] at e4; rw [t2] at e3; rw [t1] at e2
  refine ext3 (fun j => ?_) (fun j i => ?_) (by rw [e9, sR3, t8]; rfl)
  · rw [e9, sR1, e8, sI1, e7, sI1, e6, sI1, e5, sI1, e4, sI1, e3, sI1, e2, sI1, e1, sI1]
    show _ = if 7 ≤ j ∧ j < 15 then S.2.1 5 (b + (j - 7)) else S.1 j
    by_cases h2 : 7 ≤ j ∧ j < 15
    · rw [if_pos h2]
      rcases (show j = 7 ∨ j = 8 ∨ j = 9 ∨ j = 10 ∨ j = 11 ∨ j = 12 ∨ j = 13 ∨ j = 14 by omega) with r | r | r | r | r | r | r | r <;> subst r <;> rfl
    · rw [if_neg h2]
      repeat (rw [if_neg (by omega)])
  · rw [e9, sR2, t8]
    show _ = (if j = 4 then (fun i => if i < 8 then S.2.1 5 (b + (8 + i)) else S.2.1 4 i) else S.2.1 j) i
    by_cases hj : j = 4
    · rw [if_pos hj, if_pos hj]
      unfold va_cpy
      by_cases hi : i < 8
      · rw [if_pos (by omega), if_pos hi]
        exact congrArg (S.2.1 5) (by omega)
      · rw [if_neg (by omega), if_neg hi]
    · rw [if_neg hj, if_neg hj]
set_option maxHeartbeats 4000000 in
theorem loadFrom_a12 (S : St) {q : Nat} (hq : q < 2) : f_X8_loadFrom_a12 (nI (16 * q)) S = some (ldRow S (fun k => S.2.1 6 (16 * q + k)) (fun i => S.2.1 6 (16 * q + (8 + i)))) := by
  obtain ⟨b, hb⟩ : ∃ b, b = 16 * q := ⟨_, rfl⟩
  have hb2 : b ≤ 16 := by omega
  unfold f_X8_loadFrom_a12
  rw [← hb]
  simp (disch := omega) only [fa_lit, nI_add, nI_sub, ltN, leN, clN, if_neg, if_pos]
  refine nm_u (fun A1 e1 => nm_u (fun A2 e2 => nm_u (fun A3 e3 => nm_u (fun A4 e4 => nm_u (fun A5 e5 => nm_u (fun A6 e6 => nm_u (fun A7 e7 => nm_u (fun A8 e8 => nm_u (fun A9 e9 => ?_)))))))))
  have t1 : A1.2 = S.2 := by rw [e1, sI2]
  have t2 : A2.2 = S.2 := by rw [e2, sI2, t1]
  have t3 : A3.2 = S.2 := by rw [e3, sI2, t2]
  have t4 : A4.2 = S.2 := by rw [e4, sI2, t3]
  have t5 : A5.2 = S.2 := by rw [e5, sI2, t4]
  have t6 : A6.2 = S.2 := by rw [e6, sI2, t5]
  have t7 : A7.2 = S.2 := by rw [e7, sI2, t6]
  have t8 : A8.2 = S.2 := by rw [e8, sI2, t7]
  congr 1
  rw [t8] at e9
  rw [t7] at e8; rw [t6] at e7; rw [t5] at e6; rw [t4] at e5; rw [t3] at e4; rw [t2] at e3; rw [t1] at e2
  refine ext3 (fun j => ?_) (fun j i => ?_) (by rw [e9, sR3, t8]; rfl)
  · rw [e9, sR1, e8, sI1, e7, sI1, e6, sI1, e5, sI1, e4, sI1, e3, sI1, e2, sI1, e1, sI1]
    show _ = if 7 ≤ j ∧ j < 15 then S.2.1 6 (b + (j - 7)) else S.1 j
    by_cases h2 : 7 ≤ j ∧ j < 15
    · rw [if_pos h2]
      rcases (show j = 7 ∨ j = 8 ∨ j = 9 ∨ j = 10 ∨ j = 11 ∨ j = 12 ∨ j = 13 ∨ j = 14 by omega) with r | r | r | r | r | r | r | r <;> subst r <;> rfl
    · rw [if_neg h2]
      repeat (rw [if_neg (by omega)])
  · rw [e9, sR2, t8]
    show _ = (if j = 4 then (fun i => if i < 8 then S.2.1 6 (b + (8 + i)) else S.2.1 4 i) else S.2.1 j) i
    by_cases hj : j = 4
    · rw [if_pos hj, if_pos hj]
      unfold va_cpy
      by_cases hi : i < 8
      · rw [if_pos (by omega), if_pos hi]
        exact congrArg (S.2.1 6) (by omega)
      · rw [if_neg (by omega), if_neg hi]
    · rw [if_neg hj, if_neg hj]
/-! ===== the reference's copies ===== -/
theorem fuel_s : ∀ r, r < 999 → ∃ n, fuel = n + 1 ∧ r < n + 1 := fun r h => ⟨999, rfl, by omega⟩
def bput (B : Nat → Int32) (b k : Nat) (f : Nat → Int32) : Nat → Int32 := fun i => if b + k ≤ i ∧ i < b + 16 then f (i - b) else B i
theorem bput_end (B f : Nat → Int32) (b : Nat) : bput B b 16 f = B := by
  funext i
  unfold bput
  rw [if_neg (by omega)]
theorem bput_step (B f : Nat → Int32) (b k : Nat) (hk : k < 16) : bput (upd B (b + k) (f k)) b (k + 1) f = bput B b k f := by
  funext i
  unfold bput upd
  by_cases h1 : i = b + k
  · subst h1
    rw [if_neg (by omega), if_pos rfl, if_pos (by omega)]
    congr 1; omega
  · by_cases h2 : b + (k + 1) ≤ i ∧ i < b + 16
    · rw [if_pos h2, if_pos (by omega)]
    · rw [if_neg h2, if_neg h1, if_neg (by omega)]
theorem sR_self (S : St) (k : Nat) : sR S k (S.2.1 k) = S := by
  refine ext3 (fun _ => rfl) (fun j i => ?_) rfl
  rw [sR2]
  by_cases h : j = k
  · rw [if_pos h, h]
  · rw [if_neg h]
theorem note_51 {ct : Nat} (hct : ct < 14) : ∀ (r k n : Nat) (M : St), k + r = 16 → r < n → M.1 7 = nI ct → l_X10_note_51 n (nI k) M = some (sR M 8 (bput (M.2.1 8) (16 * ct) k (M.2.1 7))) := by
  intro r
  induction r with
  | zero =>
    intro k n M hk hn h7
    obtain ⟨n, rfl⟩ : ∃ m, n = m + 1 := ⟨n - 1, by omega⟩
    have e : k = 16 := by omega
    subst e
    rw [l_X10_note_51, if_pos (by decide), bput_end, sR_self]
  | succ r ih =>
    intro k n M hk hn h7
    obtain ⟨n, rfl⟩ : ∃ m, n = m + 1 := ⟨n - 1, by omega⟩
    rw [l_X10_note_51, h7]
    simp (disch := omega) only [nm_eq, fa_lit, nI_add, nI_mul, ltN, leN, clN, if_neg]
    rw [ih (k + 1) n (sA M 8 (16 * ct + k) (M.2.1 7 k)) (by omega) (by omega) h7, sA_sR, sR_at, sR_sR]
    rw [show (sR M 8 (upd (M.2.1 8) (16 * ct + k) (M.2.1 7 k))).2.1 7 = M.2.1 7 from rfl, bput_step _ _ _ _ (by omega)]
theorem note_11 : ∀ (r k n : Nat) (M : St), k + r = 208 → r < n → l_X10_note_11 n (nI k) M = some (sR M 8 (fun i => if k ≤ i ∧ i < 208 then M.2.1 8 (i + 16) else M.2.1 8 i)) := by
  intro r
  induction r with
  | zero =>
    intro k n M hk hn
    obtain ⟨n, rfl⟩ : ∃ m, n = m + 1 := ⟨n - 1, by omega⟩
    have e : k = 208 := by omega
    subst e
    rw [l_X10_note_11, if_pos (by decide)]
    congr 1
    refine ext3 (fun _ => rfl) (fun j i => ?_) rfl
    rw [sR2]
    by_cases h : j = 8
    · rw [if_pos h, if_neg (by omega), h]
    · rw [if_neg h]
  | succ r ih =>
    intro k n M hk hn
    obtain ⟨n, rfl⟩ : ∃ m, n = m + 1 := ⟨n - 1, by omega⟩
    rw [l_X10_note_11]
    simp (disch := omega) only [nm_eq, fa_lit, nI_add, nI_mul, ltN, leN, clN, if_neg]
    rw [ih (k + 1) n _ (by omega) (by omega), sA_sR, sR_at, sR_sR]
    congr 2
    funext i
    unfold upd
    by_cases h1 : i = k
    · subst h1
      rw [if_neg (by omega), if_pos rfl, if_pos (by omega)]
    · by_cases h2 : k + 1 ≤ i ∧ i < 208
      · rw [if_pos h2, if_neg (by omega), if_pos (by omega)]
      · rw [if_neg h2, if_neg h1, if_neg (by omega)]
theorem undo_27 {ct : Nat} (hct : ct < 14) : ∀ (r k n : Nat) (M : St), k + r = 16 → r < n → M.1 7 = nI ct → l_X10_undo_27 n (nI k) M = some (sR M 7 (bput (M.2.1 7) 0 k (fun i => M.2.1 8 (16 * ct + i)))) := by
  intro r
  induction r with
  | zero =>
    intro k n M hk hn h7
    obtain ⟨n, rfl⟩ : ∃ m, n = m + 1 := ⟨n - 1, by omega⟩
    have e : k = 16 := by omega
    subst e
    rw [l_X10_undo_27, if_pos (by decide), bput_end, sR_self]
  | succ r ih =>
    intro k n M hk hn h7
    obtain ⟨n, rfl⟩ : ∃ m, n = m + 1 := ⟨n - 1, by omega⟩
    rw [l_X10_undo_27, h7]
    simp (disch := omega) only [nm_eq, fa_lit, nI_add, nI_mul, ltN, leN, clN, if_neg]
    rw [ih (k + 1) n (sA M 7 k (M.2.1 8 (16 * ct + k))) (by omega) (by omega) h7, sA_sR, sR_at, sR_sR]
    have e := bput_step (M.2.1 7) (fun i => M.2.1 8 (16 * ct + i)) 0 k (by omega)
    rw [Nat.zero_add] at e
    rw [show (sR M 7 (upd (M.2.1 7) k (M.2.1 8 (16 * ct + k)))).2.1 8 = M.2.1 8 from rfl, e]
theorem keep_26 {q : Nat} (hq : q < 2) : ∀ (r k n : Nat) (M : St), k + r = 16 → r < n → l_X10_keep_26 (nI q) n (nI k) M = some (sR M 9 (bput (M.2.1 9) (16 * q) k (M.2.1 7))) := by
  intro r
  induction r with
  | zero =>
    intro k n M hk hn
    obtain ⟨n, rfl⟩ : ∃ m, n = m + 1 := ⟨n - 1, by omega⟩
    have e : k = 16 := by omega
    subst e
    rw [l_X10_keep_26, if_pos (by decide), bput_end, sR_self]
  | succ r ih =>
    intro k n M hk hn
    obtain ⟨n, rfl⟩ : ∃ m, n = m + 1 := ⟨n - 1, by omega⟩
    rw [l_X10_keep_26]
    simp (disch := omega) only [nm_eq, fa_lit, nI_add, nI_mul, ltN, leN, clN, if_neg]
    rw [ih (k + 1) n _ (by omega) (by omega), sA_sR, sR_at, sR_sR]
    rw [show (sR M 9 (upd (M.2.1 9) (16 * q + k) (M.2.1 7 k))).2.1 7 = M.2.1 7 from rfl, bput_step _ _ _ _ (by omega)]
theorem again_31 {q : Nat} (hq : q < 2) : ∀ (r k n : Nat) (M : St), k + r = 16 → r < n → l_X10_again_31 (nI q) n (nI k) M = some (sR M 7 (bput (M.2.1 7) 0 k (fun i => M.2.1 9 (16 * q + i)))) := by
  intro r
  induction r with
  | zero =>
    intro k n M hk hn
    obtain ⟨n, rfl⟩ : ∃ m, n = m + 1 := ⟨n - 1, by omega⟩
    have e : k = 16 := by omega
    subst e
    rw [l_X10_again_31, if_pos (by decide), bput_end, sR_self]
  | succ r ih =>
    intro k n M hk hn
    obtain ⟨n, rfl⟩ : ∃ m, n = m + 1 := ⟨n - 1, by omega⟩
    rw [l_X10_again_31]
    simp (disch := omega) only [nm_eq, fa_lit, nI_add, nI_mul, ltN, leN, clN, if_neg]
    rw [ih (k + 1) n _ (by omega) (by omega), sA_sR, sR_at, sR_sR]
    have e := bput_step (M.2.1 7) (fun i => M.2.1 9 (16 * q + i)) 0 k (by omega)
    rw [Nat.zero_add] at e
    rw [show (sR M 7 (upd (M.2.1 7) k (M.2.1 9 (16 * q + k)))).2.1 9 = M.2.1 9 from rfl, e]
