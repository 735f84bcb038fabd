/-! ===== ends: the plans in their order ===== -/
theorem ers_1 (S : St) (s : Nat) : ers S s (nI 1) = ers S s (nI 0) + (S.1 5 - S.1 4) := by
  unfold ers
  rw [if_neg (show ¬ nI 1 = 0 by decide), if_pos (show nI 0 = 0 from rfl)]
  generalize S.1 13 + gnd (S.2.1 1 s) (S.2.1 2 s) = x
  generalize S.1 4 = a
  generalize S.1 5 = b
  generalize S.1 14 = c
  rw [Int32.sub_eq_add_neg, Int32.sub_eq_add_neg, Int32.sub_eq_add_neg]
  have e : x + a + -c + (b + -a) = x + b + -c + (a + -a) := by ac_rfl
  rw [e, Int32.add_right_neg, Int32.add_zero]
/-- how many of the bits i, i+1, .. (k of them) stand in p -/
def cntB (p : Nat) : Nat → Nat → Nat
  | _, 0 => 0
  | i, k + 1 => p / 2 ^ i % 2 + cntB p (i + 1) k
theorem sum_bits (S : St) (p : Nat) : ∀ (k i : Nat), sumI (fun s => ers S s (nI (p / 2 ^ s % 2))) i k = sumI (fun s => ers S s (nI 0)) i k + nI (cntB p i k) * (S.1 5 - S.1 4)
  | 0, _ => by
    show (0 : Int32) = 0 + nI 0 * _
    rw [show nI 0 = 0 from rfl, Int32.zero_mul]; rfl
  | k + 1, i => by
    rw [sumI, sumI, sum_bits S p k (i + 1), cntB]
    rcases (show p / 2 ^ i % 2 = 0 ∨ p / 2 ^ i % 2 = 1 by omega) with q | q
    · rw [q, Nat.zero_add, Int32.add_assoc]
    · rw [q, ers_1, Nat.add_comm 1, ← nI_1, Int32.add_mul, Int32.one_mul]
      ac_rfl
theorem shift_bit (b pl i : Nat) : b * 2 ^ pl / 2 ^ (pl + i) = b / 2 ^ i := by
  rw [Nat.pow_add, ← Nat.div_div_eq_div_mul, Nat.mul_div_cancel _ (Nat.pow_pos (by omega))]
theorem cnt_shift (b pl : Nat) : ∀ (k i : Nat), cntB (b * 2 ^ pl) (pl + i) k = cntB b i k
  | 0, _ => rfl
  | k + 1, i => by
    rw [cntB, cntB, shift_bit, Nat.add_assoc, cnt_shift b pl k (i + 1)]
set_option maxRecDepth 100000 in
theorem cnt_pcb : ∀ n, n < 9 → ∀ b, b < 256 → b < 2 ^ n → cntB b 0 n = pcb b := by decide +kernel
/-- the error of the plan b -/
def oB (S : St) (pl n b : Nat) : Int32 := sumI (fun s => ers S s (nI (b * 2 ^ pl / 2 ^ s % 2))) pl n
theorem oB_eq (S : St) {pl n b : Nat} (hn : n < 9) (hb : b < 2 ^ n) : oB S pl n b = oB S pl n 0 + nI (pcb b) * (S.1 5 - S.1 4) := by
  have h8 := pow8 n hn
  unfold oB
  rw [sum_bits, sum_bits, show cntB (b * 2 ^ pl) pl n = cntB b 0 n from cnt_shift b pl n 0, show cntB (0 * 2 ^ pl) pl n = cntB 0 0 n from cnt_shift 0 pl n 0, cnt_pcb n hn b (by omega) hb, cnt_pcb n hn 0 (by omega) (by omega), show pcb 0 = 0 from rfl, show nI 0 = 0 from rfl, Int32.zero_mul, Int32.add_zero]
/-- the changes of the leader along a plan -/
def tnN (p : Nat) : Nat → Nat → Nat → Nat
  | _, _, 0 => 0
  | ld, i, k + 1 => (if p / 2 ^ i % 2 = ld then 0 else 1) + tnN p (p / 2 ^ i % 2) (i + 1) k
theorem tn_shift (b pl : Nat) : ∀ (k i ld : Nat), tnN (b * 2 ^ pl) ld (pl + i) k = tnN b ld i k
  | 0, _, _ => rfl
  | k + 1, i, ld => by
    rw [tnN, tnN, shift_bit, Nat.add_assoc, tn_shift b pl k (i + 1)]
set_option maxRecDepth 100000 in
theorem tn_x : ∀ n, n < 9 → ∀ ld, ld < 2 → ∀ b, b < 256 → f_J6_bitCount_0f7a4 ((nI b ^^^ ((nI b <<< ((1 : Int32) &&& 31)) ||| nI ld)) &&& (((1 : Int32) <<< (nI n &&& 31)) - 1)) = some (nI (tnN b ld 0 n)) := by decide +kernel
theorem turns_x {S : St} {n ld b : Nat} (h12 : S.1 12 = nI ld) (hld : ld < 2) (hn : n < 9) (hb : b < 256) : f_X1_turnsIn (nI n) (nI b) S = some (nI (tnN b ld 0 n)) := by
  unfold f_X1_turnsIn
  rw [nm_eq, nm_eq, h12, tn_x n hn ld hld b hb]
  simp only [bSome]
theorem tn_run {M : St} {pl n p : Nat} (p0 : M.2.1 7 0 = nI pl) (hn : pl + n ≤ 8) (hp : p < 256) : ∀ (k i f ld acc : Nat), i + k = pl + n → k < f → ld < 2 → l_X10_changesOf_18 (nI n) (nI p) M f (nI ld) (nI acc) (nI i) = some (nI (acc + tnN p ld i k)) := by
  intro k
  induction k with
  | zero =>
    intro i f ld acc hi hf hld
    obtain ⟨f, rfl⟩ : ∃ m, f = m + 1 := ⟨f - 1, by omega⟩
    rw [l_X10_changesOf_18, p0, nI_add, if_pos ((leN (by omega) (by omega)).mpr (by omega))]
    rfl
  | succ k ih =>
    intro i f ld acc hi hf hld
    obtain ⟨f, rfl⟩ : ∃ m, f = m + 1 := ⟨f - 1, by omega⟩
    rw [l_X10_changesOf_18, p0, nI_add, if_neg (by rw [leN (by omega) (by omega)]; omega), bit_get i (by omega) p hp]
    unfold j_X10_changesOf_48
    rw [bit_get i (by omega) p hp]
    simp only [nm_eq]
    rw [show nI i + 1 = nI (i + 1) from nI_1 i, show (0 : Int32) = nI 0 from rfl, show (1 : Int32) = nI 1 from rfl, nI_add, nI_add, ih (i + 1) f _ _ (by omega) (by omega) (by omega), ih (i + 1) f _ _ (by omega) (by omega) (by omega), tnN]
    by_cases q : p / 2 ^ i % 2 = ld
    · rw [if_pos (by rw [q]), if_pos q, Nat.add_assoc]
    · rw [if_neg (fun z => q ((eqN (by omega) (by omega)).mp z)), if_neg q, Nat.add_assoc]
theorem turns_m {M : St} {pl n ld b : Nat} (p0 : M.2.1 7 0 = nI pl) (p5 : M.2.1 7 5 = nI ld) (hld : ld < 2) (hn : pl + n ≤ 8) (hb : b * 2 ^ pl < 256) : f_X10_changesOf (nI n) (nI (b * 2 ^ pl)) M = some (nI (tnN b ld 0 n)) := by
  unfold f_X10_changesOf
  rw [p0, p5, show (0 : Int32) = nI 0 from rfl, tn_run p0 hn hb n pl fuel ld 0 (by omega) (by rw [fuelv]; omega) hld, Nat.zero_add, show tnN (b * 2 ^ pl) ld pl n = tnN b ld 0 n from tn_shift b pl n 0 ld]
  rfl
theorem tn_le (p : Nat) : ∀ (k i ld : Nat), tnN p ld i k ≤ k
  | 0, _, _ => Nat.le_refl 0
  | k + 1, i, ld => by
    have := tn_le p k (i + 1) (p / 2 ^ i % 2)
    rw [tnN]
    split <;> omega
set_option maxRecDepth 100000 in
theorem shl1 : ∀ n, n < 9 → (1 : Int32) <<< (nI n &&& 31) = nI (2 ^ n) := by decide +kernel
set_option maxRecDepth 100000 in
theorem shlb : ∀ pl, pl < 9 → ∀ b, b < 256 → nI b <<< (nI pl &&& 31) = nI (b * 2 ^ pl) := by decide +kernel
set_option maxRecDepth 100000 in
theorem msk : ∀ pl, pl < 9 → ∀ n, n < 9 → pl + n ≤ 8 → ∀ p, p < 256 → p ≤ 2 ^ (pl + n) - 2 ^ pl → decide ((nI p &&& (nI (2 ^ (pl + n) - 2 ^ pl) ^^^ (-1))) = 0) = decide (p % 2 ^ pl = 0) := by decide +kernel
/-- the page as ends leaves it -/
def mE (M : St) (x y : Int32) : St := sI (sI M 9 x) 10 y
theorem mE_mE (M : St) (a b x y : Int32) : sI (sI (mE M a b) 9 x) 10 y = mE M x y := by
  refine ext3 (fun j => ?_) (fun _ _ => rfl) rfl
  unfold mE
  simp only [sI1]
  by_cases c : j = 10
  · rw [if_pos c, if_pos c]
  · rw [if_neg c, if_neg c]
    by_cases d : j = 9
    · rw [if_pos d, if_neg c, if_pos d]
    · rw [if_neg d, if_neg c, if_neg d, if_neg d]
theorem skips {pl n : Nat} (hn : pl + n ≤ 8) : ∀ (k q f : Nat) (M : St), (∀ i, i < k → (q + i) % 2 ^ pl ≠ 0) → q + k ≤ 2 ^ (pl + n) - 2 ^ pl → l_X10_findEnds_33 (nI n) (nI (2 ^ (pl + n) - 2 ^ pl)) (f + k) (nI q) M = l_X10_findEnds_33 (nI n) (nI (2 ^ (pl + n) - 2 ^ pl)) f (nI (q + k)) M := by
  have h8 := pow8 (pl + n) (by omega)
  have hp1 : 0 < 2 ^ pl := Nat.pow_pos (by omega)
  intro k
  induction k with
  | zero => intro q f M _ _; rfl
  | succ k ih =>
    intro q f M h1 h2
    have hm := msk pl (by omega) n (by omega) hn q (by omega) (by omega)
    have hq : ¬ (nI q &&& (nI (2 ^ (pl + n) - 2 ^ pl) ^^^ (-1))) = 0 := by
      intro z
      rw [decide_eq_true z] at hm
      exact h1 0 (by omega) (of_decide_eq_true hm.symm)
    rw [show f + (k + 1) = (f + k) + 1 from rfl, l_X10_findEnds_33, if_neg (by rw [ltN (by omega) (by omega)]; omega), if_neg hq, show nI q + 1 = nI (q + 1) from nI_1 q, ih (q + 1) f M (fun i hi => by rw [show q + 1 + i = q + (i + 1) by omega]; exact h1 (i + 1) (by omega)) (by omega), show q + 1 + k = q + (k + 1) by omega]
theorem ends_run {S M : St} {st pl n ld : Nat} (hE : PgE S M) (p0 : M.2.1 7 0 = nI pl) (p5 : M.2.1 7 5 = nI ld) (hld : ld < 2) (h10 : S.1 10 = nI pl) (h12 : S.1 12 = nI ld) (hn : pl + n ≤ 8) : ∀ (r b B f g : Nat), b + r = 2 ^ n → r < f → 1 ≤ b → B < b → 0 < g →
    ∃ B', B' < 2 ^ n ∧ l_X1_bestPlan_45 (nI n) (oB S pl n 0) (S.1 5 - S.1 4) S f (nI (B * 2 ^ pl)) (absI (oB S pl n B)) (nI (tnN B ld 0 n)) (nI b) = some (nI (B' * 2 ^ pl)) ∧
      l_X10_findEnds_33 (nI n) (nI (2 ^ (pl + n) - 2 ^ pl)) (g + r * 2 ^ pl) (nI ((b - 1) * 2 ^ pl + 1)) (mE M (nI (B * 2 ^ pl)) (oB S pl n B)) = some (mE M (nI (B' * 2 ^ pl)) (oB S pl n B')) := by
  have h8 := pow8 (pl + n) (by omega)
  have h8n := pow8 n (by omega)
  have hp1 : 0 < 2 ^ pl := Nat.pow_pos (by omega)
  have hpow : 2 ^ (pl + n) = 2 ^ n * 2 ^ pl := by rw [Nat.pow_add, Nat.mul_comm]
  intro r
  induction r with
  | zero =>
    intro b B f g hb hf h1 hB hg
    obtain ⟨f, rfl⟩ : ∃ m, f = m + 1 := ⟨f - 1, by omega⟩
    obtain ⟨g, rfl⟩ : ∃ m, g = m + 1 := ⟨g - 1, by omega⟩
    have eb : b = 2 ^ n := by omega
    refine ⟨B, by omega, ?_, ?_⟩
    · rw [l_X1_bestPlan_45, shl1 n (by omega), if_pos ((leN (by omega) (by omega)).mpr (by omega))]
    · have e1 : (b - 1) * 2 ^ pl = 2 ^ (pl + n) - 2 ^ pl := by rw [eb, hpow, Nat.sub_mul, Nat.one_mul]
      rw [e1, Nat.zero_mul, l_X10_findEnds_33, if_pos ((ltN (by omega) (by omega)).mpr (by omega))]
  | succ r ih =>
    intro b B f g hb hf h1 hB hg
    obtain ⟨f, rfl⟩ : ∃ m, f = m + 1 := ⟨f - 1, by omega⟩
    have hbp : (b + 1) * 2 ^ pl ≤ 2 ^ (pl + n) := by rw [hpow]; exact Nat.mul_le_mul_right _ (by omega)
    have hb1 : (b - 1) * 2 ^ pl + 2 ^ pl = b * 2 ^ pl := by
      obtain ⟨c, rfl⟩ : ∃ c, b = c + 1 := ⟨b - 1, by omega⟩
      rw [Nat.add_sub_cancel, Nat.add_mul, Nat.one_mul]
    have hbb : (b + 1) * 2 ^ pl = b * 2 ^ pl + 2 ^ pl := by rw [Nat.add_mul, Nat.one_mul]
    have hBp : B * 2 ^ pl < 256 := by
      have : B * 2 ^ pl ≤ b * 2 ^ pl := Nat.mul_le_mul_right _ (by omega)
      omega
    have sk := skips (n := n) (pl := pl) hn (2 ^ pl - 1) ((b - 1) * 2 ^ pl + 1) (g + r * 2 ^ pl + 1) (mE M (nI (B * 2 ^ pl)) (oB S pl n B)) (by
      intro i hi
      rw [show (b - 1) * 2 ^ pl + 1 + i = (1 + i) + (b - 1) * 2 ^ pl by omega, Nat.add_mul_mod_self_right, Nat.mod_eq_of_lt (by omega)]
      omega) (by omega)
    rw [show g + (r + 1) * 2 ^ pl = g + r * 2 ^ pl + 1 + (2 ^ pl - 1) by rw [Nat.add_mul, Nat.one_mul]; omega, sk, show (b - 1) * 2 ^ pl + 1 + (2 ^ pl - 1) = b * 2 ^ pl by omega]
    have hm := msk pl (by omega) n (by omega) hn (b * 2 ^ pl) (by omega) (by omega)
    rw [Nat.mul_mod_left, decide_eq_true (rfl : 0 = 0)] at hm
    have hE' : PgE S (mE M (nI (B * 2 ^ pl)) (oB S pl n B)) := hE
    have p0' : (mE M (nI (B * 2 ^ pl)) (oB S pl n B)).2.1 7 0 = nI pl := p0
    have p5' : (mE M (nI (B * 2 ^ pl)) (oB S pl n B)).2.1 7 5 = nI ld := p5
    rw [l_X10_findEnds_33, if_neg (by rw [ltN (by omega) (by omega)]; omega), if_pos (of_decide_eq_true hm), offM hE' p0' hn (by omega)]
    simp only [bSome]
    rw [show (mE M (nI (B * 2 ^ pl)) (oB S pl n B)).1 9 = nI (B * 2 ^ pl) from rfl, show (mE M (nI (B * 2 ^ pl)) (oB S pl n B)).1 10 = oB S pl n B from rfl]
    rw [if_neg (show ¬ nI (B * 2 ^ pl) = (-9 : Int32) from fun z => by
      have y := congrArg Int32.toInt z
      rw [nI_toInt (by omega)] at y
      rw [show (-9 : Int32).toInt = -9 from rfl] at y
      omega)]
    rw [show sumI (fun s => ers S s (nI (b * 2 ^ pl / 2 ^ s % 2))) pl n = oB S pl n b from rfl, size_abs, size_abs, turns_m p0' p5' hld hn (by omega), turns_m p0' p5' hld hn hBp]
    simp only [bSome]
    rw [show (if 0 ≤ oB S pl n b then oB S pl n b else 0 - oB S pl n b) = absI (oB S pl n b) from rfl, show (if 0 ≤ oB S pl n B then oB S pl n B else 0 - oB S pl n B) = absI (oB S pl n B) from rfl]
    rw [l_X1_bestPlan_45, shl1 n (by omega), if_neg (by rw [leN (by omega) (by omega)]; omega), bitC b (by omega)]
    simp only [bSome]
    rw [← oB_eq S (show n < 9 by omega) (show b < 2 ^ n by omega), nm_eq, turns_x h12 hld (by omega) (show b < 256 by omega)]
    simp only [bSome]
    rw [show (if 0 ≤ oB S pl n b then oB S pl n b else 0 - oB S pl n b) = absI (oB S pl n b) from rfl]
    have take := ih (b + 1) b f g (by omega) (by omega) (by omega) (by omega) hg
    have keep := ih (b + 1) B f g (by omega) (by omega) (by omega) (by omega) hg
    rw [Nat.add_sub_cancel] at take keep
    have j1 : ∀ bk : Int32 → Int32 → Int32 → Int32 → Option Int32, j_X1_bestPlan_98 bk (nI n) (oB S pl n 0) (S.1 5 - S.1 4) (nI b) (absI (oB S pl n b)) (nI (tnN b ld 0 n)) S = bk (nI (b * 2 ^ pl)) (absI (oB S pl n b)) (nI (tnN b ld 0 n)) (nI (b + 1)) := by
      intro bk
      unfold j_X1_bestPlan_98
      rw [h10, shlb pl (by omega) b (by omega), show nI b + 1 = nI (b + 1) from nI_1 b]
    have j2 : ∀ bk : Int32 → St → Option St, j_X10_findEnds_111 bk (nI n) (nI (2 ^ (pl + n) - 2 ^ pl)) (nI (b * 2 ^ pl)) (oB S pl n b) (mE M (nI (B * 2 ^ pl)) (oB S pl n B)) = bk (nI (b * 2 ^ pl + 1)) (mE M (nI (b * 2 ^ pl)) (oB S pl n b)) := by
      intro bk
      unfold j_X10_findEnds_111 j_X10_findEnds_116 j_X10_findEnds_132
      rw [if_neg (show ¬ (1 : Int32) = 0 by decide), nm_eq, if_neg (show ¬ (1 : Int32) = 0 by decide), nm_eq, mE_mE, show nI (b * 2 ^ pl) + 1 = nI (b * 2 ^ pl + 1) from nI_1 _]
    have j3 : ∀ bk : Int32 → St → Option St, j_X10_findEnds_115 bk (nI n) (nI (2 ^ (pl + n) - 2 ^ pl)) (nI (b * 2 ^ pl)) (oB S pl n b) (mE M (nI (B * 2 ^ pl)) (oB S pl n B)) = bk (nI (b * 2 ^ pl + 1)) (mE M (nI (B * 2 ^ pl)) (oB S pl n B)) := by
      intro bk
      unfold j_X10_findEnds_115 j_X10_findEnds_116 j_X10_findEnds_132
      rw [if_pos rfl, nm_eq, if_pos rfl, nm_eq, show (sI (mE M (nI (B * 2 ^ pl)) (oB S pl n B)) 9 ((mE M (nI (B * 2 ^ pl)) (oB S pl n B)).1 9)).1 10 = oB S pl n B from rfl, show (mE M (nI (B * 2 ^ pl)) (oB S pl n B)).1 9 = nI (B * 2 ^ pl) from rfl, mE_mE, show nI (b * 2 ^ pl) + 1 = nI (b * 2 ^ pl + 1) from nI_1 _]
    rw [j1, j2, j3, show nI b + 1 = nI (b + 1) from nI_1 b]
    by_cases c1 : absI (oB S pl n b) < absI (oB S pl n B)
    · rw [if_pos c1, if_pos c1]
      exact take
    rw [if_neg c1, if_neg c1]
    by_cases c2 : absI (oB S pl n b) = absI (oB S pl n B)
    · rw [if_pos c2, if_pos c2]
      by_cases c3 : nI (tnN B ld 0 n) ≤ nI (tnN b ld 0 n)
      · rw [if_pos c3, if_pos c3]
        exact keep
      · rw [if_neg c3, if_neg c3]
        exact take
    · rw [if_neg c2, if_neg c2]
      exact keep
theorem ends_first {S M : St} {pl n : Nat} (hE : PgE S M) (p0 : M.2.1 7 0 = nI pl) (hn : pl + n ≤ 8) (f : Nat) (z : Int32) : l_X10_findEnds_33 (nI n) (nI (2 ^ (pl + n) - 2 ^ pl)) (f + 1) (nI 0) (mE M (-9) z) = l_X10_findEnds_33 (nI n) (nI (2 ^ (pl + n) - 2 ^ pl)) f (nI 1) (mE M (nI 0) (oB S pl n 0)) := by
  have h8 := pow8 (pl + n) (by omega)
  have hp1 : 0 < 2 ^ pl := Nat.pow_pos (by omega)
  have hE' : PgE S (mE M (-9) z) := hE
  have p0' : (mE M (-9) z).2.1 7 0 = nI pl := p0
  have hm := msk pl (by omega) n (by omega) (by omega) 0 (by omega) (by omega)
  rw [Nat.zero_mod, decide_eq_true (rfl : 0 = 0)] at hm
  rw [l_X10_findEnds_33, if_neg (by rw [ltN (by omega) (by omega)]; omega), if_pos (of_decide_eq_true hm), offM hE' p0' (by omega) (by omega)]
  simp only [bSome]
  rw [if_pos (show (mE M (-9) z).1 9 = -9 from rfl)]
  unfold j_X10_findEnds_111 j_X10_findEnds_116 j_X10_findEnds_132
  rw [if_neg (show ¬ (1 : Int32) = 0 by decide), nm_eq, if_neg (show ¬ (1 : Int32) = 0 by decide), nm_eq, mE_mE, show nI 0 + 1 = nI 1 from rfl]
  rw [show sumI (fun s => ers S s (nI (0 / 2 ^ s % 2))) pl n = oB S pl n 0 by unfold oB; rw [Nat.zero_mul]]
theorem op_ends {S M : St} (h : Inv S M) (x y : Int32) : ∃ r M', f_X9_ends x y S = some r ∧ f_X10_ends x y M = some (r, M') ∧ Inv S M' := by
  have h0 := h
  obtain ⟨tl, st, ar, ct, fi, fl, tc, h⟩ := h
  have hW := h.2.2.1
  have e5 : S.1 12 = M.2.1 7 5 := hW.1.2.2.2.2.2.1
  obtain ⟨pl, hpl, hst, h10, p0, h6, h5, hl, -⟩ := h.get
  obtain ⟨ld, hld, h12⟩ : ∃ ld : Nat, ld < 2 ∧ S.1 12 = nI ld := by
    rcases hl with q | q
    · exact ⟨0, by omega, q⟩
    · exact ⟨1, by omega, q⟩
  have hE : PgE S (sI M 0 0) := PgE.of h.2.1 h.2.2.1
  have p5 : (sI M 0 0).2.1 7 5 = nI ld := by rw [sI2, ← e5, h12]
  unfold f_X9_ends f_X10_ends
  rw [nm_eq, ahead_eq h5 p0 hpl]
  simp only [bSome]
  rcases (or_assoc.mpr (pk_ix x (n := st - pl + 1) (by omega))) with hx | ⟨n, hn, rfl⟩
  · rw [(reach_no h6 h10 hpl hst hx).1, (reach_no h6 h10 hpl hst hx).2]
    simp only [bSome]
    rw [if_pos trivial, if_pos trivial]
    exact ⟨_, _, rfl, rfl, h0.t 0⟩
  rw [(reach_yes h6 h10 hpl hst hn).1, (reach_yes h6 h10 hpl hst hn).2]
  simp only [bSome]
  rw [if_neg (show ¬ ((1 : Int32) = 0) by decide), if_neg (show ¬ ((1 : Int32) = 0) by decide), show (0 : Int64) = (0 : Int32).toInt64 from rfl, show (1 : Int64) = (1 : Int32).toInt64 from rfl]
  have z1 : (1 : Int32).toInt = 1 := rfl
  have z0 : (0 : Int32).toInt = 0 := rfl
  by_cases c1 : y < 0
  · rw [if_pos c1, in_no (Or.inl c1)]
    simp only [bSome]
    rw [if_pos trivial]
    exact ⟨_, _, rfl, rfl, h0.t 0⟩
  rw [if_neg c1]
  by_cases c2 : y ≤ 1
  · have hy0 : 0 ≤ y := by rw [fa_lt] at c1; rw [fa_le]; omega
    rw [if_pos c2, in_yes hy0 c2]
    simp only [bSome]
    rw [if_neg (show ¬ ((1 : Int32) = 0) by decide)]
    have h8 := pow8 (pl + n) (by omega)
    have h8n := pow8 n (by omega)
    have hp1 : 0 < 2 ^ pl := Nat.pow_pos (by omega)
    have hn1 : 0 < 2 ^ n := Nat.pow_pos (by omega)
    have hpow : 2 ^ (pl + n) = 2 ^ n * 2 ^ pl := by rw [Nat.pow_add, Nat.mul_comm]
    have hge : 2 ^ pl ≤ 2 ^ (pl + n) := Nat.pow_le_pow_right (by omega) (by omega)
    obtain ⟨B, hB, eX, eM⟩ := ends_run (st := st) (n := n) hE p0 p5 hld h10 h12 (by omega) (2 ^ n - 1) 1 0 fuel (999 - (2 ^ n - 1) * 2 ^ pl) (by omega) (by rw [fuelv]; omega) (by omega) (by omega) (by rw [Nat.sub_mul]; omega)
    have hBp : B * 2 ^ pl < 256 := by
      have : B * 2 ^ pl < 2 ^ n * 2 ^ pl := Nat.mul_lt_mul_of_pos_right hB hp1
      omega
    have gX : f_X1_bestPlan (nI n) S = some (nI (B * 2 ^ pl)) := by
      unfold f_X1_bestPlan f_X3_bentOf
      rw [show (0 : Int32) = nI 0 from rfl, offX h6 hst h.2.1.2.2.2.2.2 h10 (by omega) (by omega), turns_x h12 hld (by omega) (by omega), if_neg (show ¬ (1 : Int32) = nI 0 by decide), if_pos rfl]
      simp only [bSome]
      rw [show sumI (fun s => ers S s (nI (0 / 2 ^ s % 2))) pl n = oB S pl n 0 by unfold oB; rw [Nat.zero_mul], nm_eq]
      rw [Nat.zero_mul] at eX
      rw [show (1 : Int32) = nI 1 from rfl, show l_X1_bestPlan_45 (nI n) (oB S pl n 0) (S.1 5 - S.1 4) S fuel (nI 0) (if nI 0 ≤ oB S pl n 0 then oB S pl n 0 else nI 0 - oB S pl n 0) (nI (tnN 0 ld 0 n)) (nI 1) = _ from eX]
      simp only [bSome]
    have gM : f_X10_findEnds (nI n) (sI M 0 0) = some (mE (sI M 0 0) (nI (B * 2 ^ pl)) (oB S pl n B)) := by
      unfold f_X10_findEnds
      rw [p0, nI_add, shl1 (pl + n) (by omega), shl1 pl (by omega), nI_sub hge, nm_eq, nm_eq, nm_eq]
      rw [show l_X10_findEnds_33 (nI n) (nI (2 ^ (pl + n) - 2 ^ pl)) fuel 0 (sI (sI (sI M 0 0) 9 (-9)) 10 0) = _ from ends_first hE p0 (show pl + n ≤ 8 by omega) 999 0]
      rw [show 999 - (2 ^ n - 1) * 2 ^ pl + (2 ^ n - 1) * 2 ^ pl = 999 by rw [Nat.sub_mul]; omega, Nat.sub_self, Nat.zero_mul, Nat.zero_add] at eM
      rw [eM]
      simp only [bSome]
    rw [gX, gM]
    simp only [bSome]
    have hI : Inv S (mE (sI M 0 0) (nI (B * 2 ^ pl)) (oB S pl n B)) := (h0.t 0).m rfl rfl rfl rfl rfl rfl (fun _ _ => rfl) rfl
    by_cases c3 : y = 0
    · rw [if_pos c3, if_pos c3]
      exact ⟨_, _, rfl, rfl, hI⟩
    · rw [if_neg c3, if_neg c3, offX h6 hst h.2.1.2.2.2.2.2 h10 (by omega) hBp]
      simp only [bSome]
      exact ⟨_, _, rfl, rfl, hI⟩
  · rw [if_neg c2, in_no (Or.inr (by rw [fa_le] at c2; rw [fa_lt]; omega))]
    simp only [bSome]
    rw [if_pos trivial]
    exact ⟨_, _, rfl, rfl, h0.t 0⟩
