/-! ===== step: the fewest that step ===== -/
theorem subM {x y : Int32} (h : x &&& (y ^^^ (-1)) = 0) : x &&& y = x := by
  have h := congrArg Int32.toBitVec h
  refine Int32.toBitVec_inj.mp ?_
  rw [Int32.toBitVec_and, Int32.toBitVec_xor, show (-1 : Int32).toBitVec = BitVec.allOnes 32 from rfl, show (0 : Int32).toBitVec = 0#32 from rfl, BitVec.xor_allOnes] at h
  rw [Int32.toBitVec_and]
  refine BitVec.eq_of_getLsbD_eq fun i hi => ?_
  have e := congrArg (fun v => BitVec.getLsbD v i) h
  simp only [BitVec.getLsbD_and, BitVec.getLsbD_not, BitVec.getLsbD_zero, hi, decide_true, Bool.true_and] at e
  rw [BitVec.getLsbD_and]
  cases q : x.toBitVec.getLsbD i
  · rfl
  · rw [q] at e
    cases w : y.toBitVec.getLsbD i
    · rw [w] at e; exact absurd e (by decide)
    · rfl
theorem subN {q a : Nat} (hq : q < 256) (h : nI q &&& (nI a ^^^ (-1)) = 0) : q &&& a = q := by
  have e := subM h
  rw [fa_and] at e
  have : q &&& a ≤ q := Nat.and_le_left
  exact (eqN (by omega) (by omega)).mp e
theorem sub_mod {q a pl : Nat} (hq : q < 256) (ha : a % 2 ^ pl = 0) (h : nI q &&& (nI a ^^^ (-1)) = 0) : q % 2 ^ pl = 0 := by
  have e := subN hq h
  have e2 := congrArg (fun z => z % 2 ^ pl) e
  simp only [Nat.and_mod_two_pow, ha, Nat.and_zero] at e2
  exact e2.symm
theorem sub_le {q a : Nat} (hq : q < 256) (h : nI q &&& (nI a ^^^ (-1)) = 0) : q ≤ a := by
  have e := subN hq h
  have : q &&& a ≤ a := Nat.and_le_right
  omega
theorem sub_bit {q a : Nat} (hq : q < 256) (h : nI q &&& (nI a ^^^ (-1)) = 0) (j : Nat) (hj : q / 2 ^ j % 2 = 1) : a / 2 ^ j % 2 = 1 := by
  have e := subN hq h
  have e2 := congrArg (fun z => z.testBit j) e
  simp only [Nat.testBit_and] at e2
  have t : q.testBit j = true := by rw [Nat.testBit_eq_decide_div_mod_eq, hj]; rfl
  rw [t, Bool.true_and, Nat.testBit_eq_decide_div_mod_eq] at e2
  exact of_decide_eq_true e2
set_option maxRecDepth 100000 in
theorem put_lo : ∀ i, i < 8 → ∀ acc, acc < 256 → acc < 2 ^ i → ∀ j, j < 8 → j < i → (acc + 2 ^ i) / 2 ^ j % 2 = acc / 2 ^ j % 2 := by decide +kernel
theorem put_md (i : Nat) (acc : Nat) (pl : Nat) (h : pl ≤ i) (hm : acc % 2 ^ pl = 0) : (acc + 2 ^ i) % 2 ^ pl = 0 := by
  obtain ⟨d, rfl⟩ : ∃ d, i = pl + d := ⟨i - pl, by omega⟩
  rw [Nat.pow_add, Nat.add_mul_mod_self_left, hm]
theorem asl_run {S M : St} {st pl ld : Nat} (hE : PgE S M) (h6 : S.1 6 = nI st) (h5 : M.1 5 = nI st) (hst : st ≤ 8) (p5 : M.2.1 7 5 = nI ld) (hld : ld < 2) (x1 : Int32) : ∀ (k i f g acc : Nat) (off : Int32), i + k = st → k < f → k < g → acc < 2 ^ i → acc % 2 ^ pl = 0 → pl ≤ i → (∀ j, j < i → acc / 2 ^ j % 2 = 1 → S.2.1 1 j = 1) →
    ∃ a, a < 2 ^ st ∧ a % 2 ^ pl = 0 ∧ (∀ j, j < st → a / 2 ^ j % 2 = 1 → S.2.1 1 j = 1) ∧ l_X1_aslantBits_10 S f (nI acc) (nI i) = some (nI a) ∧ l_X10_step_32 x1 M g (nI acc) off (nI i) = some (nI a, off + sumI (fun s => ers S s (nI ld)) i k) := by
  intro k
  induction k with
  | zero =>
    intro i f g acc off hi hf hg ha hm hp hb
    obtain ⟨f, rfl⟩ : ∃ m, f = m + 1 := ⟨f - 1, by omega⟩
    obtain ⟨g, rfl⟩ : ∃ m, g = m + 1 := ⟨g - 1, by omega⟩
    have e : i = st := by omega
    subst e
    refine ⟨acc, ha, hm, hb, ?_, ?_⟩
    · rw [l_X1_aslantBits_10, h6, if_pos ((leN (by omega) (by omega)).mpr (Nat.le_refl _))]
    · rw [l_X10_step_32, h5, if_pos ((leN (by omega) (by omega)).mpr (Nat.le_refl _)), sumI, Int32.add_zero]
  | succ k ih =>
    intro i f g acc off hi hf hg ha hm hp hb
    obtain ⟨f, rfl⟩ : ∃ m, f = m + 1 := ⟨f - 1, by omega⟩
    obtain ⟨g, rfl⟩ : ∃ m, g = m + 1 := ⟨g - 1, by omega⟩
    have h8 := pow8 i (by omega)
    have hl : nI ld = nI 0 ∨ nI ld = nI 1 := by
      rcases (show ld = 0 ∨ ld = 1 by omega) with q | q <;> rw [q]
      · exact Or.inl rfl
      · exact Or.inr rfl
    have hp2 : 2 ^ (i + 1) = 2 ^ i + 2 ^ i := by rw [Nat.pow_succ]; omega
    rw [l_X1_aslantBits_10, h6, if_neg (by rw [leN (by omega) (by omega)]; omega), kindOf_yes h6 hst (by omega), l_X10_step_32, h5, if_neg (by rw [leN (by omega) (by omega)]; omega), if_neg (inN (show i < 8 by omega) (by omega)), clN (by omega), ← hE.2.2.2.2.1]
    simp only [bSome, nm_eq]
    unfold j_X10_step_61
    rw [p5, errorOf_eq hE (by omega) hl]
    simp only [bSome]
    rw [show nI i + 1 = nI (i + 1) from nI_1 i, sumI, ← Int32.add_assoc]
    by_cases c : S.2.1 1 i = 1
    · rw [if_pos c, if_pos c, show nI acc ||| ((1 : Int32) <<< (nI i &&& 31)) = nI (acc + 1 * 2 ^ i) from bit_put i (by omega) 1 (by omega) acc ha, Nat.one_mul]
      refine ih (i + 1) f g _ _ (by omega) (by omega) (by omega) (by omega) (put_md i acc pl hp hm) (by omega) (fun j hj hb1 => ?_)
      by_cases d : j = i
      · rw [d]; exact c
      · rw [put_lo i (by omega) acc (by omega) ha j (by omega) (by omega)] at hb1
        exact hb j (by omega) hb1
    · rw [if_neg c, if_neg c, show nI acc ||| (0 : Int32) = nI acc by rw [show (0 : Int32) = nI 0 from rfl, fa_or, Nat.or_zero]]
      refine ih (i + 1) f g _ _ (by omega) (by omega) (by omega) (by omega) hm (by omega) (fun j hj hb1 => ?_)
      by_cases d : j = i
      · rw [d, Nat.div_eq_of_lt ha] at hb1
        exact absurd hb1 (by decide)
      · exact hb j (by omega) hb1
/-- what stepping at a stage is more -/
def mrI (S : St) (p s : Nat) : Int32 := if p / 2 ^ s % 2 = 1 then gnd 2 (S.2.1 2 s) - gnd 1 (S.2.1 2 s) else 0
theorem moreX_run {S : St} {st p : Nat} (h6 : S.1 6 = nI st) (hst : st ≤ 8) (hG : Gr st S) (hp : p < 256) (hk : ∀ j, j < st → p / 2 ^ j % 2 = 1 → S.2.1 1 j = 1) : ∀ (k i f : Nat) (acc : Int32), i + k = st → k < f → l_X1_moreByStepping_10 (nI p) S f acc (nI i) = some (acc + sumI (mrI S p) i k) := by
  intro k
  induction k with
  | zero =>
    intro i f acc hi hf
    obtain ⟨f, rfl⟩ : ∃ m, f = m + 1 := ⟨f - 1, by omega⟩
    rw [l_X1_moreByStepping_10, h6, if_pos ((leN (by omega) (by omega)).mpr (by omega)), sumI, Int32.add_zero]
  | succ k ih =>
    intro i f acc hi hf
    obtain ⟨f, rfl⟩ : ∃ m, f = m + 1 := ⟨f - 1, by omega⟩
    rw [l_X1_moreByStepping_10, h6, if_neg (by rw [leN (by omega) (by omega)]; omega), bit_get i (by omega) p hp, sumI, ← Int32.add_assoc]
    rw [show nI i + 1 = nI (i + 1) from nI_1 i]
    by_cases c : p / 2 ^ i % 2 = 1
    · rw [c, if_pos (show nI 1 = 1 from rfl), stepped_eq h6 hst (by omega), groundAt_eq h6 hst hG (by omega), hk i (by omega) c]
      simp only [bSome]
      rw [ih (i + 1) f _ (by omega) (by omega), show mrI S p i = gnd 2 (S.2.1 2 i) - gnd 1 (S.2.1 2 i) by unfold mrI; rw [if_pos c]]
    · rw [show p / 2 ^ i % 2 = 0 by omega, if_neg (show ¬ nI 0 = 1 by decide), ih (i + 1) f _ (by omega) (by omega), show mrI S p i = 0 by unfold mrI; rw [if_neg c], Int32.add_zero]
theorem moreM_run {S M : St} {st p : Nat} (hE : PgE S M) (h5 : M.1 5 = nI st) (hst : st ≤ 8) (hp : p < 256) (x1 x2 x3 x4 : Int32) : ∀ (k i f : Nat) (acc : Int32), i + k = st → k < f → l_X10_step_132 x1 x2 x3 x4 (nI p) M f acc (nI i) = some (acc + sumI (mrI S p) i k) := by
  intro k
  induction k with
  | zero =>
    intro i f acc hi hf
    obtain ⟨f, rfl⟩ : ∃ m, f = m + 1 := ⟨f - 1, by omega⟩
    rw [l_X10_step_132, h5, if_pos ((leN (by omega) (by omega)).mpr (by omega)), sumI, Int32.add_zero]
  | succ k ih =>
    intro i f acc hi hf
    obtain ⟨f, rfl⟩ : ∃ m, f = m + 1 := ⟨f - 1, by omega⟩
    rw [l_X10_step_132, h5, if_neg (by rw [leN (by omega) (by omega)]; omega), hasm_eq (by omega) hp, sumI, ← Int32.add_assoc]
    simp only [bSome]
    rw [show nI i + 1 = nI (i + 1) from nI_1 i]
    by_cases c : p / 2 ^ i % 2 = 1
    · rw [c, if_neg (show ¬ nI 1 = 0 by decide), ground_m (by omega), ground_m (by omega), ← hE.2.2.2.2.2]
      simp only [bSome]
      rw [ih (i + 1) f _ (by omega) (by omega), show mrI S p i = gnd 2 (S.2.1 2 i) - gnd 1 (S.2.1 2 i) by unfold mrI; rw [if_pos c]]
    · rw [show p / 2 ^ i % 2 = 0 by omega, if_pos (show nI 0 = 0 from rfl), ih (i + 1) f _ (by omega) (by omega), show mrI S p i = 0 by unfold mrI; rw [if_neg c]]
theorem sumI_zero (f : Nat → Int32) : ∀ (k i : Nat), (∀ j, i ≤ j → j < i + k → f j = 0) → sumI f i k = 0
  | 0, _, _ => rfl
  | k + 1, i, h => by rw [sumI, h i (by omega) (by omega), sumI_zero f k (i + 1) (fun j h1 h2 => h j (by omega) (by omega))]; rfl
theorem low_bit {b pl j : Nat} (h : j < pl) : b * 2 ^ pl / 2 ^ j % 2 = 0 := by
  obtain ⟨d, rfl⟩ : ∃ d, pl = j + (d + 1) := ⟨pl - j - 1, by omega⟩
  rw [Nat.pow_add, ← Nat.mul_assoc, Nat.mul_comm b, Nat.mul_assoc, Nat.mul_div_cancel_left _ (Nat.pow_pos (by omega)), Nat.pow_succ, ← Nat.mul_assoc, Nat.mul_mod_left]
theorem step_end {M : St} {a q : Nat} (x1 off x4 : Int32) {g : Nat} (hg : 0 < g) (ha : a < 256) (hq : q ≤ 256) (h : a < q) : l_X10_step_91 x1 (nI a) off M g x4 (nI q) = some x4 := by
  obtain ⟨g, rfl⟩ : ∃ m, g = m + 1 := ⟨g - 1, by omega⟩
  rw [l_X10_step_91, if_pos ((ltN (by omega) (by omega)).mpr h)]
theorem skipS {M : St} {pl a : Nat} (ha : a < 256) (hm : a % 2 ^ pl = 0) (x1 off x4 : Int32) : ∀ (k q f : Nat), (∀ i, i < k → (q + i) % 2 ^ pl ≠ 0) → q + k ≤ 256 → 0 < f → l_X10_step_91 x1 (nI a) off M (f + k) x4 (nI q) = l_X10_step_91 x1 (nI a) off M f x4 (nI (q + k)) := by
  intro k
  induction k with
  | zero => intro q f _ _ _; rfl
  | succ k ih =>
    intro q f h1 h2 hf
    by_cases c : a < q
    · rw [step_end x1 off x4 (by omega) ha (by omega) c, step_end x1 off x4 hf ha (by omega) (by omega)]
    · rw [show f + (k + 1) = (f + k) + 1 from rfl, l_X10_step_91, if_neg (by rw [ltN (by omega) (by omega)]; exact c), if_neg (show ¬ (nI q &&& (nI a ^^^ (-1))) = 0 from fun z => h1 0 (by omega) (sub_mod (by omega) hm z)), show nI q + 1 = nI (q + 1) from nI_1 q, ih (q + 1) f (fun i hi => by rw [show q + 1 + i = q + (i + 1) by omega]; exact h1 (i + 1) (by omega)) (by omega) hf, show q + 1 + k = q + (k + 1) by omega]
set_option maxRecDepth 100000 in
theorem pcb_le : ∀ p, p < 256 → pcb p ≤ 8 := by decide +kernel
theorem step_run {S M : St} {st pl n a : Nat} (hE : PgE S M) (h6 : S.1 6 = nI st) (h5 : M.1 5 = nI st) (hst : st ≤ 8) (hG : Gr st S) (h10 : S.1 10 = nI pl) (hn : pl + n = st) (ha : a < 2 ^ st) (hm : a % 2 ^ pl = 0) (hk : ∀ j, j < st → a / 2 ^ j % 2 = 1 → S.2.1 1 j = 1) (x1 off : Int32) : ∀ (r b f g : Nat) (bs fw : Int32), b + r = 2 ^ n → r < f → 0 < g → ((bs = -9 ∧ fw = 9) ∨ ∃ B, B < 256 ∧ bs = nI B ∧ fw = nI (pcb B)) →
    ∃ bs', l_X1_fewestStepped_57 x1 (nI n) off (nI a) S f bs fw (nI b) = some bs' ∧ l_X10_step_91 x1 (nI a) off M (g + r * 2 ^ pl) bs (nI (b * 2 ^ pl)) = some bs' := by
  have h8 := pow8 st (by omega)
  have h8n := pow8 n (by omega)
  have hp1 : 0 < 2 ^ pl := Nat.pow_pos (by omega)
  have hpow : 2 ^ st = 2 ^ n * 2 ^ pl := by rw [← hn, Nat.pow_add, Nat.mul_comm]
  intro r
  induction r with
  | zero =>
    intro b f g bs fw hb hf hg hR
    obtain ⟨f, rfl⟩ : ∃ m, f = m + 1 := ⟨f - 1, by omega⟩
    have eb : b = 2 ^ n := by omega
    refine ⟨bs, ?_, ?_⟩
    · rw [l_X1_fewestStepped_57, shl1 n (by omega), if_pos ((leN (by omega) (by omega)).mpr (by omega))]
    · rw [eb, ← hpow]
      exact step_end x1 off bs (by omega) (by omega) h8 ha
  | succ r ih =>
    intro b f g bs fw hb hf hg hR
    obtain ⟨f, rfl⟩ : ∃ m, f = m + 1 := ⟨f - 1, by omega⟩
    have hbb : (b + 1) * 2 ^ pl = b * 2 ^ pl + 2 ^ pl := by rw [Nat.add_mul, Nat.one_mul]
    have hbp : (b + 1) * 2 ^ pl ≤ 2 ^ st := by rw [hpow]; exact Nat.mul_le_mul_right _ (by omega)
    have j1 : ∀ (bk : Int32 → Int32 → Int32 → Option Int32) (x8 : Int32), j_X1_fewestStepped_101 bk x1 bs fw (nI n) off (nI a) (nI b) x8 S = bk bs fw (nI (b + 1)) := by
      intro bk x8
      unfold j_X1_fewestStepped_101 j_X1_fewestStepped_102
      rw [if_pos rfl, show nI b + 1 = nI (b + 1) from nI_1 b]
    rw [l_X1_fewestStepped_57, shl1 n (by omega), if_neg (by rw [leN (by omega) (by omega)]; omega), h10, shlb pl (by omega) b (by omega), j1]
    have hfu : g + (r + 1) * 2 ^ pl = g + r * 2 ^ pl + (2 ^ pl - 1) + 1 := by rw [Nat.add_mul, Nat.one_mul]; omega
    have sk : ∀ x4, l_X10_step_91 x1 (nI a) off M (g + r * 2 ^ pl + (2 ^ pl - 1)) x4 (nI (b * 2 ^ pl + 1)) = l_X10_step_91 x1 (nI a) off M (g + r * 2 ^ pl) x4 (nI ((b + 1) * 2 ^ pl)) := by
      intro x4
      rw [skipS (pl := pl) (by omega) hm x1 off x4 (2 ^ pl - 1) (b * 2 ^ pl + 1) (g + r * 2 ^ pl) (by
        intro i hi
        rw [show b * 2 ^ pl + 1 + i = (1 + i) + b * 2 ^ pl by omega, Nat.add_mul_mod_self_right, Nat.mod_eq_of_lt (by omega)]
        omega) (by omega) (by omega), show b * 2 ^ pl + 1 + (2 ^ pl - 1) = (b + 1) * 2 ^ pl by omega]
    have keep := ih (b + 1) f g bs fw (by omega) (by omega) hg hR
    by_cases c0 : a < b * 2 ^ pl
    · rw [if_neg (fun z => by have := sub_le (by omega) z; omega)]
      obtain ⟨bs', q1, q2⟩ := keep
      refine ⟨bs', q1, ?_⟩
      rw [step_end x1 off bs (by omega) (by omega) (by omega) (show a < (b + 1) * 2 ^ pl by omega)] at q2
      rw [step_end x1 off bs (by omega) (by omega) (by omega) c0, q2]
    rw [hfu, l_X10_step_91, if_neg (show ¬ nI a < nI (b * 2 ^ pl) by rw [ltN (by omega) (by omega)]; exact c0), show nI (b * 2 ^ pl) + 1 = nI (b * 2 ^ pl + 1) from nI_1 _, sk]
    by_cases c1 : (nI (b * 2 ^ pl) &&& (nI a ^^^ (-1))) = 0
    · rw [if_pos c1, if_pos c1, bitC (b * 2 ^ pl) (by omega)]
      simp only [bSome]
      have hk' : ∀ j, j < st → b * 2 ^ pl / 2 ^ j % 2 = 1 → S.2.1 1 j = 1 := fun j hj hb1 => hk j hj (sub_bit (by omega) c1 j hb1)
      have hp8 := pcb_le (b * 2 ^ pl) (by omega)
      have take := ih (b + 1) f g (nI (b * 2 ^ pl)) (nI (pcb (b * 2 ^ pl))) (by omega) (by omega) hg (Or.inr ⟨_, by omega, rfl, rfl⟩)
      have j2 : ∀ (bk : Int32 → Int32 → Int32 → Option Int32), j_X1_fewestStepped_102 bk x1 bs fw (nI n) off (nI a) (nI b) (nI (b * 2 ^ pl)) 1 S = if x1 < absI (off + sumI (mrI S (b * 2 ^ pl)) pl n) then bk bs fw (nI (b + 1)) else bk (nI (b * 2 ^ pl)) (nI (pcb (b * 2 ^ pl))) (nI (b + 1)) := by
        intro bk
        unfold j_X1_fewestStepped_102 f_X1_moreByStepping
        rw [if_neg (show ¬ (1 : Int32) = 0 by decide), h10, moreX_run h6 hst hG (by omega) hk' n pl fuel 0 hn (by rw [fuelv]; omega), bitC (b * 2 ^ pl) (by omega)]
        simp only [bSome]
        rw [Int32.zero_add, show nI b + 1 = nI (b + 1) from nI_1 b]
        rfl
      have hsp : sumI (mrI S (b * 2 ^ pl)) 0 st = sumI (mrI S (b * 2 ^ pl)) pl n := by
        rw [← hn, sumI_split, sumI_zero _ pl 0 (fun j _ hj => by unfold mrI; rw [if_neg (by rw [low_bit (by omega)]; decide)]), Int32.zero_add, Nat.zero_add]
      have j3 : ∀ (bk : Int32 → Int32 → Option Int32), j_X10_step_126 bk x1 (nI a) off bs (nI (b * 2 ^ pl)) M = if x1 < absI (off + sumI (mrI S (b * 2 ^ pl)) pl n) then bk bs (nI (b * 2 ^ pl + 1)) else bk (nI (b * 2 ^ pl)) (nI (b * 2 ^ pl + 1)) := by
        intro bk
        unfold j_X10_step_126
        rw [show (0 : Int32) = nI 0 from rfl, moreM_run hE h5 hst (by omega) x1 (nI a) off bs st 0 fuel off (by omega) (by rw [fuelv]; omega), hsp]
        simp only [bSome]
        rw [size_abs]
        simp only [bSome]
        rw [show nI (b * 2 ^ pl) + 1 = nI (b * 2 ^ pl + 1) from nI_1 _]
        rfl
      rw [j2, j3, sk, sk]
      rcases hR with ⟨rfl, rfl⟩ | ⟨B, hB, rfl, rfl⟩
      · rw [if_pos rfl, if_neg (show ¬ (9 : Int32) ≤ nI (pcb (b * 2 ^ pl)) by rw [show (9 : Int32) = nI 9 from rfl, leN (by omega) (by omega)]; omega)]
        by_cases c2 : x1 < absI (off + sumI (mrI S (b * 2 ^ pl)) pl n)
        · rw [if_pos c2, if_pos c2]
          exact keep
        · rw [if_neg c2, if_neg c2]
          exact take
      · rw [if_neg (show ¬ nI B = (-9 : Int32) from fun z => by
          have y := congrArg Int32.toInt z
          rw [nI_toInt (by omega)] at y
          rw [show (-9 : Int32).toInt = -9 from rfl] at y
          omega), manyE _ (by omega), manyE _ hB]
        simp only [bSome]
        by_cases c3 : nI (pcb B) ≤ nI (pcb (b * 2 ^ pl))
        · rw [if_pos c3, if_pos c3]
          exact keep
        · rw [if_neg c3, if_neg c3]
          by_cases c2 : x1 < absI (off + sumI (mrI S (b * 2 ^ pl)) pl n)
          · rw [if_pos c2, if_pos c2]
            exact keep
          · rw [if_neg c2, if_neg c2]
            exact take
    · rw [if_neg c1, if_neg c1]
      exact keep
theorem op_step {S M : St} (h : Inv S M) (x : Int32) : ∃ r M', f_X9_step x S = some r ∧ f_X10_step x M = some (r, M') ∧ Inv S M' := by
  have h0 := h
  obtain ⟨tl, st, ar, ct, fi, fl, tc, h⟩ := h
  have hW := h.2.2.1
  have e5 : S.1 12 = M.2.1 7 5 := hW.1.2.2.2.2.2.1
  obtain ⟨pl, hpl, hst, h10, p0, h6, h5, hl, -⟩ := h.get
  obtain ⟨ld, hld, h12⟩ : ∃ ld : Nat, ld < 2 ∧ S.1 12 = nI ld := by
    rcases hl with q | q
    · exact ⟨0, by omega, q⟩
    · exact ⟨1, by omega, q⟩
  have hE : PgE S (sI M 0 0) := PgE.of h.2.1 h.2.2.1
  have p5 : (sI M 0 0).2.1 7 5 = nI ld := by rw [sI2, ← e5, h12]
  unfold f_X9_step f_X10_step
  rw [nm_eq, show (0 : Int64) = (0 : Int32).toInt64 from rfl, show (99 : Int64) = (99 : Int32).toInt64 from rfl]
  have z1 : (99 : Int32).toInt = 99 := rfl
  have z0 : (0 : Int32).toInt = 0 := rfl
  by_cases c1 : x < 0
  · rw [if_pos c1, in_no (Or.inl c1)]
    simp only [bSome]
    rw [if_pos trivial]
    exact ⟨_, _, rfl, rfl, h0.t 0⟩
  rw [if_neg c1]
  by_cases c2 : x ≤ 99
  · have hy0 : 0 ≤ x := by rw [fa_lt] at c1; rw [fa_le]; omega
    rw [if_pos c2, in_yes hy0 c2]
    simp only [bSome]
    rw [if_neg (show ¬ ((1 : Int32) = 0) by decide)]
    have h8 := pow8 st (by omega)
    obtain ⟨n, hn⟩ : ∃ n, pl + n = st := ⟨st - pl, by omega⟩
    have h8n := pow8 n (by omega)
    have hpow : 2 ^ st = 2 ^ n * 2 ^ pl := by rw [← hn, Nat.pow_add, Nat.mul_comm]
    obtain ⟨a, ha, hm, hk, eX, eM⟩ := asl_run (pl := pl) hE h6 h5 hst p5 hld x n pl fuel fuel 0 0 hn (by rw [fuelv]; omega) (by rw [fuelv]; omega) (Nat.pow_pos (by omega)) (Nat.zero_mod _) (by omega) (fun j _ q => by rw [Nat.zero_div] at q; exact absurd q (by decide))
    obtain ⟨bs, fX, fM⟩ := step_run hE h6 h5 hst h.2.1.2.2.2.2.2 h10 hn ha hm hk x (sumI (fun s => ers S s (nI ld)) pl n) (2 ^ n) 0 fuel (1000 - 2 ^ n * 2 ^ pl) (-9) 9 (by omega) (by rw [fuelv]; omega) (by omega) (Or.inl ⟨rfl, rfl⟩)
    have oX : ∀ p, p < 256 → (∀ s, s < 8 → p / 2 ^ s % 2 = ld) → f_X1_offBy (nI n) (nI p) S = some (sumI (fun s => ers S s (nI ld)) pl n) := by
      intro p hp hs
      rw [offX h6 hst h.2.1.2.2.2.2.2 h10 (by omega) hp]
      congr 1
      exact sumI_cong n pl (fun j _ hj => by rw [hs j (by omega)])
    have gX : ∀ p, p < 256 → (∀ s, s < 8 → p / 2 ^ s % 2 = ld) → j_X1_fewestStepped_43 x (-9) 9 (nI n) (nI p) (nI n) S = some bs := by
      intro p hp hs
      unfold j_X1_fewestStepped_43 f_X1_aslantBits
      rw [oX p hp hs, h10, show (0 : Int32) = nI 0 from rfl, eX]
      simp only [bSome]
      rw [show nI 0 = nI 0 from rfl, fX]
      rfl
    have eF : f_X1_fewestStepped x S = some bs := by
      unfold f_X1_fewestStepped
      rw [h12, h6, h10, nI_sub hpl, show st - pl = n by omega]
      rcases (show ld = 0 ∨ ld = 1 by omega) with q | q
      · rw [q, if_pos (show nI 0 = 0 from rfl)]
        exact gX 0 (by omega) (fun s _ => by rw [q, Nat.zero_div])
      · rw [q, if_neg (show ¬ nI 1 = 0 by decide)]
        exact gX 255 (by omega) (fun s hs => by rw [q]; revert s; decide)
    rw [eF]
    simp only [bSome]
    rw [p0, show l_X10_step_32 x (sI M 0 0) fuel 0 0 (nI pl) = _ from eM]
    simp only [bSome]
    rw [Int32.zero_add]
    rw [show 1000 - 2 ^ n * 2 ^ pl + 2 ^ n * 2 ^ pl = fuel by rw [fuelv]; omega, Nat.zero_mul] at fM
    rw [show l_X10_step_91 x (nI a) (sumI (fun s => ers S s (nI ld)) pl n) (sI M 0 0) fuel (-9) 0 = _ from fM]
    simp only [bSome]
    exact ⟨_, _, rfl, rfl, h0.t 0⟩
  · rw [if_neg c2, in_no (Or.inr (by rw [fa_le] at c2; rw [fa_lt]; omega))]
    simp only [bSome]
    rw [if_pos trivial]
    exact ⟨_, _, rfl, rfl, h0.t 0⟩
