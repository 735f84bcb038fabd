/-! ===== chance ===== -/
theorem sumI_mul (f : Nat → Int32) (c : Int32) : ∀ (k i : Nat), sumI (fun s => f s * c) i k = sumI f i k * c
  | 0, _ => by rw [sumI, sumI, Int32.zero_mul]
  | k + 1, i => by rw [sumI, sumI, sumI_mul f c k (i + 1), Int32.add_mul]
theorem sumI_split (f : Nat → Int32) : ∀ (a i b : Nat), sumI f i (a + b) = sumI f i a + sumI f (i + a) b
  | 0, i, b => by rw [Nat.zero_add, sumI, Int32.zero_add, Nat.add_zero]
  | a + 1, i, b => by
    rw [show a + 1 + b = (a + b) + 1 by omega, sumI, sumI, sumI_split f a (i + 1) b, Int32.add_assoc, show i + 1 + a = i + (a + 1) by omega]
def prI (e : Nat → Int32) : Nat → Nat → Int32
  | _, 0 => 1
  | i, k + 1 => e i * prI e (i + 1) k
theorem prI_last (e : Nat → Int32) : ∀ (k i : Nat), prI e i (k + 1) = prI e i k * e (i + k)
  | 0, i => by rw [prI, prI, prI, Int32.mul_one, Int32.one_mul, Nat.add_zero]
  | k + 1, i => by
    rw [prI, prI_last e k (i + 1), ← Int32.mul_assoc, show i + 1 + k = i + (k + 1) by omega]
    rfl
theorem prI_cong {e e' : Nat → Int32} : ∀ (k i : Nat), (∀ j, i ≤ j → j < i + k → e j = e' j) → prI e i k = prI e' i k
  | 0, _, _ => rfl
  | k + 1, i, h => by
    rw [prI, prI, h i (by omega) (by omega), prI_cong k (i + 1) (fun j h1 h2 => h j (by omega) (by omega))]
/-- the weight of a set of lost ones among d stages -/
def PI (g : Nat → Int32) (d set : Nat) : Int32 := prI (fun k => if set / 2 ^ k % 2 = 1 then g k else 10 - g k) 0 d
def UI (g : Nat → Int32) (d i : Nat) : Int32 := sumI (fun s => if pcb s = i then PI g d s else 0) 0 (2 ^ d)
def LI (g : Nat → Int32) (d : Nat) : Int32 := sumI (PI g d) 0 (2 ^ d)
set_option maxRecDepth 100000 in
theorem hb_pc : ∀ d, d < 6 → ∀ s, s < 2 ^ d → pcb (2 ^ d + s) = pcb s + 1 := by decide +kernel
set_option maxRecDepth 100000 in
theorem hb_lo : ∀ d, d < 6 → ∀ s, s < 2 ^ d → ∀ k, k < d → (2 ^ d + s) / 2 ^ k % 2 = s / 2 ^ k % 2 := by decide +kernel
set_option maxRecDepth 100000 in
theorem hb_hi : ∀ d, d < 6 → ∀ s, s < 2 ^ d → (2 ^ d + s) / 2 ^ d % 2 = 1 ∧ s / 2 ^ d % 2 = 0 := by decide +kernel
theorem PI_lo (g : Nat → Int32) {d s : Nat} (hd : d < 6) (hs : s < 2 ^ d) : PI g (d + 1) s = PI g d s * (10 - g d) := by
  unfold PI
  rw [prI_last, Nat.zero_add, if_neg (by rw [(hb_hi d hd s hs).2]; decide)]
theorem PI_hi (g : Nat → Int32) {d s : Nat} (hd : d < 6) (hs : s < 2 ^ d) : PI g (d + 1) (2 ^ d + s) = PI g d s * g d := by
  unfold PI
  rw [prI_last, Nat.zero_add, if_pos (hb_hi d hd s hs).1]
  rw [prI_cong (e := fun k => if (2 ^ d + s) / 2 ^ k % 2 = 1 then g k else 10 - g k) (e' := fun k => if s / 2 ^ k % 2 = 1 then g k else 10 - g k) d 0 (fun j _ hj => by rw [hb_lo d hd s hs j (by omega)])]
theorem UI_0 (g : Nat → Int32) (i : Nat) : UI g 0 i = if i = 0 then 1 else 0 := by
  unfold UI
  rw [show 2 ^ 0 = 1 from rfl, sumI, sumI, Int32.add_zero, show pcb 0 = 0 from rfl]
  by_cases c : i = 0
  · rw [if_pos c, if_pos c.symm]; rfl
  · rw [if_neg c, if_neg (fun q => c q.symm)]
theorem UI_s (g : Nat → Int32) {d : Nat} (hd : d < 6) (i : Nat) : UI g (d + 1) i = UI g d i * (10 - g d) + (if i = 0 then 0 else UI g d (i - 1) * g d) := by
  unfold UI
  rw [show 2 ^ (d + 1) = 2 ^ d + 2 ^ d by rw [Nat.pow_succ]; omega, sumI_split, Nat.zero_add]
  have e1 : sumI (fun s => if pcb s = i then PI g (d + 1) s else 0) 0 (2 ^ d) = sumI (fun s => if pcb s = i then PI g d s else 0) 0 (2 ^ d) * (10 - g d) := by
    rw [← sumI_mul]
    refine sumI_cong _ 0 (fun j _ hj => ?_)
    by_cases c : pcb j = i
    · rw [if_pos c, if_pos c, PI_lo g hd (by omega)]
    · rw [if_neg c, if_neg c, Int32.zero_mul]
  have e2 : sumI (fun s => if pcb s = i then PI g (d + 1) s else 0) (2 ^ d) (2 ^ d) = if i = 0 then 0 else sumI (fun s => if pcb s = i - 1 then PI g d s else 0) 0 (2 ^ d) * g d := by
    rw [show sumI (fun s => if pcb s = i then PI g (d + 1) s else 0) (2 ^ d) (2 ^ d) = sumI (fun s => if pcb s = i then PI g (d + 1) s else 0) (2 ^ d + 0) (2 ^ d) from rfl, ← sumI_shift (fun s => if pcb s = i then PI g (d + 1) s else 0) (2 ^ d) 0 (2 ^ d)]
    by_cases c : i = 0
    · rw [if_pos c]
      have z : sumI (fun s => if pcb (2 ^ d + s) = i then PI g (d + 1) (2 ^ d + s) else 0) 0 (2 ^ d) = sumI (fun _ => 0) 0 (2 ^ d) := by
        refine sumI_cong _ 0 (fun j _ hj => ?_)
        rw [if_neg (by rw [hb_pc d hd j (by omega)]; omega)]
      rw [z, sumI_const, Int32.mul_zero]
    · rw [if_neg c, ← sumI_mul]
      refine sumI_cong _ 0 (fun j _ hj => ?_)
      rw [hb_pc d hd j (by omega)]
      by_cases c2 : pcb j = i - 1
      · rw [if_pos c2, if_pos (by omega), PI_hi g hd (by omega)]
      · rw [if_neg c2, if_neg (by omega), Int32.zero_mul]
  rw [e1, e2]
theorem LI_s (g : Nat → Int32) {d : Nat} (hd : d < 6) : LI g (d + 1) = LI g d * 10 := by
  unfold LI
  rw [show 2 ^ (d + 1) = 2 ^ d + 2 ^ d by rw [Nat.pow_succ]; omega, sumI_split, Nat.zero_add]
  have e1 : sumI (PI g (d + 1)) 0 (2 ^ d) = sumI (PI g d) 0 (2 ^ d) * (10 - g d) := by
    rw [← sumI_mul]
    exact sumI_cong _ 0 (fun j _ hj => PI_lo g hd (by omega))
  have e2 : sumI (PI g (d + 1)) (2 ^ d) (2 ^ d) = sumI (PI g d) 0 (2 ^ d) * g d := by
    rw [show sumI (PI g (d + 1)) (2 ^ d) (2 ^ d) = sumI (PI g (d + 1)) (2 ^ d + 0) (2 ^ d) from rfl, ← sumI_shift (PI g (d + 1)) (2 ^ d) 0 (2 ^ d), ← sumI_mul]
    exact sumI_cong _ 0 (fun j _ hj => PI_hi g hd (by omega))
  rw [e1, e2, ← Int32.mul_add, Int32.sub_add_cancel]
theorem LI_v (g : Nat → Int32) : ∀ d, d ≤ 6 → LI g d = nI (10 ^ d)
  | 0, _ => by
    unfold LI
    rw [show 2 ^ 0 = 1 from rfl, sumI, sumI, Int32.add_zero]; rfl
  | d + 1, h => by
    rw [LI_s g (by omega), LI_v g d (by omega), show (10 : Int32) = nI 10 from rfl, nI_mul, Nat.pow_succ]
set_option maxRecDepth 100000 in
theorem p10E : ∀ n, n < 7 → f_X9_powerOfTen (nI n) = some (nI (10 ^ n)) := by decide +kernel
/-! the class's rows -/
theorem w2_run (S : St) (a b : Int32) : ∀ (r i f : Nat) (A : Nat → Int32), i + r = 7 → r < f → l_X1_waysToLose_2 a b f (nI i) (sR S 9 A) = some (sR S 9 (fun j => if i ≤ j ∧ j < 7 then (if j = 0 then 1 else 0) else A j)) := by
  intro r
  induction r with
  | zero =>
    intro i f A hi hf
    obtain ⟨f, rfl⟩ : ∃ m, f = m + 1 := ⟨f - 1, by omega⟩
    rw [l_X1_waysToLose_2, if_pos (show (6 : Int32) < nI i by rw [show (6 : Int32) = nI 6 from rfl, ltN (by omega) (by omega)]; omega)]
    congr 2
    funext j
    rw [if_neg (by omega)]
  | succ r ih =>
    intro i f A hi hf
    obtain ⟨f, rfl⟩ : ∃ m, f = m + 1 := ⟨f - 1, by omega⟩
    have key : ∀ v : Int32, v = (if i = 0 then 1 else 0) → (nm (sA (sR S 9 A) 9 i v) fun S22 => l_X1_waysToLose_2 a b f (nI i + 1) S22) = some (sR S 9 (fun j => if i ≤ j ∧ j < 7 then (if j = 0 then 1 else 0) else A j)) := by
      intro v hv
      rw [nm_eq, show nI i + 1 = nI (i + 1) from nI_1 i, sA_sR, sR_at, sR_sR, ih (i + 1) f _ (by omega) (by omega)]
      refine congrArg (fun z => some (sR S 9 z)) (funext fun j => ?_)
      show (if i + 1 ≤ j ∧ j < 7 then (if j = 0 then (1 : Int32) else 0) else (if j = i then v else A j)) = (if i ≤ j ∧ j < 7 then (if j = 0 then (1 : Int32) else 0) else A j)
      by_cases c1 : j = i
      · subst c1
        rw [if_neg (show ¬ (j + 1 ≤ j ∧ j < 7) by omega), if_pos rfl, if_pos (show j ≤ j ∧ j < 7 by omega), hv]
      · by_cases c2 : i + 1 ≤ j ∧ j < 7
        · rw [if_pos c2, if_pos (show i ≤ j ∧ j < 7 by omega)]
        · rw [if_neg c2, if_neg c1, if_neg (show ¬ (i ≤ j ∧ j < 7) by omega)]
    rw [l_X1_waysToLose_2, if_neg (show ¬ (6 : Int32) < nI i by rw [show (6 : Int32) = nI 6 from rfl, ltN (by omega) (by omega)]; omega)]
    simp only [if_neg (inN (show i < 7 by omega) (show 7 < 2147483648 by omega))]
    rw [clN (by omega)]
    by_cases c : i = 0
    · subst c
      rw [if_pos (show nI 0 = 0 from rfl)]
      exact key 1 rfl
    · rw [if_neg (show ¬ nI i = 0 from fun q => by rw [show (0 : Int32) = nI 0 from rfl, eqN (by omega) (by omega)] at q; exact c q)]
      exact key 0 (by rw [if_neg c])
theorem w64_run (S : St) (a b d g : Int32) : ∀ (i f : Nat) (A : Nat → Int32), i ≤ 6 → i < f → l_X1_waysToLose_64 a b d g f (nI i) (sR S 9 A) = some (sR S 9 (fun j => if 1 ≤ j ∧ j ≤ i then A j * (10 - g) + A (j - 1) * g else A j)) := by
  intro i
  induction i with
  | zero =>
    intro f A hi hf
    obtain ⟨f, rfl⟩ : ∃ m, f = m + 1 := ⟨f - 1, by omega⟩
    rw [l_X1_waysToLose_64, if_pos (by decide)]
    congr 2
    funext j
    rw [if_neg (by omega)]
  | succ i ih =>
    intro f A hi hf
    obtain ⟨f, rfl⟩ : ∃ m, f = m + 1 := ⟨f - 1, by omega⟩
    rw [l_X1_waysToLose_64, if_neg (show ¬ nI (i + 1) < 1 by rw [show (1 : Int32) = nI 1 from rfl, ltN (by omega) (by omega)]; omega), show nI (i + 1) - 1 = nI i from nI_pred i, if_neg (inN (show i + 1 < 7 by omega) (by omega)), if_neg (inN (show i < 7 by omega) (by omega)), if_neg (inN (show i + 1 < 7 by omega) (by omega)), clN (by omega), clN (by omega), nm_eq, show nI (i + 1) + (-1) = nI i from pk_m1 i, sA_sR, sR_at, sR_sR, ih f _ (by omega) (by omega)]
    refine congrArg (fun z => some (sR S 9 z)) (funext fun j => ?_)
    show (if 1 ≤ j ∧ j ≤ i then (if j = i + 1 then _ else A j) * (10 - g) + (if j - 1 = i + 1 then _ else A (j - 1)) * g else (if j = i + 1 then A (i + 1) * (10 - g) + A i * g else A j)) = (if 1 ≤ j ∧ j ≤ i + 1 then A j * (10 - g) + A (j - 1) * g else A j)
    by_cases c1 : j = i + 1
    · subst c1
      rw [if_neg (show ¬ (1 ≤ i + 1 ∧ i + 1 ≤ i) by omega), if_pos rfl, if_pos (show 1 ≤ i + 1 ∧ i + 1 ≤ i + 1 by omega)]
      rfl
    · by_cases c2 : 1 ≤ j ∧ j ≤ i
      · rw [if_pos c2, if_neg c1, if_neg (show ¬ j - 1 = i + 1 by omega), if_pos (show 1 ≤ j ∧ j ≤ i + 1 by omega)]
      · rw [if_neg c2, if_neg c1, if_neg (show ¬ (1 ≤ j ∧ j ≤ i + 1) by omega)]
theorem w37_run {S : St} {st pl n : Nat} (b : Int32) (h6 : S.1 6 = nI st) (hst : st ≤ 8) (h10 : S.1 10 = nI pl) (hn : pl + n ≤ st) (hn6 : n ≤ 6) : ∀ (r d f : Nat) (A : Nat → Int32), d + r = n → r < f → (∀ i, i < 7 → A i = UI (fun k => S.2.1 3 (pl + k)) d i) →
    ∃ B, l_X1_waysToLose_37 (nI n) b f (nI (pl + d)) (sR S 9 A) = some (sR S 9 B) ∧ ∀ i, i < 7 → B i = UI (fun k => S.2.1 3 (pl + k)) n i := by
  intro r
  induction r with
  | zero =>
    intro d f A hd hf hA
    obtain ⟨f, rfl⟩ : ∃ m, f = m + 1 := ⟨f - 1, by omega⟩
    have e : d = n := by omega
    subst e
    refine ⟨A, ?_, hA⟩
    rw [l_X1_waysToLose_37, show (sR S 9 A).1 10 = nI pl from h10, nI_add, if_pos ((leN (by omega) (by omega)).mpr (Nat.le_refl _))]
  | succ r ih =>
    intro d f A hd hf hA
    obtain ⟨f, rfl⟩ : ∃ m, f = m + 1 := ⟨f - 1, by omega⟩
    rw [l_X1_waysToLose_37, show (sR S 9 A).1 10 = nI pl from h10, nI_add, if_neg (by rw [leN (by omega) (by omega)]; omega), gorseOf_yes (S := sR S 9 A) h6 hst (show pl + d < st by omega)]
    simp only [bSome]
    rw [show (sR S 9 A).2.1 3 (pl + d) = S.2.1 3 (pl + d) from rfl, show (6 : Int32) = nI 6 from rfl, w64_run S (nI n) b _ _ 6 fuel A (by omega) (by rw [fuelv]; omega)]
    simp only [bSome]
    rw [nm_eq, show nI (pl + d) + 1 = nI (pl + (d + 1)) from nI_1 (pl + d), sA_sR, sR_at, sR_sR]
    refine ih (d + 1) f _ (by omega) (by omega) (fun i hi => ?_)
    unfold upd
    rw [UI_s _ (by omega)]
    by_cases c : i = 0
    · subst c
      rw [if_pos rfl, if_pos rfl, Int32.add_zero, hA 0 (by omega)]
      rfl
    · rw [if_neg c, if_neg c]
      show (if 1 ≤ i ∧ i ≤ 6 then A i * (10 - S.2.1 3 (pl + d)) + A (i - 1) * S.2.1 3 (pl + d) else A i) = _
      rw [if_pos (show 1 ≤ i ∧ i ≤ 6 by omega), hA i hi, hA (i - 1) (by omega)]
theorem ways_eq {S : St} {st pl n m : Nat} (h6 : S.1 6 = nI st) (hst : st ≤ 8) (h10 : S.1 10 = nI pl) (hn : pl + n ≤ st) (hn6 : n ≤ 6) (hm : m ≤ 6) : ∃ B, f_X1_waysToLose (nI n) (nI m) S = some (UI (fun k => S.2.1 3 (pl + k)) n m, sR S 9 B) := by
  have e2 := w2_run S (nI n) (nI m) 7 0 fuel (S.2.1 9) (by omega) (by rw [fuelv]; omega)
  rw [sR_self] at e2
  obtain ⟨B, e3, hB⟩ := w37_run (nI m) h6 hst h10 hn hn6 n 0 fuel (fun j => if 0 ≤ j ∧ j < 7 then (if j = 0 then 1 else 0) else S.2.1 9 j) (by omega) (by rw [fuelv]; omega) (fun i hi => by
    show (if 0 ≤ i ∧ i < 7 then (if i = 0 then (1 : Int32) else 0) else S.2.1 9 i) = _
    rw [if_pos (by omega), UI_0])
  refine ⟨B, ?_⟩
  unfold f_X1_waysToLose
  rw [show l_X1_waysToLose_2 (nI n) (nI m) fuel 0 S = _ from e2]
  simp only [bSome]
  rw [show (sR S 9 (fun j => if 0 ≤ j ∧ j < 7 then (if j = 0 then (1 : Int32) else 0) else S.2.1 9 j)).1 10 = nI (pl + 0) from h10, e3]
  simp only [bSome]
  rw [if_neg (nI_pos (by omega)), if_neg (show ¬ (6 : Int32) < nI m by rw [show (6 : Int32) = nI 6 from rfl, ltN (by omega) (by omega)]; omega), if_neg (inN (show m < 7 by omega) (by omega)), clN (by omega), sR_at, hB m (by omega)]
/-! the reference's sums -/
theorem c63_run {M : St} {pl n set : Nat} (b c d e : Int32) (p0 : M.2.1 7 0 = nI pl) (hn : pl + n ≤ 8) (hs : set < 256) : ∀ (r i f : Nat) (acc : Int32), i + r = n → r < f → l_X10_chance_63 (nI n) b c d e (nI set) M f acc (nI i) = some (acc * prI (fun k => if set / 2 ^ k % 2 = 1 then M.2.1 4 (pl + k) else 10 - M.2.1 4 (pl + k)) i r) := by
  intro r
  induction r with
  | zero =>
    intro i f acc hi hf
    obtain ⟨f, rfl⟩ : ∃ m, f = m + 1 := ⟨f - 1, by omega⟩
    rw [l_X10_chance_63, if_pos ((leN (by omega) (by omega)).mpr (by omega)), prI, Int32.mul_one]
  | succ r ih =>
    intro i f acc hi hf
    obtain ⟨f, rfl⟩ : ∃ m, f = m + 1 := ⟨f - 1, by omega⟩
    rw [l_X10_chance_63, if_neg (by rw [leN (by omega) (by omega)]; omega), p0, nI_add, if_neg (inN (show pl + i < 8 by omega) (by omega)), clN (by omega), nm_eq, hasm_eq (by omega) hs]
    simp only [bSome]
    rw [show nI i + 1 = nI (i + 1) from nI_1 i, prI, ← Int32.mul_assoc]
    by_cases q : set / 2 ^ i % 2 = 1
    · rw [q, if_neg (by decide), if_pos rfl, ih (i + 1) f _ (by omega) (by omega)]
    · have q0 : set / 2 ^ i % 2 = 0 := by omega
      rw [q0, if_pos (show nI 0 = 0 from rfl), if_neg (by decide), ih (i + 1) f _ (by omega) (by omega)]
set_option maxRecDepth 100000 in
theorem shl6 : ∀ n, n < 9 → (1 : Int32) <<< (nI n &&& 31) = nI (2 ^ n) ∧ 2 ^ n ≤ 256 := by decide +kernel
theorem c49_run {M : St} {pl n m : Nat} (c : Int32) (p0 : M.2.1 7 0 = nI pl) (hn : pl + n ≤ 8) (hm : m ≤ 6) : ∀ (r i f : Nat) (up low : Int32), i + r = 2 ^ n → r < f → l_X10_chance_49 (nI n) (nI m) c M f up low (nI i) = some (up + sumI (fun s => if pcb s = m then PI (fun k => M.2.1 4 (pl + k)) n s else 0) i r, low + sumI (PI (fun k => M.2.1 4 (pl + k)) n) i r) := by
  intro r
  have hsh := shl6 n (by omega)
  have pcl : ∀ p, p < 256 → pcb p ≤ 8 := by decide +kernel
  induction r with
  | zero =>
    intro i f up low hi hf
    obtain ⟨f, rfl⟩ : ∃ m, f = m + 1 := ⟨f - 1, by omega⟩
    rw [l_X10_chance_49, hsh.1, if_pos ((leN (by omega) (by omega)).mpr (by omega)), sumI, sumI, Int32.add_zero, Int32.add_zero]
  | succ r ih =>
    intro i f up low hi hf
    obtain ⟨f, rfl⟩ : ∃ m, f = m + 1 := ⟨f - 1, by omega⟩
    have hp := pcl i (by omega)
    rw [l_X10_chance_49, hsh.1, if_neg (by rw [leN (by omega) (by omega)]; omega), show (0 : Int32) = nI 0 from rfl, c63_run _ _ _ _ p0 hn (show i < 256 by omega) n 0 fuel _ (by omega) (by rw [fuelv]; omega), manyE i (by omega)]
    simp only [bSome]
    rw [Int32.one_mul, show nI i + 1 = nI (i + 1) from nI_1 i, sumI, sumI, ← Int32.add_assoc, ← Int32.add_assoc]
    by_cases q : pcb i = m
    · rw [if_pos (show nI (pcb i) = nI m by rw [q]), if_pos q, ih (i + 1) f _ _ (by omega) (by omega)]
      rfl
    · rw [if_neg (show ¬ nI (pcb i) = nI m from fun z => by rw [eqN (by omega) (by omega)] at z; exact q z), if_neg q, ih (i + 1) f _ _ (by omega) (by omega)]
      rfl
theorem op_chance {S M : St} (h : Inv S M) (x y u : Int32) : ∃ r S' M', f_X9_chance x y u S = some (r, S') ∧ f_X10_chance x y u M = some (r, M') ∧ Inv S' M' := by
  have h0 := h
  obtain ⟨tl, st, ar, ct, fi, fl, tc, h⟩ := h
  have hL := h.2.1
  obtain ⟨pl, hpl, hst, h10, p0, h6, h5, -, -⟩ := h.get
  have hg : (sI M 0 0).2.1 4 = S.2.1 3 := hL.2.2.2.1.2.2.symm
  unfold f_X9_chance f_X10_chance
  rw [nm_eq, ahead_eq h5 p0 hpl, show (0 : Int64) = (0 : Int32).toInt64 from rfl, show (1 : Int64) = (1 : Int32).toInt64 from rfl, show (6 : Int64) = (6 : Int32).toInt64 from rfl]
  have z1 : (1 : Int32).toInt = 1 := rfl
  have z6 : (6 : Int32).toInt = 6 := rfl
  have z0 : (0 : Int32).toInt = 0 := rfl
  by_cases c1 : x < 1
  · rw [if_pos c1, in_no (Or.inl c1)]
    simp only [bSome]
    rw [if_pos trivial]
    exact ⟨_, _, _, rfl, rfl, h0.t 0⟩
  rw [if_neg c1]
  by_cases c2 : 6 < x
  · rw [if_pos c2, in_no (Or.inr c2)]
    simp only [bSome]
    rw [if_pos trivial]
    exact ⟨_, _, _, rfl, rfl, h0.t 0⟩
  rw [if_neg c2, in_yes (show 1 ≤ x by rw [fa_lt] at c1; rw [fa_le]; omega) (show x ≤ 6 by rw [fa_lt] at c2; rw [fa_le]; omega)]
  simp only [bSome]
  rw [if_neg (show ¬ ((1 : Int32) = 0) by decide)]
  obtain ⟨n, hn, rfl⟩ : ∃ k : Nat, k < 7 ∧ x = nI k := smI (by rw [fa_lt] at c1; omega) (by rw [fa_lt] at c2; omega)
  by_cases c3 : n < st - pl + 1
  · rw [(reach_yes h6 h10 hpl hst c3).1, if_neg (show ¬ nI (st - pl) < nI n by rw [ltN (by omega) (by omega)]; omega)]
    simp only [bSome]
    rw [if_neg (show ¬ ((1 : Int32) = 0) by decide)]
    by_cases c4 : y < 0
    · rw [if_pos c4, in_no (Or.inl c4)]
      simp only [bSome]
      rw [if_pos trivial]
      exact ⟨_, _, _, rfl, rfl, h0.t 0⟩
    rw [if_neg c4]
    by_cases c5 : y ≤ 6
    · have hy0 : 0 ≤ y := by rw [fa_lt] at c4; rw [fa_le]; omega
      rw [if_pos c5, in_yes hy0 c5]
      obtain ⟨m, hm, rfl⟩ : ∃ k : Nat, k < 7 ∧ y = nI k := smI (by rw [fa_le] at hy0; omega) (by rw [fa_le] at c5; omega)
      simp only [bSome]
      rw [if_neg (show ¬ ((1 : Int32) = 0) by decide)]
      obtain ⟨B, eB⟩ := ways_eq (m := m) h6 hst h10 (show pl + n ≤ st by omega) (by omega) (by omega)
      have ec := c49_run (M := sI M 0 0) (n := n) (m := m) u p0 (by omega) (by omega) (2 ^ n) 0 fuel 0 0 (by omega) (by have := (shl6 n (by omega)).2; rw [fuelv]; omega)
      rw [eB, p10E n hn, show l_X10_chance_49 (nI n) (nI m) u (sI M 0 0) fuel 0 0 0 = _ from ec]
      simp only [bSome]
      rw [hg, Int32.zero_add, Int32.zero_add, show sumI (PI (fun k => S.2.1 3 (pl + k)) n) 0 (2 ^ n) = LI (fun k => S.2.1 3 (pl + k)) n from rfl, LI_v _ n (by omega), show sumI (fun s => if pcb s = m then PI (fun k => S.2.1 3 (pl + k)) n s else 0) 0 (2 ^ n) = UI (fun k => S.2.1 3 (pl + k)) n m from rfl]
      have p10b : ∀ n, n < 7 → 0 < 10 ^ n ∧ 10 ^ n ≤ 1000000 := by decide
      obtain ⟨b1, b2⟩ := p10b n hn
      obtain ⟨r, r1, r2⟩ := frac_eq (UI (fun k => S.2.1 3 (pl + k)) n m) (nI (10 ^ n)) u (fun q => by rw [show (0 : Int32) = nI 0 from rfl, eqN (by omega) (by omega)] at q; omega) (by rw [nI_toInt (by omega)]; omega)
      rw [r1, r2]
      simp only [bSome]
      exact ⟨r, _, _, rfl, rfl, (h0.x (S' := sR S 9 B) (fun _ _ => rfl) (fun k hk => by rw [sR2, if_neg (by omega)]) rfl).t 0⟩
    · rw [if_neg c5, in_no (Or.inr (by rw [fa_le] at c5; rw [fa_lt]; omega))]
      simp only [bSome]
      rw [if_pos trivial]
      exact ⟨_, _, _, rfl, rfl, h0.t 0⟩
  · rw [(reach_no h6 h10 hpl hst (Or.inr ((leN (by omega) (by omega)).mpr (by omega)))).1, if_pos (show nI (st - pl) < nI n by rw [ltN (by omega) (by omega)]; omega)]
    simp only [bSome]
    rw [if_pos trivial]
    exact ⟨_, _, _, rfl, rfl, h0.t 0⟩
