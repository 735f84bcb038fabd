/-! ===== the law: two worlds beside each other ===== -/
def lA (s : State) : Nat → Prop := fun q => s.heap.size ≤ q
def lC (p : Program) (c : Code) (s : State) (m : MethodId) (args : Array Value) (D : va_G) (cI cZ : ClassId) (b L : Nat) (xs : Nat → Int32) (aX aM : Nat → Nat) : Prop :=
  CallFix p m c code 4 s args wsL_law RL ∧ va_K D vwCl (tyZ cI cZ) s ∧ xN s ∧ (va_X b L xs s s.heap ∧ b < s.heap.size ∧ L ≤ 256) ∧ (xJ aX ∧ mJ aM) ∧ (∀ i j, i < 21 → j < 15 → aX i ≠ aM j) ∧ (∀ i, i < 21 → s.heap.size ≤ aX i) ∧ (∀ j, j < 15 → s.heap.size ≤ aM j)
def bz (x : Int32) : Int32 := if x = 0 then 0 else 1
theorem ixL {n k L : Nat} (h : n + k < L) (hL : L ≤ 256) : vp_in (nI n + nI k) L := by
  rw [nI_add]
  exact nI_in h (by omega)
section LC
variable {p : Program} {l : Launch} {e : Env} {R : Room} {s : State} {m : MethodId} {args : Array Value} {below : List Frame} {meth : Method} {c : Code} {H : Heap} {locs : List Loc} {cells slots : Nat} {Q : State → Prop} {pc : Nat} {ls : Array Slot} {rest st0 : List Value} {cc : ByteArray} {nL : Nat} {own : String} {Ts : List Cond} {D : va_G} {cI cZ : ClassId} {V V2 : St → va_W} {A1 : Nat → Prop} {S S' T : St}
variable {y : MethodName} {bytes : ByteArray} {maxL n index : Nat} {ret : Option FieldType} {ws : List Cond} {rm : Room} {As : List Value}
theorem lCall_i {r : Int32} (C : CallFix p m c cc nL s args Ts own) (hK : va_K D vwCl (tyZ cI cZ) s) (hN : xN s) (hP : va_P D vwCl (V S) H) (hP2 : va_P D vwCl (V2 T) H) (hd : ∀ (k : Nat) (x : Nat × va_E), (V2 T)[k]? = some x → ¬ A1 x.1) (hA1 : ∀ q, A1 q → lA s q) (hS : va_S (lA s) s.heap H locs) {q0 ci b : Nat} {fs : List Value} {qq : vw_C} (hc : vwCl[ci]? = some qq) (he : (V S)[q0]? = some (b, .inr (ci, fs))) (hM : Met l y ws rm (tPc D cI cZ V S (.ref b :: As)) (tQi D V A1 S' r) 0 0 A1) (cw : CallW R s args own qq.1 index y bytes maxL ret ws rm 0 0 n) (hn : As.length = n) {Lv : List (Nat × Value)} (hl : lv_has ls nL Lv) (hst : st0 = As.reverse ++ .ref b :: rest) (hW : (rest.map fun v => v.category).sum ≤ 8) (hdg : decode cc pc = .ok (.invokevirtual index, 3)) (hf : cells ≤ R.cells ∧ slots ≤ R.slots)
    (kk : ∀ (H1 : Heap) (locs1 : List Loc), va_P D vwCl (V S') H1 → va_P D vwCl (V2 T) H1 → va_S (lA s) s.heap H1 locs1 → W p l e R s m args below meth c H1 locs1 cells slots Q (F0 m (pc + 3) ls (.int r :: rest))) : W p l e R s m args below meth c H locs cells slots Q (F0 m pc ls st0) := by
  subst hst
  exact va_calli (va_runV (As := As) (rest := rest) C hM cw ⟨tPc.blind, va_recv hK hP hc he, fun U hU hW => ⟨rfl, by rw [hU]; exact hP, va_K.moved hW.alike hK, hN.warm hW⟩⟩ rfl hn hl.1 rfl (lv_room hW) hdg hf) hS (fun q _ h => hA1 q h) hA1 (fun r u t H1 locs1 ht hvm hw hB hz hk hS1 => by subst hw; exact kk H1 locs1 (by rw [← ht]; exact hB) (hP2.kept (fun k x hx => hk x.1 ((hP2 k x hx).lt) (hd k x hx))) hS1)
theorem lCall_l {r : Int64} (C : CallFix p m c cc nL s args Ts own) (hK : va_K D vwCl (tyZ cI cZ) s) (hN : xN s) (hP : va_P D vwCl (V S) H) (hP2 : va_P D vwCl (V2 T) H) (hd : ∀ (k : Nat) (x : Nat × va_E), (V2 T)[k]? = some x → ¬ A1 x.1) (hA1 : ∀ q, A1 q → lA s q) (hS : va_S (lA s) s.heap H locs) {q0 ci b : Nat} {fs : List Value} {qq : vw_C} (hc : vwCl[ci]? = some qq) (he : (V S)[q0]? = some (b, .inr (ci, fs))) (hM : Met l y ws rm (tPc D cI cZ V S (.ref b :: As)) (tQl D V A1 S' r) 0 0 A1) (cw : CallW R s args own qq.1 index y bytes maxL ret ws rm 0 0 n) (hn : As.length = n) {Lv : List (Nat × Value)} (hl : lv_has ls nL Lv) (hst : st0 = As.reverse ++ .ref b :: rest) (hW : (rest.map fun v => v.category).sum ≤ 8) (hdg : decode cc pc = .ok (.invokevirtual index, 3)) (hf : cells ≤ R.cells ∧ slots ≤ R.slots)
    (kk : ∀ (H1 : Heap) (locs1 : List Loc), va_P D vwCl (V S') H1 → va_P D vwCl (V2 T) H1 → va_S (lA s) s.heap H1 locs1 → W p l e R s m args below meth c H1 locs1 cells slots Q (F0 m (pc + 3) ls (.long r :: rest))) : W p l e R s m args below meth c H locs cells slots Q (F0 m pc ls st0) := by
  subst hst
  exact va_calll (va_runV (As := As) (rest := rest) C hM cw ⟨tPc.blind, va_recv hK hP hc he, fun U hU hW => ⟨rfl, by rw [hU]; exact hP, va_K.moved hW.alike hK, hN.warm hW⟩⟩ rfl hn hl.1 rfl (lv_room hW) hdg hf) hS (fun q _ h => hA1 q h) hA1 (fun r u t H1 locs1 ht hvm hw hB hz hk hS1 => by subst hw; exact kk H1 locs1 (by rw [← ht]; exact hB) (hP2.kept (fun k x hx => hk x.1 ((hP2 k x hx).lt) (hd k x hx))) hS1)
end LC
theorem lX_M {p : Program} {c : Code} {s : State} {m : MethodId} {args : Array Value} {D : va_G} {cI cZ : ClassId} {b L : Nat} {xs : Nat → Int32} {aX aM : Nat → Nat} (C : lC p c s m args D cI cZ b L xs aX aM) (M : St) : ∀ (k : Nat) (x : Nat × va_E), (wM cI cZ aM M)[k]? = some x → ¬ xA aX x.1 := by
  intro k x hx h
  obtain ⟨h1, h2⟩ := mAt cI cZ aM M hx
  obtain ⟨i, h3, h4⟩ := h
  exact C.2.2.2.2.2.1 i k h3 h1 (by rw [← h4, h2])
theorem lM_X {p : Program} {c : Code} {s : State} {m : MethodId} {args : Array Value} {D : va_G} {cI cZ : ClassId} {b L : Nat} {xs : Nat → Int32} {aX aM : Nat → Nat} (C : lC p c s m args D cI cZ b L xs aX aM) (S : St) : ∀ (k : Nat) (x : Nat × va_E), (wX cI cZ aX S)[k]? = some x → ¬ mA aM x.1 := by
  intro k x hx h
  obtain ⟨h1, h2⟩ := xAt cI cZ aX S hx
  obtain ⟨i, h3, h4⟩ := h
  exact C.2.2.2.2.2.1 k i h1 h3 (by rw [← h4, h2])
theorem lX_A {p : Program} {c : Code} {s : State} {m : MethodId} {args : Array Value} {D : va_G} {cI cZ : ClassId} {b L : Nat} {xs : Nat → Int32} {aX aM : Nat → Nat} (C : lC p c s m args D cI cZ b L xs aX aM) : ∀ q, xA aX q → lA s q := fun q h => by
  obtain ⟨i, h3, h4⟩ := h
  rw [h4]; exact C.2.2.2.2.2.2.1 i h3
theorem lM_A {p : Program} {c : Code} {s : State} {m : MethodId} {args : Array Value} {D : va_G} {cI cZ : ClassId} {b L : Nat} {xs : Nat → Int32} {aX aM : Nat → Nat} (C : lC p c s m args D cI cZ b L xs aX aM) : ∀ q, mA aM q → lA s q := fun q h => by
  obtain ⟨i, h3, h4⟩ := h
  rw [h4]; exact C.2.2.2.2.2.2.2 i h3
