/-! ===== the generic layer: a state (scalars, rows, seed), worlds, contracts by pure functions ===== -/
abbrev St : Type := (Nat → Int32) × (Nat → Nat → Int32) × Int64
def sI (S : St) (k : Nat) (v : Int32) : St := (upd S.1 k v, S.2)
def sR (S : St) (k : Nat) (f : Nat → Int32) : St := (S.1, va_up S.2.1 k f, S.2.2)
def sA (S : St) (k i : Nat) (v : Int32) : St := sR S k (upd (S.2.1 k) i v)
def sL (S : St) (v : Int64) : St := (S.1, S.2.1, v)
def fuel : Nat := 1000
theorem ob {α β : Type} {o : Option α} {k : α → Option β} {y : β} (h : o.bind k = some y) : ∃ x, o = some x ∧ k x = some y := by
  cases o with
  | none => cases h
  | some x => exact ⟨x, rfl, h⟩
theorem if_p {α : Sort _} {c : Prop} [Decidable c] {A B y : α} (h : (if c then A else B) = y) (hc : c) : A = y := by rw [if_pos hc] at h; exact h
theorem if_n {α : Sort _} {c : Prop} [Decidable c] {A B y : α} (h : (if c then A else B) = y) (hc : ¬ c) : B = y := by rw [if_neg hc] at h; exact h
def nm {α β : Type} (e : α) (k : α → Option β) : Option β := k e
theorem nm_i {α β : Type} {e : α} {k : α → Option β} {y : Option β} {v : α} (h : nm e k = y) (hv : v = e) : k v = y := by rw [hv]; exact h
theorem ob_in {α : Type} {i : Int32} {n : Nat} {k : Option α} {y : α} (h : (if i < 0 ∨ n ≤ i.toNatClampNeg then none else k) = some y) : vp_in i n ∧ k = some y := by
  by_cases c : i < 0 ∨ n ≤ i.toNatClampNeg
  · rw [if_pos c] at h; cases h
  · rw [if_neg c] at h; exact ⟨c, h⟩
theorem ob_ne {α : Type} {c : Prop} [Decidable c] {k : Option α} {y : α} (h : (if c then none else k) = some y) : ¬ c ∧ k = some y := by
  by_cases d : c
  · rw [if_pos d] at h; cases h
  · rw [if_neg d] at h; exact ⟨d, h⟩
theorem ob_ok {α : Type} {c : Prop} [Decidable c] {k : Option α} {y : α} (h : (if c then k else none) = some y) : c ∧ k = some y := by
  by_cases d : c
  · rw [if_pos d] at h; exact ⟨d, h⟩
  · rw [if_neg d] at h; cases h
theorem nb_of {v : Int32} (h : v = 0 ∨ v = 1) : narrow .boolean (.int v) = .int v := by
  rcases h with rfl | rfl <;> rfl
def xNw : List (String × Nat × String × String × String) := [("TenArrows", 88, "TenArrows$Text", "length", "I"), ("TenArrows$Work", 40, "TenArrows$Land", "arrows", "I"), ("TenArrows", 107, "TenArrows$Land", "arrows", "I"), ("TenArrows$Work", 45, "TenArrows$Land", "stretch", "I"), ("TenArrows", 226, "TenArrows$Land", "stretch", "I"), ("TenArrows$Work", 46, "TenArrows$Land", "knots", "I"), ("TenArrows$Ahead", 23, "TenArrows$Land", "stages", "I"), ("TenArrows$Laid", 34, "TenArrows$Land", "stages", "I"), ("TenArrows", 104, "TenArrows$Land", "stages", "I"), ("TenArrows", 113, "TenArrows$Work", "hand", "I"), ("TenArrows", 116, "TenArrows$Work", "back", "I"), ("TenArrows", 119, "TenArrows$Work", "tally", "I"), ("TenArrows$Laid", 19, "TenArrows$Work", "place", "I"), ("TenArrows$Ahead", 29, "TenArrows$Work", "place", "I"), ("TenArrows", 110, "TenArrows$Work", "place", "I"), ("TenArrows", 122, "TenArrows$Work", "lost", "I"), ("TenArrows$Ahead", 54, "TenArrows$Work", "leader", "I"), ("TenArrows", 125, "TenArrows$Work", "leader", "I"), ("TenArrows$Ahead", 34, "TenArrows$Work", "stretch", "I"), ("TenArrows", 128, "TenArrows$Work", "stretch", "I"), ("TenArrows$Ahead", 44, "TenArrows$Work", "knots", "I"), ("TenArrows", 131, "TenArrows$Work", "knots", "I"), ("TenArrows", 134, "TenArrows$Acts", "count", "I"), ("TenArrows", 137, "TenArrows$Tests", "count", "I"), ("TenArrows", 230, "TenArrows$Tests", "changesFound", "I"), ("TenArrows", 233, "TenArrows$Tests", "firstFound", "I"), ("TenArrows", 236, "TenArrows$Tests", "stagesFound", "I"), ("TenArrows", 242, "TenArrows$Mending", "restsFound", "I"), ("TenArrows", 245, "TenArrows$Mending", "firstFound", "I")]
def xN (U : State) : Prop := ∀ q ∈ xNw, va_Nw (.fieldLinkNest q.1 q.2.1 q.2.2.1 q.2.2.2.1 q.2.2.2.2 "TenArrows") U
theorem xN.warm {s U : State} (hW : s.WarmedH U.vm) (h : xN s) : xN U := fun q hq => va_Nw.warmF hW (h q hq)
theorem xN.same {u U : State} (h : u.vm = U.vm) (hn : xN u) : xN U := fun q hq => va_Nw.same rfl h (hn q hq)
theorem xN.use {U : State} {A : Array Value} (h : xN U) (i : Nat) {q : String × Nat × String × String × String} (hq : xNw[i]? = some q) : (Cond.fieldLinkNest q.1 q.2.1 q.2.2.1 q.2.2.2.1 q.2.2.2.2 "TenArrows").before A U = true := va_Nw.use rfl (h q (List.mem_of_getElem? hq))
abbrev tyZ (cI cZ : ClassId) : List (ClassId × FieldType) := [(cI, .int), (cZ, .boolean)]
def tC (p : Program) (c : Code) (s : State) (m : MethodId) (args : Array Value) (cc : ByteArray) (nL : Nat) (own : String) (Ts : List Cond) (D : va_G) (cI cZ : ClassId) (V : St → va_W) (A : Nat → Prop) : Prop :=
  CallFix p m c cc nL s args Ts own ∧ va_K D vwCl (tyZ cI cZ) s ∧ xN s ∧ ∀ S : St, va_D A (V S)
def tPc (D : va_G) (cI cZ : ClassId) (V : St → va_W) (S : St) (av : List Value) : Array Value → State → Prop := va_Pc av (fun U => va_P D vwCl (V S) U.heap ∧ va_K D vwCl (tyZ cI cZ) U ∧ xN U)
def tQi (D : va_G) (V : St → va_W) (A : Nat → Prop) (S : St) (r : Int32) : Array Value → State → Outcome → State → Prop := va_Qi (fun (r' : Int32) (_ : Unit) => r' = r) (fun _ t => va_P D vwCl (V S) t.heap) A
def tQl (D : va_G) (V : St → va_W) (A : Nat → Prop) (S : St) (r : Int64) : Array Value → State → Outcome → State → Prop := va_Ql (fun (r' : Int64) (_ : Unit) => r' = r) (fun _ t => va_P D vwCl (V S) t.heap) A
def tQv (D : va_G) (V : St → va_W) (A : Nat → Prop) (S : St) : Array Value → State → Outcome → State → Prop := va_Qv (fun (_ : Unit) => True) (fun _ t => va_P D vwCl (V S) t.heap) A
theorem tPc.blind {D : va_G} {cI cZ : ClassId} {V : St → va_W} {S : St} {av : List Value} : FrameBlind (tPc D cI cZ V S av) := fun a U g mk q => ⟨q.1, q.2.1, va_K.moved (u := U) (U := U.calling g mk a) (Vm.Alike.refl U.vm) q.2.2.1, xN.same rfl q.2.2.2⟩
theorem tEnter {l : Launch} {y : MethodName} {ws ws' : List Cond} {rm : Room} {D : va_G} {cI cZ : ClassId} {V : St → va_W} {A : Nat → Prop} {S : St} {av : List Value} {Qc : Array Value → State → Outcome → State → Prop} {cc : ByteArray} {maxL : Nat} {ret : Option FieldType} {own : String} (hA : ∀ S, va_D A (V S)) (ho : y.cls = own) (hy : plainName y.cls = true) (hw : ws = Cond.code y cc maxL ret :: ws') (hlen : (lg_sl av).length ≤ maxL)
    (k : ∀ (p : Program) (e : Env) (s : State) (m : MethodId) (args : Array Value) (below : List Frame) (meth : Method) (c : Code), tC p c s m args cc maxL own ws D cI cZ V A → meth.sig.returnType = ret → meth.locks = false → va_P D vwCl (V S) s.heap → va_S A s.heap s.heap [] → ∀ ls : Array Slot, lv_has ls maxL (lv_args 0 av) → W p l e rm s m args below meth c s.heap [] 0 0 (MQ below Qc args s 0 0 A) (F0 m 0 ls [])) : Met l y ws rm (tPc D cI cZ V S av) Qc 0 0 A := by
  subst ho
  refine Met.ofW (cc := cc) (maxL := maxL) (ret := ret) hy hw ?_
  intro p e s m args below meth c s₁ B hml hv
  obtain ⟨rfl, hP, hK, hN⟩ := hv
  have hl := lv_entry av (n := maxL) hlen
  rw [lg_entry_eq]
  exact k p e s m _ below meth c ⟨⟨B.exec, B.bytes, hml, findClass_of_methodNamed B.named, atoms_spec (ws := ws) B.pre⟩, hK, hN, hA⟩ B.returns B.notSynchronized hP va_S.rf _ hl
section TC
variable {p : Program} {l : Launch} {e : Env} {R : Room} {s : State} {m : MethodId} {args : Array Value} {below : List Frame} {meth : Method} {c : Code} {H : Heap} {locs : List Loc} {cells slots : Nat} {Q : State → Prop} {pc : Nat} {ls : Array Slot} {rest st0 : List Value} {cc : ByteArray} {nL : Nat} {own : String} {Ts : List Cond} {D : va_G} {cI cZ : ClassId} {V : St → va_W} {A : Nat → Prop} {S S' : St} {H0 : Heap}
theorem tRet_i {v : Int32} (C : tC p c s m args cc nL own Ts D cI cZ V A) (hr : meth.sig.returnType = some .int) (hlk : meth.locks = false) (hP : va_P D vwCl (V S) H) (hS : va_S A s.heap H locs) (hdg : decode cc pc = .ok (.ireturn, 1)) : W p l e R s m args below meth c H locs cells slots (MQ below (tQi D V A S v) args s cells slots A) (F0 m pc ls [.int v]) :=
  W.iret C.1.1 C.1.2.1 hr (fun t ht hW => ⟨⟨v, (), rfl, rfl, by show va_P _ _ _ _; rw [ht]; exact hP⟩, hS.F ht⟩) hS.2.2 hdg hlk
theorem tRet_z {v : Int32} (C : tC p c s m args cc nL own Ts D cI cZ V A) (hr : meth.sig.returnType = some .boolean) (hlk : meth.locks = false) (hP : va_P D vwCl (V S) H) (hS : va_S A s.heap H locs) (hn : narrow .boolean (.int v) = .int v) (hdg : decode cc pc = .ok (.ireturn, 1)) : W p l e R s m args below meth c H locs cells slots (MQ below (tQi D V A S v) args s cells slots A) (F0 m pc ls [.int v]) :=
  W.zret C.1.1 C.1.2.1 hr hn (fun t ht hW => ⟨⟨v, (), rfl, rfl, by show va_P _ _ _ _; rw [ht]; exact hP⟩, hS.F ht⟩) hS.2.2 hdg hlk
theorem tRet_l {v : Int64} (C : tC p c s m args cc nL own Ts D cI cZ V A) (hr : meth.sig.returnType = some .long) (hlk : meth.locks = false) (hP : va_P D vwCl (V S) H) (hS : va_S A s.heap H locs) (hdg : decode cc pc = .ok (.lreturn, 1)) : W p l e R s m args below meth c H locs cells slots (MQ below (tQl D V A S v) args s cells slots A) (F0 m pc ls [.long v]) :=
  W.lret C.1.1 C.1.2.1 hr (fun t ht hW => ⟨⟨v, (), rfl, rfl, by show va_P _ _ _ _; rw [ht]; exact hP⟩, hS.F ht⟩) hS.2.2 hdg hlk
theorem tRet_v (C : tC p c s m args cc nL own Ts D cI cZ V A) (hr : meth.sig.returnType = none) (hlk : meth.locks = false) (hP : va_P D vwCl (V S) H) (hS : va_S A s.heap H locs) (hdg : decode cc pc = .ok (.return_, 1)) : W p l e R s m args below meth c H locs cells slots (MQ below (tQv D V A S) args s cells slots A) (F0 m pc ls []) :=
  W.vret C.1.1 C.1.2.1 hr (fun t ht hW => ⟨⟨(), rfl, trivial, by show va_P _ _ _ _; rw [ht]; exact hP⟩, hS.F ht⟩) hS.2.2 hdg hlk
variable {y : MethodName} {bytes : ByteArray} {maxL n index : Nat} {ret : Option FieldType} {ws : List Cond} {rm : Room} {As : List Value} {Cn : String}
theorem tCallVi {r : Int32} (C : tC p c s m args cc nL own Ts D cI cZ V A) (hP : va_P D vwCl (V S) H) (hS : va_S A H0 H locs) {q0 ci b : Nat} {fs : List Value} {qq : vw_C} (hc : vwCl[ci]? = some qq) (he : (V S)[q0]? = some (b, .inr (ci, fs))) (hM : Met l y ws rm (tPc D cI cZ V S (.ref b :: As)) (tQi D V A S' r) 0 0 A) (cw : CallW R s args own qq.1 index y bytes maxL ret ws rm 0 0 n) (hn : As.length = n) {Lv : List (Nat × Value)} (hl : lv_has ls nL Lv) (hst : st0 = As.reverse ++ .ref b :: rest) (hW : (rest.map fun v => v.category).sum ≤ 8) (hdg : decode cc pc = .ok (.invokevirtual index, 3)) (hf : cells ≤ R.cells ∧ slots ≤ R.slots)
    (kk : ∀ (H1 : Heap) (locs1 : List Loc), va_P D vwCl (V S') H1 → va_S A H0 H1 locs1 → W p l e R s m args below meth c H1 locs1 cells slots Q (F0 m (pc + 3) ls (.int r :: rest))) : W p l e R s m args below meth c H locs cells slots Q (F0 m pc ls st0) := by
  subst hst
  exact va_calli (va_runV (As := As) (rest := rest) C.1 hM cw ⟨tPc.blind, va_recv C.2.1 hP hc he, fun U hU hW => ⟨rfl, by rw [hU]; exact hP, va_K.moved hW.alike C.2.1, C.2.2.1.warm hW⟩⟩ rfl hn hl.1 rfl (lv_room hW) hdg hf) hS (fun q _ h => h) (fun q h => h) (fun r u t H1 locs1 ht hvm hw hB hz hk hS1 => by subst hw; exact kk H1 locs1 (by rw [← ht]; exact hB) hS1)
theorem tCallVl {r : Int64} (C : tC p c s m args cc nL own Ts D cI cZ V A) (hP : va_P D vwCl (V S) H) (hS : va_S A H0 H locs) {q0 ci b : Nat} {fs : List Value} {qq : vw_C} (hc : vwCl[ci]? = some qq) (he : (V S)[q0]? = some (b, .inr (ci, fs))) (hM : Met l y ws rm (tPc D cI cZ V S (.ref b :: As)) (tQl D V A S' r) 0 0 A) (cw : CallW R s args own qq.1 index y bytes maxL ret ws rm 0 0 n) (hn : As.length = n) {Lv : List (Nat × Value)} (hl : lv_has ls nL Lv) (hst : st0 = As.reverse ++ .ref b :: rest) (hW : (rest.map fun v => v.category).sum ≤ 8) (hdg : decode cc pc = .ok (.invokevirtual index, 3)) (hf : cells ≤ R.cells ∧ slots ≤ R.slots)
    (kk : ∀ (H1 : Heap) (locs1 : List Loc), va_P D vwCl (V S') H1 → va_S A H0 H1 locs1 → W p l e R s m args below meth c H1 locs1 cells slots Q (F0 m (pc + 3) ls (.long r :: rest))) : W p l e R s m args below meth c H locs cells slots Q (F0 m pc ls st0) := by
  subst hst
  exact va_calll (va_runV (As := As) (rest := rest) C.1 hM cw ⟨tPc.blind, va_recv C.2.1 hP hc he, fun U hU hW => ⟨rfl, by rw [hU]; exact hP, va_K.moved hW.alike C.2.1, C.2.2.1.warm hW⟩⟩ rfl hn hl.1 rfl (lv_room hW) hdg hf) hS (fun q _ h => h) (fun q h => h) (fun r u t H1 locs1 ht hvm hw hB hz hk hS1 => by subst hw; exact kk H1 locs1 (by rw [← ht]; exact hB) hS1)
theorem tCallVv (C : tC p c s m args cc nL own Ts D cI cZ V A) (hP : va_P D vwCl (V S) H) (hS : va_S A H0 H locs) {q0 ci b : Nat} {fs : List Value} {qq : vw_C} (hc : vwCl[ci]? = some qq) (he : (V S)[q0]? = some (b, .inr (ci, fs))) (hM : Met l y ws rm (tPc D cI cZ V S (.ref b :: As)) (tQv D V A S') 0 0 A) (cw : CallW R s args own qq.1 index y bytes maxL ret ws rm 0 0 n) (hn : As.length = n) {Lv : List (Nat × Value)} (hl : lv_has ls nL Lv) (hst : st0 = As.reverse ++ .ref b :: rest) (hW : (rest.map fun v => v.category).sum ≤ 8) (hdg : decode cc pc = .ok (.invokevirtual index, 3)) (hf : cells ≤ R.cells ∧ slots ≤ R.slots)
    (kk : ∀ (H1 : Heap) (locs1 : List Loc), va_P D vwCl (V S') H1 → va_S A H0 H1 locs1 → W p l e R s m args below meth c H1 locs1 cells slots Q (F0 m (pc + 3) ls rest)) : W p l e R s m args below meth c H locs cells slots Q (F0 m pc ls st0) := by
  subst hst
  exact va_callv (va_runV (As := As) (rest := rest) C.1 hM cw ⟨tPc.blind, va_recv C.2.1 hP hc he, fun U hU hW => ⟨rfl, by rw [hU]; exact hP, va_K.moved hW.alike C.2.1, C.2.2.1.warm hW⟩⟩ rfl hn hl.1 rfl (lv_room hW) hdg hf) hS (fun q _ h => h) (fun q h => h) (fun u t H1 locs1 ht hvm hw hB hz hk hS1 => kk H1 locs1 (by rw [← ht]; exact hB) hS1)
theorem tCallSi {r : Int32} (C : tC p c s m args cc nL own Ts D cI cZ V A) (hP : va_P D vwCl (V S) H) (hS : va_S A H0 H locs) (hM : Met l y ws rm (tPc D cI cZ V S As) (tQi D V A S' r) 0 0 A) (cw : CallB R s args own index y bytes maxL ret ws rm 0 0 n ∧ (Cond.static y).before args s = true) (hn : As.length = n) {Lv : List (Nat × Value)} (hl : lv_has ls nL Lv) (hst : st0 = As.reverse ++ rest) (hW : (rest.map fun v => v.category).sum ≤ 8) (hdg : decode cc pc = .ok (.invokestatic index, 3)) (hf : cells ≤ R.cells ∧ slots ≤ R.slots)
    (kk : ∀ (H1 : Heap) (locs1 : List Loc), va_P D vwCl (V S') H1 → va_S A H0 H1 locs1 → W p l e R s m args below meth c H1 locs1 cells slots Q (F0 m (pc + 3) ls (.int r :: rest))) : W p l e R s m args below meth c H locs cells slots Q (F0 m pc ls st0) := by
  subst hst
  exact va_calli (va_runS (As := As) (rest := rest) C.1 hM cw ⟨tPc.blind, fun U hU hW => ⟨rfl, by rw [hU]; exact hP, va_K.moved hW.alike C.2.1, C.2.2.1.warm hW⟩⟩ rfl hn hl.1 rfl (lv_room hW) hdg hf) hS (fun q _ h => h) (fun q h => h) (fun r u t H1 locs1 ht hvm hw hB hz hk hS1 => by subst hw; exact kk H1 locs1 (by rw [← ht]; exact hB) hS1)
end TC
