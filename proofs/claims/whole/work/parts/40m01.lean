def rmX10_byBook : Room := { frames := 0, cells := 0, slots := 0, locals := 0 }
theorem hn_X10_byBook_10 : ∀ w ∈ wsX100, w ∈ wsX10_byBook := fun w h => List.mem_cons_of_mem _ (List.mem_append_right _ h)
theorem hd_X10_byBook : yX10_byBook.cls ≠ "java/lang/invoke/MethodHandle" ∧ yX10_byBook.cls ≠ "java/lang/invoke/VarHandle" ∧ (parseMethodDescriptor yX10_byBook.desc).map (fun d => d.parameters.length) = some 0 := by decide +kernel
set_option maxHeartbeats 4000000 in
set_option maxRecDepth 100000 in
theorem c_X10_byBook (l : Launch) {D : va_G} {cI cZ : ClassId} {a : Nat → Nat} (hA : ∀ S : St, va_D (mA a) (wM cI cZ a S)) {S : St} {o : Int32 × St} (hf : f_X10_byBook S = some o) : Met l yX10_byBook wsX10_byBook rmX10_byBook (tPc D cI cZ (wM cI cZ a) S ([.ref (a 0)] : List Value)) (tQi D (wM cI cZ a) (mA a) o.2 o.1) 0 0 (mA a) := by
  refine tEnter (cc := cX10_byBook) (maxL := 1) (ret := (some .int)) (own := RX10) hA rfl (by decide) rfl (Nat.le_of_ble_eq_true rfl) (fun p e s m args below meth c C hr hlk hP hS ls hl => ?_)
  obtain ⟨⟨hx, hb, hml, hown, hts⟩, hK, hN, -⟩ := id C
  have hl : lv_has ls 1 [(0, .ref (a 0))] := hl
  have hin10 := hn_X10_byBook_10
  have hSS := hS
  rw [f_X10_byBook] at hf
  revert hP hS
  suffices hsuf : ∀ (H : Heap) (locs : List Loc), va_P D vwCl (wM cI cZ a S) H → va_S (mA a) s.heap H locs → W p l e rmX10_byBook s m args below meth c H locs 0 0 (MQ below (tQi D (wM cI cZ a) (mA a) o.2 o.1) args s 0 0 (mA a)) (F0 m 0 ls []) from fun hP hS => hsuf s.heap [] hP hS
  intro H locs hP hS
  refine lv_aload_n hx hb dX10_byBook_0 rfl (lv_at hl 0 rfl) ?_
  refine lv_iconst (v := (0 : Int32)) hx hb dX10_byBook_1 (by decide) ?_
  refine pm_10_0 C hin10 hP hS (List.mem_of_getElem? (i := 1) rfl) dX10_byBook_2 (fun H locs hP hS => ?_)
  obtain ⟨S2, eS2⟩ : ∃ z, z = (sI S 0 (0 : Int32)) := ⟨_, rfl⟩
  rw [← eS2] at hP
  have hf := nm_i hf eS2
  refine lv_aload_n hx hb dX10_byBook_5 rfl (lv_at hl 0 rfl) ?_
  refine gm_10_4 C hin10 hP (List.mem_of_getElem? (i := 2) rfl) dX10_byBook_6 ?_
  refine lv_aload_n hx hb dX10_byBook_9 rfl (lv_at hl 0 rfl) ?_
  refine gm_10_14 C hin10 hP (List.mem_of_getElem? (i := 3) rfl) dX10_byBook_10 ?_
  refine lv_iconst (v := (3 : Int32)) hx hb dX10_byBook_13 (by decide) ?_
  refine ldm_7 (j := 3) C hP (by decide) (show ¬ ((3 : Int32) < 0 ∨ 16 ≤ (3 : Int32).toNatClampNeg) by decide) dX10_byBook_14 ?_
  refine lv_imul hx hb dX10_byBook_15 ?_
  refine lv_aload_n hx hb dX10_byBook_16 rfl (lv_at hl 0 rfl) ?_
  refine gm_10_14 C hin10 hP (List.mem_of_getElem? (i := 3) rfl) dX10_byBook_17 ?_
  refine lv_iconst (v := (2 : Int32)) hx hb dX10_byBook_20 (by decide) ?_
  refine ldm_7 (j := 2) C hP (by decide) (show ¬ ((2 : Int32) < 0 ∨ 16 ≤ (2 : Int32).toNatClampNeg) by decide) dX10_byBook_21 ?_
  refine lv_iadd hx hb dX10_byBook_22 ?_
  obtain rfl := Option.some.inj hf
  exact tRet_i C hr hlk hP hS dX10_byBook_23
def rmX10_truly : Room := { frames := 0, cells := 0, slots := 0, locals := 0 }
theorem hn_X10_truly_10 : ∀ w ∈ wsX100, w ∈ wsX10_truly := fun w h => List.mem_cons_of_mem _ (List.mem_append_right _ h)
theorem hd_X10_truly : yX10_truly.cls ≠ "java/lang/invoke/MethodHandle" ∧ yX10_truly.cls ≠ "java/lang/invoke/VarHandle" ∧ (parseMethodDescriptor yX10_truly.desc).map (fun d => d.parameters.length) = some 0 := by decide +kernel
set_option maxHeartbeats 4000000 in
set_option maxRecDepth 100000 in
theorem lp_X10_truly_11 {p : Program} {l : Launch} {e : Env} {s : State} {m : MethodId} {args : Array Value} {below : List Frame} {meth : Method} {c : Code} {D : va_G} {cI cZ : ClassId} {a : Nat → Nat} {Q : State → Prop} {H0 : Heap} {S : St} {o : Int32}
    (C : tC p c s m args cX10_truly 3 RX10 wsX10_truly D cI cZ (wM cI cZ a) (mA a))
    (K0 : ∀ (H : Heap) (locs : List Loc) (ls : Array Slot), va_P D vwCl (wM cI cZ a S) H → va_S (mA a) H0 H locs → lv_has ls 3 [(1, .int o)] → W p l e rmX10_truly s m args below meth c H locs 0 0 Q (F0 m 43 ls [])) :
    ∀ (n : Nat) (x1 : Int32) (x2 : Int32), l_X10_truly_11 S n x1 x2 = some o → ∀ (H : Heap) (locs : List Loc) (ls : Array Slot), va_P D vwCl (wM cI cZ a S) H → va_S (mA a) H0 H locs → lv_has ls 3 [(0, .ref (a 0)), (1, .int x1), (2, .int x2)] → W p l e rmX10_truly s m args below meth c H locs 0 0 Q (F0 m 11 ls []) := by
  obtain ⟨⟨hx, hb, hml, hown, hts⟩, hK, hN, hA⟩ := id C
  have hin10 := hn_X10_truly_10
  intro n
  induction n with
  | zero =>
    intro x1 x2 hf
    rw [l_X10_truly_11] at hf
    cases hf
  | succ n ih =>
    intro x1 x2 hf H locs ls hP hS hl
    rw [l_X10_truly_11] at hf
    refine lv_iload_n hx hb dX10_truly_11 rfl (lv_at hl 2 rfl) ?_
    refine lv_aload_n hx hb dX10_truly_12 rfl (lv_at hl 0 rfl) ?_
    refine gm_10_14 C hin10 hP (List.mem_of_getElem? (i := 2) rfl) dX10_truly_13 ?_
    refine lv_iconst (v := (0 : Int32)) hx hb dX10_truly_16 (by decide) ?_
    refine ldm_7 (j := 0) C hP (by decide) (show ¬ ((0 : Int32) < 0 ∨ 16 ≤ (0 : Int32).toNatClampNeg) by decide) dX10_truly_17 ?_
    refine lv_icmp_ge (tgt := 43) hx hb dX10_truly_18 (by decide) (fun c2 => ?_) (fun c2 => ?_)
    · have hf := if_p hf c2
      obtain rfl := Option.some.inj hf
      exact K0 H locs ls hP hS (lv_sub hl [1] rfl)
    · have hf := if_n hf c2
      refine lv_iload_n hx hb dX10_truly_21 rfl (lv_at hl 1 rfl) ?_
      refine lv_sipush (v := (1000 : Int32)) hx hb dX10_truly_22 (by decide) ?_
      refine lv_aload_n hx hb dX10_truly_25 rfl (lv_at hl 0 rfl) ?_
      refine gm_10_14 C hin10 hP (List.mem_of_getElem? (i := 2) rfl) dX10_truly_26 ?_
      refine lv_bipush (v := (8 : Int32)) hx hb dX10_truly_29 (by decide) ?_
      refine lv_iload_n hx hb dX10_truly_31 rfl (lv_at hl 2 rfl) ?_
      refine lv_iadd hx hb dX10_truly_32 ?_
      obtain ⟨hi3, hf⟩ := ob_in hf
      refine ldm_7 C hP rfl hi3 dX10_truly_33 ?_
      refine lv_iadd hx hb dX10_truly_34 ?_
      refine lv_iadd hx hb dX10_truly_35 ?_
      refine lv_topi (fun v36 e36 => ?_)
      have hf := nm_i hf e36
      refine lv_istore_n (lv' := [(1, .int v36), (0, .ref (a 0)), (2, .int x2)]) hx hb dX10_truly_36 rfl hl (Nat.le_of_ble_eq_true rfl) rfl (fun ls hl => ?_)
      refine lv_iinc (v := (x2 + 1)) (lv' := [(2, .int (x2 + 1)), (1, .int v36), (0, .ref (a 0))]) hx hb dX10_truly_37 hl (k := 2) rfl rfl (Nat.le_of_ble_eq_true rfl) rfl (fun ls hl => ?_)
      refine lv_goto (tgt := 11) hx hb dX10_truly_40 (by decide) ?_
      exact ih _ _ hf H locs ls hP hS (lv_sub hl [2, 1, 0] rfl)
set_option maxHeartbeats 4000000 in
set_option maxRecDepth 100000 in
theorem c_X10_truly (l : Launch) {D : va_G} {cI cZ : ClassId} {a : Nat → Nat} (hA : ∀ S : St, va_D (mA a) (wM cI cZ a S)) {S : St} {o : Int32 × St} (hf : f_X10_truly S = some o) : Met l yX10_truly wsX10_truly rmX10_truly (tPc D cI cZ (wM cI cZ a) S ([.ref (a 0)] : List Value)) (tQi D (wM cI cZ a) (mA a) o.2 o.1) 0 0 (mA a) := by
  refine tEnter (cc := cX10_truly) (maxL := 3) (ret := (some .int)) (own := RX10) hA rfl (by decide) rfl (Nat.le_of_ble_eq_true rfl) (fun p e s m args below meth c C hr hlk hP hS ls hl => ?_)
  obtain ⟨⟨hx, hb, hml, hown, hts⟩, hK, hN, -⟩ := id C
  have hl : lv_has ls 3 [(0, .ref (a 0))] := hl
  have hin10 := hn_X10_truly_10
  have hSS := hS
  rw [f_X10_truly] at hf
  revert hP hS
  suffices hsuf : ∀ (H : Heap) (locs : List Loc), va_P D vwCl (wM cI cZ a S) H → va_S (mA a) s.heap H locs → W p l e rmX10_truly s m args below meth c H locs 0 0 (MQ below (tQi D (wM cI cZ a) (mA a) o.2 o.1) args s 0 0 (mA a)) (F0 m 0 ls []) from fun hP hS => hsuf s.heap [] hP hS
  intro H locs hP hS
  refine lv_aload_n hx hb dX10_truly_0 rfl (lv_at hl 0 rfl) ?_
  refine lv_iconst (v := (0 : Int32)) hx hb dX10_truly_1 (by decide) ?_
  refine pm_10_0 C hin10 hP hS (List.mem_of_getElem? (i := 1) rfl) dX10_truly_2 (fun H locs hP hS => ?_)
  obtain ⟨S2, eS2⟩ : ∃ z, z = (sI S 0 (0 : Int32)) := ⟨_, rfl⟩
  rw [← eS2] at hP
  have hf := nm_i hf eS2
  refine lv_sipush (v := (20000 : Int32)) hx hb dX10_truly_5 (by decide) ?_
  refine lv_istore_n (lv' := [(1, .int (20000 : Int32)), (0, .ref (a 0))]) hx hb dX10_truly_8 rfl hl (Nat.le_of_ble_eq_true rfl) rfl (fun ls hl => ?_)
  refine lv_iconst (v := (0 : Int32)) hx hb dX10_truly_9 (by decide) ?_
  refine lv_istore_n (lv' := [(2, .int (0 : Int32)), (1, .int (20000 : Int32)), (0, .ref (a 0))]) hx hb dX10_truly_10 rfl hl (Nat.le_of_ble_eq_true rfl) rfl (fun ls hl => ?_)
  obtain ⟨o11, hc11, hf⟩ := ob hf
  refine lp_X10_truly_11 C (fun H locs ls hP hS hl => ?_) fuel _ _ hc11 H locs ls hP hS (lv_sub hl [2, 1, 0] rfl)
  refine lv_iload_n hx hb dX10_truly_43 rfl (lv_at hl 0 rfl) ?_
  obtain rfl := Option.some.inj hf
  exact tRet_i C hr hlk hP hS dX10_truly_44
def rmX10_ahead : Room := { frames := 0, cells := 0, slots := 0, locals := 0 }
theorem hn_X10_ahead_10 : ∀ w ∈ wsX100, w ∈ wsX10_ahead := fun w h => List.mem_cons_of_mem _ (List.mem_append_right _ h)
theorem hd_X10_ahead : yX10_ahead.cls ≠ "java/lang/invoke/MethodHandle" ∧ yX10_ahead.cls ≠ "java/lang/invoke/VarHandle" ∧ (parseMethodDescriptor yX10_ahead.desc).map (fun d => d.parameters.length) = some 0 := by decide +kernel
set_option maxHeartbeats 4000000 in
set_option maxRecDepth 100000 in
theorem c_X10_ahead (l : Launch) {D : va_G} {cI cZ : ClassId} {a : Nat → Nat} (hA : ∀ S : St, va_D (mA a) (wM cI cZ a S)) {S : St} {o : Int32} (hf : f_X10_ahead S = some o) : Met l yX10_ahead wsX10_ahead rmX10_ahead (tPc D cI cZ (wM cI cZ a) S ([.ref (a 0)] : List Value)) (tQi D (wM cI cZ a) (mA a) S o) 0 0 (mA a) := by
  refine tEnter (cc := cX10_ahead) (maxL := 1) (ret := (some .int)) (own := RX10) hA rfl (by decide) rfl (Nat.le_of_ble_eq_true rfl) (fun p e s m args below meth c C hr hlk hP hS ls hl => ?_)
  obtain ⟨⟨hx, hb, hml, hown, hts⟩, hK, hN, -⟩ := id C
  have hl : lv_has ls 1 [(0, .ref (a 0))] := hl
  have hin10 := hn_X10_ahead_10
  have hSS := hS
  rw [f_X10_ahead] at hf
  revert hP hS
  suffices hsuf : ∀ (H : Heap) (locs : List Loc), va_P D vwCl (wM cI cZ a S) H → va_S (mA a) s.heap H locs → W p l e rmX10_ahead s m args below meth c H locs 0 0 (MQ below (tQi D (wM cI cZ a) (mA a) S o) args s 0 0 (mA a)) (F0 m 0 ls []) from fun hP hS => hsuf s.heap [] hP hS
  intro H locs hP hS
  refine lv_aload_n hx hb dX10_ahead_0 rfl (lv_at hl 0 rfl) ?_
  refine gm_10_6 C hin10 hP (List.mem_of_getElem? (i := 1) rfl) dX10_ahead_1 ?_
  refine lv_aload_n hx hb dX10_ahead_4 rfl (lv_at hl 0 rfl) ?_
  refine gm_10_14 C hin10 hP (List.mem_of_getElem? (i := 2) rfl) dX10_ahead_5 ?_
  refine lv_iconst (v := (0 : Int32)) hx hb dX10_ahead_8 (by decide) ?_
  refine ldm_7 (j := 0) C hP (by decide) (show ¬ ((0 : Int32) < 0 ∨ 16 ≤ (0 : Int32).toNatClampNeg) by decide) dX10_ahead_9 ?_
  refine lv_isub hx hb dX10_ahead_10 ?_
  obtain rfl := Option.some.inj hf
  exact tRet_i C hr hlk hP hS dX10_ahead_11
def rmX10_note : Room := { frames := 0, cells := 0, slots := 0, locals := 0 }
theorem hn_X10_note_10 : ∀ w ∈ wsX100, w ∈ wsX10_note := fun w h => List.mem_cons_of_mem _ (List.mem_append_right _ h)
theorem hd_X10_note : yX10_note.cls ≠ "java/lang/invoke/MethodHandle" ∧ yX10_note.cls ≠ "java/lang/invoke/VarHandle" ∧ (parseMethodDescriptor yX10_note.desc).map (fun d => d.parameters.length) = some 0 := by decide +kernel
set_option maxHeartbeats 4000000 in
set_option maxRecDepth 100000 in
theorem lp_X10_note_11 {p : Program} {l : Launch} {e : Env} {s : State} {m : MethodId} {args : Array Value} {below : List Frame} {meth : Method} {c : Code} {D : va_G} {cI cZ : ClassId} {a : Nat → Nat} {Q : State → Prop} {H0 : Heap} {o : St}
    (C : tC p c s m args cX10_note 2 RX10 wsX10_note D cI cZ (wM cI cZ a) (mA a))
    (K0 : ∀ (H : Heap) (locs : List Loc) (ls : Array Slot), va_P D vwCl (wM cI cZ a o) H → va_S (mA a) H0 H locs → lv_has ls 2 [(0, .ref (a 0))] → W p l e rmX10_note s m args below meth c H locs 0 0 Q (F0 m 39 ls [])) :
    ∀ (n : Nat) (x1 : Int32) (S : St), l_X10_note_11 n x1 S = some o → ∀ (H : Heap) (locs : List Loc) (ls : Array Slot), va_P D vwCl (wM cI cZ a S) H → va_S (mA a) H0 H locs → lv_has ls 2 [(0, .ref (a 0)), (1, .int x1)] → W p l e rmX10_note s m args below meth c H locs 0 0 Q (F0 m 11 ls []) := by
  obtain ⟨⟨hx, hb, hml, hown, hts⟩, hK, hN, hA⟩ := id C
  have hin10 := hn_X10_note_10
  intro n
  induction n with
  | zero =>
    intro x1 S hf
    rw [l_X10_note_11] at hf
    cases hf
  | succ n ih =>
    intro x1 S hf H locs ls hP hS hl
    rw [l_X10_note_11] at hf
    refine lv_iload_n hx hb dX10_note_11 rfl (lv_at hl 1 rfl) ?_
    refine lv_sipush (v := (208 : Int32)) hx hb dX10_note_12 (by decide) ?_
    refine lv_icmp_ge (tgt := 39) hx hb dX10_note_15 (by decide) (fun c2 => ?_) (fun c2 => ?_)
    · have hf := if_p hf c2
      obtain rfl := Option.some.inj hf
      exact K0 H locs ls hP hS (lv_sub hl [0] rfl)
    · have hf := if_n hf c2
      refine lv_aload_n hx hb dX10_note_18 rfl (lv_at hl 0 rfl) ?_
      refine gm_10_15 C hin10 hP (List.mem_of_getElem? (i := 2) rfl) dX10_note_19 ?_
      refine lv_iload_n hx hb dX10_note_22 rfl (lv_at hl 1 rfl) ?_
      refine lv_aload_n hx hb dX10_note_23 rfl (lv_at hl 0 rfl) ?_
      refine gm_10_15 C hin10 hP (List.mem_of_getElem? (i := 2) rfl) dX10_note_24 ?_
      refine lv_iload_n hx hb dX10_note_27 rfl (lv_at hl 1 rfl) ?_
      refine lv_bipush (v := (16 : Int32)) hx hb dX10_note_28 (by decide) ?_
      refine lv_iadd hx hb dX10_note_30 ?_
      obtain ⟨hi3, hf⟩ := ob_in hf
      refine ldm_8 C hP rfl hi3 dX10_note_31 ?_
      obtain ⟨hi4, hf⟩ := ob_in hf
      refine stm_8 C hP hS rfl hi4 dX10_note_32 (fun H locs hP hS => ?_)
      obtain ⟨S32, eS32⟩ : ∃ z, z = (sA S 8 x1.toNatClampNeg (S.2.1 8 ((x1 + (16 : Int32)).toNatClampNeg))) := ⟨_, rfl⟩
      rw [← eS32] at hP
      have hf := nm_i hf eS32
      refine lv_iinc (v := (x1 + 1)) (lv' := [(1, .int (x1 + 1)), (0, .ref (a 0))]) hx hb dX10_note_33 hl (k := 1) rfl rfl (Nat.le_of_ble_eq_true rfl) rfl (fun ls hl => ?_)
      refine lv_goto (tgt := 11) hx hb dX10_note_36 (by decide) ?_
      exact ih _ _ hf H locs ls hP hS (lv_sub hl [1, 0] rfl)
set_option maxHeartbeats 4000000 in
set_option maxRecDepth 100000 in
theorem lp_X10_note_51 {p : Program} {l : Launch} {e : Env} {s : State} {m : MethodId} {args : Array Value} {below : List Frame} {meth : Method} {c : Code} {D : va_G} {cI cZ : ClassId} {a : Nat → Nat} {Q : State → Prop} {H0 : Heap} {o : St}
    (C : tC p c s m args cX10_note 2 RX10 wsX10_note D cI cZ (wM cI cZ a) (mA a))
    (K0 : ∀ (H : Heap) (locs : List Loc) (ls : Array Slot), va_P D vwCl (wM cI cZ a o) H → va_S (mA a) H0 H locs → lv_has ls 2 [(0, .ref (a 0))] → W p l e rmX10_note s m args below meth c H locs 0 0 Q (F0 m 83 ls [])) :
    ∀ (n : Nat) (x1 : Int32) (S : St), l_X10_note_51 n x1 S = some o → ∀ (H : Heap) (locs : List Loc) (ls : Array Slot), va_P D vwCl (wM cI cZ a S) H → va_S (mA a) H0 H locs → lv_has ls 2 [(0, .ref (a 0)), (1, .int x1)] → W p l e rmX10_note s m args below meth c H locs 0 0 Q (F0 m 51 ls []) := by
  obtain ⟨⟨hx, hb, hml, hown, hts⟩, hK, hN, hA⟩ := id C
  have hin10 := hn_X10_note_10
  intro n
  induction n with
  | zero =>
    intro x1 S hf
    rw [l_X10_note_51] at hf
    cases hf
  | succ n ih =>
    intro x1 S hf H locs ls hP hS hl
    rw [l_X10_note_51] at hf
    refine lv_iload_n hx hb dX10_note_51 rfl (lv_at hl 1 rfl) ?_
    refine lv_bipush (v := (16 : Int32)) hx hb dX10_note_52 (by decide) ?_
    refine lv_icmp_ge (tgt := 83) hx hb dX10_note_54 (by decide) (fun c5 => ?_) (fun c5 => ?_)
    · have hf := if_p hf c5
      obtain rfl := Option.some.inj hf
      exact K0 H locs ls hP hS (lv_sub hl [0] rfl)
    · have hf := if_n hf c5
      refine lv_aload_n hx hb dX10_note_57 rfl (lv_at hl 0 rfl) ?_
      refine gm_10_15 C hin10 hP (List.mem_of_getElem? (i := 2) rfl) dX10_note_58 ?_
      refine lv_bipush (v := (16 : Int32)) hx hb dX10_note_61 (by decide) ?_
      refine lv_aload_n hx hb dX10_note_63 rfl (lv_at hl 0 rfl) ?_
      refine gm_10_16 C hin10 hP (List.mem_of_getElem? (i := 1) rfl) dX10_note_64 ?_
      refine lv_imul hx hb dX10_note_67 ?_
      refine lv_iload_n hx hb dX10_note_68 rfl (lv_at hl 1 rfl) ?_
      refine lv_iadd hx hb dX10_note_69 ?_
      refine lv_aload_n hx hb dX10_note_70 rfl (lv_at hl 0 rfl) ?_
      refine gm_10_14 C hin10 hP (List.mem_of_getElem? (i := 3) rfl) dX10_note_71 ?_
      refine lv_iload_n hx hb dX10_note_74 rfl (lv_at hl 1 rfl) ?_
      obtain ⟨hi6, hf⟩ := ob_in hf
      refine ldm_7 C hP rfl hi6 dX10_note_75 ?_
      obtain ⟨hi7, hf⟩ := ob_in hf
      refine stm_8 C hP hS rfl hi7 dX10_note_76 (fun H locs hP hS => ?_)
      obtain ⟨S76, eS76⟩ : ∃ z, z = (sA S 8 ((((16 : Int32) * (S.1 7)) + x1).toNatClampNeg) (S.2.1 7 x1.toNatClampNeg)) := ⟨_, rfl⟩
      rw [← eS76] at hP
      have hf := nm_i hf eS76
      refine lv_iinc (v := (x1 + 1)) (lv' := [(1, .int (x1 + 1)), (0, .ref (a 0))]) hx hb dX10_note_77 hl (k := 1) rfl rfl (Nat.le_of_ble_eq_true rfl) rfl (fun ls hl => ?_)
      refine lv_goto (tgt := 51) hx hb dX10_note_80 (by decide) ?_
      exact ih _ _ hf H locs ls hP hS (lv_sub hl [1, 0] rfl)
set_option maxHeartbeats 4000000 in
set_option maxRecDepth 100000 in
theorem c_X10_note (l : Launch) {D : va_G} {cI cZ : ClassId} {a : Nat → Nat} (hA : ∀ S : St, va_D (mA a) (wM cI cZ a S)) {S : St} {o : St} (hf : f_X10_note S = some o) : Met l yX10_note wsX10_note rmX10_note (tPc D cI cZ (wM cI cZ a) S ([.ref (a 0)] : List Value)) (tQv D (wM cI cZ a) (mA a) o) 0 0 (mA a) := by
  refine tEnter (cc := cX10_note) (maxL := 2) (ret := none) (own := RX10) hA rfl (by decide) rfl (Nat.le_of_ble_eq_true rfl) (fun p e s m args below meth c C hr hlk hP hS ls hl => ?_)
  obtain ⟨⟨hx, hb, hml, hown, hts⟩, hK, hN, -⟩ := id C
  have hl : lv_has ls 2 [(0, .ref (a 0))] := hl
  have hin10 := hn_X10_note_10
  have J49 : ∀ (S : St) (H : Heap) (locs : List Loc) (ls : Array Slot), j_X10_note_49 S = some o → va_P D vwCl (wM cI cZ a S) H → va_S (mA a) s.heap H locs → lv_has ls 2 [(0, .ref (a 0))] → W p l e rmX10_note s m args below meth c H locs 0 0 (MQ below (tQv D (wM cI cZ a) (mA a) o) args s 0 0 (mA a)) (F0 m 49 ls []) := by
    intro S H locs ls hf hP hS hl
    rw [j_X10_note_49] at hf
    refine lv_iconst (v := (0 : Int32)) hx hb dX10_note_49 (by decide) ?_
    refine lv_istore_n (lv' := [(1, .int (0 : Int32)), (0, .ref (a 0))]) hx hb dX10_note_50 rfl hl (Nat.le_of_ble_eq_true rfl) rfl (fun ls hl => ?_)
    obtain ⟨o51, hc51, hf⟩ := ob hf
    refine lp_X10_note_51 C (fun H locs ls hP hS hl => ?_) fuel _ _ hc51 H locs ls hP hS (lv_sub hl [1, 0] rfl)
    refine lv_aload_n hx hb dX10_note_83 rfl (lv_at hl 0 rfl) ?_
    refine lv_dup hx hb dX10_note_84 rfl ?_
    refine gm_10_16 C hin10 hP (List.mem_of_getElem? (i := 1) rfl) dX10_note_85 ?_
    refine lv_iconst (v := (1 : Int32)) hx hb dX10_note_88 (by decide) ?_
    refine lv_iadd hx hb dX10_note_89 ?_
    refine pm_10_16 C hin10 hP hS (List.mem_of_getElem? (i := 1) rfl) dX10_note_90 (fun H locs hP hS => ?_)
    obtain ⟨S90, eS90⟩ : ∃ z, z = (sI o51 7 ((o51.1 7) + (1 : Int32))) := ⟨_, rfl⟩
    rw [← eS90] at hP
    have hf := nm_i hf eS90
    obtain rfl := Option.some.inj hf
    exact tRet_v C hr hlk hP hS dX10_note_93
  have hSS := hS
  rw [f_X10_note] at hf
  revert hP hS
  suffices hsuf : ∀ (H : Heap) (locs : List Loc), va_P D vwCl (wM cI cZ a S) H → va_S (mA a) s.heap H locs → W p l e rmX10_note s m args below meth c H locs 0 0 (MQ below (tQv D (wM cI cZ a) (mA a) o) args s 0 0 (mA a)) (F0 m 0 ls []) from fun hP hS => hsuf s.heap [] hP hS
  intro H locs hP hS
  refine lv_aload_n hx hb dX10_note_0 rfl (lv_at hl 0 rfl) ?_
  refine gm_10_16 C hin10 hP (List.mem_of_getElem? (i := 1) rfl) dX10_note_1 ?_
  refine lv_bipush (v := (14 : Int32)) hx hb dX10_note_4 (by decide) ?_
  refine lv_icmp_ne (tgt := 49) hx hb dX10_note_6 (by decide) (fun c1 => ?_) (fun c1 => ?_)
  · have hf := if_n hf c1
    exact J49 _ H locs ls hf hP hS (lv_sub hl [0] rfl)
  · have hf := if_p hf c1
    refine lv_iconst (v := (0 : Int32)) hx hb dX10_note_9 (by decide) ?_
    refine lv_istore_n (lv' := [(1, .int (0 : Int32)), (0, .ref (a 0))]) hx hb dX10_note_10 rfl hl (Nat.le_of_ble_eq_true rfl) rfl (fun ls hl => ?_)
    obtain ⟨o11, hc11, hf⟩ := ob hf
    refine lp_X10_note_11 C (fun H locs ls hP hS hl => ?_) fuel _ _ hc11 H locs ls hP hS (lv_sub hl [1, 0] rfl)
    refine lv_aload_n hx hb dX10_note_39 rfl (lv_at hl 0 rfl) ?_
    refine lv_dup hx hb dX10_note_40 rfl ?_
    refine gm_10_16 C hin10 hP (List.mem_of_getElem? (i := 1) rfl) dX10_note_41 ?_
    refine lv_iconst (v := (1 : Int32)) hx hb dX10_note_44 (by decide) ?_
    refine lv_isub hx hb dX10_note_45 ?_
    refine pm_10_16 C hin10 hP hS (List.mem_of_getElem? (i := 1) rfl) dX10_note_46 (fun H locs hP hS => ?_)
    obtain ⟨S46, eS46⟩ : ∃ z, z = (sI o11 7 ((o11.1 7) - (1 : Int32))) := ⟨_, rfl⟩
    rw [← eS46] at hP
    have hf := nm_i hf eS46
    exact J49 _ H locs ls hf hP hS (lv_sub hl [0] rfl)
def rmX10_ground : Room := { frames := 0, cells := 0, slots := 0, locals := 0 }
theorem hn_X10_ground_10 : ∀ w ∈ wsX100, w ∈ wsX10_ground := fun w h => List.mem_cons_of_mem _ (List.mem_append_right _ h)
theorem hd_X10_ground : yX10_ground.cls ≠ "java/lang/invoke/MethodHandle" ∧ yX10_ground.cls ≠ "java/lang/invoke/VarHandle" ∧ (parseMethodDescriptor yX10_ground.desc).map (fun d => d.parameters.length) = some 2 := by decide +kernel
set_option maxHeartbeats 4000000 in
set_option maxRecDepth 100000 in
theorem c_X10_ground (l : Launch) {D : va_G} {cI cZ : ClassId} {a : Nat → Nat} (hA : ∀ S : St, va_D (mA a) (wM cI cZ a S)) {x1 : Int32} {x2 : Int32} {S : St} {o : Int32} (hf : f_X10_ground x1 x2 S = some o) : Met l yX10_ground wsX10_ground rmX10_ground (tPc D cI cZ (wM cI cZ a) S ([.ref (a 0), .int x1, .int x2] : List Value)) (tQi D (wM cI cZ a) (mA a) S o) 0 0 (mA a) := by
  refine tEnter (cc := cX10_ground) (maxL := 3) (ret := (some .int)) (own := RX10) hA rfl (by decide) rfl (Nat.le_of_ble_eq_true rfl) (fun p e s m args below meth c C hr hlk hP hS ls hl => ?_)
  obtain ⟨⟨hx, hb, hml, hown, hts⟩, hK, hN, -⟩ := id C
  have hl : lv_has ls 3 [(0, .ref (a 0)), (1, .int x1), (2, .int x2)] := hl
  have hin10 := hn_X10_ground_10
  have hSS := hS
  rw [f_X10_ground] at hf
  revert hP hS
  suffices hsuf : ∀ (H : Heap) (locs : List Loc), va_P D vwCl (wM cI cZ a S) H → va_S (mA a) s.heap H locs → W p l e rmX10_ground s m args below meth c H locs 0 0 (MQ below (tQi D (wM cI cZ a) (mA a) S o) args s 0 0 (mA a)) (F0 m 0 ls []) from fun hP hS => hsuf s.heap [] hP hS
  intro H locs hP hS
  refine lv_iload_n hx hb dX10_ground_0 rfl (lv_at hl 2 rfl) ?_
  by_cases c1 : x2 = (1 : Int32)
  · have hf := if_p hf c1
    refine lv_tableIn (tgt := 28) hx hb dX10_ground_1 (by rw [c1]; decide) (by rw [c1]; decide) (by first | (rw [c1]; done) | (rw [c1]; rfl)) (by decide) ?_
    refine lv_aload_n hx hb dX10_ground_28 rfl (lv_at hl 0 rfl) ?_
    refine gm_10_9 C hin10 hP (List.mem_of_getElem? (i := 1) rfl) dX10_ground_29 ?_
    refine lv_iload_n hx hb dX10_ground_32 rfl (lv_at hl 1 rfl) ?_
    obtain ⟨hi2, hf⟩ := ob_in hf
    refine ldm_3 C hP rfl hi2 dX10_ground_33 ?_
    refine lv_ineg hx hb dX10_ground_34 ?_
    refine lv_aload_n hx hb dX10_ground_35 rfl (lv_at hl 0 rfl) ?_
    refine gm_10_9 C hin10 hP (List.mem_of_getElem? (i := 1) rfl) dX10_ground_36 ?_
    refine lv_iload_n hx hb dX10_ground_39 rfl (lv_at hl 1 rfl) ?_
    obtain ⟨hi3, hf⟩ := ob_in hf
    refine ldm_3 C hP rfl hi3 dX10_ground_40 ?_
    refine lv_imul hx hb dX10_ground_41 ?_
    obtain rfl := Option.some.inj hf
    exact tRet_i C hr hlk hP hS dX10_ground_42
  have hf := if_n hf c1
  by_cases c4 : x2 = (2 : Int32)
  · have hf := if_p hf c4
    refine lv_tableIn (tgt := 43) hx hb dX10_ground_1 (by rw [c4]; decide) (by rw [c4]; decide) (by first | (rw [c4]; done) | (rw [c4]; rfl)) (by decide) ?_
    refine lv_aload_n hx hb dX10_ground_43 rfl (lv_at hl 0 rfl) ?_
    refine gm_10_9 C hin10 hP (List.mem_of_getElem? (i := 1) rfl) dX10_ground_44 ?_
    refine lv_iload_n hx hb dX10_ground_47 rfl (lv_at hl 1 rfl) ?_
    obtain ⟨hi5, hf⟩ := ob_in hf
    refine ldm_3 C hP rfl hi5 dX10_ground_48 ?_
    refine lv_ineg hx hb dX10_ground_49 ?_
    obtain rfl := Option.some.inj hf
    exact tRet_i C hr hlk hP hS dX10_ground_50
  have hf := if_n hf c4
  by_cases c6 : x2 = (3 : Int32)
  · have hf := if_p hf c6
    refine lv_tableIn (tgt := 51) hx hb dX10_ground_1 (by rw [c6]; decide) (by rw [c6]; decide) (by first | (rw [c6]; done) | (rw [c6]; rfl)) (by decide) ?_
    refine lv_bipush (v := (-2 : Int32)) hx hb dX10_ground_51 (by decide) ?_
    refine lv_aload_n hx hb dX10_ground_53 rfl (lv_at hl 0 rfl) ?_
    refine gm_10_9 C hin10 hP (List.mem_of_getElem? (i := 1) rfl) dX10_ground_54 ?_
    refine lv_iload_n hx hb dX10_ground_57 rfl (lv_at hl 1 rfl) ?_
    obtain ⟨hi7, hf⟩ := ob_in hf
    refine ldm_3 C hP rfl hi7 dX10_ground_58 ?_
    refine lv_imul hx hb dX10_ground_59 ?_
    obtain rfl := Option.some.inj hf
    exact tRet_i C hr hlk hP hS dX10_ground_60
  have hf := if_n hf c6
  refine lv_tableOut (tgt := 61) hx hb dX10_ground_1 (by have q1 := lv_neT (a := 1) c1 (by decide); have q4 := lv_neT (a := 2) c4 (by decide); have q6 := lv_neT (a := 3) c6 (by decide); omega) (by decide) ?_
  refine lv_iconst (v := (0 : Int32)) hx hb dX10_ground_61 (by decide) ?_
  obtain rfl := Option.some.inj hf
  exact tRet_i C hr hlk hP hS dX10_ground_62
def rmX10_errorOf : Room := { frames := 1, cells := 0, slots := 0, locals := 22 }
theorem hn_X10_errorOf_10 : ∀ w ∈ wsX100, w ∈ wsX10_errorOf := fun w h => List.mem_cons_of_mem _ (List.mem_append_right _ h)
theorem hd_X10_errorOf : yX10_errorOf.cls ≠ "java/lang/invoke/MethodHandle" ∧ yX10_errorOf.cls ≠ "java/lang/invoke/VarHandle" ∧ (parseMethodDescriptor yX10_errorOf.desc).map (fun d => d.parameters.length) = some 2 := by decide +kernel
set_option maxHeartbeats 4000000 in
set_option maxRecDepth 100000 in
theorem c_X10_errorOf (l : Launch) {D : va_G} {cI cZ : ClassId} {a : Nat → Nat} (hA : ∀ S : St, va_D (mA a) (wM cI cZ a S)) {x1 : Int32} {x2 : Int32} {S : St} {o : Int32} (hf : f_X10_errorOf x1 x2 S = some o) : Met l yX10_errorOf wsX10_errorOf rmX10_errorOf (tPc D cI cZ (wM cI cZ a) S ([.ref (a 0), .int x1, .int x2] : List Value)) (tQi D (wM cI cZ a) (mA a) S o) 0 0 (mA a) := by
  refine tEnter (cc := cX10_errorOf) (maxL := 3) (ret := (some .int)) (own := RX10) hA rfl (by decide) rfl (Nat.le_of_ble_eq_true rfl) (fun p e s m args below meth c C hr hlk hP hS ls hl => ?_)
  obtain ⟨⟨hx, hb, hml, hown, hts⟩, hK, hN, -⟩ := id C
  have hl : lv_has ls 3 [(0, .ref (a 0)), (1, .int x1), (2, .int x2)] := hl
  have hin10 := hn_X10_errorOf_10
  have hSS := hS
  rw [f_X10_errorOf] at hf
  revert hP hS
  suffices hsuf : ∀ (H : Heap) (locs : List Loc), va_P D vwCl (wM cI cZ a S) H → va_S (mA a) s.heap H locs → W p l e rmX10_errorOf s m args below meth c H locs 0 0 (MQ below (tQi D (wM cI cZ a) (mA a) S o) args s 0 0 (mA a)) (F0 m 0 ls []) from fun hP hS => hsuf s.heap [] hP hS
  intro H locs hP hS
  refine lv_aload_n hx hb dX10_errorOf_0 rfl (lv_at hl 0 rfl) ?_
  refine gm_10_14 C hin10 hP (List.mem_of_getElem? (i := 1) rfl) dX10_errorOf_1 ?_
  refine lv_bipush (v := (6 : Int32)) hx hb dX10_errorOf_4 (by decide) ?_
  refine ldm_7 (j := 6) C hP (by decide) (show ¬ ((6 : Int32) < 0 ∨ 16 ≤ (6 : Int32).toNatClampNeg) by decide) dX10_errorOf_6 ?_
  refine lv_aload_n hx hb dX10_errorOf_7 rfl (lv_at hl 0 rfl) ?_
  refine lv_iload_n hx hb dX10_errorOf_8 rfl (lv_at hl 1 rfl) ?_
  refine lv_aload_n hx hb dX10_errorOf_9 rfl (lv_at hl 0 rfl) ?_
  refine gm_10_8 C hin10 hP (List.mem_of_getElem? (i := 2) rfl) dX10_errorOf_10 ?_
  refine lv_iload_n hx hb dX10_errorOf_13 rfl (lv_at hl 1 rfl) ?_
  obtain ⟨hi2, hf⟩ := ob_in hf
  refine ldm_2 C hP rfl hi2 dX10_errorOf_14 ?_
  obtain ⟨r15, hc15, hf⟩ := ob hf
  refine tCallVi (As := [.int x1, .int (S.2.1 2 x1.toNatClampNeg)]) (rest := [.int (S.2.1 7 6)]) (q0 := 0) (ci := 10) C hP hS rfl rfl (c_X10_ground l C.2.2.2 hc15) (cwV 2 hts gX10_errorOf_X10_ground rfl rfl rfl ⟨rfl, hd_X10_ground⟩ ⟨Nat.le_of_ble_eq_true rfl, Nat.le_of_ble_eq_true rfl⟩) rfl hl rfl (Nat.le_of_ble_eq_true rfl) dX10_errorOf_15 ⟨Nat.le_refl 0, Nat.le_refl 0⟩ (fun H locs hP hS => ?_)
  refine lv_iadd hx hb dX10_errorOf_18 ?_
  refine lv_aload_n hx hb dX10_errorOf_19 rfl (lv_at hl 0 rfl) ?_
  refine gm_10_7 C hin10 hP (List.mem_of_getElem? (i := 3) rfl) dX10_errorOf_20 ?_
  refine lv_iload_n hx hb dX10_errorOf_23 rfl (lv_at hl 2 rfl) ?_
  obtain ⟨hi3, hf⟩ := ob_in hf
  refine ldm_1 C hP rfl hi3 dX10_errorOf_24 ?_
  refine lv_iadd hx hb dX10_errorOf_25 ?_
  refine lv_aload_n hx hb dX10_errorOf_26 rfl (lv_at hl 0 rfl) ?_
  refine gm_10_14 C hin10 hP (List.mem_of_getElem? (i := 1) rfl) dX10_errorOf_27 ?_
  refine lv_bipush (v := (7 : Int32)) hx hb dX10_errorOf_30 (by decide) ?_
  refine ldm_7 (j := 7) C hP (by decide) (show ¬ ((7 : Int32) < 0 ∨ 16 ≤ (7 : Int32).toNatClampNeg) by decide) dX10_errorOf_32 ?_
  refine lv_isub hx hb dX10_errorOf_33 ?_
  obtain rfl := Option.some.inj hf
  exact tRet_i C hr hlk hP hS dX10_errorOf_34
def rmX10_lay : Room := { frames := 2, cells := 0, slots := 0, locals := 44 }
theorem hn_X10_lay_10 : ∀ w ∈ wsX100, w ∈ wsX10_lay := fun w h => List.mem_cons_of_mem _ (List.mem_append_right _ h)
theorem hd_X10_lay : yX10_lay.cls ≠ "java/lang/invoke/MethodHandle" ∧ yX10_lay.cls ≠ "java/lang/invoke/VarHandle" ∧ (parseMethodDescriptor yX10_lay.desc).map (fun d => d.parameters.length) = some 0 := by decide +kernel
set_option maxHeartbeats 4000000 in
set_option maxRecDepth 100000 in
theorem c_X10_lay (l : Launch) {D : va_G} {cI cZ : ClassId} {a : Nat → Nat} (hA : ∀ S : St, va_D (mA a) (wM cI cZ a S)) {S : St} {o : Int32 × St} (hf : f_X10_lay S = some o) : Met l yX10_lay wsX10_lay rmX10_lay (tPc D cI cZ (wM cI cZ a) S ([.ref (a 0)] : List Value)) (tQi D (wM cI cZ a) (mA a) o.2 o.1) 0 0 (mA a) := by
  refine tEnter (cc := cX10_lay) (maxL := 2) (ret := (some .int)) (own := RX10) hA rfl (by decide) rfl (Nat.le_of_ble_eq_true rfl) (fun p e s m args below meth c C hr hlk hP hS ls hl => ?_)
  obtain ⟨⟨hx, hb, hml, hown, hts⟩, hK, hN, -⟩ := id C
  have hl : lv_has ls 2 [(0, .ref (a 0))] := hl
  have hin10 := hn_X10_lay_10
  have J73 : ∀ (S : St) (H : Heap) (locs : List Loc) (ls : Array Slot), j_X10_lay_73 S = some o → va_P D vwCl (wM cI cZ a S) H → va_S (mA a) s.heap H locs → lv_has ls 2 [(0, .ref (a 0))] → W p l e rmX10_lay s m args below meth c H locs 0 0 (MQ below (tQi D (wM cI cZ a) (mA a) o.2 o.1) args s 0 0 (mA a)) (F0 m 73 ls []) := by
    intro S H locs ls hf hP hS hl
    rw [j_X10_lay_73] at hf
    refine lv_aload_n hx hb dX10_lay_73 rfl (lv_at hl 0 rfl) ?_
    refine gm_10_14 C hin10 hP (List.mem_of_getElem? (i := 2) rfl) dX10_lay_74 ?_
    refine lv_iconst (v := (0 : Int32)) hx hb dX10_lay_77 (by decide) ?_
    refine ldm_7 (j := 0) C hP (by decide) (show ¬ ((0 : Int32) < 0 ∨ 16 ≤ (0 : Int32).toNatClampNeg) by decide) dX10_lay_78 ?_
    refine lv_istore_n (lv' := [(1, .int (S.2.1 7 0)), (0, .ref (a 0))]) hx hb dX10_lay_79 rfl hl (Nat.le_of_ble_eq_true rfl) rfl (fun ls hl => ?_)
    refine lv_aload_n hx hb dX10_lay_80 rfl (lv_at hl 1 rfl) ?_
    refine gm_10_14 C hin10 hP (List.mem_of_getElem? (i := 2) rfl) dX10_lay_81 ?_
    refine lv_iconst (v := (1 : Int32)) hx hb dX10_lay_84 (by decide) ?_
    refine lv_dup2_11 hx hb dX10_lay_85 rfl rfl ?_
    refine ldm_7 (j := 1) C hP (by decide) (show ¬ ((1 : Int32) < 0 ∨ 16 ≤ (1 : Int32).toNatClampNeg) by decide) dX10_lay_86 ?_
    refine lv_iconst (v := (1 : Int32)) hx hb dX10_lay_87 (by decide) ?_
    refine lv_isub hx hb dX10_lay_88 ?_
    refine stm_7 (j := 1) C hP hS (by decide) (show ¬ ((1 : Int32) < 0 ∨ 16 ≤ (1 : Int32).toNatClampNeg) by decide) dX10_lay_89 (fun H locs hP hS => ?_)
    obtain ⟨S89, eS89⟩ : ∃ z, z = (sA S 7 1 ((S.2.1 7 1) - (1 : Int32))) := ⟨_, rfl⟩
    rw [← eS89] at hP
    have hf := nm_i hf eS89
    refine lv_aload_n hx hb dX10_lay_90 rfl (lv_at hl 1 rfl) ?_
    refine gm_10_14 C hin10 hP (List.mem_of_getElem? (i := 2) rfl) dX10_lay_91 ?_
    refine lv_iconst (v := (2 : Int32)) hx hb dX10_lay_94 (by decide) ?_
    refine lv_dup2_11 hx hb dX10_lay_95 rfl rfl ?_
    refine ldm_7 (j := 2) C hP (by decide) (show ¬ ((2 : Int32) < 0 ∨ 16 ≤ (2 : Int32).toNatClampNeg) by decide) dX10_lay_96 ?_
    refine lv_iconst (v := (1 : Int32)) hx hb dX10_lay_97 (by decide) ?_
    refine lv_iadd hx hb dX10_lay_98 ?_
    refine stm_7 (j := 2) C hP hS (by decide) (show ¬ ((2 : Int32) < 0 ∨ 16 ≤ (2 : Int32).toNatClampNeg) by decide) dX10_lay_99 (fun H locs hP hS => ?_)
    obtain ⟨S99, eS99⟩ : ∃ z, z = (sA S89 7 2 ((S89.2.1 7 2) + (1 : Int32))) := ⟨_, rfl⟩
    rw [← eS99] at hP
    have hf := nm_i hf eS99
    refine lv_aload_n hx hb dX10_lay_100 rfl (lv_at hl 1 rfl) ?_
    refine gm_10_14 C hin10 hP (List.mem_of_getElem? (i := 2) rfl) dX10_lay_101 ?_
    refine lv_bipush (v := (8 : Int32)) hx hb dX10_lay_104 (by decide) ?_
    refine lv_iload_n hx hb dX10_lay_106 rfl (lv_at hl 0 rfl) ?_
    refine lv_iadd hx hb dX10_lay_107 ?_
    refine lv_aload_n hx hb dX10_lay_108 rfl (lv_at hl 1 rfl) ?_
    refine lv_iload_n hx hb dX10_lay_109 rfl (lv_at hl 0 rfl) ?_
    refine lv_aload_n hx hb dX10_lay_110 rfl (lv_at hl 1 rfl) ?_
    refine gm_10_14 C hin10 hP (List.mem_of_getElem? (i := 2) rfl) dX10_lay_111 ?_
    refine lv_iconst (v := (5 : Int32)) hx hb dX10_lay_114 (by decide) ?_
    refine ldm_7 (j := 5) C hP (by decide) (show ¬ ((5 : Int32) < 0 ∨ 16 ≤ (5 : Int32).toNatClampNeg) by decide) dX10_lay_115 ?_
    obtain ⟨r116, hc116, hf⟩ := ob hf
    refine tCallVi (As := [.int (S.2.1 7 0), .int (S99.2.1 7 5)]) (rest := [.int ((8 : Int32) + (S.2.1 7 0)), .ref (a 8)]) (q0 := 0) (ci := 10) C hP hS rfl rfl (c_X10_errorOf l C.2.2.2 hc116) (cwV 2 hts gX10_lay_X10_errorOf rfl rfl rfl ⟨rfl, hd_X10_errorOf⟩ ⟨Nat.le_of_ble_eq_true rfl, Nat.le_of_ble_eq_true rfl⟩) rfl hl rfl (Nat.le_of_ble_eq_true rfl) dX10_lay_116 ⟨Nat.le_refl 0, Nat.le_refl 0⟩ (fun H locs hP hS => ?_)
    obtain ⟨hi18, hf⟩ := ob_in hf
    refine stm_7 C hP hS rfl hi18 dX10_lay_119 (fun H locs hP hS => ?_)
    obtain ⟨S119, eS119⟩ : ∃ z, z = (sA S99 7 (((8 : Int32) + (S.2.1 7 0)).toNatClampNeg) r116) := ⟨_, rfl⟩
    rw [← eS119] at hP
    have hf := nm_i hf eS119
    refine lv_aload_n hx hb dX10_lay_120 rfl (lv_at hl 1 rfl) ?_
    refine gm_10_14 C hin10 hP (List.mem_of_getElem? (i := 2) rfl) dX10_lay_121 ?_
    refine lv_iconst (v := (0 : Int32)) hx hb dX10_lay_124 (by decide) ?_
    refine lv_dup2_11 hx hb dX10_lay_125 rfl rfl ?_
    refine ldm_7 (j := 0) C hP (by decide) (show ¬ ((0 : Int32) < 0 ∨ 16 ≤ (0 : Int32).toNatClampNeg) by decide) dX10_lay_126 ?_
    refine lv_iconst (v := (1 : Int32)) hx hb dX10_lay_127 (by decide) ?_
    refine lv_iadd hx hb dX10_lay_128 ?_
    refine stm_7 (j := 0) C hP hS (by decide) (show ¬ ((0 : Int32) < 0 ∨ 16 ≤ (0 : Int32).toNatClampNeg) by decide) dX10_lay_129 (fun H locs hP hS => ?_)
    obtain ⟨S129, eS129⟩ : ∃ z, z = (sA S119 7 0 ((S119.2.1 7 0) + (1 : Int32))) := ⟨_, rfl⟩
    rw [← eS129] at hP
    have hf := nm_i hf eS129
    refine lv_aload_n hx hb dX10_lay_130 rfl (lv_at hl 1 rfl) ?_
    refine gm_10_14 C hin10 hP (List.mem_of_getElem? (i := 2) rfl) dX10_lay_131 ?_
    refine lv_bipush (v := (8 : Int32)) hx hb dX10_lay_134 (by decide) ?_
    refine lv_iload_n hx hb dX10_lay_136 rfl (lv_at hl 0 rfl) ?_
    refine lv_iadd hx hb dX10_lay_137 ?_
    obtain ⟨hi21, hf⟩ := ob_in hf
    refine ldm_7 C hP rfl hi21 dX10_lay_138 ?_
    refine lv_sipush (v := (20000 : Int32)) hx hb dX10_lay_139 (by decide) ?_
    refine lv_iadd hx hb dX10_lay_142 ?_
    obtain rfl := Option.some.inj hf
    exact tRet_i C hr hlk hP hS dX10_lay_143
  have hSS := hS
  rw [f_X10_lay] at hf
  revert hP hS
  suffices hsuf : ∀ (H : Heap) (locs : List Loc), va_P D vwCl (wM cI cZ a S) H → va_S (mA a) s.heap H locs → W p l e rmX10_lay s m args below meth c H locs 0 0 (MQ below (tQi D (wM cI cZ a) (mA a) o.2 o.1) args s 0 0 (mA a)) (F0 m 0 ls []) from fun hP hS => hsuf s.heap [] hP hS
  intro H locs hP hS
  refine lv_aload_n hx hb dX10_lay_0 rfl (lv_at hl 0 rfl) ?_
  refine lv_iconst (v := (0 : Int32)) hx hb dX10_lay_1 (by decide) ?_
  refine pm_10_0 C hin10 hP hS (List.mem_of_getElem? (i := 1) rfl) dX10_lay_2 (fun H locs hP hS => ?_)
  obtain ⟨S2, eS2⟩ : ∃ z, z = (sI S 0 (0 : Int32)) := ⟨_, rfl⟩
  rw [← eS2] at hP
  have hf := nm_i hf eS2
  refine lv_aload_n hx hb dX10_lay_5 rfl (lv_at hl 0 rfl) ?_
  obtain ⟨r6, hc6, hf⟩ := ob hf
  refine tCallVi (As := []) (rest := []) (q0 := 0) (ci := 10) C hP hS rfl rfl (c_X10_ahead l C.2.2.2 hc6) (cwV 0 hts gX10_lay_X10_ahead rfl rfl rfl ⟨rfl, hd_X10_ahead⟩ ⟨Nat.le_of_ble_eq_true rfl, Nat.le_of_ble_eq_true rfl⟩) rfl hl rfl (Nat.le_of_ble_eq_true rfl) dX10_lay_6 ⟨Nat.le_refl 0, Nat.le_refl 0⟩ (fun H locs hP hS => ?_)
  refine lv_if_eq (tgt := 28) hx hb dX10_lay_9 (by decide) (fun c1 => ?_) (fun c1 => ?_)
  · have hf := if_p hf c1
    refine lv_bipush (v := (-3 : Int32)) hx hb dX10_lay_28 (by decide) ?_
    obtain rfl := Option.some.inj hf
    exact tRet_i C hr hlk hP hS dX10_lay_30
  · have hf := if_n hf c1
    refine lv_aload_n hx hb dX10_lay_12 rfl (lv_at hl 0 rfl) ?_
    refine gm_10_14 C hin10 hP (List.mem_of_getElem? (i := 2) rfl) dX10_lay_13 ?_
    refine lv_iconst (v := (1 : Int32)) hx hb dX10_lay_16 (by decide) ?_
    refine ldm_7 (j := 1) C hP (by decide) (show ¬ ((1 : Int32) < 0 ∨ 16 ≤ (1 : Int32).toNatClampNeg) by decide) dX10_lay_17 ?_
    refine lv_aload_n hx hb dX10_lay_18 rfl (lv_at hl 0 rfl) ?_
    refine gm_10_14 C hin10 hP (List.mem_of_getElem? (i := 2) rfl) dX10_lay_19 ?_
    refine lv_iconst (v := (2 : Int32)) hx hb dX10_lay_22 (by decide) ?_
    refine ldm_7 (j := 2) C hP (by decide) (show ¬ ((2 : Int32) < 0 ∨ 16 ≤ (2 : Int32).toNatClampNeg) by decide) dX10_lay_23 ?_
    refine lv_iadd hx hb dX10_lay_24 ?_
    refine lv_if_ne (tgt := 31) hx hb dX10_lay_25 (by decide) (fun c4 => ?_) (fun c4 => ?_)
    · have hf := if_n hf c4
      refine lv_aload_n hx hb dX10_lay_31 rfl (lv_at hl 0 rfl) ?_
      obtain ⟨r32, hc32, hf⟩ := ob hf
      refine tCallVv (As := []) (rest := []) (q0 := 0) (ci := 10) C hP hS rfl rfl (c_X10_note l C.2.2.2 hc32) (cwV 0 hts gX10_lay_X10_note rfl rfl rfl ⟨rfl, hd_X10_note⟩ ⟨Nat.le_of_ble_eq_true rfl, Nat.le_of_ble_eq_true rfl⟩) rfl hl rfl (Nat.le_of_ble_eq_true rfl) dX10_lay_32 ⟨Nat.le_refl 0, Nat.le_refl 0⟩ (fun H locs hP hS => ?_)
      refine lv_aload_n hx hb dX10_lay_35 rfl (lv_at hl 0 rfl) ?_
      refine gm_10_14 C hin10 hP (List.mem_of_getElem? (i := 2) rfl) dX10_lay_36 ?_
      refine lv_iconst (v := (1 : Int32)) hx hb dX10_lay_39 (by decide) ?_
      refine ldm_7 (j := 1) C hP (by decide) (show ¬ ((1 : Int32) < 0 ∨ 16 ≤ (1 : Int32).toNatClampNeg) by decide) dX10_lay_40 ?_
      refine lv_if_ne (tgt := 73) hx hb dX10_lay_41 (by decide) (fun c6 => ?_) (fun c6 => ?_)
      · have hf := if_n hf c6
        exact J73 _ H locs ls hf hP hS (lv_sub hl [0] rfl)
      · have hf := if_p hf c6
        refine lv_aload_n hx hb dX10_lay_44 rfl (lv_at hl 0 rfl) ?_
        refine gm_10_14 C hin10 hP (List.mem_of_getElem? (i := 2) rfl) dX10_lay_45 ?_
        refine lv_iconst (v := (1 : Int32)) hx hb dX10_lay_48 (by decide) ?_
        refine lv_aload_n hx hb dX10_lay_49 rfl (lv_at hl 0 rfl) ?_
        refine gm_10_14 C hin10 hP (List.mem_of_getElem? (i := 2) rfl) dX10_lay_50 ?_
        refine lv_iconst (v := (2 : Int32)) hx hb dX10_lay_53 (by decide) ?_
        refine ldm_7 (j := 2) C hP (by decide) (show ¬ ((2 : Int32) < 0 ∨ 16 ≤ (2 : Int32).toNatClampNeg) by decide) dX10_lay_54 ?_
        refine stm_7 (j := 1) C hP hS (by decide) (show ¬ ((1 : Int32) < 0 ∨ 16 ≤ (1 : Int32).toNatClampNeg) by decide) dX10_lay_55 (fun H locs hP hS => ?_)
        obtain ⟨S55, eS55⟩ : ∃ z, z = (sA r32 7 1 (r32.2.1 7 2)) := ⟨_, rfl⟩
        rw [← eS55] at hP
        have hf := nm_i hf eS55
        refine lv_aload_n hx hb dX10_lay_56 rfl (lv_at hl 0 rfl) ?_
        refine gm_10_14 C hin10 hP (List.mem_of_getElem? (i := 2) rfl) dX10_lay_57 ?_
        refine lv_iconst (v := (2 : Int32)) hx hb dX10_lay_60 (by decide) ?_
        refine lv_iconst (v := (0 : Int32)) hx hb dX10_lay_61 (by decide) ?_
        refine stm_7 (j := 2) C hP hS (by decide) (show ¬ ((2 : Int32) < 0 ∨ 16 ≤ (2 : Int32).toNatClampNeg) by decide) dX10_lay_62 (fun H locs hP hS => ?_)
        obtain ⟨S62, eS62⟩ : ∃ z, z = (sA S55 7 2 (0 : Int32)) := ⟨_, rfl⟩
        rw [← eS62] at hP
        have hf := nm_i hf eS62
        refine lv_aload_n hx hb dX10_lay_63 rfl (lv_at hl 0 rfl) ?_
        refine gm_10_14 C hin10 hP (List.mem_of_getElem? (i := 2) rfl) dX10_lay_64 ?_
        refine lv_iconst (v := (3 : Int32)) hx hb dX10_lay_67 (by decide) ?_
        refine lv_dup2_11 hx hb dX10_lay_68 rfl rfl ?_
        refine ldm_7 (j := 3) C hP (by decide) (show ¬ ((3 : Int32) < 0 ∨ 16 ≤ (3 : Int32).toNatClampNeg) by decide) dX10_lay_69 ?_
        refine lv_iconst (v := (1 : Int32)) hx hb dX10_lay_70 (by decide) ?_
        refine lv_iadd hx hb dX10_lay_71 ?_
        refine stm_7 (j := 3) C hP hS (by decide) (show ¬ ((3 : Int32) < 0 ∨ 16 ≤ (3 : Int32).toNatClampNeg) by decide) dX10_lay_72 (fun H locs hP hS => ?_)
        obtain ⟨S72, eS72⟩ : ∃ z, z = (sA S62 7 3 ((S62.2.1 7 3) + (1 : Int32))) := ⟨_, rfl⟩
        rw [← eS72] at hP
        have hf := nm_i hf eS72
        exact J73 _ H locs ls hf hP hS (lv_sub hl [0] rfl)
    · have hf := if_p hf c4
      refine lv_bipush (v := (-3 : Int32)) hx hb dX10_lay_28 (by decide) ?_
      obtain rfl := Option.some.inj hf
      exact tRet_i C hr hlk hP hS dX10_lay_30
def rmX10_has : Room := { frames := 0, cells := 0, slots := 0, locals := 0 }
theorem hd_X10_has : yX10_has.cls ≠ "java/lang/invoke/MethodHandle" ∧ yX10_has.cls ≠ "java/lang/invoke/VarHandle" ∧ (parseMethodDescriptor yX10_has.desc).map (fun d => d.parameters.length) = some 2 := by decide +kernel
set_option maxHeartbeats 4000000 in
set_option maxRecDepth 100000 in
theorem c_X10_has (l : Launch) {D : va_G} {cI cZ : ClassId} {a : Nat → Nat} (hA : ∀ S : St, va_D (mA a) (wM cI cZ a S)) {x0 : Int32} {x1 : Int32} {S : St} {o : Int32} (hf : f_X10_has x0 x1 = some o) : Met l yX10_has wsX10_has rmX10_has (tPc D cI cZ (wM cI cZ a) S ([.int x0, .int x1] : List Value)) (tQi D (wM cI cZ a) (mA a) S o) 0 0 (mA a) := by
  refine tEnter (cc := cX10_has) (maxL := 2) (ret := (some .boolean)) (own := RX10) hA rfl (by decide) rfl (Nat.le_of_ble_eq_true rfl) (fun p e s m args below meth c C hr hlk hP hS ls hl => ?_)
  obtain ⟨⟨hx, hb, hml, hown, hts⟩, hK, hN, -⟩ := id C
  have hl : lv_has ls 2 [(0, .int x0), (1, .int x1)] := hl
  have hSS := hS
  rw [f_X10_has] at hf
  revert hP hS
  suffices hsuf : ∀ (H : Heap) (locs : List Loc), va_P D vwCl (wM cI cZ a S) H → va_S (mA a) s.heap H locs → W p l e rmX10_has s m args below meth c H locs 0 0 (MQ below (tQi D (wM cI cZ a) (mA a) S o) args s 0 0 (mA a)) (F0 m 0 ls []) from fun hP hS => hsuf s.heap [] hP hS
  intro H locs hP hS
  refine lv_iload_n hx hb dX10_has_0 rfl (lv_at hl 0 rfl) ?_
  refine lv_iload_n hx hb dX10_has_1 rfl (lv_at hl 1 rfl) ?_
  refine lv_ishr hx hb dX10_has_2 ?_
  refine lv_iconst (v := (1 : Int32)) hx hb dX10_has_3 (by decide) ?_
  refine lv_iand hx hb dX10_has_4 ?_
  refine lv_iconst (v := (1 : Int32)) hx hb dX10_has_5 (by decide) ?_
  refine lv_icmp_ne (tgt := 13) hx hb dX10_has_6 (by decide) (fun c1 => ?_) (fun c1 => ?_)
  · have hf := if_n hf c1
    refine lv_iconst (v := (0 : Int32)) hx hb dX10_has_13 (by decide) ?_
    obtain rfl := Option.some.inj hf
    exact tRet_z (v := (0 : Int32)) C hr hlk hP hS rfl dX10_has_14
  · have hf := if_p hf c1
    refine lv_iconst (v := (1 : Int32)) hx hb dX10_has_9 (by decide) ?_
    refine lv_goto (tgt := 14) hx hb dX10_has_10 (by decide) ?_
    obtain rfl := Option.some.inj hf
    exact tRet_z (v := (1 : Int32)) C hr hlk hP hS rfl dX10_has_14
def rmX10_lose : Room := { frames := 1, cells := 0, slots := 0, locals := 21 }
theorem hn_X10_lose_10 : ∀ w ∈ wsX100, w ∈ wsX10_lose := fun w h => List.mem_cons_of_mem _ (List.mem_append_right _ h)
theorem hd_X10_lose : yX10_lose.cls ≠ "java/lang/invoke/MethodHandle" ∧ yX10_lose.cls ≠ "java/lang/invoke/VarHandle" ∧ (parseMethodDescriptor yX10_lose.desc).map (fun d => d.parameters.length) = some 0 := by decide +kernel
set_option maxHeartbeats 4000000 in
set_option maxRecDepth 100000 in
theorem c_X10_lose (l : Launch) {D : va_G} {cI cZ : ClassId} {a : Nat → Nat} (hA : ∀ S : St, va_D (mA a) (wM cI cZ a S)) {S : St} {o : Int32 × St} (hf : f_X10_lose S = some o) : Met l yX10_lose wsX10_lose rmX10_lose (tPc D cI cZ (wM cI cZ a) S ([.ref (a 0)] : List Value)) (tQi D (wM cI cZ a) (mA a) o.2 o.1) 0 0 (mA a) := by
  refine tEnter (cc := cX10_lose) (maxL := 2) (ret := (some .int)) (own := RX10) hA rfl (by decide) rfl (Nat.le_of_ble_eq_true rfl) (fun p e s m args below meth c C hr hlk hP hS ls hl => ?_)
  obtain ⟨⟨hx, hb, hml, hown, hts⟩, hK, hN, -⟩ := id C
  have hl : lv_has ls 2 [(0, .ref (a 0))] := hl
  have hin10 := hn_X10_lose_10
  have hSS := hS
  rw [f_X10_lose] at hf
  revert hP hS
  suffices hsuf : ∀ (H : Heap) (locs : List Loc), va_P D vwCl (wM cI cZ a S) H → va_S (mA a) s.heap H locs → W p l e rmX10_lose s m args below meth c H locs 0 0 (MQ below (tQi D (wM cI cZ a) (mA a) o.2 o.1) args s 0 0 (mA a)) (F0 m 0 ls []) from fun hP hS => hsuf s.heap [] hP hS
  intro H locs hP hS
  refine lv_aload_n hx hb dX10_lose_0 rfl (lv_at hl 0 rfl) ?_
  refine lv_iconst (v := (0 : Int32)) hx hb dX10_lose_1 (by decide) ?_
  refine pm_10_0 C hin10 hP hS (List.mem_of_getElem? (i := 1) rfl) dX10_lose_2 (fun H locs hP hS => ?_)
  obtain ⟨S2, eS2⟩ : ∃ z, z = (sI S 0 (0 : Int32)) := ⟨_, rfl⟩
  rw [← eS2] at hP
  have hf := nm_i hf eS2
  refine lv_aload_n hx hb dX10_lose_5 rfl (lv_at hl 0 rfl) ?_
  refine gm_10_14 C hin10 hP (List.mem_of_getElem? (i := 2) rfl) dX10_lose_6 ?_
  refine lv_iconst (v := (0 : Int32)) hx hb dX10_lose_9 (by decide) ?_
  refine ldm_7 (j := 0) C hP (by decide) (show ¬ ((0 : Int32) < 0 ∨ 16 ≤ (0 : Int32).toNatClampNeg) by decide) dX10_lose_10 ?_
  refine lv_iconst (v := (1 : Int32)) hx hb dX10_lose_11 (by decide) ?_
  refine lv_isub hx hb dX10_lose_12 ?_
  refine lv_istore_n (lv' := [(1, .int ((S2.2.1 7 0) - (1 : Int32))), (0, .ref (a 0))]) hx hb dX10_lose_13 rfl hl (Nat.le_of_ble_eq_true rfl) rfl (fun ls hl => ?_)
  refine lv_iload_n hx hb dX10_lose_14 rfl (lv_at hl 0 rfl) ?_
  refine lv_if_lt (tgt := 31) hx hb dX10_lose_15 (by decide) (fun c2 => ?_) (fun c2 => ?_)
  · have hf := if_p hf c2
    refine lv_bipush (v := (-3 : Int32)) hx hb dX10_lose_31 (by decide) ?_
    obtain rfl := Option.some.inj hf
    exact tRet_i C hr hlk hP hS dX10_lose_33
  · have hf := if_n hf c2
    refine lv_aload_n hx hb dX10_lose_18 rfl (lv_at hl 1 rfl) ?_
    refine gm_10_14 C hin10 hP (List.mem_of_getElem? (i := 2) rfl) dX10_lose_19 ?_
    refine lv_iconst (v := (4 : Int32)) hx hb dX10_lose_22 (by decide) ?_
    refine ldm_7 (j := 4) C hP (by decide) (show ¬ ((4 : Int32) < 0 ∨ 16 ≤ (4 : Int32).toNatClampNeg) by decide) dX10_lose_23 ?_
    refine lv_iload_n hx hb dX10_lose_24 rfl (lv_at hl 0 rfl) ?_
    obtain ⟨r25, hc25, hf⟩ := ob hf
    refine tCallSi (As := [.int (S2.2.1 7 4), .int ((S2.2.1 7 0) - (1 : Int32))]) (rest := []) C hP hS (c_X10_has l C.2.2.2 hc25) (va_cwS 2 hts gX10_lose_X10_has rfl rfl rfl hd_X10_has ⟨Nat.le_of_ble_eq_true rfl, Nat.le_of_ble_eq_true rfl⟩) rfl hl rfl (Nat.le_of_ble_eq_true rfl) dX10_lose_25 ⟨Nat.le_refl 0, Nat.le_refl 0⟩ (fun H locs hP hS => ?_)
    refine lv_if_eq (tgt := 34) hx hb dX10_lose_28 (by decide) (fun c4 => ?_) (fun c4 => ?_)
    · have hf := if_p hf c4
      refine lv_aload_n hx hb dX10_lose_34 rfl (lv_at hl 1 rfl) ?_
      obtain ⟨r35, hc35, hf⟩ := ob hf
      refine tCallVv (As := []) (rest := []) (q0 := 0) (ci := 10) C hP hS rfl rfl (c_X10_note l C.2.2.2 hc35) (cwV 0 hts gX10_lose_X10_note rfl rfl rfl ⟨rfl, hd_X10_note⟩ ⟨Nat.le_of_ble_eq_true rfl, Nat.le_of_ble_eq_true rfl⟩) rfl hl rfl (Nat.le_of_ble_eq_true rfl) dX10_lose_35 ⟨Nat.le_refl 0, Nat.le_refl 0⟩ (fun H locs hP hS => ?_)
      refine lv_aload_n hx hb dX10_lose_38 rfl (lv_at hl 1 rfl) ?_
      refine gm_10_14 C hin10 hP (List.mem_of_getElem? (i := 2) rfl) dX10_lose_39 ?_
      refine lv_iconst (v := (4 : Int32)) hx hb dX10_lose_42 (by decide) ?_
      refine lv_dup2_11 hx hb dX10_lose_43 rfl rfl ?_
      refine ldm_7 (j := 4) C hP (by decide) (show ¬ ((4 : Int32) < 0 ∨ 16 ≤ (4 : Int32).toNatClampNeg) by decide) dX10_lose_44 ?_
      refine lv_iconst (v := (1 : Int32)) hx hb dX10_lose_45 (by decide) ?_
      refine lv_iload_n hx hb dX10_lose_46 rfl (lv_at hl 0 rfl) ?_
      refine lv_ishl hx hb dX10_lose_47 ?_
      refine lv_ior hx hb dX10_lose_48 ?_
      refine stm_7 (j := 4) C hP hS (by decide) (show ¬ ((4 : Int32) < 0 ∨ 16 ≤ (4 : Int32).toNatClampNeg) by decide) dX10_lose_49 (fun H locs hP hS => ?_)
      obtain ⟨S49, eS49⟩ : ∃ z, z = (sA r35 7 4 ((r35.2.1 7 4) ||| ((1 : Int32) <<< (((S2.2.1 7 0) - (1 : Int32)) &&& 31)))) := ⟨_, rfl⟩
      rw [← eS49] at hP
      have hf := nm_i hf eS49
      refine lv_aload_n hx hb dX10_lose_50 rfl (lv_at hl 1 rfl) ?_
      refine gm_10_14 C hin10 hP (List.mem_of_getElem? (i := 2) rfl) dX10_lose_51 ?_
      refine lv_iconst (v := (2 : Int32)) hx hb dX10_lose_54 (by decide) ?_
      refine lv_dup2_11 hx hb dX10_lose_55 rfl rfl ?_
      refine ldm_7 (j := 2) C hP (by decide) (show ¬ ((2 : Int32) < 0 ∨ 16 ≤ (2 : Int32).toNatClampNeg) by decide) dX10_lose_56 ?_
      refine lv_iconst (v := (1 : Int32)) hx hb dX10_lose_57 (by decide) ?_
      refine lv_isub hx hb dX10_lose_58 ?_
      refine stm_7 (j := 2) C hP hS (by decide) (show ¬ ((2 : Int32) < 0 ∨ 16 ≤ (2 : Int32).toNatClampNeg) by decide) dX10_lose_59 (fun H locs hP hS => ?_)
      obtain ⟨S59, eS59⟩ : ∃ z, z = (sA S49 7 2 ((S49.2.1 7 2) - (1 : Int32))) := ⟨_, rfl⟩
      rw [← eS59] at hP
      have hf := nm_i hf eS59
      refine lv_aload_n hx hb dX10_lose_60 rfl (lv_at hl 1 rfl) ?_
      refine gm_10_14 C hin10 hP (List.mem_of_getElem? (i := 2) rfl) dX10_lose_61 ?_
      refine lv_iconst (v := (2 : Int32)) hx hb dX10_lose_64 (by decide) ?_
      refine ldm_7 (j := 2) C hP (by decide) (show ¬ ((2 : Int32) < 0 ∨ 16 ≤ (2 : Int32).toNatClampNeg) by decide) dX10_lose_65 ?_
      obtain rfl := Option.some.inj hf
      exact tRet_i C hr hlk hP hS dX10_lose_66
    · have hf := if_n hf c4
      refine lv_bipush (v := (-3 : Int32)) hx hb dX10_lose_31 (by decide) ?_
      obtain rfl := Option.some.inj hf
      exact tRet_i C hr hlk hP hS dX10_lose_33
def rmX10_find : Room := { frames := 2, cells := 0, slots := 0, locals := 46 }
theorem hn_X10_find_10 : ∀ w ∈ wsX100, w ∈ wsX10_find := fun w h => List.mem_cons_of_mem _ (List.mem_append_right _ h)
theorem hd_X10_find : yX10_find.cls ≠ "java/lang/invoke/MethodHandle" ∧ yX10_find.cls ≠ "java/lang/invoke/VarHandle" ∧ (parseMethodDescriptor yX10_find.desc).map (fun d => d.parameters.length) = some 1 := by decide +kernel
set_option maxHeartbeats 4000000 in
set_option maxRecDepth 100000 in
theorem c_X10_find (l : Launch) {D : va_G} {cI cZ : ClassId} {a : Nat → Nat} (hA : ∀ S : St, va_D (mA a) (wM cI cZ a S)) {x1 : Int32} {S : St} {o : Int32 × St} (hf : f_X10_find x1 S = some o) : Met l yX10_find wsX10_find rmX10_find (tPc D cI cZ (wM cI cZ a) S ([.ref (a 0), .int x1] : List Value)) (tQi D (wM cI cZ a) (mA a) o.2 o.1) 0 0 (mA a) := by
  refine tEnter (cc := cX10_find) (maxL := 2) (ret := (some .int)) (own := RX10) hA rfl (by decide) rfl (Nat.le_of_ble_eq_true rfl) (fun p e s m args below meth c C hr hlk hP hS ls hl => ?_)
  obtain ⟨⟨hx, hb, hml, hown, hts⟩, hK, hN, -⟩ := id C
  have hl : lv_has ls 2 [(0, .ref (a 0)), (1, .int x1)] := hl
  have hin10 := hn_X10_find_10
  have hSS := hS
  rw [f_X10_find] at hf
  revert hP hS
  suffices hsuf : ∀ (H : Heap) (locs : List Loc), va_P D vwCl (wM cI cZ a S) H → va_S (mA a) s.heap H locs → W p l e rmX10_find s m args below meth c H locs 0 0 (MQ below (tQi D (wM cI cZ a) (mA a) o.2 o.1) args s 0 0 (mA a)) (F0 m 0 ls []) from fun hP hS => hsuf s.heap [] hP hS
  intro H locs hP hS
  refine lv_aload_n hx hb dX10_find_0 rfl (lv_at hl 0 rfl) ?_
  refine lv_iconst (v := (0 : Int32)) hx hb dX10_find_1 (by decide) ?_
  refine pm_10_0 C hin10 hP hS (List.mem_of_getElem? (i := 1) rfl) dX10_find_2 (fun H locs hP hS => ?_)
  obtain ⟨S2, eS2⟩ : ∃ z, z = (sI S 0 (0 : Int32)) := ⟨_, rfl⟩
  rw [← eS2] at hP
  have hf := nm_i hf eS2
  refine lv_aload_n hx hb dX10_find_5 rfl (lv_at hl 0 rfl) ?_
  refine lv_iload_n hx hb dX10_find_6 rfl (lv_at hl 1 rfl) ?_
  obtain ⟨r7, hc7, hf⟩ := ob hf
  refine tCallVi (As := [.int x1]) (rest := []) (q0 := 0) (ci := 10) C hP hS rfl rfl (c_X10_noStage l C.2.2.2 hc7) (cwV 1 hts gX10_find_X10_noStage rfl rfl rfl ⟨rfl, hd_X10_noStage⟩ ⟨Nat.le_of_ble_eq_true rfl, Nat.le_of_ble_eq_true rfl⟩) rfl hl rfl (Nat.le_of_ble_eq_true rfl) dX10_find_7 ⟨Nat.le_refl 0, Nat.le_refl 0⟩ (fun H locs hP hS => ?_)
  refine lv_if_eq (tgt := 15) hx hb dX10_find_10 (by decide) (fun c1 => ?_) (fun c1 => ?_)
  · have hf := if_p hf c1
    refine lv_aload_n hx hb dX10_find_15 rfl (lv_at hl 0 rfl) ?_
    refine gm_10_14 C hin10 hP (List.mem_of_getElem? (i := 2) rfl) dX10_find_16 ?_
    refine lv_iconst (v := (4 : Int32)) hx hb dX10_find_19 (by decide) ?_
    refine ldm_7 (j := 4) C hP (by decide) (show ¬ ((4 : Int32) < 0 ∨ 16 ≤ (4 : Int32).toNatClampNeg) by decide) dX10_find_20 ?_
    refine lv_iload_n hx hb dX10_find_21 rfl (lv_at hl 1 rfl) ?_
    obtain ⟨r22, hc22, hf⟩ := ob hf
    refine tCallSi (As := [.int (S2.2.1 7 4), .int x1]) (rest := []) C hP hS (c_X10_has l C.2.2.2 hc22) (va_cwS 2 hts gX10_find_X10_has rfl rfl rfl hd_X10_has ⟨Nat.le_of_ble_eq_true rfl, Nat.le_of_ble_eq_true rfl⟩) rfl hl rfl (Nat.le_of_ble_eq_true rfl) dX10_find_22 ⟨Nat.le_refl 0, Nat.le_refl 0⟩ (fun H locs hP hS => ?_)
    refine lv_if_ne (tgt := 31) hx hb dX10_find_25 (by decide) (fun c3 => ?_) (fun c3 => ?_)
    · have hf := if_n hf c3
      refine lv_aload_n hx hb dX10_find_31 rfl (lv_at hl 0 rfl) ?_
      obtain ⟨r32, hc32, hf⟩ := ob hf
      refine tCallVv (As := []) (rest := []) (q0 := 0) (ci := 10) C hP hS rfl rfl (c_X10_note l C.2.2.2 hc32) (cwV 0 hts gX10_find_X10_note rfl rfl rfl ⟨rfl, hd_X10_note⟩ ⟨Nat.le_of_ble_eq_true rfl, Nat.le_of_ble_eq_true rfl⟩) rfl hl rfl (Nat.le_of_ble_eq_true rfl) dX10_find_32 ⟨Nat.le_refl 0, Nat.le_refl 0⟩ (fun H locs hP hS => ?_)
      refine lv_aload_n hx hb dX10_find_35 rfl (lv_at hl 0 rfl) ?_
      refine gm_10_14 C hin10 hP (List.mem_of_getElem? (i := 2) rfl) dX10_find_36 ?_
      refine lv_iconst (v := (4 : Int32)) hx hb dX10_find_39 (by decide) ?_
      refine lv_dup2_11 hx hb dX10_find_40 rfl rfl ?_
      refine ldm_7 (j := 4) C hP (by decide) (show ¬ ((4 : Int32) < 0 ∨ 16 ≤ (4 : Int32).toNatClampNeg) by decide) dX10_find_41 ?_
      refine lv_iconst (v := (1 : Int32)) hx hb dX10_find_42 (by decide) ?_
      refine lv_iload_n hx hb dX10_find_43 rfl (lv_at hl 1 rfl) ?_
      refine lv_ishl hx hb dX10_find_44 ?_
      refine lv_iconst (v := (-1 : Int32)) hx hb dX10_find_45 (by decide) ?_
      refine lv_ixor hx hb dX10_find_46 ?_
      refine lv_iand hx hb dX10_find_47 ?_
      refine stm_7 (j := 4) C hP hS (by decide) (show ¬ ((4 : Int32) < 0 ∨ 16 ≤ (4 : Int32).toNatClampNeg) by decide) dX10_find_48 (fun H locs hP hS => ?_)
      obtain ⟨S48, eS48⟩ : ∃ z, z = (sA r32 7 4 ((r32.2.1 7 4) &&& (((1 : Int32) <<< (x1 &&& 31)) ^^^ (-1 : Int32)))) := ⟨_, rfl⟩
      rw [← eS48] at hP
      have hf := nm_i hf eS48
      refine lv_aload_n hx hb dX10_find_49 rfl (lv_at hl 0 rfl) ?_
      refine gm_10_14 C hin10 hP (List.mem_of_getElem? (i := 2) rfl) dX10_find_50 ?_
      refine lv_iconst (v := (2 : Int32)) hx hb dX10_find_53 (by decide) ?_
      refine lv_dup2_11 hx hb dX10_find_54 rfl rfl ?_
      refine ldm_7 (j := 2) C hP (by decide) (show ¬ ((2 : Int32) < 0 ∨ 16 ≤ (2 : Int32).toNatClampNeg) by decide) dX10_find_55 ?_
      refine lv_iconst (v := (1 : Int32)) hx hb dX10_find_56 (by decide) ?_
      refine lv_iadd hx hb dX10_find_57 ?_
      refine stm_7 (j := 2) C hP hS (by decide) (show ¬ ((2 : Int32) < 0 ∨ 16 ≤ (2 : Int32).toNatClampNeg) by decide) dX10_find_58 (fun H locs hP hS => ?_)
      obtain ⟨S58, eS58⟩ : ∃ z, z = (sA S48 7 2 ((S48.2.1 7 2) + (1 : Int32))) := ⟨_, rfl⟩
      rw [← eS58] at hP
      have hf := nm_i hf eS58
      refine lv_aload_n hx hb dX10_find_59 rfl (lv_at hl 0 rfl) ?_
      refine gm_10_14 C hin10 hP (List.mem_of_getElem? (i := 2) rfl) dX10_find_60 ?_
      refine lv_iconst (v := (2 : Int32)) hx hb dX10_find_63 (by decide) ?_
      refine ldm_7 (j := 2) C hP (by decide) (show ¬ ((2 : Int32) < 0 ∨ 16 ≤ (2 : Int32).toNatClampNeg) by decide) dX10_find_64 ?_
      obtain rfl := Option.some.inj hf
      exact tRet_i C hr hlk hP hS dX10_find_65
    · have hf := if_p hf c3
      refine lv_bipush (v := (-3 : Int32)) hx hb dX10_find_28 (by decide) ?_
      obtain rfl := Option.some.inj hf
      exact tRet_i C hr hlk hP hS dX10_find_30
  · have hf := if_n hf c1
    refine lv_iconst (v := (-1 : Int32)) hx hb dX10_find_13 (by decide) ?_
    obtain rfl := Option.some.inj hf
    exact tRet_i C hr hlk hP hS dX10_find_14
def rmX10_doubled : Room := { frames := 1, cells := 0, slots := 0, locals := 21 }
theorem hn_X10_doubled_10 : ∀ w ∈ wsX100, w ∈ wsX10_doubled := fun w h => List.mem_cons_of_mem _ (List.mem_append_right _ h)
theorem hd_X10_doubled : yX10_doubled.cls ≠ "java/lang/invoke/MethodHandle" ∧ yX10_doubled.cls ≠ "java/lang/invoke/VarHandle" ∧ (parseMethodDescriptor yX10_doubled.desc).map (fun d => d.parameters.length) = some 0 := by decide +kernel
set_option maxHeartbeats 4000000 in
set_option maxRecDepth 100000 in
theorem c_X10_doubled (l : Launch) {D : va_G} {cI cZ : ClassId} {a : Nat → Nat} (hA : ∀ S : St, va_D (mA a) (wM cI cZ a S)) {S : St} {o : Int32 × St} (hf : f_X10_doubled S = some o) : Met l yX10_doubled wsX10_doubled rmX10_doubled (tPc D cI cZ (wM cI cZ a) S ([.ref (a 0)] : List Value)) (tQi D (wM cI cZ a) (mA a) o.2 o.1) 0 0 (mA a) := by
  refine tEnter (cc := cX10_doubled) (maxL := 1) (ret := (some .int)) (own := RX10) hA rfl (by decide) rfl (Nat.le_of_ble_eq_true rfl) (fun p e s m args below meth c C hr hlk hP hS ls hl => ?_)
  obtain ⟨⟨hx, hb, hml, hown, hts⟩, hK, hN, -⟩ := id C
  have hl : lv_has ls 1 [(0, .ref (a 0))] := hl
  have hin10 := hn_X10_doubled_10
  have hSS := hS
  rw [f_X10_doubled] at hf
  revert hP hS
  suffices hsuf : ∀ (H : Heap) (locs : List Loc), va_P D vwCl (wM cI cZ a S) H → va_S (mA a) s.heap H locs → W p l e rmX10_doubled s m args below meth c H locs 0 0 (MQ below (tQi D (wM cI cZ a) (mA a) o.2 o.1) args s 0 0 (mA a)) (F0 m 0 ls []) from fun hP hS => hsuf s.heap [] hP hS
  intro H locs hP hS
  refine lv_aload_n hx hb dX10_doubled_0 rfl (lv_at hl 0 rfl) ?_
  refine lv_iconst (v := (0 : Int32)) hx hb dX10_doubled_1 (by decide) ?_
  refine pm_10_0 C hin10 hP hS (List.mem_of_getElem? (i := 1) rfl) dX10_doubled_2 (fun H locs hP hS => ?_)
  obtain ⟨S2, eS2⟩ : ∃ z, z = (sI S 0 (0 : Int32)) := ⟨_, rfl⟩
  rw [← eS2] at hP
  have hf := nm_i hf eS2
  refine lv_aload_n hx hb dX10_doubled_5 rfl (lv_at hl 0 rfl) ?_
  obtain ⟨r6, hc6, hf⟩ := ob hf
  refine tCallVv (As := []) (rest := []) (q0 := 0) (ci := 10) C hP hS rfl rfl (c_X10_note l C.2.2.2 hc6) (cwV 0 hts gX10_doubled_X10_note rfl rfl rfl ⟨rfl, hd_X10_note⟩ ⟨Nat.le_of_ble_eq_true rfl, Nat.le_of_ble_eq_true rfl⟩) rfl hl rfl (Nat.le_of_ble_eq_true rfl) dX10_doubled_6 ⟨Nat.le_refl 0, Nat.le_refl 0⟩ (fun H locs hP hS => ?_)
  refine lv_aload_n hx hb dX10_doubled_9 rfl (lv_at hl 0 rfl) ?_
  refine gm_10_14 C hin10 hP (List.mem_of_getElem? (i := 2) rfl) dX10_doubled_10 ?_
  refine lv_iconst (v := (3 : Int32)) hx hb dX10_doubled_13 (by decide) ?_
  refine lv_dup2_11 hx hb dX10_doubled_14 rfl rfl ?_
  refine ldm_7 (j := 3) C hP (by decide) (show ¬ ((3 : Int32) < 0 ∨ 16 ≤ (3 : Int32).toNatClampNeg) by decide) dX10_doubled_15 ?_
  refine lv_iconst (v := (1 : Int32)) hx hb dX10_doubled_16 (by decide) ?_
  refine lv_iadd hx hb dX10_doubled_17 ?_
  refine stm_7 (j := 3) C hP hS (by decide) (show ¬ ((3 : Int32) < 0 ∨ 16 ≤ (3 : Int32).toNatClampNeg) by decide) dX10_doubled_18 (fun H locs hP hS => ?_)
  obtain ⟨S18, eS18⟩ : ∃ z, z = (sA r6 7 3 ((r6.2.1 7 3) + (1 : Int32))) := ⟨_, rfl⟩
  rw [← eS18] at hP
  have hf := nm_i hf eS18
  refine lv_aload_n hx hb dX10_doubled_19 rfl (lv_at hl 0 rfl) ?_
  refine gm_10_14 C hin10 hP (List.mem_of_getElem? (i := 2) rfl) dX10_doubled_20 ?_
  refine lv_iconst (v := (3 : Int32)) hx hb dX10_doubled_23 (by decide) ?_
  refine ldm_7 (j := 3) C hP (by decide) (show ¬ ((3 : Int32) < 0 ∨ 16 ≤ (3 : Int32).toNatClampNeg) by decide) dX10_doubled_24 ?_
  obtain rfl := Option.some.inj hf
  exact tRet_i C hr hlk hP hS dX10_doubled_25
def rmX10_change : Room := { frames := 1, cells := 0, slots := 0, locals := 21 }
theorem hn_X10_change_10 : ∀ w ∈ wsX100, w ∈ wsX10_change := fun w h => List.mem_cons_of_mem _ (List.mem_append_right _ h)
theorem hd_X10_change : yX10_change.cls ≠ "java/lang/invoke/MethodHandle" ∧ yX10_change.cls ≠ "java/lang/invoke/VarHandle" ∧ (parseMethodDescriptor yX10_change.desc).map (fun d => d.parameters.length) = some 0 := by decide +kernel
set_option maxHeartbeats 4000000 in
set_option maxRecDepth 100000 in
theorem c_X10_change (l : Launch) {D : va_G} {cI cZ : ClassId} {a : Nat → Nat} (hA : ∀ S : St, va_D (mA a) (wM cI cZ a S)) {S : St} {o : Int32 × St} (hf : f_X10_change S = some o) : Met l yX10_change wsX10_change rmX10_change (tPc D cI cZ (wM cI cZ a) S ([.ref (a 0)] : List Value)) (tQi D (wM cI cZ a) (mA a) o.2 o.1) 0 0 (mA a) := by
  refine tEnter (cc := cX10_change) (maxL := 1) (ret := (some .int)) (own := RX10) hA rfl (by decide) rfl (Nat.le_of_ble_eq_true rfl) (fun p e s m args below meth c C hr hlk hP hS ls hl => ?_)
  obtain ⟨⟨hx, hb, hml, hown, hts⟩, hK, hN, -⟩ := id C
  have hl : lv_has ls 1 [(0, .ref (a 0))] := hl
  have hin10 := hn_X10_change_10
  have hSS := hS
  rw [f_X10_change] at hf
  revert hP hS
  suffices hsuf : ∀ (H : Heap) (locs : List Loc), va_P D vwCl (wM cI cZ a S) H → va_S (mA a) s.heap H locs → W p l e rmX10_change s m args below meth c H locs 0 0 (MQ below (tQi D (wM cI cZ a) (mA a) o.2 o.1) args s 0 0 (mA a)) (F0 m 0 ls []) from fun hP hS => hsuf s.heap [] hP hS
  intro H locs hP hS
  refine lv_aload_n hx hb dX10_change_0 rfl (lv_at hl 0 rfl) ?_
  refine lv_iconst (v := (0 : Int32)) hx hb dX10_change_1 (by decide) ?_
  refine pm_10_0 C hin10 hP hS (List.mem_of_getElem? (i := 1) rfl) dX10_change_2 (fun H locs hP hS => ?_)
  obtain ⟨S2, eS2⟩ : ∃ z, z = (sI S 0 (0 : Int32)) := ⟨_, rfl⟩
  rw [← eS2] at hP
  have hf := nm_i hf eS2
  refine lv_aload_n hx hb dX10_change_5 rfl (lv_at hl 0 rfl) ?_
  obtain ⟨r6, hc6, hf⟩ := ob hf
  refine tCallVv (As := []) (rest := []) (q0 := 0) (ci := 10) C hP hS rfl rfl (c_X10_note l C.2.2.2 hc6) (cwV 0 hts gX10_change_X10_note rfl rfl rfl ⟨rfl, hd_X10_note⟩ ⟨Nat.le_of_ble_eq_true rfl, Nat.le_of_ble_eq_true rfl⟩) rfl hl rfl (Nat.le_of_ble_eq_true rfl) dX10_change_6 ⟨Nat.le_refl 0, Nat.le_refl 0⟩ (fun H locs hP hS => ?_)
  refine lv_aload_n hx hb dX10_change_9 rfl (lv_at hl 0 rfl) ?_
  refine gm_10_14 C hin10 hP (List.mem_of_getElem? (i := 2) rfl) dX10_change_10 ?_
  refine lv_iconst (v := (5 : Int32)) hx hb dX10_change_13 (by decide) ?_
  refine lv_iconst (v := (1 : Int32)) hx hb dX10_change_14 (by decide) ?_
  refine lv_aload_n hx hb dX10_change_15 rfl (lv_at hl 0 rfl) ?_
  refine gm_10_14 C hin10 hP (List.mem_of_getElem? (i := 2) rfl) dX10_change_16 ?_
  refine lv_iconst (v := (5 : Int32)) hx hb dX10_change_19 (by decide) ?_
  refine ldm_7 (j := 5) C hP (by decide) (show ¬ ((5 : Int32) < 0 ∨ 16 ≤ (5 : Int32).toNatClampNeg) by decide) dX10_change_20 ?_
  refine lv_isub hx hb dX10_change_21 ?_
  refine stm_7 (j := 5) C hP hS (by decide) (show ¬ ((5 : Int32) < 0 ∨ 16 ≤ (5 : Int32).toNatClampNeg) by decide) dX10_change_22 (fun H locs hP hS => ?_)
  obtain ⟨S22, eS22⟩ : ∃ z, z = (sA r6 7 5 ((1 : Int32) - (r6.2.1 7 5))) := ⟨_, rfl⟩
  rw [← eS22] at hP
  have hf := nm_i hf eS22
  refine lv_aload_n hx hb dX10_change_23 rfl (lv_at hl 0 rfl) ?_
  refine gm_10_14 C hin10 hP (List.mem_of_getElem? (i := 2) rfl) dX10_change_24 ?_
  refine lv_iconst (v := (5 : Int32)) hx hb dX10_change_27 (by decide) ?_
  refine ldm_7 (j := 5) C hP (by decide) (show ¬ ((5 : Int32) < 0 ∨ 16 ≤ (5 : Int32).toNatClampNeg) by decide) dX10_change_28 ?_
  obtain rfl := Option.some.inj hf
  exact tRet_i C hr hlk hP hS dX10_change_29
def rmX10_stretch : Room := { frames := 1, cells := 0, slots := 0, locals := 25 }
theorem hn_X10_stretch_10 : ∀ w ∈ wsX100, w ∈ wsX10_stretch := fun w h => List.mem_cons_of_mem _ (List.mem_append_right _ h)
theorem hd_X10_stretch : yX10_stretch.cls ≠ "java/lang/invoke/MethodHandle" ∧ yX10_stretch.cls ≠ "java/lang/invoke/VarHandle" ∧ (parseMethodDescriptor yX10_stretch.desc).map (fun d => d.parameters.length) = some 1 := by decide +kernel
set_option maxHeartbeats 4000000 in
set_option maxRecDepth 100000 in
theorem c_X10_stretch (l : Launch) {D : va_G} {cI cZ : ClassId} {a : Nat → Nat} (hA : ∀ S : St, va_D (mA a) (wM cI cZ a S)) {x1 : Int32} {S : St} {o : Int32 × St} (hf : f_X10_stretch x1 S = some o) : Met l yX10_stretch wsX10_stretch rmX10_stretch (tPc D cI cZ (wM cI cZ a) S ([.ref (a 0), .int x1] : List Value)) (tQi D (wM cI cZ a) (mA a) o.2 o.1) 0 0 (mA a) := by
  refine tEnter (cc := cX10_stretch) (maxL := 2) (ret := (some .int)) (own := RX10) hA rfl (by decide) rfl (Nat.le_of_ble_eq_true rfl) (fun p e s m args below meth c C hr hlk hP hS ls hl => ?_)
  obtain ⟨⟨hx, hb, hml, hown, hts⟩, hK, hN, -⟩ := id C
  have hl : lv_has ls 2 [(0, .ref (a 0)), (1, .int x1)] := hl
  have hin10 := hn_X10_stretch_10
  have hSS := hS
  rw [f_X10_stretch] at hf
  revert hP hS
  suffices hsuf : ∀ (H : Heap) (locs : List Loc), va_P D vwCl (wM cI cZ a S) H → va_S (mA a) s.heap H locs → W p l e rmX10_stretch s m args below meth c H locs 0 0 (MQ below (tQi D (wM cI cZ a) (mA a) o.2 o.1) args s 0 0 (mA a)) (F0 m 0 ls []) from fun hP hS => hsuf s.heap [] hP hS
  intro H locs hP hS
  refine lv_aload_n hx hb dX10_stretch_0 rfl (lv_at hl 0 rfl) ?_
  refine lv_iconst (v := (0 : Int32)) hx hb dX10_stretch_1 (by decide) ?_
  refine pm_10_0 C hin10 hP hS (List.mem_of_getElem? (i := 1) rfl) dX10_stretch_2 (fun H locs hP hS => ?_)
  obtain ⟨S2, eS2⟩ : ∃ z, z = (sI S 0 (0 : Int32)) := ⟨_, rfl⟩
  rw [← eS2] at hP
  have hf := nm_i hf eS2
  refine lv_iload_n hx hb dX10_stretch_5 rfl (lv_at hl 1 rfl) ?_
  refine lv_i2l hx hb dX10_stretch_6 rfl ?_
  refine lv_ldc2 (v := (-3 : Int64)) hx hb hown (hts _ (List.mem_of_getElem? (i := 2) rfl)) dX10_stretch_7 ?_
  refine lv_ldc2 (v := (3 : Int64)) hx hb hown (hts _ (List.mem_of_getElem? (i := 3) rfl)) dX10_stretch_10 ?_
  obtain ⟨r13, hc13, hf⟩ := ob hf
  refine tCallSi (As := [.long x1.toInt64, .long (-3 : Int64), .long (3 : Int64)]) (rest := []) C hP hS (c_X10_in l C.2.2.2 hc13) (va_cwS 3 hts gX10_stretch_X10_in rfl rfl rfl hd_X10_in ⟨Nat.le_of_ble_eq_true rfl, Nat.le_of_ble_eq_true rfl⟩) rfl hl rfl (Nat.le_of_ble_eq_true rfl) dX10_stretch_13 ⟨Nat.le_refl 0, Nat.le_refl 0⟩ (fun H locs hP hS => ?_)
  refine lv_if_eq (tgt := 23) hx hb dX10_stretch_16 (by decide) (fun c1 => ?_) (fun c1 => ?_)
  · have hf := if_p hf c1
    refine lv_bipush (v := (-2 : Int32)) hx hb dX10_stretch_23 (by decide) ?_
    obtain rfl := Option.some.inj hf
    exact tRet_i C hr hlk hP hS dX10_stretch_25
  · have hf := if_n hf c1
    refine lv_iload_n hx hb dX10_stretch_19 rfl (lv_at hl 1 rfl) ?_
    refine lv_if_ne (tgt := 26) hx hb dX10_stretch_20 (by decide) (fun c2 => ?_) (fun c2 => ?_)
    · have hf := if_n hf c2
      refine lv_aload_n hx hb dX10_stretch_26 rfl (lv_at hl 0 rfl) ?_
      refine gm_10_14 C hin10 hP (List.mem_of_getElem? (i := 4) rfl) dX10_stretch_27 ?_
      refine lv_bipush (v := (6 : Int32)) hx hb dX10_stretch_30 (by decide) ?_
      refine ldm_7 (j := 6) C hP (by decide) (show ¬ ((6 : Int32) < 0 ∨ 16 ≤ (6 : Int32).toNatClampNeg) by decide) dX10_stretch_32 ?_
      refine lv_iload_n hx hb dX10_stretch_33 rfl (lv_at hl 1 rfl) ?_
      refine lv_iadd hx hb dX10_stretch_34 ?_
      refine lv_i2l hx hb dX10_stretch_35 rfl ?_
      refine lv_ldc2 (v := (-9 : Int64)) hx hb hown (hts _ (List.mem_of_getElem? (i := 5) rfl)) dX10_stretch_36 ?_
      refine lv_ldc2 (v := (9 : Int64)) hx hb hown (hts _ (List.mem_of_getElem? (i := 6) rfl)) dX10_stretch_39 ?_
      obtain ⟨r42, hc42, hf⟩ := ob hf
      refine tCallSi (As := [.long (((S2.2.1 7 6) + x1).toInt64), .long (-9 : Int64), .long (9 : Int64)]) (rest := []) C hP hS (c_X10_in l C.2.2.2 hc42) (va_cwS 3 hts gX10_stretch_X10_in rfl rfl rfl hd_X10_in ⟨Nat.le_of_ble_eq_true rfl, Nat.le_of_ble_eq_true rfl⟩) rfl hl rfl (Nat.le_of_ble_eq_true rfl) dX10_stretch_42 ⟨Nat.le_refl 0, Nat.le_refl 0⟩ (fun H locs hP hS => ?_)
      refine lv_if_ne (tgt := 51) hx hb dX10_stretch_45 (by decide) (fun c4 => ?_) (fun c4 => ?_)
      · have hf := if_n hf c4
        refine lv_aload_n hx hb dX10_stretch_51 rfl (lv_at hl 0 rfl) ?_
        obtain ⟨r52, hc52, hf⟩ := ob hf
        refine tCallVv (As := []) (rest := []) (q0 := 0) (ci := 10) C hP hS rfl rfl (c_X10_note l C.2.2.2 hc52) (cwV 0 hts gX10_stretch_X10_note rfl rfl rfl ⟨rfl, hd_X10_note⟩ ⟨Nat.le_of_ble_eq_true rfl, Nat.le_of_ble_eq_true rfl⟩) rfl hl rfl (Nat.le_of_ble_eq_true rfl) dX10_stretch_52 ⟨Nat.le_refl 0, Nat.le_refl 0⟩ (fun H locs hP hS => ?_)
        refine lv_aload_n hx hb dX10_stretch_55 rfl (lv_at hl 0 rfl) ?_
        refine gm_10_14 C hin10 hP (List.mem_of_getElem? (i := 4) rfl) dX10_stretch_56 ?_
        refine lv_bipush (v := (6 : Int32)) hx hb dX10_stretch_59 (by decide) ?_
        refine lv_dup2_11 hx hb dX10_stretch_61 rfl rfl ?_
        refine ldm_7 (j := 6) C hP (by decide) (show ¬ ((6 : Int32) < 0 ∨ 16 ≤ (6 : Int32).toNatClampNeg) by decide) dX10_stretch_62 ?_
        refine lv_iload_n hx hb dX10_stretch_63 rfl (lv_at hl 1 rfl) ?_
        refine lv_iadd hx hb dX10_stretch_64 ?_
        refine stm_7 (j := 6) C hP hS (by decide) (show ¬ ((6 : Int32) < 0 ∨ 16 ≤ (6 : Int32).toNatClampNeg) by decide) dX10_stretch_65 (fun H locs hP hS => ?_)
        obtain ⟨S65, eS65⟩ : ∃ z, z = (sA r52 7 6 ((r52.2.1 7 6) + x1)) := ⟨_, rfl⟩
        rw [← eS65] at hP
        have hf := nm_i hf eS65
        refine lv_aload_n hx hb dX10_stretch_66 rfl (lv_at hl 0 rfl) ?_
        refine gm_10_14 C hin10 hP (List.mem_of_getElem? (i := 4) rfl) dX10_stretch_67 ?_
        refine lv_bipush (v := (6 : Int32)) hx hb dX10_stretch_70 (by decide) ?_
        refine ldm_7 (j := 6) C hP (by decide) (show ¬ ((6 : Int32) < 0 ∨ 16 ≤ (6 : Int32).toNatClampNeg) by decide) dX10_stretch_72 ?_
        refine lv_bipush (v := (50 : Int32)) hx hb dX10_stretch_73 (by decide) ?_
        refine lv_iadd hx hb dX10_stretch_75 ?_
        obtain rfl := Option.some.inj hf
        exact tRet_i C hr hlk hP hS dX10_stretch_76
      · have hf := if_p hf c4
        refine lv_bipush (v := (-3 : Int32)) hx hb dX10_stretch_48 (by decide) ?_
        obtain rfl := Option.some.inj hf
        exact tRet_i C hr hlk hP hS dX10_stretch_50
    · have hf := if_p hf c2
      refine lv_bipush (v := (-2 : Int32)) hx hb dX10_stretch_23 (by decide) ?_
      obtain rfl := Option.some.inj hf
      exact tRet_i C hr hlk hP hS dX10_stretch_25
def rmX10_knot : Room := { frames := 1, cells := 0, slots := 0, locals := 21 }
theorem hn_X10_knot_10 : ∀ w ∈ wsX100, w ∈ wsX10_knot := fun w h => List.mem_cons_of_mem _ (List.mem_append_right _ h)
theorem hd_X10_knot : yX10_knot.cls ≠ "java/lang/invoke/MethodHandle" ∧ yX10_knot.cls ≠ "java/lang/invoke/VarHandle" ∧ (parseMethodDescriptor yX10_knot.desc).map (fun d => d.parameters.length) = some 0 := by decide +kernel
set_option maxHeartbeats 4000000 in
set_option maxRecDepth 100000 in
theorem c_X10_knot (l : Launch) {D : va_G} {cI cZ : ClassId} {a : Nat → Nat} (hA : ∀ S : St, va_D (mA a) (wM cI cZ a S)) {S : St} {o : Int32 × St} (hf : f_X10_knot S = some o) : Met l yX10_knot wsX10_knot rmX10_knot (tPc D cI cZ (wM cI cZ a) S ([.ref (a 0)] : List Value)) (tQi D (wM cI cZ a) (mA a) o.2 o.1) 0 0 (mA a) := by
  refine tEnter (cc := cX10_knot) (maxL := 1) (ret := (some .int)) (own := RX10) hA rfl (by decide) rfl (Nat.le_of_ble_eq_true rfl) (fun p e s m args below meth c C hr hlk hP hS ls hl => ?_)
  obtain ⟨⟨hx, hb, hml, hown, hts⟩, hK, hN, -⟩ := id C
  have hl : lv_has ls 1 [(0, .ref (a 0))] := hl
  have hin10 := hn_X10_knot_10
  have hSS := hS
  rw [f_X10_knot] at hf
  revert hP hS
  suffices hsuf : ∀ (H : Heap) (locs : List Loc), va_P D vwCl (wM cI cZ a S) H → va_S (mA a) s.heap H locs → W p l e rmX10_knot s m args below meth c H locs 0 0 (MQ below (tQi D (wM cI cZ a) (mA a) o.2 o.1) args s 0 0 (mA a)) (F0 m 0 ls []) from fun hP hS => hsuf s.heap [] hP hS
  intro H locs hP hS
  refine lv_aload_n hx hb dX10_knot_0 rfl (lv_at hl 0 rfl) ?_
  refine lv_iconst (v := (0 : Int32)) hx hb dX10_knot_1 (by decide) ?_
  refine pm_10_0 C hin10 hP hS (List.mem_of_getElem? (i := 1) rfl) dX10_knot_2 (fun H locs hP hS => ?_)
  obtain ⟨S2, eS2⟩ : ∃ z, z = (sI S 0 (0 : Int32)) := ⟨_, rfl⟩
  rw [← eS2] at hP
  have hf := nm_i hf eS2
  refine lv_aload_n hx hb dX10_knot_5 rfl (lv_at hl 0 rfl) ?_
  refine gm_10_14 C hin10 hP (List.mem_of_getElem? (i := 2) rfl) dX10_knot_6 ?_
  refine lv_bipush (v := (7 : Int32)) hx hb dX10_knot_9 (by decide) ?_
  refine ldm_7 (j := 7) C hP (by decide) (show ¬ ((7 : Int32) < 0 ∨ 16 ≤ (7 : Int32).toNatClampNeg) by decide) dX10_knot_11 ?_
  refine lv_bipush (v := (9 : Int32)) hx hb dX10_knot_12 (by decide) ?_
  refine lv_icmp_ne (tgt := 20) hx hb dX10_knot_14 (by decide) (fun c2 => ?_) (fun c2 => ?_)
  · have hf := if_n hf c2
    refine lv_aload_n hx hb dX10_knot_20 rfl (lv_at hl 0 rfl) ?_
    obtain ⟨r21, hc21, hf⟩ := ob hf
    refine tCallVv (As := []) (rest := []) (q0 := 0) (ci := 10) C hP hS rfl rfl (c_X10_note l C.2.2.2 hc21) (cwV 0 hts gX10_knot_X10_note rfl rfl rfl ⟨rfl, hd_X10_note⟩ ⟨Nat.le_of_ble_eq_true rfl, Nat.le_of_ble_eq_true rfl⟩) rfl hl rfl (Nat.le_of_ble_eq_true rfl) dX10_knot_21 ⟨Nat.le_refl 0, Nat.le_refl 0⟩ (fun H locs hP hS => ?_)
    refine lv_aload_n hx hb dX10_knot_24 rfl (lv_at hl 0 rfl) ?_
    refine gm_10_14 C hin10 hP (List.mem_of_getElem? (i := 2) rfl) dX10_knot_25 ?_
    refine lv_bipush (v := (7 : Int32)) hx hb dX10_knot_28 (by decide) ?_
    refine lv_dup2_11 hx hb dX10_knot_30 rfl rfl ?_
    refine ldm_7 (j := 7) C hP (by decide) (show ¬ ((7 : Int32) < 0 ∨ 16 ≤ (7 : Int32).toNatClampNeg) by decide) dX10_knot_31 ?_
    refine lv_iconst (v := (1 : Int32)) hx hb dX10_knot_32 (by decide) ?_
    refine lv_iadd hx hb dX10_knot_33 ?_
    refine stm_7 (j := 7) C hP hS (by decide) (show ¬ ((7 : Int32) < 0 ∨ 16 ≤ (7 : Int32).toNatClampNeg) by decide) dX10_knot_34 (fun H locs hP hS => ?_)
    obtain ⟨S34, eS34⟩ : ∃ z, z = (sA r21 7 7 ((r21.2.1 7 7) + (1 : Int32))) := ⟨_, rfl⟩
    rw [← eS34] at hP
    have hf := nm_i hf eS34
    refine lv_aload_n hx hb dX10_knot_35 rfl (lv_at hl 0 rfl) ?_
    refine gm_10_14 C hin10 hP (List.mem_of_getElem? (i := 2) rfl) dX10_knot_36 ?_
    refine lv_bipush (v := (7 : Int32)) hx hb dX10_knot_39 (by decide) ?_
    refine ldm_7 (j := 7) C hP (by decide) (show ¬ ((7 : Int32) < 0 ∨ 16 ≤ (7 : Int32).toNatClampNeg) by decide) dX10_knot_41 ?_
    obtain rfl := Option.some.inj hf
    exact tRet_i C hr hlk hP hS dX10_knot_42
  · have hf := if_p hf c2
    refine lv_bipush (v := (-4 : Int32)) hx hb dX10_knot_17 (by decide) ?_
    obtain rfl := Option.some.inj hf
    exact tRet_i C hr hlk hP hS dX10_knot_19
