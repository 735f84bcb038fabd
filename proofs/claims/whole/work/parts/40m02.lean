def rmX10_clear : Room := { frames := 1, cells := 0, slots := 0, locals := 21 }
theorem hn_X10_clear_10 : ∀ w ∈ wsX100, w ∈ wsX10_clear := fun w h => List.mem_cons_of_mem _ (List.mem_append_right _ h)
theorem hd_X10_clear : yX10_clear.cls ≠ "java/lang/invoke/MethodHandle" ∧ yX10_clear.cls ≠ "java/lang/invoke/VarHandle" ∧ (parseMethodDescriptor yX10_clear.desc).map (fun d => d.parameters.length) = some 0 := by decide +kernel
set_option maxHeartbeats 4000000 in
set_option maxRecDepth 100000 in
theorem c_X10_clear (l : Launch) {D : va_G} {cI cZ : ClassId} {a : Nat → Nat} (hA : ∀ S : St, va_D (mA a) (wM cI cZ a S)) {S : St} {o : Int32 × St} (hf : f_X10_clear S = some o) : Met l yX10_clear wsX10_clear rmX10_clear (tPc D cI cZ (wM cI cZ a) S ([.ref (a 0)] : List Value)) (tQi D (wM cI cZ a) (mA a) o.2 o.1) 0 0 (mA a) := by
  refine tEnter (cc := cX10_clear) (maxL := 2) (ret := (some .int)) (own := RX10) hA rfl (by decide) rfl (Nat.le_of_ble_eq_true rfl) (fun p e s m args below meth c C hr hlk hP hS ls hl => ?_)
  obtain ⟨⟨hx, hb, hml, hown, hts⟩, hK, hN, -⟩ := id C
  have hl : lv_has ls 2 [(0, .ref (a 0))] := hl
  have hin10 := hn_X10_clear_10
  have hSS := hS
  rw [f_X10_clear] at hf
  revert hP hS
  suffices hsuf : ∀ (H : Heap) (locs : List Loc), va_P D vwCl (wM cI cZ a S) H → va_S (mA a) s.heap H locs → W p l e rmX10_clear s m args below meth c H locs 0 0 (MQ below (tQi D (wM cI cZ a) (mA a) o.2 o.1) args s 0 0 (mA a)) (F0 m 0 ls []) from fun hP hS => hsuf s.heap [] hP hS
  intro H locs hP hS
  refine lv_aload_n hx hb dX10_clear_0 rfl (lv_at hl 0 rfl) ?_
  refine lv_iconst (v := (0 : Int32)) hx hb dX10_clear_1 (by decide) ?_
  refine pm_10_0 C hin10 hP hS (List.mem_of_getElem? (i := 1) rfl) dX10_clear_2 (fun H locs hP hS => ?_)
  obtain ⟨S2, eS2⟩ : ∃ z, z = (sI S 0 (0 : Int32)) := ⟨_, rfl⟩
  rw [← eS2] at hP
  have hf := nm_i hf eS2
  refine lv_aload_n hx hb dX10_clear_5 rfl (lv_at hl 0 rfl) ?_
  refine gm_10_14 C hin10 hP (List.mem_of_getElem? (i := 2) rfl) dX10_clear_6 ?_
  refine lv_bipush (v := (7 : Int32)) hx hb dX10_clear_9 (by decide) ?_
  refine ldm_7 (j := 7) C hP (by decide) (show ¬ ((7 : Int32) < 0 ∨ 16 ≤ (7 : Int32).toNatClampNeg) by decide) dX10_clear_11 ?_
  refine lv_istore_n (lv' := [(1, .int (S2.2.1 7 7)), (0, .ref (a 0))]) hx hb dX10_clear_12 rfl hl (Nat.le_of_ble_eq_true rfl) rfl (fun ls hl => ?_)
  refine lv_iload_n hx hb dX10_clear_13 rfl (lv_at hl 0 rfl) ?_
  refine lv_if_ne (tgt := 20) hx hb dX10_clear_14 (by decide) (fun c2 => ?_) (fun c2 => ?_)
  · have hf := if_n hf c2
    refine lv_aload_n hx hb dX10_clear_20 rfl (lv_at hl 1 rfl) ?_
    obtain ⟨r21, hc21, hf⟩ := ob hf
    refine tCallVv (As := []) (rest := []) (q0 := 0) (ci := 10) C hP hS rfl rfl (c_X10_note l C.2.2.2 hc21) (cwV 0 hts gX10_clear_X10_note rfl rfl rfl ⟨rfl, hd_X10_note⟩ ⟨Nat.le_of_ble_eq_true rfl, Nat.le_of_ble_eq_true rfl⟩) rfl hl rfl (Nat.le_of_ble_eq_true rfl) dX10_clear_21 ⟨Nat.le_refl 0, Nat.le_refl 0⟩ (fun H locs hP hS => ?_)
    refine lv_aload_n hx hb dX10_clear_24 rfl (lv_at hl 1 rfl) ?_
    refine gm_10_14 C hin10 hP (List.mem_of_getElem? (i := 2) rfl) dX10_clear_25 ?_
    refine lv_bipush (v := (7 : Int32)) hx hb dX10_clear_28 (by decide) ?_
    refine lv_iconst (v := (0 : Int32)) hx hb dX10_clear_30 (by decide) ?_
    refine stm_7 (j := 7) C hP hS (by decide) (show ¬ ((7 : Int32) < 0 ∨ 16 ≤ (7 : Int32).toNatClampNeg) by decide) dX10_clear_31 (fun H locs hP hS => ?_)
    obtain ⟨S31, eS31⟩ : ∃ z, z = (sA r21 7 7 (0 : Int32)) := ⟨_, rfl⟩
    rw [← eS31] at hP
    have hf := nm_i hf eS31
    refine lv_iload_n hx hb dX10_clear_32 rfl (lv_at hl 0 rfl) ?_
    obtain rfl := Option.some.inj hf
    exact tRet_i C hr hlk hP hS dX10_clear_33
  · have hf := if_p hf c2
    refine lv_bipush (v := (-3 : Int32)) hx hb dX10_clear_17 (by decide) ?_
    obtain rfl := Option.some.inj hf
    exact tRet_i C hr hlk hP hS dX10_clear_19
def rmX10_undo : Room := { frames := 0, cells := 0, slots := 0, locals := 0 }
theorem hn_X10_undo_10 : ∀ w ∈ wsX100, w ∈ wsX10_undo := fun w h => List.mem_cons_of_mem _ (List.mem_append_right _ h)
theorem hd_X10_undo : yX10_undo.cls ≠ "java/lang/invoke/MethodHandle" ∧ yX10_undo.cls ≠ "java/lang/invoke/VarHandle" ∧ (parseMethodDescriptor yX10_undo.desc).map (fun d => d.parameters.length) = some 0 := by decide +kernel
set_option maxHeartbeats 4000000 in
set_option maxRecDepth 100000 in
theorem lp_X10_undo_27 {p : Program} {l : Launch} {e : Env} {s : State} {m : MethodId} {args : Array Value} {below : List Frame} {meth : Method} {c : Code} {D : va_G} {cI cZ : ClassId} {a : Nat → Nat} {Q : State → Prop} {H0 : Heap} {o : St}
    (C : tC p c s m args cX10_undo 2 RX10 wsX10_undo D cI cZ (wM cI cZ a) (mA a))
    (K0 : ∀ (H : Heap) (locs : List Loc) (ls : Array Slot), va_P D vwCl (wM cI cZ a o) H → va_S (mA a) H0 H locs → lv_has ls 2 [(0, .ref (a 0))] → W p l e rmX10_undo s m args below meth c H locs 0 0 Q (F0 m 59 ls [])) :
    ∀ (n : Nat) (x1 : Int32) (S : St), l_X10_undo_27 n x1 S = some o → ∀ (H : Heap) (locs : List Loc) (ls : Array Slot), va_P D vwCl (wM cI cZ a S) H → va_S (mA a) H0 H locs → lv_has ls 2 [(0, .ref (a 0)), (1, .int x1)] → W p l e rmX10_undo s m args below meth c H locs 0 0 Q (F0 m 27 ls []) := by
  obtain ⟨⟨hx, hb, hml, hown, hts⟩, hK, hN, hA⟩ := id C
  have hin10 := hn_X10_undo_10
  intro n
  induction n with
  | zero =>
    intro x1 S hf
    rw [l_X10_undo_27] at hf
    cases hf
  | succ n ih =>
    intro x1 S hf H locs ls hP hS hl
    rw [l_X10_undo_27] at hf
    refine lv_iload_n hx hb dX10_undo_27 rfl (lv_at hl 1 rfl) ?_
    refine lv_bipush (v := (16 : Int32)) hx hb dX10_undo_28 (by decide) ?_
    refine lv_icmp_ge (tgt := 59) hx hb dX10_undo_30 (by decide) (fun c2 => ?_) (fun c2 => ?_)
    · have hf := if_p hf c2
      obtain rfl := Option.some.inj hf
      exact K0 H locs ls hP hS (lv_sub hl [0] rfl)
    · have hf := if_n hf c2
      refine lv_aload_n hx hb dX10_undo_33 rfl (lv_at hl 0 rfl) ?_
      refine gm_10_14 C hin10 hP (List.mem_of_getElem? (i := 3) rfl) dX10_undo_34 ?_
      refine lv_iload_n hx hb dX10_undo_37 rfl (lv_at hl 1 rfl) ?_
      refine lv_aload_n hx hb dX10_undo_38 rfl (lv_at hl 0 rfl) ?_
      refine gm_10_15 C hin10 hP (List.mem_of_getElem? (i := 4) rfl) dX10_undo_39 ?_
      refine lv_bipush (v := (16 : Int32)) hx hb dX10_undo_42 (by decide) ?_
      refine lv_aload_n hx hb dX10_undo_44 rfl (lv_at hl 0 rfl) ?_
      refine gm_10_16 C hin10 hP (List.mem_of_getElem? (i := 2) rfl) dX10_undo_45 ?_
      refine lv_imul hx hb dX10_undo_48 ?_
      refine lv_iload_n hx hb dX10_undo_49 rfl (lv_at hl 1 rfl) ?_
      refine lv_iadd hx hb dX10_undo_50 ?_
      obtain ⟨hi3, hf⟩ := ob_in hf
      refine ldm_8 C hP rfl hi3 dX10_undo_51 ?_
      obtain ⟨hi4, hf⟩ := ob_in hf
      refine stm_7 C hP hS rfl hi4 dX10_undo_52 (fun H locs hP hS => ?_)
      obtain ⟨S52, eS52⟩ : ∃ z, z = (sA S 7 x1.toNatClampNeg (S.2.1 8 ((((16 : Int32) * (S.1 7)) + x1).toNatClampNeg))) := ⟨_, rfl⟩
      rw [← eS52] at hP
      have hf := nm_i hf eS52
      refine lv_iinc (v := (x1 + 1)) (lv' := [(1, .int (x1 + 1)), (0, .ref (a 0))]) hx hb dX10_undo_53 hl (k := 1) rfl rfl (Nat.le_of_ble_eq_true rfl) rfl (fun ls hl => ?_)
      refine lv_goto (tgt := 27) hx hb dX10_undo_56 (by decide) ?_
      exact ih _ _ hf H locs ls hP hS (lv_sub hl [1, 0] rfl)
set_option maxHeartbeats 4000000 in
set_option maxRecDepth 100000 in
theorem c_X10_undo (l : Launch) {D : va_G} {cI cZ : ClassId} {a : Nat → Nat} (hA : ∀ S : St, va_D (mA a) (wM cI cZ a S)) {S : St} {o : Int32 × St} (hf : f_X10_undo S = some o) : Met l yX10_undo wsX10_undo rmX10_undo (tPc D cI cZ (wM cI cZ a) S ([.ref (a 0)] : List Value)) (tQi D (wM cI cZ a) (mA a) o.2 o.1) 0 0 (mA a) := by
  refine tEnter (cc := cX10_undo) (maxL := 2) (ret := (some .int)) (own := RX10) hA rfl (by decide) rfl (Nat.le_of_ble_eq_true rfl) (fun p e s m args below meth c C hr hlk hP hS ls hl => ?_)
  obtain ⟨⟨hx, hb, hml, hown, hts⟩, hK, hN, -⟩ := id C
  have hl : lv_has ls 2 [(0, .ref (a 0))] := hl
  have hin10 := hn_X10_undo_10
  have hSS := hS
  rw [f_X10_undo] at hf
  revert hP hS
  suffices hsuf : ∀ (H : Heap) (locs : List Loc), va_P D vwCl (wM cI cZ a S) H → va_S (mA a) s.heap H locs → W p l e rmX10_undo s m args below meth c H locs 0 0 (MQ below (tQi D (wM cI cZ a) (mA a) o.2 o.1) args s 0 0 (mA a)) (F0 m 0 ls []) from fun hP hS => hsuf s.heap [] hP hS
  intro H locs hP hS
  refine lv_aload_n hx hb dX10_undo_0 rfl (lv_at hl 0 rfl) ?_
  refine lv_iconst (v := (0 : Int32)) hx hb dX10_undo_1 (by decide) ?_
  refine pm_10_0 C hin10 hP hS (List.mem_of_getElem? (i := 1) rfl) dX10_undo_2 (fun H locs hP hS => ?_)
  obtain ⟨S2, eS2⟩ : ∃ z, z = (sI S 0 (0 : Int32)) := ⟨_, rfl⟩
  rw [← eS2] at hP
  have hf := nm_i hf eS2
  refine lv_aload_n hx hb dX10_undo_5 rfl (lv_at hl 0 rfl) ?_
  refine gm_10_16 C hin10 hP (List.mem_of_getElem? (i := 2) rfl) dX10_undo_6 ?_
  refine lv_if_ne (tgt := 15) hx hb dX10_undo_9 (by decide) (fun c1 => ?_) (fun c1 => ?_)
  · have hf := if_n hf c1
    refine lv_aload_n hx hb dX10_undo_15 rfl (lv_at hl 0 rfl) ?_
    refine lv_dup hx hb dX10_undo_16 rfl ?_
    refine gm_10_16 C hin10 hP (List.mem_of_getElem? (i := 2) rfl) dX10_undo_17 ?_
    refine lv_iconst (v := (1 : Int32)) hx hb dX10_undo_20 (by decide) ?_
    refine lv_isub hx hb dX10_undo_21 ?_
    refine pm_10_16 C hin10 hP hS (List.mem_of_getElem? (i := 2) rfl) dX10_undo_22 (fun H locs hP hS => ?_)
    obtain ⟨S22, eS22⟩ : ∃ z, z = (sI S2 7 ((S2.1 7) - (1 : Int32))) := ⟨_, rfl⟩
    rw [← eS22] at hP
    have hf := nm_i hf eS22
    refine lv_iconst (v := (0 : Int32)) hx hb dX10_undo_25 (by decide) ?_
    refine lv_istore_n (lv' := [(1, .int (0 : Int32)), (0, .ref (a 0))]) hx hb dX10_undo_26 rfl hl (Nat.le_of_ble_eq_true rfl) rfl (fun ls hl => ?_)
    obtain ⟨o27, hc27, hf⟩ := ob hf
    refine lp_X10_undo_27 C (fun H locs ls hP hS hl => ?_) fuel _ _ hc27 H locs ls hP hS (lv_sub hl [1, 0] rfl)
    refine lv_aload_n hx hb dX10_undo_59 rfl (lv_at hl 0 rfl) ?_
    refine gm_10_16 C hin10 hP (List.mem_of_getElem? (i := 2) rfl) dX10_undo_60 ?_
    obtain rfl := Option.some.inj hf
    exact tRet_i C hr hlk hP hS dX10_undo_63
  · have hf := if_p hf c1
    refine lv_bipush (v := (-3 : Int32)) hx hb dX10_undo_12 (by decide) ?_
    obtain rfl := Option.some.inj hf
    exact tRet_i C hr hlk hP hS dX10_undo_14
def rmX10_offBy : Room := { frames := 2, cells := 0, slots := 0, locals := 44 }
theorem hn_X10_offBy_10 : ∀ w ∈ wsX100, w ∈ wsX10_offBy := fun w h => List.mem_cons_of_mem _ (List.mem_append_right _ h)
theorem hd_X10_offBy : yX10_offBy.cls ≠ "java/lang/invoke/MethodHandle" ∧ yX10_offBy.cls ≠ "java/lang/invoke/VarHandle" ∧ (parseMethodDescriptor yX10_offBy.desc).map (fun d => d.parameters.length) = some 2 := by decide +kernel
set_option maxHeartbeats 4000000 in
set_option maxRecDepth 100000 in
theorem lp_X10_offBy_10 {p : Program} {l : Launch} {e : Env} {s : State} {m : MethodId} {args : Array Value} {below : List Frame} {meth : Method} {c : Code} {D : va_G} {cI cZ : ClassId} {a : Nat → Nat} {Q : State → Prop} {H0 : Heap} {x1 : Int32} {x2 : Int32} {S : St} {o : Int32}
    (C : tC p c s m args cX10_offBy 5 RX10 wsX10_offBy D cI cZ (wM cI cZ a) (mA a))
    (K0 : ∀ (H : Heap) (locs : List Loc) (ls : Array Slot), va_P D vwCl (wM cI cZ a S) H → va_S (mA a) H0 H locs → lv_has ls 5 [(3, .int o)] → W p l e rmX10_offBy s m args below meth c H locs 0 0 Q (F0 m 44 ls [])) :
    ∀ (n : Nat) (x3 : Int32) (x4 : Int32), l_X10_offBy_10 x1 x2 S n x3 x4 = some o → ∀ (H : Heap) (locs : List Loc) (ls : Array Slot), va_P D vwCl (wM cI cZ a S) H → va_S (mA a) H0 H locs → lv_has ls 5 [(0, .ref (a 0)), (1, .int x1), (2, .int x2), (3, .int x3), (4, .int x4)] → W p l e rmX10_offBy s m args below meth c H locs 0 0 Q (F0 m 10 ls []) := by
  obtain ⟨⟨hx, hb, hml, hown, hts⟩, hK, hN, hA⟩ := id C
  have hin10 := hn_X10_offBy_10
  intro n
  induction n with
  | zero =>
    intro x3 x4 hf
    rw [l_X10_offBy_10] at hf
    cases hf
  | succ n ih =>
    intro x3 x4 hf H locs ls hP hS hl
    rw [l_X10_offBy_10] at hf
    refine lv_iload hx hb dX10_offBy_10 (lv_at hl 4 rfl) ?_
    refine lv_aload_n hx hb dX10_offBy_12 rfl (lv_at hl 0 rfl) ?_
    refine gm_10_14 C hin10 hP (List.mem_of_getElem? (i := 1) rfl) dX10_offBy_13 ?_
    refine lv_iconst (v := (0 : Int32)) hx hb dX10_offBy_16 (by decide) ?_
    refine ldm_7 (j := 0) C hP (by decide) (show ¬ ((0 : Int32) < 0 ∨ 16 ≤ (0 : Int32).toNatClampNeg) by decide) dX10_offBy_17 ?_
    refine lv_iload_n hx hb dX10_offBy_18 rfl (lv_at hl 1 rfl) ?_
    refine lv_iadd hx hb dX10_offBy_19 ?_
    refine lv_icmp_ge (tgt := 44) hx hb dX10_offBy_20 (by decide) (fun c3 => ?_) (fun c3 => ?_)
    · have hf := if_p hf c3
      obtain rfl := Option.some.inj hf
      exact K0 H locs ls hP hS (lv_sub hl [3] rfl)
    · have hf := if_n hf c3
      refine lv_iload_n hx hb dX10_offBy_23 rfl (lv_at hl 3 rfl) ?_
      refine lv_aload_n hx hb dX10_offBy_24 rfl (lv_at hl 0 rfl) ?_
      refine lv_iload hx hb dX10_offBy_25 (lv_at hl 4 rfl) ?_
      refine lv_iload_n hx hb dX10_offBy_27 rfl (lv_at hl 2 rfl) ?_
      refine lv_iload hx hb dX10_offBy_28 (lv_at hl 4 rfl) ?_
      refine lv_ishr hx hb dX10_offBy_30 ?_
      refine lv_iconst (v := (1 : Int32)) hx hb dX10_offBy_31 (by decide) ?_
      refine lv_iand hx hb dX10_offBy_32 ?_
      obtain ⟨r33, hc33, hf⟩ := ob hf
      refine tCallVi (As := [.int x4, .int ((x2 >>> (x4 &&& 31)) &&& (1 : Int32))]) (rest := [.int x3]) (q0 := 0) (ci := 10) C hP hS rfl rfl (c_X10_errorOf l C.2.2.2 hc33) (cwV 2 hts gX10_offBy_X10_errorOf rfl rfl rfl ⟨rfl, hd_X10_errorOf⟩ ⟨Nat.le_of_ble_eq_true rfl, Nat.le_of_ble_eq_true rfl⟩) rfl hl rfl (Nat.le_of_ble_eq_true rfl) dX10_offBy_33 ⟨Nat.le_refl 0, Nat.le_refl 0⟩ (fun H locs hP hS => ?_)
      refine lv_iadd hx hb dX10_offBy_36 ?_
      refine lv_istore_n (lv' := [(3, .int (x3 + r33)), (0, .ref (a 0)), (1, .int x1), (2, .int x2), (4, .int x4)]) hx hb dX10_offBy_37 rfl hl (Nat.le_of_ble_eq_true rfl) rfl (fun ls hl => ?_)
      refine lv_iinc (v := (x4 + 1)) (lv' := [(4, .int (x4 + 1)), (3, .int (x3 + r33)), (0, .ref (a 0)), (1, .int x1), (2, .int x2)]) hx hb dX10_offBy_38 hl (k := 4) rfl rfl (Nat.le_of_ble_eq_true rfl) rfl (fun ls hl => ?_)
      refine lv_goto (tgt := 10) hx hb dX10_offBy_41 (by decide) ?_
      exact ih _ _ hf H locs ls hP hS (lv_sub hl [2, 3, 4, 1, 0] rfl)
set_option maxHeartbeats 4000000 in
set_option maxRecDepth 100000 in
theorem c_X10_offBy (l : Launch) {D : va_G} {cI cZ : ClassId} {a : Nat → Nat} (hA : ∀ S : St, va_D (mA a) (wM cI cZ a S)) {x1 : Int32} {x2 : Int32} {S : St} {o : Int32} (hf : f_X10_offBy x1 x2 S = some o) : Met l yX10_offBy wsX10_offBy rmX10_offBy (tPc D cI cZ (wM cI cZ a) S ([.ref (a 0), .int x1, .int x2] : List Value)) (tQi D (wM cI cZ a) (mA a) S o) 0 0 (mA a) := by
  refine tEnter (cc := cX10_offBy) (maxL := 5) (ret := (some .int)) (own := RX10) hA rfl (by decide) rfl (Nat.le_of_ble_eq_true rfl) (fun p e s m args below meth c C hr hlk hP hS ls hl => ?_)
  obtain ⟨⟨hx, hb, hml, hown, hts⟩, hK, hN, -⟩ := id C
  have hl : lv_has ls 5 [(0, .ref (a 0)), (1, .int x1), (2, .int x2)] := hl
  have hin10 := hn_X10_offBy_10
  have hSS := hS
  rw [f_X10_offBy] at hf
  revert hP hS
  suffices hsuf : ∀ (H : Heap) (locs : List Loc), va_P D vwCl (wM cI cZ a S) H → va_S (mA a) s.heap H locs → W p l e rmX10_offBy s m args below meth c H locs 0 0 (MQ below (tQi D (wM cI cZ a) (mA a) S o) args s 0 0 (mA a)) (F0 m 0 ls []) from fun hP hS => hsuf s.heap [] hP hS
  intro H locs hP hS
  refine lv_iconst (v := (0 : Int32)) hx hb dX10_offBy_0 (by decide) ?_
  refine lv_istore_n (lv' := [(3, .int (0 : Int32)), (0, .ref (a 0)), (1, .int x1), (2, .int x2)]) hx hb dX10_offBy_1 rfl hl (Nat.le_of_ble_eq_true rfl) rfl (fun ls hl => ?_)
  refine lv_aload_n hx hb dX10_offBy_2 rfl (lv_at hl 1 rfl) ?_
  refine gm_10_14 C hin10 hP (List.mem_of_getElem? (i := 1) rfl) dX10_offBy_3 ?_
  refine lv_iconst (v := (0 : Int32)) hx hb dX10_offBy_6 (by decide) ?_
  refine ldm_7 (j := 0) C hP (by decide) (show ¬ ((0 : Int32) < 0 ∨ 16 ≤ (0 : Int32).toNatClampNeg) by decide) dX10_offBy_7 ?_
  refine lv_istore (lv' := [(4, .int (S.2.1 7 0)), (3, .int (0 : Int32)), (0, .ref (a 0)), (1, .int x1), (2, .int x2)]) hx hb dX10_offBy_8 hl (Nat.le_of_ble_eq_true rfl) rfl (fun ls hl => ?_)
  obtain ⟨o10, hc10, hf⟩ := ob hf
  refine lp_X10_offBy_10 C (fun H locs ls hP hS hl => ?_) fuel _ _ hc10 H locs ls hP hS (lv_sub hl [2, 3, 4, 1, 0] rfl)
  refine lv_iload_n hx hb dX10_offBy_44 rfl (lv_at hl 0 rfl) ?_
  obtain rfl := Option.some.inj hf
  exact tRet_i C hr hlk hP hS dX10_offBy_45
def rmX10_off : Room := { frames := 3, cells := 0, slots := 0, locals := 68 }
theorem hn_X10_off_10 : ∀ w ∈ wsX100, w ∈ wsX10_off := fun w h => List.mem_cons_of_mem _ (List.mem_append_right _ h)
theorem hd_X10_off : yX10_off.cls ≠ "java/lang/invoke/MethodHandle" ∧ yX10_off.cls ≠ "java/lang/invoke/VarHandle" ∧ (parseMethodDescriptor yX10_off.desc).map (fun d => d.parameters.length) = some 2 := by decide +kernel
set_option maxHeartbeats 4000000 in
set_option maxRecDepth 100000 in
theorem c_X10_off (l : Launch) {D : va_G} {cI cZ : ClassId} {a : Nat → Nat} (hA : ∀ S : St, va_D (mA a) (wM cI cZ a S)) {x1 : Int32} {x2 : Int32} {S : St} {o : Int32 × St} (hf : f_X10_off x1 x2 S = some o) : Met l yX10_off wsX10_off rmX10_off (tPc D cI cZ (wM cI cZ a) S ([.ref (a 0), .int x1, .int x2] : List Value)) (tQi D (wM cI cZ a) (mA a) o.2 o.1) 0 0 (mA a) := by
  refine tEnter (cc := cX10_off) (maxL := 3) (ret := (some .int)) (own := RX10) hA rfl (by decide) rfl (Nat.le_of_ble_eq_true rfl) (fun p e s m args below meth c C hr hlk hP hS ls hl => ?_)
  obtain ⟨⟨hx, hb, hml, hown, hts⟩, hK, hN, -⟩ := id C
  have hl : lv_has ls 3 [(0, .ref (a 0)), (1, .int x1), (2, .int x2)] := hl
  have hin10 := hn_X10_off_10
  have hSS := hS
  rw [f_X10_off] at hf
  revert hP hS
  suffices hsuf : ∀ (H : Heap) (locs : List Loc), va_P D vwCl (wM cI cZ a S) H → va_S (mA a) s.heap H locs → W p l e rmX10_off s m args below meth c H locs 0 0 (MQ below (tQi D (wM cI cZ a) (mA a) o.2 o.1) args s 0 0 (mA a)) (F0 m 0 ls []) from fun hP hS => hsuf s.heap [] hP hS
  intro H locs hP hS
  refine lv_aload_n hx hb dX10_off_0 rfl (lv_at hl 0 rfl) ?_
  refine lv_iconst (v := (0 : Int32)) hx hb dX10_off_1 (by decide) ?_
  refine pm_10_0 C hin10 hP hS (List.mem_of_getElem? (i := 1) rfl) dX10_off_2 (fun H locs hP hS => ?_)
  obtain ⟨S2, eS2⟩ : ∃ z, z = (sI S 0 (0 : Int32)) := ⟨_, rfl⟩
  rw [← eS2] at hP
  have hf := nm_i hf eS2
  refine lv_iload_n hx hb dX10_off_5 rfl (lv_at hl 1 rfl) ?_
  refine lv_i2l hx hb dX10_off_6 rfl ?_
  refine lv_lconst (v := (0 : Int64)) hx hb dX10_off_7 (by decide) ?_
  refine lv_aload_n hx hb dX10_off_8 rfl (lv_at hl 0 rfl) ?_
  obtain ⟨r9, hc9, hf⟩ := ob hf
  refine tCallVi (As := []) (rest := [.long (0 : Int64), .long x1.toInt64]) (q0 := 0) (ci := 10) C hP hS rfl rfl (c_X10_ahead l C.2.2.2 hc9) (cwV 0 hts gX10_off_X10_ahead rfl rfl rfl ⟨rfl, hd_X10_ahead⟩ ⟨Nat.le_of_ble_eq_true rfl, Nat.le_of_ble_eq_true rfl⟩) rfl hl rfl (Nat.le_of_ble_eq_true rfl) dX10_off_9 ⟨Nat.le_refl 0, Nat.le_refl 0⟩ (fun H locs hP hS => ?_)
  refine lv_i2l hx hb dX10_off_12 rfl ?_
  obtain ⟨r13, hc13, hf⟩ := ob hf
  refine tCallSi (As := [.long x1.toInt64, .long (0 : Int64), .long r9.toInt64]) (rest := []) C hP hS (c_X10_in l C.2.2.2 hc13) (va_cwS 3 hts gX10_off_X10_in rfl rfl rfl hd_X10_in ⟨Nat.le_of_ble_eq_true rfl, Nat.le_of_ble_eq_true rfl⟩) rfl hl rfl (Nat.le_of_ble_eq_true rfl) dX10_off_13 ⟨Nat.le_refl 0, Nat.le_refl 0⟩ (fun H locs hP hS => ?_)
  refine lv_if_eq (tgt := 31) hx hb dX10_off_16 (by decide) (fun c1 => ?_) (fun c1 => ?_)
  · have hf := if_p hf c1
    refine lv_bipush (v := (-2 : Int32)) hx hb dX10_off_31 (by decide) ?_
    refine lv_goto (tgt := 46) hx hb dX10_off_33 (by decide) ?_
    obtain rfl := Option.some.inj hf
    exact tRet_i C hr hlk hP hS dX10_off_46
  · have hf := if_n hf c1
    refine lv_iload_n hx hb dX10_off_19 rfl (lv_at hl 2 rfl) ?_
    refine lv_i2l hx hb dX10_off_20 rfl ?_
    refine lv_lconst (v := (0 : Int64)) hx hb dX10_off_21 (by decide) ?_
    refine lv_ldc2 (v := (255 : Int64)) hx hb hown (hts _ (List.mem_of_getElem? (i := 2) rfl)) dX10_off_22 ?_
    obtain ⟨r25, hc25, hf⟩ := ob hf
    refine tCallSi (As := [.long x2.toInt64, .long (0 : Int64), .long (255 : Int64)]) (rest := []) C hP hS (c_X10_in l C.2.2.2 hc25) (va_cwS 3 hts gX10_off_X10_in rfl rfl rfl hd_X10_in ⟨Nat.le_of_ble_eq_true rfl, Nat.le_of_ble_eq_true rfl⟩) rfl hl rfl (Nat.le_of_ble_eq_true rfl) dX10_off_25 ⟨Nat.le_refl 0, Nat.le_refl 0⟩ (fun H locs hP hS => ?_)
    refine lv_if_ne (tgt := 36) hx hb dX10_off_28 (by decide) (fun c2 => ?_) (fun c2 => ?_)
    · have hf := if_n hf c2
      refine lv_aload_n hx hb dX10_off_36 rfl (lv_at hl 0 rfl) ?_
      refine lv_iload_n hx hb dX10_off_37 rfl (lv_at hl 1 rfl) ?_
      refine lv_iload_n hx hb dX10_off_38 rfl (lv_at hl 2 rfl) ?_
      obtain ⟨r39, hc39, hf⟩ := ob hf
      refine tCallVi (As := [.int x1, .int x2]) (rest := []) (q0 := 0) (ci := 10) C hP hS rfl rfl (c_X10_offBy l C.2.2.2 hc39) (cwV 2 hts gX10_off_X10_offBy rfl rfl rfl ⟨rfl, hd_X10_offBy⟩ ⟨Nat.le_of_ble_eq_true rfl, Nat.le_of_ble_eq_true rfl⟩) rfl hl rfl (Nat.le_of_ble_eq_true rfl) dX10_off_39 ⟨Nat.le_refl 0, Nat.le_refl 0⟩ (fun H locs hP hS => ?_)
      refine lv_sipush (v := (20000 : Int32)) hx hb dX10_off_42 (by decide) ?_
      refine lv_iadd hx hb dX10_off_45 ?_
      obtain rfl := Option.some.inj hf
      exact tRet_i C hr hlk hP hS dX10_off_46
    · have hf := if_p hf c2
      refine lv_bipush (v := (-2 : Int32)) hx hb dX10_off_31 (by decide) ?_
      refine lv_goto (tgt := 46) hx hb dX10_off_33 (by decide) ?_
      obtain rfl := Option.some.inj hf
      exact tRet_i C hr hlk hP hS dX10_off_46
def rmX10_size : Room := { frames := 0, cells := 0, slots := 0, locals := 0 }
theorem hd_X10_size : yX10_size.cls ≠ "java/lang/invoke/MethodHandle" ∧ yX10_size.cls ≠ "java/lang/invoke/VarHandle" ∧ (parseMethodDescriptor yX10_size.desc).map (fun d => d.parameters.length) = some 1 := by decide +kernel
set_option maxHeartbeats 4000000 in
set_option maxRecDepth 100000 in
theorem c_X10_size (l : Launch) {D : va_G} {cI cZ : ClassId} {a : Nat → Nat} (hA : ∀ S : St, va_D (mA a) (wM cI cZ a S)) {x0 : Int32} {S : St} {o : Int32} (hf : f_X10_size x0 = some o) : Met l yX10_size wsX10_size rmX10_size (tPc D cI cZ (wM cI cZ a) S ([.int x0] : List Value)) (tQi D (wM cI cZ a) (mA a) S o) 0 0 (mA a) := by
  refine tEnter (cc := cX10_size) (maxL := 1) (ret := (some .int)) (own := RX10) hA rfl (by decide) rfl (Nat.le_of_ble_eq_true rfl) (fun p e s m args below meth c C hr hlk hP hS ls hl => ?_)
  obtain ⟨⟨hx, hb, hml, hown, hts⟩, hK, hN, -⟩ := id C
  have hl : lv_has ls 1 [(0, .int x0)] := hl
  have hSS := hS
  rw [f_X10_size] at hf
  revert hP hS
  suffices hsuf : ∀ (H : Heap) (locs : List Loc), va_P D vwCl (wM cI cZ a S) H → va_S (mA a) s.heap H locs → W p l e rmX10_size s m args below meth c H locs 0 0 (MQ below (tQi D (wM cI cZ a) (mA a) S o) args s 0 0 (mA a)) (F0 m 0 ls []) from fun hP hS => hsuf s.heap [] hP hS
  intro H locs hP hS
  refine lv_iload_n hx hb dX10_size_0 rfl (lv_at hl 0 rfl) ?_
  refine lv_if_ge (tgt := 9) hx hb dX10_size_1 (by decide) (fun c1 => ?_) (fun c1 => ?_)
  · have hf := if_p hf c1
    refine lv_iload_n hx hb dX10_size_9 rfl (lv_at hl 0 rfl) ?_
    obtain rfl := Option.some.inj hf
    exact tRet_i C hr hlk hP hS dX10_size_10
  · have hf := if_n hf c1
    refine lv_iload_n hx hb dX10_size_4 rfl (lv_at hl 0 rfl) ?_
    refine lv_ineg hx hb dX10_size_5 ?_
    refine lv_goto (tgt := 10) hx hb dX10_size_6 (by decide) ?_
    obtain rfl := Option.some.inj hf
    exact tRet_i C hr hlk hP hS dX10_size_10
def rmX10_changesOf : Room := { frames := 0, cells := 0, slots := 0, locals := 0 }
theorem hn_X10_changesOf_10 : ∀ w ∈ wsX100, w ∈ wsX10_changesOf := fun w h => List.mem_cons_of_mem _ (List.mem_append_right _ h)
theorem hd_X10_changesOf : yX10_changesOf.cls ≠ "java/lang/invoke/MethodHandle" ∧ yX10_changesOf.cls ≠ "java/lang/invoke/VarHandle" ∧ (parseMethodDescriptor yX10_changesOf.desc).map (fun d => d.parameters.length) = some 2 := by decide +kernel
set_option maxHeartbeats 4000000 in
set_option maxRecDepth 100000 in
theorem lp_X10_changesOf_18 {p : Program} {l : Launch} {e : Env} {s : State} {m : MethodId} {args : Array Value} {below : List Frame} {meth : Method} {c : Code} {D : va_G} {cI cZ : ClassId} {a : Nat → Nat} {Q : State → Prop} {H0 : Heap} {x1 : Int32} {x2 : Int32} {S : St} {o : Int32}
    (C : tC p c s m args cX10_changesOf 6 RX10 wsX10_changesOf D cI cZ (wM cI cZ a) (mA a))
    (K0 : ∀ (H : Heap) (locs : List Loc) (ls : Array Slot), va_P D vwCl (wM cI cZ a S) H → va_S (mA a) H0 H locs → lv_has ls 6 [(4, .int o)] → W p l e rmX10_changesOf s m args below meth c H locs 0 0 Q (F0 m 64 ls [])) :
    ∀ (n : Nat) (x3 : Int32) (x4 : Int32) (x5 : Int32), l_X10_changesOf_18 x1 x2 S n x3 x4 x5 = some o → ∀ (H : Heap) (locs : List Loc) (ls : Array Slot), va_P D vwCl (wM cI cZ a S) H → va_S (mA a) H0 H locs → lv_has ls 6 [(0, .ref (a 0)), (1, .int x1), (2, .int x2), (3, .int x3), (4, .int x4), (5, .int x5)] → W p l e rmX10_changesOf s m args below meth c H locs 0 0 Q (F0 m 18 ls []) := by
  obtain ⟨⟨hx, hb, hml, hown, hts⟩, hK, hN, hA⟩ := id C
  have hin10 := hn_X10_changesOf_10
  intro n
  induction n with
  | zero =>
    intro x3 x4 x5 hf
    rw [l_X10_changesOf_18] at hf
    cases hf
  | succ n ih =>
    have J48 : ∀ (x5 : Int32) (t0 : Int32) (t1 : Int32) (H : Heap) (locs : List Loc) (ls : Array Slot), j_X10_changesOf_48 (l_X10_changesOf_18 x1 x2 S n) x1 x2 x5 t0 t1 S = some o → va_P D vwCl (wM cI cZ a S) H → va_S (mA a) H0 H locs → lv_has ls 6 [(0, .ref (a 0)), (1, .int x1), (2, .int x2), (5, .int x5)] → W p l e rmX10_changesOf s m args below meth c H locs 0 0 Q (F0 m 48 ls [.int t0, .int t1]) := by
      intro x5 t0 t1 H locs ls hf hP hS hl
      rw [j_X10_changesOf_48] at hf
      refine lv_iadd hx hb dX10_changesOf_48 ?_
      refine lv_istore (lv' := [(4, .int (t1 + t0)), (0, .ref (a 0)), (1, .int x1), (2, .int x2), (5, .int x5)]) hx hb dX10_changesOf_49 hl (Nat.le_of_ble_eq_true rfl) rfl (fun ls hl => ?_)
      refine lv_iload_n hx hb dX10_changesOf_51 rfl (lv_at hl 3 rfl) ?_
      refine lv_iload hx hb dX10_changesOf_52 (lv_at hl 4 rfl) ?_
      refine lv_ishr hx hb dX10_changesOf_54 ?_
      refine lv_iconst (v := (1 : Int32)) hx hb dX10_changesOf_55 (by decide) ?_
      refine lv_iand hx hb dX10_changesOf_56 ?_
      refine lv_topi (fun v57 e57 => ?_)
      have hf := nm_i hf e57
      refine lv_istore_n (lv' := [(3, .int v57), (4, .int (t1 + t0)), (0, .ref (a 0)), (1, .int x1), (2, .int x2), (5, .int x5)]) hx hb dX10_changesOf_57 rfl hl (Nat.le_of_ble_eq_true rfl) rfl (fun ls hl => ?_)
      refine lv_iinc (v := (x5 + 1)) (lv' := [(5, .int (x5 + 1)), (3, .int v57), (4, .int (t1 + t0)), (0, .ref (a 0)), (1, .int x1), (2, .int x2)]) hx hb dX10_changesOf_58 hl (k := 5) rfl rfl (Nat.le_of_ble_eq_true rfl) rfl (fun ls hl => ?_)
      refine lv_goto (tgt := 18) hx hb dX10_changesOf_61 (by decide) ?_
      exact ih _ _ _ hf H locs ls hP hS (lv_sub hl [3, 4, 5, 1, 2, 0] rfl)
    intro x3 x4 x5 hf H locs ls hP hS hl
    rw [l_X10_changesOf_18] at hf
    refine lv_iload hx hb dX10_changesOf_18 (lv_at hl 5 rfl) ?_
    refine lv_aload_n hx hb dX10_changesOf_20 rfl (lv_at hl 0 rfl) ?_
    refine gm_10_14 C hin10 hP (List.mem_of_getElem? (i := 1) rfl) dX10_changesOf_21 ?_
    refine lv_iconst (v := (0 : Int32)) hx hb dX10_changesOf_24 (by decide) ?_
    refine ldm_7 (j := 0) C hP (by decide) (show ¬ ((0 : Int32) < 0 ∨ 16 ≤ (0 : Int32).toNatClampNeg) by decide) dX10_changesOf_25 ?_
    refine lv_iload_n hx hb dX10_changesOf_26 rfl (lv_at hl 1 rfl) ?_
    refine lv_iadd hx hb dX10_changesOf_27 ?_
    refine lv_icmp_ge (tgt := 64) hx hb dX10_changesOf_28 (by decide) (fun c4 => ?_) (fun c4 => ?_)
    · have hf := if_p hf c4
      obtain rfl := Option.some.inj hf
      exact K0 H locs ls hP hS (lv_sub hl [4] rfl)
    · have hf := if_n hf c4
      refine lv_iload hx hb dX10_changesOf_31 (lv_at hl 4 rfl) ?_
      refine lv_iload_n hx hb dX10_changesOf_33 rfl (lv_at hl 2 rfl) ?_
      refine lv_iload hx hb dX10_changesOf_34 (lv_at hl 5 rfl) ?_
      refine lv_ishr hx hb dX10_changesOf_36 ?_
      refine lv_iconst (v := (1 : Int32)) hx hb dX10_changesOf_37 (by decide) ?_
      refine lv_iand hx hb dX10_changesOf_38 ?_
      refine lv_iload_n hx hb dX10_changesOf_39 rfl (lv_at hl 3 rfl) ?_
      refine lv_icmp_ne (tgt := 47) hx hb dX10_changesOf_40 (by decide) (fun c5 => ?_) (fun c5 => ?_)
      · have hf := if_n hf c5
        refine lv_iconst (v := (1 : Int32)) hx hb dX10_changesOf_47 (by decide) ?_
        exact J48 _ _ _ H locs ls hf hP hS (lv_sub hl [0, 1, 2, 5] rfl)
      · have hf := if_p hf c5
        refine lv_iconst (v := (0 : Int32)) hx hb dX10_changesOf_43 (by decide) ?_
        refine lv_goto (tgt := 48) hx hb dX10_changesOf_44 (by decide) ?_
        exact J48 _ _ _ H locs ls hf hP hS (lv_sub hl [0, 1, 2, 5] rfl)
set_option maxHeartbeats 4000000 in
set_option maxRecDepth 100000 in
theorem c_X10_changesOf (l : Launch) {D : va_G} {cI cZ : ClassId} {a : Nat → Nat} (hA : ∀ S : St, va_D (mA a) (wM cI cZ a S)) {x1 : Int32} {x2 : Int32} {S : St} {o : Int32} (hf : f_X10_changesOf x1 x2 S = some o) : Met l yX10_changesOf wsX10_changesOf rmX10_changesOf (tPc D cI cZ (wM cI cZ a) S ([.ref (a 0), .int x1, .int x2] : List Value)) (tQi D (wM cI cZ a) (mA a) S o) 0 0 (mA a) := by
  refine tEnter (cc := cX10_changesOf) (maxL := 6) (ret := (some .int)) (own := RX10) hA rfl (by decide) rfl (Nat.le_of_ble_eq_true rfl) (fun p e s m args below meth c C hr hlk hP hS ls hl => ?_)
  obtain ⟨⟨hx, hb, hml, hown, hts⟩, hK, hN, -⟩ := id C
  have hl : lv_has ls 6 [(0, .ref (a 0)), (1, .int x1), (2, .int x2)] := hl
  have hin10 := hn_X10_changesOf_10
  have hSS := hS
  rw [f_X10_changesOf] at hf
  revert hP hS
  suffices hsuf : ∀ (H : Heap) (locs : List Loc), va_P D vwCl (wM cI cZ a S) H → va_S (mA a) s.heap H locs → W p l e rmX10_changesOf s m args below meth c H locs 0 0 (MQ below (tQi D (wM cI cZ a) (mA a) S o) args s 0 0 (mA a)) (F0 m 0 ls []) from fun hP hS => hsuf s.heap [] hP hS
  intro H locs hP hS
  refine lv_aload_n hx hb dX10_changesOf_0 rfl (lv_at hl 0 rfl) ?_
  refine gm_10_14 C hin10 hP (List.mem_of_getElem? (i := 1) rfl) dX10_changesOf_1 ?_
  refine lv_iconst (v := (5 : Int32)) hx hb dX10_changesOf_4 (by decide) ?_
  refine ldm_7 (j := 5) C hP (by decide) (show ¬ ((5 : Int32) < 0 ∨ 16 ≤ (5 : Int32).toNatClampNeg) by decide) dX10_changesOf_5 ?_
  refine lv_istore_n (lv' := [(3, .int (S.2.1 7 5)), (0, .ref (a 0)), (1, .int x1), (2, .int x2)]) hx hb dX10_changesOf_6 rfl hl (Nat.le_of_ble_eq_true rfl) rfl (fun ls hl => ?_)
  refine lv_iconst (v := (0 : Int32)) hx hb dX10_changesOf_7 (by decide) ?_
  refine lv_istore (lv' := [(4, .int (0 : Int32)), (3, .int (S.2.1 7 5)), (0, .ref (a 0)), (1, .int x1), (2, .int x2)]) hx hb dX10_changesOf_8 hl (Nat.le_of_ble_eq_true rfl) rfl (fun ls hl => ?_)
  refine lv_aload_n hx hb dX10_changesOf_10 rfl (lv_at hl 2 rfl) ?_
  refine gm_10_14 C hin10 hP (List.mem_of_getElem? (i := 1) rfl) dX10_changesOf_11 ?_
  refine lv_iconst (v := (0 : Int32)) hx hb dX10_changesOf_14 (by decide) ?_
  refine ldm_7 (j := 0) C hP (by decide) (show ¬ ((0 : Int32) < 0 ∨ 16 ≤ (0 : Int32).toNatClampNeg) by decide) dX10_changesOf_15 ?_
  refine lv_istore (lv' := [(5, .int (S.2.1 7 0)), (4, .int (0 : Int32)), (3, .int (S.2.1 7 5)), (0, .ref (a 0)), (1, .int x1), (2, .int x2)]) hx hb dX10_changesOf_16 hl (Nat.le_of_ble_eq_true rfl) rfl (fun ls hl => ?_)
  obtain ⟨o18, hc18, hf⟩ := ob hf
  refine lp_X10_changesOf_18 C (fun H locs ls hP hS hl => ?_) fuel _ _ _ hc18 H locs ls hP hS (lv_sub hl [3, 4, 5, 2, 1, 0] rfl)
  refine lv_iload hx hb dX10_changesOf_64 (lv_at hl 0 rfl) ?_
  obtain rfl := Option.some.inj hf
  exact tRet_i C hr hlk hP hS dX10_changesOf_66
def rmX10_findEnds : Room := { frames := 3, cells := 0, slots := 0, locals := 68 }
theorem hn_X10_findEnds_10 : ∀ w ∈ wsX100, w ∈ wsX10_findEnds := fun w h => List.mem_cons_of_mem _ (List.mem_append_right _ h)
theorem hd_X10_findEnds : yX10_findEnds.cls ≠ "java/lang/invoke/MethodHandle" ∧ yX10_findEnds.cls ≠ "java/lang/invoke/VarHandle" ∧ (parseMethodDescriptor yX10_findEnds.desc).map (fun d => d.parameters.length) = some 1 := by decide +kernel
set_option maxHeartbeats 4000000 in
set_option maxRecDepth 100000 in
theorem lp_X10_findEnds_33 {p : Program} {l : Launch} {e : Env} {s : State} {m : MethodId} {args : Array Value} {below : List Frame} {meth : Method} {c : Code} {D : va_G} {cI cZ : ClassId} {a : Nat → Nat} {Q : State → Prop} {H0 : Heap} {x1 : Int32} {x2 : Int32} {o : St}
    (C : tC p c s m args cX10_findEnds 6 RX10 wsX10_findEnds D cI cZ (wM cI cZ a) (mA a))
    (K0 : ∀ (H : Heap) (locs : List Loc) (ls : Array Slot), va_P D vwCl (wM cI cZ a o) H → va_S (mA a) H0 H locs → lv_has ls 6 [] → W p l e rmX10_findEnds s m args below meth c H locs 0 0 Q (F0 m 159 ls [])) :
    ∀ (n : Nat) (x3 : Int32) (S : St), l_X10_findEnds_33 x1 x2 n x3 S = some o → ∀ (H : Heap) (locs : List Loc) (ls : Array Slot), va_P D vwCl (wM cI cZ a S) H → va_S (mA a) H0 H locs → lv_has ls 6 [(0, .ref (a 0)), (1, .int x1), (2, .int x2), (3, .int x3)] → W p l e rmX10_findEnds s m args below meth c H locs 0 0 Q (F0 m 33 ls []) := by
  obtain ⟨⟨hx, hb, hml, hown, hts⟩, hK, hN, hA⟩ := id C
  have hin10 := hn_X10_findEnds_10
  intro n
  induction n with
  | zero =>
    intro x3 S hf
    rw [l_X10_findEnds_33] at hf
    cases hf
  | succ n ih =>
    have J132 : ∀ (x3 : Int32) (x4 : Int32) (x5 : Int32) (t0 : Int32) (S : St) (H : Heap) (locs : List Loc) (ls : Array Slot), j_X10_findEnds_132 (l_X10_findEnds_33 x1 x2 n) x1 x2 x3 x4 x5 t0 S = some o → va_P D vwCl (wM cI cZ a S) H → va_S (mA a) H0 H locs → lv_has ls 6 [(0, .ref (a 0)), (1, .int x1), (2, .int x2), (3, .int x3), (4, .int x4), (5, .int x5)] → W p l e rmX10_findEnds s m args below meth c H locs 0 0 Q (F0 m 132 ls [.int t0, .ref (a 0)]) := by
      intro x3 x4 x5 t0 S H locs ls hf hP hS hl
      rw [j_X10_findEnds_132] at hf
      refine pm_10_23 C hin10 hP hS (List.mem_of_getElem? (i := 2) rfl) dX10_findEnds_132 (fun H locs hP hS => ?_)
      obtain ⟨S132, eS132⟩ : ∃ z, z = (sI S 9 t0) := ⟨_, rfl⟩
      rw [← eS132] at hP
      have hf := nm_i hf eS132
      refine lv_aload_n hx hb dX10_findEnds_135 rfl (lv_at hl 0 rfl) ?_
      refine lv_iload hx hb dX10_findEnds_136 (lv_at hl 5 rfl) ?_
      refine lv_if_eq (tgt := 146) hx hb dX10_findEnds_138 (by decide) (fun c10 => ?_) (fun c10 => ?_)
      · have hf := if_p hf c10
        refine lv_aload_n hx hb dX10_findEnds_146 rfl (lv_at hl 0 rfl) ?_
        refine gm_10_24 C hin10 hP (List.mem_of_getElem? (i := 3) rfl) dX10_findEnds_147 ?_
        refine pm_10_24 C hin10 hP hS (List.mem_of_getElem? (i := 3) rfl) dX10_findEnds_150 (fun H locs hP hS => ?_)
        obtain ⟨S150, eS150⟩ : ∃ z, z = (sI S132 10 (S132.1 10)) := ⟨_, rfl⟩
        rw [← eS150] at hP
        have hf := nm_i hf eS150
        refine lv_iinc (v := (x3 + 1)) (lv' := [(3, .int (x3 + 1)), (0, .ref (a 0)), (1, .int x1), (2, .int x2), (4, .int x4), (5, .int x5)]) hx hb dX10_findEnds_153 hl (k := 3) rfl rfl (Nat.le_of_ble_eq_true rfl) rfl (fun ls hl => ?_)
        refine lv_goto (tgt := 33) hx hb dX10_findEnds_156 (by decide) ?_
        exact ih _ _ hf H locs ls hP hS (lv_sub hl [1, 2, 3, 0] rfl)
      · have hf := if_n hf c10
        refine lv_iload hx hb dX10_findEnds_141 (lv_at hl 4 rfl) ?_
        refine lv_goto (tgt := 150) hx hb dX10_findEnds_143 (by decide) ?_
        refine pm_10_24 C hin10 hP hS (List.mem_of_getElem? (i := 3) rfl) dX10_findEnds_150 (fun H locs hP hS => ?_)
        obtain ⟨S150, eS150⟩ : ∃ z, z = (sI S132 10 x4) := ⟨_, rfl⟩
        rw [← eS150] at hP
        have hf := nm_i hf eS150
        refine lv_iinc (v := (x3 + 1)) (lv' := [(3, .int (x3 + 1)), (0, .ref (a 0)), (1, .int x1), (2, .int x2), (4, .int x4), (5, .int x5)]) hx hb dX10_findEnds_153 hl (k := 3) rfl rfl (Nat.le_of_ble_eq_true rfl) rfl (fun ls hl => ?_)
        refine lv_goto (tgt := 33) hx hb dX10_findEnds_156 (by decide) ?_
        exact ih _ _ hf H locs ls hP hS (lv_sub hl [1, 2, 3, 0] rfl)
    have J116 : ∀ (x3 : Int32) (x4 : Int32) (t0 : Int32) (S : St) (H : Heap) (locs : List Loc) (ls : Array Slot), j_X10_findEnds_116 (l_X10_findEnds_33 x1 x2 n) x1 x2 x3 x4 t0 S = some o → va_P D vwCl (wM cI cZ a S) H → va_S (mA a) H0 H locs → lv_has ls 6 [(0, .ref (a 0)), (1, .int x1), (2, .int x2), (3, .int x3), (4, .int x4)] → W p l e rmX10_findEnds s m args below meth c H locs 0 0 Q (F0 m 116 ls [.int t0]) := by
      intro x3 x4 t0 S H locs ls hf hP hS hl
      rw [j_X10_findEnds_116] at hf
      refine lv_istore (lv' := [(5, .int t0), (0, .ref (a 0)), (1, .int x1), (2, .int x2), (3, .int x3), (4, .int x4)]) hx hb dX10_findEnds_116 hl (Nat.le_of_ble_eq_true rfl) rfl (fun ls hl => ?_)
      refine lv_aload_n hx hb dX10_findEnds_118 rfl (lv_at hl 1 rfl) ?_
      refine lv_iload hx hb dX10_findEnds_119 (lv_at hl 0 rfl) ?_
      refine lv_if_eq (tgt := 128) hx hb dX10_findEnds_121 (by decide) (fun c9 => ?_) (fun c9 => ?_)
      · have hf := if_p hf c9
        refine lv_aload_n hx hb dX10_findEnds_128 rfl (lv_at hl 1 rfl) ?_
        refine gm_10_23 C hin10 hP (List.mem_of_getElem? (i := 2) rfl) dX10_findEnds_129 ?_
        exact J132 _ _ _ _ _ H locs ls hf hP hS (lv_sub hl [1, 2, 3, 4, 5, 0] rfl)
      · have hf := if_n hf c9
        refine lv_iload_n hx hb dX10_findEnds_124 rfl (lv_at hl 4 rfl) ?_
        refine lv_goto (tgt := 132) hx hb dX10_findEnds_125 (by decide) ?_
        exact J132 _ _ _ _ _ H locs ls hf hP hS (lv_sub hl [1, 2, 3, 4, 5, 0] rfl)
    have J115 : ∀ (x3 : Int32) (x4 : Int32) (S : St) (H : Heap) (locs : List Loc) (ls : Array Slot), j_X10_findEnds_115 (l_X10_findEnds_33 x1 x2 n) x1 x2 x3 x4 S = some o → va_P D vwCl (wM cI cZ a S) H → va_S (mA a) H0 H locs → lv_has ls 6 [(0, .ref (a 0)), (1, .int x1), (2, .int x2), (3, .int x3), (4, .int x4)] → W p l e rmX10_findEnds s m args below meth c H locs 0 0 Q (F0 m 115 ls []) := by
      intro x3 x4 S H locs ls hf hP hS hl
      rw [j_X10_findEnds_115] at hf
      refine lv_iconst (v := (0 : Int32)) hx hb dX10_findEnds_115 (by decide) ?_
      exact J116 _ _ _ _ H locs ls hf hP hS (lv_sub hl [0, 1, 2, 3, 4] rfl)
    have J111 : ∀ (x3 : Int32) (x4 : Int32) (S : St) (H : Heap) (locs : List Loc) (ls : Array Slot), j_X10_findEnds_111 (l_X10_findEnds_33 x1 x2 n) x1 x2 x3 x4 S = some o → va_P D vwCl (wM cI cZ a S) H → va_S (mA a) H0 H locs → lv_has ls 6 [(0, .ref (a 0)), (1, .int x1), (2, .int x2), (3, .int x3), (4, .int x4)] → W p l e rmX10_findEnds s m args below meth c H locs 0 0 Q (F0 m 111 ls []) := by
      intro x3 x4 S H locs ls hf hP hS hl
      rw [j_X10_findEnds_111] at hf
      refine lv_iconst (v := (1 : Int32)) hx hb dX10_findEnds_111 (by decide) ?_
      refine lv_goto (tgt := 116) hx hb dX10_findEnds_112 (by decide) ?_
      exact J116 _ _ _ _ H locs ls hf hP hS (lv_sub hl [0, 1, 2, 3, 4] rfl)
    intro x3 S hf H locs ls hP hS hl
    rw [l_X10_findEnds_33] at hf
    refine lv_iload_n hx hb dX10_findEnds_33 rfl (lv_at hl 3 rfl) ?_
    refine lv_iload_n hx hb dX10_findEnds_34 rfl (lv_at hl 2 rfl) ?_
    refine lv_icmp_gt (tgt := 159) hx hb dX10_findEnds_35 (by decide) (fun c3 => ?_) (fun c3 => ?_)
    · have hf := if_p hf c3
      obtain rfl := Option.some.inj hf
      exact K0 H locs ls hP hS (lv_sub hl [] rfl)
    · have hf := if_n hf c3
      refine lv_iload_n hx hb dX10_findEnds_38 rfl (lv_at hl 3 rfl) ?_
      refine lv_iload_n hx hb dX10_findEnds_39 rfl (lv_at hl 2 rfl) ?_
      refine lv_iconst (v := (-1 : Int32)) hx hb dX10_findEnds_40 (by decide) ?_
      refine lv_ixor hx hb dX10_findEnds_41 ?_
      refine lv_iand hx hb dX10_findEnds_42 ?_
      refine lv_if_ne (tgt := 153) hx hb dX10_findEnds_43 (by decide) (fun c4 => ?_) (fun c4 => ?_)
      · have hf := if_n hf c4
        refine lv_iinc (v := (x3 + 1)) (lv' := [(3, .int (x3 + 1)), (0, .ref (a 0)), (1, .int x1), (2, .int x2)]) hx hb dX10_findEnds_153 hl (k := 3) rfl rfl (Nat.le_of_ble_eq_true rfl) rfl (fun ls hl => ?_)
        refine lv_goto (tgt := 33) hx hb dX10_findEnds_156 (by decide) ?_
        exact ih _ _ hf H locs ls hP hS (lv_sub hl [1, 2, 3, 0] rfl)
      · have hf := if_p hf c4
        refine lv_aload_n hx hb dX10_findEnds_46 rfl (lv_at hl 0 rfl) ?_
        refine lv_iload_n hx hb dX10_findEnds_47 rfl (lv_at hl 1 rfl) ?_
        refine lv_iload_n hx hb dX10_findEnds_48 rfl (lv_at hl 3 rfl) ?_
        obtain ⟨r49, hc49, hf⟩ := ob hf
        refine tCallVi (As := [.int x1, .int x3]) (rest := []) (q0 := 0) (ci := 10) C hP hS rfl rfl (c_X10_offBy l C.2.2.2 hc49) (cwV 2 hts gX10_findEnds_X10_offBy rfl rfl rfl ⟨rfl, hd_X10_offBy⟩ ⟨Nat.le_of_ble_eq_true rfl, Nat.le_of_ble_eq_true rfl⟩) rfl hl rfl (Nat.le_of_ble_eq_true rfl) dX10_findEnds_49 ⟨Nat.le_refl 0, Nat.le_refl 0⟩ (fun H locs hP hS => ?_)
        refine lv_istore (lv' := [(4, .int r49), (0, .ref (a 0)), (1, .int x1), (2, .int x2), (3, .int x3)]) hx hb dX10_findEnds_52 hl (Nat.le_of_ble_eq_true rfl) rfl (fun ls hl => ?_)
        refine lv_aload_n hx hb dX10_findEnds_54 rfl (lv_at hl 1 rfl) ?_
        refine gm_10_23 C hin10 hP (List.mem_of_getElem? (i := 2) rfl) dX10_findEnds_55 ?_
        refine lv_bipush (v := (-9 : Int32)) hx hb dX10_findEnds_58 (by decide) ?_
        refine lv_icmp_eq (tgt := 111) hx hb dX10_findEnds_60 (by decide) (fun c5 => ?_) (fun c5 => ?_)
        · have hf := if_p hf c5
          exact J111 _ _ _ H locs ls hf hP hS (lv_sub hl [1, 2, 3, 4, 0] rfl)
        · have hf := if_n hf c5
          refine lv_iload hx hb dX10_findEnds_63 (lv_at hl 0 rfl) ?_
          obtain ⟨r65, hc65, hf⟩ := ob hf
          refine tCallSi (As := [.int r49]) (rest := []) C hP hS (c_X10_size l C.2.2.2 hc65) (va_cwS 1 hts gX10_findEnds_X10_size rfl rfl rfl hd_X10_size ⟨Nat.le_of_ble_eq_true rfl, Nat.le_of_ble_eq_true rfl⟩) rfl hl rfl (Nat.le_of_ble_eq_true rfl) dX10_findEnds_65 ⟨Nat.le_refl 0, Nat.le_refl 0⟩ (fun H locs hP hS => ?_)
          refine lv_aload_n hx hb dX10_findEnds_68 rfl (lv_at hl 1 rfl) ?_
          refine gm_10_24 C hin10 hP (List.mem_of_getElem? (i := 3) rfl) dX10_findEnds_69 ?_
          obtain ⟨r72, hc72, hf⟩ := ob hf
          refine tCallSi (As := [.int (S.1 10)]) (rest := [.int r65]) C hP hS (c_X10_size l C.2.2.2 hc72) (va_cwS 1 hts gX10_findEnds_X10_size rfl rfl rfl hd_X10_size ⟨Nat.le_of_ble_eq_true rfl, Nat.le_of_ble_eq_true rfl⟩) rfl hl rfl (Nat.le_of_ble_eq_true rfl) dX10_findEnds_72 ⟨Nat.le_refl 0, Nat.le_refl 0⟩ (fun H locs hP hS => ?_)
          refine lv_icmp_lt (tgt := 111) hx hb dX10_findEnds_75 (by decide) (fun c6 => ?_) (fun c6 => ?_)
          · have hf := if_p hf c6
            exact J111 _ _ _ H locs ls hf hP hS (lv_sub hl [1, 2, 3, 4, 0] rfl)
          · have hf := if_n hf c6
            refine lv_iload hx hb dX10_findEnds_78 (lv_at hl 0 rfl) ?_
            obtain ⟨r80, hc80, hf⟩ := ob hf
            refine tCallSi (As := [.int r49]) (rest := []) C hP hS (c_X10_size l C.2.2.2 hc80) (va_cwS 1 hts gX10_findEnds_X10_size rfl rfl rfl hd_X10_size ⟨Nat.le_of_ble_eq_true rfl, Nat.le_of_ble_eq_true rfl⟩) rfl hl rfl (Nat.le_of_ble_eq_true rfl) dX10_findEnds_80 ⟨Nat.le_refl 0, Nat.le_refl 0⟩ (fun H locs hP hS => ?_)
            refine lv_aload_n hx hb dX10_findEnds_83 rfl (lv_at hl 1 rfl) ?_
            refine gm_10_24 C hin10 hP (List.mem_of_getElem? (i := 3) rfl) dX10_findEnds_84 ?_
            obtain ⟨r87, hc87, hf⟩ := ob hf
            refine tCallSi (As := [.int (S.1 10)]) (rest := [.int r80]) C hP hS (c_X10_size l C.2.2.2 hc87) (va_cwS 1 hts gX10_findEnds_X10_size rfl rfl rfl hd_X10_size ⟨Nat.le_of_ble_eq_true rfl, Nat.le_of_ble_eq_true rfl⟩) rfl hl rfl (Nat.le_of_ble_eq_true rfl) dX10_findEnds_87 ⟨Nat.le_refl 0, Nat.le_refl 0⟩ (fun H locs hP hS => ?_)
            refine lv_icmp_ne (tgt := 115) hx hb dX10_findEnds_90 (by decide) (fun c7 => ?_) (fun c7 => ?_)
            · have hf := if_n hf c7
              exact J115 _ _ _ H locs ls hf hP hS (lv_sub hl [1, 2, 3, 4, 0] rfl)
            · have hf := if_p hf c7
              refine lv_aload_n hx hb dX10_findEnds_93 rfl (lv_at hl 1 rfl) ?_
              refine lv_iload_n hx hb dX10_findEnds_94 rfl (lv_at hl 2 rfl) ?_
              refine lv_iload_n hx hb dX10_findEnds_95 rfl (lv_at hl 4 rfl) ?_
              obtain ⟨r96, hc96, hf⟩ := ob hf
              refine tCallVi (As := [.int x1, .int x3]) (rest := []) (q0 := 0) (ci := 10) C hP hS rfl rfl (c_X10_changesOf l C.2.2.2 hc96) (cwV 2 hts gX10_findEnds_X10_changesOf rfl rfl rfl ⟨rfl, hd_X10_changesOf⟩ ⟨Nat.le_of_ble_eq_true rfl, Nat.le_of_ble_eq_true rfl⟩) rfl hl rfl (Nat.le_of_ble_eq_true rfl) dX10_findEnds_96 ⟨Nat.le_refl 0, Nat.le_refl 0⟩ (fun H locs hP hS => ?_)
              refine lv_aload_n hx hb dX10_findEnds_99 rfl (lv_at hl 1 rfl) ?_
              refine lv_iload_n hx hb dX10_findEnds_100 rfl (lv_at hl 2 rfl) ?_
              refine lv_aload_n hx hb dX10_findEnds_101 rfl (lv_at hl 1 rfl) ?_
              refine gm_10_23 C hin10 hP (List.mem_of_getElem? (i := 2) rfl) dX10_findEnds_102 ?_
              obtain ⟨r105, hc105, hf⟩ := ob hf
              refine tCallVi (As := [.int x1, .int (S.1 9)]) (rest := [.int r96]) (q0 := 0) (ci := 10) C hP hS rfl rfl (c_X10_changesOf l C.2.2.2 hc105) (cwV 2 hts gX10_findEnds_X10_changesOf rfl rfl rfl ⟨rfl, hd_X10_changesOf⟩ ⟨Nat.le_of_ble_eq_true rfl, Nat.le_of_ble_eq_true rfl⟩) rfl hl rfl (Nat.le_of_ble_eq_true rfl) dX10_findEnds_105 ⟨Nat.le_refl 0, Nat.le_refl 0⟩ (fun H locs hP hS => ?_)
              refine lv_icmp_ge (tgt := 115) hx hb dX10_findEnds_108 (by decide) (fun c8 => ?_) (fun c8 => ?_)
              · have hf := if_p hf c8
                exact J115 _ _ _ H locs ls hf hP hS (lv_sub hl [1, 2, 3, 4, 0] rfl)
              · have hf := if_n hf c8
                exact J111 _ _ _ H locs ls hf hP hS (lv_sub hl [1, 2, 3, 4, 0] rfl)
set_option maxHeartbeats 4000000 in
set_option maxRecDepth 100000 in
theorem c_X10_findEnds (l : Launch) {D : va_G} {cI cZ : ClassId} {a : Nat → Nat} (hA : ∀ S : St, va_D (mA a) (wM cI cZ a S)) {x1 : Int32} {S : St} {o : St} (hf : f_X10_findEnds x1 S = some o) : Met l yX10_findEnds wsX10_findEnds rmX10_findEnds (tPc D cI cZ (wM cI cZ a) S ([.ref (a 0), .int x1] : List Value)) (tQv D (wM cI cZ a) (mA a) o) 0 0 (mA a) := by
  refine tEnter (cc := cX10_findEnds) (maxL := 6) (ret := none) (own := RX10) hA rfl (by decide) rfl (Nat.le_of_ble_eq_true rfl) (fun p e s m args below meth c C hr hlk hP hS ls hl => ?_)
  obtain ⟨⟨hx, hb, hml, hown, hts⟩, hK, hN, -⟩ := id C
  have hl : lv_has ls 6 [(0, .ref (a 0)), (1, .int x1)] := hl
  have hin10 := hn_X10_findEnds_10
  have hSS := hS
  rw [f_X10_findEnds] at hf
  revert hP hS
  suffices hsuf : ∀ (H : Heap) (locs : List Loc), va_P D vwCl (wM cI cZ a S) H → va_S (mA a) s.heap H locs → W p l e rmX10_findEnds s m args below meth c H locs 0 0 (MQ below (tQv D (wM cI cZ a) (mA a) o) args s 0 0 (mA a)) (F0 m 0 ls []) from fun hP hS => hsuf s.heap [] hP hS
  intro H locs hP hS
  refine lv_iconst (v := (1 : Int32)) hx hb dX10_findEnds_0 (by decide) ?_
  refine lv_aload_n hx hb dX10_findEnds_1 rfl (lv_at hl 0 rfl) ?_
  refine gm_10_14 C hin10 hP (List.mem_of_getElem? (i := 1) rfl) dX10_findEnds_2 ?_
  refine lv_iconst (v := (0 : Int32)) hx hb dX10_findEnds_5 (by decide) ?_
  refine ldm_7 (j := 0) C hP (by decide) (show ¬ ((0 : Int32) < 0 ∨ 16 ≤ (0 : Int32).toNatClampNeg) by decide) dX10_findEnds_6 ?_
  refine lv_iload_n hx hb dX10_findEnds_7 rfl (lv_at hl 1 rfl) ?_
  refine lv_iadd hx hb dX10_findEnds_8 ?_
  refine lv_ishl hx hb dX10_findEnds_9 ?_
  refine lv_iconst (v := (1 : Int32)) hx hb dX10_findEnds_10 (by decide) ?_
  refine lv_aload_n hx hb dX10_findEnds_11 rfl (lv_at hl 0 rfl) ?_
  refine gm_10_14 C hin10 hP (List.mem_of_getElem? (i := 1) rfl) dX10_findEnds_12 ?_
  refine lv_iconst (v := (0 : Int32)) hx hb dX10_findEnds_15 (by decide) ?_
  refine ldm_7 (j := 0) C hP (by decide) (show ¬ ((0 : Int32) < 0 ∨ 16 ≤ (0 : Int32).toNatClampNeg) by decide) dX10_findEnds_16 ?_
  refine lv_ishl hx hb dX10_findEnds_17 ?_
  refine lv_isub hx hb dX10_findEnds_18 ?_
  refine lv_topi (fun v19 e19 => ?_)
  have hf := nm_i hf e19
  refine lv_istore_n (lv' := [(2, .int v19), (0, .ref (a 0)), (1, .int x1)]) hx hb dX10_findEnds_19 rfl hl (Nat.le_of_ble_eq_true rfl) rfl (fun ls hl => ?_)
  refine lv_aload_n hx hb dX10_findEnds_20 rfl (lv_at hl 1 rfl) ?_
  refine lv_bipush (v := (-9 : Int32)) hx hb dX10_findEnds_21 (by decide) ?_
  refine pm_10_23 C hin10 hP hS (List.mem_of_getElem? (i := 2) rfl) dX10_findEnds_23 (fun H locs hP hS => ?_)
  obtain ⟨S23, eS23⟩ : ∃ z, z = (sI S 9 (-9 : Int32)) := ⟨_, rfl⟩
  rw [← eS23] at hP
  have hf := nm_i hf eS23
  refine lv_aload_n hx hb dX10_findEnds_26 rfl (lv_at hl 1 rfl) ?_
  refine lv_iconst (v := (0 : Int32)) hx hb dX10_findEnds_27 (by decide) ?_
  refine pm_10_24 C hin10 hP hS (List.mem_of_getElem? (i := 3) rfl) dX10_findEnds_28 (fun H locs hP hS => ?_)
  obtain ⟨S28, eS28⟩ : ∃ z, z = (sI S23 10 (0 : Int32)) := ⟨_, rfl⟩
  rw [← eS28] at hP
  have hf := nm_i hf eS28
  refine lv_iconst (v := (0 : Int32)) hx hb dX10_findEnds_31 (by decide) ?_
  refine lv_istore_n (lv' := [(3, .int (0 : Int32)), (2, .int v19), (0, .ref (a 0)), (1, .int x1)]) hx hb dX10_findEnds_32 rfl hl (Nat.le_of_ble_eq_true rfl) rfl (fun ls hl => ?_)
  obtain ⟨o33, hc33, hf⟩ := ob hf
  refine lp_X10_findEnds_33 C (fun H locs ls hP hS hl => ?_) fuel _ _ hc33 H locs ls hP hS (lv_sub hl [2, 3, 1, 0] rfl)
  obtain rfl := Option.some.inj hf
  exact tRet_v C hr hlk hP hS dX10_findEnds_159
def rmX10_ends : Room := { frames := 4, cells := 0, slots := 0, locals := 93 }
theorem hn_X10_ends_10 : ∀ w ∈ wsX100, w ∈ wsX10_ends := fun w h => List.mem_cons_of_mem _ (List.mem_append_right _ h)
theorem hd_X10_ends : yX10_ends.cls ≠ "java/lang/invoke/MethodHandle" ∧ yX10_ends.cls ≠ "java/lang/invoke/VarHandle" ∧ (parseMethodDescriptor yX10_ends.desc).map (fun d => d.parameters.length) = some 2 := by decide +kernel
set_option maxHeartbeats 4000000 in
set_option maxRecDepth 100000 in
theorem c_X10_ends (l : Launch) {D : va_G} {cI cZ : ClassId} {a : Nat → Nat} (hA : ∀ S : St, va_D (mA a) (wM cI cZ a S)) {x1 : Int32} {x2 : Int32} {S : St} {o : Int32 × St} (hf : f_X10_ends x1 x2 S = some o) : Met l yX10_ends wsX10_ends rmX10_ends (tPc D cI cZ (wM cI cZ a) S ([.ref (a 0), .int x1, .int x2] : List Value)) (tQi D (wM cI cZ a) (mA a) o.2 o.1) 0 0 (mA a) := by
  refine tEnter (cc := cX10_ends) (maxL := 3) (ret := (some .int)) (own := RX10) hA rfl (by decide) rfl (Nat.le_of_ble_eq_true rfl) (fun p e s m args below meth c C hr hlk hP hS ls hl => ?_)
  obtain ⟨⟨hx, hb, hml, hown, hts⟩, hK, hN, -⟩ := id C
  have hl : lv_has ls 3 [(0, .ref (a 0)), (1, .int x1), (2, .int x2)] := hl
  have hin10 := hn_X10_ends_10
  have hSS := hS
  rw [f_X10_ends] at hf
  revert hP hS
  suffices hsuf : ∀ (H : Heap) (locs : List Loc), va_P D vwCl (wM cI cZ a S) H → va_S (mA a) s.heap H locs → W p l e rmX10_ends s m args below meth c H locs 0 0 (MQ below (tQi D (wM cI cZ a) (mA a) o.2 o.1) args s 0 0 (mA a)) (F0 m 0 ls []) from fun hP hS => hsuf s.heap [] hP hS
  intro H locs hP hS
  refine lv_aload_n hx hb dX10_ends_0 rfl (lv_at hl 0 rfl) ?_
  refine lv_iconst (v := (0 : Int32)) hx hb dX10_ends_1 (by decide) ?_
  refine pm_10_0 C hin10 hP hS (List.mem_of_getElem? (i := 1) rfl) dX10_ends_2 (fun H locs hP hS => ?_)
  obtain ⟨S2, eS2⟩ : ∃ z, z = (sI S 0 (0 : Int32)) := ⟨_, rfl⟩
  rw [← eS2] at hP
  have hf := nm_i hf eS2
  refine lv_iload_n hx hb dX10_ends_5 rfl (lv_at hl 1 rfl) ?_
  refine lv_i2l hx hb dX10_ends_6 rfl ?_
  refine lv_lconst (v := (0 : Int64)) hx hb dX10_ends_7 (by decide) ?_
  refine lv_aload_n hx hb dX10_ends_8 rfl (lv_at hl 0 rfl) ?_
  obtain ⟨r9, hc9, hf⟩ := ob hf
  refine tCallVi (As := []) (rest := [.long (0 : Int64), .long x1.toInt64]) (q0 := 0) (ci := 10) C hP hS rfl rfl (c_X10_ahead l C.2.2.2 hc9) (cwV 0 hts gX10_ends_X10_ahead rfl rfl rfl ⟨rfl, hd_X10_ahead⟩ ⟨Nat.le_of_ble_eq_true rfl, Nat.le_of_ble_eq_true rfl⟩) rfl hl rfl (Nat.le_of_ble_eq_true rfl) dX10_ends_9 ⟨Nat.le_refl 0, Nat.le_refl 0⟩ (fun H locs hP hS => ?_)
  refine lv_i2l hx hb dX10_ends_12 rfl ?_
  obtain ⟨r13, hc13, hf⟩ := ob hf
  refine tCallSi (As := [.long x1.toInt64, .long (0 : Int64), .long r9.toInt64]) (rest := []) C hP hS (c_X10_in l C.2.2.2 hc13) (va_cwS 3 hts gX10_ends_X10_in rfl rfl rfl hd_X10_in ⟨Nat.le_of_ble_eq_true rfl, Nat.le_of_ble_eq_true rfl⟩) rfl hl rfl (Nat.le_of_ble_eq_true rfl) dX10_ends_13 ⟨Nat.le_refl 0, Nat.le_refl 0⟩ (fun H locs hP hS => ?_)
  refine lv_if_eq (tgt := 29) hx hb dX10_ends_16 (by decide) (fun c1 => ?_) (fun c1 => ?_)
  · have hf := if_p hf c1
    refine lv_bipush (v := (-2 : Int32)) hx hb dX10_ends_29 (by decide) ?_
    obtain rfl := Option.some.inj hf
    exact tRet_i C hr hlk hP hS dX10_ends_31
  · have hf := if_n hf c1
    refine lv_iload_n hx hb dX10_ends_19 rfl (lv_at hl 2 rfl) ?_
    refine lv_i2l hx hb dX10_ends_20 rfl ?_
    refine lv_lconst (v := (0 : Int64)) hx hb dX10_ends_21 (by decide) ?_
    refine lv_lconst (v := (1 : Int64)) hx hb dX10_ends_22 (by decide) ?_
    obtain ⟨r23, hc23, hf⟩ := ob hf
    refine tCallSi (As := [.long x2.toInt64, .long (0 : Int64), .long (1 : Int64)]) (rest := []) C hP hS (c_X10_in l C.2.2.2 hc23) (va_cwS 3 hts gX10_ends_X10_in rfl rfl rfl hd_X10_in ⟨Nat.le_of_ble_eq_true rfl, Nat.le_of_ble_eq_true rfl⟩) rfl hl rfl (Nat.le_of_ble_eq_true rfl) dX10_ends_23 ⟨Nat.le_refl 0, Nat.le_refl 0⟩ (fun H locs hP hS => ?_)
    refine lv_if_ne (tgt := 32) hx hb dX10_ends_26 (by decide) (fun c2 => ?_) (fun c2 => ?_)
    · have hf := if_n hf c2
      refine lv_aload_n hx hb dX10_ends_32 rfl (lv_at hl 0 rfl) ?_
      refine lv_iload_n hx hb dX10_ends_33 rfl (lv_at hl 1 rfl) ?_
      obtain ⟨r34, hc34, hf⟩ := ob hf
      refine tCallVv (As := [.int x1]) (rest := []) (q0 := 0) (ci := 10) C hP hS rfl rfl (c_X10_findEnds l C.2.2.2 hc34) (cwV 1 hts gX10_ends_X10_findEnds rfl rfl rfl ⟨rfl, hd_X10_findEnds⟩ ⟨Nat.le_of_ble_eq_true rfl, Nat.le_of_ble_eq_true rfl⟩) rfl hl rfl (Nat.le_of_ble_eq_true rfl) dX10_ends_34 ⟨Nat.le_refl 0, Nat.le_refl 0⟩ (fun H locs hP hS => ?_)
      refine lv_iload_n hx hb dX10_ends_37 rfl (lv_at hl 2 rfl) ?_
      refine lv_if_ne (tgt := 48) hx hb dX10_ends_38 (by decide) (fun c3 => ?_) (fun c3 => ?_)
      · have hf := if_n hf c3
        refine lv_aload_n hx hb dX10_ends_48 rfl (lv_at hl 0 rfl) ?_
        refine gm_10_24 C hin10 hP (List.mem_of_getElem? (i := 3) rfl) dX10_ends_49 ?_
        refine lv_sipush (v := (20000 : Int32)) hx hb dX10_ends_52 (by decide) ?_
        refine lv_iadd hx hb dX10_ends_55 ?_
        obtain rfl := Option.some.inj hf
        exact tRet_i C hr hlk hP hS dX10_ends_56
      · have hf := if_p hf c3
        refine lv_aload_n hx hb dX10_ends_41 rfl (lv_at hl 0 rfl) ?_
        refine gm_10_23 C hin10 hP (List.mem_of_getElem? (i := 2) rfl) dX10_ends_42 ?_
        refine lv_goto (tgt := 56) hx hb dX10_ends_45 (by decide) ?_
        obtain rfl := Option.some.inj hf
        exact tRet_i C hr hlk hP hS dX10_ends_56
    · have hf := if_p hf c2
      refine lv_bipush (v := (-2 : Int32)) hx hb dX10_ends_29 (by decide) ?_
      obtain rfl := Option.some.inj hf
      exact tRet_i C hr hlk hP hS dX10_ends_31
def rmX10_many : Room := { frames := 0, cells := 0, slots := 0, locals := 0 }
theorem hd_X10_many : yX10_many.cls ≠ "java/lang/invoke/MethodHandle" ∧ yX10_many.cls ≠ "java/lang/invoke/VarHandle" ∧ (parseMethodDescriptor yX10_many.desc).map (fun d => d.parameters.length) = some 1 := by decide +kernel
set_option maxHeartbeats 4000000 in
set_option maxRecDepth 100000 in
theorem lp_X10_many_4 {p : Program} {l : Launch} {e : Env} {s : State} {m : MethodId} {args : Array Value} {below : List Frame} {meth : Method} {c : Code} {D : va_G} {cI cZ : ClassId} {a : Nat → Nat} {Q : State → Prop} {H0 : Heap} {x0 : Int32} {S : St} {o : Int32}
    (C : tC p c s m args cX10_many 3 RX10 wsX10_many D cI cZ (wM cI cZ a) (mA a))
    (K0 : ∀ (H : Heap) (locs : List Loc) (ls : Array Slot), va_P D vwCl (wM cI cZ a S) H → va_S (mA a) H0 H locs → lv_has ls 3 [(1, .int o)] → W p l e rmX10_many s m args below meth c H locs 0 0 Q (F0 m 24 ls [])) :
    ∀ (n : Nat) (x1 : Int32) (x2 : Int32), l_X10_many_4 x0 n x1 x2 = some o → ∀ (H : Heap) (locs : List Loc) (ls : Array Slot), va_P D vwCl (wM cI cZ a S) H → va_S (mA a) H0 H locs → lv_has ls 3 [(0, .int x0), (1, .int x1), (2, .int x2)] → W p l e rmX10_many s m args below meth c H locs 0 0 Q (F0 m 4 ls []) := by
  obtain ⟨⟨hx, hb, hml, hown, hts⟩, hK, hN, hA⟩ := id C
  intro n
  induction n with
  | zero =>
    intro x1 x2 hf
    rw [l_X10_many_4] at hf
    cases hf
  | succ n ih =>
    intro x1 x2 hf H locs ls hP hS hl
    rw [l_X10_many_4] at hf
    refine lv_iload_n hx hb dX10_many_4 rfl (lv_at hl 2 rfl) ?_
    refine lv_bipush (v := (8 : Int32)) hx hb dX10_many_5 (by decide) ?_
    refine lv_icmp_ge (tgt := 24) hx hb dX10_many_7 (by decide) (fun c1 => ?_) (fun c1 => ?_)
    · have hf := if_p hf c1
      obtain rfl := Option.some.inj hf
      exact K0 H locs ls hP hS (lv_sub hl [1] rfl)
    · have hf := if_n hf c1
      refine lv_iload_n hx hb dX10_many_10 rfl (lv_at hl 1 rfl) ?_
      refine lv_iload_n hx hb dX10_many_11 rfl (lv_at hl 0 rfl) ?_
      refine lv_iload_n hx hb dX10_many_12 rfl (lv_at hl 2 rfl) ?_
      refine lv_ishr hx hb dX10_many_13 ?_
      refine lv_iconst (v := (1 : Int32)) hx hb dX10_many_14 (by decide) ?_
      refine lv_iand hx hb dX10_many_15 ?_
      refine lv_iadd hx hb dX10_many_16 ?_
      refine lv_topi (fun v17 e17 => ?_)
      have hf := nm_i hf e17
      refine lv_istore_n (lv' := [(1, .int v17), (0, .int x0), (2, .int x2)]) hx hb dX10_many_17 rfl hl (Nat.le_of_ble_eq_true rfl) rfl (fun ls hl => ?_)
      refine lv_iinc (v := (x2 + 1)) (lv' := [(2, .int (x2 + 1)), (1, .int v17), (0, .int x0)]) hx hb dX10_many_18 hl (k := 2) rfl rfl (Nat.le_of_ble_eq_true rfl) rfl (fun ls hl => ?_)
      refine lv_goto (tgt := 4) hx hb dX10_many_21 (by decide) ?_
      exact ih _ _ hf H locs ls hP hS (lv_sub hl [2, 1, 0] rfl)
set_option maxHeartbeats 4000000 in
set_option maxRecDepth 100000 in
theorem c_X10_many (l : Launch) {D : va_G} {cI cZ : ClassId} {a : Nat → Nat} (hA : ∀ S : St, va_D (mA a) (wM cI cZ a S)) {x0 : Int32} {S : St} {o : Int32} (hf : f_X10_many x0 = some o) : Met l yX10_many wsX10_many rmX10_many (tPc D cI cZ (wM cI cZ a) S ([.int x0] : List Value)) (tQi D (wM cI cZ a) (mA a) S o) 0 0 (mA a) := by
  refine tEnter (cc := cX10_many) (maxL := 3) (ret := (some .int)) (own := RX10) hA rfl (by decide) rfl (Nat.le_of_ble_eq_true rfl) (fun p e s m args below meth c C hr hlk hP hS ls hl => ?_)
  obtain ⟨⟨hx, hb, hml, hown, hts⟩, hK, hN, -⟩ := id C
  have hl : lv_has ls 3 [(0, .int x0)] := hl
  have hSS := hS
  rw [f_X10_many] at hf
  revert hP hS
  suffices hsuf : ∀ (H : Heap) (locs : List Loc), va_P D vwCl (wM cI cZ a S) H → va_S (mA a) s.heap H locs → W p l e rmX10_many s m args below meth c H locs 0 0 (MQ below (tQi D (wM cI cZ a) (mA a) S o) args s 0 0 (mA a)) (F0 m 0 ls []) from fun hP hS => hsuf s.heap [] hP hS
  intro H locs hP hS
  refine lv_iconst (v := (0 : Int32)) hx hb dX10_many_0 (by decide) ?_
  refine lv_istore_n (lv' := [(1, .int (0 : Int32)), (0, .int x0)]) hx hb dX10_many_1 rfl hl (Nat.le_of_ble_eq_true rfl) rfl (fun ls hl => ?_)
  refine lv_iconst (v := (0 : Int32)) hx hb dX10_many_2 (by decide) ?_
  refine lv_istore_n (lv' := [(2, .int (0 : Int32)), (1, .int (0 : Int32)), (0, .int x0)]) hx hb dX10_many_3 rfl hl (Nat.le_of_ble_eq_true rfl) rfl (fun ls hl => ?_)
  obtain ⟨o4, hc4, hf⟩ := ob hf
  refine lp_X10_many_4 C (fun H locs ls hP hS hl => ?_) fuel _ _ hc4 H locs ls hP hS (lv_sub hl [2, 1, 0] rfl)
  refine lv_iload_n hx hb dX10_many_24 rfl (lv_at hl 0 rfl) ?_
  obtain rfl := Option.some.inj hf
  exact tRet_i C hr hlk hP hS dX10_many_25
def rmX10_step : Room := { frames := 2, cells := 0, slots := 0, locals := 44 }
theorem hn_X10_step_10 : ∀ w ∈ wsX100, w ∈ wsX10_step := fun w h => List.mem_cons_of_mem _ (List.mem_append_right _ h)
theorem hd_X10_step : yX10_step.cls ≠ "java/lang/invoke/MethodHandle" ∧ yX10_step.cls ≠ "java/lang/invoke/VarHandle" ∧ (parseMethodDescriptor yX10_step.desc).map (fun d => d.parameters.length) = some 1 := by decide +kernel
set_option maxHeartbeats 4000000 in
set_option maxRecDepth 100000 in
theorem lp_X10_step_32 {p : Program} {l : Launch} {e : Env} {s : State} {m : MethodId} {args : Array Value} {below : List Frame} {meth : Method} {c : Code} {D : va_G} {cI cZ : ClassId} {a : Nat → Nat} {Q : State → Prop} {H0 : Heap} {x1 : Int32} {S : St} {o : Int32 × Int32}
    (C : tC p c s m args cX10_step 8 RX10 wsX10_step D cI cZ (wM cI cZ a) (mA a))
    (K0 : ∀ (H : Heap) (locs : List Loc) (ls : Array Slot), va_P D vwCl (wM cI cZ a S) H → va_S (mA a) H0 H locs → lv_has ls 8 [(0, .ref (a 0)), (1, .int x1), (2, .int o.1), (3, .int o.2)] → W p l e rmX10_step s m args below meth c H locs 0 0 Q (F0 m 84 ls [])) :
    ∀ (n : Nat) (x2 : Int32) (x3 : Int32) (x4 : Int32), l_X10_step_32 x1 S n x2 x3 x4 = some o → ∀ (H : Heap) (locs : List Loc) (ls : Array Slot), va_P D vwCl (wM cI cZ a S) H → va_S (mA a) H0 H locs → lv_has ls 8 [(0, .ref (a 0)), (1, .int x1), (2, .int x2), (3, .int x3), (4, .int x4)] → W p l e rmX10_step s m args below meth c H locs 0 0 Q (F0 m 32 ls []) := by
  obtain ⟨⟨hx, hb, hml, hown, hts⟩, hK, hN, hA⟩ := id C
  have hin10 := hn_X10_step_10
  intro n
  induction n with
  | zero =>
    intro x2 x3 x4 hf
    rw [l_X10_step_32] at hf
    cases hf
  | succ n ih =>
    have J61 : ∀ (x3 : Int32) (x4 : Int32) (t0 : Int32) (t1 : Int32) (H : Heap) (locs : List Loc) (ls : Array Slot), j_X10_step_61 (l_X10_step_32 x1 S n) x1 x3 x4 t0 t1 S = some o → va_P D vwCl (wM cI cZ a S) H → va_S (mA a) H0 H locs → lv_has ls 8 [(0, .ref (a 0)), (1, .int x1), (3, .int x3), (4, .int x4)] → W p l e rmX10_step s m args below meth c H locs 0 0 Q (F0 m 61 ls [.int t0, .int t1]) := by
      intro x3 x4 t0 t1 H locs ls hf hP hS hl
      rw [j_X10_step_61] at hf
      refine lv_ior hx hb dX10_step_61 ?_
      refine lv_istore_n (lv' := [(2, .int (t1 ||| t0)), (0, .ref (a 0)), (1, .int x1), (3, .int x3), (4, .int x4)]) hx hb dX10_step_62 rfl hl (Nat.le_of_ble_eq_true rfl) rfl (fun ls hl => ?_)
      refine lv_iload_n hx hb dX10_step_63 rfl (lv_at hl 3 rfl) ?_
      refine lv_aload_n hx hb dX10_step_64 rfl (lv_at hl 1 rfl) ?_
      refine lv_iload hx hb dX10_step_65 (lv_at hl 4 rfl) ?_
      refine lv_aload_n hx hb dX10_step_67 rfl (lv_at hl 1 rfl) ?_
      refine gm_10_14 C hin10 hP (List.mem_of_getElem? (i := 3) rfl) dX10_step_68 ?_
      refine lv_iconst (v := (5 : Int32)) hx hb dX10_step_71 (by decide) ?_
      refine ldm_7 (j := 5) C hP (by decide) (show ¬ ((5 : Int32) < 0 ∨ 16 ≤ (5 : Int32).toNatClampNeg) by decide) dX10_step_72 ?_
      obtain ⟨r73, hc73, hf⟩ := ob hf
      refine tCallVi (As := [.int x4, .int (S.2.1 7 5)]) (rest := [.int x3]) (q0 := 0) (ci := 10) C hP hS rfl rfl (c_X10_errorOf l C.2.2.2 hc73) (cwV 2 hts gX10_step_X10_errorOf rfl rfl rfl ⟨rfl, hd_X10_errorOf⟩ ⟨Nat.le_of_ble_eq_true rfl, Nat.le_of_ble_eq_true rfl⟩) rfl hl rfl (Nat.le_of_ble_eq_true rfl) dX10_step_73 ⟨Nat.le_refl 0, Nat.le_refl 0⟩ (fun H locs hP hS => ?_)
      refine lv_iadd hx hb dX10_step_76 ?_
      refine lv_istore_n (lv' := [(3, .int (x3 + r73)), (2, .int (t1 ||| t0)), (0, .ref (a 0)), (1, .int x1), (4, .int x4)]) hx hb dX10_step_77 rfl hl (Nat.le_of_ble_eq_true rfl) rfl (fun ls hl => ?_)
      refine lv_iinc (v := (x4 + 1)) (lv' := [(4, .int (x4 + 1)), (3, .int (x3 + r73)), (2, .int (t1 ||| t0)), (0, .ref (a 0)), (1, .int x1)]) hx hb dX10_step_78 hl (k := 4) rfl rfl (Nat.le_of_ble_eq_true rfl) rfl (fun ls hl => ?_)
      refine lv_goto (tgt := 32) hx hb dX10_step_81 (by decide) ?_
      exact ih _ _ _ hf H locs ls hP hS (lv_sub hl [3, 4, 2, 1, 0] rfl)
    intro x2 x3 x4 hf H locs ls hP hS hl
    rw [l_X10_step_32] at hf
    refine lv_iload hx hb dX10_step_32 (lv_at hl 4 rfl) ?_
    refine lv_aload_n hx hb dX10_step_34 rfl (lv_at hl 0 rfl) ?_
    refine gm_10_6 C hin10 hP (List.mem_of_getElem? (i := 4) rfl) dX10_step_35 ?_
    refine lv_icmp_ge (tgt := 84) hx hb dX10_step_38 (by decide) (fun c3 => ?_) (fun c3 => ?_)
    · have hf := if_p hf c3
      obtain rfl := Option.some.inj hf
      exact K0 H locs ls hP hS (lv_sub hl [0, 1, 2, 3] rfl)
    · have hf := if_n hf c3
      refine lv_iload_n hx hb dX10_step_41 rfl (lv_at hl 2 rfl) ?_
      refine lv_aload_n hx hb dX10_step_42 rfl (lv_at hl 0 rfl) ?_
      refine gm_10_8 C hin10 hP (List.mem_of_getElem? (i := 5) rfl) dX10_step_43 ?_
      refine lv_iload hx hb dX10_step_46 (lv_at hl 4 rfl) ?_
      obtain ⟨hi4, hf⟩ := ob_in hf
      refine ldm_2 C hP rfl hi4 dX10_step_48 ?_
      refine lv_iconst (v := (1 : Int32)) hx hb dX10_step_49 (by decide) ?_
      refine lv_icmp_ne (tgt := 60) hx hb dX10_step_50 (by decide) (fun c5 => ?_) (fun c5 => ?_)
      · have hf := if_n hf c5
        refine lv_iconst (v := (0 : Int32)) hx hb dX10_step_60 (by decide) ?_
        exact J61 _ _ _ _ H locs ls hf hP hS (lv_sub hl [0, 1, 3, 4] rfl)
      · have hf := if_p hf c5
        refine lv_iconst (v := (1 : Int32)) hx hb dX10_step_53 (by decide) ?_
        refine lv_iload hx hb dX10_step_54 (lv_at hl 4 rfl) ?_
        refine lv_ishl hx hb dX10_step_56 ?_
        refine lv_goto (tgt := 61) hx hb dX10_step_57 (by decide) ?_
        exact J61 _ _ _ _ H locs ls hf hP hS (lv_sub hl [0, 1, 3, 4] rfl)
set_option maxHeartbeats 4000000 in
set_option maxRecDepth 100000 in
theorem lp_X10_step_132 {p : Program} {l : Launch} {e : Env} {s : State} {m : MethodId} {args : Array Value} {below : List Frame} {meth : Method} {c : Code} {D : va_G} {cI cZ : ClassId} {a : Nat → Nat} {Q : State → Prop} {H0 : Heap} {x1 : Int32} {x2 : Int32} {x3 : Int32} {x4 : Int32} {x5 : Int32} {S : St} {o : Int32}
    (C : tC p c s m args cX10_step 8 RX10 wsX10_step D cI cZ (wM cI cZ a) (mA a))
    (K0 : ∀ (H : Heap) (locs : List Loc) (ls : Array Slot), va_P D vwCl (wM cI cZ a S) H → va_S (mA a) H0 H locs → lv_has ls 8 [(0, .ref (a 0)), (1, .int x1), (2, .int x2), (3, .int x3), (4, .int x4), (5, .int x5), (6, .int o)] → W p l e rmX10_step s m args below meth c H locs 0 0 Q (F0 m 181 ls [])) :
    ∀ (n : Nat) (x6 : Int32) (x7 : Int32), l_X10_step_132 x1 x2 x3 x4 x5 S n x6 x7 = some o → ∀ (H : Heap) (locs : List Loc) (ls : Array Slot), va_P D vwCl (wM cI cZ a S) H → va_S (mA a) H0 H locs → lv_has ls 8 [(0, .ref (a 0)), (1, .int x1), (2, .int x2), (3, .int x3), (4, .int x4), (5, .int x5), (6, .int x6), (7, .int x7)] → W p l e rmX10_step s m args below meth c H locs 0 0 Q (F0 m 132 ls []) := by
  obtain ⟨⟨hx, hb, hml, hown, hts⟩, hK, hN, hA⟩ := id C
  have hin10 := hn_X10_step_10
  intro n
  induction n with
  | zero =>
    intro x6 x7 hf
    rw [l_X10_step_132] at hf
    cases hf
  | succ n ih =>
    intro x6 x7 hf H locs ls hP hS hl
    rw [l_X10_step_132] at hf
    refine lv_iload hx hb dX10_step_132 (lv_at hl 7 rfl) ?_
    refine lv_aload_n hx hb dX10_step_134 rfl (lv_at hl 0 rfl) ?_
    refine gm_10_6 C hin10 hP (List.mem_of_getElem? (i := 4) rfl) dX10_step_135 ?_
    refine lv_icmp_ge (tgt := 181) hx hb dX10_step_138 (by decide) (fun c11 => ?_) (fun c11 => ?_)
    · have hf := if_p hf c11
      obtain rfl := Option.some.inj hf
      exact K0 H locs ls hP hS (lv_sub hl [0, 1, 2, 3, 4, 5, 6] rfl)
    · have hf := if_n hf c11
      refine lv_iload hx hb dX10_step_141 (lv_at hl 6 rfl) ?_
      refine lv_iload hx hb dX10_step_143 (lv_at hl 5 rfl) ?_
      refine lv_iload hx hb dX10_step_145 (lv_at hl 7 rfl) ?_
      obtain ⟨r147, hc147, hf⟩ := ob hf
      refine tCallSi (As := [.int x5, .int x7]) (rest := [.int x6]) C hP hS (c_X10_has l C.2.2.2 hc147) (va_cwS 2 hts gX10_step_X10_has rfl rfl rfl hd_X10_has ⟨Nat.le_of_ble_eq_true rfl, Nat.le_of_ble_eq_true rfl⟩) rfl hl rfl (Nat.le_of_ble_eq_true rfl) dX10_step_147 ⟨Nat.le_refl 0, Nat.le_refl 0⟩ (fun H locs hP hS => ?_)
      refine lv_if_eq (tgt := 171) hx hb dX10_step_150 (by decide) (fun c12 => ?_) (fun c12 => ?_)
      · have hf := if_p hf c12
        refine lv_iconst (v := (0 : Int32)) hx hb dX10_step_171 (by decide) ?_
        refine lv_iadd hx hb dX10_step_172 ?_
        refine lv_istore (lv' := [(6, .int (x6 + (0 : Int32))), (0, .ref (a 0)), (1, .int x1), (2, .int x2), (3, .int x3), (4, .int x4), (5, .int x5), (7, .int x7)]) hx hb dX10_step_173 hl (Nat.le_of_ble_eq_true rfl) rfl (fun ls hl => ?_)
        refine lv_iinc (v := (x7 + 1)) (lv' := [(7, .int (x7 + 1)), (6, .int (x6 + (0 : Int32))), (0, .ref (a 0)), (1, .int x1), (2, .int x2), (3, .int x3), (4, .int x4), (5, .int x5)]) hx hb dX10_step_175 hl (k := 7) rfl rfl (Nat.le_of_ble_eq_true rfl) rfl (fun ls hl => ?_)
        refine lv_goto (tgt := 132) hx hb dX10_step_178 (by decide) ?_
        exact ih _ _ hf H locs ls hP hS (lv_sub hl [2, 3, 4, 5, 6, 7, 1, 0] rfl)
      · have hf := if_n hf c12
        refine lv_aload_n hx hb dX10_step_153 rfl (lv_at hl 0 rfl) ?_
        refine lv_iload hx hb dX10_step_154 (lv_at hl 7 rfl) ?_
        refine lv_iconst (v := (2 : Int32)) hx hb dX10_step_156 (by decide) ?_
        obtain ⟨r157, hc157, hf⟩ := ob hf
        refine tCallVi (As := [.int x7, .int (2 : Int32)]) (rest := [.int x6]) (q0 := 0) (ci := 10) C hP hS rfl rfl (c_X10_ground l C.2.2.2 hc157) (cwV 2 hts gX10_step_X10_ground rfl rfl rfl ⟨rfl, hd_X10_ground⟩ ⟨Nat.le_of_ble_eq_true rfl, Nat.le_of_ble_eq_true rfl⟩) rfl hl rfl (Nat.le_of_ble_eq_true rfl) dX10_step_157 ⟨Nat.le_refl 0, Nat.le_refl 0⟩ (fun H locs hP hS => ?_)
        refine lv_aload_n hx hb dX10_step_160 rfl (lv_at hl 0 rfl) ?_
        refine lv_iload hx hb dX10_step_161 (lv_at hl 7 rfl) ?_
        refine lv_iconst (v := (1 : Int32)) hx hb dX10_step_163 (by decide) ?_
        obtain ⟨r164, hc164, hf⟩ := ob hf
        refine tCallVi (As := [.int x7, .int (1 : Int32)]) (rest := [.int r157, .int x6]) (q0 := 0) (ci := 10) C hP hS rfl rfl (c_X10_ground l C.2.2.2 hc164) (cwV 2 hts gX10_step_X10_ground rfl rfl rfl ⟨rfl, hd_X10_ground⟩ ⟨Nat.le_of_ble_eq_true rfl, Nat.le_of_ble_eq_true rfl⟩) rfl hl rfl (Nat.le_of_ble_eq_true rfl) dX10_step_164 ⟨Nat.le_refl 0, Nat.le_refl 0⟩ (fun H locs hP hS => ?_)
        refine lv_isub hx hb dX10_step_167 ?_
        refine lv_goto (tgt := 172) hx hb dX10_step_168 (by decide) ?_
        refine lv_iadd hx hb dX10_step_172 ?_
        refine lv_istore (lv' := [(6, .int (x6 + (r157 - r164))), (0, .ref (a 0)), (1, .int x1), (2, .int x2), (3, .int x3), (4, .int x4), (5, .int x5), (7, .int x7)]) hx hb dX10_step_173 hl (Nat.le_of_ble_eq_true rfl) rfl (fun ls hl => ?_)
        refine lv_iinc (v := (x7 + 1)) (lv' := [(7, .int (x7 + 1)), (6, .int (x6 + (r157 - r164))), (0, .ref (a 0)), (1, .int x1), (2, .int x2), (3, .int x3), (4, .int x4), (5, .int x5)]) hx hb dX10_step_175 hl (k := 7) rfl rfl (Nat.le_of_ble_eq_true rfl) rfl (fun ls hl => ?_)
        refine lv_goto (tgt := 132) hx hb dX10_step_178 (by decide) ?_
        exact ih _ _ hf H locs ls hP hS (lv_sub hl [2, 3, 4, 5, 6, 7, 1, 0] rfl)
set_option maxHeartbeats 4000000 in
set_option maxRecDepth 100000 in
theorem lp_X10_step_91 {p : Program} {l : Launch} {e : Env} {s : State} {m : MethodId} {args : Array Value} {below : List Frame} {meth : Method} {c : Code} {D : va_G} {cI cZ : ClassId} {a : Nat → Nat} {Q : State → Prop} {H0 : Heap} {x1 : Int32} {x2 : Int32} {x3 : Int32} {S : St} {o : Int32}
    (C : tC p c s m args cX10_step 8 RX10 wsX10_step D cI cZ (wM cI cZ a) (mA a))
    (K0 : ∀ (H : Heap) (locs : List Loc) (ls : Array Slot), va_P D vwCl (wM cI cZ a S) H → va_S (mA a) H0 H locs → lv_has ls 8 [(4, .int o)] → W p l e rmX10_step s m args below meth c H locs 0 0 Q (F0 m 205 ls [])) :
    ∀ (n : Nat) (x4 : Int32) (x5 : Int32), l_X10_step_91 x1 x2 x3 S n x4 x5 = some o → ∀ (H : Heap) (locs : List Loc) (ls : Array Slot), va_P D vwCl (wM cI cZ a S) H → va_S (mA a) H0 H locs → lv_has ls 8 [(0, .ref (a 0)), (1, .int x1), (2, .int x2), (3, .int x3), (4, .int x4), (5, .int x5)] → W p l e rmX10_step s m args below meth c H locs 0 0 Q (F0 m 91 ls []) := by
  obtain ⟨⟨hx, hb, hml, hown, hts⟩, hK, hN, hA⟩ := id C
  have hin10 := hn_X10_step_10
  intro n
  induction n with
  | zero =>
    intro x4 x5 hf
    rw [l_X10_step_91] at hf
    cases hf
  | succ n ih =>
    have J126 : ∀ (x4 : Int32) (x5 : Int32) (H : Heap) (locs : List Loc) (ls : Array Slot), j_X10_step_126 (l_X10_step_91 x1 x2 x3 S n) x1 x2 x3 x4 x5 S = some o → va_P D vwCl (wM cI cZ a S) H → va_S (mA a) H0 H locs → lv_has ls 8 [(0, .ref (a 0)), (1, .int x1), (2, .int x2), (3, .int x3), (4, .int x4), (5, .int x5)] → W p l e rmX10_step s m args below meth c H locs 0 0 Q (F0 m 126 ls []) := by
      intro x4 x5 H locs ls hf hP hS hl
      rw [j_X10_step_126] at hf
      refine lv_iload_n hx hb dX10_step_126 rfl (lv_at hl 3 rfl) ?_
      refine lv_istore (lv' := [(6, .int x3), (0, .ref (a 0)), (1, .int x1), (2, .int x2), (3, .int x3), (4, .int x4), (5, .int x5)]) hx hb dX10_step_127 hl (Nat.le_of_ble_eq_true rfl) rfl (fun ls hl => ?_)
      refine lv_iconst (v := (0 : Int32)) hx hb dX10_step_129 (by decide) ?_
      refine lv_istore (lv' := [(7, .int (0 : Int32)), (6, .int x3), (0, .ref (a 0)), (1, .int x1), (2, .int x2), (3, .int x3), (4, .int x4), (5, .int x5)]) hx hb dX10_step_130 hl (Nat.le_of_ble_eq_true rfl) rfl (fun ls hl => ?_)
      obtain ⟨o132, hc132, hf⟩ := ob hf
      refine lp_X10_step_132 C (fun H locs ls hP hS hl => ?_) fuel _ _ hc132 H locs ls hP hS (lv_sub hl [2, 3, 4, 5, 6, 7, 1, 0] rfl)
      refine lv_iload hx hb dX10_step_181 (lv_at hl 6 rfl) ?_
      obtain ⟨r183, hc183, hf⟩ := ob hf
      refine tCallSi (As := [.int o132]) (rest := []) C hP hS (c_X10_size l C.2.2.2 hc183) (va_cwS 1 hts gX10_step_X10_size rfl rfl rfl hd_X10_size ⟨Nat.le_of_ble_eq_true rfl, Nat.le_of_ble_eq_true rfl⟩) rfl hl rfl (Nat.le_of_ble_eq_true rfl) dX10_step_183 ⟨Nat.le_refl 0, Nat.le_refl 0⟩ (fun H locs hP hS => ?_)
      refine lv_iload_n hx hb dX10_step_186 rfl (lv_at hl 1 rfl) ?_
      refine lv_icmp_gt (tgt := 195) hx hb dX10_step_187 (by decide) (fun c13 => ?_) (fun c13 => ?_)
      · have hf := if_p hf c13
        refine lv_iload hx hb dX10_step_195 (lv_at hl 4 rfl) ?_
        refine lv_istore (lv' := [(4, .int x4), (0, .ref (a 0)), (1, .int x1), (2, .int x2), (3, .int x3), (5, .int x5), (6, .int o132)]) hx hb dX10_step_197 hl (Nat.le_of_ble_eq_true rfl) rfl (fun ls hl => ?_)
        refine lv_iinc (v := (x5 + 1)) (lv' := [(5, .int (x5 + 1)), (4, .int x4), (0, .ref (a 0)), (1, .int x1), (2, .int x2), (3, .int x3), (6, .int o132)]) hx hb dX10_step_199 hl (k := 5) rfl rfl (Nat.le_of_ble_eq_true rfl) rfl (fun ls hl => ?_)
        refine lv_goto (tgt := 91) hx hb dX10_step_202 (by decide) ?_
        exact ih _ _ hf H locs ls hP hS (lv_sub hl [2, 3, 4, 5, 1, 0] rfl)
      · have hf := if_n hf c13
        refine lv_iload hx hb dX10_step_190 (lv_at hl 5 rfl) ?_
        refine lv_goto (tgt := 197) hx hb dX10_step_192 (by decide) ?_
        refine lv_istore (lv' := [(4, .int x5), (0, .ref (a 0)), (1, .int x1), (2, .int x2), (3, .int x3), (5, .int x5), (6, .int o132)]) hx hb dX10_step_197 hl (Nat.le_of_ble_eq_true rfl) rfl (fun ls hl => ?_)
        refine lv_iinc (v := (x5 + 1)) (lv' := [(5, .int (x5 + 1)), (4, .int x5), (0, .ref (a 0)), (1, .int x1), (2, .int x2), (3, .int x3), (6, .int o132)]) hx hb dX10_step_199 hl (k := 5) rfl rfl (Nat.le_of_ble_eq_true rfl) rfl (fun ls hl => ?_)
        refine lv_goto (tgt := 91) hx hb dX10_step_202 (by decide) ?_
        exact ih _ _ hf H locs ls hP hS (lv_sub hl [2, 3, 4, 5, 1, 0] rfl)
    intro x4 x5 hf H locs ls hP hS hl
    rw [l_X10_step_91] at hf
    refine lv_iload hx hb dX10_step_91 (lv_at hl 5 rfl) ?_
    refine lv_iload_n hx hb dX10_step_93 rfl (lv_at hl 2 rfl) ?_
    refine lv_icmp_gt (tgt := 205) hx hb dX10_step_94 (by decide) (fun c7 => ?_) (fun c7 => ?_)
    · have hf := if_p hf c7
      obtain rfl := Option.some.inj hf
      exact K0 H locs ls hP hS (lv_sub hl [4] rfl)
    · have hf := if_n hf c7
      refine lv_iload hx hb dX10_step_97 (lv_at hl 5 rfl) ?_
      refine lv_iload_n hx hb dX10_step_99 rfl (lv_at hl 2 rfl) ?_
      refine lv_iconst (v := (-1 : Int32)) hx hb dX10_step_100 (by decide) ?_
      refine lv_ixor hx hb dX10_step_101 ?_
      refine lv_iand hx hb dX10_step_102 ?_
      refine lv_if_ne (tgt := 199) hx hb dX10_step_103 (by decide) (fun c8 => ?_) (fun c8 => ?_)
      · have hf := if_n hf c8
        refine lv_iinc (v := (x5 + 1)) (lv' := [(5, .int (x5 + 1)), (0, .ref (a 0)), (1, .int x1), (2, .int x2), (3, .int x3), (4, .int x4)]) hx hb dX10_step_199 hl (k := 5) rfl rfl (Nat.le_of_ble_eq_true rfl) rfl (fun ls hl => ?_)
        refine lv_goto (tgt := 91) hx hb dX10_step_202 (by decide) ?_
        exact ih _ _ hf H locs ls hP hS (lv_sub hl [1, 2, 3, 4, 5, 0] rfl)
      · have hf := if_p hf c8
        refine lv_iload hx hb dX10_step_106 (lv_at hl 4 rfl) ?_
        refine lv_bipush (v := (-9 : Int32)) hx hb dX10_step_108 (by decide) ?_
        refine lv_icmp_eq (tgt := 126) hx hb dX10_step_110 (by decide) (fun c9 => ?_) (fun c9 => ?_)
        · have hf := if_p hf c9
          exact J126 _ _ H locs ls hf hP hS (lv_sub hl [0, 1, 2, 3, 4, 5] rfl)
        · have hf := if_n hf c9
          refine lv_iload hx hb dX10_step_113 (lv_at hl 5 rfl) ?_
          obtain ⟨r115, hc115, hf⟩ := ob hf
          refine tCallSi (As := [.int x5]) (rest := []) C hP hS (c_X10_many l C.2.2.2 hc115) (va_cwS 1 hts gX10_step_X10_many rfl rfl rfl hd_X10_many ⟨Nat.le_of_ble_eq_true rfl, Nat.le_of_ble_eq_true rfl⟩) rfl hl rfl (Nat.le_of_ble_eq_true rfl) dX10_step_115 ⟨Nat.le_refl 0, Nat.le_refl 0⟩ (fun H locs hP hS => ?_)
          refine lv_iload hx hb dX10_step_118 (lv_at hl 4 rfl) ?_
          obtain ⟨r120, hc120, hf⟩ := ob hf
          refine tCallSi (As := [.int x4]) (rest := [.int r115]) C hP hS (c_X10_many l C.2.2.2 hc120) (va_cwS 1 hts gX10_step_X10_many rfl rfl rfl hd_X10_many ⟨Nat.le_of_ble_eq_true rfl, Nat.le_of_ble_eq_true rfl⟩) rfl hl rfl (Nat.le_of_ble_eq_true rfl) dX10_step_120 ⟨Nat.le_refl 0, Nat.le_refl 0⟩ (fun H locs hP hS => ?_)
          refine lv_icmp_ge (tgt := 199) hx hb dX10_step_123 (by decide) (fun c10 => ?_) (fun c10 => ?_)
          · have hf := if_p hf c10
            refine lv_iinc (v := (x5 + 1)) (lv' := [(5, .int (x5 + 1)), (0, .ref (a 0)), (1, .int x1), (2, .int x2), (3, .int x3), (4, .int x4)]) hx hb dX10_step_199 hl (k := 5) rfl rfl (Nat.le_of_ble_eq_true rfl) rfl (fun ls hl => ?_)
            refine lv_goto (tgt := 91) hx hb dX10_step_202 (by decide) ?_
            exact ih _ _ hf H locs ls hP hS (lv_sub hl [1, 2, 3, 4, 5, 0] rfl)
          · have hf := if_n hf c10
            exact J126 _ _ H locs ls hf hP hS (lv_sub hl [0, 1, 2, 3, 4, 5] rfl)
set_option maxHeartbeats 4000000 in
set_option maxRecDepth 100000 in
theorem c_X10_step (l : Launch) {D : va_G} {cI cZ : ClassId} {a : Nat → Nat} (hA : ∀ S : St, va_D (mA a) (wM cI cZ a S)) {x1 : Int32} {S : St} {o : Int32 × St} (hf : f_X10_step x1 S = some o) : Met l yX10_step wsX10_step rmX10_step (tPc D cI cZ (wM cI cZ a) S ([.ref (a 0), .int x1] : List Value)) (tQi D (wM cI cZ a) (mA a) o.2 o.1) 0 0 (mA a) := by
  refine tEnter (cc := cX10_step) (maxL := 8) (ret := (some .int)) (own := RX10) hA rfl (by decide) rfl (Nat.le_of_ble_eq_true rfl) (fun p e s m args below meth c C hr hlk hP hS ls hl => ?_)
  obtain ⟨⟨hx, hb, hml, hown, hts⟩, hK, hN, -⟩ := id C
  have hl : lv_has ls 8 [(0, .ref (a 0)), (1, .int x1)] := hl
  have hin10 := hn_X10_step_10
  have hSS := hS
  rw [f_X10_step] at hf
  revert hP hS
  suffices hsuf : ∀ (H : Heap) (locs : List Loc), va_P D vwCl (wM cI cZ a S) H → va_S (mA a) s.heap H locs → W p l e rmX10_step s m args below meth c H locs 0 0 (MQ below (tQi D (wM cI cZ a) (mA a) o.2 o.1) args s 0 0 (mA a)) (F0 m 0 ls []) from fun hP hS => hsuf s.heap [] hP hS
  intro H locs hP hS
  refine lv_aload_n hx hb dX10_step_0 rfl (lv_at hl 0 rfl) ?_
  refine lv_iconst (v := (0 : Int32)) hx hb dX10_step_1 (by decide) ?_
  refine pm_10_0 C hin10 hP hS (List.mem_of_getElem? (i := 1) rfl) dX10_step_2 (fun H locs hP hS => ?_)
  obtain ⟨S2, eS2⟩ : ∃ z, z = (sI S 0 (0 : Int32)) := ⟨_, rfl⟩
  rw [← eS2] at hP
  have hf := nm_i hf eS2
  refine lv_iload_n hx hb dX10_step_5 rfl (lv_at hl 1 rfl) ?_
  refine lv_i2l hx hb dX10_step_6 rfl ?_
  refine lv_lconst (v := (0 : Int64)) hx hb dX10_step_7 (by decide) ?_
  refine lv_ldc2 (v := (99 : Int64)) hx hb hown (hts _ (List.mem_of_getElem? (i := 2) rfl)) dX10_step_8 ?_
  obtain ⟨r11, hc11, hf⟩ := ob hf
  refine tCallSi (As := [.long x1.toInt64, .long (0 : Int64), .long (99 : Int64)]) (rest := []) C hP hS (c_X10_in l C.2.2.2 hc11) (va_cwS 3 hts gX10_step_X10_in rfl rfl rfl hd_X10_in ⟨Nat.le_of_ble_eq_true rfl, Nat.le_of_ble_eq_true rfl⟩) rfl hl rfl (Nat.le_of_ble_eq_true rfl) dX10_step_11 ⟨Nat.le_refl 0, Nat.le_refl 0⟩ (fun H locs hP hS => ?_)
  refine lv_if_ne (tgt := 20) hx hb dX10_step_14 (by decide) (fun c1 => ?_) (fun c1 => ?_)
  · have hf := if_n hf c1
    refine lv_iconst (v := (0 : Int32)) hx hb dX10_step_20 (by decide) ?_
    refine lv_istore_n (lv' := [(2, .int (0 : Int32)), (0, .ref (a 0)), (1, .int x1)]) hx hb dX10_step_21 rfl hl (Nat.le_of_ble_eq_true rfl) rfl (fun ls hl => ?_)
    refine lv_iconst (v := (0 : Int32)) hx hb dX10_step_22 (by decide) ?_
    refine lv_istore_n (lv' := [(3, .int (0 : Int32)), (2, .int (0 : Int32)), (0, .ref (a 0)), (1, .int x1)]) hx hb dX10_step_23 rfl hl (Nat.le_of_ble_eq_true rfl) rfl (fun ls hl => ?_)
    refine lv_aload_n hx hb dX10_step_24 rfl (lv_at hl 2 rfl) ?_
    refine gm_10_14 C hin10 hP (List.mem_of_getElem? (i := 3) rfl) dX10_step_25 ?_
    refine lv_iconst (v := (0 : Int32)) hx hb dX10_step_28 (by decide) ?_
    refine ldm_7 (j := 0) C hP (by decide) (show ¬ ((0 : Int32) < 0 ∨ 16 ≤ (0 : Int32).toNatClampNeg) by decide) dX10_step_29 ?_
    refine lv_istore (lv' := [(4, .int (S2.2.1 7 0)), (3, .int (0 : Int32)), (2, .int (0 : Int32)), (0, .ref (a 0)), (1, .int x1)]) hx hb dX10_step_30 hl (Nat.le_of_ble_eq_true rfl) rfl (fun ls hl => ?_)
    obtain ⟨o32, hc32, hf⟩ := ob hf
    refine lp_X10_step_32 C (fun H locs ls hP hS hl => ?_) fuel _ _ _ hc32 H locs ls hP hS (lv_sub hl [3, 4, 2, 1, 0] rfl)
    refine lv_bipush (v := (-9 : Int32)) hx hb dX10_step_84 (by decide) ?_
    refine lv_istore (lv' := [(4, .int (-9 : Int32)), (0, .ref (a 0)), (1, .int x1), (2, .int o32.1), (3, .int o32.2)]) hx hb dX10_step_86 hl (Nat.le_of_ble_eq_true rfl) rfl (fun ls hl => ?_)
    refine lv_iconst (v := (0 : Int32)) hx hb dX10_step_88 (by decide) ?_
    refine lv_istore (lv' := [(5, .int (0 : Int32)), (4, .int (-9 : Int32)), (0, .ref (a 0)), (1, .int x1), (2, .int o32.1), (3, .int o32.2)]) hx hb dX10_step_89 hl (Nat.le_of_ble_eq_true rfl) rfl (fun ls hl => ?_)
    obtain ⟨o91, hc91, hf⟩ := ob hf
    refine lp_X10_step_91 C (fun H locs ls hP hS hl => ?_) fuel _ _ hc91 H locs ls hP hS (lv_sub hl [2, 3, 4, 5, 1, 0] rfl)
    refine lv_iload hx hb dX10_step_205 (lv_at hl 0 rfl) ?_
    obtain rfl := Option.some.inj hf
    exact tRet_i C hr hlk hP hS dX10_step_207
  · have hf := if_p hf c1
    refine lv_bipush (v := (-2 : Int32)) hx hb dX10_step_17 (by decide) ?_
    obtain rfl := Option.some.inj hf
    exact tRet_i C hr hlk hP hS dX10_step_19
def rmX10_sourceOf : Room := { frames := 1, cells := 0, slots := 0, locals := 22 }
theorem hn_X10_sourceOf_10 : ∀ w ∈ wsX100, w ∈ wsX10_sourceOf := fun w h => List.mem_cons_of_mem _ (List.mem_append_right _ h)
theorem hd_X10_sourceOf : yX10_sourceOf.cls ≠ "java/lang/invoke/MethodHandle" ∧ yX10_sourceOf.cls ≠ "java/lang/invoke/VarHandle" ∧ (parseMethodDescriptor yX10_sourceOf.desc).map (fun d => d.parameters.length) = some 2 := by decide +kernel
set_option maxHeartbeats 4000000 in
set_option maxRecDepth 100000 in
theorem c_X10_sourceOf (l : Launch) {D : va_G} {cI cZ : ClassId} {a : Nat → Nat} (hA : ∀ S : St, va_D (mA a) (wM cI cZ a S)) {x1 : Int32} {x2 : Int32} {S : St} {o : Int32} (hf : f_X10_sourceOf x1 x2 S = some o) : Met l yX10_sourceOf wsX10_sourceOf rmX10_sourceOf (tPc D cI cZ (wM cI cZ a) S ([.ref (a 0), .int x1, .int x2] : List Value)) (tQi D (wM cI cZ a) (mA a) S o) 0 0 (mA a) := by
  refine tEnter (cc := cX10_sourceOf) (maxL := 3) (ret := (some .int)) (own := RX10) hA rfl (by decide) rfl (Nat.le_of_ble_eq_true rfl) (fun p e s m args below meth c C hr hlk hP hS ls hl => ?_)
  obtain ⟨⟨hx, hb, hml, hown, hts⟩, hK, hN, -⟩ := id C
  have hl : lv_has ls 3 [(0, .ref (a 0)), (1, .int x1), (2, .int x2)] := hl
  have hin10 := hn_X10_sourceOf_10
  have hSS := hS
  rw [f_X10_sourceOf] at hf
  revert hP hS
  suffices hsuf : ∀ (H : Heap) (locs : List Loc), va_P D vwCl (wM cI cZ a S) H → va_S (mA a) s.heap H locs → W p l e rmX10_sourceOf s m args below meth c H locs 0 0 (MQ below (tQi D (wM cI cZ a) (mA a) S o) args s 0 0 (mA a)) (F0 m 0 ls []) from fun hP hS => hsuf s.heap [] hP hS
  intro H locs hP hS
  refine lv_iload_n hx hb dX10_sourceOf_0 rfl (lv_at hl 2 rfl) ?_
  by_cases c1 : x2 = (0 : Int32)
  · have hf := if_p hf c1
    refine lv_tableIn (tgt := 28) hx hb dX10_sourceOf_1 (by rw [c1]; decide) (by rw [c1]; decide) (by first | (rw [c1]; done) | (rw [c1]; rfl)) (by decide) ?_
    refine lv_aload_n hx hb dX10_sourceOf_28 rfl (lv_at hl 0 rfl) ?_
    refine gm_10_14 C hin10 hP (List.mem_of_getElem? (i := 1) rfl) dX10_sourceOf_29 ?_
    refine lv_bipush (v := (6 : Int32)) hx hb dX10_sourceOf_32 (by decide) ?_
    refine ldm_7 (j := 6) C hP (by decide) (show ¬ ((6 : Int32) < 0 ∨ 16 ≤ (6 : Int32).toNatClampNeg) by decide) dX10_sourceOf_34 ?_
    obtain rfl := Option.some.inj hf
    exact tRet_i C hr hlk hP hS dX10_sourceOf_35
  have hf := if_n hf c1
  by_cases c3 : x2 = (1 : Int32)
  · have hf := if_p hf c3
    refine lv_tableIn (tgt := 36) hx hb dX10_sourceOf_1 (by rw [c3]; decide) (by rw [c3]; decide) (by first | (rw [c3]; done) | (rw [c3]; rfl)) (by decide) ?_
    refine lv_aload_n hx hb dX10_sourceOf_36 rfl (lv_at hl 0 rfl) ?_
    refine lv_iload_n hx hb dX10_sourceOf_37 rfl (lv_at hl 1 rfl) ?_
    refine lv_aload_n hx hb dX10_sourceOf_38 rfl (lv_at hl 0 rfl) ?_
    refine gm_10_8 C hin10 hP (List.mem_of_getElem? (i := 2) rfl) dX10_sourceOf_39 ?_
    refine lv_iload_n hx hb dX10_sourceOf_42 rfl (lv_at hl 1 rfl) ?_
    obtain ⟨hi4, hf⟩ := ob_in hf
    refine ldm_2 C hP rfl hi4 dX10_sourceOf_43 ?_
    obtain ⟨r44, hc44, hf⟩ := ob hf
    refine tCallVi (As := [.int x1, .int (S.2.1 2 x1.toNatClampNeg)]) (rest := []) (q0 := 0) (ci := 10) C hP hS rfl rfl (c_X10_ground l C.2.2.2 hc44) (cwV 2 hts gX10_sourceOf_X10_ground rfl rfl rfl ⟨rfl, hd_X10_ground⟩ ⟨Nat.le_of_ble_eq_true rfl, Nat.le_of_ble_eq_true rfl⟩) rfl hl rfl (Nat.le_of_ble_eq_true rfl) dX10_sourceOf_44 ⟨Nat.le_refl 0, Nat.le_refl 0⟩ (fun H locs hP hS => ?_)
    obtain rfl := Option.some.inj hf
    exact tRet_i C hr hlk hP hS dX10_sourceOf_47
  have hf := if_n hf c3
  by_cases c5 : x2 = (2 : Int32)
  · have hf := if_p hf c5
    refine lv_tableIn (tgt := 48) hx hb dX10_sourceOf_1 (by rw [c5]; decide) (by rw [c5]; decide) (by first | (rw [c5]; done) | (rw [c5]; rfl)) (by decide) ?_
    refine lv_aload_n hx hb dX10_sourceOf_48 rfl (lv_at hl 0 rfl) ?_
    refine gm_10_7 C hin10 hP (List.mem_of_getElem? (i := 3) rfl) dX10_sourceOf_49 ?_
    refine lv_aload_n hx hb dX10_sourceOf_52 rfl (lv_at hl 0 rfl) ?_
    refine gm_10_14 C hin10 hP (List.mem_of_getElem? (i := 1) rfl) dX10_sourceOf_53 ?_
    refine lv_iconst (v := (5 : Int32)) hx hb dX10_sourceOf_56 (by decide) ?_
    refine ldm_7 (j := 5) C hP (by decide) (show ¬ ((5 : Int32) < 0 ∨ 16 ≤ (5 : Int32).toNatClampNeg) by decide) dX10_sourceOf_57 ?_
    obtain ⟨hi7, hf⟩ := ob_in hf
    refine ldm_1 C hP rfl hi7 dX10_sourceOf_58 ?_
    obtain rfl := Option.some.inj hf
    exact tRet_i C hr hlk hP hS dX10_sourceOf_59
  have hf := if_n hf c5
  refine lv_tableOut (tgt := 60) hx hb dX10_sourceOf_1 (by have q1 := lv_neT (a := 0) c1 (by decide); have q3 := lv_neT (a := 1) c3 (by decide); have q5 := lv_neT (a := 2) c5 (by decide); omega) (by decide) ?_
  refine lv_aload_n hx hb dX10_sourceOf_60 rfl (lv_at hl 0 rfl) ?_
  refine gm_10_14 C hin10 hP (List.mem_of_getElem? (i := 1) rfl) dX10_sourceOf_61 ?_
  refine lv_bipush (v := (7 : Int32)) hx hb dX10_sourceOf_64 (by decide) ?_
  refine ldm_7 (j := 7) C hP (by decide) (show ¬ ((7 : Int32) < 0 ∨ 16 ≤ (7 : Int32).toNatClampNeg) by decide) dX10_sourceOf_66 ?_
  refine lv_ineg hx hb dX10_sourceOf_67 ?_
  obtain rfl := Option.some.inj hf
  exact tRet_i C hr hlk hP hS dX10_sourceOf_68
def rmX10_orders : Room := { frames := 0, cells := 0, slots := 0, locals := 0 }
theorem hd_X10_orders : yX10_orders.cls ≠ "java/lang/invoke/MethodHandle" ∧ yX10_orders.cls ≠ "java/lang/invoke/VarHandle" ∧ (parseMethodDescriptor yX10_orders.desc).map (fun d => d.parameters.length) = some 1 := by decide +kernel
set_option maxHeartbeats 4000000 in
set_option maxRecDepth 100000 in
theorem lp_X10_orders_4 {p : Program} {l : Launch} {e : Env} {s : State} {m : MethodId} {args : Array Value} {below : List Frame} {meth : Method} {c : Code} {D : va_G} {cI cZ : ClassId} {a : Nat → Nat} {Q : State → Prop} {H0 : Heap} {x0 : Int32} {S : St} {o : Int32}
    (C : tC p c s m args cX10_orders 3 RX10 wsX10_orders D cI cZ (wM cI cZ a) (mA a))
    (K0 : ∀ (H : Heap) (locs : List Loc) (ls : Array Slot), va_P D vwCl (wM cI cZ a S) H → va_S (mA a) H0 H locs → lv_has ls 3 [(1, .int o)] → W p l e rmX10_orders s m args below meth c H locs 0 0 Q (F0 m 19 ls [])) :
    ∀ (n : Nat) (x1 : Int32) (x2 : Int32), l_X10_orders_4 x0 n x1 x2 = some o → ∀ (H : Heap) (locs : List Loc) (ls : Array Slot), va_P D vwCl (wM cI cZ a S) H → va_S (mA a) H0 H locs → lv_has ls 3 [(0, .int x0), (1, .int x1), (2, .int x2)] → W p l e rmX10_orders s m args below meth c H locs 0 0 Q (F0 m 4 ls []) := by
  obtain ⟨⟨hx, hb, hml, hown, hts⟩, hK, hN, hA⟩ := id C
  intro n
  induction n with
  | zero =>
    intro x1 x2 hf
    rw [l_X10_orders_4] at hf
    cases hf
  | succ n ih =>
    intro x1 x2 hf H locs ls hP hS hl
    rw [l_X10_orders_4] at hf
    refine lv_iload_n hx hb dX10_orders_4 rfl (lv_at hl 2 rfl) ?_
    refine lv_iload_n hx hb dX10_orders_5 rfl (lv_at hl 0 rfl) ?_
    refine lv_icmp_gt (tgt := 19) hx hb dX10_orders_6 (by decide) (fun c1 => ?_) (fun c1 => ?_)
    · have hf := if_p hf c1
      obtain rfl := Option.some.inj hf
      exact K0 H locs ls hP hS (lv_sub hl [1] rfl)
    · have hf := if_n hf c1
      refine lv_iload_n hx hb dX10_orders_9 rfl (lv_at hl 1 rfl) ?_
      refine lv_iload_n hx hb dX10_orders_10 rfl (lv_at hl 2 rfl) ?_
      refine lv_imul hx hb dX10_orders_11 ?_
      refine lv_istore_n (lv' := [(1, .int (x1 * x2)), (0, .int x0), (2, .int x2)]) hx hb dX10_orders_12 rfl hl (Nat.le_of_ble_eq_true rfl) rfl (fun ls hl => ?_)
      refine lv_iinc (v := (x2 + 1)) (lv' := [(2, .int (x2 + 1)), (1, .int (x1 * x2)), (0, .int x0)]) hx hb dX10_orders_13 hl (k := 2) rfl rfl (Nat.le_of_ble_eq_true rfl) rfl (fun ls hl => ?_)
      refine lv_goto (tgt := 4) hx hb dX10_orders_16 (by decide) ?_
      exact ih _ _ hf H locs ls hP hS (lv_sub hl [2, 1, 0] rfl)
set_option maxHeartbeats 4000000 in
set_option maxRecDepth 100000 in
theorem c_X10_orders (l : Launch) {D : va_G} {cI cZ : ClassId} {a : Nat → Nat} (hA : ∀ S : St, va_D (mA a) (wM cI cZ a S)) {x0 : Int32} {S : St} {o : Int32} (hf : f_X10_orders x0 = some o) : Met l yX10_orders wsX10_orders rmX10_orders (tPc D cI cZ (wM cI cZ a) S ([.int x0] : List Value)) (tQi D (wM cI cZ a) (mA a) S o) 0 0 (mA a) := by
  refine tEnter (cc := cX10_orders) (maxL := 3) (ret := (some .int)) (own := RX10) hA rfl (by decide) rfl (Nat.le_of_ble_eq_true rfl) (fun p e s m args below meth c C hr hlk hP hS ls hl => ?_)
  obtain ⟨⟨hx, hb, hml, hown, hts⟩, hK, hN, -⟩ := id C
  have hl : lv_has ls 3 [(0, .int x0)] := hl
  have hSS := hS
  rw [f_X10_orders] at hf
  revert hP hS
  suffices hsuf : ∀ (H : Heap) (locs : List Loc), va_P D vwCl (wM cI cZ a S) H → va_S (mA a) s.heap H locs → W p l e rmX10_orders s m args below meth c H locs 0 0 (MQ below (tQi D (wM cI cZ a) (mA a) S o) args s 0 0 (mA a)) (F0 m 0 ls []) from fun hP hS => hsuf s.heap [] hP hS
  intro H locs hP hS
  refine lv_iconst (v := (1 : Int32)) hx hb dX10_orders_0 (by decide) ?_
  refine lv_istore_n (lv' := [(1, .int (1 : Int32)), (0, .int x0)]) hx hb dX10_orders_1 rfl hl (Nat.le_of_ble_eq_true rfl) rfl (fun ls hl => ?_)
  refine lv_iconst (v := (2 : Int32)) hx hb dX10_orders_2 (by decide) ?_
  refine lv_istore_n (lv' := [(2, .int (2 : Int32)), (1, .int (1 : Int32)), (0, .int x0)]) hx hb dX10_orders_3 rfl hl (Nat.le_of_ble_eq_true rfl) rfl (fun ls hl => ?_)
  obtain ⟨o4, hc4, hf⟩ := ob hf
  refine lp_X10_orders_4 C (fun H locs ls hP hS hl => ?_) fuel _ _ hc4 H locs ls hP hS (lv_sub hl [2, 1, 0] rfl)
  refine lv_iload_n hx hb dX10_orders_19 rfl (lv_at hl 0 rfl) ?_
  obtain rfl := Option.some.inj hf
  exact tRet_i C hr hlk hP hS dX10_orders_20
