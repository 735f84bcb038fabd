def rmX7_append : Room := { frames := 0, cells := 0, slots := 0, locals := 0 }
theorem hn_X7_append_7 : ∀ w ∈ wsX70, w ∈ wsX7_append := fun w h => List.mem_cons_of_mem _ (List.mem_append_right _ h)
theorem hd_X7_append : yX7_append.cls ≠ "java/lang/invoke/MethodHandle" ∧ yX7_append.cls ≠ "java/lang/invoke/VarHandle" ∧ (parseMethodDescriptor yX7_append.desc).map (fun d => d.parameters.length) = some 1 := by decide +kernel
set_option maxHeartbeats 4000000 in
set_option maxRecDepth 100000 in
theorem c_X7_append (l : Launch) {D : va_G} {cI cZ : ClassId} {a : Nat → Nat} (hA : ∀ S : St, va_D (xA a) (wX cI cZ a S)) {x1 : Int32} {S : St} {o : Int32 × St} (hf : f_X7_append x1 S = some o) : Met l yX7_append wsX7_append rmX7_append (tPc D cI cZ (wX cI cZ a) S ([.ref (a 1), .int x1] : List Value)) (tQi D (wX cI cZ a) (xA a) o.2 o.1) 0 0 (xA a) := by
  refine tEnter (cc := cX7_append) (maxL := 2) (ret := (some .boolean)) (own := RX7) hA rfl (by decide) rfl (Nat.le_of_ble_eq_true rfl) (fun p e s m args below meth c C hr hlk hP hS ls hl => ?_)
  obtain ⟨⟨hx, hb, hml, hown, hts⟩, hK, hN, -⟩ := id C
  have hl : lv_has ls 2 [(0, .ref (a 1)), (1, .int x1)] := hl
  have hin7 := hn_X7_append_7
  have hSS := hS
  rw [f_X7_append] at hf
  revert hP hS
  suffices hsuf : ∀ (H : Heap) (locs : List Loc), va_P D vwCl (wX cI cZ a S) H → va_S (xA a) s.heap H locs → W p l e rmX7_append s m args below meth c H locs 0 0 (MQ below (tQi D (wX cI cZ a) (xA a) o.2 o.1) args s 0 0 (xA a)) (F0 m 0 ls []) from fun hP hS => hsuf s.heap [] hP hS
  intro H locs hP hS
  refine lv_aload_n hx hb dX7_append_0 rfl (lv_at hl 0 rfl) ?_
  refine gx_7_1 C hin7 hP (List.mem_of_getElem? (i := 1) rfl) dX7_append_1 ?_
  refine lv_if_lt (tgt := 16) hx hb dX7_append_4 (by decide) (fun c1 => ?_) (fun c1 => ?_)
  · have hf := if_p hf c1
    refine lv_iconst (v := (0 : Int32)) hx hb dX7_append_16 (by decide) ?_
    obtain rfl := Option.some.inj hf
    exact tRet_z (v := (0 : Int32)) C hr hlk hP hS rfl dX7_append_17
  · have hf := if_n hf c1
    refine lv_aload_n hx hb dX7_append_7 rfl (lv_at hl 0 rfl) ?_
    refine gx_7_1 C hin7 hP (List.mem_of_getElem? (i := 1) rfl) dX7_append_8 ?_
    refine lv_bipush (v := (40 : Int32)) hx hb dX7_append_11 (by decide) ?_
    refine lv_icmp_lt (tgt := 18) hx hb dX7_append_13 (by decide) (fun c2 => ?_) (fun c2 => ?_)
    · have hf := if_p hf c2
      refine lv_aload_n hx hb dX7_append_18 rfl (lv_at hl 0 rfl) ?_
      refine gx_7_0 C hin7 hP (List.mem_of_getElem? (i := 2) rfl) dX7_append_19 ?_
      refine lv_aload_n hx hb dX7_append_22 rfl (lv_at hl 0 rfl) ?_
      refine gx_7_1 C hin7 hP (List.mem_of_getElem? (i := 1) rfl) dX7_append_23 ?_
      refine lv_iload_n hx hb dX7_append_26 rfl (lv_at hl 1 rfl) ?_
      obtain ⟨hi3, hf⟩ := ob_in hf
      refine stx_0 C hP hS rfl hi3 dX7_append_27 (fun H locs hP hS => ?_)
      obtain ⟨S27, eS27⟩ : ∃ z, z = (sA S 0 ((S.1 0).toNatClampNeg) x1) := ⟨_, rfl⟩
      rw [← eS27] at hP
      have hf := nm_i hf eS27
      refine lv_aload_n hx hb dX7_append_28 rfl (lv_at hl 0 rfl) ?_
      refine lv_dup hx hb dX7_append_29 rfl ?_
      refine gx_7_1 C hin7 hP (List.mem_of_getElem? (i := 1) rfl) dX7_append_30 ?_
      refine lv_iconst (v := (1 : Int32)) hx hb dX7_append_33 (by decide) ?_
      refine lv_iadd hx hb dX7_append_34 ?_
      refine px_7_1 C hin7 hP hS (List.mem_of_getElem? (i := 1) rfl) dX7_append_35 (fun H locs hP hS => ?_)
      obtain ⟨S35, eS35⟩ : ∃ z, z = (sI S27 0 ((S27.1 0) + (1 : Int32))) := ⟨_, rfl⟩
      rw [← eS35] at hP
      have hf := nm_i hf eS35
      refine lv_iconst (v := (1 : Int32)) hx hb dX7_append_38 (by decide) ?_
      obtain rfl := Option.some.inj hf
      exact tRet_z (v := (1 : Int32)) C hr hlk hP hS rfl dX7_append_39
    · have hf := if_n hf c2
      refine lv_iconst (v := (0 : Int32)) hx hb dX7_append_16 (by decide) ?_
      obtain rfl := Option.some.inj hf
      exact tRet_z (v := (0 : Int32)) C hr hlk hP hS rfl dX7_append_17
def rmX9_write : Room := { frames := 1, cells := 0, slots := 0, locals := 21 }
theorem hn_X9_write_7 : ∀ w ∈ wsX70, w ∈ wsX9_write := fun w h => List.mem_cons_of_mem _ (List.mem_append_right _ h)
theorem hn_X9_write_9 : ∀ w ∈ wsX90, w ∈ wsX9_write := fun w h => List.mem_cons_of_mem _ (List.mem_append_left _ (List.mem_append_right _ h))
theorem hd_X9_write : yX9_write.cls ≠ "java/lang/invoke/MethodHandle" ∧ yX9_write.cls ≠ "java/lang/invoke/VarHandle" ∧ (parseMethodDescriptor yX9_write.desc).map (fun d => d.parameters.length) = some 1 := by decide +kernel
set_option maxHeartbeats 4000000 in
set_option maxRecDepth 100000 in
theorem c_X9_write (l : Launch) {D : va_G} {cI cZ : ClassId} {a : Nat → Nat} (hA : ∀ S : St, va_D (xA a) (wX cI cZ a S)) {x1 : Int32} {S : St} {o : Int32 × St} (hf : f_X9_write x1 S = some o) : Met l yX9_write wsX9_write rmX9_write (tPc D cI cZ (wX cI cZ a) S ([.ref (a 0), .int x1] : List Value)) (tQi D (wX cI cZ a) (xA a) o.2 o.1) 0 0 (xA a) := by
  refine tEnter (cc := cX9_write) (maxL := 2) (ret := (some .int)) (own := RX9) hA rfl (by decide) rfl (Nat.le_of_ble_eq_true rfl) (fun p e s m args below meth c C hr hlk hP hS ls hl => ?_)
  obtain ⟨⟨hx, hb, hml, hown, hts⟩, hK, hN, -⟩ := id C
  have hl : lv_has ls 2 [(0, .ref (a 0)), (1, .int x1)] := hl
  have hin7 := hn_X9_write_7
  have hin9 := hn_X9_write_9
  have hSS := hS
  rw [f_X9_write] at hf
  revert hP hS
  suffices hsuf : ∀ (H : Heap) (locs : List Loc), va_P D vwCl (wX cI cZ a S) H → va_S (xA a) s.heap H locs → W p l e rmX9_write s m args below meth c H locs 0 0 (MQ below (tQi D (wX cI cZ a) (xA a) o.2 o.1) args s 0 0 (xA a)) (F0 m 0 ls []) from fun hP hS => hsuf s.heap [] hP hS
  intro H locs hP hS
  refine lv_iload_n hx hb dX9_write_0 rfl (lv_at hl 1 rfl) ?_
  refine lv_if_lt (tgt := 11) hx hb dX9_write_1 (by decide) (fun c1 => ?_) (fun c1 => ?_)
  · have hf := if_p hf c1
    refine lv_bipush (v := (-2 : Int32)) hx hb dX9_write_11 (by decide) ?_
    obtain rfl := Option.some.inj hf
    exact tRet_i C hr hlk hP hS dX9_write_13
  · have hf := if_n hf c1
    refine lv_iload_n hx hb dX9_write_4 rfl (lv_at hl 1 rfl) ?_
    refine lv_sipush (v := (255 : Int32)) hx hb dX9_write_5 (by decide) ?_
    refine lv_icmp_le (tgt := 14) hx hb dX9_write_8 (by decide) (fun c2 => ?_) (fun c2 => ?_)
    · have hf := if_p hf c2
      refine lv_aload_n hx hb dX9_write_14 rfl (lv_at hl 0 rfl) ?_
      refine gx_9_0 C hin9 hP (List.mem_of_getElem? (i := 1) rfl) dX9_write_15 ?_
      refine lv_iload_n hx hb dX9_write_18 rfl (lv_at hl 1 rfl) ?_
      obtain ⟨r19, hc19, hf⟩ := ob hf
      refine tCallVi (As := [.int x1]) (rest := []) (q0 := 1) (ci := 7) C hP hS rfl rfl (c_X7_append l C.2.2.2 hc19) (cwV 1 hts gX9_write_X7_append rfl rfl rfl ⟨rfl, hd_X7_append⟩ ⟨Nat.le_of_ble_eq_true rfl, Nat.le_of_ble_eq_true rfl⟩) rfl hl rfl (Nat.le_of_ble_eq_true rfl) dX9_write_19 ⟨Nat.le_refl 0, Nat.le_refl 0⟩ (fun H locs hP hS => ?_)
      refine lv_if_eq (tgt := 35) hx hb dX9_write_22 (by decide) (fun c3 => ?_) (fun c3 => ?_)
      · have hf := if_p hf c3
        refine lv_bipush (v := (-4 : Int32)) hx hb dX9_write_35 (by decide) ?_
        obtain rfl := Option.some.inj hf
        exact tRet_i C hr hlk hP hS dX9_write_37
      · have hf := if_n hf c3
        refine lv_aload_n hx hb dX9_write_25 rfl (lv_at hl 0 rfl) ?_
        refine gx_9_0 C hin9 hP (List.mem_of_getElem? (i := 1) rfl) dX9_write_26 ?_
        refine gxn_7_1 C hin7 hP (i := 0) rfl dX9_write_29 ?_
        refine lv_goto (tgt := 37) hx hb dX9_write_32 (by decide) ?_
        obtain rfl := Option.some.inj hf
        exact tRet_i C hr hlk hP hS dX9_write_37
    · have hf := if_n hf c2
      refine lv_bipush (v := (-2 : Int32)) hx hb dX9_write_11 (by decide) ?_
      obtain rfl := Option.some.inj hf
      exact tRet_i C hr hlk hP hS dX9_write_13
def rmX9_wipe : Room := { frames := 0, cells := 0, slots := 0, locals := 0 }
theorem hn_X9_wipe_7 : ∀ w ∈ wsX70, w ∈ wsX9_wipe := fun w h => List.mem_cons_of_mem _ (List.mem_append_right _ h)
theorem hn_X9_wipe_9 : ∀ w ∈ wsX90, w ∈ wsX9_wipe := fun w h => List.mem_cons_of_mem _ (List.mem_append_left _ (List.mem_append_right _ h))
theorem hd_X9_wipe : yX9_wipe.cls ≠ "java/lang/invoke/MethodHandle" ∧ yX9_wipe.cls ≠ "java/lang/invoke/VarHandle" ∧ (parseMethodDescriptor yX9_wipe.desc).map (fun d => d.parameters.length) = some 0 := by decide +kernel
set_option maxHeartbeats 4000000 in
set_option maxRecDepth 100000 in
theorem c_X9_wipe (l : Launch) {D : va_G} {cI cZ : ClassId} {a : Nat → Nat} (hA : ∀ S : St, va_D (xA a) (wX cI cZ a S)) {S : St} {o : Int32 × St} (hf : f_X9_wipe S = some o) : Met l yX9_wipe wsX9_wipe rmX9_wipe (tPc D cI cZ (wX cI cZ a) S ([.ref (a 0)] : List Value)) (tQi D (wX cI cZ a) (xA a) o.2 o.1) 0 0 (xA a) := by
  refine tEnter (cc := cX9_wipe) (maxL := 2) (ret := (some .int)) (own := RX9) hA rfl (by decide) rfl (Nat.le_of_ble_eq_true rfl) (fun p e s m args below meth c C hr hlk hP hS ls hl => ?_)
  obtain ⟨⟨hx, hb, hml, hown, hts⟩, hK, hN, -⟩ := id C
  have hl : lv_has ls 2 [(0, .ref (a 0))] := hl
  have hin7 := hn_X9_wipe_7
  have hin9 := hn_X9_wipe_9
  have hSS := hS
  rw [f_X9_wipe] at hf
  revert hP hS
  suffices hsuf : ∀ (H : Heap) (locs : List Loc), va_P D vwCl (wX cI cZ a S) H → va_S (xA a) s.heap H locs → W p l e rmX9_wipe s m args below meth c H locs 0 0 (MQ below (tQi D (wX cI cZ a) (xA a) o.2 o.1) args s 0 0 (xA a)) (F0 m 0 ls []) from fun hP hS => hsuf s.heap [] hP hS
  intro H locs hP hS
  refine lv_aload_n hx hb dX9_wipe_0 rfl (lv_at hl 0 rfl) ?_
  refine gx_9_0 C hin9 hP (List.mem_of_getElem? (i := 1) rfl) dX9_wipe_1 ?_
  refine gxn_7_1 C hin7 hP (i := 0) rfl dX9_wipe_4 ?_
  refine lv_istore_n (lv' := [(1, .int (S.1 0)), (0, .ref (a 0))]) hx hb dX9_wipe_7 rfl hl (Nat.le_of_ble_eq_true rfl) rfl (fun ls hl => ?_)
  refine lv_aload_n hx hb dX9_wipe_8 rfl (lv_at hl 1 rfl) ?_
  refine gx_9_0 C hin9 hP (List.mem_of_getElem? (i := 1) rfl) dX9_wipe_9 ?_
  refine lv_iconst (v := (0 : Int32)) hx hb dX9_wipe_12 (by decide) ?_
  refine pxn_7_1 C hin7 hP hS (i := 0) rfl dX9_wipe_13 (fun H locs hP hS => ?_)
  obtain ⟨S13, eS13⟩ : ∃ z, z = (sI S 0 (0 : Int32)) := ⟨_, rfl⟩
  rw [← eS13] at hP
  have hf := nm_i hf eS13
  refine lv_iload_n hx hb dX9_wipe_16 rfl (lv_at hl 0 rfl) ?_
  obtain rfl := Option.some.inj hf
  exact tRet_i C hr hlk hP hS dX9_wipe_17
def rmX7_byteAt : Room := { frames := 0, cells := 0, slots := 0, locals := 0 }
theorem hn_X7_byteAt_7 : ∀ w ∈ wsX70, w ∈ wsX7_byteAt := fun w h => List.mem_cons_of_mem _ (List.mem_append_right _ h)
theorem hd_X7_byteAt : yX7_byteAt.cls ≠ "java/lang/invoke/MethodHandle" ∧ yX7_byteAt.cls ≠ "java/lang/invoke/VarHandle" ∧ (parseMethodDescriptor yX7_byteAt.desc).map (fun d => d.parameters.length) = some 1 := by decide +kernel
set_option maxHeartbeats 4000000 in
set_option maxRecDepth 100000 in
theorem c_X7_byteAt (l : Launch) {D : va_G} {cI cZ : ClassId} {a : Nat → Nat} (hA : ∀ S : St, va_D (xA a) (wX cI cZ a S)) {x1 : Int32} {S : St} {o : Int32} (hf : f_X7_byteAt x1 S = some o) : Met l yX7_byteAt wsX7_byteAt rmX7_byteAt (tPc D cI cZ (wX cI cZ a) S ([.ref (a 1), .int x1] : List Value)) (tQi D (wX cI cZ a) (xA a) S o) 0 0 (xA a) := by
  refine tEnter (cc := cX7_byteAt) (maxL := 2) (ret := (some .int)) (own := RX7) hA rfl (by decide) rfl (Nat.le_of_ble_eq_true rfl) (fun p e s m args below meth c C hr hlk hP hS ls hl => ?_)
  obtain ⟨⟨hx, hb, hml, hown, hts⟩, hK, hN, -⟩ := id C
  have hl : lv_has ls 2 [(0, .ref (a 1)), (1, .int x1)] := hl
  have hin7 := hn_X7_byteAt_7
  have hSS := hS
  rw [f_X7_byteAt] at hf
  revert hP hS
  suffices hsuf : ∀ (H : Heap) (locs : List Loc), va_P D vwCl (wX cI cZ a S) H → va_S (xA a) s.heap H locs → W p l e rmX7_byteAt s m args below meth c H locs 0 0 (MQ below (tQi D (wX cI cZ a) (xA a) S o) args s 0 0 (xA a)) (F0 m 0 ls []) from fun hP hS => hsuf s.heap [] hP hS
  intro H locs hP hS
  refine lv_iload_n hx hb dX7_byteAt_0 rfl (lv_at hl 1 rfl) ?_
  refine lv_if_lt (tgt := 27) hx hb dX7_byteAt_1 (by decide) (fun c1 => ?_) (fun c1 => ?_)
  · have hf := if_p hf c1
    refine lv_iconst (v := (0 : Int32)) hx hb dX7_byteAt_27 (by decide) ?_
    obtain rfl := Option.some.inj hf
    exact tRet_i C hr hlk hP hS dX7_byteAt_28
  · have hf := if_n hf c1
    refine lv_iload_n hx hb dX7_byteAt_4 rfl (lv_at hl 1 rfl) ?_
    refine lv_aload_n hx hb dX7_byteAt_5 rfl (lv_at hl 0 rfl) ?_
    refine gx_7_1 C hin7 hP (List.mem_of_getElem? (i := 1) rfl) dX7_byteAt_6 ?_
    refine lv_icmp_ge (tgt := 27) hx hb dX7_byteAt_9 (by decide) (fun c2 => ?_) (fun c2 => ?_)
    · have hf := if_p hf c2
      refine lv_iconst (v := (0 : Int32)) hx hb dX7_byteAt_27 (by decide) ?_
      obtain rfl := Option.some.inj hf
      exact tRet_i C hr hlk hP hS dX7_byteAt_28
    · have hf := if_n hf c2
      refine lv_iload_n hx hb dX7_byteAt_12 rfl (lv_at hl 1 rfl) ?_
      refine lv_bipush (v := (40 : Int32)) hx hb dX7_byteAt_13 (by decide) ?_
      refine lv_icmp_ge (tgt := 27) hx hb dX7_byteAt_15 (by decide) (fun c3 => ?_) (fun c3 => ?_)
      · have hf := if_p hf c3
        refine lv_iconst (v := (0 : Int32)) hx hb dX7_byteAt_27 (by decide) ?_
        obtain rfl := Option.some.inj hf
        exact tRet_i C hr hlk hP hS dX7_byteAt_28
      · have hf := if_n hf c3
        refine lv_aload_n hx hb dX7_byteAt_18 rfl (lv_at hl 0 rfl) ?_
        refine gx_7_0 C hin7 hP (List.mem_of_getElem? (i := 2) rfl) dX7_byteAt_19 ?_
        refine lv_iload_n hx hb dX7_byteAt_22 rfl (lv_at hl 1 rfl) ?_
        obtain ⟨hi4, hf⟩ := ob_in hf
        refine ldx_0 C hP rfl hi4 dX7_byteAt_23 ?_
        refine lv_goto (tgt := 28) hx hb dX7_byteAt_24 (by decide) ?_
        obtain rfl := Option.some.inj hf
        exact tRet_i C hr hlk hP hS dX7_byteAt_28
def rmX7_digitAt : Room := { frames := 1, cells := 0, slots := 0, locals := 21 }
theorem hd_X7_digitAt : yX7_digitAt.cls ≠ "java/lang/invoke/MethodHandle" ∧ yX7_digitAt.cls ≠ "java/lang/invoke/VarHandle" ∧ (parseMethodDescriptor yX7_digitAt.desc).map (fun d => d.parameters.length) = some 1 := by decide +kernel
set_option maxHeartbeats 4000000 in
set_option maxRecDepth 100000 in
theorem c_X7_digitAt (l : Launch) {D : va_G} {cI cZ : ClassId} {a : Nat → Nat} (hA : ∀ S : St, va_D (xA a) (wX cI cZ a S)) {x1 : Int32} {S : St} {o : Int32} (hf : f_X7_digitAt x1 S = some o) : Met l yX7_digitAt wsX7_digitAt rmX7_digitAt (tPc D cI cZ (wX cI cZ a) S ([.ref (a 1), .int x1] : List Value)) (tQi D (wX cI cZ a) (xA a) S o) 0 0 (xA a) := by
  refine tEnter (cc := cX7_digitAt) (maxL := 2) (ret := (some .int)) (own := RX7) hA rfl (by decide) rfl (Nat.le_of_ble_eq_true rfl) (fun p e s m args below meth c C hr hlk hP hS ls hl => ?_)
  obtain ⟨⟨hx, hb, hml, hown, hts⟩, hK, hN, -⟩ := id C
  have hl : lv_has ls 2 [(0, .ref (a 1)), (1, .int x1)] := hl
  have hSS := hS
  rw [f_X7_digitAt] at hf
  revert hP hS
  suffices hsuf : ∀ (H : Heap) (locs : List Loc), va_P D vwCl (wX cI cZ a S) H → va_S (xA a) s.heap H locs → W p l e rmX7_digitAt s m args below meth c H locs 0 0 (MQ below (tQi D (wX cI cZ a) (xA a) S o) args s 0 0 (xA a)) (F0 m 0 ls []) from fun hP hS => hsuf s.heap [] hP hS
  intro H locs hP hS
  refine lv_aload_n hx hb dX7_digitAt_0 rfl (lv_at hl 0 rfl) ?_
  refine lv_iload_n hx hb dX7_digitAt_1 rfl (lv_at hl 1 rfl) ?_
  obtain ⟨r2, hc2, hf⟩ := ob hf
  refine tCallVi (As := [.int x1]) (rest := []) (q0 := 1) (ci := 7) C hP hS rfl rfl (c_X7_byteAt l C.2.2.2 hc2) (cwV 1 hts gX7_digitAt_X7_byteAt rfl rfl rfl ⟨rfl, hd_X7_byteAt⟩ ⟨Nat.le_of_ble_eq_true rfl, Nat.le_of_ble_eq_true rfl⟩) rfl hl rfl (Nat.le_of_ble_eq_true rfl) dX7_digitAt_2 ⟨Nat.le_refl 0, Nat.le_refl 0⟩ (fun H locs hP hS => ?_)
  refine lv_bipush (v := (48 : Int32)) hx hb dX7_digitAt_5 (by decide) ?_
  refine lv_isub hx hb dX7_digitAt_7 ?_
  obtain rfl := Option.some.inj hf
  exact tRet_i C hr hlk hP hS dX7_digitAt_8
def rmX7_isDigit : Room := { frames := 2, cells := 0, slots := 0, locals := 42 }
theorem hd_X7_isDigit : yX7_isDigit.cls ≠ "java/lang/invoke/MethodHandle" ∧ yX7_isDigit.cls ≠ "java/lang/invoke/VarHandle" ∧ (parseMethodDescriptor yX7_isDigit.desc).map (fun d => d.parameters.length) = some 3 := by decide +kernel
set_option maxHeartbeats 4000000 in
set_option maxRecDepth 100000 in
theorem c_X7_isDigit (l : Launch) {D : va_G} {cI cZ : ClassId} {a : Nat → Nat} (hA : ∀ S : St, va_D (xA a) (wX cI cZ a S)) {x1 : Int32} {x2 : Int32} {x3 : Int32} {S : St} {o : Int32} (hf : f_X7_isDigit x1 x2 x3 S = some o) : Met l yX7_isDigit wsX7_isDigit rmX7_isDigit (tPc D cI cZ (wX cI cZ a) S ([.ref (a 1), .int x1, .int x2, .int x3] : List Value)) (tQi D (wX cI cZ a) (xA a) S o) 0 0 (xA a) := by
  refine tEnter (cc := cX7_isDigit) (maxL := 5) (ret := (some .boolean)) (own := RX7) hA rfl (by decide) rfl (Nat.le_of_ble_eq_true rfl) (fun p e s m args below meth c C hr hlk hP hS ls hl => ?_)
  obtain ⟨⟨hx, hb, hml, hown, hts⟩, hK, hN, -⟩ := id C
  have hl : lv_has ls 5 [(0, .ref (a 1)), (1, .int x1), (2, .int x2), (3, .int x3)] := hl
  have hSS := hS
  rw [f_X7_isDigit] at hf
  revert hP hS
  suffices hsuf : ∀ (H : Heap) (locs : List Loc), va_P D vwCl (wX cI cZ a S) H → va_S (xA a) s.heap H locs → W p l e rmX7_isDigit s m args below meth c H locs 0 0 (MQ below (tQi D (wX cI cZ a) (xA a) S o) args s 0 0 (xA a)) (F0 m 0 ls []) from fun hP hS => hsuf s.heap [] hP hS
  intro H locs hP hS
  refine lv_aload_n hx hb dX7_isDigit_0 rfl (lv_at hl 0 rfl) ?_
  refine lv_iload_n hx hb dX7_isDigit_1 rfl (lv_at hl 1 rfl) ?_
  obtain ⟨r2, hc2, hf⟩ := ob hf
  refine tCallVi (As := [.int x1]) (rest := []) (q0 := 1) (ci := 7) C hP hS rfl rfl (c_X7_digitAt l C.2.2.2 hc2) (cwV 1 hts gX7_isDigit_X7_digitAt rfl rfl rfl ⟨rfl, hd_X7_digitAt⟩ ⟨Nat.le_of_ble_eq_true rfl, Nat.le_of_ble_eq_true rfl⟩) rfl hl rfl (Nat.le_of_ble_eq_true rfl) dX7_isDigit_2 ⟨Nat.le_refl 0, Nat.le_refl 0⟩ (fun H locs hP hS => ?_)
  refine lv_istore (lv' := [(4, .int r2), (0, .ref (a 1)), (1, .int x1), (2, .int x2), (3, .int x3)]) hx hb dX7_isDigit_5 hl (Nat.le_of_ble_eq_true rfl) rfl (fun ls hl => ?_)
  refine lv_iload hx hb dX7_isDigit_7 (lv_at hl 0 rfl) ?_
  refine lv_iload_n hx hb dX7_isDigit_9 rfl (lv_at hl 3 rfl) ?_
  refine lv_icmp_lt (tgt := 23) hx hb dX7_isDigit_10 (by decide) (fun c1 => ?_) (fun c1 => ?_)
  · have hf := if_p hf c1
    refine lv_iconst (v := (0 : Int32)) hx hb dX7_isDigit_23 (by decide) ?_
    obtain rfl := Option.some.inj hf
    exact tRet_z (v := (0 : Int32)) C hr hlk hP hS rfl dX7_isDigit_24
  · have hf := if_n hf c1
    refine lv_iload hx hb dX7_isDigit_13 (lv_at hl 0 rfl) ?_
    refine lv_iload_n hx hb dX7_isDigit_15 rfl (lv_at hl 4 rfl) ?_
    refine lv_icmp_gt (tgt := 23) hx hb dX7_isDigit_16 (by decide) (fun c2 => ?_) (fun c2 => ?_)
    · have hf := if_p hf c2
      refine lv_iconst (v := (0 : Int32)) hx hb dX7_isDigit_23 (by decide) ?_
      obtain rfl := Option.some.inj hf
      exact tRet_z (v := (0 : Int32)) C hr hlk hP hS rfl dX7_isDigit_24
    · have hf := if_n hf c2
      refine lv_iconst (v := (1 : Int32)) hx hb dX7_isDigit_19 (by decide) ?_
      refine lv_goto (tgt := 24) hx hb dX7_isDigit_20 (by decide) ?_
      obtain rfl := Option.some.inj hf
      exact tRet_z (v := (1 : Int32)) C hr hlk hP hS rfl dX7_isDigit_24
def rmX7_mayStandInHead : Room := { frames := 3, cells := 0, slots := 0, locals := 66 }
theorem hd_X7_mayStandInHead : yX7_mayStandInHead.cls ≠ "java/lang/invoke/MethodHandle" ∧ yX7_mayStandInHead.cls ≠ "java/lang/invoke/VarHandle" ∧ (parseMethodDescriptor yX7_mayStandInHead.desc).map (fun d => d.parameters.length) = some 1 := by decide +kernel
set_option maxHeartbeats 4000000 in
set_option maxRecDepth 100000 in
theorem c_X7_mayStandInHead (l : Launch) {D : va_G} {cI cZ : ClassId} {a : Nat → Nat} (hA : ∀ S : St, va_D (xA a) (wX cI cZ a S)) {x1 : Int32} {S : St} {o : Int32} (hf : f_X7_mayStandInHead x1 S = some o) : Met l yX7_mayStandInHead wsX7_mayStandInHead rmX7_mayStandInHead (tPc D cI cZ (wX cI cZ a) S ([.ref (a 1), .int x1] : List Value)) (tQi D (wX cI cZ a) (xA a) S o) 0 0 (xA a) := by
  refine tEnter (cc := cX7_mayStandInHead) (maxL := 2) (ret := (some .boolean)) (own := RX7) hA rfl (by decide) rfl (Nat.le_of_ble_eq_true rfl) (fun p e s m args below meth c C hr hlk hP hS ls hl => ?_)
  obtain ⟨⟨hx, hb, hml, hown, hts⟩, hK, hN, -⟩ := id C
  have hl : lv_has ls 2 [(0, .ref (a 1)), (1, .int x1)] := hl
  have hSS := hS
  rw [f_X7_mayStandInHead] at hf
  revert hP hS
  suffices hsuf : ∀ (H : Heap) (locs : List Loc), va_P D vwCl (wX cI cZ a S) H → va_S (xA a) s.heap H locs → W p l e rmX7_mayStandInHead s m args below meth c H locs 0 0 (MQ below (tQi D (wX cI cZ a) (xA a) S o) args s 0 0 (xA a)) (F0 m 0 ls []) from fun hP hS => hsuf s.heap [] hP hS
  intro H locs hP hS
  refine lv_iload_n hx hb dX7_mayStandInHead_0 rfl (lv_at hl 1 rfl) ?_
  by_cases c1 : x1 = (0 : Int32)
  · have hf := if_p hf c1
    refine lv_lookup (off := 27) (tgt := 28) hx hb dX7_mayStandInHead_1 (by decide) (by first | (rw [c1]; done) | (rw [c1]; rfl)) (by decide) ?_
    refine lv_aload_n hx hb dX7_mayStandInHead_28 rfl (lv_at hl 0 rfl) ?_
    refine lv_iload_n hx hb dX7_mayStandInHead_29 rfl (lv_at hl 1 rfl) ?_
    obtain ⟨r30, hc30, hf⟩ := ob hf
    refine tCallVi (As := [.int x1]) (rest := []) (q0 := 1) (ci := 7) C hP hS rfl rfl (c_X7_byteAt l C.2.2.2 hc30) (cwV 1 hts gX7_mayStandInHead_X7_byteAt rfl rfl rfl ⟨rfl, hd_X7_byteAt⟩ ⟨Nat.le_of_ble_eq_true rfl, Nat.le_of_ble_eq_true rfl⟩) rfl hl rfl (Nat.le_of_ble_eq_true rfl) dX7_mayStandInHead_30 ⟨Nat.le_refl 0, Nat.le_refl 0⟩ (fun H locs hP hS => ?_)
    refine lv_bipush (v := (65 : Int32)) hx hb dX7_mayStandInHead_33 (by decide) ?_
    refine lv_icmp_ne (tgt := 42) hx hb dX7_mayStandInHead_35 (by decide) (fun c2 => ?_) (fun c2 => ?_)
    · have hf := if_n hf c2
      refine lv_iconst (v := (0 : Int32)) hx hb dX7_mayStandInHead_42 (by decide) ?_
      obtain rfl := Option.some.inj hf
      exact tRet_z (v := (0 : Int32)) C hr hlk hP hS rfl dX7_mayStandInHead_43
    · have hf := if_p hf c2
      refine lv_iconst (v := (1 : Int32)) hx hb dX7_mayStandInHead_38 (by decide) ?_
      refine lv_goto (tgt := 43) hx hb dX7_mayStandInHead_39 (by decide) ?_
      obtain rfl := Option.some.inj hf
      exact tRet_z (v := (1 : Int32)) C hr hlk hP hS rfl dX7_mayStandInHead_43
  have hf := if_n hf c1
  by_cases c3 : x1 = (1 : Int32)
  · have hf := if_p hf c3
    refine lv_lookup (off := 43) (tgt := 44) hx hb dX7_mayStandInHead_1 (by decide) (by first | (rw [c3]; done) | (rw [c3]; rfl)) (by decide) ?_
    refine lv_aload_n hx hb dX7_mayStandInHead_44 rfl (lv_at hl 0 rfl) ?_
    refine lv_iload_n hx hb dX7_mayStandInHead_45 rfl (lv_at hl 1 rfl) ?_
    refine lv_iconst (v := (2 : Int32)) hx hb dX7_mayStandInHead_46 (by decide) ?_
    refine lv_bipush (v := (9 : Int32)) hx hb dX7_mayStandInHead_47 (by decide) ?_
    obtain ⟨r49, hc49, hf⟩ := ob hf
    refine tCallVi (As := [.int x1, .int (2 : Int32), .int (9 : Int32)]) (rest := []) (q0 := 1) (ci := 7) C hP hS rfl rfl (c_X7_isDigit l C.2.2.2 hc49) (cwV 3 hts gX7_mayStandInHead_X7_isDigit rfl rfl rfl ⟨rfl, hd_X7_isDigit⟩ ⟨Nat.le_of_ble_eq_true rfl, Nat.le_of_ble_eq_true rfl⟩) rfl hl rfl (Nat.le_of_ble_eq_true rfl) dX7_mayStandInHead_49 ⟨Nat.le_refl 0, Nat.le_refl 0⟩ (fun H locs hP hS => ?_)
    obtain ⟨hb4, hf⟩ := ob_ok hf
    obtain rfl := Option.some.inj hf
    exact tRet_z C hr hlk hP hS (nb_of hb4) dX7_mayStandInHead_52
  have hf := if_n hf c3
  refine lv_lookup (off := 52) (tgt := 53) hx hb dX7_mayStandInHead_1 (by decide) (by show Op.lookupswitch.offset [(0, 27), (1, 43)] 52 _ = _; rw [lv_osw c1 (by decide), lv_osw c3 (by decide)]; first | done | rfl) (by decide) ?_
  refine lv_aload_n hx hb dX7_mayStandInHead_53 rfl (lv_at hl 0 rfl) ?_
  refine lv_iload_n hx hb dX7_mayStandInHead_54 rfl (lv_at hl 1 rfl) ?_
  refine lv_iconst (v := (0 : Int32)) hx hb dX7_mayStandInHead_55 (by decide) ?_
  refine lv_bipush (v := (9 : Int32)) hx hb dX7_mayStandInHead_56 (by decide) ?_
  obtain ⟨r58, hc58, hf⟩ := ob hf
  refine tCallVi (As := [.int x1, .int (0 : Int32), .int (9 : Int32)]) (rest := []) (q0 := 1) (ci := 7) C hP hS rfl rfl (c_X7_isDigit l C.2.2.2 hc58) (cwV 3 hts gX7_mayStandInHead_X7_isDigit rfl rfl rfl ⟨rfl, hd_X7_isDigit⟩ ⟨Nat.le_of_ble_eq_true rfl, Nat.le_of_ble_eq_true rfl⟩) rfl hl rfl (Nat.le_of_ble_eq_true rfl) dX7_mayStandInHead_58 ⟨Nat.le_refl 0, Nat.le_refl 0⟩ (fun H locs hP hS => ?_)
  obtain ⟨hb5, hf⟩ := ob_ok hf
  obtain rfl := Option.some.inj hf
  exact tRet_z C hr hlk hP hS (nb_of hb5) dX7_mayStandInHead_61
def rmX7_mayStand : Room := { frames := 4, cells := 0, slots := 0, locals := 87 }
theorem hd_X7_mayStand : yX7_mayStand.cls ≠ "java/lang/invoke/MethodHandle" ∧ yX7_mayStand.cls ≠ "java/lang/invoke/VarHandle" ∧ (parseMethodDescriptor yX7_mayStand.desc).map (fun d => d.parameters.length) = some 1 := by decide +kernel
set_option maxHeartbeats 4000000 in
set_option maxRecDepth 100000 in
theorem c_X7_mayStand (l : Launch) {D : va_G} {cI cZ : ClassId} {a : Nat → Nat} (hA : ∀ S : St, va_D (xA a) (wX cI cZ a S)) {x1 : Int32} {S : St} {o : Int32} (hf : f_X7_mayStand x1 S = some o) : Met l yX7_mayStand wsX7_mayStand rmX7_mayStand (tPc D cI cZ (wX cI cZ a) S ([.ref (a 1), .int x1] : List Value)) (tQi D (wX cI cZ a) (xA a) S o) 0 0 (xA a) := by
  refine tEnter (cc := cX7_mayStand) (maxL := 2) (ret := (some .boolean)) (own := RX7) hA rfl (by decide) rfl (Nat.le_of_ble_eq_true rfl) (fun p e s m args below meth c C hr hlk hP hS ls hl => ?_)
  obtain ⟨⟨hx, hb, hml, hown, hts⟩, hK, hN, -⟩ := id C
  have hl : lv_has ls 2 [(0, .ref (a 1)), (1, .int x1)] := hl
  have hSS := hS
  rw [f_X7_mayStand] at hf
  revert hP hS
  suffices hsuf : ∀ (H : Heap) (locs : List Loc), va_P D vwCl (wX cI cZ a S) H → va_S (xA a) s.heap H locs → W p l e rmX7_mayStand s m args below meth c H locs 0 0 (MQ below (tQi D (wX cI cZ a) (xA a) S o) args s 0 0 (xA a)) (F0 m 0 ls []) from fun hP hS => hsuf s.heap [] hP hS
  intro H locs hP hS
  refine lv_iload_n hx hb dX7_mayStand_0 rfl (lv_at hl 1 rfl) ?_
  refine lv_bipush (v := (6 : Int32)) hx hb dX7_mayStand_1 (by decide) ?_
  refine lv_icmp_ge (tgt := 12) hx hb dX7_mayStand_3 (by decide) (fun c1 => ?_) (fun c1 => ?_)
  · have hf := if_p hf c1
    refine lv_iload_n hx hb dX7_mayStand_12 rfl (lv_at hl 1 rfl) ?_
    refine lv_bipush (v := (38 : Int32)) hx hb dX7_mayStand_13 (by decide) ?_
    refine lv_icmp_lt (tgt := 20) hx hb dX7_mayStand_15 (by decide) (fun c2 => ?_) (fun c2 => ?_)
    · have hf := if_p hf c2
      refine lv_iload_n hx hb dX7_mayStand_20 rfl (lv_at hl 1 rfl) ?_
      refine lv_bipush (v := (6 : Int32)) hx hb dX7_mayStand_21 (by decide) ?_
      refine lv_isub hx hb dX7_mayStand_23 ?_
      refine lv_iconst (v := (4 : Int32)) hx hb dX7_mayStand_24 (by decide) ?_
      refine lv_irem hx hb dX7_mayStand_25 (by decide) ?_
      by_cases c3 : ((x1 - (6 : Int32)) - (x1 - (6 : Int32)) / (4 : Int32) * (4 : Int32)) = (0 : Int32)
      · have hf := if_p hf c3
        refine lv_lookup (off := 26) (tgt := 52) hx hb dX7_mayStand_26 (by decide) (by first | (rw [c3]; done) | (rw [c3]; rfl)) (by decide) ?_
        refine lv_aload_n hx hb dX7_mayStand_52 rfl (lv_at hl 0 rfl) ?_
        refine lv_iload_n hx hb dX7_mayStand_53 rfl (lv_at hl 1 rfl) ?_
        obtain ⟨r54, hc54, hf⟩ := ob hf
        refine tCallVi (As := [.int x1]) (rest := []) (q0 := 1) (ci := 7) C hP hS rfl rfl (c_X7_byteAt l C.2.2.2 hc54) (cwV 1 hts gX7_mayStand_X7_byteAt rfl rfl rfl ⟨rfl, hd_X7_byteAt⟩ ⟨Nat.le_of_ble_eq_true rfl, Nat.le_of_ble_eq_true rfl⟩) rfl hl rfl (Nat.le_of_ble_eq_true rfl) dX7_mayStand_54 ⟨Nat.le_refl 0, Nat.le_refl 0⟩ (fun H locs hP hS => ?_)
        refine lv_bipush (v := (76 : Int32)) hx hb dX7_mayStand_57 (by decide) ?_
        refine lv_icmp_ne (tgt := 66) hx hb dX7_mayStand_59 (by decide) (fun c4 => ?_) (fun c4 => ?_)
        · have hf := if_n hf c4
          refine lv_iconst (v := (0 : Int32)) hx hb dX7_mayStand_66 (by decide) ?_
          obtain rfl := Option.some.inj hf
          exact tRet_z (v := (0 : Int32)) C hr hlk hP hS rfl dX7_mayStand_67
        · have hf := if_p hf c4
          refine lv_iconst (v := (1 : Int32)) hx hb dX7_mayStand_62 (by decide) ?_
          refine lv_goto (tgt := 67) hx hb dX7_mayStand_63 (by decide) ?_
          obtain rfl := Option.some.inj hf
          exact tRet_z (v := (1 : Int32)) C hr hlk hP hS rfl dX7_mayStand_67
      have hf := if_n hf c3
      by_cases c5 : ((x1 - (6 : Int32)) - (x1 - (6 : Int32)) / (4 : Int32) * (4 : Int32)) = (1 : Int32)
      · have hf := if_p hf c5
        refine lv_lookup (off := 42) (tgt := 68) hx hb dX7_mayStand_26 (by decide) (by first | (rw [c5]; done) | (rw [c5]; rfl)) (by decide) ?_
        refine lv_aload_n hx hb dX7_mayStand_68 rfl (lv_at hl 0 rfl) ?_
        refine lv_iload_n hx hb dX7_mayStand_69 rfl (lv_at hl 1 rfl) ?_
        refine lv_iconst (v := (0 : Int32)) hx hb dX7_mayStand_70 (by decide) ?_
        refine lv_iconst (v := (3 : Int32)) hx hb dX7_mayStand_71 (by decide) ?_
        obtain ⟨r72, hc72, hf⟩ := ob hf
        refine tCallVi (As := [.int x1, .int (0 : Int32), .int (3 : Int32)]) (rest := []) (q0 := 1) (ci := 7) C hP hS rfl rfl (c_X7_isDigit l C.2.2.2 hc72) (cwV 3 hts gX7_mayStand_X7_isDigit rfl rfl rfl ⟨rfl, hd_X7_isDigit⟩ ⟨Nat.le_of_ble_eq_true rfl, Nat.le_of_ble_eq_true rfl⟩) rfl hl rfl (Nat.le_of_ble_eq_true rfl) dX7_mayStand_72 ⟨Nat.le_refl 0, Nat.le_refl 0⟩ (fun H locs hP hS => ?_)
        obtain ⟨hb6, hf⟩ := ob_ok hf
        obtain rfl := Option.some.inj hf
        exact tRet_z C hr hlk hP hS (nb_of hb6) dX7_mayStand_75
      have hf := if_n hf c5
      refine lv_lookup (off := 50) (tgt := 76) hx hb dX7_mayStand_26 (by decide) (by show Op.lookupswitch.offset [(0, 26), (1, 42)] 50 _ = _; rw [lv_osw c3 (by decide), lv_osw c5 (by decide)]; first | done | rfl) (by decide) ?_
      refine lv_aload_n hx hb dX7_mayStand_76 rfl (lv_at hl 0 rfl) ?_
      refine lv_iload_n hx hb dX7_mayStand_77 rfl (lv_at hl 1 rfl) ?_
      refine lv_iconst (v := (0 : Int32)) hx hb dX7_mayStand_78 (by decide) ?_
      refine lv_bipush (v := (9 : Int32)) hx hb dX7_mayStand_79 (by decide) ?_
      obtain ⟨r81, hc81, hf⟩ := ob hf
      refine tCallVi (As := [.int x1, .int (0 : Int32), .int (9 : Int32)]) (rest := []) (q0 := 1) (ci := 7) C hP hS rfl rfl (c_X7_isDigit l C.2.2.2 hc81) (cwV 3 hts gX7_mayStand_X7_isDigit rfl rfl rfl ⟨rfl, hd_X7_isDigit⟩ ⟨Nat.le_of_ble_eq_true rfl, Nat.le_of_ble_eq_true rfl⟩) rfl hl rfl (Nat.le_of_ble_eq_true rfl) dX7_mayStand_81 ⟨Nat.le_refl 0, Nat.le_refl 0⟩ (fun H locs hP hS => ?_)
      obtain ⟨hb7, hf⟩ := ob_ok hf
      obtain rfl := Option.some.inj hf
      exact tRet_z C hr hlk hP hS (nb_of hb7) dX7_mayStand_84
    · have hf := if_n hf c2
      refine lv_iconst (v := (0 : Int32)) hx hb dX7_mayStand_18 (by decide) ?_
      obtain rfl := Option.some.inj hf
      exact tRet_z (v := (0 : Int32)) C hr hlk hP hS rfl dX7_mayStand_19
  · have hf := if_n hf c1
    refine lv_aload_n hx hb dX7_mayStand_6 rfl (lv_at hl 0 rfl) ?_
    refine lv_iload_n hx hb dX7_mayStand_7 rfl (lv_at hl 1 rfl) ?_
    obtain ⟨r8, hc8, hf⟩ := ob hf
    refine tCallVi (As := [.int x1]) (rest := []) (q0 := 1) (ci := 7) C hP hS rfl rfl (c_X7_mayStandInHead l C.2.2.2 hc8) (cwV 1 hts gX7_mayStand_X7_mayStandInHead rfl rfl rfl ⟨rfl, hd_X7_mayStandInHead⟩ ⟨Nat.le_of_ble_eq_true rfl, Nat.le_of_ble_eq_true rfl⟩) rfl hl rfl (Nat.le_of_ble_eq_true rfl) dX7_mayStand_8 ⟨Nat.le_refl 0, Nat.le_refl 0⟩ (fun H locs hP hS => ?_)
    obtain ⟨hb8, hf⟩ := ob_ok hf
    obtain rfl := Option.some.inj hf
    exact tRet_z C hr hlk hP hS (nb_of hb8) dX7_mayStand_11
def rmX7_isWhole : Room := { frames := 0, cells := 0, slots := 0, locals := 0 }
theorem hn_X7_isWhole_7 : ∀ w ∈ wsX70, w ∈ wsX7_isWhole := fun w h => List.mem_cons_of_mem _ (List.mem_append_right _ h)
theorem hd_X7_isWhole : yX7_isWhole.cls ≠ "java/lang/invoke/MethodHandle" ∧ yX7_isWhole.cls ≠ "java/lang/invoke/VarHandle" ∧ (parseMethodDescriptor yX7_isWhole.desc).map (fun d => d.parameters.length) = some 0 := by decide +kernel
set_option maxHeartbeats 4000000 in
set_option maxRecDepth 100000 in
theorem c_X7_isWhole (l : Launch) {D : va_G} {cI cZ : ClassId} {a : Nat → Nat} (hA : ∀ S : St, va_D (xA a) (wX cI cZ a S)) {S : St} {o : Int32} (hf : f_X7_isWhole S = some o) : Met l yX7_isWhole wsX7_isWhole rmX7_isWhole (tPc D cI cZ (wX cI cZ a) S ([.ref (a 1)] : List Value)) (tQi D (wX cI cZ a) (xA a) S o) 0 0 (xA a) := by
  refine tEnter (cc := cX7_isWhole) (maxL := 1) (ret := (some .boolean)) (own := RX7) hA rfl (by decide) rfl (Nat.le_of_ble_eq_true rfl) (fun p e s m args below meth c C hr hlk hP hS ls hl => ?_)
  obtain ⟨⟨hx, hb, hml, hown, hts⟩, hK, hN, -⟩ := id C
  have hl : lv_has ls 1 [(0, .ref (a 1))] := hl
  have hin7 := hn_X7_isWhole_7
  have hSS := hS
  rw [f_X7_isWhole] at hf
  revert hP hS
  suffices hsuf : ∀ (H : Heap) (locs : List Loc), va_P D vwCl (wX cI cZ a S) H → va_S (xA a) s.heap H locs → W p l e rmX7_isWhole s m args below meth c H locs 0 0 (MQ below (tQi D (wX cI cZ a) (xA a) S o) args s 0 0 (xA a)) (F0 m 0 ls []) from fun hP hS => hsuf s.heap [] hP hS
  intro H locs hP hS
  refine lv_aload_n hx hb dX7_isWhole_0 rfl (lv_at hl 0 rfl) ?_
  refine gx_7_1 C hin7 hP (List.mem_of_getElem? (i := 1) rfl) dX7_isWhole_1 ?_
  refine lv_bipush (v := (6 : Int32)) hx hb dX7_isWhole_4 (by decide) ?_
  refine lv_icmp_lt (tgt := 25) hx hb dX7_isWhole_6 (by decide) (fun c1 => ?_) (fun c1 => ?_)
  · have hf := if_p hf c1
    refine lv_iconst (v := (0 : Int32)) hx hb dX7_isWhole_25 (by decide) ?_
    obtain rfl := Option.some.inj hf
    exact tRet_z (v := (0 : Int32)) C hr hlk hP hS rfl dX7_isWhole_26
  · have hf := if_n hf c1
    refine lv_aload_n hx hb dX7_isWhole_9 rfl (lv_at hl 0 rfl) ?_
    refine gx_7_1 C hin7 hP (List.mem_of_getElem? (i := 1) rfl) dX7_isWhole_10 ?_
    refine lv_bipush (v := (6 : Int32)) hx hb dX7_isWhole_13 (by decide) ?_
    refine lv_isub hx hb dX7_isWhole_15 ?_
    refine lv_iconst (v := (4 : Int32)) hx hb dX7_isWhole_16 (by decide) ?_
    refine lv_irem hx hb dX7_isWhole_17 (by decide) ?_
    refine lv_if_ne (tgt := 25) hx hb dX7_isWhole_18 (by decide) (fun c2 => ?_) (fun c2 => ?_)
    · have hf := if_n hf c2
      refine lv_iconst (v := (0 : Int32)) hx hb dX7_isWhole_25 (by decide) ?_
      obtain rfl := Option.some.inj hf
      exact tRet_z (v := (0 : Int32)) C hr hlk hP hS rfl dX7_isWhole_26
    · have hf := if_p hf c2
      refine lv_iconst (v := (1 : Int32)) hx hb dX7_isWhole_21 (by decide) ?_
      refine lv_goto (tgt := 26) hx hb dX7_isWhole_22 (by decide) ?_
      obtain rfl := Option.some.inj hf
      exact tRet_z (v := (1 : Int32)) C hr hlk hP hS rfl dX7_isWhole_26
def rmX7_firstFault : Room := { frames := 5, cells := 0, slots := 0, locals := 108 }
theorem hn_X7_firstFault_7 : ∀ w ∈ wsX70, w ∈ wsX7_firstFault := fun w h => List.mem_cons_of_mem _ (List.mem_append_right _ h)
theorem hd_X7_firstFault : yX7_firstFault.cls ≠ "java/lang/invoke/MethodHandle" ∧ yX7_firstFault.cls ≠ "java/lang/invoke/VarHandle" ∧ (parseMethodDescriptor yX7_firstFault.desc).map (fun d => d.parameters.length) = some 0 := by decide +kernel
set_option maxHeartbeats 4000000 in
set_option maxRecDepth 100000 in
theorem lp_X7_firstFault_2 {p : Program} {l : Launch} {e : Env} {s : State} {m : MethodId} {args : Array Value} {below : List Frame} {meth : Method} {c : Code} {D : va_G} {cI cZ : ClassId} {a : Nat → Nat} {Q : State → Prop} {H0 : Heap} {S : St} {o : Nat × Int32}
    (C : tC p c s m args cX7_firstFault 2 RX7 wsX7_firstFault D cI cZ (wX cI cZ a) (xA a))
    (K0 : o.1 = 0 → ∀ (H : Heap) (locs : List Loc) (ls : Array Slot), va_P D vwCl (wX cI cZ a S) H → va_S (xA a) H0 H locs → lv_has ls 2 [(1, .int o.2)] → W p l e rmX7_firstFault s m args below meth c H locs 0 0 Q (F0 m 18 ls []))
    (K1 : o.1 = 1 → ∀ (H : Heap) (locs : List Loc) (ls : Array Slot), va_P D vwCl (wX cI cZ a S) H → va_S (xA a) H0 H locs → lv_has ls 2 [(0, .ref (a 1))] → W p l e rmX7_firstFault s m args below meth c H locs 0 0 Q (F0 m 26 ls [])) :
    ∀ (n : Nat) (x1 : Int32), l_X7_firstFault_2 S n x1 = some o → ∀ (H : Heap) (locs : List Loc) (ls : Array Slot), va_P D vwCl (wX cI cZ a S) H → va_S (xA a) H0 H locs → lv_has ls 2 [(0, .ref (a 1)), (1, .int x1)] → W p l e rmX7_firstFault s m args below meth c H locs 0 0 Q (F0 m 2 ls []) := by
  obtain ⟨⟨hx, hb, hml, hown, hts⟩, hK, hN, hA⟩ := id C
  have hin7 := hn_X7_firstFault_7
  intro n
  induction n with
  | zero =>
    intro x1 hf
    rw [l_X7_firstFault_2] at hf
    cases hf
  | succ n ih =>
    intro x1 hf H locs ls hP hS hl
    rw [l_X7_firstFault_2] at hf
    refine lv_iload_n hx hb dX7_firstFault_2 rfl (lv_at hl 1 rfl) ?_
    refine lv_aload_n hx hb dX7_firstFault_3 rfl (lv_at hl 0 rfl) ?_
    refine gx_7_1 C hin7 hP (List.mem_of_getElem? (i := 1) rfl) dX7_firstFault_4 ?_
    refine lv_icmp_ge (tgt := 26) hx hb dX7_firstFault_7 (by decide) (fun c1 => ?_) (fun c1 => ?_)
    · have hf := if_p hf c1
      obtain rfl := Option.some.inj hf
      exact K1 rfl H locs ls hP hS (lv_sub hl [0] rfl)
    · have hf := if_n hf c1
      refine lv_aload_n hx hb dX7_firstFault_10 rfl (lv_at hl 0 rfl) ?_
      refine lv_iload_n hx hb dX7_firstFault_11 rfl (lv_at hl 1 rfl) ?_
      obtain ⟨r12, hc12, hf⟩ := ob hf
      refine tCallVi (As := [.int x1]) (rest := []) (q0 := 1) (ci := 7) C hP hS rfl rfl (c_X7_mayStand l C.2.2.2 hc12) (cwV 1 hts gX7_firstFault_X7_mayStand rfl rfl rfl ⟨rfl, hd_X7_mayStand⟩ ⟨Nat.le_of_ble_eq_true rfl, Nat.le_of_ble_eq_true rfl⟩) rfl hl rfl (Nat.le_of_ble_eq_true rfl) dX7_firstFault_12 ⟨Nat.le_refl 0, Nat.le_refl 0⟩ (fun H locs hP hS => ?_)
      refine lv_if_ne (tgt := 20) hx hb dX7_firstFault_15 (by decide) (fun c2 => ?_) (fun c2 => ?_)
      · have hf := if_n hf c2
        refine lv_iinc (v := (x1 + 1)) (lv' := [(1, .int (x1 + 1)), (0, .ref (a 1))]) hx hb dX7_firstFault_20 hl (k := 1) rfl rfl (Nat.le_of_ble_eq_true rfl) rfl (fun ls hl => ?_)
        refine lv_goto (tgt := 2) hx hb dX7_firstFault_23 (by decide) ?_
        exact ih _ hf H locs ls hP hS (lv_sub hl [1, 0] rfl)
      · have hf := if_p hf c2
        obtain rfl := Option.some.inj hf
        exact K0 rfl H locs ls hP hS (lv_sub hl [1] rfl)
set_option maxHeartbeats 4000000 in
set_option maxRecDepth 100000 in
theorem c_X7_firstFault (l : Launch) {D : va_G} {cI cZ : ClassId} {a : Nat → Nat} (hA : ∀ S : St, va_D (xA a) (wX cI cZ a S)) {S : St} {o : Int32} (hf : f_X7_firstFault S = some o) : Met l yX7_firstFault wsX7_firstFault rmX7_firstFault (tPc D cI cZ (wX cI cZ a) S ([.ref (a 1)] : List Value)) (tQi D (wX cI cZ a) (xA a) S o) 0 0 (xA a) := by
  refine tEnter (cc := cX7_firstFault) (maxL := 2) (ret := (some .int)) (own := RX7) hA rfl (by decide) rfl (Nat.le_of_ble_eq_true rfl) (fun p e s m args below meth c C hr hlk hP hS ls hl => ?_)
  obtain ⟨⟨hx, hb, hml, hown, hts⟩, hK, hN, -⟩ := id C
  have hl : lv_has ls 2 [(0, .ref (a 1))] := hl
  have hin7 := hn_X7_firstFault_7
  have hSS := hS
  rw [f_X7_firstFault] at hf
  revert hP hS
  suffices hsuf : ∀ (H : Heap) (locs : List Loc), va_P D vwCl (wX cI cZ a S) H → va_S (xA a) s.heap H locs → W p l e rmX7_firstFault s m args below meth c H locs 0 0 (MQ below (tQi D (wX cI cZ a) (xA a) S o) args s 0 0 (xA a)) (F0 m 0 ls []) from fun hP hS => hsuf s.heap [] hP hS
  intro H locs hP hS
  refine lv_iconst (v := (0 : Int32)) hx hb dX7_firstFault_0 (by decide) ?_
  refine lv_istore_n (lv' := [(1, .int (0 : Int32)), (0, .ref (a 1))]) hx hb dX7_firstFault_1 rfl hl (Nat.le_of_ble_eq_true rfl) rfl (fun ls hl => ?_)
  obtain ⟨o2, hc2, hf⟩ := ob hf
  refine lp_X7_firstFault_2 C (fun ho H locs ls hP hS hl => ?_) (fun ho H locs ls hP hS hl => ?_) fuel _ hc2 H locs ls hP hS (lv_sub hl [1, 0] rfl)
  · have hf := if_p hf ho
    refine lv_iload_n hx hb dX7_firstFault_18 rfl (lv_at hl 0 rfl) ?_
    obtain rfl := Option.some.inj hf
    exact tRet_i C hr hlk hP hS dX7_firstFault_19
  · have hf := if_n hf (show ¬ o2.1 = 0 by rw [ho]; decide)
    refine lv_aload_n hx hb dX7_firstFault_26 rfl (lv_at hl 0 rfl) ?_
    obtain ⟨r27, hc27, hf⟩ := ob hf
    refine tCallVi (As := []) (rest := []) (q0 := 1) (ci := 7) C hP hS rfl rfl (c_X7_isWhole l C.2.2.2 hc27) (cwV 0 hts gX7_firstFault_X7_isWhole rfl rfl rfl ⟨rfl, hd_X7_isWhole⟩ ⟨Nat.le_of_ble_eq_true rfl, Nat.le_of_ble_eq_true rfl⟩) rfl hl rfl (Nat.le_of_ble_eq_true rfl) dX7_firstFault_27 ⟨Nat.le_refl 0, Nat.le_refl 0⟩ (fun H locs hP hS => ?_)
    refine lv_if_eq (tgt := 38) hx hb dX7_firstFault_30 (by decide) (fun c3 => ?_) (fun c3 => ?_)
    · have hf := if_p hf c3
      refine lv_aload_n hx hb dX7_firstFault_38 rfl (lv_at hl 0 rfl) ?_
      refine gx_7_1 C hin7 hP (List.mem_of_getElem? (i := 1) rfl) dX7_firstFault_39 ?_
      obtain rfl := Option.some.inj hf
      exact tRet_i C hr hlk hP hS dX7_firstFault_42
    · have hf := if_n hf c3
      refine lv_bipush (v := (-9 : Int32)) hx hb dX7_firstFault_33 (by decide) ?_
      refine lv_goto (tgt := 42) hx hb dX7_firstFault_35 (by decide) ?_
      obtain rfl := Option.some.inj hf
      exact tRet_i C hr hlk hP hS dX7_firstFault_42
def rmX9_fault : Room := { frames := 6, cells := 0, slots := 0, locals := 129 }
theorem hn_X9_fault_9 : ∀ w ∈ wsX90, w ∈ wsX9_fault := fun w h => List.mem_cons_of_mem _ (List.mem_append_left _ (List.mem_append_right _ h))
theorem hd_X9_fault : yX9_fault.cls ≠ "java/lang/invoke/MethodHandle" ∧ yX9_fault.cls ≠ "java/lang/invoke/VarHandle" ∧ (parseMethodDescriptor yX9_fault.desc).map (fun d => d.parameters.length) = some 0 := by decide +kernel
set_option maxHeartbeats 4000000 in
set_option maxRecDepth 100000 in
theorem c_X9_fault (l : Launch) {D : va_G} {cI cZ : ClassId} {a : Nat → Nat} (hA : ∀ S : St, va_D (xA a) (wX cI cZ a S)) {S : St} {o : Int32} (hf : f_X9_fault S = some o) : Met l yX9_fault wsX9_fault rmX9_fault (tPc D cI cZ (wX cI cZ a) S ([.ref (a 0)] : List Value)) (tQi D (wX cI cZ a) (xA a) S o) 0 0 (xA a) := by
  refine tEnter (cc := cX9_fault) (maxL := 1) (ret := (some .int)) (own := RX9) hA rfl (by decide) rfl (Nat.le_of_ble_eq_true rfl) (fun p e s m args below meth c C hr hlk hP hS ls hl => ?_)
  obtain ⟨⟨hx, hb, hml, hown, hts⟩, hK, hN, -⟩ := id C
  have hl : lv_has ls 1 [(0, .ref (a 0))] := hl
  have hin9 := hn_X9_fault_9
  have hSS := hS
  rw [f_X9_fault] at hf
  revert hP hS
  suffices hsuf : ∀ (H : Heap) (locs : List Loc), va_P D vwCl (wX cI cZ a S) H → va_S (xA a) s.heap H locs → W p l e rmX9_fault s m args below meth c H locs 0 0 (MQ below (tQi D (wX cI cZ a) (xA a) S o) args s 0 0 (xA a)) (F0 m 0 ls []) from fun hP hS => hsuf s.heap [] hP hS
  intro H locs hP hS
  refine lv_aload_n hx hb dX9_fault_0 rfl (lv_at hl 0 rfl) ?_
  refine gx_9_0 C hin9 hP (List.mem_of_getElem? (i := 1) rfl) dX9_fault_1 ?_
  obtain ⟨r4, hc4, hf⟩ := ob hf
  refine tCallVi (As := []) (rest := []) (q0 := 1) (ci := 7) C hP hS rfl rfl (c_X7_firstFault l C.2.2.2 hc4) (cwV 0 hts gX9_fault_X7_firstFault rfl rfl rfl ⟨rfl, hd_X7_firstFault⟩ ⟨Nat.le_of_ble_eq_true rfl, Nat.le_of_ble_eq_true rfl⟩) rfl hl rfl (Nat.le_of_ble_eq_true rfl) dX9_fault_4 ⟨Nat.le_refl 0, Nat.le_refl 0⟩ (fun H locs hP hS => ?_)
  obtain rfl := Option.some.inj hf
  exact tRet_i C hr hlk hP hS dX9_fault_7
def rmX7_stages : Room := { frames := 0, cells := 0, slots := 0, locals := 0 }
theorem hn_X7_stages_7 : ∀ w ∈ wsX70, w ∈ wsX7_stages := fun w h => List.mem_cons_of_mem _ (List.mem_append_right _ h)
theorem hd_X7_stages : yX7_stages.cls ≠ "java/lang/invoke/MethodHandle" ∧ yX7_stages.cls ≠ "java/lang/invoke/VarHandle" ∧ (parseMethodDescriptor yX7_stages.desc).map (fun d => d.parameters.length) = some 0 := by decide +kernel
set_option maxHeartbeats 4000000 in
set_option maxRecDepth 100000 in
theorem c_X7_stages (l : Launch) {D : va_G} {cI cZ : ClassId} {a : Nat → Nat} (hA : ∀ S : St, va_D (xA a) (wX cI cZ a S)) {S : St} {o : Int32} (hf : f_X7_stages S = some o) : Met l yX7_stages wsX7_stages rmX7_stages (tPc D cI cZ (wX cI cZ a) S ([.ref (a 1)] : List Value)) (tQi D (wX cI cZ a) (xA a) S o) 0 0 (xA a) := by
  refine tEnter (cc := cX7_stages) (maxL := 1) (ret := (some .int)) (own := RX7) hA rfl (by decide) rfl (Nat.le_of_ble_eq_true rfl) (fun p e s m args below meth c C hr hlk hP hS ls hl => ?_)
  obtain ⟨⟨hx, hb, hml, hown, hts⟩, hK, hN, -⟩ := id C
  have hl : lv_has ls 1 [(0, .ref (a 1))] := hl
  have hin7 := hn_X7_stages_7
  have hSS := hS
  rw [f_X7_stages] at hf
  revert hP hS
  suffices hsuf : ∀ (H : Heap) (locs : List Loc), va_P D vwCl (wX cI cZ a S) H → va_S (xA a) s.heap H locs → W p l e rmX7_stages s m args below meth c H locs 0 0 (MQ below (tQi D (wX cI cZ a) (xA a) S o) args s 0 0 (xA a)) (F0 m 0 ls []) from fun hP hS => hsuf s.heap [] hP hS
  intro H locs hP hS
  refine lv_aload_n hx hb dX7_stages_0 rfl (lv_at hl 0 rfl) ?_
  refine gx_7_1 C hin7 hP (List.mem_of_getElem? (i := 1) rfl) dX7_stages_1 ?_
  refine lv_bipush (v := (6 : Int32)) hx hb dX7_stages_4 (by decide) ?_
  refine lv_isub hx hb dX7_stages_6 ?_
  refine lv_iconst (v := (4 : Int32)) hx hb dX7_stages_7 (by decide) ?_
  refine lv_idiv hx hb dX7_stages_8 (by decide) ?_
  obtain rfl := Option.some.inj hf
  exact tRet_i C hr hlk hP hS dX7_stages_9
def rmX3_errorOfGround : Room := { frames := 0, cells := 0, slots := 0, locals := 0 }
theorem hd_X3_errorOfGround : yX3_errorOfGround.cls ≠ "java/lang/invoke/MethodHandle" ∧ yX3_errorOfGround.cls ≠ "java/lang/invoke/VarHandle" ∧ (parseMethodDescriptor yX3_errorOfGround.desc).map (fun d => d.parameters.length) = some 2 := by decide +kernel
set_option maxHeartbeats 4000000 in
set_option maxRecDepth 100000 in
theorem c_X3_errorOfGround (l : Launch) {D : va_G} {cI cZ : ClassId} {a : Nat → Nat} (hA : ∀ S : St, va_D (xA a) (wX cI cZ a S)) {x0 : Int32} {x1 : Int32} {S : St} {o : Int32} (hf : f_X3_errorOfGround x0 x1 = some o) : Met l yX3_errorOfGround wsX3_errorOfGround rmX3_errorOfGround (tPc D cI cZ (wX cI cZ a) S ([.int x0, .int x1] : List Value)) (tQi D (wX cI cZ a) (xA a) S o) 0 0 (xA a) := by
  refine tEnter (cc := cX3_errorOfGround) (maxL := 2) (ret := (some .int)) (own := RX3) hA rfl (by decide) rfl (Nat.le_of_ble_eq_true rfl) (fun p e s m args below meth c C hr hlk hP hS ls hl => ?_)
  obtain ⟨⟨hx, hb, hml, hown, hts⟩, hK, hN, -⟩ := id C
  have hl : lv_has ls 2 [(0, .int x0), (1, .int x1)] := hl
  have hSS := hS
  rw [f_X3_errorOfGround] at hf
  revert hP hS
  suffices hsuf : ∀ (H : Heap) (locs : List Loc), va_P D vwCl (wX cI cZ a S) H → va_S (xA a) s.heap H locs → W p l e rmX3_errorOfGround s m args below meth c H locs 0 0 (MQ below (tQi D (wX cI cZ a) (xA a) S o) args s 0 0 (xA a)) (F0 m 0 ls []) from fun hP hS => hsuf s.heap [] hP hS
  intro H locs hP hS
  refine lv_iload_n hx hb dX3_errorOfGround_0 rfl (lv_at hl 0 rfl) ?_
  by_cases c1 : x0 = (1 : Int32)
  · have hf := if_p hf c1
    refine lv_tableIn (tgt := 28) hx hb dX3_errorOfGround_1 (by rw [c1]; decide) (by rw [c1]; decide) (by first | (rw [c1]; done) | (rw [c1]; rfl)) (by decide) ?_
    refine lv_iload_n hx hb dX3_errorOfGround_28 rfl (lv_at hl 1 rfl) ?_
    refine lv_ineg hx hb dX3_errorOfGround_29 ?_
    refine lv_iload_n hx hb dX3_errorOfGround_30 rfl (lv_at hl 1 rfl) ?_
    refine lv_imul hx hb dX3_errorOfGround_31 ?_
    obtain rfl := Option.some.inj hf
    exact tRet_i C hr hlk hP hS dX3_errorOfGround_32
  have hf := if_n hf c1
  by_cases c2 : x0 = (2 : Int32)
  · have hf := if_p hf c2
    refine lv_tableIn (tgt := 33) hx hb dX3_errorOfGround_1 (by rw [c2]; decide) (by rw [c2]; decide) (by first | (rw [c2]; done) | (rw [c2]; rfl)) (by decide) ?_
    refine lv_iload_n hx hb dX3_errorOfGround_33 rfl (lv_at hl 1 rfl) ?_
    refine lv_ineg hx hb dX3_errorOfGround_34 ?_
    obtain rfl := Option.some.inj hf
    exact tRet_i C hr hlk hP hS dX3_errorOfGround_35
  have hf := if_n hf c2
  by_cases c3 : x0 = (3 : Int32)
  · have hf := if_p hf c3
    refine lv_tableIn (tgt := 36) hx hb dX3_errorOfGround_1 (by rw [c3]; decide) (by rw [c3]; decide) (by first | (rw [c3]; done) | (rw [c3]; rfl)) (by decide) ?_
    refine lv_bipush (v := (-2 : Int32)) hx hb dX3_errorOfGround_36 (by decide) ?_
    refine lv_iload_n hx hb dX3_errorOfGround_38 rfl (lv_at hl 1 rfl) ?_
    refine lv_imul hx hb dX3_errorOfGround_39 ?_
    obtain rfl := Option.some.inj hf
    exact tRet_i C hr hlk hP hS dX3_errorOfGround_40
  have hf := if_n hf c3
  refine lv_tableOut (tgt := 41) hx hb dX3_errorOfGround_1 (by have q1 := lv_neT (a := 1) c1 (by decide); have q2 := lv_neT (a := 2) c2 (by decide); have q3 := lv_neT (a := 3) c3 (by decide); omega) (by decide) ?_
  refine lv_iconst (v := (0 : Int32)) hx hb dX3_errorOfGround_41 (by decide) ?_
  obtain rfl := Option.some.inj hf
  exact tRet_i C hr hlk hP hS dX3_errorOfGround_42
def rmX3_read_a1 : Room := { frames := 2, cells := 0, slots := 0, locals := 42 }
theorem hn_X3_read_a1_3 : ∀ w ∈ wsX30, w ∈ wsX3_read := fun w h => List.mem_cons_of_mem _ (List.mem_append_left _ (List.mem_append_right _ h))
theorem hd_X3_read : yX3_read.cls ≠ "java/lang/invoke/MethodHandle" ∧ yX3_read.cls ≠ "java/lang/invoke/VarHandle" ∧ (parseMethodDescriptor yX3_read.desc).map (fun d => d.parameters.length) = some 1 := by decide +kernel
set_option maxHeartbeats 4000000 in
set_option maxRecDepth 100000 in
theorem lp_X3_read_a1_70 {p : Program} {l : Launch} {e : Env} {s : State} {m : MethodId} {args : Array Value} {below : List Frame} {meth : Method} {c : Code} {D : va_G} {cI cZ : ClassId} {a : Nat → Nat} {Q : State → Prop} {H0 : Heap} {o : St}
    (C : tC p c s m args cX3_read 4 RX3 wsX3_read D cI cZ (wX cI cZ a) (xA a))
    (K0 : ∀ (H : Heap) (locs : List Loc) (ls : Array Slot), va_P D vwCl (wX cI cZ a o) H → va_S (xA a) H0 H locs → lv_has ls 4 [] → W p l e rmX3_read_a1 s m args below meth c H locs 0 0 Q (F0 m 157 ls [])) :
    ∀ (n : Nat) (x2 : Int32) (S : St), l_X3_read_a1_70 n x2 S = some o → ∀ (H : Heap) (locs : List Loc) (ls : Array Slot), va_P D vwCl (wX cI cZ a S) H → va_S (xA a) H0 H locs → lv_has ls 4 [(0, .ref (a 3)), (1, .ref (a 1)), (2, .int x2)] → W p l e rmX3_read_a1 s m args below meth c H locs 0 0 Q (F0 m 70 ls []) := by
  obtain ⟨⟨hx, hb, hml, hown, hts⟩, hK, hN, hA⟩ := id C
  have hin3 := hn_X3_read_a1_3
  intro n
  induction n with
  | zero =>
    intro x2 S hf
    rw [l_X3_read_a1_70] at hf
    cases hf
  | succ n ih =>
    intro x2 S hf H locs ls hP hS hl
    rw [l_X3_read_a1_70] at hf
    refine lv_iload_n hx hb dX3_read_70 rfl (lv_at hl 2 rfl) ?_
    refine lv_aload_n hx hb dX3_read_71 rfl (lv_at hl 0 rfl) ?_
    refine gx_3_5 C hin3 hP (List.mem_of_getElem? (i := 13) rfl) dX3_read_72 ?_
    refine lv_icmp_ge (tgt := 157) hx hb dX3_read_75 (by decide) (fun c1 => ?_) (fun c1 => ?_)
    · have hf := if_p hf c1
      obtain rfl := Option.some.inj hf
      exact K0 H locs ls hP hS (lv_sub hl [] rfl)
    · have hf := if_n hf c1
      refine lv_iload_n hx hb dX3_read_78 rfl (lv_at hl 2 rfl) ?_
      refine lv_bipush (v := (8 : Int32)) hx hb dX3_read_79 (by decide) ?_
      refine lv_icmp_ge (tgt := 157) hx hb dX3_read_81 (by decide) (fun c2 => ?_) (fun c2 => ?_)
      · have hf := if_p hf c2
        obtain rfl := Option.some.inj hf
        exact K0 H locs ls hP hS (lv_sub hl [] rfl)
      · have hf := if_n hf c2
        refine lv_bipush (v := (6 : Int32)) hx hb dX3_read_84 (by decide) ?_
        refine lv_iconst (v := (4 : Int32)) hx hb dX3_read_86 (by decide) ?_
        refine lv_iload_n hx hb dX3_read_87 rfl (lv_at hl 2 rfl) ?_
        refine lv_imul hx hb dX3_read_88 ?_
        refine lv_iadd hx hb dX3_read_89 ?_
        refine lv_topi (fun v90 e90 => ?_)
        have hf := nm_i hf e90
        refine lv_istore_n (lv' := [(3, .int v90), (0, .ref (a 3)), (1, .ref (a 1)), (2, .int x2)]) hx hb dX3_read_90 rfl hl (Nat.le_of_ble_eq_true rfl) rfl (fun ls hl => ?_)
        refine lv_aload_n hx hb dX3_read_91 rfl (lv_at hl 1 rfl) ?_
        refine gx_3_6 C hin3 hP (List.mem_of_getElem? (i := 14) rfl) dX3_read_92 ?_
        refine lv_iload_n hx hb dX3_read_95 rfl (lv_at hl 3 rfl) ?_
        refine lv_aload_n hx hb dX3_read_96 rfl (lv_at hl 2 rfl) ?_
        refine lv_iload_n hx hb dX3_read_97 rfl (lv_at hl 0 rfl) ?_
        refine lv_iconst (v := (1 : Int32)) hx hb dX3_read_98 (by decide) ?_
        refine lv_iadd hx hb dX3_read_99 ?_
        obtain ⟨r100, hc100, hf⟩ := ob hf
        refine tCallVi (As := [.int (v90 + (1 : Int32))]) (rest := [.int x2, .ref (a 4)]) (q0 := 1) (ci := 7) C hP hS rfl rfl (c_X7_digitAt l C.2.2.2 hc100) (cwV 1 hts gX3_read_X7_digitAt rfl rfl rfl ⟨rfl, hd_X7_digitAt⟩ ⟨Nat.le_of_ble_eq_true rfl, Nat.le_of_ble_eq_true rfl⟩) rfl hl rfl (Nat.le_of_ble_eq_true rfl) dX3_read_100 ⟨Nat.le_refl 0, Nat.le_refl 0⟩ (fun H locs hP hS => ?_)
        obtain ⟨hi3, hf⟩ := ob_in hf
        refine stx_1 C hP hS rfl hi3 dX3_read_103 (fun H locs hP hS => ?_)
        obtain ⟨S103, eS103⟩ : ∃ z, z = (sA S 1 x2.toNatClampNeg r100) := ⟨_, rfl⟩
        rw [← eS103] at hP
        have hf := nm_i hf eS103
        refine lv_aload_n hx hb dX3_read_104 rfl (lv_at hl 1 rfl) ?_
        refine gx_3_7 C hin3 hP (List.mem_of_getElem? (i := 15) rfl) dX3_read_105 ?_
        refine lv_iload_n hx hb dX3_read_108 rfl (lv_at hl 3 rfl) ?_
        refine lv_aload_n hx hb dX3_read_109 rfl (lv_at hl 2 rfl) ?_
        refine lv_iload_n hx hb dX3_read_110 rfl (lv_at hl 0 rfl) ?_
        refine lv_iconst (v := (2 : Int32)) hx hb dX3_read_111 (by decide) ?_
        refine lv_iadd hx hb dX3_read_112 ?_
        obtain ⟨r113, hc113, hf⟩ := ob hf
        refine tCallVi (As := [.int (v90 + (2 : Int32))]) (rest := [.int x2, .ref (a 5)]) (q0 := 1) (ci := 7) C hP hS rfl rfl (c_X7_digitAt l C.2.2.2 hc113) (cwV 1 hts gX3_read_X7_digitAt rfl rfl rfl ⟨rfl, hd_X7_digitAt⟩ ⟨Nat.le_of_ble_eq_true rfl, Nat.le_of_ble_eq_true rfl⟩) rfl hl rfl (Nat.le_of_ble_eq_true rfl) dX3_read_113 ⟨Nat.le_refl 0, Nat.le_refl 0⟩ (fun H locs hP hS => ?_)
        obtain ⟨hi4, hf⟩ := ob_in hf
        refine stx_2 C hP hS rfl hi4 dX3_read_116 (fun H locs hP hS => ?_)
        obtain ⟨S116, eS116⟩ : ∃ z, z = (sA S103 2 x2.toNatClampNeg r113) := ⟨_, rfl⟩
        rw [← eS116] at hP
        have hf := nm_i hf eS116
        refine lv_aload_n hx hb dX3_read_117 rfl (lv_at hl 1 rfl) ?_
        refine gx_3_8 C hin3 hP (List.mem_of_getElem? (i := 16) rfl) dX3_read_118 ?_
        refine lv_iload_n hx hb dX3_read_121 rfl (lv_at hl 3 rfl) ?_
        refine lv_aload_n hx hb dX3_read_122 rfl (lv_at hl 2 rfl) ?_
        refine lv_iload_n hx hb dX3_read_123 rfl (lv_at hl 0 rfl) ?_
        refine lv_iconst (v := (3 : Int32)) hx hb dX3_read_124 (by decide) ?_
        refine lv_iadd hx hb dX3_read_125 ?_
        obtain ⟨r126, hc126, hf⟩ := ob hf
        refine tCallVi (As := [.int (v90 + (3 : Int32))]) (rest := [.int x2, .ref (a 6)]) (q0 := 1) (ci := 7) C hP hS rfl rfl (c_X7_digitAt l C.2.2.2 hc126) (cwV 1 hts gX3_read_X7_digitAt rfl rfl rfl ⟨rfl, hd_X7_digitAt⟩ ⟨Nat.le_of_ble_eq_true rfl, Nat.le_of_ble_eq_true rfl⟩) rfl hl rfl (Nat.le_of_ble_eq_true rfl) dX3_read_126 ⟨Nat.le_refl 0, Nat.le_refl 0⟩ (fun H locs hP hS => ?_)
        obtain ⟨hi5, hf⟩ := ob_in hf
        refine stx_3 C hP hS rfl hi5 dX3_read_129 (fun H locs hP hS => ?_)
        obtain ⟨S129, eS129⟩ : ∃ z, z = (sA S116 3 x2.toNatClampNeg r126) := ⟨_, rfl⟩
        rw [← eS129] at hP
        have hf := nm_i hf eS129
        refine lv_aload_n hx hb dX3_read_130 rfl (lv_at hl 1 rfl) ?_
        refine gx_3_9 C hin3 hP (List.mem_of_getElem? (i := 17) rfl) dX3_read_131 ?_
        refine lv_iload_n hx hb dX3_read_134 rfl (lv_at hl 3 rfl) ?_
        refine lv_aload_n hx hb dX3_read_135 rfl (lv_at hl 1 rfl) ?_
        refine gx_3_6 C hin3 hP (List.mem_of_getElem? (i := 14) rfl) dX3_read_136 ?_
        refine lv_iload_n hx hb dX3_read_139 rfl (lv_at hl 3 rfl) ?_
        obtain ⟨hi6, hf⟩ := ob_in hf
        refine ldx_1 C hP rfl hi6 dX3_read_140 ?_
        refine lv_aload_n hx hb dX3_read_141 rfl (lv_at hl 1 rfl) ?_
        refine gx_3_7 C hin3 hP (List.mem_of_getElem? (i := 15) rfl) dX3_read_142 ?_
        refine lv_iload_n hx hb dX3_read_145 rfl (lv_at hl 3 rfl) ?_
        obtain ⟨hi7, hf⟩ := ob_in hf
        refine ldx_2 C hP rfl hi7 dX3_read_146 ?_
        obtain ⟨r147, hc147, hf⟩ := ob hf
        refine tCallSi (As := [.int (S129.2.1 1 x2.toNatClampNeg), .int (S129.2.1 2 x2.toNatClampNeg)]) (rest := [.int x2, .ref (a 20)]) C hP hS (c_X3_errorOfGround l C.2.2.2 hc147) (va_cwS 2 hts gX3_read_X3_errorOfGround rfl rfl rfl hd_X3_errorOfGround ⟨Nat.le_of_ble_eq_true rfl, Nat.le_of_ble_eq_true rfl⟩) rfl hl rfl (Nat.le_of_ble_eq_true rfl) dX3_read_147 ⟨Nat.le_refl 0, Nat.le_refl 0⟩ (fun H locs hP hS => ?_)
        obtain ⟨hi8, hf⟩ := ob_in hf
        refine stx_10 C hP hS rfl hi8 dX3_read_150 (fun H locs hP hS => ?_)
        obtain ⟨S150, eS150⟩ : ∃ z, z = (sA S129 10 x2.toNatClampNeg r147) := ⟨_, rfl⟩
        rw [← eS150] at hP
        have hf := nm_i hf eS150
        refine lv_iinc (v := (x2 + 1)) (lv' := [(2, .int (x2 + 1)), (3, .int v90), (0, .ref (a 3)), (1, .ref (a 1))]) hx hb dX3_read_151 hl (k := 3) rfl rfl (Nat.le_of_ble_eq_true rfl) rfl (fun ls hl => ?_)
        refine lv_goto (tgt := 70) hx hb dX3_read_154 (by decide) ?_
        exact ih _ _ hf H locs ls hP hS (lv_sub hl [2, 3, 0] rfl)
set_option maxHeartbeats 4000000 in
set_option maxRecDepth 100000 in
theorem c_X3_read_a1 (l : Launch) {D : va_G} {cI cZ : ClassId} {a : Nat → Nat} (hA : ∀ S : St, va_D (xA a) (wX cI cZ a S)) {S : St} {o : St} (hf : f_X3_read_a1 S = some o) : Met l yX3_read wsX3_read rmX3_read_a1 (tPc D cI cZ (wX cI cZ a) S ([.ref (a 3), .ref (a 1)] : List Value)) (tQv D (wX cI cZ a) (xA a) o) 0 0 (xA a) := by
  refine tEnter (cc := cX3_read) (maxL := 4) (ret := none) (own := RX3) hA rfl (by decide) rfl (Nat.le_of_ble_eq_true rfl) (fun p e s m args below meth c C hr hlk hP hS ls hl => ?_)
  obtain ⟨⟨hx, hb, hml, hown, hts⟩, hK, hN, -⟩ := id C
  have hl : lv_has ls 4 [(0, .ref (a 3)), (1, .ref (a 1))] := hl
  have hin3 := hn_X3_read_a1_3
  have hSS := hS
  rw [f_X3_read_a1] at hf
  revert hP hS
  suffices hsuf : ∀ (H : Heap) (locs : List Loc), va_P D vwCl (wX cI cZ a S) H → va_S (xA a) s.heap H locs → W p l e rmX3_read_a1 s m args below meth c H locs 0 0 (MQ below (tQv D (wX cI cZ a) (xA a) o) args s 0 0 (xA a)) (F0 m 0 ls []) from fun hP hS => hsuf s.heap [] hP hS
  intro H locs hP hS
  refine lv_aload_n hx hb dX3_read_0 rfl (lv_at hl 0 rfl) ?_
  refine lv_aload_n hx hb dX3_read_1 rfl (lv_at hl 1 rfl) ?_
  refine lv_iconst (v := (1 : Int32)) hx hb dX3_read_2 (by decide) ?_
  obtain ⟨r3, hc3, hf⟩ := ob hf
  refine tCallVi (As := [.int (1 : Int32)]) (rest := [.ref (a 3)]) (q0 := 1) (ci := 7) C hP hS rfl rfl (c_X7_digitAt l C.2.2.2 hc3) (cwV 1 hts gX3_read_X7_digitAt rfl rfl rfl ⟨rfl, hd_X7_digitAt⟩ ⟨Nat.le_of_ble_eq_true rfl, Nat.le_of_ble_eq_true rfl⟩) rfl hl rfl (Nat.le_of_ble_eq_true rfl) dX3_read_3 ⟨Nat.le_refl 0, Nat.le_refl 0⟩ (fun H locs hP hS => ?_)
  refine px_3_0 C hin3 hP hS (List.mem_of_getElem? (i := 1) rfl) dX3_read_6 (fun H locs hP hS => ?_)
  obtain ⟨S6, eS6⟩ : ∃ z, z = (sI S 1 r3) := ⟨_, rfl⟩
  rw [← eS6] at hP
  have hf := nm_i hf eS6
  refine lv_aload_n hx hb dX3_read_9 rfl (lv_at hl 0 rfl) ?_
  refine lv_aload_n hx hb dX3_read_10 rfl (lv_at hl 1 rfl) ?_
  refine lv_iconst (v := (2 : Int32)) hx hb dX3_read_11 (by decide) ?_
  obtain ⟨r12, hc12, hf⟩ := ob hf
  refine tCallVi (As := [.int (2 : Int32)]) (rest := [.ref (a 3)]) (q0 := 1) (ci := 7) C hP hS rfl rfl (c_X7_digitAt l C.2.2.2 hc12) (cwV 1 hts gX3_read_X7_digitAt rfl rfl rfl ⟨rfl, hd_X7_digitAt⟩ ⟨Nat.le_of_ble_eq_true rfl, Nat.le_of_ble_eq_true rfl⟩) rfl hl rfl (Nat.le_of_ble_eq_true rfl) dX3_read_12 ⟨Nat.le_refl 0, Nat.le_refl 0⟩ (fun H locs hP hS => ?_)
  refine lv_iconst (v := (5 : Int32)) hx hb dX3_read_15 (by decide) ?_
  refine lv_isub hx hb dX3_read_16 ?_
  refine px_3_1 C hin3 hP hS (List.mem_of_getElem? (i := 2) rfl) dX3_read_17 (fun H locs hP hS => ?_)
  obtain ⟨S17, eS17⟩ : ∃ z, z = (sI S6 2 (r12 - (5 : Int32))) := ⟨_, rfl⟩
  rw [← eS17] at hP
  have hf := nm_i hf eS17
  refine lv_aload_n hx hb dX3_read_20 rfl (lv_at hl 0 rfl) ?_
  refine lv_aload_n hx hb dX3_read_21 rfl (lv_at hl 1 rfl) ?_
  refine lv_iconst (v := (3 : Int32)) hx hb dX3_read_22 (by decide) ?_
  obtain ⟨r23, hc23, hf⟩ := ob hf
  refine tCallVi (As := [.int (3 : Int32)]) (rest := [.ref (a 3)]) (q0 := 1) (ci := 7) C hP hS rfl rfl (c_X7_digitAt l C.2.2.2 hc23) (cwV 1 hts gX3_read_X7_digitAt rfl rfl rfl ⟨rfl, hd_X7_digitAt⟩ ⟨Nat.le_of_ble_eq_true rfl, Nat.le_of_ble_eq_true rfl⟩) rfl hl rfl (Nat.le_of_ble_eq_true rfl) dX3_read_23 ⟨Nat.le_refl 0, Nat.le_refl 0⟩ (fun H locs hP hS => ?_)
  refine px_3_2 C hin3 hP hS (List.mem_of_getElem? (i := 3) rfl) dX3_read_26 (fun H locs hP hS => ?_)
  obtain ⟨S26, eS26⟩ : ∃ z, z = (sI S17 3 r23) := ⟨_, rfl⟩
  rw [← eS26] at hP
  have hf := nm_i hf eS26
  refine lv_aload_n hx hb dX3_read_29 rfl (lv_at hl 0 rfl) ?_
  refine lv_aload_n hx hb dX3_read_30 rfl (lv_at hl 1 rfl) ?_
  refine lv_iconst (v := (4 : Int32)) hx hb dX3_read_31 (by decide) ?_
  obtain ⟨r32, hc32, hf⟩ := ob hf
  refine tCallVi (As := [.int (4 : Int32)]) (rest := [.ref (a 3)]) (q0 := 1) (ci := 7) C hP hS rfl rfl (c_X7_digitAt l C.2.2.2 hc32) (cwV 1 hts gX3_read_X7_digitAt rfl rfl rfl ⟨rfl, hd_X7_digitAt⟩ ⟨Nat.le_of_ble_eq_true rfl, Nat.le_of_ble_eq_true rfl⟩) rfl hl rfl (Nat.le_of_ble_eq_true rfl) dX3_read_32 ⟨Nat.le_refl 0, Nat.le_refl 0⟩ (fun H locs hP hS => ?_)
  refine lv_iconst (v := (5 : Int32)) hx hb dX3_read_35 (by decide) ?_
  refine lv_isub hx hb dX3_read_36 ?_
  refine px_3_3 C hin3 hP hS (List.mem_of_getElem? (i := 4) rfl) dX3_read_37 (fun H locs hP hS => ?_)
  obtain ⟨S37, eS37⟩ : ∃ z, z = (sI S26 4 (r32 - (5 : Int32))) := ⟨_, rfl⟩
  rw [← eS37] at hP
  have hf := nm_i hf eS37
  refine lv_aload_n hx hb dX3_read_40 rfl (lv_at hl 0 rfl) ?_
  refine lv_aload_n hx hb dX3_read_41 rfl (lv_at hl 1 rfl) ?_
  refine lv_iconst (v := (5 : Int32)) hx hb dX3_read_42 (by decide) ?_
  obtain ⟨r43, hc43, hf⟩ := ob hf
  refine tCallVi (As := [.int (5 : Int32)]) (rest := [.ref (a 3)]) (q0 := 1) (ci := 7) C hP hS rfl rfl (c_X7_digitAt l C.2.2.2 hc43) (cwV 1 hts gX3_read_X7_digitAt rfl rfl rfl ⟨rfl, hd_X7_digitAt⟩ ⟨Nat.le_of_ble_eq_true rfl, Nat.le_of_ble_eq_true rfl⟩) rfl hl rfl (Nat.le_of_ble_eq_true rfl) dX3_read_43 ⟨Nat.le_refl 0, Nat.le_refl 0⟩ (fun H locs hP hS => ?_)
  refine lv_iconst (v := (5 : Int32)) hx hb dX3_read_46 (by decide) ?_
  refine lv_isub hx hb dX3_read_47 ?_
  refine px_3_4 C hin3 hP hS (List.mem_of_getElem? (i := 5) rfl) dX3_read_48 (fun H locs hP hS => ?_)
  obtain ⟨S48, eS48⟩ : ∃ z, z = (sI S37 5 (r43 - (5 : Int32))) := ⟨_, rfl⟩
  rw [← eS48] at hP
  have hf := nm_i hf eS48
  refine lv_aload_n hx hb dX3_read_51 rfl (lv_at hl 0 rfl) ?_
  refine lv_iconst (v := (0 : Int32)) hx hb dX3_read_52 (by decide) ?_
  refine lv_bipush (v := (8 : Int32)) hx hb dX3_read_53 (by decide) ?_
  refine lv_aload_n hx hb dX3_read_55 rfl (lv_at hl 1 rfl) ?_
  obtain ⟨r56, hc56, hf⟩ := ob hf
  refine tCallVi (As := []) (rest := [.int (8 : Int32), .int (0 : Int32), .ref (a 3)]) (q0 := 1) (ci := 7) C hP hS rfl rfl (c_X7_stages l C.2.2.2 hc56) (cwV 0 hts gX3_read_X7_stages rfl rfl rfl ⟨rfl, hd_X7_stages⟩ ⟨Nat.le_of_ble_eq_true rfl, Nat.le_of_ble_eq_true rfl⟩) rfl hl rfl (Nat.le_of_ble_eq_true rfl) dX3_read_56 ⟨Nat.le_refl 0, Nat.le_refl 0⟩ (fun H locs hP hS => ?_)
  refine va_mmin hx hb (hml.trans hl.1.symm) hown (hts _ (List.mem_of_getElem? (i := 6) rfl)) (hts _ (List.mem_of_getElem? (i := 7) rfl)) (hts _ (List.mem_of_getElem? (i := 8) rfl)) (hts _ (List.mem_of_getElem? (i := 9) rfl)) (Nat.le_of_ble_eq_true rfl) (Nat.le_of_ble_eq_true rfl) (Nat.le_refl 0) (Nat.le_refl 0) dX3_read_59 ?_
  refine va_mmax hx hb (hml.trans hl.1.symm) hown (hts _ (List.mem_of_getElem? (i := 10) rfl)) (hts _ (List.mem_of_getElem? (i := 11) rfl)) (hts _ (List.mem_of_getElem? (i := 8) rfl)) (hts _ (List.mem_of_getElem? (i := 12) rfl)) (Nat.le_of_ble_eq_true rfl) (Nat.le_of_ble_eq_true rfl) (Nat.le_refl 0) (Nat.le_refl 0) dX3_read_62 ?_
  refine px_3_5 C hin3 hP hS (List.mem_of_getElem? (i := 13) rfl) dX3_read_65 (fun H locs hP hS => ?_)
  obtain ⟨S65, eS65⟩ : ∃ z, z = (sI S48 6 (if (0 : Int32) < (if r56 < (8 : Int32) then r56 else (8 : Int32)) then (if r56 < (8 : Int32) then r56 else (8 : Int32)) else (0 : Int32))) := ⟨_, rfl⟩
  rw [← eS65] at hP
  have hf := nm_i hf eS65
  refine lv_iconst (v := (0 : Int32)) hx hb dX3_read_68 (by decide) ?_
  refine lv_istore_n (lv' := [(2, .int (0 : Int32)), (0, .ref (a 3)), (1, .ref (a 1))]) hx hb dX3_read_69 rfl hl (Nat.le_of_ble_eq_true rfl) rfl (fun ls hl => ?_)
  obtain ⟨o70, hc70, hf⟩ := ob hf
  refine lp_X3_read_a1_70 C (fun H locs ls hP hS hl => ?_) fuel _ _ hc70 H locs ls hP hS (lv_sub hl [1, 2, 0] rfl)
  obtain rfl := Option.some.inj hf
  exact tRet_v C hr hlk hP hS dX3_read_157
def rmX8_begin_a3 : Room := { frames := 0, cells := 0, slots := 0, locals := 0 }
theorem hn_X8_begin_a3_3 : ∀ w ∈ wsX30, w ∈ wsX8_begin := fun w h => List.mem_cons_of_mem _ (List.mem_append_left _ (List.mem_append_right _ h))
theorem hn_X8_begin_a3_8 : ∀ w ∈ wsX80, w ∈ wsX8_begin := fun w h => List.mem_cons_of_mem _ (List.mem_append_right _ h)
theorem hd_X8_begin : yX8_begin.cls ≠ "java/lang/invoke/MethodHandle" ∧ yX8_begin.cls ≠ "java/lang/invoke/VarHandle" ∧ (parseMethodDescriptor yX8_begin.desc).map (fun d => d.parameters.length) = some 1 := by decide +kernel
set_option maxHeartbeats 4000000 in
set_option maxRecDepth 100000 in
theorem c_X8_begin_a3 (l : Launch) {D : va_G} {cI cZ : ClassId} {a : Nat → Nat} (hA : ∀ S : St, va_D (xA a) (wX cI cZ a S)) {S : St} {o : St} (hf : f_X8_begin_a3 S = some o) : Met l yX8_begin wsX8_begin rmX8_begin_a3 (tPc D cI cZ (wX cI cZ a) S ([.ref (a 7), .ref (a 3)] : List Value)) (tQv D (wX cI cZ a) (xA a) o) 0 0 (xA a) := by
  refine tEnter (cc := cX8_begin) (maxL := 2) (ret := none) (own := RX8) hA rfl (by decide) rfl (Nat.le_of_ble_eq_true rfl) (fun p e s m args below meth c C hr hlk hP hS ls hl => ?_)
  obtain ⟨⟨hx, hb, hml, hown, hts⟩, hK, hN, -⟩ := id C
  have hl : lv_has ls 2 [(0, .ref (a 7)), (1, .ref (a 3))] := hl
  have hin3 := hn_X8_begin_a3_3
  have hin8 := hn_X8_begin_a3_8
  have hSS := hS
  rw [f_X8_begin_a3] at hf
  revert hP hS
  suffices hsuf : ∀ (H : Heap) (locs : List Loc), va_P D vwCl (wX cI cZ a S) H → va_S (xA a) s.heap H locs → W p l e rmX8_begin_a3 s m args below meth c H locs 0 0 (MQ below (tQv D (wX cI cZ a) (xA a) o) args s 0 0 (xA a)) (F0 m 0 ls []) from fun hP hS => hsuf s.heap [] hP hS
  intro H locs hP hS
  refine lv_aload_n hx hb dX8_begin_0 rfl (lv_at hl 0 rfl) ?_
  refine lv_aload_n hx hb dX8_begin_1 rfl (lv_at hl 1 rfl) ?_
  refine gxn_3_0 C hin3 hP (i := 1) rfl dX8_begin_2 ?_
  refine px_8_0 C hin8 hP hS (List.mem_of_getElem? (i := 1) rfl) dX8_begin_5 (fun H locs hP hS => ?_)
  obtain ⟨S5, eS5⟩ : ∃ z, z = (sI S 7 (S.1 1)) := ⟨_, rfl⟩
  rw [← eS5] at hP
  have hf := nm_i hf eS5
  refine lv_aload_n hx hb dX8_begin_8 rfl (lv_at hl 0 rfl) ?_
  refine lv_iconst (v := (0 : Int32)) hx hb dX8_begin_9 (by decide) ?_
  refine px_8_1 C hin8 hP hS (List.mem_of_getElem? (i := 2) rfl) dX8_begin_10 (fun H locs hP hS => ?_)
  obtain ⟨S10, eS10⟩ : ∃ z, z = (sI S5 8 (0 : Int32)) := ⟨_, rfl⟩
  rw [← eS10] at hP
  have hf := nm_i hf eS10
  refine lv_aload_n hx hb dX8_begin_13 rfl (lv_at hl 0 rfl) ?_
  refine lv_iconst (v := (0 : Int32)) hx hb dX8_begin_14 (by decide) ?_
  refine px_8_2 C hin8 hP hS (List.mem_of_getElem? (i := 3) rfl) dX8_begin_15 (fun H locs hP hS => ?_)
  obtain ⟨S15, eS15⟩ : ∃ z, z = (sI S10 9 (0 : Int32)) := ⟨_, rfl⟩
  rw [← eS15] at hP
  have hf := nm_i hf eS15
  refine lv_aload_n hx hb dX8_begin_18 rfl (lv_at hl 0 rfl) ?_
  refine lv_iconst (v := (0 : Int32)) hx hb dX8_begin_19 (by decide) ?_
  refine px_8_3 C hin8 hP hS (List.mem_of_getElem? (i := 4) rfl) dX8_begin_20 (fun H locs hP hS => ?_)
  obtain ⟨S20, eS20⟩ : ∃ z, z = (sI S15 10 (0 : Int32)) := ⟨_, rfl⟩
  rw [← eS20] at hP
  have hf := nm_i hf eS20
  refine lv_aload_n hx hb dX8_begin_23 rfl (lv_at hl 0 rfl) ?_
  refine lv_iconst (v := (0 : Int32)) hx hb dX8_begin_24 (by decide) ?_
  refine px_8_4 C hin8 hP hS (List.mem_of_getElem? (i := 5) rfl) dX8_begin_25 (fun H locs hP hS => ?_)
  obtain ⟨S25, eS25⟩ : ∃ z, z = (sI S20 11 (0 : Int32)) := ⟨_, rfl⟩
  rw [← eS25] at hP
  have hf := nm_i hf eS25
  refine lv_aload_n hx hb dX8_begin_28 rfl (lv_at hl 0 rfl) ?_
  refine lv_iconst (v := (0 : Int32)) hx hb dX8_begin_29 (by decide) ?_
  refine px_8_5 C hin8 hP hS (List.mem_of_getElem? (i := 6) rfl) dX8_begin_30 (fun H locs hP hS => ?_)
  obtain ⟨S30, eS30⟩ : ∃ z, z = (sI S25 12 (0 : Int32)) := ⟨_, rfl⟩
  rw [← eS30] at hP
  have hf := nm_i hf eS30
  refine lv_aload_n hx hb dX8_begin_33 rfl (lv_at hl 0 rfl) ?_
  refine lv_aload_n hx hb dX8_begin_34 rfl (lv_at hl 1 rfl) ?_
  refine gxn_3_1 C hin3 hP (i := 3) rfl dX8_begin_35 ?_
  refine px_8_6 C hin8 hP hS (List.mem_of_getElem? (i := 7) rfl) dX8_begin_38 (fun H locs hP hS => ?_)
  obtain ⟨S38, eS38⟩ : ∃ z, z = (sI S30 13 (S30.1 2)) := ⟨_, rfl⟩
  rw [← eS38] at hP
  have hf := nm_i hf eS38
  refine lv_aload_n hx hb dX8_begin_41 rfl (lv_at hl 0 rfl) ?_
  refine lv_aload_n hx hb dX8_begin_42 rfl (lv_at hl 1 rfl) ?_
  refine gxn_3_2 C hin3 hP (i := 5) rfl dX8_begin_43 ?_
  refine px_8_7 C hin8 hP hS (List.mem_of_getElem? (i := 8) rfl) dX8_begin_46 (fun H locs hP hS => ?_)
  obtain ⟨S46, eS46⟩ : ∃ z, z = (sI S38 14 (S38.1 3)) := ⟨_, rfl⟩
  rw [← eS46] at hP
  have hf := nm_i hf eS46
  obtain rfl := Option.some.inj hf
  exact tRet_v C hr hlk hP hS dX8_begin_49
def rmX0_forget : Room := { frames := 0, cells := 0, slots := 0, locals := 0 }
theorem hn_X0_forget_0 : ∀ w ∈ wsX00, w ∈ wsX0_forget := fun w h => List.mem_cons_of_mem _ (List.mem_append_right _ h)
theorem hd_X0_forget : yX0_forget.cls ≠ "java/lang/invoke/MethodHandle" ∧ yX0_forget.cls ≠ "java/lang/invoke/VarHandle" ∧ (parseMethodDescriptor yX0_forget.desc).map (fun d => d.parameters.length) = some 0 := by decide +kernel
set_option maxHeartbeats 4000000 in
set_option maxRecDepth 100000 in
theorem c_X0_forget (l : Launch) {D : va_G} {cI cZ : ClassId} {a : Nat → Nat} (hA : ∀ S : St, va_D (xA a) (wX cI cZ a S)) {S : St} {o : St} (hf : f_X0_forget S = some o) : Met l yX0_forget wsX0_forget rmX0_forget (tPc D cI cZ (wX cI cZ a) S ([.ref (a 9)] : List Value)) (tQv D (wX cI cZ a) (xA a) o) 0 0 (xA a) := by
  refine tEnter (cc := cX0_forget) (maxL := 1) (ret := none) (own := RX0) hA rfl (by decide) rfl (Nat.le_of_ble_eq_true rfl) (fun p e s m args below meth c C hr hlk hP hS ls hl => ?_)
  obtain ⟨⟨hx, hb, hml, hown, hts⟩, hK, hN, -⟩ := id C
  have hl : lv_has ls 1 [(0, .ref (a 9))] := hl
  have hin0 := hn_X0_forget_0
  have hSS := hS
  rw [f_X0_forget] at hf
  revert hP hS
  suffices hsuf : ∀ (H : Heap) (locs : List Loc), va_P D vwCl (wX cI cZ a S) H → va_S (xA a) s.heap H locs → W p l e rmX0_forget s m args below meth c H locs 0 0 (MQ below (tQv D (wX cI cZ a) (xA a) o) args s 0 0 (xA a)) (F0 m 0 ls []) from fun hP hS => hsuf s.heap [] hP hS
  intro H locs hP hS
  refine lv_aload_n hx hb dX0_forget_0 rfl (lv_at hl 0 rfl) ?_
  refine lv_iconst (v := (0 : Int32)) hx hb dX0_forget_1 (by decide) ?_
  refine px_0_1 C hin0 hP hS (List.mem_of_getElem? (i := 1) rfl) dX0_forget_2 (fun H locs hP hS => ?_)
  obtain ⟨S2, eS2⟩ : ∃ z, z = (sI S 15 (0 : Int32)) := ⟨_, rfl⟩
  rw [← eS2] at hP
  have hf := nm_i hf eS2
  refine lv_aload_n hx hb dX0_forget_5 rfl (lv_at hl 0 rfl) ?_
  refine lv_iconst (v := (0 : Int32)) hx hb dX0_forget_6 (by decide) ?_
  refine px_0_2 C hin0 hP hS (List.mem_of_getElem? (i := 2) rfl) dX0_forget_7 (fun H locs hP hS => ?_)
  obtain ⟨S7, eS7⟩ : ∃ z, z = (sI S2 16 (0 : Int32)) := ⟨_, rfl⟩
  rw [← eS7] at hP
  have hf := nm_i hf eS7
  obtain rfl := Option.some.inj hf
  exact tRet_v C hr hlk hP hS dX0_forget_10
def rmX5_forget : Room := { frames := 0, cells := 0, slots := 0, locals := 0 }
theorem hn_X5_forget_5 : ∀ w ∈ wsX50, w ∈ wsX5_forget := fun w h => List.mem_cons_of_mem _ (List.mem_append_right _ h)
theorem hd_X5_forget : yX5_forget.cls ≠ "java/lang/invoke/MethodHandle" ∧ yX5_forget.cls ≠ "java/lang/invoke/VarHandle" ∧ (parseMethodDescriptor yX5_forget.desc).map (fun d => d.parameters.length) = some 0 := by decide +kernel
set_option maxHeartbeats 4000000 in
set_option maxRecDepth 100000 in
theorem c_X5_forget (l : Launch) {D : va_G} {cI cZ : ClassId} {a : Nat → Nat} (hA : ∀ S : St, va_D (xA a) (wX cI cZ a S)) {S : St} {o : St} (hf : f_X5_forget S = some o) : Met l yX5_forget wsX5_forget rmX5_forget (tPc D cI cZ (wX cI cZ a) S ([.ref (a 11)] : List Value)) (tQv D (wX cI cZ a) (xA a) o) 0 0 (xA a) := by
  refine tEnter (cc := cX5_forget) (maxL := 1) (ret := none) (own := RX5) hA rfl (by decide) rfl (Nat.le_of_ble_eq_true rfl) (fun p e s m args below meth c C hr hlk hP hS ls hl => ?_)
  obtain ⟨⟨hx, hb, hml, hown, hts⟩, hK, hN, -⟩ := id C
  have hl : lv_has ls 1 [(0, .ref (a 11))] := hl
  have hin5 := hn_X5_forget_5
  have hSS := hS
  rw [f_X5_forget] at hf
  revert hP hS
  suffices hsuf : ∀ (H : Heap) (locs : List Loc), va_P D vwCl (wX cI cZ a S) H → va_S (xA a) s.heap H locs → W p l e rmX5_forget s m args below meth c H locs 0 0 (MQ below (tQv D (wX cI cZ a) (xA a) o) args s 0 0 (xA a)) (F0 m 0 ls []) from fun hP hS => hsuf s.heap [] hP hS
  intro H locs hP hS
  refine lv_aload_n hx hb dX5_forget_0 rfl (lv_at hl 0 rfl) ?_
  refine lv_iconst (v := (0 : Int32)) hx hb dX5_forget_1 (by decide) ?_
  refine px_5_1 C hin5 hP hS (List.mem_of_getElem? (i := 1) rfl) dX5_forget_2 (fun H locs hP hS => ?_)
  obtain ⟨S2, eS2⟩ : ∃ z, z = (sI S 17 (0 : Int32)) := ⟨_, rfl⟩
  rw [← eS2] at hP
  have hf := nm_i hf eS2
  obtain rfl := Option.some.inj hf
  exact tRet_v C hr hlk hP hS dX5_forget_5
def rmX9_line : Room := { frames := 6, cells := 0, slots := 0, locals := 129 }
theorem hn_X9_line_3 : ∀ w ∈ wsX30, w ∈ wsX9_line := fun w h => List.mem_cons_of_mem _ (List.mem_append_left _ (List.mem_append_left _ (List.mem_append_left _ (List.mem_append_left _ (List.mem_append_right _ h)))))
theorem hn_X9_line_9 : ∀ w ∈ wsX90, w ∈ wsX9_line := fun w h => List.mem_cons_of_mem _ (List.mem_append_left _ (List.mem_append_left _ (List.mem_append_left _ (List.mem_append_left _ (List.mem_append_left _ (List.mem_append_right _ h))))))
theorem hd_X9_line : yX9_line.cls ≠ "java/lang/invoke/MethodHandle" ∧ yX9_line.cls ≠ "java/lang/invoke/VarHandle" ∧ (parseMethodDescriptor yX9_line.desc).map (fun d => d.parameters.length) = some 0 := by decide +kernel
set_option maxHeartbeats 4000000 in
set_option maxRecDepth 100000 in
theorem c_X9_line (l : Launch) {D : va_G} {cI cZ : ClassId} {a : Nat → Nat} (hA : ∀ S : St, va_D (xA a) (wX cI cZ a S)) {S : St} {o : Int32 × St} (hf : f_X9_line S = some o) : Met l yX9_line wsX9_line rmX9_line (tPc D cI cZ (wX cI cZ a) S ([.ref (a 0)] : List Value)) (tQi D (wX cI cZ a) (xA a) o.2 o.1) 0 0 (xA a) := by
  refine tEnter (cc := cX9_line) (maxL := 1) (ret := (some .int)) (own := RX9) hA rfl (by decide) rfl (Nat.le_of_ble_eq_true rfl) (fun p e s m args below meth c C hr hlk hP hS ls hl => ?_)
  obtain ⟨⟨hx, hb, hml, hown, hts⟩, hK, hN, -⟩ := id C
  have hl : lv_has ls 1 [(0, .ref (a 0))] := hl
  have hin3 := hn_X9_line_3
  have hin9 := hn_X9_line_9
  have hSS := hS
  rw [f_X9_line] at hf
  revert hP hS
  suffices hsuf : ∀ (H : Heap) (locs : List Loc), va_P D vwCl (wX cI cZ a S) H → va_S (xA a) s.heap H locs → W p l e rmX9_line s m args below meth c H locs 0 0 (MQ below (tQi D (wX cI cZ a) (xA a) o.2 o.1) args s 0 0 (xA a)) (F0 m 0 ls []) from fun hP hS => hsuf s.heap [] hP hS
  intro H locs hP hS
  refine lv_aload_n hx hb dX9_line_0 rfl (lv_at hl 0 rfl) ?_
  refine gx_9_0 C hin9 hP (List.mem_of_getElem? (i := 1) rfl) dX9_line_1 ?_
  obtain ⟨r4, hc4, hf⟩ := ob hf
  refine tCallVi (As := []) (rest := []) (q0 := 1) (ci := 7) C hP hS rfl rfl (c_X7_firstFault l C.2.2.2 hc4) (cwV 0 hts gX9_line_X7_firstFault rfl rfl rfl ⟨rfl, hd_X7_firstFault⟩ ⟨Nat.le_of_ble_eq_true rfl, Nat.le_of_ble_eq_true rfl⟩) rfl hl rfl (Nat.le_of_ble_eq_true rfl) dX9_line_4 ⟨Nat.le_refl 0, Nat.le_refl 0⟩ (fun H locs hP hS => ?_)
  refine lv_bipush (v := (-9 : Int32)) hx hb dX9_line_7 (by decide) ?_
  refine lv_icmp_eq (tgt := 15) hx hb dX9_line_9 (by decide) (fun c1 => ?_) (fun c1 => ?_)
  · have hf := if_p hf c1
    refine lv_aload_n hx hb dX9_line_15 rfl (lv_at hl 0 rfl) ?_
    refine gx_9_1 C hin9 hP (List.mem_of_getElem? (i := 2) rfl) dX9_line_16 ?_
    refine lv_aload_n hx hb dX9_line_19 rfl (lv_at hl 0 rfl) ?_
    refine gx_9_0 C hin9 hP (List.mem_of_getElem? (i := 1) rfl) dX9_line_20 ?_
    obtain ⟨r23, hc23, hf⟩ := ob hf
    refine tCallVv (As := [.ref (a 1)]) (rest := []) (q0 := 3) (ci := 3) C hP hS rfl rfl (c_X3_read_a1 l C.2.2.2 hc23) (cwV 1 hts gX9_line_X3_read rfl rfl rfl ⟨rfl, hd_X3_read⟩ ⟨Nat.le_of_ble_eq_true rfl, Nat.le_of_ble_eq_true rfl⟩) rfl hl rfl (Nat.le_of_ble_eq_true rfl) dX9_line_23 ⟨Nat.le_refl 0, Nat.le_refl 0⟩ (fun H locs hP hS => ?_)
    refine lv_aload_n hx hb dX9_line_26 rfl (lv_at hl 0 rfl) ?_
    refine gx_9_2 C hin9 hP (List.mem_of_getElem? (i := 3) rfl) dX9_line_27 ?_
    refine lv_aload_n hx hb dX9_line_30 rfl (lv_at hl 0 rfl) ?_
    refine gx_9_1 C hin9 hP (List.mem_of_getElem? (i := 2) rfl) dX9_line_31 ?_
    obtain ⟨r34, hc34, hf⟩ := ob hf
    refine tCallVv (As := [.ref (a 3)]) (rest := []) (q0 := 7) (ci := 8) C hP hS rfl rfl (c_X8_begin_a3 l C.2.2.2 hc34) (cwV 1 hts gX9_line_X8_begin rfl rfl rfl ⟨rfl, hd_X8_begin⟩ ⟨Nat.le_of_ble_eq_true rfl, Nat.le_of_ble_eq_true rfl⟩) rfl hl rfl (Nat.le_of_ble_eq_true rfl) dX9_line_34 ⟨Nat.le_refl 0, Nat.le_refl 0⟩ (fun H locs hP hS => ?_)
    refine lv_aload_n hx hb dX9_line_37 rfl (lv_at hl 0 rfl) ?_
    refine gx_9_3 C hin9 hP (List.mem_of_getElem? (i := 4) rfl) dX9_line_38 ?_
    obtain ⟨r41, hc41, hf⟩ := ob hf
    refine tCallVv (As := []) (rest := []) (q0 := 9) (ci := 0) C hP hS rfl rfl (c_X0_forget l C.2.2.2 hc41) (cwV 0 hts gX9_line_X0_forget rfl rfl rfl ⟨rfl, hd_X0_forget⟩ ⟨Nat.le_of_ble_eq_true rfl, Nat.le_of_ble_eq_true rfl⟩) rfl hl rfl (Nat.le_of_ble_eq_true rfl) dX9_line_41 ⟨Nat.le_refl 0, Nat.le_refl 0⟩ (fun H locs hP hS => ?_)
    refine lv_aload_n hx hb dX9_line_44 rfl (lv_at hl 0 rfl) ?_
    refine gx_9_4 C hin9 hP (List.mem_of_getElem? (i := 5) rfl) dX9_line_45 ?_
    obtain ⟨r48, hc48, hf⟩ := ob hf
    refine tCallVv (As := []) (rest := []) (q0 := 11) (ci := 5) C hP hS rfl rfl (c_X5_forget l C.2.2.2 hc48) (cwV 0 hts gX9_line_X5_forget rfl rfl rfl ⟨rfl, hd_X5_forget⟩ ⟨Nat.le_of_ble_eq_true rfl, Nat.le_of_ble_eq_true rfl⟩) rfl hl rfl (Nat.le_of_ble_eq_true rfl) dX9_line_48 ⟨Nat.le_refl 0, Nat.le_refl 0⟩ (fun H locs hP hS => ?_)
    refine lv_aload_n hx hb dX9_line_51 rfl (lv_at hl 0 rfl) ?_
    refine gx_9_1 C hin9 hP (List.mem_of_getElem? (i := 2) rfl) dX9_line_52 ?_
    refine gxn_3_5 C hin3 hP (i := 8) rfl dX9_line_55 ?_
    obtain rfl := Option.some.inj hf
    exact tRet_i C hr hlk hP hS dX9_line_58
  · have hf := if_n hf c1
    refine lv_bipush (v := (-3 : Int32)) hx hb dX9_line_12 (by decide) ?_
    obtain rfl := Option.some.inj hf
    exact tRet_i C hr hlk hP hS dX9_line_14
def rmX3_bentOf : Room := { frames := 0, cells := 0, slots := 0, locals := 0 }
theorem hn_X3_bentOf_3 : ∀ w ∈ wsX30, w ∈ wsX3_bentOf := fun w h => List.mem_cons_of_mem _ (List.mem_append_right _ h)
theorem hd_X3_bentOf : yX3_bentOf.cls ≠ "java/lang/invoke/MethodHandle" ∧ yX3_bentOf.cls ≠ "java/lang/invoke/VarHandle" ∧ (parseMethodDescriptor yX3_bentOf.desc).map (fun d => d.parameters.length) = some 1 := by decide +kernel
set_option maxHeartbeats 4000000 in
set_option maxRecDepth 100000 in
theorem c_X3_bentOf (l : Launch) {D : va_G} {cI cZ : ClassId} {a : Nat → Nat} (hA : ∀ S : St, va_D (xA a) (wX cI cZ a S)) {x1 : Int32} {S : St} {o : Int32} (hf : f_X3_bentOf x1 S = some o) : Met l yX3_bentOf wsX3_bentOf rmX3_bentOf (tPc D cI cZ (wX cI cZ a) S ([.ref (a 3), .int x1] : List Value)) (tQi D (wX cI cZ a) (xA a) S o) 0 0 (xA a) := by
  refine tEnter (cc := cX3_bentOf) (maxL := 2) (ret := (some .int)) (own := RX3) hA rfl (by decide) rfl (Nat.le_of_ble_eq_true rfl) (fun p e s m args below meth c C hr hlk hP hS ls hl => ?_)
  obtain ⟨⟨hx, hb, hml, hown, hts⟩, hK, hN, -⟩ := id C
  have hl : lv_has ls 2 [(0, .ref (a 3)), (1, .int x1)] := hl
  have hin3 := hn_X3_bentOf_3
  have hSS := hS
  rw [f_X3_bentOf] at hf
  revert hP hS
  suffices hsuf : ∀ (H : Heap) (locs : List Loc), va_P D vwCl (wX cI cZ a S) H → va_S (xA a) s.heap H locs → W p l e rmX3_bentOf s m args below meth c H locs 0 0 (MQ below (tQi D (wX cI cZ a) (xA a) S o) args s 0 0 (xA a)) (F0 m 0 ls []) from fun hP hS => hsuf s.heap [] hP hS
  intro H locs hP hS
  refine lv_iload_n hx hb dX3_bentOf_0 rfl (lv_at hl 1 rfl) ?_
  refine lv_if_ne (tgt := 11) hx hb dX3_bentOf_1 (by decide) (fun c1 => ?_) (fun c1 => ?_)
  · have hf := if_n hf c1
    refine lv_aload_n hx hb dX3_bentOf_11 rfl (lv_at hl 0 rfl) ?_
    refine gx_3_4 C hin3 hP (List.mem_of_getElem? (i := 2) rfl) dX3_bentOf_12 ?_
    obtain rfl := Option.some.inj hf
    exact tRet_i C hr hlk hP hS dX3_bentOf_15
  · have hf := if_p hf c1
    refine lv_aload_n hx hb dX3_bentOf_4 rfl (lv_at hl 0 rfl) ?_
    refine gx_3_3 C hin3 hP (List.mem_of_getElem? (i := 1) rfl) dX3_bentOf_5 ?_
    refine lv_goto (tgt := 15) hx hb dX3_bentOf_8 (by decide) ?_
    obtain rfl := Option.some.inj hf
    exact tRet_i C hr hlk hP hS dX3_bentOf_15
def rmX9_about : Room := { frames := 1, cells := 0, slots := 0, locals := 21 }
theorem hn_X9_about_0 : ∀ w ∈ wsX00, w ∈ wsX9_about := fun w h => List.mem_cons_of_mem _ (List.mem_append_left _ (List.mem_append_left _ (List.mem_append_right _ h)))
theorem hn_X9_about_3 : ∀ w ∈ wsX30, w ∈ wsX9_about := fun w h => List.mem_cons_of_mem _ (List.mem_append_left _ (List.mem_append_left _ (List.mem_append_left _ (List.mem_append_left _ (List.mem_append_right _ h)))))
theorem hn_X9_about_6 : ∀ w ∈ wsX60, w ∈ wsX9_about := fun w h => List.mem_cons_of_mem _ (List.mem_append_left _ (List.mem_append_right _ h))
theorem hn_X9_about_7 : ∀ w ∈ wsX70, w ∈ wsX9_about := fun w h => List.mem_cons_of_mem _ (List.mem_append_right _ h)
theorem hn_X9_about_8 : ∀ w ∈ wsX80, w ∈ wsX9_about := fun w h => List.mem_cons_of_mem _ (List.mem_append_left _ (List.mem_append_left _ (List.mem_append_left _ (List.mem_append_right _ h))))
theorem hn_X9_about_9 : ∀ w ∈ wsX90, w ∈ wsX9_about := fun w h => List.mem_cons_of_mem _ (List.mem_append_left _ (List.mem_append_left _ (List.mem_append_left _ (List.mem_append_left _ (List.mem_append_left _ (List.mem_append_right _ h))))))
theorem hd_X9_about : yX9_about.cls ≠ "java/lang/invoke/MethodHandle" ∧ yX9_about.cls ≠ "java/lang/invoke/VarHandle" ∧ (parseMethodDescriptor yX9_about.desc).map (fun d => d.parameters.length) = some 1 := by decide +kernel
set_option maxHeartbeats 4000000 in
set_option maxRecDepth 100000 in
theorem c_X9_about (l : Launch) {D : va_G} {cI cZ : ClassId} {a : Nat → Nat} (hA : ∀ S : St, va_D (xA a) (wX cI cZ a S)) {x1 : Int32} {S : St} {o : Int32} (hf : f_X9_about x1 S = some o) : Met l yX9_about wsX9_about rmX9_about (tPc D cI cZ (wX cI cZ a) S ([.ref (a 0), .int x1] : List Value)) (tQi D (wX cI cZ a) (xA a) S o) 0 0 (xA a) := by
  refine tEnter (cc := cX9_about) (maxL := 2) (ret := (some .int)) (own := RX9) hA rfl (by decide) rfl (Nat.le_of_ble_eq_true rfl) (fun p e s m args below meth c C hr hlk hP hS ls hl => ?_)
  obtain ⟨⟨hx, hb, hml, hown, hts⟩, hK, hN, -⟩ := id C
  have hl : lv_has ls 2 [(0, .ref (a 0)), (1, .int x1)] := hl
  have hin0 := hn_X9_about_0
  have hin3 := hn_X9_about_3
  have hin6 := hn_X9_about_6
  have hin7 := hn_X9_about_7
  have hin8 := hn_X9_about_8
  have hin9 := hn_X9_about_9
  have hSS := hS
  rw [f_X9_about] at hf
  revert hP hS
  suffices hsuf : ∀ (H : Heap) (locs : List Loc), va_P D vwCl (wX cI cZ a S) H → va_S (xA a) s.heap H locs → W p l e rmX9_about s m args below meth c H locs 0 0 (MQ below (tQi D (wX cI cZ a) (xA a) S o) args s 0 0 (xA a)) (F0 m 0 ls []) from fun hP hS => hsuf s.heap [] hP hS
  intro H locs hP hS
  refine lv_iload_n hx hb dX9_about_0 rfl (lv_at hl 1 rfl) ?_
  by_cases c1 : x1 = (0 : Int32)
  · have hf := if_p hf c1
    refine lv_tableIn (tgt := 76) hx hb dX9_about_1 (by rw [c1]; decide) (by rw [c1]; decide) (by first | (rw [c1]; done) | (rw [c1]; rfl)) (by decide) ?_
    refine lv_aload_n hx hb dX9_about_76 rfl (lv_at hl 0 rfl) ?_
    refine gx_9_1 C hin9 hP (List.mem_of_getElem? (i := 1) rfl) dX9_about_77 ?_
    refine gxn_3_0 C hin3 hP (i := 2) rfl dX9_about_80 ?_
    obtain rfl := Option.some.inj hf
    exact tRet_i C hr hlk hP hS dX9_about_83
  have hf := if_n hf c1
  by_cases c2 : x1 = (1 : Int32)
  · have hf := if_p hf c2
    refine lv_tableIn (tgt := 84) hx hb dX9_about_1 (by rw [c2]; decide) (by rw [c2]; decide) (by first | (rw [c2]; done) | (rw [c2]; rfl)) (by decide) ?_
    refine lv_aload_n hx hb dX9_about_84 rfl (lv_at hl 0 rfl) ?_
    refine gx_9_1 C hin9 hP (List.mem_of_getElem? (i := 1) rfl) dX9_about_85 ?_
    refine gxn_3_5 C hin3 hP (i := 8) rfl dX9_about_88 ?_
    obtain rfl := Option.some.inj hf
    exact tRet_i C hr hlk hP hS dX9_about_91
  have hf := if_n hf c2
  by_cases c3 : x1 = (2 : Int32)
  · have hf := if_p hf c3
    refine lv_tableIn (tgt := 92) hx hb dX9_about_1 (by rw [c3]; decide) (by rw [c3]; decide) (by first | (rw [c3]; done) | (rw [c3]; rfl)) (by decide) ?_
    refine lv_aload_n hx hb dX9_about_92 rfl (lv_at hl 0 rfl) ?_
    refine gx_9_2 C hin9 hP (List.mem_of_getElem? (i := 2) rfl) dX9_about_93 ?_
    refine gxn_8_3 C hin8 hP (i := 14) rfl dX9_about_96 ?_
    obtain rfl := Option.some.inj hf
    exact tRet_i C hr hlk hP hS dX9_about_99
  have hf := if_n hf c3
  by_cases c4 : x1 = (3 : Int32)
  · have hf := if_p hf c4
    refine lv_tableIn (tgt := 100) hx hb dX9_about_1 (by rw [c4]; decide) (by rw [c4]; decide) (by first | (rw [c4]; done) | (rw [c4]; rfl)) (by decide) ?_
    refine lv_aload_n hx hb dX9_about_100 rfl (lv_at hl 0 rfl) ?_
    refine gx_9_2 C hin9 hP (List.mem_of_getElem? (i := 2) rfl) dX9_about_101 ?_
    refine gxn_8_0 C hin8 hP (i := 9) rfl dX9_about_104 ?_
    obtain rfl := Option.some.inj hf
    exact tRet_i C hr hlk hP hS dX9_about_107
  have hf := if_n hf c4
  by_cases c5 : x1 = (4 : Int32)
  · have hf := if_p hf c5
    refine lv_tableIn (tgt := 108) hx hb dX9_about_1 (by rw [c5]; decide) (by rw [c5]; decide) (by first | (rw [c5]; done) | (rw [c5]; rfl)) (by decide) ?_
    refine lv_aload_n hx hb dX9_about_108 rfl (lv_at hl 0 rfl) ?_
    refine gx_9_2 C hin9 hP (List.mem_of_getElem? (i := 2) rfl) dX9_about_109 ?_
    refine gxn_8_1 C hin8 hP (i := 10) rfl dX9_about_112 ?_
    obtain rfl := Option.some.inj hf
    exact tRet_i C hr hlk hP hS dX9_about_115
  have hf := if_n hf c5
  by_cases c6 : x1 = (5 : Int32)
  · have hf := if_p hf c6
    refine lv_tableIn (tgt := 116) hx hb dX9_about_1 (by rw [c6]; decide) (by rw [c6]; decide) (by first | (rw [c6]; done) | (rw [c6]; rfl)) (by decide) ?_
    refine lv_aload_n hx hb dX9_about_116 rfl (lv_at hl 0 rfl) ?_
    refine gx_9_2 C hin9 hP (List.mem_of_getElem? (i := 2) rfl) dX9_about_117 ?_
    refine gxn_8_2 C hin8 hP (i := 11) rfl dX9_about_120 ?_
    obtain rfl := Option.some.inj hf
    exact tRet_i C hr hlk hP hS dX9_about_123
  have hf := if_n hf c6
  by_cases c7 : x1 = (6 : Int32)
  · have hf := if_p hf c7
    refine lv_tableIn (tgt := 124) hx hb dX9_about_1 (by rw [c7]; decide) (by rw [c7]; decide) (by first | (rw [c7]; done) | (rw [c7]; rfl)) (by decide) ?_
    refine lv_aload_n hx hb dX9_about_124 rfl (lv_at hl 0 rfl) ?_
    refine gx_9_2 C hin9 hP (List.mem_of_getElem? (i := 2) rfl) dX9_about_125 ?_
    refine gxn_8_4 C hin8 hP (i := 15) rfl dX9_about_128 ?_
    obtain rfl := Option.some.inj hf
    exact tRet_i C hr hlk hP hS dX9_about_131
  have hf := if_n hf c7
  by_cases c8 : x1 = (7 : Int32)
  · have hf := if_p hf c8
    refine lv_tableIn (tgt := 132) hx hb dX9_about_1 (by rw [c8]; decide) (by rw [c8]; decide) (by first | (rw [c8]; done) | (rw [c8]; rfl)) (by decide) ?_
    refine lv_aload_n hx hb dX9_about_132 rfl (lv_at hl 0 rfl) ?_
    refine gx_9_2 C hin9 hP (List.mem_of_getElem? (i := 2) rfl) dX9_about_133 ?_
    refine gxn_8_5 C hin8 hP (i := 17) rfl dX9_about_136 ?_
    obtain rfl := Option.some.inj hf
    exact tRet_i C hr hlk hP hS dX9_about_139
  have hf := if_n hf c8
  by_cases c9 : x1 = (8 : Int32)
  · have hf := if_p hf c9
    refine lv_tableIn (tgt := 140) hx hb dX9_about_1 (by rw [c9]; decide) (by rw [c9]; decide) (by first | (rw [c9]; done) | (rw [c9]; rfl)) (by decide) ?_
    refine lv_aload_n hx hb dX9_about_140 rfl (lv_at hl 0 rfl) ?_
    refine gx_9_2 C hin9 hP (List.mem_of_getElem? (i := 2) rfl) dX9_about_141 ?_
    refine gxn_8_6 C hin8 hP (i := 19) rfl dX9_about_144 ?_
    refine lv_bipush (v := (50 : Int32)) hx hb dX9_about_147 (by decide) ?_
    refine lv_iadd hx hb dX9_about_149 ?_
    obtain rfl := Option.some.inj hf
    exact tRet_i C hr hlk hP hS dX9_about_150
  have hf := if_n hf c9
  by_cases c10 : x1 = (9 : Int32)
  · have hf := if_p hf c10
    refine lv_tableIn (tgt := 151) hx hb dX9_about_1 (by rw [c10]; decide) (by rw [c10]; decide) (by first | (rw [c10]; done) | (rw [c10]; rfl)) (by decide) ?_
    refine lv_aload_n hx hb dX9_about_151 rfl (lv_at hl 0 rfl) ?_
    refine gx_9_2 C hin9 hP (List.mem_of_getElem? (i := 2) rfl) dX9_about_152 ?_
    refine gxn_8_7 C hin8 hP (i := 21) rfl dX9_about_155 ?_
    obtain rfl := Option.some.inj hf
    exact tRet_i C hr hlk hP hS dX9_about_158
  have hf := if_n hf c10
  by_cases c11 : x1 = (10 : Int32)
  · have hf := if_p hf c11
    refine lv_tableIn (tgt := 159) hx hb dX9_about_1 (by rw [c11]; decide) (by rw [c11]; decide) (by first | (rw [c11]; done) | (rw [c11]; rfl)) (by decide) ?_
    refine lv_aload_n hx hb dX9_about_159 rfl (lv_at hl 0 rfl) ?_
    refine gx_9_3 C hin9 hP (List.mem_of_getElem? (i := 3) rfl) dX9_about_160 ?_
    refine gxn_0_2 C hin0 hP (i := 22) rfl dX9_about_163 ?_
    obtain rfl := Option.some.inj hf
    exact tRet_i C hr hlk hP hS dX9_about_166
  have hf := if_n hf c11
  by_cases c12 : x1 = (11 : Int32)
  · have hf := if_p hf c12
    refine lv_tableIn (tgt := 167) hx hb dX9_about_1 (by rw [c12]; decide) (by rw [c12]; decide) (by first | (rw [c12]; done) | (rw [c12]; rfl)) (by decide) ?_
    refine lv_aload_n hx hb dX9_about_167 rfl (lv_at hl 0 rfl) ?_
    refine gx_9_5 C hin9 hP (List.mem_of_getElem? (i := 4) rfl) dX9_about_168 ?_
    refine gxn_6_2 C hin6 hP (i := 23) rfl dX9_about_171 ?_
    obtain rfl := Option.some.inj hf
    exact tRet_i C hr hlk hP hS dX9_about_174
  have hf := if_n hf c12
  by_cases c13 : x1 = (12 : Int32)
  · have hf := if_p hf c13
    refine lv_tableIn (tgt := 175) hx hb dX9_about_1 (by rw [c13]; decide) (by rw [c13]; decide) (by first | (rw [c13]; done) | (rw [c13]; rfl)) (by decide) ?_
    refine lv_aload_n hx hb dX9_about_175 rfl (lv_at hl 0 rfl) ?_
    refine gx_9_0 C hin9 hP (List.mem_of_getElem? (i := 5) rfl) dX9_about_176 ?_
    refine gxn_7_1 C hin7 hP (i := 0) rfl dX9_about_179 ?_
    obtain rfl := Option.some.inj hf
    exact tRet_i C hr hlk hP hS dX9_about_182
  have hf := if_n hf c13
  by_cases c14 : x1 = (13 : Int32)
  · have hf := if_p hf c14
    refine lv_tableIn (tgt := 183) hx hb dX9_about_1 (by rw [c14]; decide) (by rw [c14]; decide) (by first | (rw [c14]; done) | (rw [c14]; rfl)) (by decide) ?_
    refine lv_aload_n hx hb dX9_about_183 rfl (lv_at hl 0 rfl) ?_
    refine gx_9_1 C hin9 hP (List.mem_of_getElem? (i := 1) rfl) dX9_about_184 ?_
    refine lv_iconst (v := (0 : Int32)) hx hb dX9_about_187 (by decide) ?_
    obtain ⟨r188, hc188, hf⟩ := ob hf
    refine tCallVi (As := [.int (0 : Int32)]) (rest := []) (q0 := 3) (ci := 3) C hP hS rfl rfl (c_X3_bentOf l C.2.2.2 hc188) (cwV 1 hts gX9_about_X3_bentOf rfl rfl rfl ⟨rfl, hd_X3_bentOf⟩ ⟨Nat.le_of_ble_eq_true rfl, Nat.le_of_ble_eq_true rfl⟩) rfl hl rfl (Nat.le_of_ble_eq_true rfl) dX9_about_188 ⟨Nat.le_refl 0, Nat.le_refl 0⟩ (fun H locs hP hS => ?_)
    refine lv_iconst (v := (5 : Int32)) hx hb dX9_about_191 (by decide) ?_
    refine lv_iadd hx hb dX9_about_192 ?_
    obtain rfl := Option.some.inj hf
    exact tRet_i C hr hlk hP hS dX9_about_193
  have hf := if_n hf c14
  by_cases c15 : x1 = (14 : Int32)
  · have hf := if_p hf c15
    refine lv_tableIn (tgt := 194) hx hb dX9_about_1 (by rw [c15]; decide) (by rw [c15]; decide) (by first | (rw [c15]; done) | (rw [c15]; rfl)) (by decide) ?_
    refine lv_aload_n hx hb dX9_about_194 rfl (lv_at hl 0 rfl) ?_
    refine gx_9_1 C hin9 hP (List.mem_of_getElem? (i := 1) rfl) dX9_about_195 ?_
    refine lv_iconst (v := (1 : Int32)) hx hb dX9_about_198 (by decide) ?_
    obtain ⟨r199, hc199, hf⟩ := ob hf
    refine tCallVi (As := [.int (1 : Int32)]) (rest := []) (q0 := 3) (ci := 3) C hP hS rfl rfl (c_X3_bentOf l C.2.2.2 hc199) (cwV 1 hts gX9_about_X3_bentOf rfl rfl rfl ⟨rfl, hd_X3_bentOf⟩ ⟨Nat.le_of_ble_eq_true rfl, Nat.le_of_ble_eq_true rfl⟩) rfl hl rfl (Nat.le_of_ble_eq_true rfl) dX9_about_199 ⟨Nat.le_refl 0, Nat.le_refl 0⟩ (fun H locs hP hS => ?_)
    refine lv_iconst (v := (5 : Int32)) hx hb dX9_about_202 (by decide) ?_
    refine lv_iadd hx hb dX9_about_203 ?_
    obtain rfl := Option.some.inj hf
    exact tRet_i C hr hlk hP hS dX9_about_204
  have hf := if_n hf c15
  refine lv_tableOut (tgt := 205) hx hb dX9_about_1 (by have q1 := lv_neT (a := 0) c1 (by decide); have q2 := lv_neT (a := 1) c2 (by decide); have q3 := lv_neT (a := 2) c3 (by decide); have q4 := lv_neT (a := 3) c4 (by decide); have q5 := lv_neT (a := 4) c5 (by decide); have q6 := lv_neT (a := 5) c6 (by decide); have q7 := lv_neT (a := 6) c7 (by decide); have q8 := lv_neT (a := 7) c8 (by decide); have q9 := lv_neT (a := 8) c9 (by decide); have q10 := lv_neT (a := 9) c10 (by decide); have q11 := lv_neT (a := 10) c11 (by decide); have q12 := lv_neT (a := 11) c12 (by decide); have q13 := lv_neT (a := 12) c13 (by decide); have q14 := lv_neT (a := 13) c14 (by decide); have q15 := lv_neT (a := 14) c15 (by decide); omega) (by decide) ?_
  refine lv_bipush (v := (-2 : Int32)) hx hb dX9_about_205 (by decide) ?_
  obtain rfl := Option.some.inj hf
  exact tRet_i C hr hlk hP hS dX9_about_207
