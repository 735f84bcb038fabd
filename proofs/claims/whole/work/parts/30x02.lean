def rmX8_bringBack : Room := { frames := 0, cells := 0, slots := 0, locals := 0 }
theorem hn_X8_bringBack_8 : ∀ w ∈ wsX80, w ∈ wsX8_bringBack := fun w h => List.mem_cons_of_mem _ (List.mem_append_right _ h)
theorem hd_X8_bringBack : yX8_bringBack.cls ≠ "java/lang/invoke/MethodHandle" ∧ yX8_bringBack.cls ≠ "java/lang/invoke/VarHandle" ∧ (parseMethodDescriptor yX8_bringBack.desc).map (fun d => d.parameters.length) = some 1 := by decide +kernel
set_option maxHeartbeats 4000000 in
set_option maxRecDepth 100000 in
theorem c_X8_bringBack (l : Launch) {D : va_G} {cI cZ : ClassId} {a : Nat → Nat} (hA : ∀ S : St, va_D (xA a) (wX cI cZ a S)) {x1 : Int32} {S : St} {o : St} (hf : f_X8_bringBack x1 S = some o) : Met l yX8_bringBack wsX8_bringBack rmX8_bringBack (tPc D cI cZ (wX cI cZ a) S ([.ref (a 7), .int x1] : List Value)) (tQv D (wX cI cZ a) (xA a) o) 0 0 (xA a) := by
  refine tEnter (cc := cX8_bringBack) (maxL := 2) (ret := none) (own := RX8) hA rfl (by decide) rfl (Nat.le_of_ble_eq_true rfl) (fun p e s m args below meth c C hr hlk hP hS ls hl => ?_)
  obtain ⟨⟨hx, hb, hml, hown, hts⟩, hK, hN, -⟩ := id C
  have hl : lv_has ls 2 [(0, .ref (a 7)), (1, .int x1)] := hl
  have hin8 := hn_X8_bringBack_8
  have hSS := hS
  rw [f_X8_bringBack] at hf
  revert hP hS
  suffices hsuf : ∀ (H : Heap) (locs : List Loc), va_P D vwCl (wX cI cZ a S) H → va_S (xA a) s.heap H locs → W p l e rmX8_bringBack s m args below meth c H locs 0 0 (MQ below (tQv D (wX cI cZ a) (xA a) o) args s 0 0 (xA a)) (F0 m 0 ls []) from fun hP hS => hsuf s.heap [] hP hS
  intro H locs hP hS
  refine lv_aload_n hx hb dX8_bringBack_0 rfl (lv_at hl 0 rfl) ?_
  refine lv_dup hx hb dX8_bringBack_1 rfl ?_
  refine gx_8_4 C hin8 hP (List.mem_of_getElem? (i := 1) rfl) dX8_bringBack_2 ?_
  refine lv_iconst (v := (1 : Int32)) hx hb dX8_bringBack_5 (by decide) ?_
  refine lv_iload_n hx hb dX8_bringBack_6 rfl (lv_at hl 1 rfl) ?_
  refine lv_ishl hx hb dX8_bringBack_7 ?_
  refine lv_iconst (v := (-1 : Int32)) hx hb dX8_bringBack_8 (by decide) ?_
  refine lv_ixor hx hb dX8_bringBack_9 ?_
  refine lv_iand hx hb dX8_bringBack_10 ?_
  refine px_8_4 C hin8 hP hS (List.mem_of_getElem? (i := 1) rfl) dX8_bringBack_11 (fun H locs hP hS => ?_)
  obtain ⟨S11, eS11⟩ : ∃ z, z = (sI S 11 ((S.1 11) &&& (((1 : Int32) <<< (x1 &&& 31)) ^^^ (-1 : Int32)))) := ⟨_, rfl⟩
  rw [← eS11] at hP
  have hf := nm_i hf eS11
  refine lv_aload_n hx hb dX8_bringBack_14 rfl (lv_at hl 0 rfl) ?_
  refine lv_dup hx hb dX8_bringBack_15 rfl ?_
  refine gx_8_1 C hin8 hP (List.mem_of_getElem? (i := 2) rfl) dX8_bringBack_16 ?_
  refine lv_iconst (v := (1 : Int32)) hx hb dX8_bringBack_19 (by decide) ?_
  refine lv_iadd hx hb dX8_bringBack_20 ?_
  refine px_8_1 C hin8 hP hS (List.mem_of_getElem? (i := 2) rfl) dX8_bringBack_21 (fun H locs hP hS => ?_)
  obtain ⟨S21, eS21⟩ : ∃ z, z = (sI S11 8 ((S11.1 8) + (1 : Int32))) := ⟨_, rfl⟩
  rw [← eS21] at hP
  have hf := nm_i hf eS21
  obtain rfl := Option.some.inj hf
  exact tRet_v C hr hlk hP hS dX8_bringBack_24
def rmX9_find : Room := { frames := 3, cells := 0, slots := 0, locals := 61 }
theorem hn_X9_find_8 : ∀ w ∈ wsX80, w ∈ wsX9_find := fun w h => List.mem_cons_of_mem _ (List.mem_append_left _ (List.mem_append_left _ (List.mem_append_right _ h)))
theorem hn_X9_find_9 : ∀ w ∈ wsX90, w ∈ wsX9_find := fun w h => List.mem_cons_of_mem _ (List.mem_append_left _ (List.mem_append_left _ (List.mem_append_left _ (List.mem_append_right _ h))))
theorem hd_X9_find : yX9_find.cls ≠ "java/lang/invoke/MethodHandle" ∧ yX9_find.cls ≠ "java/lang/invoke/VarHandle" ∧ (parseMethodDescriptor yX9_find.desc).map (fun d => d.parameters.length) = some 1 := by decide +kernel
set_option maxHeartbeats 4000000 in
set_option maxRecDepth 100000 in
theorem c_X9_find (l : Launch) {D : va_G} {cI cZ : ClassId} {a : Nat → Nat} (hA : ∀ S : St, va_D (xA a) (wX cI cZ a S)) {x1 : Int32} {S : St} {o : Int32 × St} (hf : f_X9_find x1 S = some o) : Met l yX9_find wsX9_find rmX9_find (tPc D cI cZ (wX cI cZ a) S ([.ref (a 0), .int x1] : List Value)) (tQi D (wX cI cZ a) (xA a) o.2 o.1) 0 0 (xA a) := by
  refine tEnter (cc := cX9_find) (maxL := 2) (ret := (some .int)) (own := RX9) hA rfl (by decide) rfl (Nat.le_of_ble_eq_true rfl) (fun p e s m args below meth c C hr hlk hP hS ls hl => ?_)
  obtain ⟨⟨hx, hb, hml, hown, hts⟩, hK, hN, -⟩ := id C
  have hl : lv_has ls 2 [(0, .ref (a 0)), (1, .int x1)] := hl
  have hin8 := hn_X9_find_8
  have hin9 := hn_X9_find_9
  have hSS := hS
  rw [f_X9_find] at hf
  revert hP hS
  suffices hsuf : ∀ (H : Heap) (locs : List Loc), va_P D vwCl (wX cI cZ a S) H → va_S (xA a) s.heap H locs → W p l e rmX9_find s m args below meth c H locs 0 0 (MQ below (tQi D (wX cI cZ a) (xA a) o.2 o.1) args s 0 0 (xA a)) (F0 m 0 ls []) from fun hP hS => hsuf s.heap [] hP hS
  intro H locs hP hS
  refine lv_aload_n hx hb dX9_find_0 rfl (lv_at hl 0 rfl) ?_
  refine gx_9_1 C hin9 hP (List.mem_of_getElem? (i := 1) rfl) dX9_find_1 ?_
  refine lv_iload_n hx hb dX9_find_4 rfl (lv_at hl 1 rfl) ?_
  obtain ⟨r5, hc5, hf⟩ := ob hf
  refine tCallVi (As := [.int x1]) (rest := []) (q0 := 3) (ci := 3) C hP hS rfl rfl (c_X3_has l C.2.2.2 hc5) (cwV 1 hts gX9_find_X3_has rfl rfl rfl ⟨rfl, hd_X3_has⟩ ⟨Nat.le_of_ble_eq_true rfl, Nat.le_of_ble_eq_true rfl⟩) rfl hl rfl (Nat.le_of_ble_eq_true rfl) dX9_find_5 ⟨Nat.le_refl 0, Nat.le_refl 0⟩ (fun H locs hP hS => ?_)
  refine lv_if_ne (tgt := 13) hx hb dX9_find_8 (by decide) (fun c1 => ?_) (fun c1 => ?_)
  · have hf := if_n hf c1
    refine lv_aload_n hx hb dX9_find_13 rfl (lv_at hl 0 rfl) ?_
    refine gx_9_2 C hin9 hP (List.mem_of_getElem? (i := 2) rfl) dX9_find_14 ?_
    refine lv_iload_n hx hb dX9_find_17 rfl (lv_at hl 1 rfl) ?_
    obtain ⟨r18, hc18, hf⟩ := ob hf
    refine tCallVi (As := [.int x1]) (rest := []) (q0 := 7) (ci := 8) C hP hS rfl rfl (c_X8_isLost l C.2.2.2 hc18) (cwV 1 hts gX9_find_X8_isLost rfl rfl rfl ⟨rfl, hd_X8_isLost⟩ ⟨Nat.le_of_ble_eq_true rfl, Nat.le_of_ble_eq_true rfl⟩) rfl hl rfl (Nat.le_of_ble_eq_true rfl) dX9_find_18 ⟨Nat.le_refl 0, Nat.le_refl 0⟩ (fun H locs hP hS => ?_)
    refine lv_if_ne (tgt := 27) hx hb dX9_find_21 (by decide) (fun c2 => ?_) (fun c2 => ?_)
    · have hf := if_n hf c2
      refine lv_aload_n hx hb dX9_find_27 rfl (lv_at hl 0 rfl) ?_
      refine gx_9_3 C hin9 hP (List.mem_of_getElem? (i := 3) rfl) dX9_find_28 ?_
      refine lv_aload_n hx hb dX9_find_31 rfl (lv_at hl 0 rfl) ?_
      refine gx_9_2 C hin9 hP (List.mem_of_getElem? (i := 2) rfl) dX9_find_32 ?_
      obtain ⟨r35, hc35, hf⟩ := ob hf
      refine tCallVv (As := [.ref (a 7)]) (rest := []) (q0 := 9) (ci := 0) C hP hS rfl rfl (c_X0_remember_a7 l C.2.2.2 hc35) (cwV 1 hts gX9_find_X0_remember rfl rfl rfl ⟨rfl, hd_X0_remember⟩ ⟨Nat.le_of_ble_eq_true rfl, Nat.le_of_ble_eq_true rfl⟩) rfl hl rfl (Nat.le_of_ble_eq_true rfl) dX9_find_35 ⟨Nat.le_refl 0, Nat.le_refl 0⟩ (fun H locs hP hS => ?_)
      refine lv_aload_n hx hb dX9_find_38 rfl (lv_at hl 0 rfl) ?_
      refine gx_9_2 C hin9 hP (List.mem_of_getElem? (i := 2) rfl) dX9_find_39 ?_
      refine lv_iload_n hx hb dX9_find_42 rfl (lv_at hl 1 rfl) ?_
      obtain ⟨r43, hc43, hf⟩ := ob hf
      refine tCallVv (As := [.int x1]) (rest := []) (q0 := 7) (ci := 8) C hP hS rfl rfl (c_X8_bringBack l C.2.2.2 hc43) (cwV 1 hts gX9_find_X8_bringBack rfl rfl rfl ⟨rfl, hd_X8_bringBack⟩ ⟨Nat.le_of_ble_eq_true rfl, Nat.le_of_ble_eq_true rfl⟩) rfl hl rfl (Nat.le_of_ble_eq_true rfl) dX9_find_43 ⟨Nat.le_refl 0, Nat.le_refl 0⟩ (fun H locs hP hS => ?_)
      refine lv_aload_n hx hb dX9_find_46 rfl (lv_at hl 0 rfl) ?_
      refine gx_9_2 C hin9 hP (List.mem_of_getElem? (i := 2) rfl) dX9_find_47 ?_
      refine gxn_8_1 C hin8 hP (i := 10) rfl dX9_find_50 ?_
      obtain rfl := Option.some.inj hf
      exact tRet_i C hr hlk hP hS dX9_find_53
    · have hf := if_p hf c2
      refine lv_bipush (v := (-3 : Int32)) hx hb dX9_find_24 (by decide) ?_
      obtain rfl := Option.some.inj hf
      exact tRet_i C hr hlk hP hS dX9_find_26
  · have hf := if_p hf c1
    refine lv_iconst (v := (-1 : Int32)) hx hb dX9_find_11 (by decide) ?_
    obtain rfl := Option.some.inj hf
    exact tRet_i C hr hlk hP hS dX9_find_12
def rmX9_doubled : Room := { frames := 3, cells := 0, slots := 0, locals := 61 }
theorem hn_X9_doubled_8 : ∀ w ∈ wsX80, w ∈ wsX9_doubled := fun w h => List.mem_cons_of_mem _ (List.mem_append_left _ (List.mem_append_right _ h))
theorem hn_X9_doubled_9 : ∀ w ∈ wsX90, w ∈ wsX9_doubled := fun w h => List.mem_cons_of_mem _ (List.mem_append_left _ (List.mem_append_left _ (List.mem_append_right _ h)))
theorem hd_X9_doubled : yX9_doubled.cls ≠ "java/lang/invoke/MethodHandle" ∧ yX9_doubled.cls ≠ "java/lang/invoke/VarHandle" ∧ (parseMethodDescriptor yX9_doubled.desc).map (fun d => d.parameters.length) = some 0 := by decide +kernel
set_option maxHeartbeats 4000000 in
set_option maxRecDepth 100000 in
theorem c_X9_doubled (l : Launch) {D : va_G} {cI cZ : ClassId} {a : Nat → Nat} (hA : ∀ S : St, va_D (xA a) (wX cI cZ a S)) {S : St} {o : Int32 × St} (hf : f_X9_doubled S = some o) : Met l yX9_doubled wsX9_doubled rmX9_doubled (tPc D cI cZ (wX cI cZ a) S ([.ref (a 0)] : List Value)) (tQi D (wX cI cZ a) (xA a) o.2 o.1) 0 0 (xA a) := by
  refine tEnter (cc := cX9_doubled) (maxL := 1) (ret := (some .int)) (own := RX9) hA rfl (by decide) rfl (Nat.le_of_ble_eq_true rfl) (fun p e s m args below meth c C hr hlk hP hS ls hl => ?_)
  obtain ⟨⟨hx, hb, hml, hown, hts⟩, hK, hN, -⟩ := id C
  have hl : lv_has ls 1 [(0, .ref (a 0))] := hl
  have hin8 := hn_X9_doubled_8
  have hin9 := hn_X9_doubled_9
  have hSS := hS
  rw [f_X9_doubled] at hf
  revert hP hS
  suffices hsuf : ∀ (H : Heap) (locs : List Loc), va_P D vwCl (wX cI cZ a S) H → va_S (xA a) s.heap H locs → W p l e rmX9_doubled s m args below meth c H locs 0 0 (MQ below (tQi D (wX cI cZ a) (xA a) o.2 o.1) args s 0 0 (xA a)) (F0 m 0 ls []) from fun hP hS => hsuf s.heap [] hP hS
  intro H locs hP hS
  refine lv_aload_n hx hb dX9_doubled_0 rfl (lv_at hl 0 rfl) ?_
  refine gx_9_3 C hin9 hP (List.mem_of_getElem? (i := 1) rfl) dX9_doubled_1 ?_
  refine lv_aload_n hx hb dX9_doubled_4 rfl (lv_at hl 0 rfl) ?_
  refine gx_9_2 C hin9 hP (List.mem_of_getElem? (i := 2) rfl) dX9_doubled_5 ?_
  obtain ⟨r8, hc8, hf⟩ := ob hf
  refine tCallVv (As := [.ref (a 7)]) (rest := []) (q0 := 9) (ci := 0) C hP hS rfl rfl (c_X0_remember_a7 l C.2.2.2 hc8) (cwV 1 hts gX9_doubled_X0_remember rfl rfl rfl ⟨rfl, hd_X0_remember⟩ ⟨Nat.le_of_ble_eq_true rfl, Nat.le_of_ble_eq_true rfl⟩) rfl hl rfl (Nat.le_of_ble_eq_true rfl) dX9_doubled_8 ⟨Nat.le_refl 0, Nat.le_refl 0⟩ (fun H locs hP hS => ?_)
  refine lv_aload_n hx hb dX9_doubled_11 rfl (lv_at hl 0 rfl) ?_
  refine gx_9_2 C hin9 hP (List.mem_of_getElem? (i := 2) rfl) dX9_doubled_12 ?_
  refine lv_dup hx hb dX9_doubled_15 rfl ?_
  refine gxn_8_2 C hin8 hP (i := 11) rfl dX9_doubled_16 ?_
  refine lv_iconst (v := (1 : Int32)) hx hb dX9_doubled_19 (by decide) ?_
  refine lv_iadd hx hb dX9_doubled_20 ?_
  refine pxn_8_2 C hin8 hP hS (i := 11) rfl dX9_doubled_21 (fun H locs hP hS => ?_)
  obtain ⟨S21, eS21⟩ : ∃ z, z = (sI r8 9 ((r8.1 9) + (1 : Int32))) := ⟨_, rfl⟩
  rw [← eS21] at hP
  have hf := nm_i hf eS21
  refine lv_aload_n hx hb dX9_doubled_24 rfl (lv_at hl 0 rfl) ?_
  refine gx_9_2 C hin9 hP (List.mem_of_getElem? (i := 2) rfl) dX9_doubled_25 ?_
  refine gxn_8_2 C hin8 hP (i := 11) rfl dX9_doubled_28 ?_
  obtain rfl := Option.some.inj hf
  exact tRet_i C hr hlk hP hS dX9_doubled_31
def rmX9_change : Room := { frames := 3, cells := 0, slots := 0, locals := 61 }
theorem hn_X9_change_8 : ∀ w ∈ wsX80, w ∈ wsX9_change := fun w h => List.mem_cons_of_mem _ (List.mem_append_left _ (List.mem_append_right _ h))
theorem hn_X9_change_9 : ∀ w ∈ wsX90, w ∈ wsX9_change := fun w h => List.mem_cons_of_mem _ (List.mem_append_left _ (List.mem_append_left _ (List.mem_append_right _ h)))
theorem hd_X9_change : yX9_change.cls ≠ "java/lang/invoke/MethodHandle" ∧ yX9_change.cls ≠ "java/lang/invoke/VarHandle" ∧ (parseMethodDescriptor yX9_change.desc).map (fun d => d.parameters.length) = some 0 := by decide +kernel
set_option maxHeartbeats 4000000 in
set_option maxRecDepth 100000 in
theorem c_X9_change (l : Launch) {D : va_G} {cI cZ : ClassId} {a : Nat → Nat} (hA : ∀ S : St, va_D (xA a) (wX cI cZ a S)) {S : St} {o : Int32 × St} (hf : f_X9_change S = some o) : Met l yX9_change wsX9_change rmX9_change (tPc D cI cZ (wX cI cZ a) S ([.ref (a 0)] : List Value)) (tQi D (wX cI cZ a) (xA a) o.2 o.1) 0 0 (xA a) := by
  refine tEnter (cc := cX9_change) (maxL := 1) (ret := (some .int)) (own := RX9) hA rfl (by decide) rfl (Nat.le_of_ble_eq_true rfl) (fun p e s m args below meth c C hr hlk hP hS ls hl => ?_)
  obtain ⟨⟨hx, hb, hml, hown, hts⟩, hK, hN, -⟩ := id C
  have hl : lv_has ls 1 [(0, .ref (a 0))] := hl
  have hin8 := hn_X9_change_8
  have hin9 := hn_X9_change_9
  have hSS := hS
  rw [f_X9_change] at hf
  revert hP hS
  suffices hsuf : ∀ (H : Heap) (locs : List Loc), va_P D vwCl (wX cI cZ a S) H → va_S (xA a) s.heap H locs → W p l e rmX9_change s m args below meth c H locs 0 0 (MQ below (tQi D (wX cI cZ a) (xA a) o.2 o.1) args s 0 0 (xA a)) (F0 m 0 ls []) from fun hP hS => hsuf s.heap [] hP hS
  intro H locs hP hS
  refine lv_aload_n hx hb dX9_change_0 rfl (lv_at hl 0 rfl) ?_
  refine gx_9_3 C hin9 hP (List.mem_of_getElem? (i := 1) rfl) dX9_change_1 ?_
  refine lv_aload_n hx hb dX9_change_4 rfl (lv_at hl 0 rfl) ?_
  refine gx_9_2 C hin9 hP (List.mem_of_getElem? (i := 2) rfl) dX9_change_5 ?_
  obtain ⟨r8, hc8, hf⟩ := ob hf
  refine tCallVv (As := [.ref (a 7)]) (rest := []) (q0 := 9) (ci := 0) C hP hS rfl rfl (c_X0_remember_a7 l C.2.2.2 hc8) (cwV 1 hts gX9_change_X0_remember rfl rfl rfl ⟨rfl, hd_X0_remember⟩ ⟨Nat.le_of_ble_eq_true rfl, Nat.le_of_ble_eq_true rfl⟩) rfl hl rfl (Nat.le_of_ble_eq_true rfl) dX9_change_8 ⟨Nat.le_refl 0, Nat.le_refl 0⟩ (fun H locs hP hS => ?_)
  refine lv_aload_n hx hb dX9_change_11 rfl (lv_at hl 0 rfl) ?_
  refine gx_9_2 C hin9 hP (List.mem_of_getElem? (i := 2) rfl) dX9_change_12 ?_
  refine lv_iconst (v := (1 : Int32)) hx hb dX9_change_15 (by decide) ?_
  refine lv_aload_n hx hb dX9_change_16 rfl (lv_at hl 0 rfl) ?_
  refine gx_9_2 C hin9 hP (List.mem_of_getElem? (i := 2) rfl) dX9_change_17 ?_
  refine gxn_8_5 C hin8 hP (i := 17) rfl dX9_change_20 ?_
  refine lv_isub hx hb dX9_change_23 ?_
  refine pxn_8_5 C hin8 hP hS (i := 17) rfl dX9_change_24 (fun H locs hP hS => ?_)
  obtain ⟨S24, eS24⟩ : ∃ z, z = (sI r8 12 ((1 : Int32) - (r8.1 12))) := ⟨_, rfl⟩
  rw [← eS24] at hP
  have hf := nm_i hf eS24
  refine lv_aload_n hx hb dX9_change_27 rfl (lv_at hl 0 rfl) ?_
  refine gx_9_2 C hin9 hP (List.mem_of_getElem? (i := 2) rfl) dX9_change_28 ?_
  refine gxn_8_5 C hin8 hP (i := 17) rfl dX9_change_31 ?_
  obtain rfl := Option.some.inj hf
  exact tRet_i C hr hlk hP hS dX9_change_34
def rmX9_stretch : Room := { frames := 3, cells := 0, slots := 0, locals := 61 }
theorem hn_X9_stretch_8 : ∀ w ∈ wsX80, w ∈ wsX9_stretch := fun w h => List.mem_cons_of_mem _ (List.mem_append_left _ (List.mem_append_right _ h))
theorem hn_X9_stretch_9 : ∀ w ∈ wsX90, w ∈ wsX9_stretch := fun w h => List.mem_cons_of_mem _ (List.mem_append_left _ (List.mem_append_left _ (List.mem_append_right _ h)))
theorem hd_X9_stretch : yX9_stretch.cls ≠ "java/lang/invoke/MethodHandle" ∧ yX9_stretch.cls ≠ "java/lang/invoke/VarHandle" ∧ (parseMethodDescriptor yX9_stretch.desc).map (fun d => d.parameters.length) = some 1 := by decide +kernel
set_option maxHeartbeats 4000000 in
set_option maxRecDepth 100000 in
theorem c_X9_stretch (l : Launch) {D : va_G} {cI cZ : ClassId} {a : Nat → Nat} (hA : ∀ S : St, va_D (xA a) (wX cI cZ a S)) {x1 : Int32} {S : St} {o : Int32 × St} (hf : f_X9_stretch x1 S = some o) : Met l yX9_stretch wsX9_stretch rmX9_stretch (tPc D cI cZ (wX cI cZ a) S ([.ref (a 0), .int x1] : List Value)) (tQi D (wX cI cZ a) (xA a) o.2 o.1) 0 0 (xA a) := by
  refine tEnter (cc := cX9_stretch) (maxL := 2) (ret := (some .int)) (own := RX9) hA rfl (by decide) rfl (Nat.le_of_ble_eq_true rfl) (fun p e s m args below meth c C hr hlk hP hS ls hl => ?_)
  obtain ⟨⟨hx, hb, hml, hown, hts⟩, hK, hN, -⟩ := id C
  have hl : lv_has ls 2 [(0, .ref (a 0)), (1, .int x1)] := hl
  have hin8 := hn_X9_stretch_8
  have hin9 := hn_X9_stretch_9
  have hSS := hS
  rw [f_X9_stretch] at hf
  revert hP hS
  suffices hsuf : ∀ (H : Heap) (locs : List Loc), va_P D vwCl (wX cI cZ a S) H → va_S (xA a) s.heap H locs → W p l e rmX9_stretch s m args below meth c H locs 0 0 (MQ below (tQi D (wX cI cZ a) (xA a) o.2 o.1) args s 0 0 (xA a)) (F0 m 0 ls []) from fun hP hS => hsuf s.heap [] hP hS
  intro H locs hP hS
  refine lv_iload_n hx hb dX9_stretch_0 rfl (lv_at hl 1 rfl) ?_
  refine lv_bipush (v := (-3 : Int32)) hx hb dX9_stretch_1 (by decide) ?_
  refine lv_icmp_lt (tgt := 15) hx hb dX9_stretch_3 (by decide) (fun c1 => ?_) (fun c1 => ?_)
  · have hf := if_p hf c1
    refine lv_bipush (v := (-2 : Int32)) hx hb dX9_stretch_15 (by decide) ?_
    obtain rfl := Option.some.inj hf
    exact tRet_i C hr hlk hP hS dX9_stretch_17
  · have hf := if_n hf c1
    refine lv_iload_n hx hb dX9_stretch_6 rfl (lv_at hl 1 rfl) ?_
    refine lv_iconst (v := (3 : Int32)) hx hb dX9_stretch_7 (by decide) ?_
    refine lv_icmp_gt (tgt := 15) hx hb dX9_stretch_8 (by decide) (fun c2 => ?_) (fun c2 => ?_)
    · have hf := if_p hf c2
      refine lv_bipush (v := (-2 : Int32)) hx hb dX9_stretch_15 (by decide) ?_
      obtain rfl := Option.some.inj hf
      exact tRet_i C hr hlk hP hS dX9_stretch_17
    · have hf := if_n hf c2
      refine lv_iload_n hx hb dX9_stretch_11 rfl (lv_at hl 1 rfl) ?_
      refine lv_if_ne (tgt := 18) hx hb dX9_stretch_12 (by decide) (fun c3 => ?_) (fun c3 => ?_)
      · have hf := if_n hf c3
        refine lv_aload_n hx hb dX9_stretch_18 rfl (lv_at hl 0 rfl) ?_
        refine gx_9_2 C hin9 hP (List.mem_of_getElem? (i := 1) rfl) dX9_stretch_19 ?_
        refine gxn_8_6 C hin8 hP (i := 19) rfl dX9_stretch_22 ?_
        refine lv_iload_n hx hb dX9_stretch_25 rfl (lv_at hl 1 rfl) ?_
        refine lv_iadd hx hb dX9_stretch_26 ?_
        refine va_mabs hx hb (hml.trans hl.1.symm) hown (hts _ (List.mem_of_getElem? (i := 2) rfl)) (hts _ (List.mem_of_getElem? (i := 3) rfl)) (hts _ (List.mem_of_getElem? (i := 4) rfl)) (hts _ (List.mem_of_getElem? (i := 5) rfl)) (Nat.le_of_ble_eq_true rfl) (Nat.le_of_ble_eq_true rfl) (Nat.le_refl 0) (Nat.le_refl 0) dX9_stretch_27 ?_
        refine lv_bipush (v := (9 : Int32)) hx hb dX9_stretch_30 (by decide) ?_
        refine lv_icmp_le (tgt := 38) hx hb dX9_stretch_32 (by decide) (fun c4 => ?_) (fun c4 => ?_)
        · have hf := if_p hf c4
          refine lv_aload_n hx hb dX9_stretch_38 rfl (lv_at hl 0 rfl) ?_
          refine gx_9_3 C hin9 hP (List.mem_of_getElem? (i := 6) rfl) dX9_stretch_39 ?_
          refine lv_aload_n hx hb dX9_stretch_42 rfl (lv_at hl 0 rfl) ?_
          refine gx_9_2 C hin9 hP (List.mem_of_getElem? (i := 1) rfl) dX9_stretch_43 ?_
          obtain ⟨r46, hc46, hf⟩ := ob hf
          refine tCallVv (As := [.ref (a 7)]) (rest := []) (q0 := 9) (ci := 0) C hP hS rfl rfl (c_X0_remember_a7 l C.2.2.2 hc46) (cwV 1 hts gX9_stretch_X0_remember rfl rfl rfl ⟨rfl, hd_X0_remember⟩ ⟨Nat.le_of_ble_eq_true rfl, Nat.le_of_ble_eq_true rfl⟩) rfl hl rfl (Nat.le_of_ble_eq_true rfl) dX9_stretch_46 ⟨Nat.le_refl 0, Nat.le_refl 0⟩ (fun H locs hP hS => ?_)
          refine lv_aload_n hx hb dX9_stretch_49 rfl (lv_at hl 0 rfl) ?_
          refine gx_9_2 C hin9 hP (List.mem_of_getElem? (i := 1) rfl) dX9_stretch_50 ?_
          refine lv_dup hx hb dX9_stretch_53 rfl ?_
          refine gxn_8_6 C hin8 hP (i := 19) rfl dX9_stretch_54 ?_
          refine lv_iload_n hx hb dX9_stretch_57 rfl (lv_at hl 1 rfl) ?_
          refine lv_iadd hx hb dX9_stretch_58 ?_
          refine pxn_8_6 C hin8 hP hS (i := 19) rfl dX9_stretch_59 (fun H locs hP hS => ?_)
          obtain ⟨S59, eS59⟩ : ∃ z, z = (sI r46 13 ((r46.1 13) + x1)) := ⟨_, rfl⟩
          rw [← eS59] at hP
          have hf := nm_i hf eS59
          refine lv_aload_n hx hb dX9_stretch_62 rfl (lv_at hl 0 rfl) ?_
          refine gx_9_2 C hin9 hP (List.mem_of_getElem? (i := 1) rfl) dX9_stretch_63 ?_
          refine gxn_8_6 C hin8 hP (i := 19) rfl dX9_stretch_66 ?_
          refine lv_bipush (v := (50 : Int32)) hx hb dX9_stretch_69 (by decide) ?_
          refine lv_iadd hx hb dX9_stretch_71 ?_
          obtain rfl := Option.some.inj hf
          exact tRet_i C hr hlk hP hS dX9_stretch_72
        · have hf := if_n hf c4
          refine lv_bipush (v := (-3 : Int32)) hx hb dX9_stretch_35 (by decide) ?_
          obtain rfl := Option.some.inj hf
          exact tRet_i C hr hlk hP hS dX9_stretch_37
      · have hf := if_p hf c3
        refine lv_bipush (v := (-2 : Int32)) hx hb dX9_stretch_15 (by decide) ?_
        obtain rfl := Option.some.inj hf
        exact tRet_i C hr hlk hP hS dX9_stretch_17
def rmX9_knot : Room := { frames := 3, cells := 0, slots := 0, locals := 61 }
theorem hn_X9_knot_8 : ∀ w ∈ wsX80, w ∈ wsX9_knot := fun w h => List.mem_cons_of_mem _ (List.mem_append_left _ (List.mem_append_right _ h))
theorem hn_X9_knot_9 : ∀ w ∈ wsX90, w ∈ wsX9_knot := fun w h => List.mem_cons_of_mem _ (List.mem_append_left _ (List.mem_append_left _ (List.mem_append_right _ h)))
theorem hd_X9_knot : yX9_knot.cls ≠ "java/lang/invoke/MethodHandle" ∧ yX9_knot.cls ≠ "java/lang/invoke/VarHandle" ∧ (parseMethodDescriptor yX9_knot.desc).map (fun d => d.parameters.length) = some 0 := by decide +kernel
set_option maxHeartbeats 4000000 in
set_option maxRecDepth 100000 in
theorem c_X9_knot (l : Launch) {D : va_G} {cI cZ : ClassId} {a : Nat → Nat} (hA : ∀ S : St, va_D (xA a) (wX cI cZ a S)) {S : St} {o : Int32 × St} (hf : f_X9_knot S = some o) : Met l yX9_knot wsX9_knot rmX9_knot (tPc D cI cZ (wX cI cZ a) S ([.ref (a 0)] : List Value)) (tQi D (wX cI cZ a) (xA a) o.2 o.1) 0 0 (xA a) := by
  refine tEnter (cc := cX9_knot) (maxL := 1) (ret := (some .int)) (own := RX9) hA rfl (by decide) rfl (Nat.le_of_ble_eq_true rfl) (fun p e s m args below meth c C hr hlk hP hS ls hl => ?_)
  obtain ⟨⟨hx, hb, hml, hown, hts⟩, hK, hN, -⟩ := id C
  have hl : lv_has ls 1 [(0, .ref (a 0))] := hl
  have hin8 := hn_X9_knot_8
  have hin9 := hn_X9_knot_9
  have hSS := hS
  rw [f_X9_knot] at hf
  revert hP hS
  suffices hsuf : ∀ (H : Heap) (locs : List Loc), va_P D vwCl (wX cI cZ a S) H → va_S (xA a) s.heap H locs → W p l e rmX9_knot s m args below meth c H locs 0 0 (MQ below (tQi D (wX cI cZ a) (xA a) o.2 o.1) args s 0 0 (xA a)) (F0 m 0 ls []) from fun hP hS => hsuf s.heap [] hP hS
  intro H locs hP hS
  refine lv_aload_n hx hb dX9_knot_0 rfl (lv_at hl 0 rfl) ?_
  refine gx_9_2 C hin9 hP (List.mem_of_getElem? (i := 1) rfl) dX9_knot_1 ?_
  refine gxn_8_7 C hin8 hP (i := 21) rfl dX9_knot_4 ?_
  refine lv_bipush (v := (9 : Int32)) hx hb dX9_knot_7 (by decide) ?_
  refine lv_icmp_lt (tgt := 15) hx hb dX9_knot_9 (by decide) (fun c1 => ?_) (fun c1 => ?_)
  · have hf := if_p hf c1
    refine lv_aload_n hx hb dX9_knot_15 rfl (lv_at hl 0 rfl) ?_
    refine gx_9_3 C hin9 hP (List.mem_of_getElem? (i := 2) rfl) dX9_knot_16 ?_
    refine lv_aload_n hx hb dX9_knot_19 rfl (lv_at hl 0 rfl) ?_
    refine gx_9_2 C hin9 hP (List.mem_of_getElem? (i := 1) rfl) dX9_knot_20 ?_
    obtain ⟨r23, hc23, hf⟩ := ob hf
    refine tCallVv (As := [.ref (a 7)]) (rest := []) (q0 := 9) (ci := 0) C hP hS rfl rfl (c_X0_remember_a7 l C.2.2.2 hc23) (cwV 1 hts gX9_knot_X0_remember rfl rfl rfl ⟨rfl, hd_X0_remember⟩ ⟨Nat.le_of_ble_eq_true rfl, Nat.le_of_ble_eq_true rfl⟩) rfl hl rfl (Nat.le_of_ble_eq_true rfl) dX9_knot_23 ⟨Nat.le_refl 0, Nat.le_refl 0⟩ (fun H locs hP hS => ?_)
    refine lv_aload_n hx hb dX9_knot_26 rfl (lv_at hl 0 rfl) ?_
    refine gx_9_2 C hin9 hP (List.mem_of_getElem? (i := 1) rfl) dX9_knot_27 ?_
    refine lv_dup hx hb dX9_knot_30 rfl ?_
    refine gxn_8_7 C hin8 hP (i := 21) rfl dX9_knot_31 ?_
    refine lv_iconst (v := (1 : Int32)) hx hb dX9_knot_34 (by decide) ?_
    refine lv_iadd hx hb dX9_knot_35 ?_
    refine pxn_8_7 C hin8 hP hS (i := 21) rfl dX9_knot_36 (fun H locs hP hS => ?_)
    obtain ⟨S36, eS36⟩ : ∃ z, z = (sI r23 14 ((r23.1 14) + (1 : Int32))) := ⟨_, rfl⟩
    rw [← eS36] at hP
    have hf := nm_i hf eS36
    refine lv_aload_n hx hb dX9_knot_39 rfl (lv_at hl 0 rfl) ?_
    refine gx_9_2 C hin9 hP (List.mem_of_getElem? (i := 1) rfl) dX9_knot_40 ?_
    refine gxn_8_7 C hin8 hP (i := 21) rfl dX9_knot_43 ?_
    obtain rfl := Option.some.inj hf
    exact tRet_i C hr hlk hP hS dX9_knot_46
  · have hf := if_n hf c1
    refine lv_bipush (v := (-4 : Int32)) hx hb dX9_knot_12 (by decide) ?_
    obtain rfl := Option.some.inj hf
    exact tRet_i C hr hlk hP hS dX9_knot_14
def rmX9_clear : Room := { frames := 3, cells := 0, slots := 0, locals := 61 }
theorem hn_X9_clear_8 : ∀ w ∈ wsX80, w ∈ wsX9_clear := fun w h => List.mem_cons_of_mem _ (List.mem_append_left _ (List.mem_append_right _ h))
theorem hn_X9_clear_9 : ∀ w ∈ wsX90, w ∈ wsX9_clear := fun w h => List.mem_cons_of_mem _ (List.mem_append_left _ (List.mem_append_left _ (List.mem_append_right _ h)))
theorem hd_X9_clear : yX9_clear.cls ≠ "java/lang/invoke/MethodHandle" ∧ yX9_clear.cls ≠ "java/lang/invoke/VarHandle" ∧ (parseMethodDescriptor yX9_clear.desc).map (fun d => d.parameters.length) = some 0 := by decide +kernel
set_option maxHeartbeats 4000000 in
set_option maxRecDepth 100000 in
theorem c_X9_clear (l : Launch) {D : va_G} {cI cZ : ClassId} {a : Nat → Nat} (hA : ∀ S : St, va_D (xA a) (wX cI cZ a S)) {S : St} {o : Int32 × St} (hf : f_X9_clear S = some o) : Met l yX9_clear wsX9_clear rmX9_clear (tPc D cI cZ (wX cI cZ a) S ([.ref (a 0)] : List Value)) (tQi D (wX cI cZ a) (xA a) o.2 o.1) 0 0 (xA a) := by
  refine tEnter (cc := cX9_clear) (maxL := 2) (ret := (some .int)) (own := RX9) hA rfl (by decide) rfl (Nat.le_of_ble_eq_true rfl) (fun p e s m args below meth c C hr hlk hP hS ls hl => ?_)
  obtain ⟨⟨hx, hb, hml, hown, hts⟩, hK, hN, -⟩ := id C
  have hl : lv_has ls 2 [(0, .ref (a 0))] := hl
  have hin8 := hn_X9_clear_8
  have hin9 := hn_X9_clear_9
  have hSS := hS
  rw [f_X9_clear] at hf
  revert hP hS
  suffices hsuf : ∀ (H : Heap) (locs : List Loc), va_P D vwCl (wX cI cZ a S) H → va_S (xA a) s.heap H locs → W p l e rmX9_clear s m args below meth c H locs 0 0 (MQ below (tQi D (wX cI cZ a) (xA a) o.2 o.1) args s 0 0 (xA a)) (F0 m 0 ls []) from fun hP hS => hsuf s.heap [] hP hS
  intro H locs hP hS
  refine lv_aload_n hx hb dX9_clear_0 rfl (lv_at hl 0 rfl) ?_
  refine gx_9_2 C hin9 hP (List.mem_of_getElem? (i := 1) rfl) dX9_clear_1 ?_
  refine gxn_8_7 C hin8 hP (i := 21) rfl dX9_clear_4 ?_
  refine lv_istore_n (lv' := [(1, .int (S.1 14)), (0, .ref (a 0))]) hx hb dX9_clear_7 rfl hl (Nat.le_of_ble_eq_true rfl) rfl (fun ls hl => ?_)
  refine lv_iload_n hx hb dX9_clear_8 rfl (lv_at hl 0 rfl) ?_
  refine lv_if_ne (tgt := 15) hx hb dX9_clear_9 (by decide) (fun c1 => ?_) (fun c1 => ?_)
  · have hf := if_n hf c1
    refine lv_aload_n hx hb dX9_clear_15 rfl (lv_at hl 1 rfl) ?_
    refine gx_9_3 C hin9 hP (List.mem_of_getElem? (i := 2) rfl) dX9_clear_16 ?_
    refine lv_aload_n hx hb dX9_clear_19 rfl (lv_at hl 1 rfl) ?_
    refine gx_9_2 C hin9 hP (List.mem_of_getElem? (i := 1) rfl) dX9_clear_20 ?_
    obtain ⟨r23, hc23, hf⟩ := ob hf
    refine tCallVv (As := [.ref (a 7)]) (rest := []) (q0 := 9) (ci := 0) C hP hS rfl rfl (c_X0_remember_a7 l C.2.2.2 hc23) (cwV 1 hts gX9_clear_X0_remember rfl rfl rfl ⟨rfl, hd_X0_remember⟩ ⟨Nat.le_of_ble_eq_true rfl, Nat.le_of_ble_eq_true rfl⟩) rfl hl rfl (Nat.le_of_ble_eq_true rfl) dX9_clear_23 ⟨Nat.le_refl 0, Nat.le_refl 0⟩ (fun H locs hP hS => ?_)
    refine lv_aload_n hx hb dX9_clear_26 rfl (lv_at hl 1 rfl) ?_
    refine gx_9_2 C hin9 hP (List.mem_of_getElem? (i := 1) rfl) dX9_clear_27 ?_
    refine lv_iconst (v := (0 : Int32)) hx hb dX9_clear_30 (by decide) ?_
    refine pxn_8_7 C hin8 hP hS (i := 21) rfl dX9_clear_31 (fun H locs hP hS => ?_)
    obtain ⟨S31, eS31⟩ : ∃ z, z = (sI r23 14 (0 : Int32)) := ⟨_, rfl⟩
    rw [← eS31] at hP
    have hf := nm_i hf eS31
    refine lv_iload_n hx hb dX9_clear_34 rfl (lv_at hl 0 rfl) ?_
    obtain rfl := Option.some.inj hf
    exact tRet_i C hr hlk hP hS dX9_clear_35
  · have hf := if_p hf c1
    refine lv_bipush (v := (-3 : Int32)) hx hb dX9_clear_12 (by decide) ?_
    obtain rfl := Option.some.inj hf
    exact tRet_i C hr hlk hP hS dX9_clear_14
def rmX8_loadFrom_a10 : Room := { frames := 1, cells := 0, slots := 0, locals := 18 }
theorem hn_X8_loadFrom_a10_8 : ∀ w ∈ wsX80, w ∈ wsX8_loadFrom := fun w h => List.mem_cons_of_mem _ (List.mem_append_right _ h)
theorem hd_X8_loadFrom : yX8_loadFrom.cls ≠ "java/lang/invoke/MethodHandle" ∧ yX8_loadFrom.cls ≠ "java/lang/invoke/VarHandle" ∧ (parseMethodDescriptor yX8_loadFrom.desc).map (fun d => d.parameters.length) = some 2 := by decide +kernel
set_option maxHeartbeats 4000000 in
set_option maxRecDepth 100000 in
theorem c_X8_loadFrom_a10 (l : Launch) {D : va_G} {cI cZ : ClassId} {a : Nat → Nat} (hA : ∀ S : St, va_D (xA a) (wX cI cZ a S)) {x2 : Int32} {S : St} {o : St} (hf : f_X8_loadFrom_a10 x2 S = some o) : Met l yX8_loadFrom wsX8_loadFrom rmX8_loadFrom_a10 (tPc D cI cZ (wX cI cZ a) S ([.ref (a 7), .ref (a 10), .int x2] : List Value)) (tQv D (wX cI cZ a) (xA a) o) 0 0 (xA a) := by
  refine tEnter (cc := cX8_loadFrom) (maxL := 3) (ret := none) (own := RX8) hA rfl (by decide) rfl (Nat.le_of_ble_eq_true rfl) (fun p e s m args below meth c C hr hlk hP hS ls hl => ?_)
  obtain ⟨⟨hx, hb, hml, hown, hts⟩, hK, hN, -⟩ := id C
  have hl : lv_has ls 3 [(0, .ref (a 7)), (1, .ref (a 10)), (2, .int x2)] := hl
  have hin8 := hn_X8_loadFrom_a10_8
  have hSS := hS
  rw [f_X8_loadFrom_a10] at hf
  revert hP hS
  suffices hsuf : ∀ (H : Heap) (locs : List Loc), va_P D vwCl (wX cI cZ a S) H → va_S (xA a) s.heap H locs → W p l e rmX8_loadFrom_a10 s m args below meth c H locs 0 0 (MQ below (tQv D (wX cI cZ a) (xA a) o) args s 0 0 (xA a)) (F0 m 0 ls []) from fun hP hS => hsuf s.heap [] hP hS
  intro H locs hP hS
  refine lv_iload_n hx hb dX8_loadFrom_0 rfl (lv_at hl 2 rfl) ?_
  refine lv_if_lt (tgt := 13) hx hb dX8_loadFrom_1 (by decide) (fun c1 => ?_) (fun c1 => ?_)
  · have hf := if_p hf c1
    obtain rfl := Option.some.inj hf
    exact tRet_v C hr hlk hP hS dX8_loadFrom_13
  · have hf := if_n hf c1
    refine lv_iload_n hx hb dX8_loadFrom_4 rfl (lv_at hl 2 rfl) ?_
    refine lv_aload_n hx hb dX8_loadFrom_5 rfl (lv_at hl 1 rfl) ?_
    refine alx_5 C hP dX8_loadFrom_6 ?_
    refine lv_bipush (v := (16 : Int32)) hx hb dX8_loadFrom_7 (by decide) ?_
    refine lv_isub hx hb dX8_loadFrom_9 ?_
    refine lv_icmp_le (tgt := 14) hx hb dX8_loadFrom_10 (by decide) (fun c2 => ?_) (fun c2 => ?_)
    · have hf := if_p hf c2
      refine lv_aload_n hx hb dX8_loadFrom_14 rfl (lv_at hl 0 rfl) ?_
      refine lv_aload_n hx hb dX8_loadFrom_15 rfl (lv_at hl 1 rfl) ?_
      refine lv_iload_n hx hb dX8_loadFrom_16 rfl (lv_at hl 2 rfl) ?_
      obtain ⟨hi3, hf⟩ := ob_in hf
      refine ldx_5 C hP rfl hi3 dX8_loadFrom_17 ?_
      refine px_8_0 C hin8 hP hS (List.mem_of_getElem? (i := 1) rfl) dX8_loadFrom_18 (fun H locs hP hS => ?_)
      obtain ⟨S18, eS18⟩ : ∃ z, z = (sI S 7 (S.2.1 5 x2.toNatClampNeg)) := ⟨_, rfl⟩
      rw [← eS18] at hP
      have hf := nm_i hf eS18
      refine lv_aload_n hx hb dX8_loadFrom_21 rfl (lv_at hl 0 rfl) ?_
      refine lv_aload_n hx hb dX8_loadFrom_22 rfl (lv_at hl 1 rfl) ?_
      refine lv_iload_n hx hb dX8_loadFrom_23 rfl (lv_at hl 2 rfl) ?_
      refine lv_iconst (v := (1 : Int32)) hx hb dX8_loadFrom_24 (by decide) ?_
      refine lv_iadd hx hb dX8_loadFrom_25 ?_
      obtain ⟨hi4, hf⟩ := ob_in hf
      refine ldx_5 C hP rfl hi4 dX8_loadFrom_26 ?_
      refine px_8_1 C hin8 hP hS (List.mem_of_getElem? (i := 2) rfl) dX8_loadFrom_27 (fun H locs hP hS => ?_)
      obtain ⟨S27, eS27⟩ : ∃ z, z = (sI S18 8 (S18.2.1 5 ((x2 + (1 : Int32)).toNatClampNeg))) := ⟨_, rfl⟩
      rw [← eS27] at hP
      have hf := nm_i hf eS27
      refine lv_aload_n hx hb dX8_loadFrom_30 rfl (lv_at hl 0 rfl) ?_
      refine lv_aload_n hx hb dX8_loadFrom_31 rfl (lv_at hl 1 rfl) ?_
      refine lv_iload_n hx hb dX8_loadFrom_32 rfl (lv_at hl 2 rfl) ?_
      refine lv_iconst (v := (2 : Int32)) hx hb dX8_loadFrom_33 (by decide) ?_
      refine lv_iadd hx hb dX8_loadFrom_34 ?_
      obtain ⟨hi5, hf⟩ := ob_in hf
      refine ldx_5 C hP rfl hi5 dX8_loadFrom_35 ?_
      refine px_8_2 C hin8 hP hS (List.mem_of_getElem? (i := 3) rfl) dX8_loadFrom_36 (fun H locs hP hS => ?_)
      obtain ⟨S36, eS36⟩ : ∃ z, z = (sI S27 9 (S27.2.1 5 ((x2 + (2 : Int32)).toNatClampNeg))) := ⟨_, rfl⟩
      rw [← eS36] at hP
      have hf := nm_i hf eS36
      refine lv_aload_n hx hb dX8_loadFrom_39 rfl (lv_at hl 0 rfl) ?_
      refine lv_aload_n hx hb dX8_loadFrom_40 rfl (lv_at hl 1 rfl) ?_
      refine lv_iload_n hx hb dX8_loadFrom_41 rfl (lv_at hl 2 rfl) ?_
      refine lv_iconst (v := (3 : Int32)) hx hb dX8_loadFrom_42 (by decide) ?_
      refine lv_iadd hx hb dX8_loadFrom_43 ?_
      obtain ⟨hi6, hf⟩ := ob_in hf
      refine ldx_5 C hP rfl hi6 dX8_loadFrom_44 ?_
      refine px_8_3 C hin8 hP hS (List.mem_of_getElem? (i := 4) rfl) dX8_loadFrom_45 (fun H locs hP hS => ?_)
      obtain ⟨S45, eS45⟩ : ∃ z, z = (sI S36 10 (S36.2.1 5 ((x2 + (3 : Int32)).toNatClampNeg))) := ⟨_, rfl⟩
      rw [← eS45] at hP
      have hf := nm_i hf eS45
      refine lv_aload_n hx hb dX8_loadFrom_48 rfl (lv_at hl 0 rfl) ?_
      refine lv_aload_n hx hb dX8_loadFrom_49 rfl (lv_at hl 1 rfl) ?_
      refine lv_iload_n hx hb dX8_loadFrom_50 rfl (lv_at hl 2 rfl) ?_
      refine lv_iconst (v := (4 : Int32)) hx hb dX8_loadFrom_51 (by decide) ?_
      refine lv_iadd hx hb dX8_loadFrom_52 ?_
      obtain ⟨hi7, hf⟩ := ob_in hf
      refine ldx_5 C hP rfl hi7 dX8_loadFrom_53 ?_
      refine px_8_4 C hin8 hP hS (List.mem_of_getElem? (i := 5) rfl) dX8_loadFrom_54 (fun H locs hP hS => ?_)
      obtain ⟨S54, eS54⟩ : ∃ z, z = (sI S45 11 (S45.2.1 5 ((x2 + (4 : Int32)).toNatClampNeg))) := ⟨_, rfl⟩
      rw [← eS54] at hP
      have hf := nm_i hf eS54
      refine lv_aload_n hx hb dX8_loadFrom_57 rfl (lv_at hl 0 rfl) ?_
      refine lv_aload_n hx hb dX8_loadFrom_58 rfl (lv_at hl 1 rfl) ?_
      refine lv_iload_n hx hb dX8_loadFrom_59 rfl (lv_at hl 2 rfl) ?_
      refine lv_iconst (v := (5 : Int32)) hx hb dX8_loadFrom_60 (by decide) ?_
      refine lv_iadd hx hb dX8_loadFrom_61 ?_
      obtain ⟨hi8, hf⟩ := ob_in hf
      refine ldx_5 C hP rfl hi8 dX8_loadFrom_62 ?_
      refine px_8_5 C hin8 hP hS (List.mem_of_getElem? (i := 6) rfl) dX8_loadFrom_63 (fun H locs hP hS => ?_)
      obtain ⟨S63, eS63⟩ : ∃ z, z = (sI S54 12 (S54.2.1 5 ((x2 + (5 : Int32)).toNatClampNeg))) := ⟨_, rfl⟩
      rw [← eS63] at hP
      have hf := nm_i hf eS63
      refine lv_aload_n hx hb dX8_loadFrom_66 rfl (lv_at hl 0 rfl) ?_
      refine lv_aload_n hx hb dX8_loadFrom_67 rfl (lv_at hl 1 rfl) ?_
      refine lv_iload_n hx hb dX8_loadFrom_68 rfl (lv_at hl 2 rfl) ?_
      refine lv_bipush (v := (6 : Int32)) hx hb dX8_loadFrom_69 (by decide) ?_
      refine lv_iadd hx hb dX8_loadFrom_71 ?_
      obtain ⟨hi9, hf⟩ := ob_in hf
      refine ldx_5 C hP rfl hi9 dX8_loadFrom_72 ?_
      refine px_8_6 C hin8 hP hS (List.mem_of_getElem? (i := 7) rfl) dX8_loadFrom_73 (fun H locs hP hS => ?_)
      obtain ⟨S73, eS73⟩ : ∃ z, z = (sI S63 13 (S63.2.1 5 ((x2 + (6 : Int32)).toNatClampNeg))) := ⟨_, rfl⟩
      rw [← eS73] at hP
      have hf := nm_i hf eS73
      refine lv_aload_n hx hb dX8_loadFrom_76 rfl (lv_at hl 0 rfl) ?_
      refine lv_aload_n hx hb dX8_loadFrom_77 rfl (lv_at hl 1 rfl) ?_
      refine lv_iload_n hx hb dX8_loadFrom_78 rfl (lv_at hl 2 rfl) ?_
      refine lv_bipush (v := (7 : Int32)) hx hb dX8_loadFrom_79 (by decide) ?_
      refine lv_iadd hx hb dX8_loadFrom_81 ?_
      obtain ⟨hi10, hf⟩ := ob_in hf
      refine ldx_5 C hP rfl hi10 dX8_loadFrom_82 ?_
      refine px_8_7 C hin8 hP hS (List.mem_of_getElem? (i := 8) rfl) dX8_loadFrom_83 (fun H locs hP hS => ?_)
      obtain ⟨S83, eS83⟩ : ∃ z, z = (sI S73 14 (S73.2.1 5 ((x2 + (7 : Int32)).toNatClampNeg))) := ⟨_, rfl⟩
      rw [← eS83] at hP
      have hf := nm_i hf eS83
      refine lv_aload_n hx hb dX8_loadFrom_86 rfl (lv_at hl 1 rfl) ?_
      refine lv_iload_n hx hb dX8_loadFrom_87 rfl (lv_at hl 2 rfl) ?_
      refine lv_bipush (v := (8 : Int32)) hx hb dX8_loadFrom_88 (by decide) ?_
      refine lv_iadd hx hb dX8_loadFrom_90 ?_
      refine lv_aload_n hx hb dX8_loadFrom_91 rfl (lv_at hl 0 rfl) ?_
      refine gx_8_8 C hin8 hP (List.mem_of_getElem? (i := 9) rfl) dX8_loadFrom_92 ?_
      refine lv_iconst (v := (0 : Int32)) hx hb dX8_loadFrom_95 (by decide) ?_
      refine lv_bipush (v := (8 : Int32)) hx hb dX8_loadFrom_96 (by decide) ?_
      obtain ⟨hz11, hf⟩ := ob_ne hf
      refine cp_5_4 C hP hS hl hz11 (List.mem_of_getElem? (i := 10) rfl) (List.mem_of_getElem? (i := 11) rfl) (List.mem_of_getElem? (i := 12) rfl) (List.mem_of_getElem? (i := 13) rfl) (Nat.le_of_ble_eq_true rfl) (Nat.le_of_ble_eq_true rfl) dX8_loadFrom_98 (fun H locs hP hS => ?_)
      obtain ⟨S98, eS98⟩ : ∃ z, z = (sR S83 4 (va_cpy (S83.2.1 5) (S83.2.1 4) (x2 + (8 : Int32)).toNatClampNeg (0 : Int32).toNatClampNeg (8 : Int32).toNatClampNeg)) := ⟨_, rfl⟩
      rw [← eS98] at hP
      have hf := nm_i hf eS98
      obtain rfl := Option.some.inj hf
      exact tRet_v C hr hlk hP hS dX8_loadFrom_101
    · have hf := if_n hf c2
      obtain rfl := Option.some.inj hf
      exact tRet_v C hr hlk hP hS dX8_loadFrom_13
def rmX0_takeBack_a7 : Room := { frames := 2, cells := 0, slots := 0, locals := 40 }
theorem hn_X0_takeBack_a7_0 : ∀ w ∈ wsX00, w ∈ wsX0_takeBack := fun w h => List.mem_cons_of_mem _ (List.mem_append_left _ (List.mem_append_right _ h))
theorem hd_X0_takeBack : yX0_takeBack.cls ≠ "java/lang/invoke/MethodHandle" ∧ yX0_takeBack.cls ≠ "java/lang/invoke/VarHandle" ∧ (parseMethodDescriptor yX0_takeBack.desc).map (fun d => d.parameters.length) = some 1 := by decide +kernel
set_option maxHeartbeats 4000000 in
set_option maxRecDepth 100000 in
theorem c_X0_takeBack_a7 (l : Launch) {D : va_G} {cI cZ : ClassId} {a : Nat → Nat} (hA : ∀ S : St, va_D (xA a) (wX cI cZ a S)) {S : St} {o : St} (hf : f_X0_takeBack_a7 S = some o) : Met l yX0_takeBack wsX0_takeBack rmX0_takeBack_a7 (tPc D cI cZ (wX cI cZ a) S ([.ref (a 9), .ref (a 7)] : List Value)) (tQv D (wX cI cZ a) (xA a) o) 0 0 (xA a) := by
  refine tEnter (cc := cX0_takeBack) (maxL := 2) (ret := none) (own := RX0) hA rfl (by decide) rfl (Nat.le_of_ble_eq_true rfl) (fun p e s m args below meth c C hr hlk hP hS ls hl => ?_)
  obtain ⟨⟨hx, hb, hml, hown, hts⟩, hK, hN, -⟩ := id C
  have hl : lv_has ls 2 [(0, .ref (a 9)), (1, .ref (a 7))] := hl
  have hin0 := hn_X0_takeBack_a7_0
  have hSS := hS
  rw [f_X0_takeBack_a7] at hf
  revert hP hS
  suffices hsuf : ∀ (H : Heap) (locs : List Loc), va_P D vwCl (wX cI cZ a S) H → va_S (xA a) s.heap H locs → W p l e rmX0_takeBack_a7 s m args below meth c H locs 0 0 (MQ below (tQv D (wX cI cZ a) (xA a) o) args s 0 0 (xA a)) (F0 m 0 ls []) from fun hP hS => hsuf s.heap [] hP hS
  intro H locs hP hS
  refine lv_aload_n hx hb dX0_takeBack_0 rfl (lv_at hl 0 rfl) ?_
  refine gx_0_2 C hin0 hP (List.mem_of_getElem? (i := 1) rfl) dX0_takeBack_1 ?_
  refine lv_if_ne (tgt := 8) hx hb dX0_takeBack_4 (by decide) (fun c1 => ?_) (fun c1 => ?_)
  · have hf := if_n hf c1
    refine lv_aload_n hx hb dX0_takeBack_8 rfl (lv_at hl 0 rfl) ?_
    refine lv_dup hx hb dX0_takeBack_9 rfl ?_
    refine gx_0_2 C hin0 hP (List.mem_of_getElem? (i := 1) rfl) dX0_takeBack_10 ?_
    refine lv_iconst (v := (1 : Int32)) hx hb dX0_takeBack_13 (by decide) ?_
    refine lv_isub hx hb dX0_takeBack_14 ?_
    refine px_0_2 C hin0 hP hS (List.mem_of_getElem? (i := 1) rfl) dX0_takeBack_15 (fun H locs hP hS => ?_)
    obtain ⟨S15, eS15⟩ : ∃ z, z = (sI S 16 ((S.1 16) - (1 : Int32))) := ⟨_, rfl⟩
    rw [← eS15] at hP
    have hf := nm_i hf eS15
    refine lv_aload_n hx hb dX0_takeBack_18 rfl (lv_at hl 1 rfl) ?_
    refine lv_aload_n hx hb dX0_takeBack_19 rfl (lv_at hl 0 rfl) ?_
    refine gx_0_0 C hin0 hP (List.mem_of_getElem? (i := 2) rfl) dX0_takeBack_20 ?_
    refine lv_aload_n hx hb dX0_takeBack_23 rfl (lv_at hl 0 rfl) ?_
    refine lv_aload_n hx hb dX0_takeBack_24 rfl (lv_at hl 0 rfl) ?_
    refine gx_0_2 C hin0 hP (List.mem_of_getElem? (i := 1) rfl) dX0_takeBack_25 ?_
    obtain ⟨r28, hc28, hf⟩ := ob hf
    refine tCallVi (As := [.int (S15.1 16)]) (rest := [.ref (a 10), .ref (a 7)]) (q0 := 9) (ci := 0) C hP hS rfl rfl (c_X0_startOf l C.2.2.2 hc28) (cwV 1 hts gX0_takeBack_X0_startOf rfl rfl rfl ⟨rfl, hd_X0_startOf⟩ ⟨Nat.le_of_ble_eq_true rfl, Nat.le_of_ble_eq_true rfl⟩) rfl hl rfl (Nat.le_of_ble_eq_true rfl) dX0_takeBack_28 ⟨Nat.le_refl 0, Nat.le_refl 0⟩ (fun H locs hP hS => ?_)
    obtain ⟨r31, hc31, hf⟩ := ob hf
    refine tCallVv (As := [.ref (a 10), .int r28]) (rest := []) (q0 := 7) (ci := 8) C hP hS rfl rfl (c_X8_loadFrom_a10 l C.2.2.2 hc31) (cwV 2 hts gX0_takeBack_X8_loadFrom rfl rfl rfl ⟨rfl, hd_X8_loadFrom⟩ ⟨Nat.le_of_ble_eq_true rfl, Nat.le_of_ble_eq_true rfl⟩) rfl hl rfl (Nat.le_of_ble_eq_true rfl) dX0_takeBack_31 ⟨Nat.le_refl 0, Nat.le_refl 0⟩ (fun H locs hP hS => ?_)
    obtain rfl := Option.some.inj hf
    exact tRet_v C hr hlk hP hS dX0_takeBack_34
  · have hf := if_p hf c1
    obtain rfl := Option.some.inj hf
    exact tRet_v C hr hlk hP hS dX0_takeBack_7
def rmX9_undo : Room := { frames := 3, cells := 0, slots := 0, locals := 61 }
theorem hn_X9_undo_0 : ∀ w ∈ wsX00, w ∈ wsX9_undo := fun w h => List.mem_cons_of_mem _ (List.mem_append_left _ (List.mem_append_right _ h))
theorem hn_X9_undo_9 : ∀ w ∈ wsX90, w ∈ wsX9_undo := fun w h => List.mem_cons_of_mem _ (List.mem_append_left _ (List.mem_append_left _ (List.mem_append_right _ h)))
theorem hd_X9_undo : yX9_undo.cls ≠ "java/lang/invoke/MethodHandle" ∧ yX9_undo.cls ≠ "java/lang/invoke/VarHandle" ∧ (parseMethodDescriptor yX9_undo.desc).map (fun d => d.parameters.length) = some 0 := by decide +kernel
set_option maxHeartbeats 4000000 in
set_option maxRecDepth 100000 in
theorem c_X9_undo (l : Launch) {D : va_G} {cI cZ : ClassId} {a : Nat → Nat} (hA : ∀ S : St, va_D (xA a) (wX cI cZ a S)) {S : St} {o : Int32 × St} (hf : f_X9_undo S = some o) : Met l yX9_undo wsX9_undo rmX9_undo (tPc D cI cZ (wX cI cZ a) S ([.ref (a 0)] : List Value)) (tQi D (wX cI cZ a) (xA a) o.2 o.1) 0 0 (xA a) := by
  refine tEnter (cc := cX9_undo) (maxL := 1) (ret := (some .int)) (own := RX9) hA rfl (by decide) rfl (Nat.le_of_ble_eq_true rfl) (fun p e s m args below meth c C hr hlk hP hS ls hl => ?_)
  obtain ⟨⟨hx, hb, hml, hown, hts⟩, hK, hN, -⟩ := id C
  have hl : lv_has ls 1 [(0, .ref (a 0))] := hl
  have hin0 := hn_X9_undo_0
  have hin9 := hn_X9_undo_9
  have hSS := hS
  rw [f_X9_undo] at hf
  revert hP hS
  suffices hsuf : ∀ (H : Heap) (locs : List Loc), va_P D vwCl (wX cI cZ a S) H → va_S (xA a) s.heap H locs → W p l e rmX9_undo s m args below meth c H locs 0 0 (MQ below (tQi D (wX cI cZ a) (xA a) o.2 o.1) args s 0 0 (xA a)) (F0 m 0 ls []) from fun hP hS => hsuf s.heap [] hP hS
  intro H locs hP hS
  refine lv_aload_n hx hb dX9_undo_0 rfl (lv_at hl 0 rfl) ?_
  refine gx_9_3 C hin9 hP (List.mem_of_getElem? (i := 1) rfl) dX9_undo_1 ?_
  refine gxn_0_2 C hin0 hP (i := 22) rfl dX9_undo_4 ?_
  refine lv_if_ne (tgt := 13) hx hb dX9_undo_7 (by decide) (fun c1 => ?_) (fun c1 => ?_)
  · have hf := if_n hf c1
    refine lv_aload_n hx hb dX9_undo_13 rfl (lv_at hl 0 rfl) ?_
    refine gx_9_3 C hin9 hP (List.mem_of_getElem? (i := 1) rfl) dX9_undo_14 ?_
    refine lv_aload_n hx hb dX9_undo_17 rfl (lv_at hl 0 rfl) ?_
    refine gx_9_2 C hin9 hP (List.mem_of_getElem? (i := 2) rfl) dX9_undo_18 ?_
    obtain ⟨r21, hc21, hf⟩ := ob hf
    refine tCallVv (As := [.ref (a 7)]) (rest := []) (q0 := 9) (ci := 0) C hP hS rfl rfl (c_X0_takeBack_a7 l C.2.2.2 hc21) (cwV 1 hts gX9_undo_X0_takeBack rfl rfl rfl ⟨rfl, hd_X0_takeBack⟩ ⟨Nat.le_of_ble_eq_true rfl, Nat.le_of_ble_eq_true rfl⟩) rfl hl rfl (Nat.le_of_ble_eq_true rfl) dX9_undo_21 ⟨Nat.le_refl 0, Nat.le_refl 0⟩ (fun H locs hP hS => ?_)
    refine lv_aload_n hx hb dX9_undo_24 rfl (lv_at hl 0 rfl) ?_
    refine gx_9_3 C hin9 hP (List.mem_of_getElem? (i := 1) rfl) dX9_undo_25 ?_
    refine gxn_0_2 C hin0 hP (i := 22) rfl dX9_undo_28 ?_
    obtain rfl := Option.some.inj hf
    exact tRet_i C hr hlk hP hS dX9_undo_31
  · have hf := if_p hf c1
    refine lv_bipush (v := (-3 : Int32)) hx hb dX9_undo_10 (by decide) ?_
    obtain rfl := Option.some.inj hf
    exact tRet_i C hr hlk hP hS dX9_undo_12
def rmX1_reaches : Room := { frames := 0, cells := 0, slots := 0, locals := 0 }
theorem hn_X1_reaches_1 : ∀ w ∈ wsX10, w ∈ wsX1_reaches := fun w h => List.mem_cons_of_mem _ (List.mem_append_left _ (List.mem_append_left _ (List.mem_append_right _ h)))
theorem hn_X1_reaches_3 : ∀ w ∈ wsX30, w ∈ wsX1_reaches := fun w h => List.mem_cons_of_mem _ (List.mem_append_left _ (List.mem_append_right _ h))
theorem hn_X1_reaches_8 : ∀ w ∈ wsX80, w ∈ wsX1_reaches := fun w h => List.mem_cons_of_mem _ (List.mem_append_right _ h)
theorem hd_X1_reaches : yX1_reaches.cls ≠ "java/lang/invoke/MethodHandle" ∧ yX1_reaches.cls ≠ "java/lang/invoke/VarHandle" ∧ (parseMethodDescriptor yX1_reaches.desc).map (fun d => d.parameters.length) = some 1 := by decide +kernel
set_option maxHeartbeats 4000000 in
set_option maxRecDepth 100000 in
theorem c_X1_reaches (l : Launch) {D : va_G} {cI cZ : ClassId} {a : Nat → Nat} (hA : ∀ S : St, va_D (xA a) (wX cI cZ a S)) {x1 : Int32} {S : St} {o : Int32} (hf : f_X1_reaches x1 S = some o) : Met l yX1_reaches wsX1_reaches rmX1_reaches (tPc D cI cZ (wX cI cZ a) S ([.ref (a 16), .int x1] : List Value)) (tQi D (wX cI cZ a) (xA a) S o) 0 0 (xA a) := by
  refine tEnter (cc := cX1_reaches) (maxL := 2) (ret := (some .boolean)) (own := RX1) hA rfl (by decide) rfl (Nat.le_of_ble_eq_true rfl) (fun p e s m args below meth c C hr hlk hP hS ls hl => ?_)
  obtain ⟨⟨hx, hb, hml, hown, hts⟩, hK, hN, -⟩ := id C
  have hl : lv_has ls 2 [(0, .ref (a 16)), (1, .int x1)] := hl
  have hin1 := hn_X1_reaches_1
  have hin3 := hn_X1_reaches_3
  have hin8 := hn_X1_reaches_8
  have hSS := hS
  rw [f_X1_reaches] at hf
  revert hP hS
  suffices hsuf : ∀ (H : Heap) (locs : List Loc), va_P D vwCl (wX cI cZ a S) H → va_S (xA a) s.heap H locs → W p l e rmX1_reaches s m args below meth c H locs 0 0 (MQ below (tQi D (wX cI cZ a) (xA a) S o) args s 0 0 (xA a)) (F0 m 0 ls []) from fun hP hS => hsuf s.heap [] hP hS
  intro H locs hP hS
  refine lv_iload_n hx hb dX1_reaches_0 rfl (lv_at hl 1 rfl) ?_
  refine lv_if_lt (tgt := 27) hx hb dX1_reaches_1 (by decide) (fun c1 => ?_) (fun c1 => ?_)
  · have hf := if_p hf c1
    refine lv_iconst (v := (0 : Int32)) hx hb dX1_reaches_27 (by decide) ?_
    obtain rfl := Option.some.inj hf
    exact tRet_z (v := (0 : Int32)) C hr hlk hP hS rfl dX1_reaches_28
  · have hf := if_n hf c1
    refine lv_iload_n hx hb dX1_reaches_4 rfl (lv_at hl 1 rfl) ?_
    refine lv_aload_n hx hb dX1_reaches_5 rfl (lv_at hl 0 rfl) ?_
    refine gx_1_0 C hin1 hP (List.mem_of_getElem? (i := 1) rfl) dX1_reaches_6 ?_
    refine gxn_3_5 C hin3 hP (i := 6) rfl dX1_reaches_9 ?_
    refine lv_aload_n hx hb dX1_reaches_12 rfl (lv_at hl 0 rfl) ?_
    refine gx_1_1 C hin1 hP (List.mem_of_getElem? (i := 2) rfl) dX1_reaches_13 ?_
    refine gxn_8_3 C hin8 hP (i := 13) rfl dX1_reaches_16 ?_
    refine lv_isub hx hb dX1_reaches_19 ?_
    refine lv_icmp_gt (tgt := 27) hx hb dX1_reaches_20 (by decide) (fun c2 => ?_) (fun c2 => ?_)
    · have hf := if_p hf c2
      refine lv_iconst (v := (0 : Int32)) hx hb dX1_reaches_27 (by decide) ?_
      obtain rfl := Option.some.inj hf
      exact tRet_z (v := (0 : Int32)) C hr hlk hP hS rfl dX1_reaches_28
    · have hf := if_n hf c2
      refine lv_iconst (v := (1 : Int32)) hx hb dX1_reaches_23 (by decide) ?_
      refine lv_goto (tgt := 28) hx hb dX1_reaches_24 (by decide) ?_
      obtain rfl := Option.some.inj hf
      exact tRet_z (v := (1 : Int32)) C hr hlk hP hS rfl dX1_reaches_28
def rmX1_leaderBy : Room := { frames := 0, cells := 0, slots := 0, locals := 0 }
theorem hd_X1_leaderBy : yX1_leaderBy.cls ≠ "java/lang/invoke/MethodHandle" ∧ yX1_leaderBy.cls ≠ "java/lang/invoke/VarHandle" ∧ (parseMethodDescriptor yX1_leaderBy.desc).map (fun d => d.parameters.length) = some 2 := by decide +kernel
set_option maxHeartbeats 4000000 in
set_option maxRecDepth 100000 in
theorem c_X1_leaderBy (l : Launch) {D : va_G} {cI cZ : ClassId} {a : Nat → Nat} (hA : ∀ S : St, va_D (xA a) (wX cI cZ a S)) {x1 : Int32} {x2 : Int32} {S : St} {o : Int32} (hf : f_X1_leaderBy x1 x2 = some o) : Met l yX1_leaderBy wsX1_leaderBy rmX1_leaderBy (tPc D cI cZ (wX cI cZ a) S ([.ref (a 16), .int x1, .int x2] : List Value)) (tQi D (wX cI cZ a) (xA a) S o) 0 0 (xA a) := by
  refine tEnter (cc := cX1_leaderBy) (maxL := 3) (ret := (some .int)) (own := RX1) hA rfl (by decide) rfl (Nat.le_of_ble_eq_true rfl) (fun p e s m args below meth c C hr hlk hP hS ls hl => ?_)
  obtain ⟨⟨hx, hb, hml, hown, hts⟩, hK, hN, -⟩ := id C
  have hl : lv_has ls 3 [(0, .ref (a 16)), (1, .int x1), (2, .int x2)] := hl
  have hSS := hS
  rw [f_X1_leaderBy] at hf
  revert hP hS
  suffices hsuf : ∀ (H : Heap) (locs : List Loc), va_P D vwCl (wX cI cZ a S) H → va_S (xA a) s.heap H locs → W p l e rmX1_leaderBy s m args below meth c H locs 0 0 (MQ below (tQi D (wX cI cZ a) (xA a) S o) args s 0 0 (xA a)) (F0 m 0 ls []) from fun hP hS => hsuf s.heap [] hP hS
  intro H locs hP hS
  refine lv_iload_n hx hb dX1_leaderBy_0 rfl (lv_at hl 1 rfl) ?_
  refine lv_iload_n hx hb dX1_leaderBy_1 rfl (lv_at hl 2 rfl) ?_
  refine lv_ishr hx hb dX1_leaderBy_2 ?_
  refine lv_iconst (v := (1 : Int32)) hx hb dX1_leaderBy_3 (by decide) ?_
  refine lv_iand hx hb dX1_leaderBy_4 ?_
  obtain rfl := Option.some.inj hf
  exact tRet_i C hr hlk hP hS dX1_leaderBy_5
def rmX1_offBy : Room := { frames := 3, cells := 0, slots := 0, locals := 64 }
theorem hn_X1_offBy_1 : ∀ w ∈ wsX10, w ∈ wsX1_offBy := fun w h => List.mem_cons_of_mem _ (List.mem_append_left _ (List.mem_append_left _ (List.mem_append_right _ h)))
theorem hn_X1_offBy_8 : ∀ w ∈ wsX80, w ∈ wsX1_offBy := fun w h => List.mem_cons_of_mem _ (List.mem_append_left _ (List.mem_append_right _ h))
theorem hd_X1_offBy : yX1_offBy.cls ≠ "java/lang/invoke/MethodHandle" ∧ yX1_offBy.cls ≠ "java/lang/invoke/VarHandle" ∧ (parseMethodDescriptor yX1_offBy.desc).map (fun d => d.parameters.length) = some 2 := by decide +kernel
set_option maxHeartbeats 4000000 in
set_option maxRecDepth 100000 in
theorem lp_X1_offBy_11 {p : Program} {l : Launch} {e : Env} {s : State} {m : MethodId} {args : Array Value} {below : List Frame} {meth : Method} {c : Code} {D : va_G} {cI cZ : ClassId} {a : Nat → Nat} {Q : State → Prop} {H0 : Heap} {x1 : Int32} {x2 : Int32} {S : St} {o : Int32}
    (C : tC p c s m args cX1_offBy 5 RX1 wsX1_offBy D cI cZ (wX cI cZ a) (xA a))
    (K0 : ∀ (H : Heap) (locs : List Loc) (ls : Array Slot), va_P D vwCl (wX cI cZ a S) H → va_S (xA a) H0 H locs → lv_has ls 5 [(3, .int o)] → W p l e rmX1_offBy s m args below meth c H locs 0 0 Q (F0 m 47 ls [])) :
    ∀ (n : Nat) (x3 : Int32) (x4 : Int32), l_X1_offBy_11 x1 x2 S n x3 x4 = some o → ∀ (H : Heap) (locs : List Loc) (ls : Array Slot), va_P D vwCl (wX cI cZ a S) H → va_S (xA a) H0 H locs → lv_has ls 5 [(0, .ref (a 16)), (1, .int x1), (2, .int x2), (3, .int x3), (4, .int x4)] → W p l e rmX1_offBy s m args below meth c H locs 0 0 Q (F0 m 11 ls []) := by
  obtain ⟨⟨hx, hb, hml, hown, hts⟩, hK, hN, hA⟩ := id C
  have hin1 := hn_X1_offBy_1
  have hin8 := hn_X1_offBy_8
  intro n
  induction n with
  | zero =>
    intro x3 x4 hf
    rw [l_X1_offBy_11] at hf
    cases hf
  | succ n ih =>
    intro x3 x4 hf H locs ls hP hS hl
    rw [l_X1_offBy_11] at hf
    refine lv_iload hx hb dX1_offBy_11 (lv_at hl 4 rfl) ?_
    refine lv_aload_n hx hb dX1_offBy_13 rfl (lv_at hl 0 rfl) ?_
    refine gx_1_1 C hin1 hP (List.mem_of_getElem? (i := 1) rfl) dX1_offBy_14 ?_
    refine gxn_8_3 C hin8 hP (i := 13) rfl dX1_offBy_17 ?_
    refine lv_iload_n hx hb dX1_offBy_20 rfl (lv_at hl 1 rfl) ?_
    refine lv_iadd hx hb dX1_offBy_21 ?_
    refine lv_icmp_ge (tgt := 47) hx hb dX1_offBy_22 (by decide) (fun c1 => ?_) (fun c1 => ?_)
    · have hf := if_p hf c1
      obtain rfl := Option.some.inj hf
      exact K0 H locs ls hP hS (lv_sub hl [3] rfl)
    · have hf := if_n hf c1
      refine lv_iload_n hx hb dX1_offBy_25 rfl (lv_at hl 3 rfl) ?_
      refine lv_aload_n hx hb dX1_offBy_26 rfl (lv_at hl 0 rfl) ?_
      refine lv_iload hx hb dX1_offBy_27 (lv_at hl 4 rfl) ?_
      refine lv_aload_n hx hb dX1_offBy_29 rfl (lv_at hl 0 rfl) ?_
      refine lv_iload_n hx hb dX1_offBy_30 rfl (lv_at hl 2 rfl) ?_
      refine lv_iload hx hb dX1_offBy_31 (lv_at hl 4 rfl) ?_
      obtain ⟨r33, hc33, hf⟩ := ob hf
      refine tCallVi (As := [.int x2, .int x4]) (rest := [.int x4, .ref (a 16), .int x3]) (q0 := 16) (ci := 1) C hP hS rfl rfl (c_X1_leaderBy l C.2.2.2 hc33) (cwV 2 hts gX1_offBy_X1_leaderBy rfl rfl rfl ⟨rfl, hd_X1_leaderBy⟩ ⟨Nat.le_of_ble_eq_true rfl, Nat.le_of_ble_eq_true rfl⟩) rfl hl rfl (Nat.le_of_ble_eq_true rfl) dX1_offBy_33 ⟨Nat.le_refl 0, Nat.le_refl 0⟩ (fun H locs hP hS => ?_)
      obtain ⟨r36, hc36, hf⟩ := ob hf
      refine tCallVi (As := [.int x4, .int r33]) (rest := [.int x3]) (q0 := 16) (ci := 1) C hP hS rfl rfl (c_X1_errorAt l C.2.2.2 hc36) (cwV 2 hts gX1_offBy_X1_errorAt rfl rfl rfl ⟨rfl, hd_X1_errorAt⟩ ⟨Nat.le_of_ble_eq_true rfl, Nat.le_of_ble_eq_true rfl⟩) rfl hl rfl (Nat.le_of_ble_eq_true rfl) dX1_offBy_36 ⟨Nat.le_refl 0, Nat.le_refl 0⟩ (fun H locs hP hS => ?_)
      refine lv_iadd hx hb dX1_offBy_39 ?_
      refine lv_istore_n (lv' := [(3, .int (x3 + r36)), (0, .ref (a 16)), (1, .int x1), (2, .int x2), (4, .int x4)]) hx hb dX1_offBy_40 rfl hl (Nat.le_of_ble_eq_true rfl) rfl (fun ls hl => ?_)
      refine lv_iinc (v := (x4 + 1)) (lv' := [(4, .int (x4 + 1)), (3, .int (x3 + r36)), (0, .ref (a 16)), (1, .int x1), (2, .int x2)]) hx hb dX1_offBy_41 hl (k := 4) rfl rfl (Nat.le_of_ble_eq_true rfl) rfl (fun ls hl => ?_)
      refine lv_goto (tgt := 11) hx hb dX1_offBy_44 (by decide) ?_
      exact ih _ _ hf H locs ls hP hS (lv_sub hl [2, 3, 4, 1, 0] rfl)
set_option maxHeartbeats 4000000 in
set_option maxRecDepth 100000 in
theorem c_X1_offBy (l : Launch) {D : va_G} {cI cZ : ClassId} {a : Nat → Nat} (hA : ∀ S : St, va_D (xA a) (wX cI cZ a S)) {x1 : Int32} {x2 : Int32} {S : St} {o : Int32} (hf : f_X1_offBy x1 x2 S = some o) : Met l yX1_offBy wsX1_offBy rmX1_offBy (tPc D cI cZ (wX cI cZ a) S ([.ref (a 16), .int x1, .int x2] : List Value)) (tQi D (wX cI cZ a) (xA a) S o) 0 0 (xA a) := by
  refine tEnter (cc := cX1_offBy) (maxL := 5) (ret := (some .int)) (own := RX1) hA rfl (by decide) rfl (Nat.le_of_ble_eq_true rfl) (fun p e s m args below meth c C hr hlk hP hS ls hl => ?_)
  obtain ⟨⟨hx, hb, hml, hown, hts⟩, hK, hN, -⟩ := id C
  have hl : lv_has ls 5 [(0, .ref (a 16)), (1, .int x1), (2, .int x2)] := hl
  have hin1 := hn_X1_offBy_1
  have hin8 := hn_X1_offBy_8
  have hSS := hS
  rw [f_X1_offBy] at hf
  revert hP hS
  suffices hsuf : ∀ (H : Heap) (locs : List Loc), va_P D vwCl (wX cI cZ a S) H → va_S (xA a) s.heap H locs → W p l e rmX1_offBy s m args below meth c H locs 0 0 (MQ below (tQi D (wX cI cZ a) (xA a) S o) args s 0 0 (xA a)) (F0 m 0 ls []) from fun hP hS => hsuf s.heap [] hP hS
  intro H locs hP hS
  refine lv_iconst (v := (0 : Int32)) hx hb dX1_offBy_0 (by decide) ?_
  refine lv_istore_n (lv' := [(3, .int (0 : Int32)), (0, .ref (a 16)), (1, .int x1), (2, .int x2)]) hx hb dX1_offBy_1 rfl hl (Nat.le_of_ble_eq_true rfl) rfl (fun ls hl => ?_)
  refine lv_aload_n hx hb dX1_offBy_2 rfl (lv_at hl 1 rfl) ?_
  refine gx_1_1 C hin1 hP (List.mem_of_getElem? (i := 1) rfl) dX1_offBy_3 ?_
  refine gxn_8_3 C hin8 hP (i := 13) rfl dX1_offBy_6 ?_
  refine lv_istore (lv' := [(4, .int (S.1 10)), (3, .int (0 : Int32)), (0, .ref (a 16)), (1, .int x1), (2, .int x2)]) hx hb dX1_offBy_9 hl (Nat.le_of_ble_eq_true rfl) rfl (fun ls hl => ?_)
  obtain ⟨o11, hc11, hf⟩ := ob hf
  refine lp_X1_offBy_11 C (fun H locs ls hP hS hl => ?_) fuel _ _ hc11 H locs ls hP hS (lv_sub hl [2, 3, 4, 1, 0] rfl)
  refine lv_iload_n hx hb dX1_offBy_47 rfl (lv_at hl 0 rfl) ?_
  obtain rfl := Option.some.inj hf
  exact tRet_i C hr hlk hP hS dX1_offBy_48
def rmX9_off : Room := { frames := 4, cells := 0, slots := 0, locals := 88 }
theorem hn_X9_off_9 : ∀ w ∈ wsX90, w ∈ wsX9_off := fun w h => List.mem_cons_of_mem _ (List.mem_append_left _ (List.mem_append_left _ (List.mem_append_left _ (List.mem_append_right _ h))))
theorem hd_X9_off : yX9_off.cls ≠ "java/lang/invoke/MethodHandle" ∧ yX9_off.cls ≠ "java/lang/invoke/VarHandle" ∧ (parseMethodDescriptor yX9_off.desc).map (fun d => d.parameters.length) = some 2 := by decide +kernel
set_option maxHeartbeats 4000000 in
set_option maxRecDepth 100000 in
theorem c_X9_off (l : Launch) {D : va_G} {cI cZ : ClassId} {a : Nat → Nat} (hA : ∀ S : St, va_D (xA a) (wX cI cZ a S)) {x1 : Int32} {x2 : Int32} {S : St} {o : Int32} (hf : f_X9_off x1 x2 S = some o) : Met l yX9_off wsX9_off rmX9_off (tPc D cI cZ (wX cI cZ a) S ([.ref (a 0), .int x1, .int x2] : List Value)) (tQi D (wX cI cZ a) (xA a) S o) 0 0 (xA a) := by
  refine tEnter (cc := cX9_off) (maxL := 3) (ret := (some .int)) (own := RX9) hA rfl (by decide) rfl (Nat.le_of_ble_eq_true rfl) (fun p e s m args below meth c C hr hlk hP hS ls hl => ?_)
  obtain ⟨⟨hx, hb, hml, hown, hts⟩, hK, hN, -⟩ := id C
  have hl : lv_has ls 3 [(0, .ref (a 0)), (1, .int x1), (2, .int x2)] := hl
  have hin9 := hn_X9_off_9
  have hSS := hS
  rw [f_X9_off] at hf
  revert hP hS
  suffices hsuf : ∀ (H : Heap) (locs : List Loc), va_P D vwCl (wX cI cZ a S) H → va_S (xA a) s.heap H locs → W p l e rmX9_off s m args below meth c H locs 0 0 (MQ below (tQi D (wX cI cZ a) (xA a) S o) args s 0 0 (xA a)) (F0 m 0 ls []) from fun hP hS => hsuf s.heap [] hP hS
  intro H locs hP hS
  refine lv_aload_n hx hb dX9_off_0 rfl (lv_at hl 0 rfl) ?_
  refine gx_9_6 C hin9 hP (List.mem_of_getElem? (i := 1) rfl) dX9_off_1 ?_
  refine lv_iload_n hx hb dX9_off_4 rfl (lv_at hl 1 rfl) ?_
  obtain ⟨r5, hc5, hf⟩ := ob hf
  refine tCallVi (As := [.int x1]) (rest := []) (q0 := 16) (ci := 1) C hP hS rfl rfl (c_X1_reaches l C.2.2.2 hc5) (cwV 1 hts gX9_off_X1_reaches rfl rfl rfl ⟨rfl, hd_X1_reaches⟩ ⟨Nat.le_of_ble_eq_true rfl, Nat.le_of_ble_eq_true rfl⟩) rfl hl rfl (Nat.le_of_ble_eq_true rfl) dX9_off_5 ⟨Nat.le_refl 0, Nat.le_refl 0⟩ (fun H locs hP hS => ?_)
  refine lv_if_eq (tgt := 22) hx hb dX9_off_8 (by decide) (fun c1 => ?_) (fun c1 => ?_)
  · have hf := if_p hf c1
    refine lv_bipush (v := (-2 : Int32)) hx hb dX9_off_22 (by decide) ?_
    obtain rfl := Option.some.inj hf
    exact tRet_i C hr hlk hP hS dX9_off_24
  · have hf := if_n hf c1
    refine lv_iload_n hx hb dX9_off_11 rfl (lv_at hl 2 rfl) ?_
    refine lv_if_lt (tgt := 22) hx hb dX9_off_12 (by decide) (fun c2 => ?_) (fun c2 => ?_)
    · have hf := if_p hf c2
      refine lv_bipush (v := (-2 : Int32)) hx hb dX9_off_22 (by decide) ?_
      obtain rfl := Option.some.inj hf
      exact tRet_i C hr hlk hP hS dX9_off_24
    · have hf := if_n hf c2
      refine lv_iload_n hx hb dX9_off_15 rfl (lv_at hl 2 rfl) ?_
      refine lv_sipush (v := (255 : Int32)) hx hb dX9_off_16 (by decide) ?_
      refine lv_icmp_le (tgt := 25) hx hb dX9_off_19 (by decide) (fun c3 => ?_) (fun c3 => ?_)
      · have hf := if_p hf c3
        refine lv_aload_n hx hb dX9_off_25 rfl (lv_at hl 0 rfl) ?_
        refine gx_9_6 C hin9 hP (List.mem_of_getElem? (i := 1) rfl) dX9_off_26 ?_
        refine lv_iload_n hx hb dX9_off_29 rfl (lv_at hl 1 rfl) ?_
        refine lv_iload_n hx hb dX9_off_30 rfl (lv_at hl 2 rfl) ?_
        obtain ⟨r31, hc31, hf⟩ := ob hf
        refine tCallVi (As := [.int x1, .int x2]) (rest := []) (q0 := 16) (ci := 1) C hP hS rfl rfl (c_X1_offBy l C.2.2.2 hc31) (cwV 2 hts gX9_off_X1_offBy rfl rfl rfl ⟨rfl, hd_X1_offBy⟩ ⟨Nat.le_of_ble_eq_true rfl, Nat.le_of_ble_eq_true rfl⟩) rfl hl rfl (Nat.le_of_ble_eq_true rfl) dX9_off_31 ⟨Nat.le_refl 0, Nat.le_refl 0⟩ (fun H locs hP hS => ?_)
        refine lv_sipush (v := (20000 : Int32)) hx hb dX9_off_34 (by decide) ?_
        refine lv_iadd hx hb dX9_off_37 ?_
        obtain rfl := Option.some.inj hf
        exact tRet_i C hr hlk hP hS dX9_off_38
      · have hf := if_n hf c3
        refine lv_bipush (v := (-2 : Int32)) hx hb dX9_off_22 (by decide) ?_
        obtain rfl := Option.some.inj hf
        exact tRet_i C hr hlk hP hS dX9_off_24
def rmJ6_bitCount_0f7a4 : Room := { frames := 0, cells := 0, slots := 0, locals := 0 }
theorem hd_J6_bitCount_0f7a4 : yJ6_bitCount_0f7a4.cls ≠ "java/lang/invoke/MethodHandle" ∧ yJ6_bitCount_0f7a4.cls ≠ "java/lang/invoke/VarHandle" ∧ (parseMethodDescriptor yJ6_bitCount_0f7a4.desc).map (fun d => d.parameters.length) = some 1 := by decide +kernel
set_option maxHeartbeats 4000000 in
set_option maxRecDepth 100000 in
theorem c_J6_bitCount_0f7a4 (l : Launch) {D : va_G} {cI cZ : ClassId} {a : Nat → Nat} (hA : ∀ S : St, va_D (xA a) (wX cI cZ a S)) {x0 : Int32} {S : St} {o : Int32} (hf : f_J6_bitCount_0f7a4 x0 = some o) : Met l yJ6_bitCount_0f7a4 wsJ6_bitCount_0f7a4 rmJ6_bitCount_0f7a4 (tPc D cI cZ (wX cI cZ a) S ([.int x0] : List Value)) (tQi D (wX cI cZ a) (xA a) S o) 0 0 (xA a) := by
  refine tEnter (cc := cJ6_bitCount_0f7a4) (maxL := 1) (ret := (some .int)) (own := RJ6) hA rfl (by decide) rfl (Nat.le_of_ble_eq_true rfl) (fun p e s m args below meth c C hr hlk hP hS ls hl => ?_)
  obtain ⟨⟨hx, hb, hml, hown, hts⟩, hK, hN, -⟩ := id C
  have hl : lv_has ls 1 [(0, .int x0)] := hl
  have hSS := hS
  rw [f_J6_bitCount_0f7a4] at hf
  revert hP hS
  suffices hsuf : ∀ (H : Heap) (locs : List Loc), va_P D vwCl (wX cI cZ a S) H → va_S (xA a) s.heap H locs → W p l e rmJ6_bitCount_0f7a4 s m args below meth c H locs 0 0 (MQ below (tQi D (wX cI cZ a) (xA a) S o) args s 0 0 (xA a)) (F0 m 0 ls []) from fun hP hS => hsuf s.heap [] hP hS
  intro H locs hP hS
  refine lv_iload_n hx hb dJ6_bitCount_0f7a4_0 rfl (lv_at hl 0 rfl) ?_
  refine lv_iload_n hx hb dJ6_bitCount_0f7a4_1 rfl (lv_at hl 0 rfl) ?_
  refine lv_iconst (v := (1 : Int32)) hx hb dJ6_bitCount_0f7a4_2 (by decide) ?_
  refine lv_iushr hx hb dJ6_bitCount_0f7a4_3 rfl ?_
  refine lv_ldcw (v := (1431655765 : Int32)) hx hb hown (hts _ (List.mem_of_getElem? (i := 1) rfl)) dJ6_bitCount_0f7a4_4 ?_
  refine lv_iand hx hb dJ6_bitCount_0f7a4_7 ?_
  refine lv_isub hx hb dJ6_bitCount_0f7a4_8 ?_
  refine lv_topi (fun v9 e9 => ?_)
  have hf := nm_i hf e9
  refine lv_istore_n (lv' := [(0, .int v9)]) hx hb dJ6_bitCount_0f7a4_9 rfl hl (Nat.le_of_ble_eq_true rfl) rfl (fun ls hl => ?_)
  refine lv_iload_n hx hb dJ6_bitCount_0f7a4_10 rfl (lv_at hl 0 rfl) ?_
  refine lv_ldcw (v := (858993459 : Int32)) hx hb hown (hts _ (List.mem_of_getElem? (i := 2) rfl)) dJ6_bitCount_0f7a4_11 ?_
  refine lv_iand hx hb dJ6_bitCount_0f7a4_14 ?_
  refine lv_iload_n hx hb dJ6_bitCount_0f7a4_15 rfl (lv_at hl 0 rfl) ?_
  refine lv_iconst (v := (2 : Int32)) hx hb dJ6_bitCount_0f7a4_16 (by decide) ?_
  refine lv_iushr hx hb dJ6_bitCount_0f7a4_17 rfl ?_
  refine lv_ldcw (v := (858993459 : Int32)) hx hb hown (hts _ (List.mem_of_getElem? (i := 2) rfl)) dJ6_bitCount_0f7a4_18 ?_
  refine lv_iand hx hb dJ6_bitCount_0f7a4_21 ?_
  refine lv_iadd hx hb dJ6_bitCount_0f7a4_22 ?_
  refine lv_topi (fun v23 e23 => ?_)
  have hf := nm_i hf e23
  refine lv_istore_n (lv' := [(0, .int v23)]) hx hb dJ6_bitCount_0f7a4_23 rfl hl (Nat.le_of_ble_eq_true rfl) rfl (fun ls hl => ?_)
  refine lv_iload_n hx hb dJ6_bitCount_0f7a4_24 rfl (lv_at hl 0 rfl) ?_
  refine lv_iload_n hx hb dJ6_bitCount_0f7a4_25 rfl (lv_at hl 0 rfl) ?_
  refine lv_iconst (v := (4 : Int32)) hx hb dJ6_bitCount_0f7a4_26 (by decide) ?_
  refine lv_iushr hx hb dJ6_bitCount_0f7a4_27 rfl ?_
  refine lv_iadd hx hb dJ6_bitCount_0f7a4_28 ?_
  refine lv_ldcw (v := (252645135 : Int32)) hx hb hown (hts _ (List.mem_of_getElem? (i := 3) rfl)) dJ6_bitCount_0f7a4_29 ?_
  refine lv_iand hx hb dJ6_bitCount_0f7a4_32 ?_
  refine lv_topi (fun v33 e33 => ?_)
  have hf := nm_i hf e33
  refine lv_istore_n (lv' := [(0, .int v33)]) hx hb dJ6_bitCount_0f7a4_33 rfl hl (Nat.le_of_ble_eq_true rfl) rfl (fun ls hl => ?_)
  refine lv_iload_n hx hb dJ6_bitCount_0f7a4_34 rfl (lv_at hl 0 rfl) ?_
  refine lv_iload_n hx hb dJ6_bitCount_0f7a4_35 rfl (lv_at hl 0 rfl) ?_
  refine lv_bipush (v := (8 : Int32)) hx hb dJ6_bitCount_0f7a4_36 (by decide) ?_
  refine lv_iushr hx hb dJ6_bitCount_0f7a4_38 rfl ?_
  refine lv_iadd hx hb dJ6_bitCount_0f7a4_39 ?_
  refine lv_topi (fun v40 e40 => ?_)
  have hf := nm_i hf e40
  refine lv_istore_n (lv' := [(0, .int v40)]) hx hb dJ6_bitCount_0f7a4_40 rfl hl (Nat.le_of_ble_eq_true rfl) rfl (fun ls hl => ?_)
  refine lv_iload_n hx hb dJ6_bitCount_0f7a4_41 rfl (lv_at hl 0 rfl) ?_
  refine lv_iload_n hx hb dJ6_bitCount_0f7a4_42 rfl (lv_at hl 0 rfl) ?_
  refine lv_bipush (v := (16 : Int32)) hx hb dJ6_bitCount_0f7a4_43 (by decide) ?_
  refine lv_iushr hx hb dJ6_bitCount_0f7a4_45 rfl ?_
  refine lv_iadd hx hb dJ6_bitCount_0f7a4_46 ?_
  refine lv_topi (fun v47 e47 => ?_)
  have hf := nm_i hf e47
  refine lv_istore_n (lv' := [(0, .int v47)]) hx hb dJ6_bitCount_0f7a4_47 rfl hl (Nat.le_of_ble_eq_true rfl) rfl (fun ls hl => ?_)
  refine lv_iload_n hx hb dJ6_bitCount_0f7a4_48 rfl (lv_at hl 0 rfl) ?_
  refine lv_bipush (v := (63 : Int32)) hx hb dJ6_bitCount_0f7a4_49 (by decide) ?_
  refine lv_iand hx hb dJ6_bitCount_0f7a4_51 ?_
  obtain rfl := Option.some.inj hf
  exact tRet_i C hr hlk hP hS dJ6_bitCount_0f7a4_52
def rmX1_turnsIn : Room := { frames := 1, cells := 0, slots := 0, locals := 20 }
theorem hn_X1_turnsIn_1 : ∀ w ∈ wsX10, w ∈ wsX1_turnsIn := fun w h => List.mem_cons_of_mem _ (List.mem_append_left _ (List.mem_append_right _ h))
theorem hn_X1_turnsIn_8 : ∀ w ∈ wsX80, w ∈ wsX1_turnsIn := fun w h => List.mem_cons_of_mem _ (List.mem_append_right _ h)
theorem hd_X1_turnsIn : yX1_turnsIn.cls ≠ "java/lang/invoke/MethodHandle" ∧ yX1_turnsIn.cls ≠ "java/lang/invoke/VarHandle" ∧ (parseMethodDescriptor yX1_turnsIn.desc).map (fun d => d.parameters.length) = some 2 := by decide +kernel
set_option maxHeartbeats 4000000 in
set_option maxRecDepth 100000 in
theorem c_X1_turnsIn (l : Launch) {D : va_G} {cI cZ : ClassId} {a : Nat → Nat} (hA : ∀ S : St, va_D (xA a) (wX cI cZ a S)) {x1 : Int32} {x2 : Int32} {S : St} {o : Int32} (hf : f_X1_turnsIn x1 x2 S = some o) : Met l yX1_turnsIn wsX1_turnsIn rmX1_turnsIn (tPc D cI cZ (wX cI cZ a) S ([.ref (a 16), .int x1, .int x2] : List Value)) (tQi D (wX cI cZ a) (xA a) S o) 0 0 (xA a) := by
  refine tEnter (cc := cX1_turnsIn) (maxL := 5) (ret := (some .int)) (own := RX1) hA rfl (by decide) rfl (Nat.le_of_ble_eq_true rfl) (fun p e s m args below meth c C hr hlk hP hS ls hl => ?_)
  obtain ⟨⟨hx, hb, hml, hown, hts⟩, hK, hN, -⟩ := id C
  have hl : lv_has ls 5 [(0, .ref (a 16)), (1, .int x1), (2, .int x2)] := hl
  have hin1 := hn_X1_turnsIn_1
  have hin8 := hn_X1_turnsIn_8
  have hSS := hS
  rw [f_X1_turnsIn] at hf
  revert hP hS
  suffices hsuf : ∀ (H : Heap) (locs : List Loc), va_P D vwCl (wX cI cZ a S) H → va_S (xA a) s.heap H locs → W p l e rmX1_turnsIn s m args below meth c H locs 0 0 (MQ below (tQi D (wX cI cZ a) (xA a) S o) args s 0 0 (xA a)) (F0 m 0 ls []) from fun hP hS => hsuf s.heap [] hP hS
  intro H locs hP hS
  refine lv_iload_n hx hb dX1_turnsIn_0 rfl (lv_at hl 2 rfl) ?_
  refine lv_iconst (v := (1 : Int32)) hx hb dX1_turnsIn_1 (by decide) ?_
  refine lv_ishl hx hb dX1_turnsIn_2 ?_
  refine lv_aload_n hx hb dX1_turnsIn_3 rfl (lv_at hl 0 rfl) ?_
  refine gx_1_1 C hin1 hP (List.mem_of_getElem? (i := 1) rfl) dX1_turnsIn_4 ?_
  refine gxn_8_5 C hin8 hP (i := 16) rfl dX1_turnsIn_7 ?_
  refine lv_ior hx hb dX1_turnsIn_10 ?_
  refine lv_topi (fun v11 e11 => ?_)
  have hf := nm_i hf e11
  refine lv_istore_n (lv' := [(3, .int v11), (0, .ref (a 16)), (1, .int x1), (2, .int x2)]) hx hb dX1_turnsIn_11 rfl hl (Nat.le_of_ble_eq_true rfl) rfl (fun ls hl => ?_)
  refine lv_iconst (v := (1 : Int32)) hx hb dX1_turnsIn_12 (by decide) ?_
  refine lv_iload_n hx hb dX1_turnsIn_13 rfl (lv_at hl 2 rfl) ?_
  refine lv_ishl hx hb dX1_turnsIn_14 ?_
  refine lv_iconst (v := (1 : Int32)) hx hb dX1_turnsIn_15 (by decide) ?_
  refine lv_isub hx hb dX1_turnsIn_16 ?_
  refine lv_topi (fun v17 e17 => ?_)
  have hf := nm_i hf e17
  refine lv_istore (lv' := [(4, .int v17), (3, .int v11), (0, .ref (a 16)), (1, .int x1), (2, .int x2)]) hx hb dX1_turnsIn_17 hl (Nat.le_of_ble_eq_true rfl) rfl (fun ls hl => ?_)
  refine lv_iload_n hx hb dX1_turnsIn_19 rfl (lv_at hl 4 rfl) ?_
  refine lv_iload_n hx hb dX1_turnsIn_20 rfl (lv_at hl 1 rfl) ?_
  refine lv_ixor hx hb dX1_turnsIn_21 ?_
  refine lv_iload hx hb dX1_turnsIn_22 (lv_at hl 0 rfl) ?_
  refine lv_iand hx hb dX1_turnsIn_24 ?_
  obtain ⟨r25, hc25, hf⟩ := ob hf
  refine tCallSi (As := [.int ((x2 ^^^ v11) &&& v17)]) (rest := []) C hP hS (c_J6_bitCount_0f7a4 l C.2.2.2 hc25) (va_cwS 1 hts gX1_turnsIn_J6_bitCount_0f7a4 rfl rfl rfl hd_J6_bitCount_0f7a4 ⟨Nat.le_of_ble_eq_true rfl, Nat.le_of_ble_eq_true rfl⟩) rfl hl rfl (Nat.le_of_ble_eq_true rfl) dX1_turnsIn_25 ⟨Nat.le_refl 0, Nat.le_refl 0⟩ (fun H locs hP hS => ?_)
  obtain rfl := Option.some.inj hf
  exact tRet_i C hr hlk hP hS dX1_turnsIn_28
def rmX1_bestPlan : Room := { frames := 4, cells := 0, slots := 0, locals := 88 }
theorem hn_X1_bestPlan_1 : ∀ w ∈ wsX10, w ∈ wsX1_bestPlan := fun w h => List.mem_cons_of_mem _ (List.mem_append_left _ (List.mem_append_left _ (List.mem_append_right _ h)))
theorem hn_X1_bestPlan_8 : ∀ w ∈ wsX80, w ∈ wsX1_bestPlan := fun w h => List.mem_cons_of_mem _ (List.mem_append_left _ (List.mem_append_right _ h))
theorem hd_X1_bestPlan : yX1_bestPlan.cls ≠ "java/lang/invoke/MethodHandle" ∧ yX1_bestPlan.cls ≠ "java/lang/invoke/VarHandle" ∧ (parseMethodDescriptor yX1_bestPlan.desc).map (fun d => d.parameters.length) = some 1 := by decide +kernel
set_option maxHeartbeats 4000000 in
set_option maxRecDepth 100000 in
theorem lp_X1_bestPlan_45 {p : Program} {l : Launch} {e : Env} {s : State} {m : MethodId} {args : Array Value} {below : List Frame} {meth : Method} {c : Code} {D : va_G} {cI cZ : ClassId} {a : Nat → Nat} {Q : State → Prop} {H0 : Heap} {x1 : Int32} {x3 : Int32} {x4 : Int32} {S : St} {o : Int32}
    (C : tC p c s m args cX1_bestPlan 10 RX1 wsX1_bestPlan D cI cZ (wX cI cZ a) (xA a))
    (K0 : ∀ (H : Heap) (locs : List Loc) (ls : Array Slot), va_P D vwCl (wX cI cZ a S) H → va_S (xA a) H0 H locs → lv_has ls 10 [(2, .int o)] → W p l e rmX1_bestPlan s m args below meth c H locs 0 0 Q (F0 m 123 ls [])) :
    ∀ (n : Nat) (x2 : Int32) (x5 : Int32) (x6 : Int32) (x7 : Int32), l_X1_bestPlan_45 x1 x3 x4 S n x2 x5 x6 x7 = some o → ∀ (H : Heap) (locs : List Loc) (ls : Array Slot), va_P D vwCl (wX cI cZ a S) H → va_S (xA a) H0 H locs → lv_has ls 10 [(0, .ref (a 16)), (1, .int x1), (2, .int x2), (3, .int x3), (4, .int x4), (5, .int x5), (6, .int x6), (7, .int x7)] → W p l e rmX1_bestPlan s m args below meth c H locs 0 0 Q (F0 m 45 ls []) := by
  obtain ⟨⟨hx, hb, hml, hown, hts⟩, hK, hN, hA⟩ := id C
  have hin1 := hn_X1_bestPlan_1
  have hin8 := hn_X1_bestPlan_8
  intro n
  induction n with
  | zero =>
    intro x2 x5 x6 x7 hf
    rw [l_X1_bestPlan_45] at hf
    cases hf
  | succ n ih =>
    have J98 : ∀ (x7 : Int32) (x8 : Int32) (x9 : Int32) (H : Heap) (locs : List Loc) (ls : Array Slot), j_X1_bestPlan_98 (l_X1_bestPlan_45 x1 x3 x4 S n) x1 x3 x4 x7 x8 x9 S = some o → va_P D vwCl (wX cI cZ a S) H → va_S (xA a) H0 H locs → lv_has ls 10 [(0, .ref (a 16)), (1, .int x1), (3, .int x3), (4, .int x4), (7, .int x7), (8, .int x8), (9, .int x9)] → W p l e rmX1_bestPlan s m args below meth c H locs 0 0 Q (F0 m 98 ls []) := by
      intro x7 x8 x9 H locs ls hf hP hS hl
      rw [j_X1_bestPlan_98] at hf
      refine lv_iload hx hb dX1_bestPlan_98 (lv_at hl 4 rfl) ?_
      refine lv_aload_n hx hb dX1_bestPlan_100 rfl (lv_at hl 0 rfl) ?_
      refine gx_1_1 C hin1 hP (List.mem_of_getElem? (i := 6) rfl) dX1_bestPlan_101 ?_
      refine gxn_8_3 C hin8 hP (i := 13) rfl dX1_bestPlan_104 ?_
      refine lv_ishl hx hb dX1_bestPlan_107 ?_
      refine lv_istore_n (lv' := [(2, .int (x7 <<< ((S.1 10) &&& 31))), (0, .ref (a 16)), (1, .int x1), (3, .int x3), (4, .int x4), (7, .int x7), (8, .int x8), (9, .int x9)]) hx hb dX1_bestPlan_108 rfl hl (Nat.le_of_ble_eq_true rfl) rfl (fun ls hl => ?_)
      refine lv_iload hx hb dX1_bestPlan_109 (lv_at hl 6 rfl) ?_
      refine lv_istore (lv' := [(5, .int x8), (2, .int (x7 <<< ((S.1 10) &&& 31))), (0, .ref (a 16)), (1, .int x1), (3, .int x3), (4, .int x4), (7, .int x7), (8, .int x8), (9, .int x9)]) hx hb dX1_bestPlan_111 hl (Nat.le_of_ble_eq_true rfl) rfl (fun ls hl => ?_)
      refine lv_iload hx hb dX1_bestPlan_113 (lv_at hl 8 rfl) ?_
      refine lv_istore (lv' := [(6, .int x9), (5, .int x8), (2, .int (x7 <<< ((S.1 10) &&& 31))), (0, .ref (a 16)), (1, .int x1), (3, .int x3), (4, .int x4), (7, .int x7), (8, .int x8), (9, .int x9)]) hx hb dX1_bestPlan_115 hl (Nat.le_of_ble_eq_true rfl) rfl (fun ls hl => ?_)
      refine lv_iinc (v := (x7 + 1)) (lv' := [(7, .int (x7 + 1)), (6, .int x9), (5, .int x8), (2, .int (x7 <<< ((S.1 10) &&& 31))), (0, .ref (a 16)), (1, .int x1), (3, .int x3), (4, .int x4), (8, .int x8), (9, .int x9)]) hx hb dX1_bestPlan_117 hl (k := 7) rfl rfl (Nat.le_of_ble_eq_true rfl) rfl (fun ls hl => ?_)
      refine lv_goto (tgt := 45) hx hb dX1_bestPlan_120 (by decide) ?_
      exact ih _ _ _ _ hf H locs ls hP hS (lv_sub hl [4, 5, 3, 6, 7, 2, 1, 0] rfl)
    intro x2 x5 x6 x7 hf H locs ls hP hS hl
    rw [l_X1_bestPlan_45] at hf
    refine lv_iload hx hb dX1_bestPlan_45 (lv_at hl 7 rfl) ?_
    refine lv_iconst (v := (1 : Int32)) hx hb dX1_bestPlan_47 (by decide) ?_
    refine lv_iload_n hx hb dX1_bestPlan_48 rfl (lv_at hl 1 rfl) ?_
    refine lv_ishl hx hb dX1_bestPlan_49 ?_
    refine lv_icmp_ge (tgt := 123) hx hb dX1_bestPlan_50 (by decide) (fun c1 => ?_) (fun c1 => ?_)
    · have hf := if_p hf c1
      obtain rfl := Option.some.inj hf
      exact K0 H locs ls hP hS (lv_sub hl [2] rfl)
    · have hf := if_n hf c1
      refine lv_iload_n hx hb dX1_bestPlan_53 rfl (lv_at hl 3 rfl) ?_
      refine lv_iload hx hb dX1_bestPlan_54 (lv_at hl 7 rfl) ?_
      obtain ⟨r56, hc56, hf⟩ := ob hf
      refine tCallSi (As := [.int x7]) (rest := [.int x3]) C hP hS (c_J6_bitCount_0f7a4 l C.2.2.2 hc56) (va_cwS 1 hts gX1_bestPlan_J6_bitCount_0f7a4 rfl rfl rfl hd_J6_bitCount_0f7a4 ⟨Nat.le_of_ble_eq_true rfl, Nat.le_of_ble_eq_true rfl⟩) rfl hl rfl (Nat.le_of_ble_eq_true rfl) dX1_bestPlan_56 ⟨Nat.le_refl 0, Nat.le_refl 0⟩ (fun H locs hP hS => ?_)
      refine lv_iload hx hb dX1_bestPlan_59 (lv_at hl 4 rfl) ?_
      refine lv_imul hx hb dX1_bestPlan_61 ?_
      refine lv_iadd hx hb dX1_bestPlan_62 ?_
      refine va_mabs hx hb (hml.trans hl.1.symm) hown (hts _ (List.mem_of_getElem? (i := 2) rfl)) (hts _ (List.mem_of_getElem? (i := 3) rfl)) (hts _ (List.mem_of_getElem? (i := 4) rfl)) (hts _ (List.mem_of_getElem? (i := 5) rfl)) (Nat.le_of_ble_eq_true rfl) (Nat.le_of_ble_eq_true rfl) (Nat.le_refl 0) (Nat.le_refl 0) dX1_bestPlan_63 ?_
      refine lv_topi (fun v66 e66 => ?_)
      have hf := nm_i hf e66
      refine lv_istore (lv' := [(8, .int v66), (0, .ref (a 16)), (1, .int x1), (2, .int x2), (3, .int x3), (4, .int x4), (5, .int x5), (6, .int x6), (7, .int x7)]) hx hb dX1_bestPlan_66 hl (Nat.le_of_ble_eq_true rfl) rfl (fun ls hl => ?_)
      refine lv_aload_n hx hb dX1_bestPlan_68 rfl (lv_at hl 1 rfl) ?_
      refine lv_iload_n hx hb dX1_bestPlan_69 rfl (lv_at hl 2 rfl) ?_
      refine lv_iload hx hb dX1_bestPlan_70 (lv_at hl 8 rfl) ?_
      obtain ⟨r72, hc72, hf⟩ := ob hf
      refine tCallVi (As := [.int x1, .int x7]) (rest := []) (q0 := 16) (ci := 1) C hP hS rfl rfl (c_X1_turnsIn l C.2.2.2 hc72) (cwV 2 hts gX1_bestPlan_X1_turnsIn rfl rfl rfl ⟨rfl, hd_X1_turnsIn⟩ ⟨Nat.le_of_ble_eq_true rfl, Nat.le_of_ble_eq_true rfl⟩) rfl hl rfl (Nat.le_of_ble_eq_true rfl) dX1_bestPlan_72 ⟨Nat.le_refl 0, Nat.le_refl 0⟩ (fun H locs hP hS => ?_)
      refine lv_istore (lv' := [(9, .int r72), (8, .int v66), (0, .ref (a 16)), (1, .int x1), (2, .int x2), (3, .int x3), (4, .int x4), (5, .int x5), (6, .int x6), (7, .int x7)]) hx hb dX1_bestPlan_75 hl (Nat.le_of_ble_eq_true rfl) rfl (fun ls hl => ?_)
      refine lv_iload hx hb dX1_bestPlan_77 (lv_at hl 1 rfl) ?_
      refine lv_iload hx hb dX1_bestPlan_79 (lv_at hl 7 rfl) ?_
      refine lv_icmp_lt (tgt := 98) hx hb dX1_bestPlan_81 (by decide) (fun c2 => ?_) (fun c2 => ?_)
      · have hf := if_p hf c2
        exact J98 _ _ _ H locs ls hf hP hS (lv_sub hl [2, 3, 5, 6, 9, 1, 0] rfl)
      · have hf := if_n hf c2
        refine lv_iload hx hb dX1_bestPlan_84 (lv_at hl 1 rfl) ?_
        refine lv_iload hx hb dX1_bestPlan_86 (lv_at hl 7 rfl) ?_
        refine lv_icmp_ne (tgt := 117) hx hb dX1_bestPlan_88 (by decide) (fun c3 => ?_) (fun c3 => ?_)
        · have hf := if_n hf c3
          refine lv_iinc (v := (x7 + 1)) (lv' := [(7, .int (x7 + 1)), (9, .int r72), (8, .int v66), (0, .ref (a 16)), (1, .int x1), (2, .int x2), (3, .int x3), (4, .int x4), (5, .int x5), (6, .int x6)]) hx hb dX1_bestPlan_117 hl (k := 9) rfl rfl (Nat.le_of_ble_eq_true rfl) rfl (fun ls hl => ?_)
          refine lv_goto (tgt := 45) hx hb dX1_bestPlan_120 (by decide) ?_
          exact ih _ _ _ _ hf H locs ls hP hS (lv_sub hl [3, 4, 5, 6, 7, 8, 9, 0] rfl)
        · have hf := if_p hf c3
          refine lv_iload hx hb dX1_bestPlan_91 (lv_at hl 0 rfl) ?_
          refine lv_iload hx hb dX1_bestPlan_93 (lv_at hl 8 rfl) ?_
          refine lv_icmp_ge (tgt := 117) hx hb dX1_bestPlan_95 (by decide) (fun c4 => ?_) (fun c4 => ?_)
          · have hf := if_p hf c4
            refine lv_iinc (v := (x7 + 1)) (lv' := [(7, .int (x7 + 1)), (9, .int r72), (8, .int v66), (0, .ref (a 16)), (1, .int x1), (2, .int x2), (3, .int x3), (4, .int x4), (5, .int x5), (6, .int x6)]) hx hb dX1_bestPlan_117 hl (k := 9) rfl rfl (Nat.le_of_ble_eq_true rfl) rfl (fun ls hl => ?_)
            refine lv_goto (tgt := 45) hx hb dX1_bestPlan_120 (by decide) ?_
            exact ih _ _ _ _ hf H locs ls hP hS (lv_sub hl [3, 4, 5, 6, 7, 8, 9, 0] rfl)
          · have hf := if_n hf c4
            exact J98 _ _ _ H locs ls hf hP hS (lv_sub hl [2, 3, 5, 6, 9, 1, 0] rfl)
set_option maxHeartbeats 4000000 in
set_option maxRecDepth 100000 in
theorem c_X1_bestPlan (l : Launch) {D : va_G} {cI cZ : ClassId} {a : Nat → Nat} (hA : ∀ S : St, va_D (xA a) (wX cI cZ a S)) {x1 : Int32} {S : St} {o : Int32} (hf : f_X1_bestPlan x1 S = some o) : Met l yX1_bestPlan wsX1_bestPlan rmX1_bestPlan (tPc D cI cZ (wX cI cZ a) S ([.ref (a 16), .int x1] : List Value)) (tQi D (wX cI cZ a) (xA a) S o) 0 0 (xA a) := by
  refine tEnter (cc := cX1_bestPlan) (maxL := 10) (ret := (some .int)) (own := RX1) hA rfl (by decide) rfl (Nat.le_of_ble_eq_true rfl) (fun p e s m args below meth c C hr hlk hP hS ls hl => ?_)
  obtain ⟨⟨hx, hb, hml, hown, hts⟩, hK, hN, -⟩ := id C
  have hl : lv_has ls 10 [(0, .ref (a 16)), (1, .int x1)] := hl
  have hin1 := hn_X1_bestPlan_1
  have hin8 := hn_X1_bestPlan_8
  have hSS := hS
  rw [f_X1_bestPlan] at hf
  revert hP hS
  suffices hsuf : ∀ (H : Heap) (locs : List Loc), va_P D vwCl (wX cI cZ a S) H → va_S (xA a) s.heap H locs → W p l e rmX1_bestPlan s m args below meth c H locs 0 0 (MQ below (tQi D (wX cI cZ a) (xA a) S o) args s 0 0 (xA a)) (F0 m 0 ls []) from fun hP hS => hsuf s.heap [] hP hS
  intro H locs hP hS
  refine lv_iconst (v := (0 : Int32)) hx hb dX1_bestPlan_0 (by decide) ?_
  refine lv_istore_n (lv' := [(2, .int (0 : Int32)), (0, .ref (a 16)), (1, .int x1)]) hx hb dX1_bestPlan_1 rfl hl (Nat.le_of_ble_eq_true rfl) rfl (fun ls hl => ?_)
  refine lv_aload_n hx hb dX1_bestPlan_2 rfl (lv_at hl 1 rfl) ?_
  refine lv_iload_n hx hb dX1_bestPlan_3 rfl (lv_at hl 2 rfl) ?_
  refine lv_iconst (v := (0 : Int32)) hx hb dX1_bestPlan_4 (by decide) ?_
  obtain ⟨r5, hc5, hf⟩ := ob hf
  refine tCallVi (As := [.int x1, .int (0 : Int32)]) (rest := []) (q0 := 16) (ci := 1) C hP hS rfl rfl (c_X1_offBy l C.2.2.2 hc5) (cwV 2 hts gX1_bestPlan_X1_offBy rfl rfl rfl ⟨rfl, hd_X1_offBy⟩ ⟨Nat.le_of_ble_eq_true rfl, Nat.le_of_ble_eq_true rfl⟩) rfl hl rfl (Nat.le_of_ble_eq_true rfl) dX1_bestPlan_5 ⟨Nat.le_refl 0, Nat.le_refl 0⟩ (fun H locs hP hS => ?_)
  refine lv_istore_n (lv' := [(3, .int r5), (2, .int (0 : Int32)), (0, .ref (a 16)), (1, .int x1)]) hx hb dX1_bestPlan_8 rfl hl (Nat.le_of_ble_eq_true rfl) rfl (fun ls hl => ?_)
  refine lv_aload_n hx hb dX1_bestPlan_9 rfl (lv_at hl 2 rfl) ?_
  refine gx_1_0 C hin1 hP (List.mem_of_getElem? (i := 1) rfl) dX1_bestPlan_10 ?_
  refine lv_iconst (v := (1 : Int32)) hx hb dX1_bestPlan_13 (by decide) ?_
  obtain ⟨r14, hc14, hf⟩ := ob hf
  refine tCallVi (As := [.int (1 : Int32)]) (rest := []) (q0 := 3) (ci := 3) C hP hS rfl rfl (c_X3_bentOf l C.2.2.2 hc14) (cwV 1 hts gX1_bestPlan_X3_bentOf rfl rfl rfl ⟨rfl, hd_X3_bentOf⟩ ⟨Nat.le_of_ble_eq_true rfl, Nat.le_of_ble_eq_true rfl⟩) rfl hl rfl (Nat.le_of_ble_eq_true rfl) dX1_bestPlan_14 ⟨Nat.le_refl 0, Nat.le_refl 0⟩ (fun H locs hP hS => ?_)
  refine lv_aload_n hx hb dX1_bestPlan_17 rfl (lv_at hl 2 rfl) ?_
  refine gx_1_0 C hin1 hP (List.mem_of_getElem? (i := 1) rfl) dX1_bestPlan_18 ?_
  refine lv_iconst (v := (0 : Int32)) hx hb dX1_bestPlan_21 (by decide) ?_
  obtain ⟨r22, hc22, hf⟩ := ob hf
  refine tCallVi (As := [.int (0 : Int32)]) (rest := [.int r14]) (q0 := 3) (ci := 3) C hP hS rfl rfl (c_X3_bentOf l C.2.2.2 hc22) (cwV 1 hts gX1_bestPlan_X3_bentOf rfl rfl rfl ⟨rfl, hd_X3_bentOf⟩ ⟨Nat.le_of_ble_eq_true rfl, Nat.le_of_ble_eq_true rfl⟩) rfl hl rfl (Nat.le_of_ble_eq_true rfl) dX1_bestPlan_22 ⟨Nat.le_refl 0, Nat.le_refl 0⟩ (fun H locs hP hS => ?_)
  refine lv_isub hx hb dX1_bestPlan_25 ?_
  refine lv_istore (lv' := [(4, .int (r14 - r22)), (3, .int r5), (2, .int (0 : Int32)), (0, .ref (a 16)), (1, .int x1)]) hx hb dX1_bestPlan_26 hl (Nat.le_of_ble_eq_true rfl) rfl (fun ls hl => ?_)
  refine lv_iload_n hx hb dX1_bestPlan_28 rfl (lv_at hl 1 rfl) ?_
  refine va_mabs hx hb (hml.trans hl.1.symm) hown (hts _ (List.mem_of_getElem? (i := 2) rfl)) (hts _ (List.mem_of_getElem? (i := 3) rfl)) (hts _ (List.mem_of_getElem? (i := 4) rfl)) (hts _ (List.mem_of_getElem? (i := 5) rfl)) (Nat.le_of_ble_eq_true rfl) (Nat.le_of_ble_eq_true rfl) (Nat.le_refl 0) (Nat.le_refl 0) dX1_bestPlan_29 ?_
  refine lv_topi (fun v32 e32 => ?_)
  have hf := nm_i hf e32
  refine lv_istore (lv' := [(5, .int v32), (4, .int (r14 - r22)), (3, .int r5), (2, .int (0 : Int32)), (0, .ref (a 16)), (1, .int x1)]) hx hb dX1_bestPlan_32 hl (Nat.le_of_ble_eq_true rfl) rfl (fun ls hl => ?_)
  refine lv_aload_n hx hb dX1_bestPlan_34 rfl (lv_at hl 4 rfl) ?_
  refine lv_iload_n hx hb dX1_bestPlan_35 rfl (lv_at hl 5 rfl) ?_
  refine lv_iconst (v := (0 : Int32)) hx hb dX1_bestPlan_36 (by decide) ?_
  obtain ⟨r37, hc37, hf⟩ := ob hf
  refine tCallVi (As := [.int x1, .int (0 : Int32)]) (rest := []) (q0 := 16) (ci := 1) C hP hS rfl rfl (c_X1_turnsIn l C.2.2.2 hc37) (cwV 2 hts gX1_bestPlan_X1_turnsIn rfl rfl rfl ⟨rfl, hd_X1_turnsIn⟩ ⟨Nat.le_of_ble_eq_true rfl, Nat.le_of_ble_eq_true rfl⟩) rfl hl rfl (Nat.le_of_ble_eq_true rfl) dX1_bestPlan_37 ⟨Nat.le_refl 0, Nat.le_refl 0⟩ (fun H locs hP hS => ?_)
  refine lv_istore (lv' := [(6, .int r37), (5, .int v32), (4, .int (r14 - r22)), (3, .int r5), (2, .int (0 : Int32)), (0, .ref (a 16)), (1, .int x1)]) hx hb dX1_bestPlan_40 hl (Nat.le_of_ble_eq_true rfl) rfl (fun ls hl => ?_)
  refine lv_iconst (v := (1 : Int32)) hx hb dX1_bestPlan_42 (by decide) ?_
  refine lv_istore (lv' := [(7, .int (1 : Int32)), (6, .int r37), (5, .int v32), (4, .int (r14 - r22)), (3, .int r5), (2, .int (0 : Int32)), (0, .ref (a 16)), (1, .int x1)]) hx hb dX1_bestPlan_43 hl (Nat.le_of_ble_eq_true rfl) rfl (fun ls hl => ?_)
  obtain ⟨o45, hc45, hf⟩ := ob hf
  refine lp_X1_bestPlan_45 C (fun H locs ls hP hS hl => ?_) fuel _ _ _ _ hc45 H locs ls hP hS (lv_sub hl [6, 7, 5, 4, 3, 2, 1, 0] rfl)
  refine lv_iload_n hx hb dX1_bestPlan_123 rfl (lv_at hl 0 rfl) ?_
  obtain rfl := Option.some.inj hf
  exact tRet_i C hr hlk hP hS dX1_bestPlan_124
