def rmX3_has : Room := { frames := 0, cells := 0, slots := 0, locals := 0 }
theorem hn_X3_has_3 : ∀ w ∈ wsX30, w ∈ wsX3_has := fun w h => List.mem_cons_of_mem _ (List.mem_append_right _ h)
theorem hd_X3_has : yX3_has.cls ≠ "java/lang/invoke/MethodHandle" ∧ yX3_has.cls ≠ "java/lang/invoke/VarHandle" ∧ (parseMethodDescriptor yX3_has.desc).map (fun d => d.parameters.length) = some 1 := by decide +kernel
set_option maxHeartbeats 4000000 in
set_option maxRecDepth 100000 in
theorem c_X3_has (l : Launch) {D : va_G} {cI cZ : ClassId} {a : Nat → Nat} (hA : ∀ S : St, va_D (xA a) (wX cI cZ a S)) {x1 : Int32} {S : St} {o : Int32} (hf : f_X3_has x1 S = some o) : Met l yX3_has wsX3_has rmX3_has (tPc D cI cZ (wX cI cZ a) S ([.ref (a 3), .int x1] : List Value)) (tQi D (wX cI cZ a) (xA a) S o) 0 0 (xA a) := by
  refine tEnter (cc := cX3_has) (maxL := 2) (ret := (some .boolean)) (own := RX3) hA rfl (by decide) rfl (Nat.le_of_ble_eq_true rfl) (fun p e s m args below meth c C hr hlk hP hS ls hl => ?_)
  obtain ⟨⟨hx, hb, hml, hown, hts⟩, hK, hN, -⟩ := id C
  have hl : lv_has ls 2 [(0, .ref (a 3)), (1, .int x1)] := hl
  have hin3 := hn_X3_has_3
  have hSS := hS
  rw [f_X3_has] at hf
  revert hP hS
  suffices hsuf : ∀ (H : Heap) (locs : List Loc), va_P D vwCl (wX cI cZ a S) H → va_S (xA a) s.heap H locs → W p l e rmX3_has s m args below meth c H locs 0 0 (MQ below (tQi D (wX cI cZ a) (xA a) S o) args s 0 0 (xA a)) (F0 m 0 ls []) from fun hP hS => hsuf s.heap [] hP hS
  intro H locs hP hS
  refine lv_iload_n hx hb dX3_has_0 rfl (lv_at hl 1 rfl) ?_
  refine lv_if_lt (tgt := 22) hx hb dX3_has_1 (by decide) (fun c1 => ?_) (fun c1 => ?_)
  · have hf := if_p hf c1
    refine lv_iconst (v := (0 : Int32)) hx hb dX3_has_22 (by decide) ?_
    obtain rfl := Option.some.inj hf
    exact tRet_z (v := (0 : Int32)) C hr hlk hP hS rfl dX3_has_23
  · have hf := if_n hf c1
    refine lv_iload_n hx hb dX3_has_4 rfl (lv_at hl 1 rfl) ?_
    refine lv_aload_n hx hb dX3_has_5 rfl (lv_at hl 0 rfl) ?_
    refine gx_3_5 C hin3 hP (List.mem_of_getElem? (i := 1) rfl) dX3_has_6 ?_
    refine lv_icmp_ge (tgt := 22) hx hb dX3_has_9 (by decide) (fun c2 => ?_) (fun c2 => ?_)
    · have hf := if_p hf c2
      refine lv_iconst (v := (0 : Int32)) hx hb dX3_has_22 (by decide) ?_
      obtain rfl := Option.some.inj hf
      exact tRet_z (v := (0 : Int32)) C hr hlk hP hS rfl dX3_has_23
    · have hf := if_n hf c2
      refine lv_iload_n hx hb dX3_has_12 rfl (lv_at hl 1 rfl) ?_
      refine lv_bipush (v := (8 : Int32)) hx hb dX3_has_13 (by decide) ?_
      refine lv_icmp_ge (tgt := 22) hx hb dX3_has_15 (by decide) (fun c3 => ?_) (fun c3 => ?_)
      · have hf := if_p hf c3
        refine lv_iconst (v := (0 : Int32)) hx hb dX3_has_22 (by decide) ?_
        obtain rfl := Option.some.inj hf
        exact tRet_z (v := (0 : Int32)) C hr hlk hP hS rfl dX3_has_23
      · have hf := if_n hf c3
        refine lv_iconst (v := (1 : Int32)) hx hb dX3_has_18 (by decide) ?_
        refine lv_goto (tgt := 23) hx hb dX3_has_19 (by decide) ?_
        obtain rfl := Option.some.inj hf
        exact tRet_z (v := (1 : Int32)) C hr hlk hP hS rfl dX3_has_23
def rmX3_kindOf : Room := { frames := 1, cells := 0, slots := 0, locals := 21 }
theorem hn_X3_kindOf_3 : ∀ w ∈ wsX30, w ∈ wsX3_kindOf := fun w h => List.mem_cons_of_mem _ (List.mem_append_right _ h)
theorem hd_X3_kindOf : yX3_kindOf.cls ≠ "java/lang/invoke/MethodHandle" ∧ yX3_kindOf.cls ≠ "java/lang/invoke/VarHandle" ∧ (parseMethodDescriptor yX3_kindOf.desc).map (fun d => d.parameters.length) = some 1 := by decide +kernel
set_option maxHeartbeats 4000000 in
set_option maxRecDepth 100000 in
theorem c_X3_kindOf (l : Launch) {D : va_G} {cI cZ : ClassId} {a : Nat → Nat} (hA : ∀ S : St, va_D (xA a) (wX cI cZ a S)) {x1 : Int32} {S : St} {o : Int32} (hf : f_X3_kindOf x1 S = some o) : Met l yX3_kindOf wsX3_kindOf rmX3_kindOf (tPc D cI cZ (wX cI cZ a) S ([.ref (a 3), .int x1] : List Value)) (tQi D (wX cI cZ a) (xA a) S o) 0 0 (xA a) := by
  refine tEnter (cc := cX3_kindOf) (maxL := 2) (ret := (some .int)) (own := RX3) hA rfl (by decide) rfl (Nat.le_of_ble_eq_true rfl) (fun p e s m args below meth c C hr hlk hP hS ls hl => ?_)
  obtain ⟨⟨hx, hb, hml, hown, hts⟩, hK, hN, -⟩ := id C
  have hl : lv_has ls 2 [(0, .ref (a 3)), (1, .int x1)] := hl
  have hin3 := hn_X3_kindOf_3
  have hSS := hS
  rw [f_X3_kindOf] at hf
  revert hP hS
  suffices hsuf : ∀ (H : Heap) (locs : List Loc), va_P D vwCl (wX cI cZ a S) H → va_S (xA a) s.heap H locs → W p l e rmX3_kindOf s m args below meth c H locs 0 0 (MQ below (tQi D (wX cI cZ a) (xA a) S o) args s 0 0 (xA a)) (F0 m 0 ls []) from fun hP hS => hsuf s.heap [] hP hS
  intro H locs hP hS
  refine lv_aload_n hx hb dX3_kindOf_0 rfl (lv_at hl 0 rfl) ?_
  refine lv_iload_n hx hb dX3_kindOf_1 rfl (lv_at hl 1 rfl) ?_
  obtain ⟨r2, hc2, hf⟩ := ob hf
  refine tCallVi (As := [.int x1]) (rest := []) (q0 := 3) (ci := 3) C hP hS rfl rfl (c_X3_has l C.2.2.2 hc2) (cwV 1 hts gX3_kindOf_X3_has rfl rfl rfl ⟨rfl, hd_X3_has⟩ ⟨Nat.le_of_ble_eq_true rfl, Nat.le_of_ble_eq_true rfl⟩) rfl hl rfl (Nat.le_of_ble_eq_true rfl) dX3_kindOf_2 ⟨Nat.le_refl 0, Nat.le_refl 0⟩ (fun H locs hP hS => ?_)
  refine lv_if_eq (tgt := 17) hx hb dX3_kindOf_5 (by decide) (fun c1 => ?_) (fun c1 => ?_)
  · have hf := if_p hf c1
    refine lv_iconst (v := (0 : Int32)) hx hb dX3_kindOf_17 (by decide) ?_
    obtain rfl := Option.some.inj hf
    exact tRet_i C hr hlk hP hS dX3_kindOf_18
  · have hf := if_n hf c1
    refine lv_aload_n hx hb dX3_kindOf_8 rfl (lv_at hl 0 rfl) ?_
    refine gx_3_6 C hin3 hP (List.mem_of_getElem? (i := 1) rfl) dX3_kindOf_9 ?_
    refine lv_iload_n hx hb dX3_kindOf_12 rfl (lv_at hl 1 rfl) ?_
    obtain ⟨hi2, hf⟩ := ob_in hf
    refine ldx_1 C hP rfl hi2 dX3_kindOf_13 ?_
    refine lv_goto (tgt := 18) hx hb dX3_kindOf_14 (by decide) ?_
    obtain rfl := Option.some.inj hf
    exact tRet_i C hr hlk hP hS dX3_kindOf_18
def rmX3_valueOf : Room := { frames := 1, cells := 0, slots := 0, locals := 21 }
theorem hn_X3_valueOf_3 : ∀ w ∈ wsX30, w ∈ wsX3_valueOf := fun w h => List.mem_cons_of_mem _ (List.mem_append_right _ h)
theorem hd_X3_valueOf : yX3_valueOf.cls ≠ "java/lang/invoke/MethodHandle" ∧ yX3_valueOf.cls ≠ "java/lang/invoke/VarHandle" ∧ (parseMethodDescriptor yX3_valueOf.desc).map (fun d => d.parameters.length) = some 1 := by decide +kernel
set_option maxHeartbeats 4000000 in
set_option maxRecDepth 100000 in
theorem c_X3_valueOf (l : Launch) {D : va_G} {cI cZ : ClassId} {a : Nat → Nat} (hA : ∀ S : St, va_D (xA a) (wX cI cZ a S)) {x1 : Int32} {S : St} {o : Int32} (hf : f_X3_valueOf x1 S = some o) : Met l yX3_valueOf wsX3_valueOf rmX3_valueOf (tPc D cI cZ (wX cI cZ a) S ([.ref (a 3), .int x1] : List Value)) (tQi D (wX cI cZ a) (xA a) S o) 0 0 (xA a) := by
  refine tEnter (cc := cX3_valueOf) (maxL := 2) (ret := (some .int)) (own := RX3) hA rfl (by decide) rfl (Nat.le_of_ble_eq_true rfl) (fun p e s m args below meth c C hr hlk hP hS ls hl => ?_)
  obtain ⟨⟨hx, hb, hml, hown, hts⟩, hK, hN, -⟩ := id C
  have hl : lv_has ls 2 [(0, .ref (a 3)), (1, .int x1)] := hl
  have hin3 := hn_X3_valueOf_3
  have hSS := hS
  rw [f_X3_valueOf] at hf
  revert hP hS
  suffices hsuf : ∀ (H : Heap) (locs : List Loc), va_P D vwCl (wX cI cZ a S) H → va_S (xA a) s.heap H locs → W p l e rmX3_valueOf s m args below meth c H locs 0 0 (MQ below (tQi D (wX cI cZ a) (xA a) S o) args s 0 0 (xA a)) (F0 m 0 ls []) from fun hP hS => hsuf s.heap [] hP hS
  intro H locs hP hS
  refine lv_aload_n hx hb dX3_valueOf_0 rfl (lv_at hl 0 rfl) ?_
  refine lv_iload_n hx hb dX3_valueOf_1 rfl (lv_at hl 1 rfl) ?_
  obtain ⟨r2, hc2, hf⟩ := ob hf
  refine tCallVi (As := [.int x1]) (rest := []) (q0 := 3) (ci := 3) C hP hS rfl rfl (c_X3_has l C.2.2.2 hc2) (cwV 1 hts gX3_valueOf_X3_has rfl rfl rfl ⟨rfl, hd_X3_has⟩ ⟨Nat.le_of_ble_eq_true rfl, Nat.le_of_ble_eq_true rfl⟩) rfl hl rfl (Nat.le_of_ble_eq_true rfl) dX3_valueOf_2 ⟨Nat.le_refl 0, Nat.le_refl 0⟩ (fun H locs hP hS => ?_)
  refine lv_if_eq (tgt := 17) hx hb dX3_valueOf_5 (by decide) (fun c1 => ?_) (fun c1 => ?_)
  · have hf := if_p hf c1
    refine lv_iconst (v := (0 : Int32)) hx hb dX3_valueOf_17 (by decide) ?_
    obtain rfl := Option.some.inj hf
    exact tRet_i C hr hlk hP hS dX3_valueOf_18
  · have hf := if_n hf c1
    refine lv_aload_n hx hb dX3_valueOf_8 rfl (lv_at hl 0 rfl) ?_
    refine gx_3_7 C hin3 hP (List.mem_of_getElem? (i := 1) rfl) dX3_valueOf_9 ?_
    refine lv_iload_n hx hb dX3_valueOf_12 rfl (lv_at hl 1 rfl) ?_
    obtain ⟨hi2, hf⟩ := ob_in hf
    refine ldx_2 C hP rfl hi2 dX3_valueOf_13 ?_
    refine lv_goto (tgt := 18) hx hb dX3_valueOf_14 (by decide) ?_
    obtain rfl := Option.some.inj hf
    exact tRet_i C hr hlk hP hS dX3_valueOf_18
def rmX3_gorseOf : Room := { frames := 1, cells := 0, slots := 0, locals := 21 }
theorem hn_X3_gorseOf_3 : ∀ w ∈ wsX30, w ∈ wsX3_gorseOf := fun w h => List.mem_cons_of_mem _ (List.mem_append_right _ h)
theorem hd_X3_gorseOf : yX3_gorseOf.cls ≠ "java/lang/invoke/MethodHandle" ∧ yX3_gorseOf.cls ≠ "java/lang/invoke/VarHandle" ∧ (parseMethodDescriptor yX3_gorseOf.desc).map (fun d => d.parameters.length) = some 1 := by decide +kernel
set_option maxHeartbeats 4000000 in
set_option maxRecDepth 100000 in
theorem c_X3_gorseOf (l : Launch) {D : va_G} {cI cZ : ClassId} {a : Nat → Nat} (hA : ∀ S : St, va_D (xA a) (wX cI cZ a S)) {x1 : Int32} {S : St} {o : Int32} (hf : f_X3_gorseOf x1 S = some o) : Met l yX3_gorseOf wsX3_gorseOf rmX3_gorseOf (tPc D cI cZ (wX cI cZ a) S ([.ref (a 3), .int x1] : List Value)) (tQi D (wX cI cZ a) (xA a) S o) 0 0 (xA a) := by
  refine tEnter (cc := cX3_gorseOf) (maxL := 2) (ret := (some .int)) (own := RX3) hA rfl (by decide) rfl (Nat.le_of_ble_eq_true rfl) (fun p e s m args below meth c C hr hlk hP hS ls hl => ?_)
  obtain ⟨⟨hx, hb, hml, hown, hts⟩, hK, hN, -⟩ := id C
  have hl : lv_has ls 2 [(0, .ref (a 3)), (1, .int x1)] := hl
  have hin3 := hn_X3_gorseOf_3
  have hSS := hS
  rw [f_X3_gorseOf] at hf
  revert hP hS
  suffices hsuf : ∀ (H : Heap) (locs : List Loc), va_P D vwCl (wX cI cZ a S) H → va_S (xA a) s.heap H locs → W p l e rmX3_gorseOf s m args below meth c H locs 0 0 (MQ below (tQi D (wX cI cZ a) (xA a) S o) args s 0 0 (xA a)) (F0 m 0 ls []) from fun hP hS => hsuf s.heap [] hP hS
  intro H locs hP hS
  refine lv_aload_n hx hb dX3_gorseOf_0 rfl (lv_at hl 0 rfl) ?_
  refine lv_iload_n hx hb dX3_gorseOf_1 rfl (lv_at hl 1 rfl) ?_
  obtain ⟨r2, hc2, hf⟩ := ob hf
  refine tCallVi (As := [.int x1]) (rest := []) (q0 := 3) (ci := 3) C hP hS rfl rfl (c_X3_has l C.2.2.2 hc2) (cwV 1 hts gX3_gorseOf_X3_has rfl rfl rfl ⟨rfl, hd_X3_has⟩ ⟨Nat.le_of_ble_eq_true rfl, Nat.le_of_ble_eq_true rfl⟩) rfl hl rfl (Nat.le_of_ble_eq_true rfl) dX3_gorseOf_2 ⟨Nat.le_refl 0, Nat.le_refl 0⟩ (fun H locs hP hS => ?_)
  refine lv_if_eq (tgt := 17) hx hb dX3_gorseOf_5 (by decide) (fun c1 => ?_) (fun c1 => ?_)
  · have hf := if_p hf c1
    refine lv_iconst (v := (0 : Int32)) hx hb dX3_gorseOf_17 (by decide) ?_
    obtain rfl := Option.some.inj hf
    exact tRet_i C hr hlk hP hS dX3_gorseOf_18
  · have hf := if_n hf c1
    refine lv_aload_n hx hb dX3_gorseOf_8 rfl (lv_at hl 0 rfl) ?_
    refine gx_3_8 C hin3 hP (List.mem_of_getElem? (i := 1) rfl) dX3_gorseOf_9 ?_
    refine lv_iload_n hx hb dX3_gorseOf_12 rfl (lv_at hl 1 rfl) ?_
    obtain ⟨hi2, hf⟩ := ob_in hf
    refine ldx_3 C hP rfl hi2 dX3_gorseOf_13 ?_
    refine lv_goto (tgt := 18) hx hb dX3_gorseOf_14 (by decide) ?_
    obtain rfl := Option.some.inj hf
    exact tRet_i C hr hlk hP hS dX3_gorseOf_18
def rmX8_isLaid : Room := { frames := 0, cells := 0, slots := 0, locals := 0 }
theorem hn_X8_isLaid_8 : ∀ w ∈ wsX80, w ∈ wsX8_isLaid := fun w h => List.mem_cons_of_mem _ (List.mem_append_right _ h)
theorem hd_X8_isLaid : yX8_isLaid.cls ≠ "java/lang/invoke/MethodHandle" ∧ yX8_isLaid.cls ≠ "java/lang/invoke/VarHandle" ∧ (parseMethodDescriptor yX8_isLaid.desc).map (fun d => d.parameters.length) = some 1 := by decide +kernel
set_option maxHeartbeats 4000000 in
set_option maxRecDepth 100000 in
theorem c_X8_isLaid (l : Launch) {D : va_G} {cI cZ : ClassId} {a : Nat → Nat} (hA : ∀ S : St, va_D (xA a) (wX cI cZ a S)) {x1 : Int32} {S : St} {o : Int32} (hf : f_X8_isLaid x1 S = some o) : Met l yX8_isLaid wsX8_isLaid rmX8_isLaid (tPc D cI cZ (wX cI cZ a) S ([.ref (a 7), .int x1] : List Value)) (tQi D (wX cI cZ a) (xA a) S o) 0 0 (xA a) := by
  refine tEnter (cc := cX8_isLaid) (maxL := 2) (ret := (some .boolean)) (own := RX8) hA rfl (by decide) rfl (Nat.le_of_ble_eq_true rfl) (fun p e s m args below meth c C hr hlk hP hS ls hl => ?_)
  obtain ⟨⟨hx, hb, hml, hown, hts⟩, hK, hN, -⟩ := id C
  have hl : lv_has ls 2 [(0, .ref (a 7)), (1, .int x1)] := hl
  have hin8 := hn_X8_isLaid_8
  have hSS := hS
  rw [f_X8_isLaid] at hf
  revert hP hS
  suffices hsuf : ∀ (H : Heap) (locs : List Loc), va_P D vwCl (wX cI cZ a S) H → va_S (xA a) s.heap H locs → W p l e rmX8_isLaid s m args below meth c H locs 0 0 (MQ below (tQi D (wX cI cZ a) (xA a) S o) args s 0 0 (xA a)) (F0 m 0 ls []) from fun hP hS => hsuf s.heap [] hP hS
  intro H locs hP hS
  refine lv_iload_n hx hb dX8_isLaid_0 rfl (lv_at hl 1 rfl) ?_
  refine lv_if_lt (tgt := 22) hx hb dX8_isLaid_1 (by decide) (fun c1 => ?_) (fun c1 => ?_)
  · have hf := if_p hf c1
    refine lv_iconst (v := (0 : Int32)) hx hb dX8_isLaid_22 (by decide) ?_
    obtain rfl := Option.some.inj hf
    exact tRet_z (v := (0 : Int32)) C hr hlk hP hS rfl dX8_isLaid_23
  · have hf := if_n hf c1
    refine lv_iload_n hx hb dX8_isLaid_4 rfl (lv_at hl 1 rfl) ?_
    refine lv_aload_n hx hb dX8_isLaid_5 rfl (lv_at hl 0 rfl) ?_
    refine gx_8_3 C hin8 hP (List.mem_of_getElem? (i := 1) rfl) dX8_isLaid_6 ?_
    refine lv_icmp_ge (tgt := 22) hx hb dX8_isLaid_9 (by decide) (fun c2 => ?_) (fun c2 => ?_)
    · have hf := if_p hf c2
      refine lv_iconst (v := (0 : Int32)) hx hb dX8_isLaid_22 (by decide) ?_
      obtain rfl := Option.some.inj hf
      exact tRet_z (v := (0 : Int32)) C hr hlk hP hS rfl dX8_isLaid_23
    · have hf := if_n hf c2
      refine lv_iload_n hx hb dX8_isLaid_12 rfl (lv_at hl 1 rfl) ?_
      refine lv_bipush (v := (8 : Int32)) hx hb dX8_isLaid_13 (by decide) ?_
      refine lv_icmp_ge (tgt := 22) hx hb dX8_isLaid_15 (by decide) (fun c3 => ?_) (fun c3 => ?_)
      · have hf := if_p hf c3
        refine lv_iconst (v := (0 : Int32)) hx hb dX8_isLaid_22 (by decide) ?_
        obtain rfl := Option.some.inj hf
        exact tRet_z (v := (0 : Int32)) C hr hlk hP hS rfl dX8_isLaid_23
      · have hf := if_n hf c3
        refine lv_iconst (v := (1 : Int32)) hx hb dX8_isLaid_18 (by decide) ?_
        refine lv_goto (tgt := 23) hx hb dX8_isLaid_19 (by decide) ?_
        obtain rfl := Option.some.inj hf
        exact tRet_z (v := (1 : Int32)) C hr hlk hP hS rfl dX8_isLaid_23
def rmX8_errorOf : Room := { frames := 1, cells := 0, slots := 0, locals := 21 }
theorem hn_X8_errorOf_8 : ∀ w ∈ wsX80, w ∈ wsX8_errorOf := fun w h => List.mem_cons_of_mem _ (List.mem_append_right _ h)
theorem hd_X8_errorOf : yX8_errorOf.cls ≠ "java/lang/invoke/MethodHandle" ∧ yX8_errorOf.cls ≠ "java/lang/invoke/VarHandle" ∧ (parseMethodDescriptor yX8_errorOf.desc).map (fun d => d.parameters.length) = some 1 := by decide +kernel
set_option maxHeartbeats 4000000 in
set_option maxRecDepth 100000 in
theorem c_X8_errorOf (l : Launch) {D : va_G} {cI cZ : ClassId} {a : Nat → Nat} (hA : ∀ S : St, va_D (xA a) (wX cI cZ a S)) {x1 : Int32} {S : St} {o : Int32} (hf : f_X8_errorOf x1 S = some o) : Met l yX8_errorOf wsX8_errorOf rmX8_errorOf (tPc D cI cZ (wX cI cZ a) S ([.ref (a 7), .int x1] : List Value)) (tQi D (wX cI cZ a) (xA a) S o) 0 0 (xA a) := by
  refine tEnter (cc := cX8_errorOf) (maxL := 2) (ret := (some .int)) (own := RX8) hA rfl (by decide) rfl (Nat.le_of_ble_eq_true rfl) (fun p e s m args below meth c C hr hlk hP hS ls hl => ?_)
  obtain ⟨⟨hx, hb, hml, hown, hts⟩, hK, hN, -⟩ := id C
  have hl : lv_has ls 2 [(0, .ref (a 7)), (1, .int x1)] := hl
  have hin8 := hn_X8_errorOf_8
  have hSS := hS
  rw [f_X8_errorOf] at hf
  revert hP hS
  suffices hsuf : ∀ (H : Heap) (locs : List Loc), va_P D vwCl (wX cI cZ a S) H → va_S (xA a) s.heap H locs → W p l e rmX8_errorOf s m args below meth c H locs 0 0 (MQ below (tQi D (wX cI cZ a) (xA a) S o) args s 0 0 (xA a)) (F0 m 0 ls []) from fun hP hS => hsuf s.heap [] hP hS
  intro H locs hP hS
  refine lv_aload_n hx hb dX8_errorOf_0 rfl (lv_at hl 0 rfl) ?_
  refine lv_iload_n hx hb dX8_errorOf_1 rfl (lv_at hl 1 rfl) ?_
  obtain ⟨r2, hc2, hf⟩ := ob hf
  refine tCallVi (As := [.int x1]) (rest := []) (q0 := 7) (ci := 8) C hP hS rfl rfl (c_X8_isLaid l C.2.2.2 hc2) (cwV 1 hts gX8_errorOf_X8_isLaid rfl rfl rfl ⟨rfl, hd_X8_isLaid⟩ ⟨Nat.le_of_ble_eq_true rfl, Nat.le_of_ble_eq_true rfl⟩) rfl hl rfl (Nat.le_of_ble_eq_true rfl) dX8_errorOf_2 ⟨Nat.le_refl 0, Nat.le_refl 0⟩ (fun H locs hP hS => ?_)
  refine lv_if_eq (tgt := 17) hx hb dX8_errorOf_5 (by decide) (fun c1 => ?_) (fun c1 => ?_)
  · have hf := if_p hf c1
    refine lv_iconst (v := (0 : Int32)) hx hb dX8_errorOf_17 (by decide) ?_
    obtain rfl := Option.some.inj hf
    exact tRet_i C hr hlk hP hS dX8_errorOf_18
  · have hf := if_n hf c1
    refine lv_aload_n hx hb dX8_errorOf_8 rfl (lv_at hl 0 rfl) ?_
    refine gx_8_8 C hin8 hP (List.mem_of_getElem? (i := 1) rfl) dX8_errorOf_9 ?_
    refine lv_iload_n hx hb dX8_errorOf_12 rfl (lv_at hl 1 rfl) ?_
    obtain ⟨hi2, hf⟩ := ob_in hf
    refine ldx_4 C hP rfl hi2 dX8_errorOf_13 ?_
    refine lv_goto (tgt := 18) hx hb dX8_errorOf_14 (by decide) ?_
    obtain rfl := Option.some.inj hf
    exact tRet_i C hr hlk hP hS dX8_errorOf_18
def rmX8_isLost : Room := { frames := 1, cells := 0, slots := 0, locals := 21 }
theorem hn_X8_isLost_8 : ∀ w ∈ wsX80, w ∈ wsX8_isLost := fun w h => List.mem_cons_of_mem _ (List.mem_append_right _ h)
theorem hd_X8_isLost : yX8_isLost.cls ≠ "java/lang/invoke/MethodHandle" ∧ yX8_isLost.cls ≠ "java/lang/invoke/VarHandle" ∧ (parseMethodDescriptor yX8_isLost.desc).map (fun d => d.parameters.length) = some 1 := by decide +kernel
set_option maxHeartbeats 4000000 in
set_option maxRecDepth 100000 in
theorem c_X8_isLost (l : Launch) {D : va_G} {cI cZ : ClassId} {a : Nat → Nat} (hA : ∀ S : St, va_D (xA a) (wX cI cZ a S)) {x1 : Int32} {S : St} {o : Int32} (hf : f_X8_isLost x1 S = some o) : Met l yX8_isLost wsX8_isLost rmX8_isLost (tPc D cI cZ (wX cI cZ a) S ([.ref (a 7), .int x1] : List Value)) (tQi D (wX cI cZ a) (xA a) S o) 0 0 (xA a) := by
  refine tEnter (cc := cX8_isLost) (maxL := 2) (ret := (some .boolean)) (own := RX8) hA rfl (by decide) rfl (Nat.le_of_ble_eq_true rfl) (fun p e s m args below meth c C hr hlk hP hS ls hl => ?_)
  obtain ⟨⟨hx, hb, hml, hown, hts⟩, hK, hN, -⟩ := id C
  have hl : lv_has ls 2 [(0, .ref (a 7)), (1, .int x1)] := hl
  have hin8 := hn_X8_isLost_8
  have hSS := hS
  rw [f_X8_isLost] at hf
  revert hP hS
  suffices hsuf : ∀ (H : Heap) (locs : List Loc), va_P D vwCl (wX cI cZ a S) H → va_S (xA a) s.heap H locs → W p l e rmX8_isLost s m args below meth c H locs 0 0 (MQ below (tQi D (wX cI cZ a) (xA a) S o) args s 0 0 (xA a)) (F0 m 0 ls []) from fun hP hS => hsuf s.heap [] hP hS
  intro H locs hP hS
  refine lv_aload_n hx hb dX8_isLost_0 rfl (lv_at hl 0 rfl) ?_
  refine lv_iload_n hx hb dX8_isLost_1 rfl (lv_at hl 1 rfl) ?_
  obtain ⟨r2, hc2, hf⟩ := ob hf
  refine tCallVi (As := [.int x1]) (rest := []) (q0 := 7) (ci := 8) C hP hS rfl rfl (c_X8_isLaid l C.2.2.2 hc2) (cwV 1 hts gX8_isLost_X8_isLaid rfl rfl rfl ⟨rfl, hd_X8_isLaid⟩ ⟨Nat.le_of_ble_eq_true rfl, Nat.le_of_ble_eq_true rfl⟩) rfl hl rfl (Nat.le_of_ble_eq_true rfl) dX8_isLost_2 ⟨Nat.le_refl 0, Nat.le_refl 0⟩ (fun H locs hP hS => ?_)
  refine lv_if_eq (tgt := 24) hx hb dX8_isLost_5 (by decide) (fun c1 => ?_) (fun c1 => ?_)
  · have hf := if_p hf c1
    refine lv_iconst (v := (0 : Int32)) hx hb dX8_isLost_24 (by decide) ?_
    obtain rfl := Option.some.inj hf
    exact tRet_z (v := (0 : Int32)) C hr hlk hP hS rfl dX8_isLost_25
  · have hf := if_n hf c1
    refine lv_aload_n hx hb dX8_isLost_8 rfl (lv_at hl 0 rfl) ?_
    refine gx_8_4 C hin8 hP (List.mem_of_getElem? (i := 1) rfl) dX8_isLost_9 ?_
    refine lv_iload_n hx hb dX8_isLost_12 rfl (lv_at hl 1 rfl) ?_
    refine lv_ishr hx hb dX8_isLost_13 ?_
    refine lv_iconst (v := (1 : Int32)) hx hb dX8_isLost_14 (by decide) ?_
    refine lv_iand hx hb dX8_isLost_15 ?_
    refine lv_iconst (v := (1 : Int32)) hx hb dX8_isLost_16 (by decide) ?_
    refine lv_icmp_ne (tgt := 24) hx hb dX8_isLost_17 (by decide) (fun c2 => ?_) (fun c2 => ?_)
    · have hf := if_n hf c2
      refine lv_iconst (v := (0 : Int32)) hx hb dX8_isLost_24 (by decide) ?_
      obtain rfl := Option.some.inj hf
      exact tRet_z (v := (0 : Int32)) C hr hlk hP hS rfl dX8_isLost_25
    · have hf := if_p hf c2
      refine lv_iconst (v := (1 : Int32)) hx hb dX8_isLost_20 (by decide) ?_
      refine lv_goto (tgt := 25) hx hb dX8_isLost_21 (by decide) ?_
      obtain rfl := Option.some.inj hf
      exact tRet_z (v := (1 : Int32)) C hr hlk hP hS rfl dX8_isLost_25
def rmX9_stage : Room := { frames := 2, cells := 0, slots := 0, locals := 42 }
theorem hn_X9_stage_9 : ∀ w ∈ wsX90, w ∈ wsX9_stage := fun w h => List.mem_cons_of_mem _ (List.mem_append_left _ (List.mem_append_left _ (List.mem_append_right _ h)))
theorem hd_X9_stage : yX9_stage.cls ≠ "java/lang/invoke/MethodHandle" ∧ yX9_stage.cls ≠ "java/lang/invoke/VarHandle" ∧ (parseMethodDescriptor yX9_stage.desc).map (fun d => d.parameters.length) = some 2 := by decide +kernel
set_option maxHeartbeats 4000000 in
set_option maxRecDepth 100000 in
theorem c_X9_stage (l : Launch) {D : va_G} {cI cZ : ClassId} {a : Nat → Nat} (hA : ∀ S : St, va_D (xA a) (wX cI cZ a S)) {x1 : Int32} {x2 : Int32} {S : St} {o : Int32} (hf : f_X9_stage x1 x2 S = some o) : Met l yX9_stage wsX9_stage rmX9_stage (tPc D cI cZ (wX cI cZ a) S ([.ref (a 0), .int x1, .int x2] : List Value)) (tQi D (wX cI cZ a) (xA a) S o) 0 0 (xA a) := by
  refine tEnter (cc := cX9_stage) (maxL := 3) (ret := (some .int)) (own := RX9) hA rfl (by decide) rfl (Nat.le_of_ble_eq_true rfl) (fun p e s m args below meth c C hr hlk hP hS ls hl => ?_)
  obtain ⟨⟨hx, hb, hml, hown, hts⟩, hK, hN, -⟩ := id C
  have hl : lv_has ls 3 [(0, .ref (a 0)), (1, .int x1), (2, .int x2)] := hl
  have hin9 := hn_X9_stage_9
  have hSS := hS
  rw [f_X9_stage] at hf
  revert hP hS
  suffices hsuf : ∀ (H : Heap) (locs : List Loc), va_P D vwCl (wX cI cZ a S) H → va_S (xA a) s.heap H locs → W p l e rmX9_stage s m args below meth c H locs 0 0 (MQ below (tQi D (wX cI cZ a) (xA a) S o) args s 0 0 (xA a)) (F0 m 0 ls []) from fun hP hS => hsuf s.heap [] hP hS
  intro H locs hP hS
  refine lv_aload_n hx hb dX9_stage_0 rfl (lv_at hl 0 rfl) ?_
  refine gx_9_1 C hin9 hP (List.mem_of_getElem? (i := 1) rfl) dX9_stage_1 ?_
  refine lv_iload_n hx hb dX9_stage_4 rfl (lv_at hl 1 rfl) ?_
  obtain ⟨r5, hc5, hf⟩ := ob hf
  refine tCallVi (As := [.int x1]) (rest := []) (q0 := 3) (ci := 3) C hP hS rfl rfl (c_X3_has l C.2.2.2 hc5) (cwV 1 hts gX9_stage_X3_has rfl rfl rfl ⟨rfl, hd_X3_has⟩ ⟨Nat.le_of_ble_eq_true rfl, Nat.le_of_ble_eq_true rfl⟩) rfl hl rfl (Nat.le_of_ble_eq_true rfl) dX9_stage_5 ⟨Nat.le_refl 0, Nat.le_refl 0⟩ (fun H locs hP hS => ?_)
  refine lv_if_ne (tgt := 13) hx hb dX9_stage_8 (by decide) (fun c1 => ?_) (fun c1 => ?_)
  · have hf := if_n hf c1
    refine lv_iload_n hx hb dX9_stage_13 rfl (lv_at hl 2 rfl) ?_
    by_cases c2 : x2 = (0 : Int32)
    · have hf := if_p hf c2
      refine lv_tableIn (tgt := 48) hx hb dX9_stage_14 (by rw [c2]; decide) (by rw [c2]; decide) (by first | (rw [c2]; done) | (rw [c2]; rfl)) (by decide) ?_
      refine lv_aload_n hx hb dX9_stage_48 rfl (lv_at hl 0 rfl) ?_
      refine gx_9_1 C hin9 hP (List.mem_of_getElem? (i := 1) rfl) dX9_stage_49 ?_
      refine lv_iload_n hx hb dX9_stage_52 rfl (lv_at hl 1 rfl) ?_
      obtain ⟨r53, hc53, hf⟩ := ob hf
      refine tCallVi (As := [.int x1]) (rest := []) (q0 := 3) (ci := 3) C hP hS rfl rfl (c_X3_kindOf l C.2.2.2 hc53) (cwV 1 hts gX9_stage_X3_kindOf rfl rfl rfl ⟨rfl, hd_X3_kindOf⟩ ⟨Nat.le_of_ble_eq_true rfl, Nat.le_of_ble_eq_true rfl⟩) rfl hl rfl (Nat.le_of_ble_eq_true rfl) dX9_stage_53 ⟨Nat.le_refl 0, Nat.le_refl 0⟩ (fun H locs hP hS => ?_)
      obtain rfl := Option.some.inj hf
      exact tRet_i C hr hlk hP hS dX9_stage_56
    have hf := if_n hf c2
    by_cases c3 : x2 = (1 : Int32)
    · have hf := if_p hf c3
      refine lv_tableIn (tgt := 57) hx hb dX9_stage_14 (by rw [c3]; decide) (by rw [c3]; decide) (by first | (rw [c3]; done) | (rw [c3]; rfl)) (by decide) ?_
      refine lv_aload_n hx hb dX9_stage_57 rfl (lv_at hl 0 rfl) ?_
      refine gx_9_1 C hin9 hP (List.mem_of_getElem? (i := 1) rfl) dX9_stage_58 ?_
      refine lv_iload_n hx hb dX9_stage_61 rfl (lv_at hl 1 rfl) ?_
      obtain ⟨r62, hc62, hf⟩ := ob hf
      refine tCallVi (As := [.int x1]) (rest := []) (q0 := 3) (ci := 3) C hP hS rfl rfl (c_X3_valueOf l C.2.2.2 hc62) (cwV 1 hts gX9_stage_X3_valueOf rfl rfl rfl ⟨rfl, hd_X3_valueOf⟩ ⟨Nat.le_of_ble_eq_true rfl, Nat.le_of_ble_eq_true rfl⟩) rfl hl rfl (Nat.le_of_ble_eq_true rfl) dX9_stage_62 ⟨Nat.le_refl 0, Nat.le_refl 0⟩ (fun H locs hP hS => ?_)
      obtain rfl := Option.some.inj hf
      exact tRet_i C hr hlk hP hS dX9_stage_65
    have hf := if_n hf c3
    by_cases c4 : x2 = (2 : Int32)
    · have hf := if_p hf c4
      refine lv_tableIn (tgt := 66) hx hb dX9_stage_14 (by rw [c4]; decide) (by rw [c4]; decide) (by first | (rw [c4]; done) | (rw [c4]; rfl)) (by decide) ?_
      refine lv_aload_n hx hb dX9_stage_66 rfl (lv_at hl 0 rfl) ?_
      refine gx_9_1 C hin9 hP (List.mem_of_getElem? (i := 1) rfl) dX9_stage_67 ?_
      refine lv_iload_n hx hb dX9_stage_70 rfl (lv_at hl 1 rfl) ?_
      obtain ⟨r71, hc71, hf⟩ := ob hf
      refine tCallVi (As := [.int x1]) (rest := []) (q0 := 3) (ci := 3) C hP hS rfl rfl (c_X3_gorseOf l C.2.2.2 hc71) (cwV 1 hts gX9_stage_X3_gorseOf rfl rfl rfl ⟨rfl, hd_X3_gorseOf⟩ ⟨Nat.le_of_ble_eq_true rfl, Nat.le_of_ble_eq_true rfl⟩) rfl hl rfl (Nat.le_of_ble_eq_true rfl) dX9_stage_71 ⟨Nat.le_refl 0, Nat.le_refl 0⟩ (fun H locs hP hS => ?_)
      obtain rfl := Option.some.inj hf
      exact tRet_i C hr hlk hP hS dX9_stage_74
    have hf := if_n hf c4
    by_cases c5 : x2 = (3 : Int32)
    · have hf := if_p hf c5
      refine lv_tableIn (tgt := 75) hx hb dX9_stage_14 (by rw [c5]; decide) (by rw [c5]; decide) (by first | (rw [c5]; done) | (rw [c5]; rfl)) (by decide) ?_
      refine lv_aload_n hx hb dX9_stage_75 rfl (lv_at hl 0 rfl) ?_
      refine gx_9_2 C hin9 hP (List.mem_of_getElem? (i := 2) rfl) dX9_stage_76 ?_
      refine lv_iload_n hx hb dX9_stage_79 rfl (lv_at hl 1 rfl) ?_
      obtain ⟨r80, hc80, hf⟩ := ob hf
      refine tCallVi (As := [.int x1]) (rest := []) (q0 := 7) (ci := 8) C hP hS rfl rfl (c_X8_isLaid l C.2.2.2 hc80) (cwV 1 hts gX9_stage_X8_isLaid rfl rfl rfl ⟨rfl, hd_X8_isLaid⟩ ⟨Nat.le_of_ble_eq_true rfl, Nat.le_of_ble_eq_true rfl⟩) rfl hl rfl (Nat.le_of_ble_eq_true rfl) dX9_stage_80 ⟨Nat.le_refl 0, Nat.le_refl 0⟩ (fun H locs hP hS => ?_)
      refine lv_if_eq (tgt := 101) hx hb dX9_stage_83 (by decide) (fun c6 => ?_) (fun c6 => ?_)
      · have hf := if_p hf c6
        refine lv_bipush (v := (-9 : Int32)) hx hb dX9_stage_101 (by decide) ?_
        obtain rfl := Option.some.inj hf
        exact tRet_i C hr hlk hP hS dX9_stage_103
      · have hf := if_n hf c6
        refine lv_aload_n hx hb dX9_stage_86 rfl (lv_at hl 0 rfl) ?_
        refine gx_9_2 C hin9 hP (List.mem_of_getElem? (i := 2) rfl) dX9_stage_87 ?_
        refine lv_iload_n hx hb dX9_stage_90 rfl (lv_at hl 1 rfl) ?_
        obtain ⟨r91, hc91, hf⟩ := ob hf
        refine tCallVi (As := [.int x1]) (rest := []) (q0 := 7) (ci := 8) C hP hS rfl rfl (c_X8_errorOf l C.2.2.2 hc91) (cwV 1 hts gX9_stage_X8_errorOf rfl rfl rfl ⟨rfl, hd_X8_errorOf⟩ ⟨Nat.le_of_ble_eq_true rfl, Nat.le_of_ble_eq_true rfl⟩) rfl hl rfl (Nat.le_of_ble_eq_true rfl) dX9_stage_91 ⟨Nat.le_refl 0, Nat.le_refl 0⟩ (fun H locs hP hS => ?_)
        refine lv_sipush (v := (20000 : Int32)) hx hb dX9_stage_94 (by decide) ?_
        refine lv_iadd hx hb dX9_stage_97 ?_
        refine lv_goto (tgt := 103) hx hb dX9_stage_98 (by decide) ?_
        obtain rfl := Option.some.inj hf
        exact tRet_i C hr hlk hP hS dX9_stage_103
    have hf := if_n hf c5
    by_cases c7 : x2 = (4 : Int32)
    · have hf := if_p hf c7
      refine lv_tableIn (tgt := 104) hx hb dX9_stage_14 (by rw [c7]; decide) (by rw [c7]; decide) (by first | (rw [c7]; done) | (rw [c7]; rfl)) (by decide) ?_
      refine lv_aload_n hx hb dX9_stage_104 rfl (lv_at hl 0 rfl) ?_
      refine gx_9_2 C hin9 hP (List.mem_of_getElem? (i := 2) rfl) dX9_stage_105 ?_
      refine lv_iload_n hx hb dX9_stage_108 rfl (lv_at hl 1 rfl) ?_
      obtain ⟨r109, hc109, hf⟩ := ob hf
      refine tCallVi (As := [.int x1]) (rest := []) (q0 := 7) (ci := 8) C hP hS rfl rfl (c_X8_isLost l C.2.2.2 hc109) (cwV 1 hts gX9_stage_X8_isLost rfl rfl rfl ⟨rfl, hd_X8_isLost⟩ ⟨Nat.le_of_ble_eq_true rfl, Nat.le_of_ble_eq_true rfl⟩) rfl hl rfl (Nat.le_of_ble_eq_true rfl) dX9_stage_109 ⟨Nat.le_refl 0, Nat.le_refl 0⟩ (fun H locs hP hS => ?_)
      refine lv_if_eq (tgt := 119) hx hb dX9_stage_112 (by decide) (fun c8 => ?_) (fun c8 => ?_)
      · have hf := if_p hf c8
        refine lv_iconst (v := (0 : Int32)) hx hb dX9_stage_119 (by decide) ?_
        obtain rfl := Option.some.inj hf
        exact tRet_i C hr hlk hP hS dX9_stage_120
      · have hf := if_n hf c8
        refine lv_iconst (v := (1 : Int32)) hx hb dX9_stage_115 (by decide) ?_
        refine lv_goto (tgt := 120) hx hb dX9_stage_116 (by decide) ?_
        obtain rfl := Option.some.inj hf
        exact tRet_i C hr hlk hP hS dX9_stage_120
    have hf := if_n hf c7
    refine lv_tableOut (tgt := 121) hx hb dX9_stage_14 (by have q2 := lv_neT (a := 0) c2 (by decide); have q3 := lv_neT (a := 1) c3 (by decide); have q4 := lv_neT (a := 2) c4 (by decide); have q5 := lv_neT (a := 3) c5 (by decide); have q7 := lv_neT (a := 4) c7 (by decide); omega) (by decide) ?_
    refine lv_bipush (v := (-2 : Int32)) hx hb dX9_stage_121 (by decide) ?_
    obtain rfl := Option.some.inj hf
    exact tRet_i C hr hlk hP hS dX9_stage_123
  · have hf := if_p hf c1
    refine lv_iconst (v := (-1 : Int32)) hx hb dX9_stage_11 (by decide) ?_
    obtain rfl := Option.some.inj hf
    exact tRet_i C hr hlk hP hS dX9_stage_12
def rmX9_byBook : Room := { frames := 0, cells := 0, slots := 0, locals := 0 }
theorem hn_X9_byBook_3 : ∀ w ∈ wsX30, w ∈ wsX9_byBook := fun w h => List.mem_cons_of_mem _ (List.mem_append_left _ (List.mem_append_right _ h))
theorem hn_X9_byBook_8 : ∀ w ∈ wsX80, w ∈ wsX9_byBook := fun w h => List.mem_cons_of_mem _ (List.mem_append_right _ h)
theorem hn_X9_byBook_9 : ∀ w ∈ wsX90, w ∈ wsX9_byBook := fun w h => List.mem_cons_of_mem _ (List.mem_append_left _ (List.mem_append_left _ (List.mem_append_right _ h)))
theorem hd_X9_byBook : yX9_byBook.cls ≠ "java/lang/invoke/MethodHandle" ∧ yX9_byBook.cls ≠ "java/lang/invoke/VarHandle" ∧ (parseMethodDescriptor yX9_byBook.desc).map (fun d => d.parameters.length) = some 0 := by decide +kernel
set_option maxHeartbeats 4000000 in
set_option maxRecDepth 100000 in
theorem c_X9_byBook (l : Launch) {D : va_G} {cI cZ : ClassId} {a : Nat → Nat} (hA : ∀ S : St, va_D (xA a) (wX cI cZ a S)) {S : St} {o : Int32} (hf : f_X9_byBook S = some o) : Met l yX9_byBook wsX9_byBook rmX9_byBook (tPc D cI cZ (wX cI cZ a) S ([.ref (a 0)] : List Value)) (tQi D (wX cI cZ a) (xA a) S o) 0 0 (xA a) := by
  refine tEnter (cc := cX9_byBook) (maxL := 1) (ret := (some .int)) (own := RX9) hA rfl (by decide) rfl (Nat.le_of_ble_eq_true rfl) (fun p e s m args below meth c C hr hlk hP hS ls hl => ?_)
  obtain ⟨⟨hx, hb, hml, hown, hts⟩, hK, hN, -⟩ := id C
  have hl : lv_has ls 1 [(0, .ref (a 0))] := hl
  have hin3 := hn_X9_byBook_3
  have hin8 := hn_X9_byBook_8
  have hin9 := hn_X9_byBook_9
  have hSS := hS
  rw [f_X9_byBook] at hf
  revert hP hS
  suffices hsuf : ∀ (H : Heap) (locs : List Loc), va_P D vwCl (wX cI cZ a S) H → va_S (xA a) s.heap H locs → W p l e rmX9_byBook s m args below meth c H locs 0 0 (MQ below (tQi D (wX cI cZ a) (xA a) S o) args s 0 0 (xA a)) (F0 m 0 ls []) from fun hP hS => hsuf s.heap [] hP hS
  intro H locs hP hS
  refine lv_aload_n hx hb dX9_byBook_0 rfl (lv_at hl 0 rfl) ?_
  refine gx_9_1 C hin9 hP (List.mem_of_getElem? (i := 1) rfl) dX9_byBook_1 ?_
  refine gxn_3_0 C hin3 hP (i := 2) rfl dX9_byBook_4 ?_
  refine lv_aload_n hx hb dX9_byBook_7 rfl (lv_at hl 0 rfl) ?_
  refine gx_9_2 C hin9 hP (List.mem_of_getElem? (i := 2) rfl) dX9_byBook_8 ?_
  refine gxn_8_2 C hin8 hP (i := 11) rfl dX9_byBook_11 ?_
  refine lv_imul hx hb dX9_byBook_14 ?_
  refine lv_aload_n hx hb dX9_byBook_15 rfl (lv_at hl 0 rfl) ?_
  refine gx_9_2 C hin9 hP (List.mem_of_getElem? (i := 2) rfl) dX9_byBook_16 ?_
  refine gxn_8_1 C hin8 hP (i := 10) rfl dX9_byBook_19 ?_
  refine lv_iadd hx hb dX9_byBook_22 ?_
  obtain rfl := Option.some.inj hf
  exact tRet_i C hr hlk hP hS dX9_byBook_23
def rmX8_errorsTogether : Room := { frames := 2, cells := 0, slots := 0, locals := 42 }
theorem hn_X8_errorsTogether_8 : ∀ w ∈ wsX80, w ∈ wsX8_errorsTogether := fun w h => List.mem_cons_of_mem _ (List.mem_append_right _ h)
theorem hd_X8_errorsTogether : yX8_errorsTogether.cls ≠ "java/lang/invoke/MethodHandle" ∧ yX8_errorsTogether.cls ≠ "java/lang/invoke/VarHandle" ∧ (parseMethodDescriptor yX8_errorsTogether.desc).map (fun d => d.parameters.length) = some 0 := by decide +kernel
set_option maxHeartbeats 4000000 in
set_option maxRecDepth 100000 in
theorem lp_X8_errorsTogether_4 {p : Program} {l : Launch} {e : Env} {s : State} {m : MethodId} {args : Array Value} {below : List Frame} {meth : Method} {c : Code} {D : va_G} {cI cZ : ClassId} {a : Nat → Nat} {Q : State → Prop} {H0 : Heap} {S : St} {o : Int32}
    (C : tC p c s m args cX8_errorsTogether 3 RX8 wsX8_errorsTogether D cI cZ (wX cI cZ a) (xA a))
    (K0 : ∀ (H : Heap) (locs : List Loc) (ls : Array Slot), va_P D vwCl (wX cI cZ a S) H → va_S (xA a) H0 H locs → lv_has ls 3 [(1, .int o)] → W p l e rmX8_errorsTogether s m args below meth c H locs 0 0 Q (F0 m 26 ls [])) :
    ∀ (n : Nat) (x1 : Int32) (x2 : Int32), l_X8_errorsTogether_4 S n x1 x2 = some o → ∀ (H : Heap) (locs : List Loc) (ls : Array Slot), va_P D vwCl (wX cI cZ a S) H → va_S (xA a) H0 H locs → lv_has ls 3 [(0, .ref (a 7)), (1, .int x1), (2, .int x2)] → W p l e rmX8_errorsTogether s m args below meth c H locs 0 0 Q (F0 m 4 ls []) := by
  obtain ⟨⟨hx, hb, hml, hown, hts⟩, hK, hN, hA⟩ := id C
  have hin8 := hn_X8_errorsTogether_8
  intro n
  induction n with
  | zero =>
    intro x1 x2 hf
    rw [l_X8_errorsTogether_4] at hf
    cases hf
  | succ n ih =>
    intro x1 x2 hf H locs ls hP hS hl
    rw [l_X8_errorsTogether_4] at hf
    refine lv_iload_n hx hb dX8_errorsTogether_4 rfl (lv_at hl 2 rfl) ?_
    refine lv_aload_n hx hb dX8_errorsTogether_5 rfl (lv_at hl 0 rfl) ?_
    refine gx_8_3 C hin8 hP (List.mem_of_getElem? (i := 1) rfl) dX8_errorsTogether_6 ?_
    refine lv_icmp_ge (tgt := 26) hx hb dX8_errorsTogether_9 (by decide) (fun c1 => ?_) (fun c1 => ?_)
    · have hf := if_p hf c1
      obtain rfl := Option.some.inj hf
      exact K0 H locs ls hP hS (lv_sub hl [1] rfl)
    · have hf := if_n hf c1
      refine lv_iload_n hx hb dX8_errorsTogether_12 rfl (lv_at hl 1 rfl) ?_
      refine lv_aload_n hx hb dX8_errorsTogether_13 rfl (lv_at hl 0 rfl) ?_
      refine lv_iload_n hx hb dX8_errorsTogether_14 rfl (lv_at hl 2 rfl) ?_
      obtain ⟨r15, hc15, hf⟩ := ob hf
      refine tCallVi (As := [.int x2]) (rest := [.int x1]) (q0 := 7) (ci := 8) C hP hS rfl rfl (c_X8_errorOf l C.2.2.2 hc15) (cwV 1 hts gX8_errorsTogether_X8_errorOf rfl rfl rfl ⟨rfl, hd_X8_errorOf⟩ ⟨Nat.le_of_ble_eq_true rfl, Nat.le_of_ble_eq_true rfl⟩) rfl hl rfl (Nat.le_of_ble_eq_true rfl) dX8_errorsTogether_15 ⟨Nat.le_refl 0, Nat.le_refl 0⟩ (fun H locs hP hS => ?_)
      refine lv_iadd hx hb dX8_errorsTogether_18 ?_
      refine lv_istore_n (lv' := [(1, .int (x1 + r15)), (0, .ref (a 7)), (2, .int x2)]) hx hb dX8_errorsTogether_19 rfl hl (Nat.le_of_ble_eq_true rfl) rfl (fun ls hl => ?_)
      refine lv_iinc (v := (x2 + 1)) (lv' := [(2, .int (x2 + 1)), (1, .int (x1 + r15)), (0, .ref (a 7))]) hx hb dX8_errorsTogether_20 hl (k := 2) rfl rfl (Nat.le_of_ble_eq_true rfl) rfl (fun ls hl => ?_)
      refine lv_goto (tgt := 4) hx hb dX8_errorsTogether_23 (by decide) ?_
      exact ih _ _ hf H locs ls hP hS (lv_sub hl [2, 1, 0] rfl)
set_option maxHeartbeats 4000000 in
set_option maxRecDepth 100000 in
theorem c_X8_errorsTogether (l : Launch) {D : va_G} {cI cZ : ClassId} {a : Nat → Nat} (hA : ∀ S : St, va_D (xA a) (wX cI cZ a S)) {S : St} {o : Int32} (hf : f_X8_errorsTogether S = some o) : Met l yX8_errorsTogether wsX8_errorsTogether rmX8_errorsTogether (tPc D cI cZ (wX cI cZ a) S ([.ref (a 7)] : List Value)) (tQi D (wX cI cZ a) (xA a) S o) 0 0 (xA a) := by
  refine tEnter (cc := cX8_errorsTogether) (maxL := 3) (ret := (some .int)) (own := RX8) hA rfl (by decide) rfl (Nat.le_of_ble_eq_true rfl) (fun p e s m args below meth c C hr hlk hP hS ls hl => ?_)
  obtain ⟨⟨hx, hb, hml, hown, hts⟩, hK, hN, -⟩ := id C
  have hl : lv_has ls 3 [(0, .ref (a 7))] := hl
  have hin8 := hn_X8_errorsTogether_8
  have hSS := hS
  rw [f_X8_errorsTogether] at hf
  revert hP hS
  suffices hsuf : ∀ (H : Heap) (locs : List Loc), va_P D vwCl (wX cI cZ a S) H → va_S (xA a) s.heap H locs → W p l e rmX8_errorsTogether s m args below meth c H locs 0 0 (MQ below (tQi D (wX cI cZ a) (xA a) S o) args s 0 0 (xA a)) (F0 m 0 ls []) from fun hP hS => hsuf s.heap [] hP hS
  intro H locs hP hS
  refine lv_iconst (v := (0 : Int32)) hx hb dX8_errorsTogether_0 (by decide) ?_
  refine lv_istore_n (lv' := [(1, .int (0 : Int32)), (0, .ref (a 7))]) hx hb dX8_errorsTogether_1 rfl hl (Nat.le_of_ble_eq_true rfl) rfl (fun ls hl => ?_)
  refine lv_iconst (v := (0 : Int32)) hx hb dX8_errorsTogether_2 (by decide) ?_
  refine lv_istore_n (lv' := [(2, .int (0 : Int32)), (1, .int (0 : Int32)), (0, .ref (a 7))]) hx hb dX8_errorsTogether_3 rfl hl (Nat.le_of_ble_eq_true rfl) rfl (fun ls hl => ?_)
  obtain ⟨o4, hc4, hf⟩ := ob hf
  refine lp_X8_errorsTogether_4 C (fun H locs ls hP hS hl => ?_) fuel _ _ hc4 H locs ls hP hS (lv_sub hl [2, 1, 0] rfl)
  refine lv_iload_n hx hb dX8_errorsTogether_26 rfl (lv_at hl 0 rfl) ?_
  obtain rfl := Option.some.inj hf
  exact tRet_i C hr hlk hP hS dX8_errorsTogether_27
def rmX9_truly : Room := { frames := 3, cells := 0, slots := 0, locals := 64 }
theorem hn_X9_truly_8 : ∀ w ∈ wsX80, w ∈ wsX9_truly := fun w h => List.mem_cons_of_mem _ (List.mem_append_right _ h)
theorem hn_X9_truly_9 : ∀ w ∈ wsX90, w ∈ wsX9_truly := fun w h => List.mem_cons_of_mem _ (List.mem_append_left _ (List.mem_append_right _ h))
theorem hd_X9_truly : yX9_truly.cls ≠ "java/lang/invoke/MethodHandle" ∧ yX9_truly.cls ≠ "java/lang/invoke/VarHandle" ∧ (parseMethodDescriptor yX9_truly.desc).map (fun d => d.parameters.length) = some 0 := by decide +kernel
set_option maxHeartbeats 4000000 in
set_option maxRecDepth 100000 in
theorem c_X9_truly (l : Launch) {D : va_G} {cI cZ : ClassId} {a : Nat → Nat} (hA : ∀ S : St, va_D (xA a) (wX cI cZ a S)) {S : St} {o : Int32} (hf : f_X9_truly S = some o) : Met l yX9_truly wsX9_truly rmX9_truly (tPc D cI cZ (wX cI cZ a) S ([.ref (a 0)] : List Value)) (tQi D (wX cI cZ a) (xA a) S o) 0 0 (xA a) := by
  refine tEnter (cc := cX9_truly) (maxL := 1) (ret := (some .int)) (own := RX9) hA rfl (by decide) rfl (Nat.le_of_ble_eq_true rfl) (fun p e s m args below meth c C hr hlk hP hS ls hl => ?_)
  obtain ⟨⟨hx, hb, hml, hown, hts⟩, hK, hN, -⟩ := id C
  have hl : lv_has ls 1 [(0, .ref (a 0))] := hl
  have hin8 := hn_X9_truly_8
  have hin9 := hn_X9_truly_9
  have hSS := hS
  rw [f_X9_truly] at hf
  revert hP hS
  suffices hsuf : ∀ (H : Heap) (locs : List Loc), va_P D vwCl (wX cI cZ a S) H → va_S (xA a) s.heap H locs → W p l e rmX9_truly s m args below meth c H locs 0 0 (MQ below (tQi D (wX cI cZ a) (xA a) S o) args s 0 0 (xA a)) (F0 m 0 ls []) from fun hP hS => hsuf s.heap [] hP hS
  intro H locs hP hS
  refine lv_sipush (v := (20000 : Int32)) hx hb dX9_truly_0 (by decide) ?_
  refine lv_sipush (v := (1000 : Int32)) hx hb dX9_truly_3 (by decide) ?_
  refine lv_aload_n hx hb dX9_truly_6 rfl (lv_at hl 0 rfl) ?_
  refine gx_9_2 C hin9 hP (List.mem_of_getElem? (i := 1) rfl) dX9_truly_7 ?_
  refine gxn_8_3 C hin8 hP (i := 14) rfl dX9_truly_10 ?_
  refine lv_imul hx hb dX9_truly_13 ?_
  refine lv_iadd hx hb dX9_truly_14 ?_
  refine lv_aload_n hx hb dX9_truly_15 rfl (lv_at hl 0 rfl) ?_
  refine gx_9_2 C hin9 hP (List.mem_of_getElem? (i := 1) rfl) dX9_truly_16 ?_
  obtain ⟨r19, hc19, hf⟩ := ob hf
  refine tCallVi (As := []) (rest := [.int ((20000 : Int32) + ((1000 : Int32) * (S.1 10)))]) (q0 := 7) (ci := 8) C hP hS rfl rfl (c_X8_errorsTogether l C.2.2.2 hc19) (cwV 0 hts gX9_truly_X8_errorsTogether rfl rfl rfl ⟨rfl, hd_X8_errorsTogether⟩ ⟨Nat.le_of_ble_eq_true rfl, Nat.le_of_ble_eq_true rfl⟩) rfl hl rfl (Nat.le_of_ble_eq_true rfl) dX9_truly_19 ⟨Nat.le_refl 0, Nat.le_refl 0⟩ (fun H locs hP hS => ?_)
  refine lv_iadd hx hb dX9_truly_22 ?_
  obtain rfl := Option.some.inj hf
  exact tRet_i C hr hlk hP hS dX9_truly_23
def rmX0_startOf : Room := { frames := 0, cells := 0, slots := 0, locals := 0 }
theorem hn_X0_startOf_0 : ∀ w ∈ wsX00, w ∈ wsX0_startOf := fun w h => List.mem_cons_of_mem _ (List.mem_append_right _ h)
theorem hd_X0_startOf : yX0_startOf.cls ≠ "java/lang/invoke/MethodHandle" ∧ yX0_startOf.cls ≠ "java/lang/invoke/VarHandle" ∧ (parseMethodDescriptor yX0_startOf.desc).map (fun d => d.parameters.length) = some 1 := by decide +kernel
set_option maxHeartbeats 4000000 in
set_option maxRecDepth 100000 in
theorem c_X0_startOf (l : Launch) {D : va_G} {cI cZ : ClassId} {a : Nat → Nat} (hA : ∀ S : St, va_D (xA a) (wX cI cZ a S)) {x1 : Int32} {S : St} {o : Int32} (hf : f_X0_startOf x1 S = some o) : Met l yX0_startOf wsX0_startOf rmX0_startOf (tPc D cI cZ (wX cI cZ a) S ([.ref (a 9), .int x1] : List Value)) (tQi D (wX cI cZ a) (xA a) S o) 0 0 (xA a) := by
  refine tEnter (cc := cX0_startOf) (maxL := 2) (ret := (some .int)) (own := RX0) hA rfl (by decide) rfl (Nat.le_of_ble_eq_true rfl) (fun p e s m args below meth c C hr hlk hP hS ls hl => ?_)
  obtain ⟨⟨hx, hb, hml, hown, hts⟩, hK, hN, -⟩ := id C
  have hl : lv_has ls 2 [(0, .ref (a 9)), (1, .int x1)] := hl
  have hin0 := hn_X0_startOf_0
  have hSS := hS
  rw [f_X0_startOf] at hf
  revert hP hS
  suffices hsuf : ∀ (H : Heap) (locs : List Loc), va_P D vwCl (wX cI cZ a S) H → va_S (xA a) s.heap H locs → W p l e rmX0_startOf s m args below meth c H locs 0 0 (MQ below (tQi D (wX cI cZ a) (xA a) S o) args s 0 0 (xA a)) (F0 m 0 ls []) from fun hP hS => hsuf s.heap [] hP hS
  intro H locs hP hS
  refine lv_aload_n hx hb dX0_startOf_0 rfl (lv_at hl 0 rfl) ?_
  refine gx_0_1 C hin0 hP (List.mem_of_getElem? (i := 1) rfl) dX0_startOf_1 ?_
  refine lv_iload_n hx hb dX0_startOf_4 rfl (lv_at hl 1 rfl) ?_
  refine lv_iadd hx hb dX0_startOf_5 ?_
  refine lv_bipush (v := (14 : Int32)) hx hb dX0_startOf_6 (by decide) ?_
  refine lv_irem hx hb dX0_startOf_8 (by decide) ?_
  refine lv_bipush (v := (16 : Int32)) hx hb dX0_startOf_9 (by decide) ?_
  refine lv_imul hx hb dX0_startOf_11 ?_
  obtain rfl := Option.some.inj hf
  exact tRet_i C hr hlk hP hS dX0_startOf_12
def rmX8_saveTo_a10 : Room := { frames := 1, cells := 0, slots := 0, locals := 18 }
theorem hn_X8_saveTo_a10_8 : ∀ w ∈ wsX80, w ∈ wsX8_saveTo := fun w h => List.mem_cons_of_mem _ (List.mem_append_right _ h)
theorem hd_X8_saveTo : yX8_saveTo.cls ≠ "java/lang/invoke/MethodHandle" ∧ yX8_saveTo.cls ≠ "java/lang/invoke/VarHandle" ∧ (parseMethodDescriptor yX8_saveTo.desc).map (fun d => d.parameters.length) = some 2 := by decide +kernel
set_option maxHeartbeats 4000000 in
set_option maxRecDepth 100000 in
theorem c_X8_saveTo_a10 (l : Launch) {D : va_G} {cI cZ : ClassId} {a : Nat → Nat} (hA : ∀ S : St, va_D (xA a) (wX cI cZ a S)) {x2 : Int32} {S : St} {o : St} (hf : f_X8_saveTo_a10 x2 S = some o) : Met l yX8_saveTo wsX8_saveTo rmX8_saveTo_a10 (tPc D cI cZ (wX cI cZ a) S ([.ref (a 7), .ref (a 10), .int x2] : List Value)) (tQv D (wX cI cZ a) (xA a) o) 0 0 (xA a) := by
  refine tEnter (cc := cX8_saveTo) (maxL := 3) (ret := none) (own := RX8) hA rfl (by decide) rfl (Nat.le_of_ble_eq_true rfl) (fun p e s m args below meth c C hr hlk hP hS ls hl => ?_)
  obtain ⟨⟨hx, hb, hml, hown, hts⟩, hK, hN, -⟩ := id C
  have hl : lv_has ls 3 [(0, .ref (a 7)), (1, .ref (a 10)), (2, .int x2)] := hl
  have hin8 := hn_X8_saveTo_a10_8
  have hSS := hS
  rw [f_X8_saveTo_a10] at hf
  revert hP hS
  suffices hsuf : ∀ (H : Heap) (locs : List Loc), va_P D vwCl (wX cI cZ a S) H → va_S (xA a) s.heap H locs → W p l e rmX8_saveTo_a10 s m args below meth c H locs 0 0 (MQ below (tQv D (wX cI cZ a) (xA a) o) args s 0 0 (xA a)) (F0 m 0 ls []) from fun hP hS => hsuf s.heap [] hP hS
  intro H locs hP hS
  refine lv_iload_n hx hb dX8_saveTo_0 rfl (lv_at hl 2 rfl) ?_
  refine lv_if_lt (tgt := 13) hx hb dX8_saveTo_1 (by decide) (fun c1 => ?_) (fun c1 => ?_)
  · have hf := if_p hf c1
    obtain rfl := Option.some.inj hf
    exact tRet_v C hr hlk hP hS dX8_saveTo_13
  · have hf := if_n hf c1
    refine lv_iload_n hx hb dX8_saveTo_4 rfl (lv_at hl 2 rfl) ?_
    refine lv_aload_n hx hb dX8_saveTo_5 rfl (lv_at hl 1 rfl) ?_
    refine alx_5 C hP dX8_saveTo_6 ?_
    refine lv_bipush (v := (16 : Int32)) hx hb dX8_saveTo_7 (by decide) ?_
    refine lv_isub hx hb dX8_saveTo_9 ?_
    refine lv_icmp_le (tgt := 14) hx hb dX8_saveTo_10 (by decide) (fun c2 => ?_) (fun c2 => ?_)
    · have hf := if_p hf c2
      refine lv_aload_n hx hb dX8_saveTo_14 rfl (lv_at hl 1 rfl) ?_
      refine lv_iload_n hx hb dX8_saveTo_15 rfl (lv_at hl 2 rfl) ?_
      refine lv_aload_n hx hb dX8_saveTo_16 rfl (lv_at hl 0 rfl) ?_
      refine gx_8_0 C hin8 hP (List.mem_of_getElem? (i := 1) rfl) dX8_saveTo_17 ?_
      obtain ⟨hi3, hf⟩ := ob_in hf
      refine stx_5 C hP hS rfl hi3 dX8_saveTo_20 (fun H locs hP hS => ?_)
      obtain ⟨S20, eS20⟩ : ∃ z, z = (sA S 5 x2.toNatClampNeg (S.1 7)) := ⟨_, rfl⟩
      rw [← eS20] at hP
      have hf := nm_i hf eS20
      refine lv_aload_n hx hb dX8_saveTo_21 rfl (lv_at hl 1 rfl) ?_
      refine lv_iload_n hx hb dX8_saveTo_22 rfl (lv_at hl 2 rfl) ?_
      refine lv_iconst (v := (1 : Int32)) hx hb dX8_saveTo_23 (by decide) ?_
      refine lv_iadd hx hb dX8_saveTo_24 ?_
      refine lv_aload_n hx hb dX8_saveTo_25 rfl (lv_at hl 0 rfl) ?_
      refine gx_8_1 C hin8 hP (List.mem_of_getElem? (i := 2) rfl) dX8_saveTo_26 ?_
      obtain ⟨hi4, hf⟩ := ob_in hf
      refine stx_5 C hP hS rfl hi4 dX8_saveTo_29 (fun H locs hP hS => ?_)
      obtain ⟨S29, eS29⟩ : ∃ z, z = (sA S20 5 ((x2 + (1 : Int32)).toNatClampNeg) (S20.1 8)) := ⟨_, rfl⟩
      rw [← eS29] at hP
      have hf := nm_i hf eS29
      refine lv_aload_n hx hb dX8_saveTo_30 rfl (lv_at hl 1 rfl) ?_
      refine lv_iload_n hx hb dX8_saveTo_31 rfl (lv_at hl 2 rfl) ?_
      refine lv_iconst (v := (2 : Int32)) hx hb dX8_saveTo_32 (by decide) ?_
      refine lv_iadd hx hb dX8_saveTo_33 ?_
      refine lv_aload_n hx hb dX8_saveTo_34 rfl (lv_at hl 0 rfl) ?_
      refine gx_8_2 C hin8 hP (List.mem_of_getElem? (i := 3) rfl) dX8_saveTo_35 ?_
      obtain ⟨hi5, hf⟩ := ob_in hf
      refine stx_5 C hP hS rfl hi5 dX8_saveTo_38 (fun H locs hP hS => ?_)
      obtain ⟨S38, eS38⟩ : ∃ z, z = (sA S29 5 ((x2 + (2 : Int32)).toNatClampNeg) (S29.1 9)) := ⟨_, rfl⟩
      rw [← eS38] at hP
      have hf := nm_i hf eS38
      refine lv_aload_n hx hb dX8_saveTo_39 rfl (lv_at hl 1 rfl) ?_
      refine lv_iload_n hx hb dX8_saveTo_40 rfl (lv_at hl 2 rfl) ?_
      refine lv_iconst (v := (3 : Int32)) hx hb dX8_saveTo_41 (by decide) ?_
      refine lv_iadd hx hb dX8_saveTo_42 ?_
      refine lv_aload_n hx hb dX8_saveTo_43 rfl (lv_at hl 0 rfl) ?_
      refine gx_8_3 C hin8 hP (List.mem_of_getElem? (i := 4) rfl) dX8_saveTo_44 ?_
      obtain ⟨hi6, hf⟩ := ob_in hf
      refine stx_5 C hP hS rfl hi6 dX8_saveTo_47 (fun H locs hP hS => ?_)
      obtain ⟨S47, eS47⟩ : ∃ z, z = (sA S38 5 ((x2 + (3 : Int32)).toNatClampNeg) (S38.1 10)) := ⟨_, rfl⟩
      rw [← eS47] at hP
      have hf := nm_i hf eS47
      refine lv_aload_n hx hb dX8_saveTo_48 rfl (lv_at hl 1 rfl) ?_
      refine lv_iload_n hx hb dX8_saveTo_49 rfl (lv_at hl 2 rfl) ?_
      refine lv_iconst (v := (4 : Int32)) hx hb dX8_saveTo_50 (by decide) ?_
      refine lv_iadd hx hb dX8_saveTo_51 ?_
      refine lv_aload_n hx hb dX8_saveTo_52 rfl (lv_at hl 0 rfl) ?_
      refine gx_8_4 C hin8 hP (List.mem_of_getElem? (i := 5) rfl) dX8_saveTo_53 ?_
      obtain ⟨hi7, hf⟩ := ob_in hf
      refine stx_5 C hP hS rfl hi7 dX8_saveTo_56 (fun H locs hP hS => ?_)
      obtain ⟨S56, eS56⟩ : ∃ z, z = (sA S47 5 ((x2 + (4 : Int32)).toNatClampNeg) (S47.1 11)) := ⟨_, rfl⟩
      rw [← eS56] at hP
      have hf := nm_i hf eS56
      refine lv_aload_n hx hb dX8_saveTo_57 rfl (lv_at hl 1 rfl) ?_
      refine lv_iload_n hx hb dX8_saveTo_58 rfl (lv_at hl 2 rfl) ?_
      refine lv_iconst (v := (5 : Int32)) hx hb dX8_saveTo_59 (by decide) ?_
      refine lv_iadd hx hb dX8_saveTo_60 ?_
      refine lv_aload_n hx hb dX8_saveTo_61 rfl (lv_at hl 0 rfl) ?_
      refine gx_8_5 C hin8 hP (List.mem_of_getElem? (i := 6) rfl) dX8_saveTo_62 ?_
      obtain ⟨hi8, hf⟩ := ob_in hf
      refine stx_5 C hP hS rfl hi8 dX8_saveTo_65 (fun H locs hP hS => ?_)
      obtain ⟨S65, eS65⟩ : ∃ z, z = (sA S56 5 ((x2 + (5 : Int32)).toNatClampNeg) (S56.1 12)) := ⟨_, rfl⟩
      rw [← eS65] at hP
      have hf := nm_i hf eS65
      refine lv_aload_n hx hb dX8_saveTo_66 rfl (lv_at hl 1 rfl) ?_
      refine lv_iload_n hx hb dX8_saveTo_67 rfl (lv_at hl 2 rfl) ?_
      refine lv_bipush (v := (6 : Int32)) hx hb dX8_saveTo_68 (by decide) ?_
      refine lv_iadd hx hb dX8_saveTo_70 ?_
      refine lv_aload_n hx hb dX8_saveTo_71 rfl (lv_at hl 0 rfl) ?_
      refine gx_8_6 C hin8 hP (List.mem_of_getElem? (i := 7) rfl) dX8_saveTo_72 ?_
      obtain ⟨hi9, hf⟩ := ob_in hf
      refine stx_5 C hP hS rfl hi9 dX8_saveTo_75 (fun H locs hP hS => ?_)
      obtain ⟨S75, eS75⟩ : ∃ z, z = (sA S65 5 ((x2 + (6 : Int32)).toNatClampNeg) (S65.1 13)) := ⟨_, rfl⟩
      rw [← eS75] at hP
      have hf := nm_i hf eS75
      refine lv_aload_n hx hb dX8_saveTo_76 rfl (lv_at hl 1 rfl) ?_
      refine lv_iload_n hx hb dX8_saveTo_77 rfl (lv_at hl 2 rfl) ?_
      refine lv_bipush (v := (7 : Int32)) hx hb dX8_saveTo_78 (by decide) ?_
      refine lv_iadd hx hb dX8_saveTo_80 ?_
      refine lv_aload_n hx hb dX8_saveTo_81 rfl (lv_at hl 0 rfl) ?_
      refine gx_8_7 C hin8 hP (List.mem_of_getElem? (i := 8) rfl) dX8_saveTo_82 ?_
      obtain ⟨hi10, hf⟩ := ob_in hf
      refine stx_5 C hP hS rfl hi10 dX8_saveTo_85 (fun H locs hP hS => ?_)
      obtain ⟨S85, eS85⟩ : ∃ z, z = (sA S75 5 ((x2 + (7 : Int32)).toNatClampNeg) (S75.1 14)) := ⟨_, rfl⟩
      rw [← eS85] at hP
      have hf := nm_i hf eS85
      refine lv_aload_n hx hb dX8_saveTo_86 rfl (lv_at hl 0 rfl) ?_
      refine gx_8_8 C hin8 hP (List.mem_of_getElem? (i := 9) rfl) dX8_saveTo_87 ?_
      refine lv_iconst (v := (0 : Int32)) hx hb dX8_saveTo_90 (by decide) ?_
      refine lv_aload_n hx hb dX8_saveTo_91 rfl (lv_at hl 1 rfl) ?_
      refine lv_iload_n hx hb dX8_saveTo_92 rfl (lv_at hl 2 rfl) ?_
      refine lv_bipush (v := (8 : Int32)) hx hb dX8_saveTo_93 (by decide) ?_
      refine lv_iadd hx hb dX8_saveTo_95 ?_
      refine lv_bipush (v := (8 : Int32)) hx hb dX8_saveTo_96 (by decide) ?_
      obtain ⟨hz11, hf⟩ := ob_ne hf
      refine cp_4_5 C hP hS hl hz11 (List.mem_of_getElem? (i := 10) rfl) (List.mem_of_getElem? (i := 11) rfl) (List.mem_of_getElem? (i := 12) rfl) (List.mem_of_getElem? (i := 13) rfl) (Nat.le_of_ble_eq_true rfl) (Nat.le_of_ble_eq_true rfl) dX8_saveTo_98 (fun H locs hP hS => ?_)
      obtain ⟨S98, eS98⟩ : ∃ z, z = (sR S85 5 (va_cpy (S85.2.1 4) (S85.2.1 5) (0 : Int32).toNatClampNeg (x2 + (8 : Int32)).toNatClampNeg (8 : Int32).toNatClampNeg)) := ⟨_, rfl⟩
      rw [← eS98] at hP
      have hf := nm_i hf eS98
      obtain rfl := Option.some.inj hf
      exact tRet_v C hr hlk hP hS dX8_saveTo_101
    · have hf := if_n hf c2
      obtain rfl := Option.some.inj hf
      exact tRet_v C hr hlk hP hS dX8_saveTo_13
def rmX0_remember_a7 : Room := { frames := 2, cells := 0, slots := 0, locals := 40 }
theorem hn_X0_remember_a7_0 : ∀ w ∈ wsX00, w ∈ wsX0_remember := fun w h => List.mem_cons_of_mem _ (List.mem_append_left _ (List.mem_append_right _ h))
theorem hd_X0_remember : yX0_remember.cls ≠ "java/lang/invoke/MethodHandle" ∧ yX0_remember.cls ≠ "java/lang/invoke/VarHandle" ∧ (parseMethodDescriptor yX0_remember.desc).map (fun d => d.parameters.length) = some 1 := by decide +kernel
set_option maxHeartbeats 4000000 in
set_option maxRecDepth 100000 in
theorem c_X0_remember_a7 (l : Launch) {D : va_G} {cI cZ : ClassId} {a : Nat → Nat} (hA : ∀ S : St, va_D (xA a) (wX cI cZ a S)) {S : St} {o : St} (hf : f_X0_remember_a7 S = some o) : Met l yX0_remember wsX0_remember rmX0_remember_a7 (tPc D cI cZ (wX cI cZ a) S ([.ref (a 9), .ref (a 7)] : List Value)) (tQv D (wX cI cZ a) (xA a) o) 0 0 (xA a) := by
  refine tEnter (cc := cX0_remember) (maxL := 2) (ret := none) (own := RX0) hA rfl (by decide) rfl (Nat.le_of_ble_eq_true rfl) (fun p e s m args below meth c C hr hlk hP hS ls hl => ?_)
  obtain ⟨⟨hx, hb, hml, hown, hts⟩, hK, hN, -⟩ := id C
  have hl : lv_has ls 2 [(0, .ref (a 9)), (1, .ref (a 7))] := hl
  have hin0 := hn_X0_remember_a7_0
  have hSS := hS
  rw [f_X0_remember_a7] at hf
  revert hP hS
  suffices hsuf : ∀ (H : Heap) (locs : List Loc), va_P D vwCl (wX cI cZ a S) H → va_S (xA a) s.heap H locs → W p l e rmX0_remember_a7 s m args below meth c H locs 0 0 (MQ below (tQv D (wX cI cZ a) (xA a) o) args s 0 0 (xA a)) (F0 m 0 ls []) from fun hP hS => hsuf s.heap [] hP hS
  intro H locs hP hS
  refine lv_aload_n hx hb dX0_remember_0 rfl (lv_at hl 1 rfl) ?_
  refine lv_aload_n hx hb dX0_remember_1 rfl (lv_at hl 0 rfl) ?_
  refine gx_0_0 C hin0 hP (List.mem_of_getElem? (i := 1) rfl) dX0_remember_2 ?_
  refine lv_aload_n hx hb dX0_remember_5 rfl (lv_at hl 0 rfl) ?_
  refine lv_aload_n hx hb dX0_remember_6 rfl (lv_at hl 0 rfl) ?_
  refine gx_0_2 C hin0 hP (List.mem_of_getElem? (i := 2) rfl) dX0_remember_7 ?_
  obtain ⟨r10, hc10, hf⟩ := ob hf
  refine tCallVi (As := [.int (S.1 16)]) (rest := [.ref (a 10), .ref (a 7)]) (q0 := 9) (ci := 0) C hP hS rfl rfl (c_X0_startOf l C.2.2.2 hc10) (cwV 1 hts gX0_remember_X0_startOf rfl rfl rfl ⟨rfl, hd_X0_startOf⟩ ⟨Nat.le_of_ble_eq_true rfl, Nat.le_of_ble_eq_true rfl⟩) rfl hl rfl (Nat.le_of_ble_eq_true rfl) dX0_remember_10 ⟨Nat.le_refl 0, Nat.le_refl 0⟩ (fun H locs hP hS => ?_)
  obtain ⟨r13, hc13, hf⟩ := ob hf
  refine tCallVv (As := [.ref (a 10), .int r10]) (rest := []) (q0 := 7) (ci := 8) C hP hS rfl rfl (c_X8_saveTo_a10 l C.2.2.2 hc13) (cwV 2 hts gX0_remember_X8_saveTo rfl rfl rfl ⟨rfl, hd_X8_saveTo⟩ ⟨Nat.le_of_ble_eq_true rfl, Nat.le_of_ble_eq_true rfl⟩) rfl hl rfl (Nat.le_of_ble_eq_true rfl) dX0_remember_13 ⟨Nat.le_refl 0, Nat.le_refl 0⟩ (fun H locs hP hS => ?_)
  refine lv_aload_n hx hb dX0_remember_16 rfl (lv_at hl 0 rfl) ?_
  refine gx_0_2 C hin0 hP (List.mem_of_getElem? (i := 2) rfl) dX0_remember_17 ?_
  refine lv_bipush (v := (14 : Int32)) hx hb dX0_remember_20 (by decide) ?_
  refine lv_icmp_ne (tgt := 41) hx hb dX0_remember_22 (by decide) (fun c1 => ?_) (fun c1 => ?_)
  · have hf := if_n hf c1
    refine lv_aload_n hx hb dX0_remember_41 rfl (lv_at hl 0 rfl) ?_
    refine lv_dup hx hb dX0_remember_42 rfl ?_
    refine gx_0_2 C hin0 hP (List.mem_of_getElem? (i := 2) rfl) dX0_remember_43 ?_
    refine lv_iconst (v := (1 : Int32)) hx hb dX0_remember_46 (by decide) ?_
    refine lv_iadd hx hb dX0_remember_47 ?_
    refine px_0_2 C hin0 hP hS (List.mem_of_getElem? (i := 2) rfl) dX0_remember_48 (fun H locs hP hS => ?_)
    obtain ⟨S48, eS48⟩ : ∃ z, z = (sI r13 16 ((r13.1 16) + (1 : Int32))) := ⟨_, rfl⟩
    rw [← eS48] at hP
    have hf := nm_i hf eS48
    obtain rfl := Option.some.inj hf
    exact tRet_v C hr hlk hP hS dX0_remember_51
  · have hf := if_p hf c1
    refine lv_aload_n hx hb dX0_remember_25 rfl (lv_at hl 0 rfl) ?_
    refine lv_aload_n hx hb dX0_remember_26 rfl (lv_at hl 0 rfl) ?_
    refine gx_0_1 C hin0 hP (List.mem_of_getElem? (i := 3) rfl) dX0_remember_27 ?_
    refine lv_iconst (v := (1 : Int32)) hx hb dX0_remember_30 (by decide) ?_
    refine lv_iadd hx hb dX0_remember_31 ?_
    refine lv_bipush (v := (14 : Int32)) hx hb dX0_remember_32 (by decide) ?_
    refine lv_irem hx hb dX0_remember_34 (by decide) ?_
    refine px_0_1 C hin0 hP hS (List.mem_of_getElem? (i := 3) rfl) dX0_remember_35 (fun H locs hP hS => ?_)
    obtain ⟨S35, eS35⟩ : ∃ z, z = (sI r13 15 (((r13.1 15) + (1 : Int32)) - ((r13.1 15) + (1 : Int32)) / (14 : Int32) * (14 : Int32))) := ⟨_, rfl⟩
    rw [← eS35] at hP
    have hf := nm_i hf eS35
    refine lv_goto (tgt := 51) hx hb dX0_remember_38 (by decide) ?_
    obtain rfl := Option.some.inj hf
    exact tRet_v C hr hlk hP hS dX0_remember_51
def rmX3_groundAt : Room := { frames := 1, cells := 0, slots := 0, locals := 21 }
theorem hn_X3_groundAt_3 : ∀ w ∈ wsX30, w ∈ wsX3_groundAt := fun w h => List.mem_cons_of_mem _ (List.mem_append_right _ h)
theorem hd_X3_groundAt : yX3_groundAt.cls ≠ "java/lang/invoke/MethodHandle" ∧ yX3_groundAt.cls ≠ "java/lang/invoke/VarHandle" ∧ (parseMethodDescriptor yX3_groundAt.desc).map (fun d => d.parameters.length) = some 1 := by decide +kernel
set_option maxHeartbeats 4000000 in
set_option maxRecDepth 100000 in
theorem c_X3_groundAt (l : Launch) {D : va_G} {cI cZ : ClassId} {a : Nat → Nat} (hA : ∀ S : St, va_D (xA a) (wX cI cZ a S)) {x1 : Int32} {S : St} {o : Int32} (hf : f_X3_groundAt x1 S = some o) : Met l yX3_groundAt wsX3_groundAt rmX3_groundAt (tPc D cI cZ (wX cI cZ a) S ([.ref (a 3), .int x1] : List Value)) (tQi D (wX cI cZ a) (xA a) S o) 0 0 (xA a) := by
  refine tEnter (cc := cX3_groundAt) (maxL := 2) (ret := (some .int)) (own := RX3) hA rfl (by decide) rfl (Nat.le_of_ble_eq_true rfl) (fun p e s m args below meth c C hr hlk hP hS ls hl => ?_)
  obtain ⟨⟨hx, hb, hml, hown, hts⟩, hK, hN, -⟩ := id C
  have hl : lv_has ls 2 [(0, .ref (a 3)), (1, .int x1)] := hl
  have hin3 := hn_X3_groundAt_3
  have hSS := hS
  rw [f_X3_groundAt] at hf
  revert hP hS
  suffices hsuf : ∀ (H : Heap) (locs : List Loc), va_P D vwCl (wX cI cZ a S) H → va_S (xA a) s.heap H locs → W p l e rmX3_groundAt s m args below meth c H locs 0 0 (MQ below (tQi D (wX cI cZ a) (xA a) S o) args s 0 0 (xA a)) (F0 m 0 ls []) from fun hP hS => hsuf s.heap [] hP hS
  intro H locs hP hS
  refine lv_aload_n hx hb dX3_groundAt_0 rfl (lv_at hl 0 rfl) ?_
  refine lv_iload_n hx hb dX3_groundAt_1 rfl (lv_at hl 1 rfl) ?_
  obtain ⟨r2, hc2, hf⟩ := ob hf
  refine tCallVi (As := [.int x1]) (rest := []) (q0 := 3) (ci := 3) C hP hS rfl rfl (c_X3_has l C.2.2.2 hc2) (cwV 1 hts gX3_groundAt_X3_has rfl rfl rfl ⟨rfl, hd_X3_has⟩ ⟨Nat.le_of_ble_eq_true rfl, Nat.le_of_ble_eq_true rfl⟩) rfl hl rfl (Nat.le_of_ble_eq_true rfl) dX3_groundAt_2 ⟨Nat.le_refl 0, Nat.le_refl 0⟩ (fun H locs hP hS => ?_)
  refine lv_if_eq (tgt := 17) hx hb dX3_groundAt_5 (by decide) (fun c1 => ?_) (fun c1 => ?_)
  · have hf := if_p hf c1
    refine lv_iconst (v := (0 : Int32)) hx hb dX3_groundAt_17 (by decide) ?_
    obtain rfl := Option.some.inj hf
    exact tRet_i C hr hlk hP hS dX3_groundAt_18
  · have hf := if_n hf c1
    refine lv_aload_n hx hb dX3_groundAt_8 rfl (lv_at hl 0 rfl) ?_
    refine gx_3_9 C hin3 hP (List.mem_of_getElem? (i := 1) rfl) dX3_groundAt_9 ?_
    refine lv_iload_n hx hb dX3_groundAt_12 rfl (lv_at hl 1 rfl) ?_
    obtain ⟨hi2, hf⟩ := ob_in hf
    refine ldx_10 C hP rfl hi2 dX3_groundAt_13 ?_
    refine lv_goto (tgt := 18) hx hb dX3_groundAt_14 (by decide) ?_
    obtain rfl := Option.some.inj hf
    exact tRet_i C hr hlk hP hS dX3_groundAt_18
def rmX1_errorAt : Room := { frames := 2, cells := 0, slots := 0, locals := 42 }
theorem hn_X1_errorAt_1 : ∀ w ∈ wsX10, w ∈ wsX1_errorAt := fun w h => List.mem_cons_of_mem _ (List.mem_append_left _ (List.mem_append_left _ (List.mem_append_right _ h)))
theorem hn_X1_errorAt_8 : ∀ w ∈ wsX80, w ∈ wsX1_errorAt := fun w h => List.mem_cons_of_mem _ (List.mem_append_left _ (List.mem_append_right _ h))
theorem hd_X1_errorAt : yX1_errorAt.cls ≠ "java/lang/invoke/MethodHandle" ∧ yX1_errorAt.cls ≠ "java/lang/invoke/VarHandle" ∧ (parseMethodDescriptor yX1_errorAt.desc).map (fun d => d.parameters.length) = some 2 := by decide +kernel
set_option maxHeartbeats 4000000 in
set_option maxRecDepth 100000 in
theorem c_X1_errorAt (l : Launch) {D : va_G} {cI cZ : ClassId} {a : Nat → Nat} (hA : ∀ S : St, va_D (xA a) (wX cI cZ a S)) {x1 : Int32} {x2 : Int32} {S : St} {o : Int32} (hf : f_X1_errorAt x1 x2 S = some o) : Met l yX1_errorAt wsX1_errorAt rmX1_errorAt (tPc D cI cZ (wX cI cZ a) S ([.ref (a 16), .int x1, .int x2] : List Value)) (tQi D (wX cI cZ a) (xA a) S o) 0 0 (xA a) := by
  refine tEnter (cc := cX1_errorAt) (maxL := 3) (ret := (some .int)) (own := RX1) hA rfl (by decide) rfl (Nat.le_of_ble_eq_true rfl) (fun p e s m args below meth c C hr hlk hP hS ls hl => ?_)
  obtain ⟨⟨hx, hb, hml, hown, hts⟩, hK, hN, -⟩ := id C
  have hl : lv_has ls 3 [(0, .ref (a 16)), (1, .int x1), (2, .int x2)] := hl
  have hin1 := hn_X1_errorAt_1
  have hin8 := hn_X1_errorAt_8
  have hSS := hS
  rw [f_X1_errorAt] at hf
  revert hP hS
  suffices hsuf : ∀ (H : Heap) (locs : List Loc), va_P D vwCl (wX cI cZ a S) H → va_S (xA a) s.heap H locs → W p l e rmX1_errorAt s m args below meth c H locs 0 0 (MQ below (tQi D (wX cI cZ a) (xA a) S o) args s 0 0 (xA a)) (F0 m 0 ls []) from fun hP hS => hsuf s.heap [] hP hS
  intro H locs hP hS
  refine lv_aload_n hx hb dX1_errorAt_0 rfl (lv_at hl 0 rfl) ?_
  refine gx_1_1 C hin1 hP (List.mem_of_getElem? (i := 1) rfl) dX1_errorAt_1 ?_
  refine gxn_8_6 C hin8 hP (i := 18) rfl dX1_errorAt_4 ?_
  refine lv_aload_n hx hb dX1_errorAt_7 rfl (lv_at hl 0 rfl) ?_
  refine gx_1_0 C hin1 hP (List.mem_of_getElem? (i := 2) rfl) dX1_errorAt_8 ?_
  refine lv_iload_n hx hb dX1_errorAt_11 rfl (lv_at hl 1 rfl) ?_
  obtain ⟨r12, hc12, hf⟩ := ob hf
  refine tCallVi (As := [.int x1]) (rest := [.int (S.1 13)]) (q0 := 3) (ci := 3) C hP hS rfl rfl (c_X3_groundAt l C.2.2.2 hc12) (cwV 1 hts gX1_errorAt_X3_groundAt rfl rfl rfl ⟨rfl, hd_X3_groundAt⟩ ⟨Nat.le_of_ble_eq_true rfl, Nat.le_of_ble_eq_true rfl⟩) rfl hl rfl (Nat.le_of_ble_eq_true rfl) dX1_errorAt_12 ⟨Nat.le_refl 0, Nat.le_refl 0⟩ (fun H locs hP hS => ?_)
  refine lv_iadd hx hb dX1_errorAt_15 ?_
  refine lv_aload_n hx hb dX1_errorAt_16 rfl (lv_at hl 0 rfl) ?_
  refine gx_1_0 C hin1 hP (List.mem_of_getElem? (i := 2) rfl) dX1_errorAt_17 ?_
  refine lv_iload_n hx hb dX1_errorAt_20 rfl (lv_at hl 2 rfl) ?_
  obtain ⟨r21, hc21, hf⟩ := ob hf
  refine tCallVi (As := [.int x2]) (rest := [.int ((S.1 13) + r12)]) (q0 := 3) (ci := 3) C hP hS rfl rfl (c_X3_bentOf l C.2.2.2 hc21) (cwV 1 hts gX1_errorAt_X3_bentOf rfl rfl rfl ⟨rfl, hd_X3_bentOf⟩ ⟨Nat.le_of_ble_eq_true rfl, Nat.le_of_ble_eq_true rfl⟩) rfl hl rfl (Nat.le_of_ble_eq_true rfl) dX1_errorAt_21 ⟨Nat.le_refl 0, Nat.le_refl 0⟩ (fun H locs hP hS => ?_)
  refine lv_iadd hx hb dX1_errorAt_24 ?_
  refine lv_aload_n hx hb dX1_errorAt_25 rfl (lv_at hl 0 rfl) ?_
  refine gx_1_1 C hin1 hP (List.mem_of_getElem? (i := 1) rfl) dX1_errorAt_26 ?_
  refine gxn_8_7 C hin8 hP (i := 20) rfl dX1_errorAt_29 ?_
  refine lv_isub hx hb dX1_errorAt_32 ?_
  obtain rfl := Option.some.inj hf
  exact tRet_i C hr hlk hP hS dX1_errorAt_33
def rmX8_pinAndPick : Room := { frames := 0, cells := 0, slots := 0, locals := 0 }
theorem hn_X8_pinAndPick_8 : ∀ w ∈ wsX80, w ∈ wsX8_pinAndPick := fun w h => List.mem_cons_of_mem _ (List.mem_append_right _ h)
theorem hd_X8_pinAndPick : yX8_pinAndPick.cls ≠ "java/lang/invoke/MethodHandle" ∧ yX8_pinAndPick.cls ≠ "java/lang/invoke/VarHandle" ∧ (parseMethodDescriptor yX8_pinAndPick.desc).map (fun d => d.parameters.length) = some 1 := by decide +kernel
set_option maxHeartbeats 4000000 in
set_option maxRecDepth 100000 in
theorem c_X8_pinAndPick (l : Launch) {D : va_G} {cI cZ : ClassId} {a : Nat → Nat} (hA : ∀ S : St, va_D (xA a) (wX cI cZ a S)) {x1 : Int32} {S : St} {o : St} (hf : f_X8_pinAndPick x1 S = some o) : Met l yX8_pinAndPick wsX8_pinAndPick rmX8_pinAndPick (tPc D cI cZ (wX cI cZ a) S ([.ref (a 7), .int x1] : List Value)) (tQv D (wX cI cZ a) (xA a) o) 0 0 (xA a) := by
  refine tEnter (cc := cX8_pinAndPick) (maxL := 2) (ret := none) (own := RX8) hA rfl (by decide) rfl (Nat.le_of_ble_eq_true rfl) (fun p e s m args below meth c C hr hlk hP hS ls hl => ?_)
  obtain ⟨⟨hx, hb, hml, hown, hts⟩, hK, hN, -⟩ := id C
  have hl : lv_has ls 2 [(0, .ref (a 7)), (1, .int x1)] := hl
  have hin8 := hn_X8_pinAndPick_8
  have J47 : ∀ (x1 : Int32) (S : St) (H : Heap) (locs : List Loc) (ls : Array Slot), j_X8_pinAndPick_47 x1 S = some o → va_P D vwCl (wX cI cZ a S) H → va_S (xA a) s.heap H locs → lv_has ls 2 [(0, .ref (a 7)), (1, .int x1)] → W p l e rmX8_pinAndPick s m args below meth c H locs 0 0 (MQ below (tQv D (wX cI cZ a) (xA a) o) args s 0 0 (xA a)) (F0 m 47 ls []) := by
    intro x1 S H locs ls hf hP hS hl
    rw [j_X8_pinAndPick_47] at hf
    refine lv_aload_n hx hb dX8_pinAndPick_47 rfl (lv_at hl 0 rfl) ?_
    refine lv_dup hx hb dX8_pinAndPick_48 rfl ?_
    refine gx_8_0 C hin8 hP (List.mem_of_getElem? (i := 2) rfl) dX8_pinAndPick_49 ?_
    refine lv_iconst (v := (1 : Int32)) hx hb dX8_pinAndPick_52 (by decide) ?_
    refine lv_isub hx hb dX8_pinAndPick_53 ?_
    refine px_8_0 C hin8 hP hS (List.mem_of_getElem? (i := 2) rfl) dX8_pinAndPick_54 (fun H locs hP hS => ?_)
    obtain ⟨S54, eS54⟩ : ∃ z, z = (sI S 7 ((S.1 7) - (1 : Int32))) := ⟨_, rfl⟩
    rw [← eS54] at hP
    have hf := nm_i hf eS54
    refine lv_aload_n hx hb dX8_pinAndPick_57 rfl (lv_at hl 0 rfl) ?_
    refine lv_dup hx hb dX8_pinAndPick_58 rfl ?_
    refine gx_8_1 C hin8 hP (List.mem_of_getElem? (i := 3) rfl) dX8_pinAndPick_59 ?_
    refine lv_iconst (v := (1 : Int32)) hx hb dX8_pinAndPick_62 (by decide) ?_
    refine lv_iadd hx hb dX8_pinAndPick_63 ?_
    refine px_8_1 C hin8 hP hS (List.mem_of_getElem? (i := 3) rfl) dX8_pinAndPick_64 (fun H locs hP hS => ?_)
    obtain ⟨S64, eS64⟩ : ∃ z, z = (sI S54 8 ((S54.1 8) + (1 : Int32))) := ⟨_, rfl⟩
    rw [← eS64] at hP
    have hf := nm_i hf eS64
    refine lv_aload_n hx hb dX8_pinAndPick_67 rfl (lv_at hl 0 rfl) ?_
    refine gx_8_8 C hin8 hP (List.mem_of_getElem? (i := 5) rfl) dX8_pinAndPick_68 ?_
    refine lv_aload_n hx hb dX8_pinAndPick_71 rfl (lv_at hl 0 rfl) ?_
    refine gx_8_3 C hin8 hP (List.mem_of_getElem? (i := 1) rfl) dX8_pinAndPick_72 ?_
    refine lv_iload_n hx hb dX8_pinAndPick_75 rfl (lv_at hl 1 rfl) ?_
    obtain ⟨hi4, hf⟩ := ob_in hf
    refine stx_4 C hP hS rfl hi4 dX8_pinAndPick_76 (fun H locs hP hS => ?_)
    obtain ⟨S76, eS76⟩ : ∃ z, z = (sA S64 4 ((S64.1 10).toNatClampNeg) x1) := ⟨_, rfl⟩
    rw [← eS76] at hP
    have hf := nm_i hf eS76
    refine lv_aload_n hx hb dX8_pinAndPick_77 rfl (lv_at hl 0 rfl) ?_
    refine lv_dup hx hb dX8_pinAndPick_78 rfl ?_
    refine gx_8_3 C hin8 hP (List.mem_of_getElem? (i := 1) rfl) dX8_pinAndPick_79 ?_
    refine lv_iconst (v := (1 : Int32)) hx hb dX8_pinAndPick_82 (by decide) ?_
    refine lv_iadd hx hb dX8_pinAndPick_83 ?_
    refine px_8_3 C hin8 hP hS (List.mem_of_getElem? (i := 1) rfl) dX8_pinAndPick_84 (fun H locs hP hS => ?_)
    obtain ⟨S84, eS84⟩ : ∃ z, z = (sI S76 10 ((S76.1 10) + (1 : Int32))) := ⟨_, rfl⟩
    rw [← eS84] at hP
    have hf := nm_i hf eS84
    obtain rfl := Option.some.inj hf
    exact tRet_v C hr hlk hP hS dX8_pinAndPick_87
  have hSS := hS
  rw [f_X8_pinAndPick] at hf
  revert hP hS
  suffices hsuf : ∀ (H : Heap) (locs : List Loc), va_P D vwCl (wX cI cZ a S) H → va_S (xA a) s.heap H locs → W p l e rmX8_pinAndPick s m args below meth c H locs 0 0 (MQ below (tQv D (wX cI cZ a) (xA a) o) args s 0 0 (xA a)) (F0 m 0 ls []) from fun hP hS => hsuf s.heap [] hP hS
  intro H locs hP hS
  refine lv_aload_n hx hb dX8_pinAndPick_0 rfl (lv_at hl 0 rfl) ?_
  refine gx_8_3 C hin8 hP (List.mem_of_getElem? (i := 1) rfl) dX8_pinAndPick_1 ?_
  refine lv_if_lt (tgt := 16) hx hb dX8_pinAndPick_4 (by decide) (fun c1 => ?_) (fun c1 => ?_)
  · have hf := if_p hf c1
    obtain rfl := Option.some.inj hf
    exact tRet_v C hr hlk hP hS dX8_pinAndPick_16
  · have hf := if_n hf c1
    refine lv_aload_n hx hb dX8_pinAndPick_7 rfl (lv_at hl 0 rfl) ?_
    refine gx_8_3 C hin8 hP (List.mem_of_getElem? (i := 1) rfl) dX8_pinAndPick_8 ?_
    refine lv_bipush (v := (8 : Int32)) hx hb dX8_pinAndPick_11 (by decide) ?_
    refine lv_icmp_lt (tgt := 17) hx hb dX8_pinAndPick_13 (by decide) (fun c2 => ?_) (fun c2 => ?_)
    · have hf := if_p hf c2
      refine lv_aload_n hx hb dX8_pinAndPick_17 rfl (lv_at hl 0 rfl) ?_
      refine gx_8_0 C hin8 hP (List.mem_of_getElem? (i := 2) rfl) dX8_pinAndPick_18 ?_
      refine lv_if_ne (tgt := 47) hx hb dX8_pinAndPick_21 (by decide) (fun c3 => ?_) (fun c3 => ?_)
      · have hf := if_n hf c3
        exact J47 _ _ H locs ls hf hP hS (lv_sub hl [0, 1] rfl)
      · have hf := if_p hf c3
        refine lv_aload_n hx hb dX8_pinAndPick_24 rfl (lv_at hl 0 rfl) ?_
        refine lv_aload_n hx hb dX8_pinAndPick_25 rfl (lv_at hl 0 rfl) ?_
        refine gx_8_1 C hin8 hP (List.mem_of_getElem? (i := 3) rfl) dX8_pinAndPick_26 ?_
        refine px_8_0 C hin8 hP hS (List.mem_of_getElem? (i := 2) rfl) dX8_pinAndPick_29 (fun H locs hP hS => ?_)
        obtain ⟨S29, eS29⟩ : ∃ z, z = (sI S 7 (S.1 8)) := ⟨_, rfl⟩
        rw [← eS29] at hP
        have hf := nm_i hf eS29
        refine lv_aload_n hx hb dX8_pinAndPick_32 rfl (lv_at hl 0 rfl) ?_
        refine lv_iconst (v := (0 : Int32)) hx hb dX8_pinAndPick_33 (by decide) ?_
        refine px_8_1 C hin8 hP hS (List.mem_of_getElem? (i := 3) rfl) dX8_pinAndPick_34 (fun H locs hP hS => ?_)
        obtain ⟨S34, eS34⟩ : ∃ z, z = (sI S29 8 (0 : Int32)) := ⟨_, rfl⟩
        rw [← eS34] at hP
        have hf := nm_i hf eS34
        refine lv_aload_n hx hb dX8_pinAndPick_37 rfl (lv_at hl 0 rfl) ?_
        refine lv_dup hx hb dX8_pinAndPick_38 rfl ?_
        refine gx_8_2 C hin8 hP (List.mem_of_getElem? (i := 4) rfl) dX8_pinAndPick_39 ?_
        refine lv_iconst (v := (1 : Int32)) hx hb dX8_pinAndPick_42 (by decide) ?_
        refine lv_iadd hx hb dX8_pinAndPick_43 ?_
        refine px_8_2 C hin8 hP hS (List.mem_of_getElem? (i := 4) rfl) dX8_pinAndPick_44 (fun H locs hP hS => ?_)
        obtain ⟨S44, eS44⟩ : ∃ z, z = (sI S34 9 ((S34.1 9) + (1 : Int32))) := ⟨_, rfl⟩
        rw [← eS44] at hP
        have hf := nm_i hf eS44
        exact J47 _ _ H locs ls hf hP hS (lv_sub hl [0, 1] rfl)
    · have hf := if_n hf c2
      obtain rfl := Option.some.inj hf
      exact tRet_v C hr hlk hP hS dX8_pinAndPick_16
def rmX9_lay : Room := { frames := 3, cells := 0, slots := 0, locals := 64 }
theorem hn_X9_lay_8 : ∀ w ∈ wsX80, w ∈ wsX9_lay := fun w h => List.mem_cons_of_mem _ (List.mem_append_left _ (List.mem_append_left _ (List.mem_append_left _ (List.mem_append_right _ h))))
theorem hn_X9_lay_9 : ∀ w ∈ wsX90, w ∈ wsX9_lay := fun w h => List.mem_cons_of_mem _ (List.mem_append_left _ (List.mem_append_left _ (List.mem_append_left _ (List.mem_append_left _ (List.mem_append_right _ h)))))
theorem hd_X9_lay : yX9_lay.cls ≠ "java/lang/invoke/MethodHandle" ∧ yX9_lay.cls ≠ "java/lang/invoke/VarHandle" ∧ (parseMethodDescriptor yX9_lay.desc).map (fun d => d.parameters.length) = some 0 := by decide +kernel
set_option maxHeartbeats 4000000 in
set_option maxRecDepth 100000 in
theorem c_X9_lay (l : Launch) {D : va_G} {cI cZ : ClassId} {a : Nat → Nat} (hA : ∀ S : St, va_D (xA a) (wX cI cZ a S)) {S : St} {o : Int32 × St} (hf : f_X9_lay S = some o) : Met l yX9_lay wsX9_lay rmX9_lay (tPc D cI cZ (wX cI cZ a) S ([.ref (a 0)] : List Value)) (tQi D (wX cI cZ a) (xA a) o.2 o.1) 0 0 (xA a) := by
  refine tEnter (cc := cX9_lay) (maxL := 3) (ret := (some .int)) (own := RX9) hA rfl (by decide) rfl (Nat.le_of_ble_eq_true rfl) (fun p e s m args below meth c C hr hlk hP hS ls hl => ?_)
  obtain ⟨⟨hx, hb, hml, hown, hts⟩, hK, hN, -⟩ := id C
  have hl : lv_has ls 3 [(0, .ref (a 0))] := hl
  have hin8 := hn_X9_lay_8
  have hin9 := hn_X9_lay_9
  have hSS := hS
  rw [f_X9_lay] at hf
  revert hP hS
  suffices hsuf : ∀ (H : Heap) (locs : List Loc), va_P D vwCl (wX cI cZ a S) H → va_S (xA a) s.heap H locs → W p l e rmX9_lay s m args below meth c H locs 0 0 (MQ below (tQi D (wX cI cZ a) (xA a) o.2 o.1) args s 0 0 (xA a)) (F0 m 0 ls []) from fun hP hS => hsuf s.heap [] hP hS
  intro H locs hP hS
  refine lv_aload_n hx hb dX9_lay_0 rfl (lv_at hl 0 rfl) ?_
  refine gx_9_2 C hin9 hP (List.mem_of_getElem? (i := 1) rfl) dX9_lay_1 ?_
  refine gxn_8_3 C hin8 hP (i := 14) rfl dX9_lay_4 ?_
  refine lv_istore_n (lv' := [(1, .int (S.1 10)), (0, .ref (a 0))]) hx hb dX9_lay_7 rfl hl (Nat.le_of_ble_eq_true rfl) rfl (fun ls hl => ?_)
  refine lv_aload_n hx hb dX9_lay_8 rfl (lv_at hl 1 rfl) ?_
  refine gx_9_1 C hin9 hP (List.mem_of_getElem? (i := 2) rfl) dX9_lay_9 ?_
  refine lv_iload_n hx hb dX9_lay_12 rfl (lv_at hl 0 rfl) ?_
  obtain ⟨r13, hc13, hf⟩ := ob hf
  refine tCallVi (As := [.int (S.1 10)]) (rest := []) (q0 := 3) (ci := 3) C hP hS rfl rfl (c_X3_has l C.2.2.2 hc13) (cwV 1 hts gX9_lay_X3_has rfl rfl rfl ⟨rfl, hd_X3_has⟩ ⟨Nat.le_of_ble_eq_true rfl, Nat.le_of_ble_eq_true rfl⟩) rfl hl rfl (Nat.le_of_ble_eq_true rfl) dX9_lay_13 ⟨Nat.le_refl 0, Nat.le_refl 0⟩ (fun H locs hP hS => ?_)
  refine lv_if_eq (tgt := 37) hx hb dX9_lay_16 (by decide) (fun c1 => ?_) (fun c1 => ?_)
  · have hf := if_p hf c1
    refine lv_bipush (v := (-3 : Int32)) hx hb dX9_lay_37 (by decide) ?_
    obtain rfl := Option.some.inj hf
    exact tRet_i C hr hlk hP hS dX9_lay_39
  · have hf := if_n hf c1
    refine lv_aload_n hx hb dX9_lay_19 rfl (lv_at hl 1 rfl) ?_
    refine gx_9_2 C hin9 hP (List.mem_of_getElem? (i := 1) rfl) dX9_lay_20 ?_
    refine gxn_8_0 C hin8 hP (i := 9) rfl dX9_lay_23 ?_
    refine lv_aload_n hx hb dX9_lay_26 rfl (lv_at hl 1 rfl) ?_
    refine gx_9_2 C hin9 hP (List.mem_of_getElem? (i := 1) rfl) dX9_lay_27 ?_
    refine gxn_8_1 C hin8 hP (i := 10) rfl dX9_lay_30 ?_
    refine lv_iadd hx hb dX9_lay_33 ?_
    refine lv_if_gt (tgt := 40) hx hb dX9_lay_34 (by decide) (fun c2 => ?_) (fun c2 => ?_)
    · have hf := if_p hf c2
      refine lv_aload_n hx hb dX9_lay_40 rfl (lv_at hl 1 rfl) ?_
      refine gx_9_3 C hin9 hP (List.mem_of_getElem? (i := 3) rfl) dX9_lay_41 ?_
      refine lv_aload_n hx hb dX9_lay_44 rfl (lv_at hl 1 rfl) ?_
      refine gx_9_2 C hin9 hP (List.mem_of_getElem? (i := 1) rfl) dX9_lay_45 ?_
      obtain ⟨r48, hc48, hf⟩ := ob hf
      refine tCallVv (As := [.ref (a 7)]) (rest := []) (q0 := 9) (ci := 0) C hP hS rfl rfl (c_X0_remember_a7 l C.2.2.2 hc48) (cwV 1 hts gX9_lay_X0_remember rfl rfl rfl ⟨rfl, hd_X0_remember⟩ ⟨Nat.le_of_ble_eq_true rfl, Nat.le_of_ble_eq_true rfl⟩) rfl hl rfl (Nat.le_of_ble_eq_true rfl) dX9_lay_48 ⟨Nat.le_refl 0, Nat.le_refl 0⟩ (fun H locs hP hS => ?_)
      refine lv_aload_n hx hb dX9_lay_51 rfl (lv_at hl 1 rfl) ?_
      refine gx_9_6 C hin9 hP (List.mem_of_getElem? (i := 4) rfl) dX9_lay_52 ?_
      refine lv_iload_n hx hb dX9_lay_55 rfl (lv_at hl 0 rfl) ?_
      refine lv_aload_n hx hb dX9_lay_56 rfl (lv_at hl 1 rfl) ?_
      refine gx_9_2 C hin9 hP (List.mem_of_getElem? (i := 1) rfl) dX9_lay_57 ?_
      refine gxn_8_5 C hin8 hP (i := 17) rfl dX9_lay_60 ?_
      obtain ⟨r63, hc63, hf⟩ := ob hf
      refine tCallVi (As := [.int (S.1 10), .int (r48.1 12)]) (rest := []) (q0 := 16) (ci := 1) C hP hS rfl rfl (c_X1_errorAt l C.2.2.2 hc63) (cwV 2 hts gX9_lay_X1_errorAt rfl rfl rfl ⟨rfl, hd_X1_errorAt⟩ ⟨Nat.le_of_ble_eq_true rfl, Nat.le_of_ble_eq_true rfl⟩) rfl hl rfl (Nat.le_of_ble_eq_true rfl) dX9_lay_63 ⟨Nat.le_refl 0, Nat.le_refl 0⟩ (fun H locs hP hS => ?_)
      refine lv_istore_n (lv' := [(2, .int r63), (1, .int (S.1 10)), (0, .ref (a 0))]) hx hb dX9_lay_66 rfl hl (Nat.le_of_ble_eq_true rfl) rfl (fun ls hl => ?_)
      refine lv_aload_n hx hb dX9_lay_67 rfl (lv_at hl 2 rfl) ?_
      refine gx_9_2 C hin9 hP (List.mem_of_getElem? (i := 1) rfl) dX9_lay_68 ?_
      refine lv_iload_n hx hb dX9_lay_71 rfl (lv_at hl 0 rfl) ?_
      obtain ⟨r72, hc72, hf⟩ := ob hf
      refine tCallVv (As := [.int r63]) (rest := []) (q0 := 7) (ci := 8) C hP hS rfl rfl (c_X8_pinAndPick l C.2.2.2 hc72) (cwV 1 hts gX9_lay_X8_pinAndPick rfl rfl rfl ⟨rfl, hd_X8_pinAndPick⟩ ⟨Nat.le_of_ble_eq_true rfl, Nat.le_of_ble_eq_true rfl⟩) rfl hl rfl (Nat.le_of_ble_eq_true rfl) dX9_lay_72 ⟨Nat.le_refl 0, Nat.le_refl 0⟩ (fun H locs hP hS => ?_)
      refine lv_iload_n hx hb dX9_lay_75 rfl (lv_at hl 0 rfl) ?_
      refine lv_sipush (v := (20000 : Int32)) hx hb dX9_lay_76 (by decide) ?_
      refine lv_iadd hx hb dX9_lay_79 ?_
      obtain rfl := Option.some.inj hf
      exact tRet_i C hr hlk hP hS dX9_lay_80
    · have hf := if_n hf c2
      refine lv_bipush (v := (-3 : Int32)) hx hb dX9_lay_37 (by decide) ?_
      obtain rfl := Option.some.inj hf
      exact tRet_i C hr hlk hP hS dX9_lay_39
def rmX8_leaveBehind : Room := { frames := 0, cells := 0, slots := 0, locals := 0 }
theorem hn_X8_leaveBehind_8 : ∀ w ∈ wsX80, w ∈ wsX8_leaveBehind := fun w h => List.mem_cons_of_mem _ (List.mem_append_right _ h)
theorem hd_X8_leaveBehind : yX8_leaveBehind.cls ≠ "java/lang/invoke/MethodHandle" ∧ yX8_leaveBehind.cls ≠ "java/lang/invoke/VarHandle" ∧ (parseMethodDescriptor yX8_leaveBehind.desc).map (fun d => d.parameters.length) = some 1 := by decide +kernel
set_option maxHeartbeats 4000000 in
set_option maxRecDepth 100000 in
theorem c_X8_leaveBehind (l : Launch) {D : va_G} {cI cZ : ClassId} {a : Nat → Nat} (hA : ∀ S : St, va_D (xA a) (wX cI cZ a S)) {x1 : Int32} {S : St} {o : St} (hf : f_X8_leaveBehind x1 S = some o) : Met l yX8_leaveBehind wsX8_leaveBehind rmX8_leaveBehind (tPc D cI cZ (wX cI cZ a) S ([.ref (a 7), .int x1] : List Value)) (tQv D (wX cI cZ a) (xA a) o) 0 0 (xA a) := by
  refine tEnter (cc := cX8_leaveBehind) (maxL := 2) (ret := none) (own := RX8) hA rfl (by decide) rfl (Nat.le_of_ble_eq_true rfl) (fun p e s m args below meth c C hr hlk hP hS ls hl => ?_)
  obtain ⟨⟨hx, hb, hml, hown, hts⟩, hK, hN, -⟩ := id C
  have hl : lv_has ls 2 [(0, .ref (a 7)), (1, .int x1)] := hl
  have hin8 := hn_X8_leaveBehind_8
  have hSS := hS
  rw [f_X8_leaveBehind] at hf
  revert hP hS
  suffices hsuf : ∀ (H : Heap) (locs : List Loc), va_P D vwCl (wX cI cZ a S) H → va_S (xA a) s.heap H locs → W p l e rmX8_leaveBehind s m args below meth c H locs 0 0 (MQ below (tQv D (wX cI cZ a) (xA a) o) args s 0 0 (xA a)) (F0 m 0 ls []) from fun hP hS => hsuf s.heap [] hP hS
  intro H locs hP hS
  refine lv_aload_n hx hb dX8_leaveBehind_0 rfl (lv_at hl 0 rfl) ?_
  refine lv_dup hx hb dX8_leaveBehind_1 rfl ?_
  refine gx_8_4 C hin8 hP (List.mem_of_getElem? (i := 1) rfl) dX8_leaveBehind_2 ?_
  refine lv_iconst (v := (1 : Int32)) hx hb dX8_leaveBehind_5 (by decide) ?_
  refine lv_iload_n hx hb dX8_leaveBehind_6 rfl (lv_at hl 1 rfl) ?_
  refine lv_ishl hx hb dX8_leaveBehind_7 ?_
  refine lv_ior hx hb dX8_leaveBehind_8 ?_
  refine px_8_4 C hin8 hP hS (List.mem_of_getElem? (i := 1) rfl) dX8_leaveBehind_9 (fun H locs hP hS => ?_)
  obtain ⟨S9, eS9⟩ : ∃ z, z = (sI S 11 ((S.1 11) ||| ((1 : Int32) <<< (x1 &&& 31)))) := ⟨_, rfl⟩
  rw [← eS9] at hP
  have hf := nm_i hf eS9
  refine lv_aload_n hx hb dX8_leaveBehind_12 rfl (lv_at hl 0 rfl) ?_
  refine lv_dup hx hb dX8_leaveBehind_13 rfl ?_
  refine gx_8_1 C hin8 hP (List.mem_of_getElem? (i := 2) rfl) dX8_leaveBehind_14 ?_
  refine lv_iconst (v := (1 : Int32)) hx hb dX8_leaveBehind_17 (by decide) ?_
  refine lv_isub hx hb dX8_leaveBehind_18 ?_
  refine px_8_1 C hin8 hP hS (List.mem_of_getElem? (i := 2) rfl) dX8_leaveBehind_19 (fun H locs hP hS => ?_)
  obtain ⟨S19, eS19⟩ : ∃ z, z = (sI S9 8 ((S9.1 8) - (1 : Int32))) := ⟨_, rfl⟩
  rw [← eS19] at hP
  have hf := nm_i hf eS19
  obtain rfl := Option.some.inj hf
  exact tRet_v C hr hlk hP hS dX8_leaveBehind_22
def rmX9_lose : Room := { frames := 3, cells := 0, slots := 0, locals := 61 }
theorem hn_X9_lose_8 : ∀ w ∈ wsX80, w ∈ wsX9_lose := fun w h => List.mem_cons_of_mem _ (List.mem_append_left _ (List.mem_append_right _ h))
theorem hn_X9_lose_9 : ∀ w ∈ wsX90, w ∈ wsX9_lose := fun w h => List.mem_cons_of_mem _ (List.mem_append_left _ (List.mem_append_left _ (List.mem_append_right _ h)))
theorem hd_X9_lose : yX9_lose.cls ≠ "java/lang/invoke/MethodHandle" ∧ yX9_lose.cls ≠ "java/lang/invoke/VarHandle" ∧ (parseMethodDescriptor yX9_lose.desc).map (fun d => d.parameters.length) = some 0 := by decide +kernel
set_option maxHeartbeats 4000000 in
set_option maxRecDepth 100000 in
theorem c_X9_lose (l : Launch) {D : va_G} {cI cZ : ClassId} {a : Nat → Nat} (hA : ∀ S : St, va_D (xA a) (wX cI cZ a S)) {S : St} {o : Int32 × St} (hf : f_X9_lose S = some o) : Met l yX9_lose wsX9_lose rmX9_lose (tPc D cI cZ (wX cI cZ a) S ([.ref (a 0)] : List Value)) (tQi D (wX cI cZ a) (xA a) o.2 o.1) 0 0 (xA a) := by
  refine tEnter (cc := cX9_lose) (maxL := 2) (ret := (some .int)) (own := RX9) hA rfl (by decide) rfl (Nat.le_of_ble_eq_true rfl) (fun p e s m args below meth c C hr hlk hP hS ls hl => ?_)
  obtain ⟨⟨hx, hb, hml, hown, hts⟩, hK, hN, -⟩ := id C
  have hl : lv_has ls 2 [(0, .ref (a 0))] := hl
  have hin8 := hn_X9_lose_8
  have hin9 := hn_X9_lose_9
  have hSS := hS
  rw [f_X9_lose] at hf
  revert hP hS
  suffices hsuf : ∀ (H : Heap) (locs : List Loc), va_P D vwCl (wX cI cZ a S) H → va_S (xA a) s.heap H locs → W p l e rmX9_lose s m args below meth c H locs 0 0 (MQ below (tQi D (wX cI cZ a) (xA a) o.2 o.1) args s 0 0 (xA a)) (F0 m 0 ls []) from fun hP hS => hsuf s.heap [] hP hS
  intro H locs hP hS
  refine lv_aload_n hx hb dX9_lose_0 rfl (lv_at hl 0 rfl) ?_
  refine gx_9_2 C hin9 hP (List.mem_of_getElem? (i := 1) rfl) dX9_lose_1 ?_
  refine gxn_8_3 C hin8 hP (i := 14) rfl dX9_lose_4 ?_
  refine lv_iconst (v := (1 : Int32)) hx hb dX9_lose_7 (by decide) ?_
  refine lv_isub hx hb dX9_lose_8 ?_
  refine lv_istore_n (lv' := [(1, .int ((S.1 10) - (1 : Int32))), (0, .ref (a 0))]) hx hb dX9_lose_9 rfl hl (Nat.le_of_ble_eq_true rfl) rfl (fun ls hl => ?_)
  refine lv_aload_n hx hb dX9_lose_10 rfl (lv_at hl 1 rfl) ?_
  refine gx_9_2 C hin9 hP (List.mem_of_getElem? (i := 1) rfl) dX9_lose_11 ?_
  refine lv_iload_n hx hb dX9_lose_14 rfl (lv_at hl 0 rfl) ?_
  obtain ⟨r15, hc15, hf⟩ := ob hf
  refine tCallVi (As := [.int ((S.1 10) - (1 : Int32))]) (rest := []) (q0 := 7) (ci := 8) C hP hS rfl rfl (c_X8_isLaid l C.2.2.2 hc15) (cwV 1 hts gX9_lose_X8_isLaid rfl rfl rfl ⟨rfl, hd_X8_isLaid⟩ ⟨Nat.le_of_ble_eq_true rfl, Nat.le_of_ble_eq_true rfl⟩) rfl hl rfl (Nat.le_of_ble_eq_true rfl) dX9_lose_15 ⟨Nat.le_refl 0, Nat.le_refl 0⟩ (fun H locs hP hS => ?_)
  refine lv_if_eq (tgt := 32) hx hb dX9_lose_18 (by decide) (fun c1 => ?_) (fun c1 => ?_)
  · have hf := if_p hf c1
    refine lv_bipush (v := (-3 : Int32)) hx hb dX9_lose_32 (by decide) ?_
    obtain rfl := Option.some.inj hf
    exact tRet_i C hr hlk hP hS dX9_lose_34
  · have hf := if_n hf c1
    refine lv_aload_n hx hb dX9_lose_21 rfl (lv_at hl 1 rfl) ?_
    refine gx_9_2 C hin9 hP (List.mem_of_getElem? (i := 1) rfl) dX9_lose_22 ?_
    refine lv_iload_n hx hb dX9_lose_25 rfl (lv_at hl 0 rfl) ?_
    obtain ⟨r26, hc26, hf⟩ := ob hf
    refine tCallVi (As := [.int ((S.1 10) - (1 : Int32))]) (rest := []) (q0 := 7) (ci := 8) C hP hS rfl rfl (c_X8_isLost l C.2.2.2 hc26) (cwV 1 hts gX9_lose_X8_isLost rfl rfl rfl ⟨rfl, hd_X8_isLost⟩ ⟨Nat.le_of_ble_eq_true rfl, Nat.le_of_ble_eq_true rfl⟩) rfl hl rfl (Nat.le_of_ble_eq_true rfl) dX9_lose_26 ⟨Nat.le_refl 0, Nat.le_refl 0⟩ (fun H locs hP hS => ?_)
    refine lv_if_eq (tgt := 35) hx hb dX9_lose_29 (by decide) (fun c2 => ?_) (fun c2 => ?_)
    · have hf := if_p hf c2
      refine lv_aload_n hx hb dX9_lose_35 rfl (lv_at hl 1 rfl) ?_
      refine gx_9_3 C hin9 hP (List.mem_of_getElem? (i := 2) rfl) dX9_lose_36 ?_
      refine lv_aload_n hx hb dX9_lose_39 rfl (lv_at hl 1 rfl) ?_
      refine gx_9_2 C hin9 hP (List.mem_of_getElem? (i := 1) rfl) dX9_lose_40 ?_
      obtain ⟨r43, hc43, hf⟩ := ob hf
      refine tCallVv (As := [.ref (a 7)]) (rest := []) (q0 := 9) (ci := 0) C hP hS rfl rfl (c_X0_remember_a7 l C.2.2.2 hc43) (cwV 1 hts gX9_lose_X0_remember rfl rfl rfl ⟨rfl, hd_X0_remember⟩ ⟨Nat.le_of_ble_eq_true rfl, Nat.le_of_ble_eq_true rfl⟩) rfl hl rfl (Nat.le_of_ble_eq_true rfl) dX9_lose_43 ⟨Nat.le_refl 0, Nat.le_refl 0⟩ (fun H locs hP hS => ?_)
      refine lv_aload_n hx hb dX9_lose_46 rfl (lv_at hl 1 rfl) ?_
      refine gx_9_2 C hin9 hP (List.mem_of_getElem? (i := 1) rfl) dX9_lose_47 ?_
      refine lv_iload_n hx hb dX9_lose_50 rfl (lv_at hl 0 rfl) ?_
      obtain ⟨r51, hc51, hf⟩ := ob hf
      refine tCallVv (As := [.int ((S.1 10) - (1 : Int32))]) (rest := []) (q0 := 7) (ci := 8) C hP hS rfl rfl (c_X8_leaveBehind l C.2.2.2 hc51) (cwV 1 hts gX9_lose_X8_leaveBehind rfl rfl rfl ⟨rfl, hd_X8_leaveBehind⟩ ⟨Nat.le_of_ble_eq_true rfl, Nat.le_of_ble_eq_true rfl⟩) rfl hl rfl (Nat.le_of_ble_eq_true rfl) dX9_lose_51 ⟨Nat.le_refl 0, Nat.le_refl 0⟩ (fun H locs hP hS => ?_)
      refine lv_aload_n hx hb dX9_lose_54 rfl (lv_at hl 1 rfl) ?_
      refine gx_9_2 C hin9 hP (List.mem_of_getElem? (i := 1) rfl) dX9_lose_55 ?_
      refine gxn_8_1 C hin8 hP (i := 10) rfl dX9_lose_58 ?_
      obtain rfl := Option.some.inj hf
      exact tRet_i C hr hlk hP hS dX9_lose_61
    · have hf := if_n hf c2
      refine lv_bipush (v := (-3 : Int32)) hx hb dX9_lose_32 (by decide) ?_
      obtain rfl := Option.some.inj hf
      exact tRet_i C hr hlk hP hS dX9_lose_34
