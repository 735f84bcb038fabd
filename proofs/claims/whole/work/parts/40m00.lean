def rmX10_in : Room := { frames := 0, cells := 0, slots := 0, locals := 0 }
theorem hd_X10_in : yX10_in.cls ≠ "java/lang/invoke/MethodHandle" ∧ yX10_in.cls ≠ "java/lang/invoke/VarHandle" ∧ (parseMethodDescriptor yX10_in.desc).map (fun d => d.parameters.length) = some 3 := by decide +kernel
set_option maxHeartbeats 4000000 in
set_option maxRecDepth 100000 in
theorem c_X10_in (l : Launch) {D : va_G} {cI cZ : ClassId} {a : Nat → Nat} (hA : ∀ S : St, va_D (mA a) (wM cI cZ a S)) {x0 : Int64} {x2 : Int64} {x4 : Int64} {S : St} {o : Int32} (hf : f_X10_in x0 x2 x4 = some o) : Met l yX10_in wsX10_in rmX10_in (tPc D cI cZ (wM cI cZ a) S ([.long x0, .long x2, .long x4] : List Value)) (tQi D (wM cI cZ a) (mA a) S o) 0 0 (mA a) := by
  refine tEnter (cc := cX10_in) (maxL := 6) (ret := (some .boolean)) (own := RX10) hA rfl (by decide) rfl (Nat.le_of_ble_eq_true rfl) (fun p e s m args below meth c C hr hlk hP hS ls hl => ?_)
  obtain ⟨⟨hx, hb, hml, hown, hts⟩, hK, hN, -⟩ := id C
  have hl : lv_has ls 6 [(0, .long x0), (2, .long x2), (4, .long x4)] := hl
  have hSS := hS
  rw [f_X10_in] at hf
  revert hP hS
  suffices hsuf : ∀ (H : Heap) (locs : List Loc), va_P D vwCl (wM cI cZ a S) H → va_S (mA a) s.heap H locs → W p l e rmX10_in s m args below meth c H locs 0 0 (MQ below (tQi D (wM cI cZ a) (mA a) S o) args s 0 0 (mA a)) (F0 m 0 ls []) from fun hP hS => hsuf s.heap [] hP hS
  intro H locs hP hS
  refine lv_lload_n hx hb dX10_in_0 rfl (lv_at hl 0 rfl) ?_
  refine lv_lload_n hx hb dX10_in_1 rfl (lv_at hl 1 rfl) ?_
  refine W.lcmp hx hb dX10_in_2 ?_
  refine lv_if_lt (tgt := 17) hx hb dX10_in_3 (by decide) (fun c1 => ?_) (fun c1 => ?_)
  · have hf := if_p hf c1
    refine lv_iconst (v := (0 : Int32)) hx hb dX10_in_17 (by decide) ?_
    obtain rfl := Option.some.inj hf
    exact tRet_z (v := (0 : Int32)) C hr hlk hP hS rfl dX10_in_18
  · have hf := if_n hf c1
    refine lv_lload_n hx hb dX10_in_6 rfl (lv_at hl 0 rfl) ?_
    refine lv_lload hx hb dX10_in_7 (lv_at hl 2 rfl) ?_
    refine W.lcmp hx hb dX10_in_9 ?_
    refine lv_if_gt (tgt := 17) hx hb dX10_in_10 (by decide) (fun c2 => ?_) (fun c2 => ?_)
    · have hf := if_p hf c2
      refine lv_iconst (v := (0 : Int32)) hx hb dX10_in_17 (by decide) ?_
      obtain rfl := Option.some.inj hf
      exact tRet_z (v := (0 : Int32)) C hr hlk hP hS rfl dX10_in_18
    · have hf := if_n hf c2
      refine lv_iconst (v := (1 : Int32)) hx hb dX10_in_13 (by decide) ?_
      refine lv_goto (tgt := 18) hx hb dX10_in_14 (by decide) ?_
      obtain rfl := Option.some.inj hf
      exact tRet_z (v := (1 : Int32)) C hr hlk hP hS rfl dX10_in_18
def rmX10_write : Room := { frames := 1, cells := 0, slots := 0, locals := 25 }
theorem hn_X10_write_10 : ∀ w ∈ wsX100, w ∈ wsX10_write := fun w h => List.mem_cons_of_mem _ (List.mem_append_right _ h)
theorem hd_X10_write : yX10_write.cls ≠ "java/lang/invoke/MethodHandle" ∧ yX10_write.cls ≠ "java/lang/invoke/VarHandle" ∧ (parseMethodDescriptor yX10_write.desc).map (fun d => d.parameters.length) = some 1 := by decide +kernel
set_option maxHeartbeats 4000000 in
set_option maxRecDepth 100000 in
theorem c_X10_write (l : Launch) {D : va_G} {cI cZ : ClassId} {a : Nat → Nat} (hA : ∀ S : St, va_D (mA a) (wM cI cZ a S)) {x1 : Int32} {S : St} {o : Int32 × St} (hf : f_X10_write x1 S = some o) : Met l yX10_write wsX10_write rmX10_write (tPc D cI cZ (wM cI cZ a) S ([.ref (a 0), .int x1] : List Value)) (tQi D (wM cI cZ a) (mA a) o.2 o.1) 0 0 (mA a) := by
  refine tEnter (cc := cX10_write) (maxL := 2) (ret := (some .int)) (own := RX10) hA rfl (by decide) rfl (Nat.le_of_ble_eq_true rfl) (fun p e s m args below meth c C hr hlk hP hS ls hl => ?_)
  obtain ⟨⟨hx, hb, hml, hown, hts⟩, hK, hN, -⟩ := id C
  have hl : lv_has ls 2 [(0, .ref (a 0)), (1, .int x1)] := hl
  have hin10 := hn_X10_write_10
  have hSS := hS
  rw [f_X10_write] at hf
  revert hP hS
  suffices hsuf : ∀ (H : Heap) (locs : List Loc), va_P D vwCl (wM cI cZ a S) H → va_S (mA a) s.heap H locs → W p l e rmX10_write s m args below meth c H locs 0 0 (MQ below (tQi D (wM cI cZ a) (mA a) o.2 o.1) args s 0 0 (mA a)) (F0 m 0 ls []) from fun hP hS => hsuf s.heap [] hP hS
  intro H locs hP hS
  refine lv_aload_n hx hb dX10_write_0 rfl (lv_at hl 0 rfl) ?_
  refine lv_iconst (v := (0 : Int32)) hx hb dX10_write_1 (by decide) ?_
  refine pm_10_0 C hin10 hP hS (List.mem_of_getElem? (i := 1) rfl) dX10_write_2 (fun H locs hP hS => ?_)
  obtain ⟨S2, eS2⟩ : ∃ z, z = (sI S 0 (0 : Int32)) := ⟨_, rfl⟩
  rw [← eS2] at hP
  have hf := nm_i hf eS2
  refine lv_iload_n hx hb dX10_write_5 rfl (lv_at hl 1 rfl) ?_
  refine lv_i2l hx hb dX10_write_6 rfl ?_
  refine lv_lconst (v := (0 : Int64)) hx hb dX10_write_7 (by decide) ?_
  refine lv_ldc2 (v := (255 : Int64)) hx hb hown (hts _ (List.mem_of_getElem? (i := 2) rfl)) dX10_write_8 ?_
  obtain ⟨r11, hc11, hf⟩ := ob hf
  refine tCallSi (As := [.long x1.toInt64, .long (0 : Int64), .long (255 : Int64)]) (rest := []) C hP hS (c_X10_in l C.2.2.2 hc11) (va_cwS 3 hts gX10_write_X10_in rfl rfl rfl hd_X10_in ⟨Nat.le_of_ble_eq_true rfl, Nat.le_of_ble_eq_true rfl⟩) rfl hl rfl (Nat.le_of_ble_eq_true rfl) dX10_write_11 ⟨Nat.le_refl 0, Nat.le_refl 0⟩ (fun H locs hP hS => ?_)
  refine lv_if_ne (tgt := 20) hx hb dX10_write_14 (by decide) (fun c1 => ?_) (fun c1 => ?_)
  · have hf := if_n hf c1
    refine lv_aload_n hx hb dX10_write_20 rfl (lv_at hl 0 rfl) ?_
    refine gm_10_2 C hin10 hP (List.mem_of_getElem? (i := 3) rfl) dX10_write_21 ?_
    refine lv_bipush (v := (40 : Int32)) hx hb dX10_write_24 (by decide) ?_
    refine lv_icmp_ne (tgt := 32) hx hb dX10_write_26 (by decide) (fun c2 => ?_) (fun c2 => ?_)
    · have hf := if_n hf c2
      refine lv_aload_n hx hb dX10_write_32 rfl (lv_at hl 0 rfl) ?_
      refine gm_10_1 C hin10 hP (List.mem_of_getElem? (i := 4) rfl) dX10_write_33 ?_
      refine lv_aload_n hx hb dX10_write_36 rfl (lv_at hl 0 rfl) ?_
      refine gm_10_2 C hin10 hP (List.mem_of_getElem? (i := 3) rfl) dX10_write_37 ?_
      refine lv_iload_n hx hb dX10_write_40 rfl (lv_at hl 1 rfl) ?_
      obtain ⟨hi3, hf⟩ := ob_in hf
      refine stm_0 C hP hS rfl hi3 dX10_write_41 (fun H locs hP hS => ?_)
      obtain ⟨S41, eS41⟩ : ∃ z, z = (sA S2 0 ((S2.1 1).toNatClampNeg) x1) := ⟨_, rfl⟩
      rw [← eS41] at hP
      have hf := nm_i hf eS41
      refine lv_aload_n hx hb dX10_write_42 rfl (lv_at hl 0 rfl) ?_
      refine lv_dup hx hb dX10_write_43 rfl ?_
      refine gm_10_2 C hin10 hP (List.mem_of_getElem? (i := 3) rfl) dX10_write_44 ?_
      refine lv_iconst (v := (1 : Int32)) hx hb dX10_write_47 (by decide) ?_
      refine lv_iadd hx hb dX10_write_48 ?_
      refine pm_10_2 C hin10 hP hS (List.mem_of_getElem? (i := 3) rfl) dX10_write_49 (fun H locs hP hS => ?_)
      obtain ⟨S49, eS49⟩ : ∃ z, z = (sI S41 1 ((S41.1 1) + (1 : Int32))) := ⟨_, rfl⟩
      rw [← eS49] at hP
      have hf := nm_i hf eS49
      refine lv_aload_n hx hb dX10_write_52 rfl (lv_at hl 0 rfl) ?_
      refine gm_10_2 C hin10 hP (List.mem_of_getElem? (i := 3) rfl) dX10_write_53 ?_
      obtain rfl := Option.some.inj hf
      exact tRet_i C hr hlk hP hS dX10_write_56
    · have hf := if_p hf c2
      refine lv_bipush (v := (-4 : Int32)) hx hb dX10_write_29 (by decide) ?_
      obtain rfl := Option.some.inj hf
      exact tRet_i C hr hlk hP hS dX10_write_31
  · have hf := if_p hf c1
    refine lv_bipush (v := (-2 : Int32)) hx hb dX10_write_17 (by decide) ?_
    obtain rfl := Option.some.inj hf
    exact tRet_i C hr hlk hP hS dX10_write_19
def rmX10_wipe : Room := { frames := 0, cells := 0, slots := 0, locals := 0 }
theorem hn_X10_wipe_10 : ∀ w ∈ wsX100, w ∈ wsX10_wipe := fun w h => List.mem_cons_of_mem _ (List.mem_append_right _ h)
theorem hd_X10_wipe : yX10_wipe.cls ≠ "java/lang/invoke/MethodHandle" ∧ yX10_wipe.cls ≠ "java/lang/invoke/VarHandle" ∧ (parseMethodDescriptor yX10_wipe.desc).map (fun d => d.parameters.length) = some 0 := by decide +kernel
set_option maxHeartbeats 4000000 in
set_option maxRecDepth 100000 in
theorem c_X10_wipe (l : Launch) {D : va_G} {cI cZ : ClassId} {a : Nat → Nat} (hA : ∀ S : St, va_D (mA a) (wM cI cZ a S)) {S : St} {o : Int32 × St} (hf : f_X10_wipe S = some o) : Met l yX10_wipe wsX10_wipe rmX10_wipe (tPc D cI cZ (wM cI cZ a) S ([.ref (a 0)] : List Value)) (tQi D (wM cI cZ a) (mA a) o.2 o.1) 0 0 (mA a) := by
  refine tEnter (cc := cX10_wipe) (maxL := 2) (ret := (some .int)) (own := RX10) hA rfl (by decide) rfl (Nat.le_of_ble_eq_true rfl) (fun p e s m args below meth c C hr hlk hP hS ls hl => ?_)
  obtain ⟨⟨hx, hb, hml, hown, hts⟩, hK, hN, -⟩ := id C
  have hl : lv_has ls 2 [(0, .ref (a 0))] := hl
  have hin10 := hn_X10_wipe_10
  have hSS := hS
  rw [f_X10_wipe] at hf
  revert hP hS
  suffices hsuf : ∀ (H : Heap) (locs : List Loc), va_P D vwCl (wM cI cZ a S) H → va_S (mA a) s.heap H locs → W p l e rmX10_wipe s m args below meth c H locs 0 0 (MQ below (tQi D (wM cI cZ a) (mA a) o.2 o.1) args s 0 0 (mA a)) (F0 m 0 ls []) from fun hP hS => hsuf s.heap [] hP hS
  intro H locs hP hS
  refine lv_aload_n hx hb dX10_wipe_0 rfl (lv_at hl 0 rfl) ?_
  refine lv_iconst (v := (0 : Int32)) hx hb dX10_wipe_1 (by decide) ?_
  refine pm_10_0 C hin10 hP hS (List.mem_of_getElem? (i := 1) rfl) dX10_wipe_2 (fun H locs hP hS => ?_)
  obtain ⟨S2, eS2⟩ : ∃ z, z = (sI S 0 (0 : Int32)) := ⟨_, rfl⟩
  rw [← eS2] at hP
  have hf := nm_i hf eS2
  refine lv_aload_n hx hb dX10_wipe_5 rfl (lv_at hl 0 rfl) ?_
  refine gm_10_2 C hin10 hP (List.mem_of_getElem? (i := 2) rfl) dX10_wipe_6 ?_
  refine lv_istore_n (lv' := [(1, .int (S2.1 1)), (0, .ref (a 0))]) hx hb dX10_wipe_9 rfl hl (Nat.le_of_ble_eq_true rfl) rfl (fun ls hl => ?_)
  refine lv_aload_n hx hb dX10_wipe_10 rfl (lv_at hl 1 rfl) ?_
  refine lv_iconst (v := (0 : Int32)) hx hb dX10_wipe_11 (by decide) ?_
  refine pm_10_2 C hin10 hP hS (List.mem_of_getElem? (i := 2) rfl) dX10_wipe_12 (fun H locs hP hS => ?_)
  obtain ⟨S12, eS12⟩ : ∃ z, z = (sI S2 1 (0 : Int32)) := ⟨_, rfl⟩
  rw [← eS12] at hP
  have hf := nm_i hf eS12
  refine lv_iload_n hx hb dX10_wipe_15 rfl (lv_at hl 0 rfl) ?_
  obtain rfl := Option.some.inj hf
  exact tRet_i C hr hlk hP hS dX10_wipe_16
def rmX10_figure : Room := { frames := 1, cells := 0, slots := 0, locals := 25 }
theorem hn_X10_figure_10 : ∀ w ∈ wsX100, w ∈ wsX10_figure := fun w h => List.mem_cons_of_mem _ (List.mem_append_right _ h)
theorem hd_X10_figure : yX10_figure.cls ≠ "java/lang/invoke/MethodHandle" ∧ yX10_figure.cls ≠ "java/lang/invoke/VarHandle" ∧ (parseMethodDescriptor yX10_figure.desc).map (fun d => d.parameters.length) = some 2 := by decide +kernel
set_option maxHeartbeats 4000000 in
set_option maxRecDepth 100000 in
theorem c_X10_figure (l : Launch) {D : va_G} {cI cZ : ClassId} {a : Nat → Nat} (hA : ∀ S : St, va_D (mA a) (wM cI cZ a S)) {x1 : Int32} {x2 : Int32} {S : St} {o : Int32 × St} (hf : f_X10_figure x1 x2 S = some o) : Met l yX10_figure wsX10_figure rmX10_figure (tPc D cI cZ (wM cI cZ a) S ([.ref (a 0), .int x1, .int x2] : List Value)) (tQi D (wM cI cZ a) (mA a) o.2 o.1) 0 0 (mA a) := by
  refine tEnter (cc := cX10_figure) (maxL := 3) (ret := (some .int)) (own := RX10) hA rfl (by decide) rfl (Nat.le_of_ble_eq_true rfl) (fun p e s m args below meth c C hr hlk hP hS ls hl => ?_)
  obtain ⟨⟨hx, hb, hml, hown, hts⟩, hK, hN, -⟩ := id C
  have hl : lv_has ls 3 [(0, .ref (a 0)), (1, .int x1), (2, .int x2)] := hl
  have hin10 := hn_X10_figure_10
  have hSS := hS
  rw [f_X10_figure] at hf
  revert hP hS
  suffices hsuf : ∀ (H : Heap) (locs : List Loc), va_P D vwCl (wM cI cZ a S) H → va_S (mA a) s.heap H locs → W p l e rmX10_figure s m args below meth c H locs 0 0 (MQ below (tQi D (wM cI cZ a) (mA a) o.2 o.1) args s 0 0 (mA a)) (F0 m 0 ls []) from fun hP hS => hsuf s.heap [] hP hS
  intro H locs hP hS
  refine lv_aload_n hx hb dX10_figure_0 rfl (lv_at hl 0 rfl) ?_
  refine gm_10_3 C hin10 hP (List.mem_of_getElem? (i := 1) rfl) dX10_figure_1 ?_
  refine lv_aload_n hx hb dX10_figure_4 rfl (lv_at hl 0 rfl) ?_
  refine gm_10_2 C hin10 hP (List.mem_of_getElem? (i := 2) rfl) dX10_figure_5 ?_
  refine lv_icmp_eq (tgt := 34) hx hb dX10_figure_8 (by decide) (fun c1 => ?_) (fun c1 => ?_)
  · have hf := if_p hf c1
    refine lv_bipush (v := (-9 : Int32)) hx hb dX10_figure_34 (by decide) ?_
    obtain rfl := Option.some.inj hf
    exact tRet_i C hr hlk hP hS dX10_figure_36
  · have hf := if_n hf c1
    refine lv_aload_n hx hb dX10_figure_11 rfl (lv_at hl 0 rfl) ?_
    refine gm_10_1 C hin10 hP (List.mem_of_getElem? (i := 3) rfl) dX10_figure_12 ?_
    refine lv_aload_n hx hb dX10_figure_15 rfl (lv_at hl 0 rfl) ?_
    refine gm_10_3 C hin10 hP (List.mem_of_getElem? (i := 1) rfl) dX10_figure_16 ?_
    obtain ⟨hi2, hf⟩ := ob_in hf
    refine ldm_0 C hP rfl hi2 dX10_figure_19 ?_
    refine lv_bipush (v := (48 : Int32)) hx hb dX10_figure_20 (by decide) ?_
    refine lv_isub hx hb dX10_figure_22 ?_
    refine lv_i2l hx hb dX10_figure_23 rfl ?_
    refine lv_iload_n hx hb dX10_figure_24 rfl (lv_at hl 1 rfl) ?_
    refine lv_i2l hx hb dX10_figure_25 rfl ?_
    refine lv_iload_n hx hb dX10_figure_26 rfl (lv_at hl 2 rfl) ?_
    refine lv_i2l hx hb dX10_figure_27 rfl ?_
    obtain ⟨r28, hc28, hf⟩ := ob hf
    refine tCallSi (As := [.long (((S.2.1 0 ((S.1 2).toNatClampNeg)) - (48 : Int32)).toInt64), .long x1.toInt64, .long x2.toInt64]) (rest := []) C hP hS (c_X10_in l C.2.2.2 hc28) (va_cwS 3 hts gX10_figure_X10_in rfl rfl rfl hd_X10_in ⟨Nat.le_of_ble_eq_true rfl, Nat.le_of_ble_eq_true rfl⟩) rfl hl rfl (Nat.le_of_ble_eq_true rfl) dX10_figure_28 ⟨Nat.le_refl 0, Nat.le_refl 0⟩ (fun H locs hP hS => ?_)
    refine lv_if_ne (tgt := 37) hx hb dX10_figure_31 (by decide) (fun c3 => ?_) (fun c3 => ?_)
    · have hf := if_n hf c3
      refine lv_aload_n hx hb dX10_figure_37 rfl (lv_at hl 0 rfl) ?_
      refine lv_dup hx hb dX10_figure_38 rfl ?_
      refine gm_10_3 C hin10 hP (List.mem_of_getElem? (i := 1) rfl) dX10_figure_39 ?_
      refine lv_iconst (v := (1 : Int32)) hx hb dX10_figure_42 (by decide) ?_
      refine lv_iadd hx hb dX10_figure_43 ?_
      refine pm_10_3 C hin10 hP hS (List.mem_of_getElem? (i := 1) rfl) dX10_figure_44 (fun H locs hP hS => ?_)
      obtain ⟨S44, eS44⟩ : ∃ z, z = (sI S 2 ((S.1 2) + (1 : Int32))) := ⟨_, rfl⟩
      rw [← eS44] at hP
      have hf := nm_i hf eS44
      refine lv_aload_n hx hb dX10_figure_47 rfl (lv_at hl 0 rfl) ?_
      refine gm_10_1 C hin10 hP (List.mem_of_getElem? (i := 3) rfl) dX10_figure_48 ?_
      refine lv_aload_n hx hb dX10_figure_51 rfl (lv_at hl 0 rfl) ?_
      refine gm_10_3 C hin10 hP (List.mem_of_getElem? (i := 1) rfl) dX10_figure_52 ?_
      refine lv_iconst (v := (1 : Int32)) hx hb dX10_figure_55 (by decide) ?_
      refine lv_isub hx hb dX10_figure_56 ?_
      obtain ⟨hi4, hf⟩ := ob_in hf
      refine ldm_0 C hP rfl hi4 dX10_figure_57 ?_
      refine lv_bipush (v := (48 : Int32)) hx hb dX10_figure_58 (by decide) ?_
      refine lv_isub hx hb dX10_figure_60 ?_
      obtain rfl := Option.some.inj hf
      exact tRet_i C hr hlk hP hS dX10_figure_61
    · have hf := if_p hf c3
      refine lv_bipush (v := (-9 : Int32)) hx hb dX10_figure_34 (by decide) ?_
      obtain rfl := Option.some.inj hf
      exact tRet_i C hr hlk hP hS dX10_figure_36
def rmX10_readLine : Room := { frames := 2, cells := 0, slots := 0, locals := 47 }
theorem hn_X10_readLine_10 : ∀ w ∈ wsX100, w ∈ wsX10_readLine := fun w h => List.mem_cons_of_mem _ (List.mem_append_right _ h)
theorem hd_X10_readLine : yX10_readLine.cls ≠ "java/lang/invoke/MethodHandle" ∧ yX10_readLine.cls ≠ "java/lang/invoke/VarHandle" ∧ (parseMethodDescriptor yX10_readLine.desc).map (fun d => d.parameters.length) = some 0 := by decide +kernel
set_option maxHeartbeats 4000000 in
set_option maxRecDepth 100000 in
theorem lp_X10_readLine_37 {p : Program} {l : Launch} {e : Env} {s : State} {m : MethodId} {args : Array Value} {below : List Frame} {meth : Method} {c : Code} {D : va_G} {cI cZ : ClassId} {a : Nat → Nat} {Q : State → Prop} {H0 : Heap} {o : Nat × St}
    (C : tC p c s m args cX10_readLine 3 RX10 wsX10_readLine D cI cZ (wM cI cZ a) (mA a))
    (K0 : o.1 = 0 → ∀ (H : Heap) (locs : List Loc) (ls : Array Slot), va_P D vwCl (wM cI cZ a o.2) H → va_S (mA a) H0 H locs → lv_has ls 3 [(0, .ref (a 0))] → W p l e rmX10_readLine s m args below meth c H locs 0 0 Q (F0 m 64 ls []))
    (K1 : o.1 = 1 → ∀ (H : Heap) (locs : List Loc) (ls : Array Slot), va_P D vwCl (wM cI cZ a o.2) H → va_S (mA a) H0 H locs → lv_has ls 3 [(0, .ref (a 0))] → W p l e rmX10_readLine s m args below meth c H locs 0 0 Q (F0 m 97 ls [])) :
    ∀ (n : Nat) (x1 : Int32) (S : St), l_X10_readLine_37 n x1 S = some o → ∀ (H : Heap) (locs : List Loc) (ls : Array Slot), va_P D vwCl (wM cI cZ a S) H → va_S (mA a) H0 H locs → lv_has ls 3 [(0, .ref (a 0)), (1, .int x1)] → W p l e rmX10_readLine s m args below meth c H locs 0 0 Q (F0 m 37 ls []) := by
  obtain ⟨⟨hx, hb, hml, hown, hts⟩, hK, hN, hA⟩ := id C
  have hin10 := hn_X10_readLine_10
  intro n
  induction n with
  | zero =>
    intro x1 S hf
    rw [l_X10_readLine_37] at hf
    cases hf
  | succ n ih =>
    have J83 : ∀ (x1 : Int32) (x2 : Int32) (t0 : Int32) (S : St) (H : Heap) (locs : List Loc) (ls : Array Slot), j_X10_readLine_83 (l_X10_readLine_37 n) x1 x2 t0 S = some o → va_P D vwCl (wM cI cZ a S) H → va_S (mA a) H0 H locs → lv_has ls 3 [(0, .ref (a 0)), (1, .int x1), (2, .int x2)] → W p l e rmX10_readLine s m args below meth c H locs 0 0 Q (F0 m 83 ls [.int t0, .ref (a 6)]) := by
      intro x1 x2 t0 S H locs ls hf hP hS hl
      rw [j_X10_readLine_83] at hf
      refine lv_iload_n hx hb dX10_readLine_83 rfl (lv_at hl 2 rfl) ?_
      refine lv_goto (tgt := 90) hx hb dX10_readLine_84 (by decide) ?_
      obtain ⟨hi10, hf⟩ := ob_in hf
      refine stm_5 C hP hS rfl hi10 dX10_readLine_90 (fun H locs hP hS => ?_)
      obtain ⟨S90, eS90⟩ : ∃ z, z = (sA S 5 t0.toNatClampNeg x2) := ⟨_, rfl⟩
      rw [← eS90] at hP
      have hf := nm_i hf eS90
      refine lv_iinc (v := (x1 + 1)) (lv' := [(1, .int (x1 + 1)), (0, .ref (a 0)), (2, .int x2)]) hx hb dX10_readLine_91 hl (k := 1) rfl rfl (Nat.le_of_ble_eq_true rfl) rfl (fun ls hl => ?_)
      refine lv_goto (tgt := 37) hx hb dX10_readLine_94 (by decide) ?_
      exact ih _ _ hf H locs ls hP hS (lv_sub hl [1, 0] rfl)
    have J52 : ∀ (x1 : Int32) (t0 : Int32) (S : St) (H : Heap) (locs : List Loc) (ls : Array Slot), j_X10_readLine_52 (l_X10_readLine_37 n) x1 t0 S = some o → va_P D vwCl (wM cI cZ a S) H → va_S (mA a) H0 H locs → lv_has ls 3 [(0, .ref (a 0)), (1, .int x1)] → W p l e rmX10_readLine s m args below meth c H locs 0 0 Q (F0 m 52 ls [.int t0, .ref (a 0)]) := by
      intro x1 t0 S H locs ls hf hP hS hl
      rw [j_X10_readLine_52] at hf
      refine lv_bipush (v := (9 : Int32)) hx hb dX10_readLine_52 (by decide) ?_
      obtain ⟨r54, hc54, hf⟩ := ob hf
      refine tCallVi (As := [.int t0, .int (9 : Int32)]) (rest := []) (q0 := 0) (ci := 10) C hP hS rfl rfl (c_X10_figure l C.2.2.2 hc54) (cwV 2 hts gX10_readLine_X10_figure rfl rfl rfl ⟨rfl, hd_X10_figure⟩ ⟨Nat.le_of_ble_eq_true rfl, Nat.le_of_ble_eq_true rfl⟩) rfl hl rfl (Nat.le_of_ble_eq_true rfl) dX10_readLine_54 ⟨Nat.le_refl 0, Nat.le_refl 0⟩ (fun H locs hP hS => ?_)
      refine lv_istore_n (lv' := [(2, .int r54.1), (0, .ref (a 0)), (1, .int x1)]) hx hb dX10_readLine_57 rfl hl (Nat.le_of_ble_eq_true rfl) rfl (fun ls hl => ?_)
      refine lv_iload_n hx hb dX10_readLine_58 rfl (lv_at hl 0 rfl) ?_
      refine lv_bipush (v := (-9 : Int32)) hx hb dX10_readLine_59 (by decide) ?_
      refine lv_icmp_ne (tgt := 69) hx hb dX10_readLine_61 (by decide) (fun c6 => ?_) (fun c6 => ?_)
      · have hf := if_n hf c6
        refine lv_aload_n hx hb dX10_readLine_69 rfl (lv_at hl 1 rfl) ?_
        refine gm_10_11 C hin10 hP (List.mem_of_getElem? (i := 5) rfl) dX10_readLine_70 ?_
        refine lv_iload_n hx hb dX10_readLine_73 rfl (lv_at hl 2 rfl) ?_
        refine lv_iload_n hx hb dX10_readLine_74 rfl (lv_at hl 2 rfl) ?_
        refine lv_if_eq (tgt := 83) hx hb dX10_readLine_75 (by decide) (fun c7 => ?_) (fun c7 => ?_)
        · have hf := if_p hf c7
          exact J83 _ _ _ _ H locs ls hf hP hS (lv_sub hl [1, 2, 0] rfl)
        · have hf := if_n hf c7
          refine lv_iload_n hx hb dX10_readLine_78 rfl (lv_at hl 2 rfl) ?_
          refine lv_iconst (v := (2 : Int32)) hx hb dX10_readLine_79 (by decide) ?_
          refine lv_icmp_ne (tgt := 87) hx hb dX10_readLine_80 (by decide) (fun c8 => ?_) (fun c8 => ?_)
          · have hf := if_n hf c8
            refine lv_iload_n hx hb dX10_readLine_87 rfl (lv_at hl 0 rfl) ?_
            refine lv_iconst (v := (5 : Int32)) hx hb dX10_readLine_88 (by decide) ?_
            refine lv_isub hx hb dX10_readLine_89 ?_
            obtain ⟨hi9, hf⟩ := ob_in hf
            refine stm_5 C hP hS rfl hi9 dX10_readLine_90 (fun H locs hP hS => ?_)
            obtain ⟨S90, eS90⟩ : ∃ z, z = (sA r54.2 5 x1.toNatClampNeg (r54.1 - (5 : Int32))) := ⟨_, rfl⟩
            rw [← eS90] at hP
            have hf := nm_i hf eS90
            refine lv_iinc (v := (x1 + 1)) (lv' := [(1, .int (x1 + 1)), (2, .int r54.1), (0, .ref (a 0))]) hx hb dX10_readLine_91 hl (k := 2) rfl rfl (Nat.le_of_ble_eq_true rfl) rfl (fun ls hl => ?_)
            refine lv_goto (tgt := 37) hx hb dX10_readLine_94 (by decide) ?_
            exact ih _ _ hf H locs ls hP hS (lv_sub hl [2, 0] rfl)
          · have hf := if_p hf c8
            exact J83 _ _ _ _ H locs ls hf hP hS (lv_sub hl [1, 2, 0] rfl)
      · have hf := if_p hf c6
        obtain rfl := Option.some.inj hf
        exact K0 rfl H locs ls hP hS (lv_sub hl [1] rfl)
    intro x1 S hf H locs ls hP hS hl
    rw [l_X10_readLine_37] at hf
    refine lv_iload_n hx hb dX10_readLine_37 rfl (lv_at hl 1 rfl) ?_
    refine lv_iconst (v := (5 : Int32)) hx hb dX10_readLine_38 (by decide) ?_
    refine lv_icmp_ge (tgt := 97) hx hb dX10_readLine_39 (by decide) (fun c4 => ?_) (fun c4 => ?_)
    · have hf := if_p hf c4
      obtain rfl := Option.some.inj hf
      exact K1 rfl H locs ls hP hS (lv_sub hl [0] rfl)
    · have hf := if_n hf c4
      refine lv_aload_n hx hb dX10_readLine_42 rfl (lv_at hl 0 rfl) ?_
      refine lv_iload_n hx hb dX10_readLine_43 rfl (lv_at hl 1 rfl) ?_
      refine lv_if_ne (tgt := 51) hx hb dX10_readLine_44 (by decide) (fun c5 => ?_) (fun c5 => ?_)
      · have hf := if_n hf c5
        refine lv_iconst (v := (0 : Int32)) hx hb dX10_readLine_51 (by decide) ?_
        exact J52 _ _ _ H locs ls hf hP hS (lv_sub hl [0, 1] rfl)
      · have hf := if_p hf c5
        refine lv_iconst (v := (2 : Int32)) hx hb dX10_readLine_47 (by decide) ?_
        refine lv_goto (tgt := 52) hx hb dX10_readLine_48 (by decide) ?_
        exact J52 _ _ _ H locs ls hf hP hS (lv_sub hl [0, 1] rfl)
set_option maxHeartbeats 4000000 in
set_option maxRecDepth 100000 in
theorem lp_X10_readLine_148 {p : Program} {l : Launch} {e : Env} {s : State} {m : MethodId} {args : Array Value} {below : List Frame} {meth : Method} {c : Code} {D : va_G} {cI cZ : ClassId} {a : Nat → Nat} {Q : State → Prop} {H0 : Heap} {o : Nat × St}
    (C : tC p c s m args cX10_readLine 3 RX10 wsX10_readLine D cI cZ (wM cI cZ a) (mA a))
    (K0 : o.1 = 0 → ∀ (H : Heap) (locs : List Loc) (ls : Array Slot), va_P D vwCl (wM cI cZ a o.2) H → va_S (mA a) H0 H locs → lv_has ls 3 [(0, .ref (a 0))] → W p l e rmX10_readLine s m args below meth c H locs 0 0 Q (F0 m 175 ls []))
    (K1 : o.1 = 1 → ∀ (H : Heap) (locs : List Loc) (ls : Array Slot), va_P D vwCl (wM cI cZ a o.2) H → va_S (mA a) H0 H locs → lv_has ls 3 [(0, .ref (a 0))] → W p l e rmX10_readLine s m args below meth c H locs 0 0 Q (F0 m 200 ls [])) :
    ∀ (n : Nat) (x1 : Int32) (S : St), l_X10_readLine_148 n x1 S = some o → ∀ (H : Heap) (locs : List Loc) (ls : Array Slot), va_P D vwCl (wM cI cZ a S) H → va_S (mA a) H0 H locs → lv_has ls 3 [(0, .ref (a 0)), (1, .int x1)] → W p l e rmX10_readLine s m args below meth c H locs 0 0 Q (F0 m 148 ls []) := by
  obtain ⟨⟨hx, hb, hml, hown, hts⟩, hK, hN, hA⟩ := id C
  have hin10 := hn_X10_readLine_10
  intro n
  induction n with
  | zero =>
    intro x1 S hf
    rw [l_X10_readLine_148] at hf
    cases hf
  | succ n ih =>
    have J165 : ∀ (x1 : Int32) (t0 : Int32) (t1 : Int32) (S : St) (H : Heap) (locs : List Loc) (ls : Array Slot), j_X10_readLine_165 (l_X10_readLine_148 n) x1 t0 t1 S = some o → va_P D vwCl (wM cI cZ a S) H → va_S (mA a) H0 H locs → lv_has ls 3 [(0, .ref (a 0)), (1, .int x1)] → W p l e rmX10_readLine s m args below meth c H locs 0 0 Q (F0 m 165 ls [.int t0, .int t1, .ref (a 0)]) := by
      intro x1 t0 t1 S H locs ls hf hP hS hl
      rw [j_X10_readLine_165] at hf
      obtain ⟨r165, hc165, hf⟩ := ob hf
      refine tCallVi (As := [.int t1, .int t0]) (rest := []) (q0 := 0) (ci := 10) C hP hS rfl rfl (c_X10_figure l C.2.2.2 hc165) (cwV 2 hts gX10_readLine_X10_figure rfl rfl rfl ⟨rfl, hd_X10_figure⟩ ⟨Nat.le_of_ble_eq_true rfl, Nat.le_of_ble_eq_true rfl⟩) rfl hl rfl (Nat.le_of_ble_eq_true rfl) dX10_readLine_165 ⟨Nat.le_refl 0, Nat.le_refl 0⟩ (fun H locs hP hS => ?_)
      refine lv_istore_n (lv' := [(2, .int r165.1), (0, .ref (a 0)), (1, .int x1)]) hx hb dX10_readLine_168 rfl hl (Nat.le_of_ble_eq_true rfl) rfl (fun ls hl => ?_)
      refine lv_iload_n hx hb dX10_readLine_169 rfl (lv_at hl 0 rfl) ?_
      refine lv_bipush (v := (-9 : Int32)) hx hb dX10_readLine_170 (by decide) ?_
      refine lv_icmp_ne (tgt := 180) hx hb dX10_readLine_172 (by decide) (fun c17 => ?_) (fun c17 => ?_)
      · have hf := if_n hf c17
        refine lv_aload_n hx hb dX10_readLine_180 rfl (lv_at hl 1 rfl) ?_
        refine gm_10_13 C hin10 hP (List.mem_of_getElem? (i := 6) rfl) dX10_readLine_181 ?_
        refine lv_iconst (v := (3 : Int32)) hx hb dX10_readLine_184 (by decide) ?_
        refine lv_aload_n hx hb dX10_readLine_185 rfl (lv_at hl 1 rfl) ?_
        refine gm_10_12 C hin10 hP (List.mem_of_getElem? (i := 2) rfl) dX10_readLine_186 ?_
        refine lv_imul hx hb dX10_readLine_189 ?_
        refine lv_iload_n hx hb dX10_readLine_190 rfl (lv_at hl 2 rfl) ?_
        refine lv_iadd hx hb dX10_readLine_191 ?_
        refine lv_iload_n hx hb dX10_readLine_192 rfl (lv_at hl 0 rfl) ?_
        obtain ⟨hi18, hf⟩ := ob_in hf
        refine stm_6 C hP hS rfl hi18 dX10_readLine_193 (fun H locs hP hS => ?_)
        obtain ⟨S193, eS193⟩ : ∃ z, z = (sA r165.2 6 ((((3 : Int32) * (r165.2.1 6)) + x1).toNatClampNeg) r165.1) := ⟨_, rfl⟩
        rw [← eS193] at hP
        have hf := nm_i hf eS193
        refine lv_iinc (v := (x1 + 1)) (lv' := [(1, .int (x1 + 1)), (2, .int r165.1), (0, .ref (a 0))]) hx hb dX10_readLine_194 hl (k := 2) rfl rfl (Nat.le_of_ble_eq_true rfl) rfl (fun ls hl => ?_)
        refine lv_goto (tgt := 148) hx hb dX10_readLine_197 (by decide) ?_
        exact ih _ _ hf H locs ls hP hS (lv_sub hl [2, 0] rfl)
      · have hf := if_p hf c17
        obtain rfl := Option.some.inj hf
        exact K0 rfl H locs ls hP hS (lv_sub hl [1] rfl)
    intro x1 S hf H locs ls hP hS hl
    rw [l_X10_readLine_148] at hf
    refine lv_iload_n hx hb dX10_readLine_148 rfl (lv_at hl 1 rfl) ?_
    refine lv_iconst (v := (3 : Int32)) hx hb dX10_readLine_149 (by decide) ?_
    refine lv_icmp_ge (tgt := 200) hx hb dX10_readLine_150 (by decide) (fun c15 => ?_) (fun c15 => ?_)
    · have hf := if_p hf c15
      obtain rfl := Option.some.inj hf
      exact K1 rfl H locs ls hP hS (lv_sub hl [0] rfl)
    · have hf := if_n hf c15
      refine lv_aload_n hx hb dX10_readLine_153 rfl (lv_at hl 0 rfl) ?_
      refine lv_iconst (v := (0 : Int32)) hx hb dX10_readLine_154 (by decide) ?_
      refine lv_iload_n hx hb dX10_readLine_155 rfl (lv_at hl 1 rfl) ?_
      refine lv_if_ne (tgt := 163) hx hb dX10_readLine_156 (by decide) (fun c16 => ?_) (fun c16 => ?_)
      · have hf := if_n hf c16
        refine lv_bipush (v := (9 : Int32)) hx hb dX10_readLine_163 (by decide) ?_
        exact J165 _ _ _ _ H locs ls hf hP hS (lv_sub hl [0, 1] rfl)
      · have hf := if_p hf c16
        refine lv_iconst (v := (3 : Int32)) hx hb dX10_readLine_159 (by decide) ?_
        refine lv_goto (tgt := 165) hx hb dX10_readLine_160 (by decide) ?_
        exact J165 _ _ _ _ H locs ls hf hP hS (lv_sub hl [0, 1] rfl)
set_option maxHeartbeats 4000000 in
set_option maxRecDepth 100000 in
theorem lp_X10_readLine_97 {p : Program} {l : Launch} {e : Env} {s : State} {m : MethodId} {args : Array Value} {below : List Frame} {meth : Method} {c : Code} {D : va_G} {cI cZ : ClassId} {a : Nat → Nat} {Q : State → Prop} {H0 : Heap} {o : Nat × St}
    (C : tC p c s m args cX10_readLine 3 RX10 wsX10_readLine D cI cZ (wM cI cZ a) (mA a))
    (K0 : o.1 = 0 → ∀ (H : Heap) (locs : List Loc) (ls : Array Slot), va_P D vwCl (wM cI cZ a o.2) H → va_S (mA a) H0 H locs → lv_has ls 3 [(0, .ref (a 0))] → W p l e rmX10_readLine s m args below meth c H locs 0 0 Q (F0 m 131 ls []))
    (K1 : o.1 = 1 → ∀ (H : Heap) (locs : List Loc) (ls : Array Slot), va_P D vwCl (wM cI cZ a o.2) H → va_S (mA a) H0 H locs → lv_has ls 3 [(0, .ref (a 0))] → W p l e rmX10_readLine s m args below meth c H locs 0 0 Q (F0 m 175 ls []))
    (K2 : o.1 = 2 → ∀ (H : Heap) (locs : List Loc) (ls : Array Slot), va_P D vwCl (wM cI cZ a o.2) H → va_S (mA a) H0 H locs → lv_has ls 3 [] → W p l e rmX10_readLine s m args below meth c H locs 0 0 Q (F0 m 213 ls [])) :
    ∀ (n : Nat) (S : St), l_X10_readLine_97 n S = some o → ∀ (H : Heap) (locs : List Loc) (ls : Array Slot), va_P D vwCl (wM cI cZ a S) H → va_S (mA a) H0 H locs → lv_has ls 3 [(0, .ref (a 0))] → W p l e rmX10_readLine s m args below meth c H locs 0 0 Q (F0 m 97 ls []) := by
  obtain ⟨⟨hx, hb, hml, hown, hts⟩, hK, hN, hA⟩ := id C
  have hin10 := hn_X10_readLine_10
  intro n
  induction n with
  | zero =>
    intro S hf
    rw [l_X10_readLine_97] at hf
    cases hf
  | succ n ih =>
    intro S hf H locs ls hP hS hl
    rw [l_X10_readLine_97] at hf
    refine lv_aload_n hx hb dX10_readLine_97 rfl (lv_at hl 0 rfl) ?_
    refine gm_10_3 C hin10 hP (List.mem_of_getElem? (i := 1) rfl) dX10_readLine_98 ?_
    refine lv_aload_n hx hb dX10_readLine_101 rfl (lv_at hl 0 rfl) ?_
    refine gm_10_2 C hin10 hP (List.mem_of_getElem? (i := 3) rfl) dX10_readLine_102 ?_
    refine lv_icmp_ge (tgt := 213) hx hb dX10_readLine_105 (by decide) (fun c11 => ?_) (fun c11 => ?_)
    · have hf := if_p hf c11
      obtain rfl := Option.some.inj hf
      exact K2 rfl H locs ls hP hS (lv_sub hl [] rfl)
    · have hf := if_n hf c11
      refine lv_aload_n hx hb dX10_readLine_108 rfl (lv_at hl 0 rfl) ?_
      refine gm_10_1 C hin10 hP (List.mem_of_getElem? (i := 4) rfl) dX10_readLine_109 ?_
      refine lv_aload_n hx hb dX10_readLine_112 rfl (lv_at hl 0 rfl) ?_
      refine gm_10_3 C hin10 hP (List.mem_of_getElem? (i := 1) rfl) dX10_readLine_113 ?_
      obtain ⟨hi12, hf⟩ := ob_in hf
      refine ldm_0 C hP rfl hi12 dX10_readLine_116 ?_
      refine lv_bipush (v := (76 : Int32)) hx hb dX10_readLine_117 (by decide) ?_
      refine lv_icmp_ne (tgt := 131) hx hb dX10_readLine_119 (by decide) (fun c13 => ?_) (fun c13 => ?_)
      · have hf := if_n hf c13
        obtain rfl := Option.some.inj hf
        exact K0 rfl H locs ls hP hS (lv_sub hl [0] rfl)
      · have hf := if_p hf c13
        refine lv_aload_n hx hb dX10_readLine_122 rfl (lv_at hl 0 rfl) ?_
        refine gm_10_12 C hin10 hP (List.mem_of_getElem? (i := 2) rfl) dX10_readLine_123 ?_
        refine lv_bipush (v := (8 : Int32)) hx hb dX10_readLine_126 (by decide) ?_
        refine lv_icmp_ne (tgt := 136) hx hb dX10_readLine_128 (by decide) (fun c14 => ?_) (fun c14 => ?_)
        · have hf := if_n hf c14
          refine lv_aload_n hx hb dX10_readLine_136 rfl (lv_at hl 0 rfl) ?_
          refine lv_dup hx hb dX10_readLine_137 rfl ?_
          refine gm_10_3 C hin10 hP (List.mem_of_getElem? (i := 1) rfl) dX10_readLine_138 ?_
          refine lv_iconst (v := (1 : Int32)) hx hb dX10_readLine_141 (by decide) ?_
          refine lv_iadd hx hb dX10_readLine_142 ?_
          refine pm_10_3 C hin10 hP hS (List.mem_of_getElem? (i := 1) rfl) dX10_readLine_143 (fun H locs hP hS => ?_)
          obtain ⟨S143, eS143⟩ : ∃ z, z = (sI S 2 ((S.1 2) + (1 : Int32))) := ⟨_, rfl⟩
          rw [← eS143] at hP
          have hf := nm_i hf eS143
          refine lv_iconst (v := (0 : Int32)) hx hb dX10_readLine_146 (by decide) ?_
          refine lv_istore_n (lv' := [(1, .int (0 : Int32)), (0, .ref (a 0))]) hx hb dX10_readLine_147 rfl hl (Nat.le_of_ble_eq_true rfl) rfl (fun ls hl => ?_)
          obtain ⟨o148, hc148, hf⟩ := ob hf
          refine lp_X10_readLine_148 C (fun ho H locs ls hP hS hl => ?_) (fun ho H locs ls hP hS hl => ?_) fuel _ _ hc148 H locs ls hP hS (lv_sub hl [1, 0] rfl)
          · have hf := if_p hf ho
            obtain rfl := Option.some.inj hf
            exact K1 rfl H locs ls hP hS (lv_sub hl [0] rfl)
          · have hf := if_n hf (show ¬ o148.1 = 0 by rw [ho]; decide)
            refine lv_aload_n hx hb dX10_readLine_200 rfl (lv_at hl 0 rfl) ?_
            refine lv_dup hx hb dX10_readLine_201 rfl ?_
            refine gm_10_12 C hin10 hP (List.mem_of_getElem? (i := 2) rfl) dX10_readLine_202 ?_
            refine lv_iconst (v := (1 : Int32)) hx hb dX10_readLine_205 (by decide) ?_
            refine lv_iadd hx hb dX10_readLine_206 ?_
            refine pm_10_12 C hin10 hP hS (List.mem_of_getElem? (i := 2) rfl) dX10_readLine_207 (fun H locs hP hS => ?_)
            obtain ⟨S207, eS207⟩ : ∃ z, z = (sI o148.2 6 ((o148.2.1 6) + (1 : Int32))) := ⟨_, rfl⟩
            rw [← eS207] at hP
            have hf := nm_i hf eS207
            refine lv_goto (tgt := 97) hx hb dX10_readLine_210 (by decide) ?_
            exact ih _ hf H locs ls hP hS (lv_sub hl [0] rfl)
        · have hf := if_p hf c14
          obtain rfl := Option.some.inj hf
          exact K0 rfl H locs ls hP hS (lv_sub hl [0] rfl)
set_option maxHeartbeats 4000000 in
set_option maxRecDepth 100000 in
theorem c_X10_readLine (l : Launch) {D : va_G} {cI cZ : ClassId} {a : Nat → Nat} (hA : ∀ S : St, va_D (mA a) (wM cI cZ a S)) {S : St} {o : Int32 × St} (hf : f_X10_readLine S = some o) : Met l yX10_readLine wsX10_readLine rmX10_readLine (tPc D cI cZ (wM cI cZ a) S ([.ref (a 0)] : List Value)) (tQi D (wM cI cZ a) (mA a) o.2 o.1) 0 0 (mA a) := by
  refine tEnter (cc := cX10_readLine) (maxL := 3) (ret := (some .int)) (own := RX10) hA rfl (by decide) rfl (Nat.le_of_ble_eq_true rfl) (fun p e s m args below meth c C hr hlk hP hS ls hl => ?_)
  obtain ⟨⟨hx, hb, hml, hown, hts⟩, hK, hN, -⟩ := id C
  have hl : lv_has ls 3 [(0, .ref (a 0))] := hl
  have hin10 := hn_X10_readLine_10
  have hSS := hS
  rw [f_X10_readLine] at hf
  revert hP hS
  suffices hsuf : ∀ (H : Heap) (locs : List Loc), va_P D vwCl (wM cI cZ a S) H → va_S (mA a) s.heap H locs → W p l e rmX10_readLine s m args below meth c H locs 0 0 (MQ below (tQi D (wM cI cZ a) (mA a) o.2 o.1) args s 0 0 (mA a)) (F0 m 0 ls []) from fun hP hS => hsuf s.heap [] hP hS
  intro H locs hP hS
  refine lv_aload_n hx hb dX10_readLine_0 rfl (lv_at hl 0 rfl) ?_
  refine lv_iconst (v := (0 : Int32)) hx hb dX10_readLine_1 (by decide) ?_
  refine pm_10_3 C hin10 hP hS (List.mem_of_getElem? (i := 1) rfl) dX10_readLine_2 (fun H locs hP hS => ?_)
  obtain ⟨S2, eS2⟩ : ∃ z, z = (sI S 2 (0 : Int32)) := ⟨_, rfl⟩
  rw [← eS2] at hP
  have hf := nm_i hf eS2
  refine lv_aload_n hx hb dX10_readLine_5 rfl (lv_at hl 0 rfl) ?_
  refine lv_iconst (v := (0 : Int32)) hx hb dX10_readLine_6 (by decide) ?_
  refine pm_10_12 C hin10 hP hS (List.mem_of_getElem? (i := 2) rfl) dX10_readLine_7 (fun H locs hP hS => ?_)
  obtain ⟨S7, eS7⟩ : ∃ z, z = (sI S2 6 (0 : Int32)) := ⟨_, rfl⟩
  rw [← eS7] at hP
  have hf := nm_i hf eS7
  refine lv_aload_n hx hb dX10_readLine_10 rfl (lv_at hl 0 rfl) ?_
  refine gm_10_2 C hin10 hP (List.mem_of_getElem? (i := 3) rfl) dX10_readLine_11 ?_
  refine lv_if_eq (tgt := 28) hx hb dX10_readLine_14 (by decide) (fun c1 => ?_) (fun c1 => ?_)
  · have hf := if_p hf c1
    refine lv_iconst (v := (0 : Int32)) hx hb dX10_readLine_28 (by decide) ?_
    obtain rfl := Option.some.inj hf
    exact tRet_i C hr hlk hP hS dX10_readLine_29
  · have hf := if_n hf c1
    refine lv_aload_n hx hb dX10_readLine_17 rfl (lv_at hl 0 rfl) ?_
    refine gm_10_1 C hin10 hP (List.mem_of_getElem? (i := 4) rfl) dX10_readLine_18 ?_
    refine lv_iconst (v := (0 : Int32)) hx hb dX10_readLine_21 (by decide) ?_
    refine ldm_0 (j := 0) C hP (by decide) (show ¬ ((0 : Int32) < 0 ∨ 40 ≤ (0 : Int32).toNatClampNeg) by decide) dX10_readLine_22 ?_
    refine lv_bipush (v := (65 : Int32)) hx hb dX10_readLine_23 (by decide) ?_
    refine lv_icmp_eq (tgt := 30) hx hb dX10_readLine_25 (by decide) (fun c3 => ?_) (fun c3 => ?_)
    · have hf := if_p hf c3
      refine lv_aload_n hx hb dX10_readLine_30 rfl (lv_at hl 0 rfl) ?_
      refine lv_iconst (v := (1 : Int32)) hx hb dX10_readLine_31 (by decide) ?_
      refine pm_10_3 C hin10 hP hS (List.mem_of_getElem? (i := 1) rfl) dX10_readLine_32 (fun H locs hP hS => ?_)
      obtain ⟨S32, eS32⟩ : ∃ z, z = (sI S7 2 (1 : Int32)) := ⟨_, rfl⟩
      rw [← eS32] at hP
      have hf := nm_i hf eS32
      refine lv_iconst (v := (0 : Int32)) hx hb dX10_readLine_35 (by decide) ?_
      refine lv_istore_n (lv' := [(1, .int (0 : Int32)), (0, .ref (a 0))]) hx hb dX10_readLine_36 rfl hl (Nat.le_of_ble_eq_true rfl) rfl (fun ls hl => ?_)
      obtain ⟨o37, hc37, hf⟩ := ob hf
      refine lp_X10_readLine_37 C (fun ho H locs ls hP hS hl => ?_) (fun ho H locs ls hP hS hl => ?_) fuel _ _ hc37 H locs ls hP hS (lv_sub hl [1, 0] rfl)
      · have hf := if_p hf ho
        refine lv_aload_n hx hb dX10_readLine_64 rfl (lv_at hl 0 rfl) ?_
        refine gm_10_3 C hin10 hP (List.mem_of_getElem? (i := 1) rfl) dX10_readLine_65 ?_
        obtain rfl := Option.some.inj hf
        exact tRet_i C hr hlk hP hS dX10_readLine_68
      · have hf := if_n hf (show ¬ o37.1 = 0 by rw [ho]; decide)
        obtain ⟨o97, hc97, hf⟩ := ob hf
        refine lp_X10_readLine_97 C (fun ho H locs ls hP hS hl => ?_) (fun ho H locs ls hP hS hl => ?_) (fun ho H locs ls hP hS hl => ?_) fuel _ hc97 H locs ls hP hS (lv_sub hl [0] rfl)
        · have hf := if_p hf ho
          refine lv_aload_n hx hb dX10_readLine_131 rfl (lv_at hl 0 rfl) ?_
          refine gm_10_3 C hin10 hP (List.mem_of_getElem? (i := 1) rfl) dX10_readLine_132 ?_
          obtain rfl := Option.some.inj hf
          exact tRet_i C hr hlk hP hS dX10_readLine_135
        · have hf := if_n hf (show ¬ o97.1 = 0 by rw [ho]; decide)
          have hf := if_p hf ho
          refine lv_aload_n hx hb dX10_readLine_175 rfl (lv_at hl 0 rfl) ?_
          refine gm_10_3 C hin10 hP (List.mem_of_getElem? (i := 1) rfl) dX10_readLine_176 ?_
          obtain rfl := Option.some.inj hf
          exact tRet_i C hr hlk hP hS dX10_readLine_179
        · have hf := if_n hf (show ¬ o97.1 = 0 by rw [ho]; decide)
          have hf := if_n hf (show ¬ o97.1 = 1 by rw [ho]; decide)
          refine lv_bipush (v := (-9 : Int32)) hx hb dX10_readLine_213 (by decide) ?_
          obtain rfl := Option.some.inj hf
          exact tRet_i C hr hlk hP hS dX10_readLine_215
    · have hf := if_n hf c3
      refine lv_iconst (v := (0 : Int32)) hx hb dX10_readLine_28 (by decide) ?_
      obtain rfl := Option.some.inj hf
      exact tRet_i C hr hlk hP hS dX10_readLine_29
def rmX10_fault : Room := { frames := 3, cells := 0, slots := 0, locals := 69 }
theorem hn_X10_fault_10 : ∀ w ∈ wsX100, w ∈ wsX10_fault := fun w h => List.mem_cons_of_mem _ (List.mem_append_right _ h)
theorem hd_X10_fault : yX10_fault.cls ≠ "java/lang/invoke/MethodHandle" ∧ yX10_fault.cls ≠ "java/lang/invoke/VarHandle" ∧ (parseMethodDescriptor yX10_fault.desc).map (fun d => d.parameters.length) = some 0 := by decide +kernel
set_option maxHeartbeats 4000000 in
set_option maxRecDepth 100000 in
theorem c_X10_fault (l : Launch) {D : va_G} {cI cZ : ClassId} {a : Nat → Nat} (hA : ∀ S : St, va_D (mA a) (wM cI cZ a S)) {S : St} {o : Int32 × St} (hf : f_X10_fault S = some o) : Met l yX10_fault wsX10_fault rmX10_fault (tPc D cI cZ (wM cI cZ a) S ([.ref (a 0)] : List Value)) (tQi D (wM cI cZ a) (mA a) o.2 o.1) 0 0 (mA a) := by
  refine tEnter (cc := cX10_fault) (maxL := 1) (ret := (some .int)) (own := RX10) hA rfl (by decide) rfl (Nat.le_of_ble_eq_true rfl) (fun p e s m args below meth c C hr hlk hP hS ls hl => ?_)
  obtain ⟨⟨hx, hb, hml, hown, hts⟩, hK, hN, -⟩ := id C
  have hl : lv_has ls 1 [(0, .ref (a 0))] := hl
  have hin10 := hn_X10_fault_10
  have hSS := hS
  rw [f_X10_fault] at hf
  revert hP hS
  suffices hsuf : ∀ (H : Heap) (locs : List Loc), va_P D vwCl (wM cI cZ a S) H → va_S (mA a) s.heap H locs → W p l e rmX10_fault s m args below meth c H locs 0 0 (MQ below (tQi D (wM cI cZ a) (mA a) o.2 o.1) args s 0 0 (mA a)) (F0 m 0 ls []) from fun hP hS => hsuf s.heap [] hP hS
  intro H locs hP hS
  refine lv_aload_n hx hb dX10_fault_0 rfl (lv_at hl 0 rfl) ?_
  refine lv_iconst (v := (0 : Int32)) hx hb dX10_fault_1 (by decide) ?_
  refine pm_10_0 C hin10 hP hS (List.mem_of_getElem? (i := 1) rfl) dX10_fault_2 (fun H locs hP hS => ?_)
  obtain ⟨S2, eS2⟩ : ∃ z, z = (sI S 0 (0 : Int32)) := ⟨_, rfl⟩
  rw [← eS2] at hP
  have hf := nm_i hf eS2
  refine lv_aload_n hx hb dX10_fault_5 rfl (lv_at hl 0 rfl) ?_
  obtain ⟨r6, hc6, hf⟩ := ob hf
  refine tCallVi (As := []) (rest := []) (q0 := 0) (ci := 10) C hP hS rfl rfl (c_X10_readLine l C.2.2.2 hc6) (cwV 0 hts gX10_fault_X10_readLine rfl rfl rfl ⟨rfl, hd_X10_readLine⟩ ⟨Nat.le_of_ble_eq_true rfl, Nat.le_of_ble_eq_true rfl⟩) rfl hl rfl (Nat.le_of_ble_eq_true rfl) dX10_fault_6 ⟨Nat.le_refl 0, Nat.le_refl 0⟩ (fun H locs hP hS => ?_)
  obtain rfl := Option.some.inj hf
  exact tRet_i C hr hlk hP hS dX10_fault_9
def rmX10_line : Room := { frames := 3, cells := 0, slots := 0, locals := 69 }
theorem hn_X10_line_10 : ∀ w ∈ wsX100, w ∈ wsX10_line := fun w h => List.mem_cons_of_mem _ (List.mem_append_right _ h)
theorem hd_X10_line : yX10_line.cls ≠ "java/lang/invoke/MethodHandle" ∧ yX10_line.cls ≠ "java/lang/invoke/VarHandle" ∧ (parseMethodDescriptor yX10_line.desc).map (fun d => d.parameters.length) = some 0 := by decide +kernel
set_option maxHeartbeats 4000000 in
set_option maxRecDepth 100000 in
theorem lp_X10_line_71 {p : Program} {l : Launch} {e : Env} {s : State} {m : MethodId} {args : Array Value} {below : List Frame} {meth : Method} {c : Code} {D : va_G} {cI cZ : ClassId} {a : Nat → Nat} {Q : State → Prop} {H0 : Heap} {o : St}
    (C : tC p c s m args cX10_line 2 RX10 wsX10_line D cI cZ (wM cI cZ a) (mA a))
    (K0 : ∀ (H : Heap) (locs : List Loc) (ls : Array Slot), va_P D vwCl (wM cI cZ a o) H → va_S (mA a) H0 H locs → lv_has ls 2 [(0, .ref (a 0))] → W p l e rmX10_line s m args below meth c H locs 0 0 Q (F0 m 131 ls [])) :
    ∀ (n : Nat) (x1 : Int32) (S : St), l_X10_line_71 n x1 S = some o → ∀ (H : Heap) (locs : List Loc) (ls : Array Slot), va_P D vwCl (wM cI cZ a S) H → va_S (mA a) H0 H locs → lv_has ls 2 [(0, .ref (a 0)), (1, .int x1)] → W p l e rmX10_line s m args below meth c H locs 0 0 Q (F0 m 71 ls []) := by
  obtain ⟨⟨hx, hb, hml, hown, hts⟩, hK, hN, hA⟩ := id C
  have hin10 := hn_X10_line_10
  intro n
  induction n with
  | zero =>
    intro x1 S hf
    rw [l_X10_line_71] at hf
    cases hf
  | succ n ih =>
    intro x1 S hf H locs ls hP hS hl
    rw [l_X10_line_71] at hf
    refine lv_iload_n hx hb dX10_line_71 rfl (lv_at hl 1 rfl) ?_
    refine lv_aload_n hx hb dX10_line_72 rfl (lv_at hl 0 rfl) ?_
    refine gm_10_6 C hin10 hP (List.mem_of_getElem? (i := 7) rfl) dX10_line_73 ?_
    refine lv_icmp_ge (tgt := 131) hx hb dX10_line_76 (by decide) (fun c8 => ?_) (fun c8 => ?_)
    · have hf := if_p hf c8
      obtain rfl := Option.some.inj hf
      exact K0 H locs ls hP hS (lv_sub hl [0] rfl)
    · have hf := if_n hf c8
      refine lv_aload_n hx hb dX10_line_79 rfl (lv_at hl 0 rfl) ?_
      refine gm_10_8 C hin10 hP (List.mem_of_getElem? (i := 8) rfl) dX10_line_80 ?_
      refine lv_iload_n hx hb dX10_line_83 rfl (lv_at hl 1 rfl) ?_
      refine lv_aload_n hx hb dX10_line_84 rfl (lv_at hl 0 rfl) ?_
      refine gm_10_13 C hin10 hP (List.mem_of_getElem? (i := 9) rfl) dX10_line_85 ?_
      refine lv_iconst (v := (3 : Int32)) hx hb dX10_line_88 (by decide) ?_
      refine lv_iload_n hx hb dX10_line_89 rfl (lv_at hl 1 rfl) ?_
      refine lv_imul hx hb dX10_line_90 ?_
      obtain ⟨hi9, hf⟩ := ob_in hf
      refine ldm_6 C hP rfl hi9 dX10_line_91 ?_
      obtain ⟨hi10, hf⟩ := ob_in hf
      refine stm_2 C hP hS rfl hi10 dX10_line_92 (fun H locs hP hS => ?_)
      obtain ⟨S92, eS92⟩ : ∃ z, z = (sA S 2 x1.toNatClampNeg (S.2.1 6 (((3 : Int32) * x1).toNatClampNeg))) := ⟨_, rfl⟩
      rw [← eS92] at hP
      have hf := nm_i hf eS92
      refine lv_aload_n hx hb dX10_line_93 rfl (lv_at hl 0 rfl) ?_
      refine gm_10_9 C hin10 hP (List.mem_of_getElem? (i := 10) rfl) dX10_line_94 ?_
      refine lv_iload_n hx hb dX10_line_97 rfl (lv_at hl 1 rfl) ?_
      refine lv_aload_n hx hb dX10_line_98 rfl (lv_at hl 0 rfl) ?_
      refine gm_10_13 C hin10 hP (List.mem_of_getElem? (i := 9) rfl) dX10_line_99 ?_
      refine lv_iconst (v := (3 : Int32)) hx hb dX10_line_102 (by decide) ?_
      refine lv_iload_n hx hb dX10_line_103 rfl (lv_at hl 1 rfl) ?_
      refine lv_imul hx hb dX10_line_104 ?_
      refine lv_iconst (v := (1 : Int32)) hx hb dX10_line_105 (by decide) ?_
      refine lv_iadd hx hb dX10_line_106 ?_
      obtain ⟨hi11, hf⟩ := ob_in hf
      refine ldm_6 C hP rfl hi11 dX10_line_107 ?_
      obtain ⟨hi12, hf⟩ := ob_in hf
      refine stm_3 C hP hS rfl hi12 dX10_line_108 (fun H locs hP hS => ?_)
      obtain ⟨S108, eS108⟩ : ∃ z, z = (sA S92 3 x1.toNatClampNeg (S92.2.1 6 ((((3 : Int32) * x1) + (1 : Int32)).toNatClampNeg))) := ⟨_, rfl⟩
      rw [← eS108] at hP
      have hf := nm_i hf eS108
      refine lv_aload_n hx hb dX10_line_109 rfl (lv_at hl 0 rfl) ?_
      refine gm_10_10 C hin10 hP (List.mem_of_getElem? (i := 11) rfl) dX10_line_110 ?_
      refine lv_iload_n hx hb dX10_line_113 rfl (lv_at hl 1 rfl) ?_
      refine lv_aload_n hx hb dX10_line_114 rfl (lv_at hl 0 rfl) ?_
      refine gm_10_13 C hin10 hP (List.mem_of_getElem? (i := 9) rfl) dX10_line_115 ?_
      refine lv_iconst (v := (3 : Int32)) hx hb dX10_line_118 (by decide) ?_
      refine lv_iload_n hx hb dX10_line_119 rfl (lv_at hl 1 rfl) ?_
      refine lv_imul hx hb dX10_line_120 ?_
      refine lv_iconst (v := (2 : Int32)) hx hb dX10_line_121 (by decide) ?_
      refine lv_iadd hx hb dX10_line_122 ?_
      obtain ⟨hi13, hf⟩ := ob_in hf
      refine ldm_6 C hP rfl hi13 dX10_line_123 ?_
      obtain ⟨hi14, hf⟩ := ob_in hf
      refine stm_4 C hP hS rfl hi14 dX10_line_124 (fun H locs hP hS => ?_)
      obtain ⟨S124, eS124⟩ : ∃ z, z = (sA S108 4 x1.toNatClampNeg (S108.2.1 6 ((((3 : Int32) * x1) + (2 : Int32)).toNatClampNeg))) := ⟨_, rfl⟩
      rw [← eS124] at hP
      have hf := nm_i hf eS124
      refine lv_iinc (v := (x1 + 1)) (lv' := [(1, .int (x1 + 1)), (0, .ref (a 0))]) hx hb dX10_line_125 hl (k := 1) rfl rfl (Nat.le_of_ble_eq_true rfl) rfl (fun ls hl => ?_)
      refine lv_goto (tgt := 71) hx hb dX10_line_128 (by decide) ?_
      exact ih _ _ hf H locs ls hP hS (lv_sub hl [1, 0] rfl)
set_option maxHeartbeats 4000000 in
set_option maxRecDepth 100000 in
theorem lp_X10_line_133 {p : Program} {l : Launch} {e : Env} {s : State} {m : MethodId} {args : Array Value} {below : List Frame} {meth : Method} {c : Code} {D : va_G} {cI cZ : ClassId} {a : Nat → Nat} {Q : State → Prop} {H0 : Heap} {o : St}
    (C : tC p c s m args cX10_line 2 RX10 wsX10_line D cI cZ (wM cI cZ a) (mA a))
    (K0 : ∀ (H : Heap) (locs : List Loc) (ls : Array Slot), va_P D vwCl (wM cI cZ a o) H → va_S (mA a) H0 H locs → lv_has ls 2 [(0, .ref (a 0))] → W p l e rmX10_line s m args below meth c H locs 0 0 Q (F0 m 152 ls [])) :
    ∀ (n : Nat) (x1 : Int32) (S : St), l_X10_line_133 n x1 S = some o → ∀ (H : Heap) (locs : List Loc) (ls : Array Slot), va_P D vwCl (wM cI cZ a S) H → va_S (mA a) H0 H locs → lv_has ls 2 [(0, .ref (a 0)), (1, .int x1)] → W p l e rmX10_line s m args below meth c H locs 0 0 Q (F0 m 133 ls []) := by
  obtain ⟨⟨hx, hb, hml, hown, hts⟩, hK, hN, hA⟩ := id C
  have hin10 := hn_X10_line_10
  intro n
  induction n with
  | zero =>
    intro x1 S hf
    rw [l_X10_line_133] at hf
    cases hf
  | succ n ih =>
    intro x1 S hf H locs ls hP hS hl
    rw [l_X10_line_133] at hf
    refine lv_iload_n hx hb dX10_line_133 rfl (lv_at hl 1 rfl) ?_
    refine lv_bipush (v := (16 : Int32)) hx hb dX10_line_134 (by decide) ?_
    refine lv_icmp_ge (tgt := 152) hx hb dX10_line_136 (by decide) (fun c15 => ?_) (fun c15 => ?_)
    · have hf := if_p hf c15
      obtain rfl := Option.some.inj hf
      exact K0 H locs ls hP hS (lv_sub hl [0] rfl)
    · have hf := if_n hf c15
      refine lv_aload_n hx hb dX10_line_139 rfl (lv_at hl 0 rfl) ?_
      refine gm_10_14 C hin10 hP (List.mem_of_getElem? (i := 12) rfl) dX10_line_140 ?_
      refine lv_iload_n hx hb dX10_line_143 rfl (lv_at hl 1 rfl) ?_
      refine lv_iconst (v := (0 : Int32)) hx hb dX10_line_144 (by decide) ?_
      obtain ⟨hi16, hf⟩ := ob_in hf
      refine stm_7 C hP hS rfl hi16 dX10_line_145 (fun H locs hP hS => ?_)
      obtain ⟨S145, eS145⟩ : ∃ z, z = (sA S 7 x1.toNatClampNeg (0 : Int32)) := ⟨_, rfl⟩
      rw [← eS145] at hP
      have hf := nm_i hf eS145
      refine lv_iinc (v := (x1 + 1)) (lv' := [(1, .int (x1 + 1)), (0, .ref (a 0))]) hx hb dX10_line_146 hl (k := 1) rfl rfl (Nat.le_of_ble_eq_true rfl) rfl (fun ls hl => ?_)
      refine lv_goto (tgt := 133) hx hb dX10_line_149 (by decide) ?_
      exact ih _ _ hf H locs ls hP hS (lv_sub hl [1, 0] rfl)
set_option maxHeartbeats 4000000 in
set_option maxRecDepth 100000 in
theorem c_X10_line (l : Launch) {D : va_G} {cI cZ : ClassId} {a : Nat → Nat} (hA : ∀ S : St, va_D (mA a) (wM cI cZ a S)) {S : St} {o : Int32 × St} (hf : f_X10_line S = some o) : Met l yX10_line wsX10_line rmX10_line (tPc D cI cZ (wM cI cZ a) S ([.ref (a 0)] : List Value)) (tQi D (wM cI cZ a) (mA a) o.2 o.1) 0 0 (mA a) := by
  refine tEnter (cc := cX10_line) (maxL := 2) (ret := (some .int)) (own := RX10) hA rfl (by decide) rfl (Nat.le_of_ble_eq_true rfl) (fun p e s m args below meth c C hr hlk hP hS ls hl => ?_)
  obtain ⟨⟨hx, hb, hml, hown, hts⟩, hK, hN, -⟩ := id C
  have hl : lv_has ls 2 [(0, .ref (a 0))] := hl
  have hin10 := hn_X10_line_10
  have hSS := hS
  rw [f_X10_line] at hf
  revert hP hS
  suffices hsuf : ∀ (H : Heap) (locs : List Loc), va_P D vwCl (wM cI cZ a S) H → va_S (mA a) s.heap H locs → W p l e rmX10_line s m args below meth c H locs 0 0 (MQ below (tQi D (wM cI cZ a) (mA a) o.2 o.1) args s 0 0 (mA a)) (F0 m 0 ls []) from fun hP hS => hsuf s.heap [] hP hS
  intro H locs hP hS
  refine lv_aload_n hx hb dX10_line_0 rfl (lv_at hl 0 rfl) ?_
  refine lv_iconst (v := (0 : Int32)) hx hb dX10_line_1 (by decide) ?_
  refine pm_10_0 C hin10 hP hS (List.mem_of_getElem? (i := 1) rfl) dX10_line_2 (fun H locs hP hS => ?_)
  obtain ⟨S2, eS2⟩ : ∃ z, z = (sI S 0 (0 : Int32)) := ⟨_, rfl⟩
  rw [← eS2] at hP
  have hf := nm_i hf eS2
  refine lv_aload_n hx hb dX10_line_5 rfl (lv_at hl 0 rfl) ?_
  obtain ⟨r6, hc6, hf⟩ := ob hf
  refine tCallVi (As := []) (rest := []) (q0 := 0) (ci := 10) C hP hS rfl rfl (c_X10_readLine l C.2.2.2 hc6) (cwV 0 hts gX10_line_X10_readLine rfl rfl rfl ⟨rfl, hd_X10_readLine⟩ ⟨Nat.le_of_ble_eq_true rfl, Nat.le_of_ble_eq_true rfl⟩) rfl hl rfl (Nat.le_of_ble_eq_true rfl) dX10_line_6 ⟨Nat.le_refl 0, Nat.le_refl 0⟩ (fun H locs hP hS => ?_)
  refine lv_bipush (v := (-9 : Int32)) hx hb dX10_line_9 (by decide) ?_
  refine lv_icmp_eq (tgt := 17) hx hb dX10_line_11 (by decide) (fun c1 => ?_) (fun c1 => ?_)
  · have hf := if_p hf c1
    refine lv_aload_n hx hb dX10_line_17 rfl (lv_at hl 0 rfl) ?_
    refine lv_aload_n hx hb dX10_line_18 rfl (lv_at hl 0 rfl) ?_
    refine gm_10_11 C hin10 hP (List.mem_of_getElem? (i := 2) rfl) dX10_line_19 ?_
    refine lv_iconst (v := (0 : Int32)) hx hb dX10_line_22 (by decide) ?_
    refine ldm_5 (j := 0) C hP (by decide) (show ¬ ((0 : Int32) < 0 ∨ 5 ≤ (0 : Int32).toNatClampNeg) by decide) dX10_line_23 ?_
    refine pm_10_4 C hin10 hP hS (List.mem_of_getElem? (i := 3) rfl) dX10_line_24 (fun H locs hP hS => ?_)
    obtain ⟨S24, eS24⟩ : ∃ z, z = (sI r6.2 3 (r6.2.2.1 5 0)) := ⟨_, rfl⟩
    rw [← eS24] at hP
    have hf := nm_i hf eS24
    refine lv_aload_n hx hb dX10_line_27 rfl (lv_at hl 0 rfl) ?_
    refine lv_aload_n hx hb dX10_line_28 rfl (lv_at hl 0 rfl) ?_
    refine gm_10_11 C hin10 hP (List.mem_of_getElem? (i := 2) rfl) dX10_line_29 ?_
    refine lv_iconst (v := (1 : Int32)) hx hb dX10_line_32 (by decide) ?_
    refine ldm_5 (j := 1) C hP (by decide) (show ¬ ((1 : Int32) < 0 ∨ 5 ≤ (1 : Int32).toNatClampNeg) by decide) dX10_line_33 ?_
    refine pm_10_5 C hin10 hP hS (List.mem_of_getElem? (i := 4) rfl) dX10_line_34 (fun H locs hP hS => ?_)
    obtain ⟨S34, eS34⟩ : ∃ z, z = (sI S24 4 (S24.2.1 5 1)) := ⟨_, rfl⟩
    rw [← eS34] at hP
    have hf := nm_i hf eS34
    refine lv_aload_n hx hb dX10_line_37 rfl (lv_at hl 0 rfl) ?_
    refine gm_10_7 C hin10 hP (List.mem_of_getElem? (i := 5) rfl) dX10_line_38 ?_
    refine lv_iconst (v := (0 : Int32)) hx hb dX10_line_41 (by decide) ?_
    refine lv_aload_n hx hb dX10_line_42 rfl (lv_at hl 0 rfl) ?_
    refine gm_10_11 C hin10 hP (List.mem_of_getElem? (i := 2) rfl) dX10_line_43 ?_
    refine lv_iconst (v := (3 : Int32)) hx hb dX10_line_46 (by decide) ?_
    refine ldm_5 (j := 3) C hP (by decide) (show ¬ ((3 : Int32) < 0 ∨ 5 ≤ (3 : Int32).toNatClampNeg) by decide) dX10_line_47 ?_
    refine stm_1 (j := 0) C hP hS (by decide) (show ¬ ((0 : Int32) < 0 ∨ 2 ≤ (0 : Int32).toNatClampNeg) by decide) dX10_line_48 (fun H locs hP hS => ?_)
    obtain ⟨S48, eS48⟩ : ∃ z, z = (sA S34 1 0 (S34.2.1 5 3)) := ⟨_, rfl⟩
    rw [← eS48] at hP
    have hf := nm_i hf eS48
    refine lv_aload_n hx hb dX10_line_49 rfl (lv_at hl 0 rfl) ?_
    refine gm_10_7 C hin10 hP (List.mem_of_getElem? (i := 5) rfl) dX10_line_50 ?_
    refine lv_iconst (v := (1 : Int32)) hx hb dX10_line_53 (by decide) ?_
    refine lv_aload_n hx hb dX10_line_54 rfl (lv_at hl 0 rfl) ?_
    refine gm_10_11 C hin10 hP (List.mem_of_getElem? (i := 2) rfl) dX10_line_55 ?_
    refine lv_iconst (v := (4 : Int32)) hx hb dX10_line_58 (by decide) ?_
    refine ldm_5 (j := 4) C hP (by decide) (show ¬ ((4 : Int32) < 0 ∨ 5 ≤ (4 : Int32).toNatClampNeg) by decide) dX10_line_59 ?_
    refine stm_1 (j := 1) C hP hS (by decide) (show ¬ ((1 : Int32) < 0 ∨ 2 ≤ (1 : Int32).toNatClampNeg) by decide) dX10_line_60 (fun H locs hP hS => ?_)
    obtain ⟨S60, eS60⟩ : ∃ z, z = (sA S48 1 1 (S48.2.1 5 4)) := ⟨_, rfl⟩
    rw [← eS60] at hP
    have hf := nm_i hf eS60
    refine lv_aload_n hx hb dX10_line_61 rfl (lv_at hl 0 rfl) ?_
    refine lv_aload_n hx hb dX10_line_62 rfl (lv_at hl 0 rfl) ?_
    refine gm_10_12 C hin10 hP (List.mem_of_getElem? (i := 6) rfl) dX10_line_63 ?_
    refine pm_10_6 C hin10 hP hS (List.mem_of_getElem? (i := 7) rfl) dX10_line_66 (fun H locs hP hS => ?_)
    obtain ⟨S66, eS66⟩ : ∃ z, z = (sI S60 5 (S60.1 6)) := ⟨_, rfl⟩
    rw [← eS66] at hP
    have hf := nm_i hf eS66
    refine lv_iconst (v := (0 : Int32)) hx hb dX10_line_69 (by decide) ?_
    refine lv_istore_n (lv' := [(1, .int (0 : Int32)), (0, .ref (a 0))]) hx hb dX10_line_70 rfl hl (Nat.le_of_ble_eq_true rfl) rfl (fun ls hl => ?_)
    obtain ⟨o71, hc71, hf⟩ := ob hf
    refine lp_X10_line_71 C (fun H locs ls hP hS hl => ?_) fuel _ _ hc71 H locs ls hP hS (lv_sub hl [1, 0] rfl)
    refine lv_iconst (v := (0 : Int32)) hx hb dX10_line_131 (by decide) ?_
    refine lv_istore_n (lv' := [(1, .int (0 : Int32)), (0, .ref (a 0))]) hx hb dX10_line_132 rfl hl (Nat.le_of_ble_eq_true rfl) rfl (fun ls hl => ?_)
    obtain ⟨o133, hc133, hf⟩ := ob hf
    refine lp_X10_line_133 C (fun H locs ls hP hS hl => ?_) fuel _ _ hc133 H locs ls hP hS (lv_sub hl [1, 0] rfl)
    refine lv_aload_n hx hb dX10_line_152 rfl (lv_at hl 0 rfl) ?_
    refine gm_10_14 C hin10 hP (List.mem_of_getElem? (i := 12) rfl) dX10_line_153 ?_
    refine lv_iconst (v := (1 : Int32)) hx hb dX10_line_156 (by decide) ?_
    refine lv_aload_n hx hb dX10_line_157 rfl (lv_at hl 0 rfl) ?_
    refine gm_10_4 C hin10 hP (List.mem_of_getElem? (i := 3) rfl) dX10_line_158 ?_
    refine stm_7 (j := 1) C hP hS (by decide) (show ¬ ((1 : Int32) < 0 ∨ 16 ≤ (1 : Int32).toNatClampNeg) by decide) dX10_line_161 (fun H locs hP hS => ?_)
    obtain ⟨S161, eS161⟩ : ∃ z, z = (sA o133 7 1 (o133.1 3)) := ⟨_, rfl⟩
    rw [← eS161] at hP
    have hf := nm_i hf eS161
    refine lv_aload_n hx hb dX10_line_162 rfl (lv_at hl 0 rfl) ?_
    refine gm_10_14 C hin10 hP (List.mem_of_getElem? (i := 12) rfl) dX10_line_163 ?_
    refine lv_bipush (v := (6 : Int32)) hx hb dX10_line_166 (by decide) ?_
    refine lv_aload_n hx hb dX10_line_168 rfl (lv_at hl 0 rfl) ?_
    refine gm_10_5 C hin10 hP (List.mem_of_getElem? (i := 4) rfl) dX10_line_169 ?_
    refine stm_7 (j := 6) C hP hS (by decide) (show ¬ ((6 : Int32) < 0 ∨ 16 ≤ (6 : Int32).toNatClampNeg) by decide) dX10_line_172 (fun H locs hP hS => ?_)
    obtain ⟨S172, eS172⟩ : ∃ z, z = (sA S161 7 6 (S161.1 4)) := ⟨_, rfl⟩
    rw [← eS172] at hP
    have hf := nm_i hf eS172
    refine lv_aload_n hx hb dX10_line_173 rfl (lv_at hl 0 rfl) ?_
    refine gm_10_14 C hin10 hP (List.mem_of_getElem? (i := 12) rfl) dX10_line_174 ?_
    refine lv_bipush (v := (7 : Int32)) hx hb dX10_line_177 (by decide) ?_
    refine lv_aload_n hx hb dX10_line_179 rfl (lv_at hl 0 rfl) ?_
    refine gm_10_11 C hin10 hP (List.mem_of_getElem? (i := 2) rfl) dX10_line_180 ?_
    refine lv_iconst (v := (2 : Int32)) hx hb dX10_line_183 (by decide) ?_
    refine ldm_5 (j := 2) C hP (by decide) (show ¬ ((2 : Int32) < 0 ∨ 5 ≤ (2 : Int32).toNatClampNeg) by decide) dX10_line_184 ?_
    refine stm_7 (j := 7) C hP hS (by decide) (show ¬ ((7 : Int32) < 0 ∨ 16 ≤ (7 : Int32).toNatClampNeg) by decide) dX10_line_185 (fun H locs hP hS => ?_)
    obtain ⟨S185, eS185⟩ : ∃ z, z = (sA S172 7 7 (S172.2.1 5 2)) := ⟨_, rfl⟩
    rw [← eS185] at hP
    have hf := nm_i hf eS185
    refine lv_aload_n hx hb dX10_line_186 rfl (lv_at hl 0 rfl) ?_
    refine lv_iconst (v := (0 : Int32)) hx hb dX10_line_187 (by decide) ?_
    refine pm_10_16 C hin10 hP hS (List.mem_of_getElem? (i := 13) rfl) dX10_line_188 (fun H locs hP hS => ?_)
    obtain ⟨S188, eS188⟩ : ∃ z, z = (sI S185 7 (0 : Int32)) := ⟨_, rfl⟩
    rw [← eS188] at hP
    have hf := nm_i hf eS188
    refine lv_aload_n hx hb dX10_line_191 rfl (lv_at hl 0 rfl) ?_
    refine gm_10_18 C hin10 hP (List.mem_of_getElem? (i := 14) rfl) dX10_line_192 ?_
    refine lv_iconst (v := (0 : Int32)) hx hb dX10_line_195 (by decide) ?_
    refine lv_iconst (v := (0 : Int32)) hx hb dX10_line_196 (by decide) ?_
    refine stm_10 (j := 0) C hP hS (by decide) (show ¬ ((0 : Int32) < 0 ∨ 2 ≤ (0 : Int32).toNatClampNeg) by decide) (by decide) dX10_line_197 (fun H locs hP hS => ?_)
    obtain ⟨S197, eS197⟩ : ∃ z, z = (sA S188 10 0 (0 : Int32)) := ⟨_, rfl⟩
    rw [← eS197] at hP
    have hf := nm_i hf eS197
    refine lv_aload_n hx hb dX10_line_198 rfl (lv_at hl 0 rfl) ?_
    refine gm_10_18 C hin10 hP (List.mem_of_getElem? (i := 14) rfl) dX10_line_199 ?_
    refine lv_iconst (v := (1 : Int32)) hx hb dX10_line_202 (by decide) ?_
    refine lv_iconst (v := (0 : Int32)) hx hb dX10_line_203 (by decide) ?_
    refine stm_10 (j := 1) C hP hS (by decide) (show ¬ ((1 : Int32) < 0 ∨ 2 ≤ (1 : Int32).toNatClampNeg) by decide) (by decide) dX10_line_204 (fun H locs hP hS => ?_)
    obtain ⟨S204, eS204⟩ : ∃ z, z = (sA S197 10 1 (0 : Int32)) := ⟨_, rfl⟩
    rw [← eS204] at hP
    have hf := nm_i hf eS204
    refine lv_aload_n hx hb dX10_line_205 rfl (lv_at hl 0 rfl) ?_
    refine gm_10_6 C hin10 hP (List.mem_of_getElem? (i := 7) rfl) dX10_line_206 ?_
    obtain rfl := Option.some.inj hf
    exact tRet_i C hr hlk hP hS dX10_line_209
  · have hf := if_n hf c1
    refine lv_bipush (v := (-3 : Int32)) hx hb dX10_line_14 (by decide) ?_
    obtain rfl := Option.some.inj hf
    exact tRet_i C hr hlk hP hS dX10_line_16
def rmX10_about : Room := { frames := 0, cells := 0, slots := 0, locals := 0 }
theorem hn_X10_about_10 : ∀ w ∈ wsX100, w ∈ wsX10_about := fun w h => List.mem_cons_of_mem _ (List.mem_append_right _ h)
theorem hd_X10_about : yX10_about.cls ≠ "java/lang/invoke/MethodHandle" ∧ yX10_about.cls ≠ "java/lang/invoke/VarHandle" ∧ (parseMethodDescriptor yX10_about.desc).map (fun d => d.parameters.length) = some 1 := by decide +kernel
set_option maxHeartbeats 4000000 in
set_option maxRecDepth 100000 in
theorem c_X10_about (l : Launch) {D : va_G} {cI cZ : ClassId} {a : Nat → Nat} (hA : ∀ S : St, va_D (mA a) (wM cI cZ a S)) {x1 : Int32} {S : St} {o : Int32 × St} (hf : f_X10_about x1 S = some o) : Met l yX10_about wsX10_about rmX10_about (tPc D cI cZ (wM cI cZ a) S ([.ref (a 0), .int x1] : List Value)) (tQi D (wM cI cZ a) (mA a) o.2 o.1) 0 0 (mA a) := by
  refine tEnter (cc := cX10_about) (maxL := 2) (ret := (some .int)) (own := RX10) hA rfl (by decide) rfl (Nat.le_of_ble_eq_true rfl) (fun p e s m args below meth c C hr hlk hP hS ls hl => ?_)
  obtain ⟨⟨hx, hb, hml, hown, hts⟩, hK, hN, -⟩ := id C
  have hl : lv_has ls 2 [(0, .ref (a 0)), (1, .int x1)] := hl
  have hin10 := hn_X10_about_10
  have J133 : ∀ (x1 : Int32) (S : St) (H : Heap) (locs : List Loc) (ls : Array Slot), j_X10_about_133 x1 S = some o → va_P D vwCl (wM cI cZ a S) H → va_S (mA a) s.heap H locs → lv_has ls 2 [(0, .ref (a 0)), (1, .int x1)] → W p l e rmX10_about s m args below meth c H locs 0 0 (MQ below (tQi D (wM cI cZ a) (mA a) o.2 o.1) args s 0 0 (mA a)) (F0 m 133 ls []) := by
    intro x1 S H locs ls hf hP hS hl
    rw [j_X10_about_133] at hf
    refine lv_aload_n hx hb dX10_about_133 rfl (lv_at hl 0 rfl) ?_
    refine gm_10_7 C hin10 hP (List.mem_of_getElem? (i := 8) rfl) dX10_about_134 ?_
    refine lv_iload_n hx hb dX10_about_137 rfl (lv_at hl 1 rfl) ?_
    refine lv_bipush (v := (13 : Int32)) hx hb dX10_about_138 (by decide) ?_
    refine lv_isub hx hb dX10_about_140 ?_
    obtain ⟨hi19, hf⟩ := ob_in hf
    refine ldm_1 C hP rfl hi19 dX10_about_141 ?_
    refine lv_iconst (v := (5 : Int32)) hx hb dX10_about_142 (by decide) ?_
    refine lv_iadd hx hb dX10_about_143 ?_
    obtain rfl := Option.some.inj hf
    exact tRet_i C hr hlk hP hS dX10_about_144
  have J90 : ∀ (x1 : Int32) (S : St) (H : Heap) (locs : List Loc) (ls : Array Slot), j_X10_about_90 x1 S = some o → va_P D vwCl (wM cI cZ a S) H → va_S (mA a) s.heap H locs → lv_has ls 2 [(0, .ref (a 0)), (1, .int x1)] → W p l e rmX10_about s m args below meth c H locs 0 0 (MQ below (tQi D (wM cI cZ a) (mA a) o.2 o.1) args s 0 0 (mA a)) (F0 m 90 ls []) := by
    intro x1 S H locs ls hf hP hS hl
    rw [j_X10_about_90] at hf
    refine lv_aload_n hx hb dX10_about_90 rfl (lv_at hl 0 rfl) ?_
    refine gm_10_14 C hin10 hP (List.mem_of_getElem? (i := 4) rfl) dX10_about_91 ?_
    refine lv_iload_n hx hb dX10_about_94 rfl (lv_at hl 1 rfl) ?_
    refine lv_iconst (v := (2 : Int32)) hx hb dX10_about_95 (by decide) ?_
    refine lv_isub hx hb dX10_about_96 ?_
    obtain ⟨hi18, hf⟩ := ob_in hf
    refine ldm_7 C hP rfl hi18 dX10_about_97 ?_
    obtain rfl := Option.some.inj hf
    exact tRet_i C hr hlk hP hS dX10_about_98
  have hSS := hS
  rw [f_X10_about] at hf
  revert hP hS
  suffices hsuf : ∀ (H : Heap) (locs : List Loc), va_P D vwCl (wM cI cZ a S) H → va_S (mA a) s.heap H locs → W p l e rmX10_about s m args below meth c H locs 0 0 (MQ below (tQi D (wM cI cZ a) (mA a) o.2 o.1) args s 0 0 (mA a)) (F0 m 0 ls []) from fun hP hS => hsuf s.heap [] hP hS
  intro H locs hP hS
  refine lv_aload_n hx hb dX10_about_0 rfl (lv_at hl 0 rfl) ?_
  refine lv_iconst (v := (0 : Int32)) hx hb dX10_about_1 (by decide) ?_
  refine pm_10_0 C hin10 hP hS (List.mem_of_getElem? (i := 1) rfl) dX10_about_2 (fun H locs hP hS => ?_)
  obtain ⟨S2, eS2⟩ : ∃ z, z = (sI S 0 (0 : Int32)) := ⟨_, rfl⟩
  rw [← eS2] at hP
  have hf := nm_i hf eS2
  refine lv_iload_n hx hb dX10_about_5 rfl (lv_at hl 1 rfl) ?_
  by_cases c1 : x1 = (0 : Int32)
  · have hf := if_p hf c1
    refine lv_tableIn (tgt := 80) hx hb dX10_about_6 (by rw [c1]; decide) (by rw [c1]; decide) (by first | (rw [c1]; done) | (rw [c1]; rfl)) (by decide) ?_
    refine lv_aload_n hx hb dX10_about_80 rfl (lv_at hl 0 rfl) ?_
    refine gm_10_4 C hin10 hP (List.mem_of_getElem? (i := 2) rfl) dX10_about_81 ?_
    obtain rfl := Option.some.inj hf
    exact tRet_i C hr hlk hP hS dX10_about_84
  have hf := if_n hf c1
  by_cases c2 : x1 = (1 : Int32)
  · have hf := if_p hf c2
    refine lv_tableIn (tgt := 85) hx hb dX10_about_6 (by rw [c2]; decide) (by rw [c2]; decide) (by first | (rw [c2]; done) | (rw [c2]; rfl)) (by decide) ?_
    refine lv_aload_n hx hb dX10_about_85 rfl (lv_at hl 0 rfl) ?_
    refine gm_10_6 C hin10 hP (List.mem_of_getElem? (i := 3) rfl) dX10_about_86 ?_
    obtain rfl := Option.some.inj hf
    exact tRet_i C hr hlk hP hS dX10_about_89
  have hf := if_n hf c2
  by_cases c3 : x1 = (2 : Int32)
  · have hf := if_p hf c3
    refine lv_tableIn (tgt := 90) hx hb dX10_about_6 (by rw [c3]; decide) (by rw [c3]; decide) (by first | (rw [c3]; done) | (rw [c3]; rfl)) (by decide) ?_
    exact J90 _ _ H locs ls hf hP hS (lv_sub hl [0, 1] rfl)
  have hf := if_n hf c3
  by_cases c4 : x1 = (3 : Int32)
  · have hf := if_p hf c4
    refine lv_tableIn (tgt := 90) hx hb dX10_about_6 (by rw [c4]; decide) (by rw [c4]; decide) (by first | (rw [c4]; done) | (rw [c4]; rfl)) (by decide) ?_
    exact J90 _ _ H locs ls hf hP hS (lv_sub hl [0, 1] rfl)
  have hf := if_n hf c4
  by_cases c5 : x1 = (4 : Int32)
  · have hf := if_p hf c5
    refine lv_tableIn (tgt := 90) hx hb dX10_about_6 (by rw [c5]; decide) (by rw [c5]; decide) (by first | (rw [c5]; done) | (rw [c5]; rfl)) (by decide) ?_
    exact J90 _ _ H locs ls hf hP hS (lv_sub hl [0, 1] rfl)
  have hf := if_n hf c5
  by_cases c6 : x1 = (5 : Int32)
  · have hf := if_p hf c6
    refine lv_tableIn (tgt := 90) hx hb dX10_about_6 (by rw [c6]; decide) (by rw [c6]; decide) (by first | (rw [c6]; done) | (rw [c6]; rfl)) (by decide) ?_
    exact J90 _ _ H locs ls hf hP hS (lv_sub hl [0, 1] rfl)
  have hf := if_n hf c6
  by_cases c7 : x1 = (6 : Int32)
  · have hf := if_p hf c7
    refine lv_tableIn (tgt := 90) hx hb dX10_about_6 (by rw [c7]; decide) (by rw [c7]; decide) (by first | (rw [c7]; done) | (rw [c7]; rfl)) (by decide) ?_
    exact J90 _ _ H locs ls hf hP hS (lv_sub hl [0, 1] rfl)
  have hf := if_n hf c7
  by_cases c8 : x1 = (7 : Int32)
  · have hf := if_p hf c8
    refine lv_tableIn (tgt := 90) hx hb dX10_about_6 (by rw [c8]; decide) (by rw [c8]; decide) (by first | (rw [c8]; done) | (rw [c8]; rfl)) (by decide) ?_
    exact J90 _ _ H locs ls hf hP hS (lv_sub hl [0, 1] rfl)
  have hf := if_n hf c8
  by_cases c9 : x1 = (8 : Int32)
  · have hf := if_p hf c9
    refine lv_tableIn (tgt := 99) hx hb dX10_about_6 (by rw [c9]; decide) (by rw [c9]; decide) (by first | (rw [c9]; done) | (rw [c9]; rfl)) (by decide) ?_
    refine lv_aload_n hx hb dX10_about_99 rfl (lv_at hl 0 rfl) ?_
    refine gm_10_14 C hin10 hP (List.mem_of_getElem? (i := 4) rfl) dX10_about_100 ?_
    refine lv_bipush (v := (6 : Int32)) hx hb dX10_about_103 (by decide) ?_
    refine ldm_7 (j := 6) C hP (by decide) (show ¬ ((6 : Int32) < 0 ∨ 16 ≤ (6 : Int32).toNatClampNeg) by decide) dX10_about_105 ?_
    refine lv_bipush (v := (50 : Int32)) hx hb dX10_about_106 (by decide) ?_
    refine lv_iadd hx hb dX10_about_108 ?_
    obtain rfl := Option.some.inj hf
    exact tRet_i C hr hlk hP hS dX10_about_109
  have hf := if_n hf c9
  by_cases c11 : x1 = (9 : Int32)
  · have hf := if_p hf c11
    refine lv_tableIn (tgt := 110) hx hb dX10_about_6 (by rw [c11]; decide) (by rw [c11]; decide) (by first | (rw [c11]; done) | (rw [c11]; rfl)) (by decide) ?_
    refine lv_aload_n hx hb dX10_about_110 rfl (lv_at hl 0 rfl) ?_
    refine gm_10_14 C hin10 hP (List.mem_of_getElem? (i := 4) rfl) dX10_about_111 ?_
    refine lv_bipush (v := (7 : Int32)) hx hb dX10_about_114 (by decide) ?_
    refine ldm_7 (j := 7) C hP (by decide) (show ¬ ((7 : Int32) < 0 ∨ 16 ≤ (7 : Int32).toNatClampNeg) by decide) dX10_about_116 ?_
    obtain rfl := Option.some.inj hf
    exact tRet_i C hr hlk hP hS dX10_about_117
  have hf := if_n hf c11
  by_cases c13 : x1 = (10 : Int32)
  · have hf := if_p hf c13
    refine lv_tableIn (tgt := 118) hx hb dX10_about_6 (by rw [c13]; decide) (by rw [c13]; decide) (by first | (rw [c13]; done) | (rw [c13]; rfl)) (by decide) ?_
    refine lv_aload_n hx hb dX10_about_118 rfl (lv_at hl 0 rfl) ?_
    refine gm_10_16 C hin10 hP (List.mem_of_getElem? (i := 5) rfl) dX10_about_119 ?_
    obtain rfl := Option.some.inj hf
    exact tRet_i C hr hlk hP hS dX10_about_122
  have hf := if_n hf c13
  by_cases c14 : x1 = (11 : Int32)
  · have hf := if_p hf c14
    refine lv_tableIn (tgt := 123) hx hb dX10_about_6 (by rw [c14]; decide) (by rw [c14]; decide) (by first | (rw [c14]; done) | (rw [c14]; rfl)) (by decide) ?_
    refine lv_aload_n hx hb dX10_about_123 rfl (lv_at hl 0 rfl) ?_
    refine gm_10_19 C hin10 hP (List.mem_of_getElem? (i := 6) rfl) dX10_about_124 ?_
    obtain rfl := Option.some.inj hf
    exact tRet_i C hr hlk hP hS dX10_about_127
  have hf := if_n hf c14
  by_cases c15 : x1 = (12 : Int32)
  · have hf := if_p hf c15
    refine lv_tableIn (tgt := 128) hx hb dX10_about_6 (by rw [c15]; decide) (by rw [c15]; decide) (by first | (rw [c15]; done) | (rw [c15]; rfl)) (by decide) ?_
    refine lv_aload_n hx hb dX10_about_128 rfl (lv_at hl 0 rfl) ?_
    refine gm_10_2 C hin10 hP (List.mem_of_getElem? (i := 7) rfl) dX10_about_129 ?_
    obtain rfl := Option.some.inj hf
    exact tRet_i C hr hlk hP hS dX10_about_132
  have hf := if_n hf c15
  by_cases c16 : x1 = (13 : Int32)
  · have hf := if_p hf c16
    refine lv_tableIn (tgt := 133) hx hb dX10_about_6 (by rw [c16]; decide) (by rw [c16]; decide) (by first | (rw [c16]; done) | (rw [c16]; rfl)) (by decide) ?_
    exact J133 _ _ H locs ls hf hP hS (lv_sub hl [0, 1] rfl)
  have hf := if_n hf c16
  by_cases c17 : x1 = (14 : Int32)
  · have hf := if_p hf c17
    refine lv_tableIn (tgt := 133) hx hb dX10_about_6 (by rw [c17]; decide) (by rw [c17]; decide) (by first | (rw [c17]; done) | (rw [c17]; rfl)) (by decide) ?_
    exact J133 _ _ H locs ls hf hP hS (lv_sub hl [0, 1] rfl)
  have hf := if_n hf c17
  refine lv_tableOut (tgt := 145) hx hb dX10_about_6 (by have q1 := lv_neT (a := 0) c1 (by decide); have q2 := lv_neT (a := 1) c2 (by decide); have q3 := lv_neT (a := 2) c3 (by decide); have q4 := lv_neT (a := 3) c4 (by decide); have q5 := lv_neT (a := 4) c5 (by decide); have q6 := lv_neT (a := 5) c6 (by decide); have q7 := lv_neT (a := 6) c7 (by decide); have q8 := lv_neT (a := 7) c8 (by decide); have q9 := lv_neT (a := 8) c9 (by decide); have q11 := lv_neT (a := 9) c11 (by decide); have q13 := lv_neT (a := 10) c13 (by decide); have q14 := lv_neT (a := 11) c14 (by decide); have q15 := lv_neT (a := 12) c15 (by decide); have q16 := lv_neT (a := 13) c16 (by decide); have q17 := lv_neT (a := 14) c17 (by decide); omega) (by decide) ?_
  refine lv_bipush (v := (-2 : Int32)) hx hb dX10_about_145 (by decide) ?_
  obtain rfl := Option.some.inj hf
  exact tRet_i C hr hlk hP hS dX10_about_147
def rmX10_noStage : Room := { frames := 1, cells := 0, slots := 0, locals := 25 }
theorem hn_X10_noStage_10 : ∀ w ∈ wsX100, w ∈ wsX10_noStage := fun w h => List.mem_cons_of_mem _ (List.mem_append_right _ h)
theorem hd_X10_noStage : yX10_noStage.cls ≠ "java/lang/invoke/MethodHandle" ∧ yX10_noStage.cls ≠ "java/lang/invoke/VarHandle" ∧ (parseMethodDescriptor yX10_noStage.desc).map (fun d => d.parameters.length) = some 1 := by decide +kernel
set_option maxHeartbeats 4000000 in
set_option maxRecDepth 100000 in
theorem c_X10_noStage (l : Launch) {D : va_G} {cI cZ : ClassId} {a : Nat → Nat} (hA : ∀ S : St, va_D (mA a) (wM cI cZ a S)) {x1 : Int32} {S : St} {o : Int32} (hf : f_X10_noStage x1 S = some o) : Met l yX10_noStage wsX10_noStage rmX10_noStage (tPc D cI cZ (wM cI cZ a) S ([.ref (a 0), .int x1] : List Value)) (tQi D (wM cI cZ a) (mA a) S o) 0 0 (mA a) := by
  refine tEnter (cc := cX10_noStage) (maxL := 2) (ret := (some .boolean)) (own := RX10) hA rfl (by decide) rfl (Nat.le_of_ble_eq_true rfl) (fun p e s m args below meth c C hr hlk hP hS ls hl => ?_)
  obtain ⟨⟨hx, hb, hml, hown, hts⟩, hK, hN, -⟩ := id C
  have hl : lv_has ls 2 [(0, .ref (a 0)), (1, .int x1)] := hl
  have hin10 := hn_X10_noStage_10
  have hSS := hS
  rw [f_X10_noStage] at hf
  revert hP hS
  suffices hsuf : ∀ (H : Heap) (locs : List Loc), va_P D vwCl (wM cI cZ a S) H → va_S (mA a) s.heap H locs → W p l e rmX10_noStage s m args below meth c H locs 0 0 (MQ below (tQi D (wM cI cZ a) (mA a) S o) args s 0 0 (mA a)) (F0 m 0 ls []) from fun hP hS => hsuf s.heap [] hP hS
  intro H locs hP hS
  refine lv_iload_n hx hb dX10_noStage_0 rfl (lv_at hl 1 rfl) ?_
  refine lv_i2l hx hb dX10_noStage_1 rfl ?_
  refine lv_lconst (v := (0 : Int64)) hx hb dX10_noStage_2 (by decide) ?_
  refine lv_aload_n hx hb dX10_noStage_3 rfl (lv_at hl 0 rfl) ?_
  refine gm_10_6 C hin10 hP (List.mem_of_getElem? (i := 1) rfl) dX10_noStage_4 ?_
  refine lv_iconst (v := (1 : Int32)) hx hb dX10_noStage_7 (by decide) ?_
  refine lv_isub hx hb dX10_noStage_8 ?_
  refine lv_i2l hx hb dX10_noStage_9 rfl ?_
  obtain ⟨r10, hc10, hf⟩ := ob hf
  refine tCallSi (As := [.long x1.toInt64, .long (0 : Int64), .long (((S.1 5) - (1 : Int32)).toInt64)]) (rest := []) C hP hS (c_X10_in l C.2.2.2 hc10) (va_cwS 3 hts gX10_noStage_X10_in rfl rfl rfl hd_X10_in ⟨Nat.le_of_ble_eq_true rfl, Nat.le_of_ble_eq_true rfl⟩) rfl hl rfl (Nat.le_of_ble_eq_true rfl) dX10_noStage_10 ⟨Nat.le_refl 0, Nat.le_refl 0⟩ (fun H locs hP hS => ?_)
  refine lv_if_ne (tgt := 20) hx hb dX10_noStage_13 (by decide) (fun c1 => ?_) (fun c1 => ?_)
  · have hf := if_n hf c1
    refine lv_iconst (v := (0 : Int32)) hx hb dX10_noStage_20 (by decide) ?_
    obtain rfl := Option.some.inj hf
    exact tRet_z (v := (0 : Int32)) C hr hlk hP hS rfl dX10_noStage_21
  · have hf := if_p hf c1
    refine lv_iconst (v := (1 : Int32)) hx hb dX10_noStage_16 (by decide) ?_
    refine lv_goto (tgt := 21) hx hb dX10_noStage_17 (by decide) ?_
    obtain rfl := Option.some.inj hf
    exact tRet_z (v := (1 : Int32)) C hr hlk hP hS rfl dX10_noStage_21
def rmX10_stage : Room := { frames := 2, cells := 0, slots := 0, locals := 46 }
theorem hn_X10_stage_10 : ∀ w ∈ wsX100, w ∈ wsX10_stage := fun w h => List.mem_cons_of_mem _ (List.mem_append_right _ h)
theorem hd_X10_stage : yX10_stage.cls ≠ "java/lang/invoke/MethodHandle" ∧ yX10_stage.cls ≠ "java/lang/invoke/VarHandle" ∧ (parseMethodDescriptor yX10_stage.desc).map (fun d => d.parameters.length) = some 2 := by decide +kernel
set_option maxHeartbeats 4000000 in
set_option maxRecDepth 100000 in
theorem c_X10_stage (l : Launch) {D : va_G} {cI cZ : ClassId} {a : Nat → Nat} (hA : ∀ S : St, va_D (mA a) (wM cI cZ a S)) {x1 : Int32} {x2 : Int32} {S : St} {o : Int32 × St} (hf : f_X10_stage x1 x2 S = some o) : Met l yX10_stage wsX10_stage rmX10_stage (tPc D cI cZ (wM cI cZ a) S ([.ref (a 0), .int x1, .int x2] : List Value)) (tQi D (wM cI cZ a) (mA a) o.2 o.1) 0 0 (mA a) := by
  refine tEnter (cc := cX10_stage) (maxL := 3) (ret := (some .int)) (own := RX10) hA rfl (by decide) rfl (Nat.le_of_ble_eq_true rfl) (fun p e s m args below meth c C hr hlk hP hS ls hl => ?_)
  obtain ⟨⟨hx, hb, hml, hown, hts⟩, hK, hN, -⟩ := id C
  have hl : lv_has ls 3 [(0, .ref (a 0)), (1, .int x1), (2, .int x2)] := hl
  have hin10 := hn_X10_stage_10
  have hSS := hS
  rw [f_X10_stage] at hf
  revert hP hS
  suffices hsuf : ∀ (H : Heap) (locs : List Loc), va_P D vwCl (wM cI cZ a S) H → va_S (mA a) s.heap H locs → W p l e rmX10_stage s m args below meth c H locs 0 0 (MQ below (tQi D (wM cI cZ a) (mA a) o.2 o.1) args s 0 0 (mA a)) (F0 m 0 ls []) from fun hP hS => hsuf s.heap [] hP hS
  intro H locs hP hS
  refine lv_aload_n hx hb dX10_stage_0 rfl (lv_at hl 0 rfl) ?_
  refine lv_iconst (v := (0 : Int32)) hx hb dX10_stage_1 (by decide) ?_
  refine pm_10_0 C hin10 hP hS (List.mem_of_getElem? (i := 1) rfl) dX10_stage_2 (fun H locs hP hS => ?_)
  obtain ⟨S2, eS2⟩ : ∃ z, z = (sI S 0 (0 : Int32)) := ⟨_, rfl⟩
  rw [← eS2] at hP
  have hf := nm_i hf eS2
  refine lv_aload_n hx hb dX10_stage_5 rfl (lv_at hl 0 rfl) ?_
  refine lv_iload_n hx hb dX10_stage_6 rfl (lv_at hl 1 rfl) ?_
  obtain ⟨r7, hc7, hf⟩ := ob hf
  refine tCallVi (As := [.int x1]) (rest := []) (q0 := 0) (ci := 10) C hP hS rfl rfl (c_X10_noStage l C.2.2.2 hc7) (cwV 1 hts gX10_stage_X10_noStage rfl rfl rfl ⟨rfl, hd_X10_noStage⟩ ⟨Nat.le_of_ble_eq_true rfl, Nat.le_of_ble_eq_true rfl⟩) rfl hl rfl (Nat.le_of_ble_eq_true rfl) dX10_stage_7 ⟨Nat.le_refl 0, Nat.le_refl 0⟩ (fun H locs hP hS => ?_)
  refine lv_if_eq (tgt := 15) hx hb dX10_stage_10 (by decide) (fun c1 => ?_) (fun c1 => ?_)
  · have hf := if_p hf c1
    refine lv_iload_n hx hb dX10_stage_15 rfl (lv_at hl 2 rfl) ?_
    by_cases c2 : x2 = (0 : Int32)
    · have hf := if_p hf c2
      refine lv_tableIn (tgt := 52) hx hb dX10_stage_16 (by rw [c2]; decide) (by rw [c2]; decide) (by first | (rw [c2]; done) | (rw [c2]; rfl)) (by decide) ?_
      refine lv_aload_n hx hb dX10_stage_52 rfl (lv_at hl 0 rfl) ?_
      refine gm_10_8 C hin10 hP (List.mem_of_getElem? (i := 2) rfl) dX10_stage_53 ?_
      refine lv_iload_n hx hb dX10_stage_56 rfl (lv_at hl 1 rfl) ?_
      obtain ⟨hi3, hf⟩ := ob_in hf
      refine ldm_2 C hP rfl hi3 dX10_stage_57 ?_
      obtain rfl := Option.some.inj hf
      exact tRet_i C hr hlk hP hS dX10_stage_58
    have hf := if_n hf c2
    by_cases c4 : x2 = (1 : Int32)
    · have hf := if_p hf c4
      refine lv_tableIn (tgt := 59) hx hb dX10_stage_16 (by rw [c4]; decide) (by rw [c4]; decide) (by first | (rw [c4]; done) | (rw [c4]; rfl)) (by decide) ?_
      refine lv_aload_n hx hb dX10_stage_59 rfl (lv_at hl 0 rfl) ?_
      refine gm_10_9 C hin10 hP (List.mem_of_getElem? (i := 3) rfl) dX10_stage_60 ?_
      refine lv_iload_n hx hb dX10_stage_63 rfl (lv_at hl 1 rfl) ?_
      obtain ⟨hi5, hf⟩ := ob_in hf
      refine ldm_3 C hP rfl hi5 dX10_stage_64 ?_
      obtain rfl := Option.some.inj hf
      exact tRet_i C hr hlk hP hS dX10_stage_65
    have hf := if_n hf c4
    by_cases c6 : x2 = (2 : Int32)
    · have hf := if_p hf c6
      refine lv_tableIn (tgt := 66) hx hb dX10_stage_16 (by rw [c6]; decide) (by rw [c6]; decide) (by first | (rw [c6]; done) | (rw [c6]; rfl)) (by decide) ?_
      refine lv_aload_n hx hb dX10_stage_66 rfl (lv_at hl 0 rfl) ?_
      refine gm_10_10 C hin10 hP (List.mem_of_getElem? (i := 4) rfl) dX10_stage_67 ?_
      refine lv_iload_n hx hb dX10_stage_70 rfl (lv_at hl 1 rfl) ?_
      obtain ⟨hi7, hf⟩ := ob_in hf
      refine ldm_4 C hP rfl hi7 dX10_stage_71 ?_
      obtain rfl := Option.some.inj hf
      exact tRet_i C hr hlk hP hS dX10_stage_72
    have hf := if_n hf c6
    by_cases c8 : x2 = (3 : Int32)
    · have hf := if_p hf c8
      refine lv_tableIn (tgt := 73) hx hb dX10_stage_16 (by rw [c8]; decide) (by rw [c8]; decide) (by first | (rw [c8]; done) | (rw [c8]; rfl)) (by decide) ?_
      refine lv_iload_n hx hb dX10_stage_73 rfl (lv_at hl 1 rfl) ?_
      refine lv_aload_n hx hb dX10_stage_74 rfl (lv_at hl 0 rfl) ?_
      refine gm_10_14 C hin10 hP (List.mem_of_getElem? (i := 5) rfl) dX10_stage_75 ?_
      refine lv_iconst (v := (0 : Int32)) hx hb dX10_stage_78 (by decide) ?_
      refine ldm_7 (j := 0) C hP (by decide) (show ¬ ((0 : Int32) < 0 ∨ 16 ≤ (0 : Int32).toNatClampNeg) by decide) dX10_stage_79 ?_
      refine lv_icmp_ge (tgt := 99) hx hb dX10_stage_80 (by decide) (fun c10 => ?_) (fun c10 => ?_)
      · have hf := if_p hf c10
        refine lv_bipush (v := (-9 : Int32)) hx hb dX10_stage_99 (by decide) ?_
        obtain rfl := Option.some.inj hf
        exact tRet_i C hr hlk hP hS dX10_stage_101
      · have hf := if_n hf c10
        refine lv_aload_n hx hb dX10_stage_83 rfl (lv_at hl 0 rfl) ?_
        refine gm_10_14 C hin10 hP (List.mem_of_getElem? (i := 5) rfl) dX10_stage_84 ?_
        refine lv_bipush (v := (8 : Int32)) hx hb dX10_stage_87 (by decide) ?_
        refine lv_iload_n hx hb dX10_stage_89 rfl (lv_at hl 1 rfl) ?_
        refine lv_iadd hx hb dX10_stage_90 ?_
        obtain ⟨hi11, hf⟩ := ob_in hf
        refine ldm_7 C hP rfl hi11 dX10_stage_91 ?_
        refine lv_sipush (v := (20000 : Int32)) hx hb dX10_stage_92 (by decide) ?_
        refine lv_iadd hx hb dX10_stage_95 ?_
        refine lv_goto (tgt := 101) hx hb dX10_stage_96 (by decide) ?_
        obtain rfl := Option.some.inj hf
        exact tRet_i C hr hlk hP hS dX10_stage_101
    have hf := if_n hf c8
    by_cases c12 : x2 = (4 : Int32)
    · have hf := if_p hf c12
      refine lv_tableIn (tgt := 102) hx hb dX10_stage_16 (by rw [c12]; decide) (by rw [c12]; decide) (by first | (rw [c12]; done) | (rw [c12]; rfl)) (by decide) ?_
      refine lv_aload_n hx hb dX10_stage_102 rfl (lv_at hl 0 rfl) ?_
      refine gm_10_14 C hin10 hP (List.mem_of_getElem? (i := 5) rfl) dX10_stage_103 ?_
      refine lv_iconst (v := (4 : Int32)) hx hb dX10_stage_106 (by decide) ?_
      refine ldm_7 (j := 4) C hP (by decide) (show ¬ ((4 : Int32) < 0 ∨ 16 ≤ (4 : Int32).toNatClampNeg) by decide) dX10_stage_107 ?_
      refine lv_iload_n hx hb dX10_stage_108 rfl (lv_at hl 1 rfl) ?_
      refine lv_ishr hx hb dX10_stage_109 ?_
      refine lv_iconst (v := (1 : Int32)) hx hb dX10_stage_110 (by decide) ?_
      refine lv_iand hx hb dX10_stage_111 ?_
      obtain rfl := Option.some.inj hf
      exact tRet_i C hr hlk hP hS dX10_stage_112
    have hf := if_n hf c12
    refine lv_tableOut (tgt := 113) hx hb dX10_stage_16 (by have q2 := lv_neT (a := 0) c2 (by decide); have q4 := lv_neT (a := 1) c4 (by decide); have q6 := lv_neT (a := 2) c6 (by decide); have q8 := lv_neT (a := 3) c8 (by decide); have q12 := lv_neT (a := 4) c12 (by decide); omega) (by decide) ?_
    refine lv_bipush (v := (-2 : Int32)) hx hb dX10_stage_113 (by decide) ?_
    obtain rfl := Option.some.inj hf
    exact tRet_i C hr hlk hP hS dX10_stage_115
  · have hf := if_n hf c1
    refine lv_iconst (v := (-1 : Int32)) hx hb dX10_stage_13 (by decide) ?_
    obtain rfl := Option.some.inj hf
    exact tRet_i C hr hlk hP hS dX10_stage_14
