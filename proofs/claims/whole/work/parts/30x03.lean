def rmX9_ends : Room := { frames := 5, cells := 0, slots := 0, locals := 117 }
theorem hn_X9_ends_9 : ∀ w ∈ wsX90, w ∈ wsX9_ends := fun w h => List.mem_cons_of_mem _ (List.mem_append_left _ (List.mem_append_left _ (List.mem_append_left _ (List.mem_append_right _ h))))
theorem hd_X9_ends : yX9_ends.cls ≠ "java/lang/invoke/MethodHandle" ∧ yX9_ends.cls ≠ "java/lang/invoke/VarHandle" ∧ (parseMethodDescriptor yX9_ends.desc).map (fun d => d.parameters.length) = some 2 := by decide +kernel
set_option maxHeartbeats 4000000 in
set_option maxRecDepth 100000 in
theorem c_X9_ends (l : Launch) {D : va_G} {cI cZ : ClassId} {a : Nat → Nat} (hA : ∀ S : St, va_D (xA a) (wX cI cZ a S)) {x1 : Int32} {x2 : Int32} {S : St} {o : Int32} (hf : f_X9_ends x1 x2 S = some o) : Met l yX9_ends wsX9_ends rmX9_ends (tPc D cI cZ (wX cI cZ a) S ([.ref (a 0), .int x1, .int x2] : List Value)) (tQi D (wX cI cZ a) (xA a) S o) 0 0 (xA a) := by
  refine tEnter (cc := cX9_ends) (maxL := 4) (ret := (some .int)) (own := RX9) hA rfl (by decide) rfl (Nat.le_of_ble_eq_true rfl) (fun p e s m args below meth c C hr hlk hP hS ls hl => ?_)
  obtain ⟨⟨hx, hb, hml, hown, hts⟩, hK, hN, -⟩ := id C
  have hl : lv_has ls 4 [(0, .ref (a 0)), (1, .int x1), (2, .int x2)] := hl
  have hin9 := hn_X9_ends_9
  have hSS := hS
  rw [f_X9_ends] at hf
  revert hP hS
  suffices hsuf : ∀ (H : Heap) (locs : List Loc), va_P D vwCl (wX cI cZ a S) H → va_S (xA a) s.heap H locs → W p l e rmX9_ends s m args below meth c H locs 0 0 (MQ below (tQi D (wX cI cZ a) (xA a) S o) args s 0 0 (xA a)) (F0 m 0 ls []) from fun hP hS => hsuf s.heap [] hP hS
  intro H locs hP hS
  refine lv_aload_n hx hb dX9_ends_0 rfl (lv_at hl 0 rfl) ?_
  refine gx_9_6 C hin9 hP (List.mem_of_getElem? (i := 1) rfl) dX9_ends_1 ?_
  refine lv_iload_n hx hb dX9_ends_4 rfl (lv_at hl 1 rfl) ?_
  obtain ⟨r5, hc5, hf⟩ := ob hf
  refine tCallVi (As := [.int x1]) (rest := []) (q0 := 16) (ci := 1) C hP hS rfl rfl (c_X1_reaches l C.2.2.2 hc5) (cwV 1 hts gX9_ends_X1_reaches rfl rfl rfl ⟨rfl, hd_X1_reaches⟩ ⟨Nat.le_of_ble_eq_true rfl, Nat.le_of_ble_eq_true rfl⟩) rfl hl rfl (Nat.le_of_ble_eq_true rfl) dX9_ends_5 ⟨Nat.le_refl 0, Nat.le_refl 0⟩ (fun H locs hP hS => ?_)
  refine lv_if_eq (tgt := 20) hx hb dX9_ends_8 (by decide) (fun c1 => ?_) (fun c1 => ?_)
  · have hf := if_p hf c1
    refine lv_bipush (v := (-2 : Int32)) hx hb dX9_ends_20 (by decide) ?_
    obtain rfl := Option.some.inj hf
    exact tRet_i C hr hlk hP hS dX9_ends_22
  · have hf := if_n hf c1
    refine lv_iload_n hx hb dX9_ends_11 rfl (lv_at hl 2 rfl) ?_
    refine lv_if_lt (tgt := 20) hx hb dX9_ends_12 (by decide) (fun c2 => ?_) (fun c2 => ?_)
    · have hf := if_p hf c2
      refine lv_bipush (v := (-2 : Int32)) hx hb dX9_ends_20 (by decide) ?_
      obtain rfl := Option.some.inj hf
      exact tRet_i C hr hlk hP hS dX9_ends_22
    · have hf := if_n hf c2
      refine lv_iload_n hx hb dX9_ends_15 rfl (lv_at hl 2 rfl) ?_
      refine lv_iconst (v := (1 : Int32)) hx hb dX9_ends_16 (by decide) ?_
      refine lv_icmp_le (tgt := 23) hx hb dX9_ends_17 (by decide) (fun c3 => ?_) (fun c3 => ?_)
      · have hf := if_p hf c3
        refine lv_aload_n hx hb dX9_ends_23 rfl (lv_at hl 0 rfl) ?_
        refine gx_9_6 C hin9 hP (List.mem_of_getElem? (i := 1) rfl) dX9_ends_24 ?_
        refine lv_iload_n hx hb dX9_ends_27 rfl (lv_at hl 1 rfl) ?_
        obtain ⟨r28, hc28, hf⟩ := ob hf
        refine tCallVi (As := [.int x1]) (rest := []) (q0 := 16) (ci := 1) C hP hS rfl rfl (c_X1_bestPlan l C.2.2.2 hc28) (cwV 1 hts gX9_ends_X1_bestPlan rfl rfl rfl ⟨rfl, hd_X1_bestPlan⟩ ⟨Nat.le_of_ble_eq_true rfl, Nat.le_of_ble_eq_true rfl⟩) rfl hl rfl (Nat.le_of_ble_eq_true rfl) dX9_ends_28 ⟨Nat.le_refl 0, Nat.le_refl 0⟩ (fun H locs hP hS => ?_)
        refine lv_istore_n (lv' := [(3, .int r28), (0, .ref (a 0)), (1, .int x1), (2, .int x2)]) hx hb dX9_ends_31 rfl hl (Nat.le_of_ble_eq_true rfl) rfl (fun ls hl => ?_)
        refine lv_iload_n hx hb dX9_ends_32 rfl (lv_at hl 3 rfl) ?_
        refine lv_if_ne (tgt := 40) hx hb dX9_ends_33 (by decide) (fun c4 => ?_) (fun c4 => ?_)
        · have hf := if_n hf c4
          refine lv_aload_n hx hb dX9_ends_40 rfl (lv_at hl 1 rfl) ?_
          refine gx_9_6 C hin9 hP (List.mem_of_getElem? (i := 1) rfl) dX9_ends_41 ?_
          refine lv_iload_n hx hb dX9_ends_44 rfl (lv_at hl 2 rfl) ?_
          refine lv_iload_n hx hb dX9_ends_45 rfl (lv_at hl 0 rfl) ?_
          obtain ⟨r46, hc46, hf⟩ := ob hf
          refine tCallVi (As := [.int x1, .int r28]) (rest := []) (q0 := 16) (ci := 1) C hP hS rfl rfl (c_X1_offBy l C.2.2.2 hc46) (cwV 2 hts gX9_ends_X1_offBy rfl rfl rfl ⟨rfl, hd_X1_offBy⟩ ⟨Nat.le_of_ble_eq_true rfl, Nat.le_of_ble_eq_true rfl⟩) rfl hl rfl (Nat.le_of_ble_eq_true rfl) dX9_ends_46 ⟨Nat.le_refl 0, Nat.le_refl 0⟩ (fun H locs hP hS => ?_)
          refine lv_sipush (v := (20000 : Int32)) hx hb dX9_ends_49 (by decide) ?_
          refine lv_iadd hx hb dX9_ends_52 ?_
          obtain rfl := Option.some.inj hf
          exact tRet_i C hr hlk hP hS dX9_ends_53
        · have hf := if_p hf c4
          refine lv_iload_n hx hb dX9_ends_36 rfl (lv_at hl 0 rfl) ?_
          refine lv_goto (tgt := 53) hx hb dX9_ends_37 (by decide) ?_
          obtain rfl := Option.some.inj hf
          exact tRet_i C hr hlk hP hS dX9_ends_53
      · have hf := if_n hf c3
        refine lv_bipush (v := (-2 : Int32)) hx hb dX9_ends_20 (by decide) ?_
        obtain rfl := Option.some.inj hf
        exact tRet_i C hr hlk hP hS dX9_ends_22
def rmX1_aslantBits : Room := { frames := 2, cells := 0, slots := 0, locals := 42 }
theorem hn_X1_aslantBits_1 : ∀ w ∈ wsX10, w ∈ wsX1_aslantBits := fun w h => List.mem_cons_of_mem _ (List.mem_append_left _ (List.mem_append_left _ (List.mem_append_right _ h)))
theorem hn_X1_aslantBits_3 : ∀ w ∈ wsX30, w ∈ wsX1_aslantBits := fun w h => List.mem_cons_of_mem _ (List.mem_append_right _ h)
theorem hn_X1_aslantBits_8 : ∀ w ∈ wsX80, w ∈ wsX1_aslantBits := fun w h => List.mem_cons_of_mem _ (List.mem_append_left _ (List.mem_append_right _ h))
theorem hd_X1_aslantBits : yX1_aslantBits.cls ≠ "java/lang/invoke/MethodHandle" ∧ yX1_aslantBits.cls ≠ "java/lang/invoke/VarHandle" ∧ (parseMethodDescriptor yX1_aslantBits.desc).map (fun d => d.parameters.length) = some 0 := by decide +kernel
set_option maxHeartbeats 4000000 in
set_option maxRecDepth 100000 in
theorem lp_X1_aslantBits_10 {p : Program} {l : Launch} {e : Env} {s : State} {m : MethodId} {args : Array Value} {below : List Frame} {meth : Method} {c : Code} {D : va_G} {cI cZ : ClassId} {a : Nat → Nat} {Q : State → Prop} {H0 : Heap} {S : St} {o : Int32}
    (C : tC p c s m args cX1_aslantBits 3 RX1 wsX1_aslantBits D cI cZ (wX cI cZ a) (xA a))
    (K0 : ∀ (H : Heap) (locs : List Loc) (ls : Array Slot), va_P D vwCl (wX cI cZ a S) H → va_S (xA a) H0 H locs → lv_has ls 3 [(1, .int o)] → W p l e rmX1_aslantBits s m args below meth c H locs 0 0 Q (F0 m 45 ls [])) :
    ∀ (n : Nat) (x1 : Int32) (x2 : Int32), l_X1_aslantBits_10 S n x1 x2 = some o → ∀ (H : Heap) (locs : List Loc) (ls : Array Slot), va_P D vwCl (wX cI cZ a S) H → va_S (xA a) H0 H locs → lv_has ls 3 [(0, .ref (a 16)), (1, .int x1), (2, .int x2)] → W p l e rmX1_aslantBits s m args below meth c H locs 0 0 Q (F0 m 10 ls []) := by
  obtain ⟨⟨hx, hb, hml, hown, hts⟩, hK, hN, hA⟩ := id C
  have hin1 := hn_X1_aslantBits_1
  have hin3 := hn_X1_aslantBits_3
  have hin8 := hn_X1_aslantBits_8
  intro n
  induction n with
  | zero =>
    intro x1 x2 hf
    rw [l_X1_aslantBits_10] at hf
    cases hf
  | succ n ih =>
    intro x1 x2 hf H locs ls hP hS hl
    rw [l_X1_aslantBits_10] at hf
    refine lv_iload_n hx hb dX1_aslantBits_10 rfl (lv_at hl 2 rfl) ?_
    refine lv_aload_n hx hb dX1_aslantBits_11 rfl (lv_at hl 0 rfl) ?_
    refine gx_1_0 C hin1 hP (List.mem_of_getElem? (i := 2) rfl) dX1_aslantBits_12 ?_
    refine gxn_3_5 C hin3 hP (i := 6) rfl dX1_aslantBits_15 ?_
    refine lv_icmp_ge (tgt := 45) hx hb dX1_aslantBits_18 (by decide) (fun c1 => ?_) (fun c1 => ?_)
    · have hf := if_p hf c1
      obtain rfl := Option.some.inj hf
      exact K0 H locs ls hP hS (lv_sub hl [1] rfl)
    · have hf := if_n hf c1
      refine lv_aload_n hx hb dX1_aslantBits_21 rfl (lv_at hl 0 rfl) ?_
      refine gx_1_0 C hin1 hP (List.mem_of_getElem? (i := 2) rfl) dX1_aslantBits_22 ?_
      refine lv_iload_n hx hb dX1_aslantBits_25 rfl (lv_at hl 2 rfl) ?_
      obtain ⟨r26, hc26, hf⟩ := ob hf
      refine tCallVi (As := [.int x2]) (rest := []) (q0 := 3) (ci := 3) C hP hS rfl rfl (c_X3_kindOf l C.2.2.2 hc26) (cwV 1 hts gX1_aslantBits_X3_kindOf rfl rfl rfl ⟨rfl, hd_X3_kindOf⟩ ⟨Nat.le_of_ble_eq_true rfl, Nat.le_of_ble_eq_true rfl⟩) rfl hl rfl (Nat.le_of_ble_eq_true rfl) dX1_aslantBits_26 ⟨Nat.le_refl 0, Nat.le_refl 0⟩ (fun H locs hP hS => ?_)
      refine lv_iconst (v := (1 : Int32)) hx hb dX1_aslantBits_29 (by decide) ?_
      refine lv_icmp_ne (tgt := 39) hx hb dX1_aslantBits_30 (by decide) (fun c2 => ?_) (fun c2 => ?_)
      · have hf := if_n hf c2
        refine lv_iinc (v := (x2 + 1)) (lv' := [(2, .int (x2 + 1)), (0, .ref (a 16)), (1, .int x1)]) hx hb dX1_aslantBits_39 hl (k := 2) rfl rfl (Nat.le_of_ble_eq_true rfl) rfl (fun ls hl => ?_)
        refine lv_goto (tgt := 10) hx hb dX1_aslantBits_42 (by decide) ?_
        exact ih _ _ hf H locs ls hP hS (lv_sub hl [1, 2, 0] rfl)
      · have hf := if_p hf c2
        refine lv_iload_n hx hb dX1_aslantBits_33 rfl (lv_at hl 1 rfl) ?_
        refine lv_iconst (v := (1 : Int32)) hx hb dX1_aslantBits_34 (by decide) ?_
        refine lv_iload_n hx hb dX1_aslantBits_35 rfl (lv_at hl 2 rfl) ?_
        refine lv_ishl hx hb dX1_aslantBits_36 ?_
        refine lv_ior hx hb dX1_aslantBits_37 ?_
        refine lv_topi (fun v38 e38 => ?_)
        have hf := nm_i hf e38
        refine lv_istore_n (lv' := [(1, .int v38), (0, .ref (a 16)), (2, .int x2)]) hx hb dX1_aslantBits_38 rfl hl (Nat.le_of_ble_eq_true rfl) rfl (fun ls hl => ?_)
        refine lv_iinc (v := (x2 + 1)) (lv' := [(2, .int (x2 + 1)), (1, .int v38), (0, .ref (a 16))]) hx hb dX1_aslantBits_39 hl (k := 2) rfl rfl (Nat.le_of_ble_eq_true rfl) rfl (fun ls hl => ?_)
        refine lv_goto (tgt := 10) hx hb dX1_aslantBits_42 (by decide) ?_
        exact ih _ _ hf H locs ls hP hS (lv_sub hl [2, 1, 0] rfl)
set_option maxHeartbeats 4000000 in
set_option maxRecDepth 100000 in
theorem c_X1_aslantBits (l : Launch) {D : va_G} {cI cZ : ClassId} {a : Nat → Nat} (hA : ∀ S : St, va_D (xA a) (wX cI cZ a S)) {S : St} {o : Int32} (hf : f_X1_aslantBits S = some o) : Met l yX1_aslantBits wsX1_aslantBits rmX1_aslantBits (tPc D cI cZ (wX cI cZ a) S ([.ref (a 16)] : List Value)) (tQi D (wX cI cZ a) (xA a) S o) 0 0 (xA a) := by
  refine tEnter (cc := cX1_aslantBits) (maxL := 3) (ret := (some .int)) (own := RX1) hA rfl (by decide) rfl (Nat.le_of_ble_eq_true rfl) (fun p e s m args below meth c C hr hlk hP hS ls hl => ?_)
  obtain ⟨⟨hx, hb, hml, hown, hts⟩, hK, hN, -⟩ := id C
  have hl : lv_has ls 3 [(0, .ref (a 16))] := hl
  have hin1 := hn_X1_aslantBits_1
  have hin3 := hn_X1_aslantBits_3
  have hin8 := hn_X1_aslantBits_8
  have hSS := hS
  rw [f_X1_aslantBits] at hf
  revert hP hS
  suffices hsuf : ∀ (H : Heap) (locs : List Loc), va_P D vwCl (wX cI cZ a S) H → va_S (xA a) s.heap H locs → W p l e rmX1_aslantBits s m args below meth c H locs 0 0 (MQ below (tQi D (wX cI cZ a) (xA a) S o) args s 0 0 (xA a)) (F0 m 0 ls []) from fun hP hS => hsuf s.heap [] hP hS
  intro H locs hP hS
  refine lv_iconst (v := (0 : Int32)) hx hb dX1_aslantBits_0 (by decide) ?_
  refine lv_istore_n (lv' := [(1, .int (0 : Int32)), (0, .ref (a 16))]) hx hb dX1_aslantBits_1 rfl hl (Nat.le_of_ble_eq_true rfl) rfl (fun ls hl => ?_)
  refine lv_aload_n hx hb dX1_aslantBits_2 rfl (lv_at hl 1 rfl) ?_
  refine gx_1_1 C hin1 hP (List.mem_of_getElem? (i := 1) rfl) dX1_aslantBits_3 ?_
  refine gxn_8_3 C hin8 hP (i := 13) rfl dX1_aslantBits_6 ?_
  refine lv_istore_n (lv' := [(2, .int (S.1 10)), (1, .int (0 : Int32)), (0, .ref (a 16))]) hx hb dX1_aslantBits_9 rfl hl (Nat.le_of_ble_eq_true rfl) rfl (fun ls hl => ?_)
  obtain ⟨o10, hc10, hf⟩ := ob hf
  refine lp_X1_aslantBits_10 C (fun H locs ls hP hS hl => ?_) fuel _ _ hc10 H locs ls hP hS (lv_sub hl [2, 1, 0] rfl)
  refine lv_iload_n hx hb dX1_aslantBits_45 rfl (lv_at hl 0 rfl) ?_
  obtain rfl := Option.some.inj hf
  exact tRet_i C hr hlk hP hS dX1_aslantBits_46
def rmX3_groundIfStepped : Room := { frames := 2, cells := 0, slots := 0, locals := 42 }
theorem hd_X3_groundIfStepped : yX3_groundIfStepped.cls ≠ "java/lang/invoke/MethodHandle" ∧ yX3_groundIfStepped.cls ≠ "java/lang/invoke/VarHandle" ∧ (parseMethodDescriptor yX3_groundIfStepped.desc).map (fun d => d.parameters.length) = some 1 := by decide +kernel
set_option maxHeartbeats 4000000 in
set_option maxRecDepth 100000 in
theorem c_X3_groundIfStepped (l : Launch) {D : va_G} {cI cZ : ClassId} {a : Nat → Nat} (hA : ∀ S : St, va_D (xA a) (wX cI cZ a S)) {x1 : Int32} {S : St} {o : Int32} (hf : f_X3_groundIfStepped x1 S = some o) : Met l yX3_groundIfStepped wsX3_groundIfStepped rmX3_groundIfStepped (tPc D cI cZ (wX cI cZ a) S ([.ref (a 3), .int x1] : List Value)) (tQi D (wX cI cZ a) (xA a) S o) 0 0 (xA a) := by
  refine tEnter (cc := cX3_groundIfStepped) (maxL := 2) (ret := (some .int)) (own := RX3) hA rfl (by decide) rfl (Nat.le_of_ble_eq_true rfl) (fun p e s m args below meth c C hr hlk hP hS ls hl => ?_)
  obtain ⟨⟨hx, hb, hml, hown, hts⟩, hK, hN, -⟩ := id C
  have hl : lv_has ls 2 [(0, .ref (a 3)), (1, .int x1)] := hl
  have hSS := hS
  rw [f_X3_groundIfStepped] at hf
  revert hP hS
  suffices hsuf : ∀ (H : Heap) (locs : List Loc), va_P D vwCl (wX cI cZ a S) H → va_S (xA a) s.heap H locs → W p l e rmX3_groundIfStepped s m args below meth c H locs 0 0 (MQ below (tQi D (wX cI cZ a) (xA a) S o) args s 0 0 (xA a)) (F0 m 0 ls []) from fun hP hS => hsuf s.heap [] hP hS
  intro H locs hP hS
  refine lv_iconst (v := (2 : Int32)) hx hb dX3_groundIfStepped_0 (by decide) ?_
  refine lv_aload_n hx hb dX3_groundIfStepped_1 rfl (lv_at hl 0 rfl) ?_
  refine lv_iload_n hx hb dX3_groundIfStepped_2 rfl (lv_at hl 1 rfl) ?_
  obtain ⟨r3, hc3, hf⟩ := ob hf
  refine tCallVi (As := [.int x1]) (rest := [.int (2 : Int32)]) (q0 := 3) (ci := 3) C hP hS rfl rfl (c_X3_valueOf l C.2.2.2 hc3) (cwV 1 hts gX3_groundIfStepped_X3_valueOf rfl rfl rfl ⟨rfl, hd_X3_valueOf⟩ ⟨Nat.le_of_ble_eq_true rfl, Nat.le_of_ble_eq_true rfl⟩) rfl hl rfl (Nat.le_of_ble_eq_true rfl) dX3_groundIfStepped_3 ⟨Nat.le_refl 0, Nat.le_refl 0⟩ (fun H locs hP hS => ?_)
  obtain ⟨r6, hc6, hf⟩ := ob hf
  refine tCallSi (As := [.int (2 : Int32), .int r3]) (rest := []) C hP hS (c_X3_errorOfGround l C.2.2.2 hc6) (va_cwS 2 hts gX3_groundIfStepped_X3_errorOfGround rfl rfl rfl hd_X3_errorOfGround ⟨Nat.le_of_ble_eq_true rfl, Nat.le_of_ble_eq_true rfl⟩) rfl hl rfl (Nat.le_of_ble_eq_true rfl) dX3_groundIfStepped_6 ⟨Nat.le_refl 0, Nat.le_refl 0⟩ (fun H locs hP hS => ?_)
  obtain rfl := Option.some.inj hf
  exact tRet_i C hr hlk hP hS dX3_groundIfStepped_9
def rmX1_moreByStepping : Room := { frames := 3, cells := 0, slots := 0, locals := 63 }
theorem hn_X1_moreByStepping_1 : ∀ w ∈ wsX10, w ∈ wsX1_moreByStepping := fun w h => List.mem_cons_of_mem _ (List.mem_append_left _ (List.mem_append_left _ (List.mem_append_right _ h)))
theorem hn_X1_moreByStepping_3 : ∀ w ∈ wsX30, w ∈ wsX1_moreByStepping := fun w h => List.mem_cons_of_mem _ (List.mem_append_right _ h)
theorem hn_X1_moreByStepping_8 : ∀ w ∈ wsX80, w ∈ wsX1_moreByStepping := fun w h => List.mem_cons_of_mem _ (List.mem_append_left _ (List.mem_append_right _ h))
theorem hd_X1_moreByStepping : yX1_moreByStepping.cls ≠ "java/lang/invoke/MethodHandle" ∧ yX1_moreByStepping.cls ≠ "java/lang/invoke/VarHandle" ∧ (parseMethodDescriptor yX1_moreByStepping.desc).map (fun d => d.parameters.length) = some 1 := by decide +kernel
set_option maxHeartbeats 4000000 in
set_option maxRecDepth 100000 in
theorem lp_X1_moreByStepping_10 {p : Program} {l : Launch} {e : Env} {s : State} {m : MethodId} {args : Array Value} {below : List Frame} {meth : Method} {c : Code} {D : va_G} {cI cZ : ClassId} {a : Nat → Nat} {Q : State → Prop} {H0 : Heap} {x1 : Int32} {S : St} {o : Int32}
    (C : tC p c s m args cX1_moreByStepping 4 RX1 wsX1_moreByStepping D cI cZ (wX cI cZ a) (xA a))
    (K0 : ∀ (H : Heap) (locs : List Loc) (ls : Array Slot), va_P D vwCl (wX cI cZ a S) H → va_S (xA a) H0 H locs → lv_has ls 4 [(2, .int o)] → W p l e rmX1_moreByStepping s m args below meth c H locs 0 0 Q (F0 m 56 ls [])) :
    ∀ (n : Nat) (x2 : Int32) (x3 : Int32), l_X1_moreByStepping_10 x1 S n x2 x3 = some o → ∀ (H : Heap) (locs : List Loc) (ls : Array Slot), va_P D vwCl (wX cI cZ a S) H → va_S (xA a) H0 H locs → lv_has ls 4 [(0, .ref (a 16)), (1, .int x1), (2, .int x2), (3, .int x3)] → W p l e rmX1_moreByStepping s m args below meth c H locs 0 0 Q (F0 m 10 ls []) := by
  obtain ⟨⟨hx, hb, hml, hown, hts⟩, hK, hN, hA⟩ := id C
  have hin1 := hn_X1_moreByStepping_1
  have hin3 := hn_X1_moreByStepping_3
  have hin8 := hn_X1_moreByStepping_8
  intro n
  induction n with
  | zero =>
    intro x2 x3 hf
    rw [l_X1_moreByStepping_10] at hf
    cases hf
  | succ n ih =>
    intro x2 x3 hf H locs ls hP hS hl
    rw [l_X1_moreByStepping_10] at hf
    refine lv_iload_n hx hb dX1_moreByStepping_10 rfl (lv_at hl 3 rfl) ?_
    refine lv_aload_n hx hb dX1_moreByStepping_11 rfl (lv_at hl 0 rfl) ?_
    refine gx_1_0 C hin1 hP (List.mem_of_getElem? (i := 2) rfl) dX1_moreByStepping_12 ?_
    refine gxn_3_5 C hin3 hP (i := 6) rfl dX1_moreByStepping_15 ?_
    refine lv_icmp_ge (tgt := 56) hx hb dX1_moreByStepping_18 (by decide) (fun c1 => ?_) (fun c1 => ?_)
    · have hf := if_p hf c1
      obtain rfl := Option.some.inj hf
      exact K0 H locs ls hP hS (lv_sub hl [2] rfl)
    · have hf := if_n hf c1
      refine lv_iload_n hx hb dX1_moreByStepping_21 rfl (lv_at hl 1 rfl) ?_
      refine lv_iload_n hx hb dX1_moreByStepping_22 rfl (lv_at hl 3 rfl) ?_
      refine lv_ishr hx hb dX1_moreByStepping_23 ?_
      refine lv_iconst (v := (1 : Int32)) hx hb dX1_moreByStepping_24 (by decide) ?_
      refine lv_iand hx hb dX1_moreByStepping_25 ?_
      refine lv_iconst (v := (1 : Int32)) hx hb dX1_moreByStepping_26 (by decide) ?_
      refine lv_icmp_ne (tgt := 50) hx hb dX1_moreByStepping_27 (by decide) (fun c2 => ?_) (fun c2 => ?_)
      · have hf := if_n hf c2
        refine lv_iinc (v := (x3 + 1)) (lv' := [(3, .int (x3 + 1)), (0, .ref (a 16)), (1, .int x1), (2, .int x2)]) hx hb dX1_moreByStepping_50 hl (k := 3) rfl rfl (Nat.le_of_ble_eq_true rfl) rfl (fun ls hl => ?_)
        refine lv_goto (tgt := 10) hx hb dX1_moreByStepping_53 (by decide) ?_
        exact ih _ _ hf H locs ls hP hS (lv_sub hl [1, 2, 3, 0] rfl)
      · have hf := if_p hf c2
        refine lv_iload_n hx hb dX1_moreByStepping_30 rfl (lv_at hl 2 rfl) ?_
        refine lv_aload_n hx hb dX1_moreByStepping_31 rfl (lv_at hl 0 rfl) ?_
        refine gx_1_0 C hin1 hP (List.mem_of_getElem? (i := 2) rfl) dX1_moreByStepping_32 ?_
        refine lv_iload_n hx hb dX1_moreByStepping_35 rfl (lv_at hl 3 rfl) ?_
        obtain ⟨r36, hc36, hf⟩ := ob hf
        refine tCallVi (As := [.int x3]) (rest := [.int x2]) (q0 := 3) (ci := 3) C hP hS rfl rfl (c_X3_groundIfStepped l C.2.2.2 hc36) (cwV 1 hts gX1_moreByStepping_X3_groundIfStepped rfl rfl rfl ⟨rfl, hd_X3_groundIfStepped⟩ ⟨Nat.le_of_ble_eq_true rfl, Nat.le_of_ble_eq_true rfl⟩) rfl hl rfl (Nat.le_of_ble_eq_true rfl) dX1_moreByStepping_36 ⟨Nat.le_refl 0, Nat.le_refl 0⟩ (fun H locs hP hS => ?_)
        refine lv_aload_n hx hb dX1_moreByStepping_39 rfl (lv_at hl 0 rfl) ?_
        refine gx_1_0 C hin1 hP (List.mem_of_getElem? (i := 2) rfl) dX1_moreByStepping_40 ?_
        refine lv_iload_n hx hb dX1_moreByStepping_43 rfl (lv_at hl 3 rfl) ?_
        obtain ⟨r44, hc44, hf⟩ := ob hf
        refine tCallVi (As := [.int x3]) (rest := [.int r36, .int x2]) (q0 := 3) (ci := 3) C hP hS rfl rfl (c_X3_groundAt l C.2.2.2 hc44) (cwV 1 hts gX1_moreByStepping_X3_groundAt rfl rfl rfl ⟨rfl, hd_X3_groundAt⟩ ⟨Nat.le_of_ble_eq_true rfl, Nat.le_of_ble_eq_true rfl⟩) rfl hl rfl (Nat.le_of_ble_eq_true rfl) dX1_moreByStepping_44 ⟨Nat.le_refl 0, Nat.le_refl 0⟩ (fun H locs hP hS => ?_)
        refine lv_isub hx hb dX1_moreByStepping_47 ?_
        refine lv_iadd hx hb dX1_moreByStepping_48 ?_
        refine lv_istore_n (lv' := [(2, .int (x2 + (r36 - r44))), (0, .ref (a 16)), (1, .int x1), (3, .int x3)]) hx hb dX1_moreByStepping_49 rfl hl (Nat.le_of_ble_eq_true rfl) rfl (fun ls hl => ?_)
        refine lv_iinc (v := (x3 + 1)) (lv' := [(3, .int (x3 + 1)), (2, .int (x2 + (r36 - r44))), (0, .ref (a 16)), (1, .int x1)]) hx hb dX1_moreByStepping_50 hl (k := 3) rfl rfl (Nat.le_of_ble_eq_true rfl) rfl (fun ls hl => ?_)
        refine lv_goto (tgt := 10) hx hb dX1_moreByStepping_53 (by decide) ?_
        exact ih _ _ hf H locs ls hP hS (lv_sub hl [2, 3, 1, 0] rfl)
set_option maxHeartbeats 4000000 in
set_option maxRecDepth 100000 in
theorem c_X1_moreByStepping (l : Launch) {D : va_G} {cI cZ : ClassId} {a : Nat → Nat} (hA : ∀ S : St, va_D (xA a) (wX cI cZ a S)) {x1 : Int32} {S : St} {o : Int32} (hf : f_X1_moreByStepping x1 S = some o) : Met l yX1_moreByStepping wsX1_moreByStepping rmX1_moreByStepping (tPc D cI cZ (wX cI cZ a) S ([.ref (a 16), .int x1] : List Value)) (tQi D (wX cI cZ a) (xA a) S o) 0 0 (xA a) := by
  refine tEnter (cc := cX1_moreByStepping) (maxL := 4) (ret := (some .int)) (own := RX1) hA rfl (by decide) rfl (Nat.le_of_ble_eq_true rfl) (fun p e s m args below meth c C hr hlk hP hS ls hl => ?_)
  obtain ⟨⟨hx, hb, hml, hown, hts⟩, hK, hN, -⟩ := id C
  have hl : lv_has ls 4 [(0, .ref (a 16)), (1, .int x1)] := hl
  have hin1 := hn_X1_moreByStepping_1
  have hin3 := hn_X1_moreByStepping_3
  have hin8 := hn_X1_moreByStepping_8
  have hSS := hS
  rw [f_X1_moreByStepping] at hf
  revert hP hS
  suffices hsuf : ∀ (H : Heap) (locs : List Loc), va_P D vwCl (wX cI cZ a S) H → va_S (xA a) s.heap H locs → W p l e rmX1_moreByStepping s m args below meth c H locs 0 0 (MQ below (tQi D (wX cI cZ a) (xA a) S o) args s 0 0 (xA a)) (F0 m 0 ls []) from fun hP hS => hsuf s.heap [] hP hS
  intro H locs hP hS
  refine lv_iconst (v := (0 : Int32)) hx hb dX1_moreByStepping_0 (by decide) ?_
  refine lv_istore_n (lv' := [(2, .int (0 : Int32)), (0, .ref (a 16)), (1, .int x1)]) hx hb dX1_moreByStepping_1 rfl hl (Nat.le_of_ble_eq_true rfl) rfl (fun ls hl => ?_)
  refine lv_aload_n hx hb dX1_moreByStepping_2 rfl (lv_at hl 1 rfl) ?_
  refine gx_1_1 C hin1 hP (List.mem_of_getElem? (i := 1) rfl) dX1_moreByStepping_3 ?_
  refine gxn_8_3 C hin8 hP (i := 13) rfl dX1_moreByStepping_6 ?_
  refine lv_istore_n (lv' := [(3, .int (S.1 10)), (2, .int (0 : Int32)), (0, .ref (a 16)), (1, .int x1)]) hx hb dX1_moreByStepping_9 rfl hl (Nat.le_of_ble_eq_true rfl) rfl (fun ls hl => ?_)
  obtain ⟨o10, hc10, hf⟩ := ob hf
  refine lp_X1_moreByStepping_10 C (fun H locs ls hP hS hl => ?_) fuel _ _ hc10 H locs ls hP hS (lv_sub hl [2, 3, 1, 0] rfl)
  refine lv_iload_n hx hb dX1_moreByStepping_56 rfl (lv_at hl 0 rfl) ?_
  obtain rfl := Option.some.inj hf
  exact tRet_i C hr hlk hP hS dX1_moreByStepping_57
def rmX1_fewestStepped : Room := { frames := 4, cells := 0, slots := 0, locals := 88 }
theorem hn_X1_fewestStepped_1 : ∀ w ∈ wsX10, w ∈ wsX1_fewestStepped := fun w h => List.mem_cons_of_mem _ (List.mem_append_left _ (List.mem_append_left _ (List.mem_append_right _ h)))
theorem hn_X1_fewestStepped_3 : ∀ w ∈ wsX30, w ∈ wsX1_fewestStepped := fun w h => List.mem_cons_of_mem _ (List.mem_append_left _ (List.mem_append_right _ h))
theorem hn_X1_fewestStepped_8 : ∀ w ∈ wsX80, w ∈ wsX1_fewestStepped := fun w h => List.mem_cons_of_mem _ (List.mem_append_right _ h)
theorem hd_X1_fewestStepped : yX1_fewestStepped.cls ≠ "java/lang/invoke/MethodHandle" ∧ yX1_fewestStepped.cls ≠ "java/lang/invoke/VarHandle" ∧ (parseMethodDescriptor yX1_fewestStepped.desc).map (fun d => d.parameters.length) = some 1 := by decide +kernel
set_option maxHeartbeats 4000000 in
set_option maxRecDepth 100000 in
theorem lp_X1_fewestStepped_57 {p : Program} {l : Launch} {e : Env} {s : State} {m : MethodId} {args : Array Value} {below : List Frame} {meth : Method} {c : Code} {D : va_G} {cI cZ : ClassId} {a : Nat → Nat} {Q : State → Prop} {H0 : Heap} {x1 : Int32} {x4 : Int32} {x5 : Int32} {x6 : Int32} {S : St} {o : Int32}
    (C : tC p c s m args cX1_fewestStepped 10 RX1 wsX1_fewestStepped D cI cZ (wX cI cZ a) (xA a))
    (K0 : ∀ (H : Heap) (locs : List Loc) (ls : Array Slot), va_P D vwCl (wX cI cZ a S) H → va_S (xA a) H0 H locs → lv_has ls 10 [(2, .int o)] → W p l e rmX1_fewestStepped s m args below meth c H locs 0 0 Q (F0 m 140 ls [])) :
    ∀ (n : Nat) (x2 : Int32) (x3 : Int32) (x7 : Int32), l_X1_fewestStepped_57 x1 x4 x5 x6 S n x2 x3 x7 = some o → ∀ (H : Heap) (locs : List Loc) (ls : Array Slot), va_P D vwCl (wX cI cZ a S) H → va_S (xA a) H0 H locs → lv_has ls 10 [(0, .ref (a 16)), (1, .int x1), (2, .int x2), (3, .int x3), (4, .int x4), (5, .int x5), (6, .int x6), (7, .int x7)] → W p l e rmX1_fewestStepped s m args below meth c H locs 0 0 Q (F0 m 57 ls []) := by
  obtain ⟨⟨hx, hb, hml, hown, hts⟩, hK, hN, hA⟩ := id C
  have hin1 := hn_X1_fewestStepped_1
  have hin3 := hn_X1_fewestStepped_3
  have hin8 := hn_X1_fewestStepped_8
  intro n
  induction n with
  | zero =>
    intro x2 x3 x7 hf
    rw [l_X1_fewestStepped_57] at hf
    cases hf
  | succ n ih =>
    have J102 : ∀ (x2 : Int32) (x3 : Int32) (x7 : Int32) (x8 : Int32) (t0 : Int32) (H : Heap) (locs : List Loc) (ls : Array Slot), j_X1_fewestStepped_102 (l_X1_fewestStepped_57 x1 x4 x5 x6 S n) x1 x2 x3 x4 x5 x6 x7 x8 t0 S = some o → va_P D vwCl (wX cI cZ a S) H → va_S (xA a) H0 H locs → lv_has ls 10 [(0, .ref (a 16)), (1, .int x1), (2, .int x2), (3, .int x3), (4, .int x4), (5, .int x5), (6, .int x6), (7, .int x7), (8, .int x8)] → W p l e rmX1_fewestStepped s m args below meth c H locs 0 0 Q (F0 m 102 ls [.int t0]) := by
      intro x2 x3 x7 x8 t0 H locs ls hf hP hS hl
      rw [j_X1_fewestStepped_102] at hf
      refine lv_istore (lv' := [(9, .int t0), (0, .ref (a 16)), (1, .int x1), (2, .int x2), (3, .int x3), (4, .int x4), (5, .int x5), (6, .int x6), (7, .int x7), (8, .int x8)]) hx hb dX1_fewestStepped_102 hl (Nat.le_of_ble_eq_true rfl) rfl (fun ls hl => ?_)
      refine lv_iload hx hb dX1_fewestStepped_104 (lv_at hl 0 rfl) ?_
      refine lv_if_eq (tgt := 134) hx hb dX1_fewestStepped_106 (by decide) (fun c5 => ?_) (fun c5 => ?_)
      · have hf := if_p hf c5
        refine lv_iinc (v := (x7 + 1)) (lv' := [(7, .int (x7 + 1)), (9, .int t0), (0, .ref (a 16)), (1, .int x1), (2, .int x2), (3, .int x3), (4, .int x4), (5, .int x5), (6, .int x6), (8, .int x8)]) hx hb dX1_fewestStepped_134 hl (k := 8) rfl rfl (Nat.le_of_ble_eq_true rfl) rfl (fun ls hl => ?_)
        refine lv_goto (tgt := 57) hx hb dX1_fewestStepped_137 (by decide) ?_
        exact ih _ _ _ hf H locs ls hP hS (lv_sub hl [2, 3, 4, 5, 6, 7, 8, 0] rfl)
      · have hf := if_n hf c5
        refine lv_iload hx hb dX1_fewestStepped_109 (lv_at hl 6 rfl) ?_
        refine lv_aload_n hx hb dX1_fewestStepped_111 rfl (lv_at hl 1 rfl) ?_
        refine lv_iload hx hb dX1_fewestStepped_112 (lv_at hl 9 rfl) ?_
        obtain ⟨r114, hc114, hf⟩ := ob hf
        refine tCallVi (As := [.int x8]) (rest := [.int x5]) (q0 := 16) (ci := 1) C hP hS rfl rfl (c_X1_moreByStepping l C.2.2.2 hc114) (cwV 1 hts gX1_fewestStepped_X1_moreByStepping rfl rfl rfl ⟨rfl, hd_X1_moreByStepping⟩ ⟨Nat.le_of_ble_eq_true rfl, Nat.le_of_ble_eq_true rfl⟩) rfl hl rfl (Nat.le_of_ble_eq_true rfl) dX1_fewestStepped_114 ⟨Nat.le_refl 0, Nat.le_refl 0⟩ (fun H locs hP hS => ?_)
        refine lv_iadd hx hb dX1_fewestStepped_117 ?_
        refine va_mabs hx hb (hml.trans hl.1.symm) hown (hts _ (List.mem_of_getElem? (i := 3) rfl)) (hts _ (List.mem_of_getElem? (i := 4) rfl)) (hts _ (List.mem_of_getElem? (i := 5) rfl)) (hts _ (List.mem_of_getElem? (i := 6) rfl)) (Nat.le_of_ble_eq_true rfl) (Nat.le_of_ble_eq_true rfl) (Nat.le_refl 0) (Nat.le_refl 0) dX1_fewestStepped_118 ?_
        refine lv_iload_n hx hb dX1_fewestStepped_121 rfl (lv_at hl 2 rfl) ?_
        refine lv_icmp_gt (tgt := 134) hx hb dX1_fewestStepped_122 (by decide) (fun c6 => ?_) (fun c6 => ?_)
        · have hf := if_p hf c6
          refine lv_iinc (v := (x7 + 1)) (lv' := [(7, .int (x7 + 1)), (9, .int t0), (0, .ref (a 16)), (1, .int x1), (2, .int x2), (3, .int x3), (4, .int x4), (5, .int x5), (6, .int x6), (8, .int x8)]) hx hb dX1_fewestStepped_134 hl (k := 8) rfl rfl (Nat.le_of_ble_eq_true rfl) rfl (fun ls hl => ?_)
          refine lv_goto (tgt := 57) hx hb dX1_fewestStepped_137 (by decide) ?_
          exact ih _ _ _ hf H locs ls hP hS (lv_sub hl [2, 3, 4, 5, 6, 7, 8, 0] rfl)
        · have hf := if_n hf c6
          refine lv_iload hx hb dX1_fewestStepped_125 (lv_at hl 9 rfl) ?_
          refine lv_istore_n (lv' := [(2, .int x8), (9, .int t0), (0, .ref (a 16)), (1, .int x1), (3, .int x3), (4, .int x4), (5, .int x5), (6, .int x6), (7, .int x7), (8, .int x8)]) hx hb dX1_fewestStepped_127 rfl hl (Nat.le_of_ble_eq_true rfl) rfl (fun ls hl => ?_)
          refine lv_iload hx hb dX1_fewestStepped_128 (lv_at hl 9 rfl) ?_
          obtain ⟨r130, hc130, hf⟩ := ob hf
          refine tCallSi (As := [.int x8]) (rest := []) C hP hS (c_J6_bitCount_0f7a4 l C.2.2.2 hc130) (va_cwS 1 hts gX1_fewestStepped_J6_bitCount_0f7a4 rfl rfl rfl hd_J6_bitCount_0f7a4 ⟨Nat.le_of_ble_eq_true rfl, Nat.le_of_ble_eq_true rfl⟩) rfl hl rfl (Nat.le_of_ble_eq_true rfl) dX1_fewestStepped_130 ⟨Nat.le_refl 0, Nat.le_refl 0⟩ (fun H locs hP hS => ?_)
          refine lv_istore_n (lv' := [(3, .int r130), (2, .int x8), (9, .int t0), (0, .ref (a 16)), (1, .int x1), (4, .int x4), (5, .int x5), (6, .int x6), (7, .int x7), (8, .int x8)]) hx hb dX1_fewestStepped_133 rfl hl (Nat.le_of_ble_eq_true rfl) rfl (fun ls hl => ?_)
          refine lv_iinc (v := (x7 + 1)) (lv' := [(7, .int (x7 + 1)), (3, .int r130), (2, .int x8), (9, .int t0), (0, .ref (a 16)), (1, .int x1), (4, .int x4), (5, .int x5), (6, .int x6), (8, .int x8)]) hx hb dX1_fewestStepped_134 hl (k := 8) rfl rfl (Nat.le_of_ble_eq_true rfl) rfl (fun ls hl => ?_)
          refine lv_goto (tgt := 57) hx hb dX1_fewestStepped_137 (by decide) ?_
          exact ih _ _ _ hf H locs ls hP hS (lv_sub hl [4, 5, 2, 1, 6, 7, 8, 0] rfl)
    have J101 : ∀ (x2 : Int32) (x3 : Int32) (x7 : Int32) (x8 : Int32) (H : Heap) (locs : List Loc) (ls : Array Slot), j_X1_fewestStepped_101 (l_X1_fewestStepped_57 x1 x4 x5 x6 S n) x1 x2 x3 x4 x5 x6 x7 x8 S = some o → va_P D vwCl (wX cI cZ a S) H → va_S (xA a) H0 H locs → lv_has ls 10 [(0, .ref (a 16)), (1, .int x1), (2, .int x2), (3, .int x3), (4, .int x4), (5, .int x5), (6, .int x6), (7, .int x7), (8, .int x8)] → W p l e rmX1_fewestStepped s m args below meth c H locs 0 0 Q (F0 m 101 ls []) := by
      intro x2 x3 x7 x8 H locs ls hf hP hS hl
      rw [j_X1_fewestStepped_101] at hf
      refine lv_iconst (v := (0 : Int32)) hx hb dX1_fewestStepped_101 (by decide) ?_
      exact J102 _ _ _ _ _ H locs ls hf hP hS (lv_sub hl [0, 1, 2, 3, 4, 5, 6, 7, 8] rfl)
    intro x2 x3 x7 hf H locs ls hP hS hl
    rw [l_X1_fewestStepped_57] at hf
    refine lv_iload hx hb dX1_fewestStepped_57 (lv_at hl 7 rfl) ?_
    refine lv_iconst (v := (1 : Int32)) hx hb dX1_fewestStepped_59 (by decide) ?_
    refine lv_iload hx hb dX1_fewestStepped_60 (lv_at hl 4 rfl) ?_
    refine lv_ishl hx hb dX1_fewestStepped_62 ?_
    refine lv_icmp_ge (tgt := 140) hx hb dX1_fewestStepped_63 (by decide) (fun c2 => ?_) (fun c2 => ?_)
    · have hf := if_p hf c2
      obtain rfl := Option.some.inj hf
      exact K0 H locs ls hP hS (lv_sub hl [2] rfl)
    · have hf := if_n hf c2
      refine lv_iload hx hb dX1_fewestStepped_66 (lv_at hl 7 rfl) ?_
      refine lv_aload_n hx hb dX1_fewestStepped_68 rfl (lv_at hl 0 rfl) ?_
      refine gx_1_1 C hin1 hP (List.mem_of_getElem? (i := 2) rfl) dX1_fewestStepped_69 ?_
      refine gxn_8_3 C hin8 hP (i := 13) rfl dX1_fewestStepped_72 ?_
      refine lv_ishl hx hb dX1_fewestStepped_75 ?_
      refine lv_istore (lv' := [(8, .int (x7 <<< ((S.1 10) &&& 31))), (0, .ref (a 16)), (1, .int x1), (2, .int x2), (3, .int x3), (4, .int x4), (5, .int x5), (6, .int x6), (7, .int x7)]) hx hb dX1_fewestStepped_76 hl (Nat.le_of_ble_eq_true rfl) rfl (fun ls hl => ?_)
      refine lv_iload hx hb dX1_fewestStepped_78 (lv_at hl 0 rfl) ?_
      refine lv_iload hx hb dX1_fewestStepped_80 (lv_at hl 7 rfl) ?_
      refine lv_iconst (v := (-1 : Int32)) hx hb dX1_fewestStepped_82 (by decide) ?_
      refine lv_ixor hx hb dX1_fewestStepped_83 ?_
      refine lv_iand hx hb dX1_fewestStepped_84 ?_
      refine lv_if_ne (tgt := 101) hx hb dX1_fewestStepped_85 (by decide) (fun c3 => ?_) (fun c3 => ?_)
      · have hf := if_n hf c3
        exact J101 _ _ _ _ H locs ls hf hP hS (lv_sub hl [1, 2, 3, 4, 5, 6, 7, 8, 0] rfl)
      · have hf := if_p hf c3
        refine lv_iload hx hb dX1_fewestStepped_88 (lv_at hl 0 rfl) ?_
        obtain ⟨r90, hc90, hf⟩ := ob hf
        refine tCallSi (As := [.int (x7 <<< ((S.1 10) &&& 31))]) (rest := []) C hP hS (c_J6_bitCount_0f7a4 l C.2.2.2 hc90) (va_cwS 1 hts gX1_fewestStepped_J6_bitCount_0f7a4 rfl rfl rfl hd_J6_bitCount_0f7a4 ⟨Nat.le_of_ble_eq_true rfl, Nat.le_of_ble_eq_true rfl⟩) rfl hl rfl (Nat.le_of_ble_eq_true rfl) dX1_fewestStepped_90 ⟨Nat.le_refl 0, Nat.le_refl 0⟩ (fun H locs hP hS => ?_)
        refine lv_iload_n hx hb dX1_fewestStepped_93 rfl (lv_at hl 4 rfl) ?_
        refine lv_icmp_ge (tgt := 101) hx hb dX1_fewestStepped_94 (by decide) (fun c4 => ?_) (fun c4 => ?_)
        · have hf := if_p hf c4
          exact J101 _ _ _ _ H locs ls hf hP hS (lv_sub hl [1, 2, 3, 4, 5, 6, 7, 8, 0] rfl)
        · have hf := if_n hf c4
          refine lv_iconst (v := (1 : Int32)) hx hb dX1_fewestStepped_97 (by decide) ?_
          refine lv_goto (tgt := 102) hx hb dX1_fewestStepped_98 (by decide) ?_
          exact J102 _ _ _ _ _ H locs ls hf hP hS (lv_sub hl [1, 2, 3, 4, 5, 6, 7, 8, 0] rfl)
set_option maxHeartbeats 4000000 in
set_option maxRecDepth 100000 in
theorem c_X1_fewestStepped (l : Launch) {D : va_G} {cI cZ : ClassId} {a : Nat → Nat} (hA : ∀ S : St, va_D (xA a) (wX cI cZ a S)) {x1 : Int32} {S : St} {o : Int32} (hf : f_X1_fewestStepped x1 S = some o) : Met l yX1_fewestStepped wsX1_fewestStepped rmX1_fewestStepped (tPc D cI cZ (wX cI cZ a) S ([.ref (a 16), .int x1] : List Value)) (tQi D (wX cI cZ a) (xA a) S o) 0 0 (xA a) := by
  refine tEnter (cc := cX1_fewestStepped) (maxL := 10) (ret := (some .int)) (own := RX1) hA rfl (by decide) rfl (Nat.le_of_ble_eq_true rfl) (fun p e s m args below meth c C hr hlk hP hS ls hl => ?_)
  obtain ⟨⟨hx, hb, hml, hown, hts⟩, hK, hN, -⟩ := id C
  have hl : lv_has ls 10 [(0, .ref (a 16)), (1, .int x1)] := hl
  have hin1 := hn_X1_fewestStepped_1
  have hin3 := hn_X1_fewestStepped_3
  have hin8 := hn_X1_fewestStepped_8
  have J43 : ∀ (x1 : Int32) (x2 : Int32) (x3 : Int32) (x4 : Int32) (t0 : Int32) (t1 : Int32) (H : Heap) (locs : List Loc) (ls : Array Slot), j_X1_fewestStepped_43 x1 x2 x3 x4 t0 t1 S = some o → va_P D vwCl (wX cI cZ a S) H → va_S (xA a) s.heap H locs → lv_has ls 10 [(0, .ref (a 16)), (1, .int x1), (2, .int x2), (3, .int x3), (4, .int x4)] → W p l e rmX1_fewestStepped s m args below meth c H locs 0 0 (MQ below (tQi D (wX cI cZ a) (xA a) S o) args s 0 0 (xA a)) (F0 m 43 ls [.int t0, .int t1, .ref (a 16)]) := by
    intro x1 x2 x3 x4 t0 t1 H locs ls hf hP hS hl
    rw [j_X1_fewestStepped_43] at hf
    obtain ⟨r43, hc43, hf⟩ := ob hf
    refine tCallVi (As := [.int t1, .int t0]) (rest := []) (q0 := 16) (ci := 1) C hP hS rfl rfl (c_X1_offBy l C.2.2.2 hc43) (cwV 2 hts gX1_fewestStepped_X1_offBy rfl rfl rfl ⟨rfl, hd_X1_offBy⟩ ⟨Nat.le_of_ble_eq_true rfl, Nat.le_of_ble_eq_true rfl⟩) rfl hl rfl (Nat.le_of_ble_eq_true rfl) dX1_fewestStepped_43 ⟨Nat.le_refl 0, Nat.le_refl 0⟩ (fun H locs hP hS => ?_)
    refine lv_istore (lv' := [(5, .int r43), (0, .ref (a 16)), (1, .int x1), (2, .int x2), (3, .int x3), (4, .int x4)]) hx hb dX1_fewestStepped_46 hl (Nat.le_of_ble_eq_true rfl) rfl (fun ls hl => ?_)
    refine lv_aload_n hx hb dX1_fewestStepped_48 rfl (lv_at hl 1 rfl) ?_
    obtain ⟨r49, hc49, hf⟩ := ob hf
    refine tCallVi (As := []) (rest := []) (q0 := 16) (ci := 1) C hP hS rfl rfl (c_X1_aslantBits l C.2.2.2 hc49) (cwV 0 hts gX1_fewestStepped_X1_aslantBits rfl rfl rfl ⟨rfl, hd_X1_aslantBits⟩ ⟨Nat.le_of_ble_eq_true rfl, Nat.le_of_ble_eq_true rfl⟩) rfl hl rfl (Nat.le_of_ble_eq_true rfl) dX1_fewestStepped_49 ⟨Nat.le_refl 0, Nat.le_refl 0⟩ (fun H locs hP hS => ?_)
    refine lv_istore (lv' := [(6, .int r49), (5, .int r43), (0, .ref (a 16)), (1, .int x1), (2, .int x2), (3, .int x3), (4, .int x4)]) hx hb dX1_fewestStepped_52 hl (Nat.le_of_ble_eq_true rfl) rfl (fun ls hl => ?_)
    refine lv_iconst (v := (0 : Int32)) hx hb dX1_fewestStepped_54 (by decide) ?_
    refine lv_istore (lv' := [(7, .int (0 : Int32)), (6, .int r49), (5, .int r43), (0, .ref (a 16)), (1, .int x1), (2, .int x2), (3, .int x3), (4, .int x4)]) hx hb dX1_fewestStepped_55 hl (Nat.le_of_ble_eq_true rfl) rfl (fun ls hl => ?_)
    obtain ⟨o57, hc57, hf⟩ := ob hf
    refine lp_X1_fewestStepped_57 C (fun H locs ls hP hS hl => ?_) fuel _ _ _ hc57 H locs ls hP hS (lv_sub hl [3, 4, 5, 6, 7, 2, 1, 0] rfl)
    refine lv_iload_n hx hb dX1_fewestStepped_140 rfl (lv_at hl 0 rfl) ?_
    obtain rfl := Option.some.inj hf
    exact tRet_i C hr hlk hP hS dX1_fewestStepped_141
  have hSS := hS
  rw [f_X1_fewestStepped] at hf
  revert hP hS
  suffices hsuf : ∀ (H : Heap) (locs : List Loc), va_P D vwCl (wX cI cZ a S) H → va_S (xA a) s.heap H locs → W p l e rmX1_fewestStepped s m args below meth c H locs 0 0 (MQ below (tQi D (wX cI cZ a) (xA a) S o) args s 0 0 (xA a)) (F0 m 0 ls []) from fun hP hS => hsuf s.heap [] hP hS
  intro H locs hP hS
  refine lv_bipush (v := (-9 : Int32)) hx hb dX1_fewestStepped_0 (by decide) ?_
  refine lv_istore_n (lv' := [(2, .int (-9 : Int32)), (0, .ref (a 16)), (1, .int x1)]) hx hb dX1_fewestStepped_2 rfl hl (Nat.le_of_ble_eq_true rfl) rfl (fun ls hl => ?_)
  refine lv_bipush (v := (9 : Int32)) hx hb dX1_fewestStepped_3 (by decide) ?_
  refine lv_istore_n (lv' := [(3, .int (9 : Int32)), (2, .int (-9 : Int32)), (0, .ref (a 16)), (1, .int x1)]) hx hb dX1_fewestStepped_5 rfl hl (Nat.le_of_ble_eq_true rfl) rfl (fun ls hl => ?_)
  refine lv_aload_n hx hb dX1_fewestStepped_6 rfl (lv_at hl 2 rfl) ?_
  refine gx_1_0 C hin1 hP (List.mem_of_getElem? (i := 1) rfl) dX1_fewestStepped_7 ?_
  refine gxn_3_5 C hin3 hP (i := 6) rfl dX1_fewestStepped_10 ?_
  refine lv_aload_n hx hb dX1_fewestStepped_13 rfl (lv_at hl 2 rfl) ?_
  refine gx_1_1 C hin1 hP (List.mem_of_getElem? (i := 2) rfl) dX1_fewestStepped_14 ?_
  refine gxn_8_3 C hin8 hP (i := 13) rfl dX1_fewestStepped_17 ?_
  refine lv_isub hx hb dX1_fewestStepped_20 ?_
  refine lv_istore (lv' := [(4, .int ((S.1 6) - (S.1 10))), (3, .int (9 : Int32)), (2, .int (-9 : Int32)), (0, .ref (a 16)), (1, .int x1)]) hx hb dX1_fewestStepped_21 hl (Nat.le_of_ble_eq_true rfl) rfl (fun ls hl => ?_)
  refine lv_aload_n hx hb dX1_fewestStepped_23 rfl (lv_at hl 3 rfl) ?_
  refine lv_iload hx hb dX1_fewestStepped_24 (lv_at hl 0 rfl) ?_
  refine lv_aload_n hx hb dX1_fewestStepped_26 rfl (lv_at hl 3 rfl) ?_
  refine gx_1_1 C hin1 hP (List.mem_of_getElem? (i := 2) rfl) dX1_fewestStepped_27 ?_
  refine gxn_8_5 C hin8 hP (i := 16) rfl dX1_fewestStepped_30 ?_
  refine lv_if_ne (tgt := 40) hx hb dX1_fewestStepped_33 (by decide) (fun c1 => ?_) (fun c1 => ?_)
  · have hf := if_n hf c1
    refine lv_sipush (v := (255 : Int32)) hx hb dX1_fewestStepped_40 (by decide) ?_
    exact J43 _ _ _ _ _ _ H locs ls hf hP hS (lv_sub hl [3, 4, 2, 1, 0] rfl)
  · have hf := if_p hf c1
    refine lv_iconst (v := (0 : Int32)) hx hb dX1_fewestStepped_36 (by decide) ?_
    refine lv_goto (tgt := 43) hx hb dX1_fewestStepped_37 (by decide) ?_
    exact J43 _ _ _ _ _ _ H locs ls hf hP hS (lv_sub hl [3, 4, 2, 1, 0] rfl)
def rmX9_step : Room := { frames := 5, cells := 0, slots := 0, locals := 117 }
theorem hn_X9_step_9 : ∀ w ∈ wsX90, w ∈ wsX9_step := fun w h => List.mem_cons_of_mem _ (List.mem_append_left _ (List.mem_append_left _ (List.mem_append_left _ (List.mem_append_right _ h))))
theorem hd_X9_step : yX9_step.cls ≠ "java/lang/invoke/MethodHandle" ∧ yX9_step.cls ≠ "java/lang/invoke/VarHandle" ∧ (parseMethodDescriptor yX9_step.desc).map (fun d => d.parameters.length) = some 1 := by decide +kernel
set_option maxHeartbeats 4000000 in
set_option maxRecDepth 100000 in
theorem c_X9_step (l : Launch) {D : va_G} {cI cZ : ClassId} {a : Nat → Nat} (hA : ∀ S : St, va_D (xA a) (wX cI cZ a S)) {x1 : Int32} {S : St} {o : Int32} (hf : f_X9_step x1 S = some o) : Met l yX9_step wsX9_step rmX9_step (tPc D cI cZ (wX cI cZ a) S ([.ref (a 0), .int x1] : List Value)) (tQi D (wX cI cZ a) (xA a) S o) 0 0 (xA a) := by
  refine tEnter (cc := cX9_step) (maxL := 2) (ret := (some .int)) (own := RX9) hA rfl (by decide) rfl (Nat.le_of_ble_eq_true rfl) (fun p e s m args below meth c C hr hlk hP hS ls hl => ?_)
  obtain ⟨⟨hx, hb, hml, hown, hts⟩, hK, hN, -⟩ := id C
  have hl : lv_has ls 2 [(0, .ref (a 0)), (1, .int x1)] := hl
  have hin9 := hn_X9_step_9
  have hSS := hS
  rw [f_X9_step] at hf
  revert hP hS
  suffices hsuf : ∀ (H : Heap) (locs : List Loc), va_P D vwCl (wX cI cZ a S) H → va_S (xA a) s.heap H locs → W p l e rmX9_step s m args below meth c H locs 0 0 (MQ below (tQi D (wX cI cZ a) (xA a) S o) args s 0 0 (xA a)) (F0 m 0 ls []) from fun hP hS => hsuf s.heap [] hP hS
  intro H locs hP hS
  refine lv_iload_n hx hb dX9_step_0 rfl (lv_at hl 1 rfl) ?_
  refine lv_if_lt (tgt := 10) hx hb dX9_step_1 (by decide) (fun c1 => ?_) (fun c1 => ?_)
  · have hf := if_p hf c1
    refine lv_bipush (v := (-2 : Int32)) hx hb dX9_step_10 (by decide) ?_
    obtain rfl := Option.some.inj hf
    exact tRet_i C hr hlk hP hS dX9_step_12
  · have hf := if_n hf c1
    refine lv_iload_n hx hb dX9_step_4 rfl (lv_at hl 1 rfl) ?_
    refine lv_bipush (v := (99 : Int32)) hx hb dX9_step_5 (by decide) ?_
    refine lv_icmp_le (tgt := 13) hx hb dX9_step_7 (by decide) (fun c2 => ?_) (fun c2 => ?_)
    · have hf := if_p hf c2
      refine lv_aload_n hx hb dX9_step_13 rfl (lv_at hl 0 rfl) ?_
      refine gx_9_6 C hin9 hP (List.mem_of_getElem? (i := 1) rfl) dX9_step_14 ?_
      refine lv_iload_n hx hb dX9_step_17 rfl (lv_at hl 1 rfl) ?_
      obtain ⟨r18, hc18, hf⟩ := ob hf
      refine tCallVi (As := [.int x1]) (rest := []) (q0 := 16) (ci := 1) C hP hS rfl rfl (c_X1_fewestStepped l C.2.2.2 hc18) (cwV 1 hts gX9_step_X1_fewestStepped rfl rfl rfl ⟨rfl, hd_X1_fewestStepped⟩ ⟨Nat.le_of_ble_eq_true rfl, Nat.le_of_ble_eq_true rfl⟩) rfl hl rfl (Nat.le_of_ble_eq_true rfl) dX9_step_18 ⟨Nat.le_refl 0, Nat.le_refl 0⟩ (fun H locs hP hS => ?_)
      obtain rfl := Option.some.inj hf
      exact tRet_i C hr hlk hP hS dX9_step_21
    · have hf := if_n hf c2
      refine lv_bipush (v := (-2 : Int32)) hx hb dX9_step_10 (by decide) ?_
      obtain rfl := Option.some.inj hf
      exact tRet_i C hr hlk hP hS dX9_step_12
def rmX1_groundOf : Room := { frames := 2, cells := 0, slots := 0, locals := 42 }
theorem hn_X1_groundOf_1 : ∀ w ∈ wsX10, w ∈ wsX1_groundOf := fun w h => List.mem_cons_of_mem _ (List.mem_append_left _ (List.mem_append_left _ (List.mem_append_right _ h)))
theorem hn_X1_groundOf_8 : ∀ w ∈ wsX80, w ∈ wsX1_groundOf := fun w h => List.mem_cons_of_mem _ (List.mem_append_left _ (List.mem_append_right _ h))
theorem hd_X1_groundOf : yX1_groundOf.cls ≠ "java/lang/invoke/MethodHandle" ∧ yX1_groundOf.cls ≠ "java/lang/invoke/VarHandle" ∧ (parseMethodDescriptor yX1_groundOf.desc).map (fun d => d.parameters.length) = some 1 := by decide +kernel
set_option maxHeartbeats 4000000 in
set_option maxRecDepth 100000 in
theorem lp_X1_groundOf_10 {p : Program} {l : Launch} {e : Env} {s : State} {m : MethodId} {args : Array Value} {below : List Frame} {meth : Method} {c : Code} {D : va_G} {cI cZ : ClassId} {a : Nat → Nat} {Q : State → Prop} {H0 : Heap} {x1 : Int32} {S : St} {o : Int32}
    (C : tC p c s m args cX1_groundOf 4 RX1 wsX1_groundOf D cI cZ (wX cI cZ a) (xA a))
    (K0 : ∀ (H : Heap) (locs : List Loc) (ls : Array Slot), va_P D vwCl (wX cI cZ a S) H → va_S (xA a) H0 H locs → lv_has ls 4 [(2, .int o)] → W p l e rmX1_groundOf s m args below meth c H locs 0 0 Q (F0 m 40 ls [])) :
    ∀ (n : Nat) (x2 : Int32) (x3 : Int32), l_X1_groundOf_10 x1 S n x2 x3 = some o → ∀ (H : Heap) (locs : List Loc) (ls : Array Slot), va_P D vwCl (wX cI cZ a S) H → va_S (xA a) H0 H locs → lv_has ls 4 [(0, .ref (a 16)), (1, .int x1), (2, .int x2), (3, .int x3)] → W p l e rmX1_groundOf s m args below meth c H locs 0 0 Q (F0 m 10 ls []) := by
  obtain ⟨⟨hx, hb, hml, hown, hts⟩, hK, hN, hA⟩ := id C
  have hin1 := hn_X1_groundOf_1
  have hin8 := hn_X1_groundOf_8
  intro n
  induction n with
  | zero =>
    intro x2 x3 hf
    rw [l_X1_groundOf_10] at hf
    cases hf
  | succ n ih =>
    intro x2 x3 hf H locs ls hP hS hl
    rw [l_X1_groundOf_10] at hf
    refine lv_iload_n hx hb dX1_groundOf_10 rfl (lv_at hl 3 rfl) ?_
    refine lv_aload_n hx hb dX1_groundOf_11 rfl (lv_at hl 0 rfl) ?_
    refine gx_1_1 C hin1 hP (List.mem_of_getElem? (i := 1) rfl) dX1_groundOf_12 ?_
    refine gxn_8_3 C hin8 hP (i := 13) rfl dX1_groundOf_15 ?_
    refine lv_iload_n hx hb dX1_groundOf_18 rfl (lv_at hl 1 rfl) ?_
    refine lv_iadd hx hb dX1_groundOf_19 ?_
    refine lv_icmp_ge (tgt := 40) hx hb dX1_groundOf_20 (by decide) (fun c1 => ?_) (fun c1 => ?_)
    · have hf := if_p hf c1
      obtain rfl := Option.some.inj hf
      exact K0 H locs ls hP hS (lv_sub hl [2] rfl)
    · have hf := if_n hf c1
      refine lv_iload_n hx hb dX1_groundOf_23 rfl (lv_at hl 2 rfl) ?_
      refine lv_aload_n hx hb dX1_groundOf_24 rfl (lv_at hl 0 rfl) ?_
      refine gx_1_0 C hin1 hP (List.mem_of_getElem? (i := 2) rfl) dX1_groundOf_25 ?_
      refine lv_iload_n hx hb dX1_groundOf_28 rfl (lv_at hl 3 rfl) ?_
      obtain ⟨r29, hc29, hf⟩ := ob hf
      refine tCallVi (As := [.int x3]) (rest := [.int x2]) (q0 := 3) (ci := 3) C hP hS rfl rfl (c_X3_groundAt l C.2.2.2 hc29) (cwV 1 hts gX1_groundOf_X3_groundAt rfl rfl rfl ⟨rfl, hd_X3_groundAt⟩ ⟨Nat.le_of_ble_eq_true rfl, Nat.le_of_ble_eq_true rfl⟩) rfl hl rfl (Nat.le_of_ble_eq_true rfl) dX1_groundOf_29 ⟨Nat.le_refl 0, Nat.le_refl 0⟩ (fun H locs hP hS => ?_)
      refine lv_iadd hx hb dX1_groundOf_32 ?_
      refine lv_istore_n (lv' := [(2, .int (x2 + r29)), (0, .ref (a 16)), (1, .int x1), (3, .int x3)]) hx hb dX1_groundOf_33 rfl hl (Nat.le_of_ble_eq_true rfl) rfl (fun ls hl => ?_)
      refine lv_iinc (v := (x3 + 1)) (lv' := [(3, .int (x3 + 1)), (2, .int (x2 + r29)), (0, .ref (a 16)), (1, .int x1)]) hx hb dX1_groundOf_34 hl (k := 3) rfl rfl (Nat.le_of_ble_eq_true rfl) rfl (fun ls hl => ?_)
      refine lv_goto (tgt := 10) hx hb dX1_groundOf_37 (by decide) ?_
      exact ih _ _ hf H locs ls hP hS (lv_sub hl [2, 3, 1, 0] rfl)
set_option maxHeartbeats 4000000 in
set_option maxRecDepth 100000 in
theorem c_X1_groundOf (l : Launch) {D : va_G} {cI cZ : ClassId} {a : Nat → Nat} (hA : ∀ S : St, va_D (xA a) (wX cI cZ a S)) {x1 : Int32} {S : St} {o : Int32} (hf : f_X1_groundOf x1 S = some o) : Met l yX1_groundOf wsX1_groundOf rmX1_groundOf (tPc D cI cZ (wX cI cZ a) S ([.ref (a 16), .int x1] : List Value)) (tQi D (wX cI cZ a) (xA a) S o) 0 0 (xA a) := by
  refine tEnter (cc := cX1_groundOf) (maxL := 4) (ret := (some .int)) (own := RX1) hA rfl (by decide) rfl (Nat.le_of_ble_eq_true rfl) (fun p e s m args below meth c C hr hlk hP hS ls hl => ?_)
  obtain ⟨⟨hx, hb, hml, hown, hts⟩, hK, hN, -⟩ := id C
  have hl : lv_has ls 4 [(0, .ref (a 16)), (1, .int x1)] := hl
  have hin1 := hn_X1_groundOf_1
  have hin8 := hn_X1_groundOf_8
  have hSS := hS
  rw [f_X1_groundOf] at hf
  revert hP hS
  suffices hsuf : ∀ (H : Heap) (locs : List Loc), va_P D vwCl (wX cI cZ a S) H → va_S (xA a) s.heap H locs → W p l e rmX1_groundOf s m args below meth c H locs 0 0 (MQ below (tQi D (wX cI cZ a) (xA a) S o) args s 0 0 (xA a)) (F0 m 0 ls []) from fun hP hS => hsuf s.heap [] hP hS
  intro H locs hP hS
  refine lv_iconst (v := (0 : Int32)) hx hb dX1_groundOf_0 (by decide) ?_
  refine lv_istore_n (lv' := [(2, .int (0 : Int32)), (0, .ref (a 16)), (1, .int x1)]) hx hb dX1_groundOf_1 rfl hl (Nat.le_of_ble_eq_true rfl) rfl (fun ls hl => ?_)
  refine lv_aload_n hx hb dX1_groundOf_2 rfl (lv_at hl 1 rfl) ?_
  refine gx_1_1 C hin1 hP (List.mem_of_getElem? (i := 1) rfl) dX1_groundOf_3 ?_
  refine gxn_8_3 C hin8 hP (i := 13) rfl dX1_groundOf_6 ?_
  refine lv_istore_n (lv' := [(3, .int (S.1 10)), (2, .int (0 : Int32)), (0, .ref (a 16)), (1, .int x1)]) hx hb dX1_groundOf_9 rfl hl (Nat.le_of_ble_eq_true rfl) rfl (fun ls hl => ?_)
  obtain ⟨o10, hc10, hf⟩ := ob hf
  refine lp_X1_groundOf_10 C (fun H locs ls hP hS hl => ?_) fuel _ _ hc10 H locs ls hP hS (lv_sub hl [2, 3, 1, 0] rfl)
  refine lv_iload_n hx hb dX1_groundOf_40 rfl (lv_at hl 0 rfl) ?_
  obtain rfl := Option.some.inj hf
  exact tRet_i C hr hlk hP hS dX1_groundOf_41
def rmX1_madeByOne : Room := { frames := 3, cells := 0, slots := 0, locals := 65 }
theorem hn_X1_madeByOne_1 : ∀ w ∈ wsX10, w ∈ wsX1_madeByOne := fun w h => List.mem_cons_of_mem _ (List.mem_append_left _ (List.mem_append_left _ (List.mem_append_right _ h)))
theorem hn_X1_madeByOne_8 : ∀ w ∈ wsX80, w ∈ wsX1_madeByOne := fun w h => List.mem_cons_of_mem _ (List.mem_append_left _ (List.mem_append_right _ h))
theorem hd_X1_madeByOne : yX1_madeByOne.cls ≠ "java/lang/invoke/MethodHandle" ∧ yX1_madeByOne.cls ≠ "java/lang/invoke/VarHandle" ∧ (parseMethodDescriptor yX1_madeByOne.desc).map (fun d => d.parameters.length) = some 2 := by decide +kernel
set_option maxHeartbeats 4000000 in
set_option maxRecDepth 100000 in
theorem c_X1_madeByOne (l : Launch) {D : va_G} {cI cZ : ClassId} {a : Nat → Nat} (hA : ∀ S : St, va_D (xA a) (wX cI cZ a S)) {x1 : Int32} {x2 : Int32} {S : St} {o : Int32} (hf : f_X1_madeByOne x1 x2 S = some o) : Met l yX1_madeByOne wsX1_madeByOne rmX1_madeByOne (tPc D cI cZ (wX cI cZ a) S ([.ref (a 16), .int x1, .int x2] : List Value)) (tQi D (wX cI cZ a) (xA a) S o) 0 0 (xA a) := by
  refine tEnter (cc := cX1_madeByOne) (maxL := 3) (ret := (some .int)) (own := RX1) hA rfl (by decide) rfl (Nat.le_of_ble_eq_true rfl) (fun p e s m args below meth c C hr hlk hP hS ls hl => ?_)
  obtain ⟨⟨hx, hb, hml, hown, hts⟩, hK, hN, -⟩ := id C
  have hl : lv_has ls 3 [(0, .ref (a 16)), (1, .int x1), (2, .int x2)] := hl
  have hin1 := hn_X1_madeByOne_1
  have hin8 := hn_X1_madeByOne_8
  have hSS := hS
  rw [f_X1_madeByOne] at hf
  revert hP hS
  suffices hsuf : ∀ (H : Heap) (locs : List Loc), va_P D vwCl (wX cI cZ a S) H → va_S (xA a) s.heap H locs → W p l e rmX1_madeByOne s m args below meth c H locs 0 0 (MQ below (tQi D (wX cI cZ a) (xA a) S o) args s 0 0 (xA a)) (F0 m 0 ls []) from fun hP hS => hsuf s.heap [] hP hS
  intro H locs hP hS
  refine lv_iload_n hx hb dX1_madeByOne_0 rfl (lv_at hl 1 rfl) ?_
  by_cases c1 : x1 = (0 : Int32)
  · have hf := if_p hf c1
    refine lv_tableIn (tgt := 28) hx hb dX1_madeByOne_1 (by rw [c1]; decide) (by rw [c1]; decide) (by first | (rw [c1]; done) | (rw [c1]; rfl)) (by decide) ?_
    refine lv_iload_n hx hb dX1_madeByOne_28 rfl (lv_at hl 2 rfl) ?_
    refine lv_aload_n hx hb dX1_madeByOne_29 rfl (lv_at hl 0 rfl) ?_
    refine gx_1_1 C hin1 hP (List.mem_of_getElem? (i := 1) rfl) dX1_madeByOne_30 ?_
    refine gxn_8_6 C hin8 hP (i := 18) rfl dX1_madeByOne_33 ?_
    refine lv_imul hx hb dX1_madeByOne_36 ?_
    obtain rfl := Option.some.inj hf
    exact tRet_i C hr hlk hP hS dX1_madeByOne_37
  have hf := if_n hf c1
  by_cases c2 : x1 = (1 : Int32)
  · have hf := if_p hf c2
    refine lv_tableIn (tgt := 38) hx hb dX1_madeByOne_1 (by rw [c2]; decide) (by rw [c2]; decide) (by first | (rw [c2]; done) | (rw [c2]; rfl)) (by decide) ?_
    refine lv_aload_n hx hb dX1_madeByOne_38 rfl (lv_at hl 0 rfl) ?_
    refine lv_iload_n hx hb dX1_madeByOne_39 rfl (lv_at hl 2 rfl) ?_
    obtain ⟨r40, hc40, hf⟩ := ob hf
    refine tCallVi (As := [.int x2]) (rest := []) (q0 := 16) (ci := 1) C hP hS rfl rfl (c_X1_groundOf l C.2.2.2 hc40) (cwV 1 hts gX1_madeByOne_X1_groundOf rfl rfl rfl ⟨rfl, hd_X1_groundOf⟩ ⟨Nat.le_of_ble_eq_true rfl, Nat.le_of_ble_eq_true rfl⟩) rfl hl rfl (Nat.le_of_ble_eq_true rfl) dX1_madeByOne_40 ⟨Nat.le_refl 0, Nat.le_refl 0⟩ (fun H locs hP hS => ?_)
    obtain rfl := Option.some.inj hf
    exact tRet_i C hr hlk hP hS dX1_madeByOne_43
  have hf := if_n hf c2
  by_cases c3 : x1 = (2 : Int32)
  · have hf := if_p hf c3
    refine lv_tableIn (tgt := 44) hx hb dX1_madeByOne_1 (by rw [c3]; decide) (by rw [c3]; decide) (by first | (rw [c3]; done) | (rw [c3]; rfl)) (by decide) ?_
    refine lv_iload_n hx hb dX1_madeByOne_44 rfl (lv_at hl 2 rfl) ?_
    refine lv_aload_n hx hb dX1_madeByOne_45 rfl (lv_at hl 0 rfl) ?_
    refine gx_1_0 C hin1 hP (List.mem_of_getElem? (i := 2) rfl) dX1_madeByOne_46 ?_
    refine lv_aload_n hx hb dX1_madeByOne_49 rfl (lv_at hl 0 rfl) ?_
    refine gx_1_1 C hin1 hP (List.mem_of_getElem? (i := 1) rfl) dX1_madeByOne_50 ?_
    refine gxn_8_5 C hin8 hP (i := 16) rfl dX1_madeByOne_53 ?_
    obtain ⟨r56, hc56, hf⟩ := ob hf
    refine tCallVi (As := [.int (S.1 12)]) (rest := [.int x2]) (q0 := 3) (ci := 3) C hP hS rfl rfl (c_X3_bentOf l C.2.2.2 hc56) (cwV 1 hts gX1_madeByOne_X3_bentOf rfl rfl rfl ⟨rfl, hd_X3_bentOf⟩ ⟨Nat.le_of_ble_eq_true rfl, Nat.le_of_ble_eq_true rfl⟩) rfl hl rfl (Nat.le_of_ble_eq_true rfl) dX1_madeByOne_56 ⟨Nat.le_refl 0, Nat.le_refl 0⟩ (fun H locs hP hS => ?_)
    refine lv_imul hx hb dX1_madeByOne_59 ?_
    obtain rfl := Option.some.inj hf
    exact tRet_i C hr hlk hP hS dX1_madeByOne_60
  have hf := if_n hf c3
  refine lv_tableOut (tgt := 61) hx hb dX1_madeByOne_1 (by have q1 := lv_neT (a := 0) c1 (by decide); have q2 := lv_neT (a := 1) c2 (by decide); have q3 := lv_neT (a := 2) c3 (by decide); omega) (by decide) ?_
  refine lv_iload_n hx hb dX1_madeByOne_61 rfl (lv_at hl 2 rfl) ?_
  refine lv_ineg hx hb dX1_madeByOne_62 ?_
  refine lv_aload_n hx hb dX1_madeByOne_63 rfl (lv_at hl 0 rfl) ?_
  refine gx_1_1 C hin1 hP (List.mem_of_getElem? (i := 1) rfl) dX1_madeByOne_64 ?_
  refine gxn_8_7 C hin8 hP (i := 20) rfl dX1_madeByOne_67 ?_
  refine lv_imul hx hb dX1_madeByOne_70 ?_
  obtain rfl := Option.some.inj hf
  exact tRet_i C hr hlk hP hS dX1_madeByOne_71
def rmX1_madeBy : Room := { frames := 4, cells := 0, slots := 0, locals := 87 }
theorem hd_X1_madeBy : yX1_madeBy.cls ≠ "java/lang/invoke/MethodHandle" ∧ yX1_madeBy.cls ≠ "java/lang/invoke/VarHandle" ∧ (parseMethodDescriptor yX1_madeBy.desc).map (fun d => d.parameters.length) = some 2 := by decide +kernel
set_option maxHeartbeats 4000000 in
set_option maxRecDepth 100000 in
theorem lp_X1_madeBy_5 {p : Program} {l : Launch} {e : Env} {s : State} {m : MethodId} {args : Array Value} {below : List Frame} {meth : Method} {c : Code} {D : va_G} {cI cZ : ClassId} {a : Nat → Nat} {Q : State → Prop} {H0 : Heap} {x1 : Int32} {x2 : Int32} {S : St} {o : Int32}
    (C : tC p c s m args cX1_madeBy 5 RX1 wsX1_madeBy D cI cZ (wX cI cZ a) (xA a))
    (K0 : ∀ (H : Heap) (locs : List Loc) (ls : Array Slot), va_P D vwCl (wX cI cZ a S) H → va_S (xA a) H0 H locs → lv_has ls 5 [(3, .int o)] → W p l e rmX1_madeBy s m args below meth c H locs 0 0 Q (F0 m 37 ls [])) :
    ∀ (n : Nat) (x3 : Int32) (x4 : Int32), l_X1_madeBy_5 x1 x2 S n x3 x4 = some o → ∀ (H : Heap) (locs : List Loc) (ls : Array Slot), va_P D vwCl (wX cI cZ a S) H → va_S (xA a) H0 H locs → lv_has ls 5 [(0, .ref (a 16)), (1, .int x1), (2, .int x2), (3, .int x3), (4, .int x4)] → W p l e rmX1_madeBy s m args below meth c H locs 0 0 Q (F0 m 5 ls []) := by
  obtain ⟨⟨hx, hb, hml, hown, hts⟩, hK, hN, hA⟩ := id C
  intro n
  induction n with
  | zero =>
    intro x3 x4 hf
    rw [l_X1_madeBy_5] at hf
    cases hf
  | succ n ih =>
    intro x3 x4 hf H locs ls hP hS hl
    rw [l_X1_madeBy_5] at hf
    refine lv_iload hx hb dX1_madeBy_5 (lv_at hl 4 rfl) ?_
    refine lv_iconst (v := (4 : Int32)) hx hb dX1_madeBy_7 (by decide) ?_
    refine lv_icmp_ge (tgt := 37) hx hb dX1_madeBy_8 (by decide) (fun c1 => ?_) (fun c1 => ?_)
    · have hf := if_p hf c1
      obtain rfl := Option.some.inj hf
      exact K0 H locs ls hP hS (lv_sub hl [3] rfl)
    · have hf := if_n hf c1
      refine lv_iload_n hx hb dX1_madeBy_11 rfl (lv_at hl 1 rfl) ?_
      refine lv_iload hx hb dX1_madeBy_12 (lv_at hl 4 rfl) ?_
      refine lv_ishr hx hb dX1_madeBy_14 ?_
      refine lv_iconst (v := (1 : Int32)) hx hb dX1_madeBy_15 (by decide) ?_
      refine lv_iand hx hb dX1_madeBy_16 ?_
      refine lv_iconst (v := (1 : Int32)) hx hb dX1_madeBy_17 (by decide) ?_
      refine lv_icmp_ne (tgt := 31) hx hb dX1_madeBy_18 (by decide) (fun c2 => ?_) (fun c2 => ?_)
      · have hf := if_n hf c2
        refine lv_iinc (v := (x4 + 1)) (lv' := [(4, .int (x4 + 1)), (0, .ref (a 16)), (1, .int x1), (2, .int x2), (3, .int x3)]) hx hb dX1_madeBy_31 hl (k := 4) rfl rfl (Nat.le_of_ble_eq_true rfl) rfl (fun ls hl => ?_)
        refine lv_goto (tgt := 5) hx hb dX1_madeBy_34 (by decide) ?_
        exact ih _ _ hf H locs ls hP hS (lv_sub hl [1, 2, 3, 4, 0] rfl)
      · have hf := if_p hf c2
        refine lv_iload_n hx hb dX1_madeBy_21 rfl (lv_at hl 3 rfl) ?_
        refine lv_aload_n hx hb dX1_madeBy_22 rfl (lv_at hl 0 rfl) ?_
        refine lv_iload hx hb dX1_madeBy_23 (lv_at hl 4 rfl) ?_
        refine lv_iload_n hx hb dX1_madeBy_25 rfl (lv_at hl 2 rfl) ?_
        obtain ⟨r26, hc26, hf⟩ := ob hf
        refine tCallVi (As := [.int x4, .int x2]) (rest := [.int x3]) (q0 := 16) (ci := 1) C hP hS rfl rfl (c_X1_madeByOne l C.2.2.2 hc26) (cwV 2 hts gX1_madeBy_X1_madeByOne rfl rfl rfl ⟨rfl, hd_X1_madeByOne⟩ ⟨Nat.le_of_ble_eq_true rfl, Nat.le_of_ble_eq_true rfl⟩) rfl hl rfl (Nat.le_of_ble_eq_true rfl) dX1_madeBy_26 ⟨Nat.le_refl 0, Nat.le_refl 0⟩ (fun H locs hP hS => ?_)
        refine lv_iadd hx hb dX1_madeBy_29 ?_
        refine lv_istore_n (lv' := [(3, .int (x3 + r26)), (0, .ref (a 16)), (1, .int x1), (2, .int x2), (4, .int x4)]) hx hb dX1_madeBy_30 rfl hl (Nat.le_of_ble_eq_true rfl) rfl (fun ls hl => ?_)
        refine lv_iinc (v := (x4 + 1)) (lv' := [(4, .int (x4 + 1)), (3, .int (x3 + r26)), (0, .ref (a 16)), (1, .int x1), (2, .int x2)]) hx hb dX1_madeBy_31 hl (k := 4) rfl rfl (Nat.le_of_ble_eq_true rfl) rfl (fun ls hl => ?_)
        refine lv_goto (tgt := 5) hx hb dX1_madeBy_34 (by decide) ?_
        exact ih _ _ hf H locs ls hP hS (lv_sub hl [2, 3, 4, 1, 0] rfl)
set_option maxHeartbeats 4000000 in
set_option maxRecDepth 100000 in
theorem c_X1_madeBy (l : Launch) {D : va_G} {cI cZ : ClassId} {a : Nat → Nat} (hA : ∀ S : St, va_D (xA a) (wX cI cZ a S)) {x1 : Int32} {x2 : Int32} {S : St} {o : Int32} (hf : f_X1_madeBy x1 x2 S = some o) : Met l yX1_madeBy wsX1_madeBy rmX1_madeBy (tPc D cI cZ (wX cI cZ a) S ([.ref (a 16), .int x1, .int x2] : List Value)) (tQi D (wX cI cZ a) (xA a) S o) 0 0 (xA a) := by
  refine tEnter (cc := cX1_madeBy) (maxL := 5) (ret := (some .int)) (own := RX1) hA rfl (by decide) rfl (Nat.le_of_ble_eq_true rfl) (fun p e s m args below meth c C hr hlk hP hS ls hl => ?_)
  obtain ⟨⟨hx, hb, hml, hown, hts⟩, hK, hN, -⟩ := id C
  have hl : lv_has ls 5 [(0, .ref (a 16)), (1, .int x1), (2, .int x2)] := hl
  have hSS := hS
  rw [f_X1_madeBy] at hf
  revert hP hS
  suffices hsuf : ∀ (H : Heap) (locs : List Loc), va_P D vwCl (wX cI cZ a S) H → va_S (xA a) s.heap H locs → W p l e rmX1_madeBy s m args below meth c H locs 0 0 (MQ below (tQi D (wX cI cZ a) (xA a) S o) args s 0 0 (xA a)) (F0 m 0 ls []) from fun hP hS => hsuf s.heap [] hP hS
  intro H locs hP hS
  refine lv_iconst (v := (0 : Int32)) hx hb dX1_madeBy_0 (by decide) ?_
  refine lv_istore_n (lv' := [(3, .int (0 : Int32)), (0, .ref (a 16)), (1, .int x1), (2, .int x2)]) hx hb dX1_madeBy_1 rfl hl (Nat.le_of_ble_eq_true rfl) rfl (fun ls hl => ?_)
  refine lv_iconst (v := (0 : Int32)) hx hb dX1_madeBy_2 (by decide) ?_
  refine lv_istore (lv' := [(4, .int (0 : Int32)), (3, .int (0 : Int32)), (0, .ref (a 16)), (1, .int x1), (2, .int x2)]) hx hb dX1_madeBy_3 hl (Nat.le_of_ble_eq_true rfl) rfl (fun ls hl => ?_)
  obtain ⟨o5, hc5, hf⟩ := ob hf
  refine lp_X1_madeBy_5 C (fun H locs ls hP hS hl => ?_) fuel _ _ hc5 H locs ls hP hS (lv_sub hl [2, 3, 4, 1, 0] rfl)
  refine lv_iload_n hx hb dX1_madeBy_37 rfl (lv_at hl 0 rfl) ?_
  refine va_mabs hx hb (hml.trans hl.1.symm) hown (hts _ (List.mem_of_getElem? (i := 1) rfl)) (hts _ (List.mem_of_getElem? (i := 2) rfl)) (hts _ (List.mem_of_getElem? (i := 3) rfl)) (hts _ (List.mem_of_getElem? (i := 4) rfl)) (Nat.le_of_ble_eq_true rfl) (Nat.le_of_ble_eq_true rfl) (Nat.le_refl 0) (Nat.le_refl 0) dX1_madeBy_38 ?_
  obtain rfl := Option.some.inj hf
  exact tRet_i C hr hlk hP hS dX1_madeBy_41
def rmX1_ordersAround : Room := { frames := 0, cells := 0, slots := 0, locals := 0 }
theorem hd_X1_ordersAround : yX1_ordersAround.cls ≠ "java/lang/invoke/MethodHandle" ∧ yX1_ordersAround.cls ≠ "java/lang/invoke/VarHandle" ∧ (parseMethodDescriptor yX1_ordersAround.desc).map (fun d => d.parameters.length) = some 1 := by decide +kernel
set_option maxHeartbeats 4000000 in
set_option maxRecDepth 100000 in
theorem c_X1_ordersAround (l : Launch) {D : va_G} {cI cZ : ClassId} {a : Nat → Nat} (hA : ∀ S : St, va_D (xA a) (wX cI cZ a S)) {x0 : Int32} {S : St} {o : Int32} (hf : f_X1_ordersAround x0 = some o) : Met l yX1_ordersAround wsX1_ordersAround rmX1_ordersAround (tPc D cI cZ (wX cI cZ a) S ([.int x0] : List Value)) (tQi D (wX cI cZ a) (xA a) S o) 0 0 (xA a) := by
  refine tEnter (cc := cX1_ordersAround) (maxL := 1) (ret := (some .int)) (own := RX1) hA rfl (by decide) rfl (Nat.le_of_ble_eq_true rfl) (fun p e s m args below meth c C hr hlk hP hS ls hl => ?_)
  obtain ⟨⟨hx, hb, hml, hown, hts⟩, hK, hN, -⟩ := id C
  have hl : lv_has ls 1 [(0, .int x0)] := hl
  have hSS := hS
  rw [f_X1_ordersAround] at hf
  revert hP hS
  suffices hsuf : ∀ (H : Heap) (locs : List Loc), va_P D vwCl (wX cI cZ a S) H → va_S (xA a) s.heap H locs → W p l e rmX1_ordersAround s m args below meth c H locs 0 0 (MQ below (tQi D (wX cI cZ a) (xA a) S o) args s 0 0 (xA a)) (F0 m 0 ls []) from fun hP hS => hsuf s.heap [] hP hS
  intro H locs hP hS
  refine lv_iload_n hx hb dX1_ordersAround_0 rfl (lv_at hl 0 rfl) ?_
  refine lv_if_eq (tgt := 9) hx hb dX1_ordersAround_1 (by decide) (fun c1 => ?_) (fun c1 => ?_)
  · have hf := if_p hf c1
    refine lv_bipush (v := (6 : Int32)) hx hb dX1_ordersAround_9 (by decide) ?_
    refine lv_goto (tgt := 15) hx hb dX1_ordersAround_11 (by decide) ?_
    obtain rfl := Option.some.inj hf
    exact tRet_i C hr hlk hP hS dX1_ordersAround_15
  · have hf := if_n hf c1
    refine lv_iload_n hx hb dX1_ordersAround_4 rfl (lv_at hl 0 rfl) ?_
    refine lv_iconst (v := (3 : Int32)) hx hb dX1_ordersAround_5 (by decide) ?_
    refine lv_icmp_ne (tgt := 14) hx hb dX1_ordersAround_6 (by decide) (fun c2 => ?_) (fun c2 => ?_)
    · have hf := if_n hf c2
      refine lv_iconst (v := (2 : Int32)) hx hb dX1_ordersAround_14 (by decide) ?_
      obtain rfl := Option.some.inj hf
      exact tRet_i C hr hlk hP hS dX1_ordersAround_15
    · have hf := if_p hf c2
      refine lv_bipush (v := (6 : Int32)) hx hb dX1_ordersAround_9 (by decide) ?_
      refine lv_goto (tgt := 15) hx hb dX1_ordersAround_11 (by decide) ?_
      obtain rfl := Option.some.inj hf
      exact tRet_i C hr hlk hP hS dX1_ordersAround_15
def rmX1_shareIn24ths : Room := { frames := 5, cells := 0, slots := 0, locals := 111 }
theorem hd_X1_shareIn24ths : yX1_shareIn24ths.cls ≠ "java/lang/invoke/MethodHandle" ∧ yX1_shareIn24ths.cls ≠ "java/lang/invoke/VarHandle" ∧ (parseMethodDescriptor yX1_shareIn24ths.desc).map (fun d => d.parameters.length) = some 2 := by decide +kernel
set_option maxHeartbeats 4000000 in
set_option maxRecDepth 100000 in
theorem lp_X1_shareIn24ths_5 {p : Program} {l : Launch} {e : Env} {s : State} {m : MethodId} {args : Array Value} {below : List Frame} {meth : Method} {c : Code} {D : va_G} {cI cZ : ClassId} {a : Nat → Nat} {Q : State → Prop} {H0 : Heap} {x1 : Int32} {x2 : Int32} {S : St} {o : Int32}
    (C : tC p c s m args cX1_shareIn24ths 6 RX1 wsX1_shareIn24ths D cI cZ (wX cI cZ a) (xA a))
    (K0 : ∀ (H : Heap) (locs : List Loc) (ls : Array Slot), va_P D vwCl (wX cI cZ a S) H → va_S (xA a) H0 H locs → lv_has ls 6 [(3, .int o)] → W p l e rmX1_shareIn24ths s m args below meth c H locs 0 0 Q (F0 m 62 ls [])) :
    ∀ (n : Nat) (x3 : Int32) (x4 : Int32), l_X1_shareIn24ths_5 x1 x2 S n x3 x4 = some o → ∀ (H : Heap) (locs : List Loc) (ls : Array Slot), va_P D vwCl (wX cI cZ a S) H → va_S (xA a) H0 H locs → lv_has ls 6 [(0, .ref (a 16)), (1, .int x1), (2, .int x2), (3, .int x3), (4, .int x4)] → W p l e rmX1_shareIn24ths s m args below meth c H locs 0 0 Q (F0 m 5 ls []) := by
  obtain ⟨⟨hx, hb, hml, hown, hts⟩, hK, hN, hA⟩ := id C
  intro n
  induction n with
  | zero =>
    intro x3 x4 hf
    rw [l_X1_shareIn24ths_5] at hf
    cases hf
  | succ n ih =>
    intro x3 x4 hf H locs ls hP hS hl
    rw [l_X1_shareIn24ths_5] at hf
    refine lv_iload hx hb dX1_shareIn24ths_5 (lv_at hl 4 rfl) ?_
    refine lv_bipush (v := (16 : Int32)) hx hb dX1_shareIn24ths_7 (by decide) ?_
    refine lv_icmp_ge (tgt := 62) hx hb dX1_shareIn24ths_9 (by decide) (fun c1 => ?_) (fun c1 => ?_)
    · have hf := if_p hf c1
      obtain rfl := Option.some.inj hf
      exact K0 H locs ls hP hS (lv_sub hl [3] rfl)
    · have hf := if_n hf c1
      refine lv_iload hx hb dX1_shareIn24ths_12 (lv_at hl 4 rfl) ?_
      refine lv_iload_n hx hb dX1_shareIn24ths_14 rfl (lv_at hl 1 rfl) ?_
      refine lv_ishr hx hb dX1_shareIn24ths_15 ?_
      refine lv_iconst (v := (1 : Int32)) hx hb dX1_shareIn24ths_16 (by decide) ?_
      refine lv_iand hx hb dX1_shareIn24ths_17 ?_
      refine lv_if_ne (tgt := 56) hx hb dX1_shareIn24ths_18 (by decide) (fun c2 => ?_) (fun c2 => ?_)
      · have hf := if_n hf c2
        refine lv_iinc (v := (x4 + 1)) (lv' := [(4, .int (x4 + 1)), (0, .ref (a 16)), (1, .int x1), (2, .int x2), (3, .int x3)]) hx hb dX1_shareIn24ths_56 hl (k := 4) rfl rfl (Nat.le_of_ble_eq_true rfl) rfl (fun ls hl => ?_)
        refine lv_goto (tgt := 5) hx hb dX1_shareIn24ths_59 (by decide) ?_
        exact ih _ _ hf H locs ls hP hS (lv_sub hl [1, 2, 3, 4, 0] rfl)
      · have hf := if_p hf c2
        refine lv_aload_n hx hb dX1_shareIn24ths_21 rfl (lv_at hl 0 rfl) ?_
        refine lv_iload hx hb dX1_shareIn24ths_22 (lv_at hl 4 rfl) ?_
        refine lv_iconst (v := (1 : Int32)) hx hb dX1_shareIn24ths_24 (by decide) ?_
        refine lv_iload_n hx hb dX1_shareIn24ths_25 rfl (lv_at hl 1 rfl) ?_
        refine lv_ishl hx hb dX1_shareIn24ths_26 ?_
        refine lv_ior hx hb dX1_shareIn24ths_27 ?_
        refine lv_iload_n hx hb dX1_shareIn24ths_28 rfl (lv_at hl 2 rfl) ?_
        obtain ⟨r29, hc29, hf⟩ := ob hf
        refine tCallVi (As := [.int (x4 ||| ((1 : Int32) <<< (x1 &&& 31))), .int x2]) (rest := []) (q0 := 16) (ci := 1) C hP hS rfl rfl (c_X1_madeBy l C.2.2.2 hc29) (cwV 2 hts gX1_shareIn24ths_X1_madeBy rfl rfl rfl ⟨rfl, hd_X1_madeBy⟩ ⟨Nat.le_of_ble_eq_true rfl, Nat.le_of_ble_eq_true rfl⟩) rfl hl rfl (Nat.le_of_ble_eq_true rfl) dX1_shareIn24ths_29 ⟨Nat.le_refl 0, Nat.le_refl 0⟩ (fun H locs hP hS => ?_)
        refine lv_aload_n hx hb dX1_shareIn24ths_32 rfl (lv_at hl 0 rfl) ?_
        refine lv_iload hx hb dX1_shareIn24ths_33 (lv_at hl 4 rfl) ?_
        refine lv_iload_n hx hb dX1_shareIn24ths_35 rfl (lv_at hl 2 rfl) ?_
        obtain ⟨r36, hc36, hf⟩ := ob hf
        refine tCallVi (As := [.int x4, .int x2]) (rest := [.int r29]) (q0 := 16) (ci := 1) C hP hS rfl rfl (c_X1_madeBy l C.2.2.2 hc36) (cwV 2 hts gX1_shareIn24ths_X1_madeBy rfl rfl rfl ⟨rfl, hd_X1_madeBy⟩ ⟨Nat.le_of_ble_eq_true rfl, Nat.le_of_ble_eq_true rfl⟩) rfl hl rfl (Nat.le_of_ble_eq_true rfl) dX1_shareIn24ths_36 ⟨Nat.le_refl 0, Nat.le_refl 0⟩ (fun H locs hP hS => ?_)
        refine lv_isub hx hb dX1_shareIn24ths_39 ?_
        refine lv_istore (lv' := [(5, .int (r29 - r36)), (0, .ref (a 16)), (1, .int x1), (2, .int x2), (3, .int x3), (4, .int x4)]) hx hb dX1_shareIn24ths_40 hl (Nat.le_of_ble_eq_true rfl) rfl (fun ls hl => ?_)
        refine lv_iload_n hx hb dX1_shareIn24ths_42 rfl (lv_at hl 4 rfl) ?_
        refine lv_iload hx hb dX1_shareIn24ths_43 (lv_at hl 5 rfl) ?_
        obtain ⟨r45, hc45, hf⟩ := ob hf
        refine tCallSi (As := [.int x4]) (rest := [.int x3]) C hP hS (c_J6_bitCount_0f7a4 l C.2.2.2 hc45) (va_cwS 1 hts gX1_shareIn24ths_J6_bitCount_0f7a4 rfl rfl rfl hd_J6_bitCount_0f7a4 ⟨Nat.le_of_ble_eq_true rfl, Nat.le_of_ble_eq_true rfl⟩) rfl hl rfl (Nat.le_of_ble_eq_true rfl) dX1_shareIn24ths_45 ⟨Nat.le_refl 0, Nat.le_refl 0⟩ (fun H locs hP hS => ?_)
        obtain ⟨r48, hc48, hf⟩ := ob hf
        refine tCallSi (As := [.int r45]) (rest := [.int x3]) C hP hS (c_X1_ordersAround l C.2.2.2 hc48) (va_cwS 1 hts gX1_shareIn24ths_X1_ordersAround rfl rfl rfl hd_X1_ordersAround ⟨Nat.le_of_ble_eq_true rfl, Nat.le_of_ble_eq_true rfl⟩) rfl hl rfl (Nat.le_of_ble_eq_true rfl) dX1_shareIn24ths_48 ⟨Nat.le_refl 0, Nat.le_refl 0⟩ (fun H locs hP hS => ?_)
        refine lv_iload hx hb dX1_shareIn24ths_51 (lv_at hl 0 rfl) ?_
        refine lv_imul hx hb dX1_shareIn24ths_53 ?_
        refine lv_iadd hx hb dX1_shareIn24ths_54 ?_
        refine lv_istore_n (lv' := [(3, .int (x3 + (r48 * (r29 - r36)))), (5, .int (r29 - r36)), (0, .ref (a 16)), (1, .int x1), (2, .int x2), (4, .int x4)]) hx hb dX1_shareIn24ths_55 rfl hl (Nat.le_of_ble_eq_true rfl) rfl (fun ls hl => ?_)
        refine lv_iinc (v := (x4 + 1)) (lv' := [(4, .int (x4 + 1)), (3, .int (x3 + (r48 * (r29 - r36)))), (5, .int (r29 - r36)), (0, .ref (a 16)), (1, .int x1), (2, .int x2)]) hx hb dX1_shareIn24ths_56 hl (k := 5) rfl rfl (Nat.le_of_ble_eq_true rfl) rfl (fun ls hl => ?_)
        refine lv_goto (tgt := 5) hx hb dX1_shareIn24ths_59 (by decide) ?_
        exact ih _ _ hf H locs ls hP hS (lv_sub hl [3, 4, 5, 1, 0] rfl)
set_option maxHeartbeats 4000000 in
set_option maxRecDepth 100000 in
theorem c_X1_shareIn24ths (l : Launch) {D : va_G} {cI cZ : ClassId} {a : Nat → Nat} (hA : ∀ S : St, va_D (xA a) (wX cI cZ a S)) {x1 : Int32} {x2 : Int32} {S : St} {o : Int32} (hf : f_X1_shareIn24ths x1 x2 S = some o) : Met l yX1_shareIn24ths wsX1_shareIn24ths rmX1_shareIn24ths (tPc D cI cZ (wX cI cZ a) S ([.ref (a 16), .int x1, .int x2] : List Value)) (tQi D (wX cI cZ a) (xA a) S o) 0 0 (xA a) := by
  refine tEnter (cc := cX1_shareIn24ths) (maxL := 6) (ret := (some .int)) (own := RX1) hA rfl (by decide) rfl (Nat.le_of_ble_eq_true rfl) (fun p e s m args below meth c C hr hlk hP hS ls hl => ?_)
  obtain ⟨⟨hx, hb, hml, hown, hts⟩, hK, hN, -⟩ := id C
  have hl : lv_has ls 6 [(0, .ref (a 16)), (1, .int x1), (2, .int x2)] := hl
  have hSS := hS
  rw [f_X1_shareIn24ths] at hf
  revert hP hS
  suffices hsuf : ∀ (H : Heap) (locs : List Loc), va_P D vwCl (wX cI cZ a S) H → va_S (xA a) s.heap H locs → W p l e rmX1_shareIn24ths s m args below meth c H locs 0 0 (MQ below (tQi D (wX cI cZ a) (xA a) S o) args s 0 0 (xA a)) (F0 m 0 ls []) from fun hP hS => hsuf s.heap [] hP hS
  intro H locs hP hS
  refine lv_iconst (v := (0 : Int32)) hx hb dX1_shareIn24ths_0 (by decide) ?_
  refine lv_istore_n (lv' := [(3, .int (0 : Int32)), (0, .ref (a 16)), (1, .int x1), (2, .int x2)]) hx hb dX1_shareIn24ths_1 rfl hl (Nat.le_of_ble_eq_true rfl) rfl (fun ls hl => ?_)
  refine lv_iconst (v := (0 : Int32)) hx hb dX1_shareIn24ths_2 (by decide) ?_
  refine lv_istore (lv' := [(4, .int (0 : Int32)), (3, .int (0 : Int32)), (0, .ref (a 16)), (1, .int x1), (2, .int x2)]) hx hb dX1_shareIn24ths_3 hl (Nat.le_of_ble_eq_true rfl) rfl (fun ls hl => ?_)
  obtain ⟨o5, hc5, hf⟩ := ob hf
  refine lp_X1_shareIn24ths_5 C (fun H locs ls hP hS hl => ?_) fuel _ _ hc5 H locs ls hP hS (lv_sub hl [2, 3, 4, 1, 0] rfl)
  refine lv_iload_n hx hb dX1_shareIn24ths_62 rfl (lv_at hl 0 rfl) ?_
  obtain rfl := Option.some.inj hf
  exact tRet_i C hr hlk hP hS dX1_shareIn24ths_63
def rmX9_commonDivisor : Room := { frames := 0, cells := 0, slots := 0, locals := 0 }
theorem hd_X9_commonDivisor : yX9_commonDivisor.cls ≠ "java/lang/invoke/MethodHandle" ∧ yX9_commonDivisor.cls ≠ "java/lang/invoke/VarHandle" ∧ (parseMethodDescriptor yX9_commonDivisor.desc).map (fun d => d.parameters.length) = some 2 := by decide +kernel
set_option maxHeartbeats 4000000 in
set_option maxRecDepth 100000 in
theorem lp_X9_commonDivisor_7 {p : Program} {l : Launch} {e : Env} {s : State} {m : MethodId} {args : Array Value} {below : List Frame} {meth : Method} {c : Code} {D : va_G} {cI cZ : ClassId} {a : Nat → Nat} {Q : State → Prop} {H0 : Heap} {S : St} {o : Int32}
    (C : tC p c s m args cX9_commonDivisor 6 RX9 wsX9_commonDivisor D cI cZ (wX cI cZ a) (xA a))
    (K0 : ∀ (H : Heap) (locs : List Loc) (ls : Array Slot), va_P D vwCl (wX cI cZ a S) H → va_S (xA a) H0 H locs → lv_has ls 6 [(2, .int o)] → W p l e rmX9_commonDivisor s m args below meth c H locs 0 0 Q (F0 m 34 ls [])) :
    ∀ (n : Nat) (x2 : Int32) (x3 : Int32) (x4 : Int32), l_X9_commonDivisor_7 n x2 x3 x4 = some o → ∀ (H : Heap) (locs : List Loc) (ls : Array Slot), va_P D vwCl (wX cI cZ a S) H → va_S (xA a) H0 H locs → lv_has ls 6 [(2, .int x2), (3, .int x3), (4, .int x4)] → W p l e rmX9_commonDivisor s m args below meth c H locs 0 0 Q (F0 m 7 ls []) := by
  obtain ⟨⟨hx, hb, hml, hown, hts⟩, hK, hN, hA⟩ := id C
  intro n
  induction n with
  | zero =>
    intro x2 x3 x4 hf
    rw [l_X9_commonDivisor_7] at hf
    cases hf
  | succ n ih =>
    intro x2 x3 x4 hf H locs ls hP hS hl
    rw [l_X9_commonDivisor_7] at hf
    refine lv_iload hx hb dX9_commonDivisor_7 (lv_at hl 2 rfl) ?_
    refine lv_bipush (v := (64 : Int32)) hx hb dX9_commonDivisor_9 (by decide) ?_
    refine lv_icmp_ge (tgt := 34) hx hb dX9_commonDivisor_11 (by decide) (fun c1 => ?_) (fun c1 => ?_)
    · have hf := if_p hf c1
      obtain rfl := Option.some.inj hf
      exact K0 H locs ls hP hS (lv_sub hl [0] rfl)
    · have hf := if_n hf c1
      refine lv_iload_n hx hb dX9_commonDivisor_14 rfl (lv_at hl 1 rfl) ?_
      refine lv_if_eq (tgt := 34) hx hb dX9_commonDivisor_15 (by decide) (fun c2 => ?_) (fun c2 => ?_)
      · have hf := if_p hf c2
        obtain rfl := Option.some.inj hf
        exact K0 H locs ls hP hS (lv_sub hl [0] rfl)
      · have hf := if_n hf c2
        refine lv_iload_n hx hb dX9_commonDivisor_18 rfl (lv_at hl 0 rfl) ?_
        refine lv_iload_n hx hb dX9_commonDivisor_19 rfl (lv_at hl 1 rfl) ?_
        obtain ⟨hz3, hf⟩ := ob_ne hf
        refine lv_irem hx hb dX9_commonDivisor_20 hz3 ?_
        refine lv_istore (lv' := [(5, .int (x2 - x2 / x3 * x3)), (2, .int x2), (3, .int x3), (4, .int x4)]) hx hb dX9_commonDivisor_21 hl (Nat.le_of_ble_eq_true rfl) rfl (fun ls hl => ?_)
        refine lv_iload_n hx hb dX9_commonDivisor_23 rfl (lv_at hl 2 rfl) ?_
        refine lv_istore_n (lv' := [(2, .int x3), (5, .int (x2 - x2 / x3 * x3)), (3, .int x3), (4, .int x4)]) hx hb dX9_commonDivisor_24 rfl hl (Nat.le_of_ble_eq_true rfl) rfl (fun ls hl => ?_)
        refine lv_iload hx hb dX9_commonDivisor_25 (lv_at hl 1 rfl) ?_
        refine lv_istore_n (lv' := [(3, .int (x2 - x2 / x3 * x3)), (2, .int x3), (5, .int (x2 - x2 / x3 * x3)), (4, .int x4)]) hx hb dX9_commonDivisor_27 rfl hl (Nat.le_of_ble_eq_true rfl) rfl (fun ls hl => ?_)
        refine lv_iinc (v := (x4 + 1)) (lv' := [(4, .int (x4 + 1)), (3, .int (x2 - x2 / x3 * x3)), (2, .int x3), (5, .int (x2 - x2 / x3 * x3))]) hx hb dX9_commonDivisor_28 hl (k := 3) rfl rfl (Nat.le_of_ble_eq_true rfl) rfl (fun ls hl => ?_)
        refine lv_goto (tgt := 7) hx hb dX9_commonDivisor_31 (by decide) ?_
        exact ih _ _ _ hf H locs ls hP hS (lv_sub hl [2, 1, 0] rfl)
set_option maxHeartbeats 4000000 in
set_option maxRecDepth 100000 in
theorem c_X9_commonDivisor (l : Launch) {D : va_G} {cI cZ : ClassId} {a : Nat → Nat} (hA : ∀ S : St, va_D (xA a) (wX cI cZ a S)) {x0 : Int32} {x1 : Int32} {S : St} {o : Int32} (hf : f_X9_commonDivisor x0 x1 = some o) : Met l yX9_commonDivisor wsX9_commonDivisor rmX9_commonDivisor (tPc D cI cZ (wX cI cZ a) S ([.int x0, .int x1] : List Value)) (tQi D (wX cI cZ a) (xA a) S o) 0 0 (xA a) := by
  refine tEnter (cc := cX9_commonDivisor) (maxL := 6) (ret := (some .int)) (own := RX9) hA rfl (by decide) rfl (Nat.le_of_ble_eq_true rfl) (fun p e s m args below meth c C hr hlk hP hS ls hl => ?_)
  obtain ⟨⟨hx, hb, hml, hown, hts⟩, hK, hN, -⟩ := id C
  have hl : lv_has ls 6 [(0, .int x0), (1, .int x1)] := hl
  have hSS := hS
  rw [f_X9_commonDivisor] at hf
  revert hP hS
  suffices hsuf : ∀ (H : Heap) (locs : List Loc), va_P D vwCl (wX cI cZ a S) H → va_S (xA a) s.heap H locs → W p l e rmX9_commonDivisor s m args below meth c H locs 0 0 (MQ below (tQi D (wX cI cZ a) (xA a) S o) args s 0 0 (xA a)) (F0 m 0 ls []) from fun hP hS => hsuf s.heap [] hP hS
  intro H locs hP hS
  refine lv_iload_n hx hb dX9_commonDivisor_0 rfl (lv_at hl 0 rfl) ?_
  refine lv_istore_n (lv' := [(2, .int x0), (0, .int x0), (1, .int x1)]) hx hb dX9_commonDivisor_1 rfl hl (Nat.le_of_ble_eq_true rfl) rfl (fun ls hl => ?_)
  refine lv_iload_n hx hb dX9_commonDivisor_2 rfl (lv_at hl 2 rfl) ?_
  refine lv_istore_n (lv' := [(3, .int x1), (2, .int x0), (0, .int x0), (1, .int x1)]) hx hb dX9_commonDivisor_3 rfl hl (Nat.le_of_ble_eq_true rfl) rfl (fun ls hl => ?_)
  refine lv_iconst (v := (0 : Int32)) hx hb dX9_commonDivisor_4 (by decide) ?_
  refine lv_istore (lv' := [(4, .int (0 : Int32)), (3, .int x1), (2, .int x0), (0, .int x0), (1, .int x1)]) hx hb dX9_commonDivisor_5 hl (Nat.le_of_ble_eq_true rfl) rfl (fun ls hl => ?_)
  obtain ⟨o7, hc7, hf⟩ := ob hf
  refine lp_X9_commonDivisor_7 C (fun H locs ls hP hS hl => ?_) fuel _ _ _ hc7 H locs ls hP hS (lv_sub hl [2, 1, 0] rfl)
  refine lv_iload_n hx hb dX9_commonDivisor_34 rfl (lv_at hl 0 rfl) ?_
  obtain rfl := Option.some.inj hf
  exact tRet_i C hr hlk hP hS dX9_commonDivisor_35
def rmX9_fraction : Room := { frames := 1, cells := 0, slots := 0, locals := 25 }
theorem hd_X9_fraction : yX9_fraction.cls ≠ "java/lang/invoke/MethodHandle" ∧ yX9_fraction.cls ≠ "java/lang/invoke/VarHandle" ∧ (parseMethodDescriptor yX9_fraction.desc).map (fun d => d.parameters.length) = some 3 := by decide +kernel
set_option maxHeartbeats 4000000 in
set_option maxRecDepth 100000 in
theorem c_X9_fraction (l : Launch) {D : va_G} {cI cZ : ClassId} {a : Nat → Nat} (hA : ∀ S : St, va_D (xA a) (wX cI cZ a S)) {x0 : Int32} {x1 : Int32} {x2 : Int32} {S : St} {o : Int32} (hf : f_X9_fraction x0 x1 x2 = some o) : Met l yX9_fraction wsX9_fraction rmX9_fraction (tPc D cI cZ (wX cI cZ a) S ([.int x0, .int x1, .int x2] : List Value)) (tQi D (wX cI cZ a) (xA a) S o) 0 0 (xA a) := by
  refine tEnter (cc := cX9_fraction) (maxL := 4) (ret := (some .int)) (own := RX9) hA rfl (by decide) rfl (Nat.le_of_ble_eq_true rfl) (fun p e s m args below meth c C hr hlk hP hS ls hl => ?_)
  obtain ⟨⟨hx, hb, hml, hown, hts⟩, hK, hN, -⟩ := id C
  have hl : lv_has ls 4 [(0, .int x0), (1, .int x1), (2, .int x2)] := hl
  have hSS := hS
  rw [f_X9_fraction] at hf
  revert hP hS
  suffices hsuf : ∀ (H : Heap) (locs : List Loc), va_P D vwCl (wX cI cZ a S) H → va_S (xA a) s.heap H locs → W p l e rmX9_fraction s m args below meth c H locs 0 0 (MQ below (tQi D (wX cI cZ a) (xA a) S o) args s 0 0 (xA a)) (F0 m 0 ls []) from fun hP hS => hsuf s.heap [] hP hS
  intro H locs hP hS
  refine lv_iload_n hx hb dX9_fraction_0 rfl (lv_at hl 0 rfl) ?_
  refine va_mabs hx hb (hml.trans hl.1.symm) hown (hts _ (List.mem_of_getElem? (i := 1) rfl)) (hts _ (List.mem_of_getElem? (i := 2) rfl)) (hts _ (List.mem_of_getElem? (i := 3) rfl)) (hts _ (List.mem_of_getElem? (i := 4) rfl)) (Nat.le_of_ble_eq_true rfl) (Nat.le_of_ble_eq_true rfl) (Nat.le_refl 0) (Nat.le_refl 0) dX9_fraction_1 ?_
  refine lv_iload_n hx hb dX9_fraction_4 rfl (lv_at hl 1 rfl) ?_
  obtain ⟨r5, hc5, hf⟩ := ob hf
  refine tCallSi (As := [.int (if 0 ≤ x0 then x0 else 0 - x0), .int x1]) (rest := []) C hP hS (c_X9_commonDivisor l C.2.2.2 hc5) (va_cwS 2 hts gX9_fraction_X9_commonDivisor rfl rfl rfl hd_X9_commonDivisor ⟨Nat.le_of_ble_eq_true rfl, Nat.le_of_ble_eq_true rfl⟩) rfl hl rfl (Nat.le_of_ble_eq_true rfl) dX9_fraction_5 ⟨Nat.le_refl 0, Nat.le_refl 0⟩ (fun H locs hP hS => ?_)
  refine lv_istore_n (lv' := [(3, .int r5), (0, .int x0), (1, .int x1), (2, .int x2)]) hx hb dX9_fraction_8 rfl hl (Nat.le_of_ble_eq_true rfl) rfl (fun ls hl => ?_)
  refine lv_iload_n hx hb dX9_fraction_9 rfl (lv_at hl 0 rfl) ?_
  refine lv_if_ne (tgt := 15) hx hb dX9_fraction_10 (by decide) (fun c1 => ?_) (fun c1 => ?_)
  · have hf := if_n hf c1
    refine lv_iload_n hx hb dX9_fraction_15 rfl (lv_at hl 3 rfl) ?_
    refine lv_if_eq (tgt := 25) hx hb dX9_fraction_16 (by decide) (fun c2 => ?_) (fun c2 => ?_)
    · have hf := if_p hf c2
      refine lv_iload_n hx hb dX9_fraction_25 rfl (lv_at hl 2 rfl) ?_
      refine lv_iload_n hx hb dX9_fraction_26 rfl (lv_at hl 0 rfl) ?_
      obtain ⟨hz3, hf⟩ := ob_ne hf
      refine lv_idiv hx hb dX9_fraction_27 hz3 ?_
      obtain rfl := Option.some.inj hf
      exact tRet_i C hr hlk hP hS dX9_fraction_28
    · have hf := if_n hf c2
      refine lv_iload_n hx hb dX9_fraction_19 rfl (lv_at hl 1 rfl) ?_
      refine lv_iload_n hx hb dX9_fraction_20 rfl (lv_at hl 0 rfl) ?_
      obtain ⟨hz4, hf⟩ := ob_ne hf
      refine lv_idiv hx hb dX9_fraction_21 hz4 ?_
      refine lv_goto (tgt := 28) hx hb dX9_fraction_22 (by decide) ?_
      obtain rfl := Option.some.inj hf
      exact tRet_i C hr hlk hP hS dX9_fraction_28
  · have hf := if_p hf c1
    refine lv_iconst (v := (0 : Int32)) hx hb dX9_fraction_13 (by decide) ?_
    obtain rfl := Option.some.inj hf
    exact tRet_i C hr hlk hP hS dX9_fraction_14
def rmX9_share : Room := { frames := 6, cells := 0, slots := 0, locals := 136 }
theorem hn_X9_share_9 : ∀ w ∈ wsX90, w ∈ wsX9_share := fun w h => List.mem_cons_of_mem _ (List.mem_append_left _ (List.mem_append_left _ (List.mem_append_left _ (List.mem_append_right _ h))))
theorem hd_X9_share : yX9_share.cls ≠ "java/lang/invoke/MethodHandle" ∧ yX9_share.cls ≠ "java/lang/invoke/VarHandle" ∧ (parseMethodDescriptor yX9_share.desc).map (fun d => d.parameters.length) = some 3 := by decide +kernel
set_option maxHeartbeats 4000000 in
set_option maxRecDepth 100000 in
theorem c_X9_share (l : Launch) {D : va_G} {cI cZ : ClassId} {a : Nat → Nat} (hA : ∀ S : St, va_D (xA a) (wX cI cZ a S)) {x1 : Int32} {x2 : Int32} {x3 : Int32} {S : St} {o : Int32} (hf : f_X9_share x1 x2 x3 S = some o) : Met l yX9_share wsX9_share rmX9_share (tPc D cI cZ (wX cI cZ a) S ([.ref (a 0), .int x1, .int x2, .int x3] : List Value)) (tQi D (wX cI cZ a) (xA a) S o) 0 0 (xA a) := by
  refine tEnter (cc := cX9_share) (maxL := 4) (ret := (some .int)) (own := RX9) hA rfl (by decide) rfl (Nat.le_of_ble_eq_true rfl) (fun p e s m args below meth c C hr hlk hP hS ls hl => ?_)
  obtain ⟨⟨hx, hb, hml, hown, hts⟩, hK, hN, -⟩ := id C
  have hl : lv_has ls 4 [(0, .ref (a 0)), (1, .int x1), (2, .int x2), (3, .int x3)] := hl
  have hin9 := hn_X9_share_9
  have hSS := hS
  rw [f_X9_share] at hf
  revert hP hS
  suffices hsuf : ∀ (H : Heap) (locs : List Loc), va_P D vwCl (wX cI cZ a S) H → va_S (xA a) s.heap H locs → W p l e rmX9_share s m args below meth c H locs 0 0 (MQ below (tQi D (wX cI cZ a) (xA a) S o) args s 0 0 (xA a)) (F0 m 0 ls []) from fun hP hS => hsuf s.heap [] hP hS
  intro H locs hP hS
  refine lv_iload_n hx hb dX9_share_0 rfl (lv_at hl 1 rfl) ?_
  refine lv_if_lt (tgt := 9) hx hb dX9_share_1 (by decide) (fun c1 => ?_) (fun c1 => ?_)
  · have hf := if_p hf c1
    refine lv_iconst (v := (-1 : Int32)) hx hb dX9_share_9 (by decide) ?_
    obtain rfl := Option.some.inj hf
    exact tRet_i C hr hlk hP hS dX9_share_10
  · have hf := if_n hf c1
    refine lv_iload_n hx hb dX9_share_4 rfl (lv_at hl 1 rfl) ?_
    refine lv_iconst (v := (4 : Int32)) hx hb dX9_share_5 (by decide) ?_
    refine lv_icmp_lt (tgt := 11) hx hb dX9_share_6 (by decide) (fun c2 => ?_) (fun c2 => ?_)
    · have hf := if_p hf c2
      refine lv_aload_n hx hb dX9_share_11 rfl (lv_at hl 0 rfl) ?_
      refine gx_9_6 C hin9 hP (List.mem_of_getElem? (i := 1) rfl) dX9_share_12 ?_
      refine lv_iload_n hx hb dX9_share_15 rfl (lv_at hl 2 rfl) ?_
      obtain ⟨r16, hc16, hf⟩ := ob hf
      refine tCallVi (As := [.int x2]) (rest := []) (q0 := 16) (ci := 1) C hP hS rfl rfl (c_X1_reaches l C.2.2.2 hc16) (cwV 1 hts gX9_share_X1_reaches rfl rfl rfl ⟨rfl, hd_X1_reaches⟩ ⟨Nat.le_of_ble_eq_true rfl, Nat.le_of_ble_eq_true rfl⟩) rfl hl rfl (Nat.le_of_ble_eq_true rfl) dX9_share_16 ⟨Nat.le_refl 0, Nat.le_refl 0⟩ (fun H locs hP hS => ?_)
      refine lv_if_ne (tgt := 25) hx hb dX9_share_19 (by decide) (fun c3 => ?_) (fun c3 => ?_)
      · have hf := if_n hf c3
        refine lv_aload_n hx hb dX9_share_25 rfl (lv_at hl 0 rfl) ?_
        refine gx_9_6 C hin9 hP (List.mem_of_getElem? (i := 1) rfl) dX9_share_26 ?_
        refine lv_iload_n hx hb dX9_share_29 rfl (lv_at hl 1 rfl) ?_
        refine lv_iload_n hx hb dX9_share_30 rfl (lv_at hl 2 rfl) ?_
        obtain ⟨r31, hc31, hf⟩ := ob hf
        refine tCallVi (As := [.int x1, .int x2]) (rest := []) (q0 := 16) (ci := 1) C hP hS rfl rfl (c_X1_shareIn24ths l C.2.2.2 hc31) (cwV 2 hts gX9_share_X1_shareIn24ths rfl rfl rfl ⟨rfl, hd_X1_shareIn24ths⟩ ⟨Nat.le_of_ble_eq_true rfl, Nat.le_of_ble_eq_true rfl⟩) rfl hl rfl (Nat.le_of_ble_eq_true rfl) dX9_share_31 ⟨Nat.le_refl 0, Nat.le_refl 0⟩ (fun H locs hP hS => ?_)
        refine lv_bipush (v := (24 : Int32)) hx hb dX9_share_34 (by decide) ?_
        refine lv_iload_n hx hb dX9_share_36 rfl (lv_at hl 3 rfl) ?_
        obtain ⟨r37, hc37, hf⟩ := ob hf
        refine tCallSi (As := [.int r31, .int (24 : Int32), .int x3]) (rest := []) C hP hS (c_X9_fraction l C.2.2.2 hc37) (va_cwS 3 hts gX9_share_X9_fraction rfl rfl rfl hd_X9_fraction ⟨Nat.le_of_ble_eq_true rfl, Nat.le_of_ble_eq_true rfl⟩) rfl hl rfl (Nat.le_of_ble_eq_true rfl) dX9_share_37 ⟨Nat.le_refl 0, Nat.le_refl 0⟩ (fun H locs hP hS => ?_)
        obtain rfl := Option.some.inj hf
        exact tRet_i C hr hlk hP hS dX9_share_40
      · have hf := if_p hf c3
        refine lv_bipush (v := (-2 : Int32)) hx hb dX9_share_22 (by decide) ?_
        obtain rfl := Option.some.inj hf
        exact tRet_i C hr hlk hP hS dX9_share_24
    · have hf := if_n hf c2
      refine lv_iconst (v := (-1 : Int32)) hx hb dX9_share_9 (by decide) ?_
      obtain rfl := Option.some.inj hf
      exact tRet_i C hr hlk hP hS dX9_share_10
def rmX2_gorseOfLast : Room := { frames := 2, cells := 0, slots := 0, locals := 42 }
theorem hn_X2_gorseOfLast_2 : ∀ w ∈ wsX20, w ∈ wsX2_gorseOfLast := fun w h => List.mem_cons_of_mem _ (List.mem_append_left _ (List.mem_append_left _ (List.mem_append_right _ h)))
theorem hn_X2_gorseOfLast_8 : ∀ w ∈ wsX80, w ∈ wsX2_gorseOfLast := fun w h => List.mem_cons_of_mem _ (List.mem_append_left _ (List.mem_append_right _ h))
theorem hd_X2_gorseOfLast : yX2_gorseOfLast.cls ≠ "java/lang/invoke/MethodHandle" ∧ yX2_gorseOfLast.cls ≠ "java/lang/invoke/VarHandle" ∧ (parseMethodDescriptor yX2_gorseOfLast.desc).map (fun d => d.parameters.length) = some 1 := by decide +kernel
set_option maxHeartbeats 4000000 in
set_option maxRecDepth 100000 in
theorem lp_X2_gorseOfLast_12 {p : Program} {l : Launch} {e : Env} {s : State} {m : MethodId} {args : Array Value} {below : List Frame} {meth : Method} {c : Code} {D : va_G} {cI cZ : ClassId} {a : Nat → Nat} {Q : State → Prop} {H0 : Heap} {S : St} {o : Int32}
    (C : tC p c s m args cX2_gorseOfLast 4 RX2 wsX2_gorseOfLast D cI cZ (wX cI cZ a) (xA a))
    (K0 : ∀ (H : Heap) (locs : List Loc) (ls : Array Slot), va_P D vwCl (wX cI cZ a S) H → va_S (xA a) H0 H locs → lv_has ls 4 [(2, .int o)] → W p l e rmX2_gorseOfLast s m args below meth c H locs 0 0 Q (F0 m 40 ls [])) :
    ∀ (n : Nat) (x2 : Int32) (x3 : Int32), l_X2_gorseOfLast_12 S n x2 x3 = some o → ∀ (H : Heap) (locs : List Loc) (ls : Array Slot), va_P D vwCl (wX cI cZ a S) H → va_S (xA a) H0 H locs → lv_has ls 4 [(0, .ref (a 18)), (2, .int x2), (3, .int x3)] → W p l e rmX2_gorseOfLast s m args below meth c H locs 0 0 Q (F0 m 12 ls []) := by
  obtain ⟨⟨hx, hb, hml, hown, hts⟩, hK, hN, hA⟩ := id C
  have hin2 := hn_X2_gorseOfLast_2
  have hin8 := hn_X2_gorseOfLast_8
  intro n
  induction n with
  | zero =>
    intro x2 x3 hf
    rw [l_X2_gorseOfLast_12] at hf
    cases hf
  | succ n ih =>
    intro x2 x3 hf H locs ls hP hS hl
    rw [l_X2_gorseOfLast_12] at hf
    refine lv_iload_n hx hb dX2_gorseOfLast_12 rfl (lv_at hl 2 rfl) ?_
    refine lv_aload_n hx hb dX2_gorseOfLast_13 rfl (lv_at hl 0 rfl) ?_
    refine gx_2_1 C hin2 hP (List.mem_of_getElem? (i := 1) rfl) dX2_gorseOfLast_14 ?_
    refine gxn_8_3 C hin8 hP (i := 12) rfl dX2_gorseOfLast_17 ?_
    refine lv_icmp_ge (tgt := 40) hx hb dX2_gorseOfLast_20 (by decide) (fun c1 => ?_) (fun c1 => ?_)
    · have hf := if_p hf c1
      obtain rfl := Option.some.inj hf
      exact K0 H locs ls hP hS (lv_sub hl [1] rfl)
    · have hf := if_n hf c1
      refine lv_iload_n hx hb dX2_gorseOfLast_23 rfl (lv_at hl 1 rfl) ?_
      refine lv_aload_n hx hb dX2_gorseOfLast_24 rfl (lv_at hl 0 rfl) ?_
      refine gx_2_0 C hin2 hP (List.mem_of_getElem? (i := 2) rfl) dX2_gorseOfLast_25 ?_
      refine lv_iload_n hx hb dX2_gorseOfLast_28 rfl (lv_at hl 2 rfl) ?_
      obtain ⟨r29, hc29, hf⟩ := ob hf
      refine tCallVi (As := [.int x3]) (rest := [.int x2]) (q0 := 3) (ci := 3) C hP hS rfl rfl (c_X3_gorseOf l C.2.2.2 hc29) (cwV 1 hts gX2_gorseOfLast_X3_gorseOf rfl rfl rfl ⟨rfl, hd_X3_gorseOf⟩ ⟨Nat.le_of_ble_eq_true rfl, Nat.le_of_ble_eq_true rfl⟩) rfl hl rfl (Nat.le_of_ble_eq_true rfl) dX2_gorseOfLast_29 ⟨Nat.le_refl 0, Nat.le_refl 0⟩ (fun H locs hP hS => ?_)
      refine lv_iadd hx hb dX2_gorseOfLast_32 ?_
      refine lv_istore_n (lv' := [(2, .int (x2 + r29)), (0, .ref (a 18)), (3, .int x3)]) hx hb dX2_gorseOfLast_33 rfl hl (Nat.le_of_ble_eq_true rfl) rfl (fun ls hl => ?_)
      refine lv_iinc (v := (x3 + 1)) (lv' := [(3, .int (x3 + 1)), (2, .int (x2 + r29)), (0, .ref (a 18))]) hx hb dX2_gorseOfLast_34 hl (k := 2) rfl rfl (Nat.le_of_ble_eq_true rfl) rfl (fun ls hl => ?_)
      refine lv_goto (tgt := 12) hx hb dX2_gorseOfLast_37 (by decide) ?_
      exact ih _ _ hf H locs ls hP hS (lv_sub hl [2, 1, 0] rfl)
set_option maxHeartbeats 4000000 in
set_option maxRecDepth 100000 in
theorem c_X2_gorseOfLast (l : Launch) {D : va_G} {cI cZ : ClassId} {a : Nat → Nat} (hA : ∀ S : St, va_D (xA a) (wX cI cZ a S)) {x1 : Int32} {S : St} {o : Int32} (hf : f_X2_gorseOfLast x1 S = some o) : Met l yX2_gorseOfLast wsX2_gorseOfLast rmX2_gorseOfLast (tPc D cI cZ (wX cI cZ a) S ([.ref (a 18), .int x1] : List Value)) (tQi D (wX cI cZ a) (xA a) S o) 0 0 (xA a) := by
  refine tEnter (cc := cX2_gorseOfLast) (maxL := 4) (ret := (some .int)) (own := RX2) hA rfl (by decide) rfl (Nat.le_of_ble_eq_true rfl) (fun p e s m args below meth c C hr hlk hP hS ls hl => ?_)
  obtain ⟨⟨hx, hb, hml, hown, hts⟩, hK, hN, -⟩ := id C
  have hl : lv_has ls 4 [(0, .ref (a 18)), (1, .int x1)] := hl
  have hin2 := hn_X2_gorseOfLast_2
  have hin8 := hn_X2_gorseOfLast_8
  have hSS := hS
  rw [f_X2_gorseOfLast] at hf
  revert hP hS
  suffices hsuf : ∀ (H : Heap) (locs : List Loc), va_P D vwCl (wX cI cZ a S) H → va_S (xA a) s.heap H locs → W p l e rmX2_gorseOfLast s m args below meth c H locs 0 0 (MQ below (tQi D (wX cI cZ a) (xA a) S o) args s 0 0 (xA a)) (F0 m 0 ls []) from fun hP hS => hsuf s.heap [] hP hS
  intro H locs hP hS
  refine lv_iconst (v := (0 : Int32)) hx hb dX2_gorseOfLast_0 (by decide) ?_
  refine lv_istore_n (lv' := [(2, .int (0 : Int32)), (0, .ref (a 18)), (1, .int x1)]) hx hb dX2_gorseOfLast_1 rfl hl (Nat.le_of_ble_eq_true rfl) rfl (fun ls hl => ?_)
  refine lv_aload_n hx hb dX2_gorseOfLast_2 rfl (lv_at hl 1 rfl) ?_
  refine gx_2_1 C hin2 hP (List.mem_of_getElem? (i := 1) rfl) dX2_gorseOfLast_3 ?_
  refine gxn_8_3 C hin8 hP (i := 12) rfl dX2_gorseOfLast_6 ?_
  refine lv_iload_n hx hb dX2_gorseOfLast_9 rfl (lv_at hl 2 rfl) ?_
  refine lv_isub hx hb dX2_gorseOfLast_10 ?_
  refine lv_istore_n (lv' := [(3, .int ((S.1 10) - x1)), (2, .int (0 : Int32)), (0, .ref (a 18)), (1, .int x1)]) hx hb dX2_gorseOfLast_11 rfl hl (Nat.le_of_ble_eq_true rfl) rfl (fun ls hl => ?_)
  obtain ⟨o12, hc12, hf⟩ := ob hf
  refine lp_X2_gorseOfLast_12 C (fun H locs ls hP hS hl => ?_) fuel _ _ hc12 H locs ls hP hS (lv_sub hl [2, 1, 0] rfl)
  refine lv_iload_n hx hb dX2_gorseOfLast_40 rfl (lv_at hl 0 rfl) ?_
  obtain rfl := Option.some.inj hf
  exact tRet_i C hr hlk hP hS dX2_gorseOfLast_41
def rmX9_where : Room := { frames := 3, cells := 0, slots := 0, locals := 65 }
theorem hn_X9_where_8 : ∀ w ∈ wsX80, w ∈ wsX9_where := fun w h => List.mem_cons_of_mem _ (List.mem_append_left _ (List.mem_append_left _ (List.mem_append_right _ h)))
theorem hn_X9_where_9 : ∀ w ∈ wsX90, w ∈ wsX9_where := fun w h => List.mem_cons_of_mem _ (List.mem_append_left _ (List.mem_append_left _ (List.mem_append_left _ (List.mem_append_right _ h))))
theorem hd_X9_where : yX9_where.cls ≠ "java/lang/invoke/MethodHandle" ∧ yX9_where.cls ≠ "java/lang/invoke/VarHandle" ∧ (parseMethodDescriptor yX9_where.desc).map (fun d => d.parameters.length) = some 2 := by decide +kernel
set_option maxHeartbeats 4000000 in
set_option maxRecDepth 100000 in
theorem c_X9_where (l : Launch) {D : va_G} {cI cZ : ClassId} {a : Nat → Nat} (hA : ∀ S : St, va_D (xA a) (wX cI cZ a S)) {x1 : Int32} {x2 : Int32} {S : St} {o : Int32} (hf : f_X9_where x1 x2 S = some o) : Met l yX9_where wsX9_where rmX9_where (tPc D cI cZ (wX cI cZ a) S ([.ref (a 0), .int x1, .int x2] : List Value)) (tQi D (wX cI cZ a) (xA a) S o) 0 0 (xA a) := by
  refine tEnter (cc := cX9_where) (maxL := 4) (ret := (some .int)) (own := RX9) hA rfl (by decide) rfl (Nat.le_of_ble_eq_true rfl) (fun p e s m args below meth c C hr hlk hP hS ls hl => ?_)
  obtain ⟨⟨hx, hb, hml, hown, hts⟩, hK, hN, -⟩ := id C
  have hl : lv_has ls 4 [(0, .ref (a 0)), (1, .int x1), (2, .int x2)] := hl
  have hin8 := hn_X9_where_8
  have hin9 := hn_X9_where_9
  have hSS := hS
  rw [f_X9_where] at hf
  revert hP hS
  suffices hsuf : ∀ (H : Heap) (locs : List Loc), va_P D vwCl (wX cI cZ a S) H → va_S (xA a) s.heap H locs → W p l e rmX9_where s m args below meth c H locs 0 0 (MQ below (tQi D (wX cI cZ a) (xA a) S o) args s 0 0 (xA a)) (F0 m 0 ls []) from fun hP hS => hsuf s.heap [] hP hS
  intro H locs hP hS
  refine lv_aload_n hx hb dX9_where_0 rfl (lv_at hl 0 rfl) ?_
  refine gx_9_2 C hin9 hP (List.mem_of_getElem? (i := 1) rfl) dX9_where_1 ?_
  refine lv_iload_n hx hb dX9_where_4 rfl (lv_at hl 1 rfl) ?_
  obtain ⟨r5, hc5, hf⟩ := ob hf
  refine tCallVi (As := [.int x1]) (rest := []) (q0 := 7) (ci := 8) C hP hS rfl rfl (c_X8_isLaid l C.2.2.2 hc5) (cwV 1 hts gX9_where_X8_isLaid rfl rfl rfl ⟨rfl, hd_X8_isLaid⟩ ⟨Nat.le_of_ble_eq_true rfl, Nat.le_of_ble_eq_true rfl⟩) rfl hl rfl (Nat.le_of_ble_eq_true rfl) dX9_where_5 ⟨Nat.le_refl 0, Nat.le_refl 0⟩ (fun H locs hP hS => ?_)
  refine lv_if_ne (tgt := 13) hx hb dX9_where_8 (by decide) (fun c1 => ?_) (fun c1 => ?_)
  · have hf := if_n hf c1
    refine lv_aload_n hx hb dX9_where_13 rfl (lv_at hl 0 rfl) ?_
    refine gx_9_7 C hin9 hP (List.mem_of_getElem? (i := 2) rfl) dX9_where_14 ?_
    refine lv_aload_n hx hb dX9_where_17 rfl (lv_at hl 0 rfl) ?_
    refine gx_9_2 C hin9 hP (List.mem_of_getElem? (i := 1) rfl) dX9_where_18 ?_
    refine gxn_8_3 C hin8 hP (i := 14) rfl dX9_where_21 ?_
    obtain ⟨r24, hc24, hf⟩ := ob hf
    refine tCallVi (As := [.int (S.1 10)]) (rest := []) (q0 := 18) (ci := 2) C hP hS rfl rfl (c_X2_gorseOfLast l C.2.2.2 hc24) (cwV 1 hts gX9_where_X2_gorseOfLast rfl rfl rfl ⟨rfl, hd_X2_gorseOfLast⟩ ⟨Nat.le_of_ble_eq_true rfl, Nat.le_of_ble_eq_true rfl⟩) rfl hl rfl (Nat.le_of_ble_eq_true rfl) dX9_where_24 ⟨Nat.le_refl 0, Nat.le_refl 0⟩ (fun H locs hP hS => ?_)
    refine lv_istore_n (lv' := [(3, .int r24), (0, .ref (a 0)), (1, .int x1), (2, .int x2)]) hx hb dX9_where_27 rfl hl (Nat.le_of_ble_eq_true rfl) rfl (fun ls hl => ?_)
    refine lv_iload_n hx hb dX9_where_28 rfl (lv_at hl 0 rfl) ?_
    refine lv_if_gt (tgt := 35) hx hb dX9_where_29 (by decide) (fun c2 => ?_) (fun c2 => ?_)
    · have hf := if_p hf c2
      refine lv_aload_n hx hb dX9_where_35 rfl (lv_at hl 1 rfl) ?_
      refine gx_9_1 C hin9 hP (List.mem_of_getElem? (i := 3) rfl) dX9_where_36 ?_
      refine lv_iload_n hx hb dX9_where_39 rfl (lv_at hl 2 rfl) ?_
      obtain ⟨r40, hc40, hf⟩ := ob hf
      refine tCallVi (As := [.int x1]) (rest := []) (q0 := 3) (ci := 3) C hP hS rfl rfl (c_X3_gorseOf l C.2.2.2 hc40) (cwV 1 hts gX9_where_X3_gorseOf rfl rfl rfl ⟨rfl, hd_X3_gorseOf⟩ ⟨Nat.le_of_ble_eq_true rfl, Nat.le_of_ble_eq_true rfl⟩) rfl hl rfl (Nat.le_of_ble_eq_true rfl) dX9_where_40 ⟨Nat.le_refl 0, Nat.le_refl 0⟩ (fun H locs hP hS => ?_)
      refine lv_iload_n hx hb dX9_where_43 rfl (lv_at hl 0 rfl) ?_
      refine lv_iload_n hx hb dX9_where_44 rfl (lv_at hl 3 rfl) ?_
      obtain ⟨r45, hc45, hf⟩ := ob hf
      refine tCallSi (As := [.int r40, .int r24, .int x2]) (rest := []) C hP hS (c_X9_fraction l C.2.2.2 hc45) (va_cwS 3 hts gX9_where_X9_fraction rfl rfl rfl hd_X9_fraction ⟨Nat.le_of_ble_eq_true rfl, Nat.le_of_ble_eq_true rfl⟩) rfl hl rfl (Nat.le_of_ble_eq_true rfl) dX9_where_45 ⟨Nat.le_refl 0, Nat.le_refl 0⟩ (fun H locs hP hS => ?_)
      obtain rfl := Option.some.inj hf
      exact tRet_i C hr hlk hP hS dX9_where_48
    · have hf := if_n hf c2
      refine lv_bipush (v := (-3 : Int32)) hx hb dX9_where_32 (by decide) ?_
      obtain rfl := Option.some.inj hf
      exact tRet_i C hr hlk hP hS dX9_where_34
  · have hf := if_p hf c1
    refine lv_iconst (v := (-1 : Int32)) hx hb dX9_where_11 (by decide) ?_
    obtain rfl := Option.some.inj hf
    exact tRet_i C hr hlk hP hS dX9_where_12
def rmX2_howFarBack : Room := { frames := 3, cells := 0, slots := 0, locals := 65 }
theorem hn_X2_howFarBack_2 : ∀ w ∈ wsX20, w ∈ wsX2_howFarBack := fun w h => List.mem_cons_of_mem _ (List.mem_append_left _ (List.mem_append_left _ (List.mem_append_right _ h)))
theorem hn_X2_howFarBack_8 : ∀ w ∈ wsX80, w ∈ wsX2_howFarBack := fun w h => List.mem_cons_of_mem _ (List.mem_append_left _ (List.mem_append_right _ h))
theorem hd_X2_howFarBack : yX2_howFarBack.cls ≠ "java/lang/invoke/MethodHandle" ∧ yX2_howFarBack.cls ≠ "java/lang/invoke/VarHandle" ∧ (parseMethodDescriptor yX2_howFarBack.desc).map (fun d => d.parameters.length) = some 1 := by decide +kernel
set_option maxHeartbeats 4000000 in
set_option maxRecDepth 100000 in
theorem lp_X2_howFarBack_16 {p : Program} {l : Launch} {e : Env} {s : State} {m : MethodId} {args : Array Value} {below : List Frame} {meth : Method} {c : Code} {D : va_G} {cI cZ : ClassId} {a : Nat → Nat} {Q : State → Prop} {H0 : Heap} {x2 : Int32} {S : St} {o : Nat × Int32}
    (C : tC p c s m args cX2_howFarBack 4 RX2 wsX2_howFarBack D cI cZ (wX cI cZ a) (xA a))
    (K0 : o.1 = 0 → ∀ (H : Heap) (locs : List Loc) (ls : Array Slot), va_P D vwCl (wX cI cZ a S) H → va_S (xA a) H0 H locs → lv_has ls 4 [(3, .int o.2)] → W p l e rmX2_howFarBack s m args below meth c H locs 0 0 Q (F0 m 39 ls []))
    (K1 : o.1 = 1 → ∀ (H : Heap) (locs : List Loc) (ls : Array Slot), va_P D vwCl (wX cI cZ a S) H → va_S (xA a) H0 H locs → lv_has ls 4 [(0, .ref (a 18))] → W p l e rmX2_howFarBack s m args below meth c H locs 0 0 Q (F0 m 47 ls [])) :
    ∀ (n : Nat) (x3 : Int32), l_X2_howFarBack_16 x2 S n x3 = some o → ∀ (H : Heap) (locs : List Loc) (ls : Array Slot), va_P D vwCl (wX cI cZ a S) H → va_S (xA a) H0 H locs → lv_has ls 4 [(0, .ref (a 18)), (2, .int x2), (3, .int x3)] → W p l e rmX2_howFarBack s m args below meth c H locs 0 0 Q (F0 m 16 ls []) := by
  obtain ⟨⟨hx, hb, hml, hown, hts⟩, hK, hN, hA⟩ := id C
  have hin2 := hn_X2_howFarBack_2
  have hin8 := hn_X2_howFarBack_8
  intro n
  induction n with
  | zero =>
    intro x3 hf
    rw [l_X2_howFarBack_16] at hf
    cases hf
  | succ n ih =>
    intro x3 hf H locs ls hP hS hl
    rw [l_X2_howFarBack_16] at hf
    refine lv_iload_n hx hb dX2_howFarBack_16 rfl (lv_at hl 2 rfl) ?_
    refine lv_aload_n hx hb dX2_howFarBack_17 rfl (lv_at hl 0 rfl) ?_
    refine gx_2_1 C hin2 hP (List.mem_of_getElem? (i := 1) rfl) dX2_howFarBack_18 ?_
    refine gxn_8_3 C hin8 hP (i := 12) rfl dX2_howFarBack_21 ?_
    refine lv_icmp_ge (tgt := 47) hx hb dX2_howFarBack_24 (by decide) (fun c1 => ?_) (fun c1 => ?_)
    · have hf := if_p hf c1
      obtain rfl := Option.some.inj hf
      exact K1 rfl H locs ls hP hS (lv_sub hl [0] rfl)
    · have hf := if_n hf c1
      refine lv_bipush (v := (10 : Int32)) hx hb dX2_howFarBack_27 (by decide) ?_
      refine lv_aload_n hx hb dX2_howFarBack_29 rfl (lv_at hl 0 rfl) ?_
      refine lv_iload_n hx hb dX2_howFarBack_30 rfl (lv_at hl 2 rfl) ?_
      obtain ⟨r31, hc31, hf⟩ := ob hf
      refine tCallVi (As := [.int x3]) (rest := [.int (10 : Int32)]) (q0 := 18) (ci := 2) C hP hS rfl rfl (c_X2_gorseOfLast l C.2.2.2 hc31) (cwV 1 hts gX2_howFarBack_X2_gorseOfLast rfl rfl rfl ⟨rfl, hd_X2_gorseOfLast⟩ ⟨Nat.le_of_ble_eq_true rfl, Nat.le_of_ble_eq_true rfl⟩) rfl hl rfl (Nat.le_of_ble_eq_true rfl) dX2_howFarBack_31 ⟨Nat.le_refl 0, Nat.le_refl 0⟩ (fun H locs hP hS => ?_)
      refine lv_imul hx hb dX2_howFarBack_34 ?_
      refine lv_iload_n hx hb dX2_howFarBack_35 rfl (lv_at hl 1 rfl) ?_
      refine lv_icmp_lt (tgt := 41) hx hb dX2_howFarBack_36 (by decide) (fun c2 => ?_) (fun c2 => ?_)
      · have hf := if_p hf c2
        refine lv_iinc (v := (x3 + 1)) (lv' := [(3, .int (x3 + 1)), (0, .ref (a 18)), (2, .int x2)]) hx hb dX2_howFarBack_41 hl (k := 2) rfl rfl (Nat.le_of_ble_eq_true rfl) rfl (fun ls hl => ?_)
        refine lv_goto (tgt := 16) hx hb dX2_howFarBack_44 (by decide) ?_
        exact ih _ hf H locs ls hP hS (lv_sub hl [1, 2, 0] rfl)
      · have hf := if_n hf c2
        obtain rfl := Option.some.inj hf
        exact K0 rfl H locs ls hP hS (lv_sub hl [2] rfl)
set_option maxHeartbeats 4000000 in
set_option maxRecDepth 100000 in
theorem c_X2_howFarBack (l : Launch) {D : va_G} {cI cZ : ClassId} {a : Nat → Nat} (hA : ∀ S : St, va_D (xA a) (wX cI cZ a S)) {x1 : Int32} {S : St} {o : Int32} (hf : f_X2_howFarBack x1 S = some o) : Met l yX2_howFarBack wsX2_howFarBack rmX2_howFarBack (tPc D cI cZ (wX cI cZ a) S ([.ref (a 18), .int x1] : List Value)) (tQi D (wX cI cZ a) (xA a) S o) 0 0 (xA a) := by
  refine tEnter (cc := cX2_howFarBack) (maxL := 4) (ret := (some .int)) (own := RX2) hA rfl (by decide) rfl (Nat.le_of_ble_eq_true rfl) (fun p e s m args below meth c C hr hlk hP hS ls hl => ?_)
  obtain ⟨⟨hx, hb, hml, hown, hts⟩, hK, hN, -⟩ := id C
  have hl : lv_has ls 4 [(0, .ref (a 18)), (1, .int x1)] := hl
  have hin2 := hn_X2_howFarBack_2
  have hin8 := hn_X2_howFarBack_8
  have hSS := hS
  rw [f_X2_howFarBack] at hf
  revert hP hS
  suffices hsuf : ∀ (H : Heap) (locs : List Loc), va_P D vwCl (wX cI cZ a S) H → va_S (xA a) s.heap H locs → W p l e rmX2_howFarBack s m args below meth c H locs 0 0 (MQ below (tQi D (wX cI cZ a) (xA a) S o) args s 0 0 (xA a)) (F0 m 0 ls []) from fun hP hS => hsuf s.heap [] hP hS
  intro H locs hP hS
  refine lv_iload_n hx hb dX2_howFarBack_0 rfl (lv_at hl 1 rfl) ?_
  refine lv_aload_n hx hb dX2_howFarBack_1 rfl (lv_at hl 0 rfl) ?_
  refine lv_aload_n hx hb dX2_howFarBack_2 rfl (lv_at hl 0 rfl) ?_
  refine gx_2_1 C hin2 hP (List.mem_of_getElem? (i := 1) rfl) dX2_howFarBack_3 ?_
  refine gxn_8_3 C hin8 hP (i := 12) rfl dX2_howFarBack_6 ?_
  obtain ⟨r9, hc9, hf⟩ := ob hf
  refine tCallVi (As := [.int (S.1 10)]) (rest := [.int x1]) (q0 := 18) (ci := 2) C hP hS rfl rfl (c_X2_gorseOfLast l C.2.2.2 hc9) (cwV 1 hts gX2_howFarBack_X2_gorseOfLast rfl rfl rfl ⟨rfl, hd_X2_gorseOfLast⟩ ⟨Nat.le_of_ble_eq_true rfl, Nat.le_of_ble_eq_true rfl⟩) rfl hl rfl (Nat.le_of_ble_eq_true rfl) dX2_howFarBack_9 ⟨Nat.le_refl 0, Nat.le_refl 0⟩ (fun H locs hP hS => ?_)
  refine lv_imul hx hb dX2_howFarBack_12 ?_
  refine lv_istore_n (lv' := [(2, .int (x1 * r9)), (0, .ref (a 18)), (1, .int x1)]) hx hb dX2_howFarBack_13 rfl hl (Nat.le_of_ble_eq_true rfl) rfl (fun ls hl => ?_)
  refine lv_iconst (v := (0 : Int32)) hx hb dX2_howFarBack_14 (by decide) ?_
  refine lv_istore_n (lv' := [(3, .int (0 : Int32)), (2, .int (x1 * r9)), (0, .ref (a 18)), (1, .int x1)]) hx hb dX2_howFarBack_15 rfl hl (Nat.le_of_ble_eq_true rfl) rfl (fun ls hl => ?_)
  obtain ⟨o16, hc16, hf⟩ := ob hf
  refine lp_X2_howFarBack_16 C (fun ho H locs ls hP hS hl => ?_) (fun ho H locs ls hP hS hl => ?_) fuel _ hc16 H locs ls hP hS (lv_sub hl [2, 1, 0] rfl)
  · have hf := if_p hf ho
    refine lv_iload_n hx hb dX2_howFarBack_39 rfl (lv_at hl 0 rfl) ?_
    obtain rfl := Option.some.inj hf
    exact tRet_i C hr hlk hP hS dX2_howFarBack_40
  · have hf := if_n hf (show ¬ o16.1 = 0 by rw [ho]; decide)
    refine lv_aload_n hx hb dX2_howFarBack_47 rfl (lv_at hl 0 rfl) ?_
    refine gx_2_1 C hin2 hP (List.mem_of_getElem? (i := 1) rfl) dX2_howFarBack_48 ?_
    refine gxn_8_3 C hin8 hP (i := 12) rfl dX2_howFarBack_51 ?_
    obtain rfl := Option.some.inj hf
    exact tRet_i C hr hlk hP hS dX2_howFarBack_54
