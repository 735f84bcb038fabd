def rmX9_rests : Room := { frames := 5, cells := 0, slots := 0, locals := 112 }
theorem hn_X9_rests_4 : ∀ w ∈ wsX40, w ∈ wsX9_rests := fun w h => List.mem_cons_of_mem _ (List.mem_append_left _ (List.mem_append_left _ (List.mem_append_left _ (List.mem_append_right _ h))))
theorem hn_X9_rests_9 : ∀ w ∈ wsX90, w ∈ wsX9_rests := fun w h => List.mem_cons_of_mem _ (List.mem_append_left _ (List.mem_append_left _ (List.mem_append_left _ (List.mem_append_left _ (List.mem_append_right _ h)))))
theorem hd_X9_rests : yX9_rests.cls ≠ "java/lang/invoke/MethodHandle" ∧ yX9_rests.cls ≠ "java/lang/invoke/VarHandle" ∧ (parseMethodDescriptor yX9_rests.desc).map (fun d => d.parameters.length) = some 2 := by decide +kernel
set_option maxHeartbeats 4000000 in
set_option maxRecDepth 100000 in
theorem c_X9_rests (l : Launch) {D : va_G} {cI cZ : ClassId} {a : Nat → Nat} (hA : ∀ S : St, va_D (xA a) (wX cI cZ a S)) {x1 : Int32} {x2 : Int32} {S : St} {o : Int32 × St} (hf : f_X9_rests x1 x2 S = some o) : Met l yX9_rests wsX9_rests rmX9_rests (tPc D cI cZ (wX cI cZ a) S ([.ref (a 0), .int x1, .int x2] : List Value)) (tQi D (wX cI cZ a) (xA a) o.2 o.1) 0 0 (xA a) := by
  refine tEnter (cc := cX9_rests) (maxL := 3) (ret := (some .int)) (own := RX9) hA rfl (by decide) rfl (Nat.le_of_ble_eq_true rfl) (fun p e s m args below meth c C hr hlk hP hS ls hl => ?_)
  obtain ⟨⟨hx, hb, hml, hown, hts⟩, hK, hN, -⟩ := id C
  have hl : lv_has ls 3 [(0, .ref (a 0)), (1, .int x1), (2, .int x2)] := hl
  have hin4 := hn_X9_rests_4
  have hin9 := hn_X9_rests_9
  have hSS := hS
  rw [f_X9_rests] at hf
  revert hP hS
  suffices hsuf : ∀ (H : Heap) (locs : List Loc), va_P D vwCl (wX cI cZ a S) H → va_S (xA a) s.heap H locs → W p l e rmX9_rests s m args below meth c H locs 0 0 (MQ below (tQi D (wX cI cZ a) (xA a) o.2 o.1) args s 0 0 (xA a)) (F0 m 0 ls []) from fun hP hS => hsuf s.heap [] hP hS
  intro H locs hP hS
  refine lv_aload_n hx hb dX9_rests_0 rfl (lv_at hl 0 rfl) ?_
  refine gx_9_6 C hin9 hP (List.mem_of_getElem? (i := 1) rfl) dX9_rests_1 ?_
  refine lv_iload_n hx hb dX9_rests_4 rfl (lv_at hl 1 rfl) ?_
  obtain ⟨r5, hc5, hf⟩ := ob hf
  refine tCallVi (As := [.int x1]) (rest := []) (q0 := 16) (ci := 1) C hP hS rfl rfl (c_X1_reaches l C.2.2.2 hc5) (cwV 1 hts gX9_rests_X1_reaches rfl rfl rfl ⟨rfl, hd_X1_reaches⟩ ⟨Nat.le_of_ble_eq_true rfl, Nat.le_of_ble_eq_true rfl⟩) rfl hl rfl (Nat.le_of_ble_eq_true rfl) dX9_rests_5 ⟨Nat.le_refl 0, Nat.le_refl 0⟩ (fun H locs hP hS => ?_)
  refine lv_if_eq (tgt := 20) hx hb dX9_rests_8 (by decide) (fun c1 => ?_) (fun c1 => ?_)
  · have hf := if_p hf c1
    refine lv_bipush (v := (-2 : Int32)) hx hb dX9_rests_20 (by decide) ?_
    obtain rfl := Option.some.inj hf
    exact tRet_i C hr hlk hP hS dX9_rests_22
  · have hf := if_n hf c1
    refine lv_iload_n hx hb dX9_rests_11 rfl (lv_at hl 2 rfl) ?_
    refine lv_if_lt (tgt := 20) hx hb dX9_rests_12 (by decide) (fun c2 => ?_) (fun c2 => ?_)
    · have hf := if_p hf c2
      refine lv_bipush (v := (-2 : Int32)) hx hb dX9_rests_20 (by decide) ?_
      obtain rfl := Option.some.inj hf
      exact tRet_i C hr hlk hP hS dX9_rests_22
    · have hf := if_n hf c2
      refine lv_iload_n hx hb dX9_rests_15 rfl (lv_at hl 2 rfl) ?_
      refine lv_iconst (v := (1 : Int32)) hx hb dX9_rests_16 (by decide) ?_
      refine lv_icmp_le (tgt := 23) hx hb dX9_rests_17 (by decide) (fun c3 => ?_) (fun c3 => ?_)
      · have hf := if_p hf c3
        refine lv_aload_n hx hb dX9_rests_23 rfl (lv_at hl 0 rfl) ?_
        refine gx_9_8 C hin9 hP (List.mem_of_getElem? (i := 2) rfl) dX9_rests_24 ?_
        refine lv_iload_n hx hb dX9_rests_27 rfl (lv_at hl 1 rfl) ?_
        obtain ⟨r28, hc28, hf⟩ := ob hf
        refine tCallVv (As := [.int x1]) (rest := []) (q0 := 19) (ci := 4) C hP hS rfl rfl (c_X4_seekRests l C.2.2.2 hc28) (cwV 1 hts gX9_rests_X4_seekRests rfl rfl rfl ⟨rfl, hd_X4_seekRests⟩ ⟨Nat.le_of_ble_eq_true rfl, Nat.le_of_ble_eq_true rfl⟩) rfl hl rfl (Nat.le_of_ble_eq_true rfl) dX9_rests_28 ⟨Nat.le_refl 0, Nat.le_refl 0⟩ (fun H locs hP hS => ?_)
        refine lv_iload_n hx hb dX9_rests_31 rfl (lv_at hl 2 rfl) ?_
        refine lv_if_ne (tgt := 45) hx hb dX9_rests_32 (by decide) (fun c4 => ?_) (fun c4 => ?_)
        · have hf := if_n hf c4
          refine lv_aload_n hx hb dX9_rests_45 rfl (lv_at hl 0 rfl) ?_
          refine gx_9_8 C hin9 hP (List.mem_of_getElem? (i := 2) rfl) dX9_rests_46 ?_
          refine gxn_4_5 C hin4 hP (i := 28) rfl dX9_rests_49 ?_
          obtain rfl := Option.some.inj hf
          exact tRet_i C hr hlk hP hS dX9_rests_52
        · have hf := if_p hf c4
          refine lv_aload_n hx hb dX9_rests_35 rfl (lv_at hl 0 rfl) ?_
          refine gx_9_8 C hin9 hP (List.mem_of_getElem? (i := 2) rfl) dX9_rests_36 ?_
          refine gxn_4_4 C hin4 hP (i := 27) rfl dX9_rests_39 ?_
          refine lv_goto (tgt := 52) hx hb dX9_rests_42 (by decide) ?_
          obtain rfl := Option.some.inj hf
          exact tRet_i C hr hlk hP hS dX9_rests_52
      · have hf := if_n hf c3
        refine lv_bipush (v := (-2 : Int32)) hx hb dX9_rests_20 (by decide) ?_
        obtain rfl := Option.some.inj hf
        exact tRet_i C hr hlk hP hS dX9_rests_22
def rmX1_waysToLose : Room := { frames := 2, cells := 0, slots := 0, locals := 42 }
theorem hn_X1_waysToLose_1 : ∀ w ∈ wsX10, w ∈ wsX1_waysToLose := fun w h => List.mem_cons_of_mem _ (List.mem_append_left _ (List.mem_append_left _ (List.mem_append_right _ h)))
theorem hn_X1_waysToLose_8 : ∀ w ∈ wsX80, w ∈ wsX1_waysToLose := fun w h => List.mem_cons_of_mem _ (List.mem_append_left _ (List.mem_append_right _ h))
theorem hd_X1_waysToLose : yX1_waysToLose.cls ≠ "java/lang/invoke/MethodHandle" ∧ yX1_waysToLose.cls ≠ "java/lang/invoke/VarHandle" ∧ (parseMethodDescriptor yX1_waysToLose.desc).map (fun d => d.parameters.length) = some 2 := by decide +kernel
set_option maxHeartbeats 4000000 in
set_option maxRecDepth 100000 in
theorem lp_X1_waysToLose_2 {p : Program} {l : Launch} {e : Env} {s : State} {m : MethodId} {args : Array Value} {below : List Frame} {meth : Method} {c : Code} {D : va_G} {cI cZ : ClassId} {a : Nat → Nat} {Q : State → Prop} {H0 : Heap} {x1 : Int32} {x2 : Int32} {o : St}
    (C : tC p c s m args cX1_waysToLose 6 RX1 wsX1_waysToLose D cI cZ (wX cI cZ a) (xA a))
    (K0 : ∀ (H : Heap) (locs : List Loc) (ls : Array Slot), va_P D vwCl (wX cI cZ a o) H → va_S (xA a) H0 H locs → lv_has ls 6 [(0, .ref (a 16)), (1, .int x1), (2, .int x2)] → W p l e rmX1_waysToLose s m args below meth c H locs 0 0 Q (F0 m 29 ls [])) :
    ∀ (n : Nat) (x3 : Int32) (S : St), l_X1_waysToLose_2 x1 x2 n x3 S = some o → ∀ (H : Heap) (locs : List Loc) (ls : Array Slot), va_P D vwCl (wX cI cZ a S) H → va_S (xA a) H0 H locs → lv_has ls 6 [(0, .ref (a 16)), (1, .int x1), (2, .int x2), (3, .int x3)] → W p l e rmX1_waysToLose s m args below meth c H locs 0 0 Q (F0 m 2 ls []) := by
  obtain ⟨⟨hx, hb, hml, hown, hts⟩, hK, hN, hA⟩ := id C
  have hin1 := hn_X1_waysToLose_1
  have hin8 := hn_X1_waysToLose_8
  intro n
  induction n with
  | zero =>
    intro x3 S hf
    rw [l_X1_waysToLose_2] at hf
    cases hf
  | succ n ih =>
    intro x3 S hf H locs ls hP hS hl
    rw [l_X1_waysToLose_2] at hf
    refine lv_iload_n hx hb dX1_waysToLose_2 rfl (lv_at hl 3 rfl) ?_
    refine lv_bipush (v := (6 : Int32)) hx hb dX1_waysToLose_3 (by decide) ?_
    refine lv_icmp_gt (tgt := 29) hx hb dX1_waysToLose_5 (by decide) (fun c1 => ?_) (fun c1 => ?_)
    · have hf := if_p hf c1
      obtain rfl := Option.some.inj hf
      exact K0 H locs ls hP hS (lv_sub hl [0, 1, 2] rfl)
    · have hf := if_n hf c1
      refine lv_aload_n hx hb dX1_waysToLose_8 rfl (lv_at hl 0 rfl) ?_
      refine gx_1_2 C hin1 hP (List.mem_of_getElem? (i := 1) rfl) dX1_waysToLose_9 ?_
      refine lv_iload_n hx hb dX1_waysToLose_12 rfl (lv_at hl 3 rfl) ?_
      refine lv_iload_n hx hb dX1_waysToLose_13 rfl (lv_at hl 3 rfl) ?_
      refine lv_if_ne (tgt := 21) hx hb dX1_waysToLose_14 (by decide) (fun c2 => ?_) (fun c2 => ?_)
      · have hf := if_n hf c2
        refine lv_iconst (v := (0 : Int32)) hx hb dX1_waysToLose_21 (by decide) ?_
        obtain ⟨hi3, hf⟩ := ob_in hf
        refine stx_9 C hP hS rfl hi3 dX1_waysToLose_22 (fun H locs hP hS => ?_)
        obtain ⟨S22, eS22⟩ : ∃ z, z = (sA S 9 x3.toNatClampNeg (0 : Int32)) := ⟨_, rfl⟩
        rw [← eS22] at hP
        have hf := nm_i hf eS22
        refine lv_iinc (v := (x3 + 1)) (lv' := [(3, .int (x3 + 1)), (0, .ref (a 16)), (1, .int x1), (2, .int x2)]) hx hb dX1_waysToLose_23 hl (k := 3) rfl rfl (Nat.le_of_ble_eq_true rfl) rfl (fun ls hl => ?_)
        refine lv_goto (tgt := 2) hx hb dX1_waysToLose_26 (by decide) ?_
        exact ih _ _ hf H locs ls hP hS (lv_sub hl [1, 2, 3, 0] rfl)
      · have hf := if_p hf c2
        refine lv_iconst (v := (1 : Int32)) hx hb dX1_waysToLose_17 (by decide) ?_
        refine lv_goto (tgt := 22) hx hb dX1_waysToLose_18 (by decide) ?_
        obtain ⟨hi4, hf⟩ := ob_in hf
        refine stx_9 C hP hS rfl hi4 dX1_waysToLose_22 (fun H locs hP hS => ?_)
        obtain ⟨S22, eS22⟩ : ∃ z, z = (sA S 9 x3.toNatClampNeg (1 : Int32)) := ⟨_, rfl⟩
        rw [← eS22] at hP
        have hf := nm_i hf eS22
        refine lv_iinc (v := (x3 + 1)) (lv' := [(3, .int (x3 + 1)), (0, .ref (a 16)), (1, .int x1), (2, .int x2)]) hx hb dX1_waysToLose_23 hl (k := 3) rfl rfl (Nat.le_of_ble_eq_true rfl) rfl (fun ls hl => ?_)
        refine lv_goto (tgt := 2) hx hb dX1_waysToLose_26 (by decide) ?_
        exact ih _ _ hf H locs ls hP hS (lv_sub hl [1, 2, 3, 0] rfl)
set_option maxHeartbeats 4000000 in
set_option maxRecDepth 100000 in
theorem lp_X1_waysToLose_64 {p : Program} {l : Launch} {e : Env} {s : State} {m : MethodId} {args : Array Value} {below : List Frame} {meth : Method} {c : Code} {D : va_G} {cI cZ : ClassId} {a : Nat → Nat} {Q : State → Prop} {H0 : Heap} {x1 : Int32} {x2 : Int32} {x3 : Int32} {x4 : Int32} {o : St}
    (C : tC p c s m args cX1_waysToLose 6 RX1 wsX1_waysToLose D cI cZ (wX cI cZ a) (xA a))
    (K0 : ∀ (H : Heap) (locs : List Loc) (ls : Array Slot), va_P D vwCl (wX cI cZ a o) H → va_S (xA a) H0 H locs → lv_has ls 6 [(0, .ref (a 16)), (1, .int x1), (2, .int x2), (3, .int x3), (4, .int x4)] → W p l e rmX1_waysToLose s m args below meth c H locs 0 0 Q (F0 m 109 ls [])) :
    ∀ (n : Nat) (x5 : Int32) (S : St), l_X1_waysToLose_64 x1 x2 x3 x4 n x5 S = some o → ∀ (H : Heap) (locs : List Loc) (ls : Array Slot), va_P D vwCl (wX cI cZ a S) H → va_S (xA a) H0 H locs → lv_has ls 6 [(0, .ref (a 16)), (1, .int x1), (2, .int x2), (3, .int x3), (4, .int x4), (5, .int x5)] → W p l e rmX1_waysToLose s m args below meth c H locs 0 0 Q (F0 m 64 ls []) := by
  obtain ⟨⟨hx, hb, hml, hown, hts⟩, hK, hN, hA⟩ := id C
  have hin1 := hn_X1_waysToLose_1
  have hin8 := hn_X1_waysToLose_8
  intro n
  induction n with
  | zero =>
    intro x5 S hf
    rw [l_X1_waysToLose_64] at hf
    cases hf
  | succ n ih =>
    intro x5 S hf H locs ls hP hS hl
    rw [l_X1_waysToLose_64] at hf
    refine lv_iload hx hb dX1_waysToLose_64 (lv_at hl 5 rfl) ?_
    refine lv_iconst (v := (1 : Int32)) hx hb dX1_waysToLose_66 (by decide) ?_
    refine lv_icmp_lt (tgt := 109) hx hb dX1_waysToLose_67 (by decide) (fun c6 => ?_) (fun c6 => ?_)
    · have hf := if_p hf c6
      obtain rfl := Option.some.inj hf
      exact K0 H locs ls hP hS (lv_sub hl [0, 1, 2, 3, 4] rfl)
    · have hf := if_n hf c6
      refine lv_aload_n hx hb dX1_waysToLose_70 rfl (lv_at hl 0 rfl) ?_
      refine gx_1_2 C hin1 hP (List.mem_of_getElem? (i := 1) rfl) dX1_waysToLose_71 ?_
      refine lv_iload hx hb dX1_waysToLose_74 (lv_at hl 5 rfl) ?_
      refine lv_aload_n hx hb dX1_waysToLose_76 rfl (lv_at hl 0 rfl) ?_
      refine gx_1_2 C hin1 hP (List.mem_of_getElem? (i := 1) rfl) dX1_waysToLose_77 ?_
      refine lv_iload hx hb dX1_waysToLose_80 (lv_at hl 5 rfl) ?_
      obtain ⟨hi7, hf⟩ := ob_in hf
      refine ldx_9 C hP rfl hi7 dX1_waysToLose_82 ?_
      refine lv_bipush (v := (10 : Int32)) hx hb dX1_waysToLose_83 (by decide) ?_
      refine lv_iload hx hb dX1_waysToLose_85 (lv_at hl 4 rfl) ?_
      refine lv_isub hx hb dX1_waysToLose_87 ?_
      refine lv_imul hx hb dX1_waysToLose_88 ?_
      refine lv_aload_n hx hb dX1_waysToLose_89 rfl (lv_at hl 0 rfl) ?_
      refine gx_1_2 C hin1 hP (List.mem_of_getElem? (i := 1) rfl) dX1_waysToLose_90 ?_
      refine lv_iload hx hb dX1_waysToLose_93 (lv_at hl 5 rfl) ?_
      refine lv_iconst (v := (1 : Int32)) hx hb dX1_waysToLose_95 (by decide) ?_
      refine lv_isub hx hb dX1_waysToLose_96 ?_
      obtain ⟨hi8, hf⟩ := ob_in hf
      refine ldx_9 C hP rfl hi8 dX1_waysToLose_97 ?_
      refine lv_iload hx hb dX1_waysToLose_98 (lv_at hl 4 rfl) ?_
      refine lv_imul hx hb dX1_waysToLose_100 ?_
      refine lv_iadd hx hb dX1_waysToLose_101 ?_
      obtain ⟨hi9, hf⟩ := ob_in hf
      refine stx_9 C hP hS rfl hi9 dX1_waysToLose_102 (fun H locs hP hS => ?_)
      obtain ⟨S102, eS102⟩ : ∃ z, z = (sA S 9 x5.toNatClampNeg (((S.2.1 9 x5.toNatClampNeg) * ((10 : Int32) - x4)) + ((S.2.1 9 ((x5 - (1 : Int32)).toNatClampNeg)) * x4))) := ⟨_, rfl⟩
      rw [← eS102] at hP
      have hf := nm_i hf eS102
      refine lv_iinc (v := (x5 + (-1))) (lv' := [(5, .int (x5 + (-1))), (0, .ref (a 16)), (1, .int x1), (2, .int x2), (3, .int x3), (4, .int x4)]) hx hb dX1_waysToLose_103 hl (k := 5) rfl rfl (Nat.le_of_ble_eq_true rfl) rfl (fun ls hl => ?_)
      refine lv_goto (tgt := 64) hx hb dX1_waysToLose_106 (by decide) ?_
      exact ih _ _ hf H locs ls hP hS (lv_sub hl [1, 2, 3, 4, 5, 0] rfl)
set_option maxHeartbeats 4000000 in
set_option maxRecDepth 100000 in
theorem lp_X1_waysToLose_37 {p : Program} {l : Launch} {e : Env} {s : State} {m : MethodId} {args : Array Value} {below : List Frame} {meth : Method} {c : Code} {D : va_G} {cI cZ : ClassId} {a : Nat → Nat} {Q : State → Prop} {H0 : Heap} {x1 : Int32} {x2 : Int32} {o : St}
    (C : tC p c s m args cX1_waysToLose 6 RX1 wsX1_waysToLose D cI cZ (wX cI cZ a) (xA a))
    (K0 : ∀ (H : Heap) (locs : List Loc) (ls : Array Slot), va_P D vwCl (wX cI cZ a o) H → va_S (xA a) H0 H locs → lv_has ls 6 [(0, .ref (a 16)), (2, .int x2)] → W p l e rmX1_waysToLose s m args below meth c H locs 0 0 Q (F0 m 129 ls [])) :
    ∀ (n : Nat) (x3 : Int32) (S : St), l_X1_waysToLose_37 x1 x2 n x3 S = some o → ∀ (H : Heap) (locs : List Loc) (ls : Array Slot), va_P D vwCl (wX cI cZ a S) H → va_S (xA a) H0 H locs → lv_has ls 6 [(0, .ref (a 16)), (1, .int x1), (2, .int x2), (3, .int x3)] → W p l e rmX1_waysToLose s m args below meth c H locs 0 0 Q (F0 m 37 ls []) := by
  obtain ⟨⟨hx, hb, hml, hown, hts⟩, hK, hN, hA⟩ := id C
  have hin1 := hn_X1_waysToLose_1
  have hin8 := hn_X1_waysToLose_8
  intro n
  induction n with
  | zero =>
    intro x3 S hf
    rw [l_X1_waysToLose_37] at hf
    cases hf
  | succ n ih =>
    intro x3 S hf H locs ls hP hS hl
    rw [l_X1_waysToLose_37] at hf
    refine lv_iload_n hx hb dX1_waysToLose_37 rfl (lv_at hl 3 rfl) ?_
    refine lv_aload_n hx hb dX1_waysToLose_38 rfl (lv_at hl 0 rfl) ?_
    refine gx_1_1 C hin1 hP (List.mem_of_getElem? (i := 2) rfl) dX1_waysToLose_39 ?_
    refine gxn_8_3 C hin8 hP (i := 13) rfl dX1_waysToLose_42 ?_
    refine lv_iload_n hx hb dX1_waysToLose_45 rfl (lv_at hl 1 rfl) ?_
    refine lv_iadd hx hb dX1_waysToLose_46 ?_
    refine lv_icmp_ge (tgt := 129) hx hb dX1_waysToLose_47 (by decide) (fun c5 => ?_) (fun c5 => ?_)
    · have hf := if_p hf c5
      obtain rfl := Option.some.inj hf
      exact K0 H locs ls hP hS (lv_sub hl [0, 2] rfl)
    · have hf := if_n hf c5
      refine lv_aload_n hx hb dX1_waysToLose_50 rfl (lv_at hl 0 rfl) ?_
      refine gx_1_0 C hin1 hP (List.mem_of_getElem? (i := 3) rfl) dX1_waysToLose_51 ?_
      refine lv_iload_n hx hb dX1_waysToLose_54 rfl (lv_at hl 3 rfl) ?_
      obtain ⟨r55, hc55, hf⟩ := ob hf
      refine tCallVi (As := [.int x3]) (rest := []) (q0 := 3) (ci := 3) C hP hS rfl rfl (c_X3_gorseOf l C.2.2.2 hc55) (cwV 1 hts gX1_waysToLose_X3_gorseOf rfl rfl rfl ⟨rfl, hd_X3_gorseOf⟩ ⟨Nat.le_of_ble_eq_true rfl, Nat.le_of_ble_eq_true rfl⟩) rfl hl rfl (Nat.le_of_ble_eq_true rfl) dX1_waysToLose_55 ⟨Nat.le_refl 0, Nat.le_refl 0⟩ (fun H locs hP hS => ?_)
      refine lv_istore (lv' := [(4, .int r55), (0, .ref (a 16)), (1, .int x1), (2, .int x2), (3, .int x3)]) hx hb dX1_waysToLose_58 hl (Nat.le_of_ble_eq_true rfl) rfl (fun ls hl => ?_)
      refine lv_bipush (v := (6 : Int32)) hx hb dX1_waysToLose_60 (by decide) ?_
      refine lv_istore (lv' := [(5, .int (6 : Int32)), (4, .int r55), (0, .ref (a 16)), (1, .int x1), (2, .int x2), (3, .int x3)]) hx hb dX1_waysToLose_62 hl (Nat.le_of_ble_eq_true rfl) rfl (fun ls hl => ?_)
      obtain ⟨o64, hc64, hf⟩ := ob hf
      refine lp_X1_waysToLose_64 C (fun H locs ls hP hS hl => ?_) fuel _ _ hc64 H locs ls hP hS (lv_sub hl [2, 3, 4, 5, 1, 0] rfl)
      refine lv_aload_n hx hb dX1_waysToLose_109 rfl (lv_at hl 0 rfl) ?_
      refine gx_1_2 C hin1 hP (List.mem_of_getElem? (i := 1) rfl) dX1_waysToLose_110 ?_
      refine lv_iconst (v := (0 : Int32)) hx hb dX1_waysToLose_113 (by decide) ?_
      refine lv_dup2_11 hx hb dX1_waysToLose_114 rfl rfl ?_
      refine ldx_9 (j := 0) C hP (by decide) (show ¬ ((0 : Int32) < 0 ∨ 7 ≤ (0 : Int32).toNatClampNeg) by decide) dX1_waysToLose_115 ?_
      refine lv_bipush (v := (10 : Int32)) hx hb dX1_waysToLose_116 (by decide) ?_
      refine lv_iload hx hb dX1_waysToLose_118 (lv_at hl 4 rfl) ?_
      refine lv_isub hx hb dX1_waysToLose_120 ?_
      refine lv_imul hx hb dX1_waysToLose_121 ?_
      refine stx_9 (j := 0) C hP hS (by decide) (show ¬ ((0 : Int32) < 0 ∨ 7 ≤ (0 : Int32).toNatClampNeg) by decide) dX1_waysToLose_122 (fun H locs hP hS => ?_)
      obtain ⟨S122, eS122⟩ : ∃ z, z = (sA o64 9 0 ((o64.2.1 9 0) * ((10 : Int32) - r55))) := ⟨_, rfl⟩
      rw [← eS122] at hP
      have hf := nm_i hf eS122
      refine lv_iinc (v := (x3 + 1)) (lv' := [(3, .int (x3 + 1)), (0, .ref (a 16)), (1, .int x1), (2, .int x2), (4, .int r55)]) hx hb dX1_waysToLose_123 hl (k := 3) rfl rfl (Nat.le_of_ble_eq_true rfl) rfl (fun ls hl => ?_)
      refine lv_goto (tgt := 37) hx hb dX1_waysToLose_126 (by decide) ?_
      exact ih _ _ hf H locs ls hP hS (lv_sub hl [1, 2, 3, 0] rfl)
set_option maxHeartbeats 4000000 in
set_option maxRecDepth 100000 in
theorem c_X1_waysToLose (l : Launch) {D : va_G} {cI cZ : ClassId} {a : Nat → Nat} (hA : ∀ S : St, va_D (xA a) (wX cI cZ a S)) {x1 : Int32} {x2 : Int32} {S : St} {o : Int32 × St} (hf : f_X1_waysToLose x1 x2 S = some o) : Met l yX1_waysToLose wsX1_waysToLose rmX1_waysToLose (tPc D cI cZ (wX cI cZ a) S ([.ref (a 16), .int x1, .int x2] : List Value)) (tQi D (wX cI cZ a) (xA a) o.2 o.1) 0 0 (xA a) := by
  refine tEnter (cc := cX1_waysToLose) (maxL := 6) (ret := (some .int)) (own := RX1) hA rfl (by decide) rfl (Nat.le_of_ble_eq_true rfl) (fun p e s m args below meth c C hr hlk hP hS ls hl => ?_)
  obtain ⟨⟨hx, hb, hml, hown, hts⟩, hK, hN, -⟩ := id C
  have hl : lv_has ls 6 [(0, .ref (a 16)), (1, .int x1), (2, .int x2)] := hl
  have hin1 := hn_X1_waysToLose_1
  have hin8 := hn_X1_waysToLose_8
  have hSS := hS
  rw [f_X1_waysToLose] at hf
  revert hP hS
  suffices hsuf : ∀ (H : Heap) (locs : List Loc), va_P D vwCl (wX cI cZ a S) H → va_S (xA a) s.heap H locs → W p l e rmX1_waysToLose s m args below meth c H locs 0 0 (MQ below (tQi D (wX cI cZ a) (xA a) o.2 o.1) args s 0 0 (xA a)) (F0 m 0 ls []) from fun hP hS => hsuf s.heap [] hP hS
  intro H locs hP hS
  refine lv_iconst (v := (0 : Int32)) hx hb dX1_waysToLose_0 (by decide) ?_
  refine lv_istore_n (lv' := [(3, .int (0 : Int32)), (0, .ref (a 16)), (1, .int x1), (2, .int x2)]) hx hb dX1_waysToLose_1 rfl hl (Nat.le_of_ble_eq_true rfl) rfl (fun ls hl => ?_)
  obtain ⟨o2, hc2, hf⟩ := ob hf
  refine lp_X1_waysToLose_2 C (fun H locs ls hP hS hl => ?_) fuel _ _ hc2 H locs ls hP hS (lv_sub hl [1, 2, 3, 0] rfl)
  refine lv_aload_n hx hb dX1_waysToLose_29 rfl (lv_at hl 0 rfl) ?_
  refine gx_1_1 C hin1 hP (List.mem_of_getElem? (i := 2) rfl) dX1_waysToLose_30 ?_
  refine gxn_8_3 C hin8 hP (i := 13) rfl dX1_waysToLose_33 ?_
  refine lv_istore_n (lv' := [(3, .int (o2.1 10)), (0, .ref (a 16)), (1, .int x1), (2, .int x2)]) hx hb dX1_waysToLose_36 rfl hl (Nat.le_of_ble_eq_true rfl) rfl (fun ls hl => ?_)
  obtain ⟨o37, hc37, hf⟩ := ob hf
  refine lp_X1_waysToLose_37 C (fun H locs ls hP hS hl => ?_) fuel _ _ hc37 H locs ls hP hS (lv_sub hl [1, 2, 3, 0] rfl)
  refine lv_iload_n hx hb dX1_waysToLose_129 rfl (lv_at hl 1 rfl) ?_
  refine lv_if_lt (tgt := 148) hx hb dX1_waysToLose_130 (by decide) (fun c12 => ?_) (fun c12 => ?_)
  · have hf := if_p hf c12
    refine lv_iconst (v := (0 : Int32)) hx hb dX1_waysToLose_148 (by decide) ?_
    obtain rfl := Option.some.inj hf
    exact tRet_i C hr hlk hP hS dX1_waysToLose_149
  · have hf := if_n hf c12
    refine lv_iload_n hx hb dX1_waysToLose_133 rfl (lv_at hl 1 rfl) ?_
    refine lv_bipush (v := (6 : Int32)) hx hb dX1_waysToLose_134 (by decide) ?_
    refine lv_icmp_gt (tgt := 148) hx hb dX1_waysToLose_136 (by decide) (fun c13 => ?_) (fun c13 => ?_)
    · have hf := if_p hf c13
      refine lv_iconst (v := (0 : Int32)) hx hb dX1_waysToLose_148 (by decide) ?_
      obtain rfl := Option.some.inj hf
      exact tRet_i C hr hlk hP hS dX1_waysToLose_149
    · have hf := if_n hf c13
      refine lv_aload_n hx hb dX1_waysToLose_139 rfl (lv_at hl 0 rfl) ?_
      refine gx_1_2 C hin1 hP (List.mem_of_getElem? (i := 1) rfl) dX1_waysToLose_140 ?_
      refine lv_iload_n hx hb dX1_waysToLose_143 rfl (lv_at hl 1 rfl) ?_
      obtain ⟨hi14, hf⟩ := ob_in hf
      refine ldx_9 C hP rfl hi14 dX1_waysToLose_144 ?_
      refine lv_goto (tgt := 149) hx hb dX1_waysToLose_145 (by decide) ?_
      obtain rfl := Option.some.inj hf
      exact tRet_i C hr hlk hP hS dX1_waysToLose_149
def rmX9_powerOfTen : Room := { frames := 0, cells := 0, slots := 0, locals := 0 }
theorem hd_X9_powerOfTen : yX9_powerOfTen.cls ≠ "java/lang/invoke/MethodHandle" ∧ yX9_powerOfTen.cls ≠ "java/lang/invoke/VarHandle" ∧ (parseMethodDescriptor yX9_powerOfTen.desc).map (fun d => d.parameters.length) = some 1 := by decide +kernel
set_option maxHeartbeats 4000000 in
set_option maxRecDepth 100000 in
theorem lp_X9_powerOfTen_4 {p : Program} {l : Launch} {e : Env} {s : State} {m : MethodId} {args : Array Value} {below : List Frame} {meth : Method} {c : Code} {D : va_G} {cI cZ : ClassId} {a : Nat → Nat} {Q : State → Prop} {H0 : Heap} {x0 : Int32} {S : St} {o : Int32}
    (C : tC p c s m args cX9_powerOfTen 3 RX9 wsX9_powerOfTen D cI cZ (wX cI cZ a) (xA a))
    (K0 : ∀ (H : Heap) (locs : List Loc) (ls : Array Slot), va_P D vwCl (wX cI cZ a S) H → va_S (xA a) H0 H locs → lv_has ls 3 [(1, .int o)] → W p l e rmX9_powerOfTen s m args below meth c H locs 0 0 Q (F0 m 20 ls [])) :
    ∀ (n : Nat) (x1 : Int32) (x2 : Int32), l_X9_powerOfTen_4 x0 n x1 x2 = some o → ∀ (H : Heap) (locs : List Loc) (ls : Array Slot), va_P D vwCl (wX cI cZ a S) H → va_S (xA a) H0 H locs → lv_has ls 3 [(0, .int x0), (1, .int x1), (2, .int x2)] → W p l e rmX9_powerOfTen s m args below meth c H locs 0 0 Q (F0 m 4 ls []) := by
  obtain ⟨⟨hx, hb, hml, hown, hts⟩, hK, hN, hA⟩ := id C
  intro n
  induction n with
  | zero =>
    intro x1 x2 hf
    rw [l_X9_powerOfTen_4] at hf
    cases hf
  | succ n ih =>
    intro x1 x2 hf H locs ls hP hS hl
    rw [l_X9_powerOfTen_4] at hf
    refine lv_iload_n hx hb dX9_powerOfTen_4 rfl (lv_at hl 2 rfl) ?_
    refine lv_iload_n hx hb dX9_powerOfTen_5 rfl (lv_at hl 0 rfl) ?_
    refine lv_icmp_ge (tgt := 20) hx hb dX9_powerOfTen_6 (by decide) (fun c1 => ?_) (fun c1 => ?_)
    · have hf := if_p hf c1
      obtain rfl := Option.some.inj hf
      exact K0 H locs ls hP hS (lv_sub hl [1] rfl)
    · have hf := if_n hf c1
      refine lv_iload_n hx hb dX9_powerOfTen_9 rfl (lv_at hl 1 rfl) ?_
      refine lv_bipush (v := (10 : Int32)) hx hb dX9_powerOfTen_10 (by decide) ?_
      refine lv_imul hx hb dX9_powerOfTen_12 ?_
      refine lv_istore_n (lv' := [(1, .int (x1 * (10 : Int32))), (0, .int x0), (2, .int x2)]) hx hb dX9_powerOfTen_13 rfl hl (Nat.le_of_ble_eq_true rfl) rfl (fun ls hl => ?_)
      refine lv_iinc (v := (x2 + 1)) (lv' := [(2, .int (x2 + 1)), (1, .int (x1 * (10 : Int32))), (0, .int x0)]) hx hb dX9_powerOfTen_14 hl (k := 2) rfl rfl (Nat.le_of_ble_eq_true rfl) rfl (fun ls hl => ?_)
      refine lv_goto (tgt := 4) hx hb dX9_powerOfTen_17 (by decide) ?_
      exact ih _ _ hf H locs ls hP hS (lv_sub hl [2, 1, 0] rfl)
set_option maxHeartbeats 4000000 in
set_option maxRecDepth 100000 in
theorem c_X9_powerOfTen (l : Launch) {D : va_G} {cI cZ : ClassId} {a : Nat → Nat} (hA : ∀ S : St, va_D (xA a) (wX cI cZ a S)) {x0 : Int32} {S : St} {o : Int32} (hf : f_X9_powerOfTen x0 = some o) : Met l yX9_powerOfTen wsX9_powerOfTen rmX9_powerOfTen (tPc D cI cZ (wX cI cZ a) S ([.int x0] : List Value)) (tQi D (wX cI cZ a) (xA a) S o) 0 0 (xA a) := by
  refine tEnter (cc := cX9_powerOfTen) (maxL := 3) (ret := (some .int)) (own := RX9) hA rfl (by decide) rfl (Nat.le_of_ble_eq_true rfl) (fun p e s m args below meth c C hr hlk hP hS ls hl => ?_)
  obtain ⟨⟨hx, hb, hml, hown, hts⟩, hK, hN, -⟩ := id C
  have hl : lv_has ls 3 [(0, .int x0)] := hl
  have hSS := hS
  rw [f_X9_powerOfTen] at hf
  revert hP hS
  suffices hsuf : ∀ (H : Heap) (locs : List Loc), va_P D vwCl (wX cI cZ a S) H → va_S (xA a) s.heap H locs → W p l e rmX9_powerOfTen s m args below meth c H locs 0 0 (MQ below (tQi D (wX cI cZ a) (xA a) S o) args s 0 0 (xA a)) (F0 m 0 ls []) from fun hP hS => hsuf s.heap [] hP hS
  intro H locs hP hS
  refine lv_iconst (v := (1 : Int32)) hx hb dX9_powerOfTen_0 (by decide) ?_
  refine lv_istore_n (lv' := [(1, .int (1 : Int32)), (0, .int x0)]) hx hb dX9_powerOfTen_1 rfl hl (Nat.le_of_ble_eq_true rfl) rfl (fun ls hl => ?_)
  refine lv_iconst (v := (0 : Int32)) hx hb dX9_powerOfTen_2 (by decide) ?_
  refine lv_istore_n (lv' := [(2, .int (0 : Int32)), (1, .int (1 : Int32)), (0, .int x0)]) hx hb dX9_powerOfTen_3 rfl hl (Nat.le_of_ble_eq_true rfl) rfl (fun ls hl => ?_)
  obtain ⟨o4, hc4, hf⟩ := ob hf
  refine lp_X9_powerOfTen_4 C (fun H locs ls hP hS hl => ?_) fuel _ _ hc4 H locs ls hP hS (lv_sub hl [2, 1, 0] rfl)
  refine lv_iload_n hx hb dX9_powerOfTen_20 rfl (lv_at hl 0 rfl) ?_
  obtain rfl := Option.some.inj hf
  exact tRet_i C hr hlk hP hS dX9_powerOfTen_21
def rmX9_chance : Room := { frames := 3, cells := 0, slots := 0, locals := 67 }
theorem hn_X9_chance_9 : ∀ w ∈ wsX90, w ∈ wsX9_chance := fun w h => List.mem_cons_of_mem _ (List.mem_append_left _ (List.mem_append_left _ (List.mem_append_left _ (List.mem_append_right _ h))))
theorem hd_X9_chance : yX9_chance.cls ≠ "java/lang/invoke/MethodHandle" ∧ yX9_chance.cls ≠ "java/lang/invoke/VarHandle" ∧ (parseMethodDescriptor yX9_chance.desc).map (fun d => d.parameters.length) = some 3 := by decide +kernel
set_option maxHeartbeats 4000000 in
set_option maxRecDepth 100000 in
theorem c_X9_chance (l : Launch) {D : va_G} {cI cZ : ClassId} {a : Nat → Nat} (hA : ∀ S : St, va_D (xA a) (wX cI cZ a S)) {x1 : Int32} {x2 : Int32} {x3 : Int32} {S : St} {o : Int32 × St} (hf : f_X9_chance x1 x2 x3 S = some o) : Met l yX9_chance wsX9_chance rmX9_chance (tPc D cI cZ (wX cI cZ a) S ([.ref (a 0), .int x1, .int x2, .int x3] : List Value)) (tQi D (wX cI cZ a) (xA a) o.2 o.1) 0 0 (xA a) := by
  refine tEnter (cc := cX9_chance) (maxL := 4) (ret := (some .int)) (own := RX9) hA rfl (by decide) rfl (Nat.le_of_ble_eq_true rfl) (fun p e s m args below meth c C hr hlk hP hS ls hl => ?_)
  obtain ⟨⟨hx, hb, hml, hown, hts⟩, hK, hN, -⟩ := id C
  have hl : lv_has ls 4 [(0, .ref (a 0)), (1, .int x1), (2, .int x2), (3, .int x3)] := hl
  have hin9 := hn_X9_chance_9
  have hSS := hS
  rw [f_X9_chance] at hf
  revert hP hS
  suffices hsuf : ∀ (H : Heap) (locs : List Loc), va_P D vwCl (wX cI cZ a S) H → va_S (xA a) s.heap H locs → W p l e rmX9_chance s m args below meth c H locs 0 0 (MQ below (tQi D (wX cI cZ a) (xA a) o.2 o.1) args s 0 0 (xA a)) (F0 m 0 ls []) from fun hP hS => hsuf s.heap [] hP hS
  intro H locs hP hS
  refine lv_iload_n hx hb dX9_chance_0 rfl (lv_at hl 1 rfl) ?_
  refine lv_iconst (v := (1 : Int32)) hx hb dX9_chance_1 (by decide) ?_
  refine lv_icmp_lt (tgt := 32) hx hb dX9_chance_2 (by decide) (fun c1 => ?_) (fun c1 => ?_)
  · have hf := if_p hf c1
    refine lv_bipush (v := (-2 : Int32)) hx hb dX9_chance_32 (by decide) ?_
    obtain rfl := Option.some.inj hf
    exact tRet_i C hr hlk hP hS dX9_chance_34
  · have hf := if_n hf c1
    refine lv_iload_n hx hb dX9_chance_5 rfl (lv_at hl 1 rfl) ?_
    refine lv_bipush (v := (6 : Int32)) hx hb dX9_chance_6 (by decide) ?_
    refine lv_icmp_gt (tgt := 32) hx hb dX9_chance_8 (by decide) (fun c2 => ?_) (fun c2 => ?_)
    · have hf := if_p hf c2
      refine lv_bipush (v := (-2 : Int32)) hx hb dX9_chance_32 (by decide) ?_
      obtain rfl := Option.some.inj hf
      exact tRet_i C hr hlk hP hS dX9_chance_34
    · have hf := if_n hf c2
      refine lv_aload_n hx hb dX9_chance_11 rfl (lv_at hl 0 rfl) ?_
      refine gx_9_6 C hin9 hP (List.mem_of_getElem? (i := 1) rfl) dX9_chance_12 ?_
      refine lv_iload_n hx hb dX9_chance_15 rfl (lv_at hl 1 rfl) ?_
      obtain ⟨r16, hc16, hf⟩ := ob hf
      refine tCallVi (As := [.int x1]) (rest := []) (q0 := 16) (ci := 1) C hP hS rfl rfl (c_X1_reaches l C.2.2.2 hc16) (cwV 1 hts gX9_chance_X1_reaches rfl rfl rfl ⟨rfl, hd_X1_reaches⟩ ⟨Nat.le_of_ble_eq_true rfl, Nat.le_of_ble_eq_true rfl⟩) rfl hl rfl (Nat.le_of_ble_eq_true rfl) dX9_chance_16 ⟨Nat.le_refl 0, Nat.le_refl 0⟩ (fun H locs hP hS => ?_)
      refine lv_if_eq (tgt := 32) hx hb dX9_chance_19 (by decide) (fun c3 => ?_) (fun c3 => ?_)
      · have hf := if_p hf c3
        refine lv_bipush (v := (-2 : Int32)) hx hb dX9_chance_32 (by decide) ?_
        obtain rfl := Option.some.inj hf
        exact tRet_i C hr hlk hP hS dX9_chance_34
      · have hf := if_n hf c3
        refine lv_iload_n hx hb dX9_chance_22 rfl (lv_at hl 2 rfl) ?_
        refine lv_if_lt (tgt := 32) hx hb dX9_chance_23 (by decide) (fun c4 => ?_) (fun c4 => ?_)
        · have hf := if_p hf c4
          refine lv_bipush (v := (-2 : Int32)) hx hb dX9_chance_32 (by decide) ?_
          obtain rfl := Option.some.inj hf
          exact tRet_i C hr hlk hP hS dX9_chance_34
        · have hf := if_n hf c4
          refine lv_iload_n hx hb dX9_chance_26 rfl (lv_at hl 2 rfl) ?_
          refine lv_bipush (v := (6 : Int32)) hx hb dX9_chance_27 (by decide) ?_
          refine lv_icmp_le (tgt := 35) hx hb dX9_chance_29 (by decide) (fun c5 => ?_) (fun c5 => ?_)
          · have hf := if_p hf c5
            refine lv_aload_n hx hb dX9_chance_35 rfl (lv_at hl 0 rfl) ?_
            refine gx_9_6 C hin9 hP (List.mem_of_getElem? (i := 1) rfl) dX9_chance_36 ?_
            refine lv_iload_n hx hb dX9_chance_39 rfl (lv_at hl 1 rfl) ?_
            refine lv_iload_n hx hb dX9_chance_40 rfl (lv_at hl 2 rfl) ?_
            obtain ⟨r41, hc41, hf⟩ := ob hf
            refine tCallVi (As := [.int x1, .int x2]) (rest := []) (q0 := 16) (ci := 1) C hP hS rfl rfl (c_X1_waysToLose l C.2.2.2 hc41) (cwV 2 hts gX9_chance_X1_waysToLose rfl rfl rfl ⟨rfl, hd_X1_waysToLose⟩ ⟨Nat.le_of_ble_eq_true rfl, Nat.le_of_ble_eq_true rfl⟩) rfl hl rfl (Nat.le_of_ble_eq_true rfl) dX9_chance_41 ⟨Nat.le_refl 0, Nat.le_refl 0⟩ (fun H locs hP hS => ?_)
            refine lv_iload_n hx hb dX9_chance_44 rfl (lv_at hl 1 rfl) ?_
            obtain ⟨r45, hc45, hf⟩ := ob hf
            refine tCallSi (As := [.int x1]) (rest := [.int r41.1]) C hP hS (c_X9_powerOfTen l C.2.2.2 hc45) (va_cwS 1 hts gX9_chance_X9_powerOfTen rfl rfl rfl hd_X9_powerOfTen ⟨Nat.le_of_ble_eq_true rfl, Nat.le_of_ble_eq_true rfl⟩) rfl hl rfl (Nat.le_of_ble_eq_true rfl) dX9_chance_45 ⟨Nat.le_refl 0, Nat.le_refl 0⟩ (fun H locs hP hS => ?_)
            refine lv_iload_n hx hb dX9_chance_48 rfl (lv_at hl 3 rfl) ?_
            obtain ⟨r49, hc49, hf⟩ := ob hf
            refine tCallSi (As := [.int r41.1, .int r45, .int x3]) (rest := []) C hP hS (c_X9_fraction l C.2.2.2 hc49) (va_cwS 3 hts gX9_chance_X9_fraction rfl rfl rfl hd_X9_fraction ⟨Nat.le_of_ble_eq_true rfl, Nat.le_of_ble_eq_true rfl⟩) rfl hl rfl (Nat.le_of_ble_eq_true rfl) dX9_chance_49 ⟨Nat.le_refl 0, Nat.le_refl 0⟩ (fun H locs hP hS => ?_)
            obtain rfl := Option.some.inj hf
            exact tRet_i C hr hlk hP hS dX9_chance_52
          · have hf := if_n hf c5
            refine lv_bipush (v := (-2 : Int32)) hx hb dX9_chance_32 (by decide) ?_
            obtain rfl := Option.some.inj hf
            exact tRet_i C hr hlk hP hS dX9_chance_34
def rmX9_seed : Room := { frames := 0, cells := 0, slots := 0, locals := 0 }
theorem hn_X9_seed_9 : ∀ w ∈ wsX90, w ∈ wsX9_seed := fun w h => List.mem_cons_of_mem _ (List.mem_append_right _ h)
theorem hd_X9_seed : yX9_seed.cls ≠ "java/lang/invoke/MethodHandle" ∧ yX9_seed.cls ≠ "java/lang/invoke/VarHandle" ∧ (parseMethodDescriptor yX9_seed.desc).map (fun d => d.parameters.length) = some 1 := by decide +kernel
set_option maxHeartbeats 4000000 in
set_option maxRecDepth 100000 in
theorem c_X9_seed (l : Launch) {D : va_G} {cI cZ : ClassId} {a : Nat → Nat} (hA : ∀ S : St, va_D (xA a) (wX cI cZ a S)) {x1 : Int64} {S : St} {o : Int64 × St} (hf : f_X9_seed x1 S = some o) : Met l yX9_seed wsX9_seed rmX9_seed (tPc D cI cZ (wX cI cZ a) S ([.ref (a 0), .long x1] : List Value)) (tQl D (wX cI cZ a) (xA a) o.2 o.1) 0 0 (xA a) := by
  refine tEnter (cc := cX9_seed) (maxL := 5) (ret := (some .long)) (own := RX9) hA rfl (by decide) rfl (Nat.le_of_ble_eq_true rfl) (fun p e s m args below meth c C hr hlk hP hS ls hl => ?_)
  obtain ⟨⟨hx, hb, hml, hown, hts⟩, hK, hN, -⟩ := id C
  have hl : lv_has ls 5 [(0, .ref (a 0)), (1, .long x1)] := hl
  have hin9 := hn_X9_seed_9
  have hSS := hS
  rw [f_X9_seed] at hf
  revert hP hS
  suffices hsuf : ∀ (H : Heap) (locs : List Loc), va_P D vwCl (wX cI cZ a S) H → va_S (xA a) s.heap H locs → W p l e rmX9_seed s m args below meth c H locs 0 0 (MQ below (tQl D (wX cI cZ a) (xA a) o.2 o.1) args s 0 0 (xA a)) (F0 m 0 ls []) from fun hP hS => hsuf s.heap [] hP hS
  intro H locs hP hS
  refine lv_aload_n hx hb dX9_seed_0 rfl (lv_at hl 0 rfl) ?_
  refine gx_9_9 C hin9 hP (List.mem_of_getElem? (i := 1) rfl) dX9_seed_1 ?_
  refine lv_lstore_n (lv' := [(3, .long S.2.2), (0, .ref (a 0)), (1, .long x1)]) hx hb dX9_seed_4 rfl hl (Nat.le_of_ble_eq_true rfl) rfl (fun ls hl => ?_)
  refine lv_aload_n hx hb dX9_seed_5 rfl (lv_at hl 1 rfl) ?_
  refine lv_lload_n hx hb dX9_seed_6 rfl (lv_at hl 2 rfl) ?_
  refine px_9_9 C hin9 hP hS (List.mem_of_getElem? (i := 1) rfl) dX9_seed_7 (fun H locs hP hS => ?_)
  obtain ⟨S7, eS7⟩ : ∃ z, z = (sL S x1) := ⟨_, rfl⟩
  rw [← eS7] at hP
  have hf := nm_i hf eS7
  refine lv_lload_n hx hb dX9_seed_10 rfl (lv_at hl 0 rfl) ?_
  obtain rfl := Option.some.inj hf
  exact tRet_l C hr hlk hP hS dX9_seed_11
def rmX9_lossesOfDay : Room := { frames := 2, cells := 0, slots := 0, locals := 42 }
theorem hn_X9_lossesOfDay_3 : ∀ w ∈ wsX30, w ∈ wsX9_lossesOfDay := fun w h => List.mem_cons_of_mem _ (List.mem_append_right _ h)
theorem hn_X9_lossesOfDay_8 : ∀ w ∈ wsX80, w ∈ wsX9_lossesOfDay := fun w h => List.mem_cons_of_mem _ (List.mem_append_left _ (List.mem_append_right _ h))
theorem hn_X9_lossesOfDay_9 : ∀ w ∈ wsX90, w ∈ wsX9_lossesOfDay := fun w h => List.mem_cons_of_mem _ (List.mem_append_left _ (List.mem_append_left _ (List.mem_append_right _ h)))
theorem hd_X9_lossesOfDay : yX9_lossesOfDay.cls ≠ "java/lang/invoke/MethodHandle" ∧ yX9_lossesOfDay.cls ≠ "java/lang/invoke/VarHandle" ∧ (parseMethodDescriptor yX9_lossesOfDay.desc).map (fun d => d.parameters.length) = some 0 := by decide +kernel
set_option maxHeartbeats 4000000 in
set_option maxRecDepth 100000 in
theorem lp_X9_lossesOfDay_10 {p : Program} {l : Launch} {e : Env} {s : State} {m : MethodId} {args : Array Value} {below : List Frame} {meth : Method} {c : Code} {D : va_G} {cI cZ : ClassId} {a : Nat → Nat} {Q : State → Prop} {H0 : Heap} {o : Int32 × St}
    (C : tC p c s m args cX9_lossesOfDay 3 RX9 wsX9_lossesOfDay D cI cZ (wX cI cZ a) (xA a))
    (K0 : ∀ (H : Heap) (locs : List Loc) (ls : Array Slot), va_P D vwCl (wX cI cZ a o.2) H → va_S (xA a) H0 H locs → lv_has ls 3 [(1, .int o.1)] → W p l e rmX9_lossesOfDay s m args below meth c H locs 0 0 Q (F0 m 70 ls [])) :
    ∀ (n : Nat) (x1 : Int32) (x2 : Int32) (S : St), l_X9_lossesOfDay_10 n x1 x2 S = some o → ∀ (H : Heap) (locs : List Loc) (ls : Array Slot), va_P D vwCl (wX cI cZ a S) H → va_S (xA a) H0 H locs → lv_has ls 3 [(0, .ref (a 0)), (1, .int x1), (2, .int x2)] → W p l e rmX9_lossesOfDay s m args below meth c H locs 0 0 Q (F0 m 10 ls []) := by
  obtain ⟨⟨hx, hb, hml, hown, hts⟩, hK, hN, hA⟩ := id C
  have hin3 := hn_X9_lossesOfDay_3
  have hin8 := hn_X9_lossesOfDay_8
  have hin9 := hn_X9_lossesOfDay_9
  intro n
  induction n with
  | zero =>
    intro x1 x2 S hf
    rw [l_X9_lossesOfDay_10] at hf
    cases hf
  | succ n ih =>
    intro x1 x2 S hf H locs ls hP hS hl
    rw [l_X9_lossesOfDay_10] at hf
    refine lv_iload_n hx hb dX9_lossesOfDay_10 rfl (lv_at hl 2 rfl) ?_
    refine lv_aload_n hx hb dX9_lossesOfDay_11 rfl (lv_at hl 0 rfl) ?_
    refine gx_9_1 C hin9 hP (List.mem_of_getElem? (i := 2) rfl) dX9_lossesOfDay_12 ?_
    refine gxn_3_5 C hin3 hP (i := 8) rfl dX9_lossesOfDay_15 ?_
    refine lv_icmp_ge (tgt := 70) hx hb dX9_lossesOfDay_18 (by decide) (fun c1 => ?_) (fun c1 => ?_)
    · have hf := if_p hf c1
      obtain rfl := Option.some.inj hf
      exact K0 H locs ls hP hS (lv_sub hl [1] rfl)
    · have hf := if_n hf c1
      refine lv_aload_n hx hb dX9_lossesOfDay_21 rfl (lv_at hl 0 rfl) ?_
      refine lv_aload_n hx hb dX9_lossesOfDay_22 rfl (lv_at hl 0 rfl) ?_
      refine gx_9_9 C hin9 hP (List.mem_of_getElem? (i := 3) rfl) dX9_lossesOfDay_23 ?_
      refine lv_ldc2 (v := (6364136223846793005 : Int64)) hx hb hown (hts _ (List.mem_of_getElem? (i := 4) rfl)) dX9_lossesOfDay_26 ?_
      refine lv_lmul hx hb dX9_lossesOfDay_29 ?_
      refine lv_ldc2 (v := (1442695040888963407 : Int64)) hx hb hown (hts _ (List.mem_of_getElem? (i := 5) rfl)) dX9_lossesOfDay_30 ?_
      refine lv_ladd hx hb dX9_lossesOfDay_33 ?_
      refine px_9_9 C hin9 hP hS (List.mem_of_getElem? (i := 3) rfl) dX9_lossesOfDay_34 (fun H locs hP hS => ?_)
      obtain ⟨S34, eS34⟩ : ∃ z, z = (sL S ((S.2.2 * (6364136223846793005 : Int64)) + (1442695040888963407 : Int64))) := ⟨_, rfl⟩
      rw [← eS34] at hP
      have hf := nm_i hf eS34
      refine lv_aload_n hx hb dX9_lossesOfDay_37 rfl (lv_at hl 0 rfl) ?_
      refine gx_9_9 C hin9 hP (List.mem_of_getElem? (i := 3) rfl) dX9_lossesOfDay_38 ?_
      refine lv_bipush (v := (33 : Int32)) hx hb dX9_lossesOfDay_41 (by decide) ?_
      refine lv_lushr hx hb dX9_lossesOfDay_43 rfl ?_
      refine lv_ldc2 (v := (10 : Int64)) hx hb hown (hts _ (List.mem_of_getElem? (i := 6) rfl)) dX9_lossesOfDay_44 ?_
      refine lv_lrem hx hb dX9_lossesOfDay_47 (by decide) ?_
      refine lv_aload_n hx hb dX9_lossesOfDay_48 rfl (lv_at hl 0 rfl) ?_
      refine gx_9_1 C hin9 hP (List.mem_of_getElem? (i := 2) rfl) dX9_lossesOfDay_49 ?_
      refine lv_iload_n hx hb dX9_lossesOfDay_52 rfl (lv_at hl 2 rfl) ?_
      obtain ⟨r53, hc53, hf⟩ := ob hf
      refine tCallVi (As := [.int x2]) (rest := [.long ((S34.2.2.toUInt64 >>> ((33 : Int32).toInt64.toUInt64 &&& Int64.toUInt64 63)).toInt64 - (S34.2.2.toUInt64 >>> ((33 : Int32).toInt64.toUInt64 &&& Int64.toUInt64 63)).toInt64 / (10 : Int64) * (10 : Int64))]) (q0 := 3) (ci := 3) C hP hS rfl rfl (c_X3_gorseOf l C.2.2.2 hc53) (cwV 1 hts gX9_lossesOfDay_X3_gorseOf rfl rfl rfl ⟨rfl, hd_X3_gorseOf⟩ ⟨Nat.le_of_ble_eq_true rfl, Nat.le_of_ble_eq_true rfl⟩) rfl hl rfl (Nat.le_of_ble_eq_true rfl) dX9_lossesOfDay_53 ⟨Nat.le_refl 0, Nat.le_refl 0⟩ (fun H locs hP hS => ?_)
      refine lv_i2l hx hb dX9_lossesOfDay_56 rfl ?_
      refine W.lcmp hx hb dX9_lossesOfDay_57 ?_
      refine lv_if_ge (tgt := 64) hx hb dX9_lossesOfDay_58 (by decide) (fun c2 => ?_) (fun c2 => ?_)
      · have hf := if_p hf c2
        refine lv_iinc (v := (x2 + 1)) (lv' := [(2, .int (x2 + 1)), (0, .ref (a 0)), (1, .int x1)]) hx hb dX9_lossesOfDay_64 hl (k := 2) rfl rfl (Nat.le_of_ble_eq_true rfl) rfl (fun ls hl => ?_)
        refine lv_goto (tgt := 10) hx hb dX9_lossesOfDay_67 (by decide) ?_
        exact ih _ _ _ hf H locs ls hP hS (lv_sub hl [1, 2, 0] rfl)
      · have hf := if_n hf c2
        refine lv_iinc (v := (x1 + 1)) (lv' := [(1, .int (x1 + 1)), (0, .ref (a 0)), (2, .int x2)]) hx hb dX9_lossesOfDay_61 hl (k := 1) rfl rfl (Nat.le_of_ble_eq_true rfl) rfl (fun ls hl => ?_)
        refine lv_iinc (v := (x2 + 1)) (lv' := [(2, .int (x2 + 1)), (1, .int (x1 + 1)), (0, .ref (a 0))]) hx hb dX9_lossesOfDay_64 hl (k := 2) rfl rfl (Nat.le_of_ble_eq_true rfl) rfl (fun ls hl => ?_)
        refine lv_goto (tgt := 10) hx hb dX9_lossesOfDay_67 (by decide) ?_
        exact ih _ _ _ hf H locs ls hP hS (lv_sub hl [2, 1, 0] rfl)
set_option maxHeartbeats 4000000 in
set_option maxRecDepth 100000 in
theorem c_X9_lossesOfDay (l : Launch) {D : va_G} {cI cZ : ClassId} {a : Nat → Nat} (hA : ∀ S : St, va_D (xA a) (wX cI cZ a S)) {S : St} {o : Int32 × St} (hf : f_X9_lossesOfDay S = some o) : Met l yX9_lossesOfDay wsX9_lossesOfDay rmX9_lossesOfDay (tPc D cI cZ (wX cI cZ a) S ([.ref (a 0)] : List Value)) (tQi D (wX cI cZ a) (xA a) o.2 o.1) 0 0 (xA a) := by
  refine tEnter (cc := cX9_lossesOfDay) (maxL := 3) (ret := (some .int)) (own := RX9) hA rfl (by decide) rfl (Nat.le_of_ble_eq_true rfl) (fun p e s m args below meth c C hr hlk hP hS ls hl => ?_)
  obtain ⟨⟨hx, hb, hml, hown, hts⟩, hK, hN, -⟩ := id C
  have hl : lv_has ls 3 [(0, .ref (a 0))] := hl
  have hin3 := hn_X9_lossesOfDay_3
  have hin8 := hn_X9_lossesOfDay_8
  have hin9 := hn_X9_lossesOfDay_9
  have hSS := hS
  rw [f_X9_lossesOfDay] at hf
  revert hP hS
  suffices hsuf : ∀ (H : Heap) (locs : List Loc), va_P D vwCl (wX cI cZ a S) H → va_S (xA a) s.heap H locs → W p l e rmX9_lossesOfDay s m args below meth c H locs 0 0 (MQ below (tQi D (wX cI cZ a) (xA a) o.2 o.1) args s 0 0 (xA a)) (F0 m 0 ls []) from fun hP hS => hsuf s.heap [] hP hS
  intro H locs hP hS
  refine lv_iconst (v := (0 : Int32)) hx hb dX9_lossesOfDay_0 (by decide) ?_
  refine lv_istore_n (lv' := [(1, .int (0 : Int32)), (0, .ref (a 0))]) hx hb dX9_lossesOfDay_1 rfl hl (Nat.le_of_ble_eq_true rfl) rfl (fun ls hl => ?_)
  refine lv_aload_n hx hb dX9_lossesOfDay_2 rfl (lv_at hl 1 rfl) ?_
  refine gx_9_2 C hin9 hP (List.mem_of_getElem? (i := 1) rfl) dX9_lossesOfDay_3 ?_
  refine gxn_8_3 C hin8 hP (i := 14) rfl dX9_lossesOfDay_6 ?_
  refine lv_istore_n (lv' := [(2, .int (S.1 10)), (1, .int (0 : Int32)), (0, .ref (a 0))]) hx hb dX9_lossesOfDay_9 rfl hl (Nat.le_of_ble_eq_true rfl) rfl (fun ls hl => ?_)
  obtain ⟨o10, hc10, hf⟩ := ob hf
  refine lp_X9_lossesOfDay_10 C (fun H locs ls hP hS hl => ?_) fuel _ _ _ hc10 H locs ls hP hS (lv_sub hl [2, 1, 0] rfl)
  refine lv_iload_n hx hb dX9_lossesOfDay_70 rfl (lv_at hl 0 rfl) ?_
  obtain rfl := Option.some.inj hf
  exact tRet_i C hr hlk hP hS dX9_lossesOfDay_71
def rmX9_days : Room := { frames := 3, cells := 0, slots := 0, locals := 64 }
theorem hd_X9_days : yX9_days.cls ≠ "java/lang/invoke/MethodHandle" ∧ yX9_days.cls ≠ "java/lang/invoke/VarHandle" ∧ (parseMethodDescriptor yX9_days.desc).map (fun d => d.parameters.length) = some 1 := by decide +kernel
set_option maxHeartbeats 4000000 in
set_option maxRecDepth 100000 in
theorem lp_X9_days_18 {p : Program} {l : Launch} {e : Env} {s : State} {m : MethodId} {args : Array Value} {below : List Frame} {meth : Method} {c : Code} {D : va_G} {cI cZ : ClassId} {a : Nat → Nat} {Q : State → Prop} {H0 : Heap} {x1 : Int32} {o : Int32 × St}
    (C : tC p c s m args cX9_days 4 RX9 wsX9_days D cI cZ (wX cI cZ a) (xA a))
    (K0 : ∀ (H : Heap) (locs : List Loc) (ls : Array Slot), va_P D vwCl (wX cI cZ a o.2) H → va_S (xA a) H0 H locs → lv_has ls 4 [(2, .int o.1)] → W p l e rmX9_days s m args below meth c H locs 0 0 Q (F0 m 36 ls [])) :
    ∀ (n : Nat) (x2 : Int32) (x3 : Int32) (S : St), l_X9_days_18 x1 n x2 x3 S = some o → ∀ (H : Heap) (locs : List Loc) (ls : Array Slot), va_P D vwCl (wX cI cZ a S) H → va_S (xA a) H0 H locs → lv_has ls 4 [(0, .ref (a 0)), (1, .int x1), (2, .int x2), (3, .int x3)] → W p l e rmX9_days s m args below meth c H locs 0 0 Q (F0 m 18 ls []) := by
  obtain ⟨⟨hx, hb, hml, hown, hts⟩, hK, hN, hA⟩ := id C
  intro n
  induction n with
  | zero =>
    intro x2 x3 S hf
    rw [l_X9_days_18] at hf
    cases hf
  | succ n ih =>
    intro x2 x3 S hf H locs ls hP hS hl
    rw [l_X9_days_18] at hf
    refine lv_iload_n hx hb dX9_days_18 rfl (lv_at hl 3 rfl) ?_
    refine lv_iload_n hx hb dX9_days_19 rfl (lv_at hl 1 rfl) ?_
    refine lv_icmp_ge (tgt := 36) hx hb dX9_days_20 (by decide) (fun c3 => ?_) (fun c3 => ?_)
    · have hf := if_p hf c3
      obtain rfl := Option.some.inj hf
      exact K0 H locs ls hP hS (lv_sub hl [2] rfl)
    · have hf := if_n hf c3
      refine lv_iload_n hx hb dX9_days_23 rfl (lv_at hl 2 rfl) ?_
      refine lv_aload_n hx hb dX9_days_24 rfl (lv_at hl 0 rfl) ?_
      obtain ⟨r25, hc25, hf⟩ := ob hf
      refine tCallVi (As := []) (rest := [.int x2]) (q0 := 0) (ci := 9) C hP hS rfl rfl (c_X9_lossesOfDay l C.2.2.2 hc25) (cwV 0 hts gX9_days_X9_lossesOfDay rfl rfl rfl ⟨rfl, hd_X9_lossesOfDay⟩ ⟨Nat.le_of_ble_eq_true rfl, Nat.le_of_ble_eq_true rfl⟩) rfl hl rfl (Nat.le_of_ble_eq_true rfl) dX9_days_25 ⟨Nat.le_refl 0, Nat.le_refl 0⟩ (fun H locs hP hS => ?_)
      refine lv_iadd hx hb dX9_days_28 ?_
      refine lv_istore_n (lv' := [(2, .int (x2 + r25.1)), (0, .ref (a 0)), (1, .int x1), (3, .int x3)]) hx hb dX9_days_29 rfl hl (Nat.le_of_ble_eq_true rfl) rfl (fun ls hl => ?_)
      refine lv_iinc (v := (x3 + 1)) (lv' := [(3, .int (x3 + 1)), (2, .int (x2 + r25.1)), (0, .ref (a 0)), (1, .int x1)]) hx hb dX9_days_30 hl (k := 3) rfl rfl (Nat.le_of_ble_eq_true rfl) rfl (fun ls hl => ?_)
      refine lv_goto (tgt := 18) hx hb dX9_days_33 (by decide) ?_
      exact ih _ _ _ hf H locs ls hP hS (lv_sub hl [2, 3, 1, 0] rfl)
set_option maxHeartbeats 4000000 in
set_option maxRecDepth 100000 in
theorem c_X9_days (l : Launch) {D : va_G} {cI cZ : ClassId} {a : Nat → Nat} (hA : ∀ S : St, va_D (xA a) (wX cI cZ a S)) {x1 : Int32} {S : St} {o : Int32 × St} (hf : f_X9_days x1 S = some o) : Met l yX9_days wsX9_days rmX9_days (tPc D cI cZ (wX cI cZ a) S ([.ref (a 0), .int x1] : List Value)) (tQi D (wX cI cZ a) (xA a) o.2 o.1) 0 0 (xA a) := by
  refine tEnter (cc := cX9_days) (maxL := 4) (ret := (some .int)) (own := RX9) hA rfl (by decide) rfl (Nat.le_of_ble_eq_true rfl) (fun p e s m args below meth c C hr hlk hP hS ls hl => ?_)
  obtain ⟨⟨hx, hb, hml, hown, hts⟩, hK, hN, -⟩ := id C
  have hl : lv_has ls 4 [(0, .ref (a 0)), (1, .int x1)] := hl
  have hSS := hS
  rw [f_X9_days] at hf
  revert hP hS
  suffices hsuf : ∀ (H : Heap) (locs : List Loc), va_P D vwCl (wX cI cZ a S) H → va_S (xA a) s.heap H locs → W p l e rmX9_days s m args below meth c H locs 0 0 (MQ below (tQi D (wX cI cZ a) (xA a) o.2 o.1) args s 0 0 (xA a)) (F0 m 0 ls []) from fun hP hS => hsuf s.heap [] hP hS
  intro H locs hP hS
  refine lv_iload_n hx hb dX9_days_0 rfl (lv_at hl 1 rfl) ?_
  refine lv_iconst (v := (1 : Int32)) hx hb dX9_days_1 (by decide) ?_
  refine lv_icmp_lt (tgt := 11) hx hb dX9_days_2 (by decide) (fun c1 => ?_) (fun c1 => ?_)
  · have hf := if_p hf c1
    refine lv_bipush (v := (-2 : Int32)) hx hb dX9_days_11 (by decide) ?_
    obtain rfl := Option.some.inj hf
    exact tRet_i C hr hlk hP hS dX9_days_13
  · have hf := if_n hf c1
    refine lv_iload_n hx hb dX9_days_5 rfl (lv_at hl 1 rfl) ?_
    refine lv_bipush (v := (20 : Int32)) hx hb dX9_days_6 (by decide) ?_
    refine lv_icmp_le (tgt := 14) hx hb dX9_days_8 (by decide) (fun c2 => ?_) (fun c2 => ?_)
    · have hf := if_p hf c2
      refine lv_iconst (v := (0 : Int32)) hx hb dX9_days_14 (by decide) ?_
      refine lv_istore_n (lv' := [(2, .int (0 : Int32)), (0, .ref (a 0)), (1, .int x1)]) hx hb dX9_days_15 rfl hl (Nat.le_of_ble_eq_true rfl) rfl (fun ls hl => ?_)
      refine lv_iconst (v := (0 : Int32)) hx hb dX9_days_16 (by decide) ?_
      refine lv_istore_n (lv' := [(3, .int (0 : Int32)), (2, .int (0 : Int32)), (0, .ref (a 0)), (1, .int x1)]) hx hb dX9_days_17 rfl hl (Nat.le_of_ble_eq_true rfl) rfl (fun ls hl => ?_)
      obtain ⟨o18, hc18, hf⟩ := ob hf
      refine lp_X9_days_18 C (fun H locs ls hP hS hl => ?_) fuel _ _ _ hc18 H locs ls hP hS (lv_sub hl [2, 3, 1, 0] rfl)
      refine lv_iload_n hx hb dX9_days_36 rfl (lv_at hl 0 rfl) ?_
      obtain rfl := Option.some.inj hf
      exact tRet_i C hr hlk hP hS dX9_days_37
    · have hf := if_n hf c2
      refine lv_bipush (v := (-2 : Int32)) hx hb dX9_days_11 (by decide) ?_
      obtain rfl := Option.some.inj hf
      exact tRet_i C hr hlk hP hS dX9_days_13
def rmX5_has : Room := { frames := 0, cells := 0, slots := 0, locals := 0 }
theorem hd_X5_has : yX5_has.cls ≠ "java/lang/invoke/MethodHandle" ∧ yX5_has.cls ≠ "java/lang/invoke/VarHandle" ∧ (parseMethodDescriptor yX5_has.desc).map (fun d => d.parameters.length) = some 1 := by decide +kernel
set_option maxHeartbeats 4000000 in
set_option maxRecDepth 100000 in
theorem c_X5_has (l : Launch) {D : va_G} {cI cZ : ClassId} {a : Nat → Nat} (hA : ∀ S : St, va_D (xA a) (wX cI cZ a S)) {x1 : Int32} {S : St} {o : Int32} (hf : f_X5_has x1 = some o) : Met l yX5_has wsX5_has rmX5_has (tPc D cI cZ (wX cI cZ a) S ([.ref (a 11), .int x1] : List Value)) (tQi D (wX cI cZ a) (xA a) S o) 0 0 (xA a) := by
  refine tEnter (cc := cX5_has) (maxL := 2) (ret := (some .boolean)) (own := RX5) hA rfl (by decide) rfl (Nat.le_of_ble_eq_true rfl) (fun p e s m args below meth c C hr hlk hP hS ls hl => ?_)
  obtain ⟨⟨hx, hb, hml, hown, hts⟩, hK, hN, -⟩ := id C
  have hl : lv_has ls 2 [(0, .ref (a 11)), (1, .int x1)] := hl
  have hSS := hS
  rw [f_X5_has] at hf
  revert hP hS
  suffices hsuf : ∀ (H : Heap) (locs : List Loc), va_P D vwCl (wX cI cZ a S) H → va_S (xA a) s.heap H locs → W p l e rmX5_has s m args below meth c H locs 0 0 (MQ below (tQi D (wX cI cZ a) (xA a) S o) args s 0 0 (xA a)) (F0 m 0 ls []) from fun hP hS => hsuf s.heap [] hP hS
  intro H locs hP hS
  refine lv_iload_n hx hb dX5_has_0 rfl (lv_at hl 1 rfl) ?_
  refine lv_if_lt (tgt := 13) hx hb dX5_has_1 (by decide) (fun c1 => ?_) (fun c1 => ?_)
  · have hf := if_p hf c1
    refine lv_iconst (v := (0 : Int32)) hx hb dX5_has_13 (by decide) ?_
    obtain rfl := Option.some.inj hf
    exact tRet_z (v := (0 : Int32)) C hr hlk hP hS rfl dX5_has_14
  · have hf := if_n hf c1
    refine lv_iload_n hx hb dX5_has_4 rfl (lv_at hl 1 rfl) ?_
    refine lv_iconst (v := (2 : Int32)) hx hb dX5_has_5 (by decide) ?_
    refine lv_icmp_ge (tgt := 13) hx hb dX5_has_6 (by decide) (fun c2 => ?_) (fun c2 => ?_)
    · have hf := if_p hf c2
      refine lv_iconst (v := (0 : Int32)) hx hb dX5_has_13 (by decide) ?_
      obtain rfl := Option.some.inj hf
      exact tRet_z (v := (0 : Int32)) C hr hlk hP hS rfl dX5_has_14
    · have hf := if_n hf c2
      refine lv_iconst (v := (1 : Int32)) hx hb dX5_has_9 (by decide) ?_
      refine lv_goto (tgt := 14) hx hb dX5_has_10 (by decide) ?_
      obtain rfl := Option.some.inj hf
      exact tRet_z (v := (1 : Int32)) C hr hlk hP hS rfl dX5_has_14
def rmX8_saveTo_a12 : Room := { frames := 1, cells := 0, slots := 0, locals := 18 }
theorem hn_X8_saveTo_a12_8 : ∀ w ∈ wsX80, w ∈ wsX8_saveTo := fun w h => List.mem_cons_of_mem _ (List.mem_append_right _ h)
set_option maxHeartbeats 4000000 in
set_option maxRecDepth 100000 in
theorem c_X8_saveTo_a12 (l : Launch) {D : va_G} {cI cZ : ClassId} {a : Nat → Nat} (hA : ∀ S : St, va_D (xA a) (wX cI cZ a S)) {x2 : Int32} {S : St} {o : St} (hf : f_X8_saveTo_a12 x2 S = some o) : Met l yX8_saveTo wsX8_saveTo rmX8_saveTo_a12 (tPc D cI cZ (wX cI cZ a) S ([.ref (a 7), .ref (a 12), .int x2] : List Value)) (tQv D (wX cI cZ a) (xA a) o) 0 0 (xA a) := by
  refine tEnter (cc := cX8_saveTo) (maxL := 3) (ret := none) (own := RX8) hA rfl (by decide) rfl (Nat.le_of_ble_eq_true rfl) (fun p e s m args below meth c C hr hlk hP hS ls hl => ?_)
  obtain ⟨⟨hx, hb, hml, hown, hts⟩, hK, hN, -⟩ := id C
  have hl : lv_has ls 3 [(0, .ref (a 7)), (1, .ref (a 12)), (2, .int x2)] := hl
  have hin8 := hn_X8_saveTo_a12_8
  have hSS := hS
  rw [f_X8_saveTo_a12] at hf
  revert hP hS
  suffices hsuf : ∀ (H : Heap) (locs : List Loc), va_P D vwCl (wX cI cZ a S) H → va_S (xA a) s.heap H locs → W p l e rmX8_saveTo_a12 s m args below meth c H locs 0 0 (MQ below (tQv D (wX cI cZ a) (xA a) o) args s 0 0 (xA a)) (F0 m 0 ls []) from fun hP hS => hsuf s.heap [] hP hS
  intro H locs hP hS
  refine lv_iload_n hx hb dX8_saveTo_0 rfl (lv_at hl 2 rfl) ?_
  refine lv_if_lt (tgt := 13) hx hb dX8_saveTo_1 (by decide) (fun c1 => ?_) (fun c1 => ?_)
  · have hf := if_p hf c1
    obtain rfl := Option.some.inj hf
    exact tRet_v C hr hlk hP hS dX8_saveTo_13
  · have hf := if_n hf c1
    refine lv_iload_n hx hb dX8_saveTo_4 rfl (lv_at hl 2 rfl) ?_
    refine lv_aload_n hx hb dX8_saveTo_5 rfl (lv_at hl 1 rfl) ?_
    refine alx_6 C hP dX8_saveTo_6 ?_
    refine lv_bipush (v := (16 : Int32)) hx hb dX8_saveTo_7 (by decide) ?_
    refine lv_isub hx hb dX8_saveTo_9 ?_
    refine lv_icmp_le (tgt := 14) hx hb dX8_saveTo_10 (by decide) (fun c2 => ?_) (fun c2 => ?_)
    · have hf := if_p hf c2
      refine lv_aload_n hx hb dX8_saveTo_14 rfl (lv_at hl 1 rfl) ?_
      refine lv_iload_n hx hb dX8_saveTo_15 rfl (lv_at hl 2 rfl) ?_
      refine lv_aload_n hx hb dX8_saveTo_16 rfl (lv_at hl 0 rfl) ?_
      refine gx_8_0 C hin8 hP (List.mem_of_getElem? (i := 1) rfl) dX8_saveTo_17 ?_
      obtain ⟨hi3, hf⟩ := ob_in hf
      refine stx_6 C hP hS rfl hi3 dX8_saveTo_20 (fun H locs hP hS => ?_)
      obtain ⟨S20, eS20⟩ : ∃ z, z = (sA S 6 x2.toNatClampNeg (S.1 7)) := ⟨_, rfl⟩
      rw [← eS20] at hP
      have hf := nm_i hf eS20
      refine lv_aload_n hx hb dX8_saveTo_21 rfl (lv_at hl 1 rfl) ?_
      refine lv_iload_n hx hb dX8_saveTo_22 rfl (lv_at hl 2 rfl) ?_
      refine lv_iconst (v := (1 : Int32)) hx hb dX8_saveTo_23 (by decide) ?_
      refine lv_iadd hx hb dX8_saveTo_24 ?_
      refine lv_aload_n hx hb dX8_saveTo_25 rfl (lv_at hl 0 rfl) ?_
      refine gx_8_1 C hin8 hP (List.mem_of_getElem? (i := 2) rfl) dX8_saveTo_26 ?_
      obtain ⟨hi4, hf⟩ := ob_in hf
      refine stx_6 C hP hS rfl hi4 dX8_saveTo_29 (fun H locs hP hS => ?_)
      obtain ⟨S29, eS29⟩ : ∃ z, z = (sA S20 6 ((x2 + (1 : Int32)).toNatClampNeg) (S20.1 8)) := ⟨_, rfl⟩
      rw [← eS29] at hP
      have hf := nm_i hf eS29
      refine lv_aload_n hx hb dX8_saveTo_30 rfl (lv_at hl 1 rfl) ?_
      refine lv_iload_n hx hb dX8_saveTo_31 rfl (lv_at hl 2 rfl) ?_
      refine lv_iconst (v := (2 : Int32)) hx hb dX8_saveTo_32 (by decide) ?_
      refine lv_iadd hx hb dX8_saveTo_33 ?_
      refine lv_aload_n hx hb dX8_saveTo_34 rfl (lv_at hl 0 rfl) ?_
      refine gx_8_2 C hin8 hP (List.mem_of_getElem? (i := 3) rfl) dX8_saveTo_35 ?_
      obtain ⟨hi5, hf⟩ := ob_in hf
      refine stx_6 C hP hS rfl hi5 dX8_saveTo_38 (fun H locs hP hS => ?_)
      obtain ⟨S38, eS38⟩ : ∃ z, z = (sA S29 6 ((x2 + (2 : Int32)).toNatClampNeg) (S29.1 9)) := ⟨_, rfl⟩
      rw [← eS38] at hP
      have hf := nm_i hf eS38
      refine lv_aload_n hx hb dX8_saveTo_39 rfl (lv_at hl 1 rfl) ?_
      refine lv_iload_n hx hb dX8_saveTo_40 rfl (lv_at hl 2 rfl) ?_
      refine lv_iconst (v := (3 : Int32)) hx hb dX8_saveTo_41 (by decide) ?_
      refine lv_iadd hx hb dX8_saveTo_42 ?_
      refine lv_aload_n hx hb dX8_saveTo_43 rfl (lv_at hl 0 rfl) ?_
      refine gx_8_3 C hin8 hP (List.mem_of_getElem? (i := 4) rfl) dX8_saveTo_44 ?_
      obtain ⟨hi6, hf⟩ := ob_in hf
      refine stx_6 C hP hS rfl hi6 dX8_saveTo_47 (fun H locs hP hS => ?_)
      obtain ⟨S47, eS47⟩ : ∃ z, z = (sA S38 6 ((x2 + (3 : Int32)).toNatClampNeg) (S38.1 10)) := ⟨_, rfl⟩
      rw [← eS47] at hP
      have hf := nm_i hf eS47
      refine lv_aload_n hx hb dX8_saveTo_48 rfl (lv_at hl 1 rfl) ?_
      refine lv_iload_n hx hb dX8_saveTo_49 rfl (lv_at hl 2 rfl) ?_
      refine lv_iconst (v := (4 : Int32)) hx hb dX8_saveTo_50 (by decide) ?_
      refine lv_iadd hx hb dX8_saveTo_51 ?_
      refine lv_aload_n hx hb dX8_saveTo_52 rfl (lv_at hl 0 rfl) ?_
      refine gx_8_4 C hin8 hP (List.mem_of_getElem? (i := 5) rfl) dX8_saveTo_53 ?_
      obtain ⟨hi7, hf⟩ := ob_in hf
      refine stx_6 C hP hS rfl hi7 dX8_saveTo_56 (fun H locs hP hS => ?_)
      obtain ⟨S56, eS56⟩ : ∃ z, z = (sA S47 6 ((x2 + (4 : Int32)).toNatClampNeg) (S47.1 11)) := ⟨_, rfl⟩
      rw [← eS56] at hP
      have hf := nm_i hf eS56
      refine lv_aload_n hx hb dX8_saveTo_57 rfl (lv_at hl 1 rfl) ?_
      refine lv_iload_n hx hb dX8_saveTo_58 rfl (lv_at hl 2 rfl) ?_
      refine lv_iconst (v := (5 : Int32)) hx hb dX8_saveTo_59 (by decide) ?_
      refine lv_iadd hx hb dX8_saveTo_60 ?_
      refine lv_aload_n hx hb dX8_saveTo_61 rfl (lv_at hl 0 rfl) ?_
      refine gx_8_5 C hin8 hP (List.mem_of_getElem? (i := 6) rfl) dX8_saveTo_62 ?_
      obtain ⟨hi8, hf⟩ := ob_in hf
      refine stx_6 C hP hS rfl hi8 dX8_saveTo_65 (fun H locs hP hS => ?_)
      obtain ⟨S65, eS65⟩ : ∃ z, z = (sA S56 6 ((x2 + (5 : Int32)).toNatClampNeg) (S56.1 12)) := ⟨_, rfl⟩
      rw [← eS65] at hP
      have hf := nm_i hf eS65
      refine lv_aload_n hx hb dX8_saveTo_66 rfl (lv_at hl 1 rfl) ?_
      refine lv_iload_n hx hb dX8_saveTo_67 rfl (lv_at hl 2 rfl) ?_
      refine lv_bipush (v := (6 : Int32)) hx hb dX8_saveTo_68 (by decide) ?_
      refine lv_iadd hx hb dX8_saveTo_70 ?_
      refine lv_aload_n hx hb dX8_saveTo_71 rfl (lv_at hl 0 rfl) ?_
      refine gx_8_6 C hin8 hP (List.mem_of_getElem? (i := 7) rfl) dX8_saveTo_72 ?_
      obtain ⟨hi9, hf⟩ := ob_in hf
      refine stx_6 C hP hS rfl hi9 dX8_saveTo_75 (fun H locs hP hS => ?_)
      obtain ⟨S75, eS75⟩ : ∃ z, z = (sA S65 6 ((x2 + (6 : Int32)).toNatClampNeg) (S65.1 13)) := ⟨_, rfl⟩
      rw [← eS75] at hP
      have hf := nm_i hf eS75
      refine lv_aload_n hx hb dX8_saveTo_76 rfl (lv_at hl 1 rfl) ?_
      refine lv_iload_n hx hb dX8_saveTo_77 rfl (lv_at hl 2 rfl) ?_
      refine lv_bipush (v := (7 : Int32)) hx hb dX8_saveTo_78 (by decide) ?_
      refine lv_iadd hx hb dX8_saveTo_80 ?_
      refine lv_aload_n hx hb dX8_saveTo_81 rfl (lv_at hl 0 rfl) ?_
      refine gx_8_7 C hin8 hP (List.mem_of_getElem? (i := 8) rfl) dX8_saveTo_82 ?_
      obtain ⟨hi10, hf⟩ := ob_in hf
      refine stx_6 C hP hS rfl hi10 dX8_saveTo_85 (fun H locs hP hS => ?_)
      obtain ⟨S85, eS85⟩ : ∃ z, z = (sA S75 6 ((x2 + (7 : Int32)).toNatClampNeg) (S75.1 14)) := ⟨_, rfl⟩
      rw [← eS85] at hP
      have hf := nm_i hf eS85
      refine lv_aload_n hx hb dX8_saveTo_86 rfl (lv_at hl 0 rfl) ?_
      refine gx_8_8 C hin8 hP (List.mem_of_getElem? (i := 9) rfl) dX8_saveTo_87 ?_
      refine lv_iconst (v := (0 : Int32)) hx hb dX8_saveTo_90 (by decide) ?_
      refine lv_aload_n hx hb dX8_saveTo_91 rfl (lv_at hl 1 rfl) ?_
      refine lv_iload_n hx hb dX8_saveTo_92 rfl (lv_at hl 2 rfl) ?_
      refine lv_bipush (v := (8 : Int32)) hx hb dX8_saveTo_93 (by decide) ?_
      refine lv_iadd hx hb dX8_saveTo_95 ?_
      refine lv_bipush (v := (8 : Int32)) hx hb dX8_saveTo_96 (by decide) ?_
      obtain ⟨hz11, hf⟩ := ob_ne hf
      refine cp_4_6 C hP hS hl hz11 (List.mem_of_getElem? (i := 10) rfl) (List.mem_of_getElem? (i := 11) rfl) (List.mem_of_getElem? (i := 12) rfl) (List.mem_of_getElem? (i := 13) rfl) (Nat.le_of_ble_eq_true rfl) (Nat.le_of_ble_eq_true rfl) dX8_saveTo_98 (fun H locs hP hS => ?_)
      obtain ⟨S98, eS98⟩ : ∃ z, z = (sR S85 6 (va_cpy (S85.2.1 4) (S85.2.1 6) (0 : Int32).toNatClampNeg (x2 + (8 : Int32)).toNatClampNeg (8 : Int32).toNatClampNeg)) := ⟨_, rfl⟩
      rw [← eS98] at hP
      have hf := nm_i hf eS98
      obtain rfl := Option.some.inj hf
      exact tRet_v C hr hlk hP hS dX8_saveTo_101
    · have hf := if_n hf c2
      obtain rfl := Option.some.inj hf
      exact tRet_v C hr hlk hP hS dX8_saveTo_13
def rmX5_store_a7 : Room := { frames := 2, cells := 0, slots := 0, locals := 40 }
theorem hn_X5_store_a7_5 : ∀ w ∈ wsX50, w ∈ wsX5_store := fun w h => List.mem_cons_of_mem _ (List.mem_append_left _ (List.mem_append_right _ h))
theorem hd_X5_store : yX5_store.cls ≠ "java/lang/invoke/MethodHandle" ∧ yX5_store.cls ≠ "java/lang/invoke/VarHandle" ∧ (parseMethodDescriptor yX5_store.desc).map (fun d => d.parameters.length) = some 2 := by decide +kernel
set_option maxHeartbeats 4000000 in
set_option maxRecDepth 100000 in
theorem c_X5_store_a7 (l : Launch) {D : va_G} {cI cZ : ClassId} {a : Nat → Nat} (hA : ∀ S : St, va_D (xA a) (wX cI cZ a S)) {x1 : Int32} {S : St} {o : St} (hf : f_X5_store_a7 x1 S = some o) : Met l yX5_store wsX5_store rmX5_store_a7 (tPc D cI cZ (wX cI cZ a) S ([.ref (a 11), .int x1, .ref (a 7)] : List Value)) (tQv D (wX cI cZ a) (xA a) o) 0 0 (xA a) := by
  refine tEnter (cc := cX5_store) (maxL := 3) (ret := none) (own := RX5) hA rfl (by decide) rfl (Nat.le_of_ble_eq_true rfl) (fun p e s m args below meth c C hr hlk hP hS ls hl => ?_)
  obtain ⟨⟨hx, hb, hml, hown, hts⟩, hK, hN, -⟩ := id C
  have hl : lv_has ls 3 [(0, .ref (a 11)), (1, .int x1), (2, .ref (a 7))] := hl
  have hin5 := hn_X5_store_a7_5
  have hSS := hS
  rw [f_X5_store_a7] at hf
  revert hP hS
  suffices hsuf : ∀ (H : Heap) (locs : List Loc), va_P D vwCl (wX cI cZ a S) H → va_S (xA a) s.heap H locs → W p l e rmX5_store_a7 s m args below meth c H locs 0 0 (MQ below (tQv D (wX cI cZ a) (xA a) o) args s 0 0 (xA a)) (F0 m 0 ls []) from fun hP hS => hsuf s.heap [] hP hS
  intro H locs hP hS
  refine lv_aload_n hx hb dX5_store_0 rfl (lv_at hl 2 rfl) ?_
  refine lv_aload_n hx hb dX5_store_1 rfl (lv_at hl 0 rfl) ?_
  refine gx_5_0 C hin5 hP (List.mem_of_getElem? (i := 1) rfl) dX5_store_2 ?_
  refine lv_iload_n hx hb dX5_store_5 rfl (lv_at hl 1 rfl) ?_
  refine lv_bipush (v := (16 : Int32)) hx hb dX5_store_6 (by decide) ?_
  refine lv_imul hx hb dX5_store_8 ?_
  obtain ⟨r9, hc9, hf⟩ := ob hf
  refine tCallVv (As := [.ref (a 12), .int (x1 * (16 : Int32))]) (rest := []) (q0 := 7) (ci := 8) C hP hS rfl rfl (c_X8_saveTo_a12 l C.2.2.2 hc9) (cwV 2 hts gX5_store_X8_saveTo rfl rfl rfl ⟨rfl, hd_X8_saveTo⟩ ⟨Nat.le_of_ble_eq_true rfl, Nat.le_of_ble_eq_true rfl⟩) rfl hl rfl (Nat.le_of_ble_eq_true rfl) dX5_store_9 ⟨Nat.le_refl 0, Nat.le_refl 0⟩ (fun H locs hP hS => ?_)
  refine lv_aload_n hx hb dX5_store_12 rfl (lv_at hl 0 rfl) ?_
  refine lv_dup hx hb dX5_store_13 rfl ?_
  refine gx_5_1 C hin5 hP (List.mem_of_getElem? (i := 2) rfl) dX5_store_14 ?_
  refine lv_iconst (v := (1 : Int32)) hx hb dX5_store_17 (by decide) ?_
  refine lv_iload_n hx hb dX5_store_18 rfl (lv_at hl 1 rfl) ?_
  refine lv_ishl hx hb dX5_store_19 ?_
  refine lv_ior hx hb dX5_store_20 ?_
  refine px_5_1 C hin5 hP hS (List.mem_of_getElem? (i := 2) rfl) dX5_store_21 (fun H locs hP hS => ?_)
  obtain ⟨S21, eS21⟩ : ∃ z, z = (sI r9 17 ((r9.1 17) ||| ((1 : Int32) <<< (x1 &&& 31)))) := ⟨_, rfl⟩
  rw [← eS21] at hP
  have hf := nm_i hf eS21
  obtain rfl := Option.some.inj hf
  exact tRet_v C hr hlk hP hS dX5_store_24
def rmX9_keep : Room := { frames := 3, cells := 0, slots := 0, locals := 62 }
theorem hn_X9_keep_8 : ∀ w ∈ wsX80, w ∈ wsX9_keep := fun w h => List.mem_cons_of_mem _ (List.mem_append_left _ (List.mem_append_right _ h))
theorem hn_X9_keep_9 : ∀ w ∈ wsX90, w ∈ wsX9_keep := fun w h => List.mem_cons_of_mem _ (List.mem_append_left _ (List.mem_append_left _ (List.mem_append_right _ h)))
theorem hd_X9_keep : yX9_keep.cls ≠ "java/lang/invoke/MethodHandle" ∧ yX9_keep.cls ≠ "java/lang/invoke/VarHandle" ∧ (parseMethodDescriptor yX9_keep.desc).map (fun d => d.parameters.length) = some 1 := by decide +kernel
set_option maxHeartbeats 4000000 in
set_option maxRecDepth 100000 in
theorem c_X9_keep (l : Launch) {D : va_G} {cI cZ : ClassId} {a : Nat → Nat} (hA : ∀ S : St, va_D (xA a) (wX cI cZ a S)) {x1 : Int32} {S : St} {o : Int32 × St} (hf : f_X9_keep x1 S = some o) : Met l yX9_keep wsX9_keep rmX9_keep (tPc D cI cZ (wX cI cZ a) S ([.ref (a 0), .int x1] : List Value)) (tQi D (wX cI cZ a) (xA a) o.2 o.1) 0 0 (xA a) := by
  refine tEnter (cc := cX9_keep) (maxL := 2) (ret := (some .int)) (own := RX9) hA rfl (by decide) rfl (Nat.le_of_ble_eq_true rfl) (fun p e s m args below meth c C hr hlk hP hS ls hl => ?_)
  obtain ⟨⟨hx, hb, hml, hown, hts⟩, hK, hN, -⟩ := id C
  have hl : lv_has ls 2 [(0, .ref (a 0)), (1, .int x1)] := hl
  have hin8 := hn_X9_keep_8
  have hin9 := hn_X9_keep_9
  have hSS := hS
  rw [f_X9_keep] at hf
  revert hP hS
  suffices hsuf : ∀ (H : Heap) (locs : List Loc), va_P D vwCl (wX cI cZ a S) H → va_S (xA a) s.heap H locs → W p l e rmX9_keep s m args below meth c H locs 0 0 (MQ below (tQi D (wX cI cZ a) (xA a) o.2 o.1) args s 0 0 (xA a)) (F0 m 0 ls []) from fun hP hS => hsuf s.heap [] hP hS
  intro H locs hP hS
  refine lv_aload_n hx hb dX9_keep_0 rfl (lv_at hl 0 rfl) ?_
  refine gx_9_4 C hin9 hP (List.mem_of_getElem? (i := 1) rfl) dX9_keep_1 ?_
  refine lv_iload_n hx hb dX9_keep_4 rfl (lv_at hl 1 rfl) ?_
  obtain ⟨r5, hc5, hf⟩ := ob hf
  refine tCallVi (As := [.int x1]) (rest := []) (q0 := 11) (ci := 5) C hP hS rfl rfl (c_X5_has l C.2.2.2 hc5) (cwV 1 hts gX9_keep_X5_has rfl rfl rfl ⟨rfl, hd_X5_has⟩ ⟨Nat.le_of_ble_eq_true rfl, Nat.le_of_ble_eq_true rfl⟩) rfl hl rfl (Nat.le_of_ble_eq_true rfl) dX9_keep_5 ⟨Nat.le_refl 0, Nat.le_refl 0⟩ (fun H locs hP hS => ?_)
  refine lv_if_ne (tgt := 13) hx hb dX9_keep_8 (by decide) (fun c1 => ?_) (fun c1 => ?_)
  · have hf := if_n hf c1
    refine lv_aload_n hx hb dX9_keep_13 rfl (lv_at hl 0 rfl) ?_
    refine gx_9_4 C hin9 hP (List.mem_of_getElem? (i := 1) rfl) dX9_keep_14 ?_
    refine lv_iload_n hx hb dX9_keep_17 rfl (lv_at hl 1 rfl) ?_
    refine lv_aload_n hx hb dX9_keep_18 rfl (lv_at hl 0 rfl) ?_
    refine gx_9_2 C hin9 hP (List.mem_of_getElem? (i := 2) rfl) dX9_keep_19 ?_
    obtain ⟨r22, hc22, hf⟩ := ob hf
    refine tCallVv (As := [.int x1, .ref (a 7)]) (rest := []) (q0 := 11) (ci := 5) C hP hS rfl rfl (c_X5_store_a7 l C.2.2.2 hc22) (cwV 2 hts gX9_keep_X5_store rfl rfl rfl ⟨rfl, hd_X5_store⟩ ⟨Nat.le_of_ble_eq_true rfl, Nat.le_of_ble_eq_true rfl⟩) rfl hl rfl (Nat.le_of_ble_eq_true rfl) dX9_keep_22 ⟨Nat.le_refl 0, Nat.le_refl 0⟩ (fun H locs hP hS => ?_)
    refine lv_aload_n hx hb dX9_keep_25 rfl (lv_at hl 0 rfl) ?_
    refine gx_9_2 C hin9 hP (List.mem_of_getElem? (i := 2) rfl) dX9_keep_26 ?_
    refine gxn_8_3 C hin8 hP (i := 14) rfl dX9_keep_29 ?_
    obtain rfl := Option.some.inj hf
    exact tRet_i C hr hlk hP hS dX9_keep_32
  · have hf := if_p hf c1
    refine lv_iconst (v := (-1 : Int32)) hx hb dX9_keep_11 (by decide) ?_
    obtain rfl := Option.some.inj hf
    exact tRet_i C hr hlk hP hS dX9_keep_12
def rmX5_holds : Room := { frames := 1, cells := 0, slots := 0, locals := 21 }
theorem hn_X5_holds_5 : ∀ w ∈ wsX50, w ∈ wsX5_holds := fun w h => List.mem_cons_of_mem _ (List.mem_append_right _ h)
theorem hd_X5_holds : yX5_holds.cls ≠ "java/lang/invoke/MethodHandle" ∧ yX5_holds.cls ≠ "java/lang/invoke/VarHandle" ∧ (parseMethodDescriptor yX5_holds.desc).map (fun d => d.parameters.length) = some 1 := by decide +kernel
set_option maxHeartbeats 4000000 in
set_option maxRecDepth 100000 in
theorem c_X5_holds (l : Launch) {D : va_G} {cI cZ : ClassId} {a : Nat → Nat} (hA : ∀ S : St, va_D (xA a) (wX cI cZ a S)) {x1 : Int32} {S : St} {o : Int32} (hf : f_X5_holds x1 S = some o) : Met l yX5_holds wsX5_holds rmX5_holds (tPc D cI cZ (wX cI cZ a) S ([.ref (a 11), .int x1] : List Value)) (tQi D (wX cI cZ a) (xA a) S o) 0 0 (xA a) := by
  refine tEnter (cc := cX5_holds) (maxL := 2) (ret := (some .boolean)) (own := RX5) hA rfl (by decide) rfl (Nat.le_of_ble_eq_true rfl) (fun p e s m args below meth c C hr hlk hP hS ls hl => ?_)
  obtain ⟨⟨hx, hb, hml, hown, hts⟩, hK, hN, -⟩ := id C
  have hl : lv_has ls 2 [(0, .ref (a 11)), (1, .int x1)] := hl
  have hin5 := hn_X5_holds_5
  have hSS := hS
  rw [f_X5_holds] at hf
  revert hP hS
  suffices hsuf : ∀ (H : Heap) (locs : List Loc), va_P D vwCl (wX cI cZ a S) H → va_S (xA a) s.heap H locs → W p l e rmX5_holds s m args below meth c H locs 0 0 (MQ below (tQi D (wX cI cZ a) (xA a) S o) args s 0 0 (xA a)) (F0 m 0 ls []) from fun hP hS => hsuf s.heap [] hP hS
  intro H locs hP hS
  refine lv_aload_n hx hb dX5_holds_0 rfl (lv_at hl 0 rfl) ?_
  refine lv_iload_n hx hb dX5_holds_1 rfl (lv_at hl 1 rfl) ?_
  obtain ⟨r2, hc2, hf⟩ := ob hf
  refine tCallVi (As := [.int x1]) (rest := []) (q0 := 11) (ci := 5) C hP hS rfl rfl (c_X5_has l C.2.2.2 hc2) (cwV 1 hts gX5_holds_X5_has rfl rfl rfl ⟨rfl, hd_X5_has⟩ ⟨Nat.le_of_ble_eq_true rfl, Nat.le_of_ble_eq_true rfl⟩) rfl hl rfl (Nat.le_of_ble_eq_true rfl) dX5_holds_2 ⟨Nat.le_refl 0, Nat.le_refl 0⟩ (fun H locs hP hS => ?_)
  refine lv_if_eq (tgt := 24) hx hb dX5_holds_5 (by decide) (fun c1 => ?_) (fun c1 => ?_)
  · have hf := if_p hf c1
    refine lv_iconst (v := (0 : Int32)) hx hb dX5_holds_24 (by decide) ?_
    obtain rfl := Option.some.inj hf
    exact tRet_z (v := (0 : Int32)) C hr hlk hP hS rfl dX5_holds_25
  · have hf := if_n hf c1
    refine lv_aload_n hx hb dX5_holds_8 rfl (lv_at hl 0 rfl) ?_
    refine gx_5_1 C hin5 hP (List.mem_of_getElem? (i := 1) rfl) dX5_holds_9 ?_
    refine lv_iload_n hx hb dX5_holds_12 rfl (lv_at hl 1 rfl) ?_
    refine lv_ishr hx hb dX5_holds_13 ?_
    refine lv_iconst (v := (1 : Int32)) hx hb dX5_holds_14 (by decide) ?_
    refine lv_iand hx hb dX5_holds_15 ?_
    refine lv_iconst (v := (1 : Int32)) hx hb dX5_holds_16 (by decide) ?_
    refine lv_icmp_ne (tgt := 24) hx hb dX5_holds_17 (by decide) (fun c2 => ?_) (fun c2 => ?_)
    · have hf := if_n hf c2
      refine lv_iconst (v := (0 : Int32)) hx hb dX5_holds_24 (by decide) ?_
      obtain rfl := Option.some.inj hf
      exact tRet_z (v := (0 : Int32)) C hr hlk hP hS rfl dX5_holds_25
    · have hf := if_p hf c2
      refine lv_iconst (v := (1 : Int32)) hx hb dX5_holds_20 (by decide) ?_
      refine lv_goto (tgt := 25) hx hb dX5_holds_21 (by decide) ?_
      obtain rfl := Option.some.inj hf
      exact tRet_z (v := (1 : Int32)) C hr hlk hP hS rfl dX5_holds_25
def rmX8_loadFrom_a12 : Room := { frames := 1, cells := 0, slots := 0, locals := 18 }
theorem hn_X8_loadFrom_a12_8 : ∀ w ∈ wsX80, w ∈ wsX8_loadFrom := fun w h => List.mem_cons_of_mem _ (List.mem_append_right _ h)
set_option maxHeartbeats 4000000 in
set_option maxRecDepth 100000 in
theorem c_X8_loadFrom_a12 (l : Launch) {D : va_G} {cI cZ : ClassId} {a : Nat → Nat} (hA : ∀ S : St, va_D (xA a) (wX cI cZ a S)) {x2 : Int32} {S : St} {o : St} (hf : f_X8_loadFrom_a12 x2 S = some o) : Met l yX8_loadFrom wsX8_loadFrom rmX8_loadFrom_a12 (tPc D cI cZ (wX cI cZ a) S ([.ref (a 7), .ref (a 12), .int x2] : List Value)) (tQv D (wX cI cZ a) (xA a) o) 0 0 (xA a) := by
  refine tEnter (cc := cX8_loadFrom) (maxL := 3) (ret := none) (own := RX8) hA rfl (by decide) rfl (Nat.le_of_ble_eq_true rfl) (fun p e s m args below meth c C hr hlk hP hS ls hl => ?_)
  obtain ⟨⟨hx, hb, hml, hown, hts⟩, hK, hN, -⟩ := id C
  have hl : lv_has ls 3 [(0, .ref (a 7)), (1, .ref (a 12)), (2, .int x2)] := hl
  have hin8 := hn_X8_loadFrom_a12_8
  have hSS := hS
  rw [f_X8_loadFrom_a12] at hf
  revert hP hS
  suffices hsuf : ∀ (H : Heap) (locs : List Loc), va_P D vwCl (wX cI cZ a S) H → va_S (xA a) s.heap H locs → W p l e rmX8_loadFrom_a12 s m args below meth c H locs 0 0 (MQ below (tQv D (wX cI cZ a) (xA a) o) args s 0 0 (xA a)) (F0 m 0 ls []) from fun hP hS => hsuf s.heap [] hP hS
  intro H locs hP hS
  refine lv_iload_n hx hb dX8_loadFrom_0 rfl (lv_at hl 2 rfl) ?_
  refine lv_if_lt (tgt := 13) hx hb dX8_loadFrom_1 (by decide) (fun c1 => ?_) (fun c1 => ?_)
  · have hf := if_p hf c1
    obtain rfl := Option.some.inj hf
    exact tRet_v C hr hlk hP hS dX8_loadFrom_13
  · have hf := if_n hf c1
    refine lv_iload_n hx hb dX8_loadFrom_4 rfl (lv_at hl 2 rfl) ?_
    refine lv_aload_n hx hb dX8_loadFrom_5 rfl (lv_at hl 1 rfl) ?_
    refine alx_6 C hP dX8_loadFrom_6 ?_
    refine lv_bipush (v := (16 : Int32)) hx hb dX8_loadFrom_7 (by decide) ?_
    refine lv_isub hx hb dX8_loadFrom_9 ?_
    refine lv_icmp_le (tgt := 14) hx hb dX8_loadFrom_10 (by decide) (fun c2 => ?_) (fun c2 => ?_)
    · have hf := if_p hf c2
      refine lv_aload_n hx hb dX8_loadFrom_14 rfl (lv_at hl 0 rfl) ?_
      refine lv_aload_n hx hb dX8_loadFrom_15 rfl (lv_at hl 1 rfl) ?_
      refine lv_iload_n hx hb dX8_loadFrom_16 rfl (lv_at hl 2 rfl) ?_
      obtain ⟨hi3, hf⟩ := ob_in hf
      refine ldx_6 C hP rfl hi3 dX8_loadFrom_17 ?_
      refine px_8_0 C hin8 hP hS (List.mem_of_getElem? (i := 1) rfl) dX8_loadFrom_18 (fun H locs hP hS => ?_)
      obtain ⟨S18, eS18⟩ : ∃ z, z = (sI S 7 (S.2.1 6 x2.toNatClampNeg)) := ⟨_, rfl⟩
      rw [← eS18] at hP
      have hf := nm_i hf eS18
      refine lv_aload_n hx hb dX8_loadFrom_21 rfl (lv_at hl 0 rfl) ?_
      refine lv_aload_n hx hb dX8_loadFrom_22 rfl (lv_at hl 1 rfl) ?_
      refine lv_iload_n hx hb dX8_loadFrom_23 rfl (lv_at hl 2 rfl) ?_
      refine lv_iconst (v := (1 : Int32)) hx hb dX8_loadFrom_24 (by decide) ?_
      refine lv_iadd hx hb dX8_loadFrom_25 ?_
      obtain ⟨hi4, hf⟩ := ob_in hf
      refine ldx_6 C hP rfl hi4 dX8_loadFrom_26 ?_
      refine px_8_1 C hin8 hP hS (List.mem_of_getElem? (i := 2) rfl) dX8_loadFrom_27 (fun H locs hP hS => ?_)
      obtain ⟨S27, eS27⟩ : ∃ z, z = (sI S18 8 (S18.2.1 6 ((x2 + (1 : Int32)).toNatClampNeg))) := ⟨_, rfl⟩
      rw [← eS27] at hP
      have hf := nm_i hf eS27
      refine lv_aload_n hx hb dX8_loadFrom_30 rfl (lv_at hl 0 rfl) ?_
      refine lv_aload_n hx hb dX8_loadFrom_31 rfl (lv_at hl 1 rfl) ?_
      refine lv_iload_n hx hb dX8_loadFrom_32 rfl (lv_at hl 2 rfl) ?_
      refine lv_iconst (v := (2 : Int32)) hx hb dX8_loadFrom_33 (by decide) ?_
      refine lv_iadd hx hb dX8_loadFrom_34 ?_
      obtain ⟨hi5, hf⟩ := ob_in hf
      refine ldx_6 C hP rfl hi5 dX8_loadFrom_35 ?_
      refine px_8_2 C hin8 hP hS (List.mem_of_getElem? (i := 3) rfl) dX8_loadFrom_36 (fun H locs hP hS => ?_)
      obtain ⟨S36, eS36⟩ : ∃ z, z = (sI S27 9 (S27.2.1 6 ((x2 + (2 : Int32)).toNatClampNeg))) := ⟨_, rfl⟩
      rw [← eS36] at hP
      have hf := nm_i hf eS36
      refine lv_aload_n hx hb dX8_loadFrom_39 rfl (lv_at hl 0 rfl) ?_
      refine lv_aload_n hx hb dX8_loadFrom_40 rfl (lv_at hl 1 rfl) ?_
      refine lv_iload_n hx hb dX8_loadFrom_41 rfl (lv_at hl 2 rfl) ?_
      refine lv_iconst (v := (3 : Int32)) hx hb dX8_loadFrom_42 (by decide) ?_
      refine lv_iadd hx hb dX8_loadFrom_43 ?_
      obtain ⟨hi6, hf⟩ := ob_in hf
      refine ldx_6 C hP rfl hi6 dX8_loadFrom_44 ?_
      refine px_8_3 C hin8 hP hS (List.mem_of_getElem? (i := 4) rfl) dX8_loadFrom_45 (fun H locs hP hS => ?_)
      obtain ⟨S45, eS45⟩ : ∃ z, z = (sI S36 10 (S36.2.1 6 ((x2 + (3 : Int32)).toNatClampNeg))) := ⟨_, rfl⟩
      rw [← eS45] at hP
      have hf := nm_i hf eS45
      refine lv_aload_n hx hb dX8_loadFrom_48 rfl (lv_at hl 0 rfl) ?_
      refine lv_aload_n hx hb dX8_loadFrom_49 rfl (lv_at hl 1 rfl) ?_
      refine lv_iload_n hx hb dX8_loadFrom_50 rfl (lv_at hl 2 rfl) ?_
      refine lv_iconst (v := (4 : Int32)) hx hb dX8_loadFrom_51 (by decide) ?_
      refine lv_iadd hx hb dX8_loadFrom_52 ?_
      obtain ⟨hi7, hf⟩ := ob_in hf
      refine ldx_6 C hP rfl hi7 dX8_loadFrom_53 ?_
      refine px_8_4 C hin8 hP hS (List.mem_of_getElem? (i := 5) rfl) dX8_loadFrom_54 (fun H locs hP hS => ?_)
      obtain ⟨S54, eS54⟩ : ∃ z, z = (sI S45 11 (S45.2.1 6 ((x2 + (4 : Int32)).toNatClampNeg))) := ⟨_, rfl⟩
      rw [← eS54] at hP
      have hf := nm_i hf eS54
      refine lv_aload_n hx hb dX8_loadFrom_57 rfl (lv_at hl 0 rfl) ?_
      refine lv_aload_n hx hb dX8_loadFrom_58 rfl (lv_at hl 1 rfl) ?_
      refine lv_iload_n hx hb dX8_loadFrom_59 rfl (lv_at hl 2 rfl) ?_
      refine lv_iconst (v := (5 : Int32)) hx hb dX8_loadFrom_60 (by decide) ?_
      refine lv_iadd hx hb dX8_loadFrom_61 ?_
      obtain ⟨hi8, hf⟩ := ob_in hf
      refine ldx_6 C hP rfl hi8 dX8_loadFrom_62 ?_
      refine px_8_5 C hin8 hP hS (List.mem_of_getElem? (i := 6) rfl) dX8_loadFrom_63 (fun H locs hP hS => ?_)
      obtain ⟨S63, eS63⟩ : ∃ z, z = (sI S54 12 (S54.2.1 6 ((x2 + (5 : Int32)).toNatClampNeg))) := ⟨_, rfl⟩
      rw [← eS63] at hP
      have hf := nm_i hf eS63
      refine lv_aload_n hx hb dX8_loadFrom_66 rfl (lv_at hl 0 rfl) ?_
      refine lv_aload_n hx hb dX8_loadFrom_67 rfl (lv_at hl 1 rfl) ?_
      refine lv_iload_n hx hb dX8_loadFrom_68 rfl (lv_at hl 2 rfl) ?_
      refine lv_bipush (v := (6 : Int32)) hx hb dX8_loadFrom_69 (by decide) ?_
      refine lv_iadd hx hb dX8_loadFrom_71 ?_
      obtain ⟨hi9, hf⟩ := ob_in hf
      refine ldx_6 C hP rfl hi9 dX8_loadFrom_72 ?_
      refine px_8_6 C hin8 hP hS (List.mem_of_getElem? (i := 7) rfl) dX8_loadFrom_73 (fun H locs hP hS => ?_)
      obtain ⟨S73, eS73⟩ : ∃ z, z = (sI S63 13 (S63.2.1 6 ((x2 + (6 : Int32)).toNatClampNeg))) := ⟨_, rfl⟩
      rw [← eS73] at hP
      have hf := nm_i hf eS73
      refine lv_aload_n hx hb dX8_loadFrom_76 rfl (lv_at hl 0 rfl) ?_
      refine lv_aload_n hx hb dX8_loadFrom_77 rfl (lv_at hl 1 rfl) ?_
      refine lv_iload_n hx hb dX8_loadFrom_78 rfl (lv_at hl 2 rfl) ?_
      refine lv_bipush (v := (7 : Int32)) hx hb dX8_loadFrom_79 (by decide) ?_
      refine lv_iadd hx hb dX8_loadFrom_81 ?_
      obtain ⟨hi10, hf⟩ := ob_in hf
      refine ldx_6 C hP rfl hi10 dX8_loadFrom_82 ?_
      refine px_8_7 C hin8 hP hS (List.mem_of_getElem? (i := 8) rfl) dX8_loadFrom_83 (fun H locs hP hS => ?_)
      obtain ⟨S83, eS83⟩ : ∃ z, z = (sI S73 14 (S73.2.1 6 ((x2 + (7 : Int32)).toNatClampNeg))) := ⟨_, rfl⟩
      rw [← eS83] at hP
      have hf := nm_i hf eS83
      refine lv_aload_n hx hb dX8_loadFrom_86 rfl (lv_at hl 1 rfl) ?_
      refine lv_iload_n hx hb dX8_loadFrom_87 rfl (lv_at hl 2 rfl) ?_
      refine lv_bipush (v := (8 : Int32)) hx hb dX8_loadFrom_88 (by decide) ?_
      refine lv_iadd hx hb dX8_loadFrom_90 ?_
      refine lv_aload_n hx hb dX8_loadFrom_91 rfl (lv_at hl 0 rfl) ?_
      refine gx_8_8 C hin8 hP (List.mem_of_getElem? (i := 9) rfl) dX8_loadFrom_92 ?_
      refine lv_iconst (v := (0 : Int32)) hx hb dX8_loadFrom_95 (by decide) ?_
      refine lv_bipush (v := (8 : Int32)) hx hb dX8_loadFrom_96 (by decide) ?_
      obtain ⟨hz11, hf⟩ := ob_ne hf
      refine cp_6_4 C hP hS hl hz11 (List.mem_of_getElem? (i := 10) rfl) (List.mem_of_getElem? (i := 11) rfl) (List.mem_of_getElem? (i := 12) rfl) (List.mem_of_getElem? (i := 13) rfl) (Nat.le_of_ble_eq_true rfl) (Nat.le_of_ble_eq_true rfl) dX8_loadFrom_98 (fun H locs hP hS => ?_)
      obtain ⟨S98, eS98⟩ : ∃ z, z = (sR S83 4 (va_cpy (S83.2.1 6) (S83.2.1 4) (x2 + (8 : Int32)).toNatClampNeg (0 : Int32).toNatClampNeg (8 : Int32).toNatClampNeg)) := ⟨_, rfl⟩
      rw [← eS98] at hP
      have hf := nm_i hf eS98
      obtain rfl := Option.some.inj hf
      exact tRet_v C hr hlk hP hS dX8_loadFrom_101
    · have hf := if_n hf c2
      obtain rfl := Option.some.inj hf
      exact tRet_v C hr hlk hP hS dX8_loadFrom_13
def rmX5_fetch_a7 : Room := { frames := 2, cells := 0, slots := 0, locals := 40 }
theorem hn_X5_fetch_a7_5 : ∀ w ∈ wsX50, w ∈ wsX5_fetch := fun w h => List.mem_cons_of_mem _ (List.mem_append_left _ (List.mem_append_right _ h))
theorem hd_X5_fetch : yX5_fetch.cls ≠ "java/lang/invoke/MethodHandle" ∧ yX5_fetch.cls ≠ "java/lang/invoke/VarHandle" ∧ (parseMethodDescriptor yX5_fetch.desc).map (fun d => d.parameters.length) = some 2 := by decide +kernel
set_option maxHeartbeats 4000000 in
set_option maxRecDepth 100000 in
theorem c_X5_fetch_a7 (l : Launch) {D : va_G} {cI cZ : ClassId} {a : Nat → Nat} (hA : ∀ S : St, va_D (xA a) (wX cI cZ a S)) {x1 : Int32} {S : St} {o : St} (hf : f_X5_fetch_a7 x1 S = some o) : Met l yX5_fetch wsX5_fetch rmX5_fetch_a7 (tPc D cI cZ (wX cI cZ a) S ([.ref (a 11), .int x1, .ref (a 7)] : List Value)) (tQv D (wX cI cZ a) (xA a) o) 0 0 (xA a) := by
  refine tEnter (cc := cX5_fetch) (maxL := 3) (ret := none) (own := RX5) hA rfl (by decide) rfl (Nat.le_of_ble_eq_true rfl) (fun p e s m args below meth c C hr hlk hP hS ls hl => ?_)
  obtain ⟨⟨hx, hb, hml, hown, hts⟩, hK, hN, -⟩ := id C
  have hl : lv_has ls 3 [(0, .ref (a 11)), (1, .int x1), (2, .ref (a 7))] := hl
  have hin5 := hn_X5_fetch_a7_5
  have hSS := hS
  rw [f_X5_fetch_a7] at hf
  revert hP hS
  suffices hsuf : ∀ (H : Heap) (locs : List Loc), va_P D vwCl (wX cI cZ a S) H → va_S (xA a) s.heap H locs → W p l e rmX5_fetch_a7 s m args below meth c H locs 0 0 (MQ below (tQv D (wX cI cZ a) (xA a) o) args s 0 0 (xA a)) (F0 m 0 ls []) from fun hP hS => hsuf s.heap [] hP hS
  intro H locs hP hS
  refine lv_aload_n hx hb dX5_fetch_0 rfl (lv_at hl 2 rfl) ?_
  refine lv_aload_n hx hb dX5_fetch_1 rfl (lv_at hl 0 rfl) ?_
  refine gx_5_0 C hin5 hP (List.mem_of_getElem? (i := 1) rfl) dX5_fetch_2 ?_
  refine lv_iload_n hx hb dX5_fetch_5 rfl (lv_at hl 1 rfl) ?_
  refine lv_bipush (v := (16 : Int32)) hx hb dX5_fetch_6 (by decide) ?_
  refine lv_imul hx hb dX5_fetch_8 ?_
  obtain ⟨r9, hc9, hf⟩ := ob hf
  refine tCallVv (As := [.ref (a 12), .int (x1 * (16 : Int32))]) (rest := []) (q0 := 7) (ci := 8) C hP hS rfl rfl (c_X8_loadFrom_a12 l C.2.2.2 hc9) (cwV 2 hts gX5_fetch_X8_loadFrom rfl rfl rfl ⟨rfl, hd_X8_loadFrom⟩ ⟨Nat.le_of_ble_eq_true rfl, Nat.le_of_ble_eq_true rfl⟩) rfl hl rfl (Nat.le_of_ble_eq_true rfl) dX5_fetch_9 ⟨Nat.le_refl 0, Nat.le_refl 0⟩ (fun H locs hP hS => ?_)
  obtain rfl := Option.some.inj hf
  exact tRet_v C hr hlk hP hS dX5_fetch_12
def rmX9_again : Room := { frames := 3, cells := 0, slots := 0, locals := 62 }
theorem hn_X9_again_8 : ∀ w ∈ wsX80, w ∈ wsX9_again := fun w h => List.mem_cons_of_mem _ (List.mem_append_left _ (List.mem_append_left _ (List.mem_append_right _ h)))
theorem hn_X9_again_9 : ∀ w ∈ wsX90, w ∈ wsX9_again := fun w h => List.mem_cons_of_mem _ (List.mem_append_left _ (List.mem_append_left _ (List.mem_append_left _ (List.mem_append_right _ h))))
theorem hd_X9_again : yX9_again.cls ≠ "java/lang/invoke/MethodHandle" ∧ yX9_again.cls ≠ "java/lang/invoke/VarHandle" ∧ (parseMethodDescriptor yX9_again.desc).map (fun d => d.parameters.length) = some 1 := by decide +kernel
set_option maxHeartbeats 4000000 in
set_option maxRecDepth 100000 in
theorem c_X9_again (l : Launch) {D : va_G} {cI cZ : ClassId} {a : Nat → Nat} (hA : ∀ S : St, va_D (xA a) (wX cI cZ a S)) {x1 : Int32} {S : St} {o : Int32 × St} (hf : f_X9_again x1 S = some o) : Met l yX9_again wsX9_again rmX9_again (tPc D cI cZ (wX cI cZ a) S ([.ref (a 0), .int x1] : List Value)) (tQi D (wX cI cZ a) (xA a) o.2 o.1) 0 0 (xA a) := by
  refine tEnter (cc := cX9_again) (maxL := 2) (ret := (some .int)) (own := RX9) hA rfl (by decide) rfl (Nat.le_of_ble_eq_true rfl) (fun p e s m args below meth c C hr hlk hP hS ls hl => ?_)
  obtain ⟨⟨hx, hb, hml, hown, hts⟩, hK, hN, -⟩ := id C
  have hl : lv_has ls 2 [(0, .ref (a 0)), (1, .int x1)] := hl
  have hin8 := hn_X9_again_8
  have hin9 := hn_X9_again_9
  have hSS := hS
  rw [f_X9_again] at hf
  revert hP hS
  suffices hsuf : ∀ (H : Heap) (locs : List Loc), va_P D vwCl (wX cI cZ a S) H → va_S (xA a) s.heap H locs → W p l e rmX9_again s m args below meth c H locs 0 0 (MQ below (tQi D (wX cI cZ a) (xA a) o.2 o.1) args s 0 0 (xA a)) (F0 m 0 ls []) from fun hP hS => hsuf s.heap [] hP hS
  intro H locs hP hS
  refine lv_aload_n hx hb dX9_again_0 rfl (lv_at hl 0 rfl) ?_
  refine gx_9_4 C hin9 hP (List.mem_of_getElem? (i := 1) rfl) dX9_again_1 ?_
  refine lv_iload_n hx hb dX9_again_4 rfl (lv_at hl 1 rfl) ?_
  obtain ⟨r5, hc5, hf⟩ := ob hf
  refine tCallVi (As := [.int x1]) (rest := []) (q0 := 11) (ci := 5) C hP hS rfl rfl (c_X5_has l C.2.2.2 hc5) (cwV 1 hts gX9_again_X5_has rfl rfl rfl ⟨rfl, hd_X5_has⟩ ⟨Nat.le_of_ble_eq_true rfl, Nat.le_of_ble_eq_true rfl⟩) rfl hl rfl (Nat.le_of_ble_eq_true rfl) dX9_again_5 ⟨Nat.le_refl 0, Nat.le_refl 0⟩ (fun H locs hP hS => ?_)
  refine lv_if_ne (tgt := 13) hx hb dX9_again_8 (by decide) (fun c1 => ?_) (fun c1 => ?_)
  · have hf := if_n hf c1
    refine lv_aload_n hx hb dX9_again_13 rfl (lv_at hl 0 rfl) ?_
    refine gx_9_4 C hin9 hP (List.mem_of_getElem? (i := 1) rfl) dX9_again_14 ?_
    refine lv_iload_n hx hb dX9_again_17 rfl (lv_at hl 1 rfl) ?_
    obtain ⟨r18, hc18, hf⟩ := ob hf
    refine tCallVi (As := [.int x1]) (rest := []) (q0 := 11) (ci := 5) C hP hS rfl rfl (c_X5_holds l C.2.2.2 hc18) (cwV 1 hts gX9_again_X5_holds rfl rfl rfl ⟨rfl, hd_X5_holds⟩ ⟨Nat.le_of_ble_eq_true rfl, Nat.le_of_ble_eq_true rfl⟩) rfl hl rfl (Nat.le_of_ble_eq_true rfl) dX9_again_18 ⟨Nat.le_refl 0, Nat.le_refl 0⟩ (fun H locs hP hS => ?_)
    refine lv_if_ne (tgt := 27) hx hb dX9_again_21 (by decide) (fun c2 => ?_) (fun c2 => ?_)
    · have hf := if_n hf c2
      refine lv_aload_n hx hb dX9_again_27 rfl (lv_at hl 0 rfl) ?_
      refine gx_9_4 C hin9 hP (List.mem_of_getElem? (i := 1) rfl) dX9_again_28 ?_
      refine lv_iload_n hx hb dX9_again_31 rfl (lv_at hl 1 rfl) ?_
      refine lv_aload_n hx hb dX9_again_32 rfl (lv_at hl 0 rfl) ?_
      refine gx_9_2 C hin9 hP (List.mem_of_getElem? (i := 2) rfl) dX9_again_33 ?_
      obtain ⟨r36, hc36, hf⟩ := ob hf
      refine tCallVv (As := [.int x1, .ref (a 7)]) (rest := []) (q0 := 11) (ci := 5) C hP hS rfl rfl (c_X5_fetch_a7 l C.2.2.2 hc36) (cwV 2 hts gX9_again_X5_fetch rfl rfl rfl ⟨rfl, hd_X5_fetch⟩ ⟨Nat.le_of_ble_eq_true rfl, Nat.le_of_ble_eq_true rfl⟩) rfl hl rfl (Nat.le_of_ble_eq_true rfl) dX9_again_36 ⟨Nat.le_refl 0, Nat.le_refl 0⟩ (fun H locs hP hS => ?_)
      refine lv_aload_n hx hb dX9_again_39 rfl (lv_at hl 0 rfl) ?_
      refine gx_9_3 C hin9 hP (List.mem_of_getElem? (i := 3) rfl) dX9_again_40 ?_
      obtain ⟨r43, hc43, hf⟩ := ob hf
      refine tCallVv (As := []) (rest := []) (q0 := 9) (ci := 0) C hP hS rfl rfl (c_X0_forget l C.2.2.2 hc43) (cwV 0 hts gX9_again_X0_forget rfl rfl rfl ⟨rfl, hd_X0_forget⟩ ⟨Nat.le_of_ble_eq_true rfl, Nat.le_of_ble_eq_true rfl⟩) rfl hl rfl (Nat.le_of_ble_eq_true rfl) dX9_again_43 ⟨Nat.le_refl 0, Nat.le_refl 0⟩ (fun H locs hP hS => ?_)
      refine lv_aload_n hx hb dX9_again_46 rfl (lv_at hl 0 rfl) ?_
      refine gx_9_2 C hin9 hP (List.mem_of_getElem? (i := 2) rfl) dX9_again_47 ?_
      refine gxn_8_3 C hin8 hP (i := 14) rfl dX9_again_50 ?_
      obtain rfl := Option.some.inj hf
      exact tRet_i C hr hlk hP hS dX9_again_53
    · have hf := if_p hf c2
      refine lv_bipush (v := (-3 : Int32)) hx hb dX9_again_24 (by decide) ?_
      obtain rfl := Option.some.inj hf
      exact tRet_i C hr hlk hP hS dX9_again_26
  · have hf := if_p hf c1
    refine lv_iconst (v := (-1 : Int32)) hx hb dX9_again_11 (by decide) ?_
    obtain rfl := Option.some.inj hf
    exact tRet_i C hr hlk hP hS dX9_again_12
