def rmX9_back : Room := { frames := 4, cells := 0, slots := 0, locals := 88 }
theorem hn_X9_back_8 : ∀ w ∈ wsX80, w ∈ wsX9_back := fun w h => List.mem_cons_of_mem _ (List.mem_append_left _ (List.mem_append_left _ (List.mem_append_right _ h)))
theorem hn_X9_back_9 : ∀ w ∈ wsX90, w ∈ wsX9_back := fun w h => List.mem_cons_of_mem _ (List.mem_append_left _ (List.mem_append_left _ (List.mem_append_left _ (List.mem_append_right _ h))))
theorem hd_X9_back : yX9_back.cls ≠ "java/lang/invoke/MethodHandle" ∧ yX9_back.cls ≠ "java/lang/invoke/VarHandle" ∧ (parseMethodDescriptor yX9_back.desc).map (fun d => d.parameters.length) = some 1 := by decide +kernel
set_option maxHeartbeats 4000000 in
set_option maxRecDepth 100000 in
theorem c_X9_back (l : Launch) {D : va_G} {cI cZ : ClassId} {a : Nat → Nat} (hA : ∀ S : St, va_D (xA a) (wX cI cZ a S)) {x1 : Int32} {S : St} {o : Int32} (hf : f_X9_back x1 S = some o) : Met l yX9_back wsX9_back rmX9_back (tPc D cI cZ (wX cI cZ a) S ([.ref (a 0), .int x1] : List Value)) (tQi D (wX cI cZ a) (xA a) S o) 0 0 (xA a) := by
  refine tEnter (cc := cX9_back) (maxL := 2) (ret := (some .int)) (own := RX9) hA rfl (by decide) rfl (Nat.le_of_ble_eq_true rfl) (fun p e s m args below meth c C hr hlk hP hS ls hl => ?_)
  obtain ⟨⟨hx, hb, hml, hown, hts⟩, hK, hN, -⟩ := id C
  have hl : lv_has ls 2 [(0, .ref (a 0)), (1, .int x1)] := hl
  have hin8 := hn_X9_back_8
  have hin9 := hn_X9_back_9
  have hSS := hS
  rw [f_X9_back] at hf
  revert hP hS
  suffices hsuf : ∀ (H : Heap) (locs : List Loc), va_P D vwCl (wX cI cZ a S) H → va_S (xA a) s.heap H locs → W p l e rmX9_back s m args below meth c H locs 0 0 (MQ below (tQi D (wX cI cZ a) (xA a) S o) args s 0 0 (xA a)) (F0 m 0 ls []) from fun hP hS => hsuf s.heap [] hP hS
  intro H locs hP hS
  refine lv_iload_n hx hb dX9_back_0 rfl (lv_at hl 1 rfl) ?_
  refine lv_iconst (v := (1 : Int32)) hx hb dX9_back_1 (by decide) ?_
  refine lv_icmp_lt (tgt := 11) hx hb dX9_back_2 (by decide) (fun c1 => ?_) (fun c1 => ?_)
  · have hf := if_p hf c1
    refine lv_bipush (v := (-2 : Int32)) hx hb dX9_back_11 (by decide) ?_
    obtain rfl := Option.some.inj hf
    exact tRet_i C hr hlk hP hS dX9_back_13
  · have hf := if_n hf c1
    refine lv_iload_n hx hb dX9_back_5 rfl (lv_at hl 1 rfl) ?_
    refine lv_bipush (v := (10 : Int32)) hx hb dX9_back_6 (by decide) ?_
    refine lv_icmp_le (tgt := 14) hx hb dX9_back_8 (by decide) (fun c2 => ?_) (fun c2 => ?_)
    · have hf := if_p hf c2
      refine lv_aload_n hx hb dX9_back_14 rfl (lv_at hl 0 rfl) ?_
      refine gx_9_7 C hin9 hP (List.mem_of_getElem? (i := 1) rfl) dX9_back_15 ?_
      refine lv_aload_n hx hb dX9_back_18 rfl (lv_at hl 0 rfl) ?_
      refine gx_9_2 C hin9 hP (List.mem_of_getElem? (i := 2) rfl) dX9_back_19 ?_
      refine gxn_8_3 C hin8 hP (i := 14) rfl dX9_back_22 ?_
      obtain ⟨r25, hc25, hf⟩ := ob hf
      refine tCallVi (As := [.int (S.1 10)]) (rest := []) (q0 := 18) (ci := 2) C hP hS rfl rfl (c_X2_gorseOfLast l C.2.2.2 hc25) (cwV 1 hts gX9_back_X2_gorseOfLast rfl rfl rfl ⟨rfl, hd_X2_gorseOfLast⟩ ⟨Nat.le_of_ble_eq_true rfl, Nat.le_of_ble_eq_true rfl⟩) rfl hl rfl (Nat.le_of_ble_eq_true rfl) dX9_back_25 ⟨Nat.le_refl 0, Nat.le_refl 0⟩ (fun H locs hP hS => ?_)
      refine lv_if_gt (tgt := 34) hx hb dX9_back_28 (by decide) (fun c3 => ?_) (fun c3 => ?_)
      · have hf := if_p hf c3
        refine lv_aload_n hx hb dX9_back_34 rfl (lv_at hl 0 rfl) ?_
        refine gx_9_7 C hin9 hP (List.mem_of_getElem? (i := 1) rfl) dX9_back_35 ?_
        refine lv_iload_n hx hb dX9_back_38 rfl (lv_at hl 1 rfl) ?_
        obtain ⟨r39, hc39, hf⟩ := ob hf
        refine tCallVi (As := [.int x1]) (rest := []) (q0 := 18) (ci := 2) C hP hS rfl rfl (c_X2_howFarBack l C.2.2.2 hc39) (cwV 1 hts gX9_back_X2_howFarBack rfl rfl rfl ⟨rfl, hd_X2_howFarBack⟩ ⟨Nat.le_of_ble_eq_true rfl, Nat.le_of_ble_eq_true rfl⟩) rfl hl rfl (Nat.le_of_ble_eq_true rfl) dX9_back_39 ⟨Nat.le_refl 0, Nat.le_refl 0⟩ (fun H locs hP hS => ?_)
        obtain rfl := Option.some.inj hf
        exact tRet_i C hr hlk hP hS dX9_back_42
      · have hf := if_n hf c3
        refine lv_bipush (v := (-3 : Int32)) hx hb dX9_back_31 (by decide) ?_
        obtain rfl := Option.some.inj hf
        exact tRet_i C hr hlk hP hS dX9_back_33
    · have hf := if_n hf c2
      refine lv_bipush (v := (-2 : Int32)) hx hb dX9_back_11 (by decide) ?_
      obtain rfl := Option.some.inj hf
      exact tRet_i C hr hlk hP hS dX9_back_13
def rmX2_firstShort : Room := { frames := 0, cells := 0, slots := 0, locals := 0 }
theorem hn_X2_firstShort_2 : ∀ w ∈ wsX20, w ∈ wsX2_firstShort := fun w h => List.mem_cons_of_mem _ (List.mem_append_left _ (List.mem_append_right _ h))
theorem hn_X2_firstShort_3 : ∀ w ∈ wsX30, w ∈ wsX2_firstShort := fun w h => List.mem_cons_of_mem _ (List.mem_append_right _ h)
theorem hd_X2_firstShort : yX2_firstShort.cls ≠ "java/lang/invoke/MethodHandle" ∧ yX2_firstShort.cls ≠ "java/lang/invoke/VarHandle" ∧ (parseMethodDescriptor yX2_firstShort.desc).map (fun d => d.parameters.length) = some 2 := by decide +kernel
set_option maxHeartbeats 4000000 in
set_option maxRecDepth 100000 in
theorem lp_X2_firstShort_8 {p : Program} {l : Launch} {e : Env} {s : State} {m : MethodId} {args : Array Value} {below : List Frame} {meth : Method} {c : Code} {D : va_G} {cI cZ : ClassId} {a : Nat → Nat} {Q : State → Prop} {H0 : Heap} {x1 : Int32} {x2 : Int32} {S : St} {o : Nat × Int32}
    (C : tC p c s m args cX2_firstShort 6 RX2 wsX2_firstShort D cI cZ (wX cI cZ a) (xA a))
    (K0 : o.1 = 0 → ∀ (H : Heap) (locs : List Loc) (ls : Array Slot), va_P D vwCl (wX cI cZ a S) H → va_S (xA a) H0 H locs → lv_has ls 6 [(5, .int o.2)] → W p l e rmX2_firstShort s m args below meth c H locs 0 0 Q (F0 m 35 ls []))
    (K1 : o.1 = 1 → ∀ (H : Heap) (locs : List Loc) (ls : Array Slot), va_P D vwCl (wX cI cZ a S) H → va_S (xA a) H0 H locs → lv_has ls 6 [] → W p l e rmX2_firstShort s m args below meth c H locs 0 0 Q (F0 m 56 ls [])) :
    ∀ (n : Nat) (x3 : Int32) (x4 : Int32) (x5 : Int32), l_X2_firstShort_8 x1 x2 S n x3 x4 x5 = some o → ∀ (H : Heap) (locs : List Loc) (ls : Array Slot), va_P D vwCl (wX cI cZ a S) H → va_S (xA a) H0 H locs → lv_has ls 6 [(0, .ref (a 18)), (1, .int x1), (2, .int x2), (3, .int x3), (4, .int x4), (5, .int x5)] → W p l e rmX2_firstShort s m args below meth c H locs 0 0 Q (F0 m 8 ls []) := by
  obtain ⟨⟨hx, hb, hml, hown, hts⟩, hK, hN, hA⟩ := id C
  have hin2 := hn_X2_firstShort_2
  have hin3 := hn_X2_firstShort_3
  intro n
  induction n with
  | zero =>
    intro x3 x4 x5 hf
    rw [l_X2_firstShort_8] at hf
    cases hf
  | succ n ih =>
    have J38 : ∀ (x3 : Int32) (x4 : Int32) (x5 : Int32) (H : Heap) (locs : List Loc) (ls : Array Slot), j_X2_firstShort_38 (l_X2_firstShort_8 x1 x2 S n) x1 x2 x3 x4 x5 S = some o → va_P D vwCl (wX cI cZ a S) H → va_S (xA a) H0 H locs → lv_has ls 6 [(0, .ref (a 18)), (1, .int x1), (2, .int x2), (3, .int x3), (4, .int x4), (5, .int x5)] → W p l e rmX2_firstShort s m args below meth c H locs 0 0 Q (F0 m 38 ls []) := by
      intro x3 x4 x5 H locs ls hf hP hS hl
      rw [j_X2_firstShort_38] at hf
      refine lv_iinc (v := (x3 + (-1))) (lv' := [(3, .int (x3 + (-1))), (0, .ref (a 18)), (1, .int x1), (2, .int x2), (4, .int x4), (5, .int x5)]) hx hb dX2_firstShort_38 hl (k := 3) rfl rfl (Nat.le_of_ble_eq_true rfl) rfl (fun ls hl => ?_)
      refine lv_iload hx hb dX2_firstShort_41 (lv_at hl 5 rfl) ?_
      refine lv_iload_n hx hb dX2_firstShort_43 rfl (lv_at hl 2 rfl) ?_
      refine lv_icmp_eq (tgt := 50) hx hb dX2_firstShort_44 (by decide) (fun c4 => ?_) (fun c4 => ?_)
      · have hf := if_p hf c4
        refine lv_iinc (v := (x5 + 1)) (lv' := [(5, .int (x5 + 1)), (3, .int (x3 + (-1))), (0, .ref (a 18)), (1, .int x1), (2, .int x2), (4, .int x4)]) hx hb dX2_firstShort_50 hl (k := 5) rfl rfl (Nat.le_of_ble_eq_true rfl) rfl (fun ls hl => ?_)
        refine lv_goto (tgt := 8) hx hb dX2_firstShort_53 (by decide) ?_
        exact ih _ _ _ hf H locs ls hP hS (lv_sub hl [2, 3, 4, 1, 5, 0] rfl)
      · have hf := if_n hf c4
        refine lv_iinc (v := (x4 + 1)) (lv' := [(4, .int (x4 + 1)), (3, .int (x3 + (-1))), (0, .ref (a 18)), (1, .int x1), (2, .int x2), (5, .int x5)]) hx hb dX2_firstShort_47 hl (k := 4) rfl rfl (Nat.le_of_ble_eq_true rfl) rfl (fun ls hl => ?_)
        refine lv_iinc (v := (x5 + 1)) (lv' := [(5, .int (x5 + 1)), (4, .int (x4 + 1)), (3, .int (x3 + (-1))), (0, .ref (a 18)), (1, .int x1), (2, .int x2)]) hx hb dX2_firstShort_50 hl (k := 5) rfl rfl (Nat.le_of_ble_eq_true rfl) rfl (fun ls hl => ?_)
        refine lv_goto (tgt := 8) hx hb dX2_firstShort_53 (by decide) ?_
        exact ih _ _ _ hf H locs ls hP hS (lv_sub hl [3, 4, 5, 2, 1, 0] rfl)
    intro x3 x4 x5 hf H locs ls hP hS hl
    rw [l_X2_firstShort_8] at hf
    refine lv_iload hx hb dX2_firstShort_8 (lv_at hl 5 rfl) ?_
    refine lv_aload_n hx hb dX2_firstShort_10 rfl (lv_at hl 0 rfl) ?_
    refine gx_2_0 C hin2 hP (List.mem_of_getElem? (i := 1) rfl) dX2_firstShort_11 ?_
    refine gxn_3_5 C hin3 hP (i := 7) rfl dX2_firstShort_14 ?_
    refine lv_icmp_ge (tgt := 56) hx hb dX2_firstShort_17 (by decide) (fun c1 => ?_) (fun c1 => ?_)
    · have hf := if_p hf c1
      obtain rfl := Option.some.inj hf
      exact K1 rfl H locs ls hP hS (lv_sub hl [] rfl)
    · have hf := if_n hf c1
      refine lv_iload_n hx hb dX2_firstShort_20 rfl (lv_at hl 3 rfl) ?_
      refine lv_if_ne (tgt := 38) hx hb dX2_firstShort_21 (by decide) (fun c2 => ?_) (fun c2 => ?_)
      · have hf := if_n hf c2
        exact J38 _ _ _ H locs ls hf hP hS (lv_sub hl [0, 1, 2, 3, 4, 5] rfl)
      · have hf := if_p hf c2
        refine lv_iload hx hb dX2_firstShort_24 (lv_at hl 4 rfl) ?_
        refine lv_istore_n (lv' := [(3, .int x4), (0, .ref (a 18)), (1, .int x1), (2, .int x2), (4, .int x4), (5, .int x5)]) hx hb dX2_firstShort_26 rfl hl (Nat.le_of_ble_eq_true rfl) rfl (fun ls hl => ?_)
        refine lv_iconst (v := (0 : Int32)) hx hb dX2_firstShort_27 (by decide) ?_
        refine lv_istore (lv' := [(4, .int (0 : Int32)), (3, .int x4), (0, .ref (a 18)), (1, .int x1), (2, .int x2), (5, .int x5)]) hx hb dX2_firstShort_28 hl (Nat.le_of_ble_eq_true rfl) rfl (fun ls hl => ?_)
        refine lv_iload_n hx hb dX2_firstShort_30 rfl (lv_at hl 1 rfl) ?_
        refine lv_iload_n hx hb dX2_firstShort_31 rfl (lv_at hl 4 rfl) ?_
        refine lv_icmp_eq (tgt := 38) hx hb dX2_firstShort_32 (by decide) (fun c3 => ?_) (fun c3 => ?_)
        · have hf := if_p hf c3
          exact J38 _ _ _ H locs ls hf hP hS (lv_sub hl [2, 3, 4, 1, 0, 5] rfl)
        · have hf := if_n hf c3
          obtain rfl := Option.some.inj hf
          exact K0 rfl H locs ls hP hS (lv_sub hl [5] rfl)
set_option maxHeartbeats 4000000 in
set_option maxRecDepth 100000 in
theorem c_X2_firstShort (l : Launch) {D : va_G} {cI cZ : ClassId} {a : Nat → Nat} (hA : ∀ S : St, va_D (xA a) (wX cI cZ a S)) {x1 : Int32} {x2 : Int32} {S : St} {o : Int32} (hf : f_X2_firstShort x1 x2 S = some o) : Met l yX2_firstShort wsX2_firstShort rmX2_firstShort (tPc D cI cZ (wX cI cZ a) S ([.ref (a 18), .int x1, .int x2] : List Value)) (tQi D (wX cI cZ a) (xA a) S o) 0 0 (xA a) := by
  refine tEnter (cc := cX2_firstShort) (maxL := 6) (ret := (some .int)) (own := RX2) hA rfl (by decide) rfl (Nat.le_of_ble_eq_true rfl) (fun p e s m args below meth c C hr hlk hP hS ls hl => ?_)
  obtain ⟨⟨hx, hb, hml, hown, hts⟩, hK, hN, -⟩ := id C
  have hl : lv_has ls 6 [(0, .ref (a 18)), (1, .int x1), (2, .int x2)] := hl
  have hin2 := hn_X2_firstShort_2
  have hin3 := hn_X2_firstShort_3
  have hSS := hS
  rw [f_X2_firstShort] at hf
  revert hP hS
  suffices hsuf : ∀ (H : Heap) (locs : List Loc), va_P D vwCl (wX cI cZ a S) H → va_S (xA a) s.heap H locs → W p l e rmX2_firstShort s m args below meth c H locs 0 0 (MQ below (tQi D (wX cI cZ a) (xA a) S o) args s 0 0 (xA a)) (F0 m 0 ls []) from fun hP hS => hsuf s.heap [] hP hS
  intro H locs hP hS
  refine lv_iload_n hx hb dX2_firstShort_0 rfl (lv_at hl 2 rfl) ?_
  refine lv_istore_n (lv' := [(3, .int x2), (0, .ref (a 18)), (1, .int x1), (2, .int x2)]) hx hb dX2_firstShort_1 rfl hl (Nat.le_of_ble_eq_true rfl) rfl (fun ls hl => ?_)
  refine lv_iconst (v := (0 : Int32)) hx hb dX2_firstShort_2 (by decide) ?_
  refine lv_istore (lv' := [(4, .int (0 : Int32)), (3, .int x2), (0, .ref (a 18)), (1, .int x1), (2, .int x2)]) hx hb dX2_firstShort_3 hl (Nat.le_of_ble_eq_true rfl) rfl (fun ls hl => ?_)
  refine lv_iconst (v := (0 : Int32)) hx hb dX2_firstShort_5 (by decide) ?_
  refine lv_istore (lv' := [(5, .int (0 : Int32)), (4, .int (0 : Int32)), (3, .int x2), (0, .ref (a 18)), (1, .int x1), (2, .int x2)]) hx hb dX2_firstShort_6 hl (Nat.le_of_ble_eq_true rfl) rfl (fun ls hl => ?_)
  obtain ⟨o8, hc8, hf⟩ := ob hf
  refine lp_X2_firstShort_8 C (fun ho H locs ls hP hS hl => ?_) (fun ho H locs ls hP hS hl => ?_) fuel _ _ _ hc8 H locs ls hP hS (lv_sub hl [3, 4, 5, 2, 1, 0] rfl)
  · have hf := if_p hf ho
    refine lv_iload hx hb dX2_firstShort_35 (lv_at hl 0 rfl) ?_
    obtain rfl := Option.some.inj hf
    exact tRet_i C hr hlk hP hS dX2_firstShort_37
  · have hf := if_n hf (show ¬ o8.1 = 0 by rw [ho]; decide)
    refine lv_bipush (v := (-9 : Int32)) hx hb dX2_firstShort_56 (by decide) ?_
    obtain rfl := Option.some.inj hf
    exact tRet_i C hr hlk hP hS dX2_firstShort_58
def rmX9_shows : Room := { frames := 1, cells := 0, slots := 0, locals := 25 }
theorem hn_X9_shows_9 : ∀ w ∈ wsX90, w ∈ wsX9_shows := fun w h => List.mem_cons_of_mem _ (List.mem_append_left _ (List.mem_append_left _ (List.mem_append_right _ h)))
theorem hd_X9_shows : yX9_shows.cls ≠ "java/lang/invoke/MethodHandle" ∧ yX9_shows.cls ≠ "java/lang/invoke/VarHandle" ∧ (parseMethodDescriptor yX9_shows.desc).map (fun d => d.parameters.length) = some 2 := by decide +kernel
set_option maxHeartbeats 4000000 in
set_option maxRecDepth 100000 in
theorem c_X9_shows (l : Launch) {D : va_G} {cI cZ : ClassId} {a : Nat → Nat} (hA : ∀ S : St, va_D (xA a) (wX cI cZ a S)) {x1 : Int32} {x2 : Int32} {S : St} {o : Int32} (hf : f_X9_shows x1 x2 S = some o) : Met l yX9_shows wsX9_shows rmX9_shows (tPc D cI cZ (wX cI cZ a) S ([.ref (a 0), .int x1, .int x2] : List Value)) (tQi D (wX cI cZ a) (xA a) S o) 0 0 (xA a) := by
  refine tEnter (cc := cX9_shows) (maxL := 3) (ret := (some .int)) (own := RX9) hA rfl (by decide) rfl (Nat.le_of_ble_eq_true rfl) (fun p e s m args below meth c C hr hlk hP hS ls hl => ?_)
  obtain ⟨⟨hx, hb, hml, hown, hts⟩, hK, hN, -⟩ := id C
  have hl : lv_has ls 3 [(0, .ref (a 0)), (1, .int x1), (2, .int x2)] := hl
  have hin9 := hn_X9_shows_9
  have hSS := hS
  rw [f_X9_shows] at hf
  revert hP hS
  suffices hsuf : ∀ (H : Heap) (locs : List Loc), va_P D vwCl (wX cI cZ a S) H → va_S (xA a) s.heap H locs → W p l e rmX9_shows s m args below meth c H locs 0 0 (MQ below (tQi D (wX cI cZ a) (xA a) S o) args s 0 0 (xA a)) (F0 m 0 ls []) from fun hP hS => hsuf s.heap [] hP hS
  intro H locs hP hS
  refine lv_aload_n hx hb dX9_shows_0 rfl (lv_at hl 0 rfl) ?_
  refine gx_9_1 C hin9 hP (List.mem_of_getElem? (i := 1) rfl) dX9_shows_1 ?_
  refine lv_iload_n hx hb dX9_shows_4 rfl (lv_at hl 1 rfl) ?_
  obtain ⟨r5, hc5, hf⟩ := ob hf
  refine tCallVi (As := [.int x1]) (rest := []) (q0 := 3) (ci := 3) C hP hS rfl rfl (c_X3_has l C.2.2.2 hc5) (cwV 1 hts gX9_shows_X3_has rfl rfl rfl ⟨rfl, hd_X3_has⟩ ⟨Nat.le_of_ble_eq_true rfl, Nat.le_of_ble_eq_true rfl⟩) rfl hl rfl (Nat.le_of_ble_eq_true rfl) dX9_shows_5 ⟨Nat.le_refl 0, Nat.le_refl 0⟩ (fun H locs hP hS => ?_)
  refine lv_if_ne (tgt := 13) hx hb dX9_shows_8 (by decide) (fun c1 => ?_) (fun c1 => ?_)
  · have hf := if_n hf c1
    refine lv_iload_n hx hb dX9_shows_13 rfl (lv_at hl 2 rfl) ?_
    refine lv_iconst (v := (2 : Int32)) hx hb dX9_shows_14 (by decide) ?_
    refine lv_icmp_lt (tgt := 24) hx hb dX9_shows_15 (by decide) (fun c2 => ?_) (fun c2 => ?_)
    · have hf := if_p hf c2
      refine lv_bipush (v := (-2 : Int32)) hx hb dX9_shows_24 (by decide) ?_
      obtain rfl := Option.some.inj hf
      exact tRet_i C hr hlk hP hS dX9_shows_26
    · have hf := if_n hf c2
      refine lv_iload_n hx hb dX9_shows_18 rfl (lv_at hl 2 rfl) ?_
      refine lv_bipush (v := (9 : Int32)) hx hb dX9_shows_19 (by decide) ?_
      refine lv_icmp_le (tgt := 27) hx hb dX9_shows_21 (by decide) (fun c3 => ?_) (fun c3 => ?_)
      · have hf := if_p hf c3
        refine lv_aload_n hx hb dX9_shows_27 rfl (lv_at hl 0 rfl) ?_
        refine gx_9_7 C hin9 hP (List.mem_of_getElem? (i := 2) rfl) dX9_shows_28 ?_
        refine lv_iload_n hx hb dX9_shows_31 rfl (lv_at hl 1 rfl) ?_
        refine lv_iload_n hx hb dX9_shows_32 rfl (lv_at hl 2 rfl) ?_
        obtain ⟨r33, hc33, hf⟩ := ob hf
        refine tCallVi (As := [.int x1, .int x2]) (rest := []) (q0 := 18) (ci := 2) C hP hS rfl rfl (c_X2_firstShort l C.2.2.2 hc33) (cwV 2 hts gX9_shows_X2_firstShort rfl rfl rfl ⟨rfl, hd_X2_firstShort⟩ ⟨Nat.le_of_ble_eq_true rfl, Nat.le_of_ble_eq_true rfl⟩) rfl hl rfl (Nat.le_of_ble_eq_true rfl) dX9_shows_33 ⟨Nat.le_refl 0, Nat.le_refl 0⟩ (fun H locs hP hS => ?_)
        obtain rfl := Option.some.inj hf
        exact tRet_i C hr hlk hP hS dX9_shows_36
      · have hf := if_n hf c3
        refine lv_bipush (v := (-2 : Int32)) hx hb dX9_shows_24 (by decide) ?_
        obtain rfl := Option.some.inj hf
        exact tRet_i C hr hlk hP hS dX9_shows_26
  · have hf := if_p hf c1
    refine lv_iconst (v := (-1 : Int32)) hx hb dX9_shows_11 (by decide) ?_
    obtain rfl := Option.some.inj hf
    exact tRet_i C hr hlk hP hS dX9_shows_12
def rmX2_worstWait : Room := { frames := 1, cells := 0, slots := 0, locals := 25 }
theorem hn_X2_worstWait_2 : ∀ w ∈ wsX20, w ∈ wsX2_worstWait := fun w h => List.mem_cons_of_mem _ (List.mem_append_left _ (List.mem_append_right _ h))
theorem hn_X2_worstWait_3 : ∀ w ∈ wsX30, w ∈ wsX2_worstWait := fun w h => List.mem_cons_of_mem _ (List.mem_append_right _ h)
theorem hd_X2_worstWait : yX2_worstWait.cls ≠ "java/lang/invoke/MethodHandle" ∧ yX2_worstWait.cls ≠ "java/lang/invoke/VarHandle" ∧ (parseMethodDescriptor yX2_worstWait.desc).map (fun d => d.parameters.length) = some 1 := by decide +kernel
set_option maxHeartbeats 4000000 in
set_option maxRecDepth 100000 in
theorem lp_X2_worstWait_4 {p : Program} {l : Launch} {e : Env} {s : State} {m : MethodId} {args : Array Value} {below : List Frame} {meth : Method} {c : Code} {D : va_G} {cI cZ : ClassId} {a : Nat → Nat} {Q : State → Prop} {H0 : Heap} {x1 : Int32} {S : St} {o : Int32}
    (C : tC p c s m args cX2_worstWait 5 RX2 wsX2_worstWait D cI cZ (wX cI cZ a) (xA a))
    (K0 : ∀ (H : Heap) (locs : List Loc) (ls : Array Slot), va_P D vwCl (wX cI cZ a S) H → va_S (xA a) H0 H locs → lv_has ls 5 [(2, .int o)] → W p l e rmX2_worstWait s m args below meth c H locs 0 0 Q (F0 m 50 ls [])) :
    ∀ (n : Nat) (x2 : Int32) (x3 : Int32), l_X2_worstWait_4 x1 S n x2 x3 = some o → ∀ (H : Heap) (locs : List Loc) (ls : Array Slot), va_P D vwCl (wX cI cZ a S) H → va_S (xA a) H0 H locs → lv_has ls 5 [(0, .ref (a 18)), (1, .int x1), (2, .int x2), (3, .int x3)] → W p l e rmX2_worstWait s m args below meth c H locs 0 0 Q (F0 m 4 ls []) := by
  obtain ⟨⟨hx, hb, hml, hown, hts⟩, hK, hN, hA⟩ := id C
  have hin2 := hn_X2_worstWait_2
  have hin3 := hn_X2_worstWait_3
  intro n
  induction n with
  | zero =>
    intro x2 x3 hf
    rw [l_X2_worstWait_4] at hf
    cases hf
  | succ n ih =>
    have J40 : ∀ (x3 : Int32) (t0 : Int32) (t1 : Int32) (H : Heap) (locs : List Loc) (ls : Array Slot), j_X2_worstWait_40 (l_X2_worstWait_4 x1 S n) x1 x3 t0 t1 S = some o → va_P D vwCl (wX cI cZ a S) H → va_S (xA a) H0 H locs → lv_has ls 5 [(0, .ref (a 18)), (1, .int x1), (3, .int x3)] → W p l e rmX2_worstWait s m args below meth c H locs 0 0 Q (F0 m 40 ls [.int t0, .int t1]) := by
      intro x3 t0 t1 H locs ls hf hP hS hl
      rw [j_X2_worstWait_40] at hf
      refine va_mmax hx hb (hml.trans hl.1.symm) hown (hts _ (List.mem_of_getElem? (i := 2) rfl)) (hts _ (List.mem_of_getElem? (i := 3) rfl)) (hts _ (List.mem_of_getElem? (i := 4) rfl)) (hts _ (List.mem_of_getElem? (i := 5) rfl)) (Nat.le_of_ble_eq_true rfl) (Nat.le_of_ble_eq_true rfl) (Nat.le_refl 0) (Nat.le_refl 0) dX2_worstWait_40 ?_
      refine lv_istore_n (lv' := [(2, .int (if t1 < t0 then t0 else t1)), (0, .ref (a 18)), (1, .int x1), (3, .int x3)]) hx hb dX2_worstWait_43 rfl hl (Nat.le_of_ble_eq_true rfl) rfl (fun ls hl => ?_)
      refine lv_iinc (v := (x3 + 1)) (lv' := [(3, .int (x3 + 1)), (2, .int (if t1 < t0 then t0 else t1)), (0, .ref (a 18)), (1, .int x1)]) hx hb dX2_worstWait_44 hl (k := 3) rfl rfl (Nat.le_of_ble_eq_true rfl) rfl (fun ls hl => ?_)
      refine lv_goto (tgt := 4) hx hb dX2_worstWait_47 (by decide) ?_
      exact ih _ _ hf H locs ls hP hS (lv_sub hl [2, 3, 1, 0] rfl)
    intro x2 x3 hf H locs ls hP hS hl
    rw [l_X2_worstWait_4] at hf
    refine lv_iload_n hx hb dX2_worstWait_4 rfl (lv_at hl 3 rfl) ?_
    refine lv_aload_n hx hb dX2_worstWait_5 rfl (lv_at hl 0 rfl) ?_
    refine gx_2_0 C hin2 hP (List.mem_of_getElem? (i := 1) rfl) dX2_worstWait_6 ?_
    refine gxn_3_5 C hin3 hP (i := 7) rfl dX2_worstWait_9 ?_
    refine lv_icmp_ge (tgt := 50) hx hb dX2_worstWait_12 (by decide) (fun c1 => ?_) (fun c1 => ?_)
    · have hf := if_p hf c1
      obtain rfl := Option.some.inj hf
      exact K0 H locs ls hP hS (lv_sub hl [2] rfl)
    · have hf := if_n hf c1
      refine lv_aload_n hx hb dX2_worstWait_15 rfl (lv_at hl 0 rfl) ?_
      refine lv_iload_n hx hb dX2_worstWait_16 rfl (lv_at hl 3 rfl) ?_
      refine lv_iload_n hx hb dX2_worstWait_17 rfl (lv_at hl 1 rfl) ?_
      obtain ⟨r18, hc18, hf⟩ := ob hf
      refine tCallVi (As := [.int x3, .int x1]) (rest := []) (q0 := 18) (ci := 2) C hP hS rfl rfl (c_X2_firstShort l C.2.2.2 hc18) (cwV 2 hts gX2_worstWait_X2_firstShort rfl rfl rfl ⟨rfl, hd_X2_firstShort⟩ ⟨Nat.le_of_ble_eq_true rfl, Nat.le_of_ble_eq_true rfl⟩) rfl hl rfl (Nat.le_of_ble_eq_true rfl) dX2_worstWait_18 ⟨Nat.le_refl 0, Nat.le_refl 0⟩ (fun H locs hP hS => ?_)
      refine lv_istore (lv' := [(4, .int r18), (0, .ref (a 18)), (1, .int x1), (2, .int x2), (3, .int x3)]) hx hb dX2_worstWait_21 hl (Nat.le_of_ble_eq_true rfl) rfl (fun ls hl => ?_)
      refine lv_iload_n hx hb dX2_worstWait_23 rfl (lv_at hl 3 rfl) ?_
      refine lv_iload hx hb dX2_worstWait_24 (lv_at hl 0 rfl) ?_
      refine lv_bipush (v := (-9 : Int32)) hx hb dX2_worstWait_26 (by decide) ?_
      refine lv_icmp_ne (tgt := 36) hx hb dX2_worstWait_28 (by decide) (fun c2 => ?_) (fun c2 => ?_)
      · have hf := if_n hf c2
        refine lv_iload hx hb dX2_worstWait_36 (lv_at hl 0 rfl) ?_
        refine lv_iload_n hx hb dX2_worstWait_38 rfl (lv_at hl 4 rfl) ?_
        refine lv_isub hx hb dX2_worstWait_39 ?_
        exact J40 _ _ _ H locs ls hf hP hS (lv_sub hl [1, 2, 4] rfl)
      · have hf := if_p hf c2
        refine lv_bipush (v := (9 : Int32)) hx hb dX2_worstWait_31 (by decide) ?_
        refine lv_goto (tgt := 40) hx hb dX2_worstWait_33 (by decide) ?_
        exact J40 _ _ _ H locs ls hf hP hS (lv_sub hl [1, 2, 4] rfl)
set_option maxHeartbeats 4000000 in
set_option maxRecDepth 100000 in
theorem c_X2_worstWait (l : Launch) {D : va_G} {cI cZ : ClassId} {a : Nat → Nat} (hA : ∀ S : St, va_D (xA a) (wX cI cZ a S)) {x1 : Int32} {S : St} {o : Int32} (hf : f_X2_worstWait x1 S = some o) : Met l yX2_worstWait wsX2_worstWait rmX2_worstWait (tPc D cI cZ (wX cI cZ a) S ([.ref (a 18), .int x1] : List Value)) (tQi D (wX cI cZ a) (xA a) S o) 0 0 (xA a) := by
  refine tEnter (cc := cX2_worstWait) (maxL := 5) (ret := (some .int)) (own := RX2) hA rfl (by decide) rfl (Nat.le_of_ble_eq_true rfl) (fun p e s m args below meth c C hr hlk hP hS ls hl => ?_)
  obtain ⟨⟨hx, hb, hml, hown, hts⟩, hK, hN, -⟩ := id C
  have hl : lv_has ls 5 [(0, .ref (a 18)), (1, .int x1)] := hl
  have hin2 := hn_X2_worstWait_2
  have hin3 := hn_X2_worstWait_3
  have hSS := hS
  rw [f_X2_worstWait] at hf
  revert hP hS
  suffices hsuf : ∀ (H : Heap) (locs : List Loc), va_P D vwCl (wX cI cZ a S) H → va_S (xA a) s.heap H locs → W p l e rmX2_worstWait s m args below meth c H locs 0 0 (MQ below (tQi D (wX cI cZ a) (xA a) S o) args s 0 0 (xA a)) (F0 m 0 ls []) from fun hP hS => hsuf s.heap [] hP hS
  intro H locs hP hS
  refine lv_iconst (v := (0 : Int32)) hx hb dX2_worstWait_0 (by decide) ?_
  refine lv_istore_n (lv' := [(2, .int (0 : Int32)), (0, .ref (a 18)), (1, .int x1)]) hx hb dX2_worstWait_1 rfl hl (Nat.le_of_ble_eq_true rfl) rfl (fun ls hl => ?_)
  refine lv_iconst (v := (0 : Int32)) hx hb dX2_worstWait_2 (by decide) ?_
  refine lv_istore_n (lv' := [(3, .int (0 : Int32)), (2, .int (0 : Int32)), (0, .ref (a 18)), (1, .int x1)]) hx hb dX2_worstWait_3 rfl hl (Nat.le_of_ble_eq_true rfl) rfl (fun ls hl => ?_)
  obtain ⟨o4, hc4, hf⟩ := ob hf
  refine lp_X2_worstWait_4 C (fun H locs ls hP hS hl => ?_) fuel _ _ hc4 H locs ls hP hS (lv_sub hl [2, 3, 1, 0] rfl)
  refine lv_iload_n hx hb dX2_worstWait_50 rfl (lv_at hl 0 rfl) ?_
  obtain rfl := Option.some.inj hf
  exact tRet_i C hr hlk hP hS dX2_worstWait_51
def rmX2_bestArrows : Room := { frames := 2, cells := 0, slots := 0, locals := 49 }
theorem hd_X2_bestArrows : yX2_bestArrows.cls ≠ "java/lang/invoke/MethodHandle" ∧ yX2_bestArrows.cls ≠ "java/lang/invoke/VarHandle" ∧ (parseMethodDescriptor yX2_bestArrows.desc).map (fun d => d.parameters.length) = some 0 := by decide +kernel
set_option maxHeartbeats 4000000 in
set_option maxRecDepth 100000 in
theorem lp_X2_bestArrows_10 {p : Program} {l : Launch} {e : Env} {s : State} {m : MethodId} {args : Array Value} {below : List Frame} {meth : Method} {c : Code} {D : va_G} {cI cZ : ClassId} {a : Nat → Nat} {Q : State → Prop} {H0 : Heap} {S : St} {o : Int32}
    (C : tC p c s m args cX2_bestArrows 5 RX2 wsX2_bestArrows D cI cZ (wX cI cZ a) (xA a))
    (K0 : ∀ (H : Heap) (locs : List Loc) (ls : Array Slot), va_P D vwCl (wX cI cZ a S) H → va_S (xA a) H0 H locs → lv_has ls 5 [(1, .int o)] → W p l e rmX2_bestArrows s m args below meth c H locs 0 0 Q (F0 m 40 ls [])) :
    ∀ (n : Nat) (x1 : Int32) (x2 : Int32) (x3 : Int32), l_X2_bestArrows_10 S n x1 x2 x3 = some o → ∀ (H : Heap) (locs : List Loc) (ls : Array Slot), va_P D vwCl (wX cI cZ a S) H → va_S (xA a) H0 H locs → lv_has ls 5 [(0, .ref (a 18)), (1, .int x1), (2, .int x2), (3, .int x3)] → W p l e rmX2_bestArrows s m args below meth c H locs 0 0 Q (F0 m 10 ls []) := by
  obtain ⟨⟨hx, hb, hml, hown, hts⟩, hK, hN, hA⟩ := id C
  intro n
  induction n with
  | zero =>
    intro x1 x2 x3 hf
    rw [l_X2_bestArrows_10] at hf
    cases hf
  | succ n ih =>
    intro x1 x2 x3 hf H locs ls hP hS hl
    rw [l_X2_bestArrows_10] at hf
    refine lv_iload_n hx hb dX2_bestArrows_10 rfl (lv_at hl 3 rfl) ?_
    refine lv_bipush (v := (9 : Int32)) hx hb dX2_bestArrows_11 (by decide) ?_
    refine lv_icmp_gt (tgt := 40) hx hb dX2_bestArrows_13 (by decide) (fun c1 => ?_) (fun c1 => ?_)
    · have hf := if_p hf c1
      obtain rfl := Option.some.inj hf
      exact K0 H locs ls hP hS (lv_sub hl [1] rfl)
    · have hf := if_n hf c1
      refine lv_aload_n hx hb dX2_bestArrows_16 rfl (lv_at hl 0 rfl) ?_
      refine lv_iload_n hx hb dX2_bestArrows_17 rfl (lv_at hl 3 rfl) ?_
      obtain ⟨r18, hc18, hf⟩ := ob hf
      refine tCallVi (As := [.int x3]) (rest := []) (q0 := 18) (ci := 2) C hP hS rfl rfl (c_X2_worstWait l C.2.2.2 hc18) (cwV 1 hts gX2_bestArrows_X2_worstWait rfl rfl rfl ⟨rfl, hd_X2_worstWait⟩ ⟨Nat.le_of_ble_eq_true rfl, Nat.le_of_ble_eq_true rfl⟩) rfl hl rfl (Nat.le_of_ble_eq_true rfl) dX2_bestArrows_18 ⟨Nat.le_refl 0, Nat.le_refl 0⟩ (fun H locs hP hS => ?_)
      refine lv_istore (lv' := [(4, .int r18), (0, .ref (a 18)), (1, .int x1), (2, .int x2), (3, .int x3)]) hx hb dX2_bestArrows_21 hl (Nat.le_of_ble_eq_true rfl) rfl (fun ls hl => ?_)
      refine lv_iload hx hb dX2_bestArrows_23 (lv_at hl 0 rfl) ?_
      refine lv_iload_n hx hb dX2_bestArrows_25 rfl (lv_at hl 3 rfl) ?_
      refine lv_icmp_ge (tgt := 34) hx hb dX2_bestArrows_26 (by decide) (fun c2 => ?_) (fun c2 => ?_)
      · have hf := if_p hf c2
        refine lv_iinc (v := (x3 + 1)) (lv' := [(3, .int (x3 + 1)), (4, .int r18), (0, .ref (a 18)), (1, .int x1), (2, .int x2)]) hx hb dX2_bestArrows_34 hl (k := 4) rfl rfl (Nat.le_of_ble_eq_true rfl) rfl (fun ls hl => ?_)
        refine lv_goto (tgt := 10) hx hb dX2_bestArrows_37 (by decide) ?_
        exact ih _ _ _ hf H locs ls hP hS (lv_sub hl [2, 3, 4, 0] rfl)
      · have hf := if_n hf c2
        refine lv_iload_n hx hb dX2_bestArrows_29 rfl (lv_at hl 4 rfl) ?_
        refine lv_istore_n (lv' := [(1, .int x3), (4, .int r18), (0, .ref (a 18)), (2, .int x2), (3, .int x3)]) hx hb dX2_bestArrows_30 rfl hl (Nat.le_of_ble_eq_true rfl) rfl (fun ls hl => ?_)
        refine lv_iload hx hb dX2_bestArrows_31 (lv_at hl 1 rfl) ?_
        refine lv_istore_n (lv' := [(2, .int r18), (1, .int x3), (4, .int r18), (0, .ref (a 18)), (3, .int x3)]) hx hb dX2_bestArrows_33 rfl hl (Nat.le_of_ble_eq_true rfl) rfl (fun ls hl => ?_)
        refine lv_iinc (v := (x3 + 1)) (lv' := [(3, .int (x3 + 1)), (2, .int r18), (1, .int x3), (4, .int r18), (0, .ref (a 18))]) hx hb dX2_bestArrows_34 hl (k := 4) rfl rfl (Nat.le_of_ble_eq_true rfl) rfl (fun ls hl => ?_)
        refine lv_goto (tgt := 10) hx hb dX2_bestArrows_37 (by decide) ?_
        exact ih _ _ _ hf H locs ls hP hS (lv_sub hl [4, 2, 1, 0] rfl)
set_option maxHeartbeats 4000000 in
set_option maxRecDepth 100000 in
theorem c_X2_bestArrows (l : Launch) {D : va_G} {cI cZ : ClassId} {a : Nat → Nat} (hA : ∀ S : St, va_D (xA a) (wX cI cZ a S)) {S : St} {o : Int32} (hf : f_X2_bestArrows S = some o) : Met l yX2_bestArrows wsX2_bestArrows rmX2_bestArrows (tPc D cI cZ (wX cI cZ a) S ([.ref (a 18)] : List Value)) (tQi D (wX cI cZ a) (xA a) S o) 0 0 (xA a) := by
  refine tEnter (cc := cX2_bestArrows) (maxL := 5) (ret := (some .int)) (own := RX2) hA rfl (by decide) rfl (Nat.le_of_ble_eq_true rfl) (fun p e s m args below meth c C hr hlk hP hS ls hl => ?_)
  obtain ⟨⟨hx, hb, hml, hown, hts⟩, hK, hN, -⟩ := id C
  have hl : lv_has ls 5 [(0, .ref (a 18))] := hl
  have hSS := hS
  rw [f_X2_bestArrows] at hf
  revert hP hS
  suffices hsuf : ∀ (H : Heap) (locs : List Loc), va_P D vwCl (wX cI cZ a S) H → va_S (xA a) s.heap H locs → W p l e rmX2_bestArrows s m args below meth c H locs 0 0 (MQ below (tQi D (wX cI cZ a) (xA a) S o) args s 0 0 (xA a)) (F0 m 0 ls []) from fun hP hS => hsuf s.heap [] hP hS
  intro H locs hP hS
  refine lv_iconst (v := (2 : Int32)) hx hb dX2_bestArrows_0 (by decide) ?_
  refine lv_istore_n (lv' := [(1, .int (2 : Int32)), (0, .ref (a 18))]) hx hb dX2_bestArrows_1 rfl hl (Nat.le_of_ble_eq_true rfl) rfl (fun ls hl => ?_)
  refine lv_aload_n hx hb dX2_bestArrows_2 rfl (lv_at hl 1 rfl) ?_
  refine lv_iconst (v := (2 : Int32)) hx hb dX2_bestArrows_3 (by decide) ?_
  obtain ⟨r4, hc4, hf⟩ := ob hf
  refine tCallVi (As := [.int (2 : Int32)]) (rest := []) (q0 := 18) (ci := 2) C hP hS rfl rfl (c_X2_worstWait l C.2.2.2 hc4) (cwV 1 hts gX2_bestArrows_X2_worstWait rfl rfl rfl ⟨rfl, hd_X2_worstWait⟩ ⟨Nat.le_of_ble_eq_true rfl, Nat.le_of_ble_eq_true rfl⟩) rfl hl rfl (Nat.le_of_ble_eq_true rfl) dX2_bestArrows_4 ⟨Nat.le_refl 0, Nat.le_refl 0⟩ (fun H locs hP hS => ?_)
  refine lv_istore_n (lv' := [(2, .int r4), (1, .int (2 : Int32)), (0, .ref (a 18))]) hx hb dX2_bestArrows_7 rfl hl (Nat.le_of_ble_eq_true rfl) rfl (fun ls hl => ?_)
  refine lv_iconst (v := (3 : Int32)) hx hb dX2_bestArrows_8 (by decide) ?_
  refine lv_istore_n (lv' := [(3, .int (3 : Int32)), (2, .int r4), (1, .int (2 : Int32)), (0, .ref (a 18))]) hx hb dX2_bestArrows_9 rfl hl (Nat.le_of_ble_eq_true rfl) rfl (fun ls hl => ?_)
  obtain ⟨o10, hc10, hf⟩ := ob hf
  refine lp_X2_bestArrows_10 C (fun H locs ls hP hS hl => ?_) fuel _ _ _ hc10 H locs ls hP hS (lv_sub hl [3, 2, 1, 0] rfl)
  refine lv_iload_n hx hb dX2_bestArrows_40 rfl (lv_at hl 0 rfl) ?_
  obtain rfl := Option.some.inj hf
  exact tRet_i C hr hlk hP hS dX2_bestArrows_41
def rmX9_soonest : Room := { frames := 3, cells := 0, slots := 0, locals := 73 }
theorem hn_X9_soonest_9 : ∀ w ∈ wsX90, w ∈ wsX9_soonest := fun w h => List.mem_cons_of_mem _ (List.mem_append_left _ (List.mem_append_left _ (List.mem_append_right _ h)))
theorem hd_X9_soonest : yX9_soonest.cls ≠ "java/lang/invoke/MethodHandle" ∧ yX9_soonest.cls ≠ "java/lang/invoke/VarHandle" ∧ (parseMethodDescriptor yX9_soonest.desc).map (fun d => d.parameters.length) = some 0 := by decide +kernel
set_option maxHeartbeats 4000000 in
set_option maxRecDepth 100000 in
theorem c_X9_soonest (l : Launch) {D : va_G} {cI cZ : ClassId} {a : Nat → Nat} (hA : ∀ S : St, va_D (xA a) (wX cI cZ a S)) {S : St} {o : Int32} (hf : f_X9_soonest S = some o) : Met l yX9_soonest wsX9_soonest rmX9_soonest (tPc D cI cZ (wX cI cZ a) S ([.ref (a 0)] : List Value)) (tQi D (wX cI cZ a) (xA a) S o) 0 0 (xA a) := by
  refine tEnter (cc := cX9_soonest) (maxL := 1) (ret := (some .int)) (own := RX9) hA rfl (by decide) rfl (Nat.le_of_ble_eq_true rfl) (fun p e s m args below meth c C hr hlk hP hS ls hl => ?_)
  obtain ⟨⟨hx, hb, hml, hown, hts⟩, hK, hN, -⟩ := id C
  have hl : lv_has ls 1 [(0, .ref (a 0))] := hl
  have hin9 := hn_X9_soonest_9
  have hSS := hS
  rw [f_X9_soonest] at hf
  revert hP hS
  suffices hsuf : ∀ (H : Heap) (locs : List Loc), va_P D vwCl (wX cI cZ a S) H → va_S (xA a) s.heap H locs → W p l e rmX9_soonest s m args below meth c H locs 0 0 (MQ below (tQi D (wX cI cZ a) (xA a) S o) args s 0 0 (xA a)) (F0 m 0 ls []) from fun hP hS => hsuf s.heap [] hP hS
  intro H locs hP hS
  refine lv_aload_n hx hb dX9_soonest_0 rfl (lv_at hl 0 rfl) ?_
  refine gx_9_7 C hin9 hP (List.mem_of_getElem? (i := 1) rfl) dX9_soonest_1 ?_
  obtain ⟨r4, hc4, hf⟩ := ob hf
  refine tCallVi (As := []) (rest := []) (q0 := 18) (ci := 2) C hP hS rfl rfl (c_X2_bestArrows l C.2.2.2 hc4) (cwV 0 hts gX9_soonest_X2_bestArrows rfl rfl rfl ⟨rfl, hd_X2_bestArrows⟩ ⟨Nat.le_of_ble_eq_true rfl, Nat.le_of_ble_eq_true rfl⟩) rfl hl rfl (Nat.le_of_ble_eq_true rfl) dX9_soonest_4 ⟨Nat.le_refl 0, Nat.le_refl 0⟩ (fun H locs hP hS => ?_)
  obtain rfl := Option.some.inj hf
  exact tRet_i C hr hlk hP hS dX9_soonest_7
def rmX6_append : Room := { frames := 0, cells := 0, slots := 0, locals := 0 }
theorem hn_X6_append_6 : ∀ w ∈ wsX60, w ∈ wsX6_append := fun w h => List.mem_cons_of_mem _ (List.mem_append_right _ h)
theorem hd_X6_append : yX6_append.cls ≠ "java/lang/invoke/MethodHandle" ∧ yX6_append.cls ≠ "java/lang/invoke/VarHandle" ∧ (parseMethodDescriptor yX6_append.desc).map (fun d => d.parameters.length) = some 2 := by decide +kernel
set_option maxHeartbeats 4000000 in
set_option maxRecDepth 100000 in
theorem c_X6_append (l : Launch) {D : va_G} {cI cZ : ClassId} {a : Nat → Nat} (hA : ∀ S : St, va_D (xA a) (wX cI cZ a S)) {x1 : Int32} {x2 : Int32} {S : St} {o : Int32 × St} (hf : f_X6_append x1 x2 S = some o) : Met l yX6_append wsX6_append rmX6_append (tPc D cI cZ (wX cI cZ a) S ([.ref (a 13), .int x1, .int x2] : List Value)) (tQi D (wX cI cZ a) (xA a) o.2 o.1) 0 0 (xA a) := by
  refine tEnter (cc := cX6_append) (maxL := 3) (ret := (some .boolean)) (own := RX6) hA rfl (by decide) rfl (Nat.le_of_ble_eq_true rfl) (fun p e s m args below meth c C hr hlk hP hS ls hl => ?_)
  obtain ⟨⟨hx, hb, hml, hown, hts⟩, hK, hN, -⟩ := id C
  have hl : lv_has ls 3 [(0, .ref (a 13)), (1, .int x1), (2, .int x2)] := hl
  have hin6 := hn_X6_append_6
  have hSS := hS
  rw [f_X6_append] at hf
  revert hP hS
  suffices hsuf : ∀ (H : Heap) (locs : List Loc), va_P D vwCl (wX cI cZ a S) H → va_S (xA a) s.heap H locs → W p l e rmX6_append s m args below meth c H locs 0 0 (MQ below (tQi D (wX cI cZ a) (xA a) o.2 o.1) args s 0 0 (xA a)) (F0 m 0 ls []) from fun hP hS => hsuf s.heap [] hP hS
  intro H locs hP hS
  refine lv_aload_n hx hb dX6_append_0 rfl (lv_at hl 0 rfl) ?_
  refine gx_6_2 C hin6 hP (List.mem_of_getElem? (i := 1) rfl) dX6_append_1 ?_
  refine lv_if_lt (tgt := 16) hx hb dX6_append_4 (by decide) (fun c1 => ?_) (fun c1 => ?_)
  · have hf := if_p hf c1
    refine lv_iconst (v := (0 : Int32)) hx hb dX6_append_16 (by decide) ?_
    obtain rfl := Option.some.inj hf
    exact tRet_z (v := (0 : Int32)) C hr hlk hP hS rfl dX6_append_17
  · have hf := if_n hf c1
    refine lv_aload_n hx hb dX6_append_7 rfl (lv_at hl 0 rfl) ?_
    refine gx_6_2 C hin6 hP (List.mem_of_getElem? (i := 1) rfl) dX6_append_8 ?_
    refine lv_bipush (v := (6 : Int32)) hx hb dX6_append_11 (by decide) ?_
    refine lv_icmp_lt (tgt := 18) hx hb dX6_append_13 (by decide) (fun c2 => ?_) (fun c2 => ?_)
    · have hf := if_p hf c2
      refine lv_aload_n hx hb dX6_append_18 rfl (lv_at hl 0 rfl) ?_
      refine gx_6_0 C hin6 hP (List.mem_of_getElem? (i := 2) rfl) dX6_append_19 ?_
      refine lv_aload_n hx hb dX6_append_22 rfl (lv_at hl 0 rfl) ?_
      refine gx_6_2 C hin6 hP (List.mem_of_getElem? (i := 1) rfl) dX6_append_23 ?_
      refine lv_iload_n hx hb dX6_append_26 rfl (lv_at hl 1 rfl) ?_
      obtain ⟨hi3, hf⟩ := ob_in hf
      refine stx_7 C hP hS rfl hi3 dX6_append_27 (fun H locs hP hS => ?_)
      obtain ⟨S27, eS27⟩ : ∃ z, z = (sA S 7 ((S.1 18).toNatClampNeg) x1) := ⟨_, rfl⟩
      rw [← eS27] at hP
      have hf := nm_i hf eS27
      refine lv_aload_n hx hb dX6_append_28 rfl (lv_at hl 0 rfl) ?_
      refine gx_6_1 C hin6 hP (List.mem_of_getElem? (i := 3) rfl) dX6_append_29 ?_
      refine lv_aload_n hx hb dX6_append_32 rfl (lv_at hl 0 rfl) ?_
      refine gx_6_2 C hin6 hP (List.mem_of_getElem? (i := 1) rfl) dX6_append_33 ?_
      refine lv_iload_n hx hb dX6_append_36 rfl (lv_at hl 2 rfl) ?_
      obtain ⟨hi4, hf⟩ := ob_in hf
      refine stx_8 C hP hS rfl hi4 dX6_append_37 (fun H locs hP hS => ?_)
      obtain ⟨S37, eS37⟩ : ∃ z, z = (sA S27 8 ((S27.1 18).toNatClampNeg) x2) := ⟨_, rfl⟩
      rw [← eS37] at hP
      have hf := nm_i hf eS37
      refine lv_aload_n hx hb dX6_append_38 rfl (lv_at hl 0 rfl) ?_
      refine lv_dup hx hb dX6_append_39 rfl ?_
      refine gx_6_2 C hin6 hP (List.mem_of_getElem? (i := 1) rfl) dX6_append_40 ?_
      refine lv_iconst (v := (1 : Int32)) hx hb dX6_append_43 (by decide) ?_
      refine lv_iadd hx hb dX6_append_44 ?_
      refine px_6_2 C hin6 hP hS (List.mem_of_getElem? (i := 1) rfl) dX6_append_45 (fun H locs hP hS => ?_)
      obtain ⟨S45, eS45⟩ : ∃ z, z = (sI S37 18 ((S37.1 18) + (1 : Int32))) := ⟨_, rfl⟩
      rw [← eS45] at hP
      have hf := nm_i hf eS45
      refine lv_iconst (v := (1 : Int32)) hx hb dX6_append_48 (by decide) ?_
      obtain rfl := Option.some.inj hf
      exact tRet_z (v := (1 : Int32)) C hr hlk hP hS rfl dX6_append_49
    · have hf := if_n hf c2
      refine lv_iconst (v := (0 : Int32)) hx hb dX6_append_16 (by decide) ?_
      obtain rfl := Option.some.inj hf
      exact tRet_z (v := (0 : Int32)) C hr hlk hP hS rfl dX6_append_17
def rmX9_test : Room := { frames := 1, cells := 0, slots := 0, locals := 22 }
theorem hn_X9_test_6 : ∀ w ∈ wsX60, w ∈ wsX9_test := fun w h => List.mem_cons_of_mem _ (List.mem_append_right _ h)
theorem hn_X9_test_9 : ∀ w ∈ wsX90, w ∈ wsX9_test := fun w h => List.mem_cons_of_mem _ (List.mem_append_left _ (List.mem_append_right _ h))
theorem hd_X9_test : yX9_test.cls ≠ "java/lang/invoke/MethodHandle" ∧ yX9_test.cls ≠ "java/lang/invoke/VarHandle" ∧ (parseMethodDescriptor yX9_test.desc).map (fun d => d.parameters.length) = some 2 := by decide +kernel
set_option maxHeartbeats 4000000 in
set_option maxRecDepth 100000 in
theorem c_X9_test (l : Launch) {D : va_G} {cI cZ : ClassId} {a : Nat → Nat} (hA : ∀ S : St, va_D (xA a) (wX cI cZ a S)) {x1 : Int32} {x2 : Int32} {S : St} {o : Int32 × St} (hf : f_X9_test x1 x2 S = some o) : Met l yX9_test wsX9_test rmX9_test (tPc D cI cZ (wX cI cZ a) S ([.ref (a 0), .int x1, .int x2] : List Value)) (tQi D (wX cI cZ a) (xA a) o.2 o.1) 0 0 (xA a) := by
  refine tEnter (cc := cX9_test) (maxL := 3) (ret := (some .int)) (own := RX9) hA rfl (by decide) rfl (Nat.le_of_ble_eq_true rfl) (fun p e s m args below meth c C hr hlk hP hS ls hl => ?_)
  obtain ⟨⟨hx, hb, hml, hown, hts⟩, hK, hN, -⟩ := id C
  have hl : lv_has ls 3 [(0, .ref (a 0)), (1, .int x1), (2, .int x2)] := hl
  have hin6 := hn_X9_test_6
  have hin9 := hn_X9_test_9
  have hSS := hS
  rw [f_X9_test] at hf
  revert hP hS
  suffices hsuf : ∀ (H : Heap) (locs : List Loc), va_P D vwCl (wX cI cZ a S) H → va_S (xA a) s.heap H locs → W p l e rmX9_test s m args below meth c H locs 0 0 (MQ below (tQi D (wX cI cZ a) (xA a) o.2 o.1) args s 0 0 (xA a)) (F0 m 0 ls []) from fun hP hS => hsuf s.heap [] hP hS
  intro H locs hP hS
  refine lv_iload_n hx hb dX9_test_0 rfl (lv_at hl 1 rfl) ?_
  refine lv_if_lt (tgt := 22) hx hb dX9_test_1 (by decide) (fun c1 => ?_) (fun c1 => ?_)
  · have hf := if_p hf c1
    refine lv_bipush (v := (-2 : Int32)) hx hb dX9_test_22 (by decide) ?_
    obtain rfl := Option.some.inj hf
    exact tRet_i C hr hlk hP hS dX9_test_24
  · have hf := if_n hf c1
    refine lv_iload_n hx hb dX9_test_4 rfl (lv_at hl 1 rfl) ?_
    refine lv_bipush (v := (8 : Int32)) hx hb dX9_test_5 (by decide) ?_
    refine lv_icmp_ge (tgt := 22) hx hb dX9_test_7 (by decide) (fun c2 => ?_) (fun c2 => ?_)
    · have hf := if_p hf c2
      refine lv_bipush (v := (-2 : Int32)) hx hb dX9_test_22 (by decide) ?_
      obtain rfl := Option.some.inj hf
      exact tRet_i C hr hlk hP hS dX9_test_24
    · have hf := if_n hf c2
      refine lv_iload_n hx hb dX9_test_10 rfl (lv_at hl 2 rfl) ?_
      refine lv_bipush (v := (-9 : Int32)) hx hb dX9_test_11 (by decide) ?_
      refine lv_icmp_lt (tgt := 22) hx hb dX9_test_13 (by decide) (fun c3 => ?_) (fun c3 => ?_)
      · have hf := if_p hf c3
        refine lv_bipush (v := (-2 : Int32)) hx hb dX9_test_22 (by decide) ?_
        obtain rfl := Option.some.inj hf
        exact tRet_i C hr hlk hP hS dX9_test_24
      · have hf := if_n hf c3
        refine lv_iload_n hx hb dX9_test_16 rfl (lv_at hl 2 rfl) ?_
        refine lv_bipush (v := (9 : Int32)) hx hb dX9_test_17 (by decide) ?_
        refine lv_icmp_le (tgt := 25) hx hb dX9_test_19 (by decide) (fun c4 => ?_) (fun c4 => ?_)
        · have hf := if_p hf c4
          refine lv_aload_n hx hb dX9_test_25 rfl (lv_at hl 0 rfl) ?_
          refine gx_9_5 C hin9 hP (List.mem_of_getElem? (i := 1) rfl) dX9_test_26 ?_
          refine lv_iload_n hx hb dX9_test_29 rfl (lv_at hl 1 rfl) ?_
          refine lv_iload_n hx hb dX9_test_30 rfl (lv_at hl 2 rfl) ?_
          obtain ⟨r31, hc31, hf⟩ := ob hf
          refine tCallVi (As := [.int x1, .int x2]) (rest := []) (q0 := 13) (ci := 6) C hP hS rfl rfl (c_X6_append l C.2.2.2 hc31) (cwV 2 hts gX9_test_X6_append rfl rfl rfl ⟨rfl, hd_X6_append⟩ ⟨Nat.le_of_ble_eq_true rfl, Nat.le_of_ble_eq_true rfl⟩) rfl hl rfl (Nat.le_of_ble_eq_true rfl) dX9_test_31 ⟨Nat.le_refl 0, Nat.le_refl 0⟩ (fun H locs hP hS => ?_)
          refine lv_if_eq (tgt := 47) hx hb dX9_test_34 (by decide) (fun c5 => ?_) (fun c5 => ?_)
          · have hf := if_p hf c5
            refine lv_bipush (v := (-4 : Int32)) hx hb dX9_test_47 (by decide) ?_
            obtain rfl := Option.some.inj hf
            exact tRet_i C hr hlk hP hS dX9_test_49
          · have hf := if_n hf c5
            refine lv_aload_n hx hb dX9_test_37 rfl (lv_at hl 0 rfl) ?_
            refine gx_9_5 C hin9 hP (List.mem_of_getElem? (i := 1) rfl) dX9_test_38 ?_
            refine gxn_6_2 C hin6 hP (i := 23) rfl dX9_test_41 ?_
            refine lv_goto (tgt := 49) hx hb dX9_test_44 (by decide) ?_
            obtain rfl := Option.some.inj hf
            exact tRet_i C hr hlk hP hS dX9_test_49
        · have hf := if_n hf c4
          refine lv_bipush (v := (-2 : Int32)) hx hb dX9_test_22 (by decide) ?_
          obtain rfl := Option.some.inj hf
          exact tRet_i C hr hlk hP hS dX9_test_24
def rmX9_untest : Room := { frames := 0, cells := 0, slots := 0, locals := 0 }
theorem hn_X9_untest_6 : ∀ w ∈ wsX60, w ∈ wsX9_untest := fun w h => List.mem_cons_of_mem _ (List.mem_append_right _ h)
theorem hn_X9_untest_9 : ∀ w ∈ wsX90, w ∈ wsX9_untest := fun w h => List.mem_cons_of_mem _ (List.mem_append_left _ (List.mem_append_right _ h))
theorem hd_X9_untest : yX9_untest.cls ≠ "java/lang/invoke/MethodHandle" ∧ yX9_untest.cls ≠ "java/lang/invoke/VarHandle" ∧ (parseMethodDescriptor yX9_untest.desc).map (fun d => d.parameters.length) = some 0 := by decide +kernel
set_option maxHeartbeats 4000000 in
set_option maxRecDepth 100000 in
theorem c_X9_untest (l : Launch) {D : va_G} {cI cZ : ClassId} {a : Nat → Nat} (hA : ∀ S : St, va_D (xA a) (wX cI cZ a S)) {S : St} {o : Int32 × St} (hf : f_X9_untest S = some o) : Met l yX9_untest wsX9_untest rmX9_untest (tPc D cI cZ (wX cI cZ a) S ([.ref (a 0)] : List Value)) (tQi D (wX cI cZ a) (xA a) o.2 o.1) 0 0 (xA a) := by
  refine tEnter (cc := cX9_untest) (maxL := 2) (ret := (some .int)) (own := RX9) hA rfl (by decide) rfl (Nat.le_of_ble_eq_true rfl) (fun p e s m args below meth c C hr hlk hP hS ls hl => ?_)
  obtain ⟨⟨hx, hb, hml, hown, hts⟩, hK, hN, -⟩ := id C
  have hl : lv_has ls 2 [(0, .ref (a 0))] := hl
  have hin6 := hn_X9_untest_6
  have hin9 := hn_X9_untest_9
  have hSS := hS
  rw [f_X9_untest] at hf
  revert hP hS
  suffices hsuf : ∀ (H : Heap) (locs : List Loc), va_P D vwCl (wX cI cZ a S) H → va_S (xA a) s.heap H locs → W p l e rmX9_untest s m args below meth c H locs 0 0 (MQ below (tQi D (wX cI cZ a) (xA a) o.2 o.1) args s 0 0 (xA a)) (F0 m 0 ls []) from fun hP hS => hsuf s.heap [] hP hS
  intro H locs hP hS
  refine lv_aload_n hx hb dX9_untest_0 rfl (lv_at hl 0 rfl) ?_
  refine gx_9_5 C hin9 hP (List.mem_of_getElem? (i := 1) rfl) dX9_untest_1 ?_
  refine gxn_6_2 C hin6 hP (i := 23) rfl dX9_untest_4 ?_
  refine lv_istore_n (lv' := [(1, .int (S.1 18)), (0, .ref (a 0))]) hx hb dX9_untest_7 rfl hl (Nat.le_of_ble_eq_true rfl) rfl (fun ls hl => ?_)
  refine lv_aload_n hx hb dX9_untest_8 rfl (lv_at hl 1 rfl) ?_
  refine gx_9_5 C hin9 hP (List.mem_of_getElem? (i := 1) rfl) dX9_untest_9 ?_
  refine lv_iconst (v := (0 : Int32)) hx hb dX9_untest_12 (by decide) ?_
  refine pxn_6_2 C hin6 hP hS (i := 23) rfl dX9_untest_13 (fun H locs hP hS => ?_)
  obtain ⟨S13, eS13⟩ : ∃ z, z = (sI S 18 (0 : Int32)) := ⟨_, rfl⟩
  rw [← eS13] at hP
  have hf := nm_i hf eS13
  refine lv_iload_n hx hb dX9_untest_16 rfl (lv_at hl 0 rfl) ?_
  obtain rfl := Option.some.inj hf
  exact tRet_i C hr hlk hP hS dX9_untest_17
def rmX6_allAreSo : Room := { frames := 0, cells := 0, slots := 0, locals := 0 }
theorem hn_X6_allAreSo_6 : ∀ w ∈ wsX60, w ∈ wsX6_allAreSo := fun w h => List.mem_cons_of_mem _ (List.mem_append_right _ h)
theorem hd_X6_allAreSo : yX6_allAreSo.cls ≠ "java/lang/invoke/MethodHandle" ∧ yX6_allAreSo.cls ≠ "java/lang/invoke/VarHandle" ∧ (parseMethodDescriptor yX6_allAreSo.desc).map (fun d => d.parameters.length) = some 3 := by decide +kernel
set_option maxHeartbeats 4000000 in
set_option maxRecDepth 100000 in
theorem lp_X6_allAreSo_3 {p : Program} {l : Launch} {e : Env} {s : State} {m : MethodId} {args : Array Value} {below : List Frame} {meth : Method} {c : Code} {D : va_G} {cI cZ : ClassId} {a : Nat → Nat} {Q : State → Prop} {H0 : Heap} {x1 : Int32} {x2 : Int32} {x3 : Int32} {S : St} {o : Nat}
    (C : tC p c s m args cX6_allAreSo 6 RX6 wsX6_allAreSo D cI cZ (wX cI cZ a) (xA a))
    (K0 : o = 0 → ∀ (H : Heap) (locs : List Loc) (ls : Array Slot), va_P D vwCl (wX cI cZ a S) H → va_S (xA a) H0 H locs → lv_has ls 6 [] → W p l e rmX6_allAreSo s m args below meth c H locs 0 0 Q (F0 m 49 ls []))
    (K1 : o = 1 → ∀ (H : Heap) (locs : List Loc) (ls : Array Slot), va_P D vwCl (wX cI cZ a S) H → va_S (xA a) H0 H locs → lv_has ls 6 [] → W p l e rmX6_allAreSo s m args below meth c H locs 0 0 Q (F0 m 57 ls [])) :
    ∀ (n : Nat) (x4 : Int32), l_X6_allAreSo_3 x1 x2 x3 S n x4 = some o → ∀ (H : Heap) (locs : List Loc) (ls : Array Slot), va_P D vwCl (wX cI cZ a S) H → va_S (xA a) H0 H locs → lv_has ls 6 [(0, .ref (a 13)), (1, .int x1), (2, .int x2), (3, .int x3), (4, .int x4)] → W p l e rmX6_allAreSo s m args below meth c H locs 0 0 Q (F0 m 3 ls []) := by
  obtain ⟨⟨hx, hb, hml, hown, hts⟩, hK, hN, hA⟩ := id C
  have hin6 := hn_X6_allAreSo_6
  intro n
  induction n with
  | zero =>
    intro x4 hf
    rw [l_X6_allAreSo_3] at hf
    cases hf
  | succ n ih =>
    have J35 : ∀ (x4 : Int32) (t0 : Int32) (H : Heap) (locs : List Loc) (ls : Array Slot), j_X6_allAreSo_35 (l_X6_allAreSo_3 x1 x2 x3 S n) x1 x2 x3 x4 t0 S = some o → va_P D vwCl (wX cI cZ a S) H → va_S (xA a) H0 H locs → lv_has ls 6 [(0, .ref (a 13)), (1, .int x1), (2, .int x2), (3, .int x3), (4, .int x4)] → W p l e rmX6_allAreSo s m args below meth c H locs 0 0 Q (F0 m 35 ls [.int t0]) := by
      intro x4 t0 H locs ls hf hP hS hl
      rw [j_X6_allAreSo_35] at hf
      refine lv_istore (lv' := [(5, .int t0), (0, .ref (a 13)), (1, .int x1), (2, .int x2), (3, .int x3), (4, .int x4)]) hx hb dX6_allAreSo_35 hl (Nat.le_of_ble_eq_true rfl) rfl (fun ls hl => ?_)
      refine lv_aload_n hx hb dX6_allAreSo_37 rfl (lv_at hl 1 rfl) ?_
      refine gx_6_1 C hin6 hP (List.mem_of_getElem? (i := 3) rfl) dX6_allAreSo_38 ?_
      refine lv_iload hx hb dX6_allAreSo_41 (lv_at hl 5 rfl) ?_
      obtain ⟨hi5, hf⟩ := ob_in hf
      refine ldx_8 C hP rfl hi5 dX6_allAreSo_43 ?_
      refine lv_iload hx hb dX6_allAreSo_44 (lv_at hl 0 rfl) ?_
      refine lv_icmp_eq (tgt := 51) hx hb dX6_allAreSo_46 (by decide) (fun c6 => ?_) (fun c6 => ?_)
      · have hf := if_p hf c6
        refine lv_iinc (v := (x4 + 1)) (lv' := [(4, .int (x4 + 1)), (5, .int t0), (0, .ref (a 13)), (1, .int x1), (2, .int x2), (3, .int x3)]) hx hb dX6_allAreSo_51 hl (k := 5) rfl rfl (Nat.le_of_ble_eq_true rfl) rfl (fun ls hl => ?_)
        refine lv_goto (tgt := 3) hx hb dX6_allAreSo_54 (by decide) ?_
        exact ih _ hf H locs ls hP hS (lv_sub hl [2, 3, 4, 5, 0] rfl)
      · have hf := if_n hf c6
        obtain rfl := Option.some.inj hf
        exact K0 rfl H locs ls hP hS (lv_sub hl [] rfl)
    intro x4 hf H locs ls hP hS hl
    rw [l_X6_allAreSo_3] at hf
    refine lv_iload hx hb dX6_allAreSo_3 (lv_at hl 4 rfl) ?_
    refine lv_aload_n hx hb dX6_allAreSo_5 rfl (lv_at hl 0 rfl) ?_
    refine gx_6_2 C hin6 hP (List.mem_of_getElem? (i := 1) rfl) dX6_allAreSo_6 ?_
    refine lv_icmp_ge (tgt := 57) hx hb dX6_allAreSo_9 (by decide) (fun c1 => ?_) (fun c1 => ?_)
    · have hf := if_p hf c1
      obtain rfl := Option.some.inj hf
      exact K1 rfl H locs ls hP hS (lv_sub hl [] rfl)
    · have hf := if_n hf c1
      refine lv_iload hx hb dX6_allAreSo_12 (lv_at hl 4 rfl) ?_
      refine lv_bipush (v := (6 : Int32)) hx hb dX6_allAreSo_14 (by decide) ?_
      refine lv_icmp_ge (tgt := 57) hx hb dX6_allAreSo_16 (by decide) (fun c2 => ?_) (fun c2 => ?_)
      · have hf := if_p hf c2
        obtain rfl := Option.some.inj hf
        exact K1 rfl H locs ls hP hS (lv_sub hl [] rfl)
      · have hf := if_n hf c2
        refine lv_aload_n hx hb dX6_allAreSo_19 rfl (lv_at hl 0 rfl) ?_
        refine gx_6_0 C hin6 hP (List.mem_of_getElem? (i := 2) rfl) dX6_allAreSo_20 ?_
        refine lv_iload hx hb dX6_allAreSo_23 (lv_at hl 4 rfl) ?_
        obtain ⟨hi3, hf⟩ := ob_in hf
        refine ldx_7 C hP rfl hi3 dX6_allAreSo_25 ?_
        refine lv_iload_n hx hb dX6_allAreSo_26 rfl (lv_at hl 2 rfl) ?_
        refine lv_icmp_ge (tgt := 34) hx hb dX6_allAreSo_27 (by decide) (fun c4 => ?_) (fun c4 => ?_)
        · have hf := if_p hf c4
          refine lv_iload_n hx hb dX6_allAreSo_34 rfl (lv_at hl 3 rfl) ?_
          exact J35 _ _ H locs ls hf hP hS (lv_sub hl [0, 1, 2, 3, 4] rfl)
        · have hf := if_n hf c4
          refine lv_iload_n hx hb dX6_allAreSo_30 rfl (lv_at hl 1 rfl) ?_
          refine lv_goto (tgt := 35) hx hb dX6_allAreSo_31 (by decide) ?_
          exact J35 _ _ H locs ls hf hP hS (lv_sub hl [0, 1, 2, 3, 4] rfl)
set_option maxHeartbeats 4000000 in
set_option maxRecDepth 100000 in
theorem c_X6_allAreSo (l : Launch) {D : va_G} {cI cZ : ClassId} {a : Nat → Nat} (hA : ∀ S : St, va_D (xA a) (wX cI cZ a S)) {x1 : Int32} {x2 : Int32} {x3 : Int32} {S : St} {o : Int32} (hf : f_X6_allAreSo x1 x2 x3 S = some o) : Met l yX6_allAreSo wsX6_allAreSo rmX6_allAreSo (tPc D cI cZ (wX cI cZ a) S ([.ref (a 13), .int x1, .int x2, .int x3] : List Value)) (tQi D (wX cI cZ a) (xA a) S o) 0 0 (xA a) := by
  refine tEnter (cc := cX6_allAreSo) (maxL := 6) (ret := (some .boolean)) (own := RX6) hA rfl (by decide) rfl (Nat.le_of_ble_eq_true rfl) (fun p e s m args below meth c C hr hlk hP hS ls hl => ?_)
  obtain ⟨⟨hx, hb, hml, hown, hts⟩, hK, hN, -⟩ := id C
  have hl : lv_has ls 6 [(0, .ref (a 13)), (1, .int x1), (2, .int x2), (3, .int x3)] := hl
  have hin6 := hn_X6_allAreSo_6
  have hSS := hS
  rw [f_X6_allAreSo] at hf
  revert hP hS
  suffices hsuf : ∀ (H : Heap) (locs : List Loc), va_P D vwCl (wX cI cZ a S) H → va_S (xA a) s.heap H locs → W p l e rmX6_allAreSo s m args below meth c H locs 0 0 (MQ below (tQi D (wX cI cZ a) (xA a) S o) args s 0 0 (xA a)) (F0 m 0 ls []) from fun hP hS => hsuf s.heap [] hP hS
  intro H locs hP hS
  refine lv_iconst (v := (0 : Int32)) hx hb dX6_allAreSo_0 (by decide) ?_
  refine lv_istore (lv' := [(4, .int (0 : Int32)), (0, .ref (a 13)), (1, .int x1), (2, .int x2), (3, .int x3)]) hx hb dX6_allAreSo_1 hl (Nat.le_of_ble_eq_true rfl) rfl (fun ls hl => ?_)
  obtain ⟨o3, hc3, hf⟩ := ob hf
  refine lp_X6_allAreSo_3 C (fun ho H locs ls hP hS hl => ?_) (fun ho H locs ls hP hS hl => ?_) fuel _ hc3 H locs ls hP hS (lv_sub hl [1, 2, 3, 4, 0] rfl)
  · have hf := if_p hf ho
    refine lv_iconst (v := (0 : Int32)) hx hb dX6_allAreSo_49 (by decide) ?_
    obtain rfl := Option.some.inj hf
    exact tRet_z (v := (0 : Int32)) C hr hlk hP hS rfl dX6_allAreSo_50
  · have hf := if_n hf (show ¬ o3 = 0 by rw [ho]; decide)
    refine lv_iconst (v := (1 : Int32)) hx hb dX6_allAreSo_57 (by decide) ?_
    obtain rfl := Option.some.inj hf
    exact tRet_z (v := (1 : Int32)) C hr hlk hP hS rfl dX6_allAreSo_58
def rmX6_countChange : Room := { frames := 0, cells := 0, slots := 0, locals := 0 }
theorem hn_X6_countChange_6 : ∀ w ∈ wsX60, w ∈ wsX6_countChange := fun w h => List.mem_cons_of_mem _ (List.mem_append_right _ h)
theorem hd_X6_countChange : yX6_countChange.cls ≠ "java/lang/invoke/MethodHandle" ∧ yX6_countChange.cls ≠ "java/lang/invoke/VarHandle" ∧ (parseMethodDescriptor yX6_countChange.desc).map (fun d => d.parameters.length) = some 2 := by decide +kernel
set_option maxHeartbeats 4000000 in
set_option maxRecDepth 100000 in
theorem c_X6_countChange (l : Launch) {D : va_G} {cI cZ : ClassId} {a : Nat → Nat} (hA : ∀ S : St, va_D (xA a) (wX cI cZ a S)) {x1 : Int32} {x2 : Int32} {S : St} {o : St} (hf : f_X6_countChange x1 x2 S = some o) : Met l yX6_countChange wsX6_countChange rmX6_countChange (tPc D cI cZ (wX cI cZ a) S ([.ref (a 13), .int x1, .int x2] : List Value)) (tQv D (wX cI cZ a) (xA a) o) 0 0 (xA a) := by
  refine tEnter (cc := cX6_countChange) (maxL := 3) (ret := none) (own := RX6) hA rfl (by decide) rfl (Nat.le_of_ble_eq_true rfl) (fun p e s m args below meth c C hr hlk hP hS ls hl => ?_)
  obtain ⟨⟨hx, hb, hml, hown, hts⟩, hK, hN, -⟩ := id C
  have hl : lv_has ls 3 [(0, .ref (a 13)), (1, .int x1), (2, .int x2)] := hl
  have hin6 := hn_X6_countChange_6
  have J25 : ∀ (x1 : Int32) (S : St) (H : Heap) (locs : List Loc) (ls : Array Slot), j_X6_countChange_25 x1 S = some o → va_P D vwCl (wX cI cZ a S) H → va_S (xA a) s.heap H locs → lv_has ls 3 [(0, .ref (a 13)), (1, .int x1)] → W p l e rmX6_countChange s m args below meth c H locs 0 0 (MQ below (tQv D (wX cI cZ a) (xA a) o) args s 0 0 (xA a)) (F0 m 25 ls []) := by
    intro x1 S H locs ls hf hP hS hl
    rw [j_X6_countChange_25] at hf
    refine lv_aload_n hx hb dX6_countChange_25 rfl (lv_at hl 0 rfl) ?_
    refine lv_dup hx hb dX6_countChange_26 rfl ?_
    refine gx_6_3 C hin6 hP (List.mem_of_getElem? (i := 1) rfl) dX6_countChange_27 ?_
    refine lv_iconst (v := (1 : Int32)) hx hb dX6_countChange_30 (by decide) ?_
    refine lv_iadd hx hb dX6_countChange_31 ?_
    refine px_6_3 C hin6 hP hS (List.mem_of_getElem? (i := 1) rfl) dX6_countChange_32 (fun H locs hP hS => ?_)
    obtain ⟨S32, eS32⟩ : ∃ z, z = (sI S 19 ((S.1 19) + (1 : Int32))) := ⟨_, rfl⟩
    rw [← eS32] at hP
    have hf := nm_i hf eS32
    refine lv_aload_n hx hb dX6_countChange_35 rfl (lv_at hl 0 rfl) ?_
    refine lv_dup hx hb dX6_countChange_36 rfl ?_
    refine gx_6_5 C hin6 hP (List.mem_of_getElem? (i := 3) rfl) dX6_countChange_37 ?_
    refine lv_iconst (v := (1 : Int32)) hx hb dX6_countChange_40 (by decide) ?_
    refine lv_iload_n hx hb dX6_countChange_41 rfl (lv_at hl 1 rfl) ?_
    refine lv_ishl hx hb dX6_countChange_42 ?_
    refine lv_ior hx hb dX6_countChange_43 ?_
    refine px_6_5 C hin6 hP hS (List.mem_of_getElem? (i := 3) rfl) dX6_countChange_44 (fun H locs hP hS => ?_)
    obtain ⟨S44, eS44⟩ : ∃ z, z = (sI S32 21 ((S32.1 21) ||| ((1 : Int32) <<< (x1 &&& 31)))) := ⟨_, rfl⟩
    rw [← eS44] at hP
    have hf := nm_i hf eS44
    obtain rfl := Option.some.inj hf
    exact tRet_v C hr hlk hP hS dX6_countChange_47
  have hSS := hS
  rw [f_X6_countChange] at hf
  revert hP hS
  suffices hsuf : ∀ (H : Heap) (locs : List Loc), va_P D vwCl (wX cI cZ a S) H → va_S (xA a) s.heap H locs → W p l e rmX6_countChange s m args below meth c H locs 0 0 (MQ below (tQv D (wX cI cZ a) (xA a) o) args s 0 0 (xA a)) (F0 m 0 ls []) from fun hP hS => hsuf s.heap [] hP hS
  intro H locs hP hS
  refine lv_aload_n hx hb dX6_countChange_0 rfl (lv_at hl 0 rfl) ?_
  refine gx_6_3 C hin6 hP (List.mem_of_getElem? (i := 1) rfl) dX6_countChange_1 ?_
  refine lv_if_ne (tgt := 25) hx hb dX6_countChange_4 (by decide) (fun c1 => ?_) (fun c1 => ?_)
  · have hf := if_n hf c1
    exact J25 _ _ H locs ls hf hP hS (lv_sub hl [0, 1] rfl)
  · have hf := if_p hf c1
    refine lv_aload_n hx hb dX6_countChange_7 rfl (lv_at hl 0 rfl) ?_
    refine lv_bipush (v := (100 : Int32)) hx hb dX6_countChange_8 (by decide) ?_
    refine lv_iload_n hx hb dX6_countChange_10 rfl (lv_at hl 1 rfl) ?_
    refine lv_imul hx hb dX6_countChange_11 ?_
    refine lv_iload_n hx hb dX6_countChange_12 rfl (lv_at hl 2 rfl) ?_
    refine lv_iadd hx hb dX6_countChange_13 ?_
    refine lv_bipush (v := (50 : Int32)) hx hb dX6_countChange_14 (by decide) ?_
    refine lv_iadd hx hb dX6_countChange_16 ?_
    refine px_6_4 C hin6 hP hS (List.mem_of_getElem? (i := 2) rfl) dX6_countChange_17 (fun H locs hP hS => ?_)
    obtain ⟨S17, eS17⟩ : ∃ z, z = (sI S 20 ((((100 : Int32) * x1) + x2) + (50 : Int32))) := ⟨_, rfl⟩
    rw [← eS17] at hP
    have hf := nm_i hf eS17
    refine lv_aload_n hx hb dX6_countChange_20 rfl (lv_at hl 0 rfl) ?_
    refine lv_iconst (v := (0 : Int32)) hx hb dX6_countChange_21 (by decide) ?_
    refine px_6_5 C hin6 hP hS (List.mem_of_getElem? (i := 3) rfl) dX6_countChange_22 (fun H locs hP hS => ?_)
    obtain ⟨S22, eS22⟩ : ∃ z, z = (sI S17 21 (0 : Int32)) := ⟨_, rfl⟩
    rw [← eS22] at hP
    have hf := nm_i hf eS22
    exact J25 _ _ H locs ls hf hP hS (lv_sub hl [0, 1] rfl)
def rmX6_seekChanges : Room := { frames := 1, cells := 0, slots := 0, locals := 25 }
theorem hn_X6_seekChanges_6 : ∀ w ∈ wsX60, w ∈ wsX6_seekChanges := fun w h => List.mem_cons_of_mem _ (List.mem_append_right _ h)
theorem hd_X6_seekChanges : yX6_seekChanges.cls ≠ "java/lang/invoke/MethodHandle" ∧ yX6_seekChanges.cls ≠ "java/lang/invoke/VarHandle" ∧ (parseMethodDescriptor yX6_seekChanges.desc).map (fun d => d.parameters.length) = some 1 := by decide +kernel
set_option maxHeartbeats 4000000 in
set_option maxRecDepth 100000 in
theorem lp_X6_seekChanges_28 {p : Program} {l : Launch} {e : Env} {s : State} {m : MethodId} {args : Array Value} {below : List Frame} {meth : Method} {c : Code} {D : va_G} {cI cZ : ClassId} {a : Nat → Nat} {Q : State → Prop} {H0 : Heap} {x1 : Int32} {x2 : Int32} {o : St}
    (C : tC p c s m args cX6_seekChanges 4 RX6 wsX6_seekChanges D cI cZ (wX cI cZ a) (xA a))
    (K0 : ∀ (H : Heap) (locs : List Loc) (ls : Array Slot), va_P D vwCl (wX cI cZ a o) H → va_S (xA a) H0 H locs → lv_has ls 4 [(0, .ref (a 13)), (1, .int x1), (2, .int x2)] → W p l e rmX6_seekChanges s m args below meth c H locs 0 0 Q (F0 m 56 ls [])) :
    ∀ (n : Nat) (x3 : Int32) (S : St), l_X6_seekChanges_28 x1 x2 n x3 S = some o → ∀ (H : Heap) (locs : List Loc) (ls : Array Slot), va_P D vwCl (wX cI cZ a S) H → va_S (xA a) H0 H locs → lv_has ls 4 [(0, .ref (a 13)), (1, .int x1), (2, .int x2), (3, .int x3)] → W p l e rmX6_seekChanges s m args below meth c H locs 0 0 Q (F0 m 28 ls []) := by
  obtain ⟨⟨hx, hb, hml, hown, hts⟩, hK, hN, hA⟩ := id C
  have hin6 := hn_X6_seekChanges_6
  intro n
  induction n with
  | zero =>
    intro x3 S hf
    rw [l_X6_seekChanges_28] at hf
    cases hf
  | succ n ih =>
    intro x3 S hf H locs ls hP hS hl
    rw [l_X6_seekChanges_28] at hf
    refine lv_iload_n hx hb dX6_seekChanges_28 rfl (lv_at hl 3 rfl) ?_
    refine lv_bipush (v := (9 : Int32)) hx hb dX6_seekChanges_29 (by decide) ?_
    refine lv_icmp_gt (tgt := 56) hx hb dX6_seekChanges_31 (by decide) (fun c2 => ?_) (fun c2 => ?_)
    · have hf := if_p hf c2
      obtain rfl := Option.some.inj hf
      exact K0 H locs ls hP hS (lv_sub hl [0, 1, 2] rfl)
    · have hf := if_n hf c2
      refine lv_aload_n hx hb dX6_seekChanges_34 rfl (lv_at hl 0 rfl) ?_
      refine lv_iload_n hx hb dX6_seekChanges_35 rfl (lv_at hl 1 rfl) ?_
      refine lv_iload_n hx hb dX6_seekChanges_36 rfl (lv_at hl 2 rfl) ?_
      refine lv_iload_n hx hb dX6_seekChanges_37 rfl (lv_at hl 3 rfl) ?_
      obtain ⟨r38, hc38, hf⟩ := ob hf
      refine tCallVi (As := [.int x1, .int x2, .int x3]) (rest := []) (q0 := 13) (ci := 6) C hP hS rfl rfl (c_X6_allAreSo l C.2.2.2 hc38) (cwV 3 hts gX6_seekChanges_X6_allAreSo rfl rfl rfl ⟨rfl, hd_X6_allAreSo⟩ ⟨Nat.le_of_ble_eq_true rfl, Nat.le_of_ble_eq_true rfl⟩) rfl hl rfl (Nat.le_of_ble_eq_true rfl) dX6_seekChanges_38 ⟨Nat.le_refl 0, Nat.le_refl 0⟩ (fun H locs hP hS => ?_)
      refine lv_if_eq (tgt := 50) hx hb dX6_seekChanges_41 (by decide) (fun c3 => ?_) (fun c3 => ?_)
      · have hf := if_p hf c3
        refine lv_iinc (v := (x3 + 1)) (lv' := [(3, .int (x3 + 1)), (0, .ref (a 13)), (1, .int x1), (2, .int x2)]) hx hb dX6_seekChanges_50 hl (k := 3) rfl rfl (Nat.le_of_ble_eq_true rfl) rfl (fun ls hl => ?_)
        refine lv_goto (tgt := 28) hx hb dX6_seekChanges_53 (by decide) ?_
        exact ih _ _ hf H locs ls hP hS (lv_sub hl [1, 2, 3, 0] rfl)
      · have hf := if_n hf c3
        refine lv_aload_n hx hb dX6_seekChanges_44 rfl (lv_at hl 0 rfl) ?_
        refine lv_iload_n hx hb dX6_seekChanges_45 rfl (lv_at hl 2 rfl) ?_
        refine lv_iload_n hx hb dX6_seekChanges_46 rfl (lv_at hl 3 rfl) ?_
        obtain ⟨r47, hc47, hf⟩ := ob hf
        refine tCallVv (As := [.int x2, .int x3]) (rest := []) (q0 := 13) (ci := 6) C hP hS rfl rfl (c_X6_countChange l C.2.2.2 hc47) (cwV 2 hts gX6_seekChanges_X6_countChange rfl rfl rfl ⟨rfl, hd_X6_countChange⟩ ⟨Nat.le_of_ble_eq_true rfl, Nat.le_of_ble_eq_true rfl⟩) rfl hl rfl (Nat.le_of_ble_eq_true rfl) dX6_seekChanges_47 ⟨Nat.le_refl 0, Nat.le_refl 0⟩ (fun H locs hP hS => ?_)
        refine lv_iinc (v := (x3 + 1)) (lv' := [(3, .int (x3 + 1)), (0, .ref (a 13)), (1, .int x1), (2, .int x2)]) hx hb dX6_seekChanges_50 hl (k := 3) rfl rfl (Nat.le_of_ble_eq_true rfl) rfl (fun ls hl => ?_)
        refine lv_goto (tgt := 28) hx hb dX6_seekChanges_53 (by decide) ?_
        exact ih _ _ hf H locs ls hP hS (lv_sub hl [1, 2, 3, 0] rfl)
set_option maxHeartbeats 4000000 in
set_option maxRecDepth 100000 in
theorem lp_X6_seekChanges_19 {p : Program} {l : Launch} {e : Env} {s : State} {m : MethodId} {args : Array Value} {below : List Frame} {meth : Method} {c : Code} {D : va_G} {cI cZ : ClassId} {a : Nat → Nat} {Q : State → Prop} {H0 : Heap} {x1 : Int32} {o : St}
    (C : tC p c s m args cX6_seekChanges 4 RX6 wsX6_seekChanges D cI cZ (wX cI cZ a) (xA a))
    (K0 : ∀ (H : Heap) (locs : List Loc) (ls : Array Slot), va_P D vwCl (wX cI cZ a o) H → va_S (xA a) H0 H locs → lv_has ls 4 [] → W p l e rmX6_seekChanges s m args below meth c H locs 0 0 Q (F0 m 62 ls [])) :
    ∀ (n : Nat) (x2 : Int32) (S : St), l_X6_seekChanges_19 x1 n x2 S = some o → ∀ (H : Heap) (locs : List Loc) (ls : Array Slot), va_P D vwCl (wX cI cZ a S) H → va_S (xA a) H0 H locs → lv_has ls 4 [(0, .ref (a 13)), (1, .int x1), (2, .int x2)] → W p l e rmX6_seekChanges s m args below meth c H locs 0 0 Q (F0 m 19 ls []) := by
  obtain ⟨⟨hx, hb, hml, hown, hts⟩, hK, hN, hA⟩ := id C
  have hin6 := hn_X6_seekChanges_6
  intro n
  induction n with
  | zero =>
    intro x2 S hf
    rw [l_X6_seekChanges_19] at hf
    cases hf
  | succ n ih =>
    intro x2 S hf H locs ls hP hS hl
    rw [l_X6_seekChanges_19] at hf
    refine lv_iload_n hx hb dX6_seekChanges_19 rfl (lv_at hl 2 rfl) ?_
    refine lv_bipush (v := (8 : Int32)) hx hb dX6_seekChanges_20 (by decide) ?_
    refine lv_icmp_gt (tgt := 62) hx hb dX6_seekChanges_22 (by decide) (fun c1 => ?_) (fun c1 => ?_)
    · have hf := if_p hf c1
      obtain rfl := Option.some.inj hf
      exact K0 H locs ls hP hS (lv_sub hl [] rfl)
    · have hf := if_n hf c1
      refine lv_bipush (v := (-9 : Int32)) hx hb dX6_seekChanges_25 (by decide) ?_
      refine lv_istore_n (lv' := [(3, .int (-9 : Int32)), (0, .ref (a 13)), (1, .int x1), (2, .int x2)]) hx hb dX6_seekChanges_27 rfl hl (Nat.le_of_ble_eq_true rfl) rfl (fun ls hl => ?_)
      obtain ⟨o28, hc28, hf⟩ := ob hf
      refine lp_X6_seekChanges_28 C (fun H locs ls hP hS hl => ?_) fuel _ _ hc28 H locs ls hP hS (lv_sub hl [1, 2, 3, 0] rfl)
      refine lv_iinc (v := (x2 + 1)) (lv' := [(2, .int (x2 + 1)), (0, .ref (a 13)), (1, .int x1)]) hx hb dX6_seekChanges_56 hl (k := 2) rfl rfl (Nat.le_of_ble_eq_true rfl) rfl (fun ls hl => ?_)
      refine lv_goto (tgt := 19) hx hb dX6_seekChanges_59 (by decide) ?_
      exact ih _ _ hf H locs ls hP hS (lv_sub hl [1, 2, 0] rfl)
set_option maxHeartbeats 4000000 in
set_option maxRecDepth 100000 in
theorem c_X6_seekChanges (l : Launch) {D : va_G} {cI cZ : ClassId} {a : Nat → Nat} (hA : ∀ S : St, va_D (xA a) (wX cI cZ a S)) {x1 : Int32} {S : St} {o : St} (hf : f_X6_seekChanges x1 S = some o) : Met l yX6_seekChanges wsX6_seekChanges rmX6_seekChanges (tPc D cI cZ (wX cI cZ a) S ([.ref (a 13), .int x1] : List Value)) (tQv D (wX cI cZ a) (xA a) o) 0 0 (xA a) := by
  refine tEnter (cc := cX6_seekChanges) (maxL := 4) (ret := none) (own := RX6) hA rfl (by decide) rfl (Nat.le_of_ble_eq_true rfl) (fun p e s m args below meth c C hr hlk hP hS ls hl => ?_)
  obtain ⟨⟨hx, hb, hml, hown, hts⟩, hK, hN, -⟩ := id C
  have hl : lv_has ls 4 [(0, .ref (a 13)), (1, .int x1)] := hl
  have hin6 := hn_X6_seekChanges_6
  have hSS := hS
  rw [f_X6_seekChanges] at hf
  revert hP hS
  suffices hsuf : ∀ (H : Heap) (locs : List Loc), va_P D vwCl (wX cI cZ a S) H → va_S (xA a) s.heap H locs → W p l e rmX6_seekChanges s m args below meth c H locs 0 0 (MQ below (tQv D (wX cI cZ a) (xA a) o) args s 0 0 (xA a)) (F0 m 0 ls []) from fun hP hS => hsuf s.heap [] hP hS
  intro H locs hP hS
  refine lv_aload_n hx hb dX6_seekChanges_0 rfl (lv_at hl 0 rfl) ?_
  refine lv_iconst (v := (0 : Int32)) hx hb dX6_seekChanges_1 (by decide) ?_
  refine px_6_3 C hin6 hP hS (List.mem_of_getElem? (i := 1) rfl) dX6_seekChanges_2 (fun H locs hP hS => ?_)
  obtain ⟨S2, eS2⟩ : ∃ z, z = (sI S 19 (0 : Int32)) := ⟨_, rfl⟩
  rw [← eS2] at hP
  have hf := nm_i hf eS2
  refine lv_aload_n hx hb dX6_seekChanges_5 rfl (lv_at hl 0 rfl) ?_
  refine lv_bipush (v := (-9 : Int32)) hx hb dX6_seekChanges_6 (by decide) ?_
  refine px_6_4 C hin6 hP hS (List.mem_of_getElem? (i := 2) rfl) dX6_seekChanges_8 (fun H locs hP hS => ?_)
  obtain ⟨S8, eS8⟩ : ∃ z, z = (sI S2 20 (-9 : Int32)) := ⟨_, rfl⟩
  rw [← eS8] at hP
  have hf := nm_i hf eS8
  refine lv_aload_n hx hb dX6_seekChanges_11 rfl (lv_at hl 0 rfl) ?_
  refine lv_bipush (v := (-9 : Int32)) hx hb dX6_seekChanges_12 (by decide) ?_
  refine px_6_5 C hin6 hP hS (List.mem_of_getElem? (i := 3) rfl) dX6_seekChanges_14 (fun H locs hP hS => ?_)
  obtain ⟨S14, eS14⟩ : ∃ z, z = (sI S8 21 (-9 : Int32)) := ⟨_, rfl⟩
  rw [← eS14] at hP
  have hf := nm_i hf eS14
  refine lv_iconst (v := (0 : Int32)) hx hb dX6_seekChanges_17 (by decide) ?_
  refine lv_istore_n (lv' := [(2, .int (0 : Int32)), (0, .ref (a 13)), (1, .int x1)]) hx hb dX6_seekChanges_18 rfl hl (Nat.le_of_ble_eq_true rfl) rfl (fun ls hl => ?_)
  obtain ⟨o19, hc19, hf⟩ := ob hf
  refine lp_X6_seekChanges_19 C (fun H locs ls hP hS hl => ?_) fuel _ _ hc19 H locs ls hP hS (lv_sub hl [1, 2, 0] rfl)
  obtain rfl := Option.some.inj hf
  exact tRet_v C hr hlk hP hS dX6_seekChanges_62
def rmX9_changes : Room := { frames := 2, cells := 0, slots := 0, locals := 48 }
theorem hn_X9_changes_3 : ∀ w ∈ wsX30, w ∈ wsX9_changes := fun w h => List.mem_cons_of_mem _ (List.mem_append_left _ (List.mem_append_right _ h))
theorem hn_X9_changes_6 : ∀ w ∈ wsX60, w ∈ wsX9_changes := fun w h => List.mem_cons_of_mem _ (List.mem_append_right _ h)
theorem hn_X9_changes_9 : ∀ w ∈ wsX90, w ∈ wsX9_changes := fun w h => List.mem_cons_of_mem _ (List.mem_append_left _ (List.mem_append_left _ (List.mem_append_right _ h)))
theorem hd_X9_changes : yX9_changes.cls ≠ "java/lang/invoke/MethodHandle" ∧ yX9_changes.cls ≠ "java/lang/invoke/VarHandle" ∧ (parseMethodDescriptor yX9_changes.desc).map (fun d => d.parameters.length) = some 1 := by decide +kernel
set_option maxHeartbeats 4000000 in
set_option maxRecDepth 100000 in
theorem c_X9_changes (l : Launch) {D : va_G} {cI cZ : ClassId} {a : Nat → Nat} (hA : ∀ S : St, va_D (xA a) (wX cI cZ a S)) {x1 : Int32} {S : St} {o : Int32 × St} (hf : f_X9_changes x1 S = some o) : Met l yX9_changes wsX9_changes rmX9_changes (tPc D cI cZ (wX cI cZ a) S ([.ref (a 0), .int x1] : List Value)) (tQi D (wX cI cZ a) (xA a) o.2 o.1) 0 0 (xA a) := by
  refine tEnter (cc := cX9_changes) (maxL := 2) (ret := (some .int)) (own := RX9) hA rfl (by decide) rfl (Nat.le_of_ble_eq_true rfl) (fun p e s m args below meth c C hr hlk hP hS ls hl => ?_)
  obtain ⟨⟨hx, hb, hml, hown, hts⟩, hK, hN, -⟩ := id C
  have hl : lv_has ls 2 [(0, .ref (a 0)), (1, .int x1)] := hl
  have hin3 := hn_X9_changes_3
  have hin6 := hn_X9_changes_6
  have hin9 := hn_X9_changes_9
  have hSS := hS
  rw [f_X9_changes] at hf
  revert hP hS
  suffices hsuf : ∀ (H : Heap) (locs : List Loc), va_P D vwCl (wX cI cZ a S) H → va_S (xA a) s.heap H locs → W p l e rmX9_changes s m args below meth c H locs 0 0 (MQ below (tQi D (wX cI cZ a) (xA a) o.2 o.1) args s 0 0 (xA a)) (F0 m 0 ls []) from fun hP hS => hsuf s.heap [] hP hS
  intro H locs hP hS
  refine lv_iload_n hx hb dX9_changes_0 rfl (lv_at hl 1 rfl) ?_
  refine lv_if_lt (tgt := 9) hx hb dX9_changes_1 (by decide) (fun c1 => ?_) (fun c1 => ?_)
  · have hf := if_p hf c1
    refine lv_bipush (v := (-2 : Int32)) hx hb dX9_changes_9 (by decide) ?_
    obtain rfl := Option.some.inj hf
    exact tRet_i C hr hlk hP hS dX9_changes_11
  · have hf := if_n hf c1
    refine lv_iload_n hx hb dX9_changes_4 rfl (lv_at hl 1 rfl) ?_
    refine lv_iconst (v := (2 : Int32)) hx hb dX9_changes_5 (by decide) ?_
    refine lv_icmp_le (tgt := 12) hx hb dX9_changes_6 (by decide) (fun c2 => ?_) (fun c2 => ?_)
    · have hf := if_p hf c2
      refine lv_aload_n hx hb dX9_changes_12 rfl (lv_at hl 0 rfl) ?_
      refine gx_9_5 C hin9 hP (List.mem_of_getElem? (i := 1) rfl) dX9_changes_13 ?_
      refine lv_aload_n hx hb dX9_changes_16 rfl (lv_at hl 0 rfl) ?_
      refine gx_9_1 C hin9 hP (List.mem_of_getElem? (i := 2) rfl) dX9_changes_17 ?_
      refine gxn_3_1 C hin3 hP (i := 4) rfl dX9_changes_20 ?_
      obtain ⟨r23, hc23, hf⟩ := ob hf
      refine tCallVv (As := [.int (S.1 2)]) (rest := []) (q0 := 13) (ci := 6) C hP hS rfl rfl (c_X6_seekChanges l C.2.2.2 hc23) (cwV 1 hts gX9_changes_X6_seekChanges rfl rfl rfl ⟨rfl, hd_X6_seekChanges⟩ ⟨Nat.le_of_ble_eq_true rfl, Nat.le_of_ble_eq_true rfl⟩) rfl hl rfl (Nat.le_of_ble_eq_true rfl) dX9_changes_23 ⟨Nat.le_refl 0, Nat.le_refl 0⟩ (fun H locs hP hS => ?_)
      refine lv_iload_n hx hb dX9_changes_26 rfl (lv_at hl 1 rfl) ?_
      by_cases c3 : x1 = (0 : Int32)
      · have hf := if_p hf c3
        refine lv_lookup (off := 25) (tgt := 52) hx hb dX9_changes_27 (by decide) (by first | (rw [c3]; done) | (rw [c3]; rfl)) (by decide) ?_
        refine lv_aload_n hx hb dX9_changes_52 rfl (lv_at hl 0 rfl) ?_
        refine gx_9_5 C hin9 hP (List.mem_of_getElem? (i := 1) rfl) dX9_changes_53 ?_
        refine gxn_6_3 C hin6 hP (i := 24) rfl dX9_changes_56 ?_
        obtain rfl := Option.some.inj hf
        exact tRet_i C hr hlk hP hS dX9_changes_59
      have hf := if_n hf c3
      by_cases c4 : x1 = (1 : Int32)
      · have hf := if_p hf c4
        refine lv_lookup (off := 33) (tgt := 60) hx hb dX9_changes_27 (by decide) (by first | (rw [c4]; done) | (rw [c4]; rfl)) (by decide) ?_
        refine lv_aload_n hx hb dX9_changes_60 rfl (lv_at hl 0 rfl) ?_
        refine gx_9_5 C hin9 hP (List.mem_of_getElem? (i := 1) rfl) dX9_changes_61 ?_
        refine gxn_6_4 C hin6 hP (i := 25) rfl dX9_changes_64 ?_
        obtain rfl := Option.some.inj hf
        exact tRet_i C hr hlk hP hS dX9_changes_67
      have hf := if_n hf c4
      refine lv_lookup (off := 41) (tgt := 68) hx hb dX9_changes_27 (by decide) (by show Op.lookupswitch.offset [(0, 25), (1, 33)] 41 _ = _; rw [lv_osw c3 (by decide), lv_osw c4 (by decide)]; first | done | rfl) (by decide) ?_
      refine lv_aload_n hx hb dX9_changes_68 rfl (lv_at hl 0 rfl) ?_
      refine gx_9_5 C hin9 hP (List.mem_of_getElem? (i := 1) rfl) dX9_changes_69 ?_
      refine gxn_6_5 C hin6 hP (i := 26) rfl dX9_changes_72 ?_
      obtain rfl := Option.some.inj hf
      exact tRet_i C hr hlk hP hS dX9_changes_75
    · have hf := if_n hf c2
      refine lv_bipush (v := (-2 : Int32)) hx hb dX9_changes_9 (by decide) ?_
      obtain rfl := Option.some.inj hf
      exact tRet_i C hr hlk hP hS dX9_changes_11
def rmX1_planByTurns : Room := { frames := 0, cells := 0, slots := 0, locals := 0 }
theorem hn_X1_planByTurns_1 : ∀ w ∈ wsX10, w ∈ wsX1_planByTurns := fun w h => List.mem_cons_of_mem _ (List.mem_append_left _ (List.mem_append_right _ h))
theorem hn_X1_planByTurns_8 : ∀ w ∈ wsX80, w ∈ wsX1_planByTurns := fun w h => List.mem_cons_of_mem _ (List.mem_append_right _ h)
theorem hd_X1_planByTurns : yX1_planByTurns.cls ≠ "java/lang/invoke/MethodHandle" ∧ yX1_planByTurns.cls ≠ "java/lang/invoke/VarHandle" ∧ (parseMethodDescriptor yX1_planByTurns.desc).map (fun d => d.parameters.length) = some 1 := by decide +kernel
set_option maxHeartbeats 4000000 in
set_option maxRecDepth 100000 in
theorem lp_X1_planByTurns_19 {p : Program} {l : Launch} {e : Env} {s : State} {m : MethodId} {args : Array Value} {below : List Frame} {meth : Method} {c : Code} {D : va_G} {cI cZ : ClassId} {a : Nat → Nat} {Q : State → Prop} {H0 : Heap} {x1 : Int32} {S : St} {o : Int32}
    (C : tC p c s m args cX1_planByTurns 5 RX1 wsX1_planByTurns D cI cZ (wX cI cZ a) (xA a))
    (K0 : ∀ (H : Heap) (locs : List Loc) (ls : Array Slot), va_P D vwCl (wX cI cZ a S) H → va_S (xA a) H0 H locs → lv_has ls 5 [(2, .int o)] → W p l e rmX1_planByTurns s m args below meth c H locs 0 0 Q (F0 m 50 ls [])) :
    ∀ (n : Nat) (x2 : Int32) (x3 : Int32) (x4 : Int32), l_X1_planByTurns_19 x1 S n x2 x3 x4 = some o → ∀ (H : Heap) (locs : List Loc) (ls : Array Slot), va_P D vwCl (wX cI cZ a S) H → va_S (xA a) H0 H locs → lv_has ls 5 [(0, .ref (a 16)), (1, .int x1), (2, .int x2), (3, .int x3), (4, .int x4)] → W p l e rmX1_planByTurns s m args below meth c H locs 0 0 Q (F0 m 19 ls []) := by
  obtain ⟨⟨hx, hb, hml, hown, hts⟩, hK, hN, hA⟩ := id C
  have hin1 := hn_X1_planByTurns_1
  have hin8 := hn_X1_planByTurns_8
  intro n
  induction n with
  | zero =>
    intro x2 x3 x4 hf
    rw [l_X1_planByTurns_19] at hf
    cases hf
  | succ n ih =>
    intro x2 x3 x4 hf H locs ls hP hS hl
    rw [l_X1_planByTurns_19] at hf
    refine lv_iload hx hb dX1_planByTurns_19 (lv_at hl 4 rfl) ?_
    refine lv_aload_n hx hb dX1_planByTurns_21 rfl (lv_at hl 0 rfl) ?_
    refine gx_1_1 C hin1 hP (List.mem_of_getElem? (i := 1) rfl) dX1_planByTurns_22 ?_
    refine gxn_8_3 C hin8 hP (i := 13) rfl dX1_planByTurns_25 ?_
    refine lv_iload_n hx hb dX1_planByTurns_28 rfl (lv_at hl 1 rfl) ?_
    refine lv_iadd hx hb dX1_planByTurns_29 ?_
    refine lv_icmp_ge (tgt := 50) hx hb dX1_planByTurns_30 (by decide) (fun c1 => ?_) (fun c1 => ?_)
    · have hf := if_p hf c1
      obtain rfl := Option.some.inj hf
      exact K0 H locs ls hP hS (lv_sub hl [2] rfl)
    · have hf := if_n hf c1
      refine lv_iload_n hx hb dX1_planByTurns_33 rfl (lv_at hl 2 rfl) ?_
      refine lv_iload_n hx hb dX1_planByTurns_34 rfl (lv_at hl 3 rfl) ?_
      refine lv_iload hx hb dX1_planByTurns_35 (lv_at hl 4 rfl) ?_
      refine lv_ishl hx hb dX1_planByTurns_37 ?_
      refine lv_ior hx hb dX1_planByTurns_38 ?_
      refine lv_istore_n (lv' := [(2, .int (x2 ||| (x3 <<< (x4 &&& 31)))), (0, .ref (a 16)), (1, .int x1), (3, .int x3), (4, .int x4)]) hx hb dX1_planByTurns_39 rfl hl (Nat.le_of_ble_eq_true rfl) rfl (fun ls hl => ?_)
      refine lv_iconst (v := (1 : Int32)) hx hb dX1_planByTurns_40 (by decide) ?_
      refine lv_iload_n hx hb dX1_planByTurns_41 rfl (lv_at hl 3 rfl) ?_
      refine lv_isub hx hb dX1_planByTurns_42 ?_
      refine lv_istore_n (lv' := [(3, .int ((1 : Int32) - x3)), (2, .int (x2 ||| (x3 <<< (x4 &&& 31)))), (0, .ref (a 16)), (1, .int x1), (4, .int x4)]) hx hb dX1_planByTurns_43 rfl hl (Nat.le_of_ble_eq_true rfl) rfl (fun ls hl => ?_)
      refine lv_iinc (v := (x4 + 1)) (lv' := [(4, .int (x4 + 1)), (3, .int ((1 : Int32) - x3)), (2, .int (x2 ||| (x3 <<< (x4 &&& 31)))), (0, .ref (a 16)), (1, .int x1)]) hx hb dX1_planByTurns_44 hl (k := 4) rfl rfl (Nat.le_of_ble_eq_true rfl) rfl (fun ls hl => ?_)
      refine lv_goto (tgt := 19) hx hb dX1_planByTurns_47 (by decide) ?_
      exact ih _ _ _ hf H locs ls hP hS (lv_sub hl [3, 4, 2, 1, 0] rfl)
set_option maxHeartbeats 4000000 in
set_option maxRecDepth 100000 in
theorem c_X1_planByTurns (l : Launch) {D : va_G} {cI cZ : ClassId} {a : Nat → Nat} (hA : ∀ S : St, va_D (xA a) (wX cI cZ a S)) {x1 : Int32} {S : St} {o : Int32} (hf : f_X1_planByTurns x1 S = some o) : Met l yX1_planByTurns wsX1_planByTurns rmX1_planByTurns (tPc D cI cZ (wX cI cZ a) S ([.ref (a 16), .int x1] : List Value)) (tQi D (wX cI cZ a) (xA a) S o) 0 0 (xA a) := by
  refine tEnter (cc := cX1_planByTurns) (maxL := 5) (ret := (some .int)) (own := RX1) hA rfl (by decide) rfl (Nat.le_of_ble_eq_true rfl) (fun p e s m args below meth c C hr hlk hP hS ls hl => ?_)
  obtain ⟨⟨hx, hb, hml, hown, hts⟩, hK, hN, -⟩ := id C
  have hl : lv_has ls 5 [(0, .ref (a 16)), (1, .int x1)] := hl
  have hin1 := hn_X1_planByTurns_1
  have hin8 := hn_X1_planByTurns_8
  have hSS := hS
  rw [f_X1_planByTurns] at hf
  revert hP hS
  suffices hsuf : ∀ (H : Heap) (locs : List Loc), va_P D vwCl (wX cI cZ a S) H → va_S (xA a) s.heap H locs → W p l e rmX1_planByTurns s m args below meth c H locs 0 0 (MQ below (tQi D (wX cI cZ a) (xA a) S o) args s 0 0 (xA a)) (F0 m 0 ls []) from fun hP hS => hsuf s.heap [] hP hS
  intro H locs hP hS
  refine lv_iconst (v := (0 : Int32)) hx hb dX1_planByTurns_0 (by decide) ?_
  refine lv_istore_n (lv' := [(2, .int (0 : Int32)), (0, .ref (a 16)), (1, .int x1)]) hx hb dX1_planByTurns_1 rfl hl (Nat.le_of_ble_eq_true rfl) rfl (fun ls hl => ?_)
  refine lv_aload_n hx hb dX1_planByTurns_2 rfl (lv_at hl 1 rfl) ?_
  refine gx_1_1 C hin1 hP (List.mem_of_getElem? (i := 1) rfl) dX1_planByTurns_3 ?_
  refine gxn_8_5 C hin8 hP (i := 16) rfl dX1_planByTurns_6 ?_
  refine lv_istore_n (lv' := [(3, .int (S.1 12)), (2, .int (0 : Int32)), (0, .ref (a 16)), (1, .int x1)]) hx hb dX1_planByTurns_9 rfl hl (Nat.le_of_ble_eq_true rfl) rfl (fun ls hl => ?_)
  refine lv_aload_n hx hb dX1_planByTurns_10 rfl (lv_at hl 2 rfl) ?_
  refine gx_1_1 C hin1 hP (List.mem_of_getElem? (i := 1) rfl) dX1_planByTurns_11 ?_
  refine gxn_8_3 C hin8 hP (i := 13) rfl dX1_planByTurns_14 ?_
  refine lv_istore (lv' := [(4, .int (S.1 10)), (3, .int (S.1 12)), (2, .int (0 : Int32)), (0, .ref (a 16)), (1, .int x1)]) hx hb dX1_planByTurns_17 hl (Nat.le_of_ble_eq_true rfl) rfl (fun ls hl => ?_)
  obtain ⟨o19, hc19, hf⟩ := ob hf
  refine lp_X1_planByTurns_19 C (fun H locs ls hP hS hl => ?_) fuel _ _ _ hc19 H locs ls hP hS (lv_sub hl [3, 4, 2, 1, 0] rfl)
  refine lv_iload_n hx hb dX1_planByTurns_50 rfl (lv_at hl 0 rfl) ?_
  obtain rfl := Option.some.inj hf
  exact tRet_i C hr hlk hP hS dX1_planByTurns_51
def rmX4_offMended : Room := { frames := 0, cells := 0, slots := 0, locals := 0 }
theorem hn_X4_offMended_4 : ∀ w ∈ wsX40, w ∈ wsX4_offMended := fun w h => List.mem_cons_of_mem _ (List.mem_append_right _ h)
theorem hd_X4_offMended : yX4_offMended.cls ≠ "java/lang/invoke/MethodHandle" ∧ yX4_offMended.cls ≠ "java/lang/invoke/VarHandle" ∧ (parseMethodDescriptor yX4_offMended.desc).map (fun d => d.parameters.length) = some 2 := by decide +kernel
set_option maxHeartbeats 4000000 in
set_option maxRecDepth 100000 in
theorem c_X4_offMended (l : Launch) {D : va_G} {cI cZ : ClassId} {a : Nat → Nat} (hA : ∀ S : St, va_D (xA a) (wX cI cZ a S)) {x1 : Int32} {x2 : Int32} {S : St} {o : Int32} (hf : f_X4_offMended x1 x2 S = some o) : Met l yX4_offMended wsX4_offMended rmX4_offMended (tPc D cI cZ (wX cI cZ a) S ([.ref (a 19), .int x1, .int x2] : List Value)) (tQi D (wX cI cZ a) (xA a) S o) 0 0 (xA a) := by
  refine tEnter (cc := cX4_offMended) (maxL := 3) (ret := (some .int)) (own := RX4) hA rfl (by decide) rfl (Nat.le_of_ble_eq_true rfl) (fun p e s m args below meth c C hr hlk hP hS ls hl => ?_)
  obtain ⟨⟨hx, hb, hml, hown, hts⟩, hK, hN, -⟩ := id C
  have hl : lv_has ls 3 [(0, .ref (a 19)), (1, .int x1), (2, .int x2)] := hl
  have hin4 := hn_X4_offMended_4
  have hSS := hS
  rw [f_X4_offMended] at hf
  revert hP hS
  suffices hsuf : ∀ (H : Heap) (locs : List Loc), va_P D vwCl (wX cI cZ a S) H → va_S (xA a) s.heap H locs → W p l e rmX4_offMended s m args below meth c H locs 0 0 (MQ below (tQi D (wX cI cZ a) (xA a) S o) args s 0 0 (xA a)) (F0 m 0 ls []) from fun hP hS => hsuf s.heap [] hP hS
  intro H locs hP hS
  refine lv_aload_n hx hb dX4_offMended_0 rfl (lv_at hl 0 rfl) ?_
  refine gx_4_1 C hin4 hP (List.mem_of_getElem? (i := 1) rfl) dX4_offMended_1 ?_
  refine lv_aload_n hx hb dX4_offMended_4 rfl (lv_at hl 0 rfl) ?_
  refine gx_4_2 C hin4 hP (List.mem_of_getElem? (i := 2) rfl) dX4_offMended_5 ?_
  refine lv_iload_n hx hb dX4_offMended_8 rfl (lv_at hl 1 rfl) ?_
  refine lv_imul hx hb dX4_offMended_9 ?_
  refine lv_iadd hx hb dX4_offMended_10 ?_
  refine lv_aload_n hx hb dX4_offMended_11 rfl (lv_at hl 0 rfl) ?_
  refine gx_4_3 C hin4 hP (List.mem_of_getElem? (i := 3) rfl) dX4_offMended_12 ?_
  refine lv_iload_n hx hb dX4_offMended_15 rfl (lv_at hl 2 rfl) ?_
  refine lv_imul hx hb dX4_offMended_16 ?_
  refine lv_iadd hx hb dX4_offMended_17 ?_
  obtain rfl := Option.some.inj hf
  exact tRet_i C hr hlk hP hS dX4_offMended_18
def rmX4_lossOf : Room := { frames := 1, cells := 0, slots := 0, locals := 15 }
theorem hd_X4_lossOf : yX4_lossOf.cls ≠ "java/lang/invoke/MethodHandle" ∧ yX4_lossOf.cls ≠ "java/lang/invoke/VarHandle" ∧ (parseMethodDescriptor yX4_lossOf.desc).map (fun d => d.parameters.length) = some 2 := by decide +kernel
set_option maxHeartbeats 4000000 in
set_option maxRecDepth 100000 in
theorem c_X4_lossOf (l : Launch) {D : va_G} {cI cZ : ClassId} {a : Nat → Nat} (hA : ∀ S : St, va_D (xA a) (wX cI cZ a S)) {x0 : Int32} {x1 : Int32} {S : St} {o : Int32} (hf : f_X4_lossOf x0 x1 = some o) : Met l yX4_lossOf wsX4_lossOf rmX4_lossOf (tPc D cI cZ (wX cI cZ a) S ([.int x0, .int x1] : List Value)) (tQi D (wX cI cZ a) (xA a) S o) 0 0 (xA a) := by
  refine tEnter (cc := cX4_lossOf) (maxL := 2) (ret := (some .int)) (own := RX4) hA rfl (by decide) rfl (Nat.le_of_ble_eq_true rfl) (fun p e s m args below meth c C hr hlk hP hS ls hl => ?_)
  obtain ⟨⟨hx, hb, hml, hown, hts⟩, hK, hN, -⟩ := id C
  have hl : lv_has ls 2 [(0, .int x0), (1, .int x1)] := hl
  have hSS := hS
  rw [f_X4_lossOf] at hf
  revert hP hS
  suffices hsuf : ∀ (H : Heap) (locs : List Loc), va_P D vwCl (wX cI cZ a S) H → va_S (xA a) s.heap H locs → W p l e rmX4_lossOf s m args below meth c H locs 0 0 (MQ below (tQi D (wX cI cZ a) (xA a) S o) args s 0 0 (xA a)) (F0 m 0 ls []) from fun hP hS => hsuf s.heap [] hP hS
  intro H locs hP hS
  refine lv_iload_n hx hb dX4_lossOf_0 rfl (lv_at hl 1 rfl) ?_
  refine va_mabs hx hb (hml.trans hl.1.symm) hown (hts _ (List.mem_of_getElem? (i := 1) rfl)) (hts _ (List.mem_of_getElem? (i := 2) rfl)) (hts _ (List.mem_of_getElem? (i := 3) rfl)) (hts _ (List.mem_of_getElem? (i := 4) rfl)) (Nat.le_of_ble_eq_true rfl) (Nat.le_of_ble_eq_true rfl) (Nat.le_refl 0) (Nat.le_refl 0) dX4_lossOf_1 ?_
  refine lv_iconst (v := (2 : Int32)) hx hb dX4_lossOf_4 (by decide) ?_
  refine lv_iload_n hx hb dX4_lossOf_5 rfl (lv_at hl 0 rfl) ?_
  refine va_mabs hx hb (hml.trans hl.1.symm) hown (hts _ (List.mem_of_getElem? (i := 1) rfl)) (hts _ (List.mem_of_getElem? (i := 2) rfl)) (hts _ (List.mem_of_getElem? (i := 3) rfl)) (hts _ (List.mem_of_getElem? (i := 4) rfl)) (Nat.le_of_ble_eq_true rfl) (Nat.le_of_ble_eq_true rfl) (Nat.le_refl 0) (Nat.le_refl 0) dX4_lossOf_6 ?_
  refine lv_imul hx hb dX4_lossOf_9 ?_
  refine lv_iadd hx hb dX4_lossOf_10 ?_
  obtain rfl := Option.some.inj hf
  exact tRet_i C hr hlk hP hS dX4_lossOf_11
def rmX4_isAtRest : Room := { frames := 2, cells := 0, slots := 0, locals := 36 }
theorem hd_X4_isAtRest : yX4_isAtRest.cls ≠ "java/lang/invoke/MethodHandle" ∧ yX4_isAtRest.cls ≠ "java/lang/invoke/VarHandle" ∧ (parseMethodDescriptor yX4_isAtRest.desc).map (fun d => d.parameters.length) = some 2 := by decide +kernel
set_option maxHeartbeats 4000000 in
set_option maxRecDepth 100000 in
theorem lp_X4_isAtRest_3 {p : Program} {l : Launch} {e : Env} {s : State} {m : MethodId} {args : Array Value} {below : List Frame} {meth : Method} {c : Code} {D : va_G} {cI cZ : ClassId} {a : Nat → Nat} {Q : State → Prop} {H0 : Heap} {x1 : Int32} {x2 : Int32} {S : St} {o : Nat}
    (C : tC p c s m args cX4_isAtRest 4 RX4 wsX4_isAtRest D cI cZ (wX cI cZ a) (xA a))
    (K0 : o = 0 → ∀ (H : Heap) (locs : List Loc) (ls : Array Slot), va_P D vwCl (wX cI cZ a S) H → va_S (xA a) H0 H locs → lv_has ls 4 [] → W p l e rmX4_isAtRest s m args below meth c H locs 0 0 Q (F0 m 31 ls []))
    (K1 : o = 1 → ∀ (H : Heap) (locs : List Loc) (ls : Array Slot), va_P D vwCl (wX cI cZ a S) H → va_S (xA a) H0 H locs → lv_has ls 4 [] → W p l e rmX4_isAtRest s m args below meth c H locs 0 0 Q (F0 m 56 ls []))
    (K2 : o = 2 → ∀ (H : Heap) (locs : List Loc) (ls : Array Slot), va_P D vwCl (wX cI cZ a S) H → va_S (xA a) H0 H locs → lv_has ls 4 [] → W p l e rmX4_isAtRest s m args below meth c H locs 0 0 Q (F0 m 64 ls [])) :
    ∀ (n : Nat) (x3 : Int32), l_X4_isAtRest_3 x1 x2 S n x3 = some o → ∀ (H : Heap) (locs : List Loc) (ls : Array Slot), va_P D vwCl (wX cI cZ a S) H → va_S (xA a) H0 H locs → lv_has ls 4 [(0, .ref (a 19)), (1, .int x1), (2, .int x2), (3, .int x3)] → W p l e rmX4_isAtRest s m args below meth c H locs 0 0 Q (F0 m 3 ls []) := by
  obtain ⟨⟨hx, hb, hml, hown, hts⟩, hK, hN, hA⟩ := id C
  intro n
  induction n with
  | zero =>
    intro x3 hf
    rw [l_X4_isAtRest_3] at hf
    cases hf
  | succ n ih =>
    intro x3 hf H locs ls hP hS hl
    rw [l_X4_isAtRest_3] at hf
    refine lv_iload_n hx hb dX4_isAtRest_3 rfl (lv_at hl 3 rfl) ?_
    refine lv_iconst (v := (2 : Int32)) hx hb dX4_isAtRest_4 (by decide) ?_
    refine lv_icmp_gt (tgt := 64) hx hb dX4_isAtRest_5 (by decide) (fun c1 => ?_) (fun c1 => ?_)
    · have hf := if_p hf c1
      obtain rfl := Option.some.inj hf
      exact K2 rfl H locs ls hP hS (lv_sub hl [] rfl)
    · have hf := if_n hf c1
      refine lv_iload_n hx hb dX4_isAtRest_8 rfl (lv_at hl 3 rfl) ?_
      refine lv_aload_n hx hb dX4_isAtRest_9 rfl (lv_at hl 0 rfl) ?_
      refine lv_iload_n hx hb dX4_isAtRest_10 rfl (lv_at hl 3 rfl) ?_
      refine lv_iload_n hx hb dX4_isAtRest_11 rfl (lv_at hl 2 rfl) ?_
      obtain ⟨r12, hc12, hf⟩ := ob hf
      refine tCallVi (As := [.int x3, .int x2]) (rest := [.int x3]) (q0 := 19) (ci := 4) C hP hS rfl rfl (c_X4_offMended l C.2.2.2 hc12) (cwV 2 hts gX4_isAtRest_X4_offMended rfl rfl rfl ⟨rfl, hd_X4_offMended⟩ ⟨Nat.le_of_ble_eq_true rfl, Nat.le_of_ble_eq_true rfl⟩) rfl hl rfl (Nat.le_of_ble_eq_true rfl) dX4_isAtRest_12 ⟨Nat.le_refl 0, Nat.le_refl 0⟩ (fun H locs hP hS => ?_)
      obtain ⟨r15, hc15, hf⟩ := ob hf
      refine tCallSi (As := [.int x3, .int r12]) (rest := []) C hP hS (c_X4_lossOf l C.2.2.2 hc15) (va_cwS 2 hts gX4_isAtRest_X4_lossOf rfl rfl rfl hd_X4_lossOf ⟨Nat.le_of_ble_eq_true rfl, Nat.le_of_ble_eq_true rfl⟩) rfl hl rfl (Nat.le_of_ble_eq_true rfl) dX4_isAtRest_15 ⟨Nat.le_refl 0, Nat.le_refl 0⟩ (fun H locs hP hS => ?_)
      refine lv_iload_n hx hb dX4_isAtRest_18 rfl (lv_at hl 1 rfl) ?_
      refine lv_aload_n hx hb dX4_isAtRest_19 rfl (lv_at hl 0 rfl) ?_
      refine lv_iload_n hx hb dX4_isAtRest_20 rfl (lv_at hl 1 rfl) ?_
      refine lv_iload_n hx hb dX4_isAtRest_21 rfl (lv_at hl 2 rfl) ?_
      obtain ⟨r22, hc22, hf⟩ := ob hf
      refine tCallVi (As := [.int x1, .int x2]) (rest := [.int x1, .int r15]) (q0 := 19) (ci := 4) C hP hS rfl rfl (c_X4_offMended l C.2.2.2 hc22) (cwV 2 hts gX4_isAtRest_X4_offMended rfl rfl rfl ⟨rfl, hd_X4_offMended⟩ ⟨Nat.le_of_ble_eq_true rfl, Nat.le_of_ble_eq_true rfl⟩) rfl hl rfl (Nat.le_of_ble_eq_true rfl) dX4_isAtRest_22 ⟨Nat.le_refl 0, Nat.le_refl 0⟩ (fun H locs hP hS => ?_)
      obtain ⟨r25, hc25, hf⟩ := ob hf
      refine tCallSi (As := [.int x1, .int r22]) (rest := [.int r15]) C hP hS (c_X4_lossOf l C.2.2.2 hc25) (va_cwS 2 hts gX4_isAtRest_X4_lossOf rfl rfl rfl hd_X4_lossOf ⟨Nat.le_of_ble_eq_true rfl, Nat.le_of_ble_eq_true rfl⟩) rfl hl rfl (Nat.le_of_ble_eq_true rfl) dX4_isAtRest_25 ⟨Nat.le_refl 0, Nat.le_refl 0⟩ (fun H locs hP hS => ?_)
      refine lv_icmp_ge (tgt := 33) hx hb dX4_isAtRest_28 (by decide) (fun c2 => ?_) (fun c2 => ?_)
      · have hf := if_p hf c2
        refine lv_iload_n hx hb dX4_isAtRest_33 rfl (lv_at hl 3 rfl) ?_
        refine lv_aload_n hx hb dX4_isAtRest_34 rfl (lv_at hl 0 rfl) ?_
        refine lv_iload_n hx hb dX4_isAtRest_35 rfl (lv_at hl 1 rfl) ?_
        refine lv_iload_n hx hb dX4_isAtRest_36 rfl (lv_at hl 3 rfl) ?_
        obtain ⟨r37, hc37, hf⟩ := ob hf
        refine tCallVi (As := [.int x1, .int x3]) (rest := [.int x3]) (q0 := 19) (ci := 4) C hP hS rfl rfl (c_X4_offMended l C.2.2.2 hc37) (cwV 2 hts gX4_isAtRest_X4_offMended rfl rfl rfl ⟨rfl, hd_X4_offMended⟩ ⟨Nat.le_of_ble_eq_true rfl, Nat.le_of_ble_eq_true rfl⟩) rfl hl rfl (Nat.le_of_ble_eq_true rfl) dX4_isAtRest_37 ⟨Nat.le_refl 0, Nat.le_refl 0⟩ (fun H locs hP hS => ?_)
        obtain ⟨r40, hc40, hf⟩ := ob hf
        refine tCallSi (As := [.int x3, .int r37]) (rest := []) C hP hS (c_X4_lossOf l C.2.2.2 hc40) (va_cwS 2 hts gX4_isAtRest_X4_lossOf rfl rfl rfl hd_X4_lossOf ⟨Nat.le_of_ble_eq_true rfl, Nat.le_of_ble_eq_true rfl⟩) rfl hl rfl (Nat.le_of_ble_eq_true rfl) dX4_isAtRest_40 ⟨Nat.le_refl 0, Nat.le_refl 0⟩ (fun H locs hP hS => ?_)
        refine lv_iload_n hx hb dX4_isAtRest_43 rfl (lv_at hl 2 rfl) ?_
        refine lv_aload_n hx hb dX4_isAtRest_44 rfl (lv_at hl 0 rfl) ?_
        refine lv_iload_n hx hb dX4_isAtRest_45 rfl (lv_at hl 1 rfl) ?_
        refine lv_iload_n hx hb dX4_isAtRest_46 rfl (lv_at hl 2 rfl) ?_
        obtain ⟨r47, hc47, hf⟩ := ob hf
        refine tCallVi (As := [.int x1, .int x2]) (rest := [.int x2, .int r40]) (q0 := 19) (ci := 4) C hP hS rfl rfl (c_X4_offMended l C.2.2.2 hc47) (cwV 2 hts gX4_isAtRest_X4_offMended rfl rfl rfl ⟨rfl, hd_X4_offMended⟩ ⟨Nat.le_of_ble_eq_true rfl, Nat.le_of_ble_eq_true rfl⟩) rfl hl rfl (Nat.le_of_ble_eq_true rfl) dX4_isAtRest_47 ⟨Nat.le_refl 0, Nat.le_refl 0⟩ (fun H locs hP hS => ?_)
        obtain ⟨r50, hc50, hf⟩ := ob hf
        refine tCallSi (As := [.int x2, .int r47]) (rest := [.int r40]) C hP hS (c_X4_lossOf l C.2.2.2 hc50) (va_cwS 2 hts gX4_isAtRest_X4_lossOf rfl rfl rfl hd_X4_lossOf ⟨Nat.le_of_ble_eq_true rfl, Nat.le_of_ble_eq_true rfl⟩) rfl hl rfl (Nat.le_of_ble_eq_true rfl) dX4_isAtRest_50 ⟨Nat.le_refl 0, Nat.le_refl 0⟩ (fun H locs hP hS => ?_)
        refine lv_icmp_ge (tgt := 58) hx hb dX4_isAtRest_53 (by decide) (fun c3 => ?_) (fun c3 => ?_)
        · have hf := if_p hf c3
          refine lv_iinc (v := (x3 + 1)) (lv' := [(3, .int (x3 + 1)), (0, .ref (a 19)), (1, .int x1), (2, .int x2)]) hx hb dX4_isAtRest_58 hl (k := 3) rfl rfl (Nat.le_of_ble_eq_true rfl) rfl (fun ls hl => ?_)
          refine lv_goto (tgt := 3) hx hb dX4_isAtRest_61 (by decide) ?_
          exact ih _ hf H locs ls hP hS (lv_sub hl [1, 2, 3, 0] rfl)
        · have hf := if_n hf c3
          obtain rfl := Option.some.inj hf
          exact K1 rfl H locs ls hP hS (lv_sub hl [] rfl)
      · have hf := if_n hf c2
        obtain rfl := Option.some.inj hf
        exact K0 rfl H locs ls hP hS (lv_sub hl [] rfl)
set_option maxHeartbeats 4000000 in
set_option maxRecDepth 100000 in
theorem c_X4_isAtRest (l : Launch) {D : va_G} {cI cZ : ClassId} {a : Nat → Nat} (hA : ∀ S : St, va_D (xA a) (wX cI cZ a S)) {x1 : Int32} {x2 : Int32} {S : St} {o : Int32} (hf : f_X4_isAtRest x1 x2 S = some o) : Met l yX4_isAtRest wsX4_isAtRest rmX4_isAtRest (tPc D cI cZ (wX cI cZ a) S ([.ref (a 19), .int x1, .int x2] : List Value)) (tQi D (wX cI cZ a) (xA a) S o) 0 0 (xA a) := by
  refine tEnter (cc := cX4_isAtRest) (maxL := 4) (ret := (some .boolean)) (own := RX4) hA rfl (by decide) rfl (Nat.le_of_ble_eq_true rfl) (fun p e s m args below meth c C hr hlk hP hS ls hl => ?_)
  obtain ⟨⟨hx, hb, hml, hown, hts⟩, hK, hN, -⟩ := id C
  have hl : lv_has ls 4 [(0, .ref (a 19)), (1, .int x1), (2, .int x2)] := hl
  have hSS := hS
  rw [f_X4_isAtRest] at hf
  revert hP hS
  suffices hsuf : ∀ (H : Heap) (locs : List Loc), va_P D vwCl (wX cI cZ a S) H → va_S (xA a) s.heap H locs → W p l e rmX4_isAtRest s m args below meth c H locs 0 0 (MQ below (tQi D (wX cI cZ a) (xA a) S o) args s 0 0 (xA a)) (F0 m 0 ls []) from fun hP hS => hsuf s.heap [] hP hS
  intro H locs hP hS
  refine lv_bipush (v := (-2 : Int32)) hx hb dX4_isAtRest_0 (by decide) ?_
  refine lv_istore_n (lv' := [(3, .int (-2 : Int32)), (0, .ref (a 19)), (1, .int x1), (2, .int x2)]) hx hb dX4_isAtRest_2 rfl hl (Nat.le_of_ble_eq_true rfl) rfl (fun ls hl => ?_)
  obtain ⟨o3, hc3, hf⟩ := ob hf
  refine lp_X4_isAtRest_3 C (fun ho H locs ls hP hS hl => ?_) (fun ho H locs ls hP hS hl => ?_) (fun ho H locs ls hP hS hl => ?_) fuel _ hc3 H locs ls hP hS (lv_sub hl [1, 2, 3, 0] rfl)
  · have hf := if_p hf ho
    refine lv_iconst (v := (0 : Int32)) hx hb dX4_isAtRest_31 (by decide) ?_
    obtain rfl := Option.some.inj hf
    exact tRet_z (v := (0 : Int32)) C hr hlk hP hS rfl dX4_isAtRest_32
  · have hf := if_n hf (show ¬ o3 = 0 by rw [ho]; decide)
    have hf := if_p hf ho
    refine lv_iconst (v := (0 : Int32)) hx hb dX4_isAtRest_56 (by decide) ?_
    obtain rfl := Option.some.inj hf
    exact tRet_z (v := (0 : Int32)) C hr hlk hP hS rfl dX4_isAtRest_57
  · have hf := if_n hf (show ¬ o3 = 0 by rw [ho]; decide)
    have hf := if_n hf (show ¬ o3 = 1 by rw [ho]; decide)
    refine lv_iconst (v := (1 : Int32)) hx hb dX4_isAtRest_64 (by decide) ?_
    obtain rfl := Option.some.inj hf
    exact tRet_z (v := (1 : Int32)) C hr hlk hP hS rfl dX4_isAtRest_65
def rmX4_countRest : Room := { frames := 0, cells := 0, slots := 0, locals := 0 }
theorem hn_X4_countRest_4 : ∀ w ∈ wsX40, w ∈ wsX4_countRest := fun w h => List.mem_cons_of_mem _ (List.mem_append_right _ h)
theorem hd_X4_countRest : yX4_countRest.cls ≠ "java/lang/invoke/MethodHandle" ∧ yX4_countRest.cls ≠ "java/lang/invoke/VarHandle" ∧ (parseMethodDescriptor yX4_countRest.desc).map (fun d => d.parameters.length) = some 2 := by decide +kernel
set_option maxHeartbeats 4000000 in
set_option maxRecDepth 100000 in
theorem c_X4_countRest (l : Launch) {D : va_G} {cI cZ : ClassId} {a : Nat → Nat} (hA : ∀ S : St, va_D (xA a) (wX cI cZ a S)) {x1 : Int32} {x2 : Int32} {S : St} {o : St} (hf : f_X4_countRest x1 x2 S = some o) : Met l yX4_countRest wsX4_countRest rmX4_countRest (tPc D cI cZ (wX cI cZ a) S ([.ref (a 19), .int x1, .int x2] : List Value)) (tQv D (wX cI cZ a) (xA a) o) 0 0 (xA a) := by
  refine tEnter (cc := cX4_countRest) (maxL := 3) (ret := none) (own := RX4) hA rfl (by decide) rfl (Nat.le_of_ble_eq_true rfl) (fun p e s m args below meth c C hr hlk hP hS ls hl => ?_)
  obtain ⟨⟨hx, hb, hml, hown, hts⟩, hK, hN, -⟩ := id C
  have hl : lv_has ls 3 [(0, .ref (a 19)), (1, .int x1), (2, .int x2)] := hl
  have hin4 := hn_X4_countRest_4
  have J21 : ∀ (S : St) (H : Heap) (locs : List Loc) (ls : Array Slot), j_X4_countRest_21 S = some o → va_P D vwCl (wX cI cZ a S) H → va_S (xA a) s.heap H locs → lv_has ls 3 [(0, .ref (a 19))] → W p l e rmX4_countRest s m args below meth c H locs 0 0 (MQ below (tQv D (wX cI cZ a) (xA a) o) args s 0 0 (xA a)) (F0 m 21 ls []) := by
    intro S H locs ls hf hP hS hl
    rw [j_X4_countRest_21] at hf
    refine lv_aload_n hx hb dX4_countRest_21 rfl (lv_at hl 0 rfl) ?_
    refine lv_dup hx hb dX4_countRest_22 rfl ?_
    refine gx_4_4 C hin4 hP (List.mem_of_getElem? (i := 1) rfl) dX4_countRest_23 ?_
    refine lv_iconst (v := (1 : Int32)) hx hb dX4_countRest_26 (by decide) ?_
    refine lv_iadd hx hb dX4_countRest_27 ?_
    refine px_4_4 C hin4 hP hS (List.mem_of_getElem? (i := 1) rfl) dX4_countRest_28 (fun H locs hP hS => ?_)
    obtain ⟨S28, eS28⟩ : ∃ z, z = (sI S 25 ((S.1 25) + (1 : Int32))) := ⟨_, rfl⟩
    rw [← eS28] at hP
    have hf := nm_i hf eS28
    obtain rfl := Option.some.inj hf
    exact tRet_v C hr hlk hP hS dX4_countRest_31
  have hSS := hS
  rw [f_X4_countRest] at hf
  revert hP hS
  suffices hsuf : ∀ (H : Heap) (locs : List Loc), va_P D vwCl (wX cI cZ a S) H → va_S (xA a) s.heap H locs → W p l e rmX4_countRest s m args below meth c H locs 0 0 (MQ below (tQv D (wX cI cZ a) (xA a) o) args s 0 0 (xA a)) (F0 m 0 ls []) from fun hP hS => hsuf s.heap [] hP hS
  intro H locs hP hS
  refine lv_aload_n hx hb dX4_countRest_0 rfl (lv_at hl 0 rfl) ?_
  refine gx_4_4 C hin4 hP (List.mem_of_getElem? (i := 1) rfl) dX4_countRest_1 ?_
  refine lv_if_ne (tgt := 21) hx hb dX4_countRest_4 (by decide) (fun c1 => ?_) (fun c1 => ?_)
  · have hf := if_n hf c1
    exact J21 _ H locs ls hf hP hS (lv_sub hl [0] rfl)
  · have hf := if_p hf c1
    refine lv_aload_n hx hb dX4_countRest_7 rfl (lv_at hl 0 rfl) ?_
    refine lv_bipush (v := (10 : Int32)) hx hb dX4_countRest_8 (by decide) ?_
    refine lv_iload_n hx hb dX4_countRest_10 rfl (lv_at hl 1 rfl) ?_
    refine lv_iconst (v := (2 : Int32)) hx hb dX4_countRest_11 (by decide) ?_
    refine lv_iadd hx hb dX4_countRest_12 ?_
    refine lv_imul hx hb dX4_countRest_13 ?_
    refine lv_iload_n hx hb dX4_countRest_14 rfl (lv_at hl 2 rfl) ?_
    refine lv_iadd hx hb dX4_countRest_15 ?_
    refine lv_iconst (v := (2 : Int32)) hx hb dX4_countRest_16 (by decide) ?_
    refine lv_iadd hx hb dX4_countRest_17 ?_
    refine px_4_5 C hin4 hP hS (List.mem_of_getElem? (i := 2) rfl) dX4_countRest_18 (fun H locs hP hS => ?_)
    obtain ⟨S18, eS18⟩ : ∃ z, z = (sI S 26 ((((10 : Int32) * (x1 + (2 : Int32))) + x2) + (2 : Int32))) := ⟨_, rfl⟩
    rw [← eS18] at hP
    have hf := nm_i hf eS18
    exact J21 _ H locs ls hf hP hS (lv_sub hl [0] rfl)
def rmX4_seekRests : Room := { frames := 4, cells := 0, slots := 0, locals := 88 }
theorem hn_X4_seekRests_4 : ∀ w ∈ wsX40, w ∈ wsX4_seekRests := fun w h => List.mem_cons_of_mem _ (List.mem_append_left _ (List.mem_append_left _ (List.mem_append_left _ (List.mem_append_right _ h))))
theorem hd_X4_seekRests : yX4_seekRests.cls ≠ "java/lang/invoke/MethodHandle" ∧ yX4_seekRests.cls ≠ "java/lang/invoke/VarHandle" ∧ (parseMethodDescriptor yX4_seekRests.desc).map (fun d => d.parameters.length) = some 1 := by decide +kernel
set_option maxHeartbeats 4000000 in
set_option maxRecDepth 100000 in
theorem lp_X4_seekRests_63 {p : Program} {l : Launch} {e : Env} {s : State} {m : MethodId} {args : Array Value} {below : List Frame} {meth : Method} {c : Code} {D : va_G} {cI cZ : ClassId} {a : Nat → Nat} {Q : State → Prop} {H0 : Heap} {x3 : Int32} {o : St}
    (C : tC p c s m args cX4_seekRests 5 RX4 wsX4_seekRests D cI cZ (wX cI cZ a) (xA a))
    (K0 : ∀ (H : Heap) (locs : List Loc) (ls : Array Slot), va_P D vwCl (wX cI cZ a o) H → va_S (xA a) H0 H locs → lv_has ls 5 [(0, .ref (a 19)), (3, .int x3)] → W p l e rmX4_seekRests s m args below meth c H locs 0 0 Q (F0 m 92 ls [])) :
    ∀ (n : Nat) (x4 : Int32) (S : St), l_X4_seekRests_63 x3 n x4 S = some o → ∀ (H : Heap) (locs : List Loc) (ls : Array Slot), va_P D vwCl (wX cI cZ a S) H → va_S (xA a) H0 H locs → lv_has ls 5 [(0, .ref (a 19)), (3, .int x3), (4, .int x4)] → W p l e rmX4_seekRests s m args below meth c H locs 0 0 Q (F0 m 63 ls []) := by
  obtain ⟨⟨hx, hb, hml, hown, hts⟩, hK, hN, hA⟩ := id C
  have hin4 := hn_X4_seekRests_4
  intro n
  induction n with
  | zero =>
    intro x4 S hf
    rw [l_X4_seekRests_63] at hf
    cases hf
  | succ n ih =>
    intro x4 S hf H locs ls hP hS hl
    rw [l_X4_seekRests_63] at hf
    refine lv_iload hx hb dX4_seekRests_63 (lv_at hl 2 rfl) ?_
    refine lv_iconst (v := (2 : Int32)) hx hb dX4_seekRests_65 (by decide) ?_
    refine lv_icmp_gt (tgt := 92) hx hb dX4_seekRests_66 (by decide) (fun c2 => ?_) (fun c2 => ?_)
    · have hf := if_p hf c2
      obtain rfl := Option.some.inj hf
      exact K0 H locs ls hP hS (lv_sub hl [0, 1] rfl)
    · have hf := if_n hf c2
      refine lv_aload_n hx hb dX4_seekRests_69 rfl (lv_at hl 0 rfl) ?_
      refine lv_iload_n hx hb dX4_seekRests_70 rfl (lv_at hl 1 rfl) ?_
      refine lv_iload hx hb dX4_seekRests_71 (lv_at hl 2 rfl) ?_
      obtain ⟨r73, hc73, hf⟩ := ob hf
      refine tCallVi (As := [.int x3, .int x4]) (rest := []) (q0 := 19) (ci := 4) C hP hS rfl rfl (c_X4_isAtRest l C.2.2.2 hc73) (cwV 2 hts gX4_seekRests_X4_isAtRest rfl rfl rfl ⟨rfl, hd_X4_isAtRest⟩ ⟨Nat.le_of_ble_eq_true rfl, Nat.le_of_ble_eq_true rfl⟩) rfl hl rfl (Nat.le_of_ble_eq_true rfl) dX4_seekRests_73 ⟨Nat.le_refl 0, Nat.le_refl 0⟩ (fun H locs hP hS => ?_)
      refine lv_if_eq (tgt := 86) hx hb dX4_seekRests_76 (by decide) (fun c3 => ?_) (fun c3 => ?_)
      · have hf := if_p hf c3
        refine lv_iinc (v := (x4 + 1)) (lv' := [(4, .int (x4 + 1)), (0, .ref (a 19)), (3, .int x3)]) hx hb dX4_seekRests_86 hl (k := 2) rfl rfl (Nat.le_of_ble_eq_true rfl) rfl (fun ls hl => ?_)
        refine lv_goto (tgt := 63) hx hb dX4_seekRests_89 (by decide) ?_
        exact ih _ _ hf H locs ls hP hS (lv_sub hl [1, 2, 0] rfl)
      · have hf := if_n hf c3
        refine lv_aload_n hx hb dX4_seekRests_79 rfl (lv_at hl 0 rfl) ?_
        refine lv_iload_n hx hb dX4_seekRests_80 rfl (lv_at hl 1 rfl) ?_
        refine lv_iload hx hb dX4_seekRests_81 (lv_at hl 2 rfl) ?_
        obtain ⟨r83, hc83, hf⟩ := ob hf
        refine tCallVv (As := [.int x3, .int x4]) (rest := []) (q0 := 19) (ci := 4) C hP hS rfl rfl (c_X4_countRest l C.2.2.2 hc83) (cwV 2 hts gX4_seekRests_X4_countRest rfl rfl rfl ⟨rfl, hd_X4_countRest⟩ ⟨Nat.le_of_ble_eq_true rfl, Nat.le_of_ble_eq_true rfl⟩) rfl hl rfl (Nat.le_of_ble_eq_true rfl) dX4_seekRests_83 ⟨Nat.le_refl 0, Nat.le_refl 0⟩ (fun H locs hP hS => ?_)
        refine lv_iinc (v := (x4 + 1)) (lv' := [(4, .int (x4 + 1)), (0, .ref (a 19)), (3, .int x3)]) hx hb dX4_seekRests_86 hl (k := 2) rfl rfl (Nat.le_of_ble_eq_true rfl) rfl (fun ls hl => ?_)
        refine lv_goto (tgt := 63) hx hb dX4_seekRests_89 (by decide) ?_
        exact ih _ _ hf H locs ls hP hS (lv_sub hl [1, 2, 0] rfl)
set_option maxHeartbeats 4000000 in
set_option maxRecDepth 100000 in
theorem lp_X4_seekRests_54 {p : Program} {l : Launch} {e : Env} {s : State} {m : MethodId} {args : Array Value} {below : List Frame} {meth : Method} {c : Code} {D : va_G} {cI cZ : ClassId} {a : Nat → Nat} {Q : State → Prop} {H0 : Heap} {o : St}
    (C : tC p c s m args cX4_seekRests 5 RX4 wsX4_seekRests D cI cZ (wX cI cZ a) (xA a))
    (K0 : ∀ (H : Heap) (locs : List Loc) (ls : Array Slot), va_P D vwCl (wX cI cZ a o) H → va_S (xA a) H0 H locs → lv_has ls 5 [] → W p l e rmX4_seekRests s m args below meth c H locs 0 0 Q (F0 m 98 ls [])) :
    ∀ (n : Nat) (x3 : Int32) (S : St), l_X4_seekRests_54 n x3 S = some o → ∀ (H : Heap) (locs : List Loc) (ls : Array Slot), va_P D vwCl (wX cI cZ a S) H → va_S (xA a) H0 H locs → lv_has ls 5 [(0, .ref (a 19)), (3, .int x3)] → W p l e rmX4_seekRests s m args below meth c H locs 0 0 Q (F0 m 54 ls []) := by
  obtain ⟨⟨hx, hb, hml, hown, hts⟩, hK, hN, hA⟩ := id C
  have hin4 := hn_X4_seekRests_4
  intro n
  induction n with
  | zero =>
    intro x3 S hf
    rw [l_X4_seekRests_54] at hf
    cases hf
  | succ n ih =>
    intro x3 S hf H locs ls hP hS hl
    rw [l_X4_seekRests_54] at hf
    refine lv_iload_n hx hb dX4_seekRests_54 rfl (lv_at hl 1 rfl) ?_
    refine lv_iconst (v := (2 : Int32)) hx hb dX4_seekRests_55 (by decide) ?_
    refine lv_icmp_gt (tgt := 98) hx hb dX4_seekRests_56 (by decide) (fun c1 => ?_) (fun c1 => ?_)
    · have hf := if_p hf c1
      obtain rfl := Option.some.inj hf
      exact K0 H locs ls hP hS (lv_sub hl [] rfl)
    · have hf := if_n hf c1
      refine lv_bipush (v := (-2 : Int32)) hx hb dX4_seekRests_59 (by decide) ?_
      refine lv_istore (lv' := [(4, .int (-2 : Int32)), (0, .ref (a 19)), (3, .int x3)]) hx hb dX4_seekRests_61 hl (Nat.le_of_ble_eq_true rfl) rfl (fun ls hl => ?_)
      obtain ⟨o63, hc63, hf⟩ := ob hf
      refine lp_X4_seekRests_63 C (fun H locs ls hP hS hl => ?_) fuel _ _ hc63 H locs ls hP hS (lv_sub hl [1, 2, 0] rfl)
      refine lv_iinc (v := (x3 + 1)) (lv' := [(3, .int (x3 + 1)), (0, .ref (a 19))]) hx hb dX4_seekRests_92 hl (k := 1) rfl rfl (Nat.le_of_ble_eq_true rfl) rfl (fun ls hl => ?_)
      refine lv_goto (tgt := 54) hx hb dX4_seekRests_95 (by decide) ?_
      exact ih _ _ hf H locs ls hP hS (lv_sub hl [1, 0] rfl)
set_option maxHeartbeats 4000000 in
set_option maxRecDepth 100000 in
theorem c_X4_seekRests (l : Launch) {D : va_G} {cI cZ : ClassId} {a : Nat → Nat} (hA : ∀ S : St, va_D (xA a) (wX cI cZ a S)) {x1 : Int32} {S : St} {o : St} (hf : f_X4_seekRests x1 S = some o) : Met l yX4_seekRests wsX4_seekRests rmX4_seekRests (tPc D cI cZ (wX cI cZ a) S ([.ref (a 19), .int x1] : List Value)) (tQv D (wX cI cZ a) (xA a) o) 0 0 (xA a) := by
  refine tEnter (cc := cX4_seekRests) (maxL := 5) (ret := none) (own := RX4) hA rfl (by decide) rfl (Nat.le_of_ble_eq_true rfl) (fun p e s m args below meth c C hr hlk hP hS ls hl => ?_)
  obtain ⟨⟨hx, hb, hml, hown, hts⟩, hK, hN, -⟩ := id C
  have hl : lv_has ls 5 [(0, .ref (a 19)), (1, .int x1)] := hl
  have hin4 := hn_X4_seekRests_4
  have hSS := hS
  rw [f_X4_seekRests] at hf
  revert hP hS
  suffices hsuf : ∀ (H : Heap) (locs : List Loc), va_P D vwCl (wX cI cZ a S) H → va_S (xA a) s.heap H locs → W p l e rmX4_seekRests s m args below meth c H locs 0 0 (MQ below (tQv D (wX cI cZ a) (xA a) o) args s 0 0 (xA a)) (F0 m 0 ls []) from fun hP hS => hsuf s.heap [] hP hS
  intro H locs hP hS
  refine lv_aload_n hx hb dX4_seekRests_0 rfl (lv_at hl 0 rfl) ?_
  refine gx_4_0 C hin4 hP (List.mem_of_getElem? (i := 1) rfl) dX4_seekRests_1 ?_
  refine lv_iload_n hx hb dX4_seekRests_4 rfl (lv_at hl 1 rfl) ?_
  obtain ⟨r5, hc5, hf⟩ := ob hf
  refine tCallVi (As := [.int x1]) (rest := []) (q0 := 16) (ci := 1) C hP hS rfl rfl (c_X1_planByTurns l C.2.2.2 hc5) (cwV 1 hts gX4_seekRests_X1_planByTurns rfl rfl rfl ⟨rfl, hd_X1_planByTurns⟩ ⟨Nat.le_of_ble_eq_true rfl, Nat.le_of_ble_eq_true rfl⟩) rfl hl rfl (Nat.le_of_ble_eq_true rfl) dX4_seekRests_5 ⟨Nat.le_refl 0, Nat.le_refl 0⟩ (fun H locs hP hS => ?_)
  refine lv_istore_n (lv' := [(2, .int r5), (0, .ref (a 19)), (1, .int x1)]) hx hb dX4_seekRests_8 rfl hl (Nat.le_of_ble_eq_true rfl) rfl (fun ls hl => ?_)
  refine lv_aload_n hx hb dX4_seekRests_9 rfl (lv_at hl 1 rfl) ?_
  refine lv_aload_n hx hb dX4_seekRests_10 rfl (lv_at hl 1 rfl) ?_
  refine gx_4_0 C hin4 hP (List.mem_of_getElem? (i := 1) rfl) dX4_seekRests_11 ?_
  refine lv_iload_n hx hb dX4_seekRests_14 rfl (lv_at hl 2 rfl) ?_
  refine lv_iload_n hx hb dX4_seekRests_15 rfl (lv_at hl 0 rfl) ?_
  obtain ⟨r16, hc16, hf⟩ := ob hf
  refine tCallVi (As := [.int x1, .int r5]) (rest := [.ref (a 19)]) (q0 := 16) (ci := 1) C hP hS rfl rfl (c_X1_offBy l C.2.2.2 hc16) (cwV 2 hts gX4_seekRests_X1_offBy rfl rfl rfl ⟨rfl, hd_X1_offBy⟩ ⟨Nat.le_of_ble_eq_true rfl, Nat.le_of_ble_eq_true rfl⟩) rfl hl rfl (Nat.le_of_ble_eq_true rfl) dX4_seekRests_16 ⟨Nat.le_refl 0, Nat.le_refl 0⟩ (fun H locs hP hS => ?_)
  refine px_4_1 C hin4 hP hS (List.mem_of_getElem? (i := 2) rfl) dX4_seekRests_19 (fun H locs hP hS => ?_)
  obtain ⟨S19, eS19⟩ : ∃ z, z = (sI S 22 r16) := ⟨_, rfl⟩
  rw [← eS19] at hP
  have hf := nm_i hf eS19
  refine lv_aload_n hx hb dX4_seekRests_22 rfl (lv_at hl 1 rfl) ?_
  refine lv_iload_n hx hb dX4_seekRests_23 rfl (lv_at hl 0 rfl) ?_
  obtain ⟨r24, hc24, hf⟩ := ob hf
  refine tCallSi (As := [.int r5]) (rest := [.ref (a 19)]) C hP hS (c_J6_bitCount_0f7a4 l C.2.2.2 hc24) (va_cwS 1 hts gX4_seekRests_J6_bitCount_0f7a4 rfl rfl rfl hd_J6_bitCount_0f7a4 ⟨Nat.le_of_ble_eq_true rfl, Nat.le_of_ble_eq_true rfl⟩) rfl hl rfl (Nat.le_of_ble_eq_true rfl) dX4_seekRests_24 ⟨Nat.le_refl 0, Nat.le_refl 0⟩ (fun H locs hP hS => ?_)
  refine px_4_3 C hin4 hP hS (List.mem_of_getElem? (i := 3) rfl) dX4_seekRests_27 (fun H locs hP hS => ?_)
  obtain ⟨S27, eS27⟩ : ∃ z, z = (sI S19 24 r24) := ⟨_, rfl⟩
  rw [← eS27] at hP
  have hf := nm_i hf eS27
  refine lv_aload_n hx hb dX4_seekRests_30 rfl (lv_at hl 1 rfl) ?_
  refine lv_iload_n hx hb dX4_seekRests_31 rfl (lv_at hl 2 rfl) ?_
  refine lv_aload_n hx hb dX4_seekRests_32 rfl (lv_at hl 1 rfl) ?_
  refine gx_4_3 C hin4 hP (List.mem_of_getElem? (i := 3) rfl) dX4_seekRests_33 ?_
  refine lv_isub hx hb dX4_seekRests_36 ?_
  refine px_4_2 C hin4 hP hS (List.mem_of_getElem? (i := 4) rfl) dX4_seekRests_37 (fun H locs hP hS => ?_)
  obtain ⟨S37, eS37⟩ : ∃ z, z = (sI S27 23 (x1 - (S27.1 24))) := ⟨_, rfl⟩
  rw [← eS37] at hP
  have hf := nm_i hf eS37
  refine lv_aload_n hx hb dX4_seekRests_40 rfl (lv_at hl 1 rfl) ?_
  refine lv_iconst (v := (0 : Int32)) hx hb dX4_seekRests_41 (by decide) ?_
  refine px_4_4 C hin4 hP hS (List.mem_of_getElem? (i := 5) rfl) dX4_seekRests_42 (fun H locs hP hS => ?_)
  obtain ⟨S42, eS42⟩ : ∃ z, z = (sI S37 25 (0 : Int32)) := ⟨_, rfl⟩
  rw [← eS42] at hP
  have hf := nm_i hf eS42
  refine lv_aload_n hx hb dX4_seekRests_45 rfl (lv_at hl 1 rfl) ?_
  refine lv_bipush (v := (-9 : Int32)) hx hb dX4_seekRests_46 (by decide) ?_
  refine px_4_5 C hin4 hP hS (List.mem_of_getElem? (i := 6) rfl) dX4_seekRests_48 (fun H locs hP hS => ?_)
  obtain ⟨S48, eS48⟩ : ∃ z, z = (sI S42 26 (-9 : Int32)) := ⟨_, rfl⟩
  rw [← eS48] at hP
  have hf := nm_i hf eS48
  refine lv_bipush (v := (-2 : Int32)) hx hb dX4_seekRests_51 (by decide) ?_
  refine lv_istore_n (lv' := [(3, .int (-2 : Int32)), (2, .int r5), (0, .ref (a 19)), (1, .int x1)]) hx hb dX4_seekRests_53 rfl hl (Nat.le_of_ble_eq_true rfl) rfl (fun ls hl => ?_)
  obtain ⟨o54, hc54, hf⟩ := ob hf
  refine lp_X4_seekRests_54 C (fun H locs ls hP hS hl => ?_) fuel _ _ hc54 H locs ls hP hS (lv_sub hl [2, 0] rfl)
  obtain rfl := Option.some.inj hf
  exact tRet_v C hr hlk hP hS dX4_seekRests_98
