def rmX10_changes : Room := { frames := 1, cells := 0, slots := 0, locals := 25 }
theorem hn_X10_changes_10 : ∀ w ∈ wsX100, w ∈ wsX10_changes := fun w h => List.mem_cons_of_mem _ (List.mem_append_right _ h)
theorem hd_X10_changes : yX10_changes.cls ≠ "java/lang/invoke/MethodHandle" ∧ yX10_changes.cls ≠ "java/lang/invoke/VarHandle" ∧ (parseMethodDescriptor yX10_changes.desc).map (fun d => d.parameters.length) = some 1 := by decide +kernel
set_option maxHeartbeats 4000000 in
set_option maxRecDepth 100000 in
theorem c_X10_changes (l : Launch) {D : va_G} {cI cZ : ClassId} {a : Nat → Nat} (hA : ∀ S : St, va_D (mA a) (wM cI cZ a S)) {x1 : Int32} {S : St} {o : Int32 × St} (hf : f_X10_changes x1 S = some o) : Met l yX10_changes wsX10_changes rmX10_changes (tPc D cI cZ (wM cI cZ a) S ([.ref (a 0), .int x1] : List Value)) (tQi D (wM cI cZ a) (mA a) o.2 o.1) 0 0 (mA a) := by
  refine tEnter (cc := cX10_changes) (maxL := 2) (ret := (some .int)) (own := RX10) hA rfl (by decide) rfl (Nat.le_of_ble_eq_true rfl) (fun p e s m args below meth c C hr hlk hP hS ls hl => ?_)
  obtain ⟨⟨hx, hb, hml, hown, hts⟩, hK, hN, -⟩ := id C
  have hl : lv_has ls 2 [(0, .ref (a 0)), (1, .int x1)] := hl
  have hin10 := hn_X10_changes_10
  have hSS := hS
  rw [f_X10_changes] at hf
  revert hP hS
  suffices hsuf : ∀ (H : Heap) (locs : List Loc), va_P D vwCl (wM cI cZ a S) H → va_S (mA a) s.heap H locs → W p l e rmX10_changes s m args below meth c H locs 0 0 (MQ below (tQi D (wM cI cZ a) (mA a) o.2 o.1) args s 0 0 (mA a)) (F0 m 0 ls []) from fun hP hS => hsuf s.heap [] hP hS
  intro H locs hP hS
  refine lv_aload_n hx hb dX10_changes_0 rfl (lv_at hl 0 rfl) ?_
  refine lv_iconst (v := (0 : Int32)) hx hb dX10_changes_1 (by decide) ?_
  refine pm_10_0 C hin10 hP hS (List.mem_of_getElem? (i := 1) rfl) dX10_changes_2 (fun H locs hP hS => ?_)
  obtain ⟨S2, eS2⟩ : ∃ z, z = (sI S 0 (0 : Int32)) := ⟨_, rfl⟩
  rw [← eS2] at hP
  have hf := nm_i hf eS2
  refine lv_iload_n hx hb dX10_changes_5 rfl (lv_at hl 1 rfl) ?_
  refine lv_i2l hx hb dX10_changes_6 rfl ?_
  refine lv_lconst (v := (0 : Int64)) hx hb dX10_changes_7 (by decide) ?_
  refine lv_ldc2 (v := (2 : Int64)) hx hb hown (hts _ (List.mem_of_getElem? (i := 2) rfl)) dX10_changes_8 ?_
  obtain ⟨r11, hc11, hf⟩ := ob hf
  refine tCallSi (As := [.long x1.toInt64, .long (0 : Int64), .long (2 : Int64)]) (rest := []) C hP hS (c_X10_in l C.2.2.2 hc11) (va_cwS 3 hts gX10_changes_X10_in rfl rfl rfl hd_X10_in ⟨Nat.le_of_ble_eq_true rfl, Nat.le_of_ble_eq_true rfl⟩) rfl hl rfl (Nat.le_of_ble_eq_true rfl) dX10_changes_11 ⟨Nat.le_refl 0, Nat.le_refl 0⟩ (fun H locs hP hS => ?_)
  refine lv_if_ne (tgt := 20) hx hb dX10_changes_14 (by decide) (fun c1 => ?_) (fun c1 => ?_)
  · have hf := if_n hf c1
    refine lv_aload_n hx hb dX10_changes_20 rfl (lv_at hl 0 rfl) ?_
    obtain ⟨r21, hc21, hf⟩ := ob hf
    refine tCallVv (As := []) (rest := []) (q0 := 0) (ci := 10) C hP hS rfl rfl (c_X10_findChanges l C.2.2.2 hc21) (cwV 0 hts gX10_changes_X10_findChanges rfl rfl rfl ⟨rfl, hd_X10_findChanges⟩ ⟨Nat.le_of_ble_eq_true rfl, Nat.le_of_ble_eq_true rfl⟩) rfl hl rfl (Nat.le_of_ble_eq_true rfl) dX10_changes_21 ⟨Nat.le_refl 0, Nat.le_refl 0⟩ (fun H locs hP hS => ?_)
    refine lv_iload_n hx hb dX10_changes_24 rfl (lv_at hl 1 rfl) ?_
    refine lv_if_ne (tgt := 33) hx hb dX10_changes_25 (by decide) (fun c2 => ?_) (fun c2 => ?_)
    · have hf := if_n hf c2
      refine lv_aload_n hx hb dX10_changes_33 rfl (lv_at hl 0 rfl) ?_
      refine gm_10_26 C hin10 hP (List.mem_of_getElem? (i := 3) rfl) dX10_changes_34 ?_
      refine lv_if_ne (tgt := 45) hx hb dX10_changes_37 (by decide) (fun c3 => ?_) (fun c3 => ?_)
      · have hf := if_n hf c3
        refine lv_iload_n hx hb dX10_changes_45 rfl (lv_at hl 1 rfl) ?_
        refine lv_iconst (v := (1 : Int32)) hx hb dX10_changes_46 (by decide) ?_
        refine lv_icmp_ne (tgt := 57) hx hb dX10_changes_47 (by decide) (fun c4 => ?_) (fun c4 => ?_)
        · have hf := if_n hf c4
          refine lv_aload_n hx hb dX10_changes_57 rfl (lv_at hl 0 rfl) ?_
          refine gm_10_28 C hin10 hP (List.mem_of_getElem? (i := 5) rfl) dX10_changes_58 ?_
          obtain rfl := Option.some.inj hf
          exact tRet_i C hr hlk hP hS dX10_changes_61
        · have hf := if_p hf c4
          refine lv_aload_n hx hb dX10_changes_50 rfl (lv_at hl 0 rfl) ?_
          refine gm_10_27 C hin10 hP (List.mem_of_getElem? (i := 4) rfl) dX10_changes_51 ?_
          refine lv_goto (tgt := 61) hx hb dX10_changes_54 (by decide) ?_
          obtain rfl := Option.some.inj hf
          exact tRet_i C hr hlk hP hS dX10_changes_61
      · have hf := if_p hf c3
        refine lv_bipush (v := (-9 : Int32)) hx hb dX10_changes_40 (by decide) ?_
        refine lv_goto (tgt := 61) hx hb dX10_changes_42 (by decide) ?_
        obtain rfl := Option.some.inj hf
        exact tRet_i C hr hlk hP hS dX10_changes_61
    · have hf := if_p hf c2
      refine lv_aload_n hx hb dX10_changes_28 rfl (lv_at hl 0 rfl) ?_
      refine gm_10_26 C hin10 hP (List.mem_of_getElem? (i := 3) rfl) dX10_changes_29 ?_
      obtain rfl := Option.some.inj hf
      exact tRet_i C hr hlk hP hS dX10_changes_32
  · have hf := if_p hf c1
    refine lv_bipush (v := (-2 : Int32)) hx hb dX10_changes_17 (by decide) ?_
    obtain rfl := Option.some.inj hf
    exact tRet_i C hr hlk hP hS dX10_changes_19
def rmX10_lossOf : Room := { frames := 2, cells := 0, slots := 0, locals := 44 }
theorem hn_X10_lossOf_10 : ∀ w ∈ wsX100, w ∈ wsX10_lossOf := fun w h => List.mem_cons_of_mem _ (List.mem_append_right _ h)
theorem hd_X10_lossOf : yX10_lossOf.cls ≠ "java/lang/invoke/MethodHandle" ∧ yX10_lossOf.cls ≠ "java/lang/invoke/VarHandle" ∧ (parseMethodDescriptor yX10_lossOf.desc).map (fun d => d.parameters.length) = some 4 := by decide +kernel
set_option maxHeartbeats 4000000 in
set_option maxRecDepth 100000 in
theorem lp_X10_lossOf_6 {p : Program} {l : Launch} {e : Env} {s : State} {m : MethodId} {args : Array Value} {below : List Frame} {meth : Method} {c : Code} {D : va_G} {cI cZ : ClassId} {a : Nat → Nat} {Q : State → Prop} {H0 : Heap} {x1 : Int32} {x2 : Int32} {x3 : Int32} {x4 : Int32} {S : St} {o : Int32}
    (C : tC p c s m args cX10_lossOf 8 RX10 wsX10_lossOf D cI cZ (wM cI cZ a) (mA a))
    (K0 : ∀ (H : Heap) (locs : List Loc) (ls : Array Slot), va_P D vwCl (wM cI cZ a S) H → va_S (mA a) H0 H locs → lv_has ls 8 [(4, .int x4), (5, .int o)] → W p l e rmX10_lossOf s m args below meth c H locs 0 0 Q (F0 m 62 ls [])) :
    ∀ (n : Nat) (x5 : Int32) (x6 : Int32), l_X10_lossOf_6 x1 x2 x3 x4 S n x5 x6 = some o → ∀ (H : Heap) (locs : List Loc) (ls : Array Slot), va_P D vwCl (wM cI cZ a S) H → va_S (mA a) H0 H locs → lv_has ls 8 [(0, .ref (a 0)), (1, .int x1), (2, .int x2), (3, .int x3), (4, .int x4), (5, .int x5), (6, .int x6)] → W p l e rmX10_lossOf s m args below meth c H locs 0 0 Q (F0 m 6 ls []) := by
  obtain ⟨⟨hx, hb, hml, hown, hts⟩, hK, hN, hA⟩ := id C
  have hin10 := hn_X10_lossOf_10
  intro n
  induction n with
  | zero =>
    intro x5 x6 hf
    rw [l_X10_lossOf_6] at hf
    cases hf
  | succ n ih =>
    have J52 : ∀ (x6 : Int32) (t0 : Int32) (t1 : Int32) (t2 : Int32) (H : Heap) (locs : List Loc) (ls : Array Slot), j_X10_lossOf_52 (l_X10_lossOf_6 x1 x2 x3 x4 S n) x1 x2 x3 x4 x6 t0 t1 t2 S = some o → va_P D vwCl (wM cI cZ a S) H → va_S (mA a) H0 H locs → lv_has ls 8 [(0, .ref (a 0)), (1, .int x1), (2, .int x2), (3, .int x3), (4, .int x4), (6, .int x6)] → W p l e rmX10_lossOf s m args below meth c H locs 0 0 Q (F0 m 52 ls [.int t0, .int t1, .int t2]) := by
      intro x6 t0 t1 t2 H locs ls hf hP hS hl
      rw [j_X10_lossOf_52] at hf
      refine lv_iadd hx hb dX10_lossOf_52 ?_
      refine lv_iadd hx hb dX10_lossOf_53 ?_
      refine lv_istore (lv' := [(5, .int (t2 + (t1 + t0))), (0, .ref (a 0)), (1, .int x1), (2, .int x2), (3, .int x3), (4, .int x4), (6, .int x6)]) hx hb dX10_lossOf_54 hl (Nat.le_of_ble_eq_true rfl) rfl (fun ls hl => ?_)
      refine lv_iinc (v := (x6 + 1)) (lv' := [(6, .int (x6 + 1)), (5, .int (t2 + (t1 + t0))), (0, .ref (a 0)), (1, .int x1), (2, .int x2), (3, .int x3), (4, .int x4)]) hx hb dX10_lossOf_56 hl (k := 6) rfl rfl (Nat.le_of_ble_eq_true rfl) rfl (fun ls hl => ?_)
      refine lv_goto (tgt := 6) hx hb dX10_lossOf_59 (by decide) ?_
      exact ih _ _ hf H locs ls hP hS (lv_sub hl [2, 3, 4, 5, 6, 1, 0] rfl)
    intro x5 x6 hf H locs ls hP hS hl
    rw [l_X10_lossOf_6] at hf
    refine lv_iload hx hb dX10_lossOf_6 (lv_at hl 6 rfl) ?_
    refine lv_iload_n hx hb dX10_lossOf_8 rfl (lv_at hl 1 rfl) ?_
    refine lv_icmp_ge (tgt := 62) hx hb dX10_lossOf_9 (by decide) (fun c1 => ?_) (fun c1 => ?_)
    · have hf := if_p hf c1
      obtain rfl := Option.some.inj hf
      exact K0 H locs ls hP hS (lv_sub hl [4, 5] rfl)
    · have hf := if_n hf c1
      refine lv_aload_n hx hb dX10_lossOf_12 rfl (lv_at hl 0 rfl) ?_
      refine gm_10_14 C hin10 hP (List.mem_of_getElem? (i := 1) rfl) dX10_lossOf_13 ?_
      refine lv_iconst (v := (5 : Int32)) hx hb dX10_lossOf_16 (by decide) ?_
      refine ldm_7 (j := 5) C hP (by decide) (show ¬ ((5 : Int32) < 0 ∨ 16 ≤ (5 : Int32).toNatClampNeg) by decide) dX10_lossOf_17 ?_
      refine lv_iload hx hb dX10_lossOf_18 (lv_at hl 6 rfl) ?_
      refine lv_iadd hx hb dX10_lossOf_20 ?_
      refine lv_iconst (v := (2 : Int32)) hx hb dX10_lossOf_21 (by decide) ?_
      refine lv_irem hx hb dX10_lossOf_22 (by decide) ?_
      refine lv_topi (fun v23 e23 => ?_)
      have hf := nm_i hf e23
      refine lv_istore (lv' := [(7, .int v23), (0, .ref (a 0)), (1, .int x1), (2, .int x2), (3, .int x3), (4, .int x4), (5, .int x5), (6, .int x6)]) hx hb dX10_lossOf_23 hl (Nat.le_of_ble_eq_true rfl) rfl (fun ls hl => ?_)
      refine lv_iload hx hb dX10_lossOf_25 (lv_at hl 6 rfl) ?_
      refine lv_aload_n hx hb dX10_lossOf_27 rfl (lv_at hl 1 rfl) ?_
      refine lv_aload_n hx hb dX10_lossOf_28 rfl (lv_at hl 1 rfl) ?_
      refine gm_10_14 C hin10 hP (List.mem_of_getElem? (i := 1) rfl) dX10_lossOf_29 ?_
      refine lv_iconst (v := (0 : Int32)) hx hb dX10_lossOf_32 (by decide) ?_
      refine ldm_7 (j := 0) C hP (by decide) (show ¬ ((0 : Int32) < 0 ∨ 16 ≤ (0 : Int32).toNatClampNeg) by decide) dX10_lossOf_33 ?_
      refine lv_iload hx hb dX10_lossOf_34 (lv_at hl 7 rfl) ?_
      refine lv_iadd hx hb dX10_lossOf_36 ?_
      refine lv_iload hx hb dX10_lossOf_37 (lv_at hl 0 rfl) ?_
      obtain ⟨r39, hc39, hf⟩ := ob hf
      refine tCallVi (As := [.int ((S.2.1 7 0) + x6), .int v23]) (rest := [.int x5]) (q0 := 0) (ci := 10) C hP hS rfl rfl (c_X10_errorOf l C.2.2.2 hc39) (cwV 2 hts gX10_lossOf_X10_errorOf rfl rfl rfl ⟨rfl, hd_X10_errorOf⟩ ⟨Nat.le_of_ble_eq_true rfl, Nat.le_of_ble_eq_true rfl⟩) rfl hl rfl (Nat.le_of_ble_eq_true rfl) dX10_lossOf_39 ⟨Nat.le_refl 0, Nat.le_refl 0⟩ (fun H locs hP hS => ?_)
      refine lv_iload hx hb dX10_lossOf_42 (lv_at hl 0 rfl) ?_
      refine lv_if_ne (tgt := 51) hx hb dX10_lossOf_44 (by decide) (fun c4 => ?_) (fun c4 => ?_)
      · have hf := if_n hf c4
        refine lv_iload_n hx hb dX10_lossOf_51 rfl (lv_at hl 4 rfl) ?_
        exact J52 _ _ _ _ H locs ls hf hP hS (lv_sub hl [1, 2, 3, 4, 5, 7] rfl)
      · have hf := if_p hf c4
        refine lv_iload_n hx hb dX10_lossOf_47 rfl (lv_at hl 3 rfl) ?_
        refine lv_goto (tgt := 52) hx hb dX10_lossOf_48 (by decide) ?_
        exact J52 _ _ _ _ H locs ls hf hP hS (lv_sub hl [1, 2, 3, 4, 5, 7] rfl)
set_option maxHeartbeats 4000000 in
set_option maxRecDepth 100000 in
theorem c_X10_lossOf (l : Launch) {D : va_G} {cI cZ : ClassId} {a : Nat → Nat} (hA : ∀ S : St, va_D (mA a) (wM cI cZ a S)) {x1 : Int32} {x2 : Int32} {x3 : Int32} {x4 : Int32} {S : St} {o : Int32} (hf : f_X10_lossOf x1 x2 x3 x4 S = some o) : Met l yX10_lossOf wsX10_lossOf rmX10_lossOf (tPc D cI cZ (wM cI cZ a) S ([.ref (a 0), .int x1, .int x2, .int x3, .int x4] : List Value)) (tQi D (wM cI cZ a) (mA a) S o) 0 0 (mA a) := by
  refine tEnter (cc := cX10_lossOf) (maxL := 8) (ret := (some .int)) (own := RX10) hA rfl (by decide) rfl (Nat.le_of_ble_eq_true rfl) (fun p e s m args below meth c C hr hlk hP hS ls hl => ?_)
  obtain ⟨⟨hx, hb, hml, hown, hts⟩, hK, hN, -⟩ := id C
  have hl : lv_has ls 8 [(0, .ref (a 0)), (1, .int x1), (2, .int x2), (3, .int x3), (4, .int x4)] := hl
  have hin10 := hn_X10_lossOf_10
  have hSS := hS
  rw [f_X10_lossOf] at hf
  revert hP hS
  suffices hsuf : ∀ (H : Heap) (locs : List Loc), va_P D vwCl (wM cI cZ a S) H → va_S (mA a) s.heap H locs → W p l e rmX10_lossOf s m args below meth c H locs 0 0 (MQ below (tQi D (wM cI cZ a) (mA a) S o) args s 0 0 (mA a)) (F0 m 0 ls []) from fun hP hS => hsuf s.heap [] hP hS
  intro H locs hP hS
  refine lv_iconst (v := (0 : Int32)) hx hb dX10_lossOf_0 (by decide) ?_
  refine lv_istore (lv' := [(5, .int (0 : Int32)), (0, .ref (a 0)), (1, .int x1), (2, .int x2), (3, .int x3), (4, .int x4)]) hx hb dX10_lossOf_1 hl (Nat.le_of_ble_eq_true rfl) rfl (fun ls hl => ?_)
  refine lv_iconst (v := (0 : Int32)) hx hb dX10_lossOf_3 (by decide) ?_
  refine lv_istore (lv' := [(6, .int (0 : Int32)), (5, .int (0 : Int32)), (0, .ref (a 0)), (1, .int x1), (2, .int x2), (3, .int x3), (4, .int x4)]) hx hb dX10_lossOf_4 hl (Nat.le_of_ble_eq_true rfl) rfl (fun ls hl => ?_)
  obtain ⟨o6, hc6, hf⟩ := ob hf
  refine lp_X10_lossOf_6 C (fun H locs ls hP hS hl => ?_) fuel _ _ hc6 H locs ls hP hS (lv_sub hl [2, 3, 4, 5, 6, 1, 0] rfl)
  refine lv_iload hx hb dX10_lossOf_62 (lv_at hl 1 rfl) ?_
  obtain ⟨r64, hc64, hf⟩ := ob hf
  refine tCallSi (As := [.int o6]) (rest := []) C hP hS (c_X10_size l C.2.2.2 hc64) (va_cwS 1 hts gX10_lossOf_X10_size rfl rfl rfl hd_X10_size ⟨Nat.le_of_ble_eq_true rfl, Nat.le_of_ble_eq_true rfl⟩) rfl hl rfl (Nat.le_of_ble_eq_true rfl) dX10_lossOf_64 ⟨Nat.le_refl 0, Nat.le_refl 0⟩ (fun H locs hP hS => ?_)
  refine lv_iconst (v := (2 : Int32)) hx hb dX10_lossOf_67 (by decide) ?_
  refine lv_iload hx hb dX10_lossOf_68 (lv_at hl 0 rfl) ?_
  obtain ⟨r70, hc70, hf⟩ := ob hf
  refine tCallSi (As := [.int x4]) (rest := [.int (2 : Int32), .int r64]) C hP hS (c_X10_size l C.2.2.2 hc70) (va_cwS 1 hts gX10_lossOf_X10_size rfl rfl rfl hd_X10_size ⟨Nat.le_of_ble_eq_true rfl, Nat.le_of_ble_eq_true rfl⟩) rfl hl rfl (Nat.le_of_ble_eq_true rfl) dX10_lossOf_70 ⟨Nat.le_refl 0, Nat.le_refl 0⟩ (fun H locs hP hS => ?_)
  refine lv_imul hx hb dX10_lossOf_73 ?_
  refine lv_iadd hx hb dX10_lossOf_74 ?_
  obtain rfl := Option.some.inj hf
  exact tRet_i C hr hlk hP hS dX10_lossOf_75
def rmX10_findRests : Room := { frames := 3, cells := 0, slots := 0, locals := 71 }
theorem hn_X10_findRests_10 : ∀ w ∈ wsX100, w ∈ wsX10_findRests := fun w h => List.mem_cons_of_mem _ (List.mem_append_right _ h)
theorem hd_X10_findRests : yX10_findRests.cls ≠ "java/lang/invoke/MethodHandle" ∧ yX10_findRests.cls ≠ "java/lang/invoke/VarHandle" ∧ (parseMethodDescriptor yX10_findRests.desc).map (fun d => d.parameters.length) = some 1 := by decide +kernel
set_option maxHeartbeats 4000000 in
set_option maxRecDepth 100000 in
theorem lp_X10_findRests_54 {p : Program} {l : Launch} {e : Env} {s : State} {m : MethodId} {args : Array Value} {below : List Frame} {meth : Method} {c : Code} {D : va_G} {cI cZ : ClassId} {a : Nat → Nat} {Q : State → Prop} {H0 : Heap} {x1 : Int32} {x2 : Int32} {x3 : Int32} {x4 : Int32} {x5 : Int32} {S : St} {o : Int32}
    (C : tC p c s m args cX10_findRests 8 RX10 wsX10_findRests D cI cZ (wM cI cZ a) (mA a))
    (K0 : ∀ (H : Heap) (locs : List Loc) (ls : Array Slot), va_P D vwCl (wM cI cZ a S) H → va_S (mA a) H0 H locs → lv_has ls 8 [(0, .ref (a 0)), (1, .int x1), (2, .int x2), (3, .int x3), (6, .int o)] → W p l e rmX10_findRests s m args below meth c H locs 0 0 Q (F0 m 108 ls [])) :
    ∀ (n : Nat) (x6 : Int32) (x7 : Int32), l_X10_findRests_54 x1 x2 x3 x4 x5 S n x6 x7 = some o → ∀ (H : Heap) (locs : List Loc) (ls : Array Slot), va_P D vwCl (wM cI cZ a S) H → va_S (mA a) H0 H locs → lv_has ls 8 [(0, .ref (a 0)), (1, .int x1), (2, .int x2), (3, .int x3), (4, .int x4), (5, .int x5), (6, .int x6), (7, .int x7)] → W p l e rmX10_findRests s m args below meth c H locs 0 0 Q (F0 m 54 ls []) := by
  obtain ⟨⟨hx, hb, hml, hown, hts⟩, hK, hN, hA⟩ := id C
  have hin10 := hn_X10_findRests_10
  intro n
  induction n with
  | zero =>
    intro x6 x7 hf
    rw [l_X10_findRests_54] at hf
    cases hf
  | succ n ih =>
    intro x6 x7 hf H locs ls hP hS hl
    rw [l_X10_findRests_54] at hf
    refine lv_iload hx hb dX10_findRests_54 (lv_at hl 7 rfl) ?_
    refine lv_iconst (v := (2 : Int32)) hx hb dX10_findRests_56 (by decide) ?_
    refine lv_icmp_gt (tgt := 108) hx hb dX10_findRests_57 (by decide) (fun c3 => ?_) (fun c3 => ?_)
    · have hf := if_p hf c3
      obtain rfl := Option.some.inj hf
      exact K0 H locs ls hP hS (lv_sub hl [0, 1, 2, 3, 6] rfl)
    · have hf := if_n hf c3
      refine lv_iload hx hb dX10_findRests_60 (lv_at hl 6 rfl) ?_
      refine lv_if_eq (tgt := 99) hx hb dX10_findRests_62 (by decide) (fun c4 => ?_) (fun c4 => ?_)
      · have hf := if_p hf c4
        refine lv_iconst (v := (0 : Int32)) hx hb dX10_findRests_99 (by decide) ?_
        refine lv_istore (lv' := [(6, .int (0 : Int32)), (0, .ref (a 0)), (1, .int x1), (2, .int x2), (3, .int x3), (4, .int x4), (5, .int x5), (7, .int x7)]) hx hb dX10_findRests_100 hl (Nat.le_of_ble_eq_true rfl) rfl (fun ls hl => ?_)
        refine lv_iinc (v := (x7 + 1)) (lv' := [(7, .int (x7 + 1)), (6, .int (0 : Int32)), (0, .ref (a 0)), (1, .int x1), (2, .int x2), (3, .int x3), (4, .int x4), (5, .int x5)]) hx hb dX10_findRests_102 hl (k := 7) rfl rfl (Nat.le_of_ble_eq_true rfl) rfl (fun ls hl => ?_)
        refine lv_goto (tgt := 54) hx hb dX10_findRests_105 (by decide) ?_
        exact ih _ _ hf H locs ls hP hS (lv_sub hl [2, 3, 4, 5, 6, 7, 1, 0] rfl)
      · have hf := if_n hf c4
        refine lv_aload_n hx hb dX10_findRests_65 rfl (lv_at hl 0 rfl) ?_
        refine lv_iload_n hx hb dX10_findRests_66 rfl (lv_at hl 1 rfl) ?_
        refine lv_iload hx hb dX10_findRests_67 (lv_at hl 7 rfl) ?_
        refine lv_iload_n hx hb dX10_findRests_69 rfl (lv_at hl 3 rfl) ?_
        refine lv_iload hx hb dX10_findRests_70 (lv_at hl 7 rfl) ?_
        obtain ⟨r72, hc72, hf⟩ := ob hf
        refine tCallVi (As := [.int x1, .int x7, .int x3, .int x7]) (rest := []) (q0 := 0) (ci := 10) C hP hS rfl rfl (c_X10_lossOf l C.2.2.2 hc72) (cwV 4 hts gX10_findRests_X10_lossOf rfl rfl rfl ⟨rfl, hd_X10_lossOf⟩ ⟨Nat.le_of_ble_eq_true rfl, Nat.le_of_ble_eq_true rfl⟩) rfl hl rfl (Nat.le_of_ble_eq_true rfl) dX10_findRests_72 ⟨Nat.le_refl 0, Nat.le_refl 0⟩ (fun H locs hP hS => ?_)
        refine lv_iload hx hb dX10_findRests_75 (lv_at hl 4 rfl) ?_
        refine lv_icmp_lt (tgt := 99) hx hb dX10_findRests_77 (by decide) (fun c5 => ?_) (fun c5 => ?_)
        · have hf := if_p hf c5
          refine lv_iconst (v := (0 : Int32)) hx hb dX10_findRests_99 (by decide) ?_
          refine lv_istore (lv' := [(6, .int (0 : Int32)), (0, .ref (a 0)), (1, .int x1), (2, .int x2), (3, .int x3), (4, .int x4), (5, .int x5), (7, .int x7)]) hx hb dX10_findRests_100 hl (Nat.le_of_ble_eq_true rfl) rfl (fun ls hl => ?_)
          refine lv_iinc (v := (x7 + 1)) (lv' := [(7, .int (x7 + 1)), (6, .int (0 : Int32)), (0, .ref (a 0)), (1, .int x1), (2, .int x2), (3, .int x3), (4, .int x4), (5, .int x5)]) hx hb dX10_findRests_102 hl (k := 7) rfl rfl (Nat.le_of_ble_eq_true rfl) rfl (fun ls hl => ?_)
          refine lv_goto (tgt := 54) hx hb dX10_findRests_105 (by decide) ?_
          exact ih _ _ hf H locs ls hP hS (lv_sub hl [2, 3, 4, 5, 6, 7, 1, 0] rfl)
        · have hf := if_n hf c5
          refine lv_aload_n hx hb dX10_findRests_80 rfl (lv_at hl 0 rfl) ?_
          refine lv_iload_n hx hb dX10_findRests_81 rfl (lv_at hl 1 rfl) ?_
          refine lv_iload_n hx hb dX10_findRests_82 rfl (lv_at hl 2 rfl) ?_
          refine lv_iload hx hb dX10_findRests_83 (lv_at hl 7 rfl) ?_
          refine lv_iload hx hb dX10_findRests_85 (lv_at hl 7 rfl) ?_
          obtain ⟨r87, hc87, hf⟩ := ob hf
          refine tCallVi (As := [.int x1, .int x2, .int x7, .int x7]) (rest := []) (q0 := 0) (ci := 10) C hP hS rfl rfl (c_X10_lossOf l C.2.2.2 hc87) (cwV 4 hts gX10_findRests_X10_lossOf rfl rfl rfl ⟨rfl, hd_X10_lossOf⟩ ⟨Nat.le_of_ble_eq_true rfl, Nat.le_of_ble_eq_true rfl⟩) rfl hl rfl (Nat.le_of_ble_eq_true rfl) dX10_findRests_87 ⟨Nat.le_refl 0, Nat.le_refl 0⟩ (fun H locs hP hS => ?_)
          refine lv_iload hx hb dX10_findRests_90 (lv_at hl 5 rfl) ?_
          refine lv_icmp_lt (tgt := 99) hx hb dX10_findRests_92 (by decide) (fun c6 => ?_) (fun c6 => ?_)
          · have hf := if_p hf c6
            refine lv_iconst (v := (0 : Int32)) hx hb dX10_findRests_99 (by decide) ?_
            refine lv_istore (lv' := [(6, .int (0 : Int32)), (0, .ref (a 0)), (1, .int x1), (2, .int x2), (3, .int x3), (4, .int x4), (5, .int x5), (7, .int x7)]) hx hb dX10_findRests_100 hl (Nat.le_of_ble_eq_true rfl) rfl (fun ls hl => ?_)
            refine lv_iinc (v := (x7 + 1)) (lv' := [(7, .int (x7 + 1)), (6, .int (0 : Int32)), (0, .ref (a 0)), (1, .int x1), (2, .int x2), (3, .int x3), (4, .int x4), (5, .int x5)]) hx hb dX10_findRests_102 hl (k := 7) rfl rfl (Nat.le_of_ble_eq_true rfl) rfl (fun ls hl => ?_)
            refine lv_goto (tgt := 54) hx hb dX10_findRests_105 (by decide) ?_
            exact ih _ _ hf H locs ls hP hS (lv_sub hl [2, 3, 4, 5, 6, 7, 1, 0] rfl)
          · have hf := if_n hf c6
            refine lv_iconst (v := (1 : Int32)) hx hb dX10_findRests_95 (by decide) ?_
            refine lv_goto (tgt := 100) hx hb dX10_findRests_96 (by decide) ?_
            refine lv_istore (lv' := [(6, .int (1 : Int32)), (0, .ref (a 0)), (1, .int x1), (2, .int x2), (3, .int x3), (4, .int x4), (5, .int x5), (7, .int x7)]) hx hb dX10_findRests_100 hl (Nat.le_of_ble_eq_true rfl) rfl (fun ls hl => ?_)
            refine lv_iinc (v := (x7 + 1)) (lv' := [(7, .int (x7 + 1)), (6, .int (1 : Int32)), (0, .ref (a 0)), (1, .int x1), (2, .int x2), (3, .int x3), (4, .int x4), (5, .int x5)]) hx hb dX10_findRests_102 hl (k := 7) rfl rfl (Nat.le_of_ble_eq_true rfl) rfl (fun ls hl => ?_)
            refine lv_goto (tgt := 54) hx hb dX10_findRests_105 (by decide) ?_
            exact ih _ _ hf H locs ls hP hS (lv_sub hl [2, 3, 4, 5, 6, 7, 1, 0] rfl)
set_option maxHeartbeats 4000000 in
set_option maxRecDepth 100000 in
theorem lp_X10_findRests_22 {p : Program} {l : Launch} {e : Env} {s : State} {m : MethodId} {args : Array Value} {below : List Frame} {meth : Method} {c : Code} {D : va_G} {cI cZ : ClassId} {a : Nat → Nat} {Q : State → Prop} {H0 : Heap} {x1 : Int32} {x2 : Int32} {o : St}
    (C : tC p c s m args cX10_findRests 8 RX10 wsX10_findRests D cI cZ (wM cI cZ a) (mA a))
    (K0 : ∀ (H : Heap) (locs : List Loc) (ls : Array Slot), va_P D vwCl (wM cI cZ a o) H → va_S (mA a) H0 H locs → lv_has ls 8 [(0, .ref (a 0)), (1, .int x1), (2, .int x2)] → W p l e rmX10_findRests s m args below meth c H locs 0 0 Q (F0 m 166 ls [])) :
    ∀ (n : Nat) (x3 : Int32) (S : St), l_X10_findRests_22 x1 x2 n x3 S = some o → ∀ (H : Heap) (locs : List Loc) (ls : Array Slot), va_P D vwCl (wM cI cZ a S) H → va_S (mA a) H0 H locs → lv_has ls 8 [(0, .ref (a 0)), (1, .int x1), (2, .int x2), (3, .int x3)] → W p l e rmX10_findRests s m args below meth c H locs 0 0 Q (F0 m 22 ls []) := by
  obtain ⟨⟨hx, hb, hml, hown, hts⟩, hK, hN, hA⟩ := id C
  have hin10 := hn_X10_findRests_10
  intro n
  induction n with
  | zero =>
    intro x3 S hf
    rw [l_X10_findRests_22] at hf
    cases hf
  | succ n ih =>
    have J138 : ∀ (x3 : Int32) (x6 : Int32) (t0 : Int32) (S : St) (H : Heap) (locs : List Loc) (ls : Array Slot), j_X10_findRests_138 (l_X10_findRests_22 x1 x2 n) x1 x2 x3 x6 t0 S = some o → va_P D vwCl (wM cI cZ a S) H → va_S (mA a) H0 H locs → lv_has ls 8 [(0, .ref (a 0)), (1, .int x1), (2, .int x2), (3, .int x3), (6, .int x6)] → W p l e rmX10_findRests s m args below meth c H locs 0 0 Q (F0 m 138 ls [.int t0, .ref (a 0)]) := by
      intro x3 x6 t0 S H locs ls hf hP hS hl
      rw [j_X10_findRests_138] at hf
      refine pm_10_30 C hin10 hP hS (List.mem_of_getElem? (i := 2) rfl) dX10_findRests_138 (fun H locs hP hS => ?_)
      obtain ⟨S138, eS138⟩ : ∃ z, z = (sI S 15 t0) := ⟨_, rfl⟩
      rw [← eS138] at hP
      have hf := nm_i hf eS138
      refine lv_aload_n hx hb dX10_findRests_141 rfl (lv_at hl 0 rfl) ?_
      refine lv_dup hx hb dX10_findRests_142 rfl ?_
      refine gm_10_29 C hin10 hP (List.mem_of_getElem? (i := 1) rfl) dX10_findRests_143 ?_
      refine lv_iload hx hb dX10_findRests_146 (lv_at hl 4 rfl) ?_
      refine lv_if_eq (tgt := 155) hx hb dX10_findRests_148 (by decide) (fun c9 => ?_) (fun c9 => ?_)
      · have hf := if_p hf c9
        refine lv_iconst (v := (0 : Int32)) hx hb dX10_findRests_155 (by decide) ?_
        refine lv_iadd hx hb dX10_findRests_156 ?_
        refine pm_10_29 C hin10 hP hS (List.mem_of_getElem? (i := 1) rfl) dX10_findRests_157 (fun H locs hP hS => ?_)
        obtain ⟨S157, eS157⟩ : ∃ z, z = (sI S138 14 ((S138.1 14) + (0 : Int32))) := ⟨_, rfl⟩
        rw [← eS157] at hP
        have hf := nm_i hf eS157
        refine lv_iinc (v := (x3 + 1)) (lv' := [(3, .int (x3 + 1)), (0, .ref (a 0)), (1, .int x1), (2, .int x2), (6, .int x6)]) hx hb dX10_findRests_160 hl (k := 3) rfl rfl (Nat.le_of_ble_eq_true rfl) rfl (fun ls hl => ?_)
        refine lv_goto (tgt := 22) hx hb dX10_findRests_163 (by decide) ?_
        exact ih _ _ hf H locs ls hP hS (lv_sub hl [1, 2, 3, 0] rfl)
      · have hf := if_n hf c9
        refine lv_iconst (v := (1 : Int32)) hx hb dX10_findRests_151 (by decide) ?_
        refine lv_goto (tgt := 156) hx hb dX10_findRests_152 (by decide) ?_
        refine lv_iadd hx hb dX10_findRests_156 ?_
        refine pm_10_29 C hin10 hP hS (List.mem_of_getElem? (i := 1) rfl) dX10_findRests_157 (fun H locs hP hS => ?_)
        obtain ⟨S157, eS157⟩ : ∃ z, z = (sI S138 14 ((S138.1 14) + (1 : Int32))) := ⟨_, rfl⟩
        rw [← eS157] at hP
        have hf := nm_i hf eS157
        refine lv_iinc (v := (x3 + 1)) (lv' := [(3, .int (x3 + 1)), (0, .ref (a 0)), (1, .int x1), (2, .int x2), (6, .int x6)]) hx hb dX10_findRests_160 hl (k := 3) rfl rfl (Nat.le_of_ble_eq_true rfl) rfl (fun ls hl => ?_)
        refine lv_goto (tgt := 22) hx hb dX10_findRests_163 (by decide) ?_
        exact ih _ _ hf H locs ls hP hS (lv_sub hl [1, 2, 3, 0] rfl)
    have J134 : ∀ (x3 : Int32) (x6 : Int32) (S : St) (H : Heap) (locs : List Loc) (ls : Array Slot), j_X10_findRests_134 (l_X10_findRests_22 x1 x2 n) x1 x2 x3 x6 S = some o → va_P D vwCl (wM cI cZ a S) H → va_S (mA a) H0 H locs → lv_has ls 8 [(0, .ref (a 0)), (1, .int x1), (2, .int x2), (3, .int x3), (6, .int x6)] → W p l e rmX10_findRests s m args below meth c H locs 0 0 Q (F0 m 134 ls [.ref (a 0)]) := by
      intro x3 x6 S H locs ls hf hP hS hl
      rw [j_X10_findRests_134] at hf
      refine lv_aload_n hx hb dX10_findRests_134 rfl (lv_at hl 0 rfl) ?_
      refine gm_10_30 C hin10 hP (List.mem_of_getElem? (i := 2) rfl) dX10_findRests_135 ?_
      exact J138 _ _ _ _ H locs ls hf hP hS (lv_sub hl [0, 1, 2, 3, 4] rfl)
    intro x3 S hf H locs ls hP hS hl
    rw [l_X10_findRests_22] at hf
    refine lv_iload_n hx hb dX10_findRests_22 rfl (lv_at hl 3 rfl) ?_
    refine lv_iconst (v := (2 : Int32)) hx hb dX10_findRests_23 (by decide) ?_
    refine lv_icmp_gt (tgt := 166) hx hb dX10_findRests_24 (by decide) (fun c2 => ?_) (fun c2 => ?_)
    · have hf := if_p hf c2
      obtain rfl := Option.some.inj hf
      exact K0 H locs ls hP hS (lv_sub hl [0, 1, 2] rfl)
    · have hf := if_n hf c2
      refine lv_aload_n hx hb dX10_findRests_27 rfl (lv_at hl 0 rfl) ?_
      refine lv_iload_n hx hb dX10_findRests_28 rfl (lv_at hl 1 rfl) ?_
      refine lv_iload_n hx hb dX10_findRests_29 rfl (lv_at hl 2 rfl) ?_
      refine lv_iload_n hx hb dX10_findRests_30 rfl (lv_at hl 3 rfl) ?_
      refine lv_iload_n hx hb dX10_findRests_31 rfl (lv_at hl 2 rfl) ?_
      obtain ⟨r32, hc32, hf⟩ := ob hf
      refine tCallVi (As := [.int x1, .int x2, .int x3, .int x2]) (rest := []) (q0 := 0) (ci := 10) C hP hS rfl rfl (c_X10_lossOf l C.2.2.2 hc32) (cwV 4 hts gX10_findRests_X10_lossOf rfl rfl rfl ⟨rfl, hd_X10_lossOf⟩ ⟨Nat.le_of_ble_eq_true rfl, Nat.le_of_ble_eq_true rfl⟩) rfl hl rfl (Nat.le_of_ble_eq_true rfl) dX10_findRests_32 ⟨Nat.le_refl 0, Nat.le_refl 0⟩ (fun H locs hP hS => ?_)
      refine lv_istore (lv' := [(4, .int r32), (0, .ref (a 0)), (1, .int x1), (2, .int x2), (3, .int x3)]) hx hb dX10_findRests_35 hl (Nat.le_of_ble_eq_true rfl) rfl (fun ls hl => ?_)
      refine lv_aload_n hx hb dX10_findRests_37 rfl (lv_at hl 1 rfl) ?_
      refine lv_iload_n hx hb dX10_findRests_38 rfl (lv_at hl 2 rfl) ?_
      refine lv_iload_n hx hb dX10_findRests_39 rfl (lv_at hl 3 rfl) ?_
      refine lv_iload_n hx hb dX10_findRests_40 rfl (lv_at hl 4 rfl) ?_
      refine lv_iload_n hx hb dX10_findRests_41 rfl (lv_at hl 4 rfl) ?_
      obtain ⟨r42, hc42, hf⟩ := ob hf
      refine tCallVi (As := [.int x1, .int x2, .int x3, .int x3]) (rest := []) (q0 := 0) (ci := 10) C hP hS rfl rfl (c_X10_lossOf l C.2.2.2 hc42) (cwV 4 hts gX10_findRests_X10_lossOf rfl rfl rfl ⟨rfl, hd_X10_lossOf⟩ ⟨Nat.le_of_ble_eq_true rfl, Nat.le_of_ble_eq_true rfl⟩) rfl hl rfl (Nat.le_of_ble_eq_true rfl) dX10_findRests_42 ⟨Nat.le_refl 0, Nat.le_refl 0⟩ (fun H locs hP hS => ?_)
      refine lv_istore (lv' := [(5, .int r42), (4, .int r32), (0, .ref (a 0)), (1, .int x1), (2, .int x2), (3, .int x3)]) hx hb dX10_findRests_45 hl (Nat.le_of_ble_eq_true rfl) rfl (fun ls hl => ?_)
      refine lv_iconst (v := (1 : Int32)) hx hb dX10_findRests_47 (by decide) ?_
      refine lv_istore (lv' := [(6, .int (1 : Int32)), (5, .int r42), (4, .int r32), (0, .ref (a 0)), (1, .int x1), (2, .int x2), (3, .int x3)]) hx hb dX10_findRests_48 hl (Nat.le_of_ble_eq_true rfl) rfl (fun ls hl => ?_)
      refine lv_bipush (v := (-2 : Int32)) hx hb dX10_findRests_50 (by decide) ?_
      refine lv_istore (lv' := [(7, .int (-2 : Int32)), (6, .int (1 : Int32)), (5, .int r42), (4, .int r32), (0, .ref (a 0)), (1, .int x1), (2, .int x2), (3, .int x3)]) hx hb dX10_findRests_52 hl (Nat.le_of_ble_eq_true rfl) rfl (fun ls hl => ?_)
      obtain ⟨o54, hc54, hf⟩ := ob hf
      refine lp_X10_findRests_54 C (fun H locs ls hP hS hl => ?_) fuel _ _ hc54 H locs ls hP hS (lv_sub hl [4, 5, 6, 7, 3, 2, 1, 0] rfl)
      refine lv_aload_n hx hb dX10_findRests_108 rfl (lv_at hl 0 rfl) ?_
      refine lv_iload hx hb dX10_findRests_109 (lv_at hl 4 rfl) ?_
      refine lv_if_eq (tgt := 134) hx hb dX10_findRests_111 (by decide) (fun c7 => ?_) (fun c7 => ?_)
      · have hf := if_p hf c7
        exact J134 _ _ _ H locs ls hf hP hS (lv_sub hl [0, 1, 2, 3, 4] rfl)
      · have hf := if_n hf c7
        refine lv_aload_n hx hb dX10_findRests_114 rfl (lv_at hl 0 rfl) ?_
        refine gm_10_29 C hin10 hP (List.mem_of_getElem? (i := 1) rfl) dX10_findRests_115 ?_
        refine lv_if_ne (tgt := 134) hx hb dX10_findRests_118 (by decide) (fun c8 => ?_) (fun c8 => ?_)
        · have hf := if_n hf c8
          exact J134 _ _ _ H locs ls hf hP hS (lv_sub hl [0, 1, 2, 3, 4] rfl)
        · have hf := if_p hf c8
          refine lv_bipush (v := (10 : Int32)) hx hb dX10_findRests_121 (by decide) ?_
          refine lv_iload_n hx hb dX10_findRests_123 rfl (lv_at hl 2 rfl) ?_
          refine lv_iconst (v := (2 : Int32)) hx hb dX10_findRests_124 (by decide) ?_
          refine lv_iadd hx hb dX10_findRests_125 ?_
          refine lv_imul hx hb dX10_findRests_126 ?_
          refine lv_iload_n hx hb dX10_findRests_127 rfl (lv_at hl 3 rfl) ?_
          refine lv_iadd hx hb dX10_findRests_128 ?_
          refine lv_iconst (v := (2 : Int32)) hx hb dX10_findRests_129 (by decide) ?_
          refine lv_iadd hx hb dX10_findRests_130 ?_
          refine lv_goto (tgt := 138) hx hb dX10_findRests_131 (by decide) ?_
          exact J138 _ _ _ _ H locs ls hf hP hS (lv_sub hl [0, 1, 2, 3, 4] rfl)
set_option maxHeartbeats 4000000 in
set_option maxRecDepth 100000 in
theorem lp_X10_findRests_14 {p : Program} {l : Launch} {e : Env} {s : State} {m : MethodId} {args : Array Value} {below : List Frame} {meth : Method} {c : Code} {D : va_G} {cI cZ : ClassId} {a : Nat → Nat} {Q : State → Prop} {H0 : Heap} {x1 : Int32} {o : St}
    (C : tC p c s m args cX10_findRests 8 RX10 wsX10_findRests D cI cZ (wM cI cZ a) (mA a))
    (K0 : ∀ (H : Heap) (locs : List Loc) (ls : Array Slot), va_P D vwCl (wM cI cZ a o) H → va_S (mA a) H0 H locs → lv_has ls 8 [] → W p l e rmX10_findRests s m args below meth c H locs 0 0 Q (F0 m 172 ls [])) :
    ∀ (n : Nat) (x2 : Int32) (S : St), l_X10_findRests_14 x1 n x2 S = some o → ∀ (H : Heap) (locs : List Loc) (ls : Array Slot), va_P D vwCl (wM cI cZ a S) H → va_S (mA a) H0 H locs → lv_has ls 8 [(0, .ref (a 0)), (1, .int x1), (2, .int x2)] → W p l e rmX10_findRests s m args below meth c H locs 0 0 Q (F0 m 14 ls []) := by
  obtain ⟨⟨hx, hb, hml, hown, hts⟩, hK, hN, hA⟩ := id C
  have hin10 := hn_X10_findRests_10
  intro n
  induction n with
  | zero =>
    intro x2 S hf
    rw [l_X10_findRests_14] at hf
    cases hf
  | succ n ih =>
    intro x2 S hf H locs ls hP hS hl
    rw [l_X10_findRests_14] at hf
    refine lv_iload_n hx hb dX10_findRests_14 rfl (lv_at hl 2 rfl) ?_
    refine lv_iconst (v := (2 : Int32)) hx hb dX10_findRests_15 (by decide) ?_
    refine lv_icmp_gt (tgt := 172) hx hb dX10_findRests_16 (by decide) (fun c1 => ?_) (fun c1 => ?_)
    · have hf := if_p hf c1
      obtain rfl := Option.some.inj hf
      exact K0 H locs ls hP hS (lv_sub hl [] rfl)
    · have hf := if_n hf c1
      refine lv_bipush (v := (-2 : Int32)) hx hb dX10_findRests_19 (by decide) ?_
      refine lv_istore_n (lv' := [(3, .int (-2 : Int32)), (0, .ref (a 0)), (1, .int x1), (2, .int x2)]) hx hb dX10_findRests_21 rfl hl (Nat.le_of_ble_eq_true rfl) rfl (fun ls hl => ?_)
      obtain ⟨o22, hc22, hf⟩ := ob hf
      refine lp_X10_findRests_22 C (fun H locs ls hP hS hl => ?_) fuel _ _ hc22 H locs ls hP hS (lv_sub hl [1, 2, 3, 0] rfl)
      refine lv_iinc (v := (x2 + 1)) (lv' := [(2, .int (x2 + 1)), (0, .ref (a 0)), (1, .int x1)]) hx hb dX10_findRests_166 hl (k := 2) rfl rfl (Nat.le_of_ble_eq_true rfl) rfl (fun ls hl => ?_)
      refine lv_goto (tgt := 14) hx hb dX10_findRests_169 (by decide) ?_
      exact ih _ _ hf H locs ls hP hS (lv_sub hl [1, 2, 0] rfl)
set_option maxHeartbeats 4000000 in
set_option maxRecDepth 100000 in
theorem c_X10_findRests (l : Launch) {D : va_G} {cI cZ : ClassId} {a : Nat → Nat} (hA : ∀ S : St, va_D (mA a) (wM cI cZ a S)) {x1 : Int32} {S : St} {o : St} (hf : f_X10_findRests x1 S = some o) : Met l yX10_findRests wsX10_findRests rmX10_findRests (tPc D cI cZ (wM cI cZ a) S ([.ref (a 0), .int x1] : List Value)) (tQv D (wM cI cZ a) (mA a) o) 0 0 (mA a) := by
  refine tEnter (cc := cX10_findRests) (maxL := 8) (ret := none) (own := RX10) hA rfl (by decide) rfl (Nat.le_of_ble_eq_true rfl) (fun p e s m args below meth c C hr hlk hP hS ls hl => ?_)
  obtain ⟨⟨hx, hb, hml, hown, hts⟩, hK, hN, -⟩ := id C
  have hl : lv_has ls 8 [(0, .ref (a 0)), (1, .int x1)] := hl
  have hin10 := hn_X10_findRests_10
  have hSS := hS
  rw [f_X10_findRests] at hf
  revert hP hS
  suffices hsuf : ∀ (H : Heap) (locs : List Loc), va_P D vwCl (wM cI cZ a S) H → va_S (mA a) s.heap H locs → W p l e rmX10_findRests s m args below meth c H locs 0 0 (MQ below (tQv D (wM cI cZ a) (mA a) o) args s 0 0 (mA a)) (F0 m 0 ls []) from fun hP hS => hsuf s.heap [] hP hS
  intro H locs hP hS
  refine lv_aload_n hx hb dX10_findRests_0 rfl (lv_at hl 0 rfl) ?_
  refine lv_iconst (v := (0 : Int32)) hx hb dX10_findRests_1 (by decide) ?_
  refine pm_10_29 C hin10 hP hS (List.mem_of_getElem? (i := 1) rfl) dX10_findRests_2 (fun H locs hP hS => ?_)
  obtain ⟨S2, eS2⟩ : ∃ z, z = (sI S 14 (0 : Int32)) := ⟨_, rfl⟩
  rw [← eS2] at hP
  have hf := nm_i hf eS2
  refine lv_aload_n hx hb dX10_findRests_5 rfl (lv_at hl 0 rfl) ?_
  refine lv_bipush (v := (-9 : Int32)) hx hb dX10_findRests_6 (by decide) ?_
  refine pm_10_30 C hin10 hP hS (List.mem_of_getElem? (i := 2) rfl) dX10_findRests_8 (fun H locs hP hS => ?_)
  obtain ⟨S8, eS8⟩ : ∃ z, z = (sI S2 15 (-9 : Int32)) := ⟨_, rfl⟩
  rw [← eS8] at hP
  have hf := nm_i hf eS8
  refine lv_bipush (v := (-2 : Int32)) hx hb dX10_findRests_11 (by decide) ?_
  refine lv_istore_n (lv' := [(2, .int (-2 : Int32)), (0, .ref (a 0)), (1, .int x1)]) hx hb dX10_findRests_13 rfl hl (Nat.le_of_ble_eq_true rfl) rfl (fun ls hl => ?_)
  obtain ⟨o14, hc14, hf⟩ := ob hf
  refine lp_X10_findRests_14 C (fun H locs ls hP hS hl => ?_) fuel _ _ hc14 H locs ls hP hS (lv_sub hl [1, 2, 0] rfl)
  obtain rfl := Option.some.inj hf
  exact tRet_v C hr hlk hP hS dX10_findRests_172
def rmX10_rests : Room := { frames := 4, cells := 0, slots := 0, locals := 98 }
theorem hn_X10_rests_10 : ∀ w ∈ wsX100, w ∈ wsX10_rests := fun w h => List.mem_cons_of_mem _ (List.mem_append_right _ h)
theorem hd_X10_rests : yX10_rests.cls ≠ "java/lang/invoke/MethodHandle" ∧ yX10_rests.cls ≠ "java/lang/invoke/VarHandle" ∧ (parseMethodDescriptor yX10_rests.desc).map (fun d => d.parameters.length) = some 2 := by decide +kernel
set_option maxHeartbeats 4000000 in
set_option maxRecDepth 100000 in
theorem c_X10_rests (l : Launch) {D : va_G} {cI cZ : ClassId} {a : Nat → Nat} (hA : ∀ S : St, va_D (mA a) (wM cI cZ a S)) {x1 : Int32} {x2 : Int32} {S : St} {o : Int32 × St} (hf : f_X10_rests x1 x2 S = some o) : Met l yX10_rests wsX10_rests rmX10_rests (tPc D cI cZ (wM cI cZ a) S ([.ref (a 0), .int x1, .int x2] : List Value)) (tQi D (wM cI cZ a) (mA a) o.2 o.1) 0 0 (mA a) := by
  refine tEnter (cc := cX10_rests) (maxL := 3) (ret := (some .int)) (own := RX10) hA rfl (by decide) rfl (Nat.le_of_ble_eq_true rfl) (fun p e s m args below meth c C hr hlk hP hS ls hl => ?_)
  obtain ⟨⟨hx, hb, hml, hown, hts⟩, hK, hN, -⟩ := id C
  have hl : lv_has ls 3 [(0, .ref (a 0)), (1, .int x1), (2, .int x2)] := hl
  have hin10 := hn_X10_rests_10
  have hSS := hS
  rw [f_X10_rests] at hf
  revert hP hS
  suffices hsuf : ∀ (H : Heap) (locs : List Loc), va_P D vwCl (wM cI cZ a S) H → va_S (mA a) s.heap H locs → W p l e rmX10_rests s m args below meth c H locs 0 0 (MQ below (tQi D (wM cI cZ a) (mA a) o.2 o.1) args s 0 0 (mA a)) (F0 m 0 ls []) from fun hP hS => hsuf s.heap [] hP hS
  intro H locs hP hS
  refine lv_aload_n hx hb dX10_rests_0 rfl (lv_at hl 0 rfl) ?_
  refine lv_iconst (v := (0 : Int32)) hx hb dX10_rests_1 (by decide) ?_
  refine pm_10_0 C hin10 hP hS (List.mem_of_getElem? (i := 1) rfl) dX10_rests_2 (fun H locs hP hS => ?_)
  obtain ⟨S2, eS2⟩ : ∃ z, z = (sI S 0 (0 : Int32)) := ⟨_, rfl⟩
  rw [← eS2] at hP
  have hf := nm_i hf eS2
  refine lv_iload_n hx hb dX10_rests_5 rfl (lv_at hl 1 rfl) ?_
  refine lv_i2l hx hb dX10_rests_6 rfl ?_
  refine lv_lconst (v := (0 : Int64)) hx hb dX10_rests_7 (by decide) ?_
  refine lv_aload_n hx hb dX10_rests_8 rfl (lv_at hl 0 rfl) ?_
  obtain ⟨r9, hc9, hf⟩ := ob hf
  refine tCallVi (As := []) (rest := [.long (0 : Int64), .long x1.toInt64]) (q0 := 0) (ci := 10) C hP hS rfl rfl (c_X10_ahead l C.2.2.2 hc9) (cwV 0 hts gX10_rests_X10_ahead rfl rfl rfl ⟨rfl, hd_X10_ahead⟩ ⟨Nat.le_of_ble_eq_true rfl, Nat.le_of_ble_eq_true rfl⟩) rfl hl rfl (Nat.le_of_ble_eq_true rfl) dX10_rests_9 ⟨Nat.le_refl 0, Nat.le_refl 0⟩ (fun H locs hP hS => ?_)
  refine lv_i2l hx hb dX10_rests_12 rfl ?_
  obtain ⟨r13, hc13, hf⟩ := ob hf
  refine tCallSi (As := [.long x1.toInt64, .long (0 : Int64), .long r9.toInt64]) (rest := []) C hP hS (c_X10_in l C.2.2.2 hc13) (va_cwS 3 hts gX10_rests_X10_in rfl rfl rfl hd_X10_in ⟨Nat.le_of_ble_eq_true rfl, Nat.le_of_ble_eq_true rfl⟩) rfl hl rfl (Nat.le_of_ble_eq_true rfl) dX10_rests_13 ⟨Nat.le_refl 0, Nat.le_refl 0⟩ (fun H locs hP hS => ?_)
  refine lv_if_eq (tgt := 29) hx hb dX10_rests_16 (by decide) (fun c1 => ?_) (fun c1 => ?_)
  · have hf := if_p hf c1
    refine lv_bipush (v := (-2 : Int32)) hx hb dX10_rests_29 (by decide) ?_
    obtain rfl := Option.some.inj hf
    exact tRet_i C hr hlk hP hS dX10_rests_31
  · have hf := if_n hf c1
    refine lv_iload_n hx hb dX10_rests_19 rfl (lv_at hl 2 rfl) ?_
    refine lv_i2l hx hb dX10_rests_20 rfl ?_
    refine lv_lconst (v := (0 : Int64)) hx hb dX10_rests_21 (by decide) ?_
    refine lv_lconst (v := (1 : Int64)) hx hb dX10_rests_22 (by decide) ?_
    obtain ⟨r23, hc23, hf⟩ := ob hf
    refine tCallSi (As := [.long x2.toInt64, .long (0 : Int64), .long (1 : Int64)]) (rest := []) C hP hS (c_X10_in l C.2.2.2 hc23) (va_cwS 3 hts gX10_rests_X10_in rfl rfl rfl hd_X10_in ⟨Nat.le_of_ble_eq_true rfl, Nat.le_of_ble_eq_true rfl⟩) rfl hl rfl (Nat.le_of_ble_eq_true rfl) dX10_rests_23 ⟨Nat.le_refl 0, Nat.le_refl 0⟩ (fun H locs hP hS => ?_)
    refine lv_if_ne (tgt := 32) hx hb dX10_rests_26 (by decide) (fun c2 => ?_) (fun c2 => ?_)
    · have hf := if_n hf c2
      refine lv_aload_n hx hb dX10_rests_32 rfl (lv_at hl 0 rfl) ?_
      refine lv_iload_n hx hb dX10_rests_33 rfl (lv_at hl 1 rfl) ?_
      obtain ⟨r34, hc34, hf⟩ := ob hf
      refine tCallVv (As := [.int x1]) (rest := []) (q0 := 0) (ci := 10) C hP hS rfl rfl (c_X10_findRests l C.2.2.2 hc34) (cwV 1 hts gX10_rests_X10_findRests rfl rfl rfl ⟨rfl, hd_X10_findRests⟩ ⟨Nat.le_of_ble_eq_true rfl, Nat.le_of_ble_eq_true rfl⟩) rfl hl rfl (Nat.le_of_ble_eq_true rfl) dX10_rests_34 ⟨Nat.le_refl 0, Nat.le_refl 0⟩ (fun H locs hP hS => ?_)
      refine lv_iload_n hx hb dX10_rests_37 rfl (lv_at hl 2 rfl) ?_
      refine lv_if_ne (tgt := 48) hx hb dX10_rests_38 (by decide) (fun c3 => ?_) (fun c3 => ?_)
      · have hf := if_n hf c3
        refine lv_aload_n hx hb dX10_rests_48 rfl (lv_at hl 0 rfl) ?_
        refine gm_10_30 C hin10 hP (List.mem_of_getElem? (i := 3) rfl) dX10_rests_49 ?_
        obtain rfl := Option.some.inj hf
        exact tRet_i C hr hlk hP hS dX10_rests_52
      · have hf := if_p hf c3
        refine lv_aload_n hx hb dX10_rests_41 rfl (lv_at hl 0 rfl) ?_
        refine gm_10_29 C hin10 hP (List.mem_of_getElem? (i := 2) rfl) dX10_rests_42 ?_
        refine lv_goto (tgt := 52) hx hb dX10_rests_45 (by decide) ?_
        obtain rfl := Option.some.inj hf
        exact tRet_i C hr hlk hP hS dX10_rests_52
    · have hf := if_p hf c2
      refine lv_bipush (v := (-2 : Int32)) hx hb dX10_rests_29 (by decide) ?_
      obtain rfl := Option.some.inj hf
      exact tRet_i C hr hlk hP hS dX10_rests_31
def rmX10_chance : Room := { frames := 3, cells := 0, slots := 0, locals := 67 }
theorem hn_X10_chance_10 : ∀ w ∈ wsX100, w ∈ wsX10_chance := fun w h => List.mem_cons_of_mem _ (List.mem_append_right _ h)
theorem hd_X10_chance : yX10_chance.cls ≠ "java/lang/invoke/MethodHandle" ∧ yX10_chance.cls ≠ "java/lang/invoke/VarHandle" ∧ (parseMethodDescriptor yX10_chance.desc).map (fun d => d.parameters.length) = some 3 := by decide +kernel
set_option maxHeartbeats 4000000 in
set_option maxRecDepth 100000 in
theorem lp_X10_chance_63 {p : Program} {l : Launch} {e : Env} {s : State} {m : MethodId} {args : Array Value} {below : List Frame} {meth : Method} {c : Code} {D : va_G} {cI cZ : ClassId} {a : Nat → Nat} {Q : State → Prop} {H0 : Heap} {x1 : Int32} {x2 : Int32} {x3 : Int32} {x4 : Int32} {x5 : Int32} {x6 : Int32} {S : St} {o : Int32}
    (C : tC p c s m args cX10_chance 10 RX10 wsX10_chance D cI cZ (wM cI cZ a) (mA a))
    (K0 : ∀ (H : Heap) (locs : List Loc) (ls : Array Slot), va_P D vwCl (wM cI cZ a S) H → va_S (mA a) H0 H locs → lv_has ls 10 [(0, .ref (a 0)), (1, .int x1), (2, .int x2), (3, .int x3), (4, .int x4), (5, .int x5), (6, .int x6), (7, .int o)] → W p l e rmX10_chance s m args below meth c H locs 0 0 Q (F0 m 116 ls [])) :
    ∀ (n : Nat) (x7 : Int32) (x8 : Int32), l_X10_chance_63 x1 x2 x3 x4 x5 x6 S n x7 x8 = some o → ∀ (H : Heap) (locs : List Loc) (ls : Array Slot), va_P D vwCl (wM cI cZ a S) H → va_S (mA a) H0 H locs → lv_has ls 10 [(0, .ref (a 0)), (1, .int x1), (2, .int x2), (3, .int x3), (4, .int x4), (5, .int x5), (6, .int x6), (7, .int x7), (8, .int x8)] → W p l e rmX10_chance s m args below meth c H locs 0 0 Q (F0 m 63 ls []) := by
  obtain ⟨⟨hx, hb, hml, hown, hts⟩, hK, hN, hA⟩ := id C
  have hin10 := hn_X10_chance_10
  intro n
  induction n with
  | zero =>
    intro x7 x8 hf
    rw [l_X10_chance_63] at hf
    cases hf
  | succ n ih =>
    intro x7 x8 hf H locs ls hP hS hl
    rw [l_X10_chance_63] at hf
    refine lv_iload hx hb dX10_chance_63 (lv_at hl 8 rfl) ?_
    refine lv_iload_n hx hb dX10_chance_65 rfl (lv_at hl 1 rfl) ?_
    refine lv_icmp_ge (tgt := 116) hx hb dX10_chance_66 (by decide) (fun c5 => ?_) (fun c5 => ?_)
    · have hf := if_p hf c5
      obtain rfl := Option.some.inj hf
      exact K0 H locs ls hP hS (lv_sub hl [0, 1, 2, 3, 4, 5, 6, 7] rfl)
    · have hf := if_n hf c5
      refine lv_aload_n hx hb dX10_chance_69 rfl (lv_at hl 0 rfl) ?_
      refine gm_10_10 C hin10 hP (List.mem_of_getElem? (i := 3) rfl) dX10_chance_70 ?_
      refine lv_aload_n hx hb dX10_chance_73 rfl (lv_at hl 0 rfl) ?_
      refine gm_10_14 C hin10 hP (List.mem_of_getElem? (i := 4) rfl) dX10_chance_74 ?_
      refine lv_iconst (v := (0 : Int32)) hx hb dX10_chance_77 (by decide) ?_
      refine ldm_7 (j := 0) C hP (by decide) (show ¬ ((0 : Int32) < 0 ∨ 16 ≤ (0 : Int32).toNatClampNeg) by decide) dX10_chance_78 ?_
      refine lv_iload hx hb dX10_chance_79 (lv_at hl 8 rfl) ?_
      refine lv_iadd hx hb dX10_chance_81 ?_
      obtain ⟨hi7, hf⟩ := ob_in hf
      refine ldm_4 C hP rfl hi7 dX10_chance_82 ?_
      refine lv_topi (fun v83 e83 => ?_)
      have hf := nm_i hf e83
      refine lv_istore (lv' := [(9, .int v83), (0, .ref (a 0)), (1, .int x1), (2, .int x2), (3, .int x3), (4, .int x4), (5, .int x5), (6, .int x6), (7, .int x7), (8, .int x8)]) hx hb dX10_chance_83 hl (Nat.le_of_ble_eq_true rfl) rfl (fun ls hl => ?_)
      refine lv_iload hx hb dX10_chance_85 (lv_at hl 8 rfl) ?_
      refine lv_iload hx hb dX10_chance_87 (lv_at hl 7 rfl) ?_
      refine lv_iload hx hb dX10_chance_89 (lv_at hl 9 rfl) ?_
      obtain ⟨r91, hc91, hf⟩ := ob hf
      refine tCallSi (As := [.int x6, .int x8]) (rest := [.int x7]) C hP hS (c_X10_has l C.2.2.2 hc91) (va_cwS 2 hts gX10_chance_X10_has rfl rfl rfl hd_X10_has ⟨Nat.le_of_ble_eq_true rfl, Nat.le_of_ble_eq_true rfl⟩) rfl hl rfl (Nat.le_of_ble_eq_true rfl) dX10_chance_91 ⟨Nat.le_refl 0, Nat.le_refl 0⟩ (fun H locs hP hS => ?_)
      refine lv_if_eq (tgt := 102) hx hb dX10_chance_94 (by decide) (fun c8 => ?_) (fun c8 => ?_)
      · have hf := if_p hf c8
        refine lv_bipush (v := (10 : Int32)) hx hb dX10_chance_102 (by decide) ?_
        refine lv_iload hx hb dX10_chance_104 (lv_at hl 0 rfl) ?_
        refine lv_isub hx hb dX10_chance_106 ?_
        refine lv_imul hx hb dX10_chance_107 ?_
        refine lv_istore (lv' := [(7, .int (x7 * ((10 : Int32) - v83))), (9, .int v83), (0, .ref (a 0)), (1, .int x1), (2, .int x2), (3, .int x3), (4, .int x4), (5, .int x5), (6, .int x6), (8, .int x8)]) hx hb dX10_chance_108 hl (Nat.le_of_ble_eq_true rfl) rfl (fun ls hl => ?_)
        refine lv_iinc (v := (x8 + 1)) (lv' := [(8, .int (x8 + 1)), (7, .int (x7 * ((10 : Int32) - v83))), (9, .int v83), (0, .ref (a 0)), (1, .int x1), (2, .int x2), (3, .int x3), (4, .int x4), (5, .int x5), (6, .int x6)]) hx hb dX10_chance_110 hl (k := 9) rfl rfl (Nat.le_of_ble_eq_true rfl) rfl (fun ls hl => ?_)
        refine lv_goto (tgt := 63) hx hb dX10_chance_113 (by decide) ?_
        exact ih _ _ hf H locs ls hP hS (lv_sub hl [3, 4, 5, 6, 7, 8, 9, 1, 0] rfl)
      · have hf := if_n hf c8
        refine lv_iload hx hb dX10_chance_97 (lv_at hl 0 rfl) ?_
        refine lv_goto (tgt := 107) hx hb dX10_chance_99 (by decide) ?_
        refine lv_imul hx hb dX10_chance_107 ?_
        refine lv_istore (lv' := [(7, .int (x7 * v83)), (9, .int v83), (0, .ref (a 0)), (1, .int x1), (2, .int x2), (3, .int x3), (4, .int x4), (5, .int x5), (6, .int x6), (8, .int x8)]) hx hb dX10_chance_108 hl (Nat.le_of_ble_eq_true rfl) rfl (fun ls hl => ?_)
        refine lv_iinc (v := (x8 + 1)) (lv' := [(8, .int (x8 + 1)), (7, .int (x7 * v83)), (9, .int v83), (0, .ref (a 0)), (1, .int x1), (2, .int x2), (3, .int x3), (4, .int x4), (5, .int x5), (6, .int x6)]) hx hb dX10_chance_110 hl (k := 9) rfl rfl (Nat.le_of_ble_eq_true rfl) rfl (fun ls hl => ?_)
        refine lv_goto (tgt := 63) hx hb dX10_chance_113 (by decide) ?_
        exact ih _ _ hf H locs ls hP hS (lv_sub hl [3, 4, 5, 6, 7, 8, 9, 1, 0] rfl)
set_option maxHeartbeats 4000000 in
set_option maxRecDepth 100000 in
theorem lp_X10_chance_49 {p : Program} {l : Launch} {e : Env} {s : State} {m : MethodId} {args : Array Value} {below : List Frame} {meth : Method} {c : Code} {D : va_G} {cI cZ : ClassId} {a : Nat → Nat} {Q : State → Prop} {H0 : Heap} {x1 : Int32} {x2 : Int32} {x3 : Int32} {S : St} {o : Int32 × Int32}
    (C : tC p c s m args cX10_chance 10 RX10 wsX10_chance D cI cZ (wM cI cZ a) (mA a))
    (K0 : ∀ (H : Heap) (locs : List Loc) (ls : Array Slot), va_P D vwCl (wM cI cZ a S) H → va_S (mA a) H0 H locs → lv_has ls 10 [(3, .int x3), (4, .int o.1), (5, .int o.2)] → W p l e rmX10_chance s m args below meth c H locs 0 0 Q (F0 m 149 ls [])) :
    ∀ (n : Nat) (x4 : Int32) (x5 : Int32) (x6 : Int32), l_X10_chance_49 x1 x2 x3 S n x4 x5 x6 = some o → ∀ (H : Heap) (locs : List Loc) (ls : Array Slot), va_P D vwCl (wM cI cZ a S) H → va_S (mA a) H0 H locs → lv_has ls 10 [(0, .ref (a 0)), (1, .int x1), (2, .int x2), (3, .int x3), (4, .int x4), (5, .int x5), (6, .int x6)] → W p l e rmX10_chance s m args below meth c H locs 0 0 Q (F0 m 49 ls []) := by
  obtain ⟨⟨hx, hb, hml, hown, hts⟩, hK, hN, hA⟩ := id C
  have hin10 := hn_X10_chance_10
  intro n
  induction n with
  | zero =>
    intro x4 x5 x6 hf
    rw [l_X10_chance_49] at hf
    cases hf
  | succ n ih =>
    intro x4 x5 x6 hf H locs ls hP hS hl
    rw [l_X10_chance_49] at hf
    refine lv_iload hx hb dX10_chance_49 (lv_at hl 6 rfl) ?_
    refine lv_iconst (v := (1 : Int32)) hx hb dX10_chance_51 (by decide) ?_
    refine lv_iload_n hx hb dX10_chance_52 rfl (lv_at hl 1 rfl) ?_
    refine lv_ishl hx hb dX10_chance_53 ?_
    refine lv_icmp_ge (tgt := 149) hx hb dX10_chance_54 (by decide) (fun c4 => ?_) (fun c4 => ?_)
    · have hf := if_p hf c4
      obtain rfl := Option.some.inj hf
      exact K0 H locs ls hP hS (lv_sub hl [3, 4, 5] rfl)
    · have hf := if_n hf c4
      refine lv_iconst (v := (1 : Int32)) hx hb dX10_chance_57 (by decide) ?_
      refine lv_istore (lv' := [(7, .int (1 : Int32)), (0, .ref (a 0)), (1, .int x1), (2, .int x2), (3, .int x3), (4, .int x4), (5, .int x5), (6, .int x6)]) hx hb dX10_chance_58 hl (Nat.le_of_ble_eq_true rfl) rfl (fun ls hl => ?_)
      refine lv_iconst (v := (0 : Int32)) hx hb dX10_chance_60 (by decide) ?_
      refine lv_istore (lv' := [(8, .int (0 : Int32)), (7, .int (1 : Int32)), (0, .ref (a 0)), (1, .int x1), (2, .int x2), (3, .int x3), (4, .int x4), (5, .int x5), (6, .int x6)]) hx hb dX10_chance_61 hl (Nat.le_of_ble_eq_true rfl) rfl (fun ls hl => ?_)
      obtain ⟨o63, hc63, hf⟩ := ob hf
      refine lp_X10_chance_63 C (fun H locs ls hP hS hl => ?_) fuel _ _ hc63 H locs ls hP hS (lv_sub hl [2, 3, 4, 5, 6, 7, 8, 1, 0] rfl)
      refine lv_iload hx hb dX10_chance_116 (lv_at hl 5 rfl) ?_
      refine lv_iload hx hb dX10_chance_118 (lv_at hl 7 rfl) ?_
      refine lv_iadd hx hb dX10_chance_120 ?_
      refine lv_istore (lv' := [(5, .int (x5 + o63)), (0, .ref (a 0)), (1, .int x1), (2, .int x2), (3, .int x3), (4, .int x4), (6, .int x6), (7, .int o63)]) hx hb dX10_chance_121 hl (Nat.le_of_ble_eq_true rfl) rfl (fun ls hl => ?_)
      refine lv_iload hx hb dX10_chance_123 (lv_at hl 5 rfl) ?_
      refine lv_iload hx hb dX10_chance_125 (lv_at hl 6 rfl) ?_
      obtain ⟨r127, hc127, hf⟩ := ob hf
      refine tCallSi (As := [.int x6]) (rest := [.int x4]) C hP hS (c_X10_many l C.2.2.2 hc127) (va_cwS 1 hts gX10_chance_X10_many rfl rfl rfl hd_X10_many ⟨Nat.le_of_ble_eq_true rfl, Nat.le_of_ble_eq_true rfl⟩) rfl hl rfl (Nat.le_of_ble_eq_true rfl) dX10_chance_127 ⟨Nat.le_refl 0, Nat.le_refl 0⟩ (fun H locs hP hS => ?_)
      refine lv_iload_n hx hb dX10_chance_130 rfl (lv_at hl 3 rfl) ?_
      refine lv_icmp_ne (tgt := 139) hx hb dX10_chance_131 (by decide) (fun c9 => ?_) (fun c9 => ?_)
      · have hf := if_n hf c9
        refine lv_iconst (v := (0 : Int32)) hx hb dX10_chance_139 (by decide) ?_
        refine lv_iadd hx hb dX10_chance_140 ?_
        refine lv_istore (lv' := [(4, .int (x4 + (0 : Int32))), (5, .int (x5 + o63)), (0, .ref (a 0)), (1, .int x1), (2, .int x2), (3, .int x3), (6, .int x6), (7, .int o63)]) hx hb dX10_chance_141 hl (Nat.le_of_ble_eq_true rfl) rfl (fun ls hl => ?_)
        refine lv_iinc (v := (x6 + 1)) (lv' := [(6, .int (x6 + 1)), (4, .int (x4 + (0 : Int32))), (5, .int (x5 + o63)), (0, .ref (a 0)), (1, .int x1), (2, .int x2), (3, .int x3), (7, .int o63)]) hx hb dX10_chance_143 hl (k := 6) rfl rfl (Nat.le_of_ble_eq_true rfl) rfl (fun ls hl => ?_)
        refine lv_goto (tgt := 49) hx hb dX10_chance_146 (by decide) ?_
        exact ih _ _ _ hf H locs ls hP hS (lv_sub hl [3, 4, 5, 6, 1, 2, 0] rfl)
      · have hf := if_p hf c9
        refine lv_iload hx hb dX10_chance_134 (lv_at hl 7 rfl) ?_
        refine lv_goto (tgt := 140) hx hb dX10_chance_136 (by decide) ?_
        refine lv_iadd hx hb dX10_chance_140 ?_
        refine lv_istore (lv' := [(4, .int (x4 + o63)), (5, .int (x5 + o63)), (0, .ref (a 0)), (1, .int x1), (2, .int x2), (3, .int x3), (6, .int x6), (7, .int o63)]) hx hb dX10_chance_141 hl (Nat.le_of_ble_eq_true rfl) rfl (fun ls hl => ?_)
        refine lv_iinc (v := (x6 + 1)) (lv' := [(6, .int (x6 + 1)), (4, .int (x4 + o63)), (5, .int (x5 + o63)), (0, .ref (a 0)), (1, .int x1), (2, .int x2), (3, .int x3), (7, .int o63)]) hx hb dX10_chance_143 hl (k := 6) rfl rfl (Nat.le_of_ble_eq_true rfl) rfl (fun ls hl => ?_)
        refine lv_goto (tgt := 49) hx hb dX10_chance_146 (by decide) ?_
        exact ih _ _ _ hf H locs ls hP hS (lv_sub hl [3, 4, 5, 6, 1, 2, 0] rfl)
set_option maxHeartbeats 4000000 in
set_option maxRecDepth 100000 in
theorem c_X10_chance (l : Launch) {D : va_G} {cI cZ : ClassId} {a : Nat → Nat} (hA : ∀ S : St, va_D (mA a) (wM cI cZ a S)) {x1 : Int32} {x2 : Int32} {x3 : Int32} {S : St} {o : Int32 × St} (hf : f_X10_chance x1 x2 x3 S = some o) : Met l yX10_chance wsX10_chance rmX10_chance (tPc D cI cZ (wM cI cZ a) S ([.ref (a 0), .int x1, .int x2, .int x3] : List Value)) (tQi D (wM cI cZ a) (mA a) o.2 o.1) 0 0 (mA a) := by
  refine tEnter (cc := cX10_chance) (maxL := 10) (ret := (some .int)) (own := RX10) hA rfl (by decide) rfl (Nat.le_of_ble_eq_true rfl) (fun p e s m args below meth c C hr hlk hP hS ls hl => ?_)
  obtain ⟨⟨hx, hb, hml, hown, hts⟩, hK, hN, -⟩ := id C
  have hl : lv_has ls 10 [(0, .ref (a 0)), (1, .int x1), (2, .int x2), (3, .int x3)] := hl
  have hin10 := hn_X10_chance_10
  have hSS := hS
  rw [f_X10_chance] at hf
  revert hP hS
  suffices hsuf : ∀ (H : Heap) (locs : List Loc), va_P D vwCl (wM cI cZ a S) H → va_S (mA a) s.heap H locs → W p l e rmX10_chance s m args below meth c H locs 0 0 (MQ below (tQi D (wM cI cZ a) (mA a) o.2 o.1) args s 0 0 (mA a)) (F0 m 0 ls []) from fun hP hS => hsuf s.heap [] hP hS
  intro H locs hP hS
  refine lv_aload_n hx hb dX10_chance_0 rfl (lv_at hl 0 rfl) ?_
  refine lv_iconst (v := (0 : Int32)) hx hb dX10_chance_1 (by decide) ?_
  refine pm_10_0 C hin10 hP hS (List.mem_of_getElem? (i := 1) rfl) dX10_chance_2 (fun H locs hP hS => ?_)
  obtain ⟨S2, eS2⟩ : ∃ z, z = (sI S 0 (0 : Int32)) := ⟨_, rfl⟩
  rw [← eS2] at hP
  have hf := nm_i hf eS2
  refine lv_iload_n hx hb dX10_chance_5 rfl (lv_at hl 1 rfl) ?_
  refine lv_i2l hx hb dX10_chance_6 rfl ?_
  refine lv_lconst (v := (1 : Int64)) hx hb dX10_chance_7 (by decide) ?_
  refine lv_ldc2 (v := (6 : Int64)) hx hb hown (hts _ (List.mem_of_getElem? (i := 2) rfl)) dX10_chance_8 ?_
  obtain ⟨r11, hc11, hf⟩ := ob hf
  refine tCallSi (As := [.long x1.toInt64, .long (1 : Int64), .long (6 : Int64)]) (rest := []) C hP hS (c_X10_in l C.2.2.2 hc11) (va_cwS 3 hts gX10_chance_X10_in rfl rfl rfl hd_X10_in ⟨Nat.le_of_ble_eq_true rfl, Nat.le_of_ble_eq_true rfl⟩) rfl hl rfl (Nat.le_of_ble_eq_true rfl) dX10_chance_11 ⟨Nat.le_refl 0, Nat.le_refl 0⟩ (fun H locs hP hS => ?_)
  refine lv_if_eq (tgt := 37) hx hb dX10_chance_14 (by decide) (fun c1 => ?_) (fun c1 => ?_)
  · have hf := if_p hf c1
    refine lv_bipush (v := (-2 : Int32)) hx hb dX10_chance_37 (by decide) ?_
    obtain rfl := Option.some.inj hf
    exact tRet_i C hr hlk hP hS dX10_chance_39
  · have hf := if_n hf c1
    refine lv_iload_n hx hb dX10_chance_17 rfl (lv_at hl 1 rfl) ?_
    refine lv_aload_n hx hb dX10_chance_18 rfl (lv_at hl 0 rfl) ?_
    obtain ⟨r19, hc19, hf⟩ := ob hf
    refine tCallVi (As := []) (rest := [.int x1]) (q0 := 0) (ci := 10) C hP hS rfl rfl (c_X10_ahead l C.2.2.2 hc19) (cwV 0 hts gX10_chance_X10_ahead rfl rfl rfl ⟨rfl, hd_X10_ahead⟩ ⟨Nat.le_of_ble_eq_true rfl, Nat.le_of_ble_eq_true rfl⟩) rfl hl rfl (Nat.le_of_ble_eq_true rfl) dX10_chance_19 ⟨Nat.le_refl 0, Nat.le_refl 0⟩ (fun H locs hP hS => ?_)
    refine lv_icmp_gt (tgt := 37) hx hb dX10_chance_22 (by decide) (fun c2 => ?_) (fun c2 => ?_)
    · have hf := if_p hf c2
      refine lv_bipush (v := (-2 : Int32)) hx hb dX10_chance_37 (by decide) ?_
      obtain rfl := Option.some.inj hf
      exact tRet_i C hr hlk hP hS dX10_chance_39
    · have hf := if_n hf c2
      refine lv_iload_n hx hb dX10_chance_25 rfl (lv_at hl 2 rfl) ?_
      refine lv_i2l hx hb dX10_chance_26 rfl ?_
      refine lv_lconst (v := (0 : Int64)) hx hb dX10_chance_27 (by decide) ?_
      refine lv_ldc2 (v := (6 : Int64)) hx hb hown (hts _ (List.mem_of_getElem? (i := 2) rfl)) dX10_chance_28 ?_
      obtain ⟨r31, hc31, hf⟩ := ob hf
      refine tCallSi (As := [.long x2.toInt64, .long (0 : Int64), .long (6 : Int64)]) (rest := []) C hP hS (c_X10_in l C.2.2.2 hc31) (va_cwS 3 hts gX10_chance_X10_in rfl rfl rfl hd_X10_in ⟨Nat.le_of_ble_eq_true rfl, Nat.le_of_ble_eq_true rfl⟩) rfl hl rfl (Nat.le_of_ble_eq_true rfl) dX10_chance_31 ⟨Nat.le_refl 0, Nat.le_refl 0⟩ (fun H locs hP hS => ?_)
      refine lv_if_ne (tgt := 40) hx hb dX10_chance_34 (by decide) (fun c3 => ?_) (fun c3 => ?_)
      · have hf := if_n hf c3
        refine lv_iconst (v := (0 : Int32)) hx hb dX10_chance_40 (by decide) ?_
        refine lv_istore (lv' := [(4, .int (0 : Int32)), (0, .ref (a 0)), (1, .int x1), (2, .int x2), (3, .int x3)]) hx hb dX10_chance_41 hl (Nat.le_of_ble_eq_true rfl) rfl (fun ls hl => ?_)
        refine lv_iconst (v := (0 : Int32)) hx hb dX10_chance_43 (by decide) ?_
        refine lv_istore (lv' := [(5, .int (0 : Int32)), (4, .int (0 : Int32)), (0, .ref (a 0)), (1, .int x1), (2, .int x2), (3, .int x3)]) hx hb dX10_chance_44 hl (Nat.le_of_ble_eq_true rfl) rfl (fun ls hl => ?_)
        refine lv_iconst (v := (0 : Int32)) hx hb dX10_chance_46 (by decide) ?_
        refine lv_istore (lv' := [(6, .int (0 : Int32)), (5, .int (0 : Int32)), (4, .int (0 : Int32)), (0, .ref (a 0)), (1, .int x1), (2, .int x2), (3, .int x3)]) hx hb dX10_chance_47 hl (Nat.le_of_ble_eq_true rfl) rfl (fun ls hl => ?_)
        obtain ⟨o49, hc49, hf⟩ := ob hf
        refine lp_X10_chance_49 C (fun H locs ls hP hS hl => ?_) fuel _ _ _ hc49 H locs ls hP hS (lv_sub hl [3, 4, 5, 6, 2, 1, 0] rfl)
        refine lv_iload hx hb dX10_chance_149 (lv_at hl 1 rfl) ?_
        refine lv_iload hx hb dX10_chance_151 (lv_at hl 2 rfl) ?_
        refine lv_iload_n hx hb dX10_chance_153 rfl (lv_at hl 0 rfl) ?_
        obtain ⟨r154, hc154, hf⟩ := ob hf
        refine tCallSi (As := [.int o49.1, .int o49.2, .int x3]) (rest := []) C hP hS (c_X10_fraction l C.2.2.2 hc154) (va_cwS 3 hts gX10_chance_X10_fraction rfl rfl rfl hd_X10_fraction ⟨Nat.le_of_ble_eq_true rfl, Nat.le_of_ble_eq_true rfl⟩) rfl hl rfl (Nat.le_of_ble_eq_true rfl) dX10_chance_154 ⟨Nat.le_refl 0, Nat.le_refl 0⟩ (fun H locs hP hS => ?_)
        obtain rfl := Option.some.inj hf
        exact tRet_i C hr hlk hP hS dX10_chance_157
      · have hf := if_p hf c3
        refine lv_bipush (v := (-2 : Int32)) hx hb dX10_chance_37 (by decide) ?_
        obtain rfl := Option.some.inj hf
        exact tRet_i C hr hlk hP hS dX10_chance_39
def rmX10_seed : Room := { frames := 0, cells := 0, slots := 0, locals := 0 }
theorem hn_X10_seed_10 : ∀ w ∈ wsX100, w ∈ wsX10_seed := fun w h => List.mem_cons_of_mem _ (List.mem_append_right _ h)
theorem hd_X10_seed : yX10_seed.cls ≠ "java/lang/invoke/MethodHandle" ∧ yX10_seed.cls ≠ "java/lang/invoke/VarHandle" ∧ (parseMethodDescriptor yX10_seed.desc).map (fun d => d.parameters.length) = some 1 := by decide +kernel
set_option maxHeartbeats 4000000 in
set_option maxRecDepth 100000 in
theorem c_X10_seed (l : Launch) {D : va_G} {cI cZ : ClassId} {a : Nat → Nat} (hA : ∀ S : St, va_D (mA a) (wM cI cZ a S)) {x1 : Int64} {S : St} {o : Int64 × St} (hf : f_X10_seed x1 S = some o) : Met l yX10_seed wsX10_seed rmX10_seed (tPc D cI cZ (wM cI cZ a) S ([.ref (a 0), .long x1] : List Value)) (tQl D (wM cI cZ a) (mA a) o.2 o.1) 0 0 (mA a) := by
  refine tEnter (cc := cX10_seed) (maxL := 5) (ret := (some .long)) (own := RX10) hA rfl (by decide) rfl (Nat.le_of_ble_eq_true rfl) (fun p e s m args below meth c C hr hlk hP hS ls hl => ?_)
  obtain ⟨⟨hx, hb, hml, hown, hts⟩, hK, hN, -⟩ := id C
  have hl : lv_has ls 5 [(0, .ref (a 0)), (1, .long x1)] := hl
  have hin10 := hn_X10_seed_10
  have hSS := hS
  rw [f_X10_seed] at hf
  revert hP hS
  suffices hsuf : ∀ (H : Heap) (locs : List Loc), va_P D vwCl (wM cI cZ a S) H → va_S (mA a) s.heap H locs → W p l e rmX10_seed s m args below meth c H locs 0 0 (MQ below (tQl D (wM cI cZ a) (mA a) o.2 o.1) args s 0 0 (mA a)) (F0 m 0 ls []) from fun hP hS => hsuf s.heap [] hP hS
  intro H locs hP hS
  refine lv_aload_n hx hb dX10_seed_0 rfl (lv_at hl 0 rfl) ?_
  refine lv_iconst (v := (0 : Int32)) hx hb dX10_seed_1 (by decide) ?_
  refine pm_10_0 C hin10 hP hS (List.mem_of_getElem? (i := 1) rfl) dX10_seed_2 (fun H locs hP hS => ?_)
  obtain ⟨S2, eS2⟩ : ∃ z, z = (sI S 0 (0 : Int32)) := ⟨_, rfl⟩
  rw [← eS2] at hP
  have hf := nm_i hf eS2
  refine lv_aload_n hx hb dX10_seed_5 rfl (lv_at hl 0 rfl) ?_
  refine gm_10_22 C hin10 hP (List.mem_of_getElem? (i := 2) rfl) dX10_seed_6 ?_
  refine lv_lstore_n (lv' := [(3, .long S2.2.2), (0, .ref (a 0)), (1, .long x1)]) hx hb dX10_seed_9 rfl hl (Nat.le_of_ble_eq_true rfl) rfl (fun ls hl => ?_)
  refine lv_aload_n hx hb dX10_seed_10 rfl (lv_at hl 1 rfl) ?_
  refine lv_lload_n hx hb dX10_seed_11 rfl (lv_at hl 2 rfl) ?_
  refine pm_10_22 C hin10 hP hS (List.mem_of_getElem? (i := 2) rfl) dX10_seed_12 (fun H locs hP hS => ?_)
  obtain ⟨S12, eS12⟩ : ∃ z, z = (sL S2 x1) := ⟨_, rfl⟩
  rw [← eS12] at hP
  have hf := nm_i hf eS12
  refine lv_lload_n hx hb dX10_seed_15 rfl (lv_at hl 0 rfl) ?_
  obtain rfl := Option.some.inj hf
  exact tRet_l C hr hlk hP hS dX10_seed_16
def rmX10_days : Room := { frames := 1, cells := 0, slots := 0, locals := 25 }
theorem hn_X10_days_10 : ∀ w ∈ wsX100, w ∈ wsX10_days := fun w h => List.mem_cons_of_mem _ (List.mem_append_right _ h)
theorem hd_X10_days : yX10_days.cls ≠ "java/lang/invoke/MethodHandle" ∧ yX10_days.cls ≠ "java/lang/invoke/VarHandle" ∧ (parseMethodDescriptor yX10_days.desc).map (fun d => d.parameters.length) = some 1 := by decide +kernel
set_option maxHeartbeats 4000000 in
set_option maxRecDepth 100000 in
theorem lp_X10_days_37 {p : Program} {l : Launch} {e : Env} {s : State} {m : MethodId} {args : Array Value} {below : List Frame} {meth : Method} {c : Code} {D : va_G} {cI cZ : ClassId} {a : Nat → Nat} {Q : State → Prop} {H0 : Heap} {x1 : Int32} {x3 : Int32} {o : Int32 × St}
    (C : tC p c s m args cX10_days 5 RX10 wsX10_days D cI cZ (wM cI cZ a) (mA a))
    (K0 : ∀ (H : Heap) (locs : List Loc) (ls : Array Slot), va_P D vwCl (wM cI cZ a o.2) H → va_S (mA a) H0 H locs → lv_has ls 5 [(0, .ref (a 0)), (1, .int x1), (2, .int o.1), (3, .int x3)] → W p l e rmX10_days s m args below meth c H locs 0 0 Q (F0 m 99 ls [])) :
    ∀ (n : Nat) (x2 : Int32) (x4 : Int32) (S : St), l_X10_days_37 x1 x3 n x2 x4 S = some o → ∀ (H : Heap) (locs : List Loc) (ls : Array Slot), va_P D vwCl (wM cI cZ a S) H → va_S (mA a) H0 H locs → lv_has ls 5 [(0, .ref (a 0)), (1, .int x1), (2, .int x2), (3, .int x3), (4, .int x4)] → W p l e rmX10_days s m args below meth c H locs 0 0 Q (F0 m 37 ls []) := by
  obtain ⟨⟨hx, hb, hml, hown, hts⟩, hK, hN, hA⟩ := id C
  have hin10 := hn_X10_days_10
  intro n
  induction n with
  | zero =>
    intro x2 x4 S hf
    rw [l_X10_days_37] at hf
    cases hf
  | succ n ih =>
    intro x2 x4 S hf H locs ls hP hS hl
    rw [l_X10_days_37] at hf
    refine lv_iload hx hb dX10_days_37 (lv_at hl 4 rfl) ?_
    refine lv_aload_n hx hb dX10_days_39 rfl (lv_at hl 0 rfl) ?_
    refine gm_10_6 C hin10 hP (List.mem_of_getElem? (i := 4) rfl) dX10_days_40 ?_
    refine lv_icmp_ge (tgt := 99) hx hb dX10_days_43 (by decide) (fun c4 => ?_) (fun c4 => ?_)
    · have hf := if_p hf c4
      obtain rfl := Option.some.inj hf
      exact K0 H locs ls hP hS (lv_sub hl [0, 1, 2, 3] rfl)
    · have hf := if_n hf c4
      refine lv_aload_n hx hb dX10_days_46 rfl (lv_at hl 0 rfl) ?_
      refine lv_aload_n hx hb dX10_days_47 rfl (lv_at hl 0 rfl) ?_
      refine gm_10_22 C hin10 hP (List.mem_of_getElem? (i := 5) rfl) dX10_days_48 ?_
      refine lv_ldc2 (v := (6364136223846793005 : Int64)) hx hb hown (hts _ (List.mem_of_getElem? (i := 6) rfl)) dX10_days_51 ?_
      refine lv_lmul hx hb dX10_days_54 ?_
      refine lv_ldc2 (v := (1442695040888963407 : Int64)) hx hb hown (hts _ (List.mem_of_getElem? (i := 7) rfl)) dX10_days_55 ?_
      refine lv_ladd hx hb dX10_days_58 ?_
      refine pm_10_22 C hin10 hP hS (List.mem_of_getElem? (i := 5) rfl) dX10_days_59 (fun H locs hP hS => ?_)
      obtain ⟨S59, eS59⟩ : ∃ z, z = (sL S ((S.2.2 * (6364136223846793005 : Int64)) + (1442695040888963407 : Int64))) := ⟨_, rfl⟩
      rw [← eS59] at hP
      have hf := nm_i hf eS59
      refine lv_iload_n hx hb dX10_days_62 rfl (lv_at hl 2 rfl) ?_
      refine lv_aload_n hx hb dX10_days_63 rfl (lv_at hl 0 rfl) ?_
      refine gm_10_22 C hin10 hP (List.mem_of_getElem? (i := 5) rfl) dX10_days_64 ?_
      refine lv_bipush (v := (33 : Int32)) hx hb dX10_days_67 (by decide) ?_
      refine lv_lushr hx hb dX10_days_69 rfl ?_
      refine lv_ldc2 (v := (10 : Int64)) hx hb hown (hts _ (List.mem_of_getElem? (i := 8) rfl)) dX10_days_70 ?_
      refine lv_lrem hx hb dX10_days_73 (by decide) ?_
      refine lv_aload_n hx hb dX10_days_74 rfl (lv_at hl 0 rfl) ?_
      refine gm_10_10 C hin10 hP (List.mem_of_getElem? (i := 9) rfl) dX10_days_75 ?_
      refine lv_iload hx hb dX10_days_78 (lv_at hl 4 rfl) ?_
      obtain ⟨hi5, hf⟩ := ob_in hf
      refine ldm_4 C hP rfl hi5 dX10_days_80 ?_
      refine lv_i2l hx hb dX10_days_81 rfl ?_
      refine W.lcmp hx hb dX10_days_82 ?_
      refine lv_if_ge (tgt := 90) hx hb dX10_days_83 (by decide) (fun c6 => ?_) (fun c6 => ?_)
      · have hf := if_p hf c6
        refine lv_iconst (v := (0 : Int32)) hx hb dX10_days_90 (by decide) ?_
        refine lv_iadd hx hb dX10_days_91 ?_
        refine lv_istore_n (lv' := [(2, .int (x2 + (0 : Int32))), (0, .ref (a 0)), (1, .int x1), (3, .int x3), (4, .int x4)]) hx hb dX10_days_92 rfl hl (Nat.le_of_ble_eq_true rfl) rfl (fun ls hl => ?_)
        refine lv_iinc (v := (x4 + 1)) (lv' := [(4, .int (x4 + 1)), (2, .int (x2 + (0 : Int32))), (0, .ref (a 0)), (1, .int x1), (3, .int x3)]) hx hb dX10_days_93 hl (k := 4) rfl rfl (Nat.le_of_ble_eq_true rfl) rfl (fun ls hl => ?_)
        refine lv_goto (tgt := 37) hx hb dX10_days_96 (by decide) ?_
        exact ih _ _ _ hf H locs ls hP hS (lv_sub hl [2, 3, 1, 4, 0] rfl)
      · have hf := if_n hf c6
        refine lv_iconst (v := (1 : Int32)) hx hb dX10_days_86 (by decide) ?_
        refine lv_goto (tgt := 91) hx hb dX10_days_87 (by decide) ?_
        refine lv_iadd hx hb dX10_days_91 ?_
        refine lv_istore_n (lv' := [(2, .int (x2 + (1 : Int32))), (0, .ref (a 0)), (1, .int x1), (3, .int x3), (4, .int x4)]) hx hb dX10_days_92 rfl hl (Nat.le_of_ble_eq_true rfl) rfl (fun ls hl => ?_)
        refine lv_iinc (v := (x4 + 1)) (lv' := [(4, .int (x4 + 1)), (2, .int (x2 + (1 : Int32))), (0, .ref (a 0)), (1, .int x1), (3, .int x3)]) hx hb dX10_days_93 hl (k := 4) rfl rfl (Nat.le_of_ble_eq_true rfl) rfl (fun ls hl => ?_)
        refine lv_goto (tgt := 37) hx hb dX10_days_96 (by decide) ?_
        exact ih _ _ _ hf H locs ls hP hS (lv_sub hl [2, 3, 1, 4, 0] rfl)
set_option maxHeartbeats 4000000 in
set_option maxRecDepth 100000 in
theorem lp_X10_days_24 {p : Program} {l : Launch} {e : Env} {s : State} {m : MethodId} {args : Array Value} {below : List Frame} {meth : Method} {c : Code} {D : va_G} {cI cZ : ClassId} {a : Nat → Nat} {Q : State → Prop} {H0 : Heap} {x1 : Int32} {o : Int32 × St}
    (C : tC p c s m args cX10_days 5 RX10 wsX10_days D cI cZ (wM cI cZ a) (mA a))
    (K0 : ∀ (H : Heap) (locs : List Loc) (ls : Array Slot), va_P D vwCl (wM cI cZ a o.2) H → va_S (mA a) H0 H locs → lv_has ls 5 [(2, .int o.1)] → W p l e rmX10_days s m args below meth c H locs 0 0 Q (F0 m 105 ls [])) :
    ∀ (n : Nat) (x2 : Int32) (x3 : Int32) (S : St), l_X10_days_24 x1 n x2 x3 S = some o → ∀ (H : Heap) (locs : List Loc) (ls : Array Slot), va_P D vwCl (wM cI cZ a S) H → va_S (mA a) H0 H locs → lv_has ls 5 [(0, .ref (a 0)), (1, .int x1), (2, .int x2), (3, .int x3)] → W p l e rmX10_days s m args below meth c H locs 0 0 Q (F0 m 24 ls []) := by
  obtain ⟨⟨hx, hb, hml, hown, hts⟩, hK, hN, hA⟩ := id C
  have hin10 := hn_X10_days_10
  intro n
  induction n with
  | zero =>
    intro x2 x3 S hf
    rw [l_X10_days_24] at hf
    cases hf
  | succ n ih =>
    intro x2 x3 S hf H locs ls hP hS hl
    rw [l_X10_days_24] at hf
    refine lv_iload_n hx hb dX10_days_24 rfl (lv_at hl 3 rfl) ?_
    refine lv_iload_n hx hb dX10_days_25 rfl (lv_at hl 1 rfl) ?_
    refine lv_icmp_ge (tgt := 105) hx hb dX10_days_26 (by decide) (fun c2 => ?_) (fun c2 => ?_)
    · have hf := if_p hf c2
      obtain rfl := Option.some.inj hf
      exact K0 H locs ls hP hS (lv_sub hl [2] rfl)
    · have hf := if_n hf c2
      refine lv_aload_n hx hb dX10_days_29 rfl (lv_at hl 0 rfl) ?_
      refine gm_10_14 C hin10 hP (List.mem_of_getElem? (i := 3) rfl) dX10_days_30 ?_
      refine lv_iconst (v := (0 : Int32)) hx hb dX10_days_33 (by decide) ?_
      refine ldm_7 (j := 0) C hP (by decide) (show ¬ ((0 : Int32) < 0 ∨ 16 ≤ (0 : Int32).toNatClampNeg) by decide) dX10_days_34 ?_
      refine lv_istore (lv' := [(4, .int (S.2.1 7 0)), (0, .ref (a 0)), (1, .int x1), (2, .int x2), (3, .int x3)]) hx hb dX10_days_35 hl (Nat.le_of_ble_eq_true rfl) rfl (fun ls hl => ?_)
      obtain ⟨o37, hc37, hf⟩ := ob hf
      refine lp_X10_days_37 C (fun H locs ls hP hS hl => ?_) fuel _ _ _ hc37 H locs ls hP hS (lv_sub hl [1, 2, 3, 4, 0] rfl)
      refine lv_iinc (v := (x3 + 1)) (lv' := [(3, .int (x3 + 1)), (0, .ref (a 0)), (1, .int x1), (2, .int o37.1)]) hx hb dX10_days_99 hl (k := 3) rfl rfl (Nat.le_of_ble_eq_true rfl) rfl (fun ls hl => ?_)
      refine lv_goto (tgt := 24) hx hb dX10_days_102 (by decide) ?_
      exact ih _ _ _ hf H locs ls hP hS (lv_sub hl [1, 2, 3, 0] rfl)
set_option maxHeartbeats 4000000 in
set_option maxRecDepth 100000 in
theorem c_X10_days (l : Launch) {D : va_G} {cI cZ : ClassId} {a : Nat → Nat} (hA : ∀ S : St, va_D (mA a) (wM cI cZ a S)) {x1 : Int32} {S : St} {o : Int32 × St} (hf : f_X10_days x1 S = some o) : Met l yX10_days wsX10_days rmX10_days (tPc D cI cZ (wM cI cZ a) S ([.ref (a 0), .int x1] : List Value)) (tQi D (wM cI cZ a) (mA a) o.2 o.1) 0 0 (mA a) := by
  refine tEnter (cc := cX10_days) (maxL := 5) (ret := (some .int)) (own := RX10) hA rfl (by decide) rfl (Nat.le_of_ble_eq_true rfl) (fun p e s m args below meth c C hr hlk hP hS ls hl => ?_)
  obtain ⟨⟨hx, hb, hml, hown, hts⟩, hK, hN, -⟩ := id C
  have hl : lv_has ls 5 [(0, .ref (a 0)), (1, .int x1)] := hl
  have hin10 := hn_X10_days_10
  have hSS := hS
  rw [f_X10_days] at hf
  revert hP hS
  suffices hsuf : ∀ (H : Heap) (locs : List Loc), va_P D vwCl (wM cI cZ a S) H → va_S (mA a) s.heap H locs → W p l e rmX10_days s m args below meth c H locs 0 0 (MQ below (tQi D (wM cI cZ a) (mA a) o.2 o.1) args s 0 0 (mA a)) (F0 m 0 ls []) from fun hP hS => hsuf s.heap [] hP hS
  intro H locs hP hS
  refine lv_aload_n hx hb dX10_days_0 rfl (lv_at hl 0 rfl) ?_
  refine lv_iconst (v := (0 : Int32)) hx hb dX10_days_1 (by decide) ?_
  refine pm_10_0 C hin10 hP hS (List.mem_of_getElem? (i := 1) rfl) dX10_days_2 (fun H locs hP hS => ?_)
  obtain ⟨S2, eS2⟩ : ∃ z, z = (sI S 0 (0 : Int32)) := ⟨_, rfl⟩
  rw [← eS2] at hP
  have hf := nm_i hf eS2
  refine lv_iload_n hx hb dX10_days_5 rfl (lv_at hl 1 rfl) ?_
  refine lv_i2l hx hb dX10_days_6 rfl ?_
  refine lv_lconst (v := (1 : Int64)) hx hb dX10_days_7 (by decide) ?_
  refine lv_ldc2 (v := (20 : Int64)) hx hb hown (hts _ (List.mem_of_getElem? (i := 2) rfl)) dX10_days_8 ?_
  obtain ⟨r11, hc11, hf⟩ := ob hf
  refine tCallSi (As := [.long x1.toInt64, .long (1 : Int64), .long (20 : Int64)]) (rest := []) C hP hS (c_X10_in l C.2.2.2 hc11) (va_cwS 3 hts gX10_days_X10_in rfl rfl rfl hd_X10_in ⟨Nat.le_of_ble_eq_true rfl, Nat.le_of_ble_eq_true rfl⟩) rfl hl rfl (Nat.le_of_ble_eq_true rfl) dX10_days_11 ⟨Nat.le_refl 0, Nat.le_refl 0⟩ (fun H locs hP hS => ?_)
  refine lv_if_ne (tgt := 20) hx hb dX10_days_14 (by decide) (fun c1 => ?_) (fun c1 => ?_)
  · have hf := if_n hf c1
    refine lv_iconst (v := (0 : Int32)) hx hb dX10_days_20 (by decide) ?_
    refine lv_istore_n (lv' := [(2, .int (0 : Int32)), (0, .ref (a 0)), (1, .int x1)]) hx hb dX10_days_21 rfl hl (Nat.le_of_ble_eq_true rfl) rfl (fun ls hl => ?_)
    refine lv_iconst (v := (0 : Int32)) hx hb dX10_days_22 (by decide) ?_
    refine lv_istore_n (lv' := [(3, .int (0 : Int32)), (2, .int (0 : Int32)), (0, .ref (a 0)), (1, .int x1)]) hx hb dX10_days_23 rfl hl (Nat.le_of_ble_eq_true rfl) rfl (fun ls hl => ?_)
    obtain ⟨o24, hc24, hf⟩ := ob hf
    refine lp_X10_days_24 C (fun H locs ls hP hS hl => ?_) fuel _ _ _ hc24 H locs ls hP hS (lv_sub hl [2, 3, 1, 0] rfl)
    refine lv_iload_n hx hb dX10_days_105 rfl (lv_at hl 0 rfl) ?_
    obtain rfl := Option.some.inj hf
    exact tRet_i C hr hlk hP hS dX10_days_106
  · have hf := if_p hf c1
    refine lv_bipush (v := (-2 : Int32)) hx hb dX10_days_17 (by decide) ?_
    obtain rfl := Option.some.inj hf
    exact tRet_i C hr hlk hP hS dX10_days_19
def rmX10_keep : Room := { frames := 1, cells := 0, slots := 0, locals := 25 }
theorem hn_X10_keep_10 : ∀ w ∈ wsX100, w ∈ wsX10_keep := fun w h => List.mem_cons_of_mem _ (List.mem_append_right _ h)
theorem hd_X10_keep : yX10_keep.cls ≠ "java/lang/invoke/MethodHandle" ∧ yX10_keep.cls ≠ "java/lang/invoke/VarHandle" ∧ (parseMethodDescriptor yX10_keep.desc).map (fun d => d.parameters.length) = some 1 := by decide +kernel
set_option maxHeartbeats 4000000 in
set_option maxRecDepth 100000 in
theorem lp_X10_keep_26 {p : Program} {l : Launch} {e : Env} {s : State} {m : MethodId} {args : Array Value} {below : List Frame} {meth : Method} {c : Code} {D : va_G} {cI cZ : ClassId} {a : Nat → Nat} {Q : State → Prop} {H0 : Heap} {x1 : Int32} {o : St}
    (C : tC p c s m args cX10_keep 3 RX10 wsX10_keep D cI cZ (wM cI cZ a) (mA a))
    (K0 : ∀ (H : Heap) (locs : List Loc) (ls : Array Slot), va_P D vwCl (wM cI cZ a o) H → va_S (mA a) H0 H locs → lv_has ls 3 [(0, .ref (a 0))] → W p l e rmX10_keep s m args below meth c H locs 0 0 Q (F0 m 55 ls [])) :
    ∀ (n : Nat) (x2 : Int32) (S : St), l_X10_keep_26 x1 n x2 S = some o → ∀ (H : Heap) (locs : List Loc) (ls : Array Slot), va_P D vwCl (wM cI cZ a S) H → va_S (mA a) H0 H locs → lv_has ls 3 [(0, .ref (a 0)), (1, .int x1), (2, .int x2)] → W p l e rmX10_keep s m args below meth c H locs 0 0 Q (F0 m 26 ls []) := by
  obtain ⟨⟨hx, hb, hml, hown, hts⟩, hK, hN, hA⟩ := id C
  have hin10 := hn_X10_keep_10
  intro n
  induction n with
  | zero =>
    intro x2 S hf
    rw [l_X10_keep_26] at hf
    cases hf
  | succ n ih =>
    intro x2 S hf H locs ls hP hS hl
    rw [l_X10_keep_26] at hf
    refine lv_iload_n hx hb dX10_keep_26 rfl (lv_at hl 2 rfl) ?_
    refine lv_bipush (v := (16 : Int32)) hx hb dX10_keep_27 (by decide) ?_
    refine lv_icmp_ge (tgt := 55) hx hb dX10_keep_29 (by decide) (fun c3 => ?_) (fun c3 => ?_)
    · have hf := if_p hf c3
      obtain rfl := Option.some.inj hf
      exact K0 H locs ls hP hS (lv_sub hl [0] rfl)
    · have hf := if_n hf c3
      refine lv_aload_n hx hb dX10_keep_32 rfl (lv_at hl 0 rfl) ?_
      refine gm_10_17 C hin10 hP (List.mem_of_getElem? (i := 3) rfl) dX10_keep_33 ?_
      refine lv_bipush (v := (16 : Int32)) hx hb dX10_keep_36 (by decide) ?_
      refine lv_iload_n hx hb dX10_keep_38 rfl (lv_at hl 1 rfl) ?_
      refine lv_imul hx hb dX10_keep_39 ?_
      refine lv_iload_n hx hb dX10_keep_40 rfl (lv_at hl 2 rfl) ?_
      refine lv_iadd hx hb dX10_keep_41 ?_
      refine lv_aload_n hx hb dX10_keep_42 rfl (lv_at hl 0 rfl) ?_
      refine gm_10_14 C hin10 hP (List.mem_of_getElem? (i := 4) rfl) dX10_keep_43 ?_
      refine lv_iload_n hx hb dX10_keep_46 rfl (lv_at hl 2 rfl) ?_
      obtain ⟨hi4, hf⟩ := ob_in hf
      refine ldm_7 C hP rfl hi4 dX10_keep_47 ?_
      obtain ⟨hi5, hf⟩ := ob_in hf
      refine stm_9 C hP hS rfl hi5 dX10_keep_48 (fun H locs hP hS => ?_)
      obtain ⟨S48, eS48⟩ : ∃ z, z = (sA S 9 ((((16 : Int32) * x1) + x2).toNatClampNeg) (S.2.1 7 x2.toNatClampNeg)) := ⟨_, rfl⟩
      rw [← eS48] at hP
      have hf := nm_i hf eS48
      refine lv_iinc (v := (x2 + 1)) (lv' := [(2, .int (x2 + 1)), (0, .ref (a 0)), (1, .int x1)]) hx hb dX10_keep_49 hl (k := 2) rfl rfl (Nat.le_of_ble_eq_true rfl) rfl (fun ls hl => ?_)
      refine lv_goto (tgt := 26) hx hb dX10_keep_52 (by decide) ?_
      exact ih _ _ hf H locs ls hP hS (lv_sub hl [1, 2, 0] rfl)
set_option maxHeartbeats 4000000 in
set_option maxRecDepth 100000 in
theorem c_X10_keep (l : Launch) {D : va_G} {cI cZ : ClassId} {a : Nat → Nat} (hA : ∀ S : St, va_D (mA a) (wM cI cZ a S)) {x1 : Int32} {S : St} {o : Int32 × St} (hf : f_X10_keep x1 S = some o) : Met l yX10_keep wsX10_keep rmX10_keep (tPc D cI cZ (wM cI cZ a) S ([.ref (a 0), .int x1] : List Value)) (tQi D (wM cI cZ a) (mA a) o.2 o.1) 0 0 (mA a) := by
  refine tEnter (cc := cX10_keep) (maxL := 3) (ret := (some .int)) (own := RX10) hA rfl (by decide) rfl (Nat.le_of_ble_eq_true rfl) (fun p e s m args below meth c C hr hlk hP hS ls hl => ?_)
  obtain ⟨⟨hx, hb, hml, hown, hts⟩, hK, hN, -⟩ := id C
  have hl : lv_has ls 3 [(0, .ref (a 0)), (1, .int x1)] := hl
  have hin10 := hn_X10_keep_10
  have hSS := hS
  rw [f_X10_keep] at hf
  revert hP hS
  suffices hsuf : ∀ (H : Heap) (locs : List Loc), va_P D vwCl (wM cI cZ a S) H → va_S (mA a) s.heap H locs → W p l e rmX10_keep s m args below meth c H locs 0 0 (MQ below (tQi D (wM cI cZ a) (mA a) o.2 o.1) args s 0 0 (mA a)) (F0 m 0 ls []) from fun hP hS => hsuf s.heap [] hP hS
  intro H locs hP hS
  refine lv_aload_n hx hb dX10_keep_0 rfl (lv_at hl 0 rfl) ?_
  refine lv_iconst (v := (0 : Int32)) hx hb dX10_keep_1 (by decide) ?_
  refine pm_10_0 C hin10 hP hS (List.mem_of_getElem? (i := 1) rfl) dX10_keep_2 (fun H locs hP hS => ?_)
  obtain ⟨S2, eS2⟩ : ∃ z, z = (sI S 0 (0 : Int32)) := ⟨_, rfl⟩
  rw [← eS2] at hP
  have hf := nm_i hf eS2
  refine lv_iload_n hx hb dX10_keep_5 rfl (lv_at hl 1 rfl) ?_
  refine lv_i2l hx hb dX10_keep_6 rfl ?_
  refine lv_lconst (v := (0 : Int64)) hx hb dX10_keep_7 (by decide) ?_
  refine lv_lconst (v := (1 : Int64)) hx hb dX10_keep_8 (by decide) ?_
  obtain ⟨r9, hc9, hf⟩ := ob hf
  refine tCallSi (As := [.long x1.toInt64, .long (0 : Int64), .long (1 : Int64)]) (rest := []) C hP hS (c_X10_in l C.2.2.2 hc9) (va_cwS 3 hts gX10_keep_X10_in rfl rfl rfl hd_X10_in ⟨Nat.le_of_ble_eq_true rfl, Nat.le_of_ble_eq_true rfl⟩) rfl hl rfl (Nat.le_of_ble_eq_true rfl) dX10_keep_9 ⟨Nat.le_refl 0, Nat.le_refl 0⟩ (fun H locs hP hS => ?_)
  refine lv_if_ne (tgt := 17) hx hb dX10_keep_12 (by decide) (fun c1 => ?_) (fun c1 => ?_)
  · have hf := if_n hf c1
    refine lv_aload_n hx hb dX10_keep_17 rfl (lv_at hl 0 rfl) ?_
    refine gm_10_18 C hin10 hP (List.mem_of_getElem? (i := 2) rfl) dX10_keep_18 ?_
    refine lv_iload_n hx hb dX10_keep_21 rfl (lv_at hl 1 rfl) ?_
    refine lv_iconst (v := (1 : Int32)) hx hb dX10_keep_22 (by decide) ?_
    obtain ⟨hi2, hf⟩ := ob_in hf
    refine stm_10 C hP hS rfl hi2 (by decide) dX10_keep_23 (fun H locs hP hS => ?_)
    obtain ⟨S23, eS23⟩ : ∃ z, z = (sA S2 10 x1.toNatClampNeg (1 : Int32)) := ⟨_, rfl⟩
    rw [← eS23] at hP
    have hf := nm_i hf eS23
    refine lv_iconst (v := (0 : Int32)) hx hb dX10_keep_24 (by decide) ?_
    refine lv_istore_n (lv' := [(2, .int (0 : Int32)), (0, .ref (a 0)), (1, .int x1)]) hx hb dX10_keep_25 rfl hl (Nat.le_of_ble_eq_true rfl) rfl (fun ls hl => ?_)
    obtain ⟨o26, hc26, hf⟩ := ob hf
    refine lp_X10_keep_26 C (fun H locs ls hP hS hl => ?_) fuel _ _ hc26 H locs ls hP hS (lv_sub hl [1, 2, 0] rfl)
    refine lv_aload_n hx hb dX10_keep_55 rfl (lv_at hl 0 rfl) ?_
    refine gm_10_14 C hin10 hP (List.mem_of_getElem? (i := 4) rfl) dX10_keep_56 ?_
    refine lv_iconst (v := (0 : Int32)) hx hb dX10_keep_59 (by decide) ?_
    refine ldm_7 (j := 0) C hP (by decide) (show ¬ ((0 : Int32) < 0 ∨ 16 ≤ (0 : Int32).toNatClampNeg) by decide) dX10_keep_60 ?_
    obtain rfl := Option.some.inj hf
    exact tRet_i C hr hlk hP hS dX10_keep_61
  · have hf := if_p hf c1
    refine lv_iconst (v := (-1 : Int32)) hx hb dX10_keep_15 (by decide) ?_
    obtain rfl := Option.some.inj hf
    exact tRet_i C hr hlk hP hS dX10_keep_16
def rmX10_again : Room := { frames := 1, cells := 0, slots := 0, locals := 25 }
theorem hn_X10_again_10 : ∀ w ∈ wsX100, w ∈ wsX10_again := fun w h => List.mem_cons_of_mem _ (List.mem_append_right _ h)
theorem hd_X10_again : yX10_again.cls ≠ "java/lang/invoke/MethodHandle" ∧ yX10_again.cls ≠ "java/lang/invoke/VarHandle" ∧ (parseMethodDescriptor yX10_again.desc).map (fun d => d.parameters.length) = some 1 := by decide +kernel
set_option maxHeartbeats 4000000 in
set_option maxRecDepth 100000 in
theorem lp_X10_again_31 {p : Program} {l : Launch} {e : Env} {s : State} {m : MethodId} {args : Array Value} {below : List Frame} {meth : Method} {c : Code} {D : va_G} {cI cZ : ClassId} {a : Nat → Nat} {Q : State → Prop} {H0 : Heap} {x1 : Int32} {o : St}
    (C : tC p c s m args cX10_again 3 RX10 wsX10_again D cI cZ (wM cI cZ a) (mA a))
    (K0 : ∀ (H : Heap) (locs : List Loc) (ls : Array Slot), va_P D vwCl (wM cI cZ a o) H → va_S (mA a) H0 H locs → lv_has ls 3 [(0, .ref (a 0))] → W p l e rmX10_again s m args below meth c H locs 0 0 Q (F0 m 60 ls [])) :
    ∀ (n : Nat) (x2 : Int32) (S : St), l_X10_again_31 x1 n x2 S = some o → ∀ (H : Heap) (locs : List Loc) (ls : Array Slot), va_P D vwCl (wM cI cZ a S) H → va_S (mA a) H0 H locs → lv_has ls 3 [(0, .ref (a 0)), (1, .int x1), (2, .int x2)] → W p l e rmX10_again s m args below meth c H locs 0 0 Q (F0 m 31 ls []) := by
  obtain ⟨⟨hx, hb, hml, hown, hts⟩, hK, hN, hA⟩ := id C
  have hin10 := hn_X10_again_10
  intro n
  induction n with
  | zero =>
    intro x2 S hf
    rw [l_X10_again_31] at hf
    cases hf
  | succ n ih =>
    intro x2 S hf H locs ls hP hS hl
    rw [l_X10_again_31] at hf
    refine lv_iload_n hx hb dX10_again_31 rfl (lv_at hl 2 rfl) ?_
    refine lv_bipush (v := (16 : Int32)) hx hb dX10_again_32 (by decide) ?_
    refine lv_icmp_ge (tgt := 60) hx hb dX10_again_34 (by decide) (fun c4 => ?_) (fun c4 => ?_)
    · have hf := if_p hf c4
      obtain rfl := Option.some.inj hf
      exact K0 H locs ls hP hS (lv_sub hl [0] rfl)
    · have hf := if_n hf c4
      refine lv_aload_n hx hb dX10_again_37 rfl (lv_at hl 0 rfl) ?_
      refine gm_10_14 C hin10 hP (List.mem_of_getElem? (i := 3) rfl) dX10_again_38 ?_
      refine lv_iload_n hx hb dX10_again_41 rfl (lv_at hl 2 rfl) ?_
      refine lv_aload_n hx hb dX10_again_42 rfl (lv_at hl 0 rfl) ?_
      refine gm_10_17 C hin10 hP (List.mem_of_getElem? (i := 4) rfl) dX10_again_43 ?_
      refine lv_bipush (v := (16 : Int32)) hx hb dX10_again_46 (by decide) ?_
      refine lv_iload_n hx hb dX10_again_48 rfl (lv_at hl 1 rfl) ?_
      refine lv_imul hx hb dX10_again_49 ?_
      refine lv_iload_n hx hb dX10_again_50 rfl (lv_at hl 2 rfl) ?_
      refine lv_iadd hx hb dX10_again_51 ?_
      obtain ⟨hi5, hf⟩ := ob_in hf
      refine ldm_9 C hP rfl hi5 dX10_again_52 ?_
      obtain ⟨hi6, hf⟩ := ob_in hf
      refine stm_7 C hP hS rfl hi6 dX10_again_53 (fun H locs hP hS => ?_)
      obtain ⟨S53, eS53⟩ : ∃ z, z = (sA S 7 x2.toNatClampNeg (S.2.1 9 ((((16 : Int32) * x1) + x2).toNatClampNeg))) := ⟨_, rfl⟩
      rw [← eS53] at hP
      have hf := nm_i hf eS53
      refine lv_iinc (v := (x2 + 1)) (lv' := [(2, .int (x2 + 1)), (0, .ref (a 0)), (1, .int x1)]) hx hb dX10_again_54 hl (k := 2) rfl rfl (Nat.le_of_ble_eq_true rfl) rfl (fun ls hl => ?_)
      refine lv_goto (tgt := 31) hx hb dX10_again_57 (by decide) ?_
      exact ih _ _ hf H locs ls hP hS (lv_sub hl [1, 2, 0] rfl)
set_option maxHeartbeats 4000000 in
set_option maxRecDepth 100000 in
theorem c_X10_again (l : Launch) {D : va_G} {cI cZ : ClassId} {a : Nat → Nat} (hA : ∀ S : St, va_D (mA a) (wM cI cZ a S)) {x1 : Int32} {S : St} {o : Int32 × St} (hf : f_X10_again x1 S = some o) : Met l yX10_again wsX10_again rmX10_again (tPc D cI cZ (wM cI cZ a) S ([.ref (a 0), .int x1] : List Value)) (tQi D (wM cI cZ a) (mA a) o.2 o.1) 0 0 (mA a) := by
  refine tEnter (cc := cX10_again) (maxL := 3) (ret := (some .int)) (own := RX10) hA rfl (by decide) rfl (Nat.le_of_ble_eq_true rfl) (fun p e s m args below meth c C hr hlk hP hS ls hl => ?_)
  obtain ⟨⟨hx, hb, hml, hown, hts⟩, hK, hN, -⟩ := id C
  have hl : lv_has ls 3 [(0, .ref (a 0)), (1, .int x1)] := hl
  have hin10 := hn_X10_again_10
  have hSS := hS
  rw [f_X10_again] at hf
  revert hP hS
  suffices hsuf : ∀ (H : Heap) (locs : List Loc), va_P D vwCl (wM cI cZ a S) H → va_S (mA a) s.heap H locs → W p l e rmX10_again s m args below meth c H locs 0 0 (MQ below (tQi D (wM cI cZ a) (mA a) o.2 o.1) args s 0 0 (mA a)) (F0 m 0 ls []) from fun hP hS => hsuf s.heap [] hP hS
  intro H locs hP hS
  refine lv_aload_n hx hb dX10_again_0 rfl (lv_at hl 0 rfl) ?_
  refine lv_iconst (v := (0 : Int32)) hx hb dX10_again_1 (by decide) ?_
  refine pm_10_0 C hin10 hP hS (List.mem_of_getElem? (i := 1) rfl) dX10_again_2 (fun H locs hP hS => ?_)
  obtain ⟨S2, eS2⟩ : ∃ z, z = (sI S 0 (0 : Int32)) := ⟨_, rfl⟩
  rw [← eS2] at hP
  have hf := nm_i hf eS2
  refine lv_iload_n hx hb dX10_again_5 rfl (lv_at hl 1 rfl) ?_
  refine lv_i2l hx hb dX10_again_6 rfl ?_
  refine lv_lconst (v := (0 : Int64)) hx hb dX10_again_7 (by decide) ?_
  refine lv_lconst (v := (1 : Int64)) hx hb dX10_again_8 (by decide) ?_
  obtain ⟨r9, hc9, hf⟩ := ob hf
  refine tCallSi (As := [.long x1.toInt64, .long (0 : Int64), .long (1 : Int64)]) (rest := []) C hP hS (c_X10_in l C.2.2.2 hc9) (va_cwS 3 hts gX10_again_X10_in rfl rfl rfl hd_X10_in ⟨Nat.le_of_ble_eq_true rfl, Nat.le_of_ble_eq_true rfl⟩) rfl hl rfl (Nat.le_of_ble_eq_true rfl) dX10_again_9 ⟨Nat.le_refl 0, Nat.le_refl 0⟩ (fun H locs hP hS => ?_)
  refine lv_if_ne (tgt := 17) hx hb dX10_again_12 (by decide) (fun c1 => ?_) (fun c1 => ?_)
  · have hf := if_n hf c1
    refine lv_aload_n hx hb dX10_again_17 rfl (lv_at hl 0 rfl) ?_
    refine gm_10_18 C hin10 hP (List.mem_of_getElem? (i := 2) rfl) dX10_again_18 ?_
    refine lv_iload_n hx hb dX10_again_21 rfl (lv_at hl 1 rfl) ?_
    obtain ⟨hi2, hf⟩ := ob_in hf
    refine ldm_10 C hP rfl hi2 dX10_again_22 ?_
    refine lv_if_ne (tgt := 29) hx hb dX10_again_23 (by decide) (fun c3 => ?_) (fun c3 => ?_)
    · have hf := if_n hf c3
      refine lv_iconst (v := (0 : Int32)) hx hb dX10_again_29 (by decide) ?_
      refine lv_istore_n (lv' := [(2, .int (0 : Int32)), (0, .ref (a 0)), (1, .int x1)]) hx hb dX10_again_30 rfl hl (Nat.le_of_ble_eq_true rfl) rfl (fun ls hl => ?_)
      obtain ⟨o31, hc31, hf⟩ := ob hf
      refine lp_X10_again_31 C (fun H locs ls hP hS hl => ?_) fuel _ _ hc31 H locs ls hP hS (lv_sub hl [1, 2, 0] rfl)
      refine lv_aload_n hx hb dX10_again_60 rfl (lv_at hl 0 rfl) ?_
      refine lv_iconst (v := (0 : Int32)) hx hb dX10_again_61 (by decide) ?_
      refine pm_10_16 C hin10 hP hS (List.mem_of_getElem? (i := 5) rfl) dX10_again_62 (fun H locs hP hS => ?_)
      obtain ⟨S62, eS62⟩ : ∃ z, z = (sI o31 7 (0 : Int32)) := ⟨_, rfl⟩
      rw [← eS62] at hP
      have hf := nm_i hf eS62
      refine lv_aload_n hx hb dX10_again_65 rfl (lv_at hl 0 rfl) ?_
      refine gm_10_14 C hin10 hP (List.mem_of_getElem? (i := 3) rfl) dX10_again_66 ?_
      refine lv_iconst (v := (0 : Int32)) hx hb dX10_again_69 (by decide) ?_
      refine ldm_7 (j := 0) C hP (by decide) (show ¬ ((0 : Int32) < 0 ∨ 16 ≤ (0 : Int32).toNatClampNeg) by decide) dX10_again_70 ?_
      obtain rfl := Option.some.inj hf
      exact tRet_i C hr hlk hP hS dX10_again_71
    · have hf := if_p hf c3
      refine lv_bipush (v := (-3 : Int32)) hx hb dX10_again_26 (by decide) ?_
      obtain rfl := Option.some.inj hf
      exact tRet_i C hr hlk hP hS dX10_again_28
  · have hf := if_p hf c1
    refine lv_iconst (v := (-1 : Int32)) hx hb dX10_again_15 (by decide) ?_
    obtain rfl := Option.some.inj hf
    exact tRet_i C hr hlk hP hS dX10_again_16
