def rmX10_divisor : Room := { frames := 1, cells := 0, slots := 0, locals := 20 }
theorem hd_X10_divisor : yX10_divisor.cls ≠ "java/lang/invoke/MethodHandle" ∧ yX10_divisor.cls ≠ "java/lang/invoke/VarHandle" ∧ (parseMethodDescriptor yX10_divisor.desc).map (fun d => d.parameters.length) = some 2 := by decide +kernel
set_option maxHeartbeats 4000000 in
set_option maxRecDepth 100000 in
theorem lp_X10_divisor_7 {p : Program} {l : Launch} {e : Env} {s : State} {m : MethodId} {args : Array Value} {below : List Frame} {meth : Method} {c : Code} {D : va_G} {cI cZ : ClassId} {a : Nat → Nat} {Q : State → Prop} {H0 : Heap} {S : St} {o : Int32}
    (C : tC p c s m args cX10_divisor 5 RX10 wsX10_divisor D cI cZ (wM cI cZ a) (mA a))
    (K0 : ∀ (H : Heap) (locs : List Loc) (ls : Array Slot), va_P D vwCl (wM cI cZ a S) H → va_S (mA a) H0 H locs → lv_has ls 5 [(2, .int o)] → W p l e rmX10_divisor s m args below meth c H locs 0 0 Q (F0 m 24 ls [])) :
    ∀ (n : Nat) (x2 : Int32) (x3 : Int32), l_X10_divisor_7 n x2 x3 = some o → ∀ (H : Heap) (locs : List Loc) (ls : Array Slot), va_P D vwCl (wM cI cZ a S) H → va_S (mA a) H0 H locs → lv_has ls 5 [(2, .int x2), (3, .int x3)] → W p l e rmX10_divisor s m args below meth c H locs 0 0 Q (F0 m 7 ls []) := by
  obtain ⟨⟨hx, hb, hml, hown, hts⟩, hK, hN, hA⟩ := id C
  intro n
  induction n with
  | zero =>
    intro x2 x3 hf
    rw [l_X10_divisor_7] at hf
    cases hf
  | succ n ih =>
    intro x2 x3 hf H locs ls hP hS hl
    rw [l_X10_divisor_7] at hf
    refine lv_iload_n hx hb dX10_divisor_7 rfl (lv_at hl 1 rfl) ?_
    refine lv_if_eq (tgt := 24) hx hb dX10_divisor_8 (by decide) (fun c1 => ?_) (fun c1 => ?_)
    · have hf := if_p hf c1
      obtain rfl := Option.some.inj hf
      exact K0 H locs ls hP hS (lv_sub hl [0] rfl)
    · have hf := if_n hf c1
      refine lv_iload_n hx hb dX10_divisor_11 rfl (lv_at hl 0 rfl) ?_
      refine lv_iload_n hx hb dX10_divisor_12 rfl (lv_at hl 1 rfl) ?_
      obtain ⟨hz2, hf⟩ := ob_ne hf
      refine lv_irem hx hb dX10_divisor_13 hz2 ?_
      refine lv_istore (lv' := [(4, .int (x2 - x2 / x3 * x3)), (2, .int x2), (3, .int x3)]) hx hb dX10_divisor_14 hl (Nat.le_of_ble_eq_true rfl) rfl (fun ls hl => ?_)
      refine lv_iload_n hx hb dX10_divisor_16 rfl (lv_at hl 2 rfl) ?_
      refine lv_istore_n (lv' := [(2, .int x3), (4, .int (x2 - x2 / x3 * x3)), (3, .int x3)]) hx hb dX10_divisor_17 rfl hl (Nat.le_of_ble_eq_true rfl) rfl (fun ls hl => ?_)
      refine lv_iload hx hb dX10_divisor_18 (lv_at hl 1 rfl) ?_
      refine lv_istore_n (lv' := [(3, .int (x2 - x2 / x3 * x3)), (2, .int x3), (4, .int (x2 - x2 / x3 * x3))]) hx hb dX10_divisor_20 rfl hl (Nat.le_of_ble_eq_true rfl) rfl (fun ls hl => ?_)
      refine lv_goto (tgt := 7) hx hb dX10_divisor_21 (by decide) ?_
      exact ih _ _ hf H locs ls hP hS (lv_sub hl [1, 0] rfl)
set_option maxHeartbeats 4000000 in
set_option maxRecDepth 100000 in
theorem c_X10_divisor (l : Launch) {D : va_G} {cI cZ : ClassId} {a : Nat → Nat} (hA : ∀ S : St, va_D (mA a) (wM cI cZ a S)) {x0 : Int32} {x1 : Int32} {S : St} {o : Int32} (hf : f_X10_divisor x0 x1 = some o) : Met l yX10_divisor wsX10_divisor rmX10_divisor (tPc D cI cZ (wM cI cZ a) S ([.int x0, .int x1] : List Value)) (tQi D (wM cI cZ a) (mA a) S o) 0 0 (mA a) := by
  refine tEnter (cc := cX10_divisor) (maxL := 5) (ret := (some .int)) (own := RX10) hA rfl (by decide) rfl (Nat.le_of_ble_eq_true rfl) (fun p e s m args below meth c C hr hlk hP hS ls hl => ?_)
  obtain ⟨⟨hx, hb, hml, hown, hts⟩, hK, hN, -⟩ := id C
  have hl : lv_has ls 5 [(0, .int x0), (1, .int x1)] := hl
  have hSS := hS
  rw [f_X10_divisor] at hf
  revert hP hS
  suffices hsuf : ∀ (H : Heap) (locs : List Loc), va_P D vwCl (wM cI cZ a S) H → va_S (mA a) s.heap H locs → W p l e rmX10_divisor s m args below meth c H locs 0 0 (MQ below (tQi D (wM cI cZ a) (mA a) S o) args s 0 0 (mA a)) (F0 m 0 ls []) from fun hP hS => hsuf s.heap [] hP hS
  intro H locs hP hS
  refine lv_iload_n hx hb dX10_divisor_0 rfl (lv_at hl 0 rfl) ?_
  obtain ⟨r1, hc1, hf⟩ := ob hf
  refine tCallSi (As := [.int x0]) (rest := []) C hP hS (c_X10_size l C.2.2.2 hc1) (va_cwS 1 hts gX10_divisor_X10_size rfl rfl rfl hd_X10_size ⟨Nat.le_of_ble_eq_true rfl, Nat.le_of_ble_eq_true rfl⟩) rfl hl rfl (Nat.le_of_ble_eq_true rfl) dX10_divisor_1 ⟨Nat.le_refl 0, Nat.le_refl 0⟩ (fun H locs hP hS => ?_)
  refine lv_istore_n (lv' := [(2, .int r1), (0, .int x0), (1, .int x1)]) hx hb dX10_divisor_4 rfl hl (Nat.le_of_ble_eq_true rfl) rfl (fun ls hl => ?_)
  refine lv_iload_n hx hb dX10_divisor_5 rfl (lv_at hl 2 rfl) ?_
  refine lv_istore_n (lv' := [(3, .int x1), (2, .int r1), (0, .int x0), (1, .int x1)]) hx hb dX10_divisor_6 rfl hl (Nat.le_of_ble_eq_true rfl) rfl (fun ls hl => ?_)
  obtain ⟨o7, hc7, hf⟩ := ob hf
  refine lp_X10_divisor_7 C (fun H locs ls hP hS hl => ?_) fuel _ _ hc7 H locs ls hP hS (lv_sub hl [1, 0] rfl)
  refine lv_iload_n hx hb dX10_divisor_24 rfl (lv_at hl 0 rfl) ?_
  obtain rfl := Option.some.inj hf
  exact tRet_i C hr hlk hP hS dX10_divisor_25
def rmX10_fraction : Room := { frames := 2, cells := 0, slots := 0, locals := 44 }
theorem hd_X10_fraction : yX10_fraction.cls ≠ "java/lang/invoke/MethodHandle" ∧ yX10_fraction.cls ≠ "java/lang/invoke/VarHandle" ∧ (parseMethodDescriptor yX10_fraction.desc).map (fun d => d.parameters.length) = some 3 := by decide +kernel
set_option maxHeartbeats 4000000 in
set_option maxRecDepth 100000 in
theorem c_X10_fraction (l : Launch) {D : va_G} {cI cZ : ClassId} {a : Nat → Nat} (hA : ∀ S : St, va_D (mA a) (wM cI cZ a S)) {x0 : Int32} {x1 : Int32} {x2 : Int32} {S : St} {o : Int32} (hf : f_X10_fraction x0 x1 x2 = some o) : Met l yX10_fraction wsX10_fraction rmX10_fraction (tPc D cI cZ (wM cI cZ a) S ([.int x0, .int x1, .int x2] : List Value)) (tQi D (wM cI cZ a) (mA a) S o) 0 0 (mA a) := by
  refine tEnter (cc := cX10_fraction) (maxL := 4) (ret := (some .int)) (own := RX10) hA rfl (by decide) rfl (Nat.le_of_ble_eq_true rfl) (fun p e s m args below meth c C hr hlk hP hS ls hl => ?_)
  obtain ⟨⟨hx, hb, hml, hown, hts⟩, hK, hN, -⟩ := id C
  have hl : lv_has ls 4 [(0, .int x0), (1, .int x1), (2, .int x2)] := hl
  have hSS := hS
  rw [f_X10_fraction] at hf
  revert hP hS
  suffices hsuf : ∀ (H : Heap) (locs : List Loc), va_P D vwCl (wM cI cZ a S) H → va_S (mA a) s.heap H locs → W p l e rmX10_fraction s m args below meth c H locs 0 0 (MQ below (tQi D (wM cI cZ a) (mA a) S o) args s 0 0 (mA a)) (F0 m 0 ls []) from fun hP hS => hsuf s.heap [] hP hS
  intro H locs hP hS
  refine lv_iload_n hx hb dX10_fraction_0 rfl (lv_at hl 0 rfl) ?_
  refine lv_iload_n hx hb dX10_fraction_1 rfl (lv_at hl 1 rfl) ?_
  obtain ⟨r2, hc2, hf⟩ := ob hf
  refine tCallSi (As := [.int x0, .int x1]) (rest := []) C hP hS (c_X10_divisor l C.2.2.2 hc2) (va_cwS 2 hts gX10_fraction_X10_divisor rfl rfl rfl hd_X10_divisor ⟨Nat.le_of_ble_eq_true rfl, Nat.le_of_ble_eq_true rfl⟩) rfl hl rfl (Nat.le_of_ble_eq_true rfl) dX10_fraction_2 ⟨Nat.le_refl 0, Nat.le_refl 0⟩ (fun H locs hP hS => ?_)
  refine lv_istore_n (lv' := [(3, .int r2), (0, .int x0), (1, .int x1), (2, .int x2)]) hx hb dX10_fraction_5 rfl hl (Nat.le_of_ble_eq_true rfl) rfl (fun ls hl => ?_)
  refine lv_iload_n hx hb dX10_fraction_6 rfl (lv_at hl 3 rfl) ?_
  refine lv_if_eq (tgt := 16) hx hb dX10_fraction_7 (by decide) (fun c1 => ?_) (fun c1 => ?_)
  · have hf := if_p hf c1
    refine lv_iload_n hx hb dX10_fraction_16 rfl (lv_at hl 2 rfl) ?_
    refine lv_iload_n hx hb dX10_fraction_17 rfl (lv_at hl 0 rfl) ?_
    obtain ⟨hz2, hf⟩ := ob_ne hf
    refine lv_idiv hx hb dX10_fraction_18 hz2 ?_
    obtain rfl := Option.some.inj hf
    exact tRet_i C hr hlk hP hS dX10_fraction_19
  · have hf := if_n hf c1
    refine lv_iload_n hx hb dX10_fraction_10 rfl (lv_at hl 1 rfl) ?_
    refine lv_iload_n hx hb dX10_fraction_11 rfl (lv_at hl 0 rfl) ?_
    obtain ⟨hz3, hf⟩ := ob_ne hf
    refine lv_idiv hx hb dX10_fraction_12 hz3 ?_
    refine lv_goto (tgt := 19) hx hb dX10_fraction_13 (by decide) ?_
    obtain rfl := Option.some.inj hf
    exact tRet_i C hr hlk hP hS dX10_fraction_19
def rmX10_share : Room := { frames := 3, cells := 0, slots := 0, locals := 67 }
theorem hn_X10_share_10 : ∀ w ∈ wsX100, w ∈ wsX10_share := fun w h => List.mem_cons_of_mem _ (List.mem_append_right _ h)
theorem hd_X10_share : yX10_share.cls ≠ "java/lang/invoke/MethodHandle" ∧ yX10_share.cls ≠ "java/lang/invoke/VarHandle" ∧ (parseMethodDescriptor yX10_share.desc).map (fun d => d.parameters.length) = some 3 := by decide +kernel
set_option maxHeartbeats 4000000 in
set_option maxRecDepth 100000 in
theorem lp_X10_share_66 {p : Program} {l : Launch} {e : Env} {s : State} {m : MethodId} {args : Array Value} {below : List Frame} {meth : Method} {c : Code} {D : va_G} {cI cZ : ClassId} {a : Nat → Nat} {Q : State → Prop} {H0 : Heap} {x1 : Int32} {x2 : Int32} {x3 : Int32} {x4 : Int32} {x6 : Int32} {S : St} {o : Int32}
    (C : tC p c s m args cX10_share 8 RX10 wsX10_share D cI cZ (wM cI cZ a) (mA a))
    (K0 : ∀ (H : Heap) (locs : List Loc) (ls : Array Slot), va_P D vwCl (wM cI cZ a S) H → va_S (mA a) H0 H locs → lv_has ls 8 [(0, .ref (a 0)), (1, .int x1), (2, .int x2), (3, .int x3), (4, .int x4), (5, .int o), (6, .int x6)] → W p l e rmX10_share s m args below meth c H locs 0 0 Q (F0 m 112 ls [])) :
    ∀ (n : Nat) (x5 : Int32) (x7 : Int32), l_X10_share_66 x1 x2 x3 x4 x6 S n x5 x7 = some o → ∀ (H : Heap) (locs : List Loc) (ls : Array Slot), va_P D vwCl (wM cI cZ a S) H → va_S (mA a) H0 H locs → lv_has ls 8 [(0, .ref (a 0)), (1, .int x1), (2, .int x2), (3, .int x3), (4, .int x4), (5, .int x5), (6, .int x6), (7, .int x7)] → W p l e rmX10_share s m args below meth c H locs 0 0 Q (F0 m 66 ls []) := by
  obtain ⟨⟨hx, hb, hml, hown, hts⟩, hK, hN, hA⟩ := id C
  have hin10 := hn_X10_share_10
  intro n
  induction n with
  | zero =>
    intro x5 x7 hf
    rw [l_X10_share_66] at hf
    cases hf
  | succ n ih =>
    intro x5 x7 hf H locs ls hP hS hl
    rw [l_X10_share_66] at hf
    refine lv_iload hx hb dX10_share_66 (lv_at hl 7 rfl) ?_
    refine lv_aload_n hx hb dX10_share_68 rfl (lv_at hl 0 rfl) ?_
    refine gm_10_14 C hin10 hP (List.mem_of_getElem? (i := 3) rfl) dX10_share_69 ?_
    refine lv_iconst (v := (0 : Int32)) hx hb dX10_share_72 (by decide) ?_
    refine ldm_7 (j := 0) C hP (by decide) (show ¬ ((0 : Int32) < 0 ∨ 16 ≤ (0 : Int32).toNatClampNeg) by decide) dX10_share_73 ?_
    refine lv_iload_n hx hb dX10_share_74 rfl (lv_at hl 2 rfl) ?_
    refine lv_iadd hx hb dX10_share_75 ?_
    refine lv_icmp_ge (tgt := 112) hx hb dX10_share_76 (by decide) (fun c7 => ?_) (fun c7 => ?_)
    · have hf := if_p hf c7
      obtain rfl := Option.some.inj hf
      exact K0 H locs ls hP hS (lv_sub hl [0, 1, 2, 3, 4, 5, 6] rfl)
    · have hf := if_n hf c7
      refine lv_iload hx hb dX10_share_79 (lv_at hl 5 rfl) ?_
      refine lv_iload hx hb dX10_share_81 (lv_at hl 4 rfl) ?_
      refine lv_iload hx hb dX10_share_83 (lv_at hl 6 rfl) ?_
      obtain ⟨r85, hc85, hf⟩ := ob hf
      refine tCallSi (As := [.int x4, .int x6]) (rest := [.int x5]) C hP hS (c_X10_has l C.2.2.2 hc85) (va_cwS 2 hts gX10_share_X10_has rfl rfl rfl hd_X10_has ⟨Nat.le_of_ble_eq_true rfl, Nat.le_of_ble_eq_true rfl⟩) rfl hl rfl (Nat.le_of_ble_eq_true rfl) dX10_share_85 ⟨Nat.le_refl 0, Nat.le_refl 0⟩ (fun H locs hP hS => ?_)
      refine lv_if_eq (tgt := 102) hx hb dX10_share_88 (by decide) (fun c8 => ?_) (fun c8 => ?_)
      · have hf := if_p hf c8
        refine lv_iconst (v := (0 : Int32)) hx hb dX10_share_102 (by decide) ?_
        refine lv_iadd hx hb dX10_share_103 ?_
        refine lv_istore (lv' := [(5, .int (x5 + (0 : Int32))), (0, .ref (a 0)), (1, .int x1), (2, .int x2), (3, .int x3), (4, .int x4), (6, .int x6), (7, .int x7)]) hx hb dX10_share_104 hl (Nat.le_of_ble_eq_true rfl) rfl (fun ls hl => ?_)
        refine lv_iinc (v := (x7 + 1)) (lv' := [(7, .int (x7 + 1)), (5, .int (x5 + (0 : Int32))), (0, .ref (a 0)), (1, .int x1), (2, .int x2), (3, .int x3), (4, .int x4), (6, .int x6)]) hx hb dX10_share_106 hl (k := 7) rfl rfl (Nat.le_of_ble_eq_true rfl) rfl (fun ls hl => ?_)
        refine lv_goto (tgt := 66) hx hb dX10_share_109 (by decide) ?_
        exact ih _ _ hf H locs ls hP hS (lv_sub hl [2, 3, 4, 5, 6, 1, 7, 0] rfl)
      · have hf := if_n hf c8
        refine lv_aload_n hx hb dX10_share_91 rfl (lv_at hl 0 rfl) ?_
        refine lv_iload hx hb dX10_share_92 (lv_at hl 7 rfl) ?_
        refine lv_iload hx hb dX10_share_94 (lv_at hl 6 rfl) ?_
        obtain ⟨r96, hc96, hf⟩ := ob hf
        refine tCallVi (As := [.int x7, .int x6]) (rest := [.int x5]) (q0 := 0) (ci := 10) C hP hS rfl rfl (c_X10_sourceOf l C.2.2.2 hc96) (cwV 2 hts gX10_share_X10_sourceOf rfl rfl rfl ⟨rfl, hd_X10_sourceOf⟩ ⟨Nat.le_of_ble_eq_true rfl, Nat.le_of_ble_eq_true rfl⟩) rfl hl rfl (Nat.le_of_ble_eq_true rfl) dX10_share_96 ⟨Nat.le_refl 0, Nat.le_refl 0⟩ (fun H locs hP hS => ?_)
        refine lv_goto (tgt := 103) hx hb dX10_share_99 (by decide) ?_
        refine lv_iadd hx hb dX10_share_103 ?_
        refine lv_istore (lv' := [(5, .int (x5 + r96)), (0, .ref (a 0)), (1, .int x1), (2, .int x2), (3, .int x3), (4, .int x4), (6, .int x6), (7, .int x7)]) hx hb dX10_share_104 hl (Nat.le_of_ble_eq_true rfl) rfl (fun ls hl => ?_)
        refine lv_iinc (v := (x7 + 1)) (lv' := [(7, .int (x7 + 1)), (5, .int (x5 + r96)), (0, .ref (a 0)), (1, .int x1), (2, .int x2), (3, .int x3), (4, .int x4), (6, .int x6)]) hx hb dX10_share_106 hl (k := 7) rfl rfl (Nat.le_of_ble_eq_true rfl) rfl (fun ls hl => ?_)
        refine lv_goto (tgt := 66) hx hb dX10_share_109 (by decide) ?_
        exact ih _ _ hf H locs ls hP hS (lv_sub hl [2, 3, 4, 5, 6, 1, 7, 0] rfl)
set_option maxHeartbeats 4000000 in
set_option maxRecDepth 100000 in
theorem lp_X10_share_52 {p : Program} {l : Launch} {e : Env} {s : State} {m : MethodId} {args : Array Value} {below : List Frame} {meth : Method} {c : Code} {D : va_G} {cI cZ : ClassId} {a : Nat → Nat} {Q : State → Prop} {H0 : Heap} {x1 : Int32} {x2 : Int32} {x3 : Int32} {x4 : Int32} {S : St} {o : Int32}
    (C : tC p c s m args cX10_share 8 RX10 wsX10_share D cI cZ (wM cI cZ a) (mA a))
    (K0 : ∀ (H : Heap) (locs : List Loc) (ls : Array Slot), va_P D vwCl (wM cI cZ a S) H → va_S (mA a) H0 H locs → lv_has ls 8 [(0, .ref (a 0)), (1, .int x1), (2, .int x2), (3, .int x3), (4, .int x4), (5, .int o)] → W p l e rmX10_share s m args below meth c H locs 0 0 Q (F0 m 118 ls [])) :
    ∀ (n : Nat) (x5 : Int32) (x6 : Int32), l_X10_share_52 x1 x2 x3 x4 S n x5 x6 = some o → ∀ (H : Heap) (locs : List Loc) (ls : Array Slot), va_P D vwCl (wM cI cZ a S) H → va_S (mA a) H0 H locs → lv_has ls 8 [(0, .ref (a 0)), (1, .int x1), (2, .int x2), (3, .int x3), (4, .int x4), (5, .int x5), (6, .int x6)] → W p l e rmX10_share s m args below meth c H locs 0 0 Q (F0 m 52 ls []) := by
  obtain ⟨⟨hx, hb, hml, hown, hts⟩, hK, hN, hA⟩ := id C
  have hin10 := hn_X10_share_10
  intro n
  induction n with
  | zero =>
    intro x5 x6 hf
    rw [l_X10_share_52] at hf
    cases hf
  | succ n ih =>
    intro x5 x6 hf H locs ls hP hS hl
    rw [l_X10_share_52] at hf
    refine lv_iload hx hb dX10_share_52 (lv_at hl 6 rfl) ?_
    refine lv_iconst (v := (4 : Int32)) hx hb dX10_share_54 (by decide) ?_
    refine lv_icmp_ge (tgt := 118) hx hb dX10_share_55 (by decide) (fun c4 => ?_) (fun c4 => ?_)
    · have hf := if_p hf c4
      obtain rfl := Option.some.inj hf
      exact K0 H locs ls hP hS (lv_sub hl [0, 1, 2, 3, 4, 5] rfl)
    · have hf := if_n hf c4
      refine lv_aload_n hx hb dX10_share_58 rfl (lv_at hl 0 rfl) ?_
      refine gm_10_14 C hin10 hP (List.mem_of_getElem? (i := 3) rfl) dX10_share_59 ?_
      refine lv_iconst (v := (0 : Int32)) hx hb dX10_share_62 (by decide) ?_
      refine ldm_7 (j := 0) C hP (by decide) (show ¬ ((0 : Int32) < 0 ∨ 16 ≤ (0 : Int32).toNatClampNeg) by decide) dX10_share_63 ?_
      refine lv_istore (lv' := [(7, .int (S.2.1 7 0)), (0, .ref (a 0)), (1, .int x1), (2, .int x2), (3, .int x3), (4, .int x4), (5, .int x5), (6, .int x6)]) hx hb dX10_share_64 hl (Nat.le_of_ble_eq_true rfl) rfl (fun ls hl => ?_)
      obtain ⟨o66, hc66, hf⟩ := ob hf
      refine lp_X10_share_66 C (fun H locs ls hP hS hl => ?_) fuel _ _ hc66 H locs ls hP hS (lv_sub hl [1, 2, 3, 4, 5, 6, 7, 0] rfl)
      refine lv_iinc (v := (x6 + 1)) (lv' := [(6, .int (x6 + 1)), (0, .ref (a 0)), (1, .int x1), (2, .int x2), (3, .int x3), (4, .int x4), (5, .int o66)]) hx hb dX10_share_112 hl (k := 6) rfl rfl (Nat.le_of_ble_eq_true rfl) rfl (fun ls hl => ?_)
      refine lv_goto (tgt := 52) hx hb dX10_share_115 (by decide) ?_
      exact ih _ _ hf H locs ls hP hS (lv_sub hl [1, 2, 3, 4, 5, 6, 0] rfl)
set_option maxHeartbeats 4000000 in
set_option maxRecDepth 100000 in
theorem lp_X10_share_39 {p : Program} {l : Launch} {e : Env} {s : State} {m : MethodId} {args : Array Value} {below : List Frame} {meth : Method} {c : Code} {D : va_G} {cI cZ : ClassId} {a : Nat → Nat} {Q : State → Prop} {H0 : Heap} {x1 : Int32} {x2 : Int32} {x3 : Int32} {o : St}
    (C : tC p c s m args cX10_share 8 RX10 wsX10_share D cI cZ (wM cI cZ a) (mA a))
    (K0 : ∀ (H : Heap) (locs : List Loc) (ls : Array Slot), va_P D vwCl (wM cI cZ a o) H → va_S (mA a) H0 H locs → lv_has ls 8 [(0, .ref (a 0)), (1, .int x1), (3, .int x3)] → W p l e rmX10_share s m args below meth c H locs 0 0 Q (F0 m 136 ls [])) :
    ∀ (n : Nat) (x4 : Int32) (S : St), l_X10_share_39 x1 x2 x3 n x4 S = some o → ∀ (H : Heap) (locs : List Loc) (ls : Array Slot), va_P D vwCl (wM cI cZ a S) H → va_S (mA a) H0 H locs → lv_has ls 8 [(0, .ref (a 0)), (1, .int x1), (2, .int x2), (3, .int x3), (4, .int x4)] → W p l e rmX10_share s m args below meth c H locs 0 0 Q (F0 m 39 ls []) := by
  obtain ⟨⟨hx, hb, hml, hown, hts⟩, hK, hN, hA⟩ := id C
  have hin10 := hn_X10_share_10
  intro n
  induction n with
  | zero =>
    intro x4 S hf
    rw [l_X10_share_39] at hf
    cases hf
  | succ n ih =>
    intro x4 S hf H locs ls hP hS hl
    rw [l_X10_share_39] at hf
    refine lv_iload hx hb dX10_share_39 (lv_at hl 4 rfl) ?_
    refine lv_bipush (v := (16 : Int32)) hx hb dX10_share_41 (by decide) ?_
    refine lv_icmp_ge (tgt := 136) hx hb dX10_share_43 (by decide) (fun c3 => ?_) (fun c3 => ?_)
    · have hf := if_p hf c3
      obtain rfl := Option.some.inj hf
      exact K0 H locs ls hP hS (lv_sub hl [0, 1, 3] rfl)
    · have hf := if_n hf c3
      refine lv_iconst (v := (0 : Int32)) hx hb dX10_share_46 (by decide) ?_
      refine lv_istore (lv' := [(5, .int (0 : Int32)), (0, .ref (a 0)), (1, .int x1), (2, .int x2), (3, .int x3), (4, .int x4)]) hx hb dX10_share_47 hl (Nat.le_of_ble_eq_true rfl) rfl (fun ls hl => ?_)
      refine lv_iconst (v := (0 : Int32)) hx hb dX10_share_49 (by decide) ?_
      refine lv_istore (lv' := [(6, .int (0 : Int32)), (5, .int (0 : Int32)), (0, .ref (a 0)), (1, .int x1), (2, .int x2), (3, .int x3), (4, .int x4)]) hx hb dX10_share_50 hl (Nat.le_of_ble_eq_true rfl) rfl (fun ls hl => ?_)
      obtain ⟨o52, hc52, hf⟩ := ob hf
      refine lp_X10_share_52 C (fun H locs ls hP hS hl => ?_) fuel _ _ hc52 H locs ls hP hS (lv_sub hl [2, 3, 4, 5, 6, 1, 0] rfl)
      refine lv_aload_n hx hb dX10_share_118 rfl (lv_at hl 0 rfl) ?_
      refine gm_10_25 C hin10 hP (List.mem_of_getElem? (i := 4) rfl) dX10_share_119 ?_
      refine lv_iload hx hb dX10_share_122 (lv_at hl 4 rfl) ?_
      refine lv_iload hx hb dX10_share_124 (lv_at hl 5 rfl) ?_
      obtain ⟨r126, hc126, hf⟩ := ob hf
      refine tCallSi (As := [.int o52]) (rest := [.int x4, .ref (a 14)]) C hP hS (c_X10_size l C.2.2.2 hc126) (va_cwS 1 hts gX10_share_X10_size rfl rfl rfl hd_X10_size ⟨Nat.le_of_ble_eq_true rfl, Nat.le_of_ble_eq_true rfl⟩) rfl hl rfl (Nat.le_of_ble_eq_true rfl) dX10_share_126 ⟨Nat.le_refl 0, Nat.le_refl 0⟩ (fun H locs hP hS => ?_)
      obtain ⟨hi9, hf⟩ := ob_in hf
      refine stm_13 C hP hS rfl hi9 dX10_share_129 (fun H locs hP hS => ?_)
      obtain ⟨S129, eS129⟩ : ∃ z, z = (sA S 13 x4.toNatClampNeg r126) := ⟨_, rfl⟩
      rw [← eS129] at hP
      have hf := nm_i hf eS129
      refine lv_iinc (v := (x4 + 1)) (lv' := [(4, .int (x4 + 1)), (0, .ref (a 0)), (1, .int x1), (2, .int x2), (3, .int x3), (5, .int o52)]) hx hb dX10_share_130 hl (k := 4) rfl rfl (Nat.le_of_ble_eq_true rfl) rfl (fun ls hl => ?_)
      refine lv_goto (tgt := 39) hx hb dX10_share_133 (by decide) ?_
      exact ih _ _ hf H locs ls hP hS (lv_sub hl [1, 2, 3, 4, 0] rfl)
set_option maxHeartbeats 4000000 in
set_option maxRecDepth 100000 in
theorem lp_X10_share_142 {p : Program} {l : Launch} {e : Env} {s : State} {m : MethodId} {args : Array Value} {below : List Frame} {meth : Method} {c : Code} {D : va_G} {cI cZ : ClassId} {a : Nat → Nat} {Q : State → Prop} {H0 : Heap} {x1 : Int32} {x3 : Int32} {S : St} {o : Int32}
    (C : tC p c s m args cX10_share 8 RX10 wsX10_share D cI cZ (wM cI cZ a) (mA a))
    (K0 : ∀ (H : Heap) (locs : List Loc) (ls : Array Slot), va_P D vwCl (wM cI cZ a S) H → va_S (mA a) H0 H locs → lv_has ls 8 [(3, .int x3), (4, .int o)] → W p l e rmX10_share s m args below meth c H locs 0 0 Q (F0 m 209 ls [])) :
    ∀ (n : Nat) (x4 : Int32) (x5 : Int32), l_X10_share_142 x1 x3 S n x4 x5 = some o → ∀ (H : Heap) (locs : List Loc) (ls : Array Slot), va_P D vwCl (wM cI cZ a S) H → va_S (mA a) H0 H locs → lv_has ls 8 [(0, .ref (a 0)), (1, .int x1), (3, .int x3), (4, .int x4), (5, .int x5)] → W p l e rmX10_share s m args below meth c H locs 0 0 Q (F0 m 142 ls []) := by
  obtain ⟨⟨hx, hb, hml, hown, hts⟩, hK, hN, hA⟩ := id C
  have hin10 := hn_X10_share_10
  intro n
  induction n with
  | zero =>
    intro x4 x5 hf
    rw [l_X10_share_142] at hf
    cases hf
  | succ n ih =>
    intro x4 x5 hf H locs ls hP hS hl
    rw [l_X10_share_142] at hf
    refine lv_iload hx hb dX10_share_142 (lv_at hl 4 rfl) ?_
    refine lv_bipush (v := (16 : Int32)) hx hb dX10_share_144 (by decide) ?_
    refine lv_icmp_ge (tgt := 209) hx hb dX10_share_146 (by decide) (fun c10 => ?_) (fun c10 => ?_)
    · have hf := if_p hf c10
      obtain rfl := Option.some.inj hf
      exact K0 H locs ls hP hS (lv_sub hl [2, 3] rfl)
    · have hf := if_n hf c10
      refine lv_iload hx hb dX10_share_149 (lv_at hl 4 rfl) ?_
      refine lv_iload_n hx hb dX10_share_151 rfl (lv_at hl 1 rfl) ?_
      obtain ⟨r152, hc152, hf⟩ := ob hf
      refine tCallSi (As := [.int x5, .int x1]) (rest := []) C hP hS (c_X10_has l C.2.2.2 hc152) (va_cwS 2 hts gX10_share_X10_has rfl rfl rfl hd_X10_has ⟨Nat.le_of_ble_eq_true rfl, Nat.le_of_ble_eq_true rfl⟩) rfl hl rfl (Nat.le_of_ble_eq_true rfl) dX10_share_152 ⟨Nat.le_refl 0, Nat.le_refl 0⟩ (fun H locs hP hS => ?_)
      refine lv_if_ne (tgt := 203) hx hb dX10_share_155 (by decide) (fun c11 => ?_) (fun c11 => ?_)
      · have hf := if_n hf c11
        refine lv_iinc (v := (x5 + 1)) (lv' := [(5, .int (x5 + 1)), (0, .ref (a 0)), (1, .int x1), (3, .int x3), (4, .int x4)]) hx hb dX10_share_203 hl (k := 4) rfl rfl (Nat.le_of_ble_eq_true rfl) rfl (fun ls hl => ?_)
        refine lv_goto (tgt := 142) hx hb dX10_share_206 (by decide) ?_
        exact ih _ _ hf H locs ls hP hS (lv_sub hl [1, 2, 3, 4, 0] rfl)
      · have hf := if_p hf c11
        refine lv_iload hx hb dX10_share_158 (lv_at hl 4 rfl) ?_
        obtain ⟨r160, hc160, hf⟩ := ob hf
        refine tCallSi (As := [.int x5]) (rest := []) C hP hS (c_X10_many l C.2.2.2 hc160) (va_cwS 1 hts gX10_share_X10_many rfl rfl rfl hd_X10_many ⟨Nat.le_of_ble_eq_true rfl, Nat.le_of_ble_eq_true rfl⟩) rfl hl rfl (Nat.le_of_ble_eq_true rfl) dX10_share_160 ⟨Nat.le_refl 0, Nat.le_refl 0⟩ (fun H locs hP hS => ?_)
        refine lv_istore (lv' := [(6, .int r160), (0, .ref (a 0)), (1, .int x1), (3, .int x3), (4, .int x4), (5, .int x5)]) hx hb dX10_share_163 hl (Nat.le_of_ble_eq_true rfl) rfl (fun ls hl => ?_)
        refine lv_iload hx hb dX10_share_165 (lv_at hl 4 rfl) ?_
        refine lv_iload hx hb dX10_share_167 (lv_at hl 0 rfl) ?_
        obtain ⟨r169, hc169, hf⟩ := ob hf
        refine tCallSi (As := [.int r160]) (rest := [.int x4]) C hP hS (c_X10_orders l C.2.2.2 hc169) (va_cwS 1 hts gX10_share_X10_orders rfl rfl rfl hd_X10_orders ⟨Nat.le_of_ble_eq_true rfl, Nat.le_of_ble_eq_true rfl⟩) rfl hl rfl (Nat.le_of_ble_eq_true rfl) dX10_share_169 ⟨Nat.le_refl 0, Nat.le_refl 0⟩ (fun H locs hP hS => ?_)
        refine lv_iconst (v := (3 : Int32)) hx hb dX10_share_172 (by decide) ?_
        refine lv_iload hx hb dX10_share_173 (lv_at hl 0 rfl) ?_
        refine lv_isub hx hb dX10_share_175 ?_
        obtain ⟨r176, hc176, hf⟩ := ob hf
        refine tCallSi (As := [.int ((3 : Int32) - r160)]) (rest := [.int r169, .int x4]) C hP hS (c_X10_orders l C.2.2.2 hc176) (va_cwS 1 hts gX10_share_X10_orders rfl rfl rfl hd_X10_orders ⟨Nat.le_of_ble_eq_true rfl, Nat.le_of_ble_eq_true rfl⟩) rfl hl rfl (Nat.le_of_ble_eq_true rfl) dX10_share_176 ⟨Nat.le_refl 0, Nat.le_refl 0⟩ (fun H locs hP hS => ?_)
        refine lv_imul hx hb dX10_share_179 ?_
        refine lv_aload_n hx hb dX10_share_180 rfl (lv_at hl 1 rfl) ?_
        refine gm_10_25 C hin10 hP (List.mem_of_getElem? (i := 4) rfl) dX10_share_181 ?_
        refine lv_iload hx hb dX10_share_184 (lv_at hl 5 rfl) ?_
        refine lv_iconst (v := (1 : Int32)) hx hb dX10_share_186 (by decide) ?_
        refine lv_iload_n hx hb dX10_share_187 rfl (lv_at hl 2 rfl) ?_
        refine lv_ishl hx hb dX10_share_188 ?_
        refine lv_ior hx hb dX10_share_189 ?_
        obtain ⟨hi12, hf⟩ := ob_in hf
        refine ldm_13 C hP rfl hi12 dX10_share_190 ?_
        refine lv_aload_n hx hb dX10_share_191 rfl (lv_at hl 1 rfl) ?_
        refine gm_10_25 C hin10 hP (List.mem_of_getElem? (i := 4) rfl) dX10_share_192 ?_
        refine lv_iload hx hb dX10_share_195 (lv_at hl 5 rfl) ?_
        obtain ⟨hi13, hf⟩ := ob_in hf
        refine ldm_13 C hP rfl hi13 dX10_share_197 ?_
        refine lv_isub hx hb dX10_share_198 ?_
        refine lv_imul hx hb dX10_share_199 ?_
        refine lv_iadd hx hb dX10_share_200 ?_
        refine lv_topi (fun v201 e201 => ?_)
        have hf := nm_i hf e201
        refine lv_istore (lv' := [(4, .int v201), (6, .int r160), (0, .ref (a 0)), (1, .int x1), (3, .int x3), (5, .int x5)]) hx hb dX10_share_201 hl (Nat.le_of_ble_eq_true rfl) rfl (fun ls hl => ?_)
        refine lv_iinc (v := (x5 + 1)) (lv' := [(5, .int (x5 + 1)), (4, .int v201), (6, .int r160), (0, .ref (a 0)), (1, .int x1), (3, .int x3)]) hx hb dX10_share_203 hl (k := 5) rfl rfl (Nat.le_of_ble_eq_true rfl) rfl (fun ls hl => ?_)
        refine lv_goto (tgt := 142) hx hb dX10_share_206 (by decide) ?_
        exact ih _ _ hf H locs ls hP hS (lv_sub hl [3, 4, 5, 1, 0] rfl)
set_option maxHeartbeats 4000000 in
set_option maxRecDepth 100000 in
theorem c_X10_share (l : Launch) {D : va_G} {cI cZ : ClassId} {a : Nat → Nat} (hA : ∀ S : St, va_D (mA a) (wM cI cZ a S)) {x1 : Int32} {x2 : Int32} {x3 : Int32} {S : St} {o : Int32 × St} (hf : f_X10_share x1 x2 x3 S = some o) : Met l yX10_share wsX10_share rmX10_share (tPc D cI cZ (wM cI cZ a) S ([.ref (a 0), .int x1, .int x2, .int x3] : List Value)) (tQi D (wM cI cZ a) (mA a) o.2 o.1) 0 0 (mA a) := by
  refine tEnter (cc := cX10_share) (maxL := 8) (ret := (some .int)) (own := RX10) hA rfl (by decide) rfl (Nat.le_of_ble_eq_true rfl) (fun p e s m args below meth c C hr hlk hP hS ls hl => ?_)
  obtain ⟨⟨hx, hb, hml, hown, hts⟩, hK, hN, -⟩ := id C
  have hl : lv_has ls 8 [(0, .ref (a 0)), (1, .int x1), (2, .int x2), (3, .int x3)] := hl
  have hin10 := hn_X10_share_10
  have hSS := hS
  rw [f_X10_share] at hf
  revert hP hS
  suffices hsuf : ∀ (H : Heap) (locs : List Loc), va_P D vwCl (wM cI cZ a S) H → va_S (mA a) s.heap H locs → W p l e rmX10_share s m args below meth c H locs 0 0 (MQ below (tQi D (wM cI cZ a) (mA a) o.2 o.1) args s 0 0 (mA a)) (F0 m 0 ls []) from fun hP hS => hsuf s.heap [] hP hS
  intro H locs hP hS
  refine lv_aload_n hx hb dX10_share_0 rfl (lv_at hl 0 rfl) ?_
  refine lv_iconst (v := (0 : Int32)) hx hb dX10_share_1 (by decide) ?_
  refine pm_10_0 C hin10 hP hS (List.mem_of_getElem? (i := 1) rfl) dX10_share_2 (fun H locs hP hS => ?_)
  obtain ⟨S2, eS2⟩ : ∃ z, z = (sI S 0 (0 : Int32)) := ⟨_, rfl⟩
  rw [← eS2] at hP
  have hf := nm_i hf eS2
  refine lv_iload_n hx hb dX10_share_5 rfl (lv_at hl 1 rfl) ?_
  refine lv_i2l hx hb dX10_share_6 rfl ?_
  refine lv_lconst (v := (0 : Int64)) hx hb dX10_share_7 (by decide) ?_
  refine lv_ldc2 (v := (3 : Int64)) hx hb hown (hts _ (List.mem_of_getElem? (i := 2) rfl)) dX10_share_8 ?_
  obtain ⟨r11, hc11, hf⟩ := ob hf
  refine tCallSi (As := [.long x1.toInt64, .long (0 : Int64), .long (3 : Int64)]) (rest := []) C hP hS (c_X10_in l C.2.2.2 hc11) (va_cwS 3 hts gX10_share_X10_in rfl rfl rfl hd_X10_in ⟨Nat.le_of_ble_eq_true rfl, Nat.le_of_ble_eq_true rfl⟩) rfl hl rfl (Nat.le_of_ble_eq_true rfl) dX10_share_11 ⟨Nat.le_refl 0, Nat.le_refl 0⟩ (fun H locs hP hS => ?_)
  refine lv_if_ne (tgt := 19) hx hb dX10_share_14 (by decide) (fun c1 => ?_) (fun c1 => ?_)
  · have hf := if_n hf c1
    refine lv_iload_n hx hb dX10_share_19 rfl (lv_at hl 2 rfl) ?_
    refine lv_i2l hx hb dX10_share_20 rfl ?_
    refine lv_lconst (v := (0 : Int64)) hx hb dX10_share_21 (by decide) ?_
    refine lv_aload_n hx hb dX10_share_22 rfl (lv_at hl 0 rfl) ?_
    obtain ⟨r23, hc23, hf⟩ := ob hf
    refine tCallVi (As := []) (rest := [.long (0 : Int64), .long x2.toInt64]) (q0 := 0) (ci := 10) C hP hS rfl rfl (c_X10_ahead l C.2.2.2 hc23) (cwV 0 hts gX10_share_X10_ahead rfl rfl rfl ⟨rfl, hd_X10_ahead⟩ ⟨Nat.le_of_ble_eq_true rfl, Nat.le_of_ble_eq_true rfl⟩) rfl hl rfl (Nat.le_of_ble_eq_true rfl) dX10_share_23 ⟨Nat.le_refl 0, Nat.le_refl 0⟩ (fun H locs hP hS => ?_)
    refine lv_i2l hx hb dX10_share_26 rfl ?_
    obtain ⟨r27, hc27, hf⟩ := ob hf
    refine tCallSi (As := [.long x2.toInt64, .long (0 : Int64), .long r23.toInt64]) (rest := []) C hP hS (c_X10_in l C.2.2.2 hc27) (va_cwS 3 hts gX10_share_X10_in rfl rfl rfl hd_X10_in ⟨Nat.le_of_ble_eq_true rfl, Nat.le_of_ble_eq_true rfl⟩) rfl hl rfl (Nat.le_of_ble_eq_true rfl) dX10_share_27 ⟨Nat.le_refl 0, Nat.le_refl 0⟩ (fun H locs hP hS => ?_)
    refine lv_if_ne (tgt := 36) hx hb dX10_share_30 (by decide) (fun c2 => ?_) (fun c2 => ?_)
    · have hf := if_n hf c2
      refine lv_iconst (v := (0 : Int32)) hx hb dX10_share_36 (by decide) ?_
      refine lv_istore (lv' := [(4, .int (0 : Int32)), (0, .ref (a 0)), (1, .int x1), (2, .int x2), (3, .int x3)]) hx hb dX10_share_37 hl (Nat.le_of_ble_eq_true rfl) rfl (fun ls hl => ?_)
      obtain ⟨o39, hc39, hf⟩ := ob hf
      refine lp_X10_share_39 C (fun H locs ls hP hS hl => ?_) fuel _ _ hc39 H locs ls hP hS (lv_sub hl [1, 2, 3, 4, 0] rfl)
      refine lv_iconst (v := (0 : Int32)) hx hb dX10_share_136 (by decide) ?_
      refine lv_istore (lv' := [(4, .int (0 : Int32)), (0, .ref (a 0)), (1, .int x1), (3, .int x3)]) hx hb dX10_share_137 hl (Nat.le_of_ble_eq_true rfl) rfl (fun ls hl => ?_)
      refine lv_iconst (v := (0 : Int32)) hx hb dX10_share_139 (by decide) ?_
      refine lv_istore (lv' := [(5, .int (0 : Int32)), (4, .int (0 : Int32)), (0, .ref (a 0)), (1, .int x1), (3, .int x3)]) hx hb dX10_share_140 hl (Nat.le_of_ble_eq_true rfl) rfl (fun ls hl => ?_)
      obtain ⟨o142, hc142, hf⟩ := ob hf
      refine lp_X10_share_142 C (fun H locs ls hP hS hl => ?_) fuel _ _ hc142 H locs ls hP hS (lv_sub hl [2, 3, 4, 1, 0] rfl)
      refine lv_iload hx hb dX10_share_209 (lv_at hl 1 rfl) ?_
      refine lv_bipush (v := (24 : Int32)) hx hb dX10_share_211 (by decide) ?_
      refine lv_iload_n hx hb dX10_share_213 rfl (lv_at hl 0 rfl) ?_
      obtain ⟨r214, hc214, hf⟩ := ob hf
      refine tCallSi (As := [.int o142, .int (24 : Int32), .int x3]) (rest := []) C hP hS (c_X10_fraction l C.2.2.2 hc214) (va_cwS 3 hts gX10_share_X10_fraction rfl rfl rfl hd_X10_fraction ⟨Nat.le_of_ble_eq_true rfl, Nat.le_of_ble_eq_true rfl⟩) rfl hl rfl (Nat.le_of_ble_eq_true rfl) dX10_share_214 ⟨Nat.le_refl 0, Nat.le_refl 0⟩ (fun H locs hP hS => ?_)
      obtain rfl := Option.some.inj hf
      exact tRet_i C hr hlk hP hS dX10_share_217
    · have hf := if_p hf c2
      refine lv_bipush (v := (-2 : Int32)) hx hb dX10_share_33 (by decide) ?_
      obtain rfl := Option.some.inj hf
      exact tRet_i C hr hlk hP hS dX10_share_35
  · have hf := if_p hf c1
    refine lv_iconst (v := (-1 : Int32)) hx hb dX10_share_17 (by decide) ?_
    obtain rfl := Option.some.inj hf
    exact tRet_i C hr hlk hP hS dX10_share_18
def rmX10_gorseLaid : Room := { frames := 0, cells := 0, slots := 0, locals := 0 }
theorem hn_X10_gorseLaid_10 : ∀ w ∈ wsX100, w ∈ wsX10_gorseLaid := fun w h => List.mem_cons_of_mem _ (List.mem_append_right _ h)
theorem hd_X10_gorseLaid : yX10_gorseLaid.cls ≠ "java/lang/invoke/MethodHandle" ∧ yX10_gorseLaid.cls ≠ "java/lang/invoke/VarHandle" ∧ (parseMethodDescriptor yX10_gorseLaid.desc).map (fun d => d.parameters.length) = some 0 := by decide +kernel
set_option maxHeartbeats 4000000 in
set_option maxRecDepth 100000 in
theorem lp_X10_gorseLaid_4 {p : Program} {l : Launch} {e : Env} {s : State} {m : MethodId} {args : Array Value} {below : List Frame} {meth : Method} {c : Code} {D : va_G} {cI cZ : ClassId} {a : Nat → Nat} {Q : State → Prop} {H0 : Heap} {S : St} {o : Int32}
    (C : tC p c s m args cX10_gorseLaid 3 RX10 wsX10_gorseLaid D cI cZ (wM cI cZ a) (mA a))
    (K0 : ∀ (H : Heap) (locs : List Loc) (ls : Array Slot), va_P D vwCl (wM cI cZ a S) H → va_S (mA a) H0 H locs → lv_has ls 3 [(1, .int o)] → W p l e rmX10_gorseLaid s m args below meth c H locs 0 0 Q (F0 m 29 ls [])) :
    ∀ (n : Nat) (x1 : Int32) (x2 : Int32), l_X10_gorseLaid_4 S n x1 x2 = some o → ∀ (H : Heap) (locs : List Loc) (ls : Array Slot), va_P D vwCl (wM cI cZ a S) H → va_S (mA a) H0 H locs → lv_has ls 3 [(0, .ref (a 0)), (1, .int x1), (2, .int x2)] → W p l e rmX10_gorseLaid s m args below meth c H locs 0 0 Q (F0 m 4 ls []) := by
  obtain ⟨⟨hx, hb, hml, hown, hts⟩, hK, hN, hA⟩ := id C
  have hin10 := hn_X10_gorseLaid_10
  intro n
  induction n with
  | zero =>
    intro x1 x2 hf
    rw [l_X10_gorseLaid_4] at hf
    cases hf
  | succ n ih =>
    intro x1 x2 hf H locs ls hP hS hl
    rw [l_X10_gorseLaid_4] at hf
    refine lv_iload_n hx hb dX10_gorseLaid_4 rfl (lv_at hl 2 rfl) ?_
    refine lv_aload_n hx hb dX10_gorseLaid_5 rfl (lv_at hl 0 rfl) ?_
    refine gm_10_14 C hin10 hP (List.mem_of_getElem? (i := 1) rfl) dX10_gorseLaid_6 ?_
    refine lv_iconst (v := (0 : Int32)) hx hb dX10_gorseLaid_9 (by decide) ?_
    refine ldm_7 (j := 0) C hP (by decide) (show ¬ ((0 : Int32) < 0 ∨ 16 ≤ (0 : Int32).toNatClampNeg) by decide) dX10_gorseLaid_10 ?_
    refine lv_icmp_ge (tgt := 29) hx hb dX10_gorseLaid_11 (by decide) (fun c2 => ?_) (fun c2 => ?_)
    · have hf := if_p hf c2
      obtain rfl := Option.some.inj hf
      exact K0 H locs ls hP hS (lv_sub hl [1] rfl)
    · have hf := if_n hf c2
      refine lv_iload_n hx hb dX10_gorseLaid_14 rfl (lv_at hl 1 rfl) ?_
      refine lv_aload_n hx hb dX10_gorseLaid_15 rfl (lv_at hl 0 rfl) ?_
      refine gm_10_10 C hin10 hP (List.mem_of_getElem? (i := 2) rfl) dX10_gorseLaid_16 ?_
      refine lv_iload_n hx hb dX10_gorseLaid_19 rfl (lv_at hl 2 rfl) ?_
      obtain ⟨hi3, hf⟩ := ob_in hf
      refine ldm_4 C hP rfl hi3 dX10_gorseLaid_20 ?_
      refine lv_iadd hx hb dX10_gorseLaid_21 ?_
      refine lv_topi (fun v22 e22 => ?_)
      have hf := nm_i hf e22
      refine lv_istore_n (lv' := [(1, .int v22), (0, .ref (a 0)), (2, .int x2)]) hx hb dX10_gorseLaid_22 rfl hl (Nat.le_of_ble_eq_true rfl) rfl (fun ls hl => ?_)
      refine lv_iinc (v := (x2 + 1)) (lv' := [(2, .int (x2 + 1)), (1, .int v22), (0, .ref (a 0))]) hx hb dX10_gorseLaid_23 hl (k := 2) rfl rfl (Nat.le_of_ble_eq_true rfl) rfl (fun ls hl => ?_)
      refine lv_goto (tgt := 4) hx hb dX10_gorseLaid_26 (by decide) ?_
      exact ih _ _ hf H locs ls hP hS (lv_sub hl [2, 1, 0] rfl)
set_option maxHeartbeats 4000000 in
set_option maxRecDepth 100000 in
theorem c_X10_gorseLaid (l : Launch) {D : va_G} {cI cZ : ClassId} {a : Nat → Nat} (hA : ∀ S : St, va_D (mA a) (wM cI cZ a S)) {S : St} {o : Int32} (hf : f_X10_gorseLaid S = some o) : Met l yX10_gorseLaid wsX10_gorseLaid rmX10_gorseLaid (tPc D cI cZ (wM cI cZ a) S ([.ref (a 0)] : List Value)) (tQi D (wM cI cZ a) (mA a) S o) 0 0 (mA a) := by
  refine tEnter (cc := cX10_gorseLaid) (maxL := 3) (ret := (some .int)) (own := RX10) hA rfl (by decide) rfl (Nat.le_of_ble_eq_true rfl) (fun p e s m args below meth c C hr hlk hP hS ls hl => ?_)
  obtain ⟨⟨hx, hb, hml, hown, hts⟩, hK, hN, -⟩ := id C
  have hl : lv_has ls 3 [(0, .ref (a 0))] := hl
  have hin10 := hn_X10_gorseLaid_10
  have hSS := hS
  rw [f_X10_gorseLaid] at hf
  revert hP hS
  suffices hsuf : ∀ (H : Heap) (locs : List Loc), va_P D vwCl (wM cI cZ a S) H → va_S (mA a) s.heap H locs → W p l e rmX10_gorseLaid s m args below meth c H locs 0 0 (MQ below (tQi D (wM cI cZ a) (mA a) S o) args s 0 0 (mA a)) (F0 m 0 ls []) from fun hP hS => hsuf s.heap [] hP hS
  intro H locs hP hS
  refine lv_iconst (v := (0 : Int32)) hx hb dX10_gorseLaid_0 (by decide) ?_
  refine lv_istore_n (lv' := [(1, .int (0 : Int32)), (0, .ref (a 0))]) hx hb dX10_gorseLaid_1 rfl hl (Nat.le_of_ble_eq_true rfl) rfl (fun ls hl => ?_)
  refine lv_iconst (v := (0 : Int32)) hx hb dX10_gorseLaid_2 (by decide) ?_
  refine lv_istore_n (lv' := [(2, .int (0 : Int32)), (1, .int (0 : Int32)), (0, .ref (a 0))]) hx hb dX10_gorseLaid_3 rfl hl (Nat.le_of_ble_eq_true rfl) rfl (fun ls hl => ?_)
  obtain ⟨o4, hc4, hf⟩ := ob hf
  refine lp_X10_gorseLaid_4 C (fun H locs ls hP hS hl => ?_) fuel _ _ hc4 H locs ls hP hS (lv_sub hl [2, 1, 0] rfl)
  refine lv_iload_n hx hb dX10_gorseLaid_29 rfl (lv_at hl 0 rfl) ?_
  obtain rfl := Option.some.inj hf
  exact tRet_i C hr hlk hP hS dX10_gorseLaid_30
def rmX10_where : Room := { frames := 3, cells := 0, slots := 0, locals := 67 }
theorem hn_X10_where_10 : ∀ w ∈ wsX100, w ∈ wsX10_where := fun w h => List.mem_cons_of_mem _ (List.mem_append_right _ h)
theorem hd_X10_where : yX10_where.cls ≠ "java/lang/invoke/MethodHandle" ∧ yX10_where.cls ≠ "java/lang/invoke/VarHandle" ∧ (parseMethodDescriptor yX10_where.desc).map (fun d => d.parameters.length) = some 2 := by decide +kernel
set_option maxHeartbeats 4000000 in
set_option maxRecDepth 100000 in
theorem c_X10_where (l : Launch) {D : va_G} {cI cZ : ClassId} {a : Nat → Nat} (hA : ∀ S : St, va_D (mA a) (wM cI cZ a S)) {x1 : Int32} {x2 : Int32} {S : St} {o : Int32 × St} (hf : f_X10_where x1 x2 S = some o) : Met l yX10_where wsX10_where rmX10_where (tPc D cI cZ (wM cI cZ a) S ([.ref (a 0), .int x1, .int x2] : List Value)) (tQi D (wM cI cZ a) (mA a) o.2 o.1) 0 0 (mA a) := by
  refine tEnter (cc := cX10_where) (maxL := 4) (ret := (some .int)) (own := RX10) hA rfl (by decide) rfl (Nat.le_of_ble_eq_true rfl) (fun p e s m args below meth c C hr hlk hP hS ls hl => ?_)
  obtain ⟨⟨hx, hb, hml, hown, hts⟩, hK, hN, -⟩ := id C
  have hl : lv_has ls 4 [(0, .ref (a 0)), (1, .int x1), (2, .int x2)] := hl
  have hin10 := hn_X10_where_10
  have hSS := hS
  rw [f_X10_where] at hf
  revert hP hS
  suffices hsuf : ∀ (H : Heap) (locs : List Loc), va_P D vwCl (wM cI cZ a S) H → va_S (mA a) s.heap H locs → W p l e rmX10_where s m args below meth c H locs 0 0 (MQ below (tQi D (wM cI cZ a) (mA a) o.2 o.1) args s 0 0 (mA a)) (F0 m 0 ls []) from fun hP hS => hsuf s.heap [] hP hS
  intro H locs hP hS
  refine lv_aload_n hx hb dX10_where_0 rfl (lv_at hl 0 rfl) ?_
  refine lv_iconst (v := (0 : Int32)) hx hb dX10_where_1 (by decide) ?_
  refine pm_10_0 C hin10 hP hS (List.mem_of_getElem? (i := 1) rfl) dX10_where_2 (fun H locs hP hS => ?_)
  obtain ⟨S2, eS2⟩ : ∃ z, z = (sI S 0 (0 : Int32)) := ⟨_, rfl⟩
  rw [← eS2] at hP
  have hf := nm_i hf eS2
  refine lv_iload_n hx hb dX10_where_5 rfl (lv_at hl 1 rfl) ?_
  refine lv_i2l hx hb dX10_where_6 rfl ?_
  refine lv_lconst (v := (0 : Int64)) hx hb dX10_where_7 (by decide) ?_
  refine lv_aload_n hx hb dX10_where_8 rfl (lv_at hl 0 rfl) ?_
  refine gm_10_14 C hin10 hP (List.mem_of_getElem? (i := 2) rfl) dX10_where_9 ?_
  refine lv_iconst (v := (0 : Int32)) hx hb dX10_where_12 (by decide) ?_
  refine ldm_7 (j := 0) C hP (by decide) (show ¬ ((0 : Int32) < 0 ∨ 16 ≤ (0 : Int32).toNatClampNeg) by decide) dX10_where_13 ?_
  refine lv_iconst (v := (1 : Int32)) hx hb dX10_where_14 (by decide) ?_
  refine lv_isub hx hb dX10_where_15 ?_
  refine lv_i2l hx hb dX10_where_16 rfl ?_
  obtain ⟨r17, hc17, hf⟩ := ob hf
  refine tCallSi (As := [.long x1.toInt64, .long (0 : Int64), .long (((S2.2.1 7 0) - (1 : Int32)).toInt64)]) (rest := []) C hP hS (c_X10_in l C.2.2.2 hc17) (va_cwS 3 hts gX10_where_X10_in rfl rfl rfl hd_X10_in ⟨Nat.le_of_ble_eq_true rfl, Nat.le_of_ble_eq_true rfl⟩) rfl hl rfl (Nat.le_of_ble_eq_true rfl) dX10_where_17 ⟨Nat.le_refl 0, Nat.le_refl 0⟩ (fun H locs hP hS => ?_)
  refine lv_if_ne (tgt := 25) hx hb dX10_where_20 (by decide) (fun c2 => ?_) (fun c2 => ?_)
  · have hf := if_n hf c2
    refine lv_aload_n hx hb dX10_where_25 rfl (lv_at hl 0 rfl) ?_
    obtain ⟨r26, hc26, hf⟩ := ob hf
    refine tCallVi (As := []) (rest := []) (q0 := 0) (ci := 10) C hP hS rfl rfl (c_X10_gorseLaid l C.2.2.2 hc26) (cwV 0 hts gX10_where_X10_gorseLaid rfl rfl rfl ⟨rfl, hd_X10_gorseLaid⟩ ⟨Nat.le_of_ble_eq_true rfl, Nat.le_of_ble_eq_true rfl⟩) rfl hl rfl (Nat.le_of_ble_eq_true rfl) dX10_where_26 ⟨Nat.le_refl 0, Nat.le_refl 0⟩ (fun H locs hP hS => ?_)
    refine lv_istore_n (lv' := [(3, .int r26), (0, .ref (a 0)), (1, .int x1), (2, .int x2)]) hx hb dX10_where_29 rfl hl (Nat.le_of_ble_eq_true rfl) rfl (fun ls hl => ?_)
    refine lv_iload_n hx hb dX10_where_30 rfl (lv_at hl 0 rfl) ?_
    refine lv_if_ne (tgt := 39) hx hb dX10_where_31 (by decide) (fun c3 => ?_) (fun c3 => ?_)
    · have hf := if_n hf c3
      refine lv_aload_n hx hb dX10_where_39 rfl (lv_at hl 1 rfl) ?_
      refine gm_10_10 C hin10 hP (List.mem_of_getElem? (i := 3) rfl) dX10_where_40 ?_
      refine lv_iload_n hx hb dX10_where_43 rfl (lv_at hl 2 rfl) ?_
      obtain ⟨hi4, hf⟩ := ob_in hf
      refine ldm_4 C hP rfl hi4 dX10_where_44 ?_
      refine lv_iload_n hx hb dX10_where_45 rfl (lv_at hl 0 rfl) ?_
      refine lv_iload_n hx hb dX10_where_46 rfl (lv_at hl 3 rfl) ?_
      obtain ⟨r47, hc47, hf⟩ := ob hf
      refine tCallSi (As := [.int (S2.2.1 4 x1.toNatClampNeg), .int r26, .int x2]) (rest := []) C hP hS (c_X10_fraction l C.2.2.2 hc47) (va_cwS 3 hts gX10_where_X10_fraction rfl rfl rfl hd_X10_fraction ⟨Nat.le_of_ble_eq_true rfl, Nat.le_of_ble_eq_true rfl⟩) rfl hl rfl (Nat.le_of_ble_eq_true rfl) dX10_where_47 ⟨Nat.le_refl 0, Nat.le_refl 0⟩ (fun H locs hP hS => ?_)
      obtain rfl := Option.some.inj hf
      exact tRet_i C hr hlk hP hS dX10_where_50
    · have hf := if_p hf c3
      refine lv_bipush (v := (-3 : Int32)) hx hb dX10_where_34 (by decide) ?_
      refine lv_goto (tgt := 50) hx hb dX10_where_36 (by decide) ?_
      obtain rfl := Option.some.inj hf
      exact tRet_i C hr hlk hP hS dX10_where_50
  · have hf := if_p hf c2
    refine lv_iconst (v := (-1 : Int32)) hx hb dX10_where_23 (by decide) ?_
    obtain rfl := Option.some.inj hf
    exact tRet_i C hr hlk hP hS dX10_where_24
def rmX10_back : Room := { frames := 1, cells := 0, slots := 0, locals := 25 }
theorem hn_X10_back_10 : ∀ w ∈ wsX100, w ∈ wsX10_back := fun w h => List.mem_cons_of_mem _ (List.mem_append_right _ h)
theorem hd_X10_back : yX10_back.cls ≠ "java/lang/invoke/MethodHandle" ∧ yX10_back.cls ≠ "java/lang/invoke/VarHandle" ∧ (parseMethodDescriptor yX10_back.desc).map (fun d => d.parameters.length) = some 1 := by decide +kernel
set_option maxHeartbeats 4000000 in
set_option maxRecDepth 100000 in
theorem lp_X10_back_37 {p : Program} {l : Launch} {e : Env} {s : State} {m : MethodId} {args : Array Value} {below : List Frame} {meth : Method} {c : Code} {D : va_G} {cI cZ : ClassId} {a : Nat → Nat} {Q : State → Prop} {H0 : Heap} {x1 : Int32} {x2 : Int32} {S : St} {o : Int32}
    (C : tC p c s m args cX10_back 5 RX10 wsX10_back D cI cZ (wM cI cZ a) (mA a))
    (K0 : ∀ (H : Heap) (locs : List Loc) (ls : Array Slot), va_P D vwCl (wM cI cZ a S) H → va_S (mA a) H0 H locs → lv_has ls 5 [(3, .int o)] → W p l e rmX10_back s m args below meth c H locs 0 0 Q (F0 m 72 ls [])) :
    ∀ (n : Nat) (x3 : Int32) (x4 : Int32), l_X10_back_37 x1 x2 S n x3 x4 = some o → ∀ (H : Heap) (locs : List Loc) (ls : Array Slot), va_P D vwCl (wM cI cZ a S) H → va_S (mA a) H0 H locs → lv_has ls 5 [(0, .ref (a 0)), (1, .int x1), (2, .int x2), (3, .int x3), (4, .int x4)] → W p l e rmX10_back s m args below meth c H locs 0 0 Q (F0 m 37 ls []) := by
  obtain ⟨⟨hx, hb, hml, hown, hts⟩, hK, hN, hA⟩ := id C
  have hin10 := hn_X10_back_10
  intro n
  induction n with
  | zero =>
    intro x3 x4 hf
    rw [l_X10_back_37] at hf
    cases hf
  | succ n ih =>
    intro x3 x4 hf H locs ls hP hS hl
    rw [l_X10_back_37] at hf
    refine lv_bipush (v := (10 : Int32)) hx hb dX10_back_37 (by decide) ?_
    refine lv_iload hx hb dX10_back_39 (lv_at hl 4 rfl) ?_
    refine lv_imul hx hb dX10_back_41 ?_
    refine lv_iload_n hx hb dX10_back_42 rfl (lv_at hl 1 rfl) ?_
    refine lv_iload_n hx hb dX10_back_43 rfl (lv_at hl 2 rfl) ?_
    refine lv_imul hx hb dX10_back_44 ?_
    refine lv_icmp_ge (tgt := 72) hx hb dX10_back_45 (by decide) (fun c3 => ?_) (fun c3 => ?_)
    · have hf := if_p hf c3
      obtain rfl := Option.some.inj hf
      exact K0 H locs ls hP hS (lv_sub hl [3] rfl)
    · have hf := if_n hf c3
      refine lv_iinc (v := (x3 + 1)) (lv' := [(3, .int (x3 + 1)), (0, .ref (a 0)), (1, .int x1), (2, .int x2), (4, .int x4)]) hx hb dX10_back_48 hl (k := 3) rfl rfl (Nat.le_of_ble_eq_true rfl) rfl (fun ls hl => ?_)
      refine lv_iload hx hb dX10_back_51 (lv_at hl 4 rfl) ?_
      refine lv_aload_n hx hb dX10_back_53 rfl (lv_at hl 1 rfl) ?_
      refine gm_10_10 C hin10 hP (List.mem_of_getElem? (i := 3) rfl) dX10_back_54 ?_
      refine lv_aload_n hx hb dX10_back_57 rfl (lv_at hl 1 rfl) ?_
      refine gm_10_14 C hin10 hP (List.mem_of_getElem? (i := 4) rfl) dX10_back_58 ?_
      refine lv_iconst (v := (0 : Int32)) hx hb dX10_back_61 (by decide) ?_
      refine ldm_7 (j := 0) C hP (by decide) (show ¬ ((0 : Int32) < 0 ∨ 16 ≤ (0 : Int32).toNatClampNeg) by decide) dX10_back_62 ?_
      refine lv_iload_n hx hb dX10_back_63 rfl (lv_at hl 0 rfl) ?_
      refine lv_isub hx hb dX10_back_64 ?_
      obtain ⟨hi5, hf⟩ := ob_in hf
      refine ldm_4 C hP rfl hi5 dX10_back_65 ?_
      refine lv_iadd hx hb dX10_back_66 ?_
      refine lv_topi (fun v67 e67 => ?_)
      have hf := nm_i hf e67
      refine lv_istore (lv' := [(4, .int v67), (3, .int (x3 + 1)), (0, .ref (a 0)), (1, .int x1), (2, .int x2)]) hx hb dX10_back_67 hl (Nat.le_of_ble_eq_true rfl) rfl (fun ls hl => ?_)
      refine lv_goto (tgt := 37) hx hb dX10_back_69 (by decide) ?_
      exact ih _ _ hf H locs ls hP hS (lv_sub hl [2, 3, 4, 1, 0] rfl)
set_option maxHeartbeats 4000000 in
set_option maxRecDepth 100000 in
theorem c_X10_back (l : Launch) {D : va_G} {cI cZ : ClassId} {a : Nat → Nat} (hA : ∀ S : St, va_D (mA a) (wM cI cZ a S)) {x1 : Int32} {S : St} {o : Int32 × St} (hf : f_X10_back x1 S = some o) : Met l yX10_back wsX10_back rmX10_back (tPc D cI cZ (wM cI cZ a) S ([.ref (a 0), .int x1] : List Value)) (tQi D (wM cI cZ a) (mA a) o.2 o.1) 0 0 (mA a) := by
  refine tEnter (cc := cX10_back) (maxL := 5) (ret := (some .int)) (own := RX10) hA rfl (by decide) rfl (Nat.le_of_ble_eq_true rfl) (fun p e s m args below meth c C hr hlk hP hS ls hl => ?_)
  obtain ⟨⟨hx, hb, hml, hown, hts⟩, hK, hN, -⟩ := id C
  have hl : lv_has ls 5 [(0, .ref (a 0)), (1, .int x1)] := hl
  have hin10 := hn_X10_back_10
  have hSS := hS
  rw [f_X10_back] at hf
  revert hP hS
  suffices hsuf : ∀ (H : Heap) (locs : List Loc), va_P D vwCl (wM cI cZ a S) H → va_S (mA a) s.heap H locs → W p l e rmX10_back s m args below meth c H locs 0 0 (MQ below (tQi D (wM cI cZ a) (mA a) o.2 o.1) args s 0 0 (mA a)) (F0 m 0 ls []) from fun hP hS => hsuf s.heap [] hP hS
  intro H locs hP hS
  refine lv_aload_n hx hb dX10_back_0 rfl (lv_at hl 0 rfl) ?_
  refine lv_iconst (v := (0 : Int32)) hx hb dX10_back_1 (by decide) ?_
  refine pm_10_0 C hin10 hP hS (List.mem_of_getElem? (i := 1) rfl) dX10_back_2 (fun H locs hP hS => ?_)
  obtain ⟨S2, eS2⟩ : ∃ z, z = (sI S 0 (0 : Int32)) := ⟨_, rfl⟩
  rw [← eS2] at hP
  have hf := nm_i hf eS2
  refine lv_iload_n hx hb dX10_back_5 rfl (lv_at hl 1 rfl) ?_
  refine lv_i2l hx hb dX10_back_6 rfl ?_
  refine lv_lconst (v := (1 : Int64)) hx hb dX10_back_7 (by decide) ?_
  refine lv_ldc2 (v := (10 : Int64)) hx hb hown (hts _ (List.mem_of_getElem? (i := 2) rfl)) dX10_back_8 ?_
  obtain ⟨r11, hc11, hf⟩ := ob hf
  refine tCallSi (As := [.long x1.toInt64, .long (1 : Int64), .long (10 : Int64)]) (rest := []) C hP hS (c_X10_in l C.2.2.2 hc11) (va_cwS 3 hts gX10_back_X10_in rfl rfl rfl hd_X10_in ⟨Nat.le_of_ble_eq_true rfl, Nat.le_of_ble_eq_true rfl⟩) rfl hl rfl (Nat.le_of_ble_eq_true rfl) dX10_back_11 ⟨Nat.le_refl 0, Nat.le_refl 0⟩ (fun H locs hP hS => ?_)
  refine lv_if_ne (tgt := 20) hx hb dX10_back_14 (by decide) (fun c1 => ?_) (fun c1 => ?_)
  · have hf := if_n hf c1
    refine lv_aload_n hx hb dX10_back_20 rfl (lv_at hl 0 rfl) ?_
    obtain ⟨r21, hc21, hf⟩ := ob hf
    refine tCallVi (As := []) (rest := []) (q0 := 0) (ci := 10) C hP hS rfl rfl (c_X10_gorseLaid l C.2.2.2 hc21) (cwV 0 hts gX10_back_X10_gorseLaid rfl rfl rfl ⟨rfl, hd_X10_gorseLaid⟩ ⟨Nat.le_of_ble_eq_true rfl, Nat.le_of_ble_eq_true rfl⟩) rfl hl rfl (Nat.le_of_ble_eq_true rfl) dX10_back_21 ⟨Nat.le_refl 0, Nat.le_refl 0⟩ (fun H locs hP hS => ?_)
    refine lv_istore_n (lv' := [(2, .int r21), (0, .ref (a 0)), (1, .int x1)]) hx hb dX10_back_24 rfl hl (Nat.le_of_ble_eq_true rfl) rfl (fun ls hl => ?_)
    refine lv_iload_n hx hb dX10_back_25 rfl (lv_at hl 0 rfl) ?_
    refine lv_if_ne (tgt := 32) hx hb dX10_back_26 (by decide) (fun c2 => ?_) (fun c2 => ?_)
    · have hf := if_n hf c2
      refine lv_iconst (v := (0 : Int32)) hx hb dX10_back_32 (by decide) ?_
      refine lv_istore_n (lv' := [(3, .int (0 : Int32)), (2, .int r21), (0, .ref (a 0)), (1, .int x1)]) hx hb dX10_back_33 rfl hl (Nat.le_of_ble_eq_true rfl) rfl (fun ls hl => ?_)
      refine lv_iconst (v := (0 : Int32)) hx hb dX10_back_34 (by decide) ?_
      refine lv_istore (lv' := [(4, .int (0 : Int32)), (3, .int (0 : Int32)), (2, .int r21), (0, .ref (a 0)), (1, .int x1)]) hx hb dX10_back_35 hl (Nat.le_of_ble_eq_true rfl) rfl (fun ls hl => ?_)
      obtain ⟨o37, hc37, hf⟩ := ob hf
      refine lp_X10_back_37 C (fun H locs ls hP hS hl => ?_) fuel _ _ hc37 H locs ls hP hS (lv_sub hl [3, 4, 2, 1, 0] rfl)
      refine lv_iload_n hx hb dX10_back_72 rfl (lv_at hl 0 rfl) ?_
      obtain rfl := Option.some.inj hf
      exact tRet_i C hr hlk hP hS dX10_back_73
    · have hf := if_p hf c2
      refine lv_bipush (v := (-3 : Int32)) hx hb dX10_back_29 (by decide) ?_
      obtain rfl := Option.some.inj hf
      exact tRet_i C hr hlk hP hS dX10_back_31
  · have hf := if_p hf c1
    refine lv_bipush (v := (-2 : Int32)) hx hb dX10_back_17 (by decide) ?_
    obtain rfl := Option.some.inj hf
    exact tRet_i C hr hlk hP hS dX10_back_19
def rmX10_showsBy : Room := { frames := 0, cells := 0, slots := 0, locals := 0 }
theorem hn_X10_showsBy_10 : ∀ w ∈ wsX100, w ∈ wsX10_showsBy := fun w h => List.mem_cons_of_mem _ (List.mem_append_right _ h)
theorem hd_X10_showsBy : yX10_showsBy.cls ≠ "java/lang/invoke/MethodHandle" ∧ yX10_showsBy.cls ≠ "java/lang/invoke/VarHandle" ∧ (parseMethodDescriptor yX10_showsBy.desc).map (fun d => d.parameters.length) = some 2 := by decide +kernel
set_option maxHeartbeats 4000000 in
set_option maxRecDepth 100000 in
theorem lp_X10_showsBy_8 {p : Program} {l : Launch} {e : Env} {s : State} {m : MethodId} {args : Array Value} {below : List Frame} {meth : Method} {c : Code} {D : va_G} {cI cZ : ClassId} {a : Nat → Nat} {Q : State → Prop} {H0 : Heap} {x1 : Int32} {x2 : Int32} {S : St} {o : Nat × Int32}
    (C : tC p c s m args cX10_showsBy 6 RX10 wsX10_showsBy D cI cZ (wM cI cZ a) (mA a))
    (K0 : o.1 = 0 → ∀ (H : Heap) (locs : List Loc) (ls : Array Slot), va_P D vwCl (wM cI cZ a S) H → va_S (mA a) H0 H locs → lv_has ls 6 [(5, .int o.2)] → W p l e rmX10_showsBy s m args below meth c H locs 0 0 Q (F0 m 32 ls []))
    (K1 : o.1 = 1 → ∀ (H : Heap) (locs : List Loc) (ls : Array Slot), va_P D vwCl (wM cI cZ a S) H → va_S (mA a) H0 H locs → lv_has ls 6 [] → W p l e rmX10_showsBy s m args below meth c H locs 0 0 Q (F0 m 60 ls [])) :
    ∀ (n : Nat) (x3 : Int32) (x4 : Int32) (x5 : Int32), l_X10_showsBy_8 x1 x2 S n x3 x4 x5 = some o → ∀ (H : Heap) (locs : List Loc) (ls : Array Slot), va_P D vwCl (wM cI cZ a S) H → va_S (mA a) H0 H locs → lv_has ls 6 [(0, .ref (a 0)), (1, .int x1), (2, .int x2), (3, .int x3), (4, .int x4), (5, .int x5)] → W p l e rmX10_showsBy s m args below meth c H locs 0 0 Q (F0 m 8 ls []) := by
  obtain ⟨⟨hx, hb, hml, hown, hts⟩, hK, hN, hA⟩ := id C
  have hin10 := hn_X10_showsBy_10
  intro n
  induction n with
  | zero =>
    intro x3 x4 x5 hf
    rw [l_X10_showsBy_8] at hf
    cases hf
  | succ n ih =>
    have J35 : ∀ (x3 : Int32) (x4 : Int32) (x5 : Int32) (H : Heap) (locs : List Loc) (ls : Array Slot), j_X10_showsBy_35 (l_X10_showsBy_8 x1 x2 S n) x1 x2 x3 x4 x5 S = some o → va_P D vwCl (wM cI cZ a S) H → va_S (mA a) H0 H locs → lv_has ls 6 [(0, .ref (a 0)), (1, .int x1), (2, .int x2), (3, .int x3), (4, .int x4), (5, .int x5)] → W p l e rmX10_showsBy s m args below meth c H locs 0 0 Q (F0 m 35 ls []) := by
      intro x3 x4 x5 H locs ls hf hP hS hl
      rw [j_X10_showsBy_35] at hf
      refine lv_iinc (v := (x3 + (-1))) (lv' := [(3, .int (x3 + (-1))), (0, .ref (a 0)), (1, .int x1), (2, .int x2), (4, .int x4), (5, .int x5)]) hx hb dX10_showsBy_35 hl (k := 3) rfl rfl (Nat.le_of_ble_eq_true rfl) rfl (fun ls hl => ?_)
      refine lv_iload hx hb dX10_showsBy_38 (lv_at hl 4 rfl) ?_
      refine lv_iload hx hb dX10_showsBy_40 (lv_at hl 5 rfl) ?_
      refine lv_iload_n hx hb dX10_showsBy_42 rfl (lv_at hl 2 rfl) ?_
      refine lv_icmp_ne (tgt := 50) hx hb dX10_showsBy_43 (by decide) (fun c4 => ?_) (fun c4 => ?_)
      · have hf := if_n hf c4
        refine lv_iconst (v := (1 : Int32)) hx hb dX10_showsBy_50 (by decide) ?_
        refine lv_iadd hx hb dX10_showsBy_51 ?_
        refine lv_istore (lv' := [(4, .int (x4 + (1 : Int32))), (3, .int (x3 + (-1))), (0, .ref (a 0)), (1, .int x1), (2, .int x2), (5, .int x5)]) hx hb dX10_showsBy_52 hl (Nat.le_of_ble_eq_true rfl) rfl (fun ls hl => ?_)
        refine lv_iinc (v := (x5 + 1)) (lv' := [(5, .int (x5 + 1)), (4, .int (x4 + (1 : Int32))), (3, .int (x3 + (-1))), (0, .ref (a 0)), (1, .int x1), (2, .int x2)]) hx hb dX10_showsBy_54 hl (k := 5) rfl rfl (Nat.le_of_ble_eq_true rfl) rfl (fun ls hl => ?_)
        refine lv_goto (tgt := 8) hx hb dX10_showsBy_57 (by decide) ?_
        exact ih _ _ _ hf H locs ls hP hS (lv_sub hl [3, 4, 5, 2, 1, 0] rfl)
      · have hf := if_p hf c4
        refine lv_iconst (v := (0 : Int32)) hx hb dX10_showsBy_46 (by decide) ?_
        refine lv_goto (tgt := 51) hx hb dX10_showsBy_47 (by decide) ?_
        refine lv_iadd hx hb dX10_showsBy_51 ?_
        refine lv_istore (lv' := [(4, .int (x4 + (0 : Int32))), (3, .int (x3 + (-1))), (0, .ref (a 0)), (1, .int x1), (2, .int x2), (5, .int x5)]) hx hb dX10_showsBy_52 hl (Nat.le_of_ble_eq_true rfl) rfl (fun ls hl => ?_)
        refine lv_iinc (v := (x5 + 1)) (lv' := [(5, .int (x5 + 1)), (4, .int (x4 + (0 : Int32))), (3, .int (x3 + (-1))), (0, .ref (a 0)), (1, .int x1), (2, .int x2)]) hx hb dX10_showsBy_54 hl (k := 5) rfl rfl (Nat.le_of_ble_eq_true rfl) rfl (fun ls hl => ?_)
        refine lv_goto (tgt := 8) hx hb dX10_showsBy_57 (by decide) ?_
        exact ih _ _ _ hf H locs ls hP hS (lv_sub hl [3, 4, 5, 2, 1, 0] rfl)
    intro x3 x4 x5 hf H locs ls hP hS hl
    rw [l_X10_showsBy_8] at hf
    refine lv_iload hx hb dX10_showsBy_8 (lv_at hl 5 rfl) ?_
    refine lv_aload_n hx hb dX10_showsBy_10 rfl (lv_at hl 0 rfl) ?_
    refine gm_10_6 C hin10 hP (List.mem_of_getElem? (i := 1) rfl) dX10_showsBy_11 ?_
    refine lv_icmp_ge (tgt := 60) hx hb dX10_showsBy_14 (by decide) (fun c1 => ?_) (fun c1 => ?_)
    · have hf := if_p hf c1
      obtain rfl := Option.some.inj hf
      exact K1 rfl H locs ls hP hS (lv_sub hl [] rfl)
    · have hf := if_n hf c1
      refine lv_iload_n hx hb dX10_showsBy_17 rfl (lv_at hl 3 rfl) ?_
      refine lv_if_ne (tgt := 35) hx hb dX10_showsBy_18 (by decide) (fun c2 => ?_) (fun c2 => ?_)
      · have hf := if_n hf c2
        exact J35 _ _ _ H locs ls hf hP hS (lv_sub hl [0, 1, 2, 3, 4, 5] rfl)
      · have hf := if_p hf c2
        refine lv_iload hx hb dX10_showsBy_21 (lv_at hl 4 rfl) ?_
        refine lv_istore_n (lv' := [(3, .int x4), (0, .ref (a 0)), (1, .int x1), (2, .int x2), (4, .int x4), (5, .int x5)]) hx hb dX10_showsBy_23 rfl hl (Nat.le_of_ble_eq_true rfl) rfl (fun ls hl => ?_)
        refine lv_iconst (v := (0 : Int32)) hx hb dX10_showsBy_24 (by decide) ?_
        refine lv_istore (lv' := [(4, .int (0 : Int32)), (3, .int x4), (0, .ref (a 0)), (1, .int x1), (2, .int x2), (5, .int x5)]) hx hb dX10_showsBy_25 hl (Nat.le_of_ble_eq_true rfl) rfl (fun ls hl => ?_)
        refine lv_iload_n hx hb dX10_showsBy_27 rfl (lv_at hl 1 rfl) ?_
        refine lv_iload_n hx hb dX10_showsBy_28 rfl (lv_at hl 4 rfl) ?_
        refine lv_icmp_eq (tgt := 35) hx hb dX10_showsBy_29 (by decide) (fun c3 => ?_) (fun c3 => ?_)
        · have hf := if_p hf c3
          exact J35 _ _ _ H locs ls hf hP hS (lv_sub hl [2, 3, 4, 1, 0, 5] rfl)
        · have hf := if_n hf c3
          obtain rfl := Option.some.inj hf
          exact K0 rfl H locs ls hP hS (lv_sub hl [5] rfl)
set_option maxHeartbeats 4000000 in
set_option maxRecDepth 100000 in
theorem c_X10_showsBy (l : Launch) {D : va_G} {cI cZ : ClassId} {a : Nat → Nat} (hA : ∀ S : St, va_D (mA a) (wM cI cZ a S)) {x1 : Int32} {x2 : Int32} {S : St} {o : Int32} (hf : f_X10_showsBy x1 x2 S = some o) : Met l yX10_showsBy wsX10_showsBy rmX10_showsBy (tPc D cI cZ (wM cI cZ a) S ([.ref (a 0), .int x1, .int x2] : List Value)) (tQi D (wM cI cZ a) (mA a) S o) 0 0 (mA a) := by
  refine tEnter (cc := cX10_showsBy) (maxL := 6) (ret := (some .int)) (own := RX10) hA rfl (by decide) rfl (Nat.le_of_ble_eq_true rfl) (fun p e s m args below meth c C hr hlk hP hS ls hl => ?_)
  obtain ⟨⟨hx, hb, hml, hown, hts⟩, hK, hN, -⟩ := id C
  have hl : lv_has ls 6 [(0, .ref (a 0)), (1, .int x1), (2, .int x2)] := hl
  have hin10 := hn_X10_showsBy_10
  have hSS := hS
  rw [f_X10_showsBy] at hf
  revert hP hS
  suffices hsuf : ∀ (H : Heap) (locs : List Loc), va_P D vwCl (wM cI cZ a S) H → va_S (mA a) s.heap H locs → W p l e rmX10_showsBy s m args below meth c H locs 0 0 (MQ below (tQi D (wM cI cZ a) (mA a) S o) args s 0 0 (mA a)) (F0 m 0 ls []) from fun hP hS => hsuf s.heap [] hP hS
  intro H locs hP hS
  refine lv_iload_n hx hb dX10_showsBy_0 rfl (lv_at hl 2 rfl) ?_
  refine lv_istore_n (lv' := [(3, .int x2), (0, .ref (a 0)), (1, .int x1), (2, .int x2)]) hx hb dX10_showsBy_1 rfl hl (Nat.le_of_ble_eq_true rfl) rfl (fun ls hl => ?_)
  refine lv_iconst (v := (0 : Int32)) hx hb dX10_showsBy_2 (by decide) ?_
  refine lv_istore (lv' := [(4, .int (0 : Int32)), (3, .int x2), (0, .ref (a 0)), (1, .int x1), (2, .int x2)]) hx hb dX10_showsBy_3 hl (Nat.le_of_ble_eq_true rfl) rfl (fun ls hl => ?_)
  refine lv_iconst (v := (0 : Int32)) hx hb dX10_showsBy_5 (by decide) ?_
  refine lv_istore (lv' := [(5, .int (0 : Int32)), (4, .int (0 : Int32)), (3, .int x2), (0, .ref (a 0)), (1, .int x1), (2, .int x2)]) hx hb dX10_showsBy_6 hl (Nat.le_of_ble_eq_true rfl) rfl (fun ls hl => ?_)
  obtain ⟨o8, hc8, hf⟩ := ob hf
  refine lp_X10_showsBy_8 C (fun ho H locs ls hP hS hl => ?_) (fun ho H locs ls hP hS hl => ?_) fuel _ _ _ hc8 H locs ls hP hS (lv_sub hl [3, 4, 5, 2, 1, 0] rfl)
  · have hf := if_p hf ho
    refine lv_iload hx hb dX10_showsBy_32 (lv_at hl 0 rfl) ?_
    obtain rfl := Option.some.inj hf
    exact tRet_i C hr hlk hP hS dX10_showsBy_34
  · have hf := if_n hf (show ¬ o8.1 = 0 by rw [ho]; decide)
    refine lv_bipush (v := (-9 : Int32)) hx hb dX10_showsBy_60 (by decide) ?_
    obtain rfl := Option.some.inj hf
    exact tRet_i C hr hlk hP hS dX10_showsBy_62
def rmX10_shows : Room := { frames := 2, cells := 0, slots := 0, locals := 46 }
theorem hn_X10_shows_10 : ∀ w ∈ wsX100, w ∈ wsX10_shows := fun w h => List.mem_cons_of_mem _ (List.mem_append_right _ h)
theorem hd_X10_shows : yX10_shows.cls ≠ "java/lang/invoke/MethodHandle" ∧ yX10_shows.cls ≠ "java/lang/invoke/VarHandle" ∧ (parseMethodDescriptor yX10_shows.desc).map (fun d => d.parameters.length) = some 2 := by decide +kernel
set_option maxHeartbeats 4000000 in
set_option maxRecDepth 100000 in
theorem c_X10_shows (l : Launch) {D : va_G} {cI cZ : ClassId} {a : Nat → Nat} (hA : ∀ S : St, va_D (mA a) (wM cI cZ a S)) {x1 : Int32} {x2 : Int32} {S : St} {o : Int32 × St} (hf : f_X10_shows x1 x2 S = some o) : Met l yX10_shows wsX10_shows rmX10_shows (tPc D cI cZ (wM cI cZ a) S ([.ref (a 0), .int x1, .int x2] : List Value)) (tQi D (wM cI cZ a) (mA a) o.2 o.1) 0 0 (mA a) := by
  refine tEnter (cc := cX10_shows) (maxL := 3) (ret := (some .int)) (own := RX10) hA rfl (by decide) rfl (Nat.le_of_ble_eq_true rfl) (fun p e s m args below meth c C hr hlk hP hS ls hl => ?_)
  obtain ⟨⟨hx, hb, hml, hown, hts⟩, hK, hN, -⟩ := id C
  have hl : lv_has ls 3 [(0, .ref (a 0)), (1, .int x1), (2, .int x2)] := hl
  have hin10 := hn_X10_shows_10
  have hSS := hS
  rw [f_X10_shows] at hf
  revert hP hS
  suffices hsuf : ∀ (H : Heap) (locs : List Loc), va_P D vwCl (wM cI cZ a S) H → va_S (mA a) s.heap H locs → W p l e rmX10_shows s m args below meth c H locs 0 0 (MQ below (tQi D (wM cI cZ a) (mA a) o.2 o.1) args s 0 0 (mA a)) (F0 m 0 ls []) from fun hP hS => hsuf s.heap [] hP hS
  intro H locs hP hS
  refine lv_aload_n hx hb dX10_shows_0 rfl (lv_at hl 0 rfl) ?_
  refine lv_iconst (v := (0 : Int32)) hx hb dX10_shows_1 (by decide) ?_
  refine pm_10_0 C hin10 hP hS (List.mem_of_getElem? (i := 1) rfl) dX10_shows_2 (fun H locs hP hS => ?_)
  obtain ⟨S2, eS2⟩ : ∃ z, z = (sI S 0 (0 : Int32)) := ⟨_, rfl⟩
  rw [← eS2] at hP
  have hf := nm_i hf eS2
  refine lv_aload_n hx hb dX10_shows_5 rfl (lv_at hl 0 rfl) ?_
  refine lv_iload_n hx hb dX10_shows_6 rfl (lv_at hl 1 rfl) ?_
  obtain ⟨r7, hc7, hf⟩ := ob hf
  refine tCallVi (As := [.int x1]) (rest := []) (q0 := 0) (ci := 10) C hP hS rfl rfl (c_X10_noStage l C.2.2.2 hc7) (cwV 1 hts gX10_shows_X10_noStage rfl rfl rfl ⟨rfl, hd_X10_noStage⟩ ⟨Nat.le_of_ble_eq_true rfl, Nat.le_of_ble_eq_true rfl⟩) rfl hl rfl (Nat.le_of_ble_eq_true rfl) dX10_shows_7 ⟨Nat.le_refl 0, Nat.le_refl 0⟩ (fun H locs hP hS => ?_)
  refine lv_if_eq (tgt := 15) hx hb dX10_shows_10 (by decide) (fun c1 => ?_) (fun c1 => ?_)
  · have hf := if_p hf c1
    refine lv_iload_n hx hb dX10_shows_15 rfl (lv_at hl 2 rfl) ?_
    refine lv_i2l hx hb dX10_shows_16 rfl ?_
    refine lv_ldc2 (v := (2 : Int64)) hx hb hown (hts _ (List.mem_of_getElem? (i := 2) rfl)) dX10_shows_17 ?_
    refine lv_ldc2 (v := (9 : Int64)) hx hb hown (hts _ (List.mem_of_getElem? (i := 3) rfl)) dX10_shows_20 ?_
    obtain ⟨r23, hc23, hf⟩ := ob hf
    refine tCallSi (As := [.long x2.toInt64, .long (2 : Int64), .long (9 : Int64)]) (rest := []) C hP hS (c_X10_in l C.2.2.2 hc23) (va_cwS 3 hts gX10_shows_X10_in rfl rfl rfl hd_X10_in ⟨Nat.le_of_ble_eq_true rfl, Nat.le_of_ble_eq_true rfl⟩) rfl hl rfl (Nat.le_of_ble_eq_true rfl) dX10_shows_23 ⟨Nat.le_refl 0, Nat.le_refl 0⟩ (fun H locs hP hS => ?_)
    refine lv_if_eq (tgt := 38) hx hb dX10_shows_26 (by decide) (fun c2 => ?_) (fun c2 => ?_)
    · have hf := if_p hf c2
      refine lv_bipush (v := (-2 : Int32)) hx hb dX10_shows_38 (by decide) ?_
      obtain rfl := Option.some.inj hf
      exact tRet_i C hr hlk hP hS dX10_shows_40
    · have hf := if_n hf c2
      refine lv_aload_n hx hb dX10_shows_29 rfl (lv_at hl 0 rfl) ?_
      refine lv_iload_n hx hb dX10_shows_30 rfl (lv_at hl 1 rfl) ?_
      refine lv_iload_n hx hb dX10_shows_31 rfl (lv_at hl 2 rfl) ?_
      obtain ⟨r32, hc32, hf⟩ := ob hf
      refine tCallVi (As := [.int x1, .int x2]) (rest := []) (q0 := 0) (ci := 10) C hP hS rfl rfl (c_X10_showsBy l C.2.2.2 hc32) (cwV 2 hts gX10_shows_X10_showsBy rfl rfl rfl ⟨rfl, hd_X10_showsBy⟩ ⟨Nat.le_of_ble_eq_true rfl, Nat.le_of_ble_eq_true rfl⟩) rfl hl rfl (Nat.le_of_ble_eq_true rfl) dX10_shows_32 ⟨Nat.le_refl 0, Nat.le_refl 0⟩ (fun H locs hP hS => ?_)
      refine lv_goto (tgt := 40) hx hb dX10_shows_35 (by decide) ?_
      obtain rfl := Option.some.inj hf
      exact tRet_i C hr hlk hP hS dX10_shows_40
  · have hf := if_n hf c1
    refine lv_iconst (v := (-1 : Int32)) hx hb dX10_shows_13 (by decide) ?_
    obtain rfl := Option.some.inj hf
    exact tRet_i C hr hlk hP hS dX10_shows_14
def rmX10_soonest : Room := { frames := 1, cells := 0, slots := 0, locals := 25 }
theorem hn_X10_soonest_10 : ∀ w ∈ wsX100, w ∈ wsX10_soonest := fun w h => List.mem_cons_of_mem _ (List.mem_append_right _ h)
theorem hd_X10_soonest : yX10_soonest.cls ≠ "java/lang/invoke/MethodHandle" ∧ yX10_soonest.cls ≠ "java/lang/invoke/VarHandle" ∧ (parseMethodDescriptor yX10_soonest.desc).map (fun d => d.parameters.length) = some 0 := by decide +kernel
set_option maxHeartbeats 4000000 in
set_option maxRecDepth 100000 in
theorem lp_X10_soonest_25 {p : Program} {l : Launch} {e : Env} {s : State} {m : MethodId} {args : Array Value} {below : List Frame} {meth : Method} {c : Code} {D : va_G} {cI cZ : ClassId} {a : Nat → Nat} {Q : State → Prop} {H0 : Heap} {x1 : Int32} {x2 : Int32} {x3 : Int32} {S : St} {o : Int32}
    (C : tC p c s m args cX10_soonest 8 RX10 wsX10_soonest D cI cZ (wM cI cZ a) (mA a))
    (K0 : ∀ (H : Heap) (locs : List Loc) (ls : Array Slot), va_P D vwCl (wM cI cZ a S) H → va_S (mA a) H0 H locs → lv_has ls 8 [(0, .ref (a 0)), (1, .int x1), (2, .int x2), (3, .int x3), (4, .int o)] → W p l e rmX10_soonest s m args below meth c H locs 0 0 Q (F0 m 84 ls [])) :
    ∀ (n : Nat) (x4 : Int32) (x5 : Int32), l_X10_soonest_25 x1 x2 x3 S n x4 x5 = some o → ∀ (H : Heap) (locs : List Loc) (ls : Array Slot), va_P D vwCl (wM cI cZ a S) H → va_S (mA a) H0 H locs → lv_has ls 8 [(0, .ref (a 0)), (1, .int x1), (2, .int x2), (3, .int x3), (4, .int x4), (5, .int x5)] → W p l e rmX10_soonest s m args below meth c H locs 0 0 Q (F0 m 25 ls []) := by
  obtain ⟨⟨hx, hb, hml, hown, hts⟩, hK, hN, hA⟩ := id C
  have hin10 := hn_X10_soonest_10
  intro n
  induction n with
  | zero =>
    intro x4 x5 hf
    rw [l_X10_soonest_25] at hf
    cases hf
  | succ n ih =>
    have J60 : ∀ (x4 : Int32) (x5 : Int32) (t0 : Int32) (H : Heap) (locs : List Loc) (ls : Array Slot), j_X10_soonest_60 (l_X10_soonest_25 x1 x2 x3 S n) x1 x2 x3 x4 x5 t0 S = some o → va_P D vwCl (wM cI cZ a S) H → va_S (mA a) H0 H locs → lv_has ls 8 [(0, .ref (a 0)), (1, .int x1), (2, .int x2), (3, .int x3), (4, .int x4), (5, .int x5)] → W p l e rmX10_soonest s m args below meth c H locs 0 0 Q (F0 m 60 ls [.int t0]) := by
      intro x4 x5 t0 H locs ls hf hP hS hl
      rw [j_X10_soonest_60] at hf
      refine lv_istore (lv' := [(7, .int t0), (0, .ref (a 0)), (1, .int x1), (2, .int x2), (3, .int x3), (4, .int x4), (5, .int x5)]) hx hb dX10_soonest_60 hl (Nat.le_of_ble_eq_true rfl) rfl (fun ls hl => ?_)
      refine lv_iload hx hb dX10_soonest_62 (lv_at hl 0 rfl) ?_
      refine lv_iload hx hb dX10_soonest_64 (lv_at hl 5 rfl) ?_
      refine lv_icmp_le (tgt := 74) hx hb dX10_soonest_66 (by decide) (fun c4 => ?_) (fun c4 => ?_)
      · have hf := if_p hf c4
        refine lv_iload hx hb dX10_soonest_74 (lv_at hl 5 rfl) ?_
        refine lv_istore (lv' := [(4, .int x4), (7, .int t0), (0, .ref (a 0)), (1, .int x1), (2, .int x2), (3, .int x3), (5, .int x5)]) hx hb dX10_soonest_76 hl (Nat.le_of_ble_eq_true rfl) rfl (fun ls hl => ?_)
        refine lv_iinc (v := (x5 + 1)) (lv' := [(5, .int (x5 + 1)), (4, .int x4), (7, .int t0), (0, .ref (a 0)), (1, .int x1), (2, .int x2), (3, .int x3)]) hx hb dX10_soonest_78 hl (k := 6) rfl rfl (Nat.le_of_ble_eq_true rfl) rfl (fun ls hl => ?_)
        refine lv_goto (tgt := 25) hx hb dX10_soonest_81 (by decide) ?_
        exact ih _ _ hf H locs ls hP hS (lv_sub hl [3, 4, 5, 6, 1, 0] rfl)
      · have hf := if_n hf c4
        refine lv_iload hx hb dX10_soonest_69 (lv_at hl 0 rfl) ?_
        refine lv_goto (tgt := 76) hx hb dX10_soonest_71 (by decide) ?_
        refine lv_istore (lv' := [(4, .int t0), (7, .int t0), (0, .ref (a 0)), (1, .int x1), (2, .int x2), (3, .int x3), (5, .int x5)]) hx hb dX10_soonest_76 hl (Nat.le_of_ble_eq_true rfl) rfl (fun ls hl => ?_)
        refine lv_iinc (v := (x5 + 1)) (lv' := [(5, .int (x5 + 1)), (4, .int t0), (7, .int t0), (0, .ref (a 0)), (1, .int x1), (2, .int x2), (3, .int x3)]) hx hb dX10_soonest_78 hl (k := 6) rfl rfl (Nat.le_of_ble_eq_true rfl) rfl (fun ls hl => ?_)
        refine lv_goto (tgt := 25) hx hb dX10_soonest_81 (by decide) ?_
        exact ih _ _ hf H locs ls hP hS (lv_sub hl [3, 4, 5, 6, 1, 0] rfl)
    intro x4 x5 hf H locs ls hP hS hl
    rw [l_X10_soonest_25] at hf
    refine lv_iload hx hb dX10_soonest_25 (lv_at hl 5 rfl) ?_
    refine lv_aload_n hx hb dX10_soonest_27 rfl (lv_at hl 0 rfl) ?_
    refine gm_10_6 C hin10 hP (List.mem_of_getElem? (i := 3) rfl) dX10_soonest_28 ?_
    refine lv_icmp_ge (tgt := 84) hx hb dX10_soonest_31 (by decide) (fun c2 => ?_) (fun c2 => ?_)
    · have hf := if_p hf c2
      obtain rfl := Option.some.inj hf
      exact K0 H locs ls hP hS (lv_sub hl [0, 1, 2, 3, 4] rfl)
    · have hf := if_n hf c2
      refine lv_aload_n hx hb dX10_soonest_34 rfl (lv_at hl 0 rfl) ?_
      refine lv_iload hx hb dX10_soonest_35 (lv_at hl 5 rfl) ?_
      refine lv_iload_n hx hb dX10_soonest_37 rfl (lv_at hl 3 rfl) ?_
      obtain ⟨r38, hc38, hf⟩ := ob hf
      refine tCallVi (As := [.int x5, .int x3]) (rest := []) (q0 := 0) (ci := 10) C hP hS rfl rfl (c_X10_showsBy l C.2.2.2 hc38) (cwV 2 hts gX10_soonest_X10_showsBy rfl rfl rfl ⟨rfl, hd_X10_showsBy⟩ ⟨Nat.le_of_ble_eq_true rfl, Nat.le_of_ble_eq_true rfl⟩) rfl hl rfl (Nat.le_of_ble_eq_true rfl) dX10_soonest_38 ⟨Nat.le_refl 0, Nat.le_refl 0⟩ (fun H locs hP hS => ?_)
      refine lv_istore (lv' := [(6, .int r38), (0, .ref (a 0)), (1, .int x1), (2, .int x2), (3, .int x3), (4, .int x4), (5, .int x5)]) hx hb dX10_soonest_41 hl (Nat.le_of_ble_eq_true rfl) rfl (fun ls hl => ?_)
      refine lv_iload hx hb dX10_soonest_43 (lv_at hl 0 rfl) ?_
      refine lv_bipush (v := (-9 : Int32)) hx hb dX10_soonest_45 (by decide) ?_
      refine lv_icmp_ne (tgt := 55) hx hb dX10_soonest_47 (by decide) (fun c3 => ?_) (fun c3 => ?_)
      · have hf := if_n hf c3
        refine lv_iload hx hb dX10_soonest_55 (lv_at hl 0 rfl) ?_
        refine lv_iload hx hb dX10_soonest_57 (lv_at hl 6 rfl) ?_
        refine lv_isub hx hb dX10_soonest_59 ?_
        exact J60 _ _ _ H locs ls hf hP hS (lv_sub hl [1, 2, 3, 4, 5, 6] rfl)
      · have hf := if_p hf c3
        refine lv_bipush (v := (9 : Int32)) hx hb dX10_soonest_50 (by decide) ?_
        refine lv_goto (tgt := 60) hx hb dX10_soonest_52 (by decide) ?_
        exact J60 _ _ _ H locs ls hf hP hS (lv_sub hl [1, 2, 3, 4, 5, 6] rfl)
set_option maxHeartbeats 4000000 in
set_option maxRecDepth 100000 in
theorem lp_X10_soonest_13 {p : Program} {l : Launch} {e : Env} {s : State} {m : MethodId} {args : Array Value} {below : List Frame} {meth : Method} {c : Code} {D : va_G} {cI cZ : ClassId} {a : Nat → Nat} {Q : State → Prop} {H0 : Heap} {S : St} {o : Int32}
    (C : tC p c s m args cX10_soonest 8 RX10 wsX10_soonest D cI cZ (wM cI cZ a) (mA a))
    (K0 : ∀ (H : Heap) (locs : List Loc) (ls : Array Slot), va_P D vwCl (wM cI cZ a S) H → va_S (mA a) H0 H locs → lv_has ls 8 [(1, .int o)] → W p l e rmX10_soonest s m args below meth c H locs 0 0 Q (F0 m 115 ls [])) :
    ∀ (n : Nat) (x1 : Int32) (x2 : Int32) (x3 : Int32), l_X10_soonest_13 S n x1 x2 x3 = some o → ∀ (H : Heap) (locs : List Loc) (ls : Array Slot), va_P D vwCl (wM cI cZ a S) H → va_S (mA a) H0 H locs → lv_has ls 8 [(0, .ref (a 0)), (1, .int x1), (2, .int x2), (3, .int x3)] → W p l e rmX10_soonest s m args below meth c H locs 0 0 Q (F0 m 13 ls []) := by
  obtain ⟨⟨hx, hb, hml, hown, hts⟩, hK, hN, hA⟩ := id C
  have hin10 := hn_X10_soonest_10
  intro n
  induction n with
  | zero =>
    intro x1 x2 x3 hf
    rw [l_X10_soonest_13] at hf
    cases hf
  | succ n ih =>
    have J95 : ∀ (x2 : Int32) (x3 : Int32) (x4 : Int32) (t0 : Int32) (H : Heap) (locs : List Loc) (ls : Array Slot), j_X10_soonest_95 (l_X10_soonest_13 S n) x2 x3 x4 t0 S = some o → va_P D vwCl (wM cI cZ a S) H → va_S (mA a) H0 H locs → lv_has ls 8 [(0, .ref (a 0)), (2, .int x2), (3, .int x3), (4, .int x4)] → W p l e rmX10_soonest s m args below meth c H locs 0 0 Q (F0 m 95 ls [.int t0]) := by
      intro x2 x3 x4 t0 H locs ls hf hP hS hl
      rw [j_X10_soonest_95] at hf
      refine lv_istore_n (lv' := [(1, .int t0), (0, .ref (a 0)), (2, .int x2), (3, .int x3), (4, .int x4)]) hx hb dX10_soonest_95 rfl hl (Nat.le_of_ble_eq_true rfl) rfl (fun ls hl => ?_)
      refine lv_iload hx hb dX10_soonest_96 (lv_at hl 4 rfl) ?_
      refine lv_iload_n hx hb dX10_soonest_98 rfl (lv_at hl 2 rfl) ?_
      refine lv_icmp_ge (tgt := 107) hx hb dX10_soonest_99 (by decide) (fun c6 => ?_) (fun c6 => ?_)
      · have hf := if_p hf c6
        refine lv_iload_n hx hb dX10_soonest_107 rfl (lv_at hl 2 rfl) ?_
        refine lv_istore_n (lv' := [(2, .int x2), (1, .int t0), (0, .ref (a 0)), (3, .int x3), (4, .int x4)]) hx hb dX10_soonest_108 rfl hl (Nat.le_of_ble_eq_true rfl) rfl (fun ls hl => ?_)
        refine lv_iinc (v := (x3 + 1)) (lv' := [(3, .int (x3 + 1)), (2, .int x2), (1, .int t0), (0, .ref (a 0)), (4, .int x4)]) hx hb dX10_soonest_109 hl (k := 3) rfl rfl (Nat.le_of_ble_eq_true rfl) rfl (fun ls hl => ?_)
        refine lv_goto (tgt := 13) hx hb dX10_soonest_112 (by decide) ?_
        exact ih _ _ _ hf H locs ls hP hS (lv_sub hl [3, 2, 1, 0] rfl)
      · have hf := if_n hf c6
        refine lv_iload hx hb dX10_soonest_102 (lv_at hl 4 rfl) ?_
        refine lv_goto (tgt := 108) hx hb dX10_soonest_104 (by decide) ?_
        refine lv_istore_n (lv' := [(2, .int x4), (1, .int t0), (0, .ref (a 0)), (3, .int x3), (4, .int x4)]) hx hb dX10_soonest_108 rfl hl (Nat.le_of_ble_eq_true rfl) rfl (fun ls hl => ?_)
        refine lv_iinc (v := (x3 + 1)) (lv' := [(3, .int (x3 + 1)), (2, .int x4), (1, .int t0), (0, .ref (a 0)), (4, .int x4)]) hx hb dX10_soonest_109 hl (k := 3) rfl rfl (Nat.le_of_ble_eq_true rfl) rfl (fun ls hl => ?_)
        refine lv_goto (tgt := 13) hx hb dX10_soonest_112 (by decide) ?_
        exact ih _ _ _ hf H locs ls hP hS (lv_sub hl [3, 2, 1, 0] rfl)
    intro x1 x2 x3 hf H locs ls hP hS hl
    rw [l_X10_soonest_13] at hf
    refine lv_iload_n hx hb dX10_soonest_13 rfl (lv_at hl 3 rfl) ?_
    refine lv_bipush (v := (9 : Int32)) hx hb dX10_soonest_14 (by decide) ?_
    refine lv_icmp_gt (tgt := 115) hx hb dX10_soonest_16 (by decide) (fun c1 => ?_) (fun c1 => ?_)
    · have hf := if_p hf c1
      obtain rfl := Option.some.inj hf
      exact K0 H locs ls hP hS (lv_sub hl [1] rfl)
    · have hf := if_n hf c1
      refine lv_iconst (v := (0 : Int32)) hx hb dX10_soonest_19 (by decide) ?_
      refine lv_istore (lv' := [(4, .int (0 : Int32)), (0, .ref (a 0)), (1, .int x1), (2, .int x2), (3, .int x3)]) hx hb dX10_soonest_20 hl (Nat.le_of_ble_eq_true rfl) rfl (fun ls hl => ?_)
      refine lv_iconst (v := (0 : Int32)) hx hb dX10_soonest_22 (by decide) ?_
      refine lv_istore (lv' := [(5, .int (0 : Int32)), (4, .int (0 : Int32)), (0, .ref (a 0)), (1, .int x1), (2, .int x2), (3, .int x3)]) hx hb dX10_soonest_23 hl (Nat.le_of_ble_eq_true rfl) rfl (fun ls hl => ?_)
      obtain ⟨o25, hc25, hf⟩ := ob hf
      refine lp_X10_soonest_25 C (fun H locs ls hP hS hl => ?_) fuel _ _ hc25 H locs ls hP hS (lv_sub hl [2, 3, 4, 5, 1, 0] rfl)
      refine lv_iload hx hb dX10_soonest_84 (lv_at hl 4 rfl) ?_
      refine lv_iload_n hx hb dX10_soonest_86 rfl (lv_at hl 2 rfl) ?_
      refine lv_icmp_ge (tgt := 94) hx hb dX10_soonest_87 (by decide) (fun c5 => ?_) (fun c5 => ?_)
      · have hf := if_p hf c5
        refine lv_iload_n hx hb dX10_soonest_94 rfl (lv_at hl 1 rfl) ?_
        exact J95 _ _ _ _ H locs ls hf hP hS (lv_sub hl [0, 2, 3, 4] rfl)
      · have hf := if_n hf c5
        refine lv_iload_n hx hb dX10_soonest_90 rfl (lv_at hl 3 rfl) ?_
        refine lv_goto (tgt := 95) hx hb dX10_soonest_91 (by decide) ?_
        exact J95 _ _ _ _ H locs ls hf hP hS (lv_sub hl [0, 2, 3, 4] rfl)
set_option maxHeartbeats 4000000 in
set_option maxRecDepth 100000 in
theorem c_X10_soonest (l : Launch) {D : va_G} {cI cZ : ClassId} {a : Nat → Nat} (hA : ∀ S : St, va_D (mA a) (wM cI cZ a S)) {S : St} {o : Int32 × St} (hf : f_X10_soonest S = some o) : Met l yX10_soonest wsX10_soonest rmX10_soonest (tPc D cI cZ (wM cI cZ a) S ([.ref (a 0)] : List Value)) (tQi D (wM cI cZ a) (mA a) o.2 o.1) 0 0 (mA a) := by
  refine tEnter (cc := cX10_soonest) (maxL := 8) (ret := (some .int)) (own := RX10) hA rfl (by decide) rfl (Nat.le_of_ble_eq_true rfl) (fun p e s m args below meth c C hr hlk hP hS ls hl => ?_)
  obtain ⟨⟨hx, hb, hml, hown, hts⟩, hK, hN, -⟩ := id C
  have hl : lv_has ls 8 [(0, .ref (a 0))] := hl
  have hin10 := hn_X10_soonest_10
  have hSS := hS
  rw [f_X10_soonest] at hf
  revert hP hS
  suffices hsuf : ∀ (H : Heap) (locs : List Loc), va_P D vwCl (wM cI cZ a S) H → va_S (mA a) s.heap H locs → W p l e rmX10_soonest s m args below meth c H locs 0 0 (MQ below (tQi D (wM cI cZ a) (mA a) o.2 o.1) args s 0 0 (mA a)) (F0 m 0 ls []) from fun hP hS => hsuf s.heap [] hP hS
  intro H locs hP hS
  refine lv_aload_n hx hb dX10_soonest_0 rfl (lv_at hl 0 rfl) ?_
  refine lv_iconst (v := (0 : Int32)) hx hb dX10_soonest_1 (by decide) ?_
  refine pm_10_0 C hin10 hP hS (List.mem_of_getElem? (i := 1) rfl) dX10_soonest_2 (fun H locs hP hS => ?_)
  obtain ⟨S2, eS2⟩ : ∃ z, z = (sI S 0 (0 : Int32)) := ⟨_, rfl⟩
  rw [← eS2] at hP
  have hf := nm_i hf eS2
  refine lv_bipush (v := (-9 : Int32)) hx hb dX10_soonest_5 (by decide) ?_
  refine lv_istore_n (lv' := [(1, .int (-9 : Int32)), (0, .ref (a 0))]) hx hb dX10_soonest_7 rfl hl (Nat.le_of_ble_eq_true rfl) rfl (fun ls hl => ?_)
  refine lv_ldc (v := (999999 : Int32)) hx hb hown (hts _ (List.mem_of_getElem? (i := 2) rfl)) dX10_soonest_8 ?_
  refine lv_istore_n (lv' := [(2, .int (999999 : Int32)), (1, .int (-9 : Int32)), (0, .ref (a 0))]) hx hb dX10_soonest_10 rfl hl (Nat.le_of_ble_eq_true rfl) rfl (fun ls hl => ?_)
  refine lv_iconst (v := (2 : Int32)) hx hb dX10_soonest_11 (by decide) ?_
  refine lv_istore_n (lv' := [(3, .int (2 : Int32)), (2, .int (999999 : Int32)), (1, .int (-9 : Int32)), (0, .ref (a 0))]) hx hb dX10_soonest_12 rfl hl (Nat.le_of_ble_eq_true rfl) rfl (fun ls hl => ?_)
  obtain ⟨o13, hc13, hf⟩ := ob hf
  refine lp_X10_soonest_13 C (fun H locs ls hP hS hl => ?_) fuel _ _ _ hc13 H locs ls hP hS (lv_sub hl [3, 2, 1, 0] rfl)
  refine lv_iload_n hx hb dX10_soonest_115 rfl (lv_at hl 0 rfl) ?_
  obtain rfl := Option.some.inj hf
  exact tRet_i C hr hlk hP hS dX10_soonest_116
def rmX10_test : Room := { frames := 1, cells := 0, slots := 0, locals := 25 }
theorem hn_X10_test_10 : ∀ w ∈ wsX100, w ∈ wsX10_test := fun w h => List.mem_cons_of_mem _ (List.mem_append_right _ h)
theorem hd_X10_test : yX10_test.cls ≠ "java/lang/invoke/MethodHandle" ∧ yX10_test.cls ≠ "java/lang/invoke/VarHandle" ∧ (parseMethodDescriptor yX10_test.desc).map (fun d => d.parameters.length) = some 2 := by decide +kernel
set_option maxHeartbeats 4000000 in
set_option maxRecDepth 100000 in
theorem c_X10_test (l : Launch) {D : va_G} {cI cZ : ClassId} {a : Nat → Nat} (hA : ∀ S : St, va_D (mA a) (wM cI cZ a S)) {x1 : Int32} {x2 : Int32} {S : St} {o : Int32 × St} (hf : f_X10_test x1 x2 S = some o) : Met l yX10_test wsX10_test rmX10_test (tPc D cI cZ (wM cI cZ a) S ([.ref (a 0), .int x1, .int x2] : List Value)) (tQi D (wM cI cZ a) (mA a) o.2 o.1) 0 0 (mA a) := by
  refine tEnter (cc := cX10_test) (maxL := 3) (ret := (some .int)) (own := RX10) hA rfl (by decide) rfl (Nat.le_of_ble_eq_true rfl) (fun p e s m args below meth c C hr hlk hP hS ls hl => ?_)
  obtain ⟨⟨hx, hb, hml, hown, hts⟩, hK, hN, -⟩ := id C
  have hl : lv_has ls 3 [(0, .ref (a 0)), (1, .int x1), (2, .int x2)] := hl
  have hin10 := hn_X10_test_10
  have hSS := hS
  rw [f_X10_test] at hf
  revert hP hS
  suffices hsuf : ∀ (H : Heap) (locs : List Loc), va_P D vwCl (wM cI cZ a S) H → va_S (mA a) s.heap H locs → W p l e rmX10_test s m args below meth c H locs 0 0 (MQ below (tQi D (wM cI cZ a) (mA a) o.2 o.1) args s 0 0 (mA a)) (F0 m 0 ls []) from fun hP hS => hsuf s.heap [] hP hS
  intro H locs hP hS
  refine lv_aload_n hx hb dX10_test_0 rfl (lv_at hl 0 rfl) ?_
  refine lv_iconst (v := (0 : Int32)) hx hb dX10_test_1 (by decide) ?_
  refine pm_10_0 C hin10 hP hS (List.mem_of_getElem? (i := 1) rfl) dX10_test_2 (fun H locs hP hS => ?_)
  obtain ⟨S2, eS2⟩ : ∃ z, z = (sI S 0 (0 : Int32)) := ⟨_, rfl⟩
  rw [← eS2] at hP
  have hf := nm_i hf eS2
  refine lv_iload_n hx hb dX10_test_5 rfl (lv_at hl 1 rfl) ?_
  refine lv_i2l hx hb dX10_test_6 rfl ?_
  refine lv_lconst (v := (0 : Int64)) hx hb dX10_test_7 (by decide) ?_
  refine lv_ldc2 (v := (7 : Int64)) hx hb hown (hts _ (List.mem_of_getElem? (i := 2) rfl)) dX10_test_8 ?_
  obtain ⟨r11, hc11, hf⟩ := ob hf
  refine tCallSi (As := [.long x1.toInt64, .long (0 : Int64), .long (7 : Int64)]) (rest := []) C hP hS (c_X10_in l C.2.2.2 hc11) (va_cwS 3 hts gX10_test_X10_in rfl rfl rfl hd_X10_in ⟨Nat.le_of_ble_eq_true rfl, Nat.le_of_ble_eq_true rfl⟩) rfl hl rfl (Nat.le_of_ble_eq_true rfl) dX10_test_11 ⟨Nat.le_refl 0, Nat.le_refl 0⟩ (fun H locs hP hS => ?_)
  refine lv_if_eq (tgt := 31) hx hb dX10_test_14 (by decide) (fun c1 => ?_) (fun c1 => ?_)
  · have hf := if_p hf c1
    refine lv_bipush (v := (-2 : Int32)) hx hb dX10_test_31 (by decide) ?_
    obtain rfl := Option.some.inj hf
    exact tRet_i C hr hlk hP hS dX10_test_33
  · have hf := if_n hf c1
    refine lv_iload_n hx hb dX10_test_17 rfl (lv_at hl 2 rfl) ?_
    refine lv_i2l hx hb dX10_test_18 rfl ?_
    refine lv_ldc2 (v := (-9 : Int64)) hx hb hown (hts _ (List.mem_of_getElem? (i := 3) rfl)) dX10_test_19 ?_
    refine lv_ldc2 (v := (9 : Int64)) hx hb hown (hts _ (List.mem_of_getElem? (i := 4) rfl)) dX10_test_22 ?_
    obtain ⟨r25, hc25, hf⟩ := ob hf
    refine tCallSi (As := [.long x2.toInt64, .long (-9 : Int64), .long (9 : Int64)]) (rest := []) C hP hS (c_X10_in l C.2.2.2 hc25) (va_cwS 3 hts gX10_test_X10_in rfl rfl rfl hd_X10_in ⟨Nat.le_of_ble_eq_true rfl, Nat.le_of_ble_eq_true rfl⟩) rfl hl rfl (Nat.le_of_ble_eq_true rfl) dX10_test_25 ⟨Nat.le_refl 0, Nat.le_refl 0⟩ (fun H locs hP hS => ?_)
    refine lv_if_ne (tgt := 34) hx hb dX10_test_28 (by decide) (fun c2 => ?_) (fun c2 => ?_)
    · have hf := if_n hf c2
      refine lv_aload_n hx hb dX10_test_34 rfl (lv_at hl 0 rfl) ?_
      refine gm_10_19 C hin10 hP (List.mem_of_getElem? (i := 5) rfl) dX10_test_35 ?_
      refine lv_bipush (v := (6 : Int32)) hx hb dX10_test_38 (by decide) ?_
      refine lv_icmp_ne (tgt := 46) hx hb dX10_test_40 (by decide) (fun c3 => ?_) (fun c3 => ?_)
      · have hf := if_n hf c3
        refine lv_aload_n hx hb dX10_test_46 rfl (lv_at hl 0 rfl) ?_
        refine gm_10_20 C hin10 hP (List.mem_of_getElem? (i := 6) rfl) dX10_test_47 ?_
        refine lv_aload_n hx hb dX10_test_50 rfl (lv_at hl 0 rfl) ?_
        refine gm_10_19 C hin10 hP (List.mem_of_getElem? (i := 5) rfl) dX10_test_51 ?_
        refine lv_iload_n hx hb dX10_test_54 rfl (lv_at hl 1 rfl) ?_
        obtain ⟨hi4, hf⟩ := ob_in hf
        refine stm_11 C hP hS rfl hi4 dX10_test_55 (fun H locs hP hS => ?_)
        obtain ⟨S55, eS55⟩ : ∃ z, z = (sA S2 11 ((S2.1 8).toNatClampNeg) x1) := ⟨_, rfl⟩
        rw [← eS55] at hP
        have hf := nm_i hf eS55
        refine lv_aload_n hx hb dX10_test_56 rfl (lv_at hl 0 rfl) ?_
        refine gm_10_21 C hin10 hP (List.mem_of_getElem? (i := 7) rfl) dX10_test_57 ?_
        refine lv_aload_n hx hb dX10_test_60 rfl (lv_at hl 0 rfl) ?_
        refine gm_10_19 C hin10 hP (List.mem_of_getElem? (i := 5) rfl) dX10_test_61 ?_
        refine lv_iload_n hx hb dX10_test_64 rfl (lv_at hl 2 rfl) ?_
        obtain ⟨hi5, hf⟩ := ob_in hf
        refine stm_12 C hP hS rfl hi5 dX10_test_65 (fun H locs hP hS => ?_)
        obtain ⟨S65, eS65⟩ : ∃ z, z = (sA S55 12 ((S55.1 8).toNatClampNeg) x2) := ⟨_, rfl⟩
        rw [← eS65] at hP
        have hf := nm_i hf eS65
        refine lv_aload_n hx hb dX10_test_66 rfl (lv_at hl 0 rfl) ?_
        refine lv_dup hx hb dX10_test_67 rfl ?_
        refine gm_10_19 C hin10 hP (List.mem_of_getElem? (i := 5) rfl) dX10_test_68 ?_
        refine lv_iconst (v := (1 : Int32)) hx hb dX10_test_71 (by decide) ?_
        refine lv_iadd hx hb dX10_test_72 ?_
        refine pm_10_19 C hin10 hP hS (List.mem_of_getElem? (i := 5) rfl) dX10_test_73 (fun H locs hP hS => ?_)
        obtain ⟨S73, eS73⟩ : ∃ z, z = (sI S65 8 ((S65.1 8) + (1 : Int32))) := ⟨_, rfl⟩
        rw [← eS73] at hP
        have hf := nm_i hf eS73
        refine lv_aload_n hx hb dX10_test_76 rfl (lv_at hl 0 rfl) ?_
        refine gm_10_19 C hin10 hP (List.mem_of_getElem? (i := 5) rfl) dX10_test_77 ?_
        obtain rfl := Option.some.inj hf
        exact tRet_i C hr hlk hP hS dX10_test_80
      · have hf := if_p hf c3
        refine lv_bipush (v := (-4 : Int32)) hx hb dX10_test_43 (by decide) ?_
        obtain rfl := Option.some.inj hf
        exact tRet_i C hr hlk hP hS dX10_test_45
    · have hf := if_p hf c2
      refine lv_bipush (v := (-2 : Int32)) hx hb dX10_test_31 (by decide) ?_
      obtain rfl := Option.some.inj hf
      exact tRet_i C hr hlk hP hS dX10_test_33
def rmX10_untest : Room := { frames := 0, cells := 0, slots := 0, locals := 0 }
theorem hn_X10_untest_10 : ∀ w ∈ wsX100, w ∈ wsX10_untest := fun w h => List.mem_cons_of_mem _ (List.mem_append_right _ h)
theorem hd_X10_untest : yX10_untest.cls ≠ "java/lang/invoke/MethodHandle" ∧ yX10_untest.cls ≠ "java/lang/invoke/VarHandle" ∧ (parseMethodDescriptor yX10_untest.desc).map (fun d => d.parameters.length) = some 0 := by decide +kernel
set_option maxHeartbeats 4000000 in
set_option maxRecDepth 100000 in
theorem c_X10_untest (l : Launch) {D : va_G} {cI cZ : ClassId} {a : Nat → Nat} (hA : ∀ S : St, va_D (mA a) (wM cI cZ a S)) {S : St} {o : Int32 × St} (hf : f_X10_untest S = some o) : Met l yX10_untest wsX10_untest rmX10_untest (tPc D cI cZ (wM cI cZ a) S ([.ref (a 0)] : List Value)) (tQi D (wM cI cZ a) (mA a) o.2 o.1) 0 0 (mA a) := by
  refine tEnter (cc := cX10_untest) (maxL := 2) (ret := (some .int)) (own := RX10) hA rfl (by decide) rfl (Nat.le_of_ble_eq_true rfl) (fun p e s m args below meth c C hr hlk hP hS ls hl => ?_)
  obtain ⟨⟨hx, hb, hml, hown, hts⟩, hK, hN, -⟩ := id C
  have hl : lv_has ls 2 [(0, .ref (a 0))] := hl
  have hin10 := hn_X10_untest_10
  have hSS := hS
  rw [f_X10_untest] at hf
  revert hP hS
  suffices hsuf : ∀ (H : Heap) (locs : List Loc), va_P D vwCl (wM cI cZ a S) H → va_S (mA a) s.heap H locs → W p l e rmX10_untest s m args below meth c H locs 0 0 (MQ below (tQi D (wM cI cZ a) (mA a) o.2 o.1) args s 0 0 (mA a)) (F0 m 0 ls []) from fun hP hS => hsuf s.heap [] hP hS
  intro H locs hP hS
  refine lv_aload_n hx hb dX10_untest_0 rfl (lv_at hl 0 rfl) ?_
  refine lv_iconst (v := (0 : Int32)) hx hb dX10_untest_1 (by decide) ?_
  refine pm_10_0 C hin10 hP hS (List.mem_of_getElem? (i := 1) rfl) dX10_untest_2 (fun H locs hP hS => ?_)
  obtain ⟨S2, eS2⟩ : ∃ z, z = (sI S 0 (0 : Int32)) := ⟨_, rfl⟩
  rw [← eS2] at hP
  have hf := nm_i hf eS2
  refine lv_aload_n hx hb dX10_untest_5 rfl (lv_at hl 0 rfl) ?_
  refine gm_10_19 C hin10 hP (List.mem_of_getElem? (i := 2) rfl) dX10_untest_6 ?_
  refine lv_istore_n (lv' := [(1, .int (S2.1 8)), (0, .ref (a 0))]) hx hb dX10_untest_9 rfl hl (Nat.le_of_ble_eq_true rfl) rfl (fun ls hl => ?_)
  refine lv_aload_n hx hb dX10_untest_10 rfl (lv_at hl 1 rfl) ?_
  refine lv_iconst (v := (0 : Int32)) hx hb dX10_untest_11 (by decide) ?_
  refine pm_10_19 C hin10 hP hS (List.mem_of_getElem? (i := 2) rfl) dX10_untest_12 (fun H locs hP hS => ?_)
  obtain ⟨S12, eS12⟩ : ∃ z, z = (sI S2 8 (0 : Int32)) := ⟨_, rfl⟩
  rw [← eS12] at hP
  have hf := nm_i hf eS12
  refine lv_iload_n hx hb dX10_untest_15 rfl (lv_at hl 0 rfl) ?_
  obtain rfl := Option.some.inj hf
  exact tRet_i C hr hlk hP hS dX10_untest_16
def rmX10_findChanges : Room := { frames := 0, cells := 0, slots := 0, locals := 0 }
theorem hn_X10_findChanges_10 : ∀ w ∈ wsX100, w ∈ wsX10_findChanges := fun w h => List.mem_cons_of_mem _ (List.mem_append_right _ h)
theorem hd_X10_findChanges : yX10_findChanges.cls ≠ "java/lang/invoke/MethodHandle" ∧ yX10_findChanges.cls ≠ "java/lang/invoke/VarHandle" ∧ (parseMethodDescriptor yX10_findChanges.desc).map (fun d => d.parameters.length) = some 0 := by decide +kernel
set_option maxHeartbeats 4000000 in
set_option maxRecDepth 100000 in
theorem lp_X10_findChanges_38 {p : Program} {l : Launch} {e : Env} {s : State} {m : MethodId} {args : Array Value} {below : List Frame} {meth : Method} {c : Code} {D : va_G} {cI cZ : ClassId} {a : Nat → Nat} {Q : State → Prop} {H0 : Heap} {x1 : Int32} {x2 : Int32} {S : St} {o : Int32}
    (C : tC p c s m args cX10_findChanges 5 RX10 wsX10_findChanges D cI cZ (wM cI cZ a) (mA a))
    (K0 : ∀ (H : Heap) (locs : List Loc) (ls : Array Slot), va_P D vwCl (wM cI cZ a S) H → va_S (mA a) H0 H locs → lv_has ls 5 [(0, .ref (a 0)), (1, .int x1), (2, .int x2), (3, .int o)] → W p l e rmX10_findChanges s m args below meth c H locs 0 0 Q (F0 m 92 ls [])) :
    ∀ (n : Nat) (x3 : Int32) (x4 : Int32), l_X10_findChanges_38 x1 x2 S n x3 x4 = some o → ∀ (H : Heap) (locs : List Loc) (ls : Array Slot), va_P D vwCl (wM cI cZ a S) H → va_S (mA a) H0 H locs → lv_has ls 5 [(0, .ref (a 0)), (1, .int x1), (2, .int x2), (3, .int x3), (4, .int x4)] → W p l e rmX10_findChanges s m args below meth c H locs 0 0 Q (F0 m 38 ls []) := by
  obtain ⟨⟨hx, hb, hml, hown, hts⟩, hK, hN, hA⟩ := id C
  have hin10 := hn_X10_findChanges_10
  intro n
  induction n with
  | zero =>
    intro x3 x4 hf
    rw [l_X10_findChanges_38] at hf
    cases hf
  | succ n ih =>
    have J77 : ∀ (x4 : Int32) (t0 : Int32) (t1 : Int32) (H : Heap) (locs : List Loc) (ls : Array Slot), j_X10_findChanges_77 (l_X10_findChanges_38 x1 x2 S n) x1 x2 x4 t0 t1 S = some o → va_P D vwCl (wM cI cZ a S) H → va_S (mA a) H0 H locs → lv_has ls 5 [(0, .ref (a 0)), (1, .int x1), (2, .int x2), (4, .int x4)] → W p l e rmX10_findChanges s m args below meth c H locs 0 0 Q (F0 m 77 ls [.int t0, .int t1]) := by
      intro x4 t0 t1 H locs ls hf hP hS hl
      rw [j_X10_findChanges_77] at hf
      refine lv_icmp_ne (tgt := 84) hx hb dX10_findChanges_77 (by decide) (fun c8 => ?_) (fun c8 => ?_)
      · have hf := if_n hf c8
        refine lv_iconst (v := (0 : Int32)) hx hb dX10_findChanges_84 (by decide) ?_
        refine lv_istore_n (lv' := [(3, .int (0 : Int32)), (0, .ref (a 0)), (1, .int x1), (2, .int x2), (4, .int x4)]) hx hb dX10_findChanges_85 rfl hl (Nat.le_of_ble_eq_true rfl) rfl (fun ls hl => ?_)
        refine lv_iinc (v := (x4 + 1)) (lv' := [(4, .int (x4 + 1)), (3, .int (0 : Int32)), (0, .ref (a 0)), (1, .int x1), (2, .int x2)]) hx hb dX10_findChanges_86 hl (k := 4) rfl rfl (Nat.le_of_ble_eq_true rfl) rfl (fun ls hl => ?_)
        refine lv_goto (tgt := 38) hx hb dX10_findChanges_89 (by decide) ?_
        exact ih _ _ hf H locs ls hP hS (lv_sub hl [2, 3, 4, 1, 0] rfl)
      · have hf := if_p hf c8
        refine lv_iconst (v := (1 : Int32)) hx hb dX10_findChanges_80 (by decide) ?_
        refine lv_goto (tgt := 85) hx hb dX10_findChanges_81 (by decide) ?_
        refine lv_istore_n (lv' := [(3, .int (1 : Int32)), (0, .ref (a 0)), (1, .int x1), (2, .int x2), (4, .int x4)]) hx hb dX10_findChanges_85 rfl hl (Nat.le_of_ble_eq_true rfl) rfl (fun ls hl => ?_)
        refine lv_iinc (v := (x4 + 1)) (lv' := [(4, .int (x4 + 1)), (3, .int (1 : Int32)), (0, .ref (a 0)), (1, .int x1), (2, .int x2)]) hx hb dX10_findChanges_86 hl (k := 4) rfl rfl (Nat.le_of_ble_eq_true rfl) rfl (fun ls hl => ?_)
        refine lv_goto (tgt := 38) hx hb dX10_findChanges_89 (by decide) ?_
        exact ih _ _ hf H locs ls hP hS (lv_sub hl [2, 3, 4, 1, 0] rfl)
    intro x3 x4 hf H locs ls hP hS hl
    rw [l_X10_findChanges_38] at hf
    refine lv_iload hx hb dX10_findChanges_38 (lv_at hl 4 rfl) ?_
    refine lv_aload_n hx hb dX10_findChanges_40 rfl (lv_at hl 0 rfl) ?_
    refine gm_10_19 C hin10 hP (List.mem_of_getElem? (i := 4) rfl) dX10_findChanges_41 ?_
    refine lv_icmp_ge (tgt := 92) hx hb dX10_findChanges_44 (by decide) (fun c3 => ?_) (fun c3 => ?_)
    · have hf := if_p hf c3
      obtain rfl := Option.some.inj hf
      exact K0 H locs ls hP hS (lv_sub hl [0, 1, 2, 3] rfl)
    · have hf := if_n hf c3
      refine lv_iload_n hx hb dX10_findChanges_47 rfl (lv_at hl 3 rfl) ?_
      refine lv_if_eq (tgt := 84) hx hb dX10_findChanges_48 (by decide) (fun c4 => ?_) (fun c4 => ?_)
      · have hf := if_p hf c4
        refine lv_iconst (v := (0 : Int32)) hx hb dX10_findChanges_84 (by decide) ?_
        refine lv_istore_n (lv' := [(3, .int (0 : Int32)), (0, .ref (a 0)), (1, .int x1), (2, .int x2), (4, .int x4)]) hx hb dX10_findChanges_85 rfl hl (Nat.le_of_ble_eq_true rfl) rfl (fun ls hl => ?_)
        refine lv_iinc (v := (x4 + 1)) (lv' := [(4, .int (x4 + 1)), (3, .int (0 : Int32)), (0, .ref (a 0)), (1, .int x1), (2, .int x2)]) hx hb dX10_findChanges_86 hl (k := 4) rfl rfl (Nat.le_of_ble_eq_true rfl) rfl (fun ls hl => ?_)
        refine lv_goto (tgt := 38) hx hb dX10_findChanges_89 (by decide) ?_
        exact ih _ _ hf H locs ls hP hS (lv_sub hl [2, 3, 4, 1, 0] rfl)
      · have hf := if_n hf c4
        refine lv_aload_n hx hb dX10_findChanges_51 rfl (lv_at hl 0 rfl) ?_
        refine gm_10_21 C hin10 hP (List.mem_of_getElem? (i := 5) rfl) dX10_findChanges_52 ?_
        refine lv_iload hx hb dX10_findChanges_55 (lv_at hl 4 rfl) ?_
        obtain ⟨hi5, hf⟩ := ob_in hf
        refine ldm_12 C hP rfl hi5 dX10_findChanges_57 ?_
        refine lv_aload_n hx hb dX10_findChanges_58 rfl (lv_at hl 0 rfl) ?_
        refine gm_10_20 C hin10 hP (List.mem_of_getElem? (i := 6) rfl) dX10_findChanges_59 ?_
        refine lv_iload hx hb dX10_findChanges_62 (lv_at hl 4 rfl) ?_
        obtain ⟨hi6, hf⟩ := ob_in hf
        refine ldm_11 C hP rfl hi6 dX10_findChanges_64 ?_
        refine lv_iload_n hx hb dX10_findChanges_65 rfl (lv_at hl 1 rfl) ?_
        refine lv_icmp_ge (tgt := 76) hx hb dX10_findChanges_66 (by decide) (fun c7 => ?_) (fun c7 => ?_)
        · have hf := if_p hf c7
          refine lv_iload_n hx hb dX10_findChanges_76 rfl (lv_at hl 2 rfl) ?_
          exact J77 _ _ _ H locs ls hf hP hS (lv_sub hl [0, 1, 2, 4] rfl)
        · have hf := if_n hf c7
          refine lv_aload_n hx hb dX10_findChanges_69 rfl (lv_at hl 0 rfl) ?_
          refine gm_10_5 C hin10 hP (List.mem_of_getElem? (i := 7) rfl) dX10_findChanges_70 ?_
          refine lv_goto (tgt := 77) hx hb dX10_findChanges_73 (by decide) ?_
          exact J77 _ _ _ H locs ls hf hP hS (lv_sub hl [0, 1, 2, 4] rfl)
set_option maxHeartbeats 4000000 in
set_option maxRecDepth 100000 in
theorem lp_X10_findChanges_27 {p : Program} {l : Launch} {e : Env} {s : State} {m : MethodId} {args : Array Value} {below : List Frame} {meth : Method} {c : Code} {D : va_G} {cI cZ : ClassId} {a : Nat → Nat} {Q : State → Prop} {H0 : Heap} {x1 : Int32} {o : St}
    (C : tC p c s m args cX10_findChanges 5 RX10 wsX10_findChanges D cI cZ (wM cI cZ a) (mA a))
    (K0 : ∀ (H : Heap) (locs : List Loc) (ls : Array Slot), va_P D vwCl (wM cI cZ a o) H → va_S (mA a) H0 H locs → lv_has ls 5 [(0, .ref (a 0)), (1, .int x1)] → W p l e rmX10_findChanges s m args below meth c H locs 0 0 Q (F0 m 167 ls [])) :
    ∀ (n : Nat) (x2 : Int32) (S : St), l_X10_findChanges_27 x1 n x2 S = some o → ∀ (H : Heap) (locs : List Loc) (ls : Array Slot), va_P D vwCl (wM cI cZ a S) H → va_S (mA a) H0 H locs → lv_has ls 5 [(0, .ref (a 0)), (1, .int x1), (2, .int x2)] → W p l e rmX10_findChanges s m args below meth c H locs 0 0 Q (F0 m 27 ls []) := by
  obtain ⟨⟨hx, hb, hml, hown, hts⟩, hK, hN, hA⟩ := id C
  have hin10 := hn_X10_findChanges_10
  intro n
  induction n with
  | zero =>
    intro x2 S hf
    rw [l_X10_findChanges_27] at hf
    cases hf
  | succ n ih =>
    have J137 : ∀ (x2 : Int32) (x3 : Int32) (t0 : Int32) (t1 : Int32) (S : St) (H : Heap) (locs : List Loc) (ls : Array Slot), j_X10_findChanges_137 (l_X10_findChanges_27 x1 n) x1 x2 x3 t0 t1 S = some o → va_P D vwCl (wM cI cZ a S) H → va_S (mA a) H0 H locs → lv_has ls 5 [(0, .ref (a 0)), (1, .int x1), (2, .int x2), (3, .int x3)] → W p l e rmX10_findChanges s m args below meth c H locs 0 0 Q (F0 m 137 ls [.int t0, .int t1, .ref (a 0)]) := by
      intro x2 x3 t0 t1 S H locs ls hf hP hS hl
      rw [j_X10_findChanges_137] at hf
      refine lv_iadd hx hb dX10_findChanges_137 ?_
      refine pm_10_26 C hin10 hP hS (List.mem_of_getElem? (i := 1) rfl) dX10_findChanges_138 (fun H locs hP hS => ?_)
      obtain ⟨S138, eS138⟩ : ∃ z, z = (sI S 11 (t1 + t0)) := ⟨_, rfl⟩
      rw [← eS138] at hP
      have hf := nm_i hf eS138
      refine lv_aload_n hx hb dX10_findChanges_141 rfl (lv_at hl 0 rfl) ?_
      refine lv_dup hx hb dX10_findChanges_142 rfl ?_
      refine gm_10_28 C hin10 hP (List.mem_of_getElem? (i := 3) rfl) dX10_findChanges_143 ?_
      refine lv_iload_n hx hb dX10_findChanges_146 rfl (lv_at hl 3 rfl) ?_
      refine lv_if_eq (tgt := 156) hx hb dX10_findChanges_147 (by decide) (fun c12 => ?_) (fun c12 => ?_)
      · have hf := if_p hf c12
        refine lv_iconst (v := (0 : Int32)) hx hb dX10_findChanges_156 (by decide) ?_
        refine lv_ior hx hb dX10_findChanges_157 ?_
        refine pm_10_28 C hin10 hP hS (List.mem_of_getElem? (i := 3) rfl) dX10_findChanges_158 (fun H locs hP hS => ?_)
        obtain ⟨S158, eS158⟩ : ∃ z, z = (sI S138 13 ((S138.1 13) ||| (0 : Int32))) := ⟨_, rfl⟩
        rw [← eS158] at hP
        have hf := nm_i hf eS158
        refine lv_iinc (v := (x2 + 1)) (lv' := [(2, .int (x2 + 1)), (0, .ref (a 0)), (1, .int x1), (3, .int x3)]) hx hb dX10_findChanges_161 hl (k := 2) rfl rfl (Nat.le_of_ble_eq_true rfl) rfl (fun ls hl => ?_)
        refine lv_goto (tgt := 27) hx hb dX10_findChanges_164 (by decide) ?_
        exact ih _ _ hf H locs ls hP hS (lv_sub hl [1, 2, 0] rfl)
      · have hf := if_n hf c12
        refine lv_iconst (v := (1 : Int32)) hx hb dX10_findChanges_150 (by decide) ?_
        refine lv_iload_n hx hb dX10_findChanges_151 rfl (lv_at hl 1 rfl) ?_
        refine lv_ishl hx hb dX10_findChanges_152 ?_
        refine lv_goto (tgt := 157) hx hb dX10_findChanges_153 (by decide) ?_
        refine lv_ior hx hb dX10_findChanges_157 ?_
        refine pm_10_28 C hin10 hP hS (List.mem_of_getElem? (i := 3) rfl) dX10_findChanges_158 (fun H locs hP hS => ?_)
        obtain ⟨S158, eS158⟩ : ∃ z, z = (sI S138 13 ((S138.1 13) ||| ((1 : Int32) <<< (x1 &&& 31)))) := ⟨_, rfl⟩
        rw [← eS158] at hP
        have hf := nm_i hf eS158
        refine lv_iinc (v := (x2 + 1)) (lv' := [(2, .int (x2 + 1)), (0, .ref (a 0)), (1, .int x1), (3, .int x3)]) hx hb dX10_findChanges_161 hl (k := 2) rfl rfl (Nat.le_of_ble_eq_true rfl) rfl (fun ls hl => ?_)
        refine lv_goto (tgt := 27) hx hb dX10_findChanges_164 (by decide) ?_
        exact ih _ _ hf H locs ls hP hS (lv_sub hl [1, 2, 0] rfl)
    have J120 : ∀ (x2 : Int32) (x3 : Int32) (t0 : Int32) (S : St) (H : Heap) (locs : List Loc) (ls : Array Slot), j_X10_findChanges_120 (l_X10_findChanges_27 x1 n) x1 x2 x3 t0 S = some o → va_P D vwCl (wM cI cZ a S) H → va_S (mA a) H0 H locs → lv_has ls 5 [(0, .ref (a 0)), (1, .int x1), (2, .int x2), (3, .int x3)] → W p l e rmX10_findChanges s m args below meth c H locs 0 0 Q (F0 m 120 ls [.int t0, .ref (a 0)]) := by
      intro x2 x3 t0 S H locs ls hf hP hS hl
      rw [j_X10_findChanges_120] at hf
      refine pm_10_27 C hin10 hP hS (List.mem_of_getElem? (i := 2) rfl) dX10_findChanges_120 (fun H locs hP hS => ?_)
      obtain ⟨S120, eS120⟩ : ∃ z, z = (sI S 12 t0) := ⟨_, rfl⟩
      rw [← eS120] at hP
      have hf := nm_i hf eS120
      refine lv_aload_n hx hb dX10_findChanges_123 rfl (lv_at hl 0 rfl) ?_
      refine lv_dup hx hb dX10_findChanges_124 rfl ?_
      refine gm_10_26 C hin10 hP (List.mem_of_getElem? (i := 1) rfl) dX10_findChanges_125 ?_
      refine lv_iload_n hx hb dX10_findChanges_128 rfl (lv_at hl 3 rfl) ?_
      refine lv_if_eq (tgt := 136) hx hb dX10_findChanges_129 (by decide) (fun c11 => ?_) (fun c11 => ?_)
      · have hf := if_p hf c11
        refine lv_iconst (v := (0 : Int32)) hx hb dX10_findChanges_136 (by decide) ?_
        exact J137 _ _ _ _ _ H locs ls hf hP hS (lv_sub hl [0, 1, 2, 3] rfl)
      · have hf := if_n hf c11
        refine lv_iconst (v := (1 : Int32)) hx hb dX10_findChanges_132 (by decide) ?_
        refine lv_goto (tgt := 137) hx hb dX10_findChanges_133 (by decide) ?_
        exact J137 _ _ _ _ _ H locs ls hf hP hS (lv_sub hl [0, 1, 2, 3] rfl)
    have J116 : ∀ (x2 : Int32) (x3 : Int32) (S : St) (H : Heap) (locs : List Loc) (ls : Array Slot), j_X10_findChanges_116 (l_X10_findChanges_27 x1 n) x1 x2 x3 S = some o → va_P D vwCl (wM cI cZ a S) H → va_S (mA a) H0 H locs → lv_has ls 5 [(0, .ref (a 0)), (1, .int x1), (2, .int x2), (3, .int x3)] → W p l e rmX10_findChanges s m args below meth c H locs 0 0 Q (F0 m 116 ls [.ref (a 0)]) := by
      intro x2 x3 S H locs ls hf hP hS hl
      rw [j_X10_findChanges_116] at hf
      refine lv_aload_n hx hb dX10_findChanges_116 rfl (lv_at hl 0 rfl) ?_
      refine gm_10_27 C hin10 hP (List.mem_of_getElem? (i := 2) rfl) dX10_findChanges_117 ?_
      exact J120 _ _ _ _ H locs ls hf hP hS (lv_sub hl [0, 1, 2, 3] rfl)
    intro x2 S hf H locs ls hP hS hl
    rw [l_X10_findChanges_27] at hf
    refine lv_iload_n hx hb dX10_findChanges_27 rfl (lv_at hl 2 rfl) ?_
    refine lv_bipush (v := (9 : Int32)) hx hb dX10_findChanges_28 (by decide) ?_
    refine lv_icmp_gt (tgt := 167) hx hb dX10_findChanges_30 (by decide) (fun c2 => ?_) (fun c2 => ?_)
    · have hf := if_p hf c2
      obtain rfl := Option.some.inj hf
      exact K0 H locs ls hP hS (lv_sub hl [0, 1] rfl)
    · have hf := if_n hf c2
      refine lv_iconst (v := (1 : Int32)) hx hb dX10_findChanges_33 (by decide) ?_
      refine lv_istore_n (lv' := [(3, .int (1 : Int32)), (0, .ref (a 0)), (1, .int x1), (2, .int x2)]) hx hb dX10_findChanges_34 rfl hl (Nat.le_of_ble_eq_true rfl) rfl (fun ls hl => ?_)
      refine lv_iconst (v := (0 : Int32)) hx hb dX10_findChanges_35 (by decide) ?_
      refine lv_istore (lv' := [(4, .int (0 : Int32)), (3, .int (1 : Int32)), (0, .ref (a 0)), (1, .int x1), (2, .int x2)]) hx hb dX10_findChanges_36 hl (Nat.le_of_ble_eq_true rfl) rfl (fun ls hl => ?_)
      obtain ⟨o38, hc38, hf⟩ := ob hf
      refine lp_X10_findChanges_38 C (fun H locs ls hP hS hl => ?_) fuel _ _ hc38 H locs ls hP hS (lv_sub hl [2, 3, 4, 1, 0] rfl)
      refine lv_aload_n hx hb dX10_findChanges_92 rfl (lv_at hl 0 rfl) ?_
      refine lv_iload_n hx hb dX10_findChanges_93 rfl (lv_at hl 3 rfl) ?_
      refine lv_if_eq (tgt := 116) hx hb dX10_findChanges_94 (by decide) (fun c9 => ?_) (fun c9 => ?_)
      · have hf := if_p hf c9
        exact J116 _ _ _ H locs ls hf hP hS (lv_sub hl [0, 1, 2, 3] rfl)
      · have hf := if_n hf c9
        refine lv_aload_n hx hb dX10_findChanges_97 rfl (lv_at hl 0 rfl) ?_
        refine gm_10_26 C hin10 hP (List.mem_of_getElem? (i := 1) rfl) dX10_findChanges_98 ?_
        refine lv_if_ne (tgt := 116) hx hb dX10_findChanges_101 (by decide) (fun c10 => ?_) (fun c10 => ?_)
        · have hf := if_n hf c10
          exact J116 _ _ _ H locs ls hf hP hS (lv_sub hl [0, 1, 2, 3] rfl)
        · have hf := if_p hf c10
          refine lv_bipush (v := (100 : Int32)) hx hb dX10_findChanges_104 (by decide) ?_
          refine lv_iload_n hx hb dX10_findChanges_106 rfl (lv_at hl 1 rfl) ?_
          refine lv_imul hx hb dX10_findChanges_107 ?_
          refine lv_iload_n hx hb dX10_findChanges_108 rfl (lv_at hl 2 rfl) ?_
          refine lv_iadd hx hb dX10_findChanges_109 ?_
          refine lv_bipush (v := (50 : Int32)) hx hb dX10_findChanges_110 (by decide) ?_
          refine lv_iadd hx hb dX10_findChanges_112 ?_
          refine lv_goto (tgt := 120) hx hb dX10_findChanges_113 (by decide) ?_
          exact J120 _ _ _ _ H locs ls hf hP hS (lv_sub hl [0, 1, 2, 3] rfl)
set_option maxHeartbeats 4000000 in
set_option maxRecDepth 100000 in
theorem lp_X10_findChanges_18 {p : Program} {l : Launch} {e : Env} {s : State} {m : MethodId} {args : Array Value} {below : List Frame} {meth : Method} {c : Code} {D : va_G} {cI cZ : ClassId} {a : Nat → Nat} {Q : State → Prop} {H0 : Heap} {o : St}
    (C : tC p c s m args cX10_findChanges 5 RX10 wsX10_findChanges D cI cZ (wM cI cZ a) (mA a))
    (K0 : ∀ (H : Heap) (locs : List Loc) (ls : Array Slot), va_P D vwCl (wM cI cZ a o) H → va_S (mA a) H0 H locs → lv_has ls 5 [] → W p l e rmX10_findChanges s m args below meth c H locs 0 0 Q (F0 m 173 ls [])) :
    ∀ (n : Nat) (x1 : Int32) (S : St), l_X10_findChanges_18 n x1 S = some o → ∀ (H : Heap) (locs : List Loc) (ls : Array Slot), va_P D vwCl (wM cI cZ a S) H → va_S (mA a) H0 H locs → lv_has ls 5 [(0, .ref (a 0)), (1, .int x1)] → W p l e rmX10_findChanges s m args below meth c H locs 0 0 Q (F0 m 18 ls []) := by
  obtain ⟨⟨hx, hb, hml, hown, hts⟩, hK, hN, hA⟩ := id C
  have hin10 := hn_X10_findChanges_10
  intro n
  induction n with
  | zero =>
    intro x1 S hf
    rw [l_X10_findChanges_18] at hf
    cases hf
  | succ n ih =>
    intro x1 S hf H locs ls hP hS hl
    rw [l_X10_findChanges_18] at hf
    refine lv_iload_n hx hb dX10_findChanges_18 rfl (lv_at hl 1 rfl) ?_
    refine lv_bipush (v := (8 : Int32)) hx hb dX10_findChanges_19 (by decide) ?_
    refine lv_icmp_gt (tgt := 173) hx hb dX10_findChanges_21 (by decide) (fun c1 => ?_) (fun c1 => ?_)
    · have hf := if_p hf c1
      obtain rfl := Option.some.inj hf
      exact K0 H locs ls hP hS (lv_sub hl [] rfl)
    · have hf := if_n hf c1
      refine lv_bipush (v := (-9 : Int32)) hx hb dX10_findChanges_24 (by decide) ?_
      refine lv_istore_n (lv' := [(2, .int (-9 : Int32)), (0, .ref (a 0)), (1, .int x1)]) hx hb dX10_findChanges_26 rfl hl (Nat.le_of_ble_eq_true rfl) rfl (fun ls hl => ?_)
      obtain ⟨o27, hc27, hf⟩ := ob hf
      refine lp_X10_findChanges_27 C (fun H locs ls hP hS hl => ?_) fuel _ _ hc27 H locs ls hP hS (lv_sub hl [1, 2, 0] rfl)
      refine lv_iinc (v := (x1 + 1)) (lv' := [(1, .int (x1 + 1)), (0, .ref (a 0))]) hx hb dX10_findChanges_167 hl (k := 1) rfl rfl (Nat.le_of_ble_eq_true rfl) rfl (fun ls hl => ?_)
      refine lv_goto (tgt := 18) hx hb dX10_findChanges_170 (by decide) ?_
      exact ih _ _ hf H locs ls hP hS (lv_sub hl [1, 0] rfl)
set_option maxHeartbeats 4000000 in
set_option maxRecDepth 100000 in
theorem c_X10_findChanges (l : Launch) {D : va_G} {cI cZ : ClassId} {a : Nat → Nat} (hA : ∀ S : St, va_D (mA a) (wM cI cZ a S)) {S : St} {o : St} (hf : f_X10_findChanges S = some o) : Met l yX10_findChanges wsX10_findChanges rmX10_findChanges (tPc D cI cZ (wM cI cZ a) S ([.ref (a 0)] : List Value)) (tQv D (wM cI cZ a) (mA a) o) 0 0 (mA a) := by
  refine tEnter (cc := cX10_findChanges) (maxL := 5) (ret := none) (own := RX10) hA rfl (by decide) rfl (Nat.le_of_ble_eq_true rfl) (fun p e s m args below meth c C hr hlk hP hS ls hl => ?_)
  obtain ⟨⟨hx, hb, hml, hown, hts⟩, hK, hN, -⟩ := id C
  have hl : lv_has ls 5 [(0, .ref (a 0))] := hl
  have hin10 := hn_X10_findChanges_10
  have hSS := hS
  rw [f_X10_findChanges] at hf
  revert hP hS
  suffices hsuf : ∀ (H : Heap) (locs : List Loc), va_P D vwCl (wM cI cZ a S) H → va_S (mA a) s.heap H locs → W p l e rmX10_findChanges s m args below meth c H locs 0 0 (MQ below (tQv D (wM cI cZ a) (mA a) o) args s 0 0 (mA a)) (F0 m 0 ls []) from fun hP hS => hsuf s.heap [] hP hS
  intro H locs hP hS
  refine lv_aload_n hx hb dX10_findChanges_0 rfl (lv_at hl 0 rfl) ?_
  refine lv_iconst (v := (0 : Int32)) hx hb dX10_findChanges_1 (by decide) ?_
  refine pm_10_26 C hin10 hP hS (List.mem_of_getElem? (i := 1) rfl) dX10_findChanges_2 (fun H locs hP hS => ?_)
  obtain ⟨S2, eS2⟩ : ∃ z, z = (sI S 11 (0 : Int32)) := ⟨_, rfl⟩
  rw [← eS2] at hP
  have hf := nm_i hf eS2
  refine lv_aload_n hx hb dX10_findChanges_5 rfl (lv_at hl 0 rfl) ?_
  refine lv_bipush (v := (-9 : Int32)) hx hb dX10_findChanges_6 (by decide) ?_
  refine pm_10_27 C hin10 hP hS (List.mem_of_getElem? (i := 2) rfl) dX10_findChanges_8 (fun H locs hP hS => ?_)
  obtain ⟨S8, eS8⟩ : ∃ z, z = (sI S2 12 (-9 : Int32)) := ⟨_, rfl⟩
  rw [← eS8] at hP
  have hf := nm_i hf eS8
  refine lv_aload_n hx hb dX10_findChanges_11 rfl (lv_at hl 0 rfl) ?_
  refine lv_iconst (v := (0 : Int32)) hx hb dX10_findChanges_12 (by decide) ?_
  refine pm_10_28 C hin10 hP hS (List.mem_of_getElem? (i := 3) rfl) dX10_findChanges_13 (fun H locs hP hS => ?_)
  obtain ⟨S13, eS13⟩ : ∃ z, z = (sI S8 13 (0 : Int32)) := ⟨_, rfl⟩
  rw [← eS13] at hP
  have hf := nm_i hf eS13
  refine lv_iconst (v := (0 : Int32)) hx hb dX10_findChanges_16 (by decide) ?_
  refine lv_istore_n (lv' := [(1, .int (0 : Int32)), (0, .ref (a 0))]) hx hb dX10_findChanges_17 rfl hl (Nat.le_of_ble_eq_true rfl) rfl (fun ls hl => ?_)
  obtain ⟨o18, hc18, hf⟩ := ob hf
  refine lp_X10_findChanges_18 C (fun H locs ls hP hS hl => ?_) fuel _ _ hc18 H locs ls hP hS (lv_sub hl [1, 0] rfl)
  obtain rfl := Option.some.inj hf
  exact tRet_v C hr hlk hP hS dX10_findChanges_173
