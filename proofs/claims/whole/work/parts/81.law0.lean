/-! case 0: X9_write -/
set_option maxHeartbeats 4000000 in
set_option maxRecDepth 100000 in
theorem law_0 {p : Program} {l : Launch} {e : Env} {s : State} {m : MethodId} {args : Array Value} {below : List Frame} {meth : Method} {c : Code} {H : Heap} {locs : List Loc} {Q : State → Prop} {ls : Array Slot} {D : va_G} {cI cZ : ClassId} {b L : Nat} {xs : Nat → Int32} {aX aM : Nat → Nat} {S M : St} {n : Nat} (C : lC p c s m args D cI cZ b L xs aX aM) (hI : Inv S M) (hPX : va_P D vwCl (wX cI cZ aX S) H) (hPM : va_P D vwCl (wM cI cZ aM M) H) (hS : va_S (lA s) s.heap H locs) (hl : lv_has ls 4 [(0, .ref b), (1, .ref (aX 0)), (2, .ref (aM 0)), (3, .int (nI n))]) (hn : n + 4 ≤ L)
    (kk : ∀ (H : Heap) (locs : List Loc) (S M : St), Inv S M → va_P D vwCl (wX cI cZ aX S) H → va_P D vwCl (wM cI cZ aM M) H → va_S (lA s) s.heap H locs → W p l e room_1 s m args below meth c H locs 36 836 Q (F0 m 1015 ls [])) : W p l e room_1 s m args below meth c H locs 36 836 Q (F0 m 184 ls []) := by
  obtain ⟨⟨hx, hb, hml, hown, hts⟩, hK, hN, ⟨hX, hbl, hL⟩, -⟩ := id C
  have hbA : ¬ lA s b := fun h => Nat.not_le_of_lt hbl h
  refine lv_aload_n hx hb dL_law_184 rfl (lv_at hl 1 rfl) ?_
  refine lv_aload_n hx hb dL_law_185 rfl (lv_at hl 0 rfl) ?_
  refine lv_iload_n hx hb dL_law_186 rfl (lv_at hl 3 rfl) ?_
  refine lv_iconst (v := nI 1) hx hb dL_law_187 (by decide) ?_
  refine lv_iadd hx hb dL_law_188 ?_
  refine va_sld hx hb hX hbl hbA hS (ixL (k := 1) (by omega) hL) dL_law_189 ?_
  obtain ⟨r, S1, M1, eX, eM, hI1⟩ := op_write hI (xs ((nI n) + (nI 1)).toNatClampNeg)
  refine lCall_i (V := wX cI cZ aX) (V2 := wM cI cZ aM) (S' := S1) (T := M) (r := r) (As := [.int (xs ((nI n) + (nI 1)).toNatClampNeg)]) (rest := []) (q0 := 0) (ci := 9) C.1 hK hN hPX hPM (lX_M C M) (lX_A C) hS rfl rfl (c_X9_write l (xD C.2.2.2.2.1.1) eX) (cwV 1 hts gL_law_X9_write rfl rfl rfl ⟨rfl, hd_X9_write⟩ ⟨Nat.le_of_ble_eq_true rfl, Nat.le_of_ble_eq_true rfl⟩) rfl hl rfl (Nat.le_of_ble_eq_true rfl) dL_law_190 ⟨Nat.le_refl _, Nat.le_refl _⟩ (fun H locs hPX hPM hS => ?_)
  refine lv_aload_n hx hb dL_law_193 rfl (lv_at hl 2 rfl) ?_
  refine lv_aload_n hx hb dL_law_194 rfl (lv_at hl 0 rfl) ?_
  refine lv_iload_n hx hb dL_law_195 rfl (lv_at hl 3 rfl) ?_
  refine lv_iconst (v := nI 1) hx hb dL_law_196 (by decide) ?_
  refine lv_iadd hx hb dL_law_197 ?_
  refine va_sld hx hb hX hbl hbA hS (ixL (k := 1) (by omega) hL) dL_law_198 ?_
  refine lCall_i (V := wM cI cZ aM) (V2 := wX cI cZ aX) (S' := M1) (T := S1) (r := r) (As := [.int (xs ((nI n) + (nI 1)).toNatClampNeg)]) (rest := [.int r]) (q0 := 0) (ci := 10) C.1 hK hN hPM hPX (lM_X C S1) (lM_A C) hS rfl rfl (c_X10_write l (mD C.2.2.2.2.1.2) eM) (cwV 1 hts gL_law_X10_write rfl rfl rfl ⟨rfl, hd_X10_write⟩ ⟨Nat.le_of_ble_eq_true rfl, Nat.le_of_ble_eq_true rfl⟩) rfl hl rfl (Nat.le_of_ble_eq_true rfl) dL_law_199 ⟨Nat.le_refl _, Nat.le_refl _⟩ (fun H locs hPM hPX hS => ?_)
  exact lv_icmp_eq (tgt := 1015) hx hb dL_law_202 (by decide) (fun _ => kk H locs S1 M1 hI1 hPX hPM hS) (fun c1 => absurd rfl c1)
/-! case 1: X9_wipe -/
set_option maxHeartbeats 4000000 in
set_option maxRecDepth 100000 in
theorem law_1 {p : Program} {l : Launch} {e : Env} {s : State} {m : MethodId} {args : Array Value} {below : List Frame} {meth : Method} {c : Code} {H : Heap} {locs : List Loc} {Q : State → Prop} {ls : Array Slot} {D : va_G} {cI cZ : ClassId} {b L : Nat} {xs : Nat → Int32} {aX aM : Nat → Nat} {S M : St} {n : Nat} (C : lC p c s m args D cI cZ b L xs aX aM) (hI : Inv S M) (hPX : va_P D vwCl (wX cI cZ aX S) H) (hPM : va_P D vwCl (wM cI cZ aM M) H) (hS : va_S (lA s) s.heap H locs) (hl : lv_has ls 4 [(0, .ref b), (1, .ref (aX 0)), (2, .ref (aM 0)), (3, .int (nI n))]) (hn : n + 4 ≤ L)
    (kk : ∀ (H : Heap) (locs : List Loc) (S M : St), Inv S M → va_P D vwCl (wX cI cZ aX S) H → va_P D vwCl (wM cI cZ aM M) H → va_S (lA s) s.heap H locs → W p l e room_1 s m args below meth c H locs 36 836 Q (F0 m 1015 ls [])) : W p l e room_1 s m args below meth c H locs 36 836 Q (F0 m 207 ls []) := by
  obtain ⟨⟨hx, hb, hml, hown, hts⟩, hK, hN, ⟨hX, hbl, hL⟩, -⟩ := id C
  have hbA : ¬ lA s b := fun h => Nat.not_le_of_lt hbl h
  refine lv_aload_n hx hb dL_law_207 rfl (lv_at hl 1 rfl) ?_
  obtain ⟨r, S1, M1, eX, eM, hI1⟩ := op_wipe hI
  refine lCall_i (V := wX cI cZ aX) (V2 := wM cI cZ aM) (S' := S1) (T := M) (r := r) (As := []) (rest := []) (q0 := 0) (ci := 9) C.1 hK hN hPX hPM (lX_M C M) (lX_A C) hS rfl rfl (c_X9_wipe l (xD C.2.2.2.2.1.1) eX) (cwV 0 hts gL_law_X9_wipe rfl rfl rfl ⟨rfl, hd_X9_wipe⟩ ⟨Nat.le_of_ble_eq_true rfl, Nat.le_of_ble_eq_true rfl⟩) rfl hl rfl (Nat.le_of_ble_eq_true rfl) dL_law_208 ⟨Nat.le_refl _, Nat.le_refl _⟩ (fun H locs hPX hPM hS => ?_)
  refine lv_aload_n hx hb dL_law_211 rfl (lv_at hl 2 rfl) ?_
  refine lCall_i (V := wM cI cZ aM) (V2 := wX cI cZ aX) (S' := M1) (T := S1) (r := r) (As := []) (rest := [.int r]) (q0 := 0) (ci := 10) C.1 hK hN hPM hPX (lM_X C S1) (lM_A C) hS rfl rfl (c_X10_wipe l (mD C.2.2.2.2.1.2) eM) (cwV 0 hts gL_law_X10_wipe rfl rfl rfl ⟨rfl, hd_X10_wipe⟩ ⟨Nat.le_of_ble_eq_true rfl, Nat.le_of_ble_eq_true rfl⟩) rfl hl rfl (Nat.le_of_ble_eq_true rfl) dL_law_212 ⟨Nat.le_refl _, Nat.le_refl _⟩ (fun H locs hPM hPX hS => ?_)
  exact lv_icmp_eq (tgt := 1015) hx hb dL_law_215 (by decide) (fun _ => kk H locs S1 M1 hI1 hPX hPM hS) (fun c1 => absurd rfl c1)
/-! case 2: X9_fault -/
set_option maxHeartbeats 4000000 in
set_option maxRecDepth 100000 in
theorem law_2 {p : Program} {l : Launch} {e : Env} {s : State} {m : MethodId} {args : Array Value} {below : List Frame} {meth : Method} {c : Code} {H : Heap} {locs : List Loc} {Q : State → Prop} {ls : Array Slot} {D : va_G} {cI cZ : ClassId} {b L : Nat} {xs : Nat → Int32} {aX aM : Nat → Nat} {S M : St} {n : Nat} (C : lC p c s m args D cI cZ b L xs aX aM) (hI : Inv S M) (hPX : va_P D vwCl (wX cI cZ aX S) H) (hPM : va_P D vwCl (wM cI cZ aM M) H) (hS : va_S (lA s) s.heap H locs) (hl : lv_has ls 4 [(0, .ref b), (1, .ref (aX 0)), (2, .ref (aM 0)), (3, .int (nI n))]) (hn : n + 4 ≤ L)
    (kk : ∀ (H : Heap) (locs : List Loc) (S M : St), Inv S M → va_P D vwCl (wX cI cZ aX S) H → va_P D vwCl (wM cI cZ aM M) H → va_S (lA s) s.heap H locs → W p l e room_1 s m args below meth c H locs 36 836 Q (F0 m 1015 ls [])) : W p l e room_1 s m args below meth c H locs 36 836 Q (F0 m 220 ls []) := by
  obtain ⟨⟨hx, hb, hml, hown, hts⟩, hK, hN, ⟨hX, hbl, hL⟩, -⟩ := id C
  have hbA : ¬ lA s b := fun h => Nat.not_le_of_lt hbl h
  refine lv_aload_n hx hb dL_law_220 rfl (lv_at hl 1 rfl) ?_
  obtain ⟨r, M1, eX, eM, hI1⟩ := op_fault hI
  refine lCall_i (V := wX cI cZ aX) (V2 := wM cI cZ aM) (S' := S) (T := M) (r := r) (As := []) (rest := []) (q0 := 0) (ci := 9) C.1 hK hN hPX hPM (lX_M C M) (lX_A C) hS rfl rfl (c_X9_fault l (xD C.2.2.2.2.1.1) eX) (cwV 0 hts gL_law_X9_fault rfl rfl rfl ⟨rfl, hd_X9_fault⟩ ⟨Nat.le_of_ble_eq_true rfl, Nat.le_of_ble_eq_true rfl⟩) rfl hl rfl (Nat.le_of_ble_eq_true rfl) dL_law_221 ⟨Nat.le_refl _, Nat.le_refl _⟩ (fun H locs hPX hPM hS => ?_)
  refine lv_aload_n hx hb dL_law_224 rfl (lv_at hl 2 rfl) ?_
  refine lCall_i (V := wM cI cZ aM) (V2 := wX cI cZ aX) (S' := M1) (T := S) (r := r) (As := []) (rest := [.int r]) (q0 := 0) (ci := 10) C.1 hK hN hPM hPX (lM_X C S) (lM_A C) hS rfl rfl (c_X10_fault l (mD C.2.2.2.2.1.2) eM) (cwV 0 hts gL_law_X10_fault rfl rfl rfl ⟨rfl, hd_X10_fault⟩ ⟨Nat.le_of_ble_eq_true rfl, Nat.le_of_ble_eq_true rfl⟩) rfl hl rfl (Nat.le_of_ble_eq_true rfl) dL_law_225 ⟨Nat.le_refl _, Nat.le_refl _⟩ (fun H locs hPM hPX hS => ?_)
  exact lv_icmp_eq (tgt := 1015) hx hb dL_law_228 (by decide) (fun _ => kk H locs S M1 hI1 hPX hPM hS) (fun c1 => absurd rfl c1)
/-! case 3: X9_line -/
set_option maxHeartbeats 4000000 in
set_option maxRecDepth 100000 in
theorem law_3 {p : Program} {l : Launch} {e : Env} {s : State} {m : MethodId} {args : Array Value} {below : List Frame} {meth : Method} {c : Code} {H : Heap} {locs : List Loc} {Q : State → Prop} {ls : Array Slot} {D : va_G} {cI cZ : ClassId} {b L : Nat} {xs : Nat → Int32} {aX aM : Nat → Nat} {S M : St} {n : Nat} (C : lC p c s m args D cI cZ b L xs aX aM) (hI : Inv S M) (hPX : va_P D vwCl (wX cI cZ aX S) H) (hPM : va_P D vwCl (wM cI cZ aM M) H) (hS : va_S (lA s) s.heap H locs) (hl : lv_has ls 4 [(0, .ref b), (1, .ref (aX 0)), (2, .ref (aM 0)), (3, .int (nI n))]) (hn : n + 4 ≤ L)
    (kk : ∀ (H : Heap) (locs : List Loc) (S M : St), Inv S M → va_P D vwCl (wX cI cZ aX S) H → va_P D vwCl (wM cI cZ aM M) H → va_S (lA s) s.heap H locs → W p l e room_1 s m args below meth c H locs 36 836 Q (F0 m 1015 ls [])) : W p l e room_1 s m args below meth c H locs 36 836 Q (F0 m 233 ls []) := by
  obtain ⟨⟨hx, hb, hml, hown, hts⟩, hK, hN, ⟨hX, hbl, hL⟩, -⟩ := id C
  have hbA : ¬ lA s b := fun h => Nat.not_le_of_lt hbl h
  refine lv_aload_n hx hb dL_law_233 rfl (lv_at hl 1 rfl) ?_
  obtain ⟨r, S1, M1, eX, eM, hI1⟩ := op_line hI
  refine lCall_i (V := wX cI cZ aX) (V2 := wM cI cZ aM) (S' := S1) (T := M) (r := r) (As := []) (rest := []) (q0 := 0) (ci := 9) C.1 hK hN hPX hPM (lX_M C M) (lX_A C) hS rfl rfl (c_X9_line l (xD C.2.2.2.2.1.1) eX) (cwV 0 hts gL_law_X9_line rfl rfl rfl ⟨rfl, hd_X9_line⟩ ⟨Nat.le_of_ble_eq_true rfl, Nat.le_of_ble_eq_true rfl⟩) rfl hl rfl (Nat.le_of_ble_eq_true rfl) dL_law_234 ⟨Nat.le_refl _, Nat.le_refl _⟩ (fun H locs hPX hPM hS => ?_)
  refine lv_aload_n hx hb dL_law_237 rfl (lv_at hl 2 rfl) ?_
  refine lCall_i (V := wM cI cZ aM) (V2 := wX cI cZ aX) (S' := M1) (T := S1) (r := r) (As := []) (rest := [.int r]) (q0 := 0) (ci := 10) C.1 hK hN hPM hPX (lM_X C S1) (lM_A C) hS rfl rfl (c_X10_line l (mD C.2.2.2.2.1.2) eM) (cwV 0 hts gL_law_X10_line rfl rfl rfl ⟨rfl, hd_X10_line⟩ ⟨Nat.le_of_ble_eq_true rfl, Nat.le_of_ble_eq_true rfl⟩) rfl hl rfl (Nat.le_of_ble_eq_true rfl) dL_law_238 ⟨Nat.le_refl _, Nat.le_refl _⟩ (fun H locs hPM hPX hS => ?_)
  exact lv_icmp_eq (tgt := 1015) hx hb dL_law_241 (by decide) (fun _ => kk H locs S1 M1 hI1 hPX hPM hS) (fun c1 => absurd rfl c1)
/-! case 4: X9_about -/
set_option maxHeartbeats 4000000 in
set_option maxRecDepth 100000 in
theorem law_4 {p : Program} {l : Launch} {e : Env} {s : State} {m : MethodId} {args : Array Value} {below : List Frame} {meth : Method} {c : Code} {H : Heap} {locs : List Loc} {Q : State → Prop} {ls : Array Slot} {D : va_G} {cI cZ : ClassId} {b L : Nat} {xs : Nat → Int32} {aX aM : Nat → Nat} {S M : St} {n : Nat} (C : lC p c s m args D cI cZ b L xs aX aM) (hI : Inv S M) (hPX : va_P D vwCl (wX cI cZ aX S) H) (hPM : va_P D vwCl (wM cI cZ aM M) H) (hS : va_S (lA s) s.heap H locs) (hl : lv_has ls 4 [(0, .ref b), (1, .ref (aX 0)), (2, .ref (aM 0)), (3, .int (nI n))]) (hn : n + 4 ≤ L)
    (kk : ∀ (H : Heap) (locs : List Loc) (S M : St), Inv S M → va_P D vwCl (wX cI cZ aX S) H → va_P D vwCl (wM cI cZ aM M) H → va_S (lA s) s.heap H locs → W p l e room_1 s m args below meth c H locs 36 836 Q (F0 m 1015 ls [])) : W p l e room_1 s m args below meth c H locs 36 836 Q (F0 m 246 ls []) := by
  obtain ⟨⟨hx, hb, hml, hown, hts⟩, hK, hN, ⟨hX, hbl, hL⟩, -⟩ := id C
  have hbA : ¬ lA s b := fun h => Nat.not_le_of_lt hbl h
  refine lv_aload_n hx hb dL_law_246 rfl (lv_at hl 1 rfl) ?_
  refine lv_aload_n hx hb dL_law_247 rfl (lv_at hl 0 rfl) ?_
  refine lv_iload_n hx hb dL_law_248 rfl (lv_at hl 3 rfl) ?_
  refine lv_iconst (v := nI 1) hx hb dL_law_249 (by decide) ?_
  refine lv_iadd hx hb dL_law_250 ?_
  refine va_sld hx hb hX hbl hbA hS (ixL (k := 1) (by omega) hL) dL_law_251 ?_
  obtain ⟨r, M1, eX, eM, hI1⟩ := op_about hI (xs ((nI n) + (nI 1)).toNatClampNeg)
  refine lCall_i (V := wX cI cZ aX) (V2 := wM cI cZ aM) (S' := S) (T := M) (r := r) (As := [.int (xs ((nI n) + (nI 1)).toNatClampNeg)]) (rest := []) (q0 := 0) (ci := 9) C.1 hK hN hPX hPM (lX_M C M) (lX_A C) hS rfl rfl (c_X9_about l (xD C.2.2.2.2.1.1) eX) (cwV 1 hts gL_law_X9_about rfl rfl rfl ⟨rfl, hd_X9_about⟩ ⟨Nat.le_of_ble_eq_true rfl, Nat.le_of_ble_eq_true rfl⟩) rfl hl rfl (Nat.le_of_ble_eq_true rfl) dL_law_252 ⟨Nat.le_refl _, Nat.le_refl _⟩ (fun H locs hPX hPM hS => ?_)
  refine lv_aload_n hx hb dL_law_255 rfl (lv_at hl 2 rfl) ?_
  refine lv_aload_n hx hb dL_law_256 rfl (lv_at hl 0 rfl) ?_
  refine lv_iload_n hx hb dL_law_257 rfl (lv_at hl 3 rfl) ?_
  refine lv_iconst (v := nI 1) hx hb dL_law_258 (by decide) ?_
  refine lv_iadd hx hb dL_law_259 ?_
  refine va_sld hx hb hX hbl hbA hS (ixL (k := 1) (by omega) hL) dL_law_260 ?_
  refine lCall_i (V := wM cI cZ aM) (V2 := wX cI cZ aX) (S' := M1) (T := S) (r := r) (As := [.int (xs ((nI n) + (nI 1)).toNatClampNeg)]) (rest := [.int r]) (q0 := 0) (ci := 10) C.1 hK hN hPM hPX (lM_X C S) (lM_A C) hS rfl rfl (c_X10_about l (mD C.2.2.2.2.1.2) eM) (cwV 1 hts gL_law_X10_about rfl rfl rfl ⟨rfl, hd_X10_about⟩ ⟨Nat.le_of_ble_eq_true rfl, Nat.le_of_ble_eq_true rfl⟩) rfl hl rfl (Nat.le_of_ble_eq_true rfl) dL_law_261 ⟨Nat.le_refl _, Nat.le_refl _⟩ (fun H locs hPM hPX hS => ?_)
  exact lv_icmp_eq (tgt := 1015) hx hb dL_law_264 (by decide) (fun _ => kk H locs S M1 hI1 hPX hPM hS) (fun c1 => absurd rfl c1)
/-! case 5: X9_stage -/
set_option maxHeartbeats 4000000 in
set_option maxRecDepth 100000 in
theorem law_5 {p : Program} {l : Launch} {e : Env} {s : State} {m : MethodId} {args : Array Value} {below : List Frame} {meth : Method} {c : Code} {H : Heap} {locs : List Loc} {Q : State → Prop} {ls : Array Slot} {D : va_G} {cI cZ : ClassId} {b L : Nat} {xs : Nat → Int32} {aX aM : Nat → Nat} {S M : St} {n : Nat} (C : lC p c s m args D cI cZ b L xs aX aM) (hI : Inv S M) (hPX : va_P D vwCl (wX cI cZ aX S) H) (hPM : va_P D vwCl (wM cI cZ aM M) H) (hS : va_S (lA s) s.heap H locs) (hl : lv_has ls 4 [(0, .ref b), (1, .ref (aX 0)), (2, .ref (aM 0)), (3, .int (nI n))]) (hn : n + 4 ≤ L)
    (kk : ∀ (H : Heap) (locs : List Loc) (S M : St), Inv S M → va_P D vwCl (wX cI cZ aX S) H → va_P D vwCl (wM cI cZ aM M) H → va_S (lA s) s.heap H locs → W p l e room_1 s m args below meth c H locs 36 836 Q (F0 m 1015 ls [])) : W p l e room_1 s m args below meth c H locs 36 836 Q (F0 m 269 ls []) := by
  obtain ⟨⟨hx, hb, hml, hown, hts⟩, hK, hN, ⟨hX, hbl, hL⟩, -⟩ := id C
  have hbA : ¬ lA s b := fun h => Nat.not_le_of_lt hbl h
  refine lv_aload_n hx hb dL_law_269 rfl (lv_at hl 1 rfl) ?_
  refine lv_aload_n hx hb dL_law_270 rfl (lv_at hl 0 rfl) ?_
  refine lv_iload_n hx hb dL_law_271 rfl (lv_at hl 3 rfl) ?_
  refine lv_iconst (v := nI 1) hx hb dL_law_272 (by decide) ?_
  refine lv_iadd hx hb dL_law_273 ?_
  refine va_sld hx hb hX hbl hbA hS (ixL (k := 1) (by omega) hL) dL_law_274 ?_
  refine lv_aload_n hx hb dL_law_275 rfl (lv_at hl 0 rfl) ?_
  refine lv_iload_n hx hb dL_law_276 rfl (lv_at hl 3 rfl) ?_
  refine lv_iconst (v := nI 2) hx hb dL_law_277 (by decide) ?_
  refine lv_iadd hx hb dL_law_278 ?_
  refine va_sld hx hb hX hbl hbA hS (ixL (k := 2) (by omega) hL) dL_law_279 ?_
  obtain ⟨r, M1, eX, eM, hI1⟩ := op_stage hI (xs ((nI n) + (nI 1)).toNatClampNeg) (xs ((nI n) + (nI 2)).toNatClampNeg)
  refine lCall_i (V := wX cI cZ aX) (V2 := wM cI cZ aM) (S' := S) (T := M) (r := r) (As := [.int (xs ((nI n) + (nI 1)).toNatClampNeg), .int (xs ((nI n) + (nI 2)).toNatClampNeg)]) (rest := []) (q0 := 0) (ci := 9) C.1 hK hN hPX hPM (lX_M C M) (lX_A C) hS rfl rfl (c_X9_stage l (xD C.2.2.2.2.1.1) eX) (cwV 2 hts gL_law_X9_stage rfl rfl rfl ⟨rfl, hd_X9_stage⟩ ⟨Nat.le_of_ble_eq_true rfl, Nat.le_of_ble_eq_true rfl⟩) rfl hl rfl (Nat.le_of_ble_eq_true rfl) dL_law_280 ⟨Nat.le_refl _, Nat.le_refl _⟩ (fun H locs hPX hPM hS => ?_)
  refine lv_aload_n hx hb dL_law_283 rfl (lv_at hl 2 rfl) ?_
  refine lv_aload_n hx hb dL_law_284 rfl (lv_at hl 0 rfl) ?_
  refine lv_iload_n hx hb dL_law_285 rfl (lv_at hl 3 rfl) ?_
  refine lv_iconst (v := nI 1) hx hb dL_law_286 (by decide) ?_
  refine lv_iadd hx hb dL_law_287 ?_
  refine va_sld hx hb hX hbl hbA hS (ixL (k := 1) (by omega) hL) dL_law_288 ?_
  refine lv_aload_n hx hb dL_law_289 rfl (lv_at hl 0 rfl) ?_
  refine lv_iload_n hx hb dL_law_290 rfl (lv_at hl 3 rfl) ?_
  refine lv_iconst (v := nI 2) hx hb dL_law_291 (by decide) ?_
  refine lv_iadd hx hb dL_law_292 ?_
  refine va_sld hx hb hX hbl hbA hS (ixL (k := 2) (by omega) hL) dL_law_293 ?_
  refine lCall_i (V := wM cI cZ aM) (V2 := wX cI cZ aX) (S' := M1) (T := S) (r := r) (As := [.int (xs ((nI n) + (nI 1)).toNatClampNeg), .int (xs ((nI n) + (nI 2)).toNatClampNeg)]) (rest := [.int r]) (q0 := 0) (ci := 10) C.1 hK hN hPM hPX (lM_X C S) (lM_A C) hS rfl rfl (c_X10_stage l (mD C.2.2.2.2.1.2) eM) (cwV 2 hts gL_law_X10_stage rfl rfl rfl ⟨rfl, hd_X10_stage⟩ ⟨Nat.le_of_ble_eq_true rfl, Nat.le_of_ble_eq_true rfl⟩) rfl hl rfl (Nat.le_of_ble_eq_true rfl) dL_law_294 ⟨Nat.le_refl _, Nat.le_refl _⟩ (fun H locs hPM hPX hS => ?_)
  exact lv_icmp_eq (tgt := 1015) hx hb dL_law_297 (by decide) (fun _ => kk H locs S M1 hI1 hPX hPM hS) (fun c1 => absurd rfl c1)
/-! case 6: X9_byBook -/
set_option maxHeartbeats 4000000 in
set_option maxRecDepth 100000 in
theorem law_6 {p : Program} {l : Launch} {e : Env} {s : State} {m : MethodId} {args : Array Value} {below : List Frame} {meth : Method} {c : Code} {H : Heap} {locs : List Loc} {Q : State → Prop} {ls : Array Slot} {D : va_G} {cI cZ : ClassId} {b L : Nat} {xs : Nat → Int32} {aX aM : Nat → Nat} {S M : St} {n : Nat} (C : lC p c s m args D cI cZ b L xs aX aM) (hI : Inv S M) (hPX : va_P D vwCl (wX cI cZ aX S) H) (hPM : va_P D vwCl (wM cI cZ aM M) H) (hS : va_S (lA s) s.heap H locs) (hl : lv_has ls 4 [(0, .ref b), (1, .ref (aX 0)), (2, .ref (aM 0)), (3, .int (nI n))]) (hn : n + 4 ≤ L)
    (kk : ∀ (H : Heap) (locs : List Loc) (S M : St), Inv S M → va_P D vwCl (wX cI cZ aX S) H → va_P D vwCl (wM cI cZ aM M) H → va_S (lA s) s.heap H locs → W p l e room_1 s m args below meth c H locs 36 836 Q (F0 m 1015 ls [])) : W p l e room_1 s m args below meth c H locs 36 836 Q (F0 m 302 ls []) := by
  obtain ⟨⟨hx, hb, hml, hown, hts⟩, hK, hN, ⟨hX, hbl, hL⟩, -⟩ := id C
  have hbA : ¬ lA s b := fun h => Nat.not_le_of_lt hbl h
  refine lv_aload_n hx hb dL_law_302 rfl (lv_at hl 1 rfl) ?_
  obtain ⟨r, M1, eX, eM, hI1⟩ := op_byBook hI
  refine lCall_i (V := wX cI cZ aX) (V2 := wM cI cZ aM) (S' := S) (T := M) (r := r) (As := []) (rest := []) (q0 := 0) (ci := 9) C.1 hK hN hPX hPM (lX_M C M) (lX_A C) hS rfl rfl (c_X9_byBook l (xD C.2.2.2.2.1.1) eX) (cwV 0 hts gL_law_X9_byBook rfl rfl rfl ⟨rfl, hd_X9_byBook⟩ ⟨Nat.le_of_ble_eq_true rfl, Nat.le_of_ble_eq_true rfl⟩) rfl hl rfl (Nat.le_of_ble_eq_true rfl) dL_law_303 ⟨Nat.le_refl _, Nat.le_refl _⟩ (fun H locs hPX hPM hS => ?_)
  refine lv_aload_n hx hb dL_law_306 rfl (lv_at hl 2 rfl) ?_
  refine lCall_i (V := wM cI cZ aM) (V2 := wX cI cZ aX) (S' := M1) (T := S) (r := r) (As := []) (rest := [.int r]) (q0 := 0) (ci := 10) C.1 hK hN hPM hPX (lM_X C S) (lM_A C) hS rfl rfl (c_X10_byBook l (mD C.2.2.2.2.1.2) eM) (cwV 0 hts gL_law_X10_byBook rfl rfl rfl ⟨rfl, hd_X10_byBook⟩ ⟨Nat.le_of_ble_eq_true rfl, Nat.le_of_ble_eq_true rfl⟩) rfl hl rfl (Nat.le_of_ble_eq_true rfl) dL_law_307 ⟨Nat.le_refl _, Nat.le_refl _⟩ (fun H locs hPM hPX hS => ?_)
  exact lv_icmp_eq (tgt := 1015) hx hb dL_law_310 (by decide) (fun _ => kk H locs S M1 hI1 hPX hPM hS) (fun c1 => absurd rfl c1)
/-! case 7: X9_truly -/
set_option maxHeartbeats 4000000 in
set_option maxRecDepth 100000 in
theorem law_7 {p : Program} {l : Launch} {e : Env} {s : State} {m : MethodId} {args : Array Value} {below : List Frame} {meth : Method} {c : Code} {H : Heap} {locs : List Loc} {Q : State → Prop} {ls : Array Slot} {D : va_G} {cI cZ : ClassId} {b L : Nat} {xs : Nat → Int32} {aX aM : Nat → Nat} {S M : St} {n : Nat} (C : lC p c s m args D cI cZ b L xs aX aM) (hI : Inv S M) (hPX : va_P D vwCl (wX cI cZ aX S) H) (hPM : va_P D vwCl (wM cI cZ aM M) H) (hS : va_S (lA s) s.heap H locs) (hl : lv_has ls 4 [(0, .ref b), (1, .ref (aX 0)), (2, .ref (aM 0)), (3, .int (nI n))]) (hn : n + 4 ≤ L)
    (kk : ∀ (H : Heap) (locs : List Loc) (S M : St), Inv S M → va_P D vwCl (wX cI cZ aX S) H → va_P D vwCl (wM cI cZ aM M) H → va_S (lA s) s.heap H locs → W p l e room_1 s m args below meth c H locs 36 836 Q (F0 m 1015 ls [])) : W p l e room_1 s m args below meth c H locs 36 836 Q (F0 m 315 ls []) := by
  obtain ⟨⟨hx, hb, hml, hown, hts⟩, hK, hN, ⟨hX, hbl, hL⟩, -⟩ := id C
  have hbA : ¬ lA s b := fun h => Nat.not_le_of_lt hbl h
  refine lv_aload_n hx hb dL_law_315 rfl (lv_at hl 1 rfl) ?_
  obtain ⟨r, M1, eX, eM, hI1⟩ := op_truly hI
  refine lCall_i (V := wX cI cZ aX) (V2 := wM cI cZ aM) (S' := S) (T := M) (r := r) (As := []) (rest := []) (q0 := 0) (ci := 9) C.1 hK hN hPX hPM (lX_M C M) (lX_A C) hS rfl rfl (c_X9_truly l (xD C.2.2.2.2.1.1) eX) (cwV 0 hts gL_law_X9_truly rfl rfl rfl ⟨rfl, hd_X9_truly⟩ ⟨Nat.le_of_ble_eq_true rfl, Nat.le_of_ble_eq_true rfl⟩) rfl hl rfl (Nat.le_of_ble_eq_true rfl) dL_law_316 ⟨Nat.le_refl _, Nat.le_refl _⟩ (fun H locs hPX hPM hS => ?_)
  refine lv_aload_n hx hb dL_law_319 rfl (lv_at hl 2 rfl) ?_
  refine lCall_i (V := wM cI cZ aM) (V2 := wX cI cZ aX) (S' := M1) (T := S) (r := r) (As := []) (rest := [.int r]) (q0 := 0) (ci := 10) C.1 hK hN hPM hPX (lM_X C S) (lM_A C) hS rfl rfl (c_X10_truly l (mD C.2.2.2.2.1.2) eM) (cwV 0 hts gL_law_X10_truly rfl rfl rfl ⟨rfl, hd_X10_truly⟩ ⟨Nat.le_of_ble_eq_true rfl, Nat.le_of_ble_eq_true rfl⟩) rfl hl rfl (Nat.le_of_ble_eq_true rfl) dL_law_320 ⟨Nat.le_refl _, Nat.le_refl _⟩ (fun H locs hPM hPX hS => ?_)
  exact lv_icmp_eq (tgt := 1015) hx hb dL_law_323 (by decide) (fun _ => kk H locs S M1 hI1 hPX hPM hS) (fun c1 => absurd rfl c1)
/-! case 8: X9_lay -/
set_option maxHeartbeats 4000000 in
set_option maxRecDepth 100000 in
theorem law_8 {p : Program} {l : Launch} {e : Env} {s : State} {m : MethodId} {args : Array Value} {below : List Frame} {meth : Method} {c : Code} {H : Heap} {locs : List Loc} {Q : State → Prop} {ls : Array Slot} {D : va_G} {cI cZ : ClassId} {b L : Nat} {xs : Nat → Int32} {aX aM : Nat → Nat} {S M : St} {n : Nat} (C : lC p c s m args D cI cZ b L xs aX aM) (hI : Inv S M) (hPX : va_P D vwCl (wX cI cZ aX S) H) (hPM : va_P D vwCl (wM cI cZ aM M) H) (hS : va_S (lA s) s.heap H locs) (hl : lv_has ls 4 [(0, .ref b), (1, .ref (aX 0)), (2, .ref (aM 0)), (3, .int (nI n))]) (hn : n + 4 ≤ L)
    (kk : ∀ (H : Heap) (locs : List Loc) (S M : St), Inv S M → va_P D vwCl (wX cI cZ aX S) H → va_P D vwCl (wM cI cZ aM M) H → va_S (lA s) s.heap H locs → W p l e room_1 s m args below meth c H locs 36 836 Q (F0 m 1015 ls [])) : W p l e room_1 s m args below meth c H locs 36 836 Q (F0 m 328 ls []) := by
  obtain ⟨⟨hx, hb, hml, hown, hts⟩, hK, hN, ⟨hX, hbl, hL⟩, -⟩ := id C
  have hbA : ¬ lA s b := fun h => Nat.not_le_of_lt hbl h
  refine lv_aload_n hx hb dL_law_328 rfl (lv_at hl 1 rfl) ?_
  obtain ⟨r, S1, M1, eX, eM, hI1⟩ := op_lay hI
  refine lCall_i (V := wX cI cZ aX) (V2 := wM cI cZ aM) (S' := S1) (T := M) (r := r) (As := []) (rest := []) (q0 := 0) (ci := 9) C.1 hK hN hPX hPM (lX_M C M) (lX_A C) hS rfl rfl (c_X9_lay l (xD C.2.2.2.2.1.1) eX) (cwV 0 hts gL_law_X9_lay rfl rfl rfl ⟨rfl, hd_X9_lay⟩ ⟨Nat.le_of_ble_eq_true rfl, Nat.le_of_ble_eq_true rfl⟩) rfl hl rfl (Nat.le_of_ble_eq_true rfl) dL_law_329 ⟨Nat.le_refl _, Nat.le_refl _⟩ (fun H locs hPX hPM hS => ?_)
  refine lv_aload_n hx hb dL_law_332 rfl (lv_at hl 2 rfl) ?_
  refine lCall_i (V := wM cI cZ aM) (V2 := wX cI cZ aX) (S' := M1) (T := S1) (r := r) (As := []) (rest := [.int r]) (q0 := 0) (ci := 10) C.1 hK hN hPM hPX (lM_X C S1) (lM_A C) hS rfl rfl (c_X10_lay l (mD C.2.2.2.2.1.2) eM) (cwV 0 hts gL_law_X10_lay rfl rfl rfl ⟨rfl, hd_X10_lay⟩ ⟨Nat.le_of_ble_eq_true rfl, Nat.le_of_ble_eq_true rfl⟩) rfl hl rfl (Nat.le_of_ble_eq_true rfl) dL_law_333 ⟨Nat.le_refl _, Nat.le_refl _⟩ (fun H locs hPM hPX hS => ?_)
  exact lv_icmp_eq (tgt := 1015) hx hb dL_law_336 (by decide) (fun _ => kk H locs S1 M1 hI1 hPX hPM hS) (fun c1 => absurd rfl c1)
