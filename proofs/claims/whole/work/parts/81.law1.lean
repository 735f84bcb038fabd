/-! case 9: X9_lose -/
set_option maxHeartbeats 4000000 in
set_option maxRecDepth 100000 in
theorem law_9 {p : Program} {l : Launch} {e : Env} {s : State} {m : MethodId} {args : Array Value} {below : List Frame} {meth : Method} {c : Code} {H : Heap} {locs : List Loc} {Q : State → Prop} {ls : Array Slot} {D : va_G} {cI cZ : ClassId} {b L : Nat} {xs : Nat → Int32} {aX aM : Nat → Nat} {S M : St} {n : Nat} (C : lC p c s m args D cI cZ b L xs aX aM) (hI : Inv S M) (hPX : va_P D vwCl (wX cI cZ aX S) H) (hPM : va_P D vwCl (wM cI cZ aM M) H) (hS : va_S (lA s) s.heap H locs) (hl : lv_has ls 4 [(0, .ref b), (1, .ref (aX 0)), (2, .ref (aM 0)), (3, .int (nI n))]) (hn : n + 4 ≤ L)
    (kk : ∀ (H : Heap) (locs : List Loc) (S M : St), Inv S M → va_P D vwCl (wX cI cZ aX S) H → va_P D vwCl (wM cI cZ aM M) H → va_S (lA s) s.heap H locs → W p l e room_1 s m args below meth c H locs 36 836 Q (F0 m 1015 ls [])) : W p l e room_1 s m args below meth c H locs 36 836 Q (F0 m 341 ls []) := by
  obtain ⟨⟨hx, hb, hml, hown, hts⟩, hK, hN, ⟨hX, hbl, hL⟩, -⟩ := id C
  have hbA : ¬ lA s b := fun h => Nat.not_le_of_lt hbl h
  refine lv_aload_n hx hb dL_law_341 rfl (lv_at hl 1 rfl) ?_
  obtain ⟨r, S1, M1, eX, eM, hI1⟩ := op_lose hI
  refine lCall_i (V := wX cI cZ aX) (V2 := wM cI cZ aM) (S' := S1) (T := M) (r := r) (As := []) (rest := []) (q0 := 0) (ci := 9) C.1 hK hN hPX hPM (lX_M C M) (lX_A C) hS rfl rfl (c_X9_lose l (xD C.2.2.2.2.1.1) eX) (cwV 0 hts gL_law_X9_lose rfl rfl rfl ⟨rfl, hd_X9_lose⟩ ⟨Nat.le_of_ble_eq_true rfl, Nat.le_of_ble_eq_true rfl⟩) rfl hl rfl (Nat.le_of_ble_eq_true rfl) dL_law_342 ⟨Nat.le_refl _, Nat.le_refl _⟩ (fun H locs hPX hPM hS => ?_)
  refine lv_aload_n hx hb dL_law_345 rfl (lv_at hl 2 rfl) ?_
  refine lCall_i (V := wM cI cZ aM) (V2 := wX cI cZ aX) (S' := M1) (T := S1) (r := r) (As := []) (rest := [.int r]) (q0 := 0) (ci := 10) C.1 hK hN hPM hPX (lM_X C S1) (lM_A C) hS rfl rfl (c_X10_lose l (mD C.2.2.2.2.1.2) eM) (cwV 0 hts gL_law_X10_lose rfl rfl rfl ⟨rfl, hd_X10_lose⟩ ⟨Nat.le_of_ble_eq_true rfl, Nat.le_of_ble_eq_true rfl⟩) rfl hl rfl (Nat.le_of_ble_eq_true rfl) dL_law_346 ⟨Nat.le_refl _, Nat.le_refl _⟩ (fun H locs hPM hPX hS => ?_)
  exact lv_icmp_eq (tgt := 1015) hx hb dL_law_349 (by decide) (fun _ => kk H locs S1 M1 hI1 hPX hPM hS) (fun c1 => absurd rfl c1)
/-! case 10: X9_find -/
set_option maxHeartbeats 4000000 in
set_option maxRecDepth 100000 in
theorem law_10 {p : Program} {l : Launch} {e : Env} {s : State} {m : MethodId} {args : Array Value} {below : List Frame} {meth : Method} {c : Code} {H : Heap} {locs : List Loc} {Q : State → Prop} {ls : Array Slot} {D : va_G} {cI cZ : ClassId} {b L : Nat} {xs : Nat → Int32} {aX aM : Nat → Nat} {S M : St} {n : Nat} (C : lC p c s m args D cI cZ b L xs aX aM) (hI : Inv S M) (hPX : va_P D vwCl (wX cI cZ aX S) H) (hPM : va_P D vwCl (wM cI cZ aM M) H) (hS : va_S (lA s) s.heap H locs) (hl : lv_has ls 4 [(0, .ref b), (1, .ref (aX 0)), (2, .ref (aM 0)), (3, .int (nI n))]) (hn : n + 4 ≤ L)
    (kk : ∀ (H : Heap) (locs : List Loc) (S M : St), Inv S M → va_P D vwCl (wX cI cZ aX S) H → va_P D vwCl (wM cI cZ aM M) H → va_S (lA s) s.heap H locs → W p l e room_1 s m args below meth c H locs 36 836 Q (F0 m 1015 ls [])) : W p l e room_1 s m args below meth c H locs 36 836 Q (F0 m 354 ls []) := by
  obtain ⟨⟨hx, hb, hml, hown, hts⟩, hK, hN, ⟨hX, hbl, hL⟩, -⟩ := id C
  have hbA : ¬ lA s b := fun h => Nat.not_le_of_lt hbl h
  refine lv_aload_n hx hb dL_law_354 rfl (lv_at hl 1 rfl) ?_
  refine lv_aload_n hx hb dL_law_355 rfl (lv_at hl 0 rfl) ?_
  refine lv_iload_n hx hb dL_law_356 rfl (lv_at hl 3 rfl) ?_
  refine lv_iconst (v := nI 1) hx hb dL_law_357 (by decide) ?_
  refine lv_iadd hx hb dL_law_358 ?_
  refine va_sld hx hb hX hbl hbA hS (ixL (k := 1) (by omega) hL) dL_law_359 ?_
  obtain ⟨r, S1, M1, eX, eM, hI1⟩ := op_find hI (xs ((nI n) + (nI 1)).toNatClampNeg)
  refine lCall_i (V := wX cI cZ aX) (V2 := wM cI cZ aM) (S' := S1) (T := M) (r := r) (As := [.int (xs ((nI n) + (nI 1)).toNatClampNeg)]) (rest := []) (q0 := 0) (ci := 9) C.1 hK hN hPX hPM (lX_M C M) (lX_A C) hS rfl rfl (c_X9_find l (xD C.2.2.2.2.1.1) eX) (cwV 1 hts gL_law_X9_find rfl rfl rfl ⟨rfl, hd_X9_find⟩ ⟨Nat.le_of_ble_eq_true rfl, Nat.le_of_ble_eq_true rfl⟩) rfl hl rfl (Nat.le_of_ble_eq_true rfl) dL_law_360 ⟨Nat.le_refl _, Nat.le_refl _⟩ (fun H locs hPX hPM hS => ?_)
  refine lv_aload_n hx hb dL_law_363 rfl (lv_at hl 2 rfl) ?_
  refine lv_aload_n hx hb dL_law_364 rfl (lv_at hl 0 rfl) ?_
  refine lv_iload_n hx hb dL_law_365 rfl (lv_at hl 3 rfl) ?_
  refine lv_iconst (v := nI 1) hx hb dL_law_366 (by decide) ?_
  refine lv_iadd hx hb dL_law_367 ?_
  refine va_sld hx hb hX hbl hbA hS (ixL (k := 1) (by omega) hL) dL_law_368 ?_
  refine lCall_i (V := wM cI cZ aM) (V2 := wX cI cZ aX) (S' := M1) (T := S1) (r := r) (As := [.int (xs ((nI n) + (nI 1)).toNatClampNeg)]) (rest := [.int r]) (q0 := 0) (ci := 10) C.1 hK hN hPM hPX (lM_X C S1) (lM_A C) hS rfl rfl (c_X10_find l (mD C.2.2.2.2.1.2) eM) (cwV 1 hts gL_law_X10_find rfl rfl rfl ⟨rfl, hd_X10_find⟩ ⟨Nat.le_of_ble_eq_true rfl, Nat.le_of_ble_eq_true rfl⟩) rfl hl rfl (Nat.le_of_ble_eq_true rfl) dL_law_369 ⟨Nat.le_refl _, Nat.le_refl _⟩ (fun H locs hPM hPX hS => ?_)
  exact lv_icmp_eq (tgt := 1015) hx hb dL_law_372 (by decide) (fun _ => kk H locs S1 M1 hI1 hPX hPM hS) (fun c1 => absurd rfl c1)
/-! case 11: X9_doubled -/
set_option maxHeartbeats 4000000 in
set_option maxRecDepth 100000 in
theorem law_11 {p : Program} {l : Launch} {e : Env} {s : State} {m : MethodId} {args : Array Value} {below : List Frame} {meth : Method} {c : Code} {H : Heap} {locs : List Loc} {Q : State → Prop} {ls : Array Slot} {D : va_G} {cI cZ : ClassId} {b L : Nat} {xs : Nat → Int32} {aX aM : Nat → Nat} {S M : St} {n : Nat} (C : lC p c s m args D cI cZ b L xs aX aM) (hI : Inv S M) (hPX : va_P D vwCl (wX cI cZ aX S) H) (hPM : va_P D vwCl (wM cI cZ aM M) H) (hS : va_S (lA s) s.heap H locs) (hl : lv_has ls 4 [(0, .ref b), (1, .ref (aX 0)), (2, .ref (aM 0)), (3, .int (nI n))]) (hn : n + 4 ≤ L)
    (kk : ∀ (H : Heap) (locs : List Loc) (S M : St), Inv S M → va_P D vwCl (wX cI cZ aX S) H → va_P D vwCl (wM cI cZ aM M) H → va_S (lA s) s.heap H locs → W p l e room_1 s m args below meth c H locs 36 836 Q (F0 m 1015 ls [])) : W p l e room_1 s m args below meth c H locs 36 836 Q (F0 m 377 ls []) := by
  obtain ⟨⟨hx, hb, hml, hown, hts⟩, hK, hN, ⟨hX, hbl, hL⟩, -⟩ := id C
  have hbA : ¬ lA s b := fun h => Nat.not_le_of_lt hbl h
  refine lv_aload_n hx hb dL_law_377 rfl (lv_at hl 1 rfl) ?_
  obtain ⟨r, S1, M1, eX, eM, hI1⟩ := op_doubled hI
  refine lCall_i (V := wX cI cZ aX) (V2 := wM cI cZ aM) (S' := S1) (T := M) (r := r) (As := []) (rest := []) (q0 := 0) (ci := 9) C.1 hK hN hPX hPM (lX_M C M) (lX_A C) hS rfl rfl (c_X9_doubled l (xD C.2.2.2.2.1.1) eX) (cwV 0 hts gL_law_X9_doubled rfl rfl rfl ⟨rfl, hd_X9_doubled⟩ ⟨Nat.le_of_ble_eq_true rfl, Nat.le_of_ble_eq_true rfl⟩) rfl hl rfl (Nat.le_of_ble_eq_true rfl) dL_law_378 ⟨Nat.le_refl _, Nat.le_refl _⟩ (fun H locs hPX hPM hS => ?_)
  refine lv_aload_n hx hb dL_law_381 rfl (lv_at hl 2 rfl) ?_
  refine lCall_i (V := wM cI cZ aM) (V2 := wX cI cZ aX) (S' := M1) (T := S1) (r := r) (As := []) (rest := [.int r]) (q0 := 0) (ci := 10) C.1 hK hN hPM hPX (lM_X C S1) (lM_A C) hS rfl rfl (c_X10_doubled l (mD C.2.2.2.2.1.2) eM) (cwV 0 hts gL_law_X10_doubled rfl rfl rfl ⟨rfl, hd_X10_doubled⟩ ⟨Nat.le_of_ble_eq_true rfl, Nat.le_of_ble_eq_true rfl⟩) rfl hl rfl (Nat.le_of_ble_eq_true rfl) dL_law_382 ⟨Nat.le_refl _, Nat.le_refl _⟩ (fun H locs hPM hPX hS => ?_)
  exact lv_icmp_eq (tgt := 1015) hx hb dL_law_385 (by decide) (fun _ => kk H locs S1 M1 hI1 hPX hPM hS) (fun c1 => absurd rfl c1)
/-! case 12: X9_change -/
set_option maxHeartbeats 4000000 in
set_option maxRecDepth 100000 in
theorem law_12 {p : Program} {l : Launch} {e : Env} {s : State} {m : MethodId} {args : Array Value} {below : List Frame} {meth : Method} {c : Code} {H : Heap} {locs : List Loc} {Q : State → Prop} {ls : Array Slot} {D : va_G} {cI cZ : ClassId} {b L : Nat} {xs : Nat → Int32} {aX aM : Nat → Nat} {S M : St} {n : Nat} (C : lC p c s m args D cI cZ b L xs aX aM) (hI : Inv S M) (hPX : va_P D vwCl (wX cI cZ aX S) H) (hPM : va_P D vwCl (wM cI cZ aM M) H) (hS : va_S (lA s) s.heap H locs) (hl : lv_has ls 4 [(0, .ref b), (1, .ref (aX 0)), (2, .ref (aM 0)), (3, .int (nI n))]) (hn : n + 4 ≤ L)
    (kk : ∀ (H : Heap) (locs : List Loc) (S M : St), Inv S M → va_P D vwCl (wX cI cZ aX S) H → va_P D vwCl (wM cI cZ aM M) H → va_S (lA s) s.heap H locs → W p l e room_1 s m args below meth c H locs 36 836 Q (F0 m 1015 ls [])) : W p l e room_1 s m args below meth c H locs 36 836 Q (F0 m 390 ls []) := by
  obtain ⟨⟨hx, hb, hml, hown, hts⟩, hK, hN, ⟨hX, hbl, hL⟩, -⟩ := id C
  have hbA : ¬ lA s b := fun h => Nat.not_le_of_lt hbl h
  refine lv_aload_n hx hb dL_law_390 rfl (lv_at hl 1 rfl) ?_
  obtain ⟨r, S1, M1, eX, eM, hI1⟩ := op_change hI
  refine lCall_i (V := wX cI cZ aX) (V2 := wM cI cZ aM) (S' := S1) (T := M) (r := r) (As := []) (rest := []) (q0 := 0) (ci := 9) C.1 hK hN hPX hPM (lX_M C M) (lX_A C) hS rfl rfl (c_X9_change l (xD C.2.2.2.2.1.1) eX) (cwV 0 hts gL_law_X9_change rfl rfl rfl ⟨rfl, hd_X9_change⟩ ⟨Nat.le_of_ble_eq_true rfl, Nat.le_of_ble_eq_true rfl⟩) rfl hl rfl (Nat.le_of_ble_eq_true rfl) dL_law_391 ⟨Nat.le_refl _, Nat.le_refl _⟩ (fun H locs hPX hPM hS => ?_)
  refine lv_aload_n hx hb dL_law_394 rfl (lv_at hl 2 rfl) ?_
  refine lCall_i (V := wM cI cZ aM) (V2 := wX cI cZ aX) (S' := M1) (T := S1) (r := r) (As := []) (rest := [.int r]) (q0 := 0) (ci := 10) C.1 hK hN hPM hPX (lM_X C S1) (lM_A C) hS rfl rfl (c_X10_change l (mD C.2.2.2.2.1.2) eM) (cwV 0 hts gL_law_X10_change rfl rfl rfl ⟨rfl, hd_X10_change⟩ ⟨Nat.le_of_ble_eq_true rfl, Nat.le_of_ble_eq_true rfl⟩) rfl hl rfl (Nat.le_of_ble_eq_true rfl) dL_law_395 ⟨Nat.le_refl _, Nat.le_refl _⟩ (fun H locs hPM hPX hS => ?_)
  exact lv_icmp_eq (tgt := 1015) hx hb dL_law_398 (by decide) (fun _ => kk H locs S1 M1 hI1 hPX hPM hS) (fun c1 => absurd rfl c1)
/-! case 13: X9_stretch -/
set_option maxHeartbeats 4000000 in
set_option maxRecDepth 100000 in
theorem law_13 {p : Program} {l : Launch} {e : Env} {s : State} {m : MethodId} {args : Array Value} {below : List Frame} {meth : Method} {c : Code} {H : Heap} {locs : List Loc} {Q : State → Prop} {ls : Array Slot} {D : va_G} {cI cZ : ClassId} {b L : Nat} {xs : Nat → Int32} {aX aM : Nat → Nat} {S M : St} {n : Nat} (C : lC p c s m args D cI cZ b L xs aX aM) (hI : Inv S M) (hPX : va_P D vwCl (wX cI cZ aX S) H) (hPM : va_P D vwCl (wM cI cZ aM M) H) (hS : va_S (lA s) s.heap H locs) (hl : lv_has ls 4 [(0, .ref b), (1, .ref (aX 0)), (2, .ref (aM 0)), (3, .int (nI n))]) (hn : n + 4 ≤ L)
    (kk : ∀ (H : Heap) (locs : List Loc) (S M : St), Inv S M → va_P D vwCl (wX cI cZ aX S) H → va_P D vwCl (wM cI cZ aM M) H → va_S (lA s) s.heap H locs → W p l e room_1 s m args below meth c H locs 36 836 Q (F0 m 1015 ls [])) : W p l e room_1 s m args below meth c H locs 36 836 Q (F0 m 403 ls []) := by
  obtain ⟨⟨hx, hb, hml, hown, hts⟩, hK, hN, ⟨hX, hbl, hL⟩, -⟩ := id C
  have hbA : ¬ lA s b := fun h => Nat.not_le_of_lt hbl h
  refine lv_aload_n hx hb dL_law_403 rfl (lv_at hl 1 rfl) ?_
  refine lv_aload_n hx hb dL_law_404 rfl (lv_at hl 0 rfl) ?_
  refine lv_iload_n hx hb dL_law_405 rfl (lv_at hl 3 rfl) ?_
  refine lv_iconst (v := nI 1) hx hb dL_law_406 (by decide) ?_
  refine lv_iadd hx hb dL_law_407 ?_
  refine va_sld hx hb hX hbl hbA hS (ixL (k := 1) (by omega) hL) dL_law_408 ?_
  obtain ⟨r, S1, M1, eX, eM, hI1⟩ := op_stretch hI (xs ((nI n) + (nI 1)).toNatClampNeg)
  refine lCall_i (V := wX cI cZ aX) (V2 := wM cI cZ aM) (S' := S1) (T := M) (r := r) (As := [.int (xs ((nI n) + (nI 1)).toNatClampNeg)]) (rest := []) (q0 := 0) (ci := 9) C.1 hK hN hPX hPM (lX_M C M) (lX_A C) hS rfl rfl (c_X9_stretch l (xD C.2.2.2.2.1.1) eX) (cwV 1 hts gL_law_X9_stretch rfl rfl rfl ⟨rfl, hd_X9_stretch⟩ ⟨Nat.le_of_ble_eq_true rfl, Nat.le_of_ble_eq_true rfl⟩) rfl hl rfl (Nat.le_of_ble_eq_true rfl) dL_law_409 ⟨Nat.le_refl _, Nat.le_refl _⟩ (fun H locs hPX hPM hS => ?_)
  refine lv_aload_n hx hb dL_law_412 rfl (lv_at hl 2 rfl) ?_
  refine lv_aload_n hx hb dL_law_413 rfl (lv_at hl 0 rfl) ?_
  refine lv_iload_n hx hb dL_law_414 rfl (lv_at hl 3 rfl) ?_
  refine lv_iconst (v := nI 1) hx hb dL_law_415 (by decide) ?_
  refine lv_iadd hx hb dL_law_416 ?_
  refine va_sld hx hb hX hbl hbA hS (ixL (k := 1) (by omega) hL) dL_law_417 ?_
  refine lCall_i (V := wM cI cZ aM) (V2 := wX cI cZ aX) (S' := M1) (T := S1) (r := r) (As := [.int (xs ((nI n) + (nI 1)).toNatClampNeg)]) (rest := [.int r]) (q0 := 0) (ci := 10) C.1 hK hN hPM hPX (lM_X C S1) (lM_A C) hS rfl rfl (c_X10_stretch l (mD C.2.2.2.2.1.2) eM) (cwV 1 hts gL_law_X10_stretch rfl rfl rfl ⟨rfl, hd_X10_stretch⟩ ⟨Nat.le_of_ble_eq_true rfl, Nat.le_of_ble_eq_true rfl⟩) rfl hl rfl (Nat.le_of_ble_eq_true rfl) dL_law_418 ⟨Nat.le_refl _, Nat.le_refl _⟩ (fun H locs hPM hPX hS => ?_)
  exact lv_icmp_eq (tgt := 1015) hx hb dL_law_421 (by decide) (fun _ => kk H locs S1 M1 hI1 hPX hPM hS) (fun c1 => absurd rfl c1)
/-! case 14: X9_knot -/
set_option maxHeartbeats 4000000 in
set_option maxRecDepth 100000 in
theorem law_14 {p : Program} {l : Launch} {e : Env} {s : State} {m : MethodId} {args : Array Value} {below : List Frame} {meth : Method} {c : Code} {H : Heap} {locs : List Loc} {Q : State → Prop} {ls : Array Slot} {D : va_G} {cI cZ : ClassId} {b L : Nat} {xs : Nat → Int32} {aX aM : Nat → Nat} {S M : St} {n : Nat} (C : lC p c s m args D cI cZ b L xs aX aM) (hI : Inv S M) (hPX : va_P D vwCl (wX cI cZ aX S) H) (hPM : va_P D vwCl (wM cI cZ aM M) H) (hS : va_S (lA s) s.heap H locs) (hl : lv_has ls 4 [(0, .ref b), (1, .ref (aX 0)), (2, .ref (aM 0)), (3, .int (nI n))]) (hn : n + 4 ≤ L)
    (kk : ∀ (H : Heap) (locs : List Loc) (S M : St), Inv S M → va_P D vwCl (wX cI cZ aX S) H → va_P D vwCl (wM cI cZ aM M) H → va_S (lA s) s.heap H locs → W p l e room_1 s m args below meth c H locs 36 836 Q (F0 m 1015 ls [])) : W p l e room_1 s m args below meth c H locs 36 836 Q (F0 m 426 ls []) := by
  obtain ⟨⟨hx, hb, hml, hown, hts⟩, hK, hN, ⟨hX, hbl, hL⟩, -⟩ := id C
  have hbA : ¬ lA s b := fun h => Nat.not_le_of_lt hbl h
  refine lv_aload_n hx hb dL_law_426 rfl (lv_at hl 1 rfl) ?_
  obtain ⟨r, S1, M1, eX, eM, hI1⟩ := op_knot hI
  refine lCall_i (V := wX cI cZ aX) (V2 := wM cI cZ aM) (S' := S1) (T := M) (r := r) (As := []) (rest := []) (q0 := 0) (ci := 9) C.1 hK hN hPX hPM (lX_M C M) (lX_A C) hS rfl rfl (c_X9_knot l (xD C.2.2.2.2.1.1) eX) (cwV 0 hts gL_law_X9_knot rfl rfl rfl ⟨rfl, hd_X9_knot⟩ ⟨Nat.le_of_ble_eq_true rfl, Nat.le_of_ble_eq_true rfl⟩) rfl hl rfl (Nat.le_of_ble_eq_true rfl) dL_law_427 ⟨Nat.le_refl _, Nat.le_refl _⟩ (fun H locs hPX hPM hS => ?_)
  refine lv_aload_n hx hb dL_law_430 rfl (lv_at hl 2 rfl) ?_
  refine lCall_i (V := wM cI cZ aM) (V2 := wX cI cZ aX) (S' := M1) (T := S1) (r := r) (As := []) (rest := [.int r]) (q0 := 0) (ci := 10) C.1 hK hN hPM hPX (lM_X C S1) (lM_A C) hS rfl rfl (c_X10_knot l (mD C.2.2.2.2.1.2) eM) (cwV 0 hts gL_law_X10_knot rfl rfl rfl ⟨rfl, hd_X10_knot⟩ ⟨Nat.le_of_ble_eq_true rfl, Nat.le_of_ble_eq_true rfl⟩) rfl hl rfl (Nat.le_of_ble_eq_true rfl) dL_law_431 ⟨Nat.le_refl _, Nat.le_refl _⟩ (fun H locs hPM hPX hS => ?_)
  exact lv_icmp_eq (tgt := 1015) hx hb dL_law_434 (by decide) (fun _ => kk H locs S1 M1 hI1 hPX hPM hS) (fun c1 => absurd rfl c1)
/-! case 15: X9_clear -/
set_option maxHeartbeats 4000000 in
set_option maxRecDepth 100000 in
theorem law_15 {p : Program} {l : Launch} {e : Env} {s : State} {m : MethodId} {args : Array Value} {below : List Frame} {meth : Method} {c : Code} {H : Heap} {locs : List Loc} {Q : State → Prop} {ls : Array Slot} {D : va_G} {cI cZ : ClassId} {b L : Nat} {xs : Nat → Int32} {aX aM : Nat → Nat} {S M : St} {n : Nat} (C : lC p c s m args D cI cZ b L xs aX aM) (hI : Inv S M) (hPX : va_P D vwCl (wX cI cZ aX S) H) (hPM : va_P D vwCl (wM cI cZ aM M) H) (hS : va_S (lA s) s.heap H locs) (hl : lv_has ls 4 [(0, .ref b), (1, .ref (aX 0)), (2, .ref (aM 0)), (3, .int (nI n))]) (hn : n + 4 ≤ L)
    (kk : ∀ (H : Heap) (locs : List Loc) (S M : St), Inv S M → va_P D vwCl (wX cI cZ aX S) H → va_P D vwCl (wM cI cZ aM M) H → va_S (lA s) s.heap H locs → W p l e room_1 s m args below meth c H locs 36 836 Q (F0 m 1015 ls [])) : W p l e room_1 s m args below meth c H locs 36 836 Q (F0 m 439 ls []) := by
  obtain ⟨⟨hx, hb, hml, hown, hts⟩, hK, hN, ⟨hX, hbl, hL⟩, -⟩ := id C
  have hbA : ¬ lA s b := fun h => Nat.not_le_of_lt hbl h
  refine lv_aload_n hx hb dL_law_439 rfl (lv_at hl 1 rfl) ?_
  obtain ⟨r, S1, M1, eX, eM, hI1⟩ := op_clear hI
  refine lCall_i (V := wX cI cZ aX) (V2 := wM cI cZ aM) (S' := S1) (T := M) (r := r) (As := []) (rest := []) (q0 := 0) (ci := 9) C.1 hK hN hPX hPM (lX_M C M) (lX_A C) hS rfl rfl (c_X9_clear l (xD C.2.2.2.2.1.1) eX) (cwV 0 hts gL_law_X9_clear rfl rfl rfl ⟨rfl, hd_X9_clear⟩ ⟨Nat.le_of_ble_eq_true rfl, Nat.le_of_ble_eq_true rfl⟩) rfl hl rfl (Nat.le_of_ble_eq_true rfl) dL_law_440 ⟨Nat.le_refl _, Nat.le_refl _⟩ (fun H locs hPX hPM hS => ?_)
  refine lv_aload_n hx hb dL_law_443 rfl (lv_at hl 2 rfl) ?_
  refine lCall_i (V := wM cI cZ aM) (V2 := wX cI cZ aX) (S' := M1) (T := S1) (r := r) (As := []) (rest := [.int r]) (q0 := 0) (ci := 10) C.1 hK hN hPM hPX (lM_X C S1) (lM_A C) hS rfl rfl (c_X10_clear l (mD C.2.2.2.2.1.2) eM) (cwV 0 hts gL_law_X10_clear rfl rfl rfl ⟨rfl, hd_X10_clear⟩ ⟨Nat.le_of_ble_eq_true rfl, Nat.le_of_ble_eq_true rfl⟩) rfl hl rfl (Nat.le_of_ble_eq_true rfl) dL_law_444 ⟨Nat.le_refl _, Nat.le_refl _⟩ (fun H locs hPM hPX hS => ?_)
  exact lv_icmp_eq (tgt := 1015) hx hb dL_law_447 (by decide) (fun _ => kk H locs S1 M1 hI1 hPX hPM hS) (fun c1 => absurd rfl c1)
/-! case 16: X9_undo -/
set_option maxHeartbeats 4000000 in
set_option maxRecDepth 100000 in
theorem law_16 {p : Program} {l : Launch} {e : Env} {s : State} {m : MethodId} {args : Array Value} {below : List Frame} {meth : Method} {c : Code} {H : Heap} {locs : List Loc} {Q : State → Prop} {ls : Array Slot} {D : va_G} {cI cZ : ClassId} {b L : Nat} {xs : Nat → Int32} {aX aM : Nat → Nat} {S M : St} {n : Nat} (C : lC p c s m args D cI cZ b L xs aX aM) (hI : Inv S M) (hPX : va_P D vwCl (wX cI cZ aX S) H) (hPM : va_P D vwCl (wM cI cZ aM M) H) (hS : va_S (lA s) s.heap H locs) (hl : lv_has ls 4 [(0, .ref b), (1, .ref (aX 0)), (2, .ref (aM 0)), (3, .int (nI n))]) (hn : n + 4 ≤ L)
    (kk : ∀ (H : Heap) (locs : List Loc) (S M : St), Inv S M → va_P D vwCl (wX cI cZ aX S) H → va_P D vwCl (wM cI cZ aM M) H → va_S (lA s) s.heap H locs → W p l e room_1 s m args below meth c H locs 36 836 Q (F0 m 1015 ls [])) : W p l e room_1 s m args below meth c H locs 36 836 Q (F0 m 452 ls []) := by
  obtain ⟨⟨hx, hb, hml, hown, hts⟩, hK, hN, ⟨hX, hbl, hL⟩, -⟩ := id C
  have hbA : ¬ lA s b := fun h => Nat.not_le_of_lt hbl h
  refine lv_aload_n hx hb dL_law_452 rfl (lv_at hl 1 rfl) ?_
  obtain ⟨r, S1, M1, eX, eM, hI1⟩ := op_undo hI
  refine lCall_i (V := wX cI cZ aX) (V2 := wM cI cZ aM) (S' := S1) (T := M) (r := r) (As := []) (rest := []) (q0 := 0) (ci := 9) C.1 hK hN hPX hPM (lX_M C M) (lX_A C) hS rfl rfl (c_X9_undo l (xD C.2.2.2.2.1.1) eX) (cwV 0 hts gL_law_X9_undo rfl rfl rfl ⟨rfl, hd_X9_undo⟩ ⟨Nat.le_of_ble_eq_true rfl, Nat.le_of_ble_eq_true rfl⟩) rfl hl rfl (Nat.le_of_ble_eq_true rfl) dL_law_453 ⟨Nat.le_refl _, Nat.le_refl _⟩ (fun H locs hPX hPM hS => ?_)
  refine lv_aload_n hx hb dL_law_456 rfl (lv_at hl 2 rfl) ?_
  refine lCall_i (V := wM cI cZ aM) (V2 := wX cI cZ aX) (S' := M1) (T := S1) (r := r) (As := []) (rest := [.int r]) (q0 := 0) (ci := 10) C.1 hK hN hPM hPX (lM_X C S1) (lM_A C) hS rfl rfl (c_X10_undo l (mD C.2.2.2.2.1.2) eM) (cwV 0 hts gL_law_X10_undo rfl rfl rfl ⟨rfl, hd_X10_undo⟩ ⟨Nat.le_of_ble_eq_true rfl, Nat.le_of_ble_eq_true rfl⟩) rfl hl rfl (Nat.le_of_ble_eq_true rfl) dL_law_457 ⟨Nat.le_refl _, Nat.le_refl _⟩ (fun H locs hPM hPX hS => ?_)
  exact lv_icmp_eq (tgt := 1015) hx hb dL_law_460 (by decide) (fun _ => kk H locs S1 M1 hI1 hPX hPM hS) (fun c1 => absurd rfl c1)
/-! case 17: X9_off -/
set_option maxHeartbeats 4000000 in
set_option maxRecDepth 100000 in
theorem law_17 {p : Program} {l : Launch} {e : Env} {s : State} {m : MethodId} {args : Array Value} {below : List Frame} {meth : Method} {c : Code} {H : Heap} {locs : List Loc} {Q : State → Prop} {ls : Array Slot} {D : va_G} {cI cZ : ClassId} {b L : Nat} {xs : Nat → Int32} {aX aM : Nat → Nat} {S M : St} {n : Nat} (C : lC p c s m args D cI cZ b L xs aX aM) (hI : Inv S M) (hPX : va_P D vwCl (wX cI cZ aX S) H) (hPM : va_P D vwCl (wM cI cZ aM M) H) (hS : va_S (lA s) s.heap H locs) (hl : lv_has ls 4 [(0, .ref b), (1, .ref (aX 0)), (2, .ref (aM 0)), (3, .int (nI n))]) (hn : n + 4 ≤ L)
    (kk : ∀ (H : Heap) (locs : List Loc) (S M : St), Inv S M → va_P D vwCl (wX cI cZ aX S) H → va_P D vwCl (wM cI cZ aM M) H → va_S (lA s) s.heap H locs → W p l e room_1 s m args below meth c H locs 36 836 Q (F0 m 1015 ls [])) : W p l e room_1 s m args below meth c H locs 36 836 Q (F0 m 465 ls []) := by
  obtain ⟨⟨hx, hb, hml, hown, hts⟩, hK, hN, ⟨hX, hbl, hL⟩, -⟩ := id C
  have hbA : ¬ lA s b := fun h => Nat.not_le_of_lt hbl h
  refine lv_aload_n hx hb dL_law_465 rfl (lv_at hl 1 rfl) ?_
  refine lv_aload_n hx hb dL_law_466 rfl (lv_at hl 0 rfl) ?_
  refine lv_iload_n hx hb dL_law_467 rfl (lv_at hl 3 rfl) ?_
  refine lv_iconst (v := nI 1) hx hb dL_law_468 (by decide) ?_
  refine lv_iadd hx hb dL_law_469 ?_
  refine va_sld hx hb hX hbl hbA hS (ixL (k := 1) (by omega) hL) dL_law_470 ?_
  refine lv_aload_n hx hb dL_law_471 rfl (lv_at hl 0 rfl) ?_
  refine lv_iload_n hx hb dL_law_472 rfl (lv_at hl 3 rfl) ?_
  refine lv_iconst (v := nI 2) hx hb dL_law_473 (by decide) ?_
  refine lv_iadd hx hb dL_law_474 ?_
  refine va_sld hx hb hX hbl hbA hS (ixL (k := 2) (by omega) hL) dL_law_475 ?_
  obtain ⟨r, M1, eX, eM, hI1⟩ := op_off hI (xs ((nI n) + (nI 1)).toNatClampNeg) (xs ((nI n) + (nI 2)).toNatClampNeg)
  refine lCall_i (V := wX cI cZ aX) (V2 := wM cI cZ aM) (S' := S) (T := M) (r := r) (As := [.int (xs ((nI n) + (nI 1)).toNatClampNeg), .int (xs ((nI n) + (nI 2)).toNatClampNeg)]) (rest := []) (q0 := 0) (ci := 9) C.1 hK hN hPX hPM (lX_M C M) (lX_A C) hS rfl rfl (c_X9_off l (xD C.2.2.2.2.1.1) eX) (cwV 2 hts gL_law_X9_off rfl rfl rfl ⟨rfl, hd_X9_off⟩ ⟨Nat.le_of_ble_eq_true rfl, Nat.le_of_ble_eq_true rfl⟩) rfl hl rfl (Nat.le_of_ble_eq_true rfl) dL_law_476 ⟨Nat.le_refl _, Nat.le_refl _⟩ (fun H locs hPX hPM hS => ?_)
  refine lv_aload_n hx hb dL_law_479 rfl (lv_at hl 2 rfl) ?_
  refine lv_aload_n hx hb dL_law_480 rfl (lv_at hl 0 rfl) ?_
  refine lv_iload_n hx hb dL_law_481 rfl (lv_at hl 3 rfl) ?_
  refine lv_iconst (v := nI 1) hx hb dL_law_482 (by decide) ?_
  refine lv_iadd hx hb dL_law_483 ?_
  refine va_sld hx hb hX hbl hbA hS (ixL (k := 1) (by omega) hL) dL_law_484 ?_
  refine lv_aload_n hx hb dL_law_485 rfl (lv_at hl 0 rfl) ?_
  refine lv_iload_n hx hb dL_law_486 rfl (lv_at hl 3 rfl) ?_
  refine lv_iconst (v := nI 2) hx hb dL_law_487 (by decide) ?_
  refine lv_iadd hx hb dL_law_488 ?_
  refine va_sld hx hb hX hbl hbA hS (ixL (k := 2) (by omega) hL) dL_law_489 ?_
  refine lCall_i (V := wM cI cZ aM) (V2 := wX cI cZ aX) (S' := M1) (T := S) (r := r) (As := [.int (xs ((nI n) + (nI 1)).toNatClampNeg), .int (xs ((nI n) + (nI 2)).toNatClampNeg)]) (rest := [.int r]) (q0 := 0) (ci := 10) C.1 hK hN hPM hPX (lM_X C S) (lM_A C) hS rfl rfl (c_X10_off l (mD C.2.2.2.2.1.2) eM) (cwV 2 hts gL_law_X10_off rfl rfl rfl ⟨rfl, hd_X10_off⟩ ⟨Nat.le_of_ble_eq_true rfl, Nat.le_of_ble_eq_true rfl⟩) rfl hl rfl (Nat.le_of_ble_eq_true rfl) dL_law_490 ⟨Nat.le_refl _, Nat.le_refl _⟩ (fun H locs hPM hPX hS => ?_)
  exact lv_icmp_eq (tgt := 1015) hx hb dL_law_493 (by decide) (fun _ => kk H locs S M1 hI1 hPX hPM hS) (fun c1 => absurd rfl c1)
