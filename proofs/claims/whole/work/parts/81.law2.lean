/-! case 18: X9_ends -/
set_option maxHeartbeats 4000000 in
set_option maxRecDepth 100000 in
theorem law_18 {p : Program} {l : Launch} {e : Env} {s : State} {m : MethodId} {args : Array Value} {below : List Frame} {meth : Method} {c : Code} {H : Heap} {locs : List Loc} {Q : State → Prop} {ls : Array Slot} {D : va_G} {cI cZ : ClassId} {b L : Nat} {xs : Nat → Int32} {aX aM : Nat → Nat} {S M : St} {n : Nat} (C : lC p c s m args D cI cZ b L xs aX aM) (hI : Inv S M) (hPX : va_P D vwCl (wX cI cZ aX S) H) (hPM : va_P D vwCl (wM cI cZ aM M) H) (hS : va_S (lA s) s.heap H locs) (hl : lv_has ls 4 [(0, .ref b), (1, .ref (aX 0)), (2, .ref (aM 0)), (3, .int (nI n))]) (hn : n + 4 ≤ L)
    (kk : ∀ (H : Heap) (locs : List Loc) (S M : St), Inv S M → va_P D vwCl (wX cI cZ aX S) H → va_P D vwCl (wM cI cZ aM M) H → va_S (lA s) s.heap H locs → W p l e room_1 s m args below meth c H locs 36 836 Q (F0 m 1015 ls [])) : W p l e room_1 s m args below meth c H locs 36 836 Q (F0 m 498 ls []) := by
  obtain ⟨⟨hx, hb, hml, hown, hts⟩, hK, hN, ⟨hX, hbl, hL⟩, -⟩ := id C
  have hbA : ¬ lA s b := fun h => Nat.not_le_of_lt hbl h
  refine lv_aload_n hx hb dL_law_498 rfl (lv_at hl 1 rfl) ?_
  refine lv_aload_n hx hb dL_law_499 rfl (lv_at hl 0 rfl) ?_
  refine lv_iload_n hx hb dL_law_500 rfl (lv_at hl 3 rfl) ?_
  refine lv_iconst (v := nI 1) hx hb dL_law_501 (by decide) ?_
  refine lv_iadd hx hb dL_law_502 ?_
  refine va_sld hx hb hX hbl hbA hS (ixL (k := 1) (by omega) hL) dL_law_503 ?_
  refine lv_aload_n hx hb dL_law_504 rfl (lv_at hl 0 rfl) ?_
  refine lv_iload_n hx hb dL_law_505 rfl (lv_at hl 3 rfl) ?_
  refine lv_iconst (v := nI 2) hx hb dL_law_506 (by decide) ?_
  refine lv_iadd hx hb dL_law_507 ?_
  refine va_sld hx hb hX hbl hbA hS (ixL (k := 2) (by omega) hL) dL_law_508 ?_
  obtain ⟨r, M1, eX, eM, hI1⟩ := op_ends hI (xs ((nI n) + (nI 1)).toNatClampNeg) (xs ((nI n) + (nI 2)).toNatClampNeg)
  refine lCall_i (V := wX cI cZ aX) (V2 := wM cI cZ aM) (S' := S) (T := M) (r := r) (As := [.int (xs ((nI n) + (nI 1)).toNatClampNeg), .int (xs ((nI n) + (nI 2)).toNatClampNeg)]) (rest := []) (q0 := 0) (ci := 9) C.1 hK hN hPX hPM (lX_M C M) (lX_A C) hS rfl rfl (c_X9_ends l (xD C.2.2.2.2.1.1) eX) (cwV 2 hts gL_law_X9_ends rfl rfl rfl ⟨rfl, hd_X9_ends⟩ ⟨Nat.le_of_ble_eq_true rfl, Nat.le_of_ble_eq_true rfl⟩) rfl hl rfl (Nat.le_of_ble_eq_true rfl) dL_law_509 ⟨Nat.le_refl _, Nat.le_refl _⟩ (fun H locs hPX hPM hS => ?_)
  refine lv_aload_n hx hb dL_law_512 rfl (lv_at hl 2 rfl) ?_
  refine lv_aload_n hx hb dL_law_513 rfl (lv_at hl 0 rfl) ?_
  refine lv_iload_n hx hb dL_law_514 rfl (lv_at hl 3 rfl) ?_
  refine lv_iconst (v := nI 1) hx hb dL_law_515 (by decide) ?_
  refine lv_iadd hx hb dL_law_516 ?_
  refine va_sld hx hb hX hbl hbA hS (ixL (k := 1) (by omega) hL) dL_law_517 ?_
  refine lv_aload_n hx hb dL_law_518 rfl (lv_at hl 0 rfl) ?_
  refine lv_iload_n hx hb dL_law_519 rfl (lv_at hl 3 rfl) ?_
  refine lv_iconst (v := nI 2) hx hb dL_law_520 (by decide) ?_
  refine lv_iadd hx hb dL_law_521 ?_
  refine va_sld hx hb hX hbl hbA hS (ixL (k := 2) (by omega) hL) dL_law_522 ?_
  refine lCall_i (V := wM cI cZ aM) (V2 := wX cI cZ aX) (S' := M1) (T := S) (r := r) (As := [.int (xs ((nI n) + (nI 1)).toNatClampNeg), .int (xs ((nI n) + (nI 2)).toNatClampNeg)]) (rest := [.int r]) (q0 := 0) (ci := 10) C.1 hK hN hPM hPX (lM_X C S) (lM_A C) hS rfl rfl (c_X10_ends l (mD C.2.2.2.2.1.2) eM) (cwV 2 hts gL_law_X10_ends rfl rfl rfl ⟨rfl, hd_X10_ends⟩ ⟨Nat.le_of_ble_eq_true rfl, Nat.le_of_ble_eq_true rfl⟩) rfl hl rfl (Nat.le_of_ble_eq_true rfl) dL_law_523 ⟨Nat.le_refl _, Nat.le_refl _⟩ (fun H locs hPM hPX hS => ?_)
  exact lv_icmp_eq (tgt := 1015) hx hb dL_law_526 (by decide) (fun _ => kk H locs S M1 hI1 hPX hPM hS) (fun c1 => absurd rfl c1)
/-! case 19: X9_step -/
set_option maxHeartbeats 4000000 in
set_option maxRecDepth 100000 in
theorem law_19 {p : Program} {l : Launch} {e : Env} {s : State} {m : MethodId} {args : Array Value} {below : List Frame} {meth : Method} {c : Code} {H : Heap} {locs : List Loc} {Q : State → Prop} {ls : Array Slot} {D : va_G} {cI cZ : ClassId} {b L : Nat} {xs : Nat → Int32} {aX aM : Nat → Nat} {S M : St} {n : Nat} (C : lC p c s m args D cI cZ b L xs aX aM) (hI : Inv S M) (hPX : va_P D vwCl (wX cI cZ aX S) H) (hPM : va_P D vwCl (wM cI cZ aM M) H) (hS : va_S (lA s) s.heap H locs) (hl : lv_has ls 4 [(0, .ref b), (1, .ref (aX 0)), (2, .ref (aM 0)), (3, .int (nI n))]) (hn : n + 4 ≤ L)
    (kk : ∀ (H : Heap) (locs : List Loc) (S M : St), Inv S M → va_P D vwCl (wX cI cZ aX S) H → va_P D vwCl (wM cI cZ aM M) H → va_S (lA s) s.heap H locs → W p l e room_1 s m args below meth c H locs 36 836 Q (F0 m 1015 ls [])) : W p l e room_1 s m args below meth c H locs 36 836 Q (F0 m 531 ls []) := by
  obtain ⟨⟨hx, hb, hml, hown, hts⟩, hK, hN, ⟨hX, hbl, hL⟩, -⟩ := id C
  have hbA : ¬ lA s b := fun h => Nat.not_le_of_lt hbl h
  refine lv_aload_n hx hb dL_law_531 rfl (lv_at hl 1 rfl) ?_
  refine lv_aload_n hx hb dL_law_532 rfl (lv_at hl 0 rfl) ?_
  refine lv_iload_n hx hb dL_law_533 rfl (lv_at hl 3 rfl) ?_
  refine lv_iconst (v := nI 1) hx hb dL_law_534 (by decide) ?_
  refine lv_iadd hx hb dL_law_535 ?_
  refine va_sld hx hb hX hbl hbA hS (ixL (k := 1) (by omega) hL) dL_law_536 ?_
  obtain ⟨r, M1, eX, eM, hI1⟩ := op_step hI (xs ((nI n) + (nI 1)).toNatClampNeg)
  refine lCall_i (V := wX cI cZ aX) (V2 := wM cI cZ aM) (S' := S) (T := M) (r := r) (As := [.int (xs ((nI n) + (nI 1)).toNatClampNeg)]) (rest := []) (q0 := 0) (ci := 9) C.1 hK hN hPX hPM (lX_M C M) (lX_A C) hS rfl rfl (c_X9_step l (xD C.2.2.2.2.1.1) eX) (cwV 1 hts gL_law_X9_step rfl rfl rfl ⟨rfl, hd_X9_step⟩ ⟨Nat.le_of_ble_eq_true rfl, Nat.le_of_ble_eq_true rfl⟩) rfl hl rfl (Nat.le_of_ble_eq_true rfl) dL_law_537 ⟨Nat.le_refl _, Nat.le_refl _⟩ (fun H locs hPX hPM hS => ?_)
  refine lv_aload_n hx hb dL_law_540 rfl (lv_at hl 2 rfl) ?_
  refine lv_aload_n hx hb dL_law_541 rfl (lv_at hl 0 rfl) ?_
  refine lv_iload_n hx hb dL_law_542 rfl (lv_at hl 3 rfl) ?_
  refine lv_iconst (v := nI 1) hx hb dL_law_543 (by decide) ?_
  refine lv_iadd hx hb dL_law_544 ?_
  refine va_sld hx hb hX hbl hbA hS (ixL (k := 1) (by omega) hL) dL_law_545 ?_
  refine lCall_i (V := wM cI cZ aM) (V2 := wX cI cZ aX) (S' := M1) (T := S) (r := r) (As := [.int (xs ((nI n) + (nI 1)).toNatClampNeg)]) (rest := [.int r]) (q0 := 0) (ci := 10) C.1 hK hN hPM hPX (lM_X C S) (lM_A C) hS rfl rfl (c_X10_step l (mD C.2.2.2.2.1.2) eM) (cwV 1 hts gL_law_X10_step rfl rfl rfl ⟨rfl, hd_X10_step⟩ ⟨Nat.le_of_ble_eq_true rfl, Nat.le_of_ble_eq_true rfl⟩) rfl hl rfl (Nat.le_of_ble_eq_true rfl) dL_law_546 ⟨Nat.le_refl _, Nat.le_refl _⟩ (fun H locs hPM hPX hS => ?_)
  exact lv_icmp_eq (tgt := 1015) hx hb dL_law_549 (by decide) (fun _ => kk H locs S M1 hI1 hPX hPM hS) (fun c1 => absurd rfl c1)
/-! case 20: X9_share -/
set_option maxHeartbeats 4000000 in
set_option maxRecDepth 100000 in
theorem law_20 {p : Program} {l : Launch} {e : Env} {s : State} {m : MethodId} {args : Array Value} {below : List Frame} {meth : Method} {c : Code} {H : Heap} {locs : List Loc} {Q : State → Prop} {ls : Array Slot} {D : va_G} {cI cZ : ClassId} {b L : Nat} {xs : Nat → Int32} {aX aM : Nat → Nat} {S M : St} {n : Nat} (C : lC p c s m args D cI cZ b L xs aX aM) (hI : Inv S M) (hPX : va_P D vwCl (wX cI cZ aX S) H) (hPM : va_P D vwCl (wM cI cZ aM M) H) (hS : va_S (lA s) s.heap H locs) (hl : lv_has ls 4 [(0, .ref b), (1, .ref (aX 0)), (2, .ref (aM 0)), (3, .int (nI n))]) (hn : n + 4 ≤ L)
    (kk : ∀ (H : Heap) (locs : List Loc) (S M : St), Inv S M → va_P D vwCl (wX cI cZ aX S) H → va_P D vwCl (wM cI cZ aM M) H → va_S (lA s) s.heap H locs → W p l e room_1 s m args below meth c H locs 36 836 Q (F0 m 1015 ls [])) : W p l e room_1 s m args below meth c H locs 36 836 Q (F0 m 554 ls []) := by
  obtain ⟨⟨hx, hb, hml, hown, hts⟩, hK, hN, ⟨hX, hbl, hL⟩, -⟩ := id C
  have hbA : ¬ lA s b := fun h => Nat.not_le_of_lt hbl h
  refine lv_aload_n hx hb dL_law_554 rfl (lv_at hl 1 rfl) ?_
  refine lv_aload_n hx hb dL_law_555 rfl (lv_at hl 0 rfl) ?_
  refine lv_iload_n hx hb dL_law_556 rfl (lv_at hl 3 rfl) ?_
  refine lv_iconst (v := nI 1) hx hb dL_law_557 (by decide) ?_
  refine lv_iadd hx hb dL_law_558 ?_
  refine va_sld hx hb hX hbl hbA hS (ixL (k := 1) (by omega) hL) dL_law_559 ?_
  refine lv_aload_n hx hb dL_law_560 rfl (lv_at hl 0 rfl) ?_
  refine lv_iload_n hx hb dL_law_561 rfl (lv_at hl 3 rfl) ?_
  refine lv_iconst (v := nI 2) hx hb dL_law_562 (by decide) ?_
  refine lv_iadd hx hb dL_law_563 ?_
  refine va_sld hx hb hX hbl hbA hS (ixL (k := 2) (by omega) hL) dL_law_564 ?_
  refine lv_aload_n hx hb dL_law_565 rfl (lv_at hl 0 rfl) ?_
  refine lv_iload_n hx hb dL_law_566 rfl (lv_at hl 3 rfl) ?_
  refine lv_iconst (v := nI 3) hx hb dL_law_567 (by decide) ?_
  refine lv_iadd hx hb dL_law_568 ?_
  refine va_sld hx hb hX hbl hbA hS (ixL (k := 3) (by omega) hL) dL_law_569 ?_
  suffices hj : W p l e room_1 s m args below meth c H locs 36 836 Q (F0 m 578 ls (.int (bz (xs ((nI n) + (nI 3)).toNatClampNeg)) :: [.int (xs ((nI n) + (nI 2)).toNatClampNeg), .int (xs ((nI n) + (nI 1)).toNatClampNeg), .ref (aX 0)])) from by
    refine lv_if_eq (tgt := 577) hx hb dL_law_570 (by decide) (fun c1 => ?_) (fun c1 => ?_)
    · refine lv_iconst (v := 0) hx hb dL_law_577 (by decide) ?_
      rw [show bz (xs ((nI n) + (nI 3)).toNatClampNeg) = 0 from if_pos c1] at hj
      exact hj
    · refine lv_iconst (v := 1) hx hb dL_law_573 (by decide) ?_
      refine lv_goto (tgt := 578) hx hb dL_law_574 (by decide) ?_
      rw [show bz (xs ((nI n) + (nI 3)).toNatClampNeg) = 1 from if_neg c1] at hj
      exact hj
  obtain ⟨r, M1, eX, eM, hI1⟩ := op_share hI (xs ((nI n) + (nI 1)).toNatClampNeg) (xs ((nI n) + (nI 2)).toNatClampNeg) (bz (xs ((nI n) + (nI 3)).toNatClampNeg))
  refine lCall_i (V := wX cI cZ aX) (V2 := wM cI cZ aM) (S' := S) (T := M) (r := r) (As := [.int (xs ((nI n) + (nI 1)).toNatClampNeg), .int (xs ((nI n) + (nI 2)).toNatClampNeg), .int (bz (xs ((nI n) + (nI 3)).toNatClampNeg))]) (rest := []) (q0 := 0) (ci := 9) C.1 hK hN hPX hPM (lX_M C M) (lX_A C) hS rfl rfl (c_X9_share l (xD C.2.2.2.2.1.1) eX) (cwV 3 hts gL_law_X9_share rfl rfl rfl ⟨rfl, hd_X9_share⟩ ⟨Nat.le_of_ble_eq_true rfl, Nat.le_of_ble_eq_true rfl⟩) rfl hl rfl (Nat.le_of_ble_eq_true rfl) dL_law_578 ⟨Nat.le_refl _, Nat.le_refl _⟩ (fun H locs hPX hPM hS => ?_)
  refine lv_aload_n hx hb dL_law_581 rfl (lv_at hl 2 rfl) ?_
  refine lv_aload_n hx hb dL_law_582 rfl (lv_at hl 0 rfl) ?_
  refine lv_iload_n hx hb dL_law_583 rfl (lv_at hl 3 rfl) ?_
  refine lv_iconst (v := nI 1) hx hb dL_law_584 (by decide) ?_
  refine lv_iadd hx hb dL_law_585 ?_
  refine va_sld hx hb hX hbl hbA hS (ixL (k := 1) (by omega) hL) dL_law_586 ?_
  refine lv_aload_n hx hb dL_law_587 rfl (lv_at hl 0 rfl) ?_
  refine lv_iload_n hx hb dL_law_588 rfl (lv_at hl 3 rfl) ?_
  refine lv_iconst (v := nI 2) hx hb dL_law_589 (by decide) ?_
  refine lv_iadd hx hb dL_law_590 ?_
  refine va_sld hx hb hX hbl hbA hS (ixL (k := 2) (by omega) hL) dL_law_591 ?_
  refine lv_aload_n hx hb dL_law_592 rfl (lv_at hl 0 rfl) ?_
  refine lv_iload_n hx hb dL_law_593 rfl (lv_at hl 3 rfl) ?_
  refine lv_iconst (v := nI 3) hx hb dL_law_594 (by decide) ?_
  refine lv_iadd hx hb dL_law_595 ?_
  refine va_sld hx hb hX hbl hbA hS (ixL (k := 3) (by omega) hL) dL_law_596 ?_
  suffices hj : W p l e room_1 s m args below meth c H locs 36 836 Q (F0 m 605 ls (.int (bz (xs ((nI n) + (nI 3)).toNatClampNeg)) :: [.int (xs ((nI n) + (nI 2)).toNatClampNeg), .int (xs ((nI n) + (nI 1)).toNatClampNeg), .ref (aM 0), .int r])) from by
    refine lv_if_eq (tgt := 604) hx hb dL_law_597 (by decide) (fun c1 => ?_) (fun c1 => ?_)
    · refine lv_iconst (v := 0) hx hb dL_law_604 (by decide) ?_
      rw [show bz (xs ((nI n) + (nI 3)).toNatClampNeg) = 0 from if_pos c1] at hj
      exact hj
    · refine lv_iconst (v := 1) hx hb dL_law_600 (by decide) ?_
      refine lv_goto (tgt := 605) hx hb dL_law_601 (by decide) ?_
      rw [show bz (xs ((nI n) + (nI 3)).toNatClampNeg) = 1 from if_neg c1] at hj
      exact hj
  refine lCall_i (V := wM cI cZ aM) (V2 := wX cI cZ aX) (S' := M1) (T := S) (r := r) (As := [.int (xs ((nI n) + (nI 1)).toNatClampNeg), .int (xs ((nI n) + (nI 2)).toNatClampNeg), .int (bz (xs ((nI n) + (nI 3)).toNatClampNeg))]) (rest := [.int r]) (q0 := 0) (ci := 10) C.1 hK hN hPM hPX (lM_X C S) (lM_A C) hS rfl rfl (c_X10_share l (mD C.2.2.2.2.1.2) eM) (cwV 3 hts gL_law_X10_share rfl rfl rfl ⟨rfl, hd_X10_share⟩ ⟨Nat.le_of_ble_eq_true rfl, Nat.le_of_ble_eq_true rfl⟩) rfl hl rfl (Nat.le_of_ble_eq_true rfl) dL_law_605 ⟨Nat.le_refl _, Nat.le_refl _⟩ (fun H locs hPM hPX hS => ?_)
  exact lv_icmp_eq (tgt := 1015) hx hb dL_law_608 (by decide) (fun _ => kk H locs S M1 hI1 hPX hPM hS) (fun c1 => absurd rfl c1)
/-! case 21: X9_where -/
set_option maxHeartbeats 4000000 in
set_option maxRecDepth 100000 in
theorem law_21 {p : Program} {l : Launch} {e : Env} {s : State} {m : MethodId} {args : Array Value} {below : List Frame} {meth : Method} {c : Code} {H : Heap} {locs : List Loc} {Q : State → Prop} {ls : Array Slot} {D : va_G} {cI cZ : ClassId} {b L : Nat} {xs : Nat → Int32} {aX aM : Nat → Nat} {S M : St} {n : Nat} (C : lC p c s m args D cI cZ b L xs aX aM) (hI : Inv S M) (hPX : va_P D vwCl (wX cI cZ aX S) H) (hPM : va_P D vwCl (wM cI cZ aM M) H) (hS : va_S (lA s) s.heap H locs) (hl : lv_has ls 4 [(0, .ref b), (1, .ref (aX 0)), (2, .ref (aM 0)), (3, .int (nI n))]) (hn : n + 4 ≤ L)
    (kk : ∀ (H : Heap) (locs : List Loc) (S M : St), Inv S M → va_P D vwCl (wX cI cZ aX S) H → va_P D vwCl (wM cI cZ aM M) H → va_S (lA s) s.heap H locs → W p l e room_1 s m args below meth c H locs 36 836 Q (F0 m 1015 ls [])) : W p l e room_1 s m args below meth c H locs 36 836 Q (F0 m 613 ls []) := by
  obtain ⟨⟨hx, hb, hml, hown, hts⟩, hK, hN, ⟨hX, hbl, hL⟩, -⟩ := id C
  have hbA : ¬ lA s b := fun h => Nat.not_le_of_lt hbl h
  refine lv_aload_n hx hb dL_law_613 rfl (lv_at hl 1 rfl) ?_
  refine lv_aload_n hx hb dL_law_614 rfl (lv_at hl 0 rfl) ?_
  refine lv_iload_n hx hb dL_law_615 rfl (lv_at hl 3 rfl) ?_
  refine lv_iconst (v := nI 1) hx hb dL_law_616 (by decide) ?_
  refine lv_iadd hx hb dL_law_617 ?_
  refine va_sld hx hb hX hbl hbA hS (ixL (k := 1) (by omega) hL) dL_law_618 ?_
  refine lv_aload_n hx hb dL_law_619 rfl (lv_at hl 0 rfl) ?_
  refine lv_iload_n hx hb dL_law_620 rfl (lv_at hl 3 rfl) ?_
  refine lv_iconst (v := nI 2) hx hb dL_law_621 (by decide) ?_
  refine lv_iadd hx hb dL_law_622 ?_
  refine va_sld hx hb hX hbl hbA hS (ixL (k := 2) (by omega) hL) dL_law_623 ?_
  suffices hj : W p l e room_1 s m args below meth c H locs 36 836 Q (F0 m 632 ls (.int (bz (xs ((nI n) + (nI 2)).toNatClampNeg)) :: [.int (xs ((nI n) + (nI 1)).toNatClampNeg), .ref (aX 0)])) from by
    refine lv_if_eq (tgt := 631) hx hb dL_law_624 (by decide) (fun c1 => ?_) (fun c1 => ?_)
    · refine lv_iconst (v := 0) hx hb dL_law_631 (by decide) ?_
      rw [show bz (xs ((nI n) + (nI 2)).toNatClampNeg) = 0 from if_pos c1] at hj
      exact hj
    · refine lv_iconst (v := 1) hx hb dL_law_627 (by decide) ?_
      refine lv_goto (tgt := 632) hx hb dL_law_628 (by decide) ?_
      rw [show bz (xs ((nI n) + (nI 2)).toNatClampNeg) = 1 from if_neg c1] at hj
      exact hj
  obtain ⟨r, M1, eX, eM, hI1⟩ := op_where hI (xs ((nI n) + (nI 1)).toNatClampNeg) (bz (xs ((nI n) + (nI 2)).toNatClampNeg))
  refine lCall_i (V := wX cI cZ aX) (V2 := wM cI cZ aM) (S' := S) (T := M) (r := r) (As := [.int (xs ((nI n) + (nI 1)).toNatClampNeg), .int (bz (xs ((nI n) + (nI 2)).toNatClampNeg))]) (rest := []) (q0 := 0) (ci := 9) C.1 hK hN hPX hPM (lX_M C M) (lX_A C) hS rfl rfl (c_X9_where l (xD C.2.2.2.2.1.1) eX) (cwV 2 hts gL_law_X9_where rfl rfl rfl ⟨rfl, hd_X9_where⟩ ⟨Nat.le_of_ble_eq_true rfl, Nat.le_of_ble_eq_true rfl⟩) rfl hl rfl (Nat.le_of_ble_eq_true rfl) dL_law_632 ⟨Nat.le_refl _, Nat.le_refl _⟩ (fun H locs hPX hPM hS => ?_)
  refine lv_aload_n hx hb dL_law_635 rfl (lv_at hl 2 rfl) ?_
  refine lv_aload_n hx hb dL_law_636 rfl (lv_at hl 0 rfl) ?_
  refine lv_iload_n hx hb dL_law_637 rfl (lv_at hl 3 rfl) ?_
  refine lv_iconst (v := nI 1) hx hb dL_law_638 (by decide) ?_
  refine lv_iadd hx hb dL_law_639 ?_
  refine va_sld hx hb hX hbl hbA hS (ixL (k := 1) (by omega) hL) dL_law_640 ?_
  refine lv_aload_n hx hb dL_law_641 rfl (lv_at hl 0 rfl) ?_
  refine lv_iload_n hx hb dL_law_642 rfl (lv_at hl 3 rfl) ?_
  refine lv_iconst (v := nI 2) hx hb dL_law_643 (by decide) ?_
  refine lv_iadd hx hb dL_law_644 ?_
  refine va_sld hx hb hX hbl hbA hS (ixL (k := 2) (by omega) hL) dL_law_645 ?_
  suffices hj : W p l e room_1 s m args below meth c H locs 36 836 Q (F0 m 654 ls (.int (bz (xs ((nI n) + (nI 2)).toNatClampNeg)) :: [.int (xs ((nI n) + (nI 1)).toNatClampNeg), .ref (aM 0), .int r])) from by
    refine lv_if_eq (tgt := 653) hx hb dL_law_646 (by decide) (fun c1 => ?_) (fun c1 => ?_)
    · refine lv_iconst (v := 0) hx hb dL_law_653 (by decide) ?_
      rw [show bz (xs ((nI n) + (nI 2)).toNatClampNeg) = 0 from if_pos c1] at hj
      exact hj
    · refine lv_iconst (v := 1) hx hb dL_law_649 (by decide) ?_
      refine lv_goto (tgt := 654) hx hb dL_law_650 (by decide) ?_
      rw [show bz (xs ((nI n) + (nI 2)).toNatClampNeg) = 1 from if_neg c1] at hj
      exact hj
  refine lCall_i (V := wM cI cZ aM) (V2 := wX cI cZ aX) (S' := M1) (T := S) (r := r) (As := [.int (xs ((nI n) + (nI 1)).toNatClampNeg), .int (bz (xs ((nI n) + (nI 2)).toNatClampNeg))]) (rest := [.int r]) (q0 := 0) (ci := 10) C.1 hK hN hPM hPX (lM_X C S) (lM_A C) hS rfl rfl (c_X10_where l (mD C.2.2.2.2.1.2) eM) (cwV 2 hts gL_law_X10_where rfl rfl rfl ⟨rfl, hd_X10_where⟩ ⟨Nat.le_of_ble_eq_true rfl, Nat.le_of_ble_eq_true rfl⟩) rfl hl rfl (Nat.le_of_ble_eq_true rfl) dL_law_654 ⟨Nat.le_refl _, Nat.le_refl _⟩ (fun H locs hPM hPX hS => ?_)
  exact lv_icmp_eq (tgt := 1015) hx hb dL_law_657 (by decide) (fun _ => kk H locs S M1 hI1 hPX hPM hS) (fun c1 => absurd rfl c1)
/-! case 22: X9_back -/
set_option maxHeartbeats 4000000 in
set_option maxRecDepth 100000 in
theorem law_22 {p : Program} {l : Launch} {e : Env} {s : State} {m : MethodId} {args : Array Value} {below : List Frame} {meth : Method} {c : Code} {H : Heap} {locs : List Loc} {Q : State → Prop} {ls : Array Slot} {D : va_G} {cI cZ : ClassId} {b L : Nat} {xs : Nat → Int32} {aX aM : Nat → Nat} {S M : St} {n : Nat} (C : lC p c s m args D cI cZ b L xs aX aM) (hI : Inv S M) (hPX : va_P D vwCl (wX cI cZ aX S) H) (hPM : va_P D vwCl (wM cI cZ aM M) H) (hS : va_S (lA s) s.heap H locs) (hl : lv_has ls 4 [(0, .ref b), (1, .ref (aX 0)), (2, .ref (aM 0)), (3, .int (nI n))]) (hn : n + 4 ≤ L)
    (kk : ∀ (H : Heap) (locs : List Loc) (S M : St), Inv S M → va_P D vwCl (wX cI cZ aX S) H → va_P D vwCl (wM cI cZ aM M) H → va_S (lA s) s.heap H locs → W p l e room_1 s m args below meth c H locs 36 836 Q (F0 m 1015 ls [])) : W p l e room_1 s m args below meth c H locs 36 836 Q (F0 m 662 ls []) := by
  obtain ⟨⟨hx, hb, hml, hown, hts⟩, hK, hN, ⟨hX, hbl, hL⟩, -⟩ := id C
  have hbA : ¬ lA s b := fun h => Nat.not_le_of_lt hbl h
  refine lv_aload_n hx hb dL_law_662 rfl (lv_at hl 1 rfl) ?_
  refine lv_aload_n hx hb dL_law_663 rfl (lv_at hl 0 rfl) ?_
  refine lv_iload_n hx hb dL_law_664 rfl (lv_at hl 3 rfl) ?_
  refine lv_iconst (v := nI 1) hx hb dL_law_665 (by decide) ?_
  refine lv_iadd hx hb dL_law_666 ?_
  refine va_sld hx hb hX hbl hbA hS (ixL (k := 1) (by omega) hL) dL_law_667 ?_
  obtain ⟨r, M1, eX, eM, hI1⟩ := op_back hI (xs ((nI n) + (nI 1)).toNatClampNeg)
  refine lCall_i (V := wX cI cZ aX) (V2 := wM cI cZ aM) (S' := S) (T := M) (r := r) (As := [.int (xs ((nI n) + (nI 1)).toNatClampNeg)]) (rest := []) (q0 := 0) (ci := 9) C.1 hK hN hPX hPM (lX_M C M) (lX_A C) hS rfl rfl (c_X9_back l (xD C.2.2.2.2.1.1) eX) (cwV 1 hts gL_law_X9_back rfl rfl rfl ⟨rfl, hd_X9_back⟩ ⟨Nat.le_of_ble_eq_true rfl, Nat.le_of_ble_eq_true rfl⟩) rfl hl rfl (Nat.le_of_ble_eq_true rfl) dL_law_668 ⟨Nat.le_refl _, Nat.le_refl _⟩ (fun H locs hPX hPM hS => ?_)
  refine lv_aload_n hx hb dL_law_671 rfl (lv_at hl 2 rfl) ?_
  refine lv_aload_n hx hb dL_law_672 rfl (lv_at hl 0 rfl) ?_
  refine lv_iload_n hx hb dL_law_673 rfl (lv_at hl 3 rfl) ?_
  refine lv_iconst (v := nI 1) hx hb dL_law_674 (by decide) ?_
  refine lv_iadd hx hb dL_law_675 ?_
  refine va_sld hx hb hX hbl hbA hS (ixL (k := 1) (by omega) hL) dL_law_676 ?_
  refine lCall_i (V := wM cI cZ aM) (V2 := wX cI cZ aX) (S' := M1) (T := S) (r := r) (As := [.int (xs ((nI n) + (nI 1)).toNatClampNeg)]) (rest := [.int r]) (q0 := 0) (ci := 10) C.1 hK hN hPM hPX (lM_X C S) (lM_A C) hS rfl rfl (c_X10_back l (mD C.2.2.2.2.1.2) eM) (cwV 1 hts gL_law_X10_back rfl rfl rfl ⟨rfl, hd_X10_back⟩ ⟨Nat.le_of_ble_eq_true rfl, Nat.le_of_ble_eq_true rfl⟩) rfl hl rfl (Nat.le_of_ble_eq_true rfl) dL_law_677 ⟨Nat.le_refl _, Nat.le_refl _⟩ (fun H locs hPM hPX hS => ?_)
  exact lv_icmp_eq (tgt := 1015) hx hb dL_law_680 (by decide) (fun _ => kk H locs S M1 hI1 hPX hPM hS) (fun c1 => absurd rfl c1)
/-! case 23: X9_shows -/
set_option maxHeartbeats 4000000 in
set_option maxRecDepth 100000 in
theorem law_23 {p : Program} {l : Launch} {e : Env} {s : State} {m : MethodId} {args : Array Value} {below : List Frame} {meth : Method} {c : Code} {H : Heap} {locs : List Loc} {Q : State → Prop} {ls : Array Slot} {D : va_G} {cI cZ : ClassId} {b L : Nat} {xs : Nat → Int32} {aX aM : Nat → Nat} {S M : St} {n : Nat} (C : lC p c s m args D cI cZ b L xs aX aM) (hI : Inv S M) (hPX : va_P D vwCl (wX cI cZ aX S) H) (hPM : va_P D vwCl (wM cI cZ aM M) H) (hS : va_S (lA s) s.heap H locs) (hl : lv_has ls 4 [(0, .ref b), (1, .ref (aX 0)), (2, .ref (aM 0)), (3, .int (nI n))]) (hn : n + 4 ≤ L)
    (kk : ∀ (H : Heap) (locs : List Loc) (S M : St), Inv S M → va_P D vwCl (wX cI cZ aX S) H → va_P D vwCl (wM cI cZ aM M) H → va_S (lA s) s.heap H locs → W p l e room_1 s m args below meth c H locs 36 836 Q (F0 m 1015 ls [])) : W p l e room_1 s m args below meth c H locs 36 836 Q (F0 m 685 ls []) := by
  obtain ⟨⟨hx, hb, hml, hown, hts⟩, hK, hN, ⟨hX, hbl, hL⟩, -⟩ := id C
  have hbA : ¬ lA s b := fun h => Nat.not_le_of_lt hbl h
  refine lv_aload_n hx hb dL_law_685 rfl (lv_at hl 1 rfl) ?_
  refine lv_aload_n hx hb dL_law_686 rfl (lv_at hl 0 rfl) ?_
  refine lv_iload_n hx hb dL_law_687 rfl (lv_at hl 3 rfl) ?_
  refine lv_iconst (v := nI 1) hx hb dL_law_688 (by decide) ?_
  refine lv_iadd hx hb dL_law_689 ?_
  refine va_sld hx hb hX hbl hbA hS (ixL (k := 1) (by omega) hL) dL_law_690 ?_
  refine lv_aload_n hx hb dL_law_691 rfl (lv_at hl 0 rfl) ?_
  refine lv_iload_n hx hb dL_law_692 rfl (lv_at hl 3 rfl) ?_
  refine lv_iconst (v := nI 2) hx hb dL_law_693 (by decide) ?_
  refine lv_iadd hx hb dL_law_694 ?_
  refine va_sld hx hb hX hbl hbA hS (ixL (k := 2) (by omega) hL) dL_law_695 ?_
  obtain ⟨r, M1, eX, eM, hI1⟩ := op_shows hI (xs ((nI n) + (nI 1)).toNatClampNeg) (xs ((nI n) + (nI 2)).toNatClampNeg)
  refine lCall_i (V := wX cI cZ aX) (V2 := wM cI cZ aM) (S' := S) (T := M) (r := r) (As := [.int (xs ((nI n) + (nI 1)).toNatClampNeg), .int (xs ((nI n) + (nI 2)).toNatClampNeg)]) (rest := []) (q0 := 0) (ci := 9) C.1 hK hN hPX hPM (lX_M C M) (lX_A C) hS rfl rfl (c_X9_shows l (xD C.2.2.2.2.1.1) eX) (cwV 2 hts gL_law_X9_shows rfl rfl rfl ⟨rfl, hd_X9_shows⟩ ⟨Nat.le_of_ble_eq_true rfl, Nat.le_of_ble_eq_true rfl⟩) rfl hl rfl (Nat.le_of_ble_eq_true rfl) dL_law_696 ⟨Nat.le_refl _, Nat.le_refl _⟩ (fun H locs hPX hPM hS => ?_)
  refine lv_aload_n hx hb dL_law_699 rfl (lv_at hl 2 rfl) ?_
  refine lv_aload_n hx hb dL_law_700 rfl (lv_at hl 0 rfl) ?_
  refine lv_iload_n hx hb dL_law_701 rfl (lv_at hl 3 rfl) ?_
  refine lv_iconst (v := nI 1) hx hb dL_law_702 (by decide) ?_
  refine lv_iadd hx hb dL_law_703 ?_
  refine va_sld hx hb hX hbl hbA hS (ixL (k := 1) (by omega) hL) dL_law_704 ?_
  refine lv_aload_n hx hb dL_law_705 rfl (lv_at hl 0 rfl) ?_
  refine lv_iload_n hx hb dL_law_706 rfl (lv_at hl 3 rfl) ?_
  refine lv_iconst (v := nI 2) hx hb dL_law_707 (by decide) ?_
  refine lv_iadd hx hb dL_law_708 ?_
  refine va_sld hx hb hX hbl hbA hS (ixL (k := 2) (by omega) hL) dL_law_709 ?_
  refine lCall_i (V := wM cI cZ aM) (V2 := wX cI cZ aX) (S' := M1) (T := S) (r := r) (As := [.int (xs ((nI n) + (nI 1)).toNatClampNeg), .int (xs ((nI n) + (nI 2)).toNatClampNeg)]) (rest := [.int r]) (q0 := 0) (ci := 10) C.1 hK hN hPM hPX (lM_X C S) (lM_A C) hS rfl rfl (c_X10_shows l (mD C.2.2.2.2.1.2) eM) (cwV 2 hts gL_law_X10_shows rfl rfl rfl ⟨rfl, hd_X10_shows⟩ ⟨Nat.le_of_ble_eq_true rfl, Nat.le_of_ble_eq_true rfl⟩) rfl hl rfl (Nat.le_of_ble_eq_true rfl) dL_law_710 ⟨Nat.le_refl _, Nat.le_refl _⟩ (fun H locs hPM hPX hS => ?_)
  exact lv_icmp_eq (tgt := 1015) hx hb dL_law_713 (by decide) (fun _ => kk H locs S M1 hI1 hPX hPM hS) (fun c1 => absurd rfl c1)
/-! case 24: X9_soonest -/
set_option maxHeartbeats 4000000 in
set_option maxRecDepth 100000 in
theorem law_24 {p : Program} {l : Launch} {e : Env} {s : State} {m : MethodId} {args : Array Value} {below : List Frame} {meth : Method} {c : Code} {H : Heap} {locs : List Loc} {Q : State → Prop} {ls : Array Slot} {D : va_G} {cI cZ : ClassId} {b L : Nat} {xs : Nat → Int32} {aX aM : Nat → Nat} {S M : St} {n : Nat} (C : lC p c s m args D cI cZ b L xs aX aM) (hI : Inv S M) (hPX : va_P D vwCl (wX cI cZ aX S) H) (hPM : va_P D vwCl (wM cI cZ aM M) H) (hS : va_S (lA s) s.heap H locs) (hl : lv_has ls 4 [(0, .ref b), (1, .ref (aX 0)), (2, .ref (aM 0)), (3, .int (nI n))]) (hn : n + 4 ≤ L)
    (kk : ∀ (H : Heap) (locs : List Loc) (S M : St), Inv S M → va_P D vwCl (wX cI cZ aX S) H → va_P D vwCl (wM cI cZ aM M) H → va_S (lA s) s.heap H locs → W p l e room_1 s m args below meth c H locs 36 836 Q (F0 m 1015 ls [])) : W p l e room_1 s m args below meth c H locs 36 836 Q (F0 m 718 ls []) := by
  obtain ⟨⟨hx, hb, hml, hown, hts⟩, hK, hN, ⟨hX, hbl, hL⟩, -⟩ := id C
  have hbA : ¬ lA s b := fun h => Nat.not_le_of_lt hbl h
  refine lv_aload_n hx hb dL_law_718 rfl (lv_at hl 1 rfl) ?_
  obtain ⟨r, M1, eX, eM, hI1⟩ := op_soonest hI
  refine lCall_i (V := wX cI cZ aX) (V2 := wM cI cZ aM) (S' := S) (T := M) (r := r) (As := []) (rest := []) (q0 := 0) (ci := 9) C.1 hK hN hPX hPM (lX_M C M) (lX_A C) hS rfl rfl (c_X9_soonest l (xD C.2.2.2.2.1.1) eX) (cwV 0 hts gL_law_X9_soonest rfl rfl rfl ⟨rfl, hd_X9_soonest⟩ ⟨Nat.le_of_ble_eq_true rfl, Nat.le_of_ble_eq_true rfl⟩) rfl hl rfl (Nat.le_of_ble_eq_true rfl) dL_law_719 ⟨Nat.le_refl _, Nat.le_refl _⟩ (fun H locs hPX hPM hS => ?_)
  refine lv_aload_n hx hb dL_law_722 rfl (lv_at hl 2 rfl) ?_
  refine lCall_i (V := wM cI cZ aM) (V2 := wX cI cZ aX) (S' := M1) (T := S) (r := r) (As := []) (rest := [.int r]) (q0 := 0) (ci := 10) C.1 hK hN hPM hPX (lM_X C S) (lM_A C) hS rfl rfl (c_X10_soonest l (mD C.2.2.2.2.1.2) eM) (cwV 0 hts gL_law_X10_soonest rfl rfl rfl ⟨rfl, hd_X10_soonest⟩ ⟨Nat.le_of_ble_eq_true rfl, Nat.le_of_ble_eq_true rfl⟩) rfl hl rfl (Nat.le_of_ble_eq_true rfl) dL_law_723 ⟨Nat.le_refl _, Nat.le_refl _⟩ (fun H locs hPM hPX hS => ?_)
  exact lv_icmp_eq (tgt := 1015) hx hb dL_law_726 (by decide) (fun _ => kk H locs S M1 hI1 hPX hPM hS) (fun c1 => absurd rfl c1)
/-! case 25: X9_test -/
set_option maxHeartbeats 4000000 in
set_option maxRecDepth 100000 in
theorem law_25 {p : Program} {l : Launch} {e : Env} {s : State} {m : MethodId} {args : Array Value} {below : List Frame} {meth : Method} {c : Code} {H : Heap} {locs : List Loc} {Q : State → Prop} {ls : Array Slot} {D : va_G} {cI cZ : ClassId} {b L : Nat} {xs : Nat → Int32} {aX aM : Nat → Nat} {S M : St} {n : Nat} (C : lC p c s m args D cI cZ b L xs aX aM) (hI : Inv S M) (hPX : va_P D vwCl (wX cI cZ aX S) H) (hPM : va_P D vwCl (wM cI cZ aM M) H) (hS : va_S (lA s) s.heap H locs) (hl : lv_has ls 4 [(0, .ref b), (1, .ref (aX 0)), (2, .ref (aM 0)), (3, .int (nI n))]) (hn : n + 4 ≤ L)
    (kk : ∀ (H : Heap) (locs : List Loc) (S M : St), Inv S M → va_P D vwCl (wX cI cZ aX S) H → va_P D vwCl (wM cI cZ aM M) H → va_S (lA s) s.heap H locs → W p l e room_1 s m args below meth c H locs 36 836 Q (F0 m 1015 ls [])) : W p l e room_1 s m args below meth c H locs 36 836 Q (F0 m 731 ls []) := by
  obtain ⟨⟨hx, hb, hml, hown, hts⟩, hK, hN, ⟨hX, hbl, hL⟩, -⟩ := id C
  have hbA : ¬ lA s b := fun h => Nat.not_le_of_lt hbl h
  refine lv_aload_n hx hb dL_law_731 rfl (lv_at hl 1 rfl) ?_
  refine lv_aload_n hx hb dL_law_732 rfl (lv_at hl 0 rfl) ?_
  refine lv_iload_n hx hb dL_law_733 rfl (lv_at hl 3 rfl) ?_
  refine lv_iconst (v := nI 1) hx hb dL_law_734 (by decide) ?_
  refine lv_iadd hx hb dL_law_735 ?_
  refine va_sld hx hb hX hbl hbA hS (ixL (k := 1) (by omega) hL) dL_law_736 ?_
  refine lv_aload_n hx hb dL_law_737 rfl (lv_at hl 0 rfl) ?_
  refine lv_iload_n hx hb dL_law_738 rfl (lv_at hl 3 rfl) ?_
  refine lv_iconst (v := nI 2) hx hb dL_law_739 (by decide) ?_
  refine lv_iadd hx hb dL_law_740 ?_
  refine va_sld hx hb hX hbl hbA hS (ixL (k := 2) (by omega) hL) dL_law_741 ?_
  obtain ⟨r, S1, M1, eX, eM, hI1⟩ := op_test hI (xs ((nI n) + (nI 1)).toNatClampNeg) (xs ((nI n) + (nI 2)).toNatClampNeg)
  refine lCall_i (V := wX cI cZ aX) (V2 := wM cI cZ aM) (S' := S1) (T := M) (r := r) (As := [.int (xs ((nI n) + (nI 1)).toNatClampNeg), .int (xs ((nI n) + (nI 2)).toNatClampNeg)]) (rest := []) (q0 := 0) (ci := 9) C.1 hK hN hPX hPM (lX_M C M) (lX_A C) hS rfl rfl (c_X9_test l (xD C.2.2.2.2.1.1) eX) (cwV 2 hts gL_law_X9_test rfl rfl rfl ⟨rfl, hd_X9_test⟩ ⟨Nat.le_of_ble_eq_true rfl, Nat.le_of_ble_eq_true rfl⟩) rfl hl rfl (Nat.le_of_ble_eq_true rfl) dL_law_742 ⟨Nat.le_refl _, Nat.le_refl _⟩ (fun H locs hPX hPM hS => ?_)
  refine lv_aload_n hx hb dL_law_745 rfl (lv_at hl 2 rfl) ?_
  refine lv_aload_n hx hb dL_law_746 rfl (lv_at hl 0 rfl) ?_
  refine lv_iload_n hx hb dL_law_747 rfl (lv_at hl 3 rfl) ?_
  refine lv_iconst (v := nI 1) hx hb dL_law_748 (by decide) ?_
  refine lv_iadd hx hb dL_law_749 ?_
  refine va_sld hx hb hX hbl hbA hS (ixL (k := 1) (by omega) hL) dL_law_750 ?_
  refine lv_aload_n hx hb dL_law_751 rfl (lv_at hl 0 rfl) ?_
  refine lv_iload_n hx hb dL_law_752 rfl (lv_at hl 3 rfl) ?_
  refine lv_iconst (v := nI 2) hx hb dL_law_753 (by decide) ?_
  refine lv_iadd hx hb dL_law_754 ?_
  refine va_sld hx hb hX hbl hbA hS (ixL (k := 2) (by omega) hL) dL_law_755 ?_
  refine lCall_i (V := wM cI cZ aM) (V2 := wX cI cZ aX) (S' := M1) (T := S1) (r := r) (As := [.int (xs ((nI n) + (nI 1)).toNatClampNeg), .int (xs ((nI n) + (nI 2)).toNatClampNeg)]) (rest := [.int r]) (q0 := 0) (ci := 10) C.1 hK hN hPM hPX (lM_X C S1) (lM_A C) hS rfl rfl (c_X10_test l (mD C.2.2.2.2.1.2) eM) (cwV 2 hts gL_law_X10_test rfl rfl rfl ⟨rfl, hd_X10_test⟩ ⟨Nat.le_of_ble_eq_true rfl, Nat.le_of_ble_eq_true rfl⟩) rfl hl rfl (Nat.le_of_ble_eq_true rfl) dL_law_756 ⟨Nat.le_refl _, Nat.le_refl _⟩ (fun H locs hPM hPX hS => ?_)
  exact lv_icmp_eq (tgt := 1015) hx hb dL_law_759 (by decide) (fun _ => kk H locs S1 M1 hI1 hPX hPM hS) (fun c1 => absurd rfl c1)
/-! case 26: X9_untest -/
set_option maxHeartbeats 4000000 in
set_option maxRecDepth 100000 in
theorem law_26 {p : Program} {l : Launch} {e : Env} {s : State} {m : MethodId} {args : Array Value} {below : List Frame} {meth : Method} {c : Code} {H : Heap} {locs : List Loc} {Q : State → Prop} {ls : Array Slot} {D : va_G} {cI cZ : ClassId} {b L : Nat} {xs : Nat → Int32} {aX aM : Nat → Nat} {S M : St} {n : Nat} (C : lC p c s m args D cI cZ b L xs aX aM) (hI : Inv S M) (hPX : va_P D vwCl (wX cI cZ aX S) H) (hPM : va_P D vwCl (wM cI cZ aM M) H) (hS : va_S (lA s) s.heap H locs) (hl : lv_has ls 4 [(0, .ref b), (1, .ref (aX 0)), (2, .ref (aM 0)), (3, .int (nI n))]) (hn : n + 4 ≤ L)
    (kk : ∀ (H : Heap) (locs : List Loc) (S M : St), Inv S M → va_P D vwCl (wX cI cZ aX S) H → va_P D vwCl (wM cI cZ aM M) H → va_S (lA s) s.heap H locs → W p l e room_1 s m args below meth c H locs 36 836 Q (F0 m 1015 ls [])) : W p l e room_1 s m args below meth c H locs 36 836 Q (F0 m 764 ls []) := by
  obtain ⟨⟨hx, hb, hml, hown, hts⟩, hK, hN, ⟨hX, hbl, hL⟩, -⟩ := id C
  have hbA : ¬ lA s b := fun h => Nat.not_le_of_lt hbl h
  refine lv_aload_n hx hb dL_law_764 rfl (lv_at hl 1 rfl) ?_
  obtain ⟨r, S1, M1, eX, eM, hI1⟩ := op_untest hI
  refine lCall_i (V := wX cI cZ aX) (V2 := wM cI cZ aM) (S' := S1) (T := M) (r := r) (As := []) (rest := []) (q0 := 0) (ci := 9) C.1 hK hN hPX hPM (lX_M C M) (lX_A C) hS rfl rfl (c_X9_untest l (xD C.2.2.2.2.1.1) eX) (cwV 0 hts gL_law_X9_untest rfl rfl rfl ⟨rfl, hd_X9_untest⟩ ⟨Nat.le_of_ble_eq_true rfl, Nat.le_of_ble_eq_true rfl⟩) rfl hl rfl (Nat.le_of_ble_eq_true rfl) dL_law_765 ⟨Nat.le_refl _, Nat.le_refl _⟩ (fun H locs hPX hPM hS => ?_)
  refine lv_aload_n hx hb dL_law_768 rfl (lv_at hl 2 rfl) ?_
  refine lCall_i (V := wM cI cZ aM) (V2 := wX cI cZ aX) (S' := M1) (T := S1) (r := r) (As := []) (rest := [.int r]) (q0 := 0) (ci := 10) C.1 hK hN hPM hPX (lM_X C S1) (lM_A C) hS rfl rfl (c_X10_untest l (mD C.2.2.2.2.1.2) eM) (cwV 0 hts gL_law_X10_untest rfl rfl rfl ⟨rfl, hd_X10_untest⟩ ⟨Nat.le_of_ble_eq_true rfl, Nat.le_of_ble_eq_true rfl⟩) rfl hl rfl (Nat.le_of_ble_eq_true rfl) dL_law_769 ⟨Nat.le_refl _, Nat.le_refl _⟩ (fun H locs hPM hPX hS => ?_)
  exact lv_icmp_eq (tgt := 1015) hx hb dL_law_772 (by decide) (fun _ => kk H locs S1 M1 hI1 hPX hPM hS) (fun c1 => absurd rfl c1)
