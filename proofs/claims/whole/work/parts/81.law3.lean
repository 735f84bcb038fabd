/-! case 27: X9_changes -/
set_option maxHeartbeats 4000000 in
set_option maxRecDepth 100000 in
theorem law_27 {p : Program} {l : Launch} {e : Env} {s : State} {m : MethodId} {args : Array Value} {below : List Frame} {meth : Method} {c : Code} {H : Heap} {locs : List Loc} {Q : State → Prop} {ls : Array Slot} {D : va_G} {cI cZ : ClassId} {b L : Nat} {xs : Nat → Int32} {aX aM : Nat → Nat} {S M : St} {n : Nat} (C : lC p c s m args D cI cZ b L xs aX aM) (hI : Inv S M) (hPX : va_P D vwCl (wX cI cZ aX S) H) (hPM : va_P D vwCl (wM cI cZ aM M) H) (hS : va_S (lA s) s.heap H locs) (hl : lv_has ls 4 [(0, .ref b), (1, .ref (aX 0)), (2, .ref (aM 0)), (3, .int (nI n))]) (hn : n + 4 ≤ L)
    (kk : ∀ (H : Heap) (locs : List Loc) (S M : St), Inv S M → va_P D vwCl (wX cI cZ aX S) H → va_P D vwCl (wM cI cZ aM M) H → va_S (lA s) s.heap H locs → W p l e room_1 s m args below meth c H locs 36 836 Q (F0 m 1015 ls [])) : W p l e room_1 s m args below meth c H locs 36 836 Q (F0 m 777 ls []) := by
  obtain ⟨⟨hx, hb, hml, hown, hts⟩, hK, hN, ⟨hX, hbl, hL⟩, -⟩ := id C
  have hbA : ¬ lA s b := fun h => Nat.not_le_of_lt hbl h
  refine lv_aload_n hx hb dL_law_777 rfl (lv_at hl 1 rfl) ?_
  refine lv_aload_n hx hb dL_law_778 rfl (lv_at hl 0 rfl) ?_
  refine lv_iload_n hx hb dL_law_779 rfl (lv_at hl 3 rfl) ?_
  refine lv_iconst (v := nI 1) hx hb dL_law_780 (by decide) ?_
  refine lv_iadd hx hb dL_law_781 ?_
  refine va_sld hx hb hX hbl hbA hS (ixL (k := 1) (by omega) hL) dL_law_782 ?_
  obtain ⟨r, S1, M1, eX, eM, hI1⟩ := op_changes hI (xs ((nI n) + (nI 1)).toNatClampNeg)
  refine lCall_i (V := wX cI cZ aX) (V2 := wM cI cZ aM) (S' := S1) (T := M) (r := r) (As := [.int (xs ((nI n) + (nI 1)).toNatClampNeg)]) (rest := []) (q0 := 0) (ci := 9) C.1 hK hN hPX hPM (lX_M C M) (lX_A C) hS rfl rfl (c_X9_changes l (xD C.2.2.2.2.1.1) eX) (cwV 1 hts gL_law_X9_changes rfl rfl rfl ⟨rfl, hd_X9_changes⟩ ⟨Nat.le_of_ble_eq_true rfl, Nat.le_of_ble_eq_true rfl⟩) rfl hl rfl (Nat.le_of_ble_eq_true rfl) dL_law_783 ⟨Nat.le_refl _, Nat.le_refl _⟩ (fun H locs hPX hPM hS => ?_)
  refine lv_aload_n hx hb dL_law_786 rfl (lv_at hl 2 rfl) ?_
  refine lv_aload_n hx hb dL_law_787 rfl (lv_at hl 0 rfl) ?_
  refine lv_iload_n hx hb dL_law_788 rfl (lv_at hl 3 rfl) ?_
  refine lv_iconst (v := nI 1) hx hb dL_law_789 (by decide) ?_
  refine lv_iadd hx hb dL_law_790 ?_
  refine va_sld hx hb hX hbl hbA hS (ixL (k := 1) (by omega) hL) dL_law_791 ?_
  refine lCall_i (V := wM cI cZ aM) (V2 := wX cI cZ aX) (S' := M1) (T := S1) (r := r) (As := [.int (xs ((nI n) + (nI 1)).toNatClampNeg)]) (rest := [.int r]) (q0 := 0) (ci := 10) C.1 hK hN hPM hPX (lM_X C S1) (lM_A C) hS rfl rfl (c_X10_changes l (mD C.2.2.2.2.1.2) eM) (cwV 1 hts gL_law_X10_changes rfl rfl rfl ⟨rfl, hd_X10_changes⟩ ⟨Nat.le_of_ble_eq_true rfl, Nat.le_of_ble_eq_true rfl⟩) rfl hl rfl (Nat.le_of_ble_eq_true rfl) dL_law_792 ⟨Nat.le_refl _, Nat.le_refl _⟩ (fun H locs hPM hPX hS => ?_)
  exact lv_icmp_eq (tgt := 1015) hx hb dL_law_795 (by decide) (fun _ => kk H locs S1 M1 hI1 hPX hPM hS) (fun c1 => absurd rfl c1)
/-! case 28: X9_rests -/
set_option maxHeartbeats 4000000 in
set_option maxRecDepth 100000 in
theorem law_28 {p : Program} {l : Launch} {e : Env} {s : State} {m : MethodId} {args : Array Value} {below : List Frame} {meth : Method} {c : Code} {H : Heap} {locs : List Loc} {Q : State → Prop} {ls : Array Slot} {D : va_G} {cI cZ : ClassId} {b L : Nat} {xs : Nat → Int32} {aX aM : Nat → Nat} {S M : St} {n : Nat} (C : lC p c s m args D cI cZ b L xs aX aM) (hI : Inv S M) (hPX : va_P D vwCl (wX cI cZ aX S) H) (hPM : va_P D vwCl (wM cI cZ aM M) H) (hS : va_S (lA s) s.heap H locs) (hl : lv_has ls 4 [(0, .ref b), (1, .ref (aX 0)), (2, .ref (aM 0)), (3, .int (nI n))]) (hn : n + 4 ≤ L)
    (kk : ∀ (H : Heap) (locs : List Loc) (S M : St), Inv S M → va_P D vwCl (wX cI cZ aX S) H → va_P D vwCl (wM cI cZ aM M) H → va_S (lA s) s.heap H locs → W p l e room_1 s m args below meth c H locs 36 836 Q (F0 m 1015 ls [])) : W p l e room_1 s m args below meth c H locs 36 836 Q (F0 m 800 ls []) := by
  obtain ⟨⟨hx, hb, hml, hown, hts⟩, hK, hN, ⟨hX, hbl, hL⟩, -⟩ := id C
  have hbA : ¬ lA s b := fun h => Nat.not_le_of_lt hbl h
  refine lv_aload_n hx hb dL_law_800 rfl (lv_at hl 1 rfl) ?_
  refine lv_aload_n hx hb dL_law_801 rfl (lv_at hl 0 rfl) ?_
  refine lv_iload_n hx hb dL_law_802 rfl (lv_at hl 3 rfl) ?_
  refine lv_iconst (v := nI 1) hx hb dL_law_803 (by decide) ?_
  refine lv_iadd hx hb dL_law_804 ?_
  refine va_sld hx hb hX hbl hbA hS (ixL (k := 1) (by omega) hL) dL_law_805 ?_
  refine lv_aload_n hx hb dL_law_806 rfl (lv_at hl 0 rfl) ?_
  refine lv_iload_n hx hb dL_law_807 rfl (lv_at hl 3 rfl) ?_
  refine lv_iconst (v := nI 2) hx hb dL_law_808 (by decide) ?_
  refine lv_iadd hx hb dL_law_809 ?_
  refine va_sld hx hb hX hbl hbA hS (ixL (k := 2) (by omega) hL) dL_law_810 ?_
  obtain ⟨r, S1, M1, eX, eM, hI1⟩ := op_rests hI (xs ((nI n) + (nI 1)).toNatClampNeg) (xs ((nI n) + (nI 2)).toNatClampNeg)
  refine lCall_i (V := wX cI cZ aX) (V2 := wM cI cZ aM) (S' := S1) (T := M) (r := r) (As := [.int (xs ((nI n) + (nI 1)).toNatClampNeg), .int (xs ((nI n) + (nI 2)).toNatClampNeg)]) (rest := []) (q0 := 0) (ci := 9) C.1 hK hN hPX hPM (lX_M C M) (lX_A C) hS rfl rfl (c_X9_rests l (xD C.2.2.2.2.1.1) eX) (cwV 2 hts gL_law_X9_rests rfl rfl rfl ⟨rfl, hd_X9_rests⟩ ⟨Nat.le_of_ble_eq_true rfl, Nat.le_of_ble_eq_true rfl⟩) rfl hl rfl (Nat.le_of_ble_eq_true rfl) dL_law_811 ⟨Nat.le_refl _, Nat.le_refl _⟩ (fun H locs hPX hPM hS => ?_)
  refine lv_aload_n hx hb dL_law_814 rfl (lv_at hl 2 rfl) ?_
  refine lv_aload_n hx hb dL_law_815 rfl (lv_at hl 0 rfl) ?_
  refine lv_iload_n hx hb dL_law_816 rfl (lv_at hl 3 rfl) ?_
  refine lv_iconst (v := nI 1) hx hb dL_law_817 (by decide) ?_
  refine lv_iadd hx hb dL_law_818 ?_
  refine va_sld hx hb hX hbl hbA hS (ixL (k := 1) (by omega) hL) dL_law_819 ?_
  refine lv_aload_n hx hb dL_law_820 rfl (lv_at hl 0 rfl) ?_
  refine lv_iload_n hx hb dL_law_821 rfl (lv_at hl 3 rfl) ?_
  refine lv_iconst (v := nI 2) hx hb dL_law_822 (by decide) ?_
  refine lv_iadd hx hb dL_law_823 ?_
  refine va_sld hx hb hX hbl hbA hS (ixL (k := 2) (by omega) hL) dL_law_824 ?_
  refine lCall_i (V := wM cI cZ aM) (V2 := wX cI cZ aX) (S' := M1) (T := S1) (r := r) (As := [.int (xs ((nI n) + (nI 1)).toNatClampNeg), .int (xs ((nI n) + (nI 2)).toNatClampNeg)]) (rest := [.int r]) (q0 := 0) (ci := 10) C.1 hK hN hPM hPX (lM_X C S1) (lM_A C) hS rfl rfl (c_X10_rests l (mD C.2.2.2.2.1.2) eM) (cwV 2 hts gL_law_X10_rests rfl rfl rfl ⟨rfl, hd_X10_rests⟩ ⟨Nat.le_of_ble_eq_true rfl, Nat.le_of_ble_eq_true rfl⟩) rfl hl rfl (Nat.le_of_ble_eq_true rfl) dL_law_825 ⟨Nat.le_refl _, Nat.le_refl _⟩ (fun H locs hPM hPX hS => ?_)
  exact lv_icmp_eq (tgt := 1015) hx hb dL_law_828 (by decide) (fun _ => kk H locs S1 M1 hI1 hPX hPM hS) (fun c1 => absurd rfl c1)
/-! case 29: X9_chance -/
set_option maxHeartbeats 4000000 in
set_option maxRecDepth 100000 in
theorem law_29 {p : Program} {l : Launch} {e : Env} {s : State} {m : MethodId} {args : Array Value} {below : List Frame} {meth : Method} {c : Code} {H : Heap} {locs : List Loc} {Q : State → Prop} {ls : Array Slot} {D : va_G} {cI cZ : ClassId} {b L : Nat} {xs : Nat → Int32} {aX aM : Nat → Nat} {S M : St} {n : Nat} (C : lC p c s m args D cI cZ b L xs aX aM) (hI : Inv S M) (hPX : va_P D vwCl (wX cI cZ aX S) H) (hPM : va_P D vwCl (wM cI cZ aM M) H) (hS : va_S (lA s) s.heap H locs) (hl : lv_has ls 4 [(0, .ref b), (1, .ref (aX 0)), (2, .ref (aM 0)), (3, .int (nI n))]) (hn : n + 4 ≤ L)
    (kk : ∀ (H : Heap) (locs : List Loc) (S M : St), Inv S M → va_P D vwCl (wX cI cZ aX S) H → va_P D vwCl (wM cI cZ aM M) H → va_S (lA s) s.heap H locs → W p l e room_1 s m args below meth c H locs 36 836 Q (F0 m 1015 ls [])) : W p l e room_1 s m args below meth c H locs 36 836 Q (F0 m 833 ls []) := by
  obtain ⟨⟨hx, hb, hml, hown, hts⟩, hK, hN, ⟨hX, hbl, hL⟩, -⟩ := id C
  have hbA : ¬ lA s b := fun h => Nat.not_le_of_lt hbl h
  refine lv_aload_n hx hb dL_law_833 rfl (lv_at hl 1 rfl) ?_
  refine lv_aload_n hx hb dL_law_834 rfl (lv_at hl 0 rfl) ?_
  refine lv_iload_n hx hb dL_law_835 rfl (lv_at hl 3 rfl) ?_
  refine lv_iconst (v := nI 1) hx hb dL_law_836 (by decide) ?_
  refine lv_iadd hx hb dL_law_837 ?_
  refine va_sld hx hb hX hbl hbA hS (ixL (k := 1) (by omega) hL) dL_law_838 ?_
  refine lv_aload_n hx hb dL_law_839 rfl (lv_at hl 0 rfl) ?_
  refine lv_iload_n hx hb dL_law_840 rfl (lv_at hl 3 rfl) ?_
  refine lv_iconst (v := nI 2) hx hb dL_law_841 (by decide) ?_
  refine lv_iadd hx hb dL_law_842 ?_
  refine va_sld hx hb hX hbl hbA hS (ixL (k := 2) (by omega) hL) dL_law_843 ?_
  refine lv_aload_n hx hb dL_law_844 rfl (lv_at hl 0 rfl) ?_
  refine lv_iload_n hx hb dL_law_845 rfl (lv_at hl 3 rfl) ?_
  refine lv_iconst (v := nI 3) hx hb dL_law_846 (by decide) ?_
  refine lv_iadd hx hb dL_law_847 ?_
  refine va_sld hx hb hX hbl hbA hS (ixL (k := 3) (by omega) hL) dL_law_848 ?_
  suffices hj : W p l e room_1 s m args below meth c H locs 36 836 Q (F0 m 857 ls (.int (bz (xs ((nI n) + (nI 3)).toNatClampNeg)) :: [.int (xs ((nI n) + (nI 2)).toNatClampNeg), .int (xs ((nI n) + (nI 1)).toNatClampNeg), .ref (aX 0)])) from by
    refine lv_if_eq (tgt := 856) hx hb dL_law_849 (by decide) (fun c1 => ?_) (fun c1 => ?_)
    · refine lv_iconst (v := 0) hx hb dL_law_856 (by decide) ?_
      rw [show bz (xs ((nI n) + (nI 3)).toNatClampNeg) = 0 from if_pos c1] at hj
      exact hj
    · refine lv_iconst (v := 1) hx hb dL_law_852 (by decide) ?_
      refine lv_goto (tgt := 857) hx hb dL_law_853 (by decide) ?_
      rw [show bz (xs ((nI n) + (nI 3)).toNatClampNeg) = 1 from if_neg c1] at hj
      exact hj
  obtain ⟨r, S1, M1, eX, eM, hI1⟩ := op_chance hI (xs ((nI n) + (nI 1)).toNatClampNeg) (xs ((nI n) + (nI 2)).toNatClampNeg) (bz (xs ((nI n) + (nI 3)).toNatClampNeg))
  refine lCall_i (V := wX cI cZ aX) (V2 := wM cI cZ aM) (S' := S1) (T := M) (r := r) (As := [.int (xs ((nI n) + (nI 1)).toNatClampNeg), .int (xs ((nI n) + (nI 2)).toNatClampNeg), .int (bz (xs ((nI n) + (nI 3)).toNatClampNeg))]) (rest := []) (q0 := 0) (ci := 9) C.1 hK hN hPX hPM (lX_M C M) (lX_A C) hS rfl rfl (c_X9_chance l (xD C.2.2.2.2.1.1) eX) (cwV 3 hts gL_law_X9_chance rfl rfl rfl ⟨rfl, hd_X9_chance⟩ ⟨Nat.le_of_ble_eq_true rfl, Nat.le_of_ble_eq_true rfl⟩) rfl hl rfl (Nat.le_of_ble_eq_true rfl) dL_law_857 ⟨Nat.le_refl _, Nat.le_refl _⟩ (fun H locs hPX hPM hS => ?_)
  refine lv_aload_n hx hb dL_law_860 rfl (lv_at hl 2 rfl) ?_
  refine lv_aload_n hx hb dL_law_861 rfl (lv_at hl 0 rfl) ?_
  refine lv_iload_n hx hb dL_law_862 rfl (lv_at hl 3 rfl) ?_
  refine lv_iconst (v := nI 1) hx hb dL_law_863 (by decide) ?_
  refine lv_iadd hx hb dL_law_864 ?_
  refine va_sld hx hb hX hbl hbA hS (ixL (k := 1) (by omega) hL) dL_law_865 ?_
  refine lv_aload_n hx hb dL_law_866 rfl (lv_at hl 0 rfl) ?_
  refine lv_iload_n hx hb dL_law_867 rfl (lv_at hl 3 rfl) ?_
  refine lv_iconst (v := nI 2) hx hb dL_law_868 (by decide) ?_
  refine lv_iadd hx hb dL_law_869 ?_
  refine va_sld hx hb hX hbl hbA hS (ixL (k := 2) (by omega) hL) dL_law_870 ?_
  refine lv_aload_n hx hb dL_law_871 rfl (lv_at hl 0 rfl) ?_
  refine lv_iload_n hx hb dL_law_872 rfl (lv_at hl 3 rfl) ?_
  refine lv_iconst (v := nI 3) hx hb dL_law_873 (by decide) ?_
  refine lv_iadd hx hb dL_law_874 ?_
  refine va_sld hx hb hX hbl hbA hS (ixL (k := 3) (by omega) hL) dL_law_875 ?_
  suffices hj : W p l e room_1 s m args below meth c H locs 36 836 Q (F0 m 884 ls (.int (bz (xs ((nI n) + (nI 3)).toNatClampNeg)) :: [.int (xs ((nI n) + (nI 2)).toNatClampNeg), .int (xs ((nI n) + (nI 1)).toNatClampNeg), .ref (aM 0), .int r])) from by
    refine lv_if_eq (tgt := 883) hx hb dL_law_876 (by decide) (fun c1 => ?_) (fun c1 => ?_)
    · refine lv_iconst (v := 0) hx hb dL_law_883 (by decide) ?_
      rw [show bz (xs ((nI n) + (nI 3)).toNatClampNeg) = 0 from if_pos c1] at hj
      exact hj
    · refine lv_iconst (v := 1) hx hb dL_law_879 (by decide) ?_
      refine lv_goto (tgt := 884) hx hb dL_law_880 (by decide) ?_
      rw [show bz (xs ((nI n) + (nI 3)).toNatClampNeg) = 1 from if_neg c1] at hj
      exact hj
  refine lCall_i (V := wM cI cZ aM) (V2 := wX cI cZ aX) (S' := M1) (T := S1) (r := r) (As := [.int (xs ((nI n) + (nI 1)).toNatClampNeg), .int (xs ((nI n) + (nI 2)).toNatClampNeg), .int (bz (xs ((nI n) + (nI 3)).toNatClampNeg))]) (rest := [.int r]) (q0 := 0) (ci := 10) C.1 hK hN hPM hPX (lM_X C S1) (lM_A C) hS rfl rfl (c_X10_chance l (mD C.2.2.2.2.1.2) eM) (cwV 3 hts gL_law_X10_chance rfl rfl rfl ⟨rfl, hd_X10_chance⟩ ⟨Nat.le_of_ble_eq_true rfl, Nat.le_of_ble_eq_true rfl⟩) rfl hl rfl (Nat.le_of_ble_eq_true rfl) dL_law_884 ⟨Nat.le_refl _, Nat.le_refl _⟩ (fun H locs hPM hPX hS => ?_)
  exact lv_icmp_eq (tgt := 1015) hx hb dL_law_887 (by decide) (fun _ => kk H locs S1 M1 hI1 hPX hPM hS) (fun c1 => absurd rfl c1)
/-! case 30: X9_seed -/
set_option maxHeartbeats 4000000 in
set_option maxRecDepth 100000 in
theorem law_30 {p : Program} {l : Launch} {e : Env} {s : State} {m : MethodId} {args : Array Value} {below : List Frame} {meth : Method} {c : Code} {H : Heap} {locs : List Loc} {Q : State → Prop} {ls : Array Slot} {D : va_G} {cI cZ : ClassId} {b L : Nat} {xs : Nat → Int32} {aX aM : Nat → Nat} {S M : St} {n : Nat} (C : lC p c s m args D cI cZ b L xs aX aM) (hI : Inv S M) (hPX : va_P D vwCl (wX cI cZ aX S) H) (hPM : va_P D vwCl (wM cI cZ aM M) H) (hS : va_S (lA s) s.heap H locs) (hl : lv_has ls 4 [(0, .ref b), (1, .ref (aX 0)), (2, .ref (aM 0)), (3, .int (nI n))]) (hn : n + 4 ≤ L)
    (kk : ∀ (H : Heap) (locs : List Loc) (S M : St), Inv S M → va_P D vwCl (wX cI cZ aX S) H → va_P D vwCl (wM cI cZ aM M) H → va_S (lA s) s.heap H locs → W p l e room_1 s m args below meth c H locs 36 836 Q (F0 m 1015 ls [])) : W p l e room_1 s m args below meth c H locs 36 836 Q (F0 m 892 ls []) := by
  obtain ⟨⟨hx, hb, hml, hown, hts⟩, hK, hN, ⟨hX, hbl, hL⟩, -⟩ := id C
  have hbA : ¬ lA s b := fun h => Nat.not_le_of_lt hbl h
  refine lv_aload_n hx hb dL_law_892 rfl (lv_at hl 1 rfl) ?_
  refine lv_aload_n hx hb dL_law_893 rfl (lv_at hl 0 rfl) ?_
  refine lv_iload_n hx hb dL_law_894 rfl (lv_at hl 3 rfl) ?_
  refine lv_iconst (v := nI 1) hx hb dL_law_895 (by decide) ?_
  refine lv_iadd hx hb dL_law_896 ?_
  refine va_sld hx hb hX hbl hbA hS (ixL (k := 1) (by omega) hL) dL_law_897 ?_
  refine lv_i2l hx hb dL_law_898 rfl ?_
  refine lv_bipush (v := (32 : Int32)) hx hb dL_law_899 (by decide) ?_
  refine lv_lshl hx hb dL_law_901 rfl ?_
  refine lv_aload_n hx hb dL_law_902 rfl (lv_at hl 0 rfl) ?_
  refine lv_iload_n hx hb dL_law_903 rfl (lv_at hl 3 rfl) ?_
  refine lv_iconst (v := nI 2) hx hb dL_law_904 (by decide) ?_
  refine lv_iadd hx hb dL_law_905 ?_
  refine va_sld hx hb hX hbl hbA hS (ixL (k := 2) (by omega) hL) dL_law_906 ?_
  refine lv_i2l hx hb dL_law_907 rfl ?_
  refine lv_ldc2 (v := (4294967295 : Int64)) hx hb hown (hts _ (List.mem_of_getElem? (i := 6) rfl)) dL_law_908 ?_
  refine lv_land hx hb dL_law_911 ?_
  refine lv_lor hx hb dL_law_912 ?_
  refine lv_topl (fun w1 ew1 => ?_)
  obtain ⟨r, S1, M1, eX, eM, hI1⟩ := op_seed hI w1
  refine lCall_l (V := wX cI cZ aX) (V2 := wM cI cZ aM) (S' := S1) (T := M) (r := r) (As := [.long w1]) (rest := []) (q0 := 0) (ci := 9) C.1 hK hN hPX hPM (lX_M C M) (lX_A C) hS rfl rfl (c_X9_seed l (xD C.2.2.2.2.1.1) eX) (cwV 1 hts gL_law_X9_seed rfl rfl rfl ⟨rfl, hd_X9_seed⟩ ⟨Nat.le_of_ble_eq_true rfl, Nat.le_of_ble_eq_true rfl⟩) rfl hl rfl (Nat.le_of_ble_eq_true rfl) dL_law_913 ⟨Nat.le_refl _, Nat.le_refl _⟩ (fun H locs hPX hPM hS => ?_)
  refine lv_aload_n hx hb dL_law_916 rfl (lv_at hl 2 rfl) ?_
  refine lv_aload_n hx hb dL_law_917 rfl (lv_at hl 0 rfl) ?_
  refine lv_iload_n hx hb dL_law_918 rfl (lv_at hl 3 rfl) ?_
  refine lv_iconst (v := nI 1) hx hb dL_law_919 (by decide) ?_
  refine lv_iadd hx hb dL_law_920 ?_
  refine va_sld hx hb hX hbl hbA hS (ixL (k := 1) (by omega) hL) dL_law_921 ?_
  refine lv_i2l hx hb dL_law_922 rfl ?_
  refine lv_bipush (v := (32 : Int32)) hx hb dL_law_923 (by decide) ?_
  refine lv_lshl hx hb dL_law_925 rfl ?_
  refine lv_aload_n hx hb dL_law_926 rfl (lv_at hl 0 rfl) ?_
  refine lv_iload_n hx hb dL_law_927 rfl (lv_at hl 3 rfl) ?_
  refine lv_iconst (v := nI 2) hx hb dL_law_928 (by decide) ?_
  refine lv_iadd hx hb dL_law_929 ?_
  refine va_sld hx hb hX hbl hbA hS (ixL (k := 2) (by omega) hL) dL_law_930 ?_
  refine lv_i2l hx hb dL_law_931 rfl ?_
  refine lv_ldc2 (v := (4294967295 : Int64)) hx hb hown (hts _ (List.mem_of_getElem? (i := 6) rfl)) dL_law_932 ?_
  refine lv_land hx hb dL_law_935 ?_
  refine lv_lor hx hb dL_law_936 ?_
  refine lv_topl (fun w2 ew2 => ?_)
  obtain rfl : w2 = w1 := ew2.trans ew1.symm
  refine lCall_l (V := wM cI cZ aM) (V2 := wX cI cZ aX) (S' := M1) (T := S1) (r := r) (As := [.long w2]) (rest := [.long r]) (q0 := 0) (ci := 10) C.1 hK hN hPM hPX (lM_X C S1) (lM_A C) hS rfl rfl (c_X10_seed l (mD C.2.2.2.2.1.2) eM) (cwV 1 hts gL_law_X10_seed rfl rfl rfl ⟨rfl, hd_X10_seed⟩ ⟨Nat.le_of_ble_eq_true rfl, Nat.le_of_ble_eq_true rfl⟩) rfl hl rfl (Nat.le_of_ble_eq_true rfl) dL_law_937 ⟨Nat.le_refl _, Nat.le_refl _⟩ (fun H locs hPM hPX hS => ?_)
  refine W.lcmp hx hb dL_law_940 ?_
  exact lv_if_eq (tgt := 1015) hx hb dL_law_941 (by decide) (fun _ => kk H locs S1 M1 hI1 hPX hPM hS) (fun c1 => absurd ((lg_cmp_eq r r).mpr rfl) c1)
/-! case 31: X9_days -/
set_option maxHeartbeats 4000000 in
set_option maxRecDepth 100000 in
theorem law_31 {p : Program} {l : Launch} {e : Env} {s : State} {m : MethodId} {args : Array Value} {below : List Frame} {meth : Method} {c : Code} {H : Heap} {locs : List Loc} {Q : State → Prop} {ls : Array Slot} {D : va_G} {cI cZ : ClassId} {b L : Nat} {xs : Nat → Int32} {aX aM : Nat → Nat} {S M : St} {n : Nat} (C : lC p c s m args D cI cZ b L xs aX aM) (hI : Inv S M) (hPX : va_P D vwCl (wX cI cZ aX S) H) (hPM : va_P D vwCl (wM cI cZ aM M) H) (hS : va_S (lA s) s.heap H locs) (hl : lv_has ls 4 [(0, .ref b), (1, .ref (aX 0)), (2, .ref (aM 0)), (3, .int (nI n))]) (hn : n + 4 ≤ L)
    (kk : ∀ (H : Heap) (locs : List Loc) (S M : St), Inv S M → va_P D vwCl (wX cI cZ aX S) H → va_P D vwCl (wM cI cZ aM M) H → va_S (lA s) s.heap H locs → W p l e room_1 s m args below meth c H locs 36 836 Q (F0 m 1015 ls [])) : W p l e room_1 s m args below meth c H locs 36 836 Q (F0 m 946 ls []) := by
  obtain ⟨⟨hx, hb, hml, hown, hts⟩, hK, hN, ⟨hX, hbl, hL⟩, -⟩ := id C
  have hbA : ¬ lA s b := fun h => Nat.not_le_of_lt hbl h
  refine lv_aload_n hx hb dL_law_946 rfl (lv_at hl 1 rfl) ?_
  refine lv_aload_n hx hb dL_law_947 rfl (lv_at hl 0 rfl) ?_
  refine lv_iload_n hx hb dL_law_948 rfl (lv_at hl 3 rfl) ?_
  refine lv_iconst (v := nI 1) hx hb dL_law_949 (by decide) ?_
  refine lv_iadd hx hb dL_law_950 ?_
  refine va_sld hx hb hX hbl hbA hS (ixL (k := 1) (by omega) hL) dL_law_951 ?_
  obtain ⟨r, S1, M1, eX, eM, hI1⟩ := op_days hI (xs ((nI n) + (nI 1)).toNatClampNeg)
  refine lCall_i (V := wX cI cZ aX) (V2 := wM cI cZ aM) (S' := S1) (T := M) (r := r) (As := [.int (xs ((nI n) + (nI 1)).toNatClampNeg)]) (rest := []) (q0 := 0) (ci := 9) C.1 hK hN hPX hPM (lX_M C M) (lX_A C) hS rfl rfl (c_X9_days l (xD C.2.2.2.2.1.1) eX) (cwV 1 hts gL_law_X9_days rfl rfl rfl ⟨rfl, hd_X9_days⟩ ⟨Nat.le_of_ble_eq_true rfl, Nat.le_of_ble_eq_true rfl⟩) rfl hl rfl (Nat.le_of_ble_eq_true rfl) dL_law_952 ⟨Nat.le_refl _, Nat.le_refl _⟩ (fun H locs hPX hPM hS => ?_)
  refine lv_aload_n hx hb dL_law_955 rfl (lv_at hl 2 rfl) ?_
  refine lv_aload_n hx hb dL_law_956 rfl (lv_at hl 0 rfl) ?_
  refine lv_iload_n hx hb dL_law_957 rfl (lv_at hl 3 rfl) ?_
  refine lv_iconst (v := nI 1) hx hb dL_law_958 (by decide) ?_
  refine lv_iadd hx hb dL_law_959 ?_
  refine va_sld hx hb hX hbl hbA hS (ixL (k := 1) (by omega) hL) dL_law_960 ?_
  refine lCall_i (V := wM cI cZ aM) (V2 := wX cI cZ aX) (S' := M1) (T := S1) (r := r) (As := [.int (xs ((nI n) + (nI 1)).toNatClampNeg)]) (rest := [.int r]) (q0 := 0) (ci := 10) C.1 hK hN hPM hPX (lM_X C S1) (lM_A C) hS rfl rfl (c_X10_days l (mD C.2.2.2.2.1.2) eM) (cwV 1 hts gL_law_X10_days rfl rfl rfl ⟨rfl, hd_X10_days⟩ ⟨Nat.le_of_ble_eq_true rfl, Nat.le_of_ble_eq_true rfl⟩) rfl hl rfl (Nat.le_of_ble_eq_true rfl) dL_law_961 ⟨Nat.le_refl _, Nat.le_refl _⟩ (fun H locs hPM hPX hS => ?_)
  exact lv_icmp_eq (tgt := 1015) hx hb dL_law_964 (by decide) (fun _ => kk H locs S1 M1 hI1 hPX hPM hS) (fun c1 => absurd rfl c1)
/-! case 32: X9_keep -/
set_option maxHeartbeats 4000000 in
set_option maxRecDepth 100000 in
theorem law_32 {p : Program} {l : Launch} {e : Env} {s : State} {m : MethodId} {args : Array Value} {below : List Frame} {meth : Method} {c : Code} {H : Heap} {locs : List Loc} {Q : State → Prop} {ls : Array Slot} {D : va_G} {cI cZ : ClassId} {b L : Nat} {xs : Nat → Int32} {aX aM : Nat → Nat} {S M : St} {n : Nat} (C : lC p c s m args D cI cZ b L xs aX aM) (hI : Inv S M) (hPX : va_P D vwCl (wX cI cZ aX S) H) (hPM : va_P D vwCl (wM cI cZ aM M) H) (hS : va_S (lA s) s.heap H locs) (hl : lv_has ls 4 [(0, .ref b), (1, .ref (aX 0)), (2, .ref (aM 0)), (3, .int (nI n))]) (hn : n + 4 ≤ L)
    (kk : ∀ (H : Heap) (locs : List Loc) (S M : St), Inv S M → va_P D vwCl (wX cI cZ aX S) H → va_P D vwCl (wM cI cZ aM M) H → va_S (lA s) s.heap H locs → W p l e room_1 s m args below meth c H locs 36 836 Q (F0 m 1015 ls [])) : W p l e room_1 s m args below meth c H locs 36 836 Q (F0 m 969 ls []) := by
  obtain ⟨⟨hx, hb, hml, hown, hts⟩, hK, hN, ⟨hX, hbl, hL⟩, -⟩ := id C
  have hbA : ¬ lA s b := fun h => Nat.not_le_of_lt hbl h
  refine lv_aload_n hx hb dL_law_969 rfl (lv_at hl 1 rfl) ?_
  refine lv_aload_n hx hb dL_law_970 rfl (lv_at hl 0 rfl) ?_
  refine lv_iload_n hx hb dL_law_971 rfl (lv_at hl 3 rfl) ?_
  refine lv_iconst (v := nI 1) hx hb dL_law_972 (by decide) ?_
  refine lv_iadd hx hb dL_law_973 ?_
  refine va_sld hx hb hX hbl hbA hS (ixL (k := 1) (by omega) hL) dL_law_974 ?_
  obtain ⟨r, S1, M1, eX, eM, hI1⟩ := op_keep hI (xs ((nI n) + (nI 1)).toNatClampNeg)
  refine lCall_i (V := wX cI cZ aX) (V2 := wM cI cZ aM) (S' := S1) (T := M) (r := r) (As := [.int (xs ((nI n) + (nI 1)).toNatClampNeg)]) (rest := []) (q0 := 0) (ci := 9) C.1 hK hN hPX hPM (lX_M C M) (lX_A C) hS rfl rfl (c_X9_keep l (xD C.2.2.2.2.1.1) eX) (cwV 1 hts gL_law_X9_keep rfl rfl rfl ⟨rfl, hd_X9_keep⟩ ⟨Nat.le_of_ble_eq_true rfl, Nat.le_of_ble_eq_true rfl⟩) rfl hl rfl (Nat.le_of_ble_eq_true rfl) dL_law_975 ⟨Nat.le_refl _, Nat.le_refl _⟩ (fun H locs hPX hPM hS => ?_)
  refine lv_aload_n hx hb dL_law_978 rfl (lv_at hl 2 rfl) ?_
  refine lv_aload_n hx hb dL_law_979 rfl (lv_at hl 0 rfl) ?_
  refine lv_iload_n hx hb dL_law_980 rfl (lv_at hl 3 rfl) ?_
  refine lv_iconst (v := nI 1) hx hb dL_law_981 (by decide) ?_
  refine lv_iadd hx hb dL_law_982 ?_
  refine va_sld hx hb hX hbl hbA hS (ixL (k := 1) (by omega) hL) dL_law_983 ?_
  refine lCall_i (V := wM cI cZ aM) (V2 := wX cI cZ aX) (S' := M1) (T := S1) (r := r) (As := [.int (xs ((nI n) + (nI 1)).toNatClampNeg)]) (rest := [.int r]) (q0 := 0) (ci := 10) C.1 hK hN hPM hPX (lM_X C S1) (lM_A C) hS rfl rfl (c_X10_keep l (mD C.2.2.2.2.1.2) eM) (cwV 1 hts gL_law_X10_keep rfl rfl rfl ⟨rfl, hd_X10_keep⟩ ⟨Nat.le_of_ble_eq_true rfl, Nat.le_of_ble_eq_true rfl⟩) rfl hl rfl (Nat.le_of_ble_eq_true rfl) dL_law_984 ⟨Nat.le_refl _, Nat.le_refl _⟩ (fun H locs hPM hPX hS => ?_)
  exact lv_icmp_eq (tgt := 1015) hx hb dL_law_987 (by decide) (fun _ => kk H locs S1 M1 hI1 hPX hPM hS) (fun c1 => absurd rfl c1)
/-! case 33: X9_again -/
set_option maxHeartbeats 4000000 in
set_option maxRecDepth 100000 in
theorem law_33 {p : Program} {l : Launch} {e : Env} {s : State} {m : MethodId} {args : Array Value} {below : List Frame} {meth : Method} {c : Code} {H : Heap} {locs : List Loc} {Q : State → Prop} {ls : Array Slot} {D : va_G} {cI cZ : ClassId} {b L : Nat} {xs : Nat → Int32} {aX aM : Nat → Nat} {S M : St} {n : Nat} (C : lC p c s m args D cI cZ b L xs aX aM) (hI : Inv S M) (hPX : va_P D vwCl (wX cI cZ aX S) H) (hPM : va_P D vwCl (wM cI cZ aM M) H) (hS : va_S (lA s) s.heap H locs) (hl : lv_has ls 4 [(0, .ref b), (1, .ref (aX 0)), (2, .ref (aM 0)), (3, .int (nI n))]) (hn : n + 4 ≤ L)
    (kk : ∀ (H : Heap) (locs : List Loc) (S M : St), Inv S M → va_P D vwCl (wX cI cZ aX S) H → va_P D vwCl (wM cI cZ aM M) H → va_S (lA s) s.heap H locs → W p l e room_1 s m args below meth c H locs 36 836 Q (F0 m 1015 ls [])) : W p l e room_1 s m args below meth c H locs 36 836 Q (F0 m 992 ls []) := by
  obtain ⟨⟨hx, hb, hml, hown, hts⟩, hK, hN, ⟨hX, hbl, hL⟩, -⟩ := id C
  have hbA : ¬ lA s b := fun h => Nat.not_le_of_lt hbl h
  refine lv_aload_n hx hb dL_law_992 rfl (lv_at hl 1 rfl) ?_
  refine lv_aload_n hx hb dL_law_993 rfl (lv_at hl 0 rfl) ?_
  refine lv_iload_n hx hb dL_law_994 rfl (lv_at hl 3 rfl) ?_
  refine lv_iconst (v := nI 1) hx hb dL_law_995 (by decide) ?_
  refine lv_iadd hx hb dL_law_996 ?_
  refine va_sld hx hb hX hbl hbA hS (ixL (k := 1) (by omega) hL) dL_law_997 ?_
  obtain ⟨r, S1, M1, eX, eM, hI1⟩ := op_again hI (xs ((nI n) + (nI 1)).toNatClampNeg)
  refine lCall_i (V := wX cI cZ aX) (V2 := wM cI cZ aM) (S' := S1) (T := M) (r := r) (As := [.int (xs ((nI n) + (nI 1)).toNatClampNeg)]) (rest := []) (q0 := 0) (ci := 9) C.1 hK hN hPX hPM (lX_M C M) (lX_A C) hS rfl rfl (c_X9_again l (xD C.2.2.2.2.1.1) eX) (cwV 1 hts gL_law_X9_again rfl rfl rfl ⟨rfl, hd_X9_again⟩ ⟨Nat.le_of_ble_eq_true rfl, Nat.le_of_ble_eq_true rfl⟩) rfl hl rfl (Nat.le_of_ble_eq_true rfl) dL_law_998 ⟨Nat.le_refl _, Nat.le_refl _⟩ (fun H locs hPX hPM hS => ?_)
  refine lv_aload_n hx hb dL_law_1001 rfl (lv_at hl 2 rfl) ?_
  refine lv_aload_n hx hb dL_law_1002 rfl (lv_at hl 0 rfl) ?_
  refine lv_iload_n hx hb dL_law_1003 rfl (lv_at hl 3 rfl) ?_
  refine lv_iconst (v := nI 1) hx hb dL_law_1004 (by decide) ?_
  refine lv_iadd hx hb dL_law_1005 ?_
  refine va_sld hx hb hX hbl hbA hS (ixL (k := 1) (by omega) hL) dL_law_1006 ?_
  refine lCall_i (V := wM cI cZ aM) (V2 := wX cI cZ aX) (S' := M1) (T := S1) (r := r) (As := [.int (xs ((nI n) + (nI 1)).toNatClampNeg)]) (rest := [.int r]) (q0 := 0) (ci := 10) C.1 hK hN hPM hPX (lM_X C S1) (lM_A C) hS rfl rfl (c_X10_again l (mD C.2.2.2.2.1.2) eM) (cwV 1 hts gL_law_X10_again rfl rfl rfl ⟨rfl, hd_X10_again⟩ ⟨Nat.le_of_ble_eq_true rfl, Nat.le_of_ble_eq_true rfl⟩) rfl hl rfl (Nat.le_of_ble_eq_true rfl) dL_law_1007 ⟨Nat.le_refl _, Nat.le_refl _⟩ (fun H locs hPM hPX hS => ?_)
  exact lv_icmp_eq (tgt := 1015) hx hb dL_law_1010 (by decide) (fun _ => kk H locs S1 M1 hI1 hPX hPM hS) (fun c1 => absurd rfl c1)
