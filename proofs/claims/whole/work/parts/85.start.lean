theorem mIx (cI cZ : ClassId) (a : Nat → Nat) (S : St) {k : Nat} (h : k < 15) : ∃ e, (wM cI cZ a S)[k]? = some (a k, e) := by
  have h1 : k < (wM cI cZ a S).length := h
  refine ⟨((wM cI cZ a S)[k]).2, ?_⟩
  have h2 : (wM cI cZ a S)[k]? = some ((wM cI cZ a S)[k]) := List.getElem?_eq_some_iff.mpr ⟨h1, rfl⟩
  rw [h2]
  congr 1
  exact Prod.ext (mAt cI cZ a S h2).2 rfl
theorem two_of {A : Nat → Prop} {cI cZ : ClassId} {aX aM : Nat → Nat} {S M : St} (h : va_D A (wX cI cZ aX S ++ wM cI cZ aM M)) : (xJ aX ∧ mJ aM) ∧ (∀ i j, i < 21 → j < 15 → aX i ≠ aM j) ∧ (∀ i, i < 21 → A (aX i)) ∧ ∀ j, j < 15 → A (aM j) := by
  have hx : ∀ i, i < 21 → ∃ e, (wX cI cZ aX S ++ wM cI cZ aM M)[i]? = some (aX i, e) := fun i hi => by
    obtain ⟨e, he⟩ := xIx cI cZ aX S hi
    exact ⟨e, by rw [List.getElem?_append_left (show i < (wX cI cZ aX S).length from hi)]; exact he⟩
  have hm : ∀ j, j < 15 → ∃ e, (wX cI cZ aX S ++ wM cI cZ aM M)[21 + j]? = some (aM j, e) := fun j hj => by
    obtain ⟨e, he⟩ := mIx cI cZ aM M hj
    refine ⟨e, ?_⟩
    rw [List.getElem?_append_right (show (wX cI cZ aX S).length ≤ 21 + j from Nat.le_add_right 21 j), show 21 + j - (wX cI cZ aX S).length = j from Nat.add_sub_cancel_left 21 j]
    exact he
  refine ⟨⟨fun i j hi hj e => ?_, fun i j hi hj e => ?_⟩, fun i j hi hj e => ?_, fun i hi => ?_, fun j hj => ?_⟩
  · obtain ⟨e1, h1⟩ := hx i hi
    obtain ⟨e2, h2⟩ := hx j hj
    exact h.1 i j _ _ h1 h2 e
  · obtain ⟨e1, h1⟩ := hm i hi
    obtain ⟨e2, h2⟩ := hm j hj
    have := h.1 (21 + i) (21 + j) _ _ h1 h2 e
    omega
  · obtain ⟨e1, h1⟩ := hx i hi
    obtain ⟨e2, h2⟩ := hm j hj
    have := h.1 i (21 + j) _ _ h1 h2 e
    omega
  · obtain ⟨e1, h1⟩ := hx i hi
    exact h.2 i _ h1
  · obtain ⟨e1, h1⟩ := hm j hj
    exact h.2 (21 + j) _ h1
set_option maxHeartbeats 4000000 in
set_option maxRecDepth 100000 in
theorem whole_start {p : Program} {e : Env} {s : State} {m : MethodId} {below : List Frame} {meth : Method} {c : Code} (l : Launch) {b L : Nat} {xs : Nat → Int32} (hL : L ≤ 256) (C0 : lw_At p s m meth c b L xs) : W p l e room_1 s m #[Value.ref b] below meth c s.heap [] 0 0 (lw_Z below #[Value.ref b] s) (entryFrame m ([Value.ref b] : List Value).toArray 4) := by
  obtain ⟨hx, hb, hr, hml, hown, hts0, hX, hbl, hlocks, hgv⟩ := id C0
  have hts : ∀ w ∈ wsL_law, w.before #[Value.ref b] s = true := fun w h => hts0 w (wsL_law_in w h)
  have hown : s.vm.findClass RL = some m.cls := hown
  have hA : ∀ q : Nat, s.heap.size ≤ q → lA s q := fun _ h => h
  obtain ⟨c0, i0, k0⟩ := u_known (C := RX0) (T := TX0) (N := 3) (n := 3) hts inlX0 (hts _ (List.mem_of_getElem? (i := 26) rfl))
  obtain ⟨c1, i1, k1⟩ := u_known (C := RX1) (T := TX1) (N := 3) (n := 3) hts inlX1 (hts _ (List.mem_of_getElem? (i := 38) rfl))
  obtain ⟨c2, i2, k2⟩ := u_known (C := RX2) (T := TX2) (N := 2) (n := 2) hts inlX2 (hts _ (List.mem_of_getElem? (i := 42) rfl))
  obtain ⟨c3, i3, k3⟩ := u_known (C := RX3) (T := TX3) (N := 10) (n := 10) hts inlX3 (hts _ (List.mem_of_getElem? (i := 18) rfl))
  obtain ⟨c4, i4, k4⟩ := u_known (C := RX4) (T := TX4) (N := 6) (n := 6) hts inlX4 (hts _ (List.mem_of_getElem? (i := 46) rfl))
  obtain ⟨c5, i5, k5⟩ := u_known (C := RX5) (T := TX5) (N := 2) (n := 2) hts inlX5 (hts _ (List.mem_of_getElem? (i := 30) rfl))
  obtain ⟨c6, i6, k6⟩ := u_known (C := RX6) (T := TX6) (N := 6) (n := 6) hts inlX6 (hts _ (List.mem_of_getElem? (i := 34) rfl))
  obtain ⟨c7, i7, k7⟩ := u_known (C := RX7) (T := TX7) (N := 2) (n := 2) hts inlX7 (hts _ (List.mem_of_getElem? (i := 14) rfl))
  obtain ⟨c8, i8, k8⟩ := u_known (C := RX8) (T := TX8) (N := 9) (n := 9) hts inlX8 (hts _ (List.mem_of_getElem? (i := 22) rfl))
  obtain ⟨c9, i9, k9⟩ := u_known (C := RX9) (T := TX9) (N := 10) (n := 10) hts inlX9 (hts _ (List.mem_of_getElem? (i := 1) rfl))
  obtain ⟨c10, i10, k10⟩ := u_known (C := RX10) (T := TX10) (N := 31) (n := 31) hts inlX10 (hts _ (List.mem_of_getElem? (i := 4) rfl))
  obtain ⟨D, hKc⟩ : ∃ D : va_G, ∀ (k : Nat) (q : vw_C), vwCl[k]? = some q → u_Kn s q.1 q.2.1 q.2.2 (D.1 k) (D.2 k) := by
    refine ⟨(fun k => [c0, c1, c2, c3, c4, c5, c6, c7, c8, c9, c10].getD k c0, fun k => [i0, i1, i2, i3, i4, i5, i6, i7, i8, i9, i10].getD k i0), ?_⟩
    intro k q hq
    match k, hq with
    | 0, hq => cases hq; exact k0
    | 1, hq => cases hq; exact k1
    | 2, hq => cases hq; exact k2
    | 3, hq => cases hq; exact k3
    | 4, hq => cases hq; exact k4
    | 5, hq => cases hq; exact k5
    | 6, hq => cases hq; exact k6
    | 7, hq => cases hq; exact k7
    | 8, hq => cases hq; exact k8
    | 9, hq => cases hq; exact k9
    | 10, hq => cases hq; exact k10
    | k + 11, hq => simp at hq
  obtain ⟨cI, f1, a1⟩ := arr_of (hts _ (List.mem_of_getElem? (i := 53) rfl))
  obtain ⟨cZ, f2, a2⟩ := arr_of (hts _ (List.mem_of_getElem? (i := 143) rfl))
  have hK : va_K D vwCl (tyZ cI cZ) s := by
    refine ⟨hKc, fun k q hq => ?_⟩
    match k, hq with
    | 0, hq => cases hq; exact ⟨a1, f1⟩
    | 1, hq => cases hq; exact ⟨a2, f2⟩
    | k + 2, hq => simp at hq
  have hN : xN s := xN_of hts0
  have hM : xM s := xM_of hts0
  have hS : va_S (lA s) s.heap s.heap [] := va_S.rf
  have hP : va_P D vwCl [] s.heap := fun k q h => by simp at h
  have hD : va_D (lA s) [] := ⟨fun i j p q h => by simp at h, fun k q h => by simp at h⟩
  have hl := lv_entry ([.ref b]) (n := 4) (Nat.le_of_ble_eq_true rfl)
  rw [lg_entry_eq]
  generalize (lg_sl ([.ref b]) ++ List.replicate (4 - (lg_sl ([.ref b])).length) Slot.unset).toArray = ls at hl ⊢
  have hl : lv_has ls 4 [(0, .ref b)] := hl
  refine va_new (ci := 9) (fs := [.null, .null, .null, .null, .null, .null, .null, .null, .null, .long 0]) (C := RX9) (T := TX9) (N := 10) hx hb hts inlX9 tyX9 tyX9_ok hown (hts _ (List.mem_of_getElem? (i := 0) rfl)) (hts _ (List.mem_of_getElem? (i := 1) rfl)) (hts _ (List.mem_of_getElem? (i := 2) rfl)) hK hP hD hS hA rfl (fun j hj => by rcases (show j = 0 ∨ j = 1 ∨ j = 2 ∨ j = 3 ∨ j = 4 ∨ j = 5 ∨ j = 6 ∨ j = 7 ∨ j = 8 ∨ j = 9 by omega) with rfl | rfl | rfl | rfl | rfl | rfl | rfl | rfl | rfl | rfl <;> rfl) (Nat.le_of_ble_eq_true rfl) (Nat.le_of_ble_eq_true rfl) dL_law_0 (fun q0 H hP hD hS => ?_)
  have hP : va_P D vwCl [(q0, .inr (9, [.null, .null, .null, .null, .null, .null, .null, .null, .null, .long 0]))] H := hP
  have hD : va_D (lA s) [(q0, .inr (9, [.null, .null, .null, .null, .null, .null, .null, .null, .null, .long 0]))] := hD
  refine lv_dup hx hb dL_law_3 rfl ?_
  have hDc := hD.sub (ws' := [(q0, .inr (9, [.null, .null, .null, .null, .null, .null, .null, .null, .null, .long 0]))]) [0] (by decide) rfl
  have hFc := va_free (wc := [(q0, .inr (9, [.null, .null, .null, .null, .null, .null, .null, .null, .null, .long 0]))]) hD hS hA [0] rfl
  refine va_callv (va_runI (As := []) (rest := [.ref q0]) ⟨hx, hb, hml, hown, hts⟩ (c_X9_init l D cI cZ q0 H.size) (cwI 0 hts gL_law_X9_init rfl rfl rfl (hts _ (List.mem_of_getElem? (i := 2) rfl)) (hts _ (List.mem_of_getElem? (i := 7) rfl)) (hts _ (List.mem_of_getElem? (i := 8) rfl)) rfl (by decide +kernel) ⟨Nat.le_of_ble_eq_true rfl, Nat.le_of_ble_eq_true rfl⟩) ⟨fun a U g mk q => ⟨q.1, q.2.1, q.2.2.1, va_K.moved (u := U) (U := U.calling g mk a) (Vm.Alike.refl U.vm) q.2.2.2.1, xN.same rfl q.2.2.2.2.1, xM.same rfl q.2.2.2.2.2.1, q.2.2.2.2.2.2⟩, fun U hU hW => ⟨rfl, by rw [hU], by rw [hU]; exact hP, va_K.moved hW.alike hK, hN.warm hW, hM.warm hW, hDc.weaken (fun _ _ _ _ => trivial)⟩⟩ rfl rfl hl.1 rfl (lv_room (Nat.le_of_ble_eq_true rfl)) dL_law_4 ⟨Nat.le_of_ble_eq_true rfl, Nat.le_of_ble_eq_true rfl⟩) hS (fun q _ h => hFc q h) hFc (fun aX t H1 locs ht hvm ha0 hB hz1 hk1 hS => ?_)
  obtain ⟨hP1, hD1⟩ := hB
  rw [ht] at hP1
  obtain ⟨hP, hD⟩ := va_join (wr := []) (w1 := wX cI cZ aX S01) hP hD [0] [] rfl rfl (by decide) (by decide) hk1 hFc hP1 hD1
  generalize H1 = H at hP hS ⊢
  have hP : va_P D vwCl (wX cI cZ aX S01) H := hP
  have hD : va_D (lA s) (wX cI cZ aX S01) := hD
  refine lv_astore_n (lv' := [(1, .ref q0), (0, .ref b)]) hx hb dL_law_7 rfl hl (by decide) rfl (fun ls hl => ?_)
  refine va_new (ci := 10) (fs := [.int 0, .null, .int 0, .int 0, .int 0, .int 0, .int 0, .null, .null, .null, .null, .null, .int 0, .null, .null, .null, .int 0, .null, .null, .int 0, .null, .null, .long 0, .int 0, .int 0, .null, .int 0, .int 0, .int 0, .int 0, .int 0]) (C := RX10) (T := TX10) (N := 31) hx hb hts inlX10 tyX10 tyX10_ok hown (hts _ (List.mem_of_getElem? (i := 3) rfl)) (hts _ (List.mem_of_getElem? (i := 4) rfl)) (hts _ (List.mem_of_getElem? (i := 5) rfl)) hK hP hD hS hA rfl (fun j hj => by rcases (show j = 0 ∨ j = 1 ∨ j = 2 ∨ j = 3 ∨ j = 4 ∨ j = 5 ∨ j = 6 ∨ j = 7 ∨ j = 8 ∨ j = 9 ∨ j = 10 ∨ j = 11 ∨ j = 12 ∨ j = 13 ∨ j = 14 ∨ j = 15 ∨ j = 16 ∨ j = 17 ∨ j = 18 ∨ j = 19 ∨ j = 20 ∨ j = 21 ∨ j = 22 ∨ j = 23 ∨ j = 24 ∨ j = 25 ∨ j = 26 ∨ j = 27 ∨ j = 28 ∨ j = 29 ∨ j = 30 by omega) with rfl | rfl | rfl | rfl | rfl | rfl | rfl | rfl | rfl | rfl | rfl | rfl | rfl | rfl | rfl | rfl | rfl | rfl | rfl | rfl | rfl | rfl | rfl | rfl | rfl | rfl | rfl | rfl | rfl | rfl | rfl <;> rfl) (Nat.le_of_ble_eq_true rfl) (Nat.le_of_ble_eq_true rfl) dL_law_8 (fun q8 H hP hD hS => ?_)
  refine lv_dup hx hb dL_law_11 rfl ?_
  have hPc := hP.sub (ws' := [(q8, .inr (10, [.int 0, .null, .int 0, .int 0, .int 0, .int 0, .int 0, .null, .null, .null, .null, .null, .int 0, .null, .null, .null, .int 0, .null, .null, .int 0, .null, .null, .long 0, .int 0, .int 0, .null, .int 0, .int 0, .int 0, .int 0, .int 0]))]) [21] rfl
  have hDc := hD.sub (ws' := [(q8, .inr (10, [.int 0, .null, .int 0, .int 0, .int 0, .int 0, .int 0, .null, .null, .null, .null, .null, .int 0, .null, .null, .null, .int 0, .null, .null, .int 0, .null, .null, .long 0, .int 0, .int 0, .null, .int 0, .int 0, .int 0, .int 0, .int 0]))]) [21] (by decide) rfl
  have hFc := va_free (wc := [(q8, .inr (10, [.int 0, .null, .int 0, .int 0, .int 0, .int 0, .int 0, .null, .null, .null, .null, .null, .int 0, .null, .null, .null, .int 0, .null, .null, .int 0, .null, .null, .long 0, .int 0, .int 0, .null, .int 0, .int 0, .int 0, .int 0, .int 0]))]) hD hS hA [21] rfl
  refine va_callv (va_runI (As := []) (rest := [.ref q8]) ⟨hx, hb, hml, hown, hts⟩ (c_X10_init l D cI cZ q8 H.size) (cwI 0 hts gL_law_X10_init rfl rfl rfl (hts _ (List.mem_of_getElem? (i := 5) rfl)) (hts _ (List.mem_of_getElem? (i := 128) rfl)) (hts _ (List.mem_of_getElem? (i := 129) rfl)) rfl (by decide +kernel) ⟨Nat.le_of_ble_eq_true rfl, Nat.le_of_ble_eq_true rfl⟩) ⟨iPc.blind, fun U hU hW => ⟨rfl, by rw [hU], by rw [hU]; exact hPc, va_K.moved hW.alike hK, hDc.weaken (fun _ _ _ _ => trivial)⟩⟩ rfl rfl hl.1 rfl (lv_room (Nat.le_of_ble_eq_true rfl)) dL_law_12 ⟨Nat.le_of_ble_eq_true rfl, Nat.le_of_ble_eq_true rfl⟩) hS (fun q _ h => hFc q h) hFc (fun u t H1 locs ht hvm hw hB hz1 hk1 hS => ?_)
  obtain ⟨hP1, hD1⟩ := hB
  rw [ht] at hP1
  obtain ⟨aM, haM⟩ : ∃ z : Nat → Nat, z = fun k => [q8, u 0, u 1, u 2, u 3, u 4, u 5, u 6, u 7, u 8, u 9, u 10, u 11, u 12, u 13].getD k 0 := ⟨_, rfl⟩
  obtain ⟨hP, hD⟩ := va_join (wr := wX cI cZ aX S01) (w1 := [(q8, .inr (10, [.int 0, .ref (u 0), .int 0, .int 0, .int (2 : Int32), .int 0, .int 0, .ref (u 1), .ref (u 2), .ref (u 3), .ref (u 4), .ref (u 5), .int 0, .ref (u 6), .ref (u 7), .ref (u 8), .int 0, .ref (u 9), .ref (u 10), .int 0, .ref (u 11), .ref (u 12), .long 0, .int 0, .int 0, .ref (u 13), .int 0, .int 0, .int 0, .int 0, .int 0])), ((u 0), .inl (cI, 40, .inl (fun _ => 0))), ((u 1), .inl (cI, 2, .inl (fun _ => 0))), ((u 2), .inl (cI, 8, .inl (fun _ => 0))), ((u 3), .inl (cI, 8, .inl (fun _ => 0))), ((u 4), .inl (cI, 8, .inl (fun _ => 0))), ((u 5), .inl (cI, 5, .inl (fun _ => 0))), ((u 6), .inl (cI, 24, .inl (fun _ => 0))), ((u 7), .inl (cI, 16, .inl (upd (fun _ => 0) 1 (2 : Int32)))), ((u 8), .inl (cI, 224, .inl (fun _ => 0))), ((u 9), .inl (cI, 32, .inl (fun _ => 0))), ((u 10), .inl (cZ, 2, .inl (fun _ => 0))), ((u 11), .inl (cI, 6, .inl (fun _ => 0))), ((u 12), .inl (cI, 6, .inl (fun _ => 0))), ((u 13), .inl (cI, 16, .inl (fun _ => 0)))]) hP hD [21] [0, 1, 2, 3, 4, 5, 6, 7, 8, 9, 10, 11, 12, 13, 14, 15, 16, 17, 18, 19, 20] rfl rfl (by decide) (by decide) hk1 hFc hP1 hD1
  generalize H1 = H at hP hS ⊢
  have hP : va_P D vwCl (wX cI cZ aX S01 ++ wM cI cZ aM M00) H := by rw [haM]; exact hP
  have hD : va_D (lA s) (wX cI cZ aX S01 ++ wM cI cZ aM M00) := by rw [haM]; exact hD
  have hPX : va_P D vwCl (wX cI cZ aX S01) H := hP.sub [0, 1, 2, 3, 4, 5, 6, 7, 8, 9, 10, 11, 12, 13, 14, 15, 16, 17, 18, 19, 20] rfl
  have hPM : va_P D vwCl (wM cI cZ aM M00) H := hP.sub [21, 22, 23, 24, 25, 26, 27, 28, 29, 30, 31, 32, 33, 34, 35] rfl
  obtain ⟨d1, d2, d3, d4⟩ := two_of hD
  have hq8 : q8 = aM 0 := by rw [haM]; rfl
  refine lv_astore_n (lv' := [(2, .ref q8), (1, .ref q0), (0, .ref b)]) hx hb dL_law_15 rfl hl (by decide) rfl (fun ls hl => ?_)
  refine lv_iconst (v := 0) hx hb dL_law_16 (by decide) ?_
  refine lv_istore_n (lv' := [(3, .int 0), (2, .ref q8), (1, .ref q0), (0, .ref b)]) hx hb dL_law_17 rfl hl (by decide) rfl (fun ls hl => ?_)
  have hl : lv_has ls 4 [(0, .ref b), (1, .ref q0), (2, .ref q8), (3, .int (nI 0))] := lv_sub hl [3, 2, 1, 0] rfl
  rw [hq8, ← ha0] at hl
  exact law_loop ⟨⟨hx, hb, hml, hown, hts⟩, hK, hN, ⟨hX, hbl, hL⟩, d1, d2, d3, d4⟩ hr hlocks L 0 (by omega) (by omega) H locs S01 M00 ls Inv00 hPX hPM hS hl
