/-! THE CLAIM OUT OF ONE WALK OF THE LAW'S BODY. Your part is whole_start (and what it stands on); all else here is the same for every law, but numbers. -/
def R_law : String := "TenArrowsLaw"
def lw_P (b : Addr) (xs : List Int32) (args : Array Value) (s : State) : Prop := args = #[.ref b] ∧ s.IntsAt b xs ∧ xs.length ≤ 256 ∧ (Jvm.Cond.and given_1 narrow_1).before args s = true
def lw_Q (_ : Array Value) (s : State) (o : Outcome) (t : State) : Prop := o = .returned (some (.int 1)) ∧ Framed s o t [] 36 836
def lw_Z (below : List Frame) (a : Array Value) (s : State) : State → Prop := fun t => ∃ o, t.status = .running ∧ Ended t below o ∧ lw_Q a s o t
/-- the law's own end, with 1 on the stack, nothing written that was there before, its room as the claim has it -/
theorem lw_ret {p : Program} {l : Launch} {e : Env} {s : State} {m : MethodId} {below : List Frame} {meth : Method} {c : Code} {b : Nat} (hx : p.tables.exec = Jvm.exec) (hb : c.code = code) (hr : meth.sig.returnType = ret) (hlocks : meth.locks = false) {pc : Nat} {H : Heap} {ls : Array Slot} (hdg : decode code pc = .ok (.ireturn, 1)) : W p l e room_1 s m #[Value.ref b] below meth c H [] 36 836 (lw_Z below #[Value.ref b] s) (F0 m pc ls [.int 1]) := by
  intro T hT X
  obtain ⟨fs, hret, hrun, hended, hW, hframe⟩ := X.leave (v := some (.int 1)) (hlocks := hlocks) (fun h => by rw [hr] at h; cases h)
  have hmeth' : T.vm.method? m = some meth := X.method'
  refine ⟨T.setFrames fs, ?_, .returned (some (.int 1)), hrun, hended, rfl, ⟨_, rfl⟩, hW, hframe⟩
  jvm_step X.here [X.here.top, hx, hb, hdg, hmeth', hr, ret, narrow_b1]
  (try refine ⟨rfl, ?_⟩); (try refine ⟨rfl, ?_⟩)
  first | (intro acts; rw [hret _ acts rfl rfl rfl]) | rw [hret _ _ rfl rfl rfl]
  exact Steps.refl _
/-- what holds at the law's entry: the machine, the code, the tables' words (any of lw_tbl by 'hts w (by decide +kernel)'), the script of L ints xs at the cell b, what the Statement gives of the start (any of its parts by flat_of_before) -/
def lw_At (p : Program) (s : State) (m : MethodId) (meth : Method) (c : Code) (b L : Nat) (xs : Nat → Int32) : Prop :=
  p.tables.exec = Jvm.exec ∧ c.code = code ∧ meth.sig.returnType = ret ∧ c.maxLocals = 4 ∧ s.vm.findClass R_law = some m.cls ∧ (∀ w ∈ lw_tbl, w.before #[Value.ref b] s = true) ∧ va_X b L xs s s.heap ∧ b < s.heap.size ∧ meth.locks = false ∧ (Jvm.Cond.and given_1 narrow_1).before #[Value.ref b] s = true
set_option maxHeartbeats 4000000 in
set_option maxRecDepth 100000 in
theorem law_step {p : Program} {l : Launch} {e : Env} {s : State} {m : MethodId} {below : List Frame} {meth : Method} {c : Code} {D : va_G} {cI cZ : ClassId} {b L : Nat} {xs : Nat → Int32} {aX aM : Nat → Nat} (C : lC p c s m #[Value.ref b] D cI cZ b L xs aX aM) (hr : meth.sig.returnType = ret) (hlk : meth.locks = false) {n : Nat} (hn : n ≤ 256) {H : Heap} {locs : List Loc} {S M : St} {ls : Array Slot} (hI : Inv S M) (hPX : va_P D vwCl (wX cI cZ aX S) H) (hPM : va_P D vwCl (wM cI cZ aM M) H) (hS : va_S (lA s) s.heap H locs) (hl : lv_has ls 4 [(0, .ref b), (1, .ref (aX 0)), (2, .ref (aM 0)), (3, .int (nI n))])
    (kk : n + 4 ≤ L → ∀ (H : Heap) (locs : List Loc) (S M : St) (ls : Array Slot), Inv S M → va_P D vwCl (wX cI cZ aX S) H → va_P D vwCl (wM cI cZ aM M) H → va_S (lA s) s.heap H locs → lv_has ls 4 [(0, .ref b), (1, .ref (aX 0)), (2, .ref (aM 0)), (3, .int (nI (n + 4)))] → W p l e room_1 s m #[Value.ref b] below meth c H locs 36 836 (lw_Z below #[Value.ref b] s) (F0 m 18 ls [])) : W p l e room_1 s m #[Value.ref b] below meth c H locs 36 836 (lw_Z below #[Value.ref b] s) (F0 m 18 ls []) := by
  obtain ⟨⟨hx, hb, hml, hown, hts⟩, hK, hN, ⟨hX, hbl, hL⟩, -⟩ := id C
  have hbA : ¬ lA s b := fun h => Nat.not_le_of_lt hbl h
  refine lv_iload_n hx hb dL_law_18 rfl (lv_at hl 3 rfl) ?_
  refine lv_aload_n hx hb dL_law_19 rfl (lv_at hl 0 rfl) ?_
  refine va_slen hx hb hX hbl hbA hS dL_law_20 ?_
  refine lv_iconst (v := 4) hx hb dL_law_21 (by decide) ?_
  refine lv_isub hx hb dL_law_22 ?_
  have e4 : (Int32.ofNat L - 4).toInt = (L : Int) - 4 := by
    have z : (4 : Int32).toInt = 4 := rfl
    have zL : (Int32.ofNat L).toInt = (L : Int) := nI_toInt (n := L) (by omega)
    rw [fb_subI (by rw [zL, z]; omega) (by rw [zL, z]; omega), zL, z]
  refine lv_icmp_gt (tgt := 1021) hx hb dL_law_23 (by decide) (fun c1 => ?_) (fun c1 => ?_)
  · refine lv_iconst (v := 1) hx hb dL_law_1021 (by decide) ?_
    exact va_forget hS.2.2 (lw_ret hx hb hr hlk dL_law_1022)
  have hn4 : n + 4 ≤ L := by
    rw [fa_lt, e4, nI_toInt (by omega)] at c1
    omega
  have kk := kk hn4
  refine lv_aload_n hx hb dL_law_26 rfl (lv_at hl 0 rfl) ?_
  refine lv_iload_n hx hb dL_law_27 rfl (lv_at hl 3 rfl) ?_
  refine va_sld hx hb hX hbl hbA hS (nI_in (by omega) (by omega)) dL_law_28 ?_
  refine lv_bipush (v := (63 : Int32)) hx hb dL_law_29 (by decide) ?_
  refine lv_iand hx hb dL_law_31 ?_
  refine lv_topi (fun x ex => ?_)
  have k2 : ∀ (H : Heap) (locs : List Loc) (S M : St), Inv S M → va_P D vwCl (wX cI cZ aX S) H → va_P D vwCl (wM cI cZ aM M) H → va_S (lA s) s.heap H locs → W p l e room_1 s m #[Value.ref b] below meth c H locs 36 836 (lw_Z below #[Value.ref b] s) (F0 m 1015 ls []) := by
    intro H locs S M hI hPX hPM hS
    refine lv_iinc (v := nI n + 4) (lv' := [(3, .int (nI n + 4)), (0, .ref b), (1, .ref (aX 0)), (2, .ref (aM 0))]) hx hb dL_law_1015 hl (k := 3) rfl rfl (Nat.le_of_ble_eq_true rfl) rfl (fun ls hl => ?_)
    refine lv_goto (tgt := 18) hx hb dL_law_1018 (by decide) ?_
    have hl : lv_has ls 4 [(0, .ref b), (1, .ref (aX 0)), (2, .ref (aM 0)), (3, .int (nI n + 4))] := lv_sub hl [1, 2, 3, 0] rfl
    rw [show nI n + 4 = nI (n + 4) from nI_add n 4] at hl
    exact kk H locs S M ls hI hPX hPM hS hl
  by_cases c0 : x = 0
  · exact lv_tableIn (tgt := 184) hx hb dL_law_32 (by rw [c0]; decide) (by rw [c0]; decide) (by rw [c0]; rfl) (by decide) (law_0 C hI hPX hPM hS hl hn4 k2)
  by_cases c1 : x = 1
  · exact lv_tableIn (tgt := 207) hx hb dL_law_32 (by rw [c1]; decide) (by rw [c1]; decide) (by rw [c1]; rfl) (by decide) (law_1 C hI hPX hPM hS hl hn4 k2)
  by_cases c2 : x = 2
  · exact lv_tableIn (tgt := 220) hx hb dL_law_32 (by rw [c2]; decide) (by rw [c2]; decide) (by rw [c2]; rfl) (by decide) (law_2 C hI hPX hPM hS hl hn4 k2)
  by_cases c3 : x = 3
  · exact lv_tableIn (tgt := 233) hx hb dL_law_32 (by rw [c3]; decide) (by rw [c3]; decide) (by rw [c3]; rfl) (by decide) (law_3 C hI hPX hPM hS hl hn4 k2)
  by_cases c4 : x = 4
  · exact lv_tableIn (tgt := 246) hx hb dL_law_32 (by rw [c4]; decide) (by rw [c4]; decide) (by rw [c4]; rfl) (by decide) (law_4 C hI hPX hPM hS hl hn4 k2)
  by_cases c5 : x = 5
  · exact lv_tableIn (tgt := 269) hx hb dL_law_32 (by rw [c5]; decide) (by rw [c5]; decide) (by rw [c5]; rfl) (by decide) (law_5 C hI hPX hPM hS hl hn4 k2)
  by_cases c6 : x = 6
  · exact lv_tableIn (tgt := 302) hx hb dL_law_32 (by rw [c6]; decide) (by rw [c6]; decide) (by rw [c6]; rfl) (by decide) (law_6 C hI hPX hPM hS hl hn4 k2)
  by_cases c7 : x = 7
  · exact lv_tableIn (tgt := 315) hx hb dL_law_32 (by rw [c7]; decide) (by rw [c7]; decide) (by rw [c7]; rfl) (by decide) (law_7 C hI hPX hPM hS hl hn4 k2)
  by_cases c8 : x = 8
  · exact lv_tableIn (tgt := 328) hx hb dL_law_32 (by rw [c8]; decide) (by rw [c8]; decide) (by rw [c8]; rfl) (by decide) (law_8 C hI hPX hPM hS hl hn4 k2)
  by_cases c9 : x = 9
  · exact lv_tableIn (tgt := 341) hx hb dL_law_32 (by rw [c9]; decide) (by rw [c9]; decide) (by rw [c9]; rfl) (by decide) (law_9 C hI hPX hPM hS hl hn4 k2)
  by_cases c10 : x = 10
  · exact lv_tableIn (tgt := 354) hx hb dL_law_32 (by rw [c10]; decide) (by rw [c10]; decide) (by rw [c10]; rfl) (by decide) (law_10 C hI hPX hPM hS hl hn4 k2)
  by_cases c11 : x = 11
  · exact lv_tableIn (tgt := 377) hx hb dL_law_32 (by rw [c11]; decide) (by rw [c11]; decide) (by rw [c11]; rfl) (by decide) (law_11 C hI hPX hPM hS hl hn4 k2)
  by_cases c12 : x = 12
  · exact lv_tableIn (tgt := 390) hx hb dL_law_32 (by rw [c12]; decide) (by rw [c12]; decide) (by rw [c12]; rfl) (by decide) (law_12 C hI hPX hPM hS hl hn4 k2)
  by_cases c13 : x = 13
  · exact lv_tableIn (tgt := 403) hx hb dL_law_32 (by rw [c13]; decide) (by rw [c13]; decide) (by rw [c13]; rfl) (by decide) (law_13 C hI hPX hPM hS hl hn4 k2)
  by_cases c14 : x = 14
  · exact lv_tableIn (tgt := 426) hx hb dL_law_32 (by rw [c14]; decide) (by rw [c14]; decide) (by rw [c14]; rfl) (by decide) (law_14 C hI hPX hPM hS hl hn4 k2)
  by_cases c15 : x = 15
  · exact lv_tableIn (tgt := 439) hx hb dL_law_32 (by rw [c15]; decide) (by rw [c15]; decide) (by rw [c15]; rfl) (by decide) (law_15 C hI hPX hPM hS hl hn4 k2)
  by_cases c16 : x = 16
  · exact lv_tableIn (tgt := 452) hx hb dL_law_32 (by rw [c16]; decide) (by rw [c16]; decide) (by rw [c16]; rfl) (by decide) (law_16 C hI hPX hPM hS hl hn4 k2)
  by_cases c17 : x = 17
  · exact lv_tableIn (tgt := 465) hx hb dL_law_32 (by rw [c17]; decide) (by rw [c17]; decide) (by rw [c17]; rfl) (by decide) (law_17 C hI hPX hPM hS hl hn4 k2)
  by_cases c18 : x = 18
  · exact lv_tableIn (tgt := 498) hx hb dL_law_32 (by rw [c18]; decide) (by rw [c18]; decide) (by rw [c18]; rfl) (by decide) (law_18 C hI hPX hPM hS hl hn4 k2)
  by_cases c19 : x = 19
  · exact lv_tableIn (tgt := 531) hx hb dL_law_32 (by rw [c19]; decide) (by rw [c19]; decide) (by rw [c19]; rfl) (by decide) (law_19 C hI hPX hPM hS hl hn4 k2)
  by_cases c20 : x = 20
  · exact lv_tableIn (tgt := 554) hx hb dL_law_32 (by rw [c20]; decide) (by rw [c20]; decide) (by rw [c20]; rfl) (by decide) (law_20 C hI hPX hPM hS hl hn4 k2)
  by_cases c21 : x = 21
  · exact lv_tableIn (tgt := 613) hx hb dL_law_32 (by rw [c21]; decide) (by rw [c21]; decide) (by rw [c21]; rfl) (by decide) (law_21 C hI hPX hPM hS hl hn4 k2)
  by_cases c22 : x = 22
  · exact lv_tableIn (tgt := 662) hx hb dL_law_32 (by rw [c22]; decide) (by rw [c22]; decide) (by rw [c22]; rfl) (by decide) (law_22 C hI hPX hPM hS hl hn4 k2)
  by_cases c23 : x = 23
  · exact lv_tableIn (tgt := 685) hx hb dL_law_32 (by rw [c23]; decide) (by rw [c23]; decide) (by rw [c23]; rfl) (by decide) (law_23 C hI hPX hPM hS hl hn4 k2)
  by_cases c24 : x = 24
  · exact lv_tableIn (tgt := 718) hx hb dL_law_32 (by rw [c24]; decide) (by rw [c24]; decide) (by rw [c24]; rfl) (by decide) (law_24 C hI hPX hPM hS hl hn4 k2)
  by_cases c25 : x = 25
  · exact lv_tableIn (tgt := 731) hx hb dL_law_32 (by rw [c25]; decide) (by rw [c25]; decide) (by rw [c25]; rfl) (by decide) (law_25 C hI hPX hPM hS hl hn4 k2)
  by_cases c26 : x = 26
  · exact lv_tableIn (tgt := 764) hx hb dL_law_32 (by rw [c26]; decide) (by rw [c26]; decide) (by rw [c26]; rfl) (by decide) (law_26 C hI hPX hPM hS hl hn4 k2)
  by_cases c27 : x = 27
  · exact lv_tableIn (tgt := 777) hx hb dL_law_32 (by rw [c27]; decide) (by rw [c27]; decide) (by rw [c27]; rfl) (by decide) (law_27 C hI hPX hPM hS hl hn4 k2)
  by_cases c28 : x = 28
  · exact lv_tableIn (tgt := 800) hx hb dL_law_32 (by rw [c28]; decide) (by rw [c28]; decide) (by rw [c28]; rfl) (by decide) (law_28 C hI hPX hPM hS hl hn4 k2)
  by_cases c29 : x = 29
  · exact lv_tableIn (tgt := 833) hx hb dL_law_32 (by rw [c29]; decide) (by rw [c29]; decide) (by rw [c29]; rfl) (by decide) (law_29 C hI hPX hPM hS hl hn4 k2)
  by_cases c30 : x = 30
  · exact lv_tableIn (tgt := 892) hx hb dL_law_32 (by rw [c30]; decide) (by rw [c30]; decide) (by rw [c30]; rfl) (by decide) (law_30 C hI hPX hPM hS hl hn4 k2)
  by_cases c31 : x = 31
  · exact lv_tableIn (tgt := 946) hx hb dL_law_32 (by rw [c31]; decide) (by rw [c31]; decide) (by rw [c31]; rfl) (by decide) (law_31 C hI hPX hPM hS hl hn4 k2)
  by_cases c32 : x = 32
  · exact lv_tableIn (tgt := 969) hx hb dL_law_32 (by rw [c32]; decide) (by rw [c32]; decide) (by rw [c32]; rfl) (by decide) (law_32 C hI hPX hPM hS hl hn4 k2)
  by_cases c33 : x = 33
  · exact lv_tableIn (tgt := 992) hx hb dL_law_32 (by rw [c33]; decide) (by rw [c33]; decide) (by rw [c33]; rfl) (by decide) (law_33 C hI hPX hPM hS hl hn4 k2)
  refine lv_tableOut (tgt := 1015) hx hb dL_law_32 (by have q0 := lv_neT (a := 0) c0 (by decide); have q1 := lv_neT (a := 1) c1 (by decide); have q2 := lv_neT (a := 2) c2 (by decide); have q3 := lv_neT (a := 3) c3 (by decide); have q4 := lv_neT (a := 4) c4 (by decide); have q5 := lv_neT (a := 5) c5 (by decide); have q6 := lv_neT (a := 6) c6 (by decide); have q7 := lv_neT (a := 7) c7 (by decide); have q8 := lv_neT (a := 8) c8 (by decide); have q9 := lv_neT (a := 9) c9 (by decide); have q10 := lv_neT (a := 10) c10 (by decide); have q11 := lv_neT (a := 11) c11 (by decide); have q12 := lv_neT (a := 12) c12 (by decide); have q13 := lv_neT (a := 13) c13 (by decide); have q14 := lv_neT (a := 14) c14 (by decide); have q15 := lv_neT (a := 15) c15 (by decide); have q16 := lv_neT (a := 16) c16 (by decide); have q17 := lv_neT (a := 17) c17 (by decide); have q18 := lv_neT (a := 18) c18 (by decide); have q19 := lv_neT (a := 19) c19 (by decide); have q20 := lv_neT (a := 20) c20 (by decide); have q21 := lv_neT (a := 21) c21 (by decide); have q22 := lv_neT (a := 22) c22 (by decide); have q23 := lv_neT (a := 23) c23 (by decide); have q24 := lv_neT (a := 24) c24 (by decide); have q25 := lv_neT (a := 25) c25 (by decide); have q26 := lv_neT (a := 26) c26 (by decide); have q27 := lv_neT (a := 27) c27 (by decide); have q28 := lv_neT (a := 28) c28 (by decide); have q29 := lv_neT (a := 29) c29 (by decide); have q30 := lv_neT (a := 30) c30 (by decide); have q31 := lv_neT (a := 31) c31 (by decide); have q32 := lv_neT (a := 32) c32 (by decide); have q33 := lv_neT (a := 33) c33 (by decide); omega) (by decide) ?_
  exact k2 H locs S M hI hPX hPM hS
theorem law_loop {p : Program} {l : Launch} {e : Env} {s : State} {m : MethodId} {below : List Frame} {meth : Method} {c : Code} {D : va_G} {cI cZ : ClassId} {b L : Nat} {xs : Nat → Int32} {aX aM : Nat → Nat} (C : lC p c s m #[Value.ref b] D cI cZ b L xs aX aM) (hr : meth.sig.returnType = ret) (hlk : meth.locks = false) : ∀ (r n : Nat), L ≤ n + r → n ≤ 256 → ∀ (H : Heap) (locs : List Loc) (S M : St) (ls : Array Slot), Inv S M → va_P D vwCl (wX cI cZ aX S) H → va_P D vwCl (wM cI cZ aM M) H → va_S (lA s) s.heap H locs → lv_has ls 4 [(0, .ref b), (1, .ref (aX 0)), (2, .ref (aM 0)), (3, .int (nI n))] → W p l e room_1 s m #[Value.ref b] below meth c H locs 36 836 (lw_Z below #[Value.ref b] s) (F0 m 18 ls []) := by
  have hL : L ≤ 256 := C.2.2.2.1.2.2
  intro r
  induction r with
  | zero =>
    intro n h1 h2 H locs S M ls hI hPX hPM hS hl
    exact law_step C hr hlk h2 hI hPX hPM hS hl (fun h3 => absurd h3 (by omega))
  | succ r ih =>
    intro n h1 h2 H locs S M ls hI hPX hPM hS hl
    exact law_step C hr hlk h2 hI hPX hPM hS hl (fun h3 H locs S M ls a1 a2 a3 a4 a5 => ih (n + 4) (by omega) (by omega) H locs S M ls a1 a2 a3 a4 a5)
