section
variable {p : Program} {l : Launch} {e : Env} {R : Room} {s : State} {m : MethodId} {args : Array Value} {below : List Frame} {meth : Method} {c : Code} {H : Heap} {locs : List Loc} {cells slots : Nat} {Q : State → Prop} {pc : Nat} {ls : Array Slot} {rest : List Value} {cc : ByteArray} {nL : Nat} {own : String} {Ts : List Cond} {D : va_G} {cI cZ : ClassId} {a : Nat → Nat} {S : St} {H0 : Heap} {index : Nat}
theorem ldm_0 {i : Int32} {j : Nat} (C : tC p c s m args cc nL own Ts D cI cZ (wM cI cZ a) (mA a)) (hP : va_P D vwCl (wM cI cZ a S) H) (hj : i.toNatClampNeg = j) (hin : vp_in i 40) (hdg : decode cc pc = .ok (.iaload, 1)) (kk : W p l e R s m args below meth c H locs cells slots Q (F0 m (pc + 1) ls (.int (S.2.1 0 j) :: rest))) : W p l e R s m args below meth c H locs cells slots Q (F0 m pc ls (.int i :: .ref (a 1) :: rest)) := by
  subst hj
  exact va_iald C.1.1 C.1.2.1 C.2.1 hP 1 0 rfl rfl hin hdg kk
theorem stm_0 {i v : Int32} {j : Nat} (C : tC p c s m args cc nL own Ts D cI cZ (wM cI cZ a) (mA a)) (hP : va_P D vwCl (wM cI cZ a S) H) (hS : va_S (mA a) H0 H locs) (hj : i.toNatClampNeg = j) (hin : vp_in i 40) (hdg : decode cc pc = .ok (.iastore, 1)) (kk : ∀ (H1 : Heap) (locs1 : List Loc), va_P D vwCl (wM cI cZ a (sA S 0 j v)) H1 → va_S (mA a) H0 H1 locs1 → W p l e R s m args below meth c H1 locs1 cells slots Q (F0 m (pc + 1) ls rest)) : W p l e R s m args below meth c H locs cells slots Q (F0 m pc ls (.int v :: .int i :: .ref (a 1) :: rest)) := by
  subst hj
  exact va_iast C.1.1 C.1.2.1 C.2.1 hP (C.2.2.2 S) hS 1 0 rfl rfl hin hdg (fun H1 locs1 h1 _ h3 => kk H1 locs1 h1 h3)
theorem ldm_1 {i : Int32} {j : Nat} (C : tC p c s m args cc nL own Ts D cI cZ (wM cI cZ a) (mA a)) (hP : va_P D vwCl (wM cI cZ a S) H) (hj : i.toNatClampNeg = j) (hin : vp_in i 2) (hdg : decode cc pc = .ok (.iaload, 1)) (kk : W p l e R s m args below meth c H locs cells slots Q (F0 m (pc + 1) ls (.int (S.2.1 1 j) :: rest))) : W p l e R s m args below meth c H locs cells slots Q (F0 m pc ls (.int i :: .ref (a 2) :: rest)) := by
  subst hj
  exact va_iald C.1.1 C.1.2.1 C.2.1 hP 2 0 rfl rfl hin hdg kk
theorem stm_1 {i v : Int32} {j : Nat} (C : tC p c s m args cc nL own Ts D cI cZ (wM cI cZ a) (mA a)) (hP : va_P D vwCl (wM cI cZ a S) H) (hS : va_S (mA a) H0 H locs) (hj : i.toNatClampNeg = j) (hin : vp_in i 2) (hdg : decode cc pc = .ok (.iastore, 1)) (kk : ∀ (H1 : Heap) (locs1 : List Loc), va_P D vwCl (wM cI cZ a (sA S 1 j v)) H1 → va_S (mA a) H0 H1 locs1 → W p l e R s m args below meth c H1 locs1 cells slots Q (F0 m (pc + 1) ls rest)) : W p l e R s m args below meth c H locs cells slots Q (F0 m pc ls (.int v :: .int i :: .ref (a 2) :: rest)) := by
  subst hj
  exact va_iast C.1.1 C.1.2.1 C.2.1 hP (C.2.2.2 S) hS 2 0 rfl rfl hin hdg (fun H1 locs1 h1 _ h3 => kk H1 locs1 h1 h3)
theorem ldm_2 {i : Int32} {j : Nat} (C : tC p c s m args cc nL own Ts D cI cZ (wM cI cZ a) (mA a)) (hP : va_P D vwCl (wM cI cZ a S) H) (hj : i.toNatClampNeg = j) (hin : vp_in i 8) (hdg : decode cc pc = .ok (.iaload, 1)) (kk : W p l e R s m args below meth c H locs cells slots Q (F0 m (pc + 1) ls (.int (S.2.1 2 j) :: rest))) : W p l e R s m args below meth c H locs cells slots Q (F0 m pc ls (.int i :: .ref (a 3) :: rest)) := by
  subst hj
  exact va_iald C.1.1 C.1.2.1 C.2.1 hP 3 0 rfl rfl hin hdg kk
theorem stm_2 {i v : Int32} {j : Nat} (C : tC p c s m args cc nL own Ts D cI cZ (wM cI cZ a) (mA a)) (hP : va_P D vwCl (wM cI cZ a S) H) (hS : va_S (mA a) H0 H locs) (hj : i.toNatClampNeg = j) (hin : vp_in i 8) (hdg : decode cc pc = .ok (.iastore, 1)) (kk : ∀ (H1 : Heap) (locs1 : List Loc), va_P D vwCl (wM cI cZ a (sA S 2 j v)) H1 → va_S (mA a) H0 H1 locs1 → W p l e R s m args below meth c H1 locs1 cells slots Q (F0 m (pc + 1) ls rest)) : W p l e R s m args below meth c H locs cells slots Q (F0 m pc ls (.int v :: .int i :: .ref (a 3) :: rest)) := by
  subst hj
  exact va_iast C.1.1 C.1.2.1 C.2.1 hP (C.2.2.2 S) hS 3 0 rfl rfl hin hdg (fun H1 locs1 h1 _ h3 => kk H1 locs1 h1 h3)
theorem ldm_3 {i : Int32} {j : Nat} (C : tC p c s m args cc nL own Ts D cI cZ (wM cI cZ a) (mA a)) (hP : va_P D vwCl (wM cI cZ a S) H) (hj : i.toNatClampNeg = j) (hin : vp_in i 8) (hdg : decode cc pc = .ok (.iaload, 1)) (kk : W p l e R s m args below meth c H locs cells slots Q (F0 m (pc + 1) ls (.int (S.2.1 3 j) :: rest))) : W p l e R s m args below meth c H locs cells slots Q (F0 m pc ls (.int i :: .ref (a 4) :: rest)) := by
  subst hj
  exact va_iald C.1.1 C.1.2.1 C.2.1 hP 4 0 rfl rfl hin hdg kk
theorem stm_3 {i v : Int32} {j : Nat} (C : tC p c s m args cc nL own Ts D cI cZ (wM cI cZ a) (mA a)) (hP : va_P D vwCl (wM cI cZ a S) H) (hS : va_S (mA a) H0 H locs) (hj : i.toNatClampNeg = j) (hin : vp_in i 8) (hdg : decode cc pc = .ok (.iastore, 1)) (kk : ∀ (H1 : Heap) (locs1 : List Loc), va_P D vwCl (wM cI cZ a (sA S 3 j v)) H1 → va_S (mA a) H0 H1 locs1 → W p l e R s m args below meth c H1 locs1 cells slots Q (F0 m (pc + 1) ls rest)) : W p l e R s m args below meth c H locs cells slots Q (F0 m pc ls (.int v :: .int i :: .ref (a 4) :: rest)) := by
  subst hj
  exact va_iast C.1.1 C.1.2.1 C.2.1 hP (C.2.2.2 S) hS 4 0 rfl rfl hin hdg (fun H1 locs1 h1 _ h3 => kk H1 locs1 h1 h3)
theorem ldm_4 {i : Int32} {j : Nat} (C : tC p c s m args cc nL own Ts D cI cZ (wM cI cZ a) (mA a)) (hP : va_P D vwCl (wM cI cZ a S) H) (hj : i.toNatClampNeg = j) (hin : vp_in i 8) (hdg : decode cc pc = .ok (.iaload, 1)) (kk : W p l e R s m args below meth c H locs cells slots Q (F0 m (pc + 1) ls (.int (S.2.1 4 j) :: rest))) : W p l e R s m args below meth c H locs cells slots Q (F0 m pc ls (.int i :: .ref (a 5) :: rest)) := by
  subst hj
  exact va_iald C.1.1 C.1.2.1 C.2.1 hP 5 0 rfl rfl hin hdg kk
theorem stm_4 {i v : Int32} {j : Nat} (C : tC p c s m args cc nL own Ts D cI cZ (wM cI cZ a) (mA a)) (hP : va_P D vwCl (wM cI cZ a S) H) (hS : va_S (mA a) H0 H locs) (hj : i.toNatClampNeg = j) (hin : vp_in i 8) (hdg : decode cc pc = .ok (.iastore, 1)) (kk : ∀ (H1 : Heap) (locs1 : List Loc), va_P D vwCl (wM cI cZ a (sA S 4 j v)) H1 → va_S (mA a) H0 H1 locs1 → W p l e R s m args below meth c H1 locs1 cells slots Q (F0 m (pc + 1) ls rest)) : W p l e R s m args below meth c H locs cells slots Q (F0 m pc ls (.int v :: .int i :: .ref (a 5) :: rest)) := by
  subst hj
  exact va_iast C.1.1 C.1.2.1 C.2.1 hP (C.2.2.2 S) hS 5 0 rfl rfl hin hdg (fun H1 locs1 h1 _ h3 => kk H1 locs1 h1 h3)
theorem ldm_5 {i : Int32} {j : Nat} (C : tC p c s m args cc nL own Ts D cI cZ (wM cI cZ a) (mA a)) (hP : va_P D vwCl (wM cI cZ a S) H) (hj : i.toNatClampNeg = j) (hin : vp_in i 5) (hdg : decode cc pc = .ok (.iaload, 1)) (kk : W p l e R s m args below meth c H locs cells slots Q (F0 m (pc + 1) ls (.int (S.2.1 5 j) :: rest))) : W p l e R s m args below meth c H locs cells slots Q (F0 m pc ls (.int i :: .ref (a 6) :: rest)) := by
  subst hj
  exact va_iald C.1.1 C.1.2.1 C.2.1 hP 6 0 rfl rfl hin hdg kk
theorem stm_5 {i v : Int32} {j : Nat} (C : tC p c s m args cc nL own Ts D cI cZ (wM cI cZ a) (mA a)) (hP : va_P D vwCl (wM cI cZ a S) H) (hS : va_S (mA a) H0 H locs) (hj : i.toNatClampNeg = j) (hin : vp_in i 5) (hdg : decode cc pc = .ok (.iastore, 1)) (kk : ∀ (H1 : Heap) (locs1 : List Loc), va_P D vwCl (wM cI cZ a (sA S 5 j v)) H1 → va_S (mA a) H0 H1 locs1 → W p l e R s m args below meth c H1 locs1 cells slots Q (F0 m (pc + 1) ls rest)) : W p l e R s m args below meth c H locs cells slots Q (F0 m pc ls (.int v :: .int i :: .ref (a 6) :: rest)) := by
  subst hj
  exact va_iast C.1.1 C.1.2.1 C.2.1 hP (C.2.2.2 S) hS 6 0 rfl rfl hin hdg (fun H1 locs1 h1 _ h3 => kk H1 locs1 h1 h3)
theorem ldm_6 {i : Int32} {j : Nat} (C : tC p c s m args cc nL own Ts D cI cZ (wM cI cZ a) (mA a)) (hP : va_P D vwCl (wM cI cZ a S) H) (hj : i.toNatClampNeg = j) (hin : vp_in i 24) (hdg : decode cc pc = .ok (.iaload, 1)) (kk : W p l e R s m args below meth c H locs cells slots Q (F0 m (pc + 1) ls (.int (S.2.1 6 j) :: rest))) : W p l e R s m args below meth c H locs cells slots Q (F0 m pc ls (.int i :: .ref (a 7) :: rest)) := by
  subst hj
  exact va_iald C.1.1 C.1.2.1 C.2.1 hP 7 0 rfl rfl hin hdg kk
theorem stm_6 {i v : Int32} {j : Nat} (C : tC p c s m args cc nL own Ts D cI cZ (wM cI cZ a) (mA a)) (hP : va_P D vwCl (wM cI cZ a S) H) (hS : va_S (mA a) H0 H locs) (hj : i.toNatClampNeg = j) (hin : vp_in i 24) (hdg : decode cc pc = .ok (.iastore, 1)) (kk : ∀ (H1 : Heap) (locs1 : List Loc), va_P D vwCl (wM cI cZ a (sA S 6 j v)) H1 → va_S (mA a) H0 H1 locs1 → W p l e R s m args below meth c H1 locs1 cells slots Q (F0 m (pc + 1) ls rest)) : W p l e R s m args below meth c H locs cells slots Q (F0 m pc ls (.int v :: .int i :: .ref (a 7) :: rest)) := by
  subst hj
  exact va_iast C.1.1 C.1.2.1 C.2.1 hP (C.2.2.2 S) hS 7 0 rfl rfl hin hdg (fun H1 locs1 h1 _ h3 => kk H1 locs1 h1 h3)
theorem ldm_7 {i : Int32} {j : Nat} (C : tC p c s m args cc nL own Ts D cI cZ (wM cI cZ a) (mA a)) (hP : va_P D vwCl (wM cI cZ a S) H) (hj : i.toNatClampNeg = j) (hin : vp_in i 16) (hdg : decode cc pc = .ok (.iaload, 1)) (kk : W p l e R s m args below meth c H locs cells slots Q (F0 m (pc + 1) ls (.int (S.2.1 7 j) :: rest))) : W p l e R s m args below meth c H locs cells slots Q (F0 m pc ls (.int i :: .ref (a 8) :: rest)) := by
  subst hj
  exact va_iald C.1.1 C.1.2.1 C.2.1 hP 8 0 rfl rfl hin hdg kk
theorem stm_7 {i v : Int32} {j : Nat} (C : tC p c s m args cc nL own Ts D cI cZ (wM cI cZ a) (mA a)) (hP : va_P D vwCl (wM cI cZ a S) H) (hS : va_S (mA a) H0 H locs) (hj : i.toNatClampNeg = j) (hin : vp_in i 16) (hdg : decode cc pc = .ok (.iastore, 1)) (kk : ∀ (H1 : Heap) (locs1 : List Loc), va_P D vwCl (wM cI cZ a (sA S 7 j v)) H1 → va_S (mA a) H0 H1 locs1 → W p l e R s m args below meth c H1 locs1 cells slots Q (F0 m (pc + 1) ls rest)) : W p l e R s m args below meth c H locs cells slots Q (F0 m pc ls (.int v :: .int i :: .ref (a 8) :: rest)) := by
  subst hj
  exact va_iast C.1.1 C.1.2.1 C.2.1 hP (C.2.2.2 S) hS 8 0 rfl rfl hin hdg (fun H1 locs1 h1 _ h3 => kk H1 locs1 h1 h3)
theorem ldm_8 {i : Int32} {j : Nat} (C : tC p c s m args cc nL own Ts D cI cZ (wM cI cZ a) (mA a)) (hP : va_P D vwCl (wM cI cZ a S) H) (hj : i.toNatClampNeg = j) (hin : vp_in i 224) (hdg : decode cc pc = .ok (.iaload, 1)) (kk : W p l e R s m args below meth c H locs cells slots Q (F0 m (pc + 1) ls (.int (S.2.1 8 j) :: rest))) : W p l e R s m args below meth c H locs cells slots Q (F0 m pc ls (.int i :: .ref (a 9) :: rest)) := by
  subst hj
  exact va_iald C.1.1 C.1.2.1 C.2.1 hP 9 0 rfl rfl hin hdg kk
theorem stm_8 {i v : Int32} {j : Nat} (C : tC p c s m args cc nL own Ts D cI cZ (wM cI cZ a) (mA a)) (hP : va_P D vwCl (wM cI cZ a S) H) (hS : va_S (mA a) H0 H locs) (hj : i.toNatClampNeg = j) (hin : vp_in i 224) (hdg : decode cc pc = .ok (.iastore, 1)) (kk : ∀ (H1 : Heap) (locs1 : List Loc), va_P D vwCl (wM cI cZ a (sA S 8 j v)) H1 → va_S (mA a) H0 H1 locs1 → W p l e R s m args below meth c H1 locs1 cells slots Q (F0 m (pc + 1) ls rest)) : W p l e R s m args below meth c H locs cells slots Q (F0 m pc ls (.int v :: .int i :: .ref (a 9) :: rest)) := by
  subst hj
  exact va_iast C.1.1 C.1.2.1 C.2.1 hP (C.2.2.2 S) hS 9 0 rfl rfl hin hdg (fun H1 locs1 h1 _ h3 => kk H1 locs1 h1 h3)
theorem ldm_9 {i : Int32} {j : Nat} (C : tC p c s m args cc nL own Ts D cI cZ (wM cI cZ a) (mA a)) (hP : va_P D vwCl (wM cI cZ a S) H) (hj : i.toNatClampNeg = j) (hin : vp_in i 32) (hdg : decode cc pc = .ok (.iaload, 1)) (kk : W p l e R s m args below meth c H locs cells slots Q (F0 m (pc + 1) ls (.int (S.2.1 9 j) :: rest))) : W p l e R s m args below meth c H locs cells slots Q (F0 m pc ls (.int i :: .ref (a 10) :: rest)) := by
  subst hj
  exact va_iald C.1.1 C.1.2.1 C.2.1 hP 10 0 rfl rfl hin hdg kk
theorem stm_9 {i v : Int32} {j : Nat} (C : tC p c s m args cc nL own Ts D cI cZ (wM cI cZ a) (mA a)) (hP : va_P D vwCl (wM cI cZ a S) H) (hS : va_S (mA a) H0 H locs) (hj : i.toNatClampNeg = j) (hin : vp_in i 32) (hdg : decode cc pc = .ok (.iastore, 1)) (kk : ∀ (H1 : Heap) (locs1 : List Loc), va_P D vwCl (wM cI cZ a (sA S 9 j v)) H1 → va_S (mA a) H0 H1 locs1 → W p l e R s m args below meth c H1 locs1 cells slots Q (F0 m (pc + 1) ls rest)) : W p l e R s m args below meth c H locs cells slots Q (F0 m pc ls (.int v :: .int i :: .ref (a 10) :: rest)) := by
  subst hj
  exact va_iast C.1.1 C.1.2.1 C.2.1 hP (C.2.2.2 S) hS 10 0 rfl rfl hin hdg (fun H1 locs1 h1 _ h3 => kk H1 locs1 h1 h3)
theorem ldm_10 {i : Int32} {j : Nat} (C : tC p c s m args cc nL own Ts D cI cZ (wM cI cZ a) (mA a)) (hP : va_P D vwCl (wM cI cZ a S) H) (hj : i.toNatClampNeg = j) (hin : vp_in i 2) (hdg : decode cc pc = .ok (.baload, 1)) (kk : W p l e R s m args below meth c H locs cells slots Q (F0 m (pc + 1) ls (.int (S.2.1 10 j) :: rest))) : W p l e R s m args below meth c H locs cells slots Q (F0 m pc ls (.int i :: .ref (a 11) :: rest)) := by
  subst hj
  exact va_zald C.1.1 C.1.2.1 C.2.1 hP 11 1 rfl rfl hin hdg kk
theorem stm_10 {i v : Int32} {j : Nat} (C : tC p c s m args cc nL own Ts D cI cZ (wM cI cZ a) (mA a)) (hP : va_P D vwCl (wM cI cZ a S) H) (hS : va_S (mA a) H0 H locs) (hj : i.toNatClampNeg = j) (hin : vp_in i 2) (hz : vp_nar .boolean v = v) (hdg : decode cc pc = .ok (.bastore, 1)) (kk : ∀ (H1 : Heap) (locs1 : List Loc), va_P D vwCl (wM cI cZ a (sA S 10 j v)) H1 → va_S (mA a) H0 H1 locs1 → W p l e R s m args below meth c H1 locs1 cells slots Q (F0 m (pc + 1) ls rest)) : W p l e R s m args below meth c H locs cells slots Q (F0 m pc ls (.int v :: .int i :: .ref (a 11) :: rest)) := by
  subst hj
  exact va_zast C.1.1 C.1.2.1 C.2.1 hP (C.2.2.2 S) hS 11 1 rfl rfl hin hdg (fun H1 locs1 h1 _ h3 => kk H1 locs1 (by rw [hz] at h1; exact h1) h3)
theorem ldm_11 {i : Int32} {j : Nat} (C : tC p c s m args cc nL own Ts D cI cZ (wM cI cZ a) (mA a)) (hP : va_P D vwCl (wM cI cZ a S) H) (hj : i.toNatClampNeg = j) (hin : vp_in i 6) (hdg : decode cc pc = .ok (.iaload, 1)) (kk : W p l e R s m args below meth c H locs cells slots Q (F0 m (pc + 1) ls (.int (S.2.1 11 j) :: rest))) : W p l e R s m args below meth c H locs cells slots Q (F0 m pc ls (.int i :: .ref (a 12) :: rest)) := by
  subst hj
  exact va_iald C.1.1 C.1.2.1 C.2.1 hP 12 0 rfl rfl hin hdg kk
theorem stm_11 {i v : Int32} {j : Nat} (C : tC p c s m args cc nL own Ts D cI cZ (wM cI cZ a) (mA a)) (hP : va_P D vwCl (wM cI cZ a S) H) (hS : va_S (mA a) H0 H locs) (hj : i.toNatClampNeg = j) (hin : vp_in i 6) (hdg : decode cc pc = .ok (.iastore, 1)) (kk : ∀ (H1 : Heap) (locs1 : List Loc), va_P D vwCl (wM cI cZ a (sA S 11 j v)) H1 → va_S (mA a) H0 H1 locs1 → W p l e R s m args below meth c H1 locs1 cells slots Q (F0 m (pc + 1) ls rest)) : W p l e R s m args below meth c H locs cells slots Q (F0 m pc ls (.int v :: .int i :: .ref (a 12) :: rest)) := by
  subst hj
  exact va_iast C.1.1 C.1.2.1 C.2.1 hP (C.2.2.2 S) hS 12 0 rfl rfl hin hdg (fun H1 locs1 h1 _ h3 => kk H1 locs1 h1 h3)
theorem ldm_12 {i : Int32} {j : Nat} (C : tC p c s m args cc nL own Ts D cI cZ (wM cI cZ a) (mA a)) (hP : va_P D vwCl (wM cI cZ a S) H) (hj : i.toNatClampNeg = j) (hin : vp_in i 6) (hdg : decode cc pc = .ok (.iaload, 1)) (kk : W p l e R s m args below meth c H locs cells slots Q (F0 m (pc + 1) ls (.int (S.2.1 12 j) :: rest))) : W p l e R s m args below meth c H locs cells slots Q (F0 m pc ls (.int i :: .ref (a 13) :: rest)) := by
  subst hj
  exact va_iald C.1.1 C.1.2.1 C.2.1 hP 13 0 rfl rfl hin hdg kk
theorem stm_12 {i v : Int32} {j : Nat} (C : tC p c s m args cc nL own Ts D cI cZ (wM cI cZ a) (mA a)) (hP : va_P D vwCl (wM cI cZ a S) H) (hS : va_S (mA a) H0 H locs) (hj : i.toNatClampNeg = j) (hin : vp_in i 6) (hdg : decode cc pc = .ok (.iastore, 1)) (kk : ∀ (H1 : Heap) (locs1 : List Loc), va_P D vwCl (wM cI cZ a (sA S 12 j v)) H1 → va_S (mA a) H0 H1 locs1 → W p l e R s m args below meth c H1 locs1 cells slots Q (F0 m (pc + 1) ls rest)) : W p l e R s m args below meth c H locs cells slots Q (F0 m pc ls (.int v :: .int i :: .ref (a 13) :: rest)) := by
  subst hj
  exact va_iast C.1.1 C.1.2.1 C.2.1 hP (C.2.2.2 S) hS 13 0 rfl rfl hin hdg (fun H1 locs1 h1 _ h3 => kk H1 locs1 h1 h3)
theorem ldm_13 {i : Int32} {j : Nat} (C : tC p c s m args cc nL own Ts D cI cZ (wM cI cZ a) (mA a)) (hP : va_P D vwCl (wM cI cZ a S) H) (hj : i.toNatClampNeg = j) (hin : vp_in i 16) (hdg : decode cc pc = .ok (.iaload, 1)) (kk : W p l e R s m args below meth c H locs cells slots Q (F0 m (pc + 1) ls (.int (S.2.1 13 j) :: rest))) : W p l e R s m args below meth c H locs cells slots Q (F0 m pc ls (.int i :: .ref (a 14) :: rest)) := by
  subst hj
  exact va_iald C.1.1 C.1.2.1 C.2.1 hP 14 0 rfl rfl hin hdg kk
theorem stm_13 {i v : Int32} {j : Nat} (C : tC p c s m args cc nL own Ts D cI cZ (wM cI cZ a) (mA a)) (hP : va_P D vwCl (wM cI cZ a S) H) (hS : va_S (mA a) H0 H locs) (hj : i.toNatClampNeg = j) (hin : vp_in i 16) (hdg : decode cc pc = .ok (.iastore, 1)) (kk : ∀ (H1 : Heap) (locs1 : List Loc), va_P D vwCl (wM cI cZ a (sA S 13 j v)) H1 → va_S (mA a) H0 H1 locs1 → W p l e R s m args below meth c H1 locs1 cells slots Q (F0 m (pc + 1) ls rest)) : W p l e R s m args below meth c H locs cells slots Q (F0 m pc ls (.int v :: .int i :: .ref (a 14) :: rest)) := by
  subst hj
  exact va_iast C.1.1 C.1.2.1 C.2.1 hP (C.2.2.2 S) hS 14 0 rfl rfl hin hdg (fun H1 locs1 h1 _ h3 => kk H1 locs1 h1 h3)
end
