set_option maxHeartbeats 4000000 in
set_option maxRecDepth 100000 in
theorem c_X5_undo_0 (l : Launch) (D : va_G) (K : Nat → ClassId) (oM : Nat) (aS : Nat) (aA : Nat) (aB : Nat) (aT : Nat) (aV : Nat) (aP : Nat) (fS : Nat → Int32) (fA : Nat → Int32) (fB : Nat → Int32) (fT : Nat → Int32) (fV : Nat → Int32) (fP : Nat → Int32) (ln : Nat) (pl : Int32) (wr : Int32) (le : Int32) (on : Int32) (tw : Int32)  : Met l yX5_undo wsX5_undo ({ frames := 0, cells := 0, slots := 0, locals := 0 }) (va_Pc [.ref oM] (fun U => Bd D K U ∧ va_P D vwCl [(oM, .inr (5, [.ref aS, .ref aA, .ref aB, .int 0, .ref aT, .ref aV, .ref aP, .int (nI ln), .int pl, .int wr, .int le, .int on, .int tw])), (aS, .inl (K 0, 360, .inl fS)), (aA, .inl (K 0, 360, .inl fA)), (aB, .inl (K 0, 2160, .inl fB)), (aT, .inl (K 0, 720, .inl fT)), (aV, .inl (K 2, 2, .inl fV)), (aP, .inl (K 0, 80, .inl fP))] U.heap ∧ va_D (fun _ => True) [(oM, .inr (5, [.ref aS, .ref aA, .ref aB, .int 0, .ref aT, .ref aV, .ref aP, .int (nI ln), .int pl, .int wr, .int le, .int on, .int tw])), (aS, .inl (K 0, 360, .inl fS)), (aA, .inl (K 0, 360, .inl fA)), (aB, .inl (K 0, 2160, .inl fB)), (aT, .inl (K 0, 720, .inl fT)), (aV, .inl (K 2, 2, .inl fV)), (aP, .inl (K 0, 80, .inl fP))])) (va_Qi (fun r (_ : Unit) => r = (-5)) (fun _ t => va_P D vwCl [(oM, .inr (5, [.ref aS, .ref aA, .ref aB, .int 0, .ref aT, .ref aV, .ref aP, .int (nI ln), .int pl, .int wr, .int le, .int on, .int tw])), (aS, .inl (K 0, 360, .inl fS)), (aA, .inl (K 0, 360, .inl fA)), (aB, .inl (K 0, 2160, .inl fB)), (aT, .inl (K 0, 720, .inl fT)), (aV, .inl (K 2, 2, .inl fV)), (aP, .inl (K 0, 80, .inl fP))] t.heap) (inW [(oM, .inr (5, [.ref aS, .ref aA, .ref aB, .int 0, .ref aT, .ref aV, .ref aP, .int (nI ln), .int pl, .int wr, .int le, .int on, .int tw])), (aS, .inl (K 0, 360, .inl fS)), (aA, .inl (K 0, 360, .inl fA)), (aB, .inl (K 0, 2160, .inl fB)), (aT, .inl (K 0, 720, .inl fT)), (aV, .inl (K 2, 2, .inl fV)), (aP, .inl (K 0, 80, .inl fP))])) 0 0 (inW [(oM, .inr (5, [.ref aS, .ref aA, .ref aB, .int 0, .ref aT, .ref aV, .ref aP, .int (nI ln), .int pl, .int wr, .int le, .int on, .int tw])), (aS, .inl (K 0, 360, .inl fS)), (aA, .inl (K 0, 360, .inl fA)), (aB, .inl (K 0, 2160, .inl fB)), (aT, .inl (K 0, 720, .inl fT)), (aV, .inl (K 2, 2, .inl fV)), (aP, .inl (K 0, 80, .inl fP))]) := by
  refine Met.ofW (cc := cX5_undo) (maxL := 2) (ret := (some .int)) (by decide) rfl ?_
  intro p e s m args below meth c s₁ B hml hv
  obtain ⟨rfl, hbd, hP, hD0⟩ := hv
  have hx := B.exec
  have hb := B.bytes
  have hr := B.returns
  have hts := atoms_spec (ws := wsX5_undo) B.pre
  have hown : s.vm.findClass RX5 = some m.cls := findClass_of_methodNamed B.named
  have hlocks := B.notSynchronized
  have hK := hbd.2
  have hP : va_P D vwCl [(oM, .inr (5, [.ref aS, .ref aA, .ref aB, .int 0, .ref aT, .ref aV, .ref aP, .int (nI ln), .int pl, .int wr, .int le, .int on, .int tw])), (aS, .inl (K 0, 360, .inl fS)), (aA, .inl (K 0, 360, .inl fA)), (aB, .inl (K 0, 2160, .inl fB)), (aT, .inl (K 0, 720, .inl fT)), (aV, .inl (K 2, 2, .inl fV)), (aP, .inl (K 0, 80, .inl fP))] s.heap := hP
  have hin5 : ∀ w ∈ wsX50, w ∈ wsX5_undo := by decide +kernel
  have hD := hD0.own
  generalize hAe : inW [(oM, .inr (5, [.ref aS, .ref aA, .ref aB, .int 0, .ref aT, .ref aV, .ref aP, .int (nI ln), .int pl, .int wr, .int le, .int on, .int tw])), (aS, .inl (K 0, 360, .inl fS)), (aA, .inl (K 0, 360, .inl fA)), (aB, .inl (K 0, 2160, .inl fB)), (aT, .inl (K 0, 720, .inl fT)), (aV, .inl (K 2, 2, .inl fV)), (aP, .inl (K 0, 80, .inl fP))] = A at hD ⊢
  have hS : va_S A s.heap s.heap [] := va_S.rf
  have hl := lv_entry ([.ref oM]) (n := 2) (Nat.le_of_ble_eq_true rfl)
  rw [lg_entry_eq]
  generalize (lg_sl ([.ref oM]) ++ List.replicate (2 - (lg_sl ([.ref oM])).length) Slot.unset).toArray = ls at hl ⊢
  have hl : lv_has ls 2 [(0, .ref oM)] := hl
  have K0 : ∀ (H : Heap) (locs : List Loc) (ls : Array Slot), va_P D vwCl [(oM, .inr (5, [.ref aS, .ref aA, .ref aB, .int 0, .ref aT, .ref aV, .ref aP, .int (nI ln), .int pl, .int wr, .int le, .int on, .int tw])), (aS, .inl (K 0, 360, .inl fS)), (aA, .inl (K 0, 360, .inl fA)), (aB, .inl (K 0, 2160, .inl fB)), (aT, .inl (K 0, 720, .inl fT)), (aV, .inl (K 2, 2, .inl fV)), (aP, .inl (K 0, 80, .inl fP))] H → va_D A [(oM, .inr (5, [.ref aS, .ref aA, .ref aB, .int 0, .ref aT, .ref aV, .ref aP, .int (nI ln), .int pl, .int wr, .int le, .int on, .int tw])), (aS, .inl (K 0, 360, .inl fS)), (aA, .inl (K 0, 360, .inl fA)), (aB, .inl (K 0, 2160, .inl fB)), (aT, .inl (K 0, 720, .inl fT)), (aV, .inl (K 2, 2, .inl fV)), (aP, .inl (K 0, 80, .inl fP))] → va_S A s.heap H locs → lv_has ls 2 [(0, .ref oM)] → W p l e (headSpec wsX5_undo ({ frames := 0, cells := 0, slots := 0, locals := 0 })).room s m ([.ref oM] : List Value).toArray below meth c H locs 0 0 (MQ below (va_Qi (fun r (_ : Unit) => r = (-5)) (fun _ t => va_P D vwCl [(oM, .inr (5, [.ref aS, .ref aA, .ref aB, .int 0, .ref aT, .ref aV, .ref aP, .int (nI ln), .int pl, .int wr, .int le, .int on, .int tw])), (aS, .inl (K 0, 360, .inl fS)), (aA, .inl (K 0, 360, .inl fA)), (aB, .inl (K 0, 2160, .inl fB)), (aT, .inl (K 0, 720, .inl fT)), (aV, .inl (K 2, 2, .inl fV)), (aP, .inl (K 0, 80, .inl fP))] t.heap) A) ([.ref oM] : List Value).toArray s 0 0 A) (F0 m 0 ls []) := by
    intro H locs ls hP hD hS hl
    refine lv_aload_n hx hb dX5_undo_0 rfl (lv_at hl 0 rfl) ?_
    refine va_get (D := D) (ci := 5) (v := .int 0) (C := RX5) (T := TX5) (N := 13) hx hb hts hin5 hown hK hP 0 rfl rfl 3 (by decide) (hts _ (List.mem_of_getElem? (i := 1) rfl)) (fun _ h9 => h9) rfl dX5_undo_1 ?_
    refine lv_if_ne (tgt := 10) hx hb dX5_undo_4 (by decide) (fun h_1 => absurd (by decide) h_1) (fun _ => ?_)
    refine lv_bipush (v := (-5)) hx hb dX5_undo_7 (by decide) ?_
    have hPf : va_P D vwCl [(oM, .inr (5, [.ref aS, .ref aA, .ref aB, .int 0, .ref aT, .ref aV, .ref aP, .int (nI ln), .int pl, .int wr, .int le, .int on, .int tw])), (aS, .inl (K 0, 360, .inl fS)), (aA, .inl (K 0, 360, .inl fA)), (aB, .inl (K 0, 2160, .inl fB)), (aT, .inl (K 0, 720, .inl fT)), (aV, .inl (K 2, 2, .inl fV)), (aP, .inl (K 0, 80, .inl fP))] H := hP
    exact W.iret hx hb hr (fun t ht hW => ⟨⟨_, (), rfl, rfl, by show va_P D vwCl _ t.heap; rw [ht]; exact hPf⟩, hS.F ht⟩) hS.2.2 dX5_undo_9
  exact K0 s.heap [] ls hP hD hS hl
set_option maxHeartbeats 4000000 in
set_option maxRecDepth 100000 in
theorem c_X5_undo_k (l : Launch) (D : va_G) (K : Nat → ClassId) (oM : Nat) (aS : Nat) (aA : Nat) (aB : Nat) (aT : Nat) (aV : Nat) (aP : Nat) (fS : Nat → Int32) (fA : Nat → Int32) (fB : Nat → Int32) (fT : Nat → Int32) (fV : Nat → Int32) (fP : Nat → Int32) (kn : Nat) (ln : Nat) (pl : Int32) (wr : Int32) (le : Int32) (on : Int32) (tw : Int32) (hk1 : 1 ≤ kn) (hkn : kn ≤ 6) : Met l yX5_undo wsX5_undo ({ frames := 0, cells := 0, slots := 0, locals := 0 }) (va_Pc [.ref oM] (fun U => Bd D K U ∧ va_P D vwCl [(oM, .inr (5, [.ref aS, .ref aA, .ref aB, .int (nI kn), .ref aT, .ref aV, .ref aP, .int (nI ln), .int pl, .int wr, .int le, .int on, .int tw])), (aS, .inl (K 0, 360, .inl fS)), (aA, .inl (K 0, 360, .inl fA)), (aB, .inl (K 0, 2160, .inl fB)), (aT, .inl (K 0, 720, .inl fT)), (aV, .inl (K 2, 2, .inl fV)), (aP, .inl (K 0, 80, .inl fP))] U.heap ∧ va_D (fun _ => True) [(oM, .inr (5, [.ref aS, .ref aA, .ref aB, .int (nI kn), .ref aT, .ref aV, .ref aP, .int (nI ln), .int pl, .int wr, .int le, .int on, .int tw])), (aS, .inl (K 0, 360, .inl fS)), (aA, .inl (K 0, 360, .inl fA)), (aB, .inl (K 0, 2160, .inl fB)), (aT, .inl (K 0, 720, .inl fT)), (aV, .inl (K 2, 2, .inl fV)), (aP, .inl (K 0, 80, .inl fP))])) (va_Qi (fun r (_ : Unit) => r = (nI (kn - 1))) (fun _ t => va_P D vwCl [(oM, .inr (5, [.ref aS, .ref aA, .ref aB, .int (nI (kn - 1)), .ref aT, .ref aV, .ref aP, .int (nI ln), .int pl, .int wr, .int le, .int on, .int tw])), (aS, .inl (K 0, 360, .inl (cpB fS fB (360 * (kn - 1)) 360))), (aA, .inl (K 0, 360, .inl fA)), (aB, .inl (K 0, 2160, .inl fB)), (aT, .inl (K 0, 720, .inl fT)), (aV, .inl (K 2, 2, .inl fV)), (aP, .inl (K 0, 80, .inl fP))] t.heap) (inW [(oM, .inr (5, [.ref aS, .ref aA, .ref aB, .int (nI kn), .ref aT, .ref aV, .ref aP, .int (nI ln), .int pl, .int wr, .int le, .int on, .int tw])), (aS, .inl (K 0, 360, .inl fS)), (aA, .inl (K 0, 360, .inl fA)), (aB, .inl (K 0, 2160, .inl fB)), (aT, .inl (K 0, 720, .inl fT)), (aV, .inl (K 2, 2, .inl fV)), (aP, .inl (K 0, 80, .inl fP))])) 0 0 (inW [(oM, .inr (5, [.ref aS, .ref aA, .ref aB, .int (nI kn), .ref aT, .ref aV, .ref aP, .int (nI ln), .int pl, .int wr, .int le, .int on, .int tw])), (aS, .inl (K 0, 360, .inl fS)), (aA, .inl (K 0, 360, .inl fA)), (aB, .inl (K 0, 2160, .inl fB)), (aT, .inl (K 0, 720, .inl fT)), (aV, .inl (K 2, 2, .inl fV)), (aP, .inl (K 0, 80, .inl fP))]) := by
  refine Met.ofW (cc := cX5_undo) (maxL := 2) (ret := (some .int)) (by decide) rfl ?_
  intro p e s m args below meth c s₁ B hml hv
  obtain ⟨rfl, hbd, hP, hD0⟩ := hv
  have hx := B.exec
  have hb := B.bytes
  have hr := B.returns
  have hts := atoms_spec (ws := wsX5_undo) B.pre
  have hown : s.vm.findClass RX5 = some m.cls := findClass_of_methodNamed B.named
  have hlocks := B.notSynchronized
  have hK := hbd.2
  have hP : va_P D vwCl [(oM, .inr (5, [.ref aS, .ref aA, .ref aB, .int (nI kn), .ref aT, .ref aV, .ref aP, .int (nI ln), .int pl, .int wr, .int le, .int on, .int tw])), (aS, .inl (K 0, 360, .inl fS)), (aA, .inl (K 0, 360, .inl fA)), (aB, .inl (K 0, 2160, .inl fB)), (aT, .inl (K 0, 720, .inl fT)), (aV, .inl (K 2, 2, .inl fV)), (aP, .inl (K 0, 80, .inl fP))] s.heap := hP
  have hin5 : ∀ w ∈ wsX50, w ∈ wsX5_undo := by decide +kernel
  have hD := hD0.own
  generalize hAe : inW [(oM, .inr (5, [.ref aS, .ref aA, .ref aB, .int (nI kn), .ref aT, .ref aV, .ref aP, .int (nI ln), .int pl, .int wr, .int le, .int on, .int tw])), (aS, .inl (K 0, 360, .inl fS)), (aA, .inl (K 0, 360, .inl fA)), (aB, .inl (K 0, 2160, .inl fB)), (aT, .inl (K 0, 720, .inl fT)), (aV, .inl (K 2, 2, .inl fV)), (aP, .inl (K 0, 80, .inl fP))] = A at hD ⊢
  have hS : va_S A s.heap s.heap [] := va_S.rf
  have hl := lv_entry ([.ref oM]) (n := 2) (Nat.le_of_ble_eq_true rfl)
  rw [lg_entry_eq]
  generalize (lg_sl ([.ref oM]) ++ List.replicate (2 - (lg_sl ([.ref oM])).length) Slot.unset).toArray = ls at hl ⊢
  have hl : lv_has ls 2 [(0, .ref oM)] := hl
  have K0 : ∀ (H : Heap) (locs : List Loc) (ls : Array Slot), va_P D vwCl [(oM, .inr (5, [.ref aS, .ref aA, .ref aB, .int (nI kn), .ref aT, .ref aV, .ref aP, .int (nI ln), .int pl, .int wr, .int le, .int on, .int tw])), (aS, .inl (K 0, 360, .inl fS)), (aA, .inl (K 0, 360, .inl fA)), (aB, .inl (K 0, 2160, .inl fB)), (aT, .inl (K 0, 720, .inl fT)), (aV, .inl (K 2, 2, .inl fV)), (aP, .inl (K 0, 80, .inl fP))] H → va_D A [(oM, .inr (5, [.ref aS, .ref aA, .ref aB, .int (nI kn), .ref aT, .ref aV, .ref aP, .int (nI ln), .int pl, .int wr, .int le, .int on, .int tw])), (aS, .inl (K 0, 360, .inl fS)), (aA, .inl (K 0, 360, .inl fA)), (aB, .inl (K 0, 2160, .inl fB)), (aT, .inl (K 0, 720, .inl fT)), (aV, .inl (K 2, 2, .inl fV)), (aP, .inl (K 0, 80, .inl fP))] → va_S A s.heap H locs → lv_has ls 2 [(0, .ref oM)] → W p l e (headSpec wsX5_undo ({ frames := 0, cells := 0, slots := 0, locals := 0 })).room s m ([.ref oM] : List Value).toArray below meth c H locs 0 0 (MQ below (va_Qi (fun r (_ : Unit) => r = (nI (kn - 1))) (fun _ t => va_P D vwCl [(oM, .inr (5, [.ref aS, .ref aA, .ref aB, .int (nI (kn - 1)), .ref aT, .ref aV, .ref aP, .int (nI ln), .int pl, .int wr, .int le, .int on, .int tw])), (aS, .inl (K 0, 360, .inl (cpB fS fB (360 * (kn - 1)) 360))), (aA, .inl (K 0, 360, .inl fA)), (aB, .inl (K 0, 2160, .inl fB)), (aT, .inl (K 0, 720, .inl fT)), (aV, .inl (K 2, 2, .inl fV)), (aP, .inl (K 0, 80, .inl fP))] t.heap) A) ([.ref oM] : List Value).toArray s 0 0 A) (F0 m 0 ls []) := by
    intro H locs ls hP hD hS hl
    refine lv_aload_n hx hb dX5_undo_0 rfl (lv_at hl 0 rfl) ?_
    refine va_get (D := D) (ci := 5) (v := .int (nI kn)) (C := RX5) (T := TX5) (N := 13) hx hb hts hin5 hown hK hP 0 rfl rfl 3 (by decide) (hts _ (List.mem_of_getElem? (i := 1) rfl)) (fun _ h9 => h9) rfl dX5_undo_1 ?_
    refine lv_if_ne (tgt := 10) hx hb dX5_undo_4 (by decide) (fun _ => ?_) (fun h_1 => absurd h_1 (fun h => absurd ((nI_eq (a := kn) (b := 0) (by omega) (by omega)).mp h) (by omega)))
    refine lv_aload_n hx hb dX5_undo_10 rfl (lv_at hl 0 rfl) ?_
    refine lv_dup hx hb dX5_undo_11 rfl ?_
    refine va_get (D := D) (ci := 5) (v := .int (nI kn)) (C := RX5) (T := TX5) (N := 13) hx hb hts hin5 hown hK hP 0 rfl rfl 3 (by decide) (hts _ (List.mem_of_getElem? (i := 1) rfl)) (fun _ h9 => h9) rfl dX5_undo_12 ?_
    refine lv_iconst (v := 1) hx hb dX5_undo_15 (by decide) ?_
    refine lv_isub hx hb dX5_undo_16 ?_
    refine st1 (pk_sub (a := kn) (b := 1) (by omega)) ?_
    refine va_put (D := D) (ci := 5) (v := .int (nI (kn - 1))) (ty := .int) (C := RX5) (T := TX5) (N := 13) hx hb hts hin5 tyX5 tyX5_ok nmX5 hown hK hP hD hS 0 rfl rfl 3 (by decide) (hts _ (List.mem_of_getElem? (i := 1) rfl)) (fun _ h9 => h9) rfl (by decide +kernel) rfl rfl (Nat.le_of_ble_eq_true rfl) dX5_undo_17 (fun H locs hP hD hS => ?_)
    have hP : va_P D vwCl [(oM, .inr (5, [.ref aS, .ref aA, .ref aB, .int (nI (kn - 1)), .ref aT, .ref aV, .ref aP, .int (nI ln), .int pl, .int wr, .int le, .int on, .int tw])), (aS, .inl (K 0, 360, .inl fS)), (aA, .inl (K 0, 360, .inl fA)), (aB, .inl (K 0, 2160, .inl fB)), (aT, .inl (K 0, 720, .inl fT)), (aV, .inl (K 2, 2, .inl fV)), (aP, .inl (K 0, 80, .inl fP))] H := hP
    have hD : va_D A [(oM, .inr (5, [.ref aS, .ref aA, .ref aB, .int (nI (kn - 1)), .ref aT, .ref aV, .ref aP, .int (nI ln), .int pl, .int wr, .int le, .int on, .int tw])), (aS, .inl (K 0, 360, .inl fS)), (aA, .inl (K 0, 360, .inl fA)), (aB, .inl (K 0, 2160, .inl fB)), (aT, .inl (K 0, 720, .inl fT)), (aV, .inl (K 2, 2, .inl fV)), (aP, .inl (K 0, 80, .inl fP))] := hD
    refine lv_iconst (v := 0) hx hb dX5_undo_20 (by decide) ?_
    refine lv_istore_n (lv' := [(1, .int 0), (0, .ref oM)]) hx hb dX5_undo_21 rfl hl (by decide) rfl (fun ls hl => ?_)
    have L_2 : ∀ (nf : Nat) (q : Nat), 360 - q < nf → q ≤ 360 → ∀ (H : Heap) (locs : List Loc) (ls : Array Slot), va_P D vwCl [(oM, .inr (5, [.ref aS, .ref aA, .ref aB, .int (nI (kn - 1)), .ref aT, .ref aV, .ref aP, .int (nI ln), .int pl, .int wr, .int le, .int on, .int tw])), (aS, .inl (K 0, 360, .inl (cpB fS fB (360 * (kn - 1)) q))), (aA, .inl (K 0, 360, .inl fA)), (aB, .inl (K 0, 2160, .inl fB)), (aT, .inl (K 0, 720, .inl fT)), (aV, .inl (K 2, 2, .inl fV)), (aP, .inl (K 0, 80, .inl fP))] H → va_D A [(oM, .inr (5, [.ref aS, .ref aA, .ref aB, .int (nI (kn - 1)), .ref aT, .ref aV, .ref aP, .int (nI ln), .int pl, .int wr, .int le, .int on, .int tw])), (aS, .inl (K 0, 360, .inl (cpB fS fB (360 * (kn - 1)) q))), (aA, .inl (K 0, 360, .inl fA)), (aB, .inl (K 0, 2160, .inl fB)), (aT, .inl (K 0, 720, .inl fT)), (aV, .inl (K 2, 2, .inl fV)), (aP, .inl (K 0, 80, .inl fP))] → va_S A s.heap H locs → lv_has ls 2 [(1, .int (nI q)), (0, .ref oM)] → W p l e (headSpec wsX5_undo ({ frames := 0, cells := 0, slots := 0, locals := 0 })).room s m ([.ref oM] : List Value).toArray below meth c H locs 0 0 (MQ below (va_Qi (fun r (_ : Unit) => r = (nI (kn - 1))) (fun _ t => va_P D vwCl [(oM, .inr (5, [.ref aS, .ref aA, .ref aB, .int (nI (kn - 1)), .ref aT, .ref aV, .ref aP, .int (nI ln), .int pl, .int wr, .int le, .int on, .int tw])), (aS, .inl (K 0, 360, .inl (cpB fS fB (360 * (kn - 1)) 360))), (aA, .inl (K 0, 360, .inl fA)), (aB, .inl (K 0, 2160, .inl fB)), (aT, .inl (K 0, 720, .inl fT)), (aV, .inl (K 2, 2, .inl fV)), (aP, .inl (K 0, 80, .inl fP))] t.heap) A) ([.ref oM] : List Value).toArray s 0 0 A) (F0 m 22 ls []) := by
      intro nf
      induction nf with
      | zero =>
        intro q hm
        exact absurd hm (Nat.not_lt_zero _)
      | succ nf ih =>
        intro q hm hq H locs ls hP hD hS hl
        refine lv_iload_n hx hb dX5_undo_22 rfl (lv_at hl 0 rfl) ?_
        refine lv_sipush (v := 360) hx hb dX5_undo_23 (by decide) ?_
        refine lv_icmp_ge (tgt := 56) hx hb dX5_undo_26 (by decide) (fun c_3 => ?_) (fun c_3 => ?_)
        · skip
          have nc_3 := (nI_leI (a := 360) (b := q) (by omega) (by omega)).mp c_3
          have e9 : q = 360 := by omega
          subst e9
          refine lv_aload_n hx hb dX5_undo_56 rfl (lv_at hl 1 rfl) ?_
          refine va_get (D := D) (ci := 5) (v := .int (nI (kn - 1))) (C := RX5) (T := TX5) (N := 13) hx hb hts hin5 hown hK hP 0 rfl rfl 3 (by decide) (hts _ (List.mem_of_getElem? (i := 1) rfl)) (fun _ h9 => h9) rfl dX5_undo_57 ?_
          have hPf : va_P D vwCl [(oM, .inr (5, [.ref aS, .ref aA, .ref aB, .int (nI (kn - 1)), .ref aT, .ref aV, .ref aP, .int (nI ln), .int pl, .int wr, .int le, .int on, .int tw])), (aS, .inl (K 0, 360, .inl (cpB fS fB (360 * (kn - 1)) 360))), (aA, .inl (K 0, 360, .inl fA)), (aB, .inl (K 0, 2160, .inl fB)), (aT, .inl (K 0, 720, .inl fT)), (aV, .inl (K 2, 2, .inl fV)), (aP, .inl (K 0, 80, .inl fP))] H := hP
          exact W.iret hx hb hr (fun t ht hW => ⟨⟨_, (), rfl, rfl, by show va_P D vwCl _ t.heap; rw [ht]; exact hPf⟩, hS.F ht⟩) hS.2.2 dX5_undo_60
        · skip
          have nc_3 : ¬ (360 ≤ q) := fun h => c_3 ((nI_leI (a := 360) (b := q) (by omega) (by omega)).mpr h)
          refine lv_aload_n hx hb dX5_undo_29 rfl (lv_at hl 1 rfl) ?_
          refine va_get (D := D) (ci := 5) (v := .ref aS) (C := RX5) (T := TX5) (N := 13) hx hb hts hin5 hown hK hP 0 rfl rfl 0 (by decide) (hts _ (List.mem_of_getElem? (i := 2) rfl)) (fun _ h9 => h9) rfl dX5_undo_30 ?_
          refine lv_iload_n hx hb dX5_undo_33 rfl (lv_at hl 0 rfl) ?_
          refine lv_aload_n hx hb dX5_undo_34 rfl (lv_at hl 1 rfl) ?_
          refine va_get (D := D) (ci := 5) (v := .ref aB) (C := RX5) (T := TX5) (N := 13) hx hb hts hin5 hown hK hP 0 rfl rfl 2 (by decide) (hts _ (List.mem_of_getElem? (i := 3) rfl)) (fun _ h9 => h9) rfl dX5_undo_35 ?_
          refine lv_sipush (v := 360) hx hb dX5_undo_38 (by decide) ?_
          refine lv_aload_n hx hb dX5_undo_41 rfl (lv_at hl 1 rfl) ?_
          refine va_get (D := D) (ci := 5) (v := .int (nI (kn - 1))) (C := RX5) (T := TX5) (N := 13) hx hb hts hin5 hown hK hP 0 rfl rfl 3 (by decide) (hts _ (List.mem_of_getElem? (i := 1) rfl)) (fun _ h9 => h9) rfl dX5_undo_42 ?_
          refine lv_imul hx hb dX5_undo_45 ?_
          refine st1 (pk_mul 360 (kn - 1)) ?_
          refine lv_iload_n hx hb dX5_undo_46 rfl (lv_at hl 0 rfl) ?_
          refine lv_iadd hx hb dX5_undo_47 ?_
          refine st1 (nI_add (360 * (kn - 1)) q) ?_
          refine n_iald hx hb hK hP 3 0 rfl rfl (360 * (kn - 1) + q) (by omega) (by decide) dX5_undo_48 ?_
          refine n_iast hx hb hK hP hD hS 1 0 rfl rfl q (by omega) (by decide) dX5_undo_49 (fun H locs hP hD hS => ?_)
          have hP : va_P D vwCl [(oM, .inr (5, [.ref aS, .ref aA, .ref aB, .int (nI (kn - 1)), .ref aT, .ref aV, .ref aP, .int (nI ln), .int pl, .int wr, .int le, .int on, .int tw])), (aS, .inl (K 0, 360, .inl (upd (cpB fS fB (360 * (kn - 1)) q) q (fB (360 * (kn - 1) + q))))), (aA, .inl (K 0, 360, .inl fA)), (aB, .inl (K 0, 2160, .inl fB)), (aT, .inl (K 0, 720, .inl fT)), (aV, .inl (K 2, 2, .inl fV)), (aP, .inl (K 0, 80, .inl fP))] H := hP
          have hD : va_D A [(oM, .inr (5, [.ref aS, .ref aA, .ref aB, .int (nI (kn - 1)), .ref aT, .ref aV, .ref aP, .int (nI ln), .int pl, .int wr, .int le, .int on, .int tw])), (aS, .inl (K 0, 360, .inl (upd (cpB fS fB (360 * (kn - 1)) q) q (fB (360 * (kn - 1) + q))))), (aA, .inl (K 0, 360, .inl fA)), (aB, .inl (K 0, 2160, .inl fB)), (aT, .inl (K 0, 720, .inl fT)), (aV, .inl (K 2, 2, .inl fV)), (aP, .inl (K 0, 80, .inl fP))] := hD
          refine lv_iinc (v := (nI (q + 1))) (lv' := [(1, .int (nI (q + 1))), (0, .ref oM)]) hx hb dX5_undo_50 hl (k := 0) rfl (nI_add q 1) (by decide) rfl (fun ls hl => ?_)
          refine lv_goto (tgt := 22) hx hb dX5_undo_53 (by decide) ?_
          exact ih (q + 1) (by omega) (by omega) _ _ _ hP hD hS (lv_sub hl [0, 1] rfl)
    exact L_2 _ 0 (Nat.lt_succ_self _) (by omega) H locs ls hP hD hS (lv_sub hl [0, 1] rfl)
  exact K0 s.heap [] ls hP hD hS hl
set_option maxHeartbeats 4000000 in
set_option maxRecDepth 100000 in
theorem c_X5_save_0 (l : Launch) (D : va_G) (K : Nat → ClassId) (oM : Nat) (aS : Nat) (aA : Nat) (aB : Nat) (aT : Nat) (aV : Nat) (aP : Nat) (fS : Nat → Int32) (fA : Nat → Int32) (fB : Nat → Int32) (fT : Nat → Int32) (fV : Nat → Int32) (fP : Nat → Int32) (kn : Nat) (ln : Nat) (pl : Int32) (wr : Int32) (le : Int32) (on : Int32) (tw : Int32) (n : Nat) (hs0 : fS 0 = nI n) (hn1 : 1 ≤ n) (hn : n ≤ 32) : Met l yX5_save wsX5_save ({ frames := 7, cells := 0, slots := 0, locals := 155 }) (va_Pc [.ref oM, .int 0] (fun U => Bd D K U ∧ va_P D vwCl [(oM, .inr (5, [.ref aS, .ref aA, .ref aB, .int (nI kn), .ref aT, .ref aV, .ref aP, .int (nI ln), .int pl, .int wr, .int le, .int on, .int tw])), (aS, .inl (K 0, 360, .inl fS)), (aA, .inl (K 0, 360, .inl fA)), (aB, .inl (K 0, 2160, .inl fB)), (aT, .inl (K 0, 720, .inl fT)), (aV, .inl (K 2, 2, .inl fV)), (aP, .inl (K 0, 80, .inl fP))] U.heap ∧ va_D (fun _ => True) [(oM, .inr (5, [.ref aS, .ref aA, .ref aB, .int (nI kn), .ref aT, .ref aV, .ref aP, .int (nI ln), .int pl, .int wr, .int le, .int on, .int tw])), (aS, .inl (K 0, 360, .inl fS)), (aA, .inl (K 0, 360, .inl fA)), (aB, .inl (K 0, 2160, .inl fB)), (aT, .inl (K 0, 720, .inl fT)), (aV, .inl (K 2, 2, .inl fV)), (aP, .inl (K 0, 80, .inl fP))])) (va_Qi (fun r (_ : Unit) => r = (mnS fS 0 n)) (fun _ t => va_P D vwCl [(oM, .inr (5, [.ref aS, .ref aA, .ref aB, .int (nI kn), .ref aT, .ref aV, .ref aP, .int (nI ln), .int pl, .int wr, .int le, .int on, .int tw])), (aS, .inl (K 0, 360, .inl fS)), (aA, .inl (K 0, 360, .inl fA)), (aB, .inl (K 0, 2160, .inl fB)), (aT, .inl (K 0, 720, .inl (cpA fT fS 0 360))), (aV, .inl (K 2, 2, .inl (upd fV 0 (vp_nar .boolean 1)))), (aP, .inl (K 0, 80, .inl fP))] t.heap) (inW [(oM, .inr (5, [.ref aS, .ref aA, .ref aB, .int (nI kn), .ref aT, .ref aV, .ref aP, .int (nI ln), .int pl, .int wr, .int le, .int on, .int tw])), (aS, .inl (K 0, 360, .inl fS)), (aA, .inl (K 0, 360, .inl fA)), (aB, .inl (K 0, 2160, .inl fB)), (aT, .inl (K 0, 720, .inl fT)), (aV, .inl (K 2, 2, .inl fV)), (aP, .inl (K 0, 80, .inl fP))])) 0 0 (inW [(oM, .inr (5, [.ref aS, .ref aA, .ref aB, .int (nI kn), .ref aT, .ref aV, .ref aP, .int (nI ln), .int pl, .int wr, .int le, .int on, .int tw])), (aS, .inl (K 0, 360, .inl fS)), (aA, .inl (K 0, 360, .inl fA)), (aB, .inl (K 0, 2160, .inl fB)), (aT, .inl (K 0, 720, .inl fT)), (aV, .inl (K 2, 2, .inl fV)), (aP, .inl (K 0, 80, .inl fP))]) := by
  refine Met.ofW (cc := cX5_save) (maxL := 3) (ret := (some .int)) (by decide) rfl ?_
  intro p e s m args below meth c s₁ B hml hv
  obtain ⟨rfl, hbd, hP, hD0⟩ := hv
  have hx := B.exec
  have hb := B.bytes
  have hr := B.returns
  have hts := atoms_spec (ws := wsX5_save) B.pre
  have hown : s.vm.findClass RX5 = some m.cls := findClass_of_methodNamed B.named
  have hlocks := B.notSynchronized
  have hK := hbd.2
  have hP : va_P D vwCl [(oM, .inr (5, [.ref aS, .ref aA, .ref aB, .int (nI kn), .ref aT, .ref aV, .ref aP, .int (nI ln), .int pl, .int wr, .int le, .int on, .int tw])), (aS, .inl (K 0, 360, .inl fS)), (aA, .inl (K 0, 360, .inl fA)), (aB, .inl (K 0, 2160, .inl fB)), (aT, .inl (K 0, 720, .inl fT)), (aV, .inl (K 2, 2, .inl fV)), (aP, .inl (K 0, 80, .inl fP))] s.heap := hP
  have hin5 : ∀ w ∈ wsX50, w ∈ wsX5_save := by decide +kernel
  have hD := hD0.own
  generalize hAe : inW [(oM, .inr (5, [.ref aS, .ref aA, .ref aB, .int (nI kn), .ref aT, .ref aV, .ref aP, .int (nI ln), .int pl, .int wr, .int le, .int on, .int tw])), (aS, .inl (K 0, 360, .inl fS)), (aA, .inl (K 0, 360, .inl fA)), (aB, .inl (K 0, 2160, .inl fB)), (aT, .inl (K 0, 720, .inl fT)), (aV, .inl (K 2, 2, .inl fV)), (aP, .inl (K 0, 80, .inl fP))] = A at hD ⊢
  have hS : va_S A s.heap s.heap [] := va_S.rf
  have hl := lv_entry ([.ref oM, .int 0]) (n := 3) (Nat.le_of_ble_eq_true rfl)
  rw [lg_entry_eq]
  generalize (lg_sl ([.ref oM, .int 0]) ++ List.replicate (3 - (lg_sl ([.ref oM, .int 0])).length) Slot.unset).toArray = ls at hl ⊢
  have hl : lv_has ls 3 [(0, .ref oM), (1, .int 0)] := hl
  have K0 : ∀ (H : Heap) (locs : List Loc) (ls : Array Slot), va_P D vwCl [(oM, .inr (5, [.ref aS, .ref aA, .ref aB, .int (nI kn), .ref aT, .ref aV, .ref aP, .int (nI ln), .int pl, .int wr, .int le, .int on, .int tw])), (aS, .inl (K 0, 360, .inl fS)), (aA, .inl (K 0, 360, .inl fA)), (aB, .inl (K 0, 2160, .inl fB)), (aT, .inl (K 0, 720, .inl fT)), (aV, .inl (K 2, 2, .inl fV)), (aP, .inl (K 0, 80, .inl fP))] H → va_D A [(oM, .inr (5, [.ref aS, .ref aA, .ref aB, .int (nI kn), .ref aT, .ref aV, .ref aP, .int (nI ln), .int pl, .int wr, .int le, .int on, .int tw])), (aS, .inl (K 0, 360, .inl fS)), (aA, .inl (K 0, 360, .inl fA)), (aB, .inl (K 0, 2160, .inl fB)), (aT, .inl (K 0, 720, .inl fT)), (aV, .inl (K 2, 2, .inl fV)), (aP, .inl (K 0, 80, .inl fP))] → va_S A s.heap H locs → lv_has ls 3 [(0, .ref oM), (1, .int 0)] → W p l e (headSpec wsX5_save ({ frames := 7, cells := 0, slots := 0, locals := 155 })).room s m ([.ref oM, .int 0] : List Value).toArray below meth c H locs 0 0 (MQ below (va_Qi (fun r (_ : Unit) => r = (mnS fS 0 n)) (fun _ t => va_P D vwCl [(oM, .inr (5, [.ref aS, .ref aA, .ref aB, .int (nI kn), .ref aT, .ref aV, .ref aP, .int (nI ln), .int pl, .int wr, .int le, .int on, .int tw])), (aS, .inl (K 0, 360, .inl fS)), (aA, .inl (K 0, 360, .inl fA)), (aB, .inl (K 0, 2160, .inl fB)), (aT, .inl (K 0, 720, .inl (cpA fT fS 0 360))), (aV, .inl (K 2, 2, .inl (upd fV 0 (vp_nar .boolean 1)))), (aP, .inl (K 0, 80, .inl fP))] t.heap) A) ([.ref oM, .int 0] : List Value).toArray s 0 0 A) (F0 m 0 ls []) := by
    intro H locs ls hP hD hS hl
    refine lv_iload_n hx hb dX5_save_0 rfl (lv_at hl 1 rfl) ?_
    refine lv_iconst (v := 0) hx hb dX5_save_1 (by decide) ?_
    refine lv_iconst (v := 1) hx hb dX5_save_2 (by decide) ?_
    refine vp_callSi (va_Run.run (va_runS (As := [.int 0, .int 0, .int 1]) (rest := []) ⟨hx, hb, hml, hown, hts⟩ (c_X5_in_ok l D K 0 0 1 (by decide) (by decide)) (va_cwS 3 hts gX5_save_X5_in rfl rfl rfl (by decide +kernel) ⟨Nat.le_of_ble_eq_true rfl, Nat.le_of_ble_eq_true rfl⟩) pre_s0 rfl rfl hl.1 rfl (lv_room (Nat.le_of_ble_eq_true rfl)) dX5_save_3 ⟨Nat.zero_le _, Nat.zero_le _⟩)) (fun r_1 hr_1 => ?_)
    subst hr_1
    refine lv_if_ne (tgt := 12) hx hb dX5_save_6 (by decide) (fun _ => ?_) (fun h_2 => absurd h_2 (by decide))
    refine lv_iconst (v := 0) hx hb dX5_save_12 (by decide) ?_
    refine lv_istore_n (lv' := [(2, .int 0), (0, .ref oM), (1, .int 0)]) hx hb dX5_save_13 rfl hl (by decide) rfl (fun ls hl => ?_)
    have L_3 : ∀ (nf : Nat) (q : Nat), 360 - q < nf → q ≤ 360 → ∀ (H : Heap) (locs : List Loc) (ls : Array Slot), va_P D vwCl [(oM, .inr (5, [.ref aS, .ref aA, .ref aB, .int (nI kn), .ref aT, .ref aV, .ref aP, .int (nI ln), .int pl, .int wr, .int le, .int on, .int tw])), (aS, .inl (K 0, 360, .inl fS)), (aA, .inl (K 0, 360, .inl fA)), (aB, .inl (K 0, 2160, .inl fB)), (aT, .inl (K 0, 720, .inl (cpA fT fS 0 q))), (aV, .inl (K 2, 2, .inl fV)), (aP, .inl (K 0, 80, .inl fP))] H → va_D A [(oM, .inr (5, [.ref aS, .ref aA, .ref aB, .int (nI kn), .ref aT, .ref aV, .ref aP, .int (nI ln), .int pl, .int wr, .int le, .int on, .int tw])), (aS, .inl (K 0, 360, .inl fS)), (aA, .inl (K 0, 360, .inl fA)), (aB, .inl (K 0, 2160, .inl fB)), (aT, .inl (K 0, 720, .inl (cpA fT fS 0 q))), (aV, .inl (K 2, 2, .inl fV)), (aP, .inl (K 0, 80, .inl fP))] → va_S A s.heap H locs → lv_has ls 3 [(2, .int (nI q)), (0, .ref oM), (1, .int 0)] → W p l e (headSpec wsX5_save ({ frames := 7, cells := 0, slots := 0, locals := 155 })).room s m ([.ref oM, .int 0] : List Value).toArray below meth c H locs 0 0 (MQ below (va_Qi (fun r (_ : Unit) => r = (mnS fS 0 n)) (fun _ t => va_P D vwCl [(oM, .inr (5, [.ref aS, .ref aA, .ref aB, .int (nI kn), .ref aT, .ref aV, .ref aP, .int (nI ln), .int pl, .int wr, .int le, .int on, .int tw])), (aS, .inl (K 0, 360, .inl fS)), (aA, .inl (K 0, 360, .inl fA)), (aB, .inl (K 0, 2160, .inl fB)), (aT, .inl (K 0, 720, .inl (cpA fT fS 0 360))), (aV, .inl (K 2, 2, .inl (upd fV 0 (vp_nar .boolean 1)))), (aP, .inl (K 0, 80, .inl fP))] t.heap) A) ([.ref oM, .int 0] : List Value).toArray s 0 0 A) (F0 m 14 ls []) := by
      intro nf
      induction nf with
      | zero =>
        intro q hm
        exact absurd hm (Nat.not_lt_zero _)
      | succ nf ih =>
        intro q hm hq H locs ls hP hD hS hl
        refine lv_iload_n hx hb dX5_save_14 rfl (lv_at hl 0 rfl) ?_
        refine lv_sipush (v := 360) hx hb dX5_save_15 (by decide) ?_
        refine lv_icmp_ge (tgt := 45) hx hb dX5_save_18 (by decide) (fun c_4 => ?_) (fun c_4 => ?_)
        · skip
          have nc_4 := (nI_leI (a := 360) (b := q) (by omega) (by omega)).mp c_4
          have e9 : q = 360 := by omega
          subst e9
          refine lv_aload_n hx hb dX5_save_45 rfl (lv_at hl 1 rfl) ?_
          refine va_get (D := D) (ci := 5) (v := .ref aV) (C := RX5) (T := TX5) (N := 13) hx hb hts hin5 hown hK hP 0 rfl rfl 5 (by decide) (hts _ (List.mem_of_getElem? (i := 3) rfl)) (fun _ h9 => h9) rfl dX5_save_46 ?_
          refine lv_iload_n hx hb dX5_save_49 rfl (lv_at hl 2 rfl) ?_
          refine lv_iconst (v := 1) hx hb dX5_save_50 (by decide) ?_
          refine n_zast hx hb hK hP hD hS 5 2 rfl rfl 0 (by omega) (by decide) dX5_save_51 (fun H locs hP hD hS => ?_)
          have hP : va_P D vwCl [(oM, .inr (5, [.ref aS, .ref aA, .ref aB, .int (nI kn), .ref aT, .ref aV, .ref aP, .int (nI ln), .int pl, .int wr, .int le, .int on, .int tw])), (aS, .inl (K 0, 360, .inl fS)), (aA, .inl (K 0, 360, .inl fA)), (aB, .inl (K 0, 2160, .inl fB)), (aT, .inl (K 0, 720, .inl (cpA fT fS 0 360))), (aV, .inl (K 2, 2, .inl (upd fV 0 (vp_nar .boolean 1)))), (aP, .inl (K 0, 80, .inl fP))] H := hP
          have hD : va_D A [(oM, .inr (5, [.ref aS, .ref aA, .ref aB, .int (nI kn), .ref aT, .ref aV, .ref aP, .int (nI ln), .int pl, .int wr, .int le, .int on, .int tw])), (aS, .inl (K 0, 360, .inl fS)), (aA, .inl (K 0, 360, .inl fA)), (aB, .inl (K 0, 2160, .inl fB)), (aT, .inl (K 0, 720, .inl (cpA fT fS 0 360))), (aV, .inl (K 2, 2, .inl (upd fV 0 (vp_nar .boolean 1)))), (aP, .inl (K 0, 80, .inl fP))] := hD
          refine lv_aload_n hx hb dX5_save_52 rfl (lv_at hl 1 rfl) ?_
          refine lv_iconst (v := 0) hx hb dX5_save_53 (by decide) ?_
          have hPc := hP.sub (ws' := [(oM, .inr (5, [.ref aS, .ref aA, .ref aB, .int (nI kn), .ref aT, .ref aV, .ref aP, .int (nI ln), .int pl, .int wr, .int le, .int on, .int tw])), (aS, .inl (K 0, 360, .inl fS))]) [0, 1] rfl
          refine vp_callSi (va_Run.run (va_runV (As := [.int 0]) (rest := []) ⟨hx, hb, hml, hown, hts⟩ (c_X5_many l D K oM aS aA aB aT aV aP fS kn ln pl wr le on tw n 0 hs0 hn1 hn) (cwV 1 hts gX5_save_X5_many rfl rfl rfl (by decide +kernel) ⟨Nat.le_of_ble_eq_true rfl, Nat.le_of_ble_eq_true rfl⟩) (pre_rd hbd hPc (ci := 5) (q0 := 0) rfl rfl) rfl rfl hl.1 rfl (lv_room (Nat.le_of_ble_eq_true rfl)) dX5_save_54 ⟨Nat.zero_le _, Nat.zero_le _⟩)) (fun r_5 hr_5 => ?_)
          subst hr_5
          have hPf : va_P D vwCl [(oM, .inr (5, [.ref aS, .ref aA, .ref aB, .int (nI kn), .ref aT, .ref aV, .ref aP, .int (nI ln), .int pl, .int wr, .int le, .int on, .int tw])), (aS, .inl (K 0, 360, .inl fS)), (aA, .inl (K 0, 360, .inl fA)), (aB, .inl (K 0, 2160, .inl fB)), (aT, .inl (K 0, 720, .inl (cpA fT fS 0 360))), (aV, .inl (K 2, 2, .inl (upd fV 0 (vp_nar .boolean 1)))), (aP, .inl (K 0, 80, .inl fP))] H := hP
          exact W.iret hx hb hr (fun t ht hW => ⟨⟨_, (), rfl, rfl, by show va_P D vwCl _ t.heap; rw [ht]; exact hPf⟩, hS.F ht⟩) hS.2.2 dX5_save_57
        · skip
          have nc_4 : ¬ (360 ≤ q) := fun h => c_4 ((nI_leI (a := 360) (b := q) (by omega) (by omega)).mpr h)
          refine lv_aload_n hx hb dX5_save_21 rfl (lv_at hl 1 rfl) ?_
          refine va_get (D := D) (ci := 5) (v := .ref aT) (C := RX5) (T := TX5) (N := 13) hx hb hts hin5 hown hK hP 0 rfl rfl 4 (by decide) (hts _ (List.mem_of_getElem? (i := 1) rfl)) (fun _ h9 => h9) rfl dX5_save_22 ?_
          refine lv_sipush (v := 360) hx hb dX5_save_25 (by decide) ?_
          refine lv_iload_n hx hb dX5_save_28 rfl (lv_at hl 2 rfl) ?_
          refine lv_imul hx hb dX5_save_29 ?_
          refine st1 (y := 0) (by decide) ?_
          refine lv_iload_n hx hb dX5_save_30 rfl (lv_at hl 0 rfl) ?_
          refine lv_iadd hx hb dX5_save_31 ?_
          refine st1 (nI_add 0 q) ?_
          refine lv_aload_n hx hb dX5_save_32 rfl (lv_at hl 1 rfl) ?_
          refine va_get (D := D) (ci := 5) (v := .ref aS) (C := RX5) (T := TX5) (N := 13) hx hb hts hin5 hown hK hP 0 rfl rfl 0 (by decide) (hts _ (List.mem_of_getElem? (i := 2) rfl)) (fun _ h9 => h9) rfl dX5_save_33 ?_
          refine lv_iload_n hx hb dX5_save_36 rfl (lv_at hl 0 rfl) ?_
          refine n_iald hx hb hK hP 1 0 rfl rfl q (by omega) (by decide) dX5_save_37 ?_
          refine n_iast hx hb hK hP hD hS 4 0 rfl rfl (0 + q) (by omega) (by decide) dX5_save_38 (fun H locs hP hD hS => ?_)
          have hP : va_P D vwCl [(oM, .inr (5, [.ref aS, .ref aA, .ref aB, .int (nI kn), .ref aT, .ref aV, .ref aP, .int (nI ln), .int pl, .int wr, .int le, .int on, .int tw])), (aS, .inl (K 0, 360, .inl fS)), (aA, .inl (K 0, 360, .inl fA)), (aB, .inl (K 0, 2160, .inl fB)), (aT, .inl (K 0, 720, .inl (upd (cpA fT fS 0 q) (0 + q) (fS q)))), (aV, .inl (K 2, 2, .inl fV)), (aP, .inl (K 0, 80, .inl fP))] H := hP
          have hD : va_D A [(oM, .inr (5, [.ref aS, .ref aA, .ref aB, .int (nI kn), .ref aT, .ref aV, .ref aP, .int (nI ln), .int pl, .int wr, .int le, .int on, .int tw])), (aS, .inl (K 0, 360, .inl fS)), (aA, .inl (K 0, 360, .inl fA)), (aB, .inl (K 0, 2160, .inl fB)), (aT, .inl (K 0, 720, .inl (upd (cpA fT fS 0 q) (0 + q) (fS q)))), (aV, .inl (K 2, 2, .inl fV)), (aP, .inl (K 0, 80, .inl fP))] := hD
          refine lv_iinc (v := (nI (q + 1))) (lv' := [(2, .int (nI (q + 1))), (0, .ref oM), (1, .int 0)]) hx hb dX5_save_39 hl (k := 0) rfl (nI_add q 1) (by decide) rfl (fun ls hl => ?_)
          refine lv_goto (tgt := 14) hx hb dX5_save_42 (by decide) ?_
          exact ih (q + 1) (by omega) (by omega) _ _ _ hP hD hS (lv_sub hl [0, 1, 2] rfl)
    exact L_3 _ 0 (Nat.lt_succ_self _) (by omega) H locs ls hP hD hS (lv_sub hl [0, 1, 2] rfl)
  exact K0 s.heap [] ls hP hD hS hl
set_option maxHeartbeats 4000000 in
set_option maxRecDepth 100000 in
theorem c_X5_restore_00 (l : Launch) (D : va_G) (K : Nat → ClassId) (oM : Nat) (aS : Nat) (aA : Nat) (aB : Nat) (aT : Nat) (aV : Nat) (aP : Nat) (fS : Nat → Int32) (fA : Nat → Int32) (fB : Nat → Int32) (fT : Nat → Int32) (fV : Nat → Int32) (fP : Nat → Int32) (kn : Nat) (ln : Nat) (pl : Int32) (wr : Int32) (le : Int32) (on : Int32) (tw : Int32) (hz : fV 0 = 0) : Met l yX5_restore wsX5_restore ({ frames := 1, cells := 0, slots := 0, locals := 22 }) (va_Pc [.ref oM, .int 0] (fun U => Bd D K U ∧ va_P D vwCl [(oM, .inr (5, [.ref aS, .ref aA, .ref aB, .int (nI kn), .ref aT, .ref aV, .ref aP, .int (nI ln), .int pl, .int wr, .int le, .int on, .int tw])), (aS, .inl (K 0, 360, .inl fS)), (aA, .inl (K 0, 360, .inl fA)), (aB, .inl (K 0, 2160, .inl fB)), (aT, .inl (K 0, 720, .inl fT)), (aV, .inl (K 2, 2, .inl fV)), (aP, .inl (K 0, 80, .inl fP))] U.heap)) (vp_Si (fun r => r = (-5))) 0 0 (fun _ => False) := by
  refine Met.ofW (cc := cX5_restore) (maxL := 3) (ret := (some .int)) (by decide) rfl ?_
  intro p e s m args below meth c s₁ B hml hv
  obtain ⟨rfl, hbd, hP⟩ := hv
  have hx := B.exec
  have hb := B.bytes
  have hr := B.returns
  have hts := atoms_spec (ws := wsX5_restore) B.pre
  have hown : s.vm.findClass RX5 = some m.cls := findClass_of_methodNamed B.named
  have hlocks := B.notSynchronized
  have hK := hbd.2
  have hP : va_P D vwCl [(oM, .inr (5, [.ref aS, .ref aA, .ref aB, .int (nI kn), .ref aT, .ref aV, .ref aP, .int (nI ln), .int pl, .int wr, .int le, .int on, .int tw])), (aS, .inl (K 0, 360, .inl fS)), (aA, .inl (K 0, 360, .inl fA)), (aB, .inl (K 0, 2160, .inl fB)), (aT, .inl (K 0, 720, .inl fT)), (aV, .inl (K 2, 2, .inl fV)), (aP, .inl (K 0, 80, .inl fP))] s.heap := hP
  have hin5 : ∀ w ∈ wsX50, w ∈ wsX5_restore := by decide +kernel
  have hl := lv_entry ([.ref oM, .int 0]) (n := 3) (Nat.le_of_ble_eq_true rfl)
  rw [lg_entry_eq]
  generalize (lg_sl ([.ref oM, .int 0]) ++ List.replicate (3 - (lg_sl ([.ref oM, .int 0])).length) Slot.unset).toArray = ls at hl ⊢
  have hl : lv_has ls 3 [(0, .ref oM), (1, .int 0)] := hl
  refine lv_iload_n hx hb dX5_restore_0 rfl (lv_at hl 1 rfl) ?_
  refine lv_iconst (v := 0) hx hb dX5_restore_1 (by decide) ?_
  refine lv_iconst (v := 1) hx hb dX5_restore_2 (by decide) ?_
  refine vp_callSi (va_Run.run (va_runS (As := [.int 0, .int 0, .int 1]) (rest := []) ⟨hx, hb, hml, hown, hts⟩ (c_X5_in_ok l D K 0 0 1 (by decide) (by decide)) (va_cwS 3 hts gX5_restore_X5_in rfl rfl rfl (by decide +kernel) ⟨Nat.le_of_ble_eq_true rfl, Nat.le_of_ble_eq_true rfl⟩) pre_s0 rfl rfl hl.1 rfl (lv_room (Nat.le_of_ble_eq_true rfl)) dX5_restore_3 ⟨Nat.zero_le _, Nat.zero_le _⟩)) (fun r_1 hr_1 => ?_)
  subst hr_1
  refine lv_if_ne (tgt := 12) hx hb dX5_restore_6 (by decide) (fun _ => ?_) (fun h_2 => absurd h_2 (by decide))
  refine lv_aload_n hx hb dX5_restore_12 rfl (lv_at hl 0 rfl) ?_
  refine va_get (D := D) (ci := 5) (v := .ref aV) (C := RX5) (T := TX5) (N := 13) hx hb hts hin5 hown hK hP 0 rfl rfl 5 (by decide) (hts _ (List.mem_of_getElem? (i := 1) rfl)) (fun _ h9 => h9) rfl dX5_restore_13 ?_
  refine lv_iload_n hx hb dX5_restore_16 rfl (lv_at hl 1 rfl) ?_
  refine n_zald hx hb hK hP 5 2 rfl rfl 0 (by omega) (by decide) dX5_restore_17 ?_
  refine lv_if_ne (tgt := 24) hx hb dX5_restore_18 (by decide) (fun h_3 => absurd hz h_3) (fun _ => ?_)
  refine lv_bipush (v := (-5)) hx hb dX5_restore_21 (by decide) ?_
  exact W.iret hx hb hr (fun t ht hW => ⟨_, rfl, rfl, ht⟩) (fun q hq => absurd hq List.not_mem_nil) dX5_restore_23
set_option maxHeartbeats 4000000 in
set_option maxRecDepth 100000 in
theorem c_X5_restore_01 (l : Launch) (D : va_G) (K : Nat → ClassId) (oM : Nat) (aS : Nat) (aA : Nat) (aB : Nat) (aT : Nat) (aV : Nat) (aP : Nat) (fS : Nat → Int32) (fA : Nat → Int32) (fB : Nat → Int32) (fT : Nat → Int32) (fV : Nat → Int32) (fP : Nat → Int32) (kn : Nat) (ln : Nat) (pl : Int32) (wr : Int32) (le : Int32) (on : Int32) (tw : Int32) (m_ : Nat) (hkn : kn ≤ 6) (hz : ¬ fV 0 = 0) (hs1 : (cpB fS fT 0 360) 0 = nI m_) (hm1 : 1 ≤ m_) (hmx : m_ ≤ 32) : Met l yX5_restore wsX5_restore ({ frames := 7, cells := 0, slots := 0, locals := 155 }) (va_Pc [.ref oM, .int 0] (fun U => Bd D K U ∧ va_P D vwCl [(oM, .inr (5, [.ref aS, .ref aA, .ref aB, .int (nI kn), .ref aT, .ref aV, .ref aP, .int (nI ln), .int pl, .int wr, .int le, .int on, .int tw])), (aS, .inl (K 0, 360, .inl fS)), (aA, .inl (K 0, 360, .inl fA)), (aB, .inl (K 0, 2160, .inl fB)), (aT, .inl (K 0, 720, .inl fT)), (aV, .inl (K 2, 2, .inl fV)), (aP, .inl (K 0, 80, .inl fP))] U.heap ∧ va_D (fun _ => True) [(oM, .inr (5, [.ref aS, .ref aA, .ref aB, .int (nI kn), .ref aT, .ref aV, .ref aP, .int (nI ln), .int pl, .int wr, .int le, .int on, .int tw])), (aS, .inl (K 0, 360, .inl fS)), (aA, .inl (K 0, 360, .inl fA)), (aB, .inl (K 0, 2160, .inl fB)), (aT, .inl (K 0, 720, .inl fT)), (aV, .inl (K 2, 2, .inl fV)), (aP, .inl (K 0, 80, .inl fP))])) (va_Qi (fun r (_ : Unit) => r = (mnS (cpB fS fT 0 360) 0 m_)) (fun _ t => va_P D vwCl [(oM, .inr (5, [.ref aS, .ref aA, .ref aB, .int (nI (knK kn)), .ref aT, .ref aV, .ref aP, .int (nI ln), .int pl, .int wr, .int le, .int on, .int tw])), (aS, .inl (K 0, 360, .inl (cpB fS fT 0 360))), (aA, .inl (K 0, 360, .inl fA)), (aB, .inl (K 0, 2160, .inl (knB fB fS kn))), (aT, .inl (K 0, 720, .inl fT)), (aV, .inl (K 2, 2, .inl fV)), (aP, .inl (K 0, 80, .inl fP))] t.heap) (inW [(oM, .inr (5, [.ref aS, .ref aA, .ref aB, .int (nI kn), .ref aT, .ref aV, .ref aP, .int (nI ln), .int pl, .int wr, .int le, .int on, .int tw])), (aS, .inl (K 0, 360, .inl fS)), (aA, .inl (K 0, 360, .inl fA)), (aB, .inl (K 0, 2160, .inl fB)), (aT, .inl (K 0, 720, .inl fT)), (aV, .inl (K 2, 2, .inl fV)), (aP, .inl (K 0, 80, .inl fP))])) 0 0 (inW [(oM, .inr (5, [.ref aS, .ref aA, .ref aB, .int (nI kn), .ref aT, .ref aV, .ref aP, .int (nI ln), .int pl, .int wr, .int le, .int on, .int tw])), (aS, .inl (K 0, 360, .inl fS)), (aA, .inl (K 0, 360, .inl fA)), (aB, .inl (K 0, 2160, .inl fB)), (aT, .inl (K 0, 720, .inl fT)), (aV, .inl (K 2, 2, .inl fV)), (aP, .inl (K 0, 80, .inl fP))]) := by
  refine Met.ofW (cc := cX5_restore) (maxL := 3) (ret := (some .int)) (by decide) rfl ?_
  intro p e s m args below meth c s₁ B hml hv
  obtain ⟨rfl, hbd, hP, hD0⟩ := hv
  have hx := B.exec
  have hb := B.bytes
  have hr := B.returns
  have hts := atoms_spec (ws := wsX5_restore) B.pre
  have hown : s.vm.findClass RX5 = some m.cls := findClass_of_methodNamed B.named
  have hlocks := B.notSynchronized
  have hK := hbd.2
  have hP : va_P D vwCl [(oM, .inr (5, [.ref aS, .ref aA, .ref aB, .int (nI kn), .ref aT, .ref aV, .ref aP, .int (nI ln), .int pl, .int wr, .int le, .int on, .int tw])), (aS, .inl (K 0, 360, .inl fS)), (aA, .inl (K 0, 360, .inl fA)), (aB, .inl (K 0, 2160, .inl fB)), (aT, .inl (K 0, 720, .inl fT)), (aV, .inl (K 2, 2, .inl fV)), (aP, .inl (K 0, 80, .inl fP))] s.heap := hP
  have hin5 : ∀ w ∈ wsX50, w ∈ wsX5_restore := by decide +kernel
  have hD := hD0.own
  generalize hAe : inW [(oM, .inr (5, [.ref aS, .ref aA, .ref aB, .int (nI kn), .ref aT, .ref aV, .ref aP, .int (nI ln), .int pl, .int wr, .int le, .int on, .int tw])), (aS, .inl (K 0, 360, .inl fS)), (aA, .inl (K 0, 360, .inl fA)), (aB, .inl (K 0, 2160, .inl fB)), (aT, .inl (K 0, 720, .inl fT)), (aV, .inl (K 2, 2, .inl fV)), (aP, .inl (K 0, 80, .inl fP))] = A at hD ⊢
  have hS : va_S A s.heap s.heap [] := va_S.rf
  have hl := lv_entry ([.ref oM, .int 0]) (n := 3) (Nat.le_of_ble_eq_true rfl)
  rw [lg_entry_eq]
  generalize (lg_sl ([.ref oM, .int 0]) ++ List.replicate (3 - (lg_sl ([.ref oM, .int 0])).length) Slot.unset).toArray = ls at hl ⊢
  have hl : lv_has ls 3 [(0, .ref oM), (1, .int 0)] := hl
  have K0 : ∀ (H : Heap) (locs : List Loc) (ls : Array Slot), va_P D vwCl [(oM, .inr (5, [.ref aS, .ref aA, .ref aB, .int (nI kn), .ref aT, .ref aV, .ref aP, .int (nI ln), .int pl, .int wr, .int le, .int on, .int tw])), (aS, .inl (K 0, 360, .inl fS)), (aA, .inl (K 0, 360, .inl fA)), (aB, .inl (K 0, 2160, .inl fB)), (aT, .inl (K 0, 720, .inl fT)), (aV, .inl (K 2, 2, .inl fV)), (aP, .inl (K 0, 80, .inl fP))] H → va_D A [(oM, .inr (5, [.ref aS, .ref aA, .ref aB, .int (nI kn), .ref aT, .ref aV, .ref aP, .int (nI ln), .int pl, .int wr, .int le, .int on, .int tw])), (aS, .inl (K 0, 360, .inl fS)), (aA, .inl (K 0, 360, .inl fA)), (aB, .inl (K 0, 2160, .inl fB)), (aT, .inl (K 0, 720, .inl fT)), (aV, .inl (K 2, 2, .inl fV)), (aP, .inl (K 0, 80, .inl fP))] → va_S A s.heap H locs → lv_has ls 3 [(0, .ref oM), (1, .int 0)] → W p l e (headSpec wsX5_restore ({ frames := 7, cells := 0, slots := 0, locals := 155 })).room s m ([.ref oM, .int 0] : List Value).toArray below meth c H locs 0 0 (MQ below (va_Qi (fun r (_ : Unit) => r = (mnS (cpB fS fT 0 360) 0 m_)) (fun _ t => va_P D vwCl [(oM, .inr (5, [.ref aS, .ref aA, .ref aB, .int (nI (knK kn)), .ref aT, .ref aV, .ref aP, .int (nI ln), .int pl, .int wr, .int le, .int on, .int tw])), (aS, .inl (K 0, 360, .inl (cpB fS fT 0 360))), (aA, .inl (K 0, 360, .inl fA)), (aB, .inl (K 0, 2160, .inl (knB fB fS kn))), (aT, .inl (K 0, 720, .inl fT)), (aV, .inl (K 2, 2, .inl fV)), (aP, .inl (K 0, 80, .inl fP))] t.heap) A) ([.ref oM, .int 0] : List Value).toArray s 0 0 A) (F0 m 0 ls []) := by
    intro H locs ls hP hD hS hl
    refine lv_iload_n hx hb dX5_restore_0 rfl (lv_at hl 1 rfl) ?_
    refine lv_iconst (v := 0) hx hb dX5_restore_1 (by decide) ?_
    refine lv_iconst (v := 1) hx hb dX5_restore_2 (by decide) ?_
    refine vp_callSi (va_Run.run (va_runS (As := [.int 0, .int 0, .int 1]) (rest := []) ⟨hx, hb, hml, hown, hts⟩ (c_X5_in_ok l D K 0 0 1 (by decide) (by decide)) (va_cwS 3 hts gX5_restore_X5_in rfl rfl rfl (by decide +kernel) ⟨Nat.le_of_ble_eq_true rfl, Nat.le_of_ble_eq_true rfl⟩) pre_s0 rfl rfl hl.1 rfl (lv_room (Nat.le_of_ble_eq_true rfl)) dX5_restore_3 ⟨Nat.zero_le _, Nat.zero_le _⟩)) (fun r_1 hr_1 => ?_)
    subst hr_1
    refine lv_if_ne (tgt := 12) hx hb dX5_restore_6 (by decide) (fun _ => ?_) (fun h_2 => absurd h_2 (by decide))
    refine lv_aload_n hx hb dX5_restore_12 rfl (lv_at hl 0 rfl) ?_
    refine va_get (D := D) (ci := 5) (v := .ref aV) (C := RX5) (T := TX5) (N := 13) hx hb hts hin5 hown hK hP 0 rfl rfl 5 (by decide) (hts _ (List.mem_of_getElem? (i := 1) rfl)) (fun _ h9 => h9) rfl dX5_restore_13 ?_
    refine lv_iload_n hx hb dX5_restore_16 rfl (lv_at hl 1 rfl) ?_
    refine n_zald hx hb hK hP 5 2 rfl rfl 0 (by omega) (by decide) dX5_restore_17 ?_
    refine lv_if_ne (tgt := 24) hx hb dX5_restore_18 (by decide) (fun _ => ?_) (fun h_3 => absurd h_3 hz)
    refine lv_aload_n hx hb dX5_restore_24 rfl (lv_at hl 0 rfl) ?_
    have hPc := hP.sub (ws' := [(oM, .inr (5, [.ref aS, .ref aA, .ref aB, .int (nI kn), .ref aT, .ref aV, .ref aP, .int (nI ln), .int pl, .int wr, .int le, .int on, .int tw])), (aS, .inl (K 0, 360, .inl fS)), (aA, .inl (K 0, 360, .inl fA)), (aB, .inl (K 0, 2160, .inl fB)), (aT, .inl (K 0, 720, .inl fT)), (aV, .inl (K 2, 2, .inl fV)), (aP, .inl (K 0, 80, .inl fP))]) [0, 1, 2, 3, 4, 5, 6] rfl
    have hDc : va_D (fun _ => True) [(oM, .inr (5, [.ref aS, .ref aA, .ref aB, .int (nI kn), .ref aT, .ref aV, .ref aP, .int (nI ln), .int pl, .int wr, .int le, .int on, .int tw])), (aS, .inl (K 0, 360, .inl fS)), (aA, .inl (K 0, 360, .inl fA)), (aB, .inl (K 0, 2160, .inl fB)), (aT, .inl (K 0, 720, .inl fT)), (aV, .inl (K 2, 2, .inl fV)), (aP, .inl (K 0, 80, .inl fP))] := (hD.sub (ws' := [(oM, .inr (5, [.ref aS, .ref aA, .ref aB, .int (nI kn), .ref aT, .ref aV, .ref aP, .int (nI ln), .int pl, .int wr, .int le, .int on, .int tw])), (aS, .inl (K 0, 360, .inl fS)), (aA, .inl (K 0, 360, .inl fA)), (aB, .inl (K 0, 2160, .inl fB)), (aT, .inl (K 0, 720, .inl fT)), (aV, .inl (K 2, 2, .inl fV)), (aP, .inl (K 0, 80, .inl fP))]) [0, 1, 2, 3, 4, 5, 6] (by decide +kernel) rfl).weaken (fun _ _ _ _ => trivial)
    refine kw_v (W1 := [(oM, .inr (5, [.ref aS, .ref aA, .ref aB, .int (nI (knK kn)), .ref aT, .ref aV, .ref aP, .int (nI ln), .int pl, .int wr, .int le, .int on, .int tw])), (aS, .inl (K 0, 360, .inl fS)), (aA, .inl (K 0, 360, .inl fA)), (aB, .inl (K 0, 2160, .inl (knB fB fS kn))), (aT, .inl (K 0, 720, .inl fT)), (aV, .inl (K 2, 2, .inl fV)), (aP, .inl (K 0, 80, .inl fP))]) (w1 := [(oM, .inr (5, [.ref aS, .ref aA, .ref aB, .int (nI (knK kn)), .ref aT, .ref aV, .ref aP, .int (nI ln), .int pl, .int wr, .int le, .int on, .int tw])), (aS, .inl (K 0, 360, .inl fS)), (aA, .inl (K 0, 360, .inl fA)), (aB, .inl (K 0, 2160, .inl (knB fB fS kn))), (aT, .inl (K 0, 720, .inl fT)), (aV, .inl (K 2, 2, .inl fV)), (aP, .inl (K 0, 80, .inl fP))]) (va_runV (As := []) (rest := []) ⟨hx, hb, hml, hown, hts⟩ (c_X5_know l D K oM aS aA aB aT aV aP fS fA fB fT fV fP kn ln pl wr le on tw hkn) (cwV 0 hts gX5_restore_X5_know rfl rfl rfl (by decide +kernel) ⟨Nat.le_of_ble_eq_true rfl, Nat.le_of_ble_eq_true rfl⟩) (pre_wr hbd hPc hDc (ci := 5) (q0 := 0) rfl rfl) rfl rfl hl.1 rfl (lv_room (Nat.le_of_ble_eq_true rfl)) dX5_restore_25 ⟨Nat.zero_le _, Nat.zero_le _⟩) hP hD hS [0, 1, 2, 3, 4, 5, 6] [] 7 rfl rfl rfl rfl (by decide +kernel) (by decide +kernel) rfl (fun H locs hP hD hS => ?_)
    refine lv_iconst (v := 0) hx hb dX5_restore_28 (by decide) ?_
    refine lv_istore_n (lv' := [(2, .int 0), (0, .ref oM), (1, .int 0)]) hx hb dX5_restore_29 rfl hl (by decide) rfl (fun ls hl => ?_)
    have L_4 : ∀ (nf : Nat) (q : Nat), 360 - q < nf → q ≤ 360 → ∀ (H : Heap) (locs : List Loc) (ls : Array Slot), va_P D vwCl [(oM, .inr (5, [.ref aS, .ref aA, .ref aB, .int (nI (knK kn)), .ref aT, .ref aV, .ref aP, .int (nI ln), .int pl, .int wr, .int le, .int on, .int tw])), (aS, .inl (K 0, 360, .inl (cpB fS fT 0 q))), (aA, .inl (K 0, 360, .inl fA)), (aB, .inl (K 0, 2160, .inl (knB fB fS kn))), (aT, .inl (K 0, 720, .inl fT)), (aV, .inl (K 2, 2, .inl fV)), (aP, .inl (K 0, 80, .inl fP))] H → va_D A [(oM, .inr (5, [.ref aS, .ref aA, .ref aB, .int (nI (knK kn)), .ref aT, .ref aV, .ref aP, .int (nI ln), .int pl, .int wr, .int le, .int on, .int tw])), (aS, .inl (K 0, 360, .inl (cpB fS fT 0 q))), (aA, .inl (K 0, 360, .inl fA)), (aB, .inl (K 0, 2160, .inl (knB fB fS kn))), (aT, .inl (K 0, 720, .inl fT)), (aV, .inl (K 2, 2, .inl fV)), (aP, .inl (K 0, 80, .inl fP))] → va_S A s.heap H locs → lv_has ls 3 [(2, .int (nI q)), (0, .ref oM), (1, .int 0)] → W p l e (headSpec wsX5_restore ({ frames := 7, cells := 0, slots := 0, locals := 155 })).room s m ([.ref oM, .int 0] : List Value).toArray below meth c H locs 0 0 (MQ below (va_Qi (fun r (_ : Unit) => r = (mnS (cpB fS fT 0 360) 0 m_)) (fun _ t => va_P D vwCl [(oM, .inr (5, [.ref aS, .ref aA, .ref aB, .int (nI (knK kn)), .ref aT, .ref aV, .ref aP, .int (nI ln), .int pl, .int wr, .int le, .int on, .int tw])), (aS, .inl (K 0, 360, .inl (cpB fS fT 0 360))), (aA, .inl (K 0, 360, .inl fA)), (aB, .inl (K 0, 2160, .inl (knB fB fS kn))), (aT, .inl (K 0, 720, .inl fT)), (aV, .inl (K 2, 2, .inl fV)), (aP, .inl (K 0, 80, .inl fP))] t.heap) A) ([.ref oM, .int 0] : List Value).toArray s 0 0 A) (F0 m 30 ls []) := by
      intro nf
      induction nf with
      | zero =>
        intro q hm
        exact absurd hm (Nat.not_lt_zero _)
      | succ nf ih =>
        intro q hm hq H locs ls hP hD hS hl
        refine lv_iload_n hx hb dX5_restore_30 rfl (lv_at hl 0 rfl) ?_
        refine lv_sipush (v := 360) hx hb dX5_restore_31 (by decide) ?_
        refine lv_icmp_ge (tgt := 61) hx hb dX5_restore_34 (by decide) (fun c_5 => ?_) (fun c_5 => ?_)
        · skip
          have nc_5 := (nI_leI (a := 360) (b := q) (by omega) (by omega)).mp c_5
          have e9 : q = 360 := by omega
          subst e9
          refine lv_aload_n hx hb dX5_restore_61 rfl (lv_at hl 1 rfl) ?_
          refine lv_iconst (v := 0) hx hb dX5_restore_62 (by decide) ?_
          have hPc := hP.sub (ws' := [(oM, .inr (5, [.ref aS, .ref aA, .ref aB, .int (nI (knK kn)), .ref aT, .ref aV, .ref aP, .int (nI ln), .int pl, .int wr, .int le, .int on, .int tw])), (aS, .inl (K 0, 360, .inl (cpB fS fT 0 360)))]) [0, 1] rfl
          refine vp_callSi (va_Run.run (va_runV (As := [.int 0]) (rest := []) ⟨hx, hb, hml, hown, hts⟩ (c_X5_many l D K oM aS aA aB aT aV aP (cpB fS fT 0 360) (knK kn) ln pl wr le on tw m_ 0 hs1 hm1 hmx) (cwV 1 hts gX5_restore_X5_many rfl rfl rfl (by decide +kernel) ⟨Nat.le_of_ble_eq_true rfl, Nat.le_of_ble_eq_true rfl⟩) (pre_rd hbd hPc (ci := 5) (q0 := 0) rfl rfl) rfl rfl hl.1 rfl (lv_room (Nat.le_of_ble_eq_true rfl)) dX5_restore_63 ⟨Nat.zero_le _, Nat.zero_le _⟩)) (fun r_6 hr_6 => ?_)
          subst hr_6
          have hPf : va_P D vwCl [(oM, .inr (5, [.ref aS, .ref aA, .ref aB, .int (nI (knK kn)), .ref aT, .ref aV, .ref aP, .int (nI ln), .int pl, .int wr, .int le, .int on, .int tw])), (aS, .inl (K 0, 360, .inl (cpB fS fT 0 360))), (aA, .inl (K 0, 360, .inl fA)), (aB, .inl (K 0, 2160, .inl (knB fB fS kn))), (aT, .inl (K 0, 720, .inl fT)), (aV, .inl (K 2, 2, .inl fV)), (aP, .inl (K 0, 80, .inl fP))] H := hP
          exact W.iret hx hb hr (fun t ht hW => ⟨⟨_, (), rfl, rfl, by show va_P D vwCl _ t.heap; rw [ht]; exact hPf⟩, hS.F ht⟩) hS.2.2 dX5_restore_66
        · skip
          have nc_5 : ¬ (360 ≤ q) := fun h => c_5 ((nI_leI (a := 360) (b := q) (by omega) (by omega)).mpr h)
          refine lv_aload_n hx hb dX5_restore_37 rfl (lv_at hl 1 rfl) ?_
          refine va_get (D := D) (ci := 5) (v := .ref aS) (C := RX5) (T := TX5) (N := 13) hx hb hts hin5 hown hK hP 0 rfl rfl 0 (by decide) (hts _ (List.mem_of_getElem? (i := 2) rfl)) (fun _ h9 => h9) rfl dX5_restore_38 ?_
          refine lv_iload_n hx hb dX5_restore_41 rfl (lv_at hl 0 rfl) ?_
          refine lv_aload_n hx hb dX5_restore_42 rfl (lv_at hl 1 rfl) ?_
          refine va_get (D := D) (ci := 5) (v := .ref aT) (C := RX5) (T := TX5) (N := 13) hx hb hts hin5 hown hK hP 0 rfl rfl 4 (by decide) (hts _ (List.mem_of_getElem? (i := 3) rfl)) (fun _ h9 => h9) rfl dX5_restore_43 ?_
          refine lv_sipush (v := 360) hx hb dX5_restore_46 (by decide) ?_
          refine lv_iload_n hx hb dX5_restore_49 rfl (lv_at hl 2 rfl) ?_
          refine lv_imul hx hb dX5_restore_50 ?_
          refine st1 (y := 0) (by decide) ?_
          refine lv_iload_n hx hb dX5_restore_51 rfl (lv_at hl 0 rfl) ?_
          refine lv_iadd hx hb dX5_restore_52 ?_
          refine st1 (nI_add 0 q) ?_
          refine n_iald hx hb hK hP 4 0 rfl rfl (0 + q) (by omega) (by decide) dX5_restore_53 ?_
          refine n_iast hx hb hK hP hD hS 1 0 rfl rfl q (by omega) (by decide) dX5_restore_54 (fun H locs hP hD hS => ?_)
          have hP : va_P D vwCl [(oM, .inr (5, [.ref aS, .ref aA, .ref aB, .int (nI (knK kn)), .ref aT, .ref aV, .ref aP, .int (nI ln), .int pl, .int wr, .int le, .int on, .int tw])), (aS, .inl (K 0, 360, .inl (upd (cpB fS fT 0 q) q (fT (0 + q))))), (aA, .inl (K 0, 360, .inl fA)), (aB, .inl (K 0, 2160, .inl (knB fB fS kn))), (aT, .inl (K 0, 720, .inl fT)), (aV, .inl (K 2, 2, .inl fV)), (aP, .inl (K 0, 80, .inl fP))] H := hP
          have hD : va_D A [(oM, .inr (5, [.ref aS, .ref aA, .ref aB, .int (nI (knK kn)), .ref aT, .ref aV, .ref aP, .int (nI ln), .int pl, .int wr, .int le, .int on, .int tw])), (aS, .inl (K 0, 360, .inl (upd (cpB fS fT 0 q) q (fT (0 + q))))), (aA, .inl (K 0, 360, .inl fA)), (aB, .inl (K 0, 2160, .inl (knB fB fS kn))), (aT, .inl (K 0, 720, .inl fT)), (aV, .inl (K 2, 2, .inl fV)), (aP, .inl (K 0, 80, .inl fP))] := hD
          refine lv_iinc (v := (nI (q + 1))) (lv' := [(2, .int (nI (q + 1))), (0, .ref oM), (1, .int 0)]) hx hb dX5_restore_55 hl (k := 0) rfl (nI_add q 1) (by decide) rfl (fun ls hl => ?_)
          refine lv_goto (tgt := 30) hx hb dX5_restore_58 (by decide) ?_
          exact ih (q + 1) (by omega) (by omega) _ _ _ hP hD hS (lv_sub hl [0, 1, 2] rfl)
    exact L_4 _ 0 (Nat.lt_succ_self _) (by omega) H locs ls hP hD hS (lv_sub hl [0, 1, 2] rfl)
  exact K0 s.heap [] ls hP hD hS hl
set_option maxHeartbeats 4000000 in
set_option maxRecDepth 100000 in
theorem c_X5_save_1 (l : Launch) (D : va_G) (K : Nat → ClassId) (oM : Nat) (aS : Nat) (aA : Nat) (aB : Nat) (aT : Nat) (aV : Nat) (aP : Nat) (fS : Nat → Int32) (fA : Nat → Int32) (fB : Nat → Int32) (fT : Nat → Int32) (fV : Nat → Int32) (fP : Nat → Int32) (kn : Nat) (ln : Nat) (pl : Int32) (wr : Int32) (le : Int32) (on : Int32) (tw : Int32) (n : Nat) (hs0 : fS 0 = nI n) (hn1 : 1 ≤ n) (hn : n ≤ 32) : Met l yX5_save wsX5_save ({ frames := 7, cells := 0, slots := 0, locals := 155 }) (va_Pc [.ref oM, .int 1] (fun U => Bd D K U ∧ va_P D vwCl [(oM, .inr (5, [.ref aS, .ref aA, .ref aB, .int (nI kn), .ref aT, .ref aV, .ref aP, .int (nI ln), .int pl, .int wr, .int le, .int on, .int tw])), (aS, .inl (K 0, 360, .inl fS)), (aA, .inl (K 0, 360, .inl fA)), (aB, .inl (K 0, 2160, .inl fB)), (aT, .inl (K 0, 720, .inl fT)), (aV, .inl (K 2, 2, .inl fV)), (aP, .inl (K 0, 80, .inl fP))] U.heap ∧ va_D (fun _ => True) [(oM, .inr (5, [.ref aS, .ref aA, .ref aB, .int (nI kn), .ref aT, .ref aV, .ref aP, .int (nI ln), .int pl, .int wr, .int le, .int on, .int tw])), (aS, .inl (K 0, 360, .inl fS)), (aA, .inl (K 0, 360, .inl fA)), (aB, .inl (K 0, 2160, .inl fB)), (aT, .inl (K 0, 720, .inl fT)), (aV, .inl (K 2, 2, .inl fV)), (aP, .inl (K 0, 80, .inl fP))])) (va_Qi (fun r (_ : Unit) => r = (mnS fS 0 n)) (fun _ t => va_P D vwCl [(oM, .inr (5, [.ref aS, .ref aA, .ref aB, .int (nI kn), .ref aT, .ref aV, .ref aP, .int (nI ln), .int pl, .int wr, .int le, .int on, .int tw])), (aS, .inl (K 0, 360, .inl fS)), (aA, .inl (K 0, 360, .inl fA)), (aB, .inl (K 0, 2160, .inl fB)), (aT, .inl (K 0, 720, .inl (cpA fT fS 360 360))), (aV, .inl (K 2, 2, .inl (upd fV 1 (vp_nar .boolean 1)))), (aP, .inl (K 0, 80, .inl fP))] t.heap) (inW [(oM, .inr (5, [.ref aS, .ref aA, .ref aB, .int (nI kn), .ref aT, .ref aV, .ref aP, .int (nI ln), .int pl, .int wr, .int le, .int on, .int tw])), (aS, .inl (K 0, 360, .inl fS)), (aA, .inl (K 0, 360, .inl fA)), (aB, .inl (K 0, 2160, .inl fB)), (aT, .inl (K 0, 720, .inl fT)), (aV, .inl (K 2, 2, .inl fV)), (aP, .inl (K 0, 80, .inl fP))])) 0 0 (inW [(oM, .inr (5, [.ref aS, .ref aA, .ref aB, .int (nI kn), .ref aT, .ref aV, .ref aP, .int (nI ln), .int pl, .int wr, .int le, .int on, .int tw])), (aS, .inl (K 0, 360, .inl fS)), (aA, .inl (K 0, 360, .inl fA)), (aB, .inl (K 0, 2160, .inl fB)), (aT, .inl (K 0, 720, .inl fT)), (aV, .inl (K 2, 2, .inl fV)), (aP, .inl (K 0, 80, .inl fP))]) := by
  refine Met.ofW (cc := cX5_save) (maxL := 3) (ret := (some .int)) (by decide) rfl ?_
  intro p e s m args below meth c s₁ B hml hv
  obtain ⟨rfl, hbd, hP, hD0⟩ := hv
  have hx := B.exec
  have hb := B.bytes
  have hr := B.returns
  have hts := atoms_spec (ws := wsX5_save) B.pre
  have hown : s.vm.findClass RX5 = some m.cls := findClass_of_methodNamed B.named
  have hlocks := B.notSynchronized
  have hK := hbd.2
  have hP : va_P D vwCl [(oM, .inr (5, [.ref aS, .ref aA, .ref aB, .int (nI kn), .ref aT, .ref aV, .ref aP, .int (nI ln), .int pl, .int wr, .int le, .int on, .int tw])), (aS, .inl (K 0, 360, .inl fS)), (aA, .inl (K 0, 360, .inl fA)), (aB, .inl (K 0, 2160, .inl fB)), (aT, .inl (K 0, 720, .inl fT)), (aV, .inl (K 2, 2, .inl fV)), (aP, .inl (K 0, 80, .inl fP))] s.heap := hP
  have hin5 : ∀ w ∈ wsX50, w ∈ wsX5_save := by decide +kernel
  have hD := hD0.own
  generalize hAe : inW [(oM, .inr (5, [.ref aS, .ref aA, .ref aB, .int (nI kn), .ref aT, .ref aV, .ref aP, .int (nI ln), .int pl, .int wr, .int le, .int on, .int tw])), (aS, .inl (K 0, 360, .inl fS)), (aA, .inl (K 0, 360, .inl fA)), (aB, .inl (K 0, 2160, .inl fB)), (aT, .inl (K 0, 720, .inl fT)), (aV, .inl (K 2, 2, .inl fV)), (aP, .inl (K 0, 80, .inl fP))] = A at hD ⊢
  have hS : va_S A s.heap s.heap [] := va_S.rf
  have hl := lv_entry ([.ref oM, .int 1]) (n := 3) (Nat.le_of_ble_eq_true rfl)
  rw [lg_entry_eq]
  generalize (lg_sl ([.ref oM, .int 1]) ++ List.replicate (3 - (lg_sl ([.ref oM, .int 1])).length) Slot.unset).toArray = ls at hl ⊢
  have hl : lv_has ls 3 [(0, .ref oM), (1, .int 1)] := hl
  have K0 : ∀ (H : Heap) (locs : List Loc) (ls : Array Slot), va_P D vwCl [(oM, .inr (5, [.ref aS, .ref aA, .ref aB, .int (nI kn), .ref aT, .ref aV, .ref aP, .int (nI ln), .int pl, .int wr, .int le, .int on, .int tw])), (aS, .inl (K 0, 360, .inl fS)), (aA, .inl (K 0, 360, .inl fA)), (aB, .inl (K 0, 2160, .inl fB)), (aT, .inl (K 0, 720, .inl fT)), (aV, .inl (K 2, 2, .inl fV)), (aP, .inl (K 0, 80, .inl fP))] H → va_D A [(oM, .inr (5, [.ref aS, .ref aA, .ref aB, .int (nI kn), .ref aT, .ref aV, .ref aP, .int (nI ln), .int pl, .int wr, .int le, .int on, .int tw])), (aS, .inl (K 0, 360, .inl fS)), (aA, .inl (K 0, 360, .inl fA)), (aB, .inl (K 0, 2160, .inl fB)), (aT, .inl (K 0, 720, .inl fT)), (aV, .inl (K 2, 2, .inl fV)), (aP, .inl (K 0, 80, .inl fP))] → va_S A s.heap H locs → lv_has ls 3 [(0, .ref oM), (1, .int 1)] → W p l e (headSpec wsX5_save ({ frames := 7, cells := 0, slots := 0, locals := 155 })).room s m ([.ref oM, .int 1] : List Value).toArray below meth c H locs 0 0 (MQ below (va_Qi (fun r (_ : Unit) => r = (mnS fS 0 n)) (fun _ t => va_P D vwCl [(oM, .inr (5, [.ref aS, .ref aA, .ref aB, .int (nI kn), .ref aT, .ref aV, .ref aP, .int (nI ln), .int pl, .int wr, .int le, .int on, .int tw])), (aS, .inl (K 0, 360, .inl fS)), (aA, .inl (K 0, 360, .inl fA)), (aB, .inl (K 0, 2160, .inl fB)), (aT, .inl (K 0, 720, .inl (cpA fT fS 360 360))), (aV, .inl (K 2, 2, .inl (upd fV 1 (vp_nar .boolean 1)))), (aP, .inl (K 0, 80, .inl fP))] t.heap) A) ([.ref oM, .int 1] : List Value).toArray s 0 0 A) (F0 m 0 ls []) := by
    intro H locs ls hP hD hS hl
    refine lv_iload_n hx hb dX5_save_0 rfl (lv_at hl 1 rfl) ?_
    refine lv_iconst (v := 0) hx hb dX5_save_1 (by decide) ?_
    refine lv_iconst (v := 1) hx hb dX5_save_2 (by decide) ?_
    refine vp_callSi (va_Run.run (va_runS (As := [.int 1, .int 0, .int 1]) (rest := []) ⟨hx, hb, hml, hown, hts⟩ (c_X5_in_ok l D K 1 0 1 (by decide) (by decide)) (va_cwS 3 hts gX5_save_X5_in rfl rfl rfl (by decide +kernel) ⟨Nat.le_of_ble_eq_true rfl, Nat.le_of_ble_eq_true rfl⟩) pre_s0 rfl rfl hl.1 rfl (lv_room (Nat.le_of_ble_eq_true rfl)) dX5_save_3 ⟨Nat.zero_le _, Nat.zero_le _⟩)) (fun r_1 hr_1 => ?_)
    subst hr_1
    refine lv_if_ne (tgt := 12) hx hb dX5_save_6 (by decide) (fun _ => ?_) (fun h_2 => absurd h_2 (by decide))
    refine lv_iconst (v := 0) hx hb dX5_save_12 (by decide) ?_
    refine lv_istore_n (lv' := [(2, .int 0), (0, .ref oM), (1, .int 1)]) hx hb dX5_save_13 rfl hl (by decide) rfl (fun ls hl => ?_)
    have L_3 : ∀ (nf : Nat) (q : Nat), 360 - q < nf → q ≤ 360 → ∀ (H : Heap) (locs : List Loc) (ls : Array Slot), va_P D vwCl [(oM, .inr (5, [.ref aS, .ref aA, .ref aB, .int (nI kn), .ref aT, .ref aV, .ref aP, .int (nI ln), .int pl, .int wr, .int le, .int on, .int tw])), (aS, .inl (K 0, 360, .inl fS)), (aA, .inl (K 0, 360, .inl fA)), (aB, .inl (K 0, 2160, .inl fB)), (aT, .inl (K 0, 720, .inl (cpA fT fS 360 q))), (aV, .inl (K 2, 2, .inl fV)), (aP, .inl (K 0, 80, .inl fP))] H → va_D A [(oM, .inr (5, [.ref aS, .ref aA, .ref aB, .int (nI kn), .ref aT, .ref aV, .ref aP, .int (nI ln), .int pl, .int wr, .int le, .int on, .int tw])), (aS, .inl (K 0, 360, .inl fS)), (aA, .inl (K 0, 360, .inl fA)), (aB, .inl (K 0, 2160, .inl fB)), (aT, .inl (K 0, 720, .inl (cpA fT fS 360 q))), (aV, .inl (K 2, 2, .inl fV)), (aP, .inl (K 0, 80, .inl fP))] → va_S A s.heap H locs → lv_has ls 3 [(2, .int (nI q)), (0, .ref oM), (1, .int 1)] → W p l e (headSpec wsX5_save ({ frames := 7, cells := 0, slots := 0, locals := 155 })).room s m ([.ref oM, .int 1] : List Value).toArray below meth c H locs 0 0 (MQ below (va_Qi (fun r (_ : Unit) => r = (mnS fS 0 n)) (fun _ t => va_P D vwCl [(oM, .inr (5, [.ref aS, .ref aA, .ref aB, .int (nI kn), .ref aT, .ref aV, .ref aP, .int (nI ln), .int pl, .int wr, .int le, .int on, .int tw])), (aS, .inl (K 0, 360, .inl fS)), (aA, .inl (K 0, 360, .inl fA)), (aB, .inl (K 0, 2160, .inl fB)), (aT, .inl (K 0, 720, .inl (cpA fT fS 360 360))), (aV, .inl (K 2, 2, .inl (upd fV 1 (vp_nar .boolean 1)))), (aP, .inl (K 0, 80, .inl fP))] t.heap) A) ([.ref oM, .int 1] : List Value).toArray s 0 0 A) (F0 m 14 ls []) := by
      intro nf
      induction nf with
      | zero =>
        intro q hm
        exact absurd hm (Nat.not_lt_zero _)
      | succ nf ih =>
        intro q hm hq H locs ls hP hD hS hl
        refine lv_iload_n hx hb dX5_save_14 rfl (lv_at hl 0 rfl) ?_
        refine lv_sipush (v := 360) hx hb dX5_save_15 (by decide) ?_
        refine lv_icmp_ge (tgt := 45) hx hb dX5_save_18 (by decide) (fun c_4 => ?_) (fun c_4 => ?_)
        · skip
          have nc_4 := (nI_leI (a := 360) (b := q) (by omega) (by omega)).mp c_4
          have e9 : q = 360 := by omega
          subst e9
          refine lv_aload_n hx hb dX5_save_45 rfl (lv_at hl 1 rfl) ?_
          refine va_get (D := D) (ci := 5) (v := .ref aV) (C := RX5) (T := TX5) (N := 13) hx hb hts hin5 hown hK hP 0 rfl rfl 5 (by decide) (hts _ (List.mem_of_getElem? (i := 3) rfl)) (fun _ h9 => h9) rfl dX5_save_46 ?_
          refine lv_iload_n hx hb dX5_save_49 rfl (lv_at hl 2 rfl) ?_
          refine lv_iconst (v := 1) hx hb dX5_save_50 (by decide) ?_
          refine n_zast hx hb hK hP hD hS 5 2 rfl rfl 1 (by omega) (by decide) dX5_save_51 (fun H locs hP hD hS => ?_)
          have hP : va_P D vwCl [(oM, .inr (5, [.ref aS, .ref aA, .ref aB, .int (nI kn), .ref aT, .ref aV, .ref aP, .int (nI ln), .int pl, .int wr, .int le, .int on, .int tw])), (aS, .inl (K 0, 360, .inl fS)), (aA, .inl (K 0, 360, .inl fA)), (aB, .inl (K 0, 2160, .inl fB)), (aT, .inl (K 0, 720, .inl (cpA fT fS 360 360))), (aV, .inl (K 2, 2, .inl (upd fV 1 (vp_nar .boolean 1)))), (aP, .inl (K 0, 80, .inl fP))] H := hP
          have hD : va_D A [(oM, .inr (5, [.ref aS, .ref aA, .ref aB, .int (nI kn), .ref aT, .ref aV, .ref aP, .int (nI ln), .int pl, .int wr, .int le, .int on, .int tw])), (aS, .inl (K 0, 360, .inl fS)), (aA, .inl (K 0, 360, .inl fA)), (aB, .inl (K 0, 2160, .inl fB)), (aT, .inl (K 0, 720, .inl (cpA fT fS 360 360))), (aV, .inl (K 2, 2, .inl (upd fV 1 (vp_nar .boolean 1)))), (aP, .inl (K 0, 80, .inl fP))] := hD
          refine lv_aload_n hx hb dX5_save_52 rfl (lv_at hl 1 rfl) ?_
          refine lv_iconst (v := 0) hx hb dX5_save_53 (by decide) ?_
          have hPc := hP.sub (ws' := [(oM, .inr (5, [.ref aS, .ref aA, .ref aB, .int (nI kn), .ref aT, .ref aV, .ref aP, .int (nI ln), .int pl, .int wr, .int le, .int on, .int tw])), (aS, .inl (K 0, 360, .inl fS))]) [0, 1] rfl
          refine vp_callSi (va_Run.run (va_runV (As := [.int 0]) (rest := []) ⟨hx, hb, hml, hown, hts⟩ (c_X5_many l D K oM aS aA aB aT aV aP fS kn ln pl wr le on tw n 0 hs0 hn1 hn) (cwV 1 hts gX5_save_X5_many rfl rfl rfl (by decide +kernel) ⟨Nat.le_of_ble_eq_true rfl, Nat.le_of_ble_eq_true rfl⟩) (pre_rd hbd hPc (ci := 5) (q0 := 0) rfl rfl) rfl rfl hl.1 rfl (lv_room (Nat.le_of_ble_eq_true rfl)) dX5_save_54 ⟨Nat.zero_le _, Nat.zero_le _⟩)) (fun r_5 hr_5 => ?_)
          subst hr_5
          have hPf : va_P D vwCl [(oM, .inr (5, [.ref aS, .ref aA, .ref aB, .int (nI kn), .ref aT, .ref aV, .ref aP, .int (nI ln), .int pl, .int wr, .int le, .int on, .int tw])), (aS, .inl (K 0, 360, .inl fS)), (aA, .inl (K 0, 360, .inl fA)), (aB, .inl (K 0, 2160, .inl fB)), (aT, .inl (K 0, 720, .inl (cpA fT fS 360 360))), (aV, .inl (K 2, 2, .inl (upd fV 1 (vp_nar .boolean 1)))), (aP, .inl (K 0, 80, .inl fP))] H := hP
          exact W.iret hx hb hr (fun t ht hW => ⟨⟨_, (), rfl, rfl, by show va_P D vwCl _ t.heap; rw [ht]; exact hPf⟩, hS.F ht⟩) hS.2.2 dX5_save_57
        · skip
          have nc_4 : ¬ (360 ≤ q) := fun h => c_4 ((nI_leI (a := 360) (b := q) (by omega) (by omega)).mpr h)
          refine lv_aload_n hx hb dX5_save_21 rfl (lv_at hl 1 rfl) ?_
          refine va_get (D := D) (ci := 5) (v := .ref aT) (C := RX5) (T := TX5) (N := 13) hx hb hts hin5 hown hK hP 0 rfl rfl 4 (by decide) (hts _ (List.mem_of_getElem? (i := 1) rfl)) (fun _ h9 => h9) rfl dX5_save_22 ?_
          refine lv_sipush (v := 360) hx hb dX5_save_25 (by decide) ?_
          refine lv_iload_n hx hb dX5_save_28 rfl (lv_at hl 2 rfl) ?_
          refine lv_imul hx hb dX5_save_29 ?_
          refine st1 (y := 360) (by decide) ?_
          refine lv_iload_n hx hb dX5_save_30 rfl (lv_at hl 0 rfl) ?_
          refine lv_iadd hx hb dX5_save_31 ?_
          refine st1 (nI_add 360 q) ?_
          refine lv_aload_n hx hb dX5_save_32 rfl (lv_at hl 1 rfl) ?_
          refine va_get (D := D) (ci := 5) (v := .ref aS) (C := RX5) (T := TX5) (N := 13) hx hb hts hin5 hown hK hP 0 rfl rfl 0 (by decide) (hts _ (List.mem_of_getElem? (i := 2) rfl)) (fun _ h9 => h9) rfl dX5_save_33 ?_
          refine lv_iload_n hx hb dX5_save_36 rfl (lv_at hl 0 rfl) ?_
          refine n_iald hx hb hK hP 1 0 rfl rfl q (by omega) (by decide) dX5_save_37 ?_
          refine n_iast hx hb hK hP hD hS 4 0 rfl rfl (360 + q) (by omega) (by decide) dX5_save_38 (fun H locs hP hD hS => ?_)
          have hP : va_P D vwCl [(oM, .inr (5, [.ref aS, .ref aA, .ref aB, .int (nI kn), .ref aT, .ref aV, .ref aP, .int (nI ln), .int pl, .int wr, .int le, .int on, .int tw])), (aS, .inl (K 0, 360, .inl fS)), (aA, .inl (K 0, 360, .inl fA)), (aB, .inl (K 0, 2160, .inl fB)), (aT, .inl (K 0, 720, .inl (upd (cpA fT fS 360 q) (360 + q) (fS q)))), (aV, .inl (K 2, 2, .inl fV)), (aP, .inl (K 0, 80, .inl fP))] H := hP
          have hD : va_D A [(oM, .inr (5, [.ref aS, .ref aA, .ref aB, .int (nI kn), .ref aT, .ref aV, .ref aP, .int (nI ln), .int pl, .int wr, .int le, .int on, .int tw])), (aS, .inl (K 0, 360, .inl fS)), (aA, .inl (K 0, 360, .inl fA)), (aB, .inl (K 0, 2160, .inl fB)), (aT, .inl (K 0, 720, .inl (upd (cpA fT fS 360 q) (360 + q) (fS q)))), (aV, .inl (K 2, 2, .inl fV)), (aP, .inl (K 0, 80, .inl fP))] := hD
          refine lv_iinc (v := (nI (q + 1))) (lv' := [(2, .int (nI (q + 1))), (0, .ref oM), (1, .int 1)]) hx hb dX5_save_39 hl (k := 0) rfl (nI_add q 1) (by decide) rfl (fun ls hl => ?_)
          refine lv_goto (tgt := 14) hx hb dX5_save_42 (by decide) ?_
          exact ih (q + 1) (by omega) (by omega) _ _ _ hP hD hS (lv_sub hl [0, 1, 2] rfl)
    exact L_3 _ 0 (Nat.lt_succ_self _) (by omega) H locs ls hP hD hS (lv_sub hl [0, 1, 2] rfl)
  exact K0 s.heap [] ls hP hD hS hl
set_option maxHeartbeats 4000000 in
set_option maxRecDepth 100000 in
theorem c_X5_restore_10 (l : Launch) (D : va_G) (K : Nat → ClassId) (oM : Nat) (aS : Nat) (aA : Nat) (aB : Nat) (aT : Nat) (aV : Nat) (aP : Nat) (fS : Nat → Int32) (fA : Nat → Int32) (fB : Nat → Int32) (fT : Nat → Int32) (fV : Nat → Int32) (fP : Nat → Int32) (kn : Nat) (ln : Nat) (pl : Int32) (wr : Int32) (le : Int32) (on : Int32) (tw : Int32) (hz : fV 1 = 0) : Met l yX5_restore wsX5_restore ({ frames := 1, cells := 0, slots := 0, locals := 22 }) (va_Pc [.ref oM, .int 1] (fun U => Bd D K U ∧ va_P D vwCl [(oM, .inr (5, [.ref aS, .ref aA, .ref aB, .int (nI kn), .ref aT, .ref aV, .ref aP, .int (nI ln), .int pl, .int wr, .int le, .int on, .int tw])), (aS, .inl (K 0, 360, .inl fS)), (aA, .inl (K 0, 360, .inl fA)), (aB, .inl (K 0, 2160, .inl fB)), (aT, .inl (K 0, 720, .inl fT)), (aV, .inl (K 2, 2, .inl fV)), (aP, .inl (K 0, 80, .inl fP))] U.heap)) (vp_Si (fun r => r = (-5))) 0 0 (fun _ => False) := by
  refine Met.ofW (cc := cX5_restore) (maxL := 3) (ret := (some .int)) (by decide) rfl ?_
  intro p e s m args below meth c s₁ B hml hv
  obtain ⟨rfl, hbd, hP⟩ := hv
  have hx := B.exec
  have hb := B.bytes
  have hr := B.returns
  have hts := atoms_spec (ws := wsX5_restore) B.pre
  have hown : s.vm.findClass RX5 = some m.cls := findClass_of_methodNamed B.named
  have hlocks := B.notSynchronized
  have hK := hbd.2
  have hP : va_P D vwCl [(oM, .inr (5, [.ref aS, .ref aA, .ref aB, .int (nI kn), .ref aT, .ref aV, .ref aP, .int (nI ln), .int pl, .int wr, .int le, .int on, .int tw])), (aS, .inl (K 0, 360, .inl fS)), (aA, .inl (K 0, 360, .inl fA)), (aB, .inl (K 0, 2160, .inl fB)), (aT, .inl (K 0, 720, .inl fT)), (aV, .inl (K 2, 2, .inl fV)), (aP, .inl (K 0, 80, .inl fP))] s.heap := hP
  have hin5 : ∀ w ∈ wsX50, w ∈ wsX5_restore := by decide +kernel
  have hl := lv_entry ([.ref oM, .int 1]) (n := 3) (Nat.le_of_ble_eq_true rfl)
  rw [lg_entry_eq]
  generalize (lg_sl ([.ref oM, .int 1]) ++ List.replicate (3 - (lg_sl ([.ref oM, .int 1])).length) Slot.unset).toArray = ls at hl ⊢
  have hl : lv_has ls 3 [(0, .ref oM), (1, .int 1)] := hl
  refine lv_iload_n hx hb dX5_restore_0 rfl (lv_at hl 1 rfl) ?_
  refine lv_iconst (v := 0) hx hb dX5_restore_1 (by decide) ?_
  refine lv_iconst (v := 1) hx hb dX5_restore_2 (by decide) ?_
  refine vp_callSi (va_Run.run (va_runS (As := [.int 1, .int 0, .int 1]) (rest := []) ⟨hx, hb, hml, hown, hts⟩ (c_X5_in_ok l D K 1 0 1 (by decide) (by decide)) (va_cwS 3 hts gX5_restore_X5_in rfl rfl rfl (by decide +kernel) ⟨Nat.le_of_ble_eq_true rfl, Nat.le_of_ble_eq_true rfl⟩) pre_s0 rfl rfl hl.1 rfl (lv_room (Nat.le_of_ble_eq_true rfl)) dX5_restore_3 ⟨Nat.zero_le _, Nat.zero_le _⟩)) (fun r_1 hr_1 => ?_)
  subst hr_1
  refine lv_if_ne (tgt := 12) hx hb dX5_restore_6 (by decide) (fun _ => ?_) (fun h_2 => absurd h_2 (by decide))
  refine lv_aload_n hx hb dX5_restore_12 rfl (lv_at hl 0 rfl) ?_
  refine va_get (D := D) (ci := 5) (v := .ref aV) (C := RX5) (T := TX5) (N := 13) hx hb hts hin5 hown hK hP 0 rfl rfl 5 (by decide) (hts _ (List.mem_of_getElem? (i := 1) rfl)) (fun _ h9 => h9) rfl dX5_restore_13 ?_
  refine lv_iload_n hx hb dX5_restore_16 rfl (lv_at hl 1 rfl) ?_
  refine n_zald hx hb hK hP 5 2 rfl rfl 1 (by omega) (by decide) dX5_restore_17 ?_
  refine lv_if_ne (tgt := 24) hx hb dX5_restore_18 (by decide) (fun h_3 => absurd hz h_3) (fun _ => ?_)
  refine lv_bipush (v := (-5)) hx hb dX5_restore_21 (by decide) ?_
  exact W.iret hx hb hr (fun t ht hW => ⟨_, rfl, rfl, ht⟩) (fun q hq => absurd hq List.not_mem_nil) dX5_restore_23
set_option maxHeartbeats 4000000 in
set_option maxRecDepth 100000 in
theorem c_X5_restore_11 (l : Launch) (D : va_G) (K : Nat → ClassId) (oM : Nat) (aS : Nat) (aA : Nat) (aB : Nat) (aT : Nat) (aV : Nat) (aP : Nat) (fS : Nat → Int32) (fA : Nat → Int32) (fB : Nat → Int32) (fT : Nat → Int32) (fV : Nat → Int32) (fP : Nat → Int32) (kn : Nat) (ln : Nat) (pl : Int32) (wr : Int32) (le : Int32) (on : Int32) (tw : Int32) (m_ : Nat) (hkn : kn ≤ 6) (hz : ¬ fV 1 = 0) (hs1 : (cpB fS fT 360 360) 0 = nI m_) (hm1 : 1 ≤ m_) (hmx : m_ ≤ 32) : Met l yX5_restore wsX5_restore ({ frames := 7, cells := 0, slots := 0, locals := 155 }) (va_Pc [.ref oM, .int 1] (fun U => Bd D K U ∧ va_P D vwCl [(oM, .inr (5, [.ref aS, .ref aA, .ref aB, .int (nI kn), .ref aT, .ref aV, .ref aP, .int (nI ln), .int pl, .int wr, .int le, .int on, .int tw])), (aS, .inl (K 0, 360, .inl fS)), (aA, .inl (K 0, 360, .inl fA)), (aB, .inl (K 0, 2160, .inl fB)), (aT, .inl (K 0, 720, .inl fT)), (aV, .inl (K 2, 2, .inl fV)), (aP, .inl (K 0, 80, .inl fP))] U.heap ∧ va_D (fun _ => True) [(oM, .inr (5, [.ref aS, .ref aA, .ref aB, .int (nI kn), .ref aT, .ref aV, .ref aP, .int (nI ln), .int pl, .int wr, .int le, .int on, .int tw])), (aS, .inl (K 0, 360, .inl fS)), (aA, .inl (K 0, 360, .inl fA)), (aB, .inl (K 0, 2160, .inl fB)), (aT, .inl (K 0, 720, .inl fT)), (aV, .inl (K 2, 2, .inl fV)), (aP, .inl (K 0, 80, .inl fP))])) (va_Qi (fun r (_ : Unit) => r = (mnS (cpB fS fT 360 360) 0 m_)) (fun _ t => va_P D vwCl [(oM, .inr (5, [.ref aS, .ref aA, .ref aB, .int (nI (knK kn)), .ref aT, .ref aV, .ref aP, .int (nI ln), .int pl, .int wr, .int le, .int on, .int tw])), (aS, .inl (K 0, 360, .inl (cpB fS fT 360 360))), (aA, .inl (K 0, 360, .inl fA)), (aB, .inl (K 0, 2160, .inl (knB fB fS kn))), (aT, .inl (K 0, 720, .inl fT)), (aV, .inl (K 2, 2, .inl fV)), (aP, .inl (K 0, 80, .inl fP))] t.heap) (inW [(oM, .inr (5, [.ref aS, .ref aA, .ref aB, .int (nI kn), .ref aT, .ref aV, .ref aP, .int (nI ln), .int pl, .int wr, .int le, .int on, .int tw])), (aS, .inl (K 0, 360, .inl fS)), (aA, .inl (K 0, 360, .inl fA)), (aB, .inl (K 0, 2160, .inl fB)), (aT, .inl (K 0, 720, .inl fT)), (aV, .inl (K 2, 2, .inl fV)), (aP, .inl (K 0, 80, .inl fP))])) 0 0 (inW [(oM, .inr (5, [.ref aS, .ref aA, .ref aB, .int (nI kn), .ref aT, .ref aV, .ref aP, .int (nI ln), .int pl, .int wr, .int le, .int on, .int tw])), (aS, .inl (K 0, 360, .inl fS)), (aA, .inl (K 0, 360, .inl fA)), (aB, .inl (K 0, 2160, .inl fB)), (aT, .inl (K 0, 720, .inl fT)), (aV, .inl (K 2, 2, .inl fV)), (aP, .inl (K 0, 80, .inl fP))]) := by
  refine Met.ofW (cc := cX5_restore) (maxL := 3) (ret := (some .int)) (by decide) rfl ?_
  intro p e s m args below meth c s₁ B hml hv
  obtain ⟨rfl, hbd, hP, hD0⟩ := hv
  have hx := B.exec
  have hb := B.bytes
  have hr := B.returns
  have hts := atoms_spec (ws := wsX5_restore) B.pre
  have hown : s.vm.findClass RX5 = some m.cls := findClass_of_methodNamed B.named
  have hlocks := B.notSynchronized
  have hK := hbd.2
  have hP : va_P D vwCl [(oM, .inr (5, [.ref aS, .ref aA, .ref aB, .int (nI kn), .ref aT, .ref aV, .ref aP, .int (nI ln), .int pl, .int wr, .int le, .int on, .int tw])), (aS, .inl (K 0, 360, .inl fS)), (aA, .inl (K 0, 360, .inl fA)), (aB, .inl (K 0, 2160, .inl fB)), (aT, .inl (K 0, 720, .inl fT)), (aV, .inl (K 2, 2, .inl fV)), (aP, .inl (K 0, 80, .inl fP))] s.heap := hP
  have hin5 : ∀ w ∈ wsX50, w ∈ wsX5_restore := by decide +kernel
  have hD := hD0.own
  generalize hAe : inW [(oM, .inr (5, [.ref aS, .ref aA, .ref aB, .int (nI kn), .ref aT, .ref aV, .ref aP, .int (nI ln), .int pl, .int wr, .int le, .int on, .int tw])), (aS, .inl (K 0, 360, .inl fS)), (aA, .inl (K 0, 360, .inl fA)), (aB, .inl (K 0, 2160, .inl fB)), (aT, .inl (K 0, 720, .inl fT)), (aV, .inl (K 2, 2, .inl fV)), (aP, .inl (K 0, 80, .inl fP))] = A at hD ⊢
  have hS : va_S A s.heap s.heap [] := va_S.rf
  have hl := lv_entry ([.ref oM, .int 1]) (n := 3) (Nat.le_of_ble_eq_true rfl)
  rw [lg_entry_eq]
  generalize (lg_sl ([.ref oM, .int 1]) ++ List.replicate (3 - (lg_sl ([.ref oM, .int 1])).length) Slot.unset).toArray = ls at hl ⊢
  have hl : lv_has ls 3 [(0, .ref oM), (1, .int 1)] := hl
  have K0 : ∀ (H : Heap) (locs : List Loc) (ls : Array Slot), va_P D vwCl [(oM, .inr (5, [.ref aS, .ref aA, .ref aB, .int (nI kn), .ref aT, .ref aV, .ref aP, .int (nI ln), .int pl, .int wr, .int le, .int on, .int tw])), (aS, .inl (K 0, 360, .inl fS)), (aA, .inl (K 0, 360, .inl fA)), (aB, .inl (K 0, 2160, .inl fB)), (aT, .inl (K 0, 720, .inl fT)), (aV, .inl (K 2, 2, .inl fV)), (aP, .inl (K 0, 80, .inl fP))] H → va_D A [(oM, .inr (5, [.ref aS, .ref aA, .ref aB, .int (nI kn), .ref aT, .ref aV, .ref aP, .int (nI ln), .int pl, .int wr, .int le, .int on, .int tw])), (aS, .inl (K 0, 360, .inl fS)), (aA, .inl (K 0, 360, .inl fA)), (aB, .inl (K 0, 2160, .inl fB)), (aT, .inl (K 0, 720, .inl fT)), (aV, .inl (K 2, 2, .inl fV)), (aP, .inl (K 0, 80, .inl fP))] → va_S A s.heap H locs → lv_has ls 3 [(0, .ref oM), (1, .int 1)] → W p l e (headSpec wsX5_restore ({ frames := 7, cells := 0, slots := 0, locals := 155 })).room s m ([.ref oM, .int 1] : List Value).toArray below meth c H locs 0 0 (MQ below (va_Qi (fun r (_ : Unit) => r = (mnS (cpB fS fT 360 360) 0 m_)) (fun _ t => va_P D vwCl [(oM, .inr (5, [.ref aS, .ref aA, .ref aB, .int (nI (knK kn)), .ref aT, .ref aV, .ref aP, .int (nI ln), .int pl, .int wr, .int le, .int on, .int tw])), (aS, .inl (K 0, 360, .inl (cpB fS fT 360 360))), (aA, .inl (K 0, 360, .inl fA)), (aB, .inl (K 0, 2160, .inl (knB fB fS kn))), (aT, .inl (K 0, 720, .inl fT)), (aV, .inl (K 2, 2, .inl fV)), (aP, .inl (K 0, 80, .inl fP))] t.heap) A) ([.ref oM, .int 1] : List Value).toArray s 0 0 A) (F0 m 0 ls []) := by
    intro H locs ls hP hD hS hl
    refine lv_iload_n hx hb dX5_restore_0 rfl (lv_at hl 1 rfl) ?_
    refine lv_iconst (v := 0) hx hb dX5_restore_1 (by decide) ?_
    refine lv_iconst (v := 1) hx hb dX5_restore_2 (by decide) ?_
    refine vp_callSi (va_Run.run (va_runS (As := [.int 1, .int 0, .int 1]) (rest := []) ⟨hx, hb, hml, hown, hts⟩ (c_X5_in_ok l D K 1 0 1 (by decide) (by decide)) (va_cwS 3 hts gX5_restore_X5_in rfl rfl rfl (by decide +kernel) ⟨Nat.le_of_ble_eq_true rfl, Nat.le_of_ble_eq_true rfl⟩) pre_s0 rfl rfl hl.1 rfl (lv_room (Nat.le_of_ble_eq_true rfl)) dX5_restore_3 ⟨Nat.zero_le _, Nat.zero_le _⟩)) (fun r_1 hr_1 => ?_)
    subst hr_1
    refine lv_if_ne (tgt := 12) hx hb dX5_restore_6 (by decide) (fun _ => ?_) (fun h_2 => absurd h_2 (by decide))
    refine lv_aload_n hx hb dX5_restore_12 rfl (lv_at hl 0 rfl) ?_
    refine va_get (D := D) (ci := 5) (v := .ref aV) (C := RX5) (T := TX5) (N := 13) hx hb hts hin5 hown hK hP 0 rfl rfl 5 (by decide) (hts _ (List.mem_of_getElem? (i := 1) rfl)) (fun _ h9 => h9) rfl dX5_restore_13 ?_
    refine lv_iload_n hx hb dX5_restore_16 rfl (lv_at hl 1 rfl) ?_
    refine n_zald hx hb hK hP 5 2 rfl rfl 1 (by omega) (by decide) dX5_restore_17 ?_
    refine lv_if_ne (tgt := 24) hx hb dX5_restore_18 (by decide) (fun _ => ?_) (fun h_3 => absurd h_3 hz)
    refine lv_aload_n hx hb dX5_restore_24 rfl (lv_at hl 0 rfl) ?_
    have hPc := hP.sub (ws' := [(oM, .inr (5, [.ref aS, .ref aA, .ref aB, .int (nI kn), .ref aT, .ref aV, .ref aP, .int (nI ln), .int pl, .int wr, .int le, .int on, .int tw])), (aS, .inl (K 0, 360, .inl fS)), (aA, .inl (K 0, 360, .inl fA)), (aB, .inl (K 0, 2160, .inl fB)), (aT, .inl (K 0, 720, .inl fT)), (aV, .inl (K 2, 2, .inl fV)), (aP, .inl (K 0, 80, .inl fP))]) [0, 1, 2, 3, 4, 5, 6] rfl
    have hDc : va_D (fun _ => True) [(oM, .inr (5, [.ref aS, .ref aA, .ref aB, .int (nI kn), .ref aT, .ref aV, .ref aP, .int (nI ln), .int pl, .int wr, .int le, .int on, .int tw])), (aS, .inl (K 0, 360, .inl fS)), (aA, .inl (K 0, 360, .inl fA)), (aB, .inl (K 0, 2160, .inl fB)), (aT, .inl (K 0, 720, .inl fT)), (aV, .inl (K 2, 2, .inl fV)), (aP, .inl (K 0, 80, .inl fP))] := (hD.sub (ws' := [(oM, .inr (5, [.ref aS, .ref aA, .ref aB, .int (nI kn), .ref aT, .ref aV, .ref aP, .int (nI ln), .int pl, .int wr, .int le, .int on, .int tw])), (aS, .inl (K 0, 360, .inl fS)), (aA, .inl (K 0, 360, .inl fA)), (aB, .inl (K 0, 2160, .inl fB)), (aT, .inl (K 0, 720, .inl fT)), (aV, .inl (K 2, 2, .inl fV)), (aP, .inl (K 0, 80, .inl fP))]) [0, 1, 2, 3, 4, 5, 6] (by decide +kernel) rfl).weaken (fun _ _ _ _ => trivial)
    refine kw_v (W1 := [(oM, .inr (5, [.ref aS, .ref aA, .ref aB, .int (nI (knK kn)), .ref aT, .ref aV, .ref aP, .int (nI ln), .int pl, .int wr, .int le, .int on, .int tw])), (aS, .inl (K 0, 360, .inl fS)), (aA, .inl (K 0, 360, .inl fA)), (aB, .inl (K 0, 2160, .inl (knB fB fS kn))), (aT, .inl (K 0, 720, .inl fT)), (aV, .inl (K 2, 2, .inl fV)), (aP, .inl (K 0, 80, .inl fP))]) (w1 := [(oM, .inr (5, [.ref aS, .ref aA, .ref aB, .int (nI (knK kn)), .ref aT, .ref aV, .ref aP, .int (nI ln), .int pl, .int wr, .int le, .int on, .int tw])), (aS, .inl (K 0, 360, .inl fS)), (aA, .inl (K 0, 360, .inl fA)), (aB, .inl (K 0, 2160, .inl (knB fB fS kn))), (aT, .inl (K 0, 720, .inl fT)), (aV, .inl (K 2, 2, .inl fV)), (aP, .inl (K 0, 80, .inl fP))]) (va_runV (As := []) (rest := []) ⟨hx, hb, hml, hown, hts⟩ (c_X5_know l D K oM aS aA aB aT aV aP fS fA fB fT fV fP kn ln pl wr le on tw hkn) (cwV 0 hts gX5_restore_X5_know rfl rfl rfl (by decide +kernel) ⟨Nat.le_of_ble_eq_true rfl, Nat.le_of_ble_eq_true rfl⟩) (pre_wr hbd hPc hDc (ci := 5) (q0 := 0) rfl rfl) rfl rfl hl.1 rfl (lv_room (Nat.le_of_ble_eq_true rfl)) dX5_restore_25 ⟨Nat.zero_le _, Nat.zero_le _⟩) hP hD hS [0, 1, 2, 3, 4, 5, 6] [] 7 rfl rfl rfl rfl (by decide +kernel) (by decide +kernel) rfl (fun H locs hP hD hS => ?_)
    refine lv_iconst (v := 0) hx hb dX5_restore_28 (by decide) ?_
    refine lv_istore_n (lv' := [(2, .int 0), (0, .ref oM), (1, .int 1)]) hx hb dX5_restore_29 rfl hl (by decide) rfl (fun ls hl => ?_)
    have L_4 : ∀ (nf : Nat) (q : Nat), 360 - q < nf → q ≤ 360 → ∀ (H : Heap) (locs : List Loc) (ls : Array Slot), va_P D vwCl [(oM, .inr (5, [.ref aS, .ref aA, .ref aB, .int (nI (knK kn)), .ref aT, .ref aV, .ref aP, .int (nI ln), .int pl, .int wr, .int le, .int on, .int tw])), (aS, .inl (K 0, 360, .inl (cpB fS fT 360 q))), (aA, .inl (K 0, 360, .inl fA)), (aB, .inl (K 0, 2160, .inl (knB fB fS kn))), (aT, .inl (K 0, 720, .inl fT)), (aV, .inl (K 2, 2, .inl fV)), (aP, .inl (K 0, 80, .inl fP))] H → va_D A [(oM, .inr (5, [.ref aS, .ref aA, .ref aB, .int (nI (knK kn)), .ref aT, .ref aV, .ref aP, .int (nI ln), .int pl, .int wr, .int le, .int on, .int tw])), (aS, .inl (K 0, 360, .inl (cpB fS fT 360 q))), (aA, .inl (K 0, 360, .inl fA)), (aB, .inl (K 0, 2160, .inl (knB fB fS kn))), (aT, .inl (K 0, 720, .inl fT)), (aV, .inl (K 2, 2, .inl fV)), (aP, .inl (K 0, 80, .inl fP))] → va_S A s.heap H locs → lv_has ls 3 [(2, .int (nI q)), (0, .ref oM), (1, .int 1)] → W p l e (headSpec wsX5_restore ({ frames := 7, cells := 0, slots := 0, locals := 155 })).room s m ([.ref oM, .int 1] : List Value).toArray below meth c H locs 0 0 (MQ below (va_Qi (fun r (_ : Unit) => r = (mnS (cpB fS fT 360 360) 0 m_)) (fun _ t => va_P D vwCl [(oM, .inr (5, [.ref aS, .ref aA, .ref aB, .int (nI (knK kn)), .ref aT, .ref aV, .ref aP, .int (nI ln), .int pl, .int wr, .int le, .int on, .int tw])), (aS, .inl (K 0, 360, .inl (cpB fS fT 360 360))), (aA, .inl (K 0, 360, .inl fA)), (aB, .inl (K 0, 2160, .inl (knB fB fS kn))), (aT, .inl (K 0, 720, .inl fT)), (aV, .inl (K 2, 2, .inl fV)), (aP, .inl (K 0, 80, .inl fP))] t.heap) A) ([.ref oM, .int 1] : List Value).toArray s 0 0 A) (F0 m 30 ls []) := by
      intro nf
      induction nf with
      | zero =>
        intro q hm
        exact absurd hm (Nat.not_lt_zero _)
      | succ nf ih =>
        intro q hm hq H locs ls hP hD hS hl
        refine lv_iload_n hx hb dX5_restore_30 rfl (lv_at hl 0 rfl) ?_
        refine lv_sipush (v := 360) hx hb dX5_restore_31 (by decide) ?_
        refine lv_icmp_ge (tgt := 61) hx hb dX5_restore_34 (by decide) (fun c_5 => ?_) (fun c_5 => ?_)
        · skip
          have nc_5 := (nI_leI (a := 360) (b := q) (by omega) (by omega)).mp c_5
          have e9 : q = 360 := by omega
          subst e9
          refine lv_aload_n hx hb dX5_restore_61 rfl (lv_at hl 1 rfl) ?_
          refine lv_iconst (v := 0) hx hb dX5_restore_62 (by decide) ?_
          have hPc := hP.sub (ws' := [(oM, .inr (5, [.ref aS, .ref aA, .ref aB, .int (nI (knK kn)), .ref aT, .ref aV, .ref aP, .int (nI ln), .int pl, .int wr, .int le, .int on, .int tw])), (aS, .inl (K 0, 360, .inl (cpB fS fT 360 360)))]) [0, 1] rfl
          refine vp_callSi (va_Run.run (va_runV (As := [.int 0]) (rest := []) ⟨hx, hb, hml, hown, hts⟩ (c_X5_many l D K oM aS aA aB aT aV aP (cpB fS fT 360 360) (knK kn) ln pl wr le on tw m_ 0 hs1 hm1 hmx) (cwV 1 hts gX5_restore_X5_many rfl rfl rfl (by decide +kernel) ⟨Nat.le_of_ble_eq_true rfl, Nat.le_of_ble_eq_true rfl⟩) (pre_rd hbd hPc (ci := 5) (q0 := 0) rfl rfl) rfl rfl hl.1 rfl (lv_room (Nat.le_of_ble_eq_true rfl)) dX5_restore_63 ⟨Nat.zero_le _, Nat.zero_le _⟩)) (fun r_6 hr_6 => ?_)
          subst hr_6
          have hPf : va_P D vwCl [(oM, .inr (5, [.ref aS, .ref aA, .ref aB, .int (nI (knK kn)), .ref aT, .ref aV, .ref aP, .int (nI ln), .int pl, .int wr, .int le, .int on, .int tw])), (aS, .inl (K 0, 360, .inl (cpB fS fT 360 360))), (aA, .inl (K 0, 360, .inl fA)), (aB, .inl (K 0, 2160, .inl (knB fB fS kn))), (aT, .inl (K 0, 720, .inl fT)), (aV, .inl (K 2, 2, .inl fV)), (aP, .inl (K 0, 80, .inl fP))] H := hP
          exact W.iret hx hb hr (fun t ht hW => ⟨⟨_, (), rfl, rfl, by show va_P D vwCl _ t.heap; rw [ht]; exact hPf⟩, hS.F ht⟩) hS.2.2 dX5_restore_66
        · skip
          have nc_5 : ¬ (360 ≤ q) := fun h => c_5 ((nI_leI (a := 360) (b := q) (by omega) (by omega)).mpr h)
          refine lv_aload_n hx hb dX5_restore_37 rfl (lv_at hl 1 rfl) ?_
          refine va_get (D := D) (ci := 5) (v := .ref aS) (C := RX5) (T := TX5) (N := 13) hx hb hts hin5 hown hK hP 0 rfl rfl 0 (by decide) (hts _ (List.mem_of_getElem? (i := 2) rfl)) (fun _ h9 => h9) rfl dX5_restore_38 ?_
          refine lv_iload_n hx hb dX5_restore_41 rfl (lv_at hl 0 rfl) ?_
          refine lv_aload_n hx hb dX5_restore_42 rfl (lv_at hl 1 rfl) ?_
          refine va_get (D := D) (ci := 5) (v := .ref aT) (C := RX5) (T := TX5) (N := 13) hx hb hts hin5 hown hK hP 0 rfl rfl 4 (by decide) (hts _ (List.mem_of_getElem? (i := 3) rfl)) (fun _ h9 => h9) rfl dX5_restore_43 ?_
          refine lv_sipush (v := 360) hx hb dX5_restore_46 (by decide) ?_
          refine lv_iload_n hx hb dX5_restore_49 rfl (lv_at hl 2 rfl) ?_
          refine lv_imul hx hb dX5_restore_50 ?_
          refine st1 (y := 360) (by decide) ?_
          refine lv_iload_n hx hb dX5_restore_51 rfl (lv_at hl 0 rfl) ?_
          refine lv_iadd hx hb dX5_restore_52 ?_
          refine st1 (nI_add 360 q) ?_
          refine n_iald hx hb hK hP 4 0 rfl rfl (360 + q) (by omega) (by decide) dX5_restore_53 ?_
          refine n_iast hx hb hK hP hD hS 1 0 rfl rfl q (by omega) (by decide) dX5_restore_54 (fun H locs hP hD hS => ?_)
          have hP : va_P D vwCl [(oM, .inr (5, [.ref aS, .ref aA, .ref aB, .int (nI (knK kn)), .ref aT, .ref aV, .ref aP, .int (nI ln), .int pl, .int wr, .int le, .int on, .int tw])), (aS, .inl (K 0, 360, .inl (upd (cpB fS fT 360 q) q (fT (360 + q))))), (aA, .inl (K 0, 360, .inl fA)), (aB, .inl (K 0, 2160, .inl (knB fB fS kn))), (aT, .inl (K 0, 720, .inl fT)), (aV, .inl (K 2, 2, .inl fV)), (aP, .inl (K 0, 80, .inl fP))] H := hP
          have hD : va_D A [(oM, .inr (5, [.ref aS, .ref aA, .ref aB, .int (nI (knK kn)), .ref aT, .ref aV, .ref aP, .int (nI ln), .int pl, .int wr, .int le, .int on, .int tw])), (aS, .inl (K 0, 360, .inl (upd (cpB fS fT 360 q) q (fT (360 + q))))), (aA, .inl (K 0, 360, .inl fA)), (aB, .inl (K 0, 2160, .inl (knB fB fS kn))), (aT, .inl (K 0, 720, .inl fT)), (aV, .inl (K 2, 2, .inl fV)), (aP, .inl (K 0, 80, .inl fP))] := hD
          refine lv_iinc (v := (nI (q + 1))) (lv' := [(2, .int (nI (q + 1))), (0, .ref oM), (1, .int 1)]) hx hb dX5_restore_55 hl (k := 0) rfl (nI_add q 1) (by decide) rfl (fun ls hl => ?_)
          refine lv_goto (tgt := 30) hx hb dX5_restore_58 (by decide) ?_
          exact ih (q + 1) (by omega) (by omega) _ _ _ hP hD hS (lv_sub hl [0, 1, 2] rfl)
    exact L_4 _ 0 (Nat.lt_succ_self _) (by omega) H locs ls hP hD hS (lv_sub hl [0, 1, 2] rfl)
  exact K0 s.heap [] ls hP hD hS hl
set_option maxHeartbeats 4000000 in
set_option maxRecDepth 100000 in
theorem c_X5_save_no (l : Launch) (D : va_G) (K : Nat → ClassId) (oM : Nat) (aS : Nat) (aA : Nat) (aB : Nat) (aT : Nat) (aV : Nat) (aP : Nat) (fS : Nat → Int32) (kn : Nat) (ln : Nat) (pl : Int32) (wr : Int32) (le : Int32) (on : Int32) (tw : Int32) (xs : Int32) (hs : xs < 0 ∨ 1 < xs) : Met l yX5_save wsX5_save ({ frames := 1, cells := 0, slots := 0, locals := 22 }) (va_Pc [.ref oM, .int xs] (fun U => Bd D K U ∧ va_P D vwCl [(oM, .inr (5, [.ref aS, .ref aA, .ref aB, .int (nI kn), .ref aT, .ref aV, .ref aP, .int (nI ln), .int pl, .int wr, .int le, .int on, .int tw])), (aS, .inl (K 0, 360, .inl fS))] U.heap)) (vp_Si (fun r => r = (-2))) 0 0 (fun _ => False) := by
  refine Met.ofW (cc := cX5_save) (maxL := 3) (ret := (some .int)) (by decide) rfl ?_
  intro p e s m args below meth c s₁ B hml hv
  obtain ⟨rfl, hbd, hP⟩ := hv
  have hx := B.exec
  have hb := B.bytes
  have hr := B.returns
  have hts := atoms_spec (ws := wsX5_save) B.pre
  have hown : s.vm.findClass RX5 = some m.cls := findClass_of_methodNamed B.named
  have hlocks := B.notSynchronized
  have hK := hbd.2
  have hP : va_P D vwCl [(oM, .inr (5, [.ref aS, .ref aA, .ref aB, .int (nI kn), .ref aT, .ref aV, .ref aP, .int (nI ln), .int pl, .int wr, .int le, .int on, .int tw])), (aS, .inl (K 0, 360, .inl fS))] s.heap := hP
  have hl := lv_entry ([.ref oM, .int xs]) (n := 3) (Nat.le_of_ble_eq_true rfl)
  rw [lg_entry_eq]
  generalize (lg_sl ([.ref oM, .int xs]) ++ List.replicate (3 - (lg_sl ([.ref oM, .int xs])).length) Slot.unset).toArray = ls at hl ⊢
  have hl : lv_has ls 3 [(0, .ref oM), (1, .int xs)] := hl
  refine lv_iload_n hx hb dX5_save_0 rfl (lv_at hl 1 rfl) ?_
  refine lv_iconst (v := 0) hx hb dX5_save_1 (by decide) ?_
  refine lv_iconst (v := 1) hx hb dX5_save_2 (by decide) ?_
  refine vp_callSi (va_Run.run (va_runS (As := [.int xs, .int 0, .int 1]) (rest := []) ⟨hx, hb, hml, hown, hts⟩ (c_X5_in_no l D K xs 0 1 hs) (va_cwS 3 hts gX5_save_X5_in rfl rfl rfl (by decide +kernel) ⟨Nat.le_of_ble_eq_true rfl, Nat.le_of_ble_eq_true rfl⟩) pre_s0 rfl rfl hl.1 rfl (lv_room (Nat.le_of_ble_eq_true rfl)) dX5_save_3 ⟨Nat.zero_le _, Nat.zero_le _⟩)) (fun r_1 hr_1 => ?_)
  subst hr_1
  refine lv_if_ne (tgt := 12) hx hb dX5_save_6 (by decide) (fun h_2 => absurd (by decide) h_2) (fun _ => ?_)
  refine lv_bipush (v := (-2)) hx hb dX5_save_9 (by decide) ?_
  exact W.iret hx hb hr (fun t ht hW => ⟨_, rfl, rfl, ht⟩) (fun q hq => absurd hq List.not_mem_nil) dX5_save_11
set_option maxHeartbeats 4000000 in
set_option maxRecDepth 100000 in
theorem c_X5_restore_no (l : Launch) (D : va_G) (K : Nat → ClassId) (oM : Nat) (aS : Nat) (aA : Nat) (aB : Nat) (aT : Nat) (aV : Nat) (aP : Nat) (fS : Nat → Int32) (kn : Nat) (ln : Nat) (pl : Int32) (wr : Int32) (le : Int32) (on : Int32) (tw : Int32) (xs : Int32) (hs : xs < 0 ∨ 1 < xs) : Met l yX5_restore wsX5_restore ({ frames := 1, cells := 0, slots := 0, locals := 22 }) (va_Pc [.ref oM, .int xs] (fun U => Bd D K U ∧ va_P D vwCl [(oM, .inr (5, [.ref aS, .ref aA, .ref aB, .int (nI kn), .ref aT, .ref aV, .ref aP, .int (nI ln), .int pl, .int wr, .int le, .int on, .int tw])), (aS, .inl (K 0, 360, .inl fS))] U.heap)) (vp_Si (fun r => r = (-2))) 0 0 (fun _ => False) := by
  refine Met.ofW (cc := cX5_restore) (maxL := 3) (ret := (some .int)) (by decide) rfl ?_
  intro p e s m args below meth c s₁ B hml hv
  obtain ⟨rfl, hbd, hP⟩ := hv
  have hx := B.exec
  have hb := B.bytes
  have hr := B.returns
  have hts := atoms_spec (ws := wsX5_restore) B.pre
  have hown : s.vm.findClass RX5 = some m.cls := findClass_of_methodNamed B.named
  have hlocks := B.notSynchronized
  have hK := hbd.2
  have hP : va_P D vwCl [(oM, .inr (5, [.ref aS, .ref aA, .ref aB, .int (nI kn), .ref aT, .ref aV, .ref aP, .int (nI ln), .int pl, .int wr, .int le, .int on, .int tw])), (aS, .inl (K 0, 360, .inl fS))] s.heap := hP
  have hl := lv_entry ([.ref oM, .int xs]) (n := 3) (Nat.le_of_ble_eq_true rfl)
  rw [lg_entry_eq]
  generalize (lg_sl ([.ref oM, .int xs]) ++ List.replicate (3 - (lg_sl ([.ref oM, .int xs])).length) Slot.unset).toArray = ls at hl ⊢
  have hl : lv_has ls 3 [(0, .ref oM), (1, .int xs)] := hl
  refine lv_iload_n hx hb dX5_restore_0 rfl (lv_at hl 1 rfl) ?_
  refine lv_iconst (v := 0) hx hb dX5_restore_1 (by decide) ?_
  refine lv_iconst (v := 1) hx hb dX5_restore_2 (by decide) ?_
  refine vp_callSi (va_Run.run (va_runS (As := [.int xs, .int 0, .int 1]) (rest := []) ⟨hx, hb, hml, hown, hts⟩ (c_X5_in_no l D K xs 0 1 hs) (va_cwS 3 hts gX5_restore_X5_in rfl rfl rfl (by decide +kernel) ⟨Nat.le_of_ble_eq_true rfl, Nat.le_of_ble_eq_true rfl⟩) pre_s0 rfl rfl hl.1 rfl (lv_room (Nat.le_of_ble_eq_true rfl)) dX5_restore_3 ⟨Nat.zero_le _, Nat.zero_le _⟩)) (fun r_1 hr_1 => ?_)
  subst hr_1
  refine lv_if_ne (tgt := 12) hx hb dX5_restore_6 (by decide) (fun h_2 => absurd (by decide) h_2) (fun _ => ?_)
  refine lv_bipush (v := (-2)) hx hb dX5_restore_9 (by decide) ?_
  exact W.iret hx hb hr (fun t ht hW => ⟨_, rfl, rfl, ht⟩) (fun q hq => absurd hq List.not_mem_nil) dX5_restore_11
set_option maxHeartbeats 4000000 in
set_option maxRecDepth 100000 in
theorem c_X5_wipe (l : Launch) (D : va_G) (K : Nat → ClassId) (oM : Nat) (aS : Nat) (aA : Nat) (aB : Nat) (aT : Nat) (aV : Nat) (aP : Nat) (fS : Nat → Int32) (fA : Nat → Int32) (fB : Nat → Int32) (fT : Nat → Int32) (fV : Nat → Int32) (fP : Nat → Int32) (kn : Nat) (ln : Nat) (pl : Int32) (wr : Int32) (le : Int32) (on : Int32) (tw : Int32)  : Met l yX5_wipe wsX5_wipe ({ frames := 0, cells := 0, slots := 0, locals := 0 }) (va_Pc [.ref oM] (fun U => Bd D K U ∧ va_P D vwCl [(oM, .inr (5, [.ref aS, .ref aA, .ref aB, .int (nI kn), .ref aT, .ref aV, .ref aP, .int (nI ln), .int pl, .int wr, .int le, .int on, .int tw])), (aS, .inl (K 0, 360, .inl fS)), (aA, .inl (K 0, 360, .inl fA)), (aB, .inl (K 0, 2160, .inl fB)), (aT, .inl (K 0, 720, .inl fT)), (aV, .inl (K 2, 2, .inl fV)), (aP, .inl (K 0, 80, .inl fP))] U.heap ∧ va_D (fun _ => True) [(oM, .inr (5, [.ref aS, .ref aA, .ref aB, .int (nI kn), .ref aT, .ref aV, .ref aP, .int (nI ln), .int pl, .int wr, .int le, .int on, .int tw])), (aS, .inl (K 0, 360, .inl fS)), (aA, .inl (K 0, 360, .inl fA)), (aB, .inl (K 0, 2160, .inl fB)), (aT, .inl (K 0, 720, .inl fT)), (aV, .inl (K 2, 2, .inl fV)), (aP, .inl (K 0, 80, .inl fP))])) (va_Qi (fun r (_ : Unit) => r = (nI ln)) (fun _ t => va_P D vwCl [(oM, .inr (5, [.ref aS, .ref aA, .ref aB, .int (nI kn), .ref aT, .ref aV, .ref aP, .int 0, .int pl, .int wr, .int le, .int on, .int tw])), (aS, .inl (K 0, 360, .inl fS)), (aA, .inl (K 0, 360, .inl fA)), (aB, .inl (K 0, 2160, .inl fB)), (aT, .inl (K 0, 720, .inl fT)), (aV, .inl (K 2, 2, .inl fV)), (aP, .inl (K 0, 80, .inl fP))] t.heap) (inW [(oM, .inr (5, [.ref aS, .ref aA, .ref aB, .int (nI kn), .ref aT, .ref aV, .ref aP, .int (nI ln), .int pl, .int wr, .int le, .int on, .int tw])), (aS, .inl (K 0, 360, .inl fS)), (aA, .inl (K 0, 360, .inl fA)), (aB, .inl (K 0, 2160, .inl fB)), (aT, .inl (K 0, 720, .inl fT)), (aV, .inl (K 2, 2, .inl fV)), (aP, .inl (K 0, 80, .inl fP))])) 0 0 (inW [(oM, .inr (5, [.ref aS, .ref aA, .ref aB, .int (nI kn), .ref aT, .ref aV, .ref aP, .int (nI ln), .int pl, .int wr, .int le, .int on, .int tw])), (aS, .inl (K 0, 360, .inl fS)), (aA, .inl (K 0, 360, .inl fA)), (aB, .inl (K 0, 2160, .inl fB)), (aT, .inl (K 0, 720, .inl fT)), (aV, .inl (K 2, 2, .inl fV)), (aP, .inl (K 0, 80, .inl fP))]) := by
  refine Met.ofW (cc := cX5_wipe) (maxL := 2) (ret := (some .int)) (by decide) rfl ?_
  intro p e s m args below meth c s₁ B hml hv
  obtain ⟨rfl, hbd, hP, hD0⟩ := hv
  have hx := B.exec
  have hb := B.bytes
  have hr := B.returns
  have hts := atoms_spec (ws := wsX5_wipe) B.pre
  have hown : s.vm.findClass RX5 = some m.cls := findClass_of_methodNamed B.named
  have hlocks := B.notSynchronized
  have hK := hbd.2
  have hP : va_P D vwCl [(oM, .inr (5, [.ref aS, .ref aA, .ref aB, .int (nI kn), .ref aT, .ref aV, .ref aP, .int (nI ln), .int pl, .int wr, .int le, .int on, .int tw])), (aS, .inl (K 0, 360, .inl fS)), (aA, .inl (K 0, 360, .inl fA)), (aB, .inl (K 0, 2160, .inl fB)), (aT, .inl (K 0, 720, .inl fT)), (aV, .inl (K 2, 2, .inl fV)), (aP, .inl (K 0, 80, .inl fP))] s.heap := hP
  have hin5 : ∀ w ∈ wsX50, w ∈ wsX5_wipe := by decide +kernel
  have hD := hD0.own
  generalize hAe : inW [(oM, .inr (5, [.ref aS, .ref aA, .ref aB, .int (nI kn), .ref aT, .ref aV, .ref aP, .int (nI ln), .int pl, .int wr, .int le, .int on, .int tw])), (aS, .inl (K 0, 360, .inl fS)), (aA, .inl (K 0, 360, .inl fA)), (aB, .inl (K 0, 2160, .inl fB)), (aT, .inl (K 0, 720, .inl fT)), (aV, .inl (K 2, 2, .inl fV)), (aP, .inl (K 0, 80, .inl fP))] = A at hD ⊢
  have hS : va_S A s.heap s.heap [] := va_S.rf
  have hl := lv_entry ([.ref oM]) (n := 2) (Nat.le_of_ble_eq_true rfl)
  rw [lg_entry_eq]
  generalize (lg_sl ([.ref oM]) ++ List.replicate (2 - (lg_sl ([.ref oM])).length) Slot.unset).toArray = ls at hl ⊢
  have hl : lv_has ls 2 [(0, .ref oM)] := hl
  have K0 : ∀ (H : Heap) (locs : List Loc) (ls : Array Slot), va_P D vwCl [(oM, .inr (5, [.ref aS, .ref aA, .ref aB, .int (nI kn), .ref aT, .ref aV, .ref aP, .int (nI ln), .int pl, .int wr, .int le, .int on, .int tw])), (aS, .inl (K 0, 360, .inl fS)), (aA, .inl (K 0, 360, .inl fA)), (aB, .inl (K 0, 2160, .inl fB)), (aT, .inl (K 0, 720, .inl fT)), (aV, .inl (K 2, 2, .inl fV)), (aP, .inl (K 0, 80, .inl fP))] H → va_D A [(oM, .inr (5, [.ref aS, .ref aA, .ref aB, .int (nI kn), .ref aT, .ref aV, .ref aP, .int (nI ln), .int pl, .int wr, .int le, .int on, .int tw])), (aS, .inl (K 0, 360, .inl fS)), (aA, .inl (K 0, 360, .inl fA)), (aB, .inl (K 0, 2160, .inl fB)), (aT, .inl (K 0, 720, .inl fT)), (aV, .inl (K 2, 2, .inl fV)), (aP, .inl (K 0, 80, .inl fP))] → va_S A s.heap H locs → lv_has ls 2 [(0, .ref oM)] → W p l e (headSpec wsX5_wipe ({ frames := 0, cells := 0, slots := 0, locals := 0 })).room s m ([.ref oM] : List Value).toArray below meth c H locs 0 0 (MQ below (va_Qi (fun r (_ : Unit) => r = (nI ln)) (fun _ t => va_P D vwCl [(oM, .inr (5, [.ref aS, .ref aA, .ref aB, .int (nI kn), .ref aT, .ref aV, .ref aP, .int 0, .int pl, .int wr, .int le, .int on, .int tw])), (aS, .inl (K 0, 360, .inl fS)), (aA, .inl (K 0, 360, .inl fA)), (aB, .inl (K 0, 2160, .inl fB)), (aT, .inl (K 0, 720, .inl fT)), (aV, .inl (K 2, 2, .inl fV)), (aP, .inl (K 0, 80, .inl fP))] t.heap) A) ([.ref oM] : List Value).toArray s 0 0 A) (F0 m 0 ls []) := by
    intro H locs ls hP hD hS hl
    refine lv_aload_n hx hb dX5_wipe_0 rfl (lv_at hl 0 rfl) ?_
    refine va_get (D := D) (ci := 5) (v := .int (nI ln)) (C := RX5) (T := TX5) (N := 13) hx hb hts hin5 hown hK hP 0 rfl rfl 7 (by decide) (hts _ (List.mem_of_getElem? (i := 1) rfl)) (fun _ h9 => h9) rfl dX5_wipe_1 ?_
    refine lv_istore_n (lv' := [(1, .int (nI ln)), (0, .ref oM)]) hx hb dX5_wipe_4 rfl hl (by decide) rfl (fun ls hl => ?_)
    refine lv_aload_n hx hb dX5_wipe_5 rfl (lv_at hl 1 rfl) ?_
    refine lv_iconst (v := 0) hx hb dX5_wipe_6 (by decide) ?_
    refine va_put (D := D) (ci := 5) (v := .int 0) (ty := .int) (C := RX5) (T := TX5) (N := 13) hx hb hts hin5 tyX5 tyX5_ok nmX5 hown hK hP hD hS 0 rfl rfl 7 (by decide) (hts _ (List.mem_of_getElem? (i := 1) rfl)) (fun _ h9 => h9) rfl (by decide +kernel) rfl rfl (Nat.le_of_ble_eq_true rfl) dX5_wipe_7 (fun H locs hP hD hS => ?_)
    have hP : va_P D vwCl [(oM, .inr (5, [.ref aS, .ref aA, .ref aB, .int (nI kn), .ref aT, .ref aV, .ref aP, .int 0, .int pl, .int wr, .int le, .int on, .int tw])), (aS, .inl (K 0, 360, .inl fS)), (aA, .inl (K 0, 360, .inl fA)), (aB, .inl (K 0, 2160, .inl fB)), (aT, .inl (K 0, 720, .inl fT)), (aV, .inl (K 2, 2, .inl fV)), (aP, .inl (K 0, 80, .inl fP))] H := hP
    have hD : va_D A [(oM, .inr (5, [.ref aS, .ref aA, .ref aB, .int (nI kn), .ref aT, .ref aV, .ref aP, .int 0, .int pl, .int wr, .int le, .int on, .int tw])), (aS, .inl (K 0, 360, .inl fS)), (aA, .inl (K 0, 360, .inl fA)), (aB, .inl (K 0, 2160, .inl fB)), (aT, .inl (K 0, 720, .inl fT)), (aV, .inl (K 2, 2, .inl fV)), (aP, .inl (K 0, 80, .inl fP))] := hD
    refine lv_iload_n hx hb dX5_wipe_10 rfl (lv_at hl 0 rfl) ?_
    have hPf : va_P D vwCl [(oM, .inr (5, [.ref aS, .ref aA, .ref aB, .int (nI kn), .ref aT, .ref aV, .ref aP, .int 0, .int pl, .int wr, .int le, .int on, .int tw])), (aS, .inl (K 0, 360, .inl fS)), (aA, .inl (K 0, 360, .inl fA)), (aB, .inl (K 0, 2160, .inl fB)), (aT, .inl (K 0, 720, .inl fT)), (aV, .inl (K 2, 2, .inl fV)), (aP, .inl (K 0, 80, .inl fP))] H := hP
    exact W.iret hx hb hr (fun t ht hW => ⟨⟨_, (), rfl, rfl, by show va_P D vwCl _ t.heap; rw [ht]; exact hPf⟩, hS.F ht⟩) hS.2.2 dX5_wipe_11
  exact K0 s.heap [] ls hP hD hS hl
