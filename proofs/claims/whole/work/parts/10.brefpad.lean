def r_X5_sign (fP : Nat → Int32) (ln : Nat) (po : Nat) : Int32 := (if (nI ln) ≤ (nI po) then 0 else (fP po))
def n_X5_sign_0_8 (fP : Nat → Int32) (ln : Nat) (po : Nat) (wz : Nat) (xl : Int32) (xh : Int32) : Nat := (if (nI wz) = 0 then (if (r_X5_in (if (nI ln) ≤ (nI po) then 0 else (fP po)) xl xh) = 0 then po else po + 1) else po)
def n_X5_sign_0_9 (fP : Nat → Int32) (ln : Nat) (po : Nat) (wz : Nat) (xl : Int32) (xh : Int32) : Nat := (if (nI wz) = 0 then (if (r_X5_in (if (nI ln) ≤ (nI po) then 0 else (fP po)) xl xh) = 0 then 1 else 0) else 1)
set_option maxHeartbeats 4000000 in
set_option maxRecDepth 100000 in
theorem c_X5_sign (l : Launch) (D : va_G) (K : Nat → ClassId) (oM : Nat) (aS : Nat) (aA : Nat) (aB : Nat) (aT : Nat) (aV : Nat) (aP : Nat) (fP : Nat → Int32) (kn : Nat) (ln : Nat) (po : Nat) (wz : Nat) (le : Int32) (on : Int32) (tw : Int32) (xl : Int32) (xh : Int32) (hln : ln ≤ 80) (hpo : po ≤ ln) : Met l yX5_sign wsX5_sign ({ frames := 1, cells := 0, slots := 0, locals := 22 }) (va_Pc [.ref oM, .int xl, .int xh] (fun U => Bd D K U ∧ va_P D vwCl [(oM, .inr (5, [.ref aS, .ref aA, .ref aB, .int (nI kn), .ref aT, .ref aV, .ref aP, .int (nI ln), .int (nI po), .int (nI wz), .int le, .int on, .int tw])), (aP, .inl (K 0, 80, .inl fP))] U.heap ∧ va_D (fun _ => True) [(oM, .inr (5, [.ref aS, .ref aA, .ref aB, .int (nI kn), .ref aT, .ref aV, .ref aP, .int (nI ln), .int (nI po), .int (nI wz), .int le, .int on, .int tw])), (aP, .inl (K 0, 80, .inl fP))])) (va_Qi (fun r (_ : Unit) => r = (r_X5_sign fP ln po)) (fun _ t => va_P D vwCl [(oM, .inr (5, [.ref aS, .ref aA, .ref aB, .int (nI kn), .ref aT, .ref aV, .ref aP, .int (nI ln), .int (nI (n_X5_sign_0_8 fP ln po wz xl xh)), .int (nI (n_X5_sign_0_9 fP ln po wz xl xh)), .int le, .int on, .int tw])), (aP, .inl (K 0, 80, .inl fP))] t.heap) (inW [(oM, .inr (5, [.ref aS, .ref aA, .ref aB, .int (nI kn), .ref aT, .ref aV, .ref aP, .int (nI ln), .int (nI po), .int (nI wz), .int le, .int on, .int tw])), (aP, .inl (K 0, 80, .inl fP))])) 0 0 (inW [(oM, .inr (5, [.ref aS, .ref aA, .ref aB, .int (nI kn), .ref aT, .ref aV, .ref aP, .int (nI ln), .int (nI po), .int (nI wz), .int le, .int on, .int tw])), (aP, .inl (K 0, 80, .inl fP))]) := by
  refine Met.ofW (cc := cX5_sign) (maxL := 4) (ret := (some .int)) (by decide) rfl ?_
  intro p e s m args below meth c s₁ B hml hv
  obtain ⟨rfl, hbd, hP, hD0⟩ := hv
  have hx := B.exec
  have hb := B.bytes
  have hr := B.returns
  have hts := atoms_spec (ws := wsX5_sign) B.pre
  have hown : s.vm.findClass RX5 = some m.cls := findClass_of_methodNamed B.named
  have hlocks := B.notSynchronized
  have hK := hbd.2
  have hP : va_P D vwCl [(oM, .inr (5, [.ref aS, .ref aA, .ref aB, .int (nI kn), .ref aT, .ref aV, .ref aP, .int (nI ln), .int (nI po), .int (nI wz), .int le, .int on, .int tw])), (aP, .inl (K 0, 80, .inl fP))] s.heap := hP
  have hin5 : ∀ w ∈ wsX50, w ∈ wsX5_sign := by decide +kernel
  have hD := hD0.own
  generalize hAe : inW [(oM, .inr (5, [.ref aS, .ref aA, .ref aB, .int (nI kn), .ref aT, .ref aV, .ref aP, .int (nI ln), .int (nI po), .int (nI wz), .int le, .int on, .int tw])), (aP, .inl (K 0, 80, .inl fP))] = A at hD ⊢
  have hS : va_S A s.heap s.heap [] := va_S.rf
  have hl := lv_entry ([.ref oM, .int xl, .int xh]) (n := 4) (Nat.le_of_ble_eq_true rfl)
  rw [lg_entry_eq]
  generalize (lg_sl ([.ref oM, .int xl, .int xh]) ++ List.replicate (4 - (lg_sl ([.ref oM, .int xl, .int xh])).length) Slot.unset).toArray = ls at hl ⊢
  have hl : lv_has ls 4 [(0, .ref oM), (1, .int xl), (2, .int xh)] := hl
  have K0 : ∀ (H : Heap) (locs : List Loc) (ls : Array Slot), va_P D vwCl [(oM, .inr (5, [.ref aS, .ref aA, .ref aB, .int (nI kn), .ref aT, .ref aV, .ref aP, .int (nI ln), .int (nI po), .int (nI wz), .int le, .int on, .int tw])), (aP, .inl (K 0, 80, .inl fP))] H → va_D A [(oM, .inr (5, [.ref aS, .ref aA, .ref aB, .int (nI kn), .ref aT, .ref aV, .ref aP, .int (nI ln), .int (nI po), .int (nI wz), .int le, .int on, .int tw])), (aP, .inl (K 0, 80, .inl fP))] → va_S A s.heap H locs → lv_has ls 4 [(0, .ref oM), (1, .int xl), (2, .int xh)] → W p l e (headSpec wsX5_sign ({ frames := 1, cells := 0, slots := 0, locals := 22 })).room s m ([.ref oM, .int xl, .int xh] : List Value).toArray below meth c H locs 0 0 (MQ below (va_Qi (fun r (_ : Unit) => r = (r_X5_sign fP ln po)) (fun _ t => va_P D vwCl [(oM, .inr (5, [.ref aS, .ref aA, .ref aB, .int (nI kn), .ref aT, .ref aV, .ref aP, .int (nI ln), .int (nI (n_X5_sign_0_8 fP ln po wz xl xh)), .int (nI (n_X5_sign_0_9 fP ln po wz xl xh)), .int le, .int on, .int tw])), (aP, .inl (K 0, 80, .inl fP))] t.heap) A) ([.ref oM, .int xl, .int xh] : List Value).toArray s 0 0 A) (F0 m 0 ls []) := by
    intro H locs ls hP hD hS hl
    refine lv_aload_n hx hb dX5_sign_0 rfl (lv_at hl 0 rfl) ?_
    refine va_get (D := D) (ci := 5) (v := .int (nI po)) (C := RX5) (T := TX5) (N := 13) hx hb hts hin5 hown hK hP 0 rfl rfl 8 (by decide) (hts _ (List.mem_of_getElem? (i := 1) rfl)) (fun _ h9 => h9) rfl dX5_sign_1 ?_
    refine lv_aload_n hx hb dX5_sign_4 rfl (lv_at hl 0 rfl) ?_
    refine va_get (D := D) (ci := 5) (v := .int (nI ln)) (C := RX5) (T := TX5) (N := 13) hx hb hts hin5 hown hK hP 0 rfl rfl 7 (by decide) (hts _ (List.mem_of_getElem? (i := 2) rfl)) (fun _ h9 => h9) rfl dX5_sign_5 ?_
    have K_3 : ∀ (H : Heap) (locs : List Loc) (ls : Array Slot), va_P D vwCl [(oM, .inr (5, [.ref aS, .ref aA, .ref aB, .int (nI kn), .ref aT, .ref aV, .ref aP, .int (nI ln), .int (nI po), .int (nI wz), .int le, .int on, .int tw])), (aP, .inl (K 0, 80, .inl fP))] H → va_D A [(oM, .inr (5, [.ref aS, .ref aA, .ref aB, .int (nI kn), .ref aT, .ref aV, .ref aP, .int (nI ln), .int (nI po), .int (nI wz), .int le, .int on, .int tw])), (aP, .inl (K 0, 80, .inl fP))] → va_S A s.heap H locs → lv_has ls 4 [(0, .ref oM), (1, .int xl), (2, .int xh)] → W p l e (headSpec wsX5_sign ({ frames := 1, cells := 0, slots := 0, locals := 22 })).room s m ([.ref oM, .int xl, .int xh] : List Value).toArray below meth c H locs 0 0 (MQ below (va_Qi (fun r (_ : Unit) => r = (r_X5_sign fP ln po)) (fun _ t => va_P D vwCl [(oM, .inr (5, [.ref aS, .ref aA, .ref aB, .int (nI kn), .ref aT, .ref aV, .ref aP, .int (nI ln), .int (nI (n_X5_sign_0_8 fP ln po wz xl xh)), .int (nI (n_X5_sign_0_9 fP ln po wz xl xh)), .int le, .int on, .int tw])), (aP, .inl (K 0, 80, .inl fP))] t.heap) A) ([.ref oM, .int xl, .int xh] : List Value).toArray s 0 0 A) (F0 m 24 ls [.int (if (nI ln) ≤ (nI po) then 0 else (fP po))]) := by
      intro H locs ls hP hD hS hl
      refine lv_istore_n (lv' := [(3, .int (if (nI ln) ≤ (nI po) then 0 else (fP po))), (0, .ref oM), (1, .int xl), (2, .int xh)]) hx hb dX5_sign_24 rfl hl (by decide) rfl (fun ls hl => ?_)
      refine lv_aload_n hx hb dX5_sign_25 rfl (lv_at hl 1 rfl) ?_
      refine lv_aload_n hx hb dX5_sign_26 rfl (lv_at hl 1 rfl) ?_
      refine va_get (D := D) (ci := 5) (v := .int (nI wz)) (C := RX5) (T := TX5) (N := 13) hx hb hts hin5 hown hK hP 0 rfl rfl 9 (by decide) (hts _ (List.mem_of_getElem? (i := 4) rfl)) (fun _ h9 => h9) rfl dX5_sign_27 ?_
      refine lv_if_ne (tgt := 42) hx hb dX5_sign_30 (by decide) (fun c_4 => ?_) (fun c_4 => ?_)
      · skip
        refine lv_iconst (v := 1) hx hb dX5_sign_42 (by decide) ?_
        refine lv_goto (tgt := 47) hx hb dX5_sign_43 (by decide) ?_
        refine va_put (D := D) (ci := 5) (v := .int 1) (ty := .boolean) (C := RX5) (T := TX5) (N := 13) hx hb hts hin5 tyX5 tyX5_ok nmX5 hown hK hP hD hS 0 rfl rfl 9 (by decide) (hts _ (List.mem_of_getElem? (i := 4) rfl)) (fun _ h9 => h9) rfl (by decide +kernel) rfl rfl (Nat.le_of_ble_eq_true rfl) dX5_sign_47 (fun H locs hP hD hS => ?_)
        have hP : va_P D vwCl [(oM, .inr (5, [.ref aS, .ref aA, .ref aB, .int (nI kn), .ref aT, .ref aV, .ref aP, .int (nI ln), .int (nI po), .int 1, .int le, .int on, .int tw])), (aP, .inl (K 0, 80, .inl fP))] H := hP
        have hD : va_D A [(oM, .inr (5, [.ref aS, .ref aA, .ref aB, .int (nI kn), .ref aT, .ref aV, .ref aP, .int (nI ln), .int (nI po), .int 1, .int le, .int on, .int tw])), (aP, .inl (K 0, 80, .inl fP))] := hD
        refine lv_aload_n hx hb dX5_sign_50 rfl (lv_at hl 1 rfl) ?_
        refine lv_dup hx hb dX5_sign_51 rfl ?_
        refine va_get (D := D) (ci := 5) (v := .int (nI po)) (C := RX5) (T := TX5) (N := 13) hx hb hts hin5 hown hK hP 0 rfl rfl 8 (by decide) (hts _ (List.mem_of_getElem? (i := 1) rfl)) (fun _ h9 => h9) rfl dX5_sign_52 ?_
        refine lv_aload_n hx hb dX5_sign_55 rfl (lv_at hl 1 rfl) ?_
        refine va_get (D := D) (ci := 5) (v := .int 1) (C := RX5) (T := TX5) (N := 13) hx hb hts hin5 hown hK hP 0 rfl rfl 9 (by decide) (hts _ (List.mem_of_getElem? (i := 4) rfl)) (fun _ h9 => h9) rfl dX5_sign_56 ?_
        refine lv_if_eq (tgt := 66) hx hb dX5_sign_59 (by decide) (fun h_5 => absurd h_5 (by decide)) (fun _ => ?_)
        refine lv_iconst (v := 0) hx hb dX5_sign_62 (by decide) ?_
        refine lv_goto (tgt := 67) hx hb dX5_sign_63 (by decide) ?_
        refine lv_iadd hx hb dX5_sign_67 ?_
        refine st1 (y := (nI po)) (nI_add po 0) ?_
        refine va_put (D := D) (ci := 5) (v := .int (nI po)) (ty := .int) (C := RX5) (T := TX5) (N := 13) hx hb hts hin5 tyX5 tyX5_ok nmX5 hown hK hP hD hS 0 rfl rfl 8 (by decide) (hts _ (List.mem_of_getElem? (i := 1) rfl)) (fun _ h9 => h9) rfl (by decide +kernel) rfl rfl (Nat.le_of_ble_eq_true rfl) dX5_sign_68 (fun H locs hP hD hS => ?_)
        have hP : va_P D vwCl [(oM, .inr (5, [.ref aS, .ref aA, .ref aB, .int (nI kn), .ref aT, .ref aV, .ref aP, .int (nI ln), .int (nI po), .int 1, .int le, .int on, .int tw])), (aP, .inl (K 0, 80, .inl fP))] H := hP
        have hD : va_D A [(oM, .inr (5, [.ref aS, .ref aA, .ref aB, .int (nI kn), .ref aT, .ref aV, .ref aP, .int (nI ln), .int (nI po), .int 1, .int le, .int on, .int tw])), (aP, .inl (K 0, 80, .inl fP))] := hD
        refine lv_iload_n hx hb dX5_sign_71 rfl (lv_at hl 0 rfl) ?_
        have e_6 : n_X5_sign_0_8 fP ln po wz xl xh = po := by unfold n_X5_sign_0_8; rw [if_neg c_4]
        have e_7 : n_X5_sign_0_9 fP ln po wz xl xh = 1 := by unfold n_X5_sign_0_9; rw [if_neg c_4]
        have hPf : va_P D vwCl [(oM, .inr (5, [.ref aS, .ref aA, .ref aB, .int (nI kn), .ref aT, .ref aV, .ref aP, .int (nI ln), .int (nI (n_X5_sign_0_8 fP ln po wz xl xh)), .int (nI (n_X5_sign_0_9 fP ln po wz xl xh)), .int le, .int on, .int tw])), (aP, .inl (K 0, 80, .inl fP))] H := (by rw [e_6, e_7]; exact hP)
        exact W.iret hx hb hr (fun t ht hW => ⟨⟨_, (), rfl, (by unfold r_X5_sign; rfl), by show va_P D vwCl _ t.heap; rw [ht]; exact hPf⟩, hS.F ht⟩) hS.2.2 dX5_sign_72
      · skip
        refine lv_iload_n hx hb dX5_sign_33 rfl (lv_at hl 0 rfl) ?_
        refine lv_iload_n hx hb dX5_sign_34 rfl (lv_at hl 2 rfl) ?_
        refine lv_iload_n hx hb dX5_sign_35 rfl (lv_at hl 3 rfl) ?_
        refine vp_callSi (va_Run.run (va_runS (As := [.int (if (nI ln) ≤ (nI po) then 0 else (fP po)), .int xl, .int xh]) (rest := [.ref oM]) ⟨hx, hb, hml, hown, hts⟩ (c_X5_in l D K (if (nI ln) ≤ (nI po) then 0 else (fP po)) xl xh ) (va_cwS 3 hts gX5_sign_X5_in rfl rfl rfl (by decide +kernel) ⟨Nat.le_of_ble_eq_true rfl, Nat.le_of_ble_eq_true rfl⟩) pre_s0 rfl rfl hl.1 rfl (lv_room (Nat.le_of_ble_eq_true rfl)) dX5_sign_36 ⟨Nat.zero_le _, Nat.zero_le _⟩)) (fun r_8 hr_8 => ?_)
        subst hr_8
        refine lv_if_ne (tgt := 46) hx hb dX5_sign_39 (by decide) (fun c_9 => ?_) (fun c_9 => ?_)
        · skip
          refine lv_iconst (v := 0) hx hb dX5_sign_46 (by decide) ?_
          refine va_put (D := D) (ci := 5) (v := .int 0) (ty := .boolean) (C := RX5) (T := TX5) (N := 13) hx hb hts hin5 tyX5 tyX5_ok nmX5 hown hK hP hD hS 0 rfl rfl 9 (by decide) (hts _ (List.mem_of_getElem? (i := 4) rfl)) (fun _ h9 => h9) rfl (by decide +kernel) rfl rfl (Nat.le_of_ble_eq_true rfl) dX5_sign_47 (fun H locs hP hD hS => ?_)
          have hP : va_P D vwCl [(oM, .inr (5, [.ref aS, .ref aA, .ref aB, .int (nI kn), .ref aT, .ref aV, .ref aP, .int (nI ln), .int (nI po), .int 0, .int le, .int on, .int tw])), (aP, .inl (K 0, 80, .inl fP))] H := hP
          have hD : va_D A [(oM, .inr (5, [.ref aS, .ref aA, .ref aB, .int (nI kn), .ref aT, .ref aV, .ref aP, .int (nI ln), .int (nI po), .int 0, .int le, .int on, .int tw])), (aP, .inl (K 0, 80, .inl fP))] := hD
          refine lv_aload_n hx hb dX5_sign_50 rfl (lv_at hl 1 rfl) ?_
          refine lv_dup hx hb dX5_sign_51 rfl ?_
          refine va_get (D := D) (ci := 5) (v := .int (nI po)) (C := RX5) (T := TX5) (N := 13) hx hb hts hin5 hown hK hP 0 rfl rfl 8 (by decide) (hts _ (List.mem_of_getElem? (i := 1) rfl)) (fun _ h9 => h9) rfl dX5_sign_52 ?_
          refine lv_aload_n hx hb dX5_sign_55 rfl (lv_at hl 1 rfl) ?_
          refine va_get (D := D) (ci := 5) (v := .int 0) (C := RX5) (T := TX5) (N := 13) hx hb hts hin5 hown hK hP 0 rfl rfl 9 (by decide) (hts _ (List.mem_of_getElem? (i := 4) rfl)) (fun _ h9 => h9) rfl dX5_sign_56 ?_
          refine lv_if_eq (tgt := 66) hx hb dX5_sign_59 (by decide) (fun _ => ?_) (fun h_10 => absurd (by decide) h_10)
          refine lv_iconst (v := 1) hx hb dX5_sign_66 (by decide) ?_
          refine lv_iadd hx hb dX5_sign_67 ?_
          refine st1 (nI_add po 1) ?_
          refine va_put (D := D) (ci := 5) (v := .int (nI (po + 1))) (ty := .int) (C := RX5) (T := TX5) (N := 13) hx hb hts hin5 tyX5 tyX5_ok nmX5 hown hK hP hD hS 0 rfl rfl 8 (by decide) (hts _ (List.mem_of_getElem? (i := 1) rfl)) (fun _ h9 => h9) rfl (by decide +kernel) rfl rfl (Nat.le_of_ble_eq_true rfl) dX5_sign_68 (fun H locs hP hD hS => ?_)
          have hP : va_P D vwCl [(oM, .inr (5, [.ref aS, .ref aA, .ref aB, .int (nI kn), .ref aT, .ref aV, .ref aP, .int (nI ln), .int (nI (po + 1)), .int 0, .int le, .int on, .int tw])), (aP, .inl (K 0, 80, .inl fP))] H := hP
          have hD : va_D A [(oM, .inr (5, [.ref aS, .ref aA, .ref aB, .int (nI kn), .ref aT, .ref aV, .ref aP, .int (nI ln), .int (nI (po + 1)), .int 0, .int le, .int on, .int tw])), (aP, .inl (K 0, 80, .inl fP))] := hD
          refine lv_iload_n hx hb dX5_sign_71 rfl (lv_at hl 0 rfl) ?_
          have e_11 : n_X5_sign_0_8 fP ln po wz xl xh = po + 1 := by unfold n_X5_sign_0_8; rw [if_pos c_4, if_neg c_9]
          have e_12 : n_X5_sign_0_9 fP ln po wz xl xh = 0 := by unfold n_X5_sign_0_9; rw [if_pos c_4, if_neg c_9]
          have hPf : va_P D vwCl [(oM, .inr (5, [.ref aS, .ref aA, .ref aB, .int (nI kn), .ref aT, .ref aV, .ref aP, .int (nI ln), .int (nI (n_X5_sign_0_8 fP ln po wz xl xh)), .int (nI (n_X5_sign_0_9 fP ln po wz xl xh)), .int le, .int on, .int tw])), (aP, .inl (K 0, 80, .inl fP))] H := (by rw [e_11, e_12]; exact hP)
          exact W.iret hx hb hr (fun t ht hW => ⟨⟨_, (), rfl, (by unfold r_X5_sign; rfl), by show va_P D vwCl _ t.heap; rw [ht]; exact hPf⟩, hS.F ht⟩) hS.2.2 dX5_sign_72
        · skip
          refine lv_iconst (v := 1) hx hb dX5_sign_42 (by decide) ?_
          refine lv_goto (tgt := 47) hx hb dX5_sign_43 (by decide) ?_
          refine va_put (D := D) (ci := 5) (v := .int 1) (ty := .boolean) (C := RX5) (T := TX5) (N := 13) hx hb hts hin5 tyX5 tyX5_ok nmX5 hown hK hP hD hS 0 rfl rfl 9 (by decide) (hts _ (List.mem_of_getElem? (i := 4) rfl)) (fun _ h9 => h9) rfl (by decide +kernel) rfl rfl (Nat.le_of_ble_eq_true rfl) dX5_sign_47 (fun H locs hP hD hS => ?_)
          have hP : va_P D vwCl [(oM, .inr (5, [.ref aS, .ref aA, .ref aB, .int (nI kn), .ref aT, .ref aV, .ref aP, .int (nI ln), .int (nI po), .int 1, .int le, .int on, .int tw])), (aP, .inl (K 0, 80, .inl fP))] H := hP
          have hD : va_D A [(oM, .inr (5, [.ref aS, .ref aA, .ref aB, .int (nI kn), .ref aT, .ref aV, .ref aP, .int (nI ln), .int (nI po), .int 1, .int le, .int on, .int tw])), (aP, .inl (K 0, 80, .inl fP))] := hD
          refine lv_aload_n hx hb dX5_sign_50 rfl (lv_at hl 1 rfl) ?_
          refine lv_dup hx hb dX5_sign_51 rfl ?_
          refine va_get (D := D) (ci := 5) (v := .int (nI po)) (C := RX5) (T := TX5) (N := 13) hx hb hts hin5 hown hK hP 0 rfl rfl 8 (by decide) (hts _ (List.mem_of_getElem? (i := 1) rfl)) (fun _ h9 => h9) rfl dX5_sign_52 ?_
          refine lv_aload_n hx hb dX5_sign_55 rfl (lv_at hl 1 rfl) ?_
          refine va_get (D := D) (ci := 5) (v := .int 1) (C := RX5) (T := TX5) (N := 13) hx hb hts hin5 hown hK hP 0 rfl rfl 9 (by decide) (hts _ (List.mem_of_getElem? (i := 4) rfl)) (fun _ h9 => h9) rfl dX5_sign_56 ?_
          refine lv_if_eq (tgt := 66) hx hb dX5_sign_59 (by decide) (fun h_13 => absurd h_13 (by decide)) (fun _ => ?_)
          refine lv_iconst (v := 0) hx hb dX5_sign_62 (by decide) ?_
          refine lv_goto (tgt := 67) hx hb dX5_sign_63 (by decide) ?_
          refine lv_iadd hx hb dX5_sign_67 ?_
          refine st1 (y := (nI po)) (nI_add po 0) ?_
          refine va_put (D := D) (ci := 5) (v := .int (nI po)) (ty := .int) (C := RX5) (T := TX5) (N := 13) hx hb hts hin5 tyX5 tyX5_ok nmX5 hown hK hP hD hS 0 rfl rfl 8 (by decide) (hts _ (List.mem_of_getElem? (i := 1) rfl)) (fun _ h9 => h9) rfl (by decide +kernel) rfl rfl (Nat.le_of_ble_eq_true rfl) dX5_sign_68 (fun H locs hP hD hS => ?_)
          have hP : va_P D vwCl [(oM, .inr (5, [.ref aS, .ref aA, .ref aB, .int (nI kn), .ref aT, .ref aV, .ref aP, .int (nI ln), .int (nI po), .int 1, .int le, .int on, .int tw])), (aP, .inl (K 0, 80, .inl fP))] H := hP
          have hD : va_D A [(oM, .inr (5, [.ref aS, .ref aA, .ref aB, .int (nI kn), .ref aT, .ref aV, .ref aP, .int (nI ln), .int (nI po), .int 1, .int le, .int on, .int tw])), (aP, .inl (K 0, 80, .inl fP))] := hD
          refine lv_iload_n hx hb dX5_sign_71 rfl (lv_at hl 0 rfl) ?_
          have e_14 : n_X5_sign_0_8 fP ln po wz xl xh = po := by unfold n_X5_sign_0_8; rw [if_pos c_4, if_pos c_9]
          have e_15 : n_X5_sign_0_9 fP ln po wz xl xh = 1 := by unfold n_X5_sign_0_9; rw [if_pos c_4, if_pos c_9]
          have hPf : va_P D vwCl [(oM, .inr (5, [.ref aS, .ref aA, .ref aB, .int (nI kn), .ref aT, .ref aV, .ref aP, .int (nI ln), .int (nI (n_X5_sign_0_8 fP ln po wz xl xh)), .int (nI (n_X5_sign_0_9 fP ln po wz xl xh)), .int le, .int on, .int tw])), (aP, .inl (K 0, 80, .inl fP))] H := (by rw [e_14, e_15]; exact hP)
          exact W.iret hx hb hr (fun t ht hW => ⟨⟨_, (), rfl, (by unfold r_X5_sign; rfl), by show va_P D vwCl _ t.heap; rw [ht]; exact hPf⟩, hS.F ht⟩) hS.2.2 dX5_sign_72
    refine lv_icmp_ge (tgt := 23) hx hb dX5_sign_8 (by decide) (fun c_1 => ?_) (fun c_1 => ?_)
    · skip
      have nc_1 := (nI_leI (a := ln) (b := po) (by omega) (by omega)).mp c_1
      refine lv_iconst (v := 0) hx hb dX5_sign_23 (by decide) ?_
      have e_16 : ((if (nI ln) ≤ (nI po) then 0 else (fP po)) : Int32) = 0 := by rw [if_pos c_1]
      exact W.eq (g2 := (F0 m 24 ls [.int (if (nI ln) ≤ (nI po) then 0 else (fP po))])) (by first | (rw [e_16]; done) | (rw [e_16]; rfl)) (K_3 _ _ _ hP hD hS (lv_sub hl [0, 1, 2] rfl))
    · skip
      have nc_1 : ¬ (ln ≤ po) := fun h => c_1 ((nI_leI (a := ln) (b := po) (by omega) (by omega)).mpr h)
      refine lv_aload_n hx hb dX5_sign_11 rfl (lv_at hl 0 rfl) ?_
      refine va_get (D := D) (ci := 5) (v := .ref aP) (C := RX5) (T := TX5) (N := 13) hx hb hts hin5 hown hK hP 0 rfl rfl 6 (by decide) (hts _ (List.mem_of_getElem? (i := 3) rfl)) (fun _ h9 => h9) rfl dX5_sign_12 ?_
      refine lv_aload_n hx hb dX5_sign_15 rfl (lv_at hl 0 rfl) ?_
      refine va_get (D := D) (ci := 5) (v := .int (nI po)) (C := RX5) (T := TX5) (N := 13) hx hb hts hin5 hown hK hP 0 rfl rfl 8 (by decide) (hts _ (List.mem_of_getElem? (i := 1) rfl)) (fun _ h9 => h9) rfl dX5_sign_16 ?_
      refine n_iald hx hb hK hP 1 0 rfl rfl po (by omega) (by decide) dX5_sign_19 ?_
      refine lv_goto (tgt := 24) hx hb dX5_sign_20 (by decide) ?_
      have e_17 : ((if (nI ln) ≤ (nI po) then 0 else (fP po)) : Int32) = (fP po) := by rw [if_neg c_1]
      exact W.eq (g2 := (F0 m 24 ls [.int (if (nI ln) ≤ (nI po) then 0 else (fP po))])) (by first | (rw [e_17]; done) | (rw [e_17]; rfl)) (K_3 _ _ _ hP hD hS (lv_sub hl [0, 1, 2] rfl))
  exact K0 s.heap [] ls hP hD hS hl
theorem in_0 {xl xh : Int32} (h : 0 < xl) : r_X5_in 0 xl xh = 0 := by
  unfold r_X5_in
  exact if_pos h
theorem sn_le {fP : Nat → Int32} {ln po wz : Nat} {xl xh : Int32} (hx : 0 < xl) (hl : ln ≤ 80) (h : po ≤ ln) : n_X5_sign_0_8 fP ln po wz xl xh ≤ ln := by
  unfold n_X5_sign_0_8
  by_cases c : (nI ln) ≤ (nI po)
  · rw [if_pos c, in_0 hx]
    split <;> exact h
  · have : ¬ ln ≤ po := fun q => c (nI_le q (by omega))
    repeat' split
    all_goals omega
theorem sn_ge {fP : Nat → Int32} {ln po wz : Nat} {xl xh : Int32} : po ≤ n_X5_sign_0_8 fP ln po wz xl xh := by
  unfold n_X5_sign_0_8
  repeat' split
  all_goals omega
theorem sn_1 {fP : Nat → Int32} {ln po wz : Nat} {xl xh : Int32} (h : (nI (n_X5_sign_0_9 fP ln po wz xl xh)) = 0) : n_X5_sign_0_8 fP ln po wz xl xh = po + 1 := by
  unfold n_X5_sign_0_9 at h
  unfold n_X5_sign_0_8
  by_cases a : (nI wz) = 0
  · rw [if_pos a] at h ⊢
    by_cases b : (r_X5_in (if (nI ln) ≤ (nI po) then 0 else (fP po)) xl xh) = 0
    · rw [if_pos b] at h
      exact absurd h (by decide)
    · rw [if_neg b]
  · rw [if_neg a] at h
    exact absurd h (by decide)
theorem ch_lt {fP : Nat → Int32} {ln po : Nat} {x : Int32} (hx : ¬ x = 0) (hl : ln ≤ 80) (h0 : po ≤ ln) (h : (if (nI ln) ≤ (nI po) then 0 else (fP po)) = x) : po + 1 ≤ ln := by
  rcases Nat.lt_or_ge po ln with c | c
  · omega
  · rw [if_pos (nI_le c (by omega))] at h
    exact absurd h.symm hx
def nmI (fP : Nat → Int32) (ln : Nat) : Nat → Int32 → Nat → Nat → Nat → (Int32 × Nat × Nat × Nat)
  | 0, v, q, p_, w_ => (v, q, p_, w_)
  | fu_ + 1, v, q, p_, w_ => (if 4 ≤ (nI q) then (v, q, p_, w_) else (if v ≤ 0 then (v, q, p_, w_) else (if (nI w_) = 0 then (if (nI ln) ≤ (nI p_) then (v, q, p_, w_) else (if (r_X5_in (fP p_) 48 57) = 0 then (v, q, p_, w_) else (nmI fP ln fu_ (((10 * v) + (r_X5_sign fP ln p_)) - 48) (q + 1) (n_X5_sign_0_8 fP ln p_ w_ 48 57) (n_X5_sign_0_9 fP ln p_ w_ 48 57)))) else (v, q, p_, w_))))
theorem nmI_s (fP : Nat → Int32) (ln : Nat) (fu_ : Nat) (v : Int32) (q : Nat) (p_ : Nat) (w_ : Nat) : nmI fP ln (fu_ + 1) v q p_ w_ = (if 4 ≤ (nI q) then (v, q, p_, w_) else (if v ≤ 0 then (v, q, p_, w_) else (if (nI w_) = 0 then (if (nI ln) ≤ (nI p_) then (v, q, p_, w_) else (if (r_X5_in (fP p_) 48 57) = 0 then (v, q, p_, w_) else (nmI fP ln fu_ (((10 * v) + (r_X5_sign fP ln p_)) - 48) (q + 1) (n_X5_sign_0_8 fP ln p_ w_ 48 57) (n_X5_sign_0_9 fP ln p_ w_ 48 57)))) else (v, q, p_, w_)))) := rfl
def r_X5_number (fP : Nat → Int32) (ln : Nat) (po : Nat) (wz : Nat) : Int32 := ((nmI fP ln 3 ((r_X5_sign fP ln po) - 48) 1 (n_X5_sign_0_8 fP ln po wz 48 57) (n_X5_sign_0_9 fP ln po wz 48 57)).1)
def n_X5_number_0_8 (fP : Nat → Int32) (ln : Nat) (po : Nat) (wz : Nat) : Nat := ((((nmI fP ln 3 ((r_X5_sign fP ln po) - 48) 1 (n_X5_sign_0_8 fP ln po wz 48 57) (n_X5_sign_0_9 fP ln po wz 48 57)).2).2).1)
def n_X5_number_0_9 (fP : Nat → Int32) (ln : Nat) (po : Nat) (wz : Nat) : Nat := ((((nmI fP ln 3 ((r_X5_sign fP ln po) - 48) 1 (n_X5_sign_0_8 fP ln po wz 48 57) (n_X5_sign_0_9 fP ln po wz 48 57)).2).2).2)
set_option maxHeartbeats 4000000 in
set_option maxRecDepth 100000 in
theorem c_X5_number (l : Launch) (D : va_G) (K : Nat → ClassId) (oM : Nat) (aS : Nat) (aA : Nat) (aB : Nat) (aT : Nat) (aV : Nat) (aP : Nat) (fP : Nat → Int32) (kn : Nat) (ln : Nat) (po : Nat) (wz : Nat) (le : Int32) (on : Int32) (tw : Int32) (hln : ln ≤ 80) (hpo : po ≤ ln) : Met l yX5_number wsX5_number ({ frames := 2, cells := 0, slots := 0, locals := 45 }) (va_Pc [.ref oM] (fun U => Bd D K U ∧ va_P D vwCl [(oM, .inr (5, [.ref aS, .ref aA, .ref aB, .int (nI kn), .ref aT, .ref aV, .ref aP, .int (nI ln), .int (nI po), .int (nI wz), .int le, .int on, .int tw])), (aP, .inl (K 0, 80, .inl fP))] U.heap ∧ va_D (fun _ => True) [(oM, .inr (5, [.ref aS, .ref aA, .ref aB, .int (nI kn), .ref aT, .ref aV, .ref aP, .int (nI ln), .int (nI po), .int (nI wz), .int le, .int on, .int tw])), (aP, .inl (K 0, 80, .inl fP))])) (va_Qi (fun r (_ : Unit) => r = (r_X5_number fP ln po wz)) (fun _ t => va_P D vwCl [(oM, .inr (5, [.ref aS, .ref aA, .ref aB, .int (nI kn), .ref aT, .ref aV, .ref aP, .int (nI ln), .int (nI (n_X5_number_0_8 fP ln po wz)), .int (nI (n_X5_number_0_9 fP ln po wz)), .int le, .int on, .int tw])), (aP, .inl (K 0, 80, .inl fP))] t.heap) (inW [(oM, .inr (5, [.ref aS, .ref aA, .ref aB, .int (nI kn), .ref aT, .ref aV, .ref aP, .int (nI ln), .int (nI po), .int (nI wz), .int le, .int on, .int tw])), (aP, .inl (K 0, 80, .inl fP))])) 0 0 (inW [(oM, .inr (5, [.ref aS, .ref aA, .ref aB, .int (nI kn), .ref aT, .ref aV, .ref aP, .int (nI ln), .int (nI po), .int (nI wz), .int le, .int on, .int tw])), (aP, .inl (K 0, 80, .inl fP))]) := by
  refine Met.ofW (cc := cX5_number) (maxL := 3) (ret := (some .int)) (by decide) rfl ?_
  intro p e s m args below meth c s₁ B hml hv
  obtain ⟨rfl, hbd, hP, hD0⟩ := hv
  have hx := B.exec
  have hb := B.bytes
  have hr := B.returns
  have hts := atoms_spec (ws := wsX5_number) B.pre
  have hown : s.vm.findClass RX5 = some m.cls := findClass_of_methodNamed B.named
  have hlocks := B.notSynchronized
  have hK := hbd.2
  have hP : va_P D vwCl [(oM, .inr (5, [.ref aS, .ref aA, .ref aB, .int (nI kn), .ref aT, .ref aV, .ref aP, .int (nI ln), .int (nI po), .int (nI wz), .int le, .int on, .int tw])), (aP, .inl (K 0, 80, .inl fP))] s.heap := hP
  have hin5 : ∀ w ∈ wsX50, w ∈ wsX5_number := by decide +kernel
  have hD := hD0.own
  generalize hAe : inW [(oM, .inr (5, [.ref aS, .ref aA, .ref aB, .int (nI kn), .ref aT, .ref aV, .ref aP, .int (nI ln), .int (nI po), .int (nI wz), .int le, .int on, .int tw])), (aP, .inl (K 0, 80, .inl fP))] = A at hD ⊢
  have hS : va_S A s.heap s.heap [] := va_S.rf
  have hl := lv_entry ([.ref oM]) (n := 3) (Nat.le_of_ble_eq_true rfl)
  rw [lg_entry_eq]
  generalize (lg_sl ([.ref oM]) ++ List.replicate (3 - (lg_sl ([.ref oM])).length) Slot.unset).toArray = ls at hl ⊢
  have hl : lv_has ls 3 [(0, .ref oM)] := hl
  have K0 : ∀ (H : Heap) (locs : List Loc) (ls : Array Slot), va_P D vwCl [(oM, .inr (5, [.ref aS, .ref aA, .ref aB, .int (nI kn), .ref aT, .ref aV, .ref aP, .int (nI ln), .int (nI po), .int (nI wz), .int le, .int on, .int tw])), (aP, .inl (K 0, 80, .inl fP))] H → va_D A [(oM, .inr (5, [.ref aS, .ref aA, .ref aB, .int (nI kn), .ref aT, .ref aV, .ref aP, .int (nI ln), .int (nI po), .int (nI wz), .int le, .int on, .int tw])), (aP, .inl (K 0, 80, .inl fP))] → va_S A s.heap H locs → lv_has ls 3 [(0, .ref oM)] → W p l e (headSpec wsX5_number ({ frames := 2, cells := 0, slots := 0, locals := 45 })).room s m ([.ref oM] : List Value).toArray below meth c H locs 0 0 (MQ below (va_Qi (fun r (_ : Unit) => r = (r_X5_number fP ln po wz)) (fun _ t => va_P D vwCl [(oM, .inr (5, [.ref aS, .ref aA, .ref aB, .int (nI kn), .ref aT, .ref aV, .ref aP, .int (nI ln), .int (nI (n_X5_number_0_8 fP ln po wz)), .int (nI (n_X5_number_0_9 fP ln po wz)), .int le, .int on, .int tw])), (aP, .inl (K 0, 80, .inl fP))] t.heap) A) ([.ref oM] : List Value).toArray s 0 0 A) (F0 m 0 ls []) := by
    intro H locs ls hP hD hS hl
    refine lv_aload_n hx hb dX5_number_0 rfl (lv_at hl 0 rfl) ?_
    refine lv_bipush (v := 48) hx hb dX5_number_1 (by decide) ?_
    refine lv_bipush (v := 57) hx hb dX5_number_3 (by decide) ?_
    have hPc := hP.sub (ws' := [(oM, .inr (5, [.ref aS, .ref aA, .ref aB, .int (nI kn), .ref aT, .ref aV, .ref aP, .int (nI ln), .int (nI po), .int (nI wz), .int le, .int on, .int tw])), (aP, .inl (K 0, 80, .inl fP))]) [0, 1] rfl
    have hDc : va_D (fun _ => True) [(oM, .inr (5, [.ref aS, .ref aA, .ref aB, .int (nI kn), .ref aT, .ref aV, .ref aP, .int (nI ln), .int (nI po), .int (nI wz), .int le, .int on, .int tw])), (aP, .inl (K 0, 80, .inl fP))] := (hD.sub (ws' := [(oM, .inr (5, [.ref aS, .ref aA, .ref aB, .int (nI kn), .ref aT, .ref aV, .ref aP, .int (nI ln), .int (nI po), .int (nI wz), .int le, .int on, .int tw])), (aP, .inl (K 0, 80, .inl fP))]) [0, 1] (by decide +kernel) rfl).weaken (fun _ _ _ _ => trivial)
    refine kw_i (W1 := [(oM, .inr (5, [.ref aS, .ref aA, .ref aB, .int (nI kn), .ref aT, .ref aV, .ref aP, .int (nI ln), .int (nI (n_X5_sign_0_8 fP ln po wz 48 57)), .int (nI (n_X5_sign_0_9 fP ln po wz 48 57)), .int le, .int on, .int tw])), (aP, .inl (K 0, 80, .inl fP))]) (w1 := [(oM, .inr (5, [.ref aS, .ref aA, .ref aB, .int (nI kn), .ref aT, .ref aV, .ref aP, .int (nI ln), .int (nI (n_X5_sign_0_8 fP ln po wz 48 57)), .int (nI (n_X5_sign_0_9 fP ln po wz 48 57)), .int le, .int on, .int tw])), (aP, .inl (K 0, 80, .inl fP))]) (va_runV (As := [.int 48, .int 57]) (rest := []) ⟨hx, hb, hml, hown, hts⟩ (c_X5_sign l D K oM aS aA aB aT aV aP fP kn ln po wz le on tw 48 57 hln (by omega)) (cwV 2 hts gX5_number_X5_sign rfl rfl rfl (by decide +kernel) ⟨Nat.le_of_ble_eq_true rfl, Nat.le_of_ble_eq_true rfl⟩) (pre_wr hbd hPc hDc (ci := 5) (q0 := 0) rfl rfl) rfl rfl hl.1 rfl (lv_room (Nat.le_of_ble_eq_true rfl)) dX5_number_5 ⟨Nat.zero_le _, Nat.zero_le _⟩) hP hD hS [0, 1] [] 2 rfl rfl rfl (Eq.trans (b := List.map some ([])) rfl rfl) (by decide +kernel) (by decide +kernel) (by simp only [List.map_append, drW_fst, List.map_cons, List.map_nil]) (fun r_1 H locs hr_1 hP hD hS => ?_)
    subst hr_1
    have hb_2 := sn_le (fP := fP) (ln := ln) (po := po) (wz := wz) (xl := 48) (xh := 57) (by decide) hln (by omega)
    refine lv_bipush (v := 48) hx hb dX5_number_8 (by decide) ?_
    refine lv_isub hx hb dX5_number_10 ?_
    refine lv_istore_n (lv' := [(1, .int ((r_X5_sign fP ln po) - 48)), (0, .ref oM)]) hx hb dX5_number_11 rfl hl (by decide) rfl (fun ls hl => ?_)
    refine lv_iconst (v := 1) hx hb dX5_number_12 (by decide) ?_
    refine lv_istore_n (lv' := [(2, .int 1), (1, .int ((r_X5_sign fP ln po) - 48)), (0, .ref oM)]) hx hb dX5_number_13 rfl hl (by decide) rfl (fun ls hl => ?_)
    have L_3 : ∀ (nf : Nat) (v : Int32) (q : Nat) (p_ : Nat) (w_ : Nat), 4 - q < nf → q ≤ 4 → p_ ≤ ln → nmI fP ln (4 - q) v q p_ w_ = (nmI fP ln 3 ((r_X5_sign fP ln po) - 48) 1 (n_X5_sign_0_8 fP ln po wz 48 57) (n_X5_sign_0_9 fP ln po wz 48 57)) → ∀ (H : Heap) (locs : List Loc) (ls : Array Slot), va_P D vwCl [(oM, .inr (5, [.ref aS, .ref aA, .ref aB, .int (nI kn), .ref aT, .ref aV, .ref aP, .int (nI ln), .int (nI p_), .int (nI w_), .int le, .int on, .int tw])), (aP, .inl (K 0, 80, .inl fP))] H → va_D A [(oM, .inr (5, [.ref aS, .ref aA, .ref aB, .int (nI kn), .ref aT, .ref aV, .ref aP, .int (nI ln), .int (nI p_), .int (nI w_), .int le, .int on, .int tw])), (aP, .inl (K 0, 80, .inl fP))] → va_S A s.heap H locs → lv_has ls 3 [(2, .int (nI q)), (1, .int v), (0, .ref oM)] → W p l e (headSpec wsX5_number ({ frames := 2, cells := 0, slots := 0, locals := 45 })).room s m ([.ref oM] : List Value).toArray below meth c H locs 0 0 (MQ below (va_Qi (fun r (_ : Unit) => r = (r_X5_number fP ln po wz)) (fun _ t => va_P D vwCl [(oM, .inr (5, [.ref aS, .ref aA, .ref aB, .int (nI kn), .ref aT, .ref aV, .ref aP, .int (nI ln), .int (nI (n_X5_number_0_8 fP ln po wz)), .int (nI (n_X5_number_0_9 fP ln po wz)), .int le, .int on, .int tw])), (aP, .inl (K 0, 80, .inl fP))] t.heap) A) ([.ref oM] : List Value).toArray s 0 0 A) (F0 m 14 ls []) := by
      intro nf
      induction nf with
      | zero =>
        intro v q p_ w_ hm
        exact absurd hm (Nat.not_lt_zero _)
      | succ nf ih =>
        intro v q p_ w_ hm hq hp_ hinv H locs ls hP hD hS hl
        refine lv_iload_n hx hb dX5_number_14 rfl (lv_at hl 0 rfl) ?_
        refine lv_iconst (v := 4) hx hb dX5_number_15 (by decide) ?_
        refine lv_icmp_ge (tgt := 83) hx hb dX5_number_16 (by decide) (fun c_4 => ?_) (fun c_4 => ?_)
        · skip
          have nc_4 := (nI_leI (a := 4) (b := q) (by omega) (by omega)).mp c_4
          have e9 : (v, q, p_, w_) = (nmI fP ln 3 ((r_X5_sign fP ln po) - 48) 1 (n_X5_sign_0_8 fP ln po wz 48 57) (n_X5_sign_0_9 fP ln po wz 48 57)) := by
            rw [← hinv]
            rcases (show 4 - q = 0 ∨ 4 - q = (4 - q - 1) + 1 by omega) with h9 | h9
            · first | (exfalso; omega) | (rw [h9]; rfl)
            · rw [h9, nmI_s, if_pos c_4]
          have f9_v : v = ((nmI fP ln 3 ((r_X5_sign fP ln po) - 48) 1 (n_X5_sign_0_8 fP ln po wz 48 57) (n_X5_sign_0_9 fP ln po wz 48 57)).1) := by rw [← e9]
          have f9_q : q = (((nmI fP ln 3 ((r_X5_sign fP ln po) - 48) 1 (n_X5_sign_0_8 fP ln po wz 48 57) (n_X5_sign_0_9 fP ln po wz 48 57)).2).1) := by rw [← e9]
          have f9_p_ : p_ = ((((nmI fP ln 3 ((r_X5_sign fP ln po) - 48) 1 (n_X5_sign_0_8 fP ln po wz 48 57) (n_X5_sign_0_9 fP ln po wz 48 57)).2).2).1) := by rw [← e9]
          have f9_w_ : w_ = ((((nmI fP ln 3 ((r_X5_sign fP ln po) - 48) 1 (n_X5_sign_0_8 fP ln po wz 48 57) (n_X5_sign_0_9 fP ln po wz 48 57)).2).2).2) := by rw [← e9]
          subst f9_v
          subst f9_q
          subst f9_p_
          subst f9_w_
          refine lv_iload_n hx hb dX5_number_83 rfl (lv_at hl 1 rfl) ?_
          have e_5 : n_X5_number_0_8 fP ln po wz = ((((nmI fP ln 3 ((r_X5_sign fP ln po) - 48) 1 (n_X5_sign_0_8 fP ln po wz 48 57) (n_X5_sign_0_9 fP ln po wz 48 57)).2).2).1) := rfl
          have e_6 : n_X5_number_0_9 fP ln po wz = ((((nmI fP ln 3 ((r_X5_sign fP ln po) - 48) 1 (n_X5_sign_0_8 fP ln po wz 48 57) (n_X5_sign_0_9 fP ln po wz 48 57)).2).2).2) := rfl
          have hPf : va_P D vwCl [(oM, .inr (5, [.ref aS, .ref aA, .ref aB, .int (nI kn), .ref aT, .ref aV, .ref aP, .int (nI ln), .int (nI (n_X5_number_0_8 fP ln po wz)), .int (nI (n_X5_number_0_9 fP ln po wz)), .int le, .int on, .int tw])), (aP, .inl (K 0, 80, .inl fP))] H := (by rw [e_5, e_6]; exact hP)
          exact W.iret hx hb hr (fun t ht hW => ⟨⟨_, (), rfl, (by unfold r_X5_number; rfl), by show va_P D vwCl _ t.heap; rw [ht]; exact hPf⟩, hS.F ht⟩) hS.2.2 dX5_number_84
        · skip
          have nc_4 : ¬ (4 ≤ q) := fun h => c_4 ((nI_leI (a := 4) (b := q) (by omega) (by omega)).mpr h)
          refine lv_iload_n hx hb dX5_number_19 rfl (lv_at hl 1 rfl) ?_
          refine lv_if_le (tgt := 83) hx hb dX5_number_20 (by decide) (fun c_7 => ?_) (fun c_7 => ?_)
          · skip
            have e9 : (v, q, p_, w_) = (nmI fP ln 3 ((r_X5_sign fP ln po) - 48) 1 (n_X5_sign_0_8 fP ln po wz 48 57) (n_X5_sign_0_9 fP ln po wz 48 57)) := by
              rw [← hinv]
              rcases (show 4 - q = 0 ∨ 4 - q = (4 - q - 1) + 1 by omega) with h9 | h9
              · first | (exfalso; omega) | (rw [h9]; rfl)
              · rw [h9, nmI_s, if_neg c_4, if_pos c_7]
            have f9_v : v = ((nmI fP ln 3 ((r_X5_sign fP ln po) - 48) 1 (n_X5_sign_0_8 fP ln po wz 48 57) (n_X5_sign_0_9 fP ln po wz 48 57)).1) := by rw [← e9]
            have f9_q : q = (((nmI fP ln 3 ((r_X5_sign fP ln po) - 48) 1 (n_X5_sign_0_8 fP ln po wz 48 57) (n_X5_sign_0_9 fP ln po wz 48 57)).2).1) := by rw [← e9]
            have f9_p_ : p_ = ((((nmI fP ln 3 ((r_X5_sign fP ln po) - 48) 1 (n_X5_sign_0_8 fP ln po wz 48 57) (n_X5_sign_0_9 fP ln po wz 48 57)).2).2).1) := by rw [← e9]
            have f9_w_ : w_ = ((((nmI fP ln 3 ((r_X5_sign fP ln po) - 48) 1 (n_X5_sign_0_8 fP ln po wz 48 57) (n_X5_sign_0_9 fP ln po wz 48 57)).2).2).2) := by rw [← e9]
            subst f9_v
            subst f9_q
            subst f9_p_
            subst f9_w_
            refine lv_iload_n hx hb dX5_number_83 rfl (lv_at hl 1 rfl) ?_
            have e_8 : n_X5_number_0_8 fP ln po wz = ((((nmI fP ln 3 ((r_X5_sign fP ln po) - 48) 1 (n_X5_sign_0_8 fP ln po wz 48 57) (n_X5_sign_0_9 fP ln po wz 48 57)).2).2).1) := rfl
            have e_9 : n_X5_number_0_9 fP ln po wz = ((((nmI fP ln 3 ((r_X5_sign fP ln po) - 48) 1 (n_X5_sign_0_8 fP ln po wz 48 57) (n_X5_sign_0_9 fP ln po wz 48 57)).2).2).2) := rfl
            have hPf : va_P D vwCl [(oM, .inr (5, [.ref aS, .ref aA, .ref aB, .int (nI kn), .ref aT, .ref aV, .ref aP, .int (nI ln), .int (nI (n_X5_number_0_8 fP ln po wz)), .int (nI (n_X5_number_0_9 fP ln po wz)), .int le, .int on, .int tw])), (aP, .inl (K 0, 80, .inl fP))] H := (by rw [e_8, e_9]; exact hP)
            exact W.iret hx hb hr (fun t ht hW => ⟨⟨_, (), rfl, (by unfold r_X5_number; rfl), by show va_P D vwCl _ t.heap; rw [ht]; exact hPf⟩, hS.F ht⟩) hS.2.2 dX5_number_84
          · skip
            refine lv_aload_n hx hb dX5_number_23 rfl (lv_at hl 2 rfl) ?_
            refine va_get (D := D) (ci := 5) (v := .int (nI w_)) (C := RX5) (T := TX5) (N := 13) hx hb hts hin5 hown hK hP 0 rfl rfl 9 (by decide) (hts _ (List.mem_of_getElem? (i := 1) rfl)) (fun _ h9 => h9) rfl dX5_number_24 ?_
            refine lv_if_ne (tgt := 83) hx hb dX5_number_27 (by decide) (fun c_10 => ?_) (fun c_10 => ?_)
            · skip
              have e9 : (v, q, p_, w_) = (nmI fP ln 3 ((r_X5_sign fP ln po) - 48) 1 (n_X5_sign_0_8 fP ln po wz 48 57) (n_X5_sign_0_9 fP ln po wz 48 57)) := by
                rw [← hinv]
                rcases (show 4 - q = 0 ∨ 4 - q = (4 - q - 1) + 1 by omega) with h9 | h9
                · first | (exfalso; omega) | (rw [h9]; rfl)
                · rw [h9, nmI_s, if_neg c_4, if_neg c_7, if_neg c_10]
              have f9_v : v = ((nmI fP ln 3 ((r_X5_sign fP ln po) - 48) 1 (n_X5_sign_0_8 fP ln po wz 48 57) (n_X5_sign_0_9 fP ln po wz 48 57)).1) := by rw [← e9]
              have f9_q : q = (((nmI fP ln 3 ((r_X5_sign fP ln po) - 48) 1 (n_X5_sign_0_8 fP ln po wz 48 57) (n_X5_sign_0_9 fP ln po wz 48 57)).2).1) := by rw [← e9]
              have f9_p_ : p_ = ((((nmI fP ln 3 ((r_X5_sign fP ln po) - 48) 1 (n_X5_sign_0_8 fP ln po wz 48 57) (n_X5_sign_0_9 fP ln po wz 48 57)).2).2).1) := by rw [← e9]
              have f9_w_ : w_ = ((((nmI fP ln 3 ((r_X5_sign fP ln po) - 48) 1 (n_X5_sign_0_8 fP ln po wz 48 57) (n_X5_sign_0_9 fP ln po wz 48 57)).2).2).2) := by rw [← e9]
              subst f9_v
              subst f9_q
              subst f9_p_
              subst f9_w_
              refine lv_iload_n hx hb dX5_number_83 rfl (lv_at hl 1 rfl) ?_
              have e_11 : n_X5_number_0_8 fP ln po wz = ((((nmI fP ln 3 ((r_X5_sign fP ln po) - 48) 1 (n_X5_sign_0_8 fP ln po wz 48 57) (n_X5_sign_0_9 fP ln po wz 48 57)).2).2).1) := rfl
              have e_12 : n_X5_number_0_9 fP ln po wz = ((((nmI fP ln 3 ((r_X5_sign fP ln po) - 48) 1 (n_X5_sign_0_8 fP ln po wz 48 57) (n_X5_sign_0_9 fP ln po wz 48 57)).2).2).2) := rfl
              have hPf : va_P D vwCl [(oM, .inr (5, [.ref aS, .ref aA, .ref aB, .int (nI kn), .ref aT, .ref aV, .ref aP, .int (nI ln), .int (nI (n_X5_number_0_8 fP ln po wz)), .int (nI (n_X5_number_0_9 fP ln po wz)), .int le, .int on, .int tw])), (aP, .inl (K 0, 80, .inl fP))] H := (by rw [e_11, e_12]; exact hP)
              exact W.iret hx hb hr (fun t ht hW => ⟨⟨_, (), rfl, (by unfold r_X5_number; rfl), by show va_P D vwCl _ t.heap; rw [ht]; exact hPf⟩, hS.F ht⟩) hS.2.2 dX5_number_84
            · skip
              refine lv_aload_n hx hb dX5_number_30 rfl (lv_at hl 2 rfl) ?_
              refine va_get (D := D) (ci := 5) (v := .int (nI p_)) (C := RX5) (T := TX5) (N := 13) hx hb hts hin5 hown hK hP 0 rfl rfl 8 (by decide) (hts _ (List.mem_of_getElem? (i := 2) rfl)) (fun _ h9 => h9) rfl dX5_number_31 ?_
              refine lv_aload_n hx hb dX5_number_34 rfl (lv_at hl 2 rfl) ?_
              refine va_get (D := D) (ci := 5) (v := .int (nI ln)) (C := RX5) (T := TX5) (N := 13) hx hb hts hin5 hown hK hP 0 rfl rfl 7 (by decide) (hts _ (List.mem_of_getElem? (i := 3) rfl)) (fun _ h9 => h9) rfl dX5_number_35 ?_
              refine lv_icmp_ge (tgt := 83) hx hb dX5_number_38 (by decide) (fun c_13 => ?_) (fun c_13 => ?_)
              · skip
                have nc_13 := (nI_leI (a := ln) (b := p_) (by omega) (by omega)).mp c_13
                have e9 : (v, q, p_, w_) = (nmI fP ln 3 ((r_X5_sign fP ln po) - 48) 1 (n_X5_sign_0_8 fP ln po wz 48 57) (n_X5_sign_0_9 fP ln po wz 48 57)) := by
                  rw [← hinv]
                  rcases (show 4 - q = 0 ∨ 4 - q = (4 - q - 1) + 1 by omega) with h9 | h9
                  · first | (exfalso; omega) | (rw [h9]; rfl)
                  · rw [h9, nmI_s, if_neg c_4, if_neg c_7, if_pos c_10, if_pos c_13]
                have f9_v : v = ((nmI fP ln 3 ((r_X5_sign fP ln po) - 48) 1 (n_X5_sign_0_8 fP ln po wz 48 57) (n_X5_sign_0_9 fP ln po wz 48 57)).1) := by rw [← e9]
                have f9_q : q = (((nmI fP ln 3 ((r_X5_sign fP ln po) - 48) 1 (n_X5_sign_0_8 fP ln po wz 48 57) (n_X5_sign_0_9 fP ln po wz 48 57)).2).1) := by rw [← e9]
                have f9_p_ : p_ = ((((nmI fP ln 3 ((r_X5_sign fP ln po) - 48) 1 (n_X5_sign_0_8 fP ln po wz 48 57) (n_X5_sign_0_9 fP ln po wz 48 57)).2).2).1) := by rw [← e9]
                have f9_w_ : w_ = ((((nmI fP ln 3 ((r_X5_sign fP ln po) - 48) 1 (n_X5_sign_0_8 fP ln po wz 48 57) (n_X5_sign_0_9 fP ln po wz 48 57)).2).2).2) := by rw [← e9]
                subst f9_v
                subst f9_q
                subst f9_p_
                subst f9_w_
                refine lv_iload_n hx hb dX5_number_83 rfl (lv_at hl 1 rfl) ?_
                have e_14 : n_X5_number_0_8 fP ln po wz = ((((nmI fP ln 3 ((r_X5_sign fP ln po) - 48) 1 (n_X5_sign_0_8 fP ln po wz 48 57) (n_X5_sign_0_9 fP ln po wz 48 57)).2).2).1) := rfl
                have e_15 : n_X5_number_0_9 fP ln po wz = ((((nmI fP ln 3 ((r_X5_sign fP ln po) - 48) 1 (n_X5_sign_0_8 fP ln po wz 48 57) (n_X5_sign_0_9 fP ln po wz 48 57)).2).2).2) := rfl
                have hPf : va_P D vwCl [(oM, .inr (5, [.ref aS, .ref aA, .ref aB, .int (nI kn), .ref aT, .ref aV, .ref aP, .int (nI ln), .int (nI (n_X5_number_0_8 fP ln po wz)), .int (nI (n_X5_number_0_9 fP ln po wz)), .int le, .int on, .int tw])), (aP, .inl (K 0, 80, .inl fP))] H := (by rw [e_14, e_15]; exact hP)
                exact W.iret hx hb hr (fun t ht hW => ⟨⟨_, (), rfl, (by unfold r_X5_number; rfl), by show va_P D vwCl _ t.heap; rw [ht]; exact hPf⟩, hS.F ht⟩) hS.2.2 dX5_number_84
              · skip
                have nc_13 : ¬ (ln ≤ p_) := fun h => c_13 ((nI_leI (a := ln) (b := p_) (by omega) (by omega)).mpr h)
                refine lv_aload_n hx hb dX5_number_41 rfl (lv_at hl 2 rfl) ?_
                refine va_get (D := D) (ci := 5) (v := .ref aP) (C := RX5) (T := TX5) (N := 13) hx hb hts hin5 hown hK hP 0 rfl rfl 6 (by decide) (hts _ (List.mem_of_getElem? (i := 4) rfl)) (fun _ h9 => h9) rfl dX5_number_42 ?_
                refine lv_aload_n hx hb dX5_number_45 rfl (lv_at hl 2 rfl) ?_
                refine va_get (D := D) (ci := 5) (v := .int (nI p_)) (C := RX5) (T := TX5) (N := 13) hx hb hts hin5 hown hK hP 0 rfl rfl 8 (by decide) (hts _ (List.mem_of_getElem? (i := 2) rfl)) (fun _ h9 => h9) rfl dX5_number_46 ?_
                refine n_iald hx hb hK hP 1 0 rfl rfl p_ (by omega) (by decide) dX5_number_49 ?_
                refine lv_bipush (v := 48) hx hb dX5_number_50 (by decide) ?_
                refine lv_bipush (v := 57) hx hb dX5_number_52 (by decide) ?_
                refine vp_callSi (va_Run.run (va_runS (As := [.int (fP p_), .int 48, .int 57]) (rest := []) ⟨hx, hb, hml, hown, hts⟩ (c_X5_in l D K (fP p_) 48 57 ) (va_cwS 3 hts gX5_number_X5_in rfl rfl rfl (by decide +kernel) ⟨Nat.le_of_ble_eq_true rfl, Nat.le_of_ble_eq_true rfl⟩) pre_s0 rfl rfl hl.1 rfl (lv_room (Nat.le_of_ble_eq_true rfl)) dX5_number_54 ⟨Nat.zero_le _, Nat.zero_le _⟩)) (fun r_16 hr_16 => ?_)
                subst hr_16
                refine lv_if_eq (tgt := 83) hx hb dX5_number_57 (by decide) (fun c_17 => ?_) (fun c_17 => ?_)
                · skip
                  have e9 : (v, q, p_, w_) = (nmI fP ln 3 ((r_X5_sign fP ln po) - 48) 1 (n_X5_sign_0_8 fP ln po wz 48 57) (n_X5_sign_0_9 fP ln po wz 48 57)) := by
                    rw [← hinv]
                    rcases (show 4 - q = 0 ∨ 4 - q = (4 - q - 1) + 1 by omega) with h9 | h9
                    · first | (exfalso; omega) | (rw [h9]; rfl)
                    · rw [h9, nmI_s, if_neg c_4, if_neg c_7, if_pos c_10, if_neg c_13, if_pos c_17]
                  have f9_v : v = ((nmI fP ln 3 ((r_X5_sign fP ln po) - 48) 1 (n_X5_sign_0_8 fP ln po wz 48 57) (n_X5_sign_0_9 fP ln po wz 48 57)).1) := by rw [← e9]
                  have f9_q : q = (((nmI fP ln 3 ((r_X5_sign fP ln po) - 48) 1 (n_X5_sign_0_8 fP ln po wz 48 57) (n_X5_sign_0_9 fP ln po wz 48 57)).2).1) := by rw [← e9]
                  have f9_p_ : p_ = ((((nmI fP ln 3 ((r_X5_sign fP ln po) - 48) 1 (n_X5_sign_0_8 fP ln po wz 48 57) (n_X5_sign_0_9 fP ln po wz 48 57)).2).2).1) := by rw [← e9]
                  have f9_w_ : w_ = ((((nmI fP ln 3 ((r_X5_sign fP ln po) - 48) 1 (n_X5_sign_0_8 fP ln po wz 48 57) (n_X5_sign_0_9 fP ln po wz 48 57)).2).2).2) := by rw [← e9]
                  subst f9_v
                  subst f9_q
                  subst f9_p_
                  subst f9_w_
                  refine lv_iload_n hx hb dX5_number_83 rfl (lv_at hl 1 rfl) ?_
                  have e_18 : n_X5_number_0_8 fP ln po wz = ((((nmI fP ln 3 ((r_X5_sign fP ln po) - 48) 1 (n_X5_sign_0_8 fP ln po wz 48 57) (n_X5_sign_0_9 fP ln po wz 48 57)).2).2).1) := rfl
                  have e_19 : n_X5_number_0_9 fP ln po wz = ((((nmI fP ln 3 ((r_X5_sign fP ln po) - 48) 1 (n_X5_sign_0_8 fP ln po wz 48 57) (n_X5_sign_0_9 fP ln po wz 48 57)).2).2).2) := rfl
                  have hPf : va_P D vwCl [(oM, .inr (5, [.ref aS, .ref aA, .ref aB, .int (nI kn), .ref aT, .ref aV, .ref aP, .int (nI ln), .int (nI (n_X5_number_0_8 fP ln po wz)), .int (nI (n_X5_number_0_9 fP ln po wz)), .int le, .int on, .int tw])), (aP, .inl (K 0, 80, .inl fP))] H := (by rw [e_18, e_19]; exact hP)
                  exact W.iret hx hb hr (fun t ht hW => ⟨⟨_, (), rfl, (by unfold r_X5_number; rfl), by show va_P D vwCl _ t.heap; rw [ht]; exact hPf⟩, hS.F ht⟩) hS.2.2 dX5_number_84
                · skip
                  refine lv_bipush (v := 10) hx hb dX5_number_60 (by decide) ?_
                  refine lv_iload_n hx hb dX5_number_62 rfl (lv_at hl 1 rfl) ?_
                  refine lv_imul hx hb dX5_number_63 ?_
                  refine lv_aload_n hx hb dX5_number_64 rfl (lv_at hl 2 rfl) ?_
                  refine lv_bipush (v := 48) hx hb dX5_number_65 (by decide) ?_
                  refine lv_bipush (v := 57) hx hb dX5_number_67 (by decide) ?_
                  have hPc := hP.sub (ws' := [(oM, .inr (5, [.ref aS, .ref aA, .ref aB, .int (nI kn), .ref aT, .ref aV, .ref aP, .int (nI ln), .int (nI p_), .int (nI w_), .int le, .int on, .int tw])), (aP, .inl (K 0, 80, .inl fP))]) [0, 1] rfl
                  have hDc : va_D (fun _ => True) [(oM, .inr (5, [.ref aS, .ref aA, .ref aB, .int (nI kn), .ref aT, .ref aV, .ref aP, .int (nI ln), .int (nI p_), .int (nI w_), .int le, .int on, .int tw])), (aP, .inl (K 0, 80, .inl fP))] := (hD.sub (ws' := [(oM, .inr (5, [.ref aS, .ref aA, .ref aB, .int (nI kn), .ref aT, .ref aV, .ref aP, .int (nI ln), .int (nI p_), .int (nI w_), .int le, .int on, .int tw])), (aP, .inl (K 0, 80, .inl fP))]) [0, 1] (by decide +kernel) rfl).weaken (fun _ _ _ _ => trivial)
                  refine kw_i (W1 := [(oM, .inr (5, [.ref aS, .ref aA, .ref aB, .int (nI kn), .ref aT, .ref aV, .ref aP, .int (nI ln), .int (nI (n_X5_sign_0_8 fP ln p_ w_ 48 57)), .int (nI (n_X5_sign_0_9 fP ln p_ w_ 48 57)), .int le, .int on, .int tw])), (aP, .inl (K 0, 80, .inl fP))]) (w1 := [(oM, .inr (5, [.ref aS, .ref aA, .ref aB, .int (nI kn), .ref aT, .ref aV, .ref aP, .int (nI ln), .int (nI (n_X5_sign_0_8 fP ln p_ w_ 48 57)), .int (nI (n_X5_sign_0_9 fP ln p_ w_ 48 57)), .int le, .int on, .int tw])), (aP, .inl (K 0, 80, .inl fP))]) (va_runV (As := [.int 48, .int 57]) (rest := [.int (10 * v)]) ⟨hx, hb, hml, hown, hts⟩ (c_X5_sign l D K oM aS aA aB aT aV aP fP kn ln p_ w_ le on tw 48 57 hln (by omega)) (cwV 2 hts gX5_number_X5_sign rfl rfl rfl (by decide +kernel) ⟨Nat.le_of_ble_eq_true rfl, Nat.le_of_ble_eq_true rfl⟩) (pre_wr hbd hPc hDc (ci := 5) (q0 := 0) rfl rfl) rfl rfl hl.1 rfl (lv_room (Nat.le_of_ble_eq_true rfl)) dX5_number_69 ⟨Nat.zero_le _, Nat.zero_le _⟩) hP hD hS [0, 1] [] 2 rfl rfl rfl (Eq.trans (b := List.map some ([])) rfl rfl) (by decide +kernel) (by decide +kernel) (by simp only [List.map_append, drW_fst, List.map_cons, List.map_nil]) (fun r_20 H locs hr_20 hP hD hS => ?_)
                  subst hr_20
                  have hb_21 := sn_le (fP := fP) (ln := ln) (po := p_) (wz := w_) (xl := 48) (xh := 57) (by decide) hln (by omega)
                  refine lv_iadd hx hb dX5_number_72 ?_
                  refine lv_bipush (v := 48) hx hb dX5_number_73 (by decide) ?_
                  refine lv_isub hx hb dX5_number_75 ?_
                  refine lv_istore_n (lv' := [(1, .int (((10 * v) + (r_X5_sign fP ln p_)) - 48)), (2, .int (nI q)), (0, .ref oM)]) hx hb dX5_number_76 rfl hl (by decide) rfl (fun ls hl => ?_)
                  refine lv_iinc (v := (nI (q + 1))) (lv' := [(2, .int (nI (q + 1))), (1, .int (((10 * v) + (r_X5_sign fP ln p_)) - 48)), (0, .ref oM)]) hx hb dX5_number_77 hl (k := 1) rfl (nI_add q 1) (by decide) rfl (fun ls hl => ?_)
                  refine lv_goto (tgt := 14) hx hb dX5_number_80 (by decide) ?_
                  exact ih (((10 * v) + (r_X5_sign fP ln p_)) - 48) (q + 1) (n_X5_sign_0_8 fP ln p_ w_ 48 57) (n_X5_sign_0_9 fP ln p_ w_ 48 57) (by omega) (by omega) (by omega) (by rw [← hinv, show 4 - q = (4 - (q + 1)) + 1 by omega, nmI_s, if_neg c_4, if_neg c_7, if_pos c_10, if_neg c_13, if_neg c_17]) _ _ _ hP hD hS (lv_sub hl [0, 1, 2] rfl)
    exact L_3 _ ((r_X5_sign fP ln po) - 48) 1 (n_X5_sign_0_8 fP ln po wz 48 57) (n_X5_sign_0_9 fP ln po wz 48 57) (Nat.lt_succ_self _) (by omega) (by omega) rfl H locs ls hP hD hS (lv_sub hl [0, 1, 2] rfl)
  exact K0 s.heap [] ls hP hD hS hl
theorem nmI_le {fP : Nat → Int32} {ln : Nat} (hl : ln ≤ 80) : ∀ (fu : Nat) (v : Int32) (q p w : Nat), p ≤ ln → (nmI fP ln fu v q p w).2.2.1 ≤ ln
  | 0, _, _, _, _, h => h
  | fu + 1, v, q, p, w, h => by
    rw [nmI_s]
    have h5 := sn_le (fP := fP) (wz := w) (xl := 48) (xh := 57) (by decide) hl h
    repeat' split
    all_goals first | with_reducible exact h | with_reducible exact nmI_le hl fu _ _ _ _ h5
theorem nmI_ge {fP : Nat → Int32} {ln : Nat} : ∀ (fu : Nat) (v : Int32) (q p w : Nat), p ≤ (nmI fP ln fu v q p w).2.2.1
  | 0, _, _, _, _ => Nat.le_refl _
  | fu + 1, v, q, p, w => by
    rw [nmI_s]
    repeat' split
    all_goals first | with_reducible exact Nat.le_refl _ | with_reducible exact Nat.le_trans sn_ge (nmI_ge fu _ _ _ _)
theorem nm_le {fP : Nat → Int32} {ln po wz : Nat} (hl : ln ≤ 80) (h : po ≤ ln) : n_X5_number_0_8 fP ln po wz ≤ ln := nmI_le hl 3 _ _ _ _ (sn_le (by decide) hl h)
theorem nm_ge {fP : Nat → Int32} {ln po wz : Nat} : po ≤ n_X5_number_0_8 fP ln po wz := Nat.le_trans sn_ge (nmI_ge 3 _ _ _ _)
def n_X5_order_0_8 (fP : Nat → Int32) (ln : Nat) (po : Nat) (wz : Nat) : Nat := (if (nI wz) = 0 then (if (if (nI ln) ≤ (nI po) then 0 else (fP po)) = 119 then (n_X5_number_0_8 fP ln (n_X5_sign_0_8 fP ln (n_X5_number_0_8 fP ln (po + 1) 0) (n_X5_number_0_9 fP ln (po + 1) 0) 61 61) (n_X5_sign_0_9 fP ln (n_X5_number_0_8 fP ln (po + 1) 0) (n_X5_number_0_9 fP ln (po + 1) 0) 61 61)) else (if (if (nI ln) ≤ (nI po) then 0 else (fP po)) = 114 then (n_X5_number_0_8 fP ln (po + 1) 0) else (if (if (nI ln) ≤ (nI po) then 0 else (fP po)) = 33 then (n_X5_sign_0_8 fP ln (n_X5_sign_0_8 fP ln (po + 1) 0 48 49) (n_X5_sign_0_9 fP ln (po + 1) 0 48 49) 48 52) else (if (if (nI ln) ≤ (nI po) then 0 else (fP po)) = 120 then (n_X5_number_0_8 fP ln (n_X5_sign_0_8 fP ln (po + 1) 0 48 49) (n_X5_sign_0_9 fP ln (po + 1) 0 48 49)) else (if (if (nI ln) ≤ (nI po) then 0 else (fP po)) = 115 then po + 1 else po))))) else (if (if (nI ln) ≤ (nI po) then 0 else (fP po)) = 119 then (n_X5_number_0_8 fP ln (n_X5_sign_0_8 fP ln (n_X5_number_0_8 fP ln po 1) (n_X5_number_0_9 fP ln po 1) 61 61) (n_X5_sign_0_9 fP ln (n_X5_number_0_8 fP ln po 1) (n_X5_number_0_9 fP ln po 1) 61 61)) else (if (if (nI ln) ≤ (nI po) then 0 else (fP po)) = 114 then (n_X5_number_0_8 fP ln po 1) else (if (if (nI ln) ≤ (nI po) then 0 else (fP po)) = 33 then (n_X5_sign_0_8 fP ln (n_X5_sign_0_8 fP ln po 1 48 49) (n_X5_sign_0_9 fP ln po 1 48 49) 48 52) else (if (if (nI ln) ≤ (nI po) then 0 else (fP po)) = 120 then (n_X5_number_0_8 fP ln (n_X5_sign_0_8 fP ln po 1 48 49) (n_X5_sign_0_9 fP ln po 1 48 49)) else po)))))
def n_X5_order_0_9 (fP : Nat → Int32) (ln : Nat) (po : Nat) (wz : Nat) : Nat := (if (nI wz) = 0 then (if (if (nI ln) ≤ (nI po) then 0 else (fP po)) = 119 then (n_X5_number_0_9 fP ln (n_X5_sign_0_8 fP ln (n_X5_number_0_8 fP ln (po + 1) 0) (n_X5_number_0_9 fP ln (po + 1) 0) 61 61) (n_X5_sign_0_9 fP ln (n_X5_number_0_8 fP ln (po + 1) 0) (n_X5_number_0_9 fP ln (po + 1) 0) 61 61)) else (if (if (nI ln) ≤ (nI po) then 0 else (fP po)) = 114 then (n_X5_number_0_9 fP ln (po + 1) 0) else (if (if (nI ln) ≤ (nI po) then 0 else (fP po)) = 33 then (n_X5_sign_0_9 fP ln (n_X5_sign_0_8 fP ln (po + 1) 0 48 49) (n_X5_sign_0_9 fP ln (po + 1) 0 48 49) 48 52) else (if (if (nI ln) ≤ (nI po) then 0 else (fP po)) = 120 then (n_X5_number_0_9 fP ln (n_X5_sign_0_8 fP ln (po + 1) 0 48 49) (n_X5_sign_0_9 fP ln (po + 1) 0 48 49)) else (if (if (nI ln) ≤ (nI po) then 0 else (fP po)) = 115 then 0 else 1))))) else (if (if (nI ln) ≤ (nI po) then 0 else (fP po)) = 119 then (n_X5_number_0_9 fP ln (n_X5_sign_0_8 fP ln (n_X5_number_0_8 fP ln po 1) (n_X5_number_0_9 fP ln po 1) 61 61) (n_X5_sign_0_9 fP ln (n_X5_number_0_8 fP ln po 1) (n_X5_number_0_9 fP ln po 1) 61 61)) else (if (if (nI ln) ≤ (nI po) then 0 else (fP po)) = 114 then (n_X5_number_0_9 fP ln po 1) else (if (if (nI ln) ≤ (nI po) then 0 else (fP po)) = 33 then (n_X5_sign_0_9 fP ln (n_X5_sign_0_8 fP ln po 1 48 49) (n_X5_sign_0_9 fP ln po 1 48 49) 48 52) else (if (if (nI ln) ≤ (nI po) then 0 else (fP po)) = 120 then (n_X5_number_0_9 fP ln (n_X5_sign_0_8 fP ln po 1 48 49) (n_X5_sign_0_9 fP ln po 1 48 49)) else 1)))))
def n_X5_order_0_10 (fP : Nat → Int32) (ln : Nat) (po : Nat) : Int32 := (if (nI ln) ≤ (nI po) then 0 else (fP po))
def n_X5_order_0_11 (fP : Nat → Int32) (ln : Nat) (po : Nat) (wz : Nat) : Int32 := (if (nI wz) = 0 then (if (if (nI ln) ≤ (nI po) then 0 else (fP po)) = 119 then (r_X5_number fP ln (po + 1) 0) else (if (if (nI ln) ≤ (nI po) then 0 else (fP po)) = 114 then (r_X5_number fP ln (po + 1) 0) else (if (if (nI ln) ≤ (nI po) then 0 else (fP po)) = 33 then ((r_X5_sign fP ln (po + 1)) - 48) else (if (if (nI ln) ≤ (nI po) then 0 else (fP po)) = 120 then ((r_X5_sign fP ln (po + 1)) - 48) else 0)))) else (if (if (nI ln) ≤ (nI po) then 0 else (fP po)) = 119 then (r_X5_number fP ln po 1) else (if (if (nI ln) ≤ (nI po) then 0 else (fP po)) = 114 then (r_X5_number fP ln po 1) else (if (if (nI ln) ≤ (nI po) then 0 else (fP po)) = 33 then ((r_X5_sign fP ln po) - 48) else (if (if (nI ln) ≤ (nI po) then 0 else (fP po)) = 120 then ((r_X5_sign fP ln po) - 48) else 0)))))
def n_X5_order_0_12 (fP : Nat → Int32) (ln : Nat) (po : Nat) (wz : Nat) : Int32 := (if (nI wz) = 0 then (if (if (nI ln) ≤ (nI po) then 0 else (fP po)) = 119 then (r_X5_number fP ln (n_X5_sign_0_8 fP ln (n_X5_number_0_8 fP ln (po + 1) 0) (n_X5_number_0_9 fP ln (po + 1) 0) 61 61) (n_X5_sign_0_9 fP ln (n_X5_number_0_8 fP ln (po + 1) 0) (n_X5_number_0_9 fP ln (po + 1) 0) 61 61)) else (if (if (nI ln) ≤ (nI po) then 0 else (fP po)) = 114 then 0 else (if (if (nI ln) ≤ (nI po) then 0 else (fP po)) = 33 then ((r_X5_sign fP ln (n_X5_sign_0_8 fP ln (po + 1) 0 48 49)) - 48) else (if (if (nI ln) ≤ (nI po) then 0 else (fP po)) = 120 then (r_X5_number fP ln (n_X5_sign_0_8 fP ln (po + 1) 0 48 49) (n_X5_sign_0_9 fP ln (po + 1) 0 48 49)) else 0)))) else (if (if (nI ln) ≤ (nI po) then 0 else (fP po)) = 119 then (r_X5_number fP ln (n_X5_sign_0_8 fP ln (n_X5_number_0_8 fP ln po 1) (n_X5_number_0_9 fP ln po 1) 61 61) (n_X5_sign_0_9 fP ln (n_X5_number_0_8 fP ln po 1) (n_X5_number_0_9 fP ln po 1) 61 61)) else (if (if (nI ln) ≤ (nI po) then 0 else (fP po)) = 114 then 0 else (if (if (nI ln) ≤ (nI po) then 0 else (fP po)) = 33 then ((r_X5_sign fP ln (n_X5_sign_0_8 fP ln po 1 48 49)) - 48) else (if (if (nI ln) ≤ (nI po) then 0 else (fP po)) = 120 then (r_X5_number fP ln (n_X5_sign_0_8 fP ln po 1 48 49) (n_X5_sign_0_9 fP ln po 1 48 49)) else 0)))))
set_option maxHeartbeats 4000000 in
set_option maxRecDepth 100000 in
theorem c_X5_order (l : Launch) (D : va_G) (K : Nat → ClassId) (oM : Nat) (aS : Nat) (aA : Nat) (aB : Nat) (aT : Nat) (aV : Nat) (aP : Nat) (fP : Nat → Int32) (kn : Nat) (ln : Nat) (po : Nat) (wz : Nat) (le : Int32) (on : Int32) (tw : Int32) (hln : ln ≤ 80) (hpo : po ≤ ln) : Met l yX5_order wsX5_order ({ frames := 3, cells := 0, slots := 0, locals := 67 }) (va_Pc [.ref oM] (fun U => Bd D K U ∧ va_P D vwCl [(oM, .inr (5, [.ref aS, .ref aA, .ref aB, .int (nI kn), .ref aT, .ref aV, .ref aP, .int (nI ln), .int (nI po), .int (nI wz), .int le, .int on, .int tw])), (aP, .inl (K 0, 80, .inl fP))] U.heap ∧ va_D (fun _ => True) [(oM, .inr (5, [.ref aS, .ref aA, .ref aB, .int (nI kn), .ref aT, .ref aV, .ref aP, .int (nI ln), .int (nI po), .int (nI wz), .int le, .int on, .int tw])), (aP, .inl (K 0, 80, .inl fP))])) (va_Qv (fun (_ : Unit) => True) (fun _ t => va_P D vwCl [(oM, .inr (5, [.ref aS, .ref aA, .ref aB, .int (nI kn), .ref aT, .ref aV, .ref aP, .int (nI ln), .int (nI (n_X5_order_0_8 fP ln po wz)), .int (nI (n_X5_order_0_9 fP ln po wz)), .int (n_X5_order_0_10 fP ln po), .int (n_X5_order_0_11 fP ln po wz), .int (n_X5_order_0_12 fP ln po wz)])), (aP, .inl (K 0, 80, .inl fP))] t.heap) (inW [(oM, .inr (5, [.ref aS, .ref aA, .ref aB, .int (nI kn), .ref aT, .ref aV, .ref aP, .int (nI ln), .int (nI po), .int (nI wz), .int le, .int on, .int tw])), (aP, .inl (K 0, 80, .inl fP))])) 0 0 (inW [(oM, .inr (5, [.ref aS, .ref aA, .ref aB, .int (nI kn), .ref aT, .ref aV, .ref aP, .int (nI ln), .int (nI po), .int (nI wz), .int le, .int on, .int tw])), (aP, .inl (K 0, 80, .inl fP))]) := by
  refine Met.ofW (cc := cX5_order) (maxL := 3) (ret := none) (by decide) rfl ?_
  intro p e s m args below meth c s₁ B hml hv
  obtain ⟨rfl, hbd, hP, hD0⟩ := hv
  have hx := B.exec
  have hb := B.bytes
  have hr := B.returns
  have hts := atoms_spec (ws := wsX5_order) B.pre
  have hown : s.vm.findClass RX5 = some m.cls := findClass_of_methodNamed B.named
  have hlocks := B.notSynchronized
  have hK := hbd.2
  have hP : va_P D vwCl [(oM, .inr (5, [.ref aS, .ref aA, .ref aB, .int (nI kn), .ref aT, .ref aV, .ref aP, .int (nI ln), .int (nI po), .int (nI wz), .int le, .int on, .int tw])), (aP, .inl (K 0, 80, .inl fP))] s.heap := hP
  have hin5 : ∀ w ∈ wsX50, w ∈ wsX5_order := by decide +kernel
  have hD := hD0.own
  generalize hAe : inW [(oM, .inr (5, [.ref aS, .ref aA, .ref aB, .int (nI kn), .ref aT, .ref aV, .ref aP, .int (nI ln), .int (nI po), .int (nI wz), .int le, .int on, .int tw])), (aP, .inl (K 0, 80, .inl fP))] = A at hD ⊢
  have hS : va_S A s.heap s.heap [] := va_S.rf
  have hl := lv_entry ([.ref oM]) (n := 3) (Nat.le_of_ble_eq_true rfl)
  rw [lg_entry_eq]
  generalize (lg_sl ([.ref oM]) ++ List.replicate (3 - (lg_sl ([.ref oM])).length) Slot.unset).toArray = ls at hl ⊢
  have hl : lv_has ls 3 [(0, .ref oM)] := hl
  have K0 : ∀ (H : Heap) (locs : List Loc) (ls : Array Slot), va_P D vwCl [(oM, .inr (5, [.ref aS, .ref aA, .ref aB, .int (nI kn), .ref aT, .ref aV, .ref aP, .int (nI ln), .int (nI po), .int (nI wz), .int le, .int on, .int tw])), (aP, .inl (K 0, 80, .inl fP))] H → va_D A [(oM, .inr (5, [.ref aS, .ref aA, .ref aB, .int (nI kn), .ref aT, .ref aV, .ref aP, .int (nI ln), .int (nI po), .int (nI wz), .int le, .int on, .int tw])), (aP, .inl (K 0, 80, .inl fP))] → va_S A s.heap H locs → lv_has ls 3 [(0, .ref oM)] → W p l e (headSpec wsX5_order ({ frames := 3, cells := 0, slots := 0, locals := 67 })).room s m ([.ref oM] : List Value).toArray below meth c H locs 0 0 (MQ below (va_Qv (fun (_ : Unit) => True) (fun _ t => va_P D vwCl [(oM, .inr (5, [.ref aS, .ref aA, .ref aB, .int (nI kn), .ref aT, .ref aV, .ref aP, .int (nI ln), .int (nI (n_X5_order_0_8 fP ln po wz)), .int (nI (n_X5_order_0_9 fP ln po wz)), .int (n_X5_order_0_10 fP ln po), .int (n_X5_order_0_11 fP ln po wz), .int (n_X5_order_0_12 fP ln po wz)])), (aP, .inl (K 0, 80, .inl fP))] t.heap) A) ([.ref oM] : List Value).toArray s 0 0 A) (F0 m 0 ls []) := by
    intro H locs ls hP hD hS hl
    refine lv_aload_n hx hb dX5_order_0 rfl (lv_at hl 0 rfl) ?_
    refine va_get (D := D) (ci := 5) (v := .int (nI po)) (C := RX5) (T := TX5) (N := 13) hx hb hts hin5 hown hK hP 0 rfl rfl 8 (by decide) (hts _ (List.mem_of_getElem? (i := 1) rfl)) (fun _ h9 => h9) rfl dX5_order_1 ?_
    refine lv_aload_n hx hb dX5_order_4 rfl (lv_at hl 0 rfl) ?_
    refine va_get (D := D) (ci := 5) (v := .int (nI ln)) (C := RX5) (T := TX5) (N := 13) hx hb hts hin5 hown hK hP 0 rfl rfl 7 (by decide) (hts _ (List.mem_of_getElem? (i := 2) rfl)) (fun _ h9 => h9) rfl dX5_order_5 ?_
    have K_3 : ∀ (H : Heap) (locs : List Loc) (ls : Array Slot), va_P D vwCl [(oM, .inr (5, [.ref aS, .ref aA, .ref aB, .int (nI kn), .ref aT, .ref aV, .ref aP, .int (nI ln), .int (nI po), .int (nI wz), .int le, .int on, .int tw])), (aP, .inl (K 0, 80, .inl fP))] H → va_D A [(oM, .inr (5, [.ref aS, .ref aA, .ref aB, .int (nI kn), .ref aT, .ref aV, .ref aP, .int (nI ln), .int (nI po), .int (nI wz), .int le, .int on, .int tw])), (aP, .inl (K 0, 80, .inl fP))] → va_S A s.heap H locs → lv_has ls 3 [(0, .ref oM)] → W p l e (headSpec wsX5_order ({ frames := 3, cells := 0, slots := 0, locals := 67 })).room s m ([.ref oM] : List Value).toArray below meth c H locs 0 0 (MQ below (va_Qv (fun (_ : Unit) => True) (fun _ t => va_P D vwCl [(oM, .inr (5, [.ref aS, .ref aA, .ref aB, .int (nI kn), .ref aT, .ref aV, .ref aP, .int (nI ln), .int (nI (n_X5_order_0_8 fP ln po wz)), .int (nI (n_X5_order_0_9 fP ln po wz)), .int (n_X5_order_0_10 fP ln po), .int (n_X5_order_0_11 fP ln po wz), .int (n_X5_order_0_12 fP ln po wz)])), (aP, .inl (K 0, 80, .inl fP))] t.heap) A) ([.ref oM] : List Value).toArray s 0 0 A) (F0 m 24 ls [.int (if (nI ln) ≤ (nI po) then 0 else (fP po))]) := by
      intro H locs ls hP hD hS hl
      refine lv_istore_n (lv' := [(1, .int (if (nI ln) ≤ (nI po) then 0 else (fP po))), (0, .ref oM)]) hx hb dX5_order_24 rfl hl (by decide) rfl (fun ls hl => ?_)
      refine lv_aload_n hx hb dX5_order_25 rfl (lv_at hl 1 rfl) ?_
      refine lv_aload_n hx hb dX5_order_26 rfl (lv_at hl 1 rfl) ?_
      refine va_get (D := D) (ci := 5) (v := .int (nI wz)) (C := RX5) (T := TX5) (N := 13) hx hb hts hin5 hown hK hP 0 rfl rfl 9 (by decide) (hts _ (List.mem_of_getElem? (i := 4) rfl)) (fun _ h9 => h9) rfl dX5_order_27 ?_
      refine lv_if_ne (tgt := 63) hx hb dX5_order_30 (by decide) (fun c_4 => ?_) (fun c_4 => ?_)
      · skip
        refine lv_iconst (v := 1) hx hb dX5_order_63 (by decide) ?_
        refine lv_goto (tgt := 68) hx hb dX5_order_64 (by decide) ?_
        refine va_put (D := D) (ci := 5) (v := .int 1) (ty := .boolean) (C := RX5) (T := TX5) (N := 13) hx hb hts hin5 tyX5 tyX5_ok nmX5 hown hK hP hD hS 0 rfl rfl 9 (by decide) (hts _ (List.mem_of_getElem? (i := 4) rfl)) (fun _ h9 => h9) rfl (by decide +kernel) rfl rfl (Nat.le_of_ble_eq_true rfl) dX5_order_68 (fun H locs hP hD hS => ?_)
        have hP : va_P D vwCl [(oM, .inr (5, [.ref aS, .ref aA, .ref aB, .int (nI kn), .ref aT, .ref aV, .ref aP, .int (nI ln), .int (nI po), .int 1, .int le, .int on, .int tw])), (aP, .inl (K 0, 80, .inl fP))] H := hP
        have hD : va_D A [(oM, .inr (5, [.ref aS, .ref aA, .ref aB, .int (nI kn), .ref aT, .ref aV, .ref aP, .int (nI ln), .int (nI po), .int 1, .int le, .int on, .int tw])), (aP, .inl (K 0, 80, .inl fP))] := hD
        refine lv_aload_n hx hb dX5_order_71 rfl (lv_at hl 1 rfl) ?_
        refine lv_dup hx hb dX5_order_72 rfl ?_
        refine va_get (D := D) (ci := 5) (v := .int (nI po)) (C := RX5) (T := TX5) (N := 13) hx hb hts hin5 hown hK hP 0 rfl rfl 8 (by decide) (hts _ (List.mem_of_getElem? (i := 1) rfl)) (fun _ h9 => h9) rfl dX5_order_73 ?_
        refine lv_aload_n hx hb dX5_order_76 rfl (lv_at hl 1 rfl) ?_
        refine va_get (D := D) (ci := 5) (v := .int 1) (C := RX5) (T := TX5) (N := 13) hx hb hts hin5 hown hK hP 0 rfl rfl 9 (by decide) (hts _ (List.mem_of_getElem? (i := 4) rfl)) (fun _ h9 => h9) rfl dX5_order_77 ?_
        refine lv_if_eq (tgt := 87) hx hb dX5_order_80 (by decide) (fun h_5 => absurd h_5 (by decide)) (fun _ => ?_)
        refine lv_iconst (v := 0) hx hb dX5_order_83 (by decide) ?_
        refine lv_goto (tgt := 88) hx hb dX5_order_84 (by decide) ?_
        refine lv_iadd hx hb dX5_order_88 ?_
        refine st1 (y := (nI po)) (nI_add po 0) ?_
        refine va_put (D := D) (ci := 5) (v := .int (nI po)) (ty := .int) (C := RX5) (T := TX5) (N := 13) hx hb hts hin5 tyX5 tyX5_ok nmX5 hown hK hP hD hS 0 rfl rfl 8 (by decide) (hts _ (List.mem_of_getElem? (i := 1) rfl)) (fun _ h9 => h9) rfl (by decide +kernel) rfl rfl (Nat.le_of_ble_eq_true rfl) dX5_order_89 (fun H locs hP hD hS => ?_)
        have hP : va_P D vwCl [(oM, .inr (5, [.ref aS, .ref aA, .ref aB, .int (nI kn), .ref aT, .ref aV, .ref aP, .int (nI ln), .int (nI po), .int 1, .int le, .int on, .int tw])), (aP, .inl (K 0, 80, .inl fP))] H := hP
        have hD : va_D A [(oM, .inr (5, [.ref aS, .ref aA, .ref aB, .int (nI kn), .ref aT, .ref aV, .ref aP, .int (nI ln), .int (nI po), .int 1, .int le, .int on, .int tw])), (aP, .inl (K 0, 80, .inl fP))] := hD
        refine lv_aload_n hx hb dX5_order_92 rfl (lv_at hl 1 rfl) ?_
        refine lv_iload_n hx hb dX5_order_93 rfl (lv_at hl 0 rfl) ?_
        refine va_put (D := D) (ci := 5) (v := .int (if (nI ln) ≤ (nI po) then 0 else (fP po))) (ty := .int) (C := RX5) (T := TX5) (N := 13) hx hb hts hin5 tyX5 tyX5_ok nmX5 hown hK hP hD hS 0 rfl rfl 10 (by decide) (hts _ (List.mem_of_getElem? (i := 5) rfl)) (fun _ h9 => h9) rfl (by decide +kernel) rfl rfl (Nat.le_of_ble_eq_true rfl) dX5_order_94 (fun H locs hP hD hS => ?_)
        have hP : va_P D vwCl [(oM, .inr (5, [.ref aS, .ref aA, .ref aB, .int (nI kn), .ref aT, .ref aV, .ref aP, .int (nI ln), .int (nI po), .int 1, .int (if (nI ln) ≤ (nI po) then 0 else (fP po)), .int on, .int tw])), (aP, .inl (K 0, 80, .inl fP))] H := hP
        have hD : va_D A [(oM, .inr (5, [.ref aS, .ref aA, .ref aB, .int (nI kn), .ref aT, .ref aV, .ref aP, .int (nI ln), .int (nI po), .int 1, .int (if (nI ln) ≤ (nI po) then 0 else (fP po)), .int on, .int tw])), (aP, .inl (K 0, 80, .inl fP))] := hD
        refine lv_aload_n hx hb dX5_order_97 rfl (lv_at hl 1 rfl) ?_
        refine lv_iload_n hx hb dX5_order_98 rfl (lv_at hl 0 rfl) ?_
        refine lv_bipush (v := 119) hx hb dX5_order_99 (by decide) ?_
        refine lv_icmp_eq (tgt := 110) hx hb dX5_order_101 (by decide) (fun c_6 => ?_) (fun c_6 => ?_)
        · skip
          refine lv_aload_n hx hb dX5_order_110 rfl (lv_at hl 1 rfl) ?_
          have hPc := hP.sub (ws' := [(oM, .inr (5, [.ref aS, .ref aA, .ref aB, .int (nI kn), .ref aT, .ref aV, .ref aP, .int (nI ln), .int (nI po), .int 1, .int (if (nI ln) ≤ (nI po) then 0 else (fP po)), .int on, .int tw])), (aP, .inl (K 0, 80, .inl fP))]) [0, 1] rfl
          have hDc : va_D (fun _ => True) [(oM, .inr (5, [.ref aS, .ref aA, .ref aB, .int (nI kn), .ref aT, .ref aV, .ref aP, .int (nI ln), .int (nI po), .int 1, .int (if (nI ln) ≤ (nI po) then 0 else (fP po)), .int on, .int tw])), (aP, .inl (K 0, 80, .inl fP))] := (hD.sub (ws' := [(oM, .inr (5, [.ref aS, .ref aA, .ref aB, .int (nI kn), .ref aT, .ref aV, .ref aP, .int (nI ln), .int (nI po), .int 1, .int (if (nI ln) ≤ (nI po) then 0 else (fP po)), .int on, .int tw])), (aP, .inl (K 0, 80, .inl fP))]) [0, 1] (by decide +kernel) rfl).weaken (fun _ _ _ _ => trivial)
          refine kw_i (W1 := [(oM, .inr (5, [.ref aS, .ref aA, .ref aB, .int (nI kn), .ref aT, .ref aV, .ref aP, .int (nI ln), .int (nI (n_X5_number_0_8 fP ln po 1)), .int (nI (n_X5_number_0_9 fP ln po 1)), .int (if (nI ln) ≤ (nI po) then 0 else (fP po)), .int on, .int tw])), (aP, .inl (K 0, 80, .inl fP))]) (w1 := [(oM, .inr (5, [.ref aS, .ref aA, .ref aB, .int (nI kn), .ref aT, .ref aV, .ref aP, .int (nI ln), .int (nI (n_X5_number_0_8 fP ln po 1)), .int (nI (n_X5_number_0_9 fP ln po 1)), .int (if (nI ln) ≤ (nI po) then 0 else (fP po)), .int on, .int tw])), (aP, .inl (K 0, 80, .inl fP))]) (va_runV (As := []) (rest := [.ref oM]) ⟨hx, hb, hml, hown, hts⟩ (c_X5_number l D K oM aS aA aB aT aV aP fP kn ln po 1 (if (nI ln) ≤ (nI po) then 0 else (fP po)) on tw hln (by omega)) (cwV 0 hts gX5_order_X5_number rfl rfl rfl (by decide +kernel) ⟨Nat.le_of_ble_eq_true rfl, Nat.le_of_ble_eq_true rfl⟩) (pre_wr hbd hPc hDc (ci := 5) (q0 := 0) rfl rfl) rfl rfl hl.1 rfl (lv_room (Nat.le_of_ble_eq_true rfl)) dX5_order_111 ⟨Nat.zero_le _, Nat.zero_le _⟩) hP hD hS [0, 1] [] 2 rfl rfl rfl (Eq.trans (b := List.map some ([])) rfl rfl) (by decide +kernel) (by decide +kernel) (by simp only [List.map_append, drW_fst, List.map_cons, List.map_nil]) (fun r_7 H locs hr_7 hP hD hS => ?_)
          subst hr_7
          have hb_8 := nm_le (fP := fP) (ln := ln) (po := po) (wz := 1) hln (by omega)
          refine lv_goto (tgt := 144) hx hb dX5_order_114 (by decide) ?_
          refine va_put (D := D) (ci := 5) (v := .int (r_X5_number fP ln po 1)) (ty := .int) (C := RX5) (T := TX5) (N := 13) hx hb hts hin5 tyX5 tyX5_ok nmX5 hown hK hP hD hS 0 rfl rfl 11 (by decide) (hts _ (List.mem_of_getElem? (i := 6) rfl)) (fun _ h9 => h9) rfl (by decide +kernel) rfl rfl (Nat.le_of_ble_eq_true rfl) dX5_order_144 (fun H locs hP hD hS => ?_)
          have hP : va_P D vwCl [(oM, .inr (5, [.ref aS, .ref aA, .ref aB, .int (nI kn), .ref aT, .ref aV, .ref aP, .int (nI ln), .int (nI (n_X5_number_0_8 fP ln po 1)), .int (nI (n_X5_number_0_9 fP ln po 1)), .int (if (nI ln) ≤ (nI po) then 0 else (fP po)), .int (r_X5_number fP ln po 1), .int tw])), (aP, .inl (K 0, 80, .inl fP))] H := hP
          have hD : va_D A [(oM, .inr (5, [.ref aS, .ref aA, .ref aB, .int (nI kn), .ref aT, .ref aV, .ref aP, .int (nI ln), .int (nI (n_X5_number_0_8 fP ln po 1)), .int (nI (n_X5_number_0_9 fP ln po 1)), .int (if (nI ln) ≤ (nI po) then 0 else (fP po)), .int (r_X5_number fP ln po 1), .int tw])), (aP, .inl (K 0, 80, .inl fP))] := hD
          refine lv_iload_n hx hb dX5_order_147 rfl (lv_at hl 0 rfl) ?_
          refine lv_bipush (v := 119) hx hb dX5_order_148 (by decide) ?_
          refine lv_icmp_ne (tgt := 164) hx hb dX5_order_150 (by decide) (fun h_9 => absurd c_6 h_9) (fun _ => ?_)
          refine lv_aload_n hx hb dX5_order_153 rfl (lv_at hl 1 rfl) ?_
          refine lv_bipush (v := 61) hx hb dX5_order_154 (by decide) ?_
          refine lv_bipush (v := 61) hx hb dX5_order_156 (by decide) ?_
          have hPc := hP.sub (ws' := [(oM, .inr (5, [.ref aS, .ref aA, .ref aB, .int (nI kn), .ref aT, .ref aV, .ref aP, .int (nI ln), .int (nI (n_X5_number_0_8 fP ln po 1)), .int (nI (n_X5_number_0_9 fP ln po 1)), .int (if (nI ln) ≤ (nI po) then 0 else (fP po)), .int (r_X5_number fP ln po 1), .int tw])), (aP, .inl (K 0, 80, .inl fP))]) [0, 1] rfl
          have hDc : va_D (fun _ => True) [(oM, .inr (5, [.ref aS, .ref aA, .ref aB, .int (nI kn), .ref aT, .ref aV, .ref aP, .int (nI ln), .int (nI (n_X5_number_0_8 fP ln po 1)), .int (nI (n_X5_number_0_9 fP ln po 1)), .int (if (nI ln) ≤ (nI po) then 0 else (fP po)), .int (r_X5_number fP ln po 1), .int tw])), (aP, .inl (K 0, 80, .inl fP))] := (hD.sub (ws' := [(oM, .inr (5, [.ref aS, .ref aA, .ref aB, .int (nI kn), .ref aT, .ref aV, .ref aP, .int (nI ln), .int (nI (n_X5_number_0_8 fP ln po 1)), .int (nI (n_X5_number_0_9 fP ln po 1)), .int (if (nI ln) ≤ (nI po) then 0 else (fP po)), .int (r_X5_number fP ln po 1), .int tw])), (aP, .inl (K 0, 80, .inl fP))]) [0, 1] (by decide +kernel) rfl).weaken (fun _ _ _ _ => trivial)
          refine kw_i (W1 := [(oM, .inr (5, [.ref aS, .ref aA, .ref aB, .int (nI kn), .ref aT, .ref aV, .ref aP, .int (nI ln), .int (nI (n_X5_sign_0_8 fP ln (n_X5_number_0_8 fP ln po 1) (n_X5_number_0_9 fP ln po 1) 61 61)), .int (nI (n_X5_sign_0_9 fP ln (n_X5_number_0_8 fP ln po 1) (n_X5_number_0_9 fP ln po 1) 61 61)), .int (if (nI ln) ≤ (nI po) then 0 else (fP po)), .int (r_X5_number fP ln po 1), .int tw])), (aP, .inl (K 0, 80, .inl fP))]) (w1 := [(oM, .inr (5, [.ref aS, .ref aA, .ref aB, .int (nI kn), .ref aT, .ref aV, .ref aP, .int (nI ln), .int (nI (n_X5_sign_0_8 fP ln (n_X5_number_0_8 fP ln po 1) (n_X5_number_0_9 fP ln po 1) 61 61)), .int (nI (n_X5_sign_0_9 fP ln (n_X5_number_0_8 fP ln po 1) (n_X5_number_0_9 fP ln po 1) 61 61)), .int (if (nI ln) ≤ (nI po) then 0 else (fP po)), .int (r_X5_number fP ln po 1), .int tw])), (aP, .inl (K 0, 80, .inl fP))]) (va_runV (As := [.int 61, .int 61]) (rest := []) ⟨hx, hb, hml, hown, hts⟩ (c_X5_sign l D K oM aS aA aB aT aV aP fP kn ln (n_X5_number_0_8 fP ln po 1) (n_X5_number_0_9 fP ln po 1) (if (nI ln) ≤ (nI po) then 0 else (fP po)) (r_X5_number fP ln po 1) tw 61 61 hln (by omega)) (cwV 2 hts gX5_order_X5_sign rfl rfl rfl (by decide +kernel) ⟨Nat.le_of_ble_eq_true rfl, Nat.le_of_ble_eq_true rfl⟩) (pre_wr hbd hPc hDc (ci := 5) (q0 := 0) rfl rfl) rfl rfl hl.1 rfl (lv_room (Nat.le_of_ble_eq_true rfl)) dX5_order_158 ⟨Nat.zero_le _, Nat.zero_le _⟩) hP hD hS [0, 1] [] 2 rfl rfl rfl (Eq.trans (b := List.map some ([])) rfl rfl) (by decide +kernel) (by decide +kernel) (by simp only [List.map_append, drW_fst, List.map_cons, List.map_nil]) (fun r_10 H locs hr_10 hP hD hS => ?_)
          subst hr_10
          have hb_11 := sn_le (fP := fP) (ln := ln) (po := (n_X5_number_0_8 fP ln po 1)) (wz := (n_X5_number_0_9 fP ln po 1)) (xl := 61) (xh := 61) (by decide) hln (by omega)
          refine lv_goto (tgt := 165) hx hb dX5_order_161 (by decide) ?_
          refine lv_istore_n (lv' := [(2, .int (r_X5_sign fP ln (n_X5_number_0_8 fP ln po 1))), (1, .int (if (nI ln) ≤ (nI po) then 0 else (fP po))), (0, .ref oM)]) hx hb dX5_order_165 rfl hl (by decide) rfl (fun ls hl => ?_)
          refine lv_aload_n hx hb dX5_order_166 rfl (lv_at hl 2 rfl) ?_
          refine lv_iload_n hx hb dX5_order_167 rfl (lv_at hl 1 rfl) ?_
          refine lv_bipush (v := 119) hx hb dX5_order_168 (by decide) ?_
          refine lv_icmp_eq (tgt := 179) hx hb dX5_order_170 (by decide) (fun _ => ?_) (fun h_12 => absurd c_6 h_12)
          refine lv_aload_n hx hb dX5_order_179 rfl (lv_at hl 2 rfl) ?_
          have hPc := hP.sub (ws' := [(oM, .inr (5, [.ref aS, .ref aA, .ref aB, .int (nI kn), .ref aT, .ref aV, .ref aP, .int (nI ln), .int (nI (n_X5_sign_0_8 fP ln (n_X5_number_0_8 fP ln po 1) (n_X5_number_0_9 fP ln po 1) 61 61)), .int (nI (n_X5_sign_0_9 fP ln (n_X5_number_0_8 fP ln po 1) (n_X5_number_0_9 fP ln po 1) 61 61)), .int (if (nI ln) ≤ (nI po) then 0 else (fP po)), .int (r_X5_number fP ln po 1), .int tw])), (aP, .inl (K 0, 80, .inl fP))]) [0, 1] rfl
          have hDc : va_D (fun _ => True) [(oM, .inr (5, [.ref aS, .ref aA, .ref aB, .int (nI kn), .ref aT, .ref aV, .ref aP, .int (nI ln), .int (nI (n_X5_sign_0_8 fP ln (n_X5_number_0_8 fP ln po 1) (n_X5_number_0_9 fP ln po 1) 61 61)), .int (nI (n_X5_sign_0_9 fP ln (n_X5_number_0_8 fP ln po 1) (n_X5_number_0_9 fP ln po 1) 61 61)), .int (if (nI ln) ≤ (nI po) then 0 else (fP po)), .int (r_X5_number fP ln po 1), .int tw])), (aP, .inl (K 0, 80, .inl fP))] := (hD.sub (ws' := [(oM, .inr (5, [.ref aS, .ref aA, .ref aB, .int (nI kn), .ref aT, .ref aV, .ref aP, .int (nI ln), .int (nI (n_X5_sign_0_8 fP ln (n_X5_number_0_8 fP ln po 1) (n_X5_number_0_9 fP ln po 1) 61 61)), .int (nI (n_X5_sign_0_9 fP ln (n_X5_number_0_8 fP ln po 1) (n_X5_number_0_9 fP ln po 1) 61 61)), .int (if (nI ln) ≤ (nI po) then 0 else (fP po)), .int (r_X5_number fP ln po 1), .int tw])), (aP, .inl (K 0, 80, .inl fP))]) [0, 1] (by decide +kernel) rfl).weaken (fun _ _ _ _ => trivial)
          refine kw_i (W1 := [(oM, .inr (5, [.ref aS, .ref aA, .ref aB, .int (nI kn), .ref aT, .ref aV, .ref aP, .int (nI ln), .int (nI (n_X5_number_0_8 fP ln (n_X5_sign_0_8 fP ln (n_X5_number_0_8 fP ln po 1) (n_X5_number_0_9 fP ln po 1) 61 61) (n_X5_sign_0_9 fP ln (n_X5_number_0_8 fP ln po 1) (n_X5_number_0_9 fP ln po 1) 61 61))), .int (nI (n_X5_number_0_9 fP ln (n_X5_sign_0_8 fP ln (n_X5_number_0_8 fP ln po 1) (n_X5_number_0_9 fP ln po 1) 61 61) (n_X5_sign_0_9 fP ln (n_X5_number_0_8 fP ln po 1) (n_X5_number_0_9 fP ln po 1) 61 61))), .int (if (nI ln) ≤ (nI po) then 0 else (fP po)), .int (r_X5_number fP ln po 1), .int tw])), (aP, .inl (K 0, 80, .inl fP))]) (w1 := [(oM, .inr (5, [.ref aS, .ref aA, .ref aB, .int (nI kn), .ref aT, .ref aV, .ref aP, .int (nI ln), .int (nI (n_X5_number_0_8 fP ln (n_X5_sign_0_8 fP ln (n_X5_number_0_8 fP ln po 1) (n_X5_number_0_9 fP ln po 1) 61 61) (n_X5_sign_0_9 fP ln (n_X5_number_0_8 fP ln po 1) (n_X5_number_0_9 fP ln po 1) 61 61))), .int (nI (n_X5_number_0_9 fP ln (n_X5_sign_0_8 fP ln (n_X5_number_0_8 fP ln po 1) (n_X5_number_0_9 fP ln po 1) 61 61) (n_X5_sign_0_9 fP ln (n_X5_number_0_8 fP ln po 1) (n_X5_number_0_9 fP ln po 1) 61 61))), .int (if (nI ln) ≤ (nI po) then 0 else (fP po)), .int (r_X5_number fP ln po 1), .int tw])), (aP, .inl (K 0, 80, .inl fP))]) (va_runV (As := []) (rest := [.ref oM]) ⟨hx, hb, hml, hown, hts⟩ (c_X5_number l D K oM aS aA aB aT aV aP fP kn ln (n_X5_sign_0_8 fP ln (n_X5_number_0_8 fP ln po 1) (n_X5_number_0_9 fP ln po 1) 61 61) (n_X5_sign_0_9 fP ln (n_X5_number_0_8 fP ln po 1) (n_X5_number_0_9 fP ln po 1) 61 61) (if (nI ln) ≤ (nI po) then 0 else (fP po)) (r_X5_number fP ln po 1) tw hln (by omega)) (cwV 0 hts gX5_order_X5_number rfl rfl rfl (by decide +kernel) ⟨Nat.le_of_ble_eq_true rfl, Nat.le_of_ble_eq_true rfl⟩) (pre_wr hbd hPc hDc (ci := 5) (q0 := 0) rfl rfl) rfl rfl hl.1 rfl (lv_room (Nat.le_of_ble_eq_true rfl)) dX5_order_180 ⟨Nat.zero_le _, Nat.zero_le _⟩) hP hD hS [0, 1] [] 2 rfl rfl rfl (Eq.trans (b := List.map some ([])) rfl rfl) (by decide +kernel) (by decide +kernel) (by simp only [List.map_append, drW_fst, List.map_cons, List.map_nil]) (fun r_13 H locs hr_13 hP hD hS => ?_)
          subst hr_13
          have hb_14 := nm_le (fP := fP) (ln := ln) (po := (n_X5_sign_0_8 fP ln (n_X5_number_0_8 fP ln po 1) (n_X5_number_0_9 fP ln po 1) 61 61)) (wz := (n_X5_sign_0_9 fP ln (n_X5_number_0_8 fP ln po 1) (n_X5_number_0_9 fP ln po 1) 61 61)) hln (by omega)
          refine lv_goto (tgt := 207) hx hb dX5_order_183 (by decide) ?_
          refine va_put (D := D) (ci := 5) (v := .int (r_X5_number fP ln (n_X5_sign_0_8 fP ln (n_X5_number_0_8 fP ln po 1) (n_X5_number_0_9 fP ln po 1) 61 61) (n_X5_sign_0_9 fP ln (n_X5_number_0_8 fP ln po 1) (n_X5_number_0_9 fP ln po 1) 61 61))) (ty := .int) (C := RX5) (T := TX5) (N := 13) hx hb hts hin5 tyX5 tyX5_ok nmX5 hown hK hP hD hS 0 rfl rfl 12 (by decide) (hts _ (List.mem_of_getElem? (i := 7) rfl)) (fun _ h9 => h9) rfl (by decide +kernel) rfl rfl (Nat.le_of_ble_eq_true rfl) dX5_order_207 (fun H locs hP hD hS => ?_)
          have hP : va_P D vwCl [(oM, .inr (5, [.ref aS, .ref aA, .ref aB, .int (nI kn), .ref aT, .ref aV, .ref aP, .int (nI ln), .int (nI (n_X5_number_0_8 fP ln (n_X5_sign_0_8 fP ln (n_X5_number_0_8 fP ln po 1) (n_X5_number_0_9 fP ln po 1) 61 61) (n_X5_sign_0_9 fP ln (n_X5_number_0_8 fP ln po 1) (n_X5_number_0_9 fP ln po 1) 61 61))), .int (nI (n_X5_number_0_9 fP ln (n_X5_sign_0_8 fP ln (n_X5_number_0_8 fP ln po 1) (n_X5_number_0_9 fP ln po 1) 61 61) (n_X5_sign_0_9 fP ln (n_X5_number_0_8 fP ln po 1) (n_X5_number_0_9 fP ln po 1) 61 61))), .int (if (nI ln) ≤ (nI po) then 0 else (fP po)), .int (r_X5_number fP ln po 1), .int (r_X5_number fP ln (n_X5_sign_0_8 fP ln (n_X5_number_0_8 fP ln po 1) (n_X5_number_0_9 fP ln po 1) 61 61) (n_X5_sign_0_9 fP ln (n_X5_number_0_8 fP ln po 1) (n_X5_number_0_9 fP ln po 1) 61 61))])), (aP, .inl (K 0, 80, .inl fP))] H := hP
          have hD : va_D A [(oM, .inr (5, [.ref aS, .ref aA, .ref aB, .int (nI kn), .ref aT, .ref aV, .ref aP, .int (nI ln), .int (nI (n_X5_number_0_8 fP ln (n_X5_sign_0_8 fP ln (n_X5_number_0_8 fP ln po 1) (n_X5_number_0_9 fP ln po 1) 61 61) (n_X5_sign_0_9 fP ln (n_X5_number_0_8 fP ln po 1) (n_X5_number_0_9 fP ln po 1) 61 61))), .int (nI (n_X5_number_0_9 fP ln (n_X5_sign_0_8 fP ln (n_X5_number_0_8 fP ln po 1) (n_X5_number_0_9 fP ln po 1) 61 61) (n_X5_sign_0_9 fP ln (n_X5_number_0_8 fP ln po 1) (n_X5_number_0_9 fP ln po 1) 61 61))), .int (if (nI ln) ≤ (nI po) then 0 else (fP po)), .int (r_X5_number fP ln po 1), .int (r_X5_number fP ln (n_X5_sign_0_8 fP ln (n_X5_number_0_8 fP ln po 1) (n_X5_number_0_9 fP ln po 1) 61 61) (n_X5_sign_0_9 fP ln (n_X5_number_0_8 fP ln po 1) (n_X5_number_0_9 fP ln po 1) 61 61))])), (aP, .inl (K 0, 80, .inl fP))] := hD
          have e_15 : n_X5_order_0_8 fP ln po wz = (n_X5_number_0_8 fP ln (n_X5_sign_0_8 fP ln (n_X5_number_0_8 fP ln po 1) (n_X5_number_0_9 fP ln po 1) 61 61) (n_X5_sign_0_9 fP ln (n_X5_number_0_8 fP ln po 1) (n_X5_number_0_9 fP ln po 1) 61 61)) := by unfold n_X5_order_0_8; rw [if_neg c_4, if_pos c_6]
          have e_16 : n_X5_order_0_9 fP ln po wz = (n_X5_number_0_9 fP ln (n_X5_sign_0_8 fP ln (n_X5_number_0_8 fP ln po 1) (n_X5_number_0_9 fP ln po 1) 61 61) (n_X5_sign_0_9 fP ln (n_X5_number_0_8 fP ln po 1) (n_X5_number_0_9 fP ln po 1) 61 61)) := by unfold n_X5_order_0_9; rw [if_neg c_4, if_pos c_6]
          have e_17 : n_X5_order_0_10 fP ln po = (if (nI ln) ≤ (nI po) then 0 else (fP po)) := rfl
          have e_18 : n_X5_order_0_11 fP ln po wz = (r_X5_number fP ln po 1) := by unfold n_X5_order_0_11; rw [if_neg c_4, if_pos c_6]
          have e_19 : n_X5_order_0_12 fP ln po wz = (r_X5_number fP ln (n_X5_sign_0_8 fP ln (n_X5_number_0_8 fP ln po 1) (n_X5_number_0_9 fP ln po 1) 61 61) (n_X5_sign_0_9 fP ln (n_X5_number_0_8 fP ln po 1) (n_X5_number_0_9 fP ln po 1) 61 61)) := by unfold n_X5_order_0_12; rw [if_neg c_4, if_pos c_6]
          have hPf : va_P D vwCl [(oM, .inr (5, [.ref aS, .ref aA, .ref aB, .int (nI kn), .ref aT, .ref aV, .ref aP, .int (nI ln), .int (nI (n_X5_order_0_8 fP ln po wz)), .int (nI (n_X5_order_0_9 fP ln po wz)), .int (n_X5_order_0_10 fP ln po), .int (n_X5_order_0_11 fP ln po wz), .int (n_X5_order_0_12 fP ln po wz)])), (aP, .inl (K 0, 80, .inl fP))] H := (by rw [e_15, e_16, e_17, e_18, e_19]; exact hP)
          exact W.vret hx hb hr (fun t ht hW => ⟨⟨(), rfl, trivial, by show va_P D vwCl _ t.heap; rw [ht]; exact hPf⟩, hS.F ht⟩) hS.2.2 dX5_order_210
        · skip
          refine lv_iload_n hx hb dX5_order_104 rfl (lv_at hl 0 rfl) ?_
          refine lv_bipush (v := 114) hx hb dX5_order_105 (by decide) ?_
          refine lv_icmp_ne (tgt := 117) hx hb dX5_order_107 (by decide) (fun c_20 => ?_) (fun c_20 => ?_)
          · skip
            refine lv_iload_n hx hb dX5_order_117 rfl (lv_at hl 0 rfl) ?_
            refine lv_bipush (v := 33) hx hb dX5_order_118 (by decide) ?_
            refine lv_icmp_eq (tgt := 129) hx hb dX5_order_120 (by decide) (fun c_21 => ?_) (fun c_21 => ?_)
            · skip
              refine lv_aload_n hx hb dX5_order_129 rfl (lv_at hl 1 rfl) ?_
              refine lv_bipush (v := 48) hx hb dX5_order_130 (by decide) ?_
              refine lv_bipush (v := 49) hx hb dX5_order_132 (by decide) ?_
              have hPc := hP.sub (ws' := [(oM, .inr (5, [.ref aS, .ref aA, .ref aB, .int (nI kn), .ref aT, .ref aV, .ref aP, .int (nI ln), .int (nI po), .int 1, .int (if (nI ln) ≤ (nI po) then 0 else (fP po)), .int on, .int tw])), (aP, .inl (K 0, 80, .inl fP))]) [0, 1] rfl
              have hDc : va_D (fun _ => True) [(oM, .inr (5, [.ref aS, .ref aA, .ref aB, .int (nI kn), .ref aT, .ref aV, .ref aP, .int (nI ln), .int (nI po), .int 1, .int (if (nI ln) ≤ (nI po) then 0 else (fP po)), .int on, .int tw])), (aP, .inl (K 0, 80, .inl fP))] := (hD.sub (ws' := [(oM, .inr (5, [.ref aS, .ref aA, .ref aB, .int (nI kn), .ref aT, .ref aV, .ref aP, .int (nI ln), .int (nI po), .int 1, .int (if (nI ln) ≤ (nI po) then 0 else (fP po)), .int on, .int tw])), (aP, .inl (K 0, 80, .inl fP))]) [0, 1] (by decide +kernel) rfl).weaken (fun _ _ _ _ => trivial)
              refine kw_i (W1 := [(oM, .inr (5, [.ref aS, .ref aA, .ref aB, .int (nI kn), .ref aT, .ref aV, .ref aP, .int (nI ln), .int (nI (n_X5_sign_0_8 fP ln po 1 48 49)), .int (nI (n_X5_sign_0_9 fP ln po 1 48 49)), .int (if (nI ln) ≤ (nI po) then 0 else (fP po)), .int on, .int tw])), (aP, .inl (K 0, 80, .inl fP))]) (w1 := [(oM, .inr (5, [.ref aS, .ref aA, .ref aB, .int (nI kn), .ref aT, .ref aV, .ref aP, .int (nI ln), .int (nI (n_X5_sign_0_8 fP ln po 1 48 49)), .int (nI (n_X5_sign_0_9 fP ln po 1 48 49)), .int (if (nI ln) ≤ (nI po) then 0 else (fP po)), .int on, .int tw])), (aP, .inl (K 0, 80, .inl fP))]) (va_runV (As := [.int 48, .int 49]) (rest := [.ref oM]) ⟨hx, hb, hml, hown, hts⟩ (c_X5_sign l D K oM aS aA aB aT aV aP fP kn ln po 1 (if (nI ln) ≤ (nI po) then 0 else (fP po)) on tw 48 49 hln (by omega)) (cwV 2 hts gX5_order_X5_sign rfl rfl rfl (by decide +kernel) ⟨Nat.le_of_ble_eq_true rfl, Nat.le_of_ble_eq_true rfl⟩) (pre_wr hbd hPc hDc (ci := 5) (q0 := 0) rfl rfl) rfl rfl hl.1 rfl (lv_room (Nat.le_of_ble_eq_true rfl)) dX5_order_134 ⟨Nat.zero_le _, Nat.zero_le _⟩) hP hD hS [0, 1] [] 2 rfl rfl rfl (Eq.trans (b := List.map some ([])) rfl rfl) (by decide +kernel) (by decide +kernel) (by simp only [List.map_append, drW_fst, List.map_cons, List.map_nil]) (fun r_22 H locs hr_22 hP hD hS => ?_)
              subst hr_22
              have hb_23 := sn_le (fP := fP) (ln := ln) (po := po) (wz := 1) (xl := 48) (xh := 49) (by decide) hln (by omega)
              refine lv_bipush (v := 48) hx hb dX5_order_137 (by decide) ?_
              refine lv_isub hx hb dX5_order_139 ?_
              refine lv_goto (tgt := 144) hx hb dX5_order_140 (by decide) ?_
              refine va_put (D := D) (ci := 5) (v := .int ((r_X5_sign fP ln po) - 48)) (ty := .int) (C := RX5) (T := TX5) (N := 13) hx hb hts hin5 tyX5 tyX5_ok nmX5 hown hK hP hD hS 0 rfl rfl 11 (by decide) (hts _ (List.mem_of_getElem? (i := 6) rfl)) (fun _ h9 => h9) rfl (by decide +kernel) rfl rfl (Nat.le_of_ble_eq_true rfl) dX5_order_144 (fun H locs hP hD hS => ?_)
              have hP : va_P D vwCl [(oM, .inr (5, [.ref aS, .ref aA, .ref aB, .int (nI kn), .ref aT, .ref aV, .ref aP, .int (nI ln), .int (nI (n_X5_sign_0_8 fP ln po 1 48 49)), .int (nI (n_X5_sign_0_9 fP ln po 1 48 49)), .int (if (nI ln) ≤ (nI po) then 0 else (fP po)), .int ((r_X5_sign fP ln po) - 48), .int tw])), (aP, .inl (K 0, 80, .inl fP))] H := hP
              have hD : va_D A [(oM, .inr (5, [.ref aS, .ref aA, .ref aB, .int (nI kn), .ref aT, .ref aV, .ref aP, .int (nI ln), .int (nI (n_X5_sign_0_8 fP ln po 1 48 49)), .int (nI (n_X5_sign_0_9 fP ln po 1 48 49)), .int (if (nI ln) ≤ (nI po) then 0 else (fP po)), .int ((r_X5_sign fP ln po) - 48), .int tw])), (aP, .inl (K 0, 80, .inl fP))] := hD
              refine lv_iload_n hx hb dX5_order_147 rfl (lv_at hl 0 rfl) ?_
              refine lv_bipush (v := 119) hx hb dX5_order_148 (by decide) ?_
              refine lv_icmp_ne (tgt := 164) hx hb dX5_order_150 (by decide) (fun _ => ?_) (fun h_24 => absurd h_24 c_6)
              refine lv_iconst (v := 0) hx hb dX5_order_164 (by decide) ?_
              refine lv_istore_n (lv' := [(2, .int 0), (1, .int (if (nI ln) ≤ (nI po) then 0 else (fP po))), (0, .ref oM)]) hx hb dX5_order_165 rfl hl (by decide) rfl (fun ls hl => ?_)
              refine lv_aload_n hx hb dX5_order_166 rfl (lv_at hl 2 rfl) ?_
              refine lv_iload_n hx hb dX5_order_167 rfl (lv_at hl 1 rfl) ?_
              refine lv_bipush (v := 119) hx hb dX5_order_168 (by decide) ?_
              refine lv_icmp_eq (tgt := 179) hx hb dX5_order_170 (by decide) (fun h_25 => absurd h_25 c_6) (fun _ => ?_)
              refine lv_iload_n hx hb dX5_order_173 rfl (lv_at hl 1 rfl) ?_
              refine lv_bipush (v := 120) hx hb dX5_order_174 (by decide) ?_
              refine lv_icmp_ne (tgt := 186) hx hb dX5_order_176 (by decide) (fun _ => ?_) (fun h_26 => absurd h_26 (fun h => absurd (c_21.symm.trans h) (by decide)))
              refine lv_iload_n hx hb dX5_order_186 rfl (lv_at hl 1 rfl) ?_
              refine lv_bipush (v := 33) hx hb dX5_order_187 (by decide) ?_
              refine lv_icmp_ne (tgt := 206) hx hb dX5_order_189 (by decide) (fun h_27 => absurd c_21 h_27) (fun _ => ?_)
              refine lv_aload_n hx hb dX5_order_192 rfl (lv_at hl 2 rfl) ?_
              refine lv_bipush (v := 48) hx hb dX5_order_193 (by decide) ?_
              refine lv_bipush (v := 52) hx hb dX5_order_195 (by decide) ?_
              have hPc := hP.sub (ws' := [(oM, .inr (5, [.ref aS, .ref aA, .ref aB, .int (nI kn), .ref aT, .ref aV, .ref aP, .int (nI ln), .int (nI (n_X5_sign_0_8 fP ln po 1 48 49)), .int (nI (n_X5_sign_0_9 fP ln po 1 48 49)), .int (if (nI ln) ≤ (nI po) then 0 else (fP po)), .int ((r_X5_sign fP ln po) - 48), .int tw])), (aP, .inl (K 0, 80, .inl fP))]) [0, 1] rfl
              have hDc : va_D (fun _ => True) [(oM, .inr (5, [.ref aS, .ref aA, .ref aB, .int (nI kn), .ref aT, .ref aV, .ref aP, .int (nI ln), .int (nI (n_X5_sign_0_8 fP ln po 1 48 49)), .int (nI (n_X5_sign_0_9 fP ln po 1 48 49)), .int (if (nI ln) ≤ (nI po) then 0 else (fP po)), .int ((r_X5_sign fP ln po) - 48), .int tw])), (aP, .inl (K 0, 80, .inl fP))] := (hD.sub (ws' := [(oM, .inr (5, [.ref aS, .ref aA, .ref aB, .int (nI kn), .ref aT, .ref aV, .ref aP, .int (nI ln), .int (nI (n_X5_sign_0_8 fP ln po 1 48 49)), .int (nI (n_X5_sign_0_9 fP ln po 1 48 49)), .int (if (nI ln) ≤ (nI po) then 0 else (fP po)), .int ((r_X5_sign fP ln po) - 48), .int tw])), (aP, .inl (K 0, 80, .inl fP))]) [0, 1] (by decide +kernel) rfl).weaken (fun _ _ _ _ => trivial)
              refine kw_i (W1 := [(oM, .inr (5, [.ref aS, .ref aA, .ref aB, .int (nI kn), .ref aT, .ref aV, .ref aP, .int (nI ln), .int (nI (n_X5_sign_0_8 fP ln (n_X5_sign_0_8 fP ln po 1 48 49) (n_X5_sign_0_9 fP ln po 1 48 49) 48 52)), .int (nI (n_X5_sign_0_9 fP ln (n_X5_sign_0_8 fP ln po 1 48 49) (n_X5_sign_0_9 fP ln po 1 48 49) 48 52)), .int (if (nI ln) ≤ (nI po) then 0 else (fP po)), .int ((r_X5_sign fP ln po) - 48), .int tw])), (aP, .inl (K 0, 80, .inl fP))]) (w1 := [(oM, .inr (5, [.ref aS, .ref aA, .ref aB, .int (nI kn), .ref aT, .ref aV, .ref aP, .int (nI ln), .int (nI (n_X5_sign_0_8 fP ln (n_X5_sign_0_8 fP ln po 1 48 49) (n_X5_sign_0_9 fP ln po 1 48 49) 48 52)), .int (nI (n_X5_sign_0_9 fP ln (n_X5_sign_0_8 fP ln po 1 48 49) (n_X5_sign_0_9 fP ln po 1 48 49) 48 52)), .int (if (nI ln) ≤ (nI po) then 0 else (fP po)), .int ((r_X5_sign fP ln po) - 48), .int tw])), (aP, .inl (K 0, 80, .inl fP))]) (va_runV (As := [.int 48, .int 52]) (rest := [.ref oM]) ⟨hx, hb, hml, hown, hts⟩ (c_X5_sign l D K oM aS aA aB aT aV aP fP kn ln (n_X5_sign_0_8 fP ln po 1 48 49) (n_X5_sign_0_9 fP ln po 1 48 49) (if (nI ln) ≤ (nI po) then 0 else (fP po)) ((r_X5_sign fP ln po) - 48) tw 48 52 hln (by omega)) (cwV 2 hts gX5_order_X5_sign rfl rfl rfl (by decide +kernel) ⟨Nat.le_of_ble_eq_true rfl, Nat.le_of_ble_eq_true rfl⟩) (pre_wr hbd hPc hDc (ci := 5) (q0 := 0) rfl rfl) rfl rfl hl.1 rfl (lv_room (Nat.le_of_ble_eq_true rfl)) dX5_order_197 ⟨Nat.zero_le _, Nat.zero_le _⟩) hP hD hS [0, 1] [] 2 rfl rfl rfl (Eq.trans (b := List.map some ([])) rfl rfl) (by decide +kernel) (by decide +kernel) (by simp only [List.map_append, drW_fst, List.map_cons, List.map_nil]) (fun r_28 H locs hr_28 hP hD hS => ?_)
              subst hr_28
              have hb_29 := sn_le (fP := fP) (ln := ln) (po := (n_X5_sign_0_8 fP ln po 1 48 49)) (wz := (n_X5_sign_0_9 fP ln po 1 48 49)) (xl := 48) (xh := 52) (by decide) hln (by omega)
              refine lv_bipush (v := 48) hx hb dX5_order_200 (by decide) ?_
              refine lv_isub hx hb dX5_order_202 ?_
              refine lv_goto (tgt := 207) hx hb dX5_order_203 (by decide) ?_
              refine va_put (D := D) (ci := 5) (v := .int ((r_X5_sign fP ln (n_X5_sign_0_8 fP ln po 1 48 49)) - 48)) (ty := .int) (C := RX5) (T := TX5) (N := 13) hx hb hts hin5 tyX5 tyX5_ok nmX5 hown hK hP hD hS 0 rfl rfl 12 (by decide) (hts _ (List.mem_of_getElem? (i := 7) rfl)) (fun _ h9 => h9) rfl (by decide +kernel) rfl rfl (Nat.le_of_ble_eq_true rfl) dX5_order_207 (fun H locs hP hD hS => ?_)
              have hP : va_P D vwCl [(oM, .inr (5, [.ref aS, .ref aA, .ref aB, .int (nI kn), .ref aT, .ref aV, .ref aP, .int (nI ln), .int (nI (n_X5_sign_0_8 fP ln (n_X5_sign_0_8 fP ln po 1 48 49) (n_X5_sign_0_9 fP ln po 1 48 49) 48 52)), .int (nI (n_X5_sign_0_9 fP ln (n_X5_sign_0_8 fP ln po 1 48 49) (n_X5_sign_0_9 fP ln po 1 48 49) 48 52)), .int (if (nI ln) ≤ (nI po) then 0 else (fP po)), .int ((r_X5_sign fP ln po) - 48), .int ((r_X5_sign fP ln (n_X5_sign_0_8 fP ln po 1 48 49)) - 48)])), (aP, .inl (K 0, 80, .inl fP))] H := hP
              have hD : va_D A [(oM, .inr (5, [.ref aS, .ref aA, .ref aB, .int (nI kn), .ref aT, .ref aV, .ref aP, .int (nI ln), .int (nI (n_X5_sign_0_8 fP ln (n_X5_sign_0_8 fP ln po 1 48 49) (n_X5_sign_0_9 fP ln po 1 48 49) 48 52)), .int (nI (n_X5_sign_0_9 fP ln (n_X5_sign_0_8 fP ln po 1 48 49) (n_X5_sign_0_9 fP ln po 1 48 49) 48 52)), .int (if (nI ln) ≤ (nI po) then 0 else (fP po)), .int ((r_X5_sign fP ln po) - 48), .int ((r_X5_sign fP ln (n_X5_sign_0_8 fP ln po 1 48 49)) - 48)])), (aP, .inl (K 0, 80, .inl fP))] := hD
              have e_30 : n_X5_order_0_8 fP ln po wz = (n_X5_sign_0_8 fP ln (n_X5_sign_0_8 fP ln po 1 48 49) (n_X5_sign_0_9 fP ln po 1 48 49) 48 52) := by unfold n_X5_order_0_8; rw [if_neg c_4, if_neg c_6, if_neg c_20, if_pos c_21]
              have e_31 : n_X5_order_0_9 fP ln po wz = (n_X5_sign_0_9 fP ln (n_X5_sign_0_8 fP ln po 1 48 49) (n_X5_sign_0_9 fP ln po 1 48 49) 48 52) := by unfold n_X5_order_0_9; rw [if_neg c_4, if_neg c_6, if_neg c_20, if_pos c_21]
              have e_32 : n_X5_order_0_10 fP ln po = (if (nI ln) ≤ (nI po) then 0 else (fP po)) := rfl
              have e_33 : n_X5_order_0_11 fP ln po wz = ((r_X5_sign fP ln po) - 48) := by unfold n_X5_order_0_11; rw [if_neg c_4, if_neg c_6, if_neg c_20, if_pos c_21]
              have e_34 : n_X5_order_0_12 fP ln po wz = ((r_X5_sign fP ln (n_X5_sign_0_8 fP ln po 1 48 49)) - 48) := by unfold n_X5_order_0_12; rw [if_neg c_4, if_neg c_6, if_neg c_20, if_pos c_21]
              have hPf : va_P D vwCl [(oM, .inr (5, [.ref aS, .ref aA, .ref aB, .int (nI kn), .ref aT, .ref aV, .ref aP, .int (nI ln), .int (nI (n_X5_order_0_8 fP ln po wz)), .int (nI (n_X5_order_0_9 fP ln po wz)), .int (n_X5_order_0_10 fP ln po), .int (n_X5_order_0_11 fP ln po wz), .int (n_X5_order_0_12 fP ln po wz)])), (aP, .inl (K 0, 80, .inl fP))] H := (by rw [e_30, e_31, e_32, e_33, e_34]; exact hP)
              exact W.vret hx hb hr (fun t ht hW => ⟨⟨(), rfl, trivial, by show va_P D vwCl _ t.heap; rw [ht]; exact hPf⟩, hS.F ht⟩) hS.2.2 dX5_order_210
            · skip
              refine lv_iload_n hx hb dX5_order_123 rfl (lv_at hl 0 rfl) ?_
              refine lv_bipush (v := 120) hx hb dX5_order_124 (by decide) ?_
              refine lv_icmp_ne (tgt := 143) hx hb dX5_order_126 (by decide) (fun c_35 => ?_) (fun c_35 => ?_)
              · skip
                refine lv_iconst (v := 0) hx hb dX5_order_143 (by decide) ?_
                refine va_put (D := D) (ci := 5) (v := .int 0) (ty := .int) (C := RX5) (T := TX5) (N := 13) hx hb hts hin5 tyX5 tyX5_ok nmX5 hown hK hP hD hS 0 rfl rfl 11 (by decide) (hts _ (List.mem_of_getElem? (i := 6) rfl)) (fun _ h9 => h9) rfl (by decide +kernel) rfl rfl (Nat.le_of_ble_eq_true rfl) dX5_order_144 (fun H locs hP hD hS => ?_)
                have hP : va_P D vwCl [(oM, .inr (5, [.ref aS, .ref aA, .ref aB, .int (nI kn), .ref aT, .ref aV, .ref aP, .int (nI ln), .int (nI po), .int 1, .int (if (nI ln) ≤ (nI po) then 0 else (fP po)), .int 0, .int tw])), (aP, .inl (K 0, 80, .inl fP))] H := hP
                have hD : va_D A [(oM, .inr (5, [.ref aS, .ref aA, .ref aB, .int (nI kn), .ref aT, .ref aV, .ref aP, .int (nI ln), .int (nI po), .int 1, .int (if (nI ln) ≤ (nI po) then 0 else (fP po)), .int 0, .int tw])), (aP, .inl (K 0, 80, .inl fP))] := hD
                refine lv_iload_n hx hb dX5_order_147 rfl (lv_at hl 0 rfl) ?_
                refine lv_bipush (v := 119) hx hb dX5_order_148 (by decide) ?_
                refine lv_icmp_ne (tgt := 164) hx hb dX5_order_150 (by decide) (fun _ => ?_) (fun h_36 => absurd h_36 c_6)
                refine lv_iconst (v := 0) hx hb dX5_order_164 (by decide) ?_
                refine lv_istore_n (lv' := [(2, .int 0), (1, .int (if (nI ln) ≤ (nI po) then 0 else (fP po))), (0, .ref oM)]) hx hb dX5_order_165 rfl hl (by decide) rfl (fun ls hl => ?_)
                refine lv_aload_n hx hb dX5_order_166 rfl (lv_at hl 2 rfl) ?_
                refine lv_iload_n hx hb dX5_order_167 rfl (lv_at hl 1 rfl) ?_
                refine lv_bipush (v := 119) hx hb dX5_order_168 (by decide) ?_
                refine lv_icmp_eq (tgt := 179) hx hb dX5_order_170 (by decide) (fun h_37 => absurd h_37 c_6) (fun _ => ?_)
                refine lv_iload_n hx hb dX5_order_173 rfl (lv_at hl 1 rfl) ?_
                refine lv_bipush (v := 120) hx hb dX5_order_174 (by decide) ?_
                refine lv_icmp_ne (tgt := 186) hx hb dX5_order_176 (by decide) (fun _ => ?_) (fun h_38 => absurd h_38 c_35)
                refine lv_iload_n hx hb dX5_order_186 rfl (lv_at hl 1 rfl) ?_
                refine lv_bipush (v := 33) hx hb dX5_order_187 (by decide) ?_
                refine lv_icmp_ne (tgt := 206) hx hb dX5_order_189 (by decide) (fun _ => ?_) (fun h_39 => absurd h_39 c_21)
                refine lv_iconst (v := 0) hx hb dX5_order_206 (by decide) ?_
                refine va_put (D := D) (ci := 5) (v := .int 0) (ty := .int) (C := RX5) (T := TX5) (N := 13) hx hb hts hin5 tyX5 tyX5_ok nmX5 hown hK hP hD hS 0 rfl rfl 12 (by decide) (hts _ (List.mem_of_getElem? (i := 7) rfl)) (fun _ h9 => h9) rfl (by decide +kernel) rfl rfl (Nat.le_of_ble_eq_true rfl) dX5_order_207 (fun H locs hP hD hS => ?_)
                have hP : va_P D vwCl [(oM, .inr (5, [.ref aS, .ref aA, .ref aB, .int (nI kn), .ref aT, .ref aV, .ref aP, .int (nI ln), .int (nI po), .int 1, .int (if (nI ln) ≤ (nI po) then 0 else (fP po)), .int 0, .int 0])), (aP, .inl (K 0, 80, .inl fP))] H := hP
                have hD : va_D A [(oM, .inr (5, [.ref aS, .ref aA, .ref aB, .int (nI kn), .ref aT, .ref aV, .ref aP, .int (nI ln), .int (nI po), .int 1, .int (if (nI ln) ≤ (nI po) then 0 else (fP po)), .int 0, .int 0])), (aP, .inl (K 0, 80, .inl fP))] := hD
                have e_40 : n_X5_order_0_8 fP ln po wz = po := by unfold n_X5_order_0_8; rw [if_neg c_4, if_neg c_6, if_neg c_20, if_neg c_21, if_neg c_35]
                have e_41 : n_X5_order_0_9 fP ln po wz = 1 := by unfold n_X5_order_0_9; rw [if_neg c_4, if_neg c_6, if_neg c_20, if_neg c_21, if_neg c_35]
                have e_42 : n_X5_order_0_10 fP ln po = (if (nI ln) ≤ (nI po) then 0 else (fP po)) := rfl
                have e_43 : n_X5_order_0_11 fP ln po wz = 0 := by unfold n_X5_order_0_11; rw [if_neg c_4, if_neg c_6, if_neg c_20, if_neg c_21, if_neg c_35]
                have e_44 : n_X5_order_0_12 fP ln po wz = 0 := by unfold n_X5_order_0_12; rw [if_neg c_4, if_neg c_6, if_neg c_20, if_neg c_21, if_neg c_35]
                have hPf : va_P D vwCl [(oM, .inr (5, [.ref aS, .ref aA, .ref aB, .int (nI kn), .ref aT, .ref aV, .ref aP, .int (nI ln), .int (nI (n_X5_order_0_8 fP ln po wz)), .int (nI (n_X5_order_0_9 fP ln po wz)), .int (n_X5_order_0_10 fP ln po), .int (n_X5_order_0_11 fP ln po wz), .int (n_X5_order_0_12 fP ln po wz)])), (aP, .inl (K 0, 80, .inl fP))] H := (by rw [e_40, e_41, e_42, e_43, e_44]; exact hP)
                exact W.vret hx hb hr (fun t ht hW => ⟨⟨(), rfl, trivial, by show va_P D vwCl _ t.heap; rw [ht]; exact hPf⟩, hS.F ht⟩) hS.2.2 dX5_order_210
              · skip
                refine lv_aload_n hx hb dX5_order_129 rfl (lv_at hl 1 rfl) ?_
                refine lv_bipush (v := 48) hx hb dX5_order_130 (by decide) ?_
                refine lv_bipush (v := 49) hx hb dX5_order_132 (by decide) ?_
                have hPc := hP.sub (ws' := [(oM, .inr (5, [.ref aS, .ref aA, .ref aB, .int (nI kn), .ref aT, .ref aV, .ref aP, .int (nI ln), .int (nI po), .int 1, .int (if (nI ln) ≤ (nI po) then 0 else (fP po)), .int on, .int tw])), (aP, .inl (K 0, 80, .inl fP))]) [0, 1] rfl
                have hDc : va_D (fun _ => True) [(oM, .inr (5, [.ref aS, .ref aA, .ref aB, .int (nI kn), .ref aT, .ref aV, .ref aP, .int (nI ln), .int (nI po), .int 1, .int (if (nI ln) ≤ (nI po) then 0 else (fP po)), .int on, .int tw])), (aP, .inl (K 0, 80, .inl fP))] := (hD.sub (ws' := [(oM, .inr (5, [.ref aS, .ref aA, .ref aB, .int (nI kn), .ref aT, .ref aV, .ref aP, .int (nI ln), .int (nI po), .int 1, .int (if (nI ln) ≤ (nI po) then 0 else (fP po)), .int on, .int tw])), (aP, .inl (K 0, 80, .inl fP))]) [0, 1] (by decide +kernel) rfl).weaken (fun _ _ _ _ => trivial)
                refine kw_i (W1 := [(oM, .inr (5, [.ref aS, .ref aA, .ref aB, .int (nI kn), .ref aT, .ref aV, .ref aP, .int (nI ln), .int (nI (n_X5_sign_0_8 fP ln po 1 48 49)), .int (nI (n_X5_sign_0_9 fP ln po 1 48 49)), .int (if (nI ln) ≤ (nI po) then 0 else (fP po)), .int on, .int tw])), (aP, .inl (K 0, 80, .inl fP))]) (w1 := [(oM, .inr (5, [.ref aS, .ref aA, .ref aB, .int (nI kn), .ref aT, .ref aV, .ref aP, .int (nI ln), .int (nI (n_X5_sign_0_8 fP ln po 1 48 49)), .int (nI (n_X5_sign_0_9 fP ln po 1 48 49)), .int (if (nI ln) ≤ (nI po) then 0 else (fP po)), .int on, .int tw])), (aP, .inl (K 0, 80, .inl fP))]) (va_runV (As := [.int 48, .int 49]) (rest := [.ref oM]) ⟨hx, hb, hml, hown, hts⟩ (c_X5_sign l D K oM aS aA aB aT aV aP fP kn ln po 1 (if (nI ln) ≤ (nI po) then 0 else (fP po)) on tw 48 49 hln (by omega)) (cwV 2 hts gX5_order_X5_sign rfl rfl rfl (by decide +kernel) ⟨Nat.le_of_ble_eq_true rfl, Nat.le_of_ble_eq_true rfl⟩) (pre_wr hbd hPc hDc (ci := 5) (q0 := 0) rfl rfl) rfl rfl hl.1 rfl (lv_room (Nat.le_of_ble_eq_true rfl)) dX5_order_134 ⟨Nat.zero_le _, Nat.zero_le _⟩) hP hD hS [0, 1] [] 2 rfl rfl rfl (Eq.trans (b := List.map some ([])) rfl rfl) (by decide +kernel) (by decide +kernel) (by simp only [List.map_append, drW_fst, List.map_cons, List.map_nil]) (fun r_45 H locs hr_45 hP hD hS => ?_)
                subst hr_45
                have hb_46 := sn_le (fP := fP) (ln := ln) (po := po) (wz := 1) (xl := 48) (xh := 49) (by decide) hln (by omega)
                refine lv_bipush (v := 48) hx hb dX5_order_137 (by decide) ?_
                refine lv_isub hx hb dX5_order_139 ?_
                refine lv_goto (tgt := 144) hx hb dX5_order_140 (by decide) ?_
                refine va_put (D := D) (ci := 5) (v := .int ((r_X5_sign fP ln po) - 48)) (ty := .int) (C := RX5) (T := TX5) (N := 13) hx hb hts hin5 tyX5 tyX5_ok nmX5 hown hK hP hD hS 0 rfl rfl 11 (by decide) (hts _ (List.mem_of_getElem? (i := 6) rfl)) (fun _ h9 => h9) rfl (by decide +kernel) rfl rfl (Nat.le_of_ble_eq_true rfl) dX5_order_144 (fun H locs hP hD hS => ?_)
                have hP : va_P D vwCl [(oM, .inr (5, [.ref aS, .ref aA, .ref aB, .int (nI kn), .ref aT, .ref aV, .ref aP, .int (nI ln), .int (nI (n_X5_sign_0_8 fP ln po 1 48 49)), .int (nI (n_X5_sign_0_9 fP ln po 1 48 49)), .int (if (nI ln) ≤ (nI po) then 0 else (fP po)), .int ((r_X5_sign fP ln po) - 48), .int tw])), (aP, .inl (K 0, 80, .inl fP))] H := hP
                have hD : va_D A [(oM, .inr (5, [.ref aS, .ref aA, .ref aB, .int (nI kn), .ref aT, .ref aV, .ref aP, .int (nI ln), .int (nI (n_X5_sign_0_8 fP ln po 1 48 49)), .int (nI (n_X5_sign_0_9 fP ln po 1 48 49)), .int (if (nI ln) ≤ (nI po) then 0 else (fP po)), .int ((r_X5_sign fP ln po) - 48), .int tw])), (aP, .inl (K 0, 80, .inl fP))] := hD
                refine lv_iload_n hx hb dX5_order_147 rfl (lv_at hl 0 rfl) ?_
                refine lv_bipush (v := 119) hx hb dX5_order_148 (by decide) ?_
                refine lv_icmp_ne (tgt := 164) hx hb dX5_order_150 (by decide) (fun _ => ?_) (fun h_47 => absurd h_47 c_6)
                refine lv_iconst (v := 0) hx hb dX5_order_164 (by decide) ?_
                refine lv_istore_n (lv' := [(2, .int 0), (1, .int (if (nI ln) ≤ (nI po) then 0 else (fP po))), (0, .ref oM)]) hx hb dX5_order_165 rfl hl (by decide) rfl (fun ls hl => ?_)
                refine lv_aload_n hx hb dX5_order_166 rfl (lv_at hl 2 rfl) ?_
                refine lv_iload_n hx hb dX5_order_167 rfl (lv_at hl 1 rfl) ?_
                refine lv_bipush (v := 119) hx hb dX5_order_168 (by decide) ?_
                refine lv_icmp_eq (tgt := 179) hx hb dX5_order_170 (by decide) (fun h_48 => absurd h_48 c_6) (fun _ => ?_)
                refine lv_iload_n hx hb dX5_order_173 rfl (lv_at hl 1 rfl) ?_
                refine lv_bipush (v := 120) hx hb dX5_order_174 (by decide) ?_
                refine lv_icmp_ne (tgt := 186) hx hb dX5_order_176 (by decide) (fun h_49 => absurd c_35 h_49) (fun _ => ?_)
                refine lv_aload_n hx hb dX5_order_179 rfl (lv_at hl 2 rfl) ?_
                have hPc := hP.sub (ws' := [(oM, .inr (5, [.ref aS, .ref aA, .ref aB, .int (nI kn), .ref aT, .ref aV, .ref aP, .int (nI ln), .int (nI (n_X5_sign_0_8 fP ln po 1 48 49)), .int (nI (n_X5_sign_0_9 fP ln po 1 48 49)), .int (if (nI ln) ≤ (nI po) then 0 else (fP po)), .int ((r_X5_sign fP ln po) - 48), .int tw])), (aP, .inl (K 0, 80, .inl fP))]) [0, 1] rfl
                have hDc : va_D (fun _ => True) [(oM, .inr (5, [.ref aS, .ref aA, .ref aB, .int (nI kn), .ref aT, .ref aV, .ref aP, .int (nI ln), .int (nI (n_X5_sign_0_8 fP ln po 1 48 49)), .int (nI (n_X5_sign_0_9 fP ln po 1 48 49)), .int (if (nI ln) ≤ (nI po) then 0 else (fP po)), .int ((r_X5_sign fP ln po) - 48), .int tw])), (aP, .inl (K 0, 80, .inl fP))] := (hD.sub (ws' := [(oM, .inr (5, [.ref aS, .ref aA, .ref aB, .int (nI kn), .ref aT, .ref aV, .ref aP, .int (nI ln), .int (nI (n_X5_sign_0_8 fP ln po 1 48 49)), .int (nI (n_X5_sign_0_9 fP ln po 1 48 49)), .int (if (nI ln) ≤ (nI po) then 0 else (fP po)), .int ((r_X5_sign fP ln po) - 48), .int tw])), (aP, .inl (K 0, 80, .inl fP))]) [0, 1] (by decide +kernel) rfl).weaken (fun _ _ _ _ => trivial)
                refine kw_i (W1 := [(oM, .inr (5, [.ref aS, .ref aA, .ref aB, .int (nI kn), .ref aT, .ref aV, .ref aP, .int (nI ln), .int (nI (n_X5_number_0_8 fP ln (n_X5_sign_0_8 fP ln po 1 48 49) (n_X5_sign_0_9 fP ln po 1 48 49))), .int (nI (n_X5_number_0_9 fP ln (n_X5_sign_0_8 fP ln po 1 48 49) (n_X5_sign_0_9 fP ln po 1 48 49))), .int (if (nI ln) ≤ (nI po) then 0 else (fP po)), .int ((r_X5_sign fP ln po) - 48), .int tw])), (aP, .inl (K 0, 80, .inl fP))]) (w1 := [(oM, .inr (5, [.ref aS, .ref aA, .ref aB, .int (nI kn), .ref aT, .ref aV, .ref aP, .int (nI ln), .int (nI (n_X5_number_0_8 fP ln (n_X5_sign_0_8 fP ln po 1 48 49) (n_X5_sign_0_9 fP ln po 1 48 49))), .int (nI (n_X5_number_0_9 fP ln (n_X5_sign_0_8 fP ln po 1 48 49) (n_X5_sign_0_9 fP ln po 1 48 49))), .int (if (nI ln) ≤ (nI po) then 0 else (fP po)), .int ((r_X5_sign fP ln po) - 48), .int tw])), (aP, .inl (K 0, 80, .inl fP))]) (va_runV (As := []) (rest := [.ref oM]) ⟨hx, hb, hml, hown, hts⟩ (c_X5_number l D K oM aS aA aB aT aV aP fP kn ln (n_X5_sign_0_8 fP ln po 1 48 49) (n_X5_sign_0_9 fP ln po 1 48 49) (if (nI ln) ≤ (nI po) then 0 else (fP po)) ((r_X5_sign fP ln po) - 48) tw hln (by omega)) (cwV 0 hts gX5_order_X5_number rfl rfl rfl (by decide +kernel) ⟨Nat.le_of_ble_eq_true rfl, Nat.le_of_ble_eq_true rfl⟩) (pre_wr hbd hPc hDc (ci := 5) (q0 := 0) rfl rfl) rfl rfl hl.1 rfl (lv_room (Nat.le_of_ble_eq_true rfl)) dX5_order_180 ⟨Nat.zero_le _, Nat.zero_le _⟩) hP hD hS [0, 1] [] 2 rfl rfl rfl (Eq.trans (b := List.map some ([])) rfl rfl) (by decide +kernel) (by decide +kernel) (by simp only [List.map_append, drW_fst, List.map_cons, List.map_nil]) (fun r_50 H locs hr_50 hP hD hS => ?_)
                subst hr_50
                have hb_51 := nm_le (fP := fP) (ln := ln) (po := (n_X5_sign_0_8 fP ln po 1 48 49)) (wz := (n_X5_sign_0_9 fP ln po 1 48 49)) hln (by omega)
                refine lv_goto (tgt := 207) hx hb dX5_order_183 (by decide) ?_
                refine va_put (D := D) (ci := 5) (v := .int (r_X5_number fP ln (n_X5_sign_0_8 fP ln po 1 48 49) (n_X5_sign_0_9 fP ln po 1 48 49))) (ty := .int) (C := RX5) (T := TX5) (N := 13) hx hb hts hin5 tyX5 tyX5_ok nmX5 hown hK hP hD hS 0 rfl rfl 12 (by decide) (hts _ (List.mem_of_getElem? (i := 7) rfl)) (fun _ h9 => h9) rfl (by decide +kernel) rfl rfl (Nat.le_of_ble_eq_true rfl) dX5_order_207 (fun H locs hP hD hS => ?_)
                have hP : va_P D vwCl [(oM, .inr (5, [.ref aS, .ref aA, .ref aB, .int (nI kn), .ref aT, .ref aV, .ref aP, .int (nI ln), .int (nI (n_X5_number_0_8 fP ln (n_X5_sign_0_8 fP ln po 1 48 49) (n_X5_sign_0_9 fP ln po 1 48 49))), .int (nI (n_X5_number_0_9 fP ln (n_X5_sign_0_8 fP ln po 1 48 49) (n_X5_sign_0_9 fP ln po 1 48 49))), .int (if (nI ln) ≤ (nI po) then 0 else (fP po)), .int ((r_X5_sign fP ln po) - 48), .int (r_X5_number fP ln (n_X5_sign_0_8 fP ln po 1 48 49) (n_X5_sign_0_9 fP ln po 1 48 49))])), (aP, .inl (K 0, 80, .inl fP))] H := hP
                have hD : va_D A [(oM, .inr (5, [.ref aS, .ref aA, .ref aB, .int (nI kn), .ref aT, .ref aV, .ref aP, .int (nI ln), .int (nI (n_X5_number_0_8 fP ln (n_X5_sign_0_8 fP ln po 1 48 49) (n_X5_sign_0_9 fP ln po 1 48 49))), .int (nI (n_X5_number_0_9 fP ln (n_X5_sign_0_8 fP ln po 1 48 49) (n_X5_sign_0_9 fP ln po 1 48 49))), .int (if (nI ln) ≤ (nI po) then 0 else (fP po)), .int ((r_X5_sign fP ln po) - 48), .int (r_X5_number fP ln (n_X5_sign_0_8 fP ln po 1 48 49) (n_X5_sign_0_9 fP ln po 1 48 49))])), (aP, .inl (K 0, 80, .inl fP))] := hD
                have e_52 : n_X5_order_0_8 fP ln po wz = (n_X5_number_0_8 fP ln (n_X5_sign_0_8 fP ln po 1 48 49) (n_X5_sign_0_9 fP ln po 1 48 49)) := by unfold n_X5_order_0_8; rw [if_neg c_4, if_neg c_6, if_neg c_20, if_neg c_21, if_pos c_35]
                have e_53 : n_X5_order_0_9 fP ln po wz = (n_X5_number_0_9 fP ln (n_X5_sign_0_8 fP ln po 1 48 49) (n_X5_sign_0_9 fP ln po 1 48 49)) := by unfold n_X5_order_0_9; rw [if_neg c_4, if_neg c_6, if_neg c_20, if_neg c_21, if_pos c_35]
                have e_54 : n_X5_order_0_10 fP ln po = (if (nI ln) ≤ (nI po) then 0 else (fP po)) := rfl
                have e_55 : n_X5_order_0_11 fP ln po wz = ((r_X5_sign fP ln po) - 48) := by unfold n_X5_order_0_11; rw [if_neg c_4, if_neg c_6, if_neg c_20, if_neg c_21, if_pos c_35]
                have e_56 : n_X5_order_0_12 fP ln po wz = (r_X5_number fP ln (n_X5_sign_0_8 fP ln po 1 48 49) (n_X5_sign_0_9 fP ln po 1 48 49)) := by unfold n_X5_order_0_12; rw [if_neg c_4, if_neg c_6, if_neg c_20, if_neg c_21, if_pos c_35]
                have hPf : va_P D vwCl [(oM, .inr (5, [.ref aS, .ref aA, .ref aB, .int (nI kn), .ref aT, .ref aV, .ref aP, .int (nI ln), .int (nI (n_X5_order_0_8 fP ln po wz)), .int (nI (n_X5_order_0_9 fP ln po wz)), .int (n_X5_order_0_10 fP ln po), .int (n_X5_order_0_11 fP ln po wz), .int (n_X5_order_0_12 fP ln po wz)])), (aP, .inl (K 0, 80, .inl fP))] H := (by rw [e_52, e_53, e_54, e_55, e_56]; exact hP)
                exact W.vret hx hb hr (fun t ht hW => ⟨⟨(), rfl, trivial, by show va_P D vwCl _ t.heap; rw [ht]; exact hPf⟩, hS.F ht⟩) hS.2.2 dX5_order_210
          · skip
            refine lv_aload_n hx hb dX5_order_110 rfl (lv_at hl 1 rfl) ?_
            have hPc := hP.sub (ws' := [(oM, .inr (5, [.ref aS, .ref aA, .ref aB, .int (nI kn), .ref aT, .ref aV, .ref aP, .int (nI ln), .int (nI po), .int 1, .int (if (nI ln) ≤ (nI po) then 0 else (fP po)), .int on, .int tw])), (aP, .inl (K 0, 80, .inl fP))]) [0, 1] rfl
            have hDc : va_D (fun _ => True) [(oM, .inr (5, [.ref aS, .ref aA, .ref aB, .int (nI kn), .ref aT, .ref aV, .ref aP, .int (nI ln), .int (nI po), .int 1, .int (if (nI ln) ≤ (nI po) then 0 else (fP po)), .int on, .int tw])), (aP, .inl (K 0, 80, .inl fP))] := (hD.sub (ws' := [(oM, .inr (5, [.ref aS, .ref aA, .ref aB, .int (nI kn), .ref aT, .ref aV, .ref aP, .int (nI ln), .int (nI po), .int 1, .int (if (nI ln) ≤ (nI po) then 0 else (fP po)), .int on, .int tw])), (aP, .inl (K 0, 80, .inl fP))]) [0, 1] (by decide +kernel) rfl).weaken (fun _ _ _ _ => trivial)
            refine kw_i (W1 := [(oM, .inr (5, [.ref aS, .ref aA, .ref aB, .int (nI kn), .ref aT, .ref aV, .ref aP, .int (nI ln), .int (nI (n_X5_number_0_8 fP ln po 1)), .int (nI (n_X5_number_0_9 fP ln po 1)), .int (if (nI ln) ≤ (nI po) then 0 else (fP po)), .int on, .int tw])), (aP, .inl (K 0, 80, .inl fP))]) (w1 := [(oM, .inr (5, [.ref aS, .ref aA, .ref aB, .int (nI kn), .ref aT, .ref aV, .ref aP, .int (nI ln), .int (nI (n_X5_number_0_8 fP ln po 1)), .int (nI (n_X5_number_0_9 fP ln po 1)), .int (if (nI ln) ≤ (nI po) then 0 else (fP po)), .int on, .int tw])), (aP, .inl (K 0, 80, .inl fP))]) (va_runV (As := []) (rest := [.ref oM]) ⟨hx, hb, hml, hown, hts⟩ (c_X5_number l D K oM aS aA aB aT aV aP fP kn ln po 1 (if (nI ln) ≤ (nI po) then 0 else (fP po)) on tw hln (by omega)) (cwV 0 hts gX5_order_X5_number rfl rfl rfl (by decide +kernel) ⟨Nat.le_of_ble_eq_true rfl, Nat.le_of_ble_eq_true rfl⟩) (pre_wr hbd hPc hDc (ci := 5) (q0 := 0) rfl rfl) rfl rfl hl.1 rfl (lv_room (Nat.le_of_ble_eq_true rfl)) dX5_order_111 ⟨Nat.zero_le _, Nat.zero_le _⟩) hP hD hS [0, 1] [] 2 rfl rfl rfl (Eq.trans (b := List.map some ([])) rfl rfl) (by decide +kernel) (by decide +kernel) (by simp only [List.map_append, drW_fst, List.map_cons, List.map_nil]) (fun r_57 H locs hr_57 hP hD hS => ?_)
            subst hr_57
            have hb_58 := nm_le (fP := fP) (ln := ln) (po := po) (wz := 1) hln (by omega)
            refine lv_goto (tgt := 144) hx hb dX5_order_114 (by decide) ?_
            refine va_put (D := D) (ci := 5) (v := .int (r_X5_number fP ln po 1)) (ty := .int) (C := RX5) (T := TX5) (N := 13) hx hb hts hin5 tyX5 tyX5_ok nmX5 hown hK hP hD hS 0 rfl rfl 11 (by decide) (hts _ (List.mem_of_getElem? (i := 6) rfl)) (fun _ h9 => h9) rfl (by decide +kernel) rfl rfl (Nat.le_of_ble_eq_true rfl) dX5_order_144 (fun H locs hP hD hS => ?_)
            have hP : va_P D vwCl [(oM, .inr (5, [.ref aS, .ref aA, .ref aB, .int (nI kn), .ref aT, .ref aV, .ref aP, .int (nI ln), .int (nI (n_X5_number_0_8 fP ln po 1)), .int (nI (n_X5_number_0_9 fP ln po 1)), .int (if (nI ln) ≤ (nI po) then 0 else (fP po)), .int (r_X5_number fP ln po 1), .int tw])), (aP, .inl (K 0, 80, .inl fP))] H := hP
            have hD : va_D A [(oM, .inr (5, [.ref aS, .ref aA, .ref aB, .int (nI kn), .ref aT, .ref aV, .ref aP, .int (nI ln), .int (nI (n_X5_number_0_8 fP ln po 1)), .int (nI (n_X5_number_0_9 fP ln po 1)), .int (if (nI ln) ≤ (nI po) then 0 else (fP po)), .int (r_X5_number fP ln po 1), .int tw])), (aP, .inl (K 0, 80, .inl fP))] := hD
            refine lv_iload_n hx hb dX5_order_147 rfl (lv_at hl 0 rfl) ?_
            refine lv_bipush (v := 119) hx hb dX5_order_148 (by decide) ?_
            refine lv_icmp_ne (tgt := 164) hx hb dX5_order_150 (by decide) (fun _ => ?_) (fun h_59 => absurd h_59 c_6)
            refine lv_iconst (v := 0) hx hb dX5_order_164 (by decide) ?_
            refine lv_istore_n (lv' := [(2, .int 0), (1, .int (if (nI ln) ≤ (nI po) then 0 else (fP po))), (0, .ref oM)]) hx hb dX5_order_165 rfl hl (by decide) rfl (fun ls hl => ?_)
            refine lv_aload_n hx hb dX5_order_166 rfl (lv_at hl 2 rfl) ?_
            refine lv_iload_n hx hb dX5_order_167 rfl (lv_at hl 1 rfl) ?_
            refine lv_bipush (v := 119) hx hb dX5_order_168 (by decide) ?_
            refine lv_icmp_eq (tgt := 179) hx hb dX5_order_170 (by decide) (fun h_60 => absurd h_60 c_6) (fun _ => ?_)
            refine lv_iload_n hx hb dX5_order_173 rfl (lv_at hl 1 rfl) ?_
            refine lv_bipush (v := 120) hx hb dX5_order_174 (by decide) ?_
            refine lv_icmp_ne (tgt := 186) hx hb dX5_order_176 (by decide) (fun _ => ?_) (fun h_61 => absurd h_61 (fun h => absurd (c_20.symm.trans h) (by decide)))
            refine lv_iload_n hx hb dX5_order_186 rfl (lv_at hl 1 rfl) ?_
            refine lv_bipush (v := 33) hx hb dX5_order_187 (by decide) ?_
            refine lv_icmp_ne (tgt := 206) hx hb dX5_order_189 (by decide) (fun _ => ?_) (fun h_62 => absurd h_62 (fun h => absurd (c_20.symm.trans h) (by decide)))
            refine lv_iconst (v := 0) hx hb dX5_order_206 (by decide) ?_
            refine va_put (D := D) (ci := 5) (v := .int 0) (ty := .int) (C := RX5) (T := TX5) (N := 13) hx hb hts hin5 tyX5 tyX5_ok nmX5 hown hK hP hD hS 0 rfl rfl 12 (by decide) (hts _ (List.mem_of_getElem? (i := 7) rfl)) (fun _ h9 => h9) rfl (by decide +kernel) rfl rfl (Nat.le_of_ble_eq_true rfl) dX5_order_207 (fun H locs hP hD hS => ?_)
            have hP : va_P D vwCl [(oM, .inr (5, [.ref aS, .ref aA, .ref aB, .int (nI kn), .ref aT, .ref aV, .ref aP, .int (nI ln), .int (nI (n_X5_number_0_8 fP ln po 1)), .int (nI (n_X5_number_0_9 fP ln po 1)), .int (if (nI ln) ≤ (nI po) then 0 else (fP po)), .int (r_X5_number fP ln po 1), .int 0])), (aP, .inl (K 0, 80, .inl fP))] H := hP
            have hD : va_D A [(oM, .inr (5, [.ref aS, .ref aA, .ref aB, .int (nI kn), .ref aT, .ref aV, .ref aP, .int (nI ln), .int (nI (n_X5_number_0_8 fP ln po 1)), .int (nI (n_X5_number_0_9 fP ln po 1)), .int (if (nI ln) ≤ (nI po) then 0 else (fP po)), .int (r_X5_number fP ln po 1), .int 0])), (aP, .inl (K 0, 80, .inl fP))] := hD
            have e_63 : n_X5_order_0_8 fP ln po wz = (n_X5_number_0_8 fP ln po 1) := by unfold n_X5_order_0_8; rw [if_neg c_4, if_neg c_6, if_pos c_20]
            have e_64 : n_X5_order_0_9 fP ln po wz = (n_X5_number_0_9 fP ln po 1) := by unfold n_X5_order_0_9; rw [if_neg c_4, if_neg c_6, if_pos c_20]
            have e_65 : n_X5_order_0_10 fP ln po = (if (nI ln) ≤ (nI po) then 0 else (fP po)) := rfl
            have e_66 : n_X5_order_0_11 fP ln po wz = (r_X5_number fP ln po 1) := by unfold n_X5_order_0_11; rw [if_neg c_4, if_neg c_6, if_pos c_20]
            have e_67 : n_X5_order_0_12 fP ln po wz = 0 := by unfold n_X5_order_0_12; rw [if_neg c_4, if_neg c_6, if_pos c_20]
            have hPf : va_P D vwCl [(oM, .inr (5, [.ref aS, .ref aA, .ref aB, .int (nI kn), .ref aT, .ref aV, .ref aP, .int (nI ln), .int (nI (n_X5_order_0_8 fP ln po wz)), .int (nI (n_X5_order_0_9 fP ln po wz)), .int (n_X5_order_0_10 fP ln po), .int (n_X5_order_0_11 fP ln po wz), .int (n_X5_order_0_12 fP ln po wz)])), (aP, .inl (K 0, 80, .inl fP))] H := (by rw [e_63, e_64, e_65, e_66, e_67]; exact hP)
            exact W.vret hx hb hr (fun t ht hW => ⟨⟨(), rfl, trivial, by show va_P D vwCl _ t.heap; rw [ht]; exact hPf⟩, hS.F ht⟩) hS.2.2 dX5_order_210
      · skip
        refine lv_iload_n hx hb dX5_order_33 rfl (lv_at hl 0 rfl) ?_
        refine lv_bipush (v := 119) hx hb dX5_order_34 (by decide) ?_
        refine lv_icmp_eq (tgt := 67) hx hb dX5_order_36 (by decide) (fun c_68 => ?_) (fun c_68 => ?_)
        · skip
          refine lv_iconst (v := 0) hx hb dX5_order_67 (by decide) ?_
          refine va_put (D := D) (ci := 5) (v := .int 0) (ty := .boolean) (C := RX5) (T := TX5) (N := 13) hx hb hts hin5 tyX5 tyX5_ok nmX5 hown hK hP hD hS 0 rfl rfl 9 (by decide) (hts _ (List.mem_of_getElem? (i := 4) rfl)) (fun _ h9 => h9) rfl (by decide +kernel) rfl rfl (Nat.le_of_ble_eq_true rfl) dX5_order_68 (fun H locs hP hD hS => ?_)
          have hP : va_P D vwCl [(oM, .inr (5, [.ref aS, .ref aA, .ref aB, .int (nI kn), .ref aT, .ref aV, .ref aP, .int (nI ln), .int (nI po), .int 0, .int le, .int on, .int tw])), (aP, .inl (K 0, 80, .inl fP))] H := hP
          have hD : va_D A [(oM, .inr (5, [.ref aS, .ref aA, .ref aB, .int (nI kn), .ref aT, .ref aV, .ref aP, .int (nI ln), .int (nI po), .int 0, .int le, .int on, .int tw])), (aP, .inl (K 0, 80, .inl fP))] := hD
          refine lv_aload_n hx hb dX5_order_71 rfl (lv_at hl 1 rfl) ?_
          refine lv_dup hx hb dX5_order_72 rfl ?_
          refine va_get (D := D) (ci := 5) (v := .int (nI po)) (C := RX5) (T := TX5) (N := 13) hx hb hts hin5 hown hK hP 0 rfl rfl 8 (by decide) (hts _ (List.mem_of_getElem? (i := 1) rfl)) (fun _ h9 => h9) rfl dX5_order_73 ?_
          refine lv_aload_n hx hb dX5_order_76 rfl (lv_at hl 1 rfl) ?_
          refine va_get (D := D) (ci := 5) (v := .int 0) (C := RX5) (T := TX5) (N := 13) hx hb hts hin5 hown hK hP 0 rfl rfl 9 (by decide) (hts _ (List.mem_of_getElem? (i := 4) rfl)) (fun _ h9 => h9) rfl dX5_order_77 ?_
          refine lv_if_eq (tgt := 87) hx hb dX5_order_80 (by decide) (fun _ => ?_) (fun h_69 => absurd (by decide) h_69)
          refine lv_iconst (v := 1) hx hb dX5_order_87 (by decide) ?_
          refine lv_iadd hx hb dX5_order_88 ?_
          refine st1 (nI_add po 1) ?_
          refine va_put (D := D) (ci := 5) (v := .int (nI (po + 1))) (ty := .int) (C := RX5) (T := TX5) (N := 13) hx hb hts hin5 tyX5 tyX5_ok nmX5 hown hK hP hD hS 0 rfl rfl 8 (by decide) (hts _ (List.mem_of_getElem? (i := 1) rfl)) (fun _ h9 => h9) rfl (by decide +kernel) rfl rfl (Nat.le_of_ble_eq_true rfl) dX5_order_89 (fun H locs hP hD hS => ?_)
          have hP : va_P D vwCl [(oM, .inr (5, [.ref aS, .ref aA, .ref aB, .int (nI kn), .ref aT, .ref aV, .ref aP, .int (nI ln), .int (nI (po + 1)), .int 0, .int le, .int on, .int tw])), (aP, .inl (K 0, 80, .inl fP))] H := hP
          have hD : va_D A [(oM, .inr (5, [.ref aS, .ref aA, .ref aB, .int (nI kn), .ref aT, .ref aV, .ref aP, .int (nI ln), .int (nI (po + 1)), .int 0, .int le, .int on, .int tw])), (aP, .inl (K 0, 80, .inl fP))] := hD
          have hp1 : po + 1 ≤ ln := ch_lt (by decide) hln hpo c_68
          refine lv_aload_n hx hb dX5_order_92 rfl (lv_at hl 1 rfl) ?_
          refine lv_iload_n hx hb dX5_order_93 rfl (lv_at hl 0 rfl) ?_
          refine va_put (D := D) (ci := 5) (v := .int (if (nI ln) ≤ (nI po) then 0 else (fP po))) (ty := .int) (C := RX5) (T := TX5) (N := 13) hx hb hts hin5 tyX5 tyX5_ok nmX5 hown hK hP hD hS 0 rfl rfl 10 (by decide) (hts _ (List.mem_of_getElem? (i := 5) rfl)) (fun _ h9 => h9) rfl (by decide +kernel) rfl rfl (Nat.le_of_ble_eq_true rfl) dX5_order_94 (fun H locs hP hD hS => ?_)
          have hP : va_P D vwCl [(oM, .inr (5, [.ref aS, .ref aA, .ref aB, .int (nI kn), .ref aT, .ref aV, .ref aP, .int (nI ln), .int (nI (po + 1)), .int 0, .int (if (nI ln) ≤ (nI po) then 0 else (fP po)), .int on, .int tw])), (aP, .inl (K 0, 80, .inl fP))] H := hP
          have hD : va_D A [(oM, .inr (5, [.ref aS, .ref aA, .ref aB, .int (nI kn), .ref aT, .ref aV, .ref aP, .int (nI ln), .int (nI (po + 1)), .int 0, .int (if (nI ln) ≤ (nI po) then 0 else (fP po)), .int on, .int tw])), (aP, .inl (K 0, 80, .inl fP))] := hD
          refine lv_aload_n hx hb dX5_order_97 rfl (lv_at hl 1 rfl) ?_
          refine lv_iload_n hx hb dX5_order_98 rfl (lv_at hl 0 rfl) ?_
          refine lv_bipush (v := 119) hx hb dX5_order_99 (by decide) ?_
          refine lv_icmp_eq (tgt := 110) hx hb dX5_order_101 (by decide) (fun _ => ?_) (fun h_70 => absurd c_68 h_70)
          refine lv_aload_n hx hb dX5_order_110 rfl (lv_at hl 1 rfl) ?_
          have hPc := hP.sub (ws' := [(oM, .inr (5, [.ref aS, .ref aA, .ref aB, .int (nI kn), .ref aT, .ref aV, .ref aP, .int (nI ln), .int (nI (po + 1)), .int 0, .int (if (nI ln) ≤ (nI po) then 0 else (fP po)), .int on, .int tw])), (aP, .inl (K 0, 80, .inl fP))]) [0, 1] rfl
          have hDc : va_D (fun _ => True) [(oM, .inr (5, [.ref aS, .ref aA, .ref aB, .int (nI kn), .ref aT, .ref aV, .ref aP, .int (nI ln), .int (nI (po + 1)), .int 0, .int (if (nI ln) ≤ (nI po) then 0 else (fP po)), .int on, .int tw])), (aP, .inl (K 0, 80, .inl fP))] := (hD.sub (ws' := [(oM, .inr (5, [.ref aS, .ref aA, .ref aB, .int (nI kn), .ref aT, .ref aV, .ref aP, .int (nI ln), .int (nI (po + 1)), .int 0, .int (if (nI ln) ≤ (nI po) then 0 else (fP po)), .int on, .int tw])), (aP, .inl (K 0, 80, .inl fP))]) [0, 1] (by decide +kernel) rfl).weaken (fun _ _ _ _ => trivial)
          refine kw_i (W1 := [(oM, .inr (5, [.ref aS, .ref aA, .ref aB, .int (nI kn), .ref aT, .ref aV, .ref aP, .int (nI ln), .int (nI (n_X5_number_0_8 fP ln (po + 1) 0)), .int (nI (n_X5_number_0_9 fP ln (po + 1) 0)), .int (if (nI ln) ≤ (nI po) then 0 else (fP po)), .int on, .int tw])), (aP, .inl (K 0, 80, .inl fP))]) (w1 := [(oM, .inr (5, [.ref aS, .ref aA, .ref aB, .int (nI kn), .ref aT, .ref aV, .ref aP, .int (nI ln), .int (nI (n_X5_number_0_8 fP ln (po + 1) 0)), .int (nI (n_X5_number_0_9 fP ln (po + 1) 0)), .int (if (nI ln) ≤ (nI po) then 0 else (fP po)), .int on, .int tw])), (aP, .inl (K 0, 80, .inl fP))]) (va_runV (As := []) (rest := [.ref oM]) ⟨hx, hb, hml, hown, hts⟩ (c_X5_number l D K oM aS aA aB aT aV aP fP kn ln (po + 1) 0 (if (nI ln) ≤ (nI po) then 0 else (fP po)) on tw hln (by omega)) (cwV 0 hts gX5_order_X5_number rfl rfl rfl (by decide +kernel) ⟨Nat.le_of_ble_eq_true rfl, Nat.le_of_ble_eq_true rfl⟩) (pre_wr hbd hPc hDc (ci := 5) (q0 := 0) rfl rfl) rfl rfl hl.1 rfl (lv_room (Nat.le_of_ble_eq_true rfl)) dX5_order_111 ⟨Nat.zero_le _, Nat.zero_le _⟩) hP hD hS [0, 1] [] 2 rfl rfl rfl (Eq.trans (b := List.map some ([])) rfl rfl) (by decide +kernel) (by decide +kernel) (by simp only [List.map_append, drW_fst, List.map_cons, List.map_nil]) (fun r_71 H locs hr_71 hP hD hS => ?_)
          subst hr_71
          have hb_72 := nm_le (fP := fP) (ln := ln) (po := (po + 1)) (wz := 0) hln (by omega)
          refine lv_goto (tgt := 144) hx hb dX5_order_114 (by decide) ?_
          refine va_put (D := D) (ci := 5) (v := .int (r_X5_number fP ln (po + 1) 0)) (ty := .int) (C := RX5) (T := TX5) (N := 13) hx hb hts hin5 tyX5 tyX5_ok nmX5 hown hK hP hD hS 0 rfl rfl 11 (by decide) (hts _ (List.mem_of_getElem? (i := 6) rfl)) (fun _ h9 => h9) rfl (by decide +kernel) rfl rfl (Nat.le_of_ble_eq_true rfl) dX5_order_144 (fun H locs hP hD hS => ?_)
          have hP : va_P D vwCl [(oM, .inr (5, [.ref aS, .ref aA, .ref aB, .int (nI kn), .ref aT, .ref aV, .ref aP, .int (nI ln), .int (nI (n_X5_number_0_8 fP ln (po + 1) 0)), .int (nI (n_X5_number_0_9 fP ln (po + 1) 0)), .int (if (nI ln) ≤ (nI po) then 0 else (fP po)), .int (r_X5_number fP ln (po + 1) 0), .int tw])), (aP, .inl (K 0, 80, .inl fP))] H := hP
          have hD : va_D A [(oM, .inr (5, [.ref aS, .ref aA, .ref aB, .int (nI kn), .ref aT, .ref aV, .ref aP, .int (nI ln), .int (nI (n_X5_number_0_8 fP ln (po + 1) 0)), .int (nI (n_X5_number_0_9 fP ln (po + 1) 0)), .int (if (nI ln) ≤ (nI po) then 0 else (fP po)), .int (r_X5_number fP ln (po + 1) 0), .int tw])), (aP, .inl (K 0, 80, .inl fP))] := hD
          refine lv_iload_n hx hb dX5_order_147 rfl (lv_at hl 0 rfl) ?_
          refine lv_bipush (v := 119) hx hb dX5_order_148 (by decide) ?_
          refine lv_icmp_ne (tgt := 164) hx hb dX5_order_150 (by decide) (fun h_73 => absurd c_68 h_73) (fun _ => ?_)
          refine lv_aload_n hx hb dX5_order_153 rfl (lv_at hl 1 rfl) ?_
          refine lv_bipush (v := 61) hx hb dX5_order_154 (by decide) ?_
          refine lv_bipush (v := 61) hx hb dX5_order_156 (by decide) ?_
          have hPc := hP.sub (ws' := [(oM, .inr (5, [.ref aS, .ref aA, .ref aB, .int (nI kn), .ref aT, .ref aV, .ref aP, .int (nI ln), .int (nI (n_X5_number_0_8 fP ln (po + 1) 0)), .int (nI (n_X5_number_0_9 fP ln (po + 1) 0)), .int (if (nI ln) ≤ (nI po) then 0 else (fP po)), .int (r_X5_number fP ln (po + 1) 0), .int tw])), (aP, .inl (K 0, 80, .inl fP))]) [0, 1] rfl
          have hDc : va_D (fun _ => True) [(oM, .inr (5, [.ref aS, .ref aA, .ref aB, .int (nI kn), .ref aT, .ref aV, .ref aP, .int (nI ln), .int (nI (n_X5_number_0_8 fP ln (po + 1) 0)), .int (nI (n_X5_number_0_9 fP ln (po + 1) 0)), .int (if (nI ln) ≤ (nI po) then 0 else (fP po)), .int (r_X5_number fP ln (po + 1) 0), .int tw])), (aP, .inl (K 0, 80, .inl fP))] := (hD.sub (ws' := [(oM, .inr (5, [.ref aS, .ref aA, .ref aB, .int (nI kn), .ref aT, .ref aV, .ref aP, .int (nI ln), .int (nI (n_X5_number_0_8 fP ln (po + 1) 0)), .int (nI (n_X5_number_0_9 fP ln (po + 1) 0)), .int (if (nI ln) ≤ (nI po) then 0 else (fP po)), .int (r_X5_number fP ln (po + 1) 0), .int tw])), (aP, .inl (K 0, 80, .inl fP))]) [0, 1] (by decide +kernel) rfl).weaken (fun _ _ _ _ => trivial)
          refine kw_i (W1 := [(oM, .inr (5, [.ref aS, .ref aA, .ref aB, .int (nI kn), .ref aT, .ref aV, .ref aP, .int (nI ln), .int (nI (n_X5_sign_0_8 fP ln (n_X5_number_0_8 fP ln (po + 1) 0) (n_X5_number_0_9 fP ln (po + 1) 0) 61 61)), .int (nI (n_X5_sign_0_9 fP ln (n_X5_number_0_8 fP ln (po + 1) 0) (n_X5_number_0_9 fP ln (po + 1) 0) 61 61)), .int (if (nI ln) ≤ (nI po) then 0 else (fP po)), .int (r_X5_number fP ln (po + 1) 0), .int tw])), (aP, .inl (K 0, 80, .inl fP))]) (w1 := [(oM, .inr (5, [.ref aS, .ref aA, .ref aB, .int (nI kn), .ref aT, .ref aV, .ref aP, .int (nI ln), .int (nI (n_X5_sign_0_8 fP ln (n_X5_number_0_8 fP ln (po + 1) 0) (n_X5_number_0_9 fP ln (po + 1) 0) 61 61)), .int (nI (n_X5_sign_0_9 fP ln (n_X5_number_0_8 fP ln (po + 1) 0) (n_X5_number_0_9 fP ln (po + 1) 0) 61 61)), .int (if (nI ln) ≤ (nI po) then 0 else (fP po)), .int (r_X5_number fP ln (po + 1) 0), .int tw])), (aP, .inl (K 0, 80, .inl fP))]) (va_runV (As := [.int 61, .int 61]) (rest := []) ⟨hx, hb, hml, hown, hts⟩ (c_X5_sign l D K oM aS aA aB aT aV aP fP kn ln (n_X5_number_0_8 fP ln (po + 1) 0) (n_X5_number_0_9 fP ln (po + 1) 0) (if (nI ln) ≤ (nI po) then 0 else (fP po)) (r_X5_number fP ln (po + 1) 0) tw 61 61 hln (by omega)) (cwV 2 hts gX5_order_X5_sign rfl rfl rfl (by decide +kernel) ⟨Nat.le_of_ble_eq_true rfl, Nat.le_of_ble_eq_true rfl⟩) (pre_wr hbd hPc hDc (ci := 5) (q0 := 0) rfl rfl) rfl rfl hl.1 rfl (lv_room (Nat.le_of_ble_eq_true rfl)) dX5_order_158 ⟨Nat.zero_le _, Nat.zero_le _⟩) hP hD hS [0, 1] [] 2 rfl rfl rfl (Eq.trans (b := List.map some ([])) rfl rfl) (by decide +kernel) (by decide +kernel) (by simp only [List.map_append, drW_fst, List.map_cons, List.map_nil]) (fun r_74 H locs hr_74 hP hD hS => ?_)
          subst hr_74
          have hb_75 := sn_le (fP := fP) (ln := ln) (po := (n_X5_number_0_8 fP ln (po + 1) 0)) (wz := (n_X5_number_0_9 fP ln (po + 1) 0)) (xl := 61) (xh := 61) (by decide) hln (by omega)
          refine lv_goto (tgt := 165) hx hb dX5_order_161 (by decide) ?_
          refine lv_istore_n (lv' := [(2, .int (r_X5_sign fP ln (n_X5_number_0_8 fP ln (po + 1) 0))), (1, .int (if (nI ln) ≤ (nI po) then 0 else (fP po))), (0, .ref oM)]) hx hb dX5_order_165 rfl hl (by decide) rfl (fun ls hl => ?_)
          refine lv_aload_n hx hb dX5_order_166 rfl (lv_at hl 2 rfl) ?_
          refine lv_iload_n hx hb dX5_order_167 rfl (lv_at hl 1 rfl) ?_
          refine lv_bipush (v := 119) hx hb dX5_order_168 (by decide) ?_
          refine lv_icmp_eq (tgt := 179) hx hb dX5_order_170 (by decide) (fun _ => ?_) (fun h_76 => absurd c_68 h_76)
          refine lv_aload_n hx hb dX5_order_179 rfl (lv_at hl 2 rfl) ?_
          have hPc := hP.sub (ws' := [(oM, .inr (5, [.ref aS, .ref aA, .ref aB, .int (nI kn), .ref aT, .ref aV, .ref aP, .int (nI ln), .int (nI (n_X5_sign_0_8 fP ln (n_X5_number_0_8 fP ln (po + 1) 0) (n_X5_number_0_9 fP ln (po + 1) 0) 61 61)), .int (nI (n_X5_sign_0_9 fP ln (n_X5_number_0_8 fP ln (po + 1) 0) (n_X5_number_0_9 fP ln (po + 1) 0) 61 61)), .int (if (nI ln) ≤ (nI po) then 0 else (fP po)), .int (r_X5_number fP ln (po + 1) 0), .int tw])), (aP, .inl (K 0, 80, .inl fP))]) [0, 1] rfl
          have hDc : va_D (fun _ => True) [(oM, .inr (5, [.ref aS, .ref aA, .ref aB, .int (nI kn), .ref aT, .ref aV, .ref aP, .int (nI ln), .int (nI (n_X5_sign_0_8 fP ln (n_X5_number_0_8 fP ln (po + 1) 0) (n_X5_number_0_9 fP ln (po + 1) 0) 61 61)), .int (nI (n_X5_sign_0_9 fP ln (n_X5_number_0_8 fP ln (po + 1) 0) (n_X5_number_0_9 fP ln (po + 1) 0) 61 61)), .int (if (nI ln) ≤ (nI po) then 0 else (fP po)), .int (r_X5_number fP ln (po + 1) 0), .int tw])), (aP, .inl (K 0, 80, .inl fP))] := (hD.sub (ws' := [(oM, .inr (5, [.ref aS, .ref aA, .ref aB, .int (nI kn), .ref aT, .ref aV, .ref aP, .int (nI ln), .int (nI (n_X5_sign_0_8 fP ln (n_X5_number_0_8 fP ln (po + 1) 0) (n_X5_number_0_9 fP ln (po + 1) 0) 61 61)), .int (nI (n_X5_sign_0_9 fP ln (n_X5_number_0_8 fP ln (po + 1) 0) (n_X5_number_0_9 fP ln (po + 1) 0) 61 61)), .int (if (nI ln) ≤ (nI po) then 0 else (fP po)), .int (r_X5_number fP ln (po + 1) 0), .int tw])), (aP, .inl (K 0, 80, .inl fP))]) [0, 1] (by decide +kernel) rfl).weaken (fun _ _ _ _ => trivial)
          refine kw_i (W1 := [(oM, .inr (5, [.ref aS, .ref aA, .ref aB, .int (nI kn), .ref aT, .ref aV, .ref aP, .int (nI ln), .int (nI (n_X5_number_0_8 fP ln (n_X5_sign_0_8 fP ln (n_X5_number_0_8 fP ln (po + 1) 0) (n_X5_number_0_9 fP ln (po + 1) 0) 61 61) (n_X5_sign_0_9 fP ln (n_X5_number_0_8 fP ln (po + 1) 0) (n_X5_number_0_9 fP ln (po + 1) 0) 61 61))), .int (nI (n_X5_number_0_9 fP ln (n_X5_sign_0_8 fP ln (n_X5_number_0_8 fP ln (po + 1) 0) (n_X5_number_0_9 fP ln (po + 1) 0) 61 61) (n_X5_sign_0_9 fP ln (n_X5_number_0_8 fP ln (po + 1) 0) (n_X5_number_0_9 fP ln (po + 1) 0) 61 61))), .int (if (nI ln) ≤ (nI po) then 0 else (fP po)), .int (r_X5_number fP ln (po + 1) 0), .int tw])), (aP, .inl (K 0, 80, .inl fP))]) (w1 := [(oM, .inr (5, [.ref aS, .ref aA, .ref aB, .int (nI kn), .ref aT, .ref aV, .ref aP, .int (nI ln), .int (nI (n_X5_number_0_8 fP ln (n_X5_sign_0_8 fP ln (n_X5_number_0_8 fP ln (po + 1) 0) (n_X5_number_0_9 fP ln (po + 1) 0) 61 61) (n_X5_sign_0_9 fP ln (n_X5_number_0_8 fP ln (po + 1) 0) (n_X5_number_0_9 fP ln (po + 1) 0) 61 61))), .int (nI (n_X5_number_0_9 fP ln (n_X5_sign_0_8 fP ln (n_X5_number_0_8 fP ln (po + 1) 0) (n_X5_number_0_9 fP ln (po + 1) 0) 61 61) (n_X5_sign_0_9 fP ln (n_X5_number_0_8 fP ln (po + 1) 0) (n_X5_number_0_9 fP ln (po + 1) 0) 61 61))), .int (if (nI ln) ≤ (nI po) then 0 else (fP po)), .int (r_X5_number fP ln (po + 1) 0), .int tw])), (aP, .inl (K 0, 80, .inl fP))]) (va_runV (As := []) (rest := [.ref oM]) ⟨hx, hb, hml, hown, hts⟩ (c_X5_number l D K oM aS aA aB aT aV aP fP kn ln (n_X5_sign_0_8 fP ln (n_X5_number_0_8 fP ln (po + 1) 0) (n_X5_number_0_9 fP ln (po + 1) 0) 61 61) (n_X5_sign_0_9 fP ln (n_X5_number_0_8 fP ln (po + 1) 0) (n_X5_number_0_9 fP ln (po + 1) 0) 61 61) (if (nI ln) ≤ (nI po) then 0 else (fP po)) (r_X5_number fP ln (po + 1) 0) tw hln (by omega)) (cwV 0 hts gX5_order_X5_number rfl rfl rfl (by decide +kernel) ⟨Nat.le_of_ble_eq_true rfl, Nat.le_of_ble_eq_true rfl⟩) (pre_wr hbd hPc hDc (ci := 5) (q0 := 0) rfl rfl) rfl rfl hl.1 rfl (lv_room (Nat.le_of_ble_eq_true rfl)) dX5_order_180 ⟨Nat.zero_le _, Nat.zero_le _⟩) hP hD hS [0, 1] [] 2 rfl rfl rfl (Eq.trans (b := List.map some ([])) rfl rfl) (by decide +kernel) (by decide +kernel) (by simp only [List.map_append, drW_fst, List.map_cons, List.map_nil]) (fun r_77 H locs hr_77 hP hD hS => ?_)
          subst hr_77
          have hb_78 := nm_le (fP := fP) (ln := ln) (po := (n_X5_sign_0_8 fP ln (n_X5_number_0_8 fP ln (po + 1) 0) (n_X5_number_0_9 fP ln (po + 1) 0) 61 61)) (wz := (n_X5_sign_0_9 fP ln (n_X5_number_0_8 fP ln (po + 1) 0) (n_X5_number_0_9 fP ln (po + 1) 0) 61 61)) hln (by omega)
          refine lv_goto (tgt := 207) hx hb dX5_order_183 (by decide) ?_
          refine va_put (D := D) (ci := 5) (v := .int (r_X5_number fP ln (n_X5_sign_0_8 fP ln (n_X5_number_0_8 fP ln (po + 1) 0) (n_X5_number_0_9 fP ln (po + 1) 0) 61 61) (n_X5_sign_0_9 fP ln (n_X5_number_0_8 fP ln (po + 1) 0) (n_X5_number_0_9 fP ln (po + 1) 0) 61 61))) (ty := .int) (C := RX5) (T := TX5) (N := 13) hx hb hts hin5 tyX5 tyX5_ok nmX5 hown hK hP hD hS 0 rfl rfl 12 (by decide) (hts _ (List.mem_of_getElem? (i := 7) rfl)) (fun _ h9 => h9) rfl (by decide +kernel) rfl rfl (Nat.le_of_ble_eq_true rfl) dX5_order_207 (fun H locs hP hD hS => ?_)
          have hP : va_P D vwCl [(oM, .inr (5, [.ref aS, .ref aA, .ref aB, .int (nI kn), .ref aT, .ref aV, .ref aP, .int (nI ln), .int (nI (n_X5_number_0_8 fP ln (n_X5_sign_0_8 fP ln (n_X5_number_0_8 fP ln (po + 1) 0) (n_X5_number_0_9 fP ln (po + 1) 0) 61 61) (n_X5_sign_0_9 fP ln (n_X5_number_0_8 fP ln (po + 1) 0) (n_X5_number_0_9 fP ln (po + 1) 0) 61 61))), .int (nI (n_X5_number_0_9 fP ln (n_X5_sign_0_8 fP ln (n_X5_number_0_8 fP ln (po + 1) 0) (n_X5_number_0_9 fP ln (po + 1) 0) 61 61) (n_X5_sign_0_9 fP ln (n_X5_number_0_8 fP ln (po + 1) 0) (n_X5_number_0_9 fP ln (po + 1) 0) 61 61))), .int (if (nI ln) ≤ (nI po) then 0 else (fP po)), .int (r_X5_number fP ln (po + 1) 0), .int (r_X5_number fP ln (n_X5_sign_0_8 fP ln (n_X5_number_0_8 fP ln (po + 1) 0) (n_X5_number_0_9 fP ln (po + 1) 0) 61 61) (n_X5_sign_0_9 fP ln (n_X5_number_0_8 fP ln (po + 1) 0) (n_X5_number_0_9 fP ln (po + 1) 0) 61 61))])), (aP, .inl (K 0, 80, .inl fP))] H := hP
          have hD : va_D A [(oM, .inr (5, [.ref aS, .ref aA, .ref aB, .int (nI kn), .ref aT, .ref aV, .ref aP, .int (nI ln), .int (nI (n_X5_number_0_8 fP ln (n_X5_sign_0_8 fP ln (n_X5_number_0_8 fP ln (po + 1) 0) (n_X5_number_0_9 fP ln (po + 1) 0) 61 61) (n_X5_sign_0_9 fP ln (n_X5_number_0_8 fP ln (po + 1) 0) (n_X5_number_0_9 fP ln (po + 1) 0) 61 61))), .int (nI (n_X5_number_0_9 fP ln (n_X5_sign_0_8 fP ln (n_X5_number_0_8 fP ln (po + 1) 0) (n_X5_number_0_9 fP ln (po + 1) 0) 61 61) (n_X5_sign_0_9 fP ln (n_X5_number_0_8 fP ln (po + 1) 0) (n_X5_number_0_9 fP ln (po + 1) 0) 61 61))), .int (if (nI ln) ≤ (nI po) then 0 else (fP po)), .int (r_X5_number fP ln (po + 1) 0), .int (r_X5_number fP ln (n_X5_sign_0_8 fP ln (n_X5_number_0_8 fP ln (po + 1) 0) (n_X5_number_0_9 fP ln (po + 1) 0) 61 61) (n_X5_sign_0_9 fP ln (n_X5_number_0_8 fP ln (po + 1) 0) (n_X5_number_0_9 fP ln (po + 1) 0) 61 61))])), (aP, .inl (K 0, 80, .inl fP))] := hD
          have e_79 : n_X5_order_0_8 fP ln po wz = (n_X5_number_0_8 fP ln (n_X5_sign_0_8 fP ln (n_X5_number_0_8 fP ln (po + 1) 0) (n_X5_number_0_9 fP ln (po + 1) 0) 61 61) (n_X5_sign_0_9 fP ln (n_X5_number_0_8 fP ln (po + 1) 0) (n_X5_number_0_9 fP ln (po + 1) 0) 61 61)) := by unfold n_X5_order_0_8; rw [if_pos c_4, if_pos c_68]
          have e_80 : n_X5_order_0_9 fP ln po wz = (n_X5_number_0_9 fP ln (n_X5_sign_0_8 fP ln (n_X5_number_0_8 fP ln (po + 1) 0) (n_X5_number_0_9 fP ln (po + 1) 0) 61 61) (n_X5_sign_0_9 fP ln (n_X5_number_0_8 fP ln (po + 1) 0) (n_X5_number_0_9 fP ln (po + 1) 0) 61 61)) := by unfold n_X5_order_0_9; rw [if_pos c_4, if_pos c_68]
          have e_81 : n_X5_order_0_10 fP ln po = (if (nI ln) ≤ (nI po) then 0 else (fP po)) := rfl
          have e_82 : n_X5_order_0_11 fP ln po wz = (r_X5_number fP ln (po + 1) 0) := by unfold n_X5_order_0_11; rw [if_pos c_4, if_pos c_68]
          have e_83 : n_X5_order_0_12 fP ln po wz = (r_X5_number fP ln (n_X5_sign_0_8 fP ln (n_X5_number_0_8 fP ln (po + 1) 0) (n_X5_number_0_9 fP ln (po + 1) 0) 61 61) (n_X5_sign_0_9 fP ln (n_X5_number_0_8 fP ln (po + 1) 0) (n_X5_number_0_9 fP ln (po + 1) 0) 61 61)) := by unfold n_X5_order_0_12; rw [if_pos c_4, if_pos c_68]
          have hPf : va_P D vwCl [(oM, .inr (5, [.ref aS, .ref aA, .ref aB, .int (nI kn), .ref aT, .ref aV, .ref aP, .int (nI ln), .int (nI (n_X5_order_0_8 fP ln po wz)), .int (nI (n_X5_order_0_9 fP ln po wz)), .int (n_X5_order_0_10 fP ln po), .int (n_X5_order_0_11 fP ln po wz), .int (n_X5_order_0_12 fP ln po wz)])), (aP, .inl (K 0, 80, .inl fP))] H := (by rw [e_79, e_80, e_81, e_82, e_83]; exact hP)
          exact W.vret hx hb hr (fun t ht hW => ⟨⟨(), rfl, trivial, by show va_P D vwCl _ t.heap; rw [ht]; exact hPf⟩, hS.F ht⟩) hS.2.2 dX5_order_210
        · skip
          refine lv_iload_n hx hb dX5_order_39 rfl (lv_at hl 0 rfl) ?_
          refine lv_bipush (v := 114) hx hb dX5_order_40 (by decide) ?_
          refine lv_icmp_eq (tgt := 67) hx hb dX5_order_42 (by decide) (fun c_84 => ?_) (fun c_84 => ?_)
          · skip
            refine lv_iconst (v := 0) hx hb dX5_order_67 (by decide) ?_
            refine va_put (D := D) (ci := 5) (v := .int 0) (ty := .boolean) (C := RX5) (T := TX5) (N := 13) hx hb hts hin5 tyX5 tyX5_ok nmX5 hown hK hP hD hS 0 rfl rfl 9 (by decide) (hts _ (List.mem_of_getElem? (i := 4) rfl)) (fun _ h9 => h9) rfl (by decide +kernel) rfl rfl (Nat.le_of_ble_eq_true rfl) dX5_order_68 (fun H locs hP hD hS => ?_)
            have hP : va_P D vwCl [(oM, .inr (5, [.ref aS, .ref aA, .ref aB, .int (nI kn), .ref aT, .ref aV, .ref aP, .int (nI ln), .int (nI po), .int 0, .int le, .int on, .int tw])), (aP, .inl (K 0, 80, .inl fP))] H := hP
            have hD : va_D A [(oM, .inr (5, [.ref aS, .ref aA, .ref aB, .int (nI kn), .ref aT, .ref aV, .ref aP, .int (nI ln), .int (nI po), .int 0, .int le, .int on, .int tw])), (aP, .inl (K 0, 80, .inl fP))] := hD
            refine lv_aload_n hx hb dX5_order_71 rfl (lv_at hl 1 rfl) ?_
            refine lv_dup hx hb dX5_order_72 rfl ?_
            refine va_get (D := D) (ci := 5) (v := .int (nI po)) (C := RX5) (T := TX5) (N := 13) hx hb hts hin5 hown hK hP 0 rfl rfl 8 (by decide) (hts _ (List.mem_of_getElem? (i := 1) rfl)) (fun _ h9 => h9) rfl dX5_order_73 ?_
            refine lv_aload_n hx hb dX5_order_76 rfl (lv_at hl 1 rfl) ?_
            refine va_get (D := D) (ci := 5) (v := .int 0) (C := RX5) (T := TX5) (N := 13) hx hb hts hin5 hown hK hP 0 rfl rfl 9 (by decide) (hts _ (List.mem_of_getElem? (i := 4) rfl)) (fun _ h9 => h9) rfl dX5_order_77 ?_
            refine lv_if_eq (tgt := 87) hx hb dX5_order_80 (by decide) (fun _ => ?_) (fun h_85 => absurd (by decide) h_85)
            refine lv_iconst (v := 1) hx hb dX5_order_87 (by decide) ?_
            refine lv_iadd hx hb dX5_order_88 ?_
            refine st1 (nI_add po 1) ?_
            refine va_put (D := D) (ci := 5) (v := .int (nI (po + 1))) (ty := .int) (C := RX5) (T := TX5) (N := 13) hx hb hts hin5 tyX5 tyX5_ok nmX5 hown hK hP hD hS 0 rfl rfl 8 (by decide) (hts _ (List.mem_of_getElem? (i := 1) rfl)) (fun _ h9 => h9) rfl (by decide +kernel) rfl rfl (Nat.le_of_ble_eq_true rfl) dX5_order_89 (fun H locs hP hD hS => ?_)
            have hP : va_P D vwCl [(oM, .inr (5, [.ref aS, .ref aA, .ref aB, .int (nI kn), .ref aT, .ref aV, .ref aP, .int (nI ln), .int (nI (po + 1)), .int 0, .int le, .int on, .int tw])), (aP, .inl (K 0, 80, .inl fP))] H := hP
            have hD : va_D A [(oM, .inr (5, [.ref aS, .ref aA, .ref aB, .int (nI kn), .ref aT, .ref aV, .ref aP, .int (nI ln), .int (nI (po + 1)), .int 0, .int le, .int on, .int tw])), (aP, .inl (K 0, 80, .inl fP))] := hD
            have hp1 : po + 1 ≤ ln := ch_lt (by decide) hln hpo c_84
            refine lv_aload_n hx hb dX5_order_92 rfl (lv_at hl 1 rfl) ?_
            refine lv_iload_n hx hb dX5_order_93 rfl (lv_at hl 0 rfl) ?_
            refine va_put (D := D) (ci := 5) (v := .int (if (nI ln) ≤ (nI po) then 0 else (fP po))) (ty := .int) (C := RX5) (T := TX5) (N := 13) hx hb hts hin5 tyX5 tyX5_ok nmX5 hown hK hP hD hS 0 rfl rfl 10 (by decide) (hts _ (List.mem_of_getElem? (i := 5) rfl)) (fun _ h9 => h9) rfl (by decide +kernel) rfl rfl (Nat.le_of_ble_eq_true rfl) dX5_order_94 (fun H locs hP hD hS => ?_)
            have hP : va_P D vwCl [(oM, .inr (5, [.ref aS, .ref aA, .ref aB, .int (nI kn), .ref aT, .ref aV, .ref aP, .int (nI ln), .int (nI (po + 1)), .int 0, .int (if (nI ln) ≤ (nI po) then 0 else (fP po)), .int on, .int tw])), (aP, .inl (K 0, 80, .inl fP))] H := hP
            have hD : va_D A [(oM, .inr (5, [.ref aS, .ref aA, .ref aB, .int (nI kn), .ref aT, .ref aV, .ref aP, .int (nI ln), .int (nI (po + 1)), .int 0, .int (if (nI ln) ≤ (nI po) then 0 else (fP po)), .int on, .int tw])), (aP, .inl (K 0, 80, .inl fP))] := hD
            refine lv_aload_n hx hb dX5_order_97 rfl (lv_at hl 1 rfl) ?_
            refine lv_iload_n hx hb dX5_order_98 rfl (lv_at hl 0 rfl) ?_
            refine lv_bipush (v := 119) hx hb dX5_order_99 (by decide) ?_
            refine lv_icmp_eq (tgt := 110) hx hb dX5_order_101 (by decide) (fun h_86 => absurd h_86 c_68) (fun _ => ?_)
            refine lv_iload_n hx hb dX5_order_104 rfl (lv_at hl 0 rfl) ?_
            refine lv_bipush (v := 114) hx hb dX5_order_105 (by decide) ?_
            refine lv_icmp_ne (tgt := 117) hx hb dX5_order_107 (by decide) (fun h_87 => absurd c_84 h_87) (fun _ => ?_)
            refine lv_aload_n hx hb dX5_order_110 rfl (lv_at hl 1 rfl) ?_
            have hPc := hP.sub (ws' := [(oM, .inr (5, [.ref aS, .ref aA, .ref aB, .int (nI kn), .ref aT, .ref aV, .ref aP, .int (nI ln), .int (nI (po + 1)), .int 0, .int (if (nI ln) ≤ (nI po) then 0 else (fP po)), .int on, .int tw])), (aP, .inl (K 0, 80, .inl fP))]) [0, 1] rfl
            have hDc : va_D (fun _ => True) [(oM, .inr (5, [.ref aS, .ref aA, .ref aB, .int (nI kn), .ref aT, .ref aV, .ref aP, .int (nI ln), .int (nI (po + 1)), .int 0, .int (if (nI ln) ≤ (nI po) then 0 else (fP po)), .int on, .int tw])), (aP, .inl (K 0, 80, .inl fP))] := (hD.sub (ws' := [(oM, .inr (5, [.ref aS, .ref aA, .ref aB, .int (nI kn), .ref aT, .ref aV, .ref aP, .int (nI ln), .int (nI (po + 1)), .int 0, .int (if (nI ln) ≤ (nI po) then 0 else (fP po)), .int on, .int tw])), (aP, .inl (K 0, 80, .inl fP))]) [0, 1] (by decide +kernel) rfl).weaken (fun _ _ _ _ => trivial)
            refine kw_i (W1 := [(oM, .inr (5, [.ref aS, .ref aA, .ref aB, .int (nI kn), .ref aT, .ref aV, .ref aP, .int (nI ln), .int (nI (n_X5_number_0_8 fP ln (po + 1) 0)), .int (nI (n_X5_number_0_9 fP ln (po + 1) 0)), .int (if (nI ln) ≤ (nI po) then 0 else (fP po)), .int on, .int tw])), (aP, .inl (K 0, 80, .inl fP))]) (w1 := [(oM, .inr (5, [.ref aS, .ref aA, .ref aB, .int (nI kn), .ref aT, .ref aV, .ref aP, .int (nI ln), .int (nI (n_X5_number_0_8 fP ln (po + 1) 0)), .int (nI (n_X5_number_0_9 fP ln (po + 1) 0)), .int (if (nI ln) ≤ (nI po) then 0 else (fP po)), .int on, .int tw])), (aP, .inl (K 0, 80, .inl fP))]) (va_runV (As := []) (rest := [.ref oM]) ⟨hx, hb, hml, hown, hts⟩ (c_X5_number l D K oM aS aA aB aT aV aP fP kn ln (po + 1) 0 (if (nI ln) ≤ (nI po) then 0 else (fP po)) on tw hln (by omega)) (cwV 0 hts gX5_order_X5_number rfl rfl rfl (by decide +kernel) ⟨Nat.le_of_ble_eq_true rfl, Nat.le_of_ble_eq_true rfl⟩) (pre_wr hbd hPc hDc (ci := 5) (q0 := 0) rfl rfl) rfl rfl hl.1 rfl (lv_room (Nat.le_of_ble_eq_true rfl)) dX5_order_111 ⟨Nat.zero_le _, Nat.zero_le _⟩) hP hD hS [0, 1] [] 2 rfl rfl rfl (Eq.trans (b := List.map some ([])) rfl rfl) (by decide +kernel) (by decide +kernel) (by simp only [List.map_append, drW_fst, List.map_cons, List.map_nil]) (fun r_88 H locs hr_88 hP hD hS => ?_)
            subst hr_88
            have hb_89 := nm_le (fP := fP) (ln := ln) (po := (po + 1)) (wz := 0) hln (by omega)
            refine lv_goto (tgt := 144) hx hb dX5_order_114 (by decide) ?_
            refine va_put (D := D) (ci := 5) (v := .int (r_X5_number fP ln (po + 1) 0)) (ty := .int) (C := RX5) (T := TX5) (N := 13) hx hb hts hin5 tyX5 tyX5_ok nmX5 hown hK hP hD hS 0 rfl rfl 11 (by decide) (hts _ (List.mem_of_getElem? (i := 6) rfl)) (fun _ h9 => h9) rfl (by decide +kernel) rfl rfl (Nat.le_of_ble_eq_true rfl) dX5_order_144 (fun H locs hP hD hS => ?_)
            have hP : va_P D vwCl [(oM, .inr (5, [.ref aS, .ref aA, .ref aB, .int (nI kn), .ref aT, .ref aV, .ref aP, .int (nI ln), .int (nI (n_X5_number_0_8 fP ln (po + 1) 0)), .int (nI (n_X5_number_0_9 fP ln (po + 1) 0)), .int (if (nI ln) ≤ (nI po) then 0 else (fP po)), .int (r_X5_number fP ln (po + 1) 0), .int tw])), (aP, .inl (K 0, 80, .inl fP))] H := hP
            have hD : va_D A [(oM, .inr (5, [.ref aS, .ref aA, .ref aB, .int (nI kn), .ref aT, .ref aV, .ref aP, .int (nI ln), .int (nI (n_X5_number_0_8 fP ln (po + 1) 0)), .int (nI (n_X5_number_0_9 fP ln (po + 1) 0)), .int (if (nI ln) ≤ (nI po) then 0 else (fP po)), .int (r_X5_number fP ln (po + 1) 0), .int tw])), (aP, .inl (K 0, 80, .inl fP))] := hD
            refine lv_iload_n hx hb dX5_order_147 rfl (lv_at hl 0 rfl) ?_
            refine lv_bipush (v := 119) hx hb dX5_order_148 (by decide) ?_
            refine lv_icmp_ne (tgt := 164) hx hb dX5_order_150 (by decide) (fun _ => ?_) (fun h_90 => absurd h_90 c_68)
            refine lv_iconst (v := 0) hx hb dX5_order_164 (by decide) ?_
            refine lv_istore_n (lv' := [(2, .int 0), (1, .int (if (nI ln) ≤ (nI po) then 0 else (fP po))), (0, .ref oM)]) hx hb dX5_order_165 rfl hl (by decide) rfl (fun ls hl => ?_)
            refine lv_aload_n hx hb dX5_order_166 rfl (lv_at hl 2 rfl) ?_
            refine lv_iload_n hx hb dX5_order_167 rfl (lv_at hl 1 rfl) ?_
            refine lv_bipush (v := 119) hx hb dX5_order_168 (by decide) ?_
            refine lv_icmp_eq (tgt := 179) hx hb dX5_order_170 (by decide) (fun h_91 => absurd h_91 c_68) (fun _ => ?_)
            refine lv_iload_n hx hb dX5_order_173 rfl (lv_at hl 1 rfl) ?_
            refine lv_bipush (v := 120) hx hb dX5_order_174 (by decide) ?_
            refine lv_icmp_ne (tgt := 186) hx hb dX5_order_176 (by decide) (fun _ => ?_) (fun h_92 => absurd h_92 (fun h => absurd (c_84.symm.trans h) (by decide)))
            refine lv_iload_n hx hb dX5_order_186 rfl (lv_at hl 1 rfl) ?_
            refine lv_bipush (v := 33) hx hb dX5_order_187 (by decide) ?_
            refine lv_icmp_ne (tgt := 206) hx hb dX5_order_189 (by decide) (fun _ => ?_) (fun h_93 => absurd h_93 (fun h => absurd (c_84.symm.trans h) (by decide)))
            refine lv_iconst (v := 0) hx hb dX5_order_206 (by decide) ?_
            refine va_put (D := D) (ci := 5) (v := .int 0) (ty := .int) (C := RX5) (T := TX5) (N := 13) hx hb hts hin5 tyX5 tyX5_ok nmX5 hown hK hP hD hS 0 rfl rfl 12 (by decide) (hts _ (List.mem_of_getElem? (i := 7) rfl)) (fun _ h9 => h9) rfl (by decide +kernel) rfl rfl (Nat.le_of_ble_eq_true rfl) dX5_order_207 (fun H locs hP hD hS => ?_)
            have hP : va_P D vwCl [(oM, .inr (5, [.ref aS, .ref aA, .ref aB, .int (nI kn), .ref aT, .ref aV, .ref aP, .int (nI ln), .int (nI (n_X5_number_0_8 fP ln (po + 1) 0)), .int (nI (n_X5_number_0_9 fP ln (po + 1) 0)), .int (if (nI ln) ≤ (nI po) then 0 else (fP po)), .int (r_X5_number fP ln (po + 1) 0), .int 0])), (aP, .inl (K 0, 80, .inl fP))] H := hP
            have hD : va_D A [(oM, .inr (5, [.ref aS, .ref aA, .ref aB, .int (nI kn), .ref aT, .ref aV, .ref aP, .int (nI ln), .int (nI (n_X5_number_0_8 fP ln (po + 1) 0)), .int (nI (n_X5_number_0_9 fP ln (po + 1) 0)), .int (if (nI ln) ≤ (nI po) then 0 else (fP po)), .int (r_X5_number fP ln (po + 1) 0), .int 0])), (aP, .inl (K 0, 80, .inl fP))] := hD
            have e_94 : n_X5_order_0_8 fP ln po wz = (n_X5_number_0_8 fP ln (po + 1) 0) := by unfold n_X5_order_0_8; rw [if_pos c_4, if_neg c_68, if_pos c_84]
            have e_95 : n_X5_order_0_9 fP ln po wz = (n_X5_number_0_9 fP ln (po + 1) 0) := by unfold n_X5_order_0_9; rw [if_pos c_4, if_neg c_68, if_pos c_84]
            have e_96 : n_X5_order_0_10 fP ln po = (if (nI ln) ≤ (nI po) then 0 else (fP po)) := rfl
            have e_97 : n_X5_order_0_11 fP ln po wz = (r_X5_number fP ln (po + 1) 0) := by unfold n_X5_order_0_11; rw [if_pos c_4, if_neg c_68, if_pos c_84]
            have e_98 : n_X5_order_0_12 fP ln po wz = 0 := by unfold n_X5_order_0_12; rw [if_pos c_4, if_neg c_68, if_pos c_84]
            have hPf : va_P D vwCl [(oM, .inr (5, [.ref aS, .ref aA, .ref aB, .int (nI kn), .ref aT, .ref aV, .ref aP, .int (nI ln), .int (nI (n_X5_order_0_8 fP ln po wz)), .int (nI (n_X5_order_0_9 fP ln po wz)), .int (n_X5_order_0_10 fP ln po), .int (n_X5_order_0_11 fP ln po wz), .int (n_X5_order_0_12 fP ln po wz)])), (aP, .inl (K 0, 80, .inl fP))] H := (by rw [e_94, e_95, e_96, e_97, e_98]; exact hP)
            exact W.vret hx hb hr (fun t ht hW => ⟨⟨(), rfl, trivial, by show va_P D vwCl _ t.heap; rw [ht]; exact hPf⟩, hS.F ht⟩) hS.2.2 dX5_order_210
          · skip
            refine lv_iload_n hx hb dX5_order_45 rfl (lv_at hl 0 rfl) ?_
            refine lv_bipush (v := 33) hx hb dX5_order_46 (by decide) ?_
            refine lv_icmp_eq (tgt := 67) hx hb dX5_order_48 (by decide) (fun c_99 => ?_) (fun c_99 => ?_)
            · skip
              refine lv_iconst (v := 0) hx hb dX5_order_67 (by decide) ?_
              refine va_put (D := D) (ci := 5) (v := .int 0) (ty := .boolean) (C := RX5) (T := TX5) (N := 13) hx hb hts hin5 tyX5 tyX5_ok nmX5 hown hK hP hD hS 0 rfl rfl 9 (by decide) (hts _ (List.mem_of_getElem? (i := 4) rfl)) (fun _ h9 => h9) rfl (by decide +kernel) rfl rfl (Nat.le_of_ble_eq_true rfl) dX5_order_68 (fun H locs hP hD hS => ?_)
              have hP : va_P D vwCl [(oM, .inr (5, [.ref aS, .ref aA, .ref aB, .int (nI kn), .ref aT, .ref aV, .ref aP, .int (nI ln), .int (nI po), .int 0, .int le, .int on, .int tw])), (aP, .inl (K 0, 80, .inl fP))] H := hP
              have hD : va_D A [(oM, .inr (5, [.ref aS, .ref aA, .ref aB, .int (nI kn), .ref aT, .ref aV, .ref aP, .int (nI ln), .int (nI po), .int 0, .int le, .int on, .int tw])), (aP, .inl (K 0, 80, .inl fP))] := hD
              refine lv_aload_n hx hb dX5_order_71 rfl (lv_at hl 1 rfl) ?_
              refine lv_dup hx hb dX5_order_72 rfl ?_
              refine va_get (D := D) (ci := 5) (v := .int (nI po)) (C := RX5) (T := TX5) (N := 13) hx hb hts hin5 hown hK hP 0 rfl rfl 8 (by decide) (hts _ (List.mem_of_getElem? (i := 1) rfl)) (fun _ h9 => h9) rfl dX5_order_73 ?_
              refine lv_aload_n hx hb dX5_order_76 rfl (lv_at hl 1 rfl) ?_
              refine va_get (D := D) (ci := 5) (v := .int 0) (C := RX5) (T := TX5) (N := 13) hx hb hts hin5 hown hK hP 0 rfl rfl 9 (by decide) (hts _ (List.mem_of_getElem? (i := 4) rfl)) (fun _ h9 => h9) rfl dX5_order_77 ?_
              refine lv_if_eq (tgt := 87) hx hb dX5_order_80 (by decide) (fun _ => ?_) (fun h_100 => absurd (by decide) h_100)
              refine lv_iconst (v := 1) hx hb dX5_order_87 (by decide) ?_
              refine lv_iadd hx hb dX5_order_88 ?_
              refine st1 (nI_add po 1) ?_
              refine va_put (D := D) (ci := 5) (v := .int (nI (po + 1))) (ty := .int) (C := RX5) (T := TX5) (N := 13) hx hb hts hin5 tyX5 tyX5_ok nmX5 hown hK hP hD hS 0 rfl rfl 8 (by decide) (hts _ (List.mem_of_getElem? (i := 1) rfl)) (fun _ h9 => h9) rfl (by decide +kernel) rfl rfl (Nat.le_of_ble_eq_true rfl) dX5_order_89 (fun H locs hP hD hS => ?_)
              have hP : va_P D vwCl [(oM, .inr (5, [.ref aS, .ref aA, .ref aB, .int (nI kn), .ref aT, .ref aV, .ref aP, .int (nI ln), .int (nI (po + 1)), .int 0, .int le, .int on, .int tw])), (aP, .inl (K 0, 80, .inl fP))] H := hP
              have hD : va_D A [(oM, .inr (5, [.ref aS, .ref aA, .ref aB, .int (nI kn), .ref aT, .ref aV, .ref aP, .int (nI ln), .int (nI (po + 1)), .int 0, .int le, .int on, .int tw])), (aP, .inl (K 0, 80, .inl fP))] := hD
              have hp1 : po + 1 ≤ ln := ch_lt (by decide) hln hpo c_99
              refine lv_aload_n hx hb dX5_order_92 rfl (lv_at hl 1 rfl) ?_
              refine lv_iload_n hx hb dX5_order_93 rfl (lv_at hl 0 rfl) ?_
              refine va_put (D := D) (ci := 5) (v := .int (if (nI ln) ≤ (nI po) then 0 else (fP po))) (ty := .int) (C := RX5) (T := TX5) (N := 13) hx hb hts hin5 tyX5 tyX5_ok nmX5 hown hK hP hD hS 0 rfl rfl 10 (by decide) (hts _ (List.mem_of_getElem? (i := 5) rfl)) (fun _ h9 => h9) rfl (by decide +kernel) rfl rfl (Nat.le_of_ble_eq_true rfl) dX5_order_94 (fun H locs hP hD hS => ?_)
              have hP : va_P D vwCl [(oM, .inr (5, [.ref aS, .ref aA, .ref aB, .int (nI kn), .ref aT, .ref aV, .ref aP, .int (nI ln), .int (nI (po + 1)), .int 0, .int (if (nI ln) ≤ (nI po) then 0 else (fP po)), .int on, .int tw])), (aP, .inl (K 0, 80, .inl fP))] H := hP
              have hD : va_D A [(oM, .inr (5, [.ref aS, .ref aA, .ref aB, .int (nI kn), .ref aT, .ref aV, .ref aP, .int (nI ln), .int (nI (po + 1)), .int 0, .int (if (nI ln) ≤ (nI po) then 0 else (fP po)), .int on, .int tw])), (aP, .inl (K 0, 80, .inl fP))] := hD
              refine lv_aload_n hx hb dX5_order_97 rfl (lv_at hl 1 rfl) ?_
              refine lv_iload_n hx hb dX5_order_98 rfl (lv_at hl 0 rfl) ?_
              refine lv_bipush (v := 119) hx hb dX5_order_99 (by decide) ?_
              refine lv_icmp_eq (tgt := 110) hx hb dX5_order_101 (by decide) (fun h_101 => absurd h_101 c_68) (fun _ => ?_)
              refine lv_iload_n hx hb dX5_order_104 rfl (lv_at hl 0 rfl) ?_
              refine lv_bipush (v := 114) hx hb dX5_order_105 (by decide) ?_
              refine lv_icmp_ne (tgt := 117) hx hb dX5_order_107 (by decide) (fun _ => ?_) (fun h_102 => absurd h_102 c_84)
              refine lv_iload_n hx hb dX5_order_117 rfl (lv_at hl 0 rfl) ?_
              refine lv_bipush (v := 33) hx hb dX5_order_118 (by decide) ?_
              refine lv_icmp_eq (tgt := 129) hx hb dX5_order_120 (by decide) (fun _ => ?_) (fun h_103 => absurd c_99 h_103)
              refine lv_aload_n hx hb dX5_order_129 rfl (lv_at hl 1 rfl) ?_
              refine lv_bipush (v := 48) hx hb dX5_order_130 (by decide) ?_
              refine lv_bipush (v := 49) hx hb dX5_order_132 (by decide) ?_
              have hPc := hP.sub (ws' := [(oM, .inr (5, [.ref aS, .ref aA, .ref aB, .int (nI kn), .ref aT, .ref aV, .ref aP, .int (nI ln), .int (nI (po + 1)), .int 0, .int (if (nI ln) ≤ (nI po) then 0 else (fP po)), .int on, .int tw])), (aP, .inl (K 0, 80, .inl fP))]) [0, 1] rfl
              have hDc : va_D (fun _ => True) [(oM, .inr (5, [.ref aS, .ref aA, .ref aB, .int (nI kn), .ref aT, .ref aV, .ref aP, .int (nI ln), .int (nI (po + 1)), .int 0, .int (if (nI ln) ≤ (nI po) then 0 else (fP po)), .int on, .int tw])), (aP, .inl (K 0, 80, .inl fP))] := (hD.sub (ws' := [(oM, .inr (5, [.ref aS, .ref aA, .ref aB, .int (nI kn), .ref aT, .ref aV, .ref aP, .int (nI ln), .int (nI (po + 1)), .int 0, .int (if (nI ln) ≤ (nI po) then 0 else (fP po)), .int on, .int tw])), (aP, .inl (K 0, 80, .inl fP))]) [0, 1] (by decide +kernel) rfl).weaken (fun _ _ _ _ => trivial)
              refine kw_i (W1 := [(oM, .inr (5, [.ref aS, .ref aA, .ref aB, .int (nI kn), .ref aT, .ref aV, .ref aP, .int (nI ln), .int (nI (n_X5_sign_0_8 fP ln (po + 1) 0 48 49)), .int (nI (n_X5_sign_0_9 fP ln (po + 1) 0 48 49)), .int (if (nI ln) ≤ (nI po) then 0 else (fP po)), .int on, .int tw])), (aP, .inl (K 0, 80, .inl fP))]) (w1 := [(oM, .inr (5, [.ref aS, .ref aA, .ref aB, .int (nI kn), .ref aT, .ref aV, .ref aP, .int (nI ln), .int (nI (n_X5_sign_0_8 fP ln (po + 1) 0 48 49)), .int (nI (n_X5_sign_0_9 fP ln (po + 1) 0 48 49)), .int (if (nI ln) ≤ (nI po) then 0 else (fP po)), .int on, .int tw])), (aP, .inl (K 0, 80, .inl fP))]) (va_runV (As := [.int 48, .int 49]) (rest := [.ref oM]) ⟨hx, hb, hml, hown, hts⟩ (c_X5_sign l D K oM aS aA aB aT aV aP fP kn ln (po + 1) 0 (if (nI ln) ≤ (nI po) then 0 else (fP po)) on tw 48 49 hln (by omega)) (cwV 2 hts gX5_order_X5_sign rfl rfl rfl (by decide +kernel) ⟨Nat.le_of_ble_eq_true rfl, Nat.le_of_ble_eq_true rfl⟩) (pre_wr hbd hPc hDc (ci := 5) (q0 := 0) rfl rfl) rfl rfl hl.1 rfl (lv_room (Nat.le_of_ble_eq_true rfl)) dX5_order_134 ⟨Nat.zero_le _, Nat.zero_le _⟩) hP hD hS [0, 1] [] 2 rfl rfl rfl (Eq.trans (b := List.map some ([])) rfl rfl) (by decide +kernel) (by decide +kernel) (by simp only [List.map_append, drW_fst, List.map_cons, List.map_nil]) (fun r_104 H locs hr_104 hP hD hS => ?_)
              subst hr_104
              have hb_105 := sn_le (fP := fP) (ln := ln) (po := (po + 1)) (wz := 0) (xl := 48) (xh := 49) (by decide) hln (by omega)
              refine lv_bipush (v := 48) hx hb dX5_order_137 (by decide) ?_
              refine lv_isub hx hb dX5_order_139 ?_
              refine lv_goto (tgt := 144) hx hb dX5_order_140 (by decide) ?_
              refine va_put (D := D) (ci := 5) (v := .int ((r_X5_sign fP ln (po + 1)) - 48)) (ty := .int) (C := RX5) (T := TX5) (N := 13) hx hb hts hin5 tyX5 tyX5_ok nmX5 hown hK hP hD hS 0 rfl rfl 11 (by decide) (hts _ (List.mem_of_getElem? (i := 6) rfl)) (fun _ h9 => h9) rfl (by decide +kernel) rfl rfl (Nat.le_of_ble_eq_true rfl) dX5_order_144 (fun H locs hP hD hS => ?_)
              have hP : va_P D vwCl [(oM, .inr (5, [.ref aS, .ref aA, .ref aB, .int (nI kn), .ref aT, .ref aV, .ref aP, .int (nI ln), .int (nI (n_X5_sign_0_8 fP ln (po + 1) 0 48 49)), .int (nI (n_X5_sign_0_9 fP ln (po + 1) 0 48 49)), .int (if (nI ln) ≤ (nI po) then 0 else (fP po)), .int ((r_X5_sign fP ln (po + 1)) - 48), .int tw])), (aP, .inl (K 0, 80, .inl fP))] H := hP
              have hD : va_D A [(oM, .inr (5, [.ref aS, .ref aA, .ref aB, .int (nI kn), .ref aT, .ref aV, .ref aP, .int (nI ln), .int (nI (n_X5_sign_0_8 fP ln (po + 1) 0 48 49)), .int (nI (n_X5_sign_0_9 fP ln (po + 1) 0 48 49)), .int (if (nI ln) ≤ (nI po) then 0 else (fP po)), .int ((r_X5_sign fP ln (po + 1)) - 48), .int tw])), (aP, .inl (K 0, 80, .inl fP))] := hD
              refine lv_iload_n hx hb dX5_order_147 rfl (lv_at hl 0 rfl) ?_
              refine lv_bipush (v := 119) hx hb dX5_order_148 (by decide) ?_
              refine lv_icmp_ne (tgt := 164) hx hb dX5_order_150 (by decide) (fun _ => ?_) (fun h_106 => absurd h_106 c_68)
              refine lv_iconst (v := 0) hx hb dX5_order_164 (by decide) ?_
              refine lv_istore_n (lv' := [(2, .int 0), (1, .int (if (nI ln) ≤ (nI po) then 0 else (fP po))), (0, .ref oM)]) hx hb dX5_order_165 rfl hl (by decide) rfl (fun ls hl => ?_)
              refine lv_aload_n hx hb dX5_order_166 rfl (lv_at hl 2 rfl) ?_
              refine lv_iload_n hx hb dX5_order_167 rfl (lv_at hl 1 rfl) ?_
              refine lv_bipush (v := 119) hx hb dX5_order_168 (by decide) ?_
              refine lv_icmp_eq (tgt := 179) hx hb dX5_order_170 (by decide) (fun h_107 => absurd h_107 c_68) (fun _ => ?_)
              refine lv_iload_n hx hb dX5_order_173 rfl (lv_at hl 1 rfl) ?_
              refine lv_bipush (v := 120) hx hb dX5_order_174 (by decide) ?_
              refine lv_icmp_ne (tgt := 186) hx hb dX5_order_176 (by decide) (fun _ => ?_) (fun h_108 => absurd h_108 (fun h => absurd (c_99.symm.trans h) (by decide)))
              refine lv_iload_n hx hb dX5_order_186 rfl (lv_at hl 1 rfl) ?_
              refine lv_bipush (v := 33) hx hb dX5_order_187 (by decide) ?_
              refine lv_icmp_ne (tgt := 206) hx hb dX5_order_189 (by decide) (fun h_109 => absurd c_99 h_109) (fun _ => ?_)
              refine lv_aload_n hx hb dX5_order_192 rfl (lv_at hl 2 rfl) ?_
              refine lv_bipush (v := 48) hx hb dX5_order_193 (by decide) ?_
              refine lv_bipush (v := 52) hx hb dX5_order_195 (by decide) ?_
              have hPc := hP.sub (ws' := [(oM, .inr (5, [.ref aS, .ref aA, .ref aB, .int (nI kn), .ref aT, .ref aV, .ref aP, .int (nI ln), .int (nI (n_X5_sign_0_8 fP ln (po + 1) 0 48 49)), .int (nI (n_X5_sign_0_9 fP ln (po + 1) 0 48 49)), .int (if (nI ln) ≤ (nI po) then 0 else (fP po)), .int ((r_X5_sign fP ln (po + 1)) - 48), .int tw])), (aP, .inl (K 0, 80, .inl fP))]) [0, 1] rfl
              have hDc : va_D (fun _ => True) [(oM, .inr (5, [.ref aS, .ref aA, .ref aB, .int (nI kn), .ref aT, .ref aV, .ref aP, .int (nI ln), .int (nI (n_X5_sign_0_8 fP ln (po + 1) 0 48 49)), .int (nI (n_X5_sign_0_9 fP ln (po + 1) 0 48 49)), .int (if (nI ln) ≤ (nI po) then 0 else (fP po)), .int ((r_X5_sign fP ln (po + 1)) - 48), .int tw])), (aP, .inl (K 0, 80, .inl fP))] := (hD.sub (ws' := [(oM, .inr (5, [.ref aS, .ref aA, .ref aB, .int (nI kn), .ref aT, .ref aV, .ref aP, .int (nI ln), .int (nI (n_X5_sign_0_8 fP ln (po + 1) 0 48 49)), .int (nI (n_X5_sign_0_9 fP ln (po + 1) 0 48 49)), .int (if (nI ln) ≤ (nI po) then 0 else (fP po)), .int ((r_X5_sign fP ln (po + 1)) - 48), .int tw])), (aP, .inl (K 0, 80, .inl fP))]) [0, 1] (by decide +kernel) rfl).weaken (fun _ _ _ _ => trivial)
              refine kw_i (W1 := [(oM, .inr (5, [.ref aS, .ref aA, .ref aB, .int (nI kn), .ref aT, .ref aV, .ref aP, .int (nI ln), .int (nI (n_X5_sign_0_8 fP ln (n_X5_sign_0_8 fP ln (po + 1) 0 48 49) (n_X5_sign_0_9 fP ln (po + 1) 0 48 49) 48 52)), .int (nI (n_X5_sign_0_9 fP ln (n_X5_sign_0_8 fP ln (po + 1) 0 48 49) (n_X5_sign_0_9 fP ln (po + 1) 0 48 49) 48 52)), .int (if (nI ln) ≤ (nI po) then 0 else (fP po)), .int ((r_X5_sign fP ln (po + 1)) - 48), .int tw])), (aP, .inl (K 0, 80, .inl fP))]) (w1 := [(oM, .inr (5, [.ref aS, .ref aA, .ref aB, .int (nI kn), .ref aT, .ref aV, .ref aP, .int (nI ln), .int (nI (n_X5_sign_0_8 fP ln (n_X5_sign_0_8 fP ln (po + 1) 0 48 49) (n_X5_sign_0_9 fP ln (po + 1) 0 48 49) 48 52)), .int (nI (n_X5_sign_0_9 fP ln (n_X5_sign_0_8 fP ln (po + 1) 0 48 49) (n_X5_sign_0_9 fP ln (po + 1) 0 48 49) 48 52)), .int (if (nI ln) ≤ (nI po) then 0 else (fP po)), .int ((r_X5_sign fP ln (po + 1)) - 48), .int tw])), (aP, .inl (K 0, 80, .inl fP))]) (va_runV (As := [.int 48, .int 52]) (rest := [.ref oM]) ⟨hx, hb, hml, hown, hts⟩ (c_X5_sign l D K oM aS aA aB aT aV aP fP kn ln (n_X5_sign_0_8 fP ln (po + 1) 0 48 49) (n_X5_sign_0_9 fP ln (po + 1) 0 48 49) (if (nI ln) ≤ (nI po) then 0 else (fP po)) ((r_X5_sign fP ln (po + 1)) - 48) tw 48 52 hln (by omega)) (cwV 2 hts gX5_order_X5_sign rfl rfl rfl (by decide +kernel) ⟨Nat.le_of_ble_eq_true rfl, Nat.le_of_ble_eq_true rfl⟩) (pre_wr hbd hPc hDc (ci := 5) (q0 := 0) rfl rfl) rfl rfl hl.1 rfl (lv_room (Nat.le_of_ble_eq_true rfl)) dX5_order_197 ⟨Nat.zero_le _, Nat.zero_le _⟩) hP hD hS [0, 1] [] 2 rfl rfl rfl (Eq.trans (b := List.map some ([])) rfl rfl) (by decide +kernel) (by decide +kernel) (by simp only [List.map_append, drW_fst, List.map_cons, List.map_nil]) (fun r_110 H locs hr_110 hP hD hS => ?_)
              subst hr_110
              have hb_111 := sn_le (fP := fP) (ln := ln) (po := (n_X5_sign_0_8 fP ln (po + 1) 0 48 49)) (wz := (n_X5_sign_0_9 fP ln (po + 1) 0 48 49)) (xl := 48) (xh := 52) (by decide) hln (by omega)
              refine lv_bipush (v := 48) hx hb dX5_order_200 (by decide) ?_
              refine lv_isub hx hb dX5_order_202 ?_
              refine lv_goto (tgt := 207) hx hb dX5_order_203 (by decide) ?_
              refine va_put (D := D) (ci := 5) (v := .int ((r_X5_sign fP ln (n_X5_sign_0_8 fP ln (po + 1) 0 48 49)) - 48)) (ty := .int) (C := RX5) (T := TX5) (N := 13) hx hb hts hin5 tyX5 tyX5_ok nmX5 hown hK hP hD hS 0 rfl rfl 12 (by decide) (hts _ (List.mem_of_getElem? (i := 7) rfl)) (fun _ h9 => h9) rfl (by decide +kernel) rfl rfl (Nat.le_of_ble_eq_true rfl) dX5_order_207 (fun H locs hP hD hS => ?_)
              have hP : va_P D vwCl [(oM, .inr (5, [.ref aS, .ref aA, .ref aB, .int (nI kn), .ref aT, .ref aV, .ref aP, .int (nI ln), .int (nI (n_X5_sign_0_8 fP ln (n_X5_sign_0_8 fP ln (po + 1) 0 48 49) (n_X5_sign_0_9 fP ln (po + 1) 0 48 49) 48 52)), .int (nI (n_X5_sign_0_9 fP ln (n_X5_sign_0_8 fP ln (po + 1) 0 48 49) (n_X5_sign_0_9 fP ln (po + 1) 0 48 49) 48 52)), .int (if (nI ln) ≤ (nI po) then 0 else (fP po)), .int ((r_X5_sign fP ln (po + 1)) - 48), .int ((r_X5_sign fP ln (n_X5_sign_0_8 fP ln (po + 1) 0 48 49)) - 48)])), (aP, .inl (K 0, 80, .inl fP))] H := hP
              have hD : va_D A [(oM, .inr (5, [.ref aS, .ref aA, .ref aB, .int (nI kn), .ref aT, .ref aV, .ref aP, .int (nI ln), .int (nI (n_X5_sign_0_8 fP ln (n_X5_sign_0_8 fP ln (po + 1) 0 48 49) (n_X5_sign_0_9 fP ln (po + 1) 0 48 49) 48 52)), .int (nI (n_X5_sign_0_9 fP ln (n_X5_sign_0_8 fP ln (po + 1) 0 48 49) (n_X5_sign_0_9 fP ln (po + 1) 0 48 49) 48 52)), .int (if (nI ln) ≤ (nI po) then 0 else (fP po)), .int ((r_X5_sign fP ln (po + 1)) - 48), .int ((r_X5_sign fP ln (n_X5_sign_0_8 fP ln (po + 1) 0 48 49)) - 48)])), (aP, .inl (K 0, 80, .inl fP))] := hD
              have e_112 : n_X5_order_0_8 fP ln po wz = (n_X5_sign_0_8 fP ln (n_X5_sign_0_8 fP ln (po + 1) 0 48 49) (n_X5_sign_0_9 fP ln (po + 1) 0 48 49) 48 52) := by unfold n_X5_order_0_8; rw [if_pos c_4, if_neg c_68, if_neg c_84, if_pos c_99]
              have e_113 : n_X5_order_0_9 fP ln po wz = (n_X5_sign_0_9 fP ln (n_X5_sign_0_8 fP ln (po + 1) 0 48 49) (n_X5_sign_0_9 fP ln (po + 1) 0 48 49) 48 52) := by unfold n_X5_order_0_9; rw [if_pos c_4, if_neg c_68, if_neg c_84, if_pos c_99]
              have e_114 : n_X5_order_0_10 fP ln po = (if (nI ln) ≤ (nI po) then 0 else (fP po)) := rfl
              have e_115 : n_X5_order_0_11 fP ln po wz = ((r_X5_sign fP ln (po + 1)) - 48) := by unfold n_X5_order_0_11; rw [if_pos c_4, if_neg c_68, if_neg c_84, if_pos c_99]
              have e_116 : n_X5_order_0_12 fP ln po wz = ((r_X5_sign fP ln (n_X5_sign_0_8 fP ln (po + 1) 0 48 49)) - 48) := by unfold n_X5_order_0_12; rw [if_pos c_4, if_neg c_68, if_neg c_84, if_pos c_99]
              have hPf : va_P D vwCl [(oM, .inr (5, [.ref aS, .ref aA, .ref aB, .int (nI kn), .ref aT, .ref aV, .ref aP, .int (nI ln), .int (nI (n_X5_order_0_8 fP ln po wz)), .int (nI (n_X5_order_0_9 fP ln po wz)), .int (n_X5_order_0_10 fP ln po), .int (n_X5_order_0_11 fP ln po wz), .int (n_X5_order_0_12 fP ln po wz)])), (aP, .inl (K 0, 80, .inl fP))] H := (by rw [e_112, e_113, e_114, e_115, e_116]; exact hP)
              exact W.vret hx hb hr (fun t ht hW => ⟨⟨(), rfl, trivial, by show va_P D vwCl _ t.heap; rw [ht]; exact hPf⟩, hS.F ht⟩) hS.2.2 dX5_order_210
            · skip
              refine lv_iload_n hx hb dX5_order_51 rfl (lv_at hl 0 rfl) ?_
              refine lv_bipush (v := 120) hx hb dX5_order_52 (by decide) ?_
              refine lv_icmp_eq (tgt := 67) hx hb dX5_order_54 (by decide) (fun c_117 => ?_) (fun c_117 => ?_)
              · skip
                refine lv_iconst (v := 0) hx hb dX5_order_67 (by decide) ?_
                refine va_put (D := D) (ci := 5) (v := .int 0) (ty := .boolean) (C := RX5) (T := TX5) (N := 13) hx hb hts hin5 tyX5 tyX5_ok nmX5 hown hK hP hD hS 0 rfl rfl 9 (by decide) (hts _ (List.mem_of_getElem? (i := 4) rfl)) (fun _ h9 => h9) rfl (by decide +kernel) rfl rfl (Nat.le_of_ble_eq_true rfl) dX5_order_68 (fun H locs hP hD hS => ?_)
                have hP : va_P D vwCl [(oM, .inr (5, [.ref aS, .ref aA, .ref aB, .int (nI kn), .ref aT, .ref aV, .ref aP, .int (nI ln), .int (nI po), .int 0, .int le, .int on, .int tw])), (aP, .inl (K 0, 80, .inl fP))] H := hP
                have hD : va_D A [(oM, .inr (5, [.ref aS, .ref aA, .ref aB, .int (nI kn), .ref aT, .ref aV, .ref aP, .int (nI ln), .int (nI po), .int 0, .int le, .int on, .int tw])), (aP, .inl (K 0, 80, .inl fP))] := hD
                refine lv_aload_n hx hb dX5_order_71 rfl (lv_at hl 1 rfl) ?_
                refine lv_dup hx hb dX5_order_72 rfl ?_
                refine va_get (D := D) (ci := 5) (v := .int (nI po)) (C := RX5) (T := TX5) (N := 13) hx hb hts hin5 hown hK hP 0 rfl rfl 8 (by decide) (hts _ (List.mem_of_getElem? (i := 1) rfl)) (fun _ h9 => h9) rfl dX5_order_73 ?_
                refine lv_aload_n hx hb dX5_order_76 rfl (lv_at hl 1 rfl) ?_
                refine va_get (D := D) (ci := 5) (v := .int 0) (C := RX5) (T := TX5) (N := 13) hx hb hts hin5 hown hK hP 0 rfl rfl 9 (by decide) (hts _ (List.mem_of_getElem? (i := 4) rfl)) (fun _ h9 => h9) rfl dX5_order_77 ?_
                refine lv_if_eq (tgt := 87) hx hb dX5_order_80 (by decide) (fun _ => ?_) (fun h_118 => absurd (by decide) h_118)
                refine lv_iconst (v := 1) hx hb dX5_order_87 (by decide) ?_
                refine lv_iadd hx hb dX5_order_88 ?_
                refine st1 (nI_add po 1) ?_
                refine va_put (D := D) (ci := 5) (v := .int (nI (po + 1))) (ty := .int) (C := RX5) (T := TX5) (N := 13) hx hb hts hin5 tyX5 tyX5_ok nmX5 hown hK hP hD hS 0 rfl rfl 8 (by decide) (hts _ (List.mem_of_getElem? (i := 1) rfl)) (fun _ h9 => h9) rfl (by decide +kernel) rfl rfl (Nat.le_of_ble_eq_true rfl) dX5_order_89 (fun H locs hP hD hS => ?_)
                have hP : va_P D vwCl [(oM, .inr (5, [.ref aS, .ref aA, .ref aB, .int (nI kn), .ref aT, .ref aV, .ref aP, .int (nI ln), .int (nI (po + 1)), .int 0, .int le, .int on, .int tw])), (aP, .inl (K 0, 80, .inl fP))] H := hP
                have hD : va_D A [(oM, .inr (5, [.ref aS, .ref aA, .ref aB, .int (nI kn), .ref aT, .ref aV, .ref aP, .int (nI ln), .int (nI (po + 1)), .int 0, .int le, .int on, .int tw])), (aP, .inl (K 0, 80, .inl fP))] := hD
                have hp1 : po + 1 ≤ ln := ch_lt (by decide) hln hpo c_117
                refine lv_aload_n hx hb dX5_order_92 rfl (lv_at hl 1 rfl) ?_
                refine lv_iload_n hx hb dX5_order_93 rfl (lv_at hl 0 rfl) ?_
                refine va_put (D := D) (ci := 5) (v := .int (if (nI ln) ≤ (nI po) then 0 else (fP po))) (ty := .int) (C := RX5) (T := TX5) (N := 13) hx hb hts hin5 tyX5 tyX5_ok nmX5 hown hK hP hD hS 0 rfl rfl 10 (by decide) (hts _ (List.mem_of_getElem? (i := 5) rfl)) (fun _ h9 => h9) rfl (by decide +kernel) rfl rfl (Nat.le_of_ble_eq_true rfl) dX5_order_94 (fun H locs hP hD hS => ?_)
                have hP : va_P D vwCl [(oM, .inr (5, [.ref aS, .ref aA, .ref aB, .int (nI kn), .ref aT, .ref aV, .ref aP, .int (nI ln), .int (nI (po + 1)), .int 0, .int (if (nI ln) ≤ (nI po) then 0 else (fP po)), .int on, .int tw])), (aP, .inl (K 0, 80, .inl fP))] H := hP
                have hD : va_D A [(oM, .inr (5, [.ref aS, .ref aA, .ref aB, .int (nI kn), .ref aT, .ref aV, .ref aP, .int (nI ln), .int (nI (po + 1)), .int 0, .int (if (nI ln) ≤ (nI po) then 0 else (fP po)), .int on, .int tw])), (aP, .inl (K 0, 80, .inl fP))] := hD
                refine lv_aload_n hx hb dX5_order_97 rfl (lv_at hl 1 rfl) ?_
                refine lv_iload_n hx hb dX5_order_98 rfl (lv_at hl 0 rfl) ?_
                refine lv_bipush (v := 119) hx hb dX5_order_99 (by decide) ?_
                refine lv_icmp_eq (tgt := 110) hx hb dX5_order_101 (by decide) (fun h_119 => absurd h_119 c_68) (fun _ => ?_)
                refine lv_iload_n hx hb dX5_order_104 rfl (lv_at hl 0 rfl) ?_
                refine lv_bipush (v := 114) hx hb dX5_order_105 (by decide) ?_
                refine lv_icmp_ne (tgt := 117) hx hb dX5_order_107 (by decide) (fun _ => ?_) (fun h_120 => absurd h_120 c_84)
                refine lv_iload_n hx hb dX5_order_117 rfl (lv_at hl 0 rfl) ?_
                refine lv_bipush (v := 33) hx hb dX5_order_118 (by decide) ?_
                refine lv_icmp_eq (tgt := 129) hx hb dX5_order_120 (by decide) (fun h_121 => absurd h_121 c_99) (fun _ => ?_)
                refine lv_iload_n hx hb dX5_order_123 rfl (lv_at hl 0 rfl) ?_
                refine lv_bipush (v := 120) hx hb dX5_order_124 (by decide) ?_
                refine lv_icmp_ne (tgt := 143) hx hb dX5_order_126 (by decide) (fun h_122 => absurd c_117 h_122) (fun _ => ?_)
                refine lv_aload_n hx hb dX5_order_129 rfl (lv_at hl 1 rfl) ?_
                refine lv_bipush (v := 48) hx hb dX5_order_130 (by decide) ?_
                refine lv_bipush (v := 49) hx hb dX5_order_132 (by decide) ?_
                have hPc := hP.sub (ws' := [(oM, .inr (5, [.ref aS, .ref aA, .ref aB, .int (nI kn), .ref aT, .ref aV, .ref aP, .int (nI ln), .int (nI (po + 1)), .int 0, .int (if (nI ln) ≤ (nI po) then 0 else (fP po)), .int on, .int tw])), (aP, .inl (K 0, 80, .inl fP))]) [0, 1] rfl
                have hDc : va_D (fun _ => True) [(oM, .inr (5, [.ref aS, .ref aA, .ref aB, .int (nI kn), .ref aT, .ref aV, .ref aP, .int (nI ln), .int (nI (po + 1)), .int 0, .int (if (nI ln) ≤ (nI po) then 0 else (fP po)), .int on, .int tw])), (aP, .inl (K 0, 80, .inl fP))] := (hD.sub (ws' := [(oM, .inr (5, [.ref aS, .ref aA, .ref aB, .int (nI kn), .ref aT, .ref aV, .ref aP, .int (nI ln), .int (nI (po + 1)), .int 0, .int (if (nI ln) ≤ (nI po) then 0 else (fP po)), .int on, .int tw])), (aP, .inl (K 0, 80, .inl fP))]) [0, 1] (by decide +kernel) rfl).weaken (fun _ _ _ _ => trivial)
                refine kw_i (W1 := [(oM, .inr (5, [.ref aS, .ref aA, .ref aB, .int (nI kn), .ref aT, .ref aV, .ref aP, .int (nI ln), .int (nI (n_X5_sign_0_8 fP ln (po + 1) 0 48 49)), .int (nI (n_X5_sign_0_9 fP ln (po + 1) 0 48 49)), .int (if (nI ln) ≤ (nI po) then 0 else (fP po)), .int on, .int tw])), (aP, .inl (K 0, 80, .inl fP))]) (w1 := [(oM, .inr (5, [.ref aS, .ref aA, .ref aB, .int (nI kn), .ref aT, .ref aV, .ref aP, .int (nI ln), .int (nI (n_X5_sign_0_8 fP ln (po + 1) 0 48 49)), .int (nI (n_X5_sign_0_9 fP ln (po + 1) 0 48 49)), .int (if (nI ln) ≤ (nI po) then 0 else (fP po)), .int on, .int tw])), (aP, .inl (K 0, 80, .inl fP))]) (va_runV (As := [.int 48, .int 49]) (rest := [.ref oM]) ⟨hx, hb, hml, hown, hts⟩ (c_X5_sign l D K oM aS aA aB aT aV aP fP kn ln (po + 1) 0 (if (nI ln) ≤ (nI po) then 0 else (fP po)) on tw 48 49 hln (by omega)) (cwV 2 hts gX5_order_X5_sign rfl rfl rfl (by decide +kernel) ⟨Nat.le_of_ble_eq_true rfl, Nat.le_of_ble_eq_true rfl⟩) (pre_wr hbd hPc hDc (ci := 5) (q0 := 0) rfl rfl) rfl rfl hl.1 rfl (lv_room (Nat.le_of_ble_eq_true rfl)) dX5_order_134 ⟨Nat.zero_le _, Nat.zero_le _⟩) hP hD hS [0, 1] [] 2 rfl rfl rfl (Eq.trans (b := List.map some ([])) rfl rfl) (by decide +kernel) (by decide +kernel) (by simp only [List.map_append, drW_fst, List.map_cons, List.map_nil]) (fun r_123 H locs hr_123 hP hD hS => ?_)
                subst hr_123
                have hb_124 := sn_le (fP := fP) (ln := ln) (po := (po + 1)) (wz := 0) (xl := 48) (xh := 49) (by decide) hln (by omega)
                refine lv_bipush (v := 48) hx hb dX5_order_137 (by decide) ?_
                refine lv_isub hx hb dX5_order_139 ?_
                refine lv_goto (tgt := 144) hx hb dX5_order_140 (by decide) ?_
                refine va_put (D := D) (ci := 5) (v := .int ((r_X5_sign fP ln (po + 1)) - 48)) (ty := .int) (C := RX5) (T := TX5) (N := 13) hx hb hts hin5 tyX5 tyX5_ok nmX5 hown hK hP hD hS 0 rfl rfl 11 (by decide) (hts _ (List.mem_of_getElem? (i := 6) rfl)) (fun _ h9 => h9) rfl (by decide +kernel) rfl rfl (Nat.le_of_ble_eq_true rfl) dX5_order_144 (fun H locs hP hD hS => ?_)
                have hP : va_P D vwCl [(oM, .inr (5, [.ref aS, .ref aA, .ref aB, .int (nI kn), .ref aT, .ref aV, .ref aP, .int (nI ln), .int (nI (n_X5_sign_0_8 fP ln (po + 1) 0 48 49)), .int (nI (n_X5_sign_0_9 fP ln (po + 1) 0 48 49)), .int (if (nI ln) ≤ (nI po) then 0 else (fP po)), .int ((r_X5_sign fP ln (po + 1)) - 48), .int tw])), (aP, .inl (K 0, 80, .inl fP))] H := hP
                have hD : va_D A [(oM, .inr (5, [.ref aS, .ref aA, .ref aB, .int (nI kn), .ref aT, .ref aV, .ref aP, .int (nI ln), .int (nI (n_X5_sign_0_8 fP ln (po + 1) 0 48 49)), .int (nI (n_X5_sign_0_9 fP ln (po + 1) 0 48 49)), .int (if (nI ln) ≤ (nI po) then 0 else (fP po)), .int ((r_X5_sign fP ln (po + 1)) - 48), .int tw])), (aP, .inl (K 0, 80, .inl fP))] := hD
                refine lv_iload_n hx hb dX5_order_147 rfl (lv_at hl 0 rfl) ?_
                refine lv_bipush (v := 119) hx hb dX5_order_148 (by decide) ?_
                refine lv_icmp_ne (tgt := 164) hx hb dX5_order_150 (by decide) (fun _ => ?_) (fun h_125 => absurd h_125 c_68)
                refine lv_iconst (v := 0) hx hb dX5_order_164 (by decide) ?_
                refine lv_istore_n (lv' := [(2, .int 0), (1, .int (if (nI ln) ≤ (nI po) then 0 else (fP po))), (0, .ref oM)]) hx hb dX5_order_165 rfl hl (by decide) rfl (fun ls hl => ?_)
                refine lv_aload_n hx hb dX5_order_166 rfl (lv_at hl 2 rfl) ?_
                refine lv_iload_n hx hb dX5_order_167 rfl (lv_at hl 1 rfl) ?_
                refine lv_bipush (v := 119) hx hb dX5_order_168 (by decide) ?_
                refine lv_icmp_eq (tgt := 179) hx hb dX5_order_170 (by decide) (fun h_126 => absurd h_126 c_68) (fun _ => ?_)
                refine lv_iload_n hx hb dX5_order_173 rfl (lv_at hl 1 rfl) ?_
                refine lv_bipush (v := 120) hx hb dX5_order_174 (by decide) ?_
                refine lv_icmp_ne (tgt := 186) hx hb dX5_order_176 (by decide) (fun h_127 => absurd c_117 h_127) (fun _ => ?_)
                refine lv_aload_n hx hb dX5_order_179 rfl (lv_at hl 2 rfl) ?_
                have hPc := hP.sub (ws' := [(oM, .inr (5, [.ref aS, .ref aA, .ref aB, .int (nI kn), .ref aT, .ref aV, .ref aP, .int (nI ln), .int (nI (n_X5_sign_0_8 fP ln (po + 1) 0 48 49)), .int (nI (n_X5_sign_0_9 fP ln (po + 1) 0 48 49)), .int (if (nI ln) ≤ (nI po) then 0 else (fP po)), .int ((r_X5_sign fP ln (po + 1)) - 48), .int tw])), (aP, .inl (K 0, 80, .inl fP))]) [0, 1] rfl
                have hDc : va_D (fun _ => True) [(oM, .inr (5, [.ref aS, .ref aA, .ref aB, .int (nI kn), .ref aT, .ref aV, .ref aP, .int (nI ln), .int (nI (n_X5_sign_0_8 fP ln (po + 1) 0 48 49)), .int (nI (n_X5_sign_0_9 fP ln (po + 1) 0 48 49)), .int (if (nI ln) ≤ (nI po) then 0 else (fP po)), .int ((r_X5_sign fP ln (po + 1)) - 48), .int tw])), (aP, .inl (K 0, 80, .inl fP))] := (hD.sub (ws' := [(oM, .inr (5, [.ref aS, .ref aA, .ref aB, .int (nI kn), .ref aT, .ref aV, .ref aP, .int (nI ln), .int (nI (n_X5_sign_0_8 fP ln (po + 1) 0 48 49)), .int (nI (n_X5_sign_0_9 fP ln (po + 1) 0 48 49)), .int (if (nI ln) ≤ (nI po) then 0 else (fP po)), .int ((r_X5_sign fP ln (po + 1)) - 48), .int tw])), (aP, .inl (K 0, 80, .inl fP))]) [0, 1] (by decide +kernel) rfl).weaken (fun _ _ _ _ => trivial)
                refine kw_i (W1 := [(oM, .inr (5, [.ref aS, .ref aA, .ref aB, .int (nI kn), .ref aT, .ref aV, .ref aP, .int (nI ln), .int (nI (n_X5_number_0_8 fP ln (n_X5_sign_0_8 fP ln (po + 1) 0 48 49) (n_X5_sign_0_9 fP ln (po + 1) 0 48 49))), .int (nI (n_X5_number_0_9 fP ln (n_X5_sign_0_8 fP ln (po + 1) 0 48 49) (n_X5_sign_0_9 fP ln (po + 1) 0 48 49))), .int (if (nI ln) ≤ (nI po) then 0 else (fP po)), .int ((r_X5_sign fP ln (po + 1)) - 48), .int tw])), (aP, .inl (K 0, 80, .inl fP))]) (w1 := [(oM, .inr (5, [.ref aS, .ref aA, .ref aB, .int (nI kn), .ref aT, .ref aV, .ref aP, .int (nI ln), .int (nI (n_X5_number_0_8 fP ln (n_X5_sign_0_8 fP ln (po + 1) 0 48 49) (n_X5_sign_0_9 fP ln (po + 1) 0 48 49))), .int (nI (n_X5_number_0_9 fP ln (n_X5_sign_0_8 fP ln (po + 1) 0 48 49) (n_X5_sign_0_9 fP ln (po + 1) 0 48 49))), .int (if (nI ln) ≤ (nI po) then 0 else (fP po)), .int ((r_X5_sign fP ln (po + 1)) - 48), .int tw])), (aP, .inl (K 0, 80, .inl fP))]) (va_runV (As := []) (rest := [.ref oM]) ⟨hx, hb, hml, hown, hts⟩ (c_X5_number l D K oM aS aA aB aT aV aP fP kn ln (n_X5_sign_0_8 fP ln (po + 1) 0 48 49) (n_X5_sign_0_9 fP ln (po + 1) 0 48 49) (if (nI ln) ≤ (nI po) then 0 else (fP po)) ((r_X5_sign fP ln (po + 1)) - 48) tw hln (by omega)) (cwV 0 hts gX5_order_X5_number rfl rfl rfl (by decide +kernel) ⟨Nat.le_of_ble_eq_true rfl, Nat.le_of_ble_eq_true rfl⟩) (pre_wr hbd hPc hDc (ci := 5) (q0 := 0) rfl rfl) rfl rfl hl.1 rfl (lv_room (Nat.le_of_ble_eq_true rfl)) dX5_order_180 ⟨Nat.zero_le _, Nat.zero_le _⟩) hP hD hS [0, 1] [] 2 rfl rfl rfl (Eq.trans (b := List.map some ([])) rfl rfl) (by decide +kernel) (by decide +kernel) (by simp only [List.map_append, drW_fst, List.map_cons, List.map_nil]) (fun r_128 H locs hr_128 hP hD hS => ?_)
                subst hr_128
                have hb_129 := nm_le (fP := fP) (ln := ln) (po := (n_X5_sign_0_8 fP ln (po + 1) 0 48 49)) (wz := (n_X5_sign_0_9 fP ln (po + 1) 0 48 49)) hln (by omega)
                refine lv_goto (tgt := 207) hx hb dX5_order_183 (by decide) ?_
                refine va_put (D := D) (ci := 5) (v := .int (r_X5_number fP ln (n_X5_sign_0_8 fP ln (po + 1) 0 48 49) (n_X5_sign_0_9 fP ln (po + 1) 0 48 49))) (ty := .int) (C := RX5) (T := TX5) (N := 13) hx hb hts hin5 tyX5 tyX5_ok nmX5 hown hK hP hD hS 0 rfl rfl 12 (by decide) (hts _ (List.mem_of_getElem? (i := 7) rfl)) (fun _ h9 => h9) rfl (by decide +kernel) rfl rfl (Nat.le_of_ble_eq_true rfl) dX5_order_207 (fun H locs hP hD hS => ?_)
                have hP : va_P D vwCl [(oM, .inr (5, [.ref aS, .ref aA, .ref aB, .int (nI kn), .ref aT, .ref aV, .ref aP, .int (nI ln), .int (nI (n_X5_number_0_8 fP ln (n_X5_sign_0_8 fP ln (po + 1) 0 48 49) (n_X5_sign_0_9 fP ln (po + 1) 0 48 49))), .int (nI (n_X5_number_0_9 fP ln (n_X5_sign_0_8 fP ln (po + 1) 0 48 49) (n_X5_sign_0_9 fP ln (po + 1) 0 48 49))), .int (if (nI ln) ≤ (nI po) then 0 else (fP po)), .int ((r_X5_sign fP ln (po + 1)) - 48), .int (r_X5_number fP ln (n_X5_sign_0_8 fP ln (po + 1) 0 48 49) (n_X5_sign_0_9 fP ln (po + 1) 0 48 49))])), (aP, .inl (K 0, 80, .inl fP))] H := hP
                have hD : va_D A [(oM, .inr (5, [.ref aS, .ref aA, .ref aB, .int (nI kn), .ref aT, .ref aV, .ref aP, .int (nI ln), .int (nI (n_X5_number_0_8 fP ln (n_X5_sign_0_8 fP ln (po + 1) 0 48 49) (n_X5_sign_0_9 fP ln (po + 1) 0 48 49))), .int (nI (n_X5_number_0_9 fP ln (n_X5_sign_0_8 fP ln (po + 1) 0 48 49) (n_X5_sign_0_9 fP ln (po + 1) 0 48 49))), .int (if (nI ln) ≤ (nI po) then 0 else (fP po)), .int ((r_X5_sign fP ln (po + 1)) - 48), .int (r_X5_number fP ln (n_X5_sign_0_8 fP ln (po + 1) 0 48 49) (n_X5_sign_0_9 fP ln (po + 1) 0 48 49))])), (aP, .inl (K 0, 80, .inl fP))] := hD
                have e_130 : n_X5_order_0_8 fP ln po wz = (n_X5_number_0_8 fP ln (n_X5_sign_0_8 fP ln (po + 1) 0 48 49) (n_X5_sign_0_9 fP ln (po + 1) 0 48 49)) := by unfold n_X5_order_0_8; rw [if_pos c_4, if_neg c_68, if_neg c_84, if_neg c_99, if_pos c_117]
                have e_131 : n_X5_order_0_9 fP ln po wz = (n_X5_number_0_9 fP ln (n_X5_sign_0_8 fP ln (po + 1) 0 48 49) (n_X5_sign_0_9 fP ln (po + 1) 0 48 49)) := by unfold n_X5_order_0_9; rw [if_pos c_4, if_neg c_68, if_neg c_84, if_neg c_99, if_pos c_117]
                have e_132 : n_X5_order_0_10 fP ln po = (if (nI ln) ≤ (nI po) then 0 else (fP po)) := rfl
                have e_133 : n_X5_order_0_11 fP ln po wz = ((r_X5_sign fP ln (po + 1)) - 48) := by unfold n_X5_order_0_11; rw [if_pos c_4, if_neg c_68, if_neg c_84, if_neg c_99, if_pos c_117]
                have e_134 : n_X5_order_0_12 fP ln po wz = (r_X5_number fP ln (n_X5_sign_0_8 fP ln (po + 1) 0 48 49) (n_X5_sign_0_9 fP ln (po + 1) 0 48 49)) := by unfold n_X5_order_0_12; rw [if_pos c_4, if_neg c_68, if_neg c_84, if_neg c_99, if_pos c_117]
                have hPf : va_P D vwCl [(oM, .inr (5, [.ref aS, .ref aA, .ref aB, .int (nI kn), .ref aT, .ref aV, .ref aP, .int (nI ln), .int (nI (n_X5_order_0_8 fP ln po wz)), .int (nI (n_X5_order_0_9 fP ln po wz)), .int (n_X5_order_0_10 fP ln po), .int (n_X5_order_0_11 fP ln po wz), .int (n_X5_order_0_12 fP ln po wz)])), (aP, .inl (K 0, 80, .inl fP))] H := (by rw [e_130, e_131, e_132, e_133, e_134]; exact hP)
                exact W.vret hx hb hr (fun t ht hW => ⟨⟨(), rfl, trivial, by show va_P D vwCl _ t.heap; rw [ht]; exact hPf⟩, hS.F ht⟩) hS.2.2 dX5_order_210
              · skip
                refine lv_iload_n hx hb dX5_order_57 rfl (lv_at hl 0 rfl) ?_
                refine lv_bipush (v := 115) hx hb dX5_order_58 (by decide) ?_
                refine lv_icmp_eq (tgt := 67) hx hb dX5_order_60 (by decide) (fun c_135 => ?_) (fun c_135 => ?_)
                · skip
                  refine lv_iconst (v := 0) hx hb dX5_order_67 (by decide) ?_
                  refine va_put (D := D) (ci := 5) (v := .int 0) (ty := .boolean) (C := RX5) (T := TX5) (N := 13) hx hb hts hin5 tyX5 tyX5_ok nmX5 hown hK hP hD hS 0 rfl rfl 9 (by decide) (hts _ (List.mem_of_getElem? (i := 4) rfl)) (fun _ h9 => h9) rfl (by decide +kernel) rfl rfl (Nat.le_of_ble_eq_true rfl) dX5_order_68 (fun H locs hP hD hS => ?_)
                  have hP : va_P D vwCl [(oM, .inr (5, [.ref aS, .ref aA, .ref aB, .int (nI kn), .ref aT, .ref aV, .ref aP, .int (nI ln), .int (nI po), .int 0, .int le, .int on, .int tw])), (aP, .inl (K 0, 80, .inl fP))] H := hP
                  have hD : va_D A [(oM, .inr (5, [.ref aS, .ref aA, .ref aB, .int (nI kn), .ref aT, .ref aV, .ref aP, .int (nI ln), .int (nI po), .int 0, .int le, .int on, .int tw])), (aP, .inl (K 0, 80, .inl fP))] := hD
                  refine lv_aload_n hx hb dX5_order_71 rfl (lv_at hl 1 rfl) ?_
                  refine lv_dup hx hb dX5_order_72 rfl ?_
                  refine va_get (D := D) (ci := 5) (v := .int (nI po)) (C := RX5) (T := TX5) (N := 13) hx hb hts hin5 hown hK hP 0 rfl rfl 8 (by decide) (hts _ (List.mem_of_getElem? (i := 1) rfl)) (fun _ h9 => h9) rfl dX5_order_73 ?_
                  refine lv_aload_n hx hb dX5_order_76 rfl (lv_at hl 1 rfl) ?_
                  refine va_get (D := D) (ci := 5) (v := .int 0) (C := RX5) (T := TX5) (N := 13) hx hb hts hin5 hown hK hP 0 rfl rfl 9 (by decide) (hts _ (List.mem_of_getElem? (i := 4) rfl)) (fun _ h9 => h9) rfl dX5_order_77 ?_
                  refine lv_if_eq (tgt := 87) hx hb dX5_order_80 (by decide) (fun _ => ?_) (fun h_136 => absurd (by decide) h_136)
                  refine lv_iconst (v := 1) hx hb dX5_order_87 (by decide) ?_
                  refine lv_iadd hx hb dX5_order_88 ?_
                  refine st1 (nI_add po 1) ?_
                  refine va_put (D := D) (ci := 5) (v := .int (nI (po + 1))) (ty := .int) (C := RX5) (T := TX5) (N := 13) hx hb hts hin5 tyX5 tyX5_ok nmX5 hown hK hP hD hS 0 rfl rfl 8 (by decide) (hts _ (List.mem_of_getElem? (i := 1) rfl)) (fun _ h9 => h9) rfl (by decide +kernel) rfl rfl (Nat.le_of_ble_eq_true rfl) dX5_order_89 (fun H locs hP hD hS => ?_)
                  have hP : va_P D vwCl [(oM, .inr (5, [.ref aS, .ref aA, .ref aB, .int (nI kn), .ref aT, .ref aV, .ref aP, .int (nI ln), .int (nI (po + 1)), .int 0, .int le, .int on, .int tw])), (aP, .inl (K 0, 80, .inl fP))] H := hP
                  have hD : va_D A [(oM, .inr (5, [.ref aS, .ref aA, .ref aB, .int (nI kn), .ref aT, .ref aV, .ref aP, .int (nI ln), .int (nI (po + 1)), .int 0, .int le, .int on, .int tw])), (aP, .inl (K 0, 80, .inl fP))] := hD
                  have hp1 : po + 1 ≤ ln := ch_lt (by decide) hln hpo c_135
                  refine lv_aload_n hx hb dX5_order_92 rfl (lv_at hl 1 rfl) ?_
                  refine lv_iload_n hx hb dX5_order_93 rfl (lv_at hl 0 rfl) ?_
                  refine va_put (D := D) (ci := 5) (v := .int (if (nI ln) ≤ (nI po) then 0 else (fP po))) (ty := .int) (C := RX5) (T := TX5) (N := 13) hx hb hts hin5 tyX5 tyX5_ok nmX5 hown hK hP hD hS 0 rfl rfl 10 (by decide) (hts _ (List.mem_of_getElem? (i := 5) rfl)) (fun _ h9 => h9) rfl (by decide +kernel) rfl rfl (Nat.le_of_ble_eq_true rfl) dX5_order_94 (fun H locs hP hD hS => ?_)
                  have hP : va_P D vwCl [(oM, .inr (5, [.ref aS, .ref aA, .ref aB, .int (nI kn), .ref aT, .ref aV, .ref aP, .int (nI ln), .int (nI (po + 1)), .int 0, .int (if (nI ln) ≤ (nI po) then 0 else (fP po)), .int on, .int tw])), (aP, .inl (K 0, 80, .inl fP))] H := hP
                  have hD : va_D A [(oM, .inr (5, [.ref aS, .ref aA, .ref aB, .int (nI kn), .ref aT, .ref aV, .ref aP, .int (nI ln), .int (nI (po + 1)), .int 0, .int (if (nI ln) ≤ (nI po) then 0 else (fP po)), .int on, .int tw])), (aP, .inl (K 0, 80, .inl fP))] := hD
                  refine lv_aload_n hx hb dX5_order_97 rfl (lv_at hl 1 rfl) ?_
                  refine lv_iload_n hx hb dX5_order_98 rfl (lv_at hl 0 rfl) ?_
                  refine lv_bipush (v := 119) hx hb dX5_order_99 (by decide) ?_
                  refine lv_icmp_eq (tgt := 110) hx hb dX5_order_101 (by decide) (fun h_137 => absurd h_137 c_68) (fun _ => ?_)
                  refine lv_iload_n hx hb dX5_order_104 rfl (lv_at hl 0 rfl) ?_
                  refine lv_bipush (v := 114) hx hb dX5_order_105 (by decide) ?_
                  refine lv_icmp_ne (tgt := 117) hx hb dX5_order_107 (by decide) (fun _ => ?_) (fun h_138 => absurd h_138 c_84)
                  refine lv_iload_n hx hb dX5_order_117 rfl (lv_at hl 0 rfl) ?_
                  refine lv_bipush (v := 33) hx hb dX5_order_118 (by decide) ?_
                  refine lv_icmp_eq (tgt := 129) hx hb dX5_order_120 (by decide) (fun h_139 => absurd h_139 c_99) (fun _ => ?_)
                  refine lv_iload_n hx hb dX5_order_123 rfl (lv_at hl 0 rfl) ?_
                  refine lv_bipush (v := 120) hx hb dX5_order_124 (by decide) ?_
                  refine lv_icmp_ne (tgt := 143) hx hb dX5_order_126 (by decide) (fun _ => ?_) (fun h_140 => absurd h_140 c_117)
                  refine lv_iconst (v := 0) hx hb dX5_order_143 (by decide) ?_
                  refine va_put (D := D) (ci := 5) (v := .int 0) (ty := .int) (C := RX5) (T := TX5) (N := 13) hx hb hts hin5 tyX5 tyX5_ok nmX5 hown hK hP hD hS 0 rfl rfl 11 (by decide) (hts _ (List.mem_of_getElem? (i := 6) rfl)) (fun _ h9 => h9) rfl (by decide +kernel) rfl rfl (Nat.le_of_ble_eq_true rfl) dX5_order_144 (fun H locs hP hD hS => ?_)
                  have hP : va_P D vwCl [(oM, .inr (5, [.ref aS, .ref aA, .ref aB, .int (nI kn), .ref aT, .ref aV, .ref aP, .int (nI ln), .int (nI (po + 1)), .int 0, .int (if (nI ln) ≤ (nI po) then 0 else (fP po)), .int 0, .int tw])), (aP, .inl (K 0, 80, .inl fP))] H := hP
                  have hD : va_D A [(oM, .inr (5, [.ref aS, .ref aA, .ref aB, .int (nI kn), .ref aT, .ref aV, .ref aP, .int (nI ln), .int (nI (po + 1)), .int 0, .int (if (nI ln) ≤ (nI po) then 0 else (fP po)), .int 0, .int tw])), (aP, .inl (K 0, 80, .inl fP))] := hD
                  refine lv_iload_n hx hb dX5_order_147 rfl (lv_at hl 0 rfl) ?_
                  refine lv_bipush (v := 119) hx hb dX5_order_148 (by decide) ?_
                  refine lv_icmp_ne (tgt := 164) hx hb dX5_order_150 (by decide) (fun _ => ?_) (fun h_141 => absurd h_141 c_68)
                  refine lv_iconst (v := 0) hx hb dX5_order_164 (by decide) ?_
                  refine lv_istore_n (lv' := [(2, .int 0), (1, .int (if (nI ln) ≤ (nI po) then 0 else (fP po))), (0, .ref oM)]) hx hb dX5_order_165 rfl hl (by decide) rfl (fun ls hl => ?_)
                  refine lv_aload_n hx hb dX5_order_166 rfl (lv_at hl 2 rfl) ?_
                  refine lv_iload_n hx hb dX5_order_167 rfl (lv_at hl 1 rfl) ?_
                  refine lv_bipush (v := 119) hx hb dX5_order_168 (by decide) ?_
                  refine lv_icmp_eq (tgt := 179) hx hb dX5_order_170 (by decide) (fun h_142 => absurd h_142 c_68) (fun _ => ?_)
                  refine lv_iload_n hx hb dX5_order_173 rfl (lv_at hl 1 rfl) ?_
                  refine lv_bipush (v := 120) hx hb dX5_order_174 (by decide) ?_
                  refine lv_icmp_ne (tgt := 186) hx hb dX5_order_176 (by decide) (fun _ => ?_) (fun h_143 => absurd h_143 c_117)
                  refine lv_iload_n hx hb dX5_order_186 rfl (lv_at hl 1 rfl) ?_
                  refine lv_bipush (v := 33) hx hb dX5_order_187 (by decide) ?_
                  refine lv_icmp_ne (tgt := 206) hx hb dX5_order_189 (by decide) (fun _ => ?_) (fun h_144 => absurd h_144 c_99)
                  refine lv_iconst (v := 0) hx hb dX5_order_206 (by decide) ?_
                  refine va_put (D := D) (ci := 5) (v := .int 0) (ty := .int) (C := RX5) (T := TX5) (N := 13) hx hb hts hin5 tyX5 tyX5_ok nmX5 hown hK hP hD hS 0 rfl rfl 12 (by decide) (hts _ (List.mem_of_getElem? (i := 7) rfl)) (fun _ h9 => h9) rfl (by decide +kernel) rfl rfl (Nat.le_of_ble_eq_true rfl) dX5_order_207 (fun H locs hP hD hS => ?_)
                  have hP : va_P D vwCl [(oM, .inr (5, [.ref aS, .ref aA, .ref aB, .int (nI kn), .ref aT, .ref aV, .ref aP, .int (nI ln), .int (nI (po + 1)), .int 0, .int (if (nI ln) ≤ (nI po) then 0 else (fP po)), .int 0, .int 0])), (aP, .inl (K 0, 80, .inl fP))] H := hP
                  have hD : va_D A [(oM, .inr (5, [.ref aS, .ref aA, .ref aB, .int (nI kn), .ref aT, .ref aV, .ref aP, .int (nI ln), .int (nI (po + 1)), .int 0, .int (if (nI ln) ≤ (nI po) then 0 else (fP po)), .int 0, .int 0])), (aP, .inl (K 0, 80, .inl fP))] := hD
                  have e_145 : n_X5_order_0_8 fP ln po wz = po + 1 := by unfold n_X5_order_0_8; rw [if_pos c_4, if_neg c_68, if_neg c_84, if_neg c_99, if_neg c_117, if_pos c_135]
                  have e_146 : n_X5_order_0_9 fP ln po wz = 0 := by unfold n_X5_order_0_9; rw [if_pos c_4, if_neg c_68, if_neg c_84, if_neg c_99, if_neg c_117, if_pos c_135]
                  have e_147 : n_X5_order_0_10 fP ln po = (if (nI ln) ≤ (nI po) then 0 else (fP po)) := rfl
                  have e_148 : n_X5_order_0_11 fP ln po wz = 0 := by unfold n_X5_order_0_11; rw [if_pos c_4, if_neg c_68, if_neg c_84, if_neg c_99, if_neg c_117]
                  have e_149 : n_X5_order_0_12 fP ln po wz = 0 := by unfold n_X5_order_0_12; rw [if_pos c_4, if_neg c_68, if_neg c_84, if_neg c_99, if_neg c_117]
                  have hPf : va_P D vwCl [(oM, .inr (5, [.ref aS, .ref aA, .ref aB, .int (nI kn), .ref aT, .ref aV, .ref aP, .int (nI ln), .int (nI (n_X5_order_0_8 fP ln po wz)), .int (nI (n_X5_order_0_9 fP ln po wz)), .int (n_X5_order_0_10 fP ln po), .int (n_X5_order_0_11 fP ln po wz), .int (n_X5_order_0_12 fP ln po wz)])), (aP, .inl (K 0, 80, .inl fP))] H := (by rw [e_145, e_146, e_147, e_148, e_149]; exact hP)
                  exact W.vret hx hb hr (fun t ht hW => ⟨⟨(), rfl, trivial, by show va_P D vwCl _ t.heap; rw [ht]; exact hPf⟩, hS.F ht⟩) hS.2.2 dX5_order_210
                · skip
                  refine lv_iconst (v := 1) hx hb dX5_order_63 (by decide) ?_
                  refine lv_goto (tgt := 68) hx hb dX5_order_64 (by decide) ?_
                  refine va_put (D := D) (ci := 5) (v := .int 1) (ty := .boolean) (C := RX5) (T := TX5) (N := 13) hx hb hts hin5 tyX5 tyX5_ok nmX5 hown hK hP hD hS 0 rfl rfl 9 (by decide) (hts _ (List.mem_of_getElem? (i := 4) rfl)) (fun _ h9 => h9) rfl (by decide +kernel) rfl rfl (Nat.le_of_ble_eq_true rfl) dX5_order_68 (fun H locs hP hD hS => ?_)
                  have hP : va_P D vwCl [(oM, .inr (5, [.ref aS, .ref aA, .ref aB, .int (nI kn), .ref aT, .ref aV, .ref aP, .int (nI ln), .int (nI po), .int 1, .int le, .int on, .int tw])), (aP, .inl (K 0, 80, .inl fP))] H := hP
                  have hD : va_D A [(oM, .inr (5, [.ref aS, .ref aA, .ref aB, .int (nI kn), .ref aT, .ref aV, .ref aP, .int (nI ln), .int (nI po), .int 1, .int le, .int on, .int tw])), (aP, .inl (K 0, 80, .inl fP))] := hD
                  refine lv_aload_n hx hb dX5_order_71 rfl (lv_at hl 1 rfl) ?_
                  refine lv_dup hx hb dX5_order_72 rfl ?_
                  refine va_get (D := D) (ci := 5) (v := .int (nI po)) (C := RX5) (T := TX5) (N := 13) hx hb hts hin5 hown hK hP 0 rfl rfl 8 (by decide) (hts _ (List.mem_of_getElem? (i := 1) rfl)) (fun _ h9 => h9) rfl dX5_order_73 ?_
                  refine lv_aload_n hx hb dX5_order_76 rfl (lv_at hl 1 rfl) ?_
                  refine va_get (D := D) (ci := 5) (v := .int 1) (C := RX5) (T := TX5) (N := 13) hx hb hts hin5 hown hK hP 0 rfl rfl 9 (by decide) (hts _ (List.mem_of_getElem? (i := 4) rfl)) (fun _ h9 => h9) rfl dX5_order_77 ?_
                  refine lv_if_eq (tgt := 87) hx hb dX5_order_80 (by decide) (fun h_150 => absurd h_150 (by decide)) (fun _ => ?_)
                  refine lv_iconst (v := 0) hx hb dX5_order_83 (by decide) ?_
                  refine lv_goto (tgt := 88) hx hb dX5_order_84 (by decide) ?_
                  refine lv_iadd hx hb dX5_order_88 ?_
                  refine st1 (y := (nI po)) (nI_add po 0) ?_
                  refine va_put (D := D) (ci := 5) (v := .int (nI po)) (ty := .int) (C := RX5) (T := TX5) (N := 13) hx hb hts hin5 tyX5 tyX5_ok nmX5 hown hK hP hD hS 0 rfl rfl 8 (by decide) (hts _ (List.mem_of_getElem? (i := 1) rfl)) (fun _ h9 => h9) rfl (by decide +kernel) rfl rfl (Nat.le_of_ble_eq_true rfl) dX5_order_89 (fun H locs hP hD hS => ?_)
                  have hP : va_P D vwCl [(oM, .inr (5, [.ref aS, .ref aA, .ref aB, .int (nI kn), .ref aT, .ref aV, .ref aP, .int (nI ln), .int (nI po), .int 1, .int le, .int on, .int tw])), (aP, .inl (K 0, 80, .inl fP))] H := hP
                  have hD : va_D A [(oM, .inr (5, [.ref aS, .ref aA, .ref aB, .int (nI kn), .ref aT, .ref aV, .ref aP, .int (nI ln), .int (nI po), .int 1, .int le, .int on, .int tw])), (aP, .inl (K 0, 80, .inl fP))] := hD
                  refine lv_aload_n hx hb dX5_order_92 rfl (lv_at hl 1 rfl) ?_
                  refine lv_iload_n hx hb dX5_order_93 rfl (lv_at hl 0 rfl) ?_
                  refine va_put (D := D) (ci := 5) (v := .int (if (nI ln) ≤ (nI po) then 0 else (fP po))) (ty := .int) (C := RX5) (T := TX5) (N := 13) hx hb hts hin5 tyX5 tyX5_ok nmX5 hown hK hP hD hS 0 rfl rfl 10 (by decide) (hts _ (List.mem_of_getElem? (i := 5) rfl)) (fun _ h9 => h9) rfl (by decide +kernel) rfl rfl (Nat.le_of_ble_eq_true rfl) dX5_order_94 (fun H locs hP hD hS => ?_)
                  have hP : va_P D vwCl [(oM, .inr (5, [.ref aS, .ref aA, .ref aB, .int (nI kn), .ref aT, .ref aV, .ref aP, .int (nI ln), .int (nI po), .int 1, .int (if (nI ln) ≤ (nI po) then 0 else (fP po)), .int on, .int tw])), (aP, .inl (K 0, 80, .inl fP))] H := hP
                  have hD : va_D A [(oM, .inr (5, [.ref aS, .ref aA, .ref aB, .int (nI kn), .ref aT, .ref aV, .ref aP, .int (nI ln), .int (nI po), .int 1, .int (if (nI ln) ≤ (nI po) then 0 else (fP po)), .int on, .int tw])), (aP, .inl (K 0, 80, .inl fP))] := hD
                  refine lv_aload_n hx hb dX5_order_97 rfl (lv_at hl 1 rfl) ?_
                  refine lv_iload_n hx hb dX5_order_98 rfl (lv_at hl 0 rfl) ?_
                  refine lv_bipush (v := 119) hx hb dX5_order_99 (by decide) ?_
                  refine lv_icmp_eq (tgt := 110) hx hb dX5_order_101 (by decide) (fun h_151 => absurd h_151 c_68) (fun _ => ?_)
                  refine lv_iload_n hx hb dX5_order_104 rfl (lv_at hl 0 rfl) ?_
                  refine lv_bipush (v := 114) hx hb dX5_order_105 (by decide) ?_
                  refine lv_icmp_ne (tgt := 117) hx hb dX5_order_107 (by decide) (fun _ => ?_) (fun h_152 => absurd h_152 c_84)
                  refine lv_iload_n hx hb dX5_order_117 rfl (lv_at hl 0 rfl) ?_
                  refine lv_bipush (v := 33) hx hb dX5_order_118 (by decide) ?_
                  refine lv_icmp_eq (tgt := 129) hx hb dX5_order_120 (by decide) (fun h_153 => absurd h_153 c_99) (fun _ => ?_)
                  refine lv_iload_n hx hb dX5_order_123 rfl (lv_at hl 0 rfl) ?_
                  refine lv_bipush (v := 120) hx hb dX5_order_124 (by decide) ?_
                  refine lv_icmp_ne (tgt := 143) hx hb dX5_order_126 (by decide) (fun _ => ?_) (fun h_154 => absurd h_154 c_117)
                  refine lv_iconst (v := 0) hx hb dX5_order_143 (by decide) ?_
                  refine va_put (D := D) (ci := 5) (v := .int 0) (ty := .int) (C := RX5) (T := TX5) (N := 13) hx hb hts hin5 tyX5 tyX5_ok nmX5 hown hK hP hD hS 0 rfl rfl 11 (by decide) (hts _ (List.mem_of_getElem? (i := 6) rfl)) (fun _ h9 => h9) rfl (by decide +kernel) rfl rfl (Nat.le_of_ble_eq_true rfl) dX5_order_144 (fun H locs hP hD hS => ?_)
                  have hP : va_P D vwCl [(oM, .inr (5, [.ref aS, .ref aA, .ref aB, .int (nI kn), .ref aT, .ref aV, .ref aP, .int (nI ln), .int (nI po), .int 1, .int (if (nI ln) ≤ (nI po) then 0 else (fP po)), .int 0, .int tw])), (aP, .inl (K 0, 80, .inl fP))] H := hP
                  have hD : va_D A [(oM, .inr (5, [.ref aS, .ref aA, .ref aB, .int (nI kn), .ref aT, .ref aV, .ref aP, .int (nI ln), .int (nI po), .int 1, .int (if (nI ln) ≤ (nI po) then 0 else (fP po)), .int 0, .int tw])), (aP, .inl (K 0, 80, .inl fP))] := hD
                  refine lv_iload_n hx hb dX5_order_147 rfl (lv_at hl 0 rfl) ?_
                  refine lv_bipush (v := 119) hx hb dX5_order_148 (by decide) ?_
                  refine lv_icmp_ne (tgt := 164) hx hb dX5_order_150 (by decide) (fun _ => ?_) (fun h_155 => absurd h_155 c_68)
                  refine lv_iconst (v := 0) hx hb dX5_order_164 (by decide) ?_
                  refine lv_istore_n (lv' := [(2, .int 0), (1, .int (if (nI ln) ≤ (nI po) then 0 else (fP po))), (0, .ref oM)]) hx hb dX5_order_165 rfl hl (by decide) rfl (fun ls hl => ?_)
                  refine lv_aload_n hx hb dX5_order_166 rfl (lv_at hl 2 rfl) ?_
                  refine lv_iload_n hx hb dX5_order_167 rfl (lv_at hl 1 rfl) ?_
                  refine lv_bipush (v := 119) hx hb dX5_order_168 (by decide) ?_
                  refine lv_icmp_eq (tgt := 179) hx hb dX5_order_170 (by decide) (fun h_156 => absurd h_156 c_68) (fun _ => ?_)
                  refine lv_iload_n hx hb dX5_order_173 rfl (lv_at hl 1 rfl) ?_
                  refine lv_bipush (v := 120) hx hb dX5_order_174 (by decide) ?_
                  refine lv_icmp_ne (tgt := 186) hx hb dX5_order_176 (by decide) (fun _ => ?_) (fun h_157 => absurd h_157 c_117)
                  refine lv_iload_n hx hb dX5_order_186 rfl (lv_at hl 1 rfl) ?_
                  refine lv_bipush (v := 33) hx hb dX5_order_187 (by decide) ?_
                  refine lv_icmp_ne (tgt := 206) hx hb dX5_order_189 (by decide) (fun _ => ?_) (fun h_158 => absurd h_158 c_99)
                  refine lv_iconst (v := 0) hx hb dX5_order_206 (by decide) ?_
                  refine va_put (D := D) (ci := 5) (v := .int 0) (ty := .int) (C := RX5) (T := TX5) (N := 13) hx hb hts hin5 tyX5 tyX5_ok nmX5 hown hK hP hD hS 0 rfl rfl 12 (by decide) (hts _ (List.mem_of_getElem? (i := 7) rfl)) (fun _ h9 => h9) rfl (by decide +kernel) rfl rfl (Nat.le_of_ble_eq_true rfl) dX5_order_207 (fun H locs hP hD hS => ?_)
                  have hP : va_P D vwCl [(oM, .inr (5, [.ref aS, .ref aA, .ref aB, .int (nI kn), .ref aT, .ref aV, .ref aP, .int (nI ln), .int (nI po), .int 1, .int (if (nI ln) ≤ (nI po) then 0 else (fP po)), .int 0, .int 0])), (aP, .inl (K 0, 80, .inl fP))] H := hP
                  have hD : va_D A [(oM, .inr (5, [.ref aS, .ref aA, .ref aB, .int (nI kn), .ref aT, .ref aV, .ref aP, .int (nI ln), .int (nI po), .int 1, .int (if (nI ln) ≤ (nI po) then 0 else (fP po)), .int 0, .int 0])), (aP, .inl (K 0, 80, .inl fP))] := hD
                  have e_159 : n_X5_order_0_8 fP ln po wz = po := by unfold n_X5_order_0_8; rw [if_pos c_4, if_neg c_68, if_neg c_84, if_neg c_99, if_neg c_117, if_neg c_135]
                  have e_160 : n_X5_order_0_9 fP ln po wz = 1 := by unfold n_X5_order_0_9; rw [if_pos c_4, if_neg c_68, if_neg c_84, if_neg c_99, if_neg c_117, if_neg c_135]
                  have e_161 : n_X5_order_0_10 fP ln po = (if (nI ln) ≤ (nI po) then 0 else (fP po)) := rfl
                  have e_162 : n_X5_order_0_11 fP ln po wz = 0 := by unfold n_X5_order_0_11; rw [if_pos c_4, if_neg c_68, if_neg c_84, if_neg c_99, if_neg c_117]
                  have e_163 : n_X5_order_0_12 fP ln po wz = 0 := by unfold n_X5_order_0_12; rw [if_pos c_4, if_neg c_68, if_neg c_84, if_neg c_99, if_neg c_117]
                  have hPf : va_P D vwCl [(oM, .inr (5, [.ref aS, .ref aA, .ref aB, .int (nI kn), .ref aT, .ref aV, .ref aP, .int (nI ln), .int (nI (n_X5_order_0_8 fP ln po wz)), .int (nI (n_X5_order_0_9 fP ln po wz)), .int (n_X5_order_0_10 fP ln po), .int (n_X5_order_0_11 fP ln po wz), .int (n_X5_order_0_12 fP ln po wz)])), (aP, .inl (K 0, 80, .inl fP))] H := (by rw [e_159, e_160, e_161, e_162, e_163]; exact hP)
                  exact W.vret hx hb hr (fun t ht hW => ⟨⟨(), rfl, trivial, by show va_P D vwCl _ t.heap; rw [ht]; exact hPf⟩, hS.F ht⟩) hS.2.2 dX5_order_210
    refine lv_icmp_ge (tgt := 23) hx hb dX5_order_8 (by decide) (fun c_1 => ?_) (fun c_1 => ?_)
    · skip
      have nc_1 := (nI_leI (a := ln) (b := po) (by omega) (by omega)).mp c_1
      refine lv_iconst (v := 0) hx hb dX5_order_23 (by decide) ?_
      have e_164 : ((if (nI ln) ≤ (nI po) then 0 else (fP po)) : Int32) = 0 := by rw [if_pos c_1]
      exact W.eq (g2 := (F0 m 24 ls [.int (if (nI ln) ≤ (nI po) then 0 else (fP po))])) (by first | (rw [e_164]; done) | (rw [e_164]; rfl)) (K_3 _ _ _ hP hD hS (lv_sub hl [0] rfl))
    · skip
      have nc_1 : ¬ (ln ≤ po) := fun h => c_1 ((nI_leI (a := ln) (b := po) (by omega) (by omega)).mpr h)
      refine lv_aload_n hx hb dX5_order_11 rfl (lv_at hl 0 rfl) ?_
      refine va_get (D := D) (ci := 5) (v := .ref aP) (C := RX5) (T := TX5) (N := 13) hx hb hts hin5 hown hK hP 0 rfl rfl 6 (by decide) (hts _ (List.mem_of_getElem? (i := 3) rfl)) (fun _ h9 => h9) rfl dX5_order_12 ?_
      refine lv_aload_n hx hb dX5_order_15 rfl (lv_at hl 0 rfl) ?_
      refine va_get (D := D) (ci := 5) (v := .int (nI po)) (C := RX5) (T := TX5) (N := 13) hx hb hts hin5 hown hK hP 0 rfl rfl 8 (by decide) (hts _ (List.mem_of_getElem? (i := 1) rfl)) (fun _ h9 => h9) rfl dX5_order_16 ?_
      refine n_iald hx hb hK hP 1 0 rfl rfl po (by omega) (by decide) dX5_order_19 ?_
      refine lv_goto (tgt := 24) hx hb dX5_order_20 (by decide) ?_
      have e_165 : ((if (nI ln) ≤ (nI po) then 0 else (fP po)) : Int32) = (fP po) := by rw [if_neg c_1]
      exact W.eq (g2 := (F0 m 24 ls [.int (if (nI ln) ≤ (nI po) then 0 else (fP po))])) (by first | (rw [e_165]; done) | (rw [e_165]; rfl)) (K_3 _ _ _ hP hD hS (lv_sub hl [0] rfl))
  exact K0 s.heap [] ls hP hD hS hl
theorem od_le {fP : Nat → Int32} {ln po wz : Nat} (hl : ln ≤ 80) (h : po ≤ ln) : n_X5_order_0_8 fP ln po wz ≤ ln := by
  by_cases c : (nI ln) ≤ (nI po)
  · unfold n_X5_order_0_8
    have a1 := nm_le (fP := fP) (wz := 1) hl h
    simp only [if_pos c, if_neg (show ¬ (0 : Int32) = 119 by decide), if_neg (show ¬ (0 : Int32) = 114 by decide), if_neg (show ¬ (0 : Int32) = 33 by decide), if_neg (show ¬ (0 : Int32) = 120 by decide), if_neg (show ¬ (0 : Int32) = 115 by decide)]
    split <;> exact h
  · have hp : po + 1 ≤ ln := by
      have : ¬ ln ≤ po := fun q => c (nI_le q (by omega))
      omega
    unfold n_X5_order_0_8
    repeat' split
    all_goals repeat' first | with_reducible assumption | with_reducible refine nm_le hl ?_ | with_reducible refine sn_le ?_ hl ?_ | decide
theorem od_ge {fP : Nat → Int32} {ln po wz : Nat} : po ≤ n_X5_order_0_8 fP ln po wz := by
  unfold n_X5_order_0_8
  generalize (if (nI ln) ≤ (nI po) then 0 else (fP po)) = c
  have h1 : po ≤ po + 1 := Nat.le_succ po
  by_cases w : (nI wz) = 0
  · rw [if_pos w]
    by_cases a119 : c = 119
    · rw [if_pos a119]
      exact Nat.le_trans h1 (Nat.le_trans nm_ge (Nat.le_trans sn_ge nm_ge))
    · rw [if_neg a119]
      by_cases a114 : c = 114
      · rw [if_pos a114]
        exact Nat.le_trans h1 nm_ge
      · rw [if_neg a114]
        by_cases a33 : c = 33
        · rw [if_pos a33]
          exact Nat.le_trans h1 (Nat.le_trans sn_ge sn_ge)
        · rw [if_neg a33]
          by_cases a120 : c = 120
          · rw [if_pos a120]
            exact Nat.le_trans h1 (Nat.le_trans sn_ge nm_ge)
          · rw [if_neg a120]
            split
            · exact h1
            · exact Nat.le_refl _
  · rw [if_neg w]
    by_cases a119 : c = 119
    · rw [if_pos a119]
      exact Nat.le_trans nm_ge (Nat.le_trans sn_ge nm_ge)
    · rw [if_neg a119]
      by_cases a114 : c = 114
      · rw [if_pos a114]
        exact nm_ge
      · rw [if_neg a114]
        by_cases a33 : c = 33
        · rw [if_pos a33]
          exact Nat.le_trans sn_ge sn_ge
        · rw [if_neg a33]
          by_cases a120 : c = 120
          · rw [if_pos a120]
            exact Nat.le_trans sn_ge nm_ge
          · rw [if_neg a120]
            exact Nat.le_refl _
def goI (fP : Nat → Int32) (ln : Nat) : Nat → Nat → Nat → Nat → Nat → Int32 → Int32 → Int32 → (Nat × Nat × Nat × Nat × Int32 × Int32 × Int32)
  | 0, i_, q, p_, w_, e_, o_, t_ => (i_, q, p_, w_, e_, o_, t_)
  | fu_ + 1, i_, q, p_, w_, e_, o_, t_ => (if (nI i_) = 0 then (i_, q, p_, w_, e_, o_, t_) else (if (nI (n_X5_order_0_9 fP ln p_ w_)) = 0 then (if (nI ln) ≤ (nI (n_X5_order_0_8 fP ln p_ w_)) then (goI fP ln fu_ 0 (q + 1) (n_X5_order_0_8 fP ln p_ w_) (n_X5_order_0_9 fP ln p_ w_) (n_X5_order_0_10 fP ln p_) (n_X5_order_0_11 fP ln p_ w_) (n_X5_order_0_12 fP ln p_ w_)) else (if (nI (n_X5_sign_0_9 fP ln (n_X5_order_0_8 fP ln p_ w_) (n_X5_order_0_9 fP ln p_ w_) 59 59)) = 0 then (goI fP ln fu_ 1 (q + 1) (n_X5_sign_0_8 fP ln (n_X5_order_0_8 fP ln p_ w_) (n_X5_order_0_9 fP ln p_ w_) 59 59) (n_X5_sign_0_9 fP ln (n_X5_order_0_8 fP ln p_ w_) (n_X5_order_0_9 fP ln p_ w_) 59 59) (n_X5_order_0_10 fP ln p_) (n_X5_order_0_11 fP ln p_ w_) (n_X5_order_0_12 fP ln p_ w_)) else (goI fP ln fu_ 0 (q + 1) (n_X5_sign_0_8 fP ln (n_X5_order_0_8 fP ln p_ w_) (n_X5_order_0_9 fP ln p_ w_) 59 59) (n_X5_sign_0_9 fP ln (n_X5_order_0_8 fP ln p_ w_) (n_X5_order_0_9 fP ln p_ w_) 59 59) (n_X5_order_0_10 fP ln p_) (n_X5_order_0_11 fP ln p_ w_) (n_X5_order_0_12 fP ln p_ w_)))) else (goI fP ln fu_ 0 (q + 1) (n_X5_order_0_8 fP ln p_ w_) (n_X5_order_0_9 fP ln p_ w_) (n_X5_order_0_10 fP ln p_) (n_X5_order_0_11 fP ln p_ w_) (n_X5_order_0_12 fP ln p_ w_))))
theorem goI_s (fP : Nat → Int32) (ln : Nat) (fu_ : Nat) (i_ : Nat) (q : Nat) (p_ : Nat) (w_ : Nat) (e_ : Int32) (o_ : Int32) (t_ : Int32) : goI fP ln (fu_ + 1) i_ q p_ w_ e_ o_ t_ = (if (nI i_) = 0 then (i_, q, p_, w_, e_, o_, t_) else (if (nI (n_X5_order_0_9 fP ln p_ w_)) = 0 then (if (nI ln) ≤ (nI (n_X5_order_0_8 fP ln p_ w_)) then (goI fP ln fu_ 0 (q + 1) (n_X5_order_0_8 fP ln p_ w_) (n_X5_order_0_9 fP ln p_ w_) (n_X5_order_0_10 fP ln p_) (n_X5_order_0_11 fP ln p_ w_) (n_X5_order_0_12 fP ln p_ w_)) else (if (nI (n_X5_sign_0_9 fP ln (n_X5_order_0_8 fP ln p_ w_) (n_X5_order_0_9 fP ln p_ w_) 59 59)) = 0 then (goI fP ln fu_ 1 (q + 1) (n_X5_sign_0_8 fP ln (n_X5_order_0_8 fP ln p_ w_) (n_X5_order_0_9 fP ln p_ w_) 59 59) (n_X5_sign_0_9 fP ln (n_X5_order_0_8 fP ln p_ w_) (n_X5_order_0_9 fP ln p_ w_) 59 59) (n_X5_order_0_10 fP ln p_) (n_X5_order_0_11 fP ln p_ w_) (n_X5_order_0_12 fP ln p_ w_)) else (goI fP ln fu_ 0 (q + 1) (n_X5_sign_0_8 fP ln (n_X5_order_0_8 fP ln p_ w_) (n_X5_order_0_9 fP ln p_ w_) 59 59) (n_X5_sign_0_9 fP ln (n_X5_order_0_8 fP ln p_ w_) (n_X5_order_0_9 fP ln p_ w_) 59 59) (n_X5_order_0_10 fP ln p_) (n_X5_order_0_11 fP ln p_ w_) (n_X5_order_0_12 fP ln p_ w_)))) else (goI fP ln fu_ 0 (q + 1) (n_X5_order_0_8 fP ln p_ w_) (n_X5_order_0_9 fP ln p_ w_) (n_X5_order_0_10 fP ln p_) (n_X5_order_0_11 fP ln p_ w_) (n_X5_order_0_12 fP ln p_ w_)))) := rfl
def n_X5_go_0_0_8 (fP : Nat → Int32) (ln : Nat) (le : Int32) (on : Int32) (tw : Int32) : Nat := ((((goI fP ln 82 1 0 0 0 le on tw).2).2).1)
def n_X5_go_0_0_9 (fP : Nat → Int32) (ln : Nat) (le : Int32) (on : Int32) (tw : Int32) : Nat := (((((goI fP ln 82 1 0 0 0 le on tw).2).2).2).1)
def n_X5_go_0_0_10 (fP : Nat → Int32) (ln : Nat) (le : Int32) (on : Int32) (tw : Int32) : Int32 := ((((((goI fP ln 82 1 0 0 0 le on tw).2).2).2).2).1)
def n_X5_go_0_0_11 (fP : Nat → Int32) (ln : Nat) (le : Int32) (on : Int32) (tw : Int32) : Int32 := (((((((goI fP ln 82 1 0 0 0 le on tw).2).2).2).2).2).1)
def n_X5_go_0_0_12 (fP : Nat → Int32) (ln : Nat) (le : Int32) (on : Int32) (tw : Int32) : Int32 := (((((((goI fP ln 82 1 0 0 0 le on tw).2).2).2).2).2).2)
set_option maxHeartbeats 4000000 in
set_option maxRecDepth 100000 in
theorem c_X5_go_0 (l : Launch) (D : va_G) (K : Nat → ClassId) (oM : Nat) (aS : Nat) (aA : Nat) (aB : Nat) (aT : Nat) (aV : Nat) (aP : Nat) (fP : Nat → Int32) (kn : Nat) (ln : Nat) (po : Nat) (wz : Nat) (le : Int32) (on : Int32) (tw : Int32) (hln : ln ≤ 80) : Met l yX5_go wsX5_go ({ frames := 4, cells := 0, slots := 0, locals := 89 }) (va_Pc [.ref oM, .int 0] (fun U => Bd D K U ∧ va_P D vwCl [(oM, .inr (5, [.ref aS, .ref aA, .ref aB, .int (nI kn), .ref aT, .ref aV, .ref aP, .int (nI ln), .int (nI po), .int (nI wz), .int le, .int on, .int tw])), (aP, .inl (K 0, 80, .inl fP))] U.heap ∧ va_D (fun _ => True) [(oM, .inr (5, [.ref aS, .ref aA, .ref aB, .int (nI kn), .ref aT, .ref aV, .ref aP, .int (nI ln), .int (nI po), .int (nI wz), .int le, .int on, .int tw])), (aP, .inl (K 0, 80, .inl fP))])) (va_Qi (fun r (_ : Unit) => r = 0) (fun _ t => va_P D vwCl [(oM, .inr (5, [.ref aS, .ref aA, .ref aB, .int (nI kn), .ref aT, .ref aV, .ref aP, .int (nI ln), .int (nI (n_X5_go_0_0_8 fP ln le on tw)), .int (nI (n_X5_go_0_0_9 fP ln le on tw)), .int (n_X5_go_0_0_10 fP ln le on tw), .int (n_X5_go_0_0_11 fP ln le on tw), .int (n_X5_go_0_0_12 fP ln le on tw)])), (aP, .inl (K 0, 80, .inl fP))] t.heap) (inW [(oM, .inr (5, [.ref aS, .ref aA, .ref aB, .int (nI kn), .ref aT, .ref aV, .ref aP, .int (nI ln), .int (nI po), .int (nI wz), .int le, .int on, .int tw])), (aP, .inl (K 0, 80, .inl fP))])) 0 0 (inW [(oM, .inr (5, [.ref aS, .ref aA, .ref aB, .int (nI kn), .ref aT, .ref aV, .ref aP, .int (nI ln), .int (nI po), .int (nI wz), .int le, .int on, .int tw])), (aP, .inl (K 0, 80, .inl fP))]) := by
  refine Met.ofW (cc := cX5_go) (maxL := 6) (ret := (some .int)) (by decide) rfl ?_
  intro p e s m args below meth c s₁ B hml hv
  obtain ⟨rfl, hbd, hP, hD0⟩ := hv
  have hx := B.exec
  have hb := B.bytes
  have hr := B.returns
  have hts := atoms_spec (ws := wsX5_go) B.pre
  have hown : s.vm.findClass RX5 = some m.cls := findClass_of_methodNamed B.named
  have hlocks := B.notSynchronized
  have hK := hbd.2
  have hP : va_P D vwCl [(oM, .inr (5, [.ref aS, .ref aA, .ref aB, .int (nI kn), .ref aT, .ref aV, .ref aP, .int (nI ln), .int (nI po), .int (nI wz), .int le, .int on, .int tw])), (aP, .inl (K 0, 80, .inl fP))] s.heap := hP
  have hin5 : ∀ w ∈ wsX50, w ∈ wsX5_go := by decide +kernel
  have hD := hD0.own
  generalize hAe : inW [(oM, .inr (5, [.ref aS, .ref aA, .ref aB, .int (nI kn), .ref aT, .ref aV, .ref aP, .int (nI ln), .int (nI po), .int (nI wz), .int le, .int on, .int tw])), (aP, .inl (K 0, 80, .inl fP))] = A at hD ⊢
  have hS : va_S A s.heap s.heap [] := va_S.rf
  have hl := lv_entry ([.ref oM, .int 0]) (n := 6) (Nat.le_of_ble_eq_true rfl)
  rw [lg_entry_eq]
  generalize (lg_sl ([.ref oM, .int 0]) ++ List.replicate (6 - (lg_sl ([.ref oM, .int 0])).length) Slot.unset).toArray = ls at hl ⊢
  have hl : lv_has ls 6 [(0, .ref oM), (1, .int 0)] := hl
  have K0 : ∀ (H : Heap) (locs : List Loc) (ls : Array Slot), va_P D vwCl [(oM, .inr (5, [.ref aS, .ref aA, .ref aB, .int (nI kn), .ref aT, .ref aV, .ref aP, .int (nI ln), .int (nI po), .int (nI wz), .int le, .int on, .int tw])), (aP, .inl (K 0, 80, .inl fP))] H → va_D A [(oM, .inr (5, [.ref aS, .ref aA, .ref aB, .int (nI kn), .ref aT, .ref aV, .ref aP, .int (nI ln), .int (nI po), .int (nI wz), .int le, .int on, .int tw])), (aP, .inl (K 0, 80, .inl fP))] → va_S A s.heap H locs → lv_has ls 6 [(0, .ref oM), (1, .int 0)] → W p l e (headSpec wsX5_go ({ frames := 4, cells := 0, slots := 0, locals := 89 })).room s m ([.ref oM, .int 0] : List Value).toArray below meth c H locs 0 0 (MQ below (va_Qi (fun r (_ : Unit) => r = 0) (fun _ t => va_P D vwCl [(oM, .inr (5, [.ref aS, .ref aA, .ref aB, .int (nI kn), .ref aT, .ref aV, .ref aP, .int (nI ln), .int (nI (n_X5_go_0_0_8 fP ln le on tw)), .int (nI (n_X5_go_0_0_9 fP ln le on tw)), .int (n_X5_go_0_0_10 fP ln le on tw), .int (n_X5_go_0_0_11 fP ln le on tw), .int (n_X5_go_0_0_12 fP ln le on tw)])), (aP, .inl (K 0, 80, .inl fP))] t.heap) A) ([.ref oM, .int 0] : List Value).toArray s 0 0 A) (F0 m 0 ls []) := by
    intro H locs ls hP hD hS hl
    refine lv_aload_n hx hb dX5_go_0 rfl (lv_at hl 0 rfl) ?_
    refine lv_iconst (v := 0) hx hb dX5_go_1 (by decide) ?_
    refine va_put (D := D) (ci := 5) (v := .int 0) (ty := .int) (C := RX5) (T := TX5) (N := 13) hx hb hts hin5 tyX5 tyX5_ok nmX5 hown hK hP hD hS 0 rfl rfl 8 (by decide) (hts _ (List.mem_of_getElem? (i := 1) rfl)) (fun _ h9 => h9) rfl (by decide +kernel) rfl rfl (Nat.le_of_ble_eq_true rfl) dX5_go_2 (fun H locs hP hD hS => ?_)
    have hP : va_P D vwCl [(oM, .inr (5, [.ref aS, .ref aA, .ref aB, .int (nI kn), .ref aT, .ref aV, .ref aP, .int (nI ln), .int 0, .int (nI wz), .int le, .int on, .int tw])), (aP, .inl (K 0, 80, .inl fP))] H := hP
    have hD : va_D A [(oM, .inr (5, [.ref aS, .ref aA, .ref aB, .int (nI kn), .ref aT, .ref aV, .ref aP, .int (nI ln), .int 0, .int (nI wz), .int le, .int on, .int tw])), (aP, .inl (K 0, 80, .inl fP))] := hD
    refine lv_aload_n hx hb dX5_go_5 rfl (lv_at hl 0 rfl) ?_
    refine lv_iconst (v := 0) hx hb dX5_go_6 (by decide) ?_
    refine va_put (D := D) (ci := 5) (v := .int 0) (ty := .boolean) (C := RX5) (T := TX5) (N := 13) hx hb hts hin5 tyX5 tyX5_ok nmX5 hown hK hP hD hS 0 rfl rfl 9 (by decide) (hts _ (List.mem_of_getElem? (i := 2) rfl)) (fun _ h9 => h9) rfl (by decide +kernel) rfl rfl (Nat.le_of_ble_eq_true rfl) dX5_go_7 (fun H locs hP hD hS => ?_)
    have hP : va_P D vwCl [(oM, .inr (5, [.ref aS, .ref aA, .ref aB, .int (nI kn), .ref aT, .ref aV, .ref aP, .int (nI ln), .int 0, .int 0, .int le, .int on, .int tw])), (aP, .inl (K 0, 80, .inl fP))] H := hP
    have hD : va_D A [(oM, .inr (5, [.ref aS, .ref aA, .ref aB, .int (nI kn), .ref aT, .ref aV, .ref aP, .int (nI ln), .int 0, .int 0, .int le, .int on, .int tw])), (aP, .inl (K 0, 80, .inl fP))] := hD
    refine lv_iconst (v := 0) hx hb dX5_go_10 (by decide) ?_
    refine lv_istore_n (lv' := [(2, .int 0), (0, .ref oM), (1, .int 0)]) hx hb dX5_go_11 rfl hl (by decide) rfl (fun ls hl => ?_)
    refine lv_iconst (v := 1) hx hb dX5_go_12 (by decide) ?_
    refine lv_istore_n (lv' := [(3, .int 1), (2, .int 0), (0, .ref oM), (1, .int 0)]) hx hb dX5_go_13 rfl hl (by decide) rfl (fun ls hl => ?_)
    have L_1 : ∀ (nf : Nat) (i_ : Nat) (q : Nat) (p_ : Nat) (w_ : Nat) (e_ : Int32) (o_ : Int32) (t_ : Int32), 82 - q < nf → q ≤ 81 → i_ = 0 ∨ q ≤ p_ → p_ ≤ ln → i_ ≤ 1 → goI fP ln (82 - q) i_ q p_ w_ e_ o_ t_ = (goI fP ln 82 1 0 0 0 le on tw) → ∀ (H : Heap) (locs : List Loc) (ls : Array Slot), va_P D vwCl [(oM, .inr (5, [.ref aS, .ref aA, .ref aB, .int (nI kn), .ref aT, .ref aV, .ref aP, .int (nI ln), .int (nI p_), .int (nI w_), .int e_, .int o_, .int t_])), (aP, .inl (K 0, 80, .inl fP))] H → va_D A [(oM, .inr (5, [.ref aS, .ref aA, .ref aB, .int (nI kn), .ref aT, .ref aV, .ref aP, .int (nI ln), .int (nI p_), .int (nI w_), .int e_, .int o_, .int t_])), (aP, .inl (K 0, 80, .inl fP))] → va_S A s.heap H locs → lv_has ls 6 [(3, .int (nI i_)), (2, .int 0), (0, .ref oM), (1, .int 0)] → W p l e (headSpec wsX5_go ({ frames := 4, cells := 0, slots := 0, locals := 89 })).room s m ([.ref oM, .int 0] : List Value).toArray below meth c H locs 0 0 (MQ below (va_Qi (fun r (_ : Unit) => r = 0) (fun _ t => va_P D vwCl [(oM, .inr (5, [.ref aS, .ref aA, .ref aB, .int (nI kn), .ref aT, .ref aV, .ref aP, .int (nI ln), .int (nI (n_X5_go_0_0_8 fP ln le on tw)), .int (nI (n_X5_go_0_0_9 fP ln le on tw)), .int (n_X5_go_0_0_10 fP ln le on tw), .int (n_X5_go_0_0_11 fP ln le on tw), .int (n_X5_go_0_0_12 fP ln le on tw)])), (aP, .inl (K 0, 80, .inl fP))] t.heap) A) ([.ref oM, .int 0] : List Value).toArray s 0 0 A) (F0 m 14 ls []) := by
      intro nf
      induction nf with
      | zero =>
        intro i_ q p_ w_ e_ o_ t_ hm
        exact absurd hm (Nat.not_lt_zero _)
      | succ nf ih =>
        intro i_ q p_ w_ e_ o_ t_ hm hq hqi hp_ hi_ hinv H locs ls hP hD hS hl
        refine lv_iload_n hx hb dX5_go_14 rfl (lv_at hl 0 rfl) ?_
        refine lv_if_eq (tgt := 116) hx hb dX5_go_15 (by decide) (fun c_2 => ?_) (fun c_2 => ?_)
        · skip
          have nc_2 := (nI_eq (a := i_) (b := 0) (by omega) (by omega)).mp c_2
          have e9 : (i_, q, p_, w_, e_, o_, t_) = (goI fP ln 82 1 0 0 0 le on tw) := by
            rw [← hinv]
            rcases (show 82 - q = 0 ∨ 82 - q = (82 - q - 1) + 1 by omega) with h9 | h9
            · first | (exfalso; omega) | (rw [h9]; rfl)
            · rw [h9, goI_s, if_pos c_2]
          have f9_i_ : i_ = ((goI fP ln 82 1 0 0 0 le on tw).1) := by rw [← e9]
          have f9_q : q = (((goI fP ln 82 1 0 0 0 le on tw).2).1) := by rw [← e9]
          have f9_p_ : p_ = ((((goI fP ln 82 1 0 0 0 le on tw).2).2).1) := by rw [← e9]
          have f9_w_ : w_ = (((((goI fP ln 82 1 0 0 0 le on tw).2).2).2).1) := by rw [← e9]
          have f9_e_ : e_ = ((((((goI fP ln 82 1 0 0 0 le on tw).2).2).2).2).1) := by rw [← e9]
          have f9_o_ : o_ = (((((((goI fP ln 82 1 0 0 0 le on tw).2).2).2).2).2).1) := by rw [← e9]
          have f9_t_ : t_ = (((((((goI fP ln 82 1 0 0 0 le on tw).2).2).2).2).2).2) := by rw [← e9]
          subst f9_i_
          subst f9_q
          subst f9_p_
          subst f9_w_
          subst f9_e_
          subst f9_o_
          subst f9_t_
          refine lv_iload_n hx hb dX5_go_116 rfl (lv_at hl 1 rfl) ?_
          have e_3 : n_X5_go_0_0_8 fP ln le on tw = ((((goI fP ln 82 1 0 0 0 le on tw).2).2).1) := rfl
          have e_4 : n_X5_go_0_0_9 fP ln le on tw = (((((goI fP ln 82 1 0 0 0 le on tw).2).2).2).1) := rfl
          have e_5 : n_X5_go_0_0_10 fP ln le on tw = ((((((goI fP ln 82 1 0 0 0 le on tw).2).2).2).2).1) := rfl
          have e_6 : n_X5_go_0_0_11 fP ln le on tw = (((((((goI fP ln 82 1 0 0 0 le on tw).2).2).2).2).2).1) := rfl
          have e_7 : n_X5_go_0_0_12 fP ln le on tw = (((((((goI fP ln 82 1 0 0 0 le on tw).2).2).2).2).2).2) := rfl
          have hPf : va_P D vwCl [(oM, .inr (5, [.ref aS, .ref aA, .ref aB, .int (nI kn), .ref aT, .ref aV, .ref aP, .int (nI ln), .int (nI (n_X5_go_0_0_8 fP ln le on tw)), .int (nI (n_X5_go_0_0_9 fP ln le on tw)), .int (n_X5_go_0_0_10 fP ln le on tw), .int (n_X5_go_0_0_11 fP ln le on tw), .int (n_X5_go_0_0_12 fP ln le on tw)])), (aP, .inl (K 0, 80, .inl fP))] H := (by rw [e_3, e_4, e_5, e_6, e_7]; exact hP)
          exact W.iret hx hb hr (fun t ht hW => ⟨⟨_, (), rfl, rfl, by show va_P D vwCl _ t.heap; rw [ht]; exact hPf⟩, hS.F ht⟩) hS.2.2 dX5_go_117
        · skip
          have nc_2 : ¬ (i_ = 0) := fun h => c_2 ((nI_eq (a := i_) (b := 0) (by omega) (by omega)).mpr h)
          refine lv_aload_n hx hb dX5_go_18 rfl (lv_at hl 2 rfl) ?_
          have hPc := hP.sub (ws' := [(oM, .inr (5, [.ref aS, .ref aA, .ref aB, .int (nI kn), .ref aT, .ref aV, .ref aP, .int (nI ln), .int (nI p_), .int (nI w_), .int e_, .int o_, .int t_])), (aP, .inl (K 0, 80, .inl fP))]) [0, 1] rfl
          have hDc : va_D (fun _ => True) [(oM, .inr (5, [.ref aS, .ref aA, .ref aB, .int (nI kn), .ref aT, .ref aV, .ref aP, .int (nI ln), .int (nI p_), .int (nI w_), .int e_, .int o_, .int t_])), (aP, .inl (K 0, 80, .inl fP))] := (hD.sub (ws' := [(oM, .inr (5, [.ref aS, .ref aA, .ref aB, .int (nI kn), .ref aT, .ref aV, .ref aP, .int (nI ln), .int (nI p_), .int (nI w_), .int e_, .int o_, .int t_])), (aP, .inl (K 0, 80, .inl fP))]) [0, 1] (by decide +kernel) rfl).weaken (fun _ _ _ _ => trivial)
          refine kw_v (W1 := [(oM, .inr (5, [.ref aS, .ref aA, .ref aB, .int (nI kn), .ref aT, .ref aV, .ref aP, .int (nI ln), .int (nI (n_X5_order_0_8 fP ln p_ w_)), .int (nI (n_X5_order_0_9 fP ln p_ w_)), .int (n_X5_order_0_10 fP ln p_), .int (n_X5_order_0_11 fP ln p_ w_), .int (n_X5_order_0_12 fP ln p_ w_)])), (aP, .inl (K 0, 80, .inl fP))]) (w1 := [(oM, .inr (5, [.ref aS, .ref aA, .ref aB, .int (nI kn), .ref aT, .ref aV, .ref aP, .int (nI ln), .int (nI (n_X5_order_0_8 fP ln p_ w_)), .int (nI (n_X5_order_0_9 fP ln p_ w_)), .int (n_X5_order_0_10 fP ln p_), .int (n_X5_order_0_11 fP ln p_ w_), .int (n_X5_order_0_12 fP ln p_ w_)])), (aP, .inl (K 0, 80, .inl fP))]) (va_runV (As := []) (rest := []) ⟨hx, hb, hml, hown, hts⟩ (c_X5_order l D K oM aS aA aB aT aV aP fP kn ln p_ w_ e_ o_ t_ hln (by omega)) (cwV 0 hts gX5_go_X5_order rfl rfl rfl (by decide +kernel) ⟨Nat.le_of_ble_eq_true rfl, Nat.le_of_ble_eq_true rfl⟩) (pre_wr hbd hPc hDc (ci := 5) (q0 := 0) rfl rfl) rfl rfl hl.1 rfl (lv_room (Nat.le_of_ble_eq_true rfl)) dX5_go_19 ⟨Nat.zero_le _, Nat.zero_le _⟩) hP hD hS [0, 1] [] 2 rfl rfl rfl (Eq.trans (b := List.map some ([])) rfl rfl) (by decide +kernel) (by decide +kernel) (by simp only [List.map_append, drW_fst, List.map_cons, List.map_nil]) (fun H locs hP hD hS => ?_)
          have hb_8 := od_le (fP := fP) (ln := ln) (po := p_) (wz := w_) hln (by omega)
          have hb_9 := od_ge (fP := fP) (ln := ln) (po := p_) (wz := w_)
          refine lv_iload_n hx hb dX5_go_22 rfl (lv_at hl 3 rfl) ?_
          refine lv_if_eq (tgt := 37) hx hb dX5_go_23 (by decide) (fun _ => ?_) (fun h_10 => absurd (by decide) h_10)
          refine lv_iconst (v := 0) hx hb dX5_go_37 (by decide) ?_
          refine lv_istore (lv' := [(4, .int 0), (3, .int (nI i_)), (2, .int 0), (0, .ref oM), (1, .int 0)]) hx hb dX5_go_38  hl (by decide) rfl (fun ls hl => ?_)
          refine lv_iload_n hx hb dX5_go_40 rfl (lv_at hl 2 rfl) ?_
          refine lv_iload hx hb dX5_go_41 (lv_at hl 0 rfl) ?_
          refine lv_if_eq (tgt := 50) hx hb dX5_go_43 (by decide) (fun _ => ?_) (fun h_11 => absurd (by decide) h_11)
          refine lv_iconst (v := 0) hx hb dX5_go_50 (by decide) ?_
          refine lv_iadd hx hb dX5_go_51 ?_
          refine st1 (y := 0) (by decide) ?_
          refine lv_istore_n (lv' := [(2, .int 0), (4, .int 0), (3, .int (nI i_)), (0, .ref oM), (1, .int 0)]) hx hb dX5_go_52 rfl hl (by decide) rfl (fun ls hl => ?_)
          refine lv_aload_n hx hb dX5_go_53 rfl (lv_at hl 3 rfl) ?_
          refine va_get (D := D) (ci := 5) (v := .int (nI (n_X5_order_0_9 fP ln p_ w_))) (C := RX5) (T := TX5) (N := 13) hx hb hts hin5 hown hK hP 0 rfl rfl 9 (by decide) (hts _ (List.mem_of_getElem? (i := 2) rfl)) (fun _ h9 => h9) rfl dX5_go_54 ?_
          refine lv_if_ne (tgt := 84) hx hb dX5_go_57 (by decide) (fun c_12 => ?_) (fun c_12 => ?_)
          · skip
            refine lv_iconst (v := 0) hx hb dX5_go_84 (by decide) ?_
            refine lv_istore_n (lv' := [(3, .int 0), (2, .int 0), (4, .int 0), (0, .ref oM), (1, .int 0)]) hx hb dX5_go_85 rfl hl (by decide) rfl (fun ls hl => ?_)
            refine lv_iload_n hx hb dX5_go_86 rfl (lv_at hl 0 rfl) ?_
            refine lv_if_eq (tgt := 113) hx hb dX5_go_87 (by decide) (fun _ => ?_) (fun h_13 => absurd (by decide) h_13)
            refine lv_goto (tgt := 14) hx hb dX5_go_113 (by decide) ?_
            exact ih 0 (q + 1) (n_X5_order_0_8 fP ln p_ w_) (n_X5_order_0_9 fP ln p_ w_) (n_X5_order_0_10 fP ln p_) (n_X5_order_0_11 fP ln p_ w_) (n_X5_order_0_12 fP ln p_ w_) (by omega) (by omega) (Or.inl rfl) (by omega) (by omega) (by rw [← hinv, show 82 - q = (82 - (q + 1)) + 1 by omega, goI_s, if_neg c_2, if_neg c_12]) _ _ _ hP hD hS (lv_sub hl [0, 1, 3, 4] rfl)
          · skip
            refine lv_iload hx hb dX5_go_60 (lv_at hl 1 rfl) ?_
            refine lv_if_ne (tgt := 69) hx hb dX5_go_62 (by decide) (fun h_14 => absurd (by decide) h_14) (fun _ => ?_)
            refine lv_iload_n hx hb dX5_go_65 rfl (lv_at hl 4 rfl) ?_
            refine lv_if_ne (tgt := 84) hx hb dX5_go_66 (by decide) (fun h_15 => absurd (by decide) h_15) (fun _ => ?_)
            refine lv_aload_n hx hb dX5_go_69 rfl (lv_at hl 3 rfl) ?_
            refine va_get (D := D) (ci := 5) (v := .int (nI (n_X5_order_0_8 fP ln p_ w_))) (C := RX5) (T := TX5) (N := 13) hx hb hts hin5 hown hK hP 0 rfl rfl 8 (by decide) (hts _ (List.mem_of_getElem? (i := 1) rfl)) (fun _ h9 => h9) rfl dX5_go_70 ?_
            refine lv_aload_n hx hb dX5_go_73 rfl (lv_at hl 3 rfl) ?_
            refine va_get (D := D) (ci := 5) (v := .int (nI ln)) (C := RX5) (T := TX5) (N := 13) hx hb hts hin5 hown hK hP 0 rfl rfl 7 (by decide) (hts _ (List.mem_of_getElem? (i := 3) rfl)) (fun _ h9 => h9) rfl dX5_go_74 ?_
            refine lv_icmp_ge (tgt := 84) hx hb dX5_go_77 (by decide) (fun c_16 => ?_) (fun c_16 => ?_)
            · skip
              refine lv_iconst (v := 0) hx hb dX5_go_84 (by decide) ?_
              refine lv_istore_n (lv' := [(3, .int 0), (2, .int 0), (4, .int 0), (0, .ref oM), (1, .int 0)]) hx hb dX5_go_85 rfl hl (by decide) rfl (fun ls hl => ?_)
              refine lv_iload_n hx hb dX5_go_86 rfl (lv_at hl 0 rfl) ?_
              refine lv_if_eq (tgt := 113) hx hb dX5_go_87 (by decide) (fun _ => ?_) (fun h_17 => absurd (by decide) h_17)
              refine lv_goto (tgt := 14) hx hb dX5_go_113 (by decide) ?_
              exact ih 0 (q + 1) (n_X5_order_0_8 fP ln p_ w_) (n_X5_order_0_9 fP ln p_ w_) (n_X5_order_0_10 fP ln p_) (n_X5_order_0_11 fP ln p_ w_) (n_X5_order_0_12 fP ln p_ w_) (by omega) (by omega) (Or.inl rfl) (by omega) (by omega) (by rw [← hinv, show 82 - q = (82 - (q + 1)) + 1 by omega, goI_s, if_neg c_2, if_pos c_12, if_pos c_16]) _ _ _ hP hD hS (lv_sub hl [0, 1, 3, 4] rfl)
            · skip
              refine lv_iconst (v := 1) hx hb dX5_go_80 (by decide) ?_
              refine lv_goto (tgt := 85) hx hb dX5_go_81 (by decide) ?_
              refine lv_istore_n (lv' := [(3, .int 1), (2, .int 0), (4, .int 0), (0, .ref oM), (1, .int 0)]) hx hb dX5_go_85 rfl hl (by decide) rfl (fun ls hl => ?_)
              refine lv_iload_n hx hb dX5_go_86 rfl (lv_at hl 0 rfl) ?_
              refine lv_if_eq (tgt := 113) hx hb dX5_go_87 (by decide) (fun h_18 => absurd h_18 (by decide)) (fun _ => ?_)
              refine lv_aload_n hx hb dX5_go_90 rfl (lv_at hl 3 rfl) ?_
              refine lv_bipush (v := 59) hx hb dX5_go_91 (by decide) ?_
              refine lv_bipush (v := 59) hx hb dX5_go_93 (by decide) ?_
              have hPc := hP.sub (ws' := [(oM, .inr (5, [.ref aS, .ref aA, .ref aB, .int (nI kn), .ref aT, .ref aV, .ref aP, .int (nI ln), .int (nI (n_X5_order_0_8 fP ln p_ w_)), .int (nI (n_X5_order_0_9 fP ln p_ w_)), .int (n_X5_order_0_10 fP ln p_), .int (n_X5_order_0_11 fP ln p_ w_), .int (n_X5_order_0_12 fP ln p_ w_)])), (aP, .inl (K 0, 80, .inl fP))]) [0, 1] rfl
              have hDc : va_D (fun _ => True) [(oM, .inr (5, [.ref aS, .ref aA, .ref aB, .int (nI kn), .ref aT, .ref aV, .ref aP, .int (nI ln), .int (nI (n_X5_order_0_8 fP ln p_ w_)), .int (nI (n_X5_order_0_9 fP ln p_ w_)), .int (n_X5_order_0_10 fP ln p_), .int (n_X5_order_0_11 fP ln p_ w_), .int (n_X5_order_0_12 fP ln p_ w_)])), (aP, .inl (K 0, 80, .inl fP))] := (hD.sub (ws' := [(oM, .inr (5, [.ref aS, .ref aA, .ref aB, .int (nI kn), .ref aT, .ref aV, .ref aP, .int (nI ln), .int (nI (n_X5_order_0_8 fP ln p_ w_)), .int (nI (n_X5_order_0_9 fP ln p_ w_)), .int (n_X5_order_0_10 fP ln p_), .int (n_X5_order_0_11 fP ln p_ w_), .int (n_X5_order_0_12 fP ln p_ w_)])), (aP, .inl (K 0, 80, .inl fP))]) [0, 1] (by decide +kernel) rfl).weaken (fun _ _ _ _ => trivial)
              refine kw_i (W1 := [(oM, .inr (5, [.ref aS, .ref aA, .ref aB, .int (nI kn), .ref aT, .ref aV, .ref aP, .int (nI ln), .int (nI (n_X5_sign_0_8 fP ln (n_X5_order_0_8 fP ln p_ w_) (n_X5_order_0_9 fP ln p_ w_) 59 59)), .int (nI (n_X5_sign_0_9 fP ln (n_X5_order_0_8 fP ln p_ w_) (n_X5_order_0_9 fP ln p_ w_) 59 59)), .int (n_X5_order_0_10 fP ln p_), .int (n_X5_order_0_11 fP ln p_ w_), .int (n_X5_order_0_12 fP ln p_ w_)])), (aP, .inl (K 0, 80, .inl fP))]) (w1 := [(oM, .inr (5, [.ref aS, .ref aA, .ref aB, .int (nI kn), .ref aT, .ref aV, .ref aP, .int (nI ln), .int (nI (n_X5_sign_0_8 fP ln (n_X5_order_0_8 fP ln p_ w_) (n_X5_order_0_9 fP ln p_ w_) 59 59)), .int (nI (n_X5_sign_0_9 fP ln (n_X5_order_0_8 fP ln p_ w_) (n_X5_order_0_9 fP ln p_ w_) 59 59)), .int (n_X5_order_0_10 fP ln p_), .int (n_X5_order_0_11 fP ln p_ w_), .int (n_X5_order_0_12 fP ln p_ w_)])), (aP, .inl (K 0, 80, .inl fP))]) (va_runV (As := [.int 59, .int 59]) (rest := []) ⟨hx, hb, hml, hown, hts⟩ (c_X5_sign l D K oM aS aA aB aT aV aP fP kn ln (n_X5_order_0_8 fP ln p_ w_) (n_X5_order_0_9 fP ln p_ w_) (n_X5_order_0_10 fP ln p_) (n_X5_order_0_11 fP ln p_ w_) (n_X5_order_0_12 fP ln p_ w_) 59 59 hln (by omega)) (cwV 2 hts gX5_go_X5_sign rfl rfl rfl (by decide +kernel) ⟨Nat.le_of_ble_eq_true rfl, Nat.le_of_ble_eq_true rfl⟩) (pre_wr hbd hPc hDc (ci := 5) (q0 := 0) rfl rfl) rfl rfl hl.1 rfl (lv_room (Nat.le_of_ble_eq_true rfl)) dX5_go_95 ⟨Nat.zero_le _, Nat.zero_le _⟩) hP hD hS [0, 1] [] 2 rfl rfl rfl (Eq.trans (b := List.map some ([])) rfl rfl) (by decide +kernel) (by decide +kernel) (by simp only [List.map_append, drW_fst, List.map_cons, List.map_nil]) (fun r_19 H locs hr_19 hP hD hS => ?_)
              subst hr_19
              have hb_20 := sn_le (fP := fP) (ln := ln) (po := (n_X5_order_0_8 fP ln p_ w_)) (wz := (n_X5_order_0_9 fP ln p_ w_)) (xl := 59) (xh := 59) (by decide) hln (by omega)
              refine lv_istore (lv' := [(5, .int (r_X5_sign fP ln (n_X5_order_0_8 fP ln p_ w_))), (3, .int 1), (2, .int 0), (4, .int 0), (0, .ref oM), (1, .int 0)]) hx hb dX5_go_98  hl (by decide) rfl (fun ls hl => ?_)
              refine lv_aload_n hx hb dX5_go_100 rfl (lv_at hl 4 rfl) ?_
              refine va_get (D := D) (ci := 5) (v := .int (nI (n_X5_sign_0_9 fP ln (n_X5_order_0_8 fP ln p_ w_) (n_X5_order_0_9 fP ln p_ w_) 59 59))) (C := RX5) (T := TX5) (N := 13) hx hb hts hin5 hown hK hP 0 rfl rfl 9 (by decide) (hts _ (List.mem_of_getElem? (i := 2) rfl)) (fun _ h9 => h9) rfl dX5_go_101 ?_
              refine lv_if_ne (tgt := 111) hx hb dX5_go_104 (by decide) (fun c_21 => ?_) (fun c_21 => ?_)
              · skip
                refine lv_iconst (v := 0) hx hb dX5_go_111 (by decide) ?_
                refine lv_istore_n (lv' := [(3, .int 0), (5, .int (r_X5_sign fP ln (n_X5_order_0_8 fP ln p_ w_))), (2, .int 0), (4, .int 0), (0, .ref oM), (1, .int 0)]) hx hb dX5_go_112 rfl hl (by decide) rfl (fun ls hl => ?_)
                refine lv_goto (tgt := 14) hx hb dX5_go_113 (by decide) ?_
                exact ih 0 (q + 1) (n_X5_sign_0_8 fP ln (n_X5_order_0_8 fP ln p_ w_) (n_X5_order_0_9 fP ln p_ w_) 59 59) (n_X5_sign_0_9 fP ln (n_X5_order_0_8 fP ln p_ w_) (n_X5_order_0_9 fP ln p_ w_) 59 59) (n_X5_order_0_10 fP ln p_) (n_X5_order_0_11 fP ln p_ w_) (n_X5_order_0_12 fP ln p_ w_) (by omega) (by omega) (Or.inl rfl) (by omega) (by omega) (by rw [← hinv, show 82 - q = (82 - (q + 1)) + 1 by omega, goI_s, if_neg c_2, if_pos c_12, if_neg c_16, if_neg c_21]) _ _ _ hP hD hS (lv_sub hl [0, 2, 4, 5] rfl)
              · skip
                refine lv_iconst (v := 1) hx hb dX5_go_107 (by decide) ?_
                refine lv_goto (tgt := 112) hx hb dX5_go_108 (by decide) ?_
                refine lv_istore_n (lv' := [(3, .int 1), (5, .int (r_X5_sign fP ln (n_X5_order_0_8 fP ln p_ w_))), (2, .int 0), (4, .int 0), (0, .ref oM), (1, .int 0)]) hx hb dX5_go_112 rfl hl (by decide) rfl (fun ls hl => ?_)
                refine lv_goto (tgt := 14) hx hb dX5_go_113 (by decide) ?_
                exact ih 1 (q + 1) (n_X5_sign_0_8 fP ln (n_X5_order_0_8 fP ln p_ w_) (n_X5_order_0_9 fP ln p_ w_) 59 59) (n_X5_sign_0_9 fP ln (n_X5_order_0_8 fP ln p_ w_) (n_X5_order_0_9 fP ln p_ w_) 59 59) (n_X5_order_0_10 fP ln p_) (n_X5_order_0_11 fP ln p_ w_) (n_X5_order_0_12 fP ln p_ w_) (by omega) (by have := sn_1 c_21; omega) (Or.inr (by have := sn_1 c_21; omega)) (by omega) (by omega) (by rw [← hinv, show 82 - q = (82 - (q + 1)) + 1 by omega, goI_s, if_neg c_2, if_pos c_12, if_neg c_16, if_pos c_21]) _ _ _ hP hD hS (lv_sub hl [0, 2, 4, 5] rfl)
    exact L_1 _ 1 0 0 0 le on tw (Nat.lt_succ_self _) (by omega) (Or.inr (by omega)) (by omega) (by omega) rfl H locs ls hP hD hS (lv_sub hl [0, 1, 2, 3] rfl)
  exact K0 s.heap [] ls hP hD hS hl
def r_X5_fault (fP : Nat → Int32) (ln : Nat) (le : Int32) (on : Int32) (tw : Int32) : Int32 := (if (nI (n_X5_go_0_0_9 fP ln le on tw)) = 0 then (-6) else (nI (n_X5_go_0_0_8 fP ln le on tw)))
def n_X5_fault_0_8 (fP : Nat → Int32) (ln : Nat) (le : Int32) (on : Int32) (tw : Int32) : Nat := (n_X5_go_0_0_8 fP ln le on tw)
def n_X5_fault_0_9 (fP : Nat → Int32) (ln : Nat) (le : Int32) (on : Int32) (tw : Int32) : Nat := (n_X5_go_0_0_9 fP ln le on tw)
def n_X5_fault_0_10 (fP : Nat → Int32) (ln : Nat) (le : Int32) (on : Int32) (tw : Int32) : Int32 := (n_X5_go_0_0_10 fP ln le on tw)
def n_X5_fault_0_11 (fP : Nat → Int32) (ln : Nat) (le : Int32) (on : Int32) (tw : Int32) : Int32 := (n_X5_go_0_0_11 fP ln le on tw)
def n_X5_fault_0_12 (fP : Nat → Int32) (ln : Nat) (le : Int32) (on : Int32) (tw : Int32) : Int32 := (n_X5_go_0_0_12 fP ln le on tw)
set_option maxHeartbeats 4000000 in
set_option maxRecDepth 100000 in
theorem c_X5_fault (l : Launch) (D : va_G) (K : Nat → ClassId) (oM : Nat) (aS : Nat) (aA : Nat) (aB : Nat) (aT : Nat) (aV : Nat) (aP : Nat) (fP : Nat → Int32) (kn : Nat) (ln : Nat) (po : Nat) (wz : Nat) (le : Int32) (on : Int32) (tw : Int32) (hln : ln ≤ 80) : Met l yX5_fault wsX5_fault ({ frames := 5, cells := 0, slots := 0, locals := 114 }) (va_Pc [.ref oM] (fun U => Bd D K U ∧ va_P D vwCl [(oM, .inr (5, [.ref aS, .ref aA, .ref aB, .int (nI kn), .ref aT, .ref aV, .ref aP, .int (nI ln), .int (nI po), .int (nI wz), .int le, .int on, .int tw])), (aP, .inl (K 0, 80, .inl fP))] U.heap ∧ va_D (fun _ => True) [(oM, .inr (5, [.ref aS, .ref aA, .ref aB, .int (nI kn), .ref aT, .ref aV, .ref aP, .int (nI ln), .int (nI po), .int (nI wz), .int le, .int on, .int tw])), (aP, .inl (K 0, 80, .inl fP))])) (va_Qi (fun r (_ : Unit) => r = (r_X5_fault fP ln le on tw)) (fun _ t => va_P D vwCl [(oM, .inr (5, [.ref aS, .ref aA, .ref aB, .int (nI kn), .ref aT, .ref aV, .ref aP, .int (nI ln), .int (nI (n_X5_fault_0_8 fP ln le on tw)), .int (nI (n_X5_fault_0_9 fP ln le on tw)), .int (n_X5_fault_0_10 fP ln le on tw), .int (n_X5_fault_0_11 fP ln le on tw), .int (n_X5_fault_0_12 fP ln le on tw)])), (aP, .inl (K 0, 80, .inl fP))] t.heap) (inW [(oM, .inr (5, [.ref aS, .ref aA, .ref aB, .int (nI kn), .ref aT, .ref aV, .ref aP, .int (nI ln), .int (nI po), .int (nI wz), .int le, .int on, .int tw])), (aP, .inl (K 0, 80, .inl fP))])) 0 0 (inW [(oM, .inr (5, [.ref aS, .ref aA, .ref aB, .int (nI kn), .ref aT, .ref aV, .ref aP, .int (nI ln), .int (nI po), .int (nI wz), .int le, .int on, .int tw])), (aP, .inl (K 0, 80, .inl fP))]) := by
  refine Met.ofW (cc := cX5_fault) (maxL := 2) (ret := (some .int)) (by decide) rfl ?_
  intro p e s m args below meth c s₁ B hml hv
  obtain ⟨rfl, hbd, hP, hD0⟩ := hv
  have hx := B.exec
  have hb := B.bytes
  have hr := B.returns
  have hts := atoms_spec (ws := wsX5_fault) B.pre
  have hown : s.vm.findClass RX5 = some m.cls := findClass_of_methodNamed B.named
  have hlocks := B.notSynchronized
  have hK := hbd.2
  have hP : va_P D vwCl [(oM, .inr (5, [.ref aS, .ref aA, .ref aB, .int (nI kn), .ref aT, .ref aV, .ref aP, .int (nI ln), .int (nI po), .int (nI wz), .int le, .int on, .int tw])), (aP, .inl (K 0, 80, .inl fP))] s.heap := hP
  have hin5 : ∀ w ∈ wsX50, w ∈ wsX5_fault := by decide +kernel
  have hD := hD0.own
  generalize hAe : inW [(oM, .inr (5, [.ref aS, .ref aA, .ref aB, .int (nI kn), .ref aT, .ref aV, .ref aP, .int (nI ln), .int (nI po), .int (nI wz), .int le, .int on, .int tw])), (aP, .inl (K 0, 80, .inl fP))] = A at hD ⊢
  have hS : va_S A s.heap s.heap [] := va_S.rf
  have hl := lv_entry ([.ref oM]) (n := 2) (Nat.le_of_ble_eq_true rfl)
  rw [lg_entry_eq]
  generalize (lg_sl ([.ref oM]) ++ List.replicate (2 - (lg_sl ([.ref oM])).length) Slot.unset).toArray = ls at hl ⊢
  have hl : lv_has ls 2 [(0, .ref oM)] := hl
  have K0 : ∀ (H : Heap) (locs : List Loc) (ls : Array Slot), va_P D vwCl [(oM, .inr (5, [.ref aS, .ref aA, .ref aB, .int (nI kn), .ref aT, .ref aV, .ref aP, .int (nI ln), .int (nI po), .int (nI wz), .int le, .int on, .int tw])), (aP, .inl (K 0, 80, .inl fP))] H → va_D A [(oM, .inr (5, [.ref aS, .ref aA, .ref aB, .int (nI kn), .ref aT, .ref aV, .ref aP, .int (nI ln), .int (nI po), .int (nI wz), .int le, .int on, .int tw])), (aP, .inl (K 0, 80, .inl fP))] → va_S A s.heap H locs → lv_has ls 2 [(0, .ref oM)] → W p l e (headSpec wsX5_fault ({ frames := 5, cells := 0, slots := 0, locals := 114 })).room s m ([.ref oM] : List Value).toArray below meth c H locs 0 0 (MQ below (va_Qi (fun r (_ : Unit) => r = (r_X5_fault fP ln le on tw)) (fun _ t => va_P D vwCl [(oM, .inr (5, [.ref aS, .ref aA, .ref aB, .int (nI kn), .ref aT, .ref aV, .ref aP, .int (nI ln), .int (nI (n_X5_fault_0_8 fP ln le on tw)), .int (nI (n_X5_fault_0_9 fP ln le on tw)), .int (n_X5_fault_0_10 fP ln le on tw), .int (n_X5_fault_0_11 fP ln le on tw), .int (n_X5_fault_0_12 fP ln le on tw)])), (aP, .inl (K 0, 80, .inl fP))] t.heap) A) ([.ref oM] : List Value).toArray s 0 0 A) (F0 m 0 ls []) := by
    intro H locs ls hP hD hS hl
    refine lv_aload_n hx hb dX5_fault_0 rfl (lv_at hl 0 rfl) ?_
    refine lv_iconst (v := 0) hx hb dX5_fault_1 (by decide) ?_
    have hPc := hP.sub (ws' := [(oM, .inr (5, [.ref aS, .ref aA, .ref aB, .int (nI kn), .ref aT, .ref aV, .ref aP, .int (nI ln), .int (nI po), .int (nI wz), .int le, .int on, .int tw])), (aP, .inl (K 0, 80, .inl fP))]) [0, 1] rfl
    have hDc : va_D (fun _ => True) [(oM, .inr (5, [.ref aS, .ref aA, .ref aB, .int (nI kn), .ref aT, .ref aV, .ref aP, .int (nI ln), .int (nI po), .int (nI wz), .int le, .int on, .int tw])), (aP, .inl (K 0, 80, .inl fP))] := (hD.sub (ws' := [(oM, .inr (5, [.ref aS, .ref aA, .ref aB, .int (nI kn), .ref aT, .ref aV, .ref aP, .int (nI ln), .int (nI po), .int (nI wz), .int le, .int on, .int tw])), (aP, .inl (K 0, 80, .inl fP))]) [0, 1] (by decide +kernel) rfl).weaken (fun _ _ _ _ => trivial)
    refine kw_i (W1 := [(oM, .inr (5, [.ref aS, .ref aA, .ref aB, .int (nI kn), .ref aT, .ref aV, .ref aP, .int (nI ln), .int (nI (n_X5_go_0_0_8 fP ln le on tw)), .int (nI (n_X5_go_0_0_9 fP ln le on tw)), .int (n_X5_go_0_0_10 fP ln le on tw), .int (n_X5_go_0_0_11 fP ln le on tw), .int (n_X5_go_0_0_12 fP ln le on tw)])), (aP, .inl (K 0, 80, .inl fP))]) (w1 := [(oM, .inr (5, [.ref aS, .ref aA, .ref aB, .int (nI kn), .ref aT, .ref aV, .ref aP, .int (nI ln), .int (nI (n_X5_go_0_0_8 fP ln le on tw)), .int (nI (n_X5_go_0_0_9 fP ln le on tw)), .int (n_X5_go_0_0_10 fP ln le on tw), .int (n_X5_go_0_0_11 fP ln le on tw), .int (n_X5_go_0_0_12 fP ln le on tw)])), (aP, .inl (K 0, 80, .inl fP))]) (va_runV (As := [.int 0]) (rest := []) ⟨hx, hb, hml, hown, hts⟩ (c_X5_go_0 l D K oM aS aA aB aT aV aP fP kn ln po wz le on tw hln) (cwV 1 hts gX5_fault_X5_go rfl rfl rfl (by decide +kernel) ⟨Nat.le_of_ble_eq_true rfl, Nat.le_of_ble_eq_true rfl⟩) (pre_wr hbd hPc hDc (ci := 5) (q0 := 0) rfl rfl) rfl rfl hl.1 rfl (lv_room (Nat.le_of_ble_eq_true rfl)) dX5_fault_2 ⟨Nat.zero_le _, Nat.zero_le _⟩) hP hD hS [0, 1] [] 2 rfl rfl rfl (Eq.trans (b := List.map some ([])) rfl rfl) (by decide +kernel) (by decide +kernel) (by simp only [List.map_append, drW_fst, List.map_cons, List.map_nil]) (fun r_1 H locs hr_1 hP hD hS => ?_)
    subst hr_1
    refine lv_istore_n (lv' := [(1, .int 0), (0, .ref oM)]) hx hb dX5_fault_5 rfl hl (by decide) rfl (fun ls hl => ?_)
    refine lv_aload_n hx hb dX5_fault_6 rfl (lv_at hl 1 rfl) ?_
    refine va_get (D := D) (ci := 5) (v := .int (nI (n_X5_go_0_0_9 fP ln le on tw))) (C := RX5) (T := TX5) (N := 13) hx hb hts hin5 hown hK hP 0 rfl rfl 9 (by decide) (hts _ (List.mem_of_getElem? (i := 1) rfl)) (fun _ h9 => h9) rfl dX5_fault_7 ?_
    refine lv_if_eq (tgt := 20) hx hb dX5_fault_10 (by decide) (fun c_2 => ?_) (fun c_2 => ?_)
    · skip
      refine lv_bipush (v := (-6)) hx hb dX5_fault_20 (by decide) ?_
      have e_3 : n_X5_fault_0_8 fP ln le on tw = (n_X5_go_0_0_8 fP ln le on tw) := rfl
      have e_4 : n_X5_fault_0_9 fP ln le on tw = (n_X5_go_0_0_9 fP ln le on tw) := rfl
      have e_5 : n_X5_fault_0_10 fP ln le on tw = (n_X5_go_0_0_10 fP ln le on tw) := rfl
      have e_6 : n_X5_fault_0_11 fP ln le on tw = (n_X5_go_0_0_11 fP ln le on tw) := rfl
      have e_7 : n_X5_fault_0_12 fP ln le on tw = (n_X5_go_0_0_12 fP ln le on tw) := rfl
      have hPf : va_P D vwCl [(oM, .inr (5, [.ref aS, .ref aA, .ref aB, .int (nI kn), .ref aT, .ref aV, .ref aP, .int (nI ln), .int (nI (n_X5_fault_0_8 fP ln le on tw)), .int (nI (n_X5_fault_0_9 fP ln le on tw)), .int (n_X5_fault_0_10 fP ln le on tw), .int (n_X5_fault_0_11 fP ln le on tw), .int (n_X5_fault_0_12 fP ln le on tw)])), (aP, .inl (K 0, 80, .inl fP))] H := (by rw [e_3, e_4, e_5, e_6, e_7]; exact hP)
      exact W.iret hx hb hr (fun t ht hW => ⟨⟨_, (), rfl, (by unfold r_X5_fault; rw [if_pos c_2]), by show va_P D vwCl _ t.heap; rw [ht]; exact hPf⟩, hS.F ht⟩) hS.2.2 dX5_fault_22
    · skip
      refine lv_aload_n hx hb dX5_fault_13 rfl (lv_at hl 1 rfl) ?_
      refine va_get (D := D) (ci := 5) (v := .int (nI (n_X5_go_0_0_8 fP ln le on tw))) (C := RX5) (T := TX5) (N := 13) hx hb hts hin5 hown hK hP 0 rfl rfl 8 (by decide) (hts _ (List.mem_of_getElem? (i := 2) rfl)) (fun _ h9 => h9) rfl dX5_fault_14 ?_
      refine lv_goto (tgt := 22) hx hb dX5_fault_17 (by decide) ?_
      have e_8 : n_X5_fault_0_8 fP ln le on tw = (n_X5_go_0_0_8 fP ln le on tw) := rfl
      have e_9 : n_X5_fault_0_9 fP ln le on tw = (n_X5_go_0_0_9 fP ln le on tw) := rfl
      have e_10 : n_X5_fault_0_10 fP ln le on tw = (n_X5_go_0_0_10 fP ln le on tw) := rfl
      have e_11 : n_X5_fault_0_11 fP ln le on tw = (n_X5_go_0_0_11 fP ln le on tw) := rfl
      have e_12 : n_X5_fault_0_12 fP ln le on tw = (n_X5_go_0_0_12 fP ln le on tw) := rfl
      have hPf : va_P D vwCl [(oM, .inr (5, [.ref aS, .ref aA, .ref aB, .int (nI kn), .ref aT, .ref aV, .ref aP, .int (nI ln), .int (nI (n_X5_fault_0_8 fP ln le on tw)), .int (nI (n_X5_fault_0_9 fP ln le on tw)), .int (n_X5_fault_0_10 fP ln le on tw), .int (n_X5_fault_0_11 fP ln le on tw), .int (n_X5_fault_0_12 fP ln le on tw)])), (aP, .inl (K 0, 80, .inl fP))] H := (by rw [e_8, e_9, e_10, e_11, e_12]; exact hP)
      exact W.iret hx hb hr (fun t ht hW => ⟨⟨_, (), rfl, (by unfold r_X5_fault; rw [if_neg c_2]), by show va_P D vwCl _ t.heap; rw [ht]; exact hPf⟩, hS.F ht⟩) hS.2.2 dX5_fault_22
  exact K0 s.heap [] ls hP hD hS hl
def ptI (xl : Int64) : Nat → Nat → Nat → Nat → (Nat × Nat × Nat)
  | 0, m_, b_, q => (m_, b_, q)
  | fu_ + 1, m_, b_, q => (if 8 ≤ (nI q) then (m_, b_, q) else (if (nI q) ≤ 0 then (if (nI b_) = 0 then (if (r_X5_in (((xl.toUInt64 >>> ((nI (8 * q)).toInt64.toUInt64 &&& Int64.toUInt64 63)).toInt64 &&& 255).toInt32) 33 126) = 0 then (ptI xl fu_ (m_ + 1) 1 (q + 1)) else (ptI xl fu_ (m_ + 1) 0 (q + 1))) else (ptI xl fu_ (m_ + 1) 1 (q + 1))) else (if (lg_cmp ((xl.toUInt64 >>> ((nI (8 * q)).toInt64.toUInt64 &&& Int64.toUInt64 63)).toInt64) 0) = 0 then (if (nI b_) = 0 then (ptI xl fu_ m_ 0 (q + 1)) else (ptI xl fu_ m_ 1 (q + 1))) else (if (nI b_) = 0 then (if (r_X5_in (((xl.toUInt64 >>> ((nI (8 * q)).toInt64.toUInt64 &&& Int64.toUInt64 63)).toInt64 &&& 255).toInt32) 33 126) = 0 then (ptI xl fu_ (m_ + 1) 1 (q + 1)) else (ptI xl fu_ (m_ + 1) 0 (q + 1))) else (ptI xl fu_ (m_ + 1) 1 (q + 1))))))
theorem ptI_s (xl : Int64) (fu_ : Nat) (m_ : Nat) (b_ : Nat) (q : Nat) : ptI xl (fu_ + 1) m_ b_ q = (if 8 ≤ (nI q) then (m_, b_, q) else (if (nI q) ≤ 0 then (if (nI b_) = 0 then (if (r_X5_in (((xl.toUInt64 >>> ((nI (8 * q)).toInt64.toUInt64 &&& Int64.toUInt64 63)).toInt64 &&& 255).toInt32) 33 126) = 0 then (ptI xl fu_ (m_ + 1) 1 (q + 1)) else (ptI xl fu_ (m_ + 1) 0 (q + 1))) else (ptI xl fu_ (m_ + 1) 1 (q + 1))) else (if (lg_cmp ((xl.toUInt64 >>> ((nI (8 * q)).toInt64.toUInt64 &&& Int64.toUInt64 63)).toInt64) 0) = 0 then (if (nI b_) = 0 then (ptI xl fu_ m_ 0 (q + 1)) else (ptI xl fu_ m_ 1 (q + 1))) else (if (nI b_) = 0 then (if (r_X5_in (((xl.toUInt64 >>> ((nI (8 * q)).toInt64.toUInt64 &&& Int64.toUInt64 63)).toInt64 &&& 255).toInt32) 33 126) = 0 then (ptI xl fu_ (m_ + 1) 1 (q + 1)) else (ptI xl fu_ (m_ + 1) 0 (q + 1))) else (ptI xl fu_ (m_ + 1) 1 (q + 1)))))) := rfl
def ptJ (ln : Nat) (xl : Int64) : Nat → Nat → (Nat → Int32) → (Nat × (Nat → Int32))
  | 0, q, vS => (q, vS)
  | fu_ + 1, q, vS => (if (nI ((ptI xl 8 0 0 0).1)) ≤ (nI q) then (q, vS) else (ptJ ln xl fu_ (q + 1) (upd vS (ln + ((ptI xl 8 0 0 0).1) - 1 - q) (((xl.toUInt64 >>> ((nI (8 * q)).toInt64.toUInt64 &&& Int64.toUInt64 63)).toInt64 &&& 255).toInt32))))
theorem ptJ_s (ln : Nat) (xl : Int64) (fu_ : Nat) (q : Nat) (vS : Nat → Int32) : ptJ ln xl (fu_ + 1) q vS = (if (nI ((ptI xl 8 0 0 0).1)) ≤ (nI q) then (q, vS) else (ptJ ln xl fu_ (q + 1) (upd vS (ln + ((ptI xl 8 0 0 0).1) - 1 - q) (((xl.toUInt64 >>> ((nI (8 * q)).toInt64.toUInt64 &&& Int64.toUInt64 63)).toInt64 &&& 255).toInt32)))) := rfl
def r_X5_put (ln : Nat) (xl : Int64) : Int32 := (if (nI (((ptI xl 8 0 0 0).2).1)) = 0 then (if (nI (ln + ((ptI xl 8 0 0 0).1))) ≤ 80 then (nI (ln + ((ptI xl 8 0 0 0).1))) else (-4)) else (-2))
def n_X5_put_0_7 (ln : Nat) (xl : Int64) : Nat := (if (nI (((ptI xl 8 0 0 0).2).1)) = 0 then (if (nI (ln + ((ptI xl 8 0 0 0).1))) ≤ 80 then ln + ((ptI xl 8 0 0 0).1) else ln) else ln)
def n_X5_put_1 (fP : Nat → Int32) (ln : Nat) (xl : Int64) : Nat → Int32 := (if (nI (((ptI xl 8 0 0 0).2).1)) = 0 then (if (nI (ln + ((ptI xl 8 0 0 0).1))) ≤ 80 then ((ptJ ln xl 8 0 fP).2) else fP) else fP)
set_option maxHeartbeats 4000000 in
set_option maxRecDepth 100000 in
theorem c_X5_put (l : Launch) (D : va_G) (K : Nat → ClassId) (oM : Nat) (aS : Nat) (aA : Nat) (aB : Nat) (aT : Nat) (aV : Nat) (aP : Nat) (fP : Nat → Int32) (kn : Nat) (ln : Nat) (le : Int32) (on : Int32) (tw : Int32) (po : Int32) (wz : Int32) (xl : Int64) (hln : ln ≤ 80) : Met l yX5_put wsX5_put ({ frames := 1, cells := 0, slots := 0, locals := 22 }) (va_Pc [.ref oM, .long xl] (fun U => Bd D K U ∧ va_P D vwCl [(oM, .inr (5, [.ref aS, .ref aA, .ref aB, .int (nI kn), .ref aT, .ref aV, .ref aP, .int (nI ln), .int po, .int wz, .int le, .int on, .int tw])), (aP, .inl (K 0, 80, .inl fP))] U.heap ∧ va_D (fun _ => True) [(oM, .inr (5, [.ref aS, .ref aA, .ref aB, .int (nI kn), .ref aT, .ref aV, .ref aP, .int (nI ln), .int po, .int wz, .int le, .int on, .int tw])), (aP, .inl (K 0, 80, .inl fP))])) (va_Qi (fun r (_ : Unit) => r = (r_X5_put ln xl)) (fun _ t => va_P D vwCl [(oM, .inr (5, [.ref aS, .ref aA, .ref aB, .int (nI kn), .ref aT, .ref aV, .ref aP, .int (nI (n_X5_put_0_7 ln xl)), .int po, .int wz, .int le, .int on, .int tw])), (aP, .inl (K 0, 80, .inl (n_X5_put_1 fP ln xl)))] t.heap) (inW [(oM, .inr (5, [.ref aS, .ref aA, .ref aB, .int (nI kn), .ref aT, .ref aV, .ref aP, .int (nI ln), .int po, .int wz, .int le, .int on, .int tw])), (aP, .inl (K 0, 80, .inl fP))])) 0 0 (inW [(oM, .inr (5, [.ref aS, .ref aA, .ref aB, .int (nI kn), .ref aT, .ref aV, .ref aP, .int (nI ln), .int po, .int wz, .int le, .int on, .int tw])), (aP, .inl (K 0, 80, .inl fP))]) := by
  refine Met.ofW (cc := cX5_put) (maxL := 8) (ret := (some .int)) (by decide) rfl ?_
  intro p e s m args below meth c s₁ B hml hv
  obtain ⟨rfl, hbd, hP, hD0⟩ := hv
  have hx := B.exec
  have hb := B.bytes
  have hr := B.returns
  have hts := atoms_spec (ws := wsX5_put) B.pre
  have hown : s.vm.findClass RX5 = some m.cls := findClass_of_methodNamed B.named
  have hlocks := B.notSynchronized
  have hK := hbd.2
  have hP : va_P D vwCl [(oM, .inr (5, [.ref aS, .ref aA, .ref aB, .int (nI kn), .ref aT, .ref aV, .ref aP, .int (nI ln), .int po, .int wz, .int le, .int on, .int tw])), (aP, .inl (K 0, 80, .inl fP))] s.heap := hP
  have hin5 : ∀ w ∈ wsX50, w ∈ wsX5_put := by decide +kernel
  have hD := hD0.own
  generalize hAe : inW [(oM, .inr (5, [.ref aS, .ref aA, .ref aB, .int (nI kn), .ref aT, .ref aV, .ref aP, .int (nI ln), .int po, .int wz, .int le, .int on, .int tw])), (aP, .inl (K 0, 80, .inl fP))] = A at hD ⊢
  have hS : va_S A s.heap s.heap [] := va_S.rf
  have hl := lv_entry ([.ref oM, .long xl]) (n := 8) (Nat.le_of_ble_eq_true rfl)
  rw [lg_entry_eq]
  generalize (lg_sl ([.ref oM, .long xl]) ++ List.replicate (8 - (lg_sl ([.ref oM, .long xl])).length) Slot.unset).toArray = ls at hl ⊢
  have hl : lv_has ls 8 [(0, .ref oM), (1, .long xl)] := hl
  have K0 : ∀ (H : Heap) (locs : List Loc) (ls : Array Slot), va_P D vwCl [(oM, .inr (5, [.ref aS, .ref aA, .ref aB, .int (nI kn), .ref aT, .ref aV, .ref aP, .int (nI ln), .int po, .int wz, .int le, .int on, .int tw])), (aP, .inl (K 0, 80, .inl fP))] H → va_D A [(oM, .inr (5, [.ref aS, .ref aA, .ref aB, .int (nI kn), .ref aT, .ref aV, .ref aP, .int (nI ln), .int po, .int wz, .int le, .int on, .int tw])), (aP, .inl (K 0, 80, .inl fP))] → va_S A s.heap H locs → lv_has ls 8 [(0, .ref oM), (1, .long xl)] → W p l e (headSpec wsX5_put ({ frames := 1, cells := 0, slots := 0, locals := 22 })).room s m ([.ref oM, .long xl] : List Value).toArray below meth c H locs 0 0 (MQ below (va_Qi (fun r (_ : Unit) => r = (r_X5_put ln xl)) (fun _ t => va_P D vwCl [(oM, .inr (5, [.ref aS, .ref aA, .ref aB, .int (nI kn), .ref aT, .ref aV, .ref aP, .int (nI (n_X5_put_0_7 ln xl)), .int po, .int wz, .int le, .int on, .int tw])), (aP, .inl (K 0, 80, .inl (n_X5_put_1 fP ln xl)))] t.heap) A) ([.ref oM, .long xl] : List Value).toArray s 0 0 A) (F0 m 0 ls []) := by
    intro H locs ls hP hD hS hl
    refine lv_iconst (v := 0) hx hb dX5_put_0 (by decide) ?_
    refine lv_istore_n (lv' := [(3, .int 0), (0, .ref oM), (1, .long xl)]) hx hb dX5_put_1 rfl hl (by decide) rfl (fun ls hl => ?_)
    refine lv_iconst (v := 0) hx hb dX5_put_2 (by decide) ?_
    refine lv_istore (lv' := [(4, .int 0), (3, .int 0), (0, .ref oM), (1, .long xl)]) hx hb dX5_put_3  hl (by decide) rfl (fun ls hl => ?_)
    refine lv_iconst (v := 0) hx hb dX5_put_5 (by decide) ?_
    refine lv_istore (lv' := [(5, .int 0), (4, .int 0), (3, .int 0), (0, .ref oM), (1, .long xl)]) hx hb dX5_put_6  hl (by decide) rfl (fun ls hl => ?_)
    have L_1 : ∀ (nf : Nat) (m_ : Nat) (b_ : Nat) (q : Nat), 8 - q < nf → q ≤ 8 → m_ ≤ q → b_ ≤ 1 → ptI xl (8 - q) m_ b_ q = (ptI xl 8 0 0 0) → ∀ (H : Heap) (locs : List Loc) (ls : Array Slot), va_P D vwCl [(oM, .inr (5, [.ref aS, .ref aA, .ref aB, .int (nI kn), .ref aT, .ref aV, .ref aP, .int (nI ln), .int po, .int wz, .int le, .int on, .int tw])), (aP, .inl (K 0, 80, .inl fP))] H → va_D A [(oM, .inr (5, [.ref aS, .ref aA, .ref aB, .int (nI kn), .ref aT, .ref aV, .ref aP, .int (nI ln), .int po, .int wz, .int le, .int on, .int tw])), (aP, .inl (K 0, 80, .inl fP))] → va_S A s.heap H locs → lv_has ls 8 [(5, .int (nI q)), (4, .int (nI b_)), (3, .int (nI m_)), (0, .ref oM), (1, .long xl)] → W p l e (headSpec wsX5_put ({ frames := 1, cells := 0, slots := 0, locals := 22 })).room s m ([.ref oM, .long xl] : List Value).toArray below meth c H locs 0 0 (MQ below (va_Qi (fun r (_ : Unit) => r = (r_X5_put ln xl)) (fun _ t => va_P D vwCl [(oM, .inr (5, [.ref aS, .ref aA, .ref aB, .int (nI kn), .ref aT, .ref aV, .ref aP, .int (nI (n_X5_put_0_7 ln xl)), .int po, .int wz, .int le, .int on, .int tw])), (aP, .inl (K 0, 80, .inl (n_X5_put_1 fP ln xl)))] t.heap) A) ([.ref oM, .long xl] : List Value).toArray s 0 0 A) (F0 m 8 ls []) := by
      intro nf
      induction nf with
      | zero =>
        intro m_ b_ q hm
        exact absurd hm (Nat.not_lt_zero _)
      | succ nf ih =>
        intro m_ b_ q hm hq hm_ hb_ hinv H locs ls hP hD hS hl
        refine lv_iload hx hb dX5_put_8 (lv_at hl 0 rfl) ?_
        refine lv_bipush (v := 8) hx hb dX5_put_10 (by decide) ?_
        refine lv_icmp_ge (tgt := 101) hx hb dX5_put_12 (by decide) (fun c_2 => ?_) (fun c_2 => ?_)
        · skip
          have nc_2 := (nI_leI (a := 8) (b := q) (by omega) (by omega)).mp c_2
          have e9 : (m_, b_, q) = (ptI xl 8 0 0 0) := by
            rw [← hinv]
            rcases (show 8 - q = 0 ∨ 8 - q = (8 - q - 1) + 1 by omega) with h9 | h9
            · first | (exfalso; omega) | (rw [h9]; rfl)
            · rw [h9, ptI_s, if_pos c_2]
          have f9_m_ : m_ = ((ptI xl 8 0 0 0).1) := by rw [← e9]
          have f9_b_ : b_ = (((ptI xl 8 0 0 0).2).1) := by rw [← e9]
          have f9_q : q = (((ptI xl 8 0 0 0).2).2) := by rw [← e9]
          subst f9_m_
          subst f9_b_
          subst f9_q
          refine lv_iload hx hb dX5_put_101 (lv_at hl 1 rfl) ?_
          refine lv_if_eq (tgt := 109) hx hb dX5_put_103 (by decide) (fun c_3 => ?_) (fun c_3 => ?_)
          · skip
            have nc_3 := (nI_eq (a := (((ptI xl 8 0 0 0).2).1)) (b := 0) (by omega) (by omega)).mp c_3
            refine lv_aload_n hx hb dX5_put_109 rfl (lv_at hl 3 rfl) ?_
            refine va_get (D := D) (ci := 5) (v := .int (nI ln)) (C := RX5) (T := TX5) (N := 13) hx hb hts hin5 hown hK hP 0 rfl rfl 7 (by decide) (hts _ (List.mem_of_getElem? (i := 2) rfl)) (fun _ h9 => h9) rfl dX5_put_110 ?_
            refine lv_iload_n hx hb dX5_put_113 rfl (lv_at hl 2 rfl) ?_
            refine lv_iadd hx hb dX5_put_114 ?_
            refine st1 (nI_add ln ((ptI xl 8 0 0 0).1)) ?_
            refine lv_bipush (v := 80) hx hb dX5_put_115 (by decide) ?_
            refine lv_icmp_le (tgt := 123) hx hb dX5_put_117 (by decide) (fun c_4 => ?_) (fun c_4 => ?_)
            · skip
              have nc_4 := (nI_leI (a := (ln + ((ptI xl 8 0 0 0).1))) (b := 80) (by omega) (by omega)).mp c_4
              refine lv_iconst (v := 0) hx hb dX5_put_123 (by decide) ?_
              refine lv_istore (lv' := [(5, .int 0), (4, .int (nI (((ptI xl 8 0 0 0).2).1))), (3, .int (nI ((ptI xl 8 0 0 0).1))), (0, .ref oM), (1, .long xl)]) hx hb dX5_put_124  hl (by decide) rfl (fun ls hl => ?_)
              have L_5 : ∀ (nf : Nat) (q : Nat) (vS : Nat → Int32), 8 - q < nf → q ≤ 8 → ptJ ln xl (8 - q) q vS = (ptJ ln xl 8 0 fP) → ∀ (H : Heap) (locs : List Loc) (ls : Array Slot), va_P D vwCl [(oM, .inr (5, [.ref aS, .ref aA, .ref aB, .int (nI kn), .ref aT, .ref aV, .ref aP, .int (nI ln), .int po, .int wz, .int le, .int on, .int tw])), (aP, .inl (K 0, 80, .inl vS))] H → va_D A [(oM, .inr (5, [.ref aS, .ref aA, .ref aB, .int (nI kn), .ref aT, .ref aV, .ref aP, .int (nI ln), .int po, .int wz, .int le, .int on, .int tw])), (aP, .inl (K 0, 80, .inl vS))] → va_S A s.heap H locs → lv_has ls 8 [(5, .int (nI q)), (4, .int (nI (((ptI xl 8 0 0 0).2).1))), (3, .int (nI ((ptI xl 8 0 0 0).1))), (0, .ref oM), (1, .long xl)] → W p l e (headSpec wsX5_put ({ frames := 1, cells := 0, slots := 0, locals := 22 })).room s m ([.ref oM, .long xl] : List Value).toArray below meth c H locs 0 0 (MQ below (va_Qi (fun r (_ : Unit) => r = (r_X5_put ln xl)) (fun _ t => va_P D vwCl [(oM, .inr (5, [.ref aS, .ref aA, .ref aB, .int (nI kn), .ref aT, .ref aV, .ref aP, .int (nI (n_X5_put_0_7 ln xl)), .int po, .int wz, .int le, .int on, .int tw])), (aP, .inl (K 0, 80, .inl (n_X5_put_1 fP ln xl)))] t.heap) A) ([.ref oM, .long xl] : List Value).toArray s 0 0 A) (F0 m 126 ls []) := by
                intro nf
                induction nf with
                | zero =>
                  intro q vS hm
                  exact absurd hm (Nat.not_lt_zero _)
                | succ nf ih =>
                  intro q vS hm hq2 hinv H locs ls hP hD hS hl
                  refine lv_iload hx hb dX5_put_126 (lv_at hl 0 rfl) ?_
                  refine lv_iload_n hx hb dX5_put_128 rfl (lv_at hl 2 rfl) ?_
                  refine lv_icmp_ge (tgt := 166) hx hb dX5_put_129 (by decide) (fun c_6 => ?_) (fun c_6 => ?_)
                  · skip
                    have nc_6 := (nI_leI (a := ((ptI xl 8 0 0 0).1)) (b := q) (by omega) (by omega)).mp c_6
                    have e9 : (q, vS) = (ptJ ln xl 8 0 fP) := by
                      rw [← hinv]
                      rcases (show 8 - q = 0 ∨ 8 - q = (8 - q - 1) + 1 by omega) with h9 | h9
                      · first | (exfalso; omega) | (rw [h9]; rfl)
                      · rw [h9, ptJ_s, if_pos c_6]
                    have f9_q : q = ((ptJ ln xl 8 0 fP).1) := by rw [← e9]
                    have f9_vS : vS = ((ptJ ln xl 8 0 fP).2) := by rw [← e9]
                    subst f9_q
                    subst f9_vS
                    refine lv_aload_n hx hb dX5_put_166 rfl (lv_at hl 3 rfl) ?_
                    refine lv_dup hx hb dX5_put_167 rfl ?_
                    refine va_get (D := D) (ci := 5) (v := .int (nI ln)) (C := RX5) (T := TX5) (N := 13) hx hb hts hin5 hown hK hP 0 rfl rfl 7 (by decide) (hts _ (List.mem_of_getElem? (i := 2) rfl)) (fun _ h9 => h9) rfl dX5_put_168 ?_
                    refine lv_iload_n hx hb dX5_put_171 rfl (lv_at hl 2 rfl) ?_
                    refine lv_iadd hx hb dX5_put_172 ?_
                    refine st1 (nI_add ln ((ptI xl 8 0 0 0).1)) ?_
                    refine va_put (D := D) (ci := 5) (v := .int (nI (ln + ((ptI xl 8 0 0 0).1)))) (ty := .int) (C := RX5) (T := TX5) (N := 13) hx hb hts hin5 tyX5 tyX5_ok nmX5 hown hK hP hD hS 0 rfl rfl 7 (by decide) (hts _ (List.mem_of_getElem? (i := 2) rfl)) (fun _ h9 => h9) rfl (by decide +kernel) rfl rfl (Nat.le_of_ble_eq_true rfl) dX5_put_173 (fun H locs hP hD hS => ?_)
                    have hP : va_P D vwCl [(oM, .inr (5, [.ref aS, .ref aA, .ref aB, .int (nI kn), .ref aT, .ref aV, .ref aP, .int (nI (ln + ((ptI xl 8 0 0 0).1))), .int po, .int wz, .int le, .int on, .int tw])), (aP, .inl (K 0, 80, .inl ((ptJ ln xl 8 0 fP).2)))] H := hP
                    have hD : va_D A [(oM, .inr (5, [.ref aS, .ref aA, .ref aB, .int (nI kn), .ref aT, .ref aV, .ref aP, .int (nI (ln + ((ptI xl 8 0 0 0).1))), .int po, .int wz, .int le, .int on, .int tw])), (aP, .inl (K 0, 80, .inl ((ptJ ln xl 8 0 fP).2)))] := hD
                    refine lv_aload_n hx hb dX5_put_176 rfl (lv_at hl 3 rfl) ?_
                    refine va_get (D := D) (ci := 5) (v := .int (nI (ln + ((ptI xl 8 0 0 0).1)))) (C := RX5) (T := TX5) (N := 13) hx hb hts hin5 hown hK hP 0 rfl rfl 7 (by decide) (hts _ (List.mem_of_getElem? (i := 2) rfl)) (fun _ h9 => h9) rfl dX5_put_177 ?_
                    have e_7 : n_X5_put_0_7 ln xl = ln + ((ptI xl 8 0 0 0).1) := by unfold n_X5_put_0_7; rw [if_pos c_3, if_pos c_4]
                    have e_8 : n_X5_put_1 fP ln xl = ((ptJ ln xl 8 0 fP).2) := by unfold n_X5_put_1; rw [if_pos c_3, if_pos c_4]
                    have hPf : va_P D vwCl [(oM, .inr (5, [.ref aS, .ref aA, .ref aB, .int (nI kn), .ref aT, .ref aV, .ref aP, .int (nI (n_X5_put_0_7 ln xl)), .int po, .int wz, .int le, .int on, .int tw])), (aP, .inl (K 0, 80, .inl (n_X5_put_1 fP ln xl)))] H := (by rw [e_7, e_8]; exact hP)
                    exact W.iret hx hb hr (fun t ht hW => ⟨⟨_, (), rfl, (by unfold r_X5_put; rw [if_pos c_3, if_pos c_4]), by show va_P D vwCl _ t.heap; rw [ht]; exact hPf⟩, hS.F ht⟩) hS.2.2 dX5_put_180
                  · skip
                    have nc_6 : ¬ (((ptI xl 8 0 0 0).1) ≤ q) := fun h => c_6 ((nI_leI (a := ((ptI xl 8 0 0 0).1)) (b := q) (by omega) (by omega)).mpr h)
                    refine lv_aload_n hx hb dX5_put_132 rfl (lv_at hl 3 rfl) ?_
                    refine va_get (D := D) (ci := 5) (v := .ref aP) (C := RX5) (T := TX5) (N := 13) hx hb hts hin5 hown hK hP 0 rfl rfl 6 (by decide) (hts _ (List.mem_of_getElem? (i := 3) rfl)) (fun _ h9 => h9) rfl dX5_put_133 ?_
                    refine lv_aload_n hx hb dX5_put_136 rfl (lv_at hl 3 rfl) ?_
                    refine va_get (D := D) (ci := 5) (v := .int (nI ln)) (C := RX5) (T := TX5) (N := 13) hx hb hts hin5 hown hK hP 0 rfl rfl 7 (by decide) (hts _ (List.mem_of_getElem? (i := 2) rfl)) (fun _ h9 => h9) rfl dX5_put_137 ?_
                    refine lv_iload_n hx hb dX5_put_140 rfl (lv_at hl 2 rfl) ?_
                    refine lv_iadd hx hb dX5_put_141 ?_
                    refine st1 (nI_add ln ((ptI xl 8 0 0 0).1)) ?_
                    refine lv_iconst (v := 1) hx hb dX5_put_142 (by decide) ?_
                    refine lv_isub hx hb dX5_put_143 ?_
                    refine st1 (pk_sub (a := (ln + ((ptI xl 8 0 0 0).1))) (b := 1) (by omega)) ?_
                    refine lv_iload hx hb dX5_put_144 (lv_at hl 0 rfl) ?_
                    refine lv_isub hx hb dX5_put_146 ?_
                    refine st1 (pk_sub (a := (ln + ((ptI xl 8 0 0 0).1) - 1)) (b := q) (by omega)) ?_
                    refine lv_lload_n hx hb dX5_put_147 rfl (lv_at hl 4 rfl) ?_
                    refine lv_bipush (v := 8) hx hb dX5_put_148 (by decide) ?_
                    refine lv_iload hx hb dX5_put_150 (lv_at hl 0 rfl) ?_
                    refine lv_imul hx hb dX5_put_152 ?_
                    refine st1 (pk_mul 8 q) ?_
                    refine lv_lushr (v := (xl.toUInt64 >>> ((nI (8 * q)).toInt64.toUInt64 &&& Int64.toUInt64 63)).toInt64) hx hb dX5_put_153 rfl ?_
                    refine lv_ldc2 (v := 255) hx hb hown (hts _ (List.mem_of_getElem? (i := 1) rfl)) dX5_put_154 ?_
                    refine lv_land hx hb dX5_put_157 ?_
                    refine lv_l2i (v := ((xl.toUInt64 >>> ((nI (8 * q)).toInt64.toUInt64 &&& Int64.toUInt64 63)).toInt64 &&& 255).toInt32) hx hb dX5_put_158 rfl ?_
                    refine n_iast hx hb hK hP hD hS 1 0 rfl rfl (ln + ((ptI xl 8 0 0 0).1) - 1 - q) (by omega) (by decide) dX5_put_159 (fun H locs hP hD hS => ?_)
                    have hP : va_P D vwCl [(oM, .inr (5, [.ref aS, .ref aA, .ref aB, .int (nI kn), .ref aT, .ref aV, .ref aP, .int (nI ln), .int po, .int wz, .int le, .int on, .int tw])), (aP, .inl (K 0, 80, .inl (upd vS (ln + ((ptI xl 8 0 0 0).1) - 1 - q) (((xl.toUInt64 >>> ((nI (8 * q)).toInt64.toUInt64 &&& Int64.toUInt64 63)).toInt64 &&& 255).toInt32))))] H := hP
                    have hD : va_D A [(oM, .inr (5, [.ref aS, .ref aA, .ref aB, .int (nI kn), .ref aT, .ref aV, .ref aP, .int (nI ln), .int po, .int wz, .int le, .int on, .int tw])), (aP, .inl (K 0, 80, .inl (upd vS (ln + ((ptI xl 8 0 0 0).1) - 1 - q) (((xl.toUInt64 >>> ((nI (8 * q)).toInt64.toUInt64 &&& Int64.toUInt64 63)).toInt64 &&& 255).toInt32))))] := hD
                    refine lv_iinc (v := (nI (q + 1))) (lv' := [(5, .int (nI (q + 1))), (4, .int (nI (((ptI xl 8 0 0 0).2).1))), (3, .int (nI ((ptI xl 8 0 0 0).1))), (0, .ref oM), (1, .long xl)]) hx hb dX5_put_160 hl (k := 0) rfl (nI_add q 1) (by decide) rfl (fun ls hl => ?_)
                    refine lv_goto (tgt := 126) hx hb dX5_put_163 (by decide) ?_
                    exact ih (q + 1) (upd vS (ln + ((ptI xl 8 0 0 0).1) - 1 - q) (((xl.toUInt64 >>> ((nI (8 * q)).toInt64.toUInt64 &&& Int64.toUInt64 63)).toInt64 &&& 255).toInt32)) (by omega) (by omega) (by rw [← hinv, show 8 - q = (8 - (q + 1)) + 1 by omega, ptJ_s, if_neg c_6]) _ _ _ hP hD hS (lv_sub hl [0, 1, 2, 3, 4] rfl)
              exact L_5 _ 0 fP (Nat.lt_succ_self _) (by omega) rfl H locs ls hP hD hS (lv_sub hl [0, 1, 2, 3, 4] rfl)
            · skip
              have nc_4 : ¬ (ln + ((ptI xl 8 0 0 0).1) ≤ 80) := fun h => c_4 ((nI_leI (a := (ln + ((ptI xl 8 0 0 0).1))) (b := 80) (by omega) (by omega)).mpr h)
              refine lv_bipush (v := (-4)) hx hb dX5_put_120 (by decide) ?_
              have e_9 : n_X5_put_0_7 ln xl = ln := by unfold n_X5_put_0_7; rw [if_pos c_3, if_neg c_4]
              have e_10 : n_X5_put_1 fP ln xl = fP := by unfold n_X5_put_1; rw [if_pos c_3, if_neg c_4]
              have hPf : va_P D vwCl [(oM, .inr (5, [.ref aS, .ref aA, .ref aB, .int (nI kn), .ref aT, .ref aV, .ref aP, .int (nI (n_X5_put_0_7 ln xl)), .int po, .int wz, .int le, .int on, .int tw])), (aP, .inl (K 0, 80, .inl (n_X5_put_1 fP ln xl)))] H := (by rw [e_9, e_10]; exact hP)
              exact W.iret hx hb hr (fun t ht hW => ⟨⟨_, (), rfl, (by unfold r_X5_put; rw [if_pos c_3, if_neg c_4]), by show va_P D vwCl _ t.heap; rw [ht]; exact hPf⟩, hS.F ht⟩) hS.2.2 dX5_put_122
          · skip
            have nc_3 : ¬ ((((ptI xl 8 0 0 0).2).1) = 0) := fun h => c_3 ((nI_eq (a := (((ptI xl 8 0 0 0).2).1)) (b := 0) (by omega) (by omega)).mpr h)
            refine lv_bipush (v := (-2)) hx hb dX5_put_106 (by decide) ?_
            have e_11 : n_X5_put_0_7 ln xl = ln := by unfold n_X5_put_0_7; rw [if_neg c_3]
            have e_12 : n_X5_put_1 fP ln xl = fP := by unfold n_X5_put_1; rw [if_neg c_3]
            have hPf : va_P D vwCl [(oM, .inr (5, [.ref aS, .ref aA, .ref aB, .int (nI kn), .ref aT, .ref aV, .ref aP, .int (nI (n_X5_put_0_7 ln xl)), .int po, .int wz, .int le, .int on, .int tw])), (aP, .inl (K 0, 80, .inl (n_X5_put_1 fP ln xl)))] H := (by rw [e_11, e_12]; exact hP)
            exact W.iret hx hb hr (fun t ht hW => ⟨⟨_, (), rfl, (by unfold r_X5_put; rw [if_neg c_3]), by show va_P D vwCl _ t.heap; rw [ht]; exact hPf⟩, hS.F ht⟩) hS.2.2 dX5_put_108
        · skip
          have nc_2 : ¬ (8 ≤ q) := fun h => c_2 ((nI_leI (a := 8) (b := q) (by omega) (by omega)).mpr h)
          refine lv_lload_n hx hb dX5_put_15 rfl (lv_at hl 4 rfl) ?_
          refine lv_bipush (v := 8) hx hb dX5_put_16 (by decide) ?_
          refine lv_iload hx hb dX5_put_18 (lv_at hl 0 rfl) ?_
          refine lv_imul hx hb dX5_put_20 ?_
          refine st1 (pk_mul 8 q) ?_
          refine lv_lushr (v := (xl.toUInt64 >>> ((nI (8 * q)).toInt64.toUInt64 &&& Int64.toUInt64 63)).toInt64) hx hb dX5_put_21 rfl ?_
          refine lv_ldc2 (v := 255) hx hb hown (hts _ (List.mem_of_getElem? (i := 1) rfl)) dX5_put_22 ?_
          refine lv_land hx hb dX5_put_25 ?_
          refine lv_l2i (v := ((xl.toUInt64 >>> ((nI (8 * q)).toInt64.toUInt64 &&& Int64.toUInt64 63)).toInt64 &&& 255).toInt32) hx hb dX5_put_26 rfl ?_
          refine lv_istore (lv' := [(6, .int (((xl.toUInt64 >>> ((nI (8 * q)).toInt64.toUInt64 &&& Int64.toUInt64 63)).toInt64 &&& 255).toInt32)), (5, .int (nI q)), (4, .int (nI b_)), (3, .int (nI m_)), (0, .ref oM), (1, .long xl)]) hx hb dX5_put_27  hl (by decide) rfl (fun ls hl => ?_)
          refine lv_iload hx hb dX5_put_29 (lv_at hl 1 rfl) ?_
          refine lv_if_le (tgt := 50) hx hb dX5_put_31 (by decide) (fun c_13 => ?_) (fun c_13 => ?_)
          · skip
            have nc_13 := (nI_leI (a := q) (b := 0) (by omega) (by omega)).mp c_13
            refine lv_iconst (v := 0) hx hb dX5_put_50 (by decide) ?_
            refine lv_istore (lv' := [(7, .int 0), (6, .int (((xl.toUInt64 >>> ((nI (8 * q)).toInt64.toUInt64 &&& Int64.toUInt64 63)).toInt64 &&& 255).toInt32)), (5, .int (nI q)), (4, .int (nI b_)), (3, .int (nI m_)), (0, .ref oM), (1, .long xl)]) hx hb dX5_put_51  hl (by decide) rfl (fun ls hl => ?_)
            refine lv_iload hx hb dX5_put_53 (lv_at hl 3 rfl) ?_
            refine lv_if_ne (tgt := 75) hx hb dX5_put_55 (by decide) (fun c_14 => ?_) (fun c_14 => ?_)
            · skip
              have nc_14 : ¬ (b_ = 0) := fun h => c_14 ((nI_eq (a := b_) (b := 0) (by omega) (by omega)).mpr h)
              refine lv_iconst (v := 1) hx hb dX5_put_75 (by decide) ?_
              refine lv_goto (tgt := 80) hx hb dX5_put_76 (by decide) ?_
              refine lv_istore (lv' := [(4, .int 1), (7, .int 0), (6, .int (((xl.toUInt64 >>> ((nI (8 * q)).toInt64.toUInt64 &&& Int64.toUInt64 63)).toInt64 &&& 255).toInt32)), (5, .int (nI q)), (3, .int (nI m_)), (0, .ref oM), (1, .long xl)]) hx hb dX5_put_80  hl (by decide) rfl (fun ls hl => ?_)
              refine lv_iload_n hx hb dX5_put_82 rfl (lv_at hl 4 rfl) ?_
              refine lv_iload hx hb dX5_put_83 (lv_at hl 1 rfl) ?_
              refine lv_if_eq (tgt := 92) hx hb dX5_put_85 (by decide) (fun _ => ?_) (fun h_15 => absurd (by decide) h_15)
              refine lv_iconst (v := 1) hx hb dX5_put_92 (by decide) ?_
              refine lv_iadd hx hb dX5_put_93 ?_
              refine st1 (nI_add m_ 1) ?_
              refine lv_istore_n (lv' := [(3, .int (nI (m_ + 1))), (4, .int 1), (7, .int 0), (6, .int (((xl.toUInt64 >>> ((nI (8 * q)).toInt64.toUInt64 &&& Int64.toUInt64 63)).toInt64 &&& 255).toInt32)), (5, .int (nI q)), (0, .ref oM), (1, .long xl)]) hx hb dX5_put_94 rfl hl (by decide) rfl (fun ls hl => ?_)
              refine lv_iinc (v := (nI (q + 1))) (lv' := [(5, .int (nI (q + 1))), (3, .int (nI (m_ + 1))), (4, .int 1), (7, .int 0), (6, .int (((xl.toUInt64 >>> ((nI (8 * q)).toInt64.toUInt64 &&& Int64.toUInt64 63)).toInt64 &&& 255).toInt32)), (0, .ref oM), (1, .long xl)]) hx hb dX5_put_95 hl (k := 4) rfl (nI_add q 1) (by decide) rfl (fun ls hl => ?_)
              refine lv_goto (tgt := 8) hx hb dX5_put_98 (by decide) ?_
              exact ih (m_ + 1) 1 (q + 1) (by omega) (by omega) (by omega) (by omega) (by rw [← hinv, show 8 - q = (8 - (q + 1)) + 1 by omega, ptI_s, if_neg c_2, if_pos c_13, if_neg c_14]) _ _ _ hP hD hS (lv_sub hl [0, 2, 1, 5, 6] rfl)
            · skip
              have nc_14 := (nI_eq (a := b_) (b := 0) (by omega) (by omega)).mp c_14
              refine lv_iload hx hb dX5_put_58 (lv_at hl 0 rfl) ?_
              refine lv_if_ne (tgt := 79) hx hb dX5_put_60 (by decide) (fun h_16 => absurd (by decide) h_16) (fun _ => ?_)
              refine lv_iload hx hb dX5_put_63 (lv_at hl 1 rfl) ?_
              refine lv_bipush (v := 33) hx hb dX5_put_65 (by decide) ?_
              refine lv_bipush (v := 126) hx hb dX5_put_67 (by decide) ?_
              refine vp_callSi (va_Run.run (va_runS (As := [.int (((xl.toUInt64 >>> ((nI (8 * q)).toInt64.toUInt64 &&& Int64.toUInt64 63)).toInt64 &&& 255).toInt32), .int 33, .int 126]) (rest := []) ⟨hx, hb, hml, hown, hts⟩ (c_X5_in l D K (((xl.toUInt64 >>> ((nI (8 * q)).toInt64.toUInt64 &&& Int64.toUInt64 63)).toInt64 &&& 255).toInt32) 33 126 ) (va_cwS 3 hts gX5_put_X5_in rfl rfl rfl (by decide +kernel) ⟨Nat.le_of_ble_eq_true rfl, Nat.le_of_ble_eq_true rfl⟩) pre_s0 rfl rfl hl.1 rfl (lv_room (Nat.le_of_ble_eq_true rfl)) dX5_put_69 ⟨Nat.zero_le _, Nat.zero_le _⟩)) (fun r_17 hr_17 => ?_)
              subst hr_17
              refine lv_if_ne (tgt := 79) hx hb dX5_put_72 (by decide) (fun c_18 => ?_) (fun c_18 => ?_)
              · skip
                refine lv_iconst (v := 0) hx hb dX5_put_79 (by decide) ?_
                refine lv_istore (lv' := [(4, .int 0), (7, .int 0), (6, .int (((xl.toUInt64 >>> ((nI (8 * q)).toInt64.toUInt64 &&& Int64.toUInt64 63)).toInt64 &&& 255).toInt32)), (5, .int (nI q)), (3, .int (nI m_)), (0, .ref oM), (1, .long xl)]) hx hb dX5_put_80  hl (by decide) rfl (fun ls hl => ?_)
                refine lv_iload_n hx hb dX5_put_82 rfl (lv_at hl 4 rfl) ?_
                refine lv_iload hx hb dX5_put_83 (lv_at hl 1 rfl) ?_
                refine lv_if_eq (tgt := 92) hx hb dX5_put_85 (by decide) (fun _ => ?_) (fun h_19 => absurd (by decide) h_19)
                refine lv_iconst (v := 1) hx hb dX5_put_92 (by decide) ?_
                refine lv_iadd hx hb dX5_put_93 ?_
                refine st1 (nI_add m_ 1) ?_
                refine lv_istore_n (lv' := [(3, .int (nI (m_ + 1))), (4, .int 0), (7, .int 0), (6, .int (((xl.toUInt64 >>> ((nI (8 * q)).toInt64.toUInt64 &&& Int64.toUInt64 63)).toInt64 &&& 255).toInt32)), (5, .int (nI q)), (0, .ref oM), (1, .long xl)]) hx hb dX5_put_94 rfl hl (by decide) rfl (fun ls hl => ?_)
                refine lv_iinc (v := (nI (q + 1))) (lv' := [(5, .int (nI (q + 1))), (3, .int (nI (m_ + 1))), (4, .int 0), (7, .int 0), (6, .int (((xl.toUInt64 >>> ((nI (8 * q)).toInt64.toUInt64 &&& Int64.toUInt64 63)).toInt64 &&& 255).toInt32)), (0, .ref oM), (1, .long xl)]) hx hb dX5_put_95 hl (k := 4) rfl (nI_add q 1) (by decide) rfl (fun ls hl => ?_)
                refine lv_goto (tgt := 8) hx hb dX5_put_98 (by decide) ?_
                exact ih (m_ + 1) 0 (q + 1) (by omega) (by omega) (by omega) (by omega) (by rw [← hinv, show 8 - q = (8 - (q + 1)) + 1 by omega, ptI_s, if_neg c_2, if_pos c_13, if_pos c_14, if_neg c_18]) _ _ _ hP hD hS (lv_sub hl [0, 2, 1, 5, 6] rfl)
              · skip
                refine lv_iconst (v := 1) hx hb dX5_put_75 (by decide) ?_
                refine lv_goto (tgt := 80) hx hb dX5_put_76 (by decide) ?_
                refine lv_istore (lv' := [(4, .int 1), (7, .int 0), (6, .int (((xl.toUInt64 >>> ((nI (8 * q)).toInt64.toUInt64 &&& Int64.toUInt64 63)).toInt64 &&& 255).toInt32)), (5, .int (nI q)), (3, .int (nI m_)), (0, .ref oM), (1, .long xl)]) hx hb dX5_put_80  hl (by decide) rfl (fun ls hl => ?_)
                refine lv_iload_n hx hb dX5_put_82 rfl (lv_at hl 4 rfl) ?_
                refine lv_iload hx hb dX5_put_83 (lv_at hl 1 rfl) ?_
                refine lv_if_eq (tgt := 92) hx hb dX5_put_85 (by decide) (fun _ => ?_) (fun h_20 => absurd (by decide) h_20)
                refine lv_iconst (v := 1) hx hb dX5_put_92 (by decide) ?_
                refine lv_iadd hx hb dX5_put_93 ?_
                refine st1 (nI_add m_ 1) ?_
                refine lv_istore_n (lv' := [(3, .int (nI (m_ + 1))), (4, .int 1), (7, .int 0), (6, .int (((xl.toUInt64 >>> ((nI (8 * q)).toInt64.toUInt64 &&& Int64.toUInt64 63)).toInt64 &&& 255).toInt32)), (5, .int (nI q)), (0, .ref oM), (1, .long xl)]) hx hb dX5_put_94 rfl hl (by decide) rfl (fun ls hl => ?_)
                refine lv_iinc (v := (nI (q + 1))) (lv' := [(5, .int (nI (q + 1))), (3, .int (nI (m_ + 1))), (4, .int 1), (7, .int 0), (6, .int (((xl.toUInt64 >>> ((nI (8 * q)).toInt64.toUInt64 &&& Int64.toUInt64 63)).toInt64 &&& 255).toInt32)), (0, .ref oM), (1, .long xl)]) hx hb dX5_put_95 hl (k := 4) rfl (nI_add q 1) (by decide) rfl (fun ls hl => ?_)
                refine lv_goto (tgt := 8) hx hb dX5_put_98 (by decide) ?_
                exact ih (m_ + 1) 1 (q + 1) (by omega) (by omega) (by omega) (by omega) (by rw [← hinv, show 8 - q = (8 - (q + 1)) + 1 by omega, ptI_s, if_neg c_2, if_pos c_13, if_pos c_14, if_pos c_18]) _ _ _ hP hD hS (lv_sub hl [0, 2, 1, 5, 6] rfl)
          · skip
            have nc_13 : ¬ (q ≤ 0) := fun h => c_13 ((nI_leI (a := q) (b := 0) (by omega) (by omega)).mpr h)
            refine lv_lload_n hx hb dX5_put_34 rfl (lv_at hl 5 rfl) ?_
            refine lv_bipush (v := 8) hx hb dX5_put_35 (by decide) ?_
            refine lv_iload hx hb dX5_put_37 (lv_at hl 1 rfl) ?_
            refine lv_imul hx hb dX5_put_39 ?_
            refine st1 (pk_mul 8 q) ?_
            refine lv_lushr (v := (xl.toUInt64 >>> ((nI (8 * q)).toInt64.toUInt64 &&& Int64.toUInt64 63)).toInt64) hx hb dX5_put_40 rfl ?_
            refine lv_lconst (v := 0) hx hb dX5_put_41 (by decide) ?_
            refine W.lcmp hx hb dX5_put_42 ?_
            refine lv_if_ne (tgt := 50) hx hb dX5_put_43 (by decide) (fun c_21 => ?_) (fun c_21 => ?_)
            · skip
              refine lv_iconst (v := 0) hx hb dX5_put_50 (by decide) ?_
              refine lv_istore (lv' := [(7, .int 0), (6, .int (((xl.toUInt64 >>> ((nI (8 * q)).toInt64.toUInt64 &&& Int64.toUInt64 63)).toInt64 &&& 255).toInt32)), (5, .int (nI q)), (4, .int (nI b_)), (3, .int (nI m_)), (0, .ref oM), (1, .long xl)]) hx hb dX5_put_51  hl (by decide) rfl (fun ls hl => ?_)
              refine lv_iload hx hb dX5_put_53 (lv_at hl 3 rfl) ?_
              refine lv_if_ne (tgt := 75) hx hb dX5_put_55 (by decide) (fun c_22 => ?_) (fun c_22 => ?_)
              · skip
                have nc_22 : ¬ (b_ = 0) := fun h => c_22 ((nI_eq (a := b_) (b := 0) (by omega) (by omega)).mpr h)
                refine lv_iconst (v := 1) hx hb dX5_put_75 (by decide) ?_
                refine lv_goto (tgt := 80) hx hb dX5_put_76 (by decide) ?_
                refine lv_istore (lv' := [(4, .int 1), (7, .int 0), (6, .int (((xl.toUInt64 >>> ((nI (8 * q)).toInt64.toUInt64 &&& Int64.toUInt64 63)).toInt64 &&& 255).toInt32)), (5, .int (nI q)), (3, .int (nI m_)), (0, .ref oM), (1, .long xl)]) hx hb dX5_put_80  hl (by decide) rfl (fun ls hl => ?_)
                refine lv_iload_n hx hb dX5_put_82 rfl (lv_at hl 4 rfl) ?_
                refine lv_iload hx hb dX5_put_83 (lv_at hl 1 rfl) ?_
                refine lv_if_eq (tgt := 92) hx hb dX5_put_85 (by decide) (fun _ => ?_) (fun h_23 => absurd (by decide) h_23)
                refine lv_iconst (v := 1) hx hb dX5_put_92 (by decide) ?_
                refine lv_iadd hx hb dX5_put_93 ?_
                refine st1 (nI_add m_ 1) ?_
                refine lv_istore_n (lv' := [(3, .int (nI (m_ + 1))), (4, .int 1), (7, .int 0), (6, .int (((xl.toUInt64 >>> ((nI (8 * q)).toInt64.toUInt64 &&& Int64.toUInt64 63)).toInt64 &&& 255).toInt32)), (5, .int (nI q)), (0, .ref oM), (1, .long xl)]) hx hb dX5_put_94 rfl hl (by decide) rfl (fun ls hl => ?_)
                refine lv_iinc (v := (nI (q + 1))) (lv' := [(5, .int (nI (q + 1))), (3, .int (nI (m_ + 1))), (4, .int 1), (7, .int 0), (6, .int (((xl.toUInt64 >>> ((nI (8 * q)).toInt64.toUInt64 &&& Int64.toUInt64 63)).toInt64 &&& 255).toInt32)), (0, .ref oM), (1, .long xl)]) hx hb dX5_put_95 hl (k := 4) rfl (nI_add q 1) (by decide) rfl (fun ls hl => ?_)
                refine lv_goto (tgt := 8) hx hb dX5_put_98 (by decide) ?_
                exact ih (m_ + 1) 1 (q + 1) (by omega) (by omega) (by omega) (by omega) (by rw [← hinv, show 8 - q = (8 - (q + 1)) + 1 by omega, ptI_s, if_neg c_2, if_neg c_13, if_neg c_21, if_neg c_22]) _ _ _ hP hD hS (lv_sub hl [0, 2, 1, 5, 6] rfl)
              · skip
                have nc_22 := (nI_eq (a := b_) (b := 0) (by omega) (by omega)).mp c_22
                refine lv_iload hx hb dX5_put_58 (lv_at hl 0 rfl) ?_
                refine lv_if_ne (tgt := 79) hx hb dX5_put_60 (by decide) (fun h_24 => absurd (by decide) h_24) (fun _ => ?_)
                refine lv_iload hx hb dX5_put_63 (lv_at hl 1 rfl) ?_
                refine lv_bipush (v := 33) hx hb dX5_put_65 (by decide) ?_
                refine lv_bipush (v := 126) hx hb dX5_put_67 (by decide) ?_
                refine vp_callSi (va_Run.run (va_runS (As := [.int (((xl.toUInt64 >>> ((nI (8 * q)).toInt64.toUInt64 &&& Int64.toUInt64 63)).toInt64 &&& 255).toInt32), .int 33, .int 126]) (rest := []) ⟨hx, hb, hml, hown, hts⟩ (c_X5_in l D K (((xl.toUInt64 >>> ((nI (8 * q)).toInt64.toUInt64 &&& Int64.toUInt64 63)).toInt64 &&& 255).toInt32) 33 126 ) (va_cwS 3 hts gX5_put_X5_in rfl rfl rfl (by decide +kernel) ⟨Nat.le_of_ble_eq_true rfl, Nat.le_of_ble_eq_true rfl⟩) pre_s0 rfl rfl hl.1 rfl (lv_room (Nat.le_of_ble_eq_true rfl)) dX5_put_69 ⟨Nat.zero_le _, Nat.zero_le _⟩)) (fun r_25 hr_25 => ?_)
                subst hr_25
                refine lv_if_ne (tgt := 79) hx hb dX5_put_72 (by decide) (fun c_26 => ?_) (fun c_26 => ?_)
                · skip
                  refine lv_iconst (v := 0) hx hb dX5_put_79 (by decide) ?_
                  refine lv_istore (lv' := [(4, .int 0), (7, .int 0), (6, .int (((xl.toUInt64 >>> ((nI (8 * q)).toInt64.toUInt64 &&& Int64.toUInt64 63)).toInt64 &&& 255).toInt32)), (5, .int (nI q)), (3, .int (nI m_)), (0, .ref oM), (1, .long xl)]) hx hb dX5_put_80  hl (by decide) rfl (fun ls hl => ?_)
                  refine lv_iload_n hx hb dX5_put_82 rfl (lv_at hl 4 rfl) ?_
                  refine lv_iload hx hb dX5_put_83 (lv_at hl 1 rfl) ?_
                  refine lv_if_eq (tgt := 92) hx hb dX5_put_85 (by decide) (fun _ => ?_) (fun h_27 => absurd (by decide) h_27)
                  refine lv_iconst (v := 1) hx hb dX5_put_92 (by decide) ?_
                  refine lv_iadd hx hb dX5_put_93 ?_
                  refine st1 (nI_add m_ 1) ?_
                  refine lv_istore_n (lv' := [(3, .int (nI (m_ + 1))), (4, .int 0), (7, .int 0), (6, .int (((xl.toUInt64 >>> ((nI (8 * q)).toInt64.toUInt64 &&& Int64.toUInt64 63)).toInt64 &&& 255).toInt32)), (5, .int (nI q)), (0, .ref oM), (1, .long xl)]) hx hb dX5_put_94 rfl hl (by decide) rfl (fun ls hl => ?_)
                  refine lv_iinc (v := (nI (q + 1))) (lv' := [(5, .int (nI (q + 1))), (3, .int (nI (m_ + 1))), (4, .int 0), (7, .int 0), (6, .int (((xl.toUInt64 >>> ((nI (8 * q)).toInt64.toUInt64 &&& Int64.toUInt64 63)).toInt64 &&& 255).toInt32)), (0, .ref oM), (1, .long xl)]) hx hb dX5_put_95 hl (k := 4) rfl (nI_add q 1) (by decide) rfl (fun ls hl => ?_)
                  refine lv_goto (tgt := 8) hx hb dX5_put_98 (by decide) ?_
                  exact ih (m_ + 1) 0 (q + 1) (by omega) (by omega) (by omega) (by omega) (by rw [← hinv, show 8 - q = (8 - (q + 1)) + 1 by omega, ptI_s, if_neg c_2, if_neg c_13, if_neg c_21, if_pos c_22, if_neg c_26]) _ _ _ hP hD hS (lv_sub hl [0, 2, 1, 5, 6] rfl)
                · skip
                  refine lv_iconst (v := 1) hx hb dX5_put_75 (by decide) ?_
                  refine lv_goto (tgt := 80) hx hb dX5_put_76 (by decide) ?_
                  refine lv_istore (lv' := [(4, .int 1), (7, .int 0), (6, .int (((xl.toUInt64 >>> ((nI (8 * q)).toInt64.toUInt64 &&& Int64.toUInt64 63)).toInt64 &&& 255).toInt32)), (5, .int (nI q)), (3, .int (nI m_)), (0, .ref oM), (1, .long xl)]) hx hb dX5_put_80  hl (by decide) rfl (fun ls hl => ?_)
                  refine lv_iload_n hx hb dX5_put_82 rfl (lv_at hl 4 rfl) ?_
                  refine lv_iload hx hb dX5_put_83 (lv_at hl 1 rfl) ?_
                  refine lv_if_eq (tgt := 92) hx hb dX5_put_85 (by decide) (fun _ => ?_) (fun h_28 => absurd (by decide) h_28)
                  refine lv_iconst (v := 1) hx hb dX5_put_92 (by decide) ?_
                  refine lv_iadd hx hb dX5_put_93 ?_
                  refine st1 (nI_add m_ 1) ?_
                  refine lv_istore_n (lv' := [(3, .int (nI (m_ + 1))), (4, .int 1), (7, .int 0), (6, .int (((xl.toUInt64 >>> ((nI (8 * q)).toInt64.toUInt64 &&& Int64.toUInt64 63)).toInt64 &&& 255).toInt32)), (5, .int (nI q)), (0, .ref oM), (1, .long xl)]) hx hb dX5_put_94 rfl hl (by decide) rfl (fun ls hl => ?_)
                  refine lv_iinc (v := (nI (q + 1))) (lv' := [(5, .int (nI (q + 1))), (3, .int (nI (m_ + 1))), (4, .int 1), (7, .int 0), (6, .int (((xl.toUInt64 >>> ((nI (8 * q)).toInt64.toUInt64 &&& Int64.toUInt64 63)).toInt64 &&& 255).toInt32)), (0, .ref oM), (1, .long xl)]) hx hb dX5_put_95 hl (k := 4) rfl (nI_add q 1) (by decide) rfl (fun ls hl => ?_)
                  refine lv_goto (tgt := 8) hx hb dX5_put_98 (by decide) ?_
                  exact ih (m_ + 1) 1 (q + 1) (by omega) (by omega) (by omega) (by omega) (by rw [← hinv, show 8 - q = (8 - (q + 1)) + 1 by omega, ptI_s, if_neg c_2, if_neg c_13, if_neg c_21, if_pos c_22, if_pos c_26]) _ _ _ hP hD hS (lv_sub hl [0, 2, 1, 5, 6] rfl)
            · skip
              refine lv_iconst (v := 1) hx hb dX5_put_46 (by decide) ?_
              refine lv_goto (tgt := 51) hx hb dX5_put_47 (by decide) ?_
              refine lv_istore (lv' := [(7, .int 1), (6, .int (((xl.toUInt64 >>> ((nI (8 * q)).toInt64.toUInt64 &&& Int64.toUInt64 63)).toInt64 &&& 255).toInt32)), (5, .int (nI q)), (4, .int (nI b_)), (3, .int (nI m_)), (0, .ref oM), (1, .long xl)]) hx hb dX5_put_51  hl (by decide) rfl (fun ls hl => ?_)
              refine lv_iload hx hb dX5_put_53 (lv_at hl 3 rfl) ?_
              refine lv_if_ne (tgt := 75) hx hb dX5_put_55 (by decide) (fun c_29 => ?_) (fun c_29 => ?_)
              · skip
                have nc_29 : ¬ (b_ = 0) := fun h => c_29 ((nI_eq (a := b_) (b := 0) (by omega) (by omega)).mpr h)
                refine lv_iconst (v := 1) hx hb dX5_put_75 (by decide) ?_
                refine lv_goto (tgt := 80) hx hb dX5_put_76 (by decide) ?_
                refine lv_istore (lv' := [(4, .int 1), (7, .int 1), (6, .int (((xl.toUInt64 >>> ((nI (8 * q)).toInt64.toUInt64 &&& Int64.toUInt64 63)).toInt64 &&& 255).toInt32)), (5, .int (nI q)), (3, .int (nI m_)), (0, .ref oM), (1, .long xl)]) hx hb dX5_put_80  hl (by decide) rfl (fun ls hl => ?_)
                refine lv_iload_n hx hb dX5_put_82 rfl (lv_at hl 4 rfl) ?_
                refine lv_iload hx hb dX5_put_83 (lv_at hl 1 rfl) ?_
                refine lv_if_eq (tgt := 92) hx hb dX5_put_85 (by decide) (fun h_30 => absurd h_30 (by decide)) (fun _ => ?_)
                refine lv_iconst (v := 0) hx hb dX5_put_88 (by decide) ?_
                refine lv_goto (tgt := 93) hx hb dX5_put_89 (by decide) ?_
                refine lv_iadd hx hb dX5_put_93 ?_
                refine st1 (y := (nI m_)) (nI_add m_ 0) ?_
                refine lv_istore_n (lv' := [(3, .int (nI m_)), (4, .int 1), (7, .int 1), (6, .int (((xl.toUInt64 >>> ((nI (8 * q)).toInt64.toUInt64 &&& Int64.toUInt64 63)).toInt64 &&& 255).toInt32)), (5, .int (nI q)), (0, .ref oM), (1, .long xl)]) hx hb dX5_put_94 rfl hl (by decide) rfl (fun ls hl => ?_)
                refine lv_iinc (v := (nI (q + 1))) (lv' := [(5, .int (nI (q + 1))), (3, .int (nI m_)), (4, .int 1), (7, .int 1), (6, .int (((xl.toUInt64 >>> ((nI (8 * q)).toInt64.toUInt64 &&& Int64.toUInt64 63)).toInt64 &&& 255).toInt32)), (0, .ref oM), (1, .long xl)]) hx hb dX5_put_95 hl (k := 4) rfl (nI_add q 1) (by decide) rfl (fun ls hl => ?_)
                refine lv_goto (tgt := 8) hx hb dX5_put_98 (by decide) ?_
                exact ih m_ 1 (q + 1) (by omega) (by omega) (by omega) (by omega) (by rw [← hinv, show 8 - q = (8 - (q + 1)) + 1 by omega, ptI_s, if_neg c_2, if_neg c_13, if_pos c_21, if_neg c_29]) _ _ _ hP hD hS (lv_sub hl [0, 2, 1, 5, 6] rfl)
              · skip
                have nc_29 := (nI_eq (a := b_) (b := 0) (by omega) (by omega)).mp c_29
                refine lv_iload hx hb dX5_put_58 (lv_at hl 0 rfl) ?_
                refine lv_if_ne (tgt := 79) hx hb dX5_put_60 (by decide) (fun _ => ?_) (fun h_31 => absurd h_31 (by decide))
                refine lv_iconst (v := 0) hx hb dX5_put_79 (by decide) ?_
                refine lv_istore (lv' := [(4, .int 0), (7, .int 1), (6, .int (((xl.toUInt64 >>> ((nI (8 * q)).toInt64.toUInt64 &&& Int64.toUInt64 63)).toInt64 &&& 255).toInt32)), (5, .int (nI q)), (3, .int (nI m_)), (0, .ref oM), (1, .long xl)]) hx hb dX5_put_80  hl (by decide) rfl (fun ls hl => ?_)
                refine lv_iload_n hx hb dX5_put_82 rfl (lv_at hl 4 rfl) ?_
                refine lv_iload hx hb dX5_put_83 (lv_at hl 1 rfl) ?_
                refine lv_if_eq (tgt := 92) hx hb dX5_put_85 (by decide) (fun h_32 => absurd h_32 (by decide)) (fun _ => ?_)
                refine lv_iconst (v := 0) hx hb dX5_put_88 (by decide) ?_
                refine lv_goto (tgt := 93) hx hb dX5_put_89 (by decide) ?_
                refine lv_iadd hx hb dX5_put_93 ?_
                refine st1 (y := (nI m_)) (nI_add m_ 0) ?_
                refine lv_istore_n (lv' := [(3, .int (nI m_)), (4, .int 0), (7, .int 1), (6, .int (((xl.toUInt64 >>> ((nI (8 * q)).toInt64.toUInt64 &&& Int64.toUInt64 63)).toInt64 &&& 255).toInt32)), (5, .int (nI q)), (0, .ref oM), (1, .long xl)]) hx hb dX5_put_94 rfl hl (by decide) rfl (fun ls hl => ?_)
                refine lv_iinc (v := (nI (q + 1))) (lv' := [(5, .int (nI (q + 1))), (3, .int (nI m_)), (4, .int 0), (7, .int 1), (6, .int (((xl.toUInt64 >>> ((nI (8 * q)).toInt64.toUInt64 &&& Int64.toUInt64 63)).toInt64 &&& 255).toInt32)), (0, .ref oM), (1, .long xl)]) hx hb dX5_put_95 hl (k := 4) rfl (nI_add q 1) (by decide) rfl (fun ls hl => ?_)
                refine lv_goto (tgt := 8) hx hb dX5_put_98 (by decide) ?_
                exact ih m_ 0 (q + 1) (by omega) (by omega) (by omega) (by omega) (by rw [← hinv, show 8 - q = (8 - (q + 1)) + 1 by omega, ptI_s, if_neg c_2, if_neg c_13, if_pos c_21, if_pos c_29]) _ _ _ hP hD hS (lv_sub hl [0, 2, 1, 5, 6] rfl)
    exact L_1 _ 0 0 0 (Nat.lt_succ_self _) (by omega) (by omega) (by omega) rfl H locs ls hP hD hS (lv_sub hl [0, 1, 2, 3, 4] rfl)
  exact K0 s.heap [] ls hP hD hS hl
