def r_X2_isVerb (xc : Int32) : Int32 := (if xc = 119 then 1 else (if xc = 114 then 1 else (if xc = 33 then 1 else (if xc = 120 then 1 else (if xc = 115 then 1 else 0)))))
theorem z_r_X2_isVerb {xc : Int32} : narrow .boolean (.int (r_X2_isVerb xc)) = .int (r_X2_isVerb xc) := by
  unfold r_X2_isVerb
  repeat' split
  all_goals first | with_reducible exact zl0 | with_reducible exact zl1
set_option maxHeartbeats 4000000 in
set_option maxRecDepth 100000 in
theorem c_X2_isVerb (l : Launch) (D : va_G) (K : Nat → ClassId) (xc : Int32)  : Met l yX2_isVerb wsX2_isVerb ({ frames := 0, cells := 0, slots := 0, locals := 0 }) (va_Pc [.int xc] (fun _ => True)) (vp_Si (fun r => r = (r_X2_isVerb xc))) 0 0 (fun _ => False) := by
  refine Met.ofW (cc := cX2_isVerb) (maxL := 1) (ret := (some .boolean)) (by decide) rfl ?_
  intro p e s m args below meth c s₁ B hml hv
  obtain ⟨rfl, -⟩ := hv
  have hx := B.exec
  have hb := B.bytes
  have hr := B.returns
  have hts := atoms_spec (ws := wsX2_isVerb) B.pre
  have hown : s.vm.findClass RX2 = some m.cls := findClass_of_methodNamed B.named
  have hlocks := B.notSynchronized
  have hl := lv_entry ([.int xc]) (n := 1) (Nat.le_of_ble_eq_true rfl)
  rw [lg_entry_eq]
  generalize (lg_sl ([.int xc]) ++ List.replicate (1 - (lg_sl ([.int xc])).length) Slot.unset).toArray = ls at hl ⊢
  have hl : lv_has ls 1 [(0, .int xc)] := hl
  refine lv_iload_n hx hb dX2_isVerb_0 rfl (lv_at hl 0 rfl) ?_
  refine lv_bipush (v := 119) hx hb dX2_isVerb_1 (by decide) ?_
  refine lv_icmp_eq (tgt := 30) hx hb dX2_isVerb_3 (by decide) (fun c_1 => ?_) (fun c_1 => ?_)
  · skip
    refine lv_iconst (v := 1) hx hb dX2_isVerb_30 (by decide) ?_
    refine lv_goto (tgt := 35) hx hb dX2_isVerb_31 (by decide) ?_
    exact W.zret hx hb hr rfl (fun t ht hW => ⟨_, rfl, (by unfold r_X2_isVerb; rw [if_pos c_1]), ht⟩) (fun q hq => absurd hq List.not_mem_nil) dX2_isVerb_35
  · skip
    refine lv_iload_n hx hb dX2_isVerb_6 rfl (lv_at hl 0 rfl) ?_
    refine lv_bipush (v := 114) hx hb dX2_isVerb_7 (by decide) ?_
    refine lv_icmp_eq (tgt := 30) hx hb dX2_isVerb_9 (by decide) (fun c_2 => ?_) (fun c_2 => ?_)
    · skip
      refine lv_iconst (v := 1) hx hb dX2_isVerb_30 (by decide) ?_
      refine lv_goto (tgt := 35) hx hb dX2_isVerb_31 (by decide) ?_
      exact W.zret hx hb hr rfl (fun t ht hW => ⟨_, rfl, (by unfold r_X2_isVerb; rw [if_neg c_1, if_pos c_2]), ht⟩) (fun q hq => absurd hq List.not_mem_nil) dX2_isVerb_35
    · skip
      refine lv_iload_n hx hb dX2_isVerb_12 rfl (lv_at hl 0 rfl) ?_
      refine lv_bipush (v := 33) hx hb dX2_isVerb_13 (by decide) ?_
      refine lv_icmp_eq (tgt := 30) hx hb dX2_isVerb_15 (by decide) (fun c_3 => ?_) (fun c_3 => ?_)
      · skip
        refine lv_iconst (v := 1) hx hb dX2_isVerb_30 (by decide) ?_
        refine lv_goto (tgt := 35) hx hb dX2_isVerb_31 (by decide) ?_
        exact W.zret hx hb hr rfl (fun t ht hW => ⟨_, rfl, (by unfold r_X2_isVerb; rw [if_neg c_1, if_neg c_2, if_pos c_3]), ht⟩) (fun q hq => absurd hq List.not_mem_nil) dX2_isVerb_35
      · skip
        refine lv_iload_n hx hb dX2_isVerb_18 rfl (lv_at hl 0 rfl) ?_
        refine lv_bipush (v := 120) hx hb dX2_isVerb_19 (by decide) ?_
        refine lv_icmp_eq (tgt := 30) hx hb dX2_isVerb_21 (by decide) (fun c_4 => ?_) (fun c_4 => ?_)
        · skip
          refine lv_iconst (v := 1) hx hb dX2_isVerb_30 (by decide) ?_
          refine lv_goto (tgt := 35) hx hb dX2_isVerb_31 (by decide) ?_
          exact W.zret hx hb hr rfl (fun t ht hW => ⟨_, rfl, (by unfold r_X2_isVerb; rw [if_neg c_1, if_neg c_2, if_neg c_3, if_pos c_4]), ht⟩) (fun q hq => absurd hq List.not_mem_nil) dX2_isVerb_35
        · skip
          refine lv_iload_n hx hb dX2_isVerb_24 rfl (lv_at hl 0 rfl) ?_
          refine lv_bipush (v := 115) hx hb dX2_isVerb_25 (by decide) ?_
          refine lv_icmp_ne (tgt := 34) hx hb dX2_isVerb_27 (by decide) (fun c_5 => ?_) (fun c_5 => ?_)
          · skip
            refine lv_iconst (v := 0) hx hb dX2_isVerb_34 (by decide) ?_
            exact W.zret hx hb hr rfl (fun t ht hW => ⟨_, rfl, (by unfold r_X2_isVerb; rw [if_neg c_1, if_neg c_2, if_neg c_3, if_neg c_4, if_neg c_5]), ht⟩) (fun q hq => absurd hq List.not_mem_nil) dX2_isVerb_35
          · skip
            refine lv_iconst (v := 1) hx hb dX2_isVerb_30 (by decide) ?_
            refine lv_goto (tgt := 35) hx hb dX2_isVerb_31 (by decide) ?_
            exact W.zret hx hb hr rfl (fun t ht hW => ⟨_, rfl, (by unfold r_X2_isVerb; rw [if_neg c_1, if_neg c_2, if_neg c_3, if_neg c_4, if_pos c_5]), ht⟩) (fun q hq => absurd hq List.not_mem_nil) dX2_isVerb_35
def r_X2_signAt (cS : Nat → Int32) (ln : Nat) (po : Nat) : Int32 := (if (nI ln) ≤ (nI po) then 0 else (cS po))
set_option maxHeartbeats 4000000 in
set_option maxRecDepth 100000 in
theorem c_X2_signAt (l : Launch) (D : va_G) (K : Nat → ClassId) (oP : Nat) (pS : Nat) (pV : Nat) (pF : Nat) (pE : Nat) (cS : Nat → Int32) (ln : Nat) (po : Nat) (od : Nat) (hln : ln ≤ 80) (hpo : po ≤ 80) : Met l yX2_signAt wsX2_signAt ({ frames := 0, cells := 0, slots := 0, locals := 0 }) (va_Pc [.ref oP] (fun U => Bd D K U ∧ va_P D vwCl [(oP, .inr (2, [.ref pS, .int (nI ln), .int (nI po), .ref pV, .ref pF, .ref pE, .int (nI od)])), (pS, .inl (K 1, 80, .inl cS))] U.heap)) (vp_Si (fun r => r = (r_X2_signAt cS ln po))) 0 0 (fun _ => False) := by
  refine Met.ofW (cc := cX2_signAt) (maxL := 1) (ret := (some .int)) (by decide) rfl ?_
  intro p e s m args below meth c s₁ B hml hv
  obtain ⟨rfl, hbd, hP⟩ := hv
  have hx := B.exec
  have hb := B.bytes
  have hr := B.returns
  have hts := atoms_spec (ws := wsX2_signAt) B.pre
  have hown : s.vm.findClass RX2 = some m.cls := findClass_of_methodNamed B.named
  have hlocks := B.notSynchronized
  have hK := hbd.2
  have hP : va_P D vwCl [(oP, .inr (2, [.ref pS, .int (nI ln), .int (nI po), .ref pV, .ref pF, .ref pE, .int (nI od)])), (pS, .inl (K 1, 80, .inl cS))] s.heap := hP
  have hin2 : ∀ w ∈ wsX20, w ∈ wsX2_signAt := by decide +kernel
  have hl := lv_entry ([.ref oP]) (n := 1) (Nat.le_of_ble_eq_true rfl)
  rw [lg_entry_eq]
  generalize (lg_sl ([.ref oP]) ++ List.replicate (1 - (lg_sl ([.ref oP])).length) Slot.unset).toArray = ls at hl ⊢
  have hl : lv_has ls 1 [(0, .ref oP)] := hl
  refine lv_aload_n hx hb dX2_signAt_0 rfl (lv_at hl 0 rfl) ?_
  refine va_get (D := D) (ci := 2) (v := .int (nI po)) (C := RX2) (T := TX2) (N := 7) hx hb hts hin2 hown hK hP 0 rfl rfl 2 (by decide) (hts _ (List.mem_of_getElem? (i := 1) rfl)) (fun _ h9 => h9) rfl dX2_signAt_1 ?_
  refine lv_if_lt (tgt := 39) hx hb dX2_signAt_4 (by decide) (fun h_1 => absurd h_1 (nI_nlt (a := po) (b := 0) (by omega) (by omega))) (fun _ => ?_)
  refine lv_aload_n hx hb dX2_signAt_7 rfl (lv_at hl 0 rfl) ?_
  refine va_get (D := D) (ci := 2) (v := .int (nI po)) (C := RX2) (T := TX2) (N := 7) hx hb hts hin2 hown hK hP 0 rfl rfl 2 (by decide) (hts _ (List.mem_of_getElem? (i := 1) rfl)) (fun _ h9 => h9) rfl dX2_signAt_8 ?_
  refine lv_aload_n hx hb dX2_signAt_11 rfl (lv_at hl 0 rfl) ?_
  refine va_get (D := D) (ci := 2) (v := .int (nI ln)) (C := RX2) (T := TX2) (N := 7) hx hb hts hin2 hown hK hP 0 rfl rfl 1 (by decide) (hts _ (List.mem_of_getElem? (i := 2) rfl)) (fun _ h9 => h9) rfl dX2_signAt_12 ?_
  refine lv_icmp_ge (tgt := 39) hx hb dX2_signAt_15 (by decide) (fun c_2 => ?_) (fun c_2 => ?_)
  · skip
    have nc_2 := (nI_leI (a := ln) (b := po) (by omega) (by omega)).mp c_2
    refine lv_iconst (v := 0) hx hb dX2_signAt_39 (by decide) ?_
    exact W.iret hx hb hr (fun t ht hW => ⟨_, rfl, (by unfold r_X2_signAt; rw [if_pos c_2]), ht⟩) (fun q hq => absurd hq List.not_mem_nil) dX2_signAt_40
  · skip
    have nc_2 : ¬ (ln ≤ po) := fun h => c_2 ((nI_leI (a := ln) (b := po) (by omega) (by omega)).mpr h)
    refine lv_aload_n hx hb dX2_signAt_18 rfl (lv_at hl 0 rfl) ?_
    refine va_get (D := D) (ci := 2) (v := .int (nI po)) (C := RX2) (T := TX2) (N := 7) hx hb hts hin2 hown hK hP 0 rfl rfl 2 (by decide) (hts _ (List.mem_of_getElem? (i := 1) rfl)) (fun _ h9 => h9) rfl dX2_signAt_19 ?_
    refine lv_bipush (v := 80) hx hb dX2_signAt_22 (by decide) ?_
    refine lv_icmp_ge (tgt := 39) hx hb dX2_signAt_24 (by decide) (fun h_3 => absurd h_3 (nI_ge (a := po) (b := 80) (by omega) (by omega))) (fun _ => ?_)
    refine lv_aload_n hx hb dX2_signAt_27 rfl (lv_at hl 0 rfl) ?_
    refine va_get (D := D) (ci := 2) (v := .ref pS) (C := RX2) (T := TX2) (N := 7) hx hb hts hin2 hown hK hP 0 rfl rfl 0 (by decide) (hts _ (List.mem_of_getElem? (i := 3) rfl)) (fun _ h9 => h9) rfl dX2_signAt_28 ?_
    refine lv_aload_n hx hb dX2_signAt_31 rfl (lv_at hl 0 rfl) ?_
    refine va_get (D := D) (ci := 2) (v := .int (nI po)) (C := RX2) (T := TX2) (N := 7) hx hb hts hin2 hown hK hP 0 rfl rfl 2 (by decide) (hts _ (List.mem_of_getElem? (i := 1) rfl)) (fun _ h9 => h9) rfl dX2_signAt_32 ?_
    refine n_cald hx hb hK hP 1 1 rfl rfl po (by omega) (by decide) dX2_signAt_35 ?_
    refine lv_goto (tgt := 40) hx hb dX2_signAt_36 (by decide) ?_
    exact W.iret hx hb hr (fun t ht hW => ⟨_, rfl, (by unfold r_X2_signAt; rw [if_neg c_2]), ht⟩) (fun q hq => absurd hq List.not_mem_nil) dX2_signAt_40
def r_X2_scanSign (cS : Nat → Int32) (ln : Nat) (po : Nat) (xc : Int32) : Int32 := (if (r_X2_signAt cS ln po) = xc then 1 else 0)
theorem z_r_X2_scanSign {cS : Nat → Int32} {ln : Nat} {po : Nat} {xc : Int32} : narrow .boolean (.int (r_X2_scanSign cS ln po xc)) = .int (r_X2_scanSign cS ln po xc) := by
  unfold r_X2_scanSign
  repeat' split
  all_goals first | with_reducible exact zl0 | with_reducible exact zl1
def n_X2_scanSign_0_2 (cS : Nat → Int32) (ln : Nat) (po : Nat) (xc : Int32) : Nat := (if (r_X2_signAt cS ln po) = xc then po + 1 else po)
set_option maxHeartbeats 4000000 in
set_option maxRecDepth 100000 in
theorem c_X2_scanSign (l : Launch) (D : va_G) (K : Nat → ClassId) (oP : Nat) (pS : Nat) (pV : Nat) (pF : Nat) (pE : Nat) (cS : Nat → Int32) (ln : Nat) (po : Nat) (od : Nat) (xc : Int32) (hln : ln ≤ 80) (hpo : po ≤ 80) : Met l yX2_scanSign wsX2_scanSign ({ frames := 1, cells := 0, slots := 0, locals := 20 }) (va_Pc [.ref oP, .int xc] (fun U => Bd D K U ∧ va_P D vwCl [(oP, .inr (2, [.ref pS, .int (nI ln), .int (nI po), .ref pV, .ref pF, .ref pE, .int (nI od)])), (pS, .inl (K 1, 80, .inl cS))] U.heap ∧ va_D (fun _ => True) [(oP, .inr (2, [.ref pS, .int (nI ln), .int (nI po), .ref pV, .ref pF, .ref pE, .int (nI od)])), (pS, .inl (K 1, 80, .inl cS))])) (va_Qi (fun r (_ : Unit) => r = (r_X2_scanSign cS ln po xc)) (fun _ t => va_P D vwCl [(oP, .inr (2, [.ref pS, .int (nI ln), .int (nI (n_X2_scanSign_0_2 cS ln po xc)), .ref pV, .ref pF, .ref pE, .int (nI od)])), (pS, .inl (K 1, 80, .inl cS))] t.heap) (inW [(oP, .inr (2, [.ref pS, .int (nI ln), .int (nI po), .ref pV, .ref pF, .ref pE, .int (nI od)])), (pS, .inl (K 1, 80, .inl cS))])) 0 0 (inW [(oP, .inr (2, [.ref pS, .int (nI ln), .int (nI po), .ref pV, .ref pF, .ref pE, .int (nI od)])), (pS, .inl (K 1, 80, .inl cS))]) := by
  refine Met.ofW (cc := cX2_scanSign) (maxL := 2) (ret := (some .boolean)) (by decide) rfl ?_
  intro p e s m args below meth c s₁ B hml hv
  obtain ⟨rfl, hbd, hP, hD0⟩ := hv
  have hx := B.exec
  have hb := B.bytes
  have hr := B.returns
  have hts := atoms_spec (ws := wsX2_scanSign) B.pre
  have hown : s.vm.findClass RX2 = some m.cls := findClass_of_methodNamed B.named
  have hlocks := B.notSynchronized
  have hK := hbd.2
  have hP : va_P D vwCl [(oP, .inr (2, [.ref pS, .int (nI ln), .int (nI po), .ref pV, .ref pF, .ref pE, .int (nI od)])), (pS, .inl (K 1, 80, .inl cS))] s.heap := hP
  have hin2 : ∀ w ∈ wsX20, w ∈ wsX2_scanSign := by decide +kernel
  have hD := hD0.own
  generalize hAe : inW [(oP, .inr (2, [.ref pS, .int (nI ln), .int (nI po), .ref pV, .ref pF, .ref pE, .int (nI od)])), (pS, .inl (K 1, 80, .inl cS))] = A at hD ⊢
  have hS : va_S A s.heap s.heap [] := va_S.rf
  have hl := lv_entry ([.ref oP, .int xc]) (n := 2) (Nat.le_of_ble_eq_true rfl)
  rw [lg_entry_eq]
  generalize (lg_sl ([.ref oP, .int xc]) ++ List.replicate (2 - (lg_sl ([.ref oP, .int xc])).length) Slot.unset).toArray = ls at hl ⊢
  have hl : lv_has ls 2 [(0, .ref oP), (1, .int xc)] := hl
  have K0 : ∀ (H : Heap) (locs : List Loc) (ls : Array Slot), va_P D vwCl [(oP, .inr (2, [.ref pS, .int (nI ln), .int (nI po), .ref pV, .ref pF, .ref pE, .int (nI od)])), (pS, .inl (K 1, 80, .inl cS))] H → va_D A [(oP, .inr (2, [.ref pS, .int (nI ln), .int (nI po), .ref pV, .ref pF, .ref pE, .int (nI od)])), (pS, .inl (K 1, 80, .inl cS))] → va_S A s.heap H locs → lv_has ls 2 [(0, .ref oP), (1, .int xc)] → W p l e (headSpec wsX2_scanSign ({ frames := 1, cells := 0, slots := 0, locals := 20 })).room s m ([.ref oP, .int xc] : List Value).toArray below meth c H locs 0 0 (MQ below (va_Qi (fun r (_ : Unit) => r = (r_X2_scanSign cS ln po xc)) (fun _ t => va_P D vwCl [(oP, .inr (2, [.ref pS, .int (nI ln), .int (nI (n_X2_scanSign_0_2 cS ln po xc)), .ref pV, .ref pF, .ref pE, .int (nI od)])), (pS, .inl (K 1, 80, .inl cS))] t.heap) A) ([.ref oP, .int xc] : List Value).toArray s 0 0 A) (F0 m 0 ls []) := by
    intro H locs ls hP hD hS hl
    refine lv_aload_n hx hb dX2_scanSign_0 rfl (lv_at hl 0 rfl) ?_
    have hPc := hP.sub (ws' := [(oP, .inr (2, [.ref pS, .int (nI ln), .int (nI po), .ref pV, .ref pF, .ref pE, .int (nI od)])), (pS, .inl (K 1, 80, .inl cS))]) [0, 1] rfl
    refine vp_callSi (va_Run.run (va_runV (As := []) (rest := []) ⟨hx, hb, hml, hown, hts⟩ (c_X2_signAt l D K oP pS pV pF pE cS ln po od (by omega) (by omega)) (cwV 0 hts gX2_scanSign_X2_signAt rfl rfl rfl (by decide +kernel) ⟨Nat.le_of_ble_eq_true rfl, Nat.le_of_ble_eq_true rfl⟩) (pre_rd hbd hPc (ci := 2) (q0 := 0) rfl rfl) rfl rfl hl.1 rfl (lv_room (Nat.le_of_ble_eq_true rfl)) dX2_scanSign_1 ⟨Nat.zero_le _, Nat.zero_le _⟩)) (fun r_1 hr_1 => ?_)
    subst hr_1
    refine lv_iload_n hx hb dX2_scanSign_4 rfl (lv_at hl 1 rfl) ?_
    refine lv_icmp_eq (tgt := 10) hx hb dX2_scanSign_5 (by decide) (fun c_2 => ?_) (fun c_2 => ?_)
    · skip
      refine lv_aload_n hx hb dX2_scanSign_10 rfl (lv_at hl 0 rfl) ?_
      refine lv_dup hx hb dX2_scanSign_11 rfl ?_
      refine va_get (D := D) (ci := 2) (v := .int (nI po)) (C := RX2) (T := TX2) (N := 7) hx hb hts hin2 hown hK hP 0 rfl rfl 2 (by decide) (hts _ (List.mem_of_getElem? (i := 1) rfl)) (fun _ h9 => h9) rfl dX2_scanSign_12 ?_
      refine lv_iconst (v := 1) hx hb dX2_scanSign_15 (by decide) ?_
      refine lv_iadd hx hb dX2_scanSign_16 ?_
      refine st1 (nI_add po 1) ?_
      refine va_put (D := D) (ci := 2) (v := .int (nI (po + 1))) (ty := .int) (C := RX2) (T := TX2) (N := 7) hx hb hts hin2 tyX2 tyX2_ok nmX2 hown hK hP hD hS 0 rfl rfl 2 (by decide) (hts _ (List.mem_of_getElem? (i := 1) rfl)) (fun _ h9 => h9) rfl (by decide +kernel) rfl rfl (Nat.le_of_ble_eq_true rfl) dX2_scanSign_17 (fun H locs hP hD hS => ?_)
      have hP : va_P D vwCl [(oP, .inr (2, [.ref pS, .int (nI ln), .int (nI (po + 1)), .ref pV, .ref pF, .ref pE, .int (nI od)])), (pS, .inl (K 1, 80, .inl cS))] H := hP
      have hD : va_D A [(oP, .inr (2, [.ref pS, .int (nI ln), .int (nI (po + 1)), .ref pV, .ref pF, .ref pE, .int (nI od)])), (pS, .inl (K 1, 80, .inl cS))] := hD
      refine lv_iconst (v := 1) hx hb dX2_scanSign_20 (by decide) ?_
      have e_3 : n_X2_scanSign_0_2 cS ln po xc = po + 1 := by unfold n_X2_scanSign_0_2; rw [if_pos c_2]
      have hPf : va_P D vwCl [(oP, .inr (2, [.ref pS, .int (nI ln), .int (nI (n_X2_scanSign_0_2 cS ln po xc)), .ref pV, .ref pF, .ref pE, .int (nI od)])), (pS, .inl (K 1, 80, .inl cS))] H := (by rw [e_3]; exact hP)
      exact W.zret hx hb hr rfl (fun t ht hW => ⟨⟨_, (), rfl, (by unfold r_X2_scanSign; rw [if_pos c_2]), by show va_P D vwCl _ t.heap; rw [ht]; exact hPf⟩, hS.F ht⟩) hS.2.2 dX2_scanSign_21
    · skip
      refine lv_iconst (v := 0) hx hb dX2_scanSign_8 (by decide) ?_
      have e_4 : n_X2_scanSign_0_2 cS ln po xc = po := by unfold n_X2_scanSign_0_2; rw [if_neg c_2]
      have hPf : va_P D vwCl [(oP, .inr (2, [.ref pS, .int (nI ln), .int (nI (n_X2_scanSign_0_2 cS ln po xc)), .ref pV, .ref pF, .ref pE, .int (nI od)])), (pS, .inl (K 1, 80, .inl cS))] H := (by rw [e_4]; exact hP)
      exact W.zret hx hb hr rfl (fun t ht hW => ⟨⟨_, (), rfl, (by unfold r_X2_scanSign; rw [if_neg c_2]), by show va_P D vwCl _ t.heap; rw [ht]; exact hPf⟩, hS.F ht⟩) hS.2.2 dX2_scanSign_9
  exact K0 s.heap [] ls hP hD hS hl
def r_X2_scanDigit (cS : Nat → Int32) (ln : Nat) (po : Nat) (xm : Int32) : Int32 := (if ((r_X2_signAt cS ln po) - 48) < 0 then (-1) else (if ((r_X2_signAt cS ln po) - 48) ≤ xm then ((r_X2_signAt cS ln po) - 48) else (-1)))
def n_X2_scanDigit_0_2 (cS : Nat → Int32) (ln : Nat) (po : Nat) (xm : Int32) : Nat := (if ((r_X2_signAt cS ln po) - 48) < 0 then po else (if ((r_X2_signAt cS ln po) - 48) ≤ xm then po + 1 else po))
set_option maxHeartbeats 4000000 in
set_option maxRecDepth 100000 in
theorem c_X2_scanDigit (l : Launch) (D : va_G) (K : Nat → ClassId) (oP : Nat) (pS : Nat) (pV : Nat) (pF : Nat) (pE : Nat) (cS : Nat → Int32) (ln : Nat) (po : Nat) (od : Nat) (xm : Int32) (hln : ln ≤ 80) (hpo : po ≤ 80) : Met l yX2_scanDigit wsX2_scanDigit ({ frames := 1, cells := 0, slots := 0, locals := 20 }) (va_Pc [.ref oP, .int xm] (fun U => Bd D K U ∧ va_P D vwCl [(oP, .inr (2, [.ref pS, .int (nI ln), .int (nI po), .ref pV, .ref pF, .ref pE, .int (nI od)])), (pS, .inl (K 1, 80, .inl cS))] U.heap ∧ va_D (fun _ => True) [(oP, .inr (2, [.ref pS, .int (nI ln), .int (nI po), .ref pV, .ref pF, .ref pE, .int (nI od)])), (pS, .inl (K 1, 80, .inl cS))])) (va_Qi (fun r (_ : Unit) => r = (r_X2_scanDigit cS ln po xm)) (fun _ t => va_P D vwCl [(oP, .inr (2, [.ref pS, .int (nI ln), .int (nI (n_X2_scanDigit_0_2 cS ln po xm)), .ref pV, .ref pF, .ref pE, .int (nI od)])), (pS, .inl (K 1, 80, .inl cS))] t.heap) (inW [(oP, .inr (2, [.ref pS, .int (nI ln), .int (nI po), .ref pV, .ref pF, .ref pE, .int (nI od)])), (pS, .inl (K 1, 80, .inl cS))])) 0 0 (inW [(oP, .inr (2, [.ref pS, .int (nI ln), .int (nI po), .ref pV, .ref pF, .ref pE, .int (nI od)])), (pS, .inl (K 1, 80, .inl cS))]) := by
  refine Met.ofW (cc := cX2_scanDigit) (maxL := 3) (ret := (some .int)) (by decide) rfl ?_
  intro p e s m args below meth c s₁ B hml hv
  obtain ⟨rfl, hbd, hP, hD0⟩ := hv
  have hx := B.exec
  have hb := B.bytes
  have hr := B.returns
  have hts := atoms_spec (ws := wsX2_scanDigit) B.pre
  have hown : s.vm.findClass RX2 = some m.cls := findClass_of_methodNamed B.named
  have hlocks := B.notSynchronized
  have hK := hbd.2
  have hP : va_P D vwCl [(oP, .inr (2, [.ref pS, .int (nI ln), .int (nI po), .ref pV, .ref pF, .ref pE, .int (nI od)])), (pS, .inl (K 1, 80, .inl cS))] s.heap := hP
  have hin2 : ∀ w ∈ wsX20, w ∈ wsX2_scanDigit := by decide +kernel
  have hD := hD0.own
  generalize hAe : inW [(oP, .inr (2, [.ref pS, .int (nI ln), .int (nI po), .ref pV, .ref pF, .ref pE, .int (nI od)])), (pS, .inl (K 1, 80, .inl cS))] = A at hD ⊢
  have hS : va_S A s.heap s.heap [] := va_S.rf
  have hl := lv_entry ([.ref oP, .int xm]) (n := 3) (Nat.le_of_ble_eq_true rfl)
  rw [lg_entry_eq]
  generalize (lg_sl ([.ref oP, .int xm]) ++ List.replicate (3 - (lg_sl ([.ref oP, .int xm])).length) Slot.unset).toArray = ls at hl ⊢
  have hl : lv_has ls 3 [(0, .ref oP), (1, .int xm)] := hl
  have K0 : ∀ (H : Heap) (locs : List Loc) (ls : Array Slot), va_P D vwCl [(oP, .inr (2, [.ref pS, .int (nI ln), .int (nI po), .ref pV, .ref pF, .ref pE, .int (nI od)])), (pS, .inl (K 1, 80, .inl cS))] H → va_D A [(oP, .inr (2, [.ref pS, .int (nI ln), .int (nI po), .ref pV, .ref pF, .ref pE, .int (nI od)])), (pS, .inl (K 1, 80, .inl cS))] → va_S A s.heap H locs → lv_has ls 3 [(0, .ref oP), (1, .int xm)] → W p l e (headSpec wsX2_scanDigit ({ frames := 1, cells := 0, slots := 0, locals := 20 })).room s m ([.ref oP, .int xm] : List Value).toArray below meth c H locs 0 0 (MQ below (va_Qi (fun r (_ : Unit) => r = (r_X2_scanDigit cS ln po xm)) (fun _ t => va_P D vwCl [(oP, .inr (2, [.ref pS, .int (nI ln), .int (nI (n_X2_scanDigit_0_2 cS ln po xm)), .ref pV, .ref pF, .ref pE, .int (nI od)])), (pS, .inl (K 1, 80, .inl cS))] t.heap) A) ([.ref oP, .int xm] : List Value).toArray s 0 0 A) (F0 m 0 ls []) := by
    intro H locs ls hP hD hS hl
    refine lv_aload_n hx hb dX2_scanDigit_0 rfl (lv_at hl 0 rfl) ?_
    have hPc := hP.sub (ws' := [(oP, .inr (2, [.ref pS, .int (nI ln), .int (nI po), .ref pV, .ref pF, .ref pE, .int (nI od)])), (pS, .inl (K 1, 80, .inl cS))]) [0, 1] rfl
    refine vp_callSi (va_Run.run (va_runV (As := []) (rest := []) ⟨hx, hb, hml, hown, hts⟩ (c_X2_signAt l D K oP pS pV pF pE cS ln po od (by omega) (by omega)) (cwV 0 hts gX2_scanDigit_X2_signAt rfl rfl rfl (by decide +kernel) ⟨Nat.le_of_ble_eq_true rfl, Nat.le_of_ble_eq_true rfl⟩) (pre_rd hbd hPc (ci := 2) (q0 := 0) rfl rfl) rfl rfl hl.1 rfl (lv_room (Nat.le_of_ble_eq_true rfl)) dX2_scanDigit_1 ⟨Nat.zero_le _, Nat.zero_le _⟩)) (fun r_1 hr_1 => ?_)
    subst hr_1
    refine lv_bipush (v := 48) hx hb dX2_scanDigit_4 (by decide) ?_
    refine lv_isub hx hb dX2_scanDigit_6 ?_
    refine lv_istore_n (lv' := [(2, .int ((r_X2_signAt cS ln po) - 48)), (0, .ref oP), (1, .int xm)]) hx hb dX2_scanDigit_7 rfl hl (by decide) rfl (fun ls hl => ?_)
    refine lv_iload_n hx hb dX2_scanDigit_8 rfl (lv_at hl 0 rfl) ?_
    refine lv_if_lt (tgt := 17) hx hb dX2_scanDigit_9 (by decide) (fun c_2 => ?_) (fun c_2 => ?_)
    · skip
      refine lv_iconst (v := (-1)) hx hb dX2_scanDigit_17 (by decide) ?_
      have e_3 : n_X2_scanDigit_0_2 cS ln po xm = po := by unfold n_X2_scanDigit_0_2; rw [if_pos c_2]
      have hPf : va_P D vwCl [(oP, .inr (2, [.ref pS, .int (nI ln), .int (nI (n_X2_scanDigit_0_2 cS ln po xm)), .ref pV, .ref pF, .ref pE, .int (nI od)])), (pS, .inl (K 1, 80, .inl cS))] H := (by rw [e_3]; exact hP)
      exact W.iret hx hb hr (fun t ht hW => ⟨⟨_, (), rfl, (by unfold r_X2_scanDigit; rw [if_pos c_2]), by show va_P D vwCl _ t.heap; rw [ht]; exact hPf⟩, hS.F ht⟩) hS.2.2 dX2_scanDigit_18
    · skip
      refine lv_iload_n hx hb dX2_scanDigit_12 rfl (lv_at hl 0 rfl) ?_
      refine lv_iload_n hx hb dX2_scanDigit_13 rfl (lv_at hl 2 rfl) ?_
      refine lv_icmp_le (tgt := 19) hx hb dX2_scanDigit_14 (by decide) (fun c_4 => ?_) (fun c_4 => ?_)
      · skip
        refine lv_aload_n hx hb dX2_scanDigit_19 rfl (lv_at hl 1 rfl) ?_
        refine lv_dup hx hb dX2_scanDigit_20 rfl ?_
        refine va_get (D := D) (ci := 2) (v := .int (nI po)) (C := RX2) (T := TX2) (N := 7) hx hb hts hin2 hown hK hP 0 rfl rfl 2 (by decide) (hts _ (List.mem_of_getElem? (i := 1) rfl)) (fun _ h9 => h9) rfl dX2_scanDigit_21 ?_
        refine lv_iconst (v := 1) hx hb dX2_scanDigit_24 (by decide) ?_
        refine lv_iadd hx hb dX2_scanDigit_25 ?_
        refine st1 (nI_add po 1) ?_
        refine va_put (D := D) (ci := 2) (v := .int (nI (po + 1))) (ty := .int) (C := RX2) (T := TX2) (N := 7) hx hb hts hin2 tyX2 tyX2_ok nmX2 hown hK hP hD hS 0 rfl rfl 2 (by decide) (hts _ (List.mem_of_getElem? (i := 1) rfl)) (fun _ h9 => h9) rfl (by decide +kernel) rfl rfl (Nat.le_of_ble_eq_true rfl) dX2_scanDigit_26 (fun H locs hP hD hS => ?_)
        have hP : va_P D vwCl [(oP, .inr (2, [.ref pS, .int (nI ln), .int (nI (po + 1)), .ref pV, .ref pF, .ref pE, .int (nI od)])), (pS, .inl (K 1, 80, .inl cS))] H := hP
        have hD : va_D A [(oP, .inr (2, [.ref pS, .int (nI ln), .int (nI (po + 1)), .ref pV, .ref pF, .ref pE, .int (nI od)])), (pS, .inl (K 1, 80, .inl cS))] := hD
        refine lv_iload_n hx hb dX2_scanDigit_29 rfl (lv_at hl 0 rfl) ?_
        have e_5 : n_X2_scanDigit_0_2 cS ln po xm = po + 1 := by unfold n_X2_scanDigit_0_2; rw [if_neg c_2, if_pos c_4]
        have hPf : va_P D vwCl [(oP, .inr (2, [.ref pS, .int (nI ln), .int (nI (n_X2_scanDigit_0_2 cS ln po xm)), .ref pV, .ref pF, .ref pE, .int (nI od)])), (pS, .inl (K 1, 80, .inl cS))] H := (by rw [e_5]; exact hP)
        exact W.iret hx hb hr (fun t ht hW => ⟨⟨_, (), rfl, (by unfold r_X2_scanDigit; rw [if_neg c_2, if_pos c_4]), by show va_P D vwCl _ t.heap; rw [ht]; exact hPf⟩, hS.F ht⟩) hS.2.2 dX2_scanDigit_30
      · skip
        refine lv_iconst (v := (-1)) hx hb dX2_scanDigit_17 (by decide) ?_
        have e_6 : n_X2_scanDigit_0_2 cS ln po xm = po := by unfold n_X2_scanDigit_0_2; rw [if_neg c_2, if_neg c_4]
        have hPf : va_P D vwCl [(oP, .inr (2, [.ref pS, .int (nI ln), .int (nI (n_X2_scanDigit_0_2 cS ln po xm)), .ref pV, .ref pF, .ref pE, .int (nI od)])), (pS, .inl (K 1, 80, .inl cS))] H := (by rw [e_6]; exact hP)
        exact W.iret hx hb hr (fun t ht hW => ⟨⟨_, (), rfl, (by unfold r_X2_scanDigit; rw [if_neg c_2, if_neg c_4]), by show va_P D vwCl _ t.heap; rw [ht]; exact hPf⟩, hS.F ht⟩) hS.2.2 dX2_scanDigit_18
  exact K0 s.heap [] ls hP hD hS hl
def r_X2_note (od : Nat) : Int32 := (if (nI od) < 40 then 1 else 0)
theorem z_r_X2_note {od : Nat} : narrow .boolean (.int (r_X2_note od)) = .int (r_X2_note od) := by
  unfold r_X2_note
  repeat' split
  all_goals first | with_reducible exact zl0 | with_reducible exact zl1
def n_X2_note_0_6 (od : Nat) : Nat := (if (nI od) < 40 then od + 1 else od)
def n_X2_note_2 (cV : Nat → Int32) (od : Nat) (xv : Int32) : Nat → Int32 := (if (nI od) < 40 then (upd cV od xv) else cV)
def n_X2_note_3 (cF : Nat → Int32) (od : Nat) (xf : Int32) : Nat → Int32 := (if (nI od) < 40 then (upd cF od xf) else cF)
def n_X2_note_4 (cE : Nat → Int32) (od : Nat) (xs : Int32) : Nat → Int32 := (if (nI od) < 40 then (upd cE od xs) else cE)
set_option maxHeartbeats 4000000 in
set_option maxRecDepth 100000 in
theorem c_X2_note (l : Launch) (D : va_G) (K : Nat → ClassId) (oP : Nat) (pS : Nat) (pV : Nat) (pF : Nat) (pE : Nat) (cS : Nat → Int32) (cV : Nat → Int32) (cF : Nat → Int32) (cE : Nat → Int32) (ln : Nat) (po : Nat) (od : Nat) (xv : Int32) (xf : Int32) (xs : Int32) (hod : od ≤ 40) : Met l yX2_note wsX2_note ({ frames := 0, cells := 0, slots := 0, locals := 0 }) (va_Pc [.ref oP, .int xv, .int xf, .int xs] (fun U => Bd D K U ∧ va_P D vwCl [(oP, .inr (2, [.ref pS, .int (nI ln), .int (nI po), .ref pV, .ref pF, .ref pE, .int (nI od)])), (pS, .inl (K 1, 80, .inl cS)), (pV, .inl (K 0, 40, .inl cV)), (pF, .inl (K 0, 40, .inl cF)), (pE, .inl (K 0, 40, .inl cE))] U.heap ∧ va_D (fun _ => True) [(oP, .inr (2, [.ref pS, .int (nI ln), .int (nI po), .ref pV, .ref pF, .ref pE, .int (nI od)])), (pS, .inl (K 1, 80, .inl cS)), (pV, .inl (K 0, 40, .inl cV)), (pF, .inl (K 0, 40, .inl cF)), (pE, .inl (K 0, 40, .inl cE))])) (va_Qi (fun r (_ : Unit) => r = (r_X2_note od)) (fun _ t => va_P D vwCl [(oP, .inr (2, [.ref pS, .int (nI ln), .int (nI po), .ref pV, .ref pF, .ref pE, .int (nI (n_X2_note_0_6 od))])), (pS, .inl (K 1, 80, .inl cS)), (pV, .inl (K 0, 40, .inl (n_X2_note_2 cV od xv))), (pF, .inl (K 0, 40, .inl (n_X2_note_3 cF od xf))), (pE, .inl (K 0, 40, .inl (n_X2_note_4 cE od xs)))] t.heap) (inW [(oP, .inr (2, [.ref pS, .int (nI ln), .int (nI po), .ref pV, .ref pF, .ref pE, .int (nI od)])), (pS, .inl (K 1, 80, .inl cS)), (pV, .inl (K 0, 40, .inl cV)), (pF, .inl (K 0, 40, .inl cF)), (pE, .inl (K 0, 40, .inl cE))])) 0 0 (inW [(oP, .inr (2, [.ref pS, .int (nI ln), .int (nI po), .ref pV, .ref pF, .ref pE, .int (nI od)])), (pS, .inl (K 1, 80, .inl cS)), (pV, .inl (K 0, 40, .inl cV)), (pF, .inl (K 0, 40, .inl cF)), (pE, .inl (K 0, 40, .inl cE))]) := by
  refine Met.ofW (cc := cX2_note) (maxL := 4) (ret := (some .boolean)) (by decide) rfl ?_
  intro p e s m args below meth c s₁ B hml hv
  obtain ⟨rfl, hbd, hP, hD0⟩ := hv
  have hx := B.exec
  have hb := B.bytes
  have hr := B.returns
  have hts := atoms_spec (ws := wsX2_note) B.pre
  have hown : s.vm.findClass RX2 = some m.cls := findClass_of_methodNamed B.named
  have hlocks := B.notSynchronized
  have hK := hbd.2
  have hP : va_P D vwCl [(oP, .inr (2, [.ref pS, .int (nI ln), .int (nI po), .ref pV, .ref pF, .ref pE, .int (nI od)])), (pS, .inl (K 1, 80, .inl cS)), (pV, .inl (K 0, 40, .inl cV)), (pF, .inl (K 0, 40, .inl cF)), (pE, .inl (K 0, 40, .inl cE))] s.heap := hP
  have hin2 : ∀ w ∈ wsX20, w ∈ wsX2_note := by decide +kernel
  have hD := hD0.own
  generalize hAe : inW [(oP, .inr (2, [.ref pS, .int (nI ln), .int (nI po), .ref pV, .ref pF, .ref pE, .int (nI od)])), (pS, .inl (K 1, 80, .inl cS)), (pV, .inl (K 0, 40, .inl cV)), (pF, .inl (K 0, 40, .inl cF)), (pE, .inl (K 0, 40, .inl cE))] = A at hD ⊢
  have hS : va_S A s.heap s.heap [] := va_S.rf
  have hl := lv_entry ([.ref oP, .int xv, .int xf, .int xs]) (n := 4) (Nat.le_of_ble_eq_true rfl)
  rw [lg_entry_eq]
  generalize (lg_sl ([.ref oP, .int xv, .int xf, .int xs]) ++ List.replicate (4 - (lg_sl ([.ref oP, .int xv, .int xf, .int xs])).length) Slot.unset).toArray = ls at hl ⊢
  have hl : lv_has ls 4 [(0, .ref oP), (1, .int xv), (2, .int xf), (3, .int xs)] := hl
  have K0 : ∀ (H : Heap) (locs : List Loc) (ls : Array Slot), va_P D vwCl [(oP, .inr (2, [.ref pS, .int (nI ln), .int (nI po), .ref pV, .ref pF, .ref pE, .int (nI od)])), (pS, .inl (K 1, 80, .inl cS)), (pV, .inl (K 0, 40, .inl cV)), (pF, .inl (K 0, 40, .inl cF)), (pE, .inl (K 0, 40, .inl cE))] H → va_D A [(oP, .inr (2, [.ref pS, .int (nI ln), .int (nI po), .ref pV, .ref pF, .ref pE, .int (nI od)])), (pS, .inl (K 1, 80, .inl cS)), (pV, .inl (K 0, 40, .inl cV)), (pF, .inl (K 0, 40, .inl cF)), (pE, .inl (K 0, 40, .inl cE))] → va_S A s.heap H locs → lv_has ls 4 [(0, .ref oP), (1, .int xv), (2, .int xf), (3, .int xs)] → W p l e (headSpec wsX2_note ({ frames := 0, cells := 0, slots := 0, locals := 0 })).room s m ([.ref oP, .int xv, .int xf, .int xs] : List Value).toArray below meth c H locs 0 0 (MQ below (va_Qi (fun r (_ : Unit) => r = (r_X2_note od)) (fun _ t => va_P D vwCl [(oP, .inr (2, [.ref pS, .int (nI ln), .int (nI po), .ref pV, .ref pF, .ref pE, .int (nI (n_X2_note_0_6 od))])), (pS, .inl (K 1, 80, .inl cS)), (pV, .inl (K 0, 40, .inl (n_X2_note_2 cV od xv))), (pF, .inl (K 0, 40, .inl (n_X2_note_3 cF od xf))), (pE, .inl (K 0, 40, .inl (n_X2_note_4 cE od xs)))] t.heap) A) ([.ref oP, .int xv, .int xf, .int xs] : List Value).toArray s 0 0 A) (F0 m 0 ls []) := by
    intro H locs ls hP hD hS hl
    refine lv_aload_n hx hb dX2_note_0 rfl (lv_at hl 0 rfl) ?_
    refine va_get (D := D) (ci := 2) (v := .int (nI od)) (C := RX2) (T := TX2) (N := 7) hx hb hts hin2 hown hK hP 0 rfl rfl 6 (by decide) (hts _ (List.mem_of_getElem? (i := 1) rfl)) (fun _ h9 => h9) rfl dX2_note_1 ?_
    refine lv_if_lt (tgt := 16) hx hb dX2_note_4 (by decide) (fun h_1 => absurd h_1 (nI_nlt (a := od) (b := 0) (by omega) (by omega))) (fun _ => ?_)
    refine lv_aload_n hx hb dX2_note_7 rfl (lv_at hl 0 rfl) ?_
    refine va_get (D := D) (ci := 2) (v := .int (nI od)) (C := RX2) (T := TX2) (N := 7) hx hb hts hin2 hown hK hP 0 rfl rfl 6 (by decide) (hts _ (List.mem_of_getElem? (i := 1) rfl)) (fun _ h9 => h9) rfl dX2_note_8 ?_
    refine lv_bipush (v := 40) hx hb dX2_note_11 (by decide) ?_
    refine lv_icmp_lt (tgt := 18) hx hb dX2_note_13 (by decide) (fun c_2 => ?_) (fun c_2 => ?_)
    · skip
      have nc_2 := (nI_ltI (a := od) (b := 40) (by omega) (by omega)).mp c_2
      refine lv_aload_n hx hb dX2_note_18 rfl (lv_at hl 0 rfl) ?_
      refine va_get (D := D) (ci := 2) (v := .ref pV) (C := RX2) (T := TX2) (N := 7) hx hb hts hin2 hown hK hP 0 rfl rfl 3 (by decide) (hts _ (List.mem_of_getElem? (i := 2) rfl)) (fun _ h9 => h9) rfl dX2_note_19 ?_
      refine lv_aload_n hx hb dX2_note_22 rfl (lv_at hl 0 rfl) ?_
      refine va_get (D := D) (ci := 2) (v := .int (nI od)) (C := RX2) (T := TX2) (N := 7) hx hb hts hin2 hown hK hP 0 rfl rfl 6 (by decide) (hts _ (List.mem_of_getElem? (i := 1) rfl)) (fun _ h9 => h9) rfl dX2_note_23 ?_
      refine lv_iload_n hx hb dX2_note_26 rfl (lv_at hl 1 rfl) ?_
      refine n_iast hx hb hK hP hD hS 2 0 rfl rfl od (by omega) (by decide) dX2_note_27 (fun H locs hP hD hS => ?_)
      have hP : va_P D vwCl [(oP, .inr (2, [.ref pS, .int (nI ln), .int (nI po), .ref pV, .ref pF, .ref pE, .int (nI od)])), (pS, .inl (K 1, 80, .inl cS)), (pV, .inl (K 0, 40, .inl (upd cV od xv))), (pF, .inl (K 0, 40, .inl cF)), (pE, .inl (K 0, 40, .inl cE))] H := hP
      have hD : va_D A [(oP, .inr (2, [.ref pS, .int (nI ln), .int (nI po), .ref pV, .ref pF, .ref pE, .int (nI od)])), (pS, .inl (K 1, 80, .inl cS)), (pV, .inl (K 0, 40, .inl (upd cV od xv))), (pF, .inl (K 0, 40, .inl cF)), (pE, .inl (K 0, 40, .inl cE))] := hD
      refine lv_aload_n hx hb dX2_note_28 rfl (lv_at hl 0 rfl) ?_
      refine va_get (D := D) (ci := 2) (v := .ref pF) (C := RX2) (T := TX2) (N := 7) hx hb hts hin2 hown hK hP 0 rfl rfl 4 (by decide) (hts _ (List.mem_of_getElem? (i := 3) rfl)) (fun _ h9 => h9) rfl dX2_note_29 ?_
      refine lv_aload_n hx hb dX2_note_32 rfl (lv_at hl 0 rfl) ?_
      refine va_get (D := D) (ci := 2) (v := .int (nI od)) (C := RX2) (T := TX2) (N := 7) hx hb hts hin2 hown hK hP 0 rfl rfl 6 (by decide) (hts _ (List.mem_of_getElem? (i := 1) rfl)) (fun _ h9 => h9) rfl dX2_note_33 ?_
      refine lv_iload_n hx hb dX2_note_36 rfl (lv_at hl 2 rfl) ?_
      refine n_iast hx hb hK hP hD hS 3 0 rfl rfl od (by omega) (by decide) dX2_note_37 (fun H locs hP hD hS => ?_)
      have hP : va_P D vwCl [(oP, .inr (2, [.ref pS, .int (nI ln), .int (nI po), .ref pV, .ref pF, .ref pE, .int (nI od)])), (pS, .inl (K 1, 80, .inl cS)), (pV, .inl (K 0, 40, .inl (upd cV od xv))), (pF, .inl (K 0, 40, .inl (upd cF od xf))), (pE, .inl (K 0, 40, .inl cE))] H := hP
      have hD : va_D A [(oP, .inr (2, [.ref pS, .int (nI ln), .int (nI po), .ref pV, .ref pF, .ref pE, .int (nI od)])), (pS, .inl (K 1, 80, .inl cS)), (pV, .inl (K 0, 40, .inl (upd cV od xv))), (pF, .inl (K 0, 40, .inl (upd cF od xf))), (pE, .inl (K 0, 40, .inl cE))] := hD
      refine lv_aload_n hx hb dX2_note_38 rfl (lv_at hl 0 rfl) ?_
      refine va_get (D := D) (ci := 2) (v := .ref pE) (C := RX2) (T := TX2) (N := 7) hx hb hts hin2 hown hK hP 0 rfl rfl 5 (by decide) (hts _ (List.mem_of_getElem? (i := 4) rfl)) (fun _ h9 => h9) rfl dX2_note_39 ?_
      refine lv_aload_n hx hb dX2_note_42 rfl (lv_at hl 0 rfl) ?_
      refine va_get (D := D) (ci := 2) (v := .int (nI od)) (C := RX2) (T := TX2) (N := 7) hx hb hts hin2 hown hK hP 0 rfl rfl 6 (by decide) (hts _ (List.mem_of_getElem? (i := 1) rfl)) (fun _ h9 => h9) rfl dX2_note_43 ?_
      refine lv_iload_n hx hb dX2_note_46 rfl (lv_at hl 3 rfl) ?_
      refine n_iast hx hb hK hP hD hS 4 0 rfl rfl od (by omega) (by decide) dX2_note_47 (fun H locs hP hD hS => ?_)
      have hP : va_P D vwCl [(oP, .inr (2, [.ref pS, .int (nI ln), .int (nI po), .ref pV, .ref pF, .ref pE, .int (nI od)])), (pS, .inl (K 1, 80, .inl cS)), (pV, .inl (K 0, 40, .inl (upd cV od xv))), (pF, .inl (K 0, 40, .inl (upd cF od xf))), (pE, .inl (K 0, 40, .inl (upd cE od xs)))] H := hP
      have hD : va_D A [(oP, .inr (2, [.ref pS, .int (nI ln), .int (nI po), .ref pV, .ref pF, .ref pE, .int (nI od)])), (pS, .inl (K 1, 80, .inl cS)), (pV, .inl (K 0, 40, .inl (upd cV od xv))), (pF, .inl (K 0, 40, .inl (upd cF od xf))), (pE, .inl (K 0, 40, .inl (upd cE od xs)))] := hD
      refine lv_aload_n hx hb dX2_note_48 rfl (lv_at hl 0 rfl) ?_
      refine lv_dup hx hb dX2_note_49 rfl ?_
      refine va_get (D := D) (ci := 2) (v := .int (nI od)) (C := RX2) (T := TX2) (N := 7) hx hb hts hin2 hown hK hP 0 rfl rfl 6 (by decide) (hts _ (List.mem_of_getElem? (i := 1) rfl)) (fun _ h9 => h9) rfl dX2_note_50 ?_
      refine lv_iconst (v := 1) hx hb dX2_note_53 (by decide) ?_
      refine lv_iadd hx hb dX2_note_54 ?_
      refine st1 (nI_add od 1) ?_
      refine va_put (D := D) (ci := 2) (v := .int (nI (od + 1))) (ty := .int) (C := RX2) (T := TX2) (N := 7) hx hb hts hin2 tyX2 tyX2_ok nmX2 hown hK hP hD hS 0 rfl rfl 6 (by decide) (hts _ (List.mem_of_getElem? (i := 1) rfl)) (fun _ h9 => h9) rfl (by decide +kernel) rfl rfl (Nat.le_of_ble_eq_true rfl) dX2_note_55 (fun H locs hP hD hS => ?_)
      have hP : va_P D vwCl [(oP, .inr (2, [.ref pS, .int (nI ln), .int (nI po), .ref pV, .ref pF, .ref pE, .int (nI (od + 1))])), (pS, .inl (K 1, 80, .inl cS)), (pV, .inl (K 0, 40, .inl (upd cV od xv))), (pF, .inl (K 0, 40, .inl (upd cF od xf))), (pE, .inl (K 0, 40, .inl (upd cE od xs)))] H := hP
      have hD : va_D A [(oP, .inr (2, [.ref pS, .int (nI ln), .int (nI po), .ref pV, .ref pF, .ref pE, .int (nI (od + 1))])), (pS, .inl (K 1, 80, .inl cS)), (pV, .inl (K 0, 40, .inl (upd cV od xv))), (pF, .inl (K 0, 40, .inl (upd cF od xf))), (pE, .inl (K 0, 40, .inl (upd cE od xs)))] := hD
      refine lv_iconst (v := 1) hx hb dX2_note_58 (by decide) ?_
      have e_3 : n_X2_note_0_6 od = od + 1 := by unfold n_X2_note_0_6; rw [if_pos c_2]
      have e_4 : n_X2_note_2 cV od xv = (upd cV od xv) := by unfold n_X2_note_2; rw [if_pos c_2]
      have e_5 : n_X2_note_3 cF od xf = (upd cF od xf) := by unfold n_X2_note_3; rw [if_pos c_2]
      have e_6 : n_X2_note_4 cE od xs = (upd cE od xs) := by unfold n_X2_note_4; rw [if_pos c_2]
      have hPf : va_P D vwCl [(oP, .inr (2, [.ref pS, .int (nI ln), .int (nI po), .ref pV, .ref pF, .ref pE, .int (nI (n_X2_note_0_6 od))])), (pS, .inl (K 1, 80, .inl cS)), (pV, .inl (K 0, 40, .inl (n_X2_note_2 cV od xv))), (pF, .inl (K 0, 40, .inl (n_X2_note_3 cF od xf))), (pE, .inl (K 0, 40, .inl (n_X2_note_4 cE od xs)))] H := (by rw [e_3, e_4, e_5, e_6]; exact hP)
      exact W.zret hx hb hr rfl (fun t ht hW => ⟨⟨_, (), rfl, (by unfold r_X2_note; rw [if_pos c_2]), by show va_P D vwCl _ t.heap; rw [ht]; exact hPf⟩, hS.F ht⟩) hS.2.2 dX2_note_59
    · skip
      have nc_2 : ¬ (od < 40) := fun h => c_2 ((nI_ltI (a := od) (b := 40) (by omega) (by omega)).mpr h)
      refine lv_iconst (v := 0) hx hb dX2_note_16 (by decide) ?_
      have e_7 : n_X2_note_0_6 od = od := by unfold n_X2_note_0_6; rw [if_neg c_2]
      have e_8 : n_X2_note_2 cV od xv = cV := by unfold n_X2_note_2; rw [if_neg c_2]
      have e_9 : n_X2_note_3 cF od xf = cF := by unfold n_X2_note_3; rw [if_neg c_2]
      have e_10 : n_X2_note_4 cE od xs = cE := by unfold n_X2_note_4; rw [if_neg c_2]
      have hPf : va_P D vwCl [(oP, .inr (2, [.ref pS, .int (nI ln), .int (nI po), .ref pV, .ref pF, .ref pE, .int (nI (n_X2_note_0_6 od))])), (pS, .inl (K 1, 80, .inl cS)), (pV, .inl (K 0, 40, .inl (n_X2_note_2 cV od xv))), (pF, .inl (K 0, 40, .inl (n_X2_note_3 cF od xf))), (pE, .inl (K 0, 40, .inl (n_X2_note_4 cE od xs)))] H := (by rw [e_7, e_8, e_9, e_10]; exact hP)
      exact W.zret hx hb hr rfl (fun t ht hW => ⟨⟨_, (), rfl, (by unfold r_X2_note; rw [if_neg c_2]), by show va_P D vwCl _ t.heap; rw [ht]; exact hPf⟩, hS.F ht⟩) hS.2.2 dX2_note_17
  exact K0 s.heap [] ls hP hD hS hl
set_option maxHeartbeats 4000000 in
set_option maxRecDepth 100000 in
theorem c_X2_empty (l : Launch) (D : va_G) (K : Nat → ClassId) (oP : Nat) (pS : Nat) (pV : Nat) (pF : Nat) (pE : Nat) (cS : Nat → Int32) (ln : Nat) (po : Nat) (od : Nat)  : Met l yX2_empty wsX2_empty ({ frames := 0, cells := 0, slots := 0, locals := 0 }) (va_Pc [.ref oP] (fun U => Bd D K U ∧ va_P D vwCl [(oP, .inr (2, [.ref pS, .int (nI ln), .int (nI po), .ref pV, .ref pF, .ref pE, .int (nI od)]))] U.heap ∧ va_D (fun _ => True) [(oP, .inr (2, [.ref pS, .int (nI ln), .int (nI po), .ref pV, .ref pF, .ref pE, .int (nI od)]))])) (va_Qi (fun r (_ : Unit) => r = (nI ln)) (fun _ t => va_P D vwCl [(oP, .inr (2, [.ref pS, .int 0, .int (nI po), .ref pV, .ref pF, .ref pE, .int (nI od)]))] t.heap) (inW [(oP, .inr (2, [.ref pS, .int (nI ln), .int (nI po), .ref pV, .ref pF, .ref pE, .int (nI od)]))])) 0 0 (inW [(oP, .inr (2, [.ref pS, .int (nI ln), .int (nI po), .ref pV, .ref pF, .ref pE, .int (nI od)]))]) := by
  refine Met.ofW (cc := cX2_empty) (maxL := 2) (ret := (some .int)) (by decide) rfl ?_
  intro p e s m args below meth c s₁ B hml hv
  obtain ⟨rfl, hbd, hP, hD0⟩ := hv
  have hx := B.exec
  have hb := B.bytes
  have hr := B.returns
  have hts := atoms_spec (ws := wsX2_empty) B.pre
  have hown : s.vm.findClass RX2 = some m.cls := findClass_of_methodNamed B.named
  have hlocks := B.notSynchronized
  have hK := hbd.2
  have hP : va_P D vwCl [(oP, .inr (2, [.ref pS, .int (nI ln), .int (nI po), .ref pV, .ref pF, .ref pE, .int (nI od)]))] s.heap := hP
  have hin2 : ∀ w ∈ wsX20, w ∈ wsX2_empty := by decide +kernel
  have hD := hD0.own
  generalize hAe : inW [(oP, .inr (2, [.ref pS, .int (nI ln), .int (nI po), .ref pV, .ref pF, .ref pE, .int (nI od)]))] = A at hD ⊢
  have hS : va_S A s.heap s.heap [] := va_S.rf
  have hl := lv_entry ([.ref oP]) (n := 2) (Nat.le_of_ble_eq_true rfl)
  rw [lg_entry_eq]
  generalize (lg_sl ([.ref oP]) ++ List.replicate (2 - (lg_sl ([.ref oP])).length) Slot.unset).toArray = ls at hl ⊢
  have hl : lv_has ls 2 [(0, .ref oP)] := hl
  have K0 : ∀ (H : Heap) (locs : List Loc) (ls : Array Slot), va_P D vwCl [(oP, .inr (2, [.ref pS, .int (nI ln), .int (nI po), .ref pV, .ref pF, .ref pE, .int (nI od)]))] H → va_D A [(oP, .inr (2, [.ref pS, .int (nI ln), .int (nI po), .ref pV, .ref pF, .ref pE, .int (nI od)]))] → va_S A s.heap H locs → lv_has ls 2 [(0, .ref oP)] → W p l e (headSpec wsX2_empty ({ frames := 0, cells := 0, slots := 0, locals := 0 })).room s m ([.ref oP] : List Value).toArray below meth c H locs 0 0 (MQ below (va_Qi (fun r (_ : Unit) => r = (nI ln)) (fun _ t => va_P D vwCl [(oP, .inr (2, [.ref pS, .int 0, .int (nI po), .ref pV, .ref pF, .ref pE, .int (nI od)]))] t.heap) A) ([.ref oP] : List Value).toArray s 0 0 A) (F0 m 0 ls []) := by
    intro H locs ls hP hD hS hl
    refine lv_aload_n hx hb dX2_empty_0 rfl (lv_at hl 0 rfl) ?_
    refine va_get (D := D) (ci := 2) (v := .int (nI ln)) (C := RX2) (T := TX2) (N := 7) hx hb hts hin2 hown hK hP 0 rfl rfl 1 (by decide) (hts _ (List.mem_of_getElem? (i := 1) rfl)) (fun _ h9 => h9) rfl dX2_empty_1 ?_
    refine lv_istore_n (lv' := [(1, .int (nI ln)), (0, .ref oP)]) hx hb dX2_empty_4 rfl hl (by decide) rfl (fun ls hl => ?_)
    refine lv_aload_n hx hb dX2_empty_5 rfl (lv_at hl 1 rfl) ?_
    refine lv_iconst (v := 0) hx hb dX2_empty_6 (by decide) ?_
    refine va_put (D := D) (ci := 2) (v := .int 0) (ty := .int) (C := RX2) (T := TX2) (N := 7) hx hb hts hin2 tyX2 tyX2_ok nmX2 hown hK hP hD hS 0 rfl rfl 1 (by decide) (hts _ (List.mem_of_getElem? (i := 1) rfl)) (fun _ h9 => h9) rfl (by decide +kernel) rfl rfl (Nat.le_of_ble_eq_true rfl) dX2_empty_7 (fun H locs hP hD hS => ?_)
    have hP : va_P D vwCl [(oP, .inr (2, [.ref pS, .int 0, .int (nI po), .ref pV, .ref pF, .ref pE, .int (nI od)]))] H := hP
    have hD : va_D A [(oP, .inr (2, [.ref pS, .int 0, .int (nI po), .ref pV, .ref pF, .ref pE, .int (nI od)]))] := hD
    refine lv_iload_n hx hb dX2_empty_10 rfl (lv_at hl 0 rfl) ?_
    have hPf : va_P D vwCl [(oP, .inr (2, [.ref pS, .int 0, .int (nI po), .ref pV, .ref pF, .ref pE, .int (nI od)]))] H := hP
    exact W.iret hx hb hr (fun t ht hW => ⟨⟨_, (), rfl, rfl, by show va_P D vwCl _ t.heap; rw [ht]; exact hPf⟩, hS.F ht⟩) hS.2.2 dX2_empty_11
  exact K0 s.heap [] ls hP hD hS hl
theorem sg_lt {cS : Nat → Int32} {ln po : Nat} (h1 : ln ≤ 80) (h2 : po ≤ 80) (h : ¬ ((r_X2_signAt cS ln po) - 48) < 0) : po < ln := by
  rcases Nat.lt_or_ge po ln with c | c
  · exact c
  · refine absurd ?_ h
    unfold r_X2_signAt
    rw [if_pos (nI_le c (by omega))]
    decide
theorem sg_eq {cS : Nat → Int32} {ln po : Nat} {x : Int32} (h1 : ln ≤ 80) (h2 : po ≤ 80) (hx : ¬ x = 0) (h : (r_X2_signAt cS ln po) = x) : po < ln := by
  rcases Nat.lt_or_ge po ln with c | c
  · exact c
  · refine absurd ?_ hx
    rw [← h]
    unfold r_X2_signAt
    rw [if_pos (nI_le c (by omega))]
theorem nd_le {cS : Nat → Int32} {ln po : Nat} {xm : Int32} (h1 : ln ≤ 80) (h2 : po ≤ 80) : n_X2_scanDigit_0_2 cS ln po xm ≤ 80 := by
  unfold n_X2_scanDigit_0_2
  by_cases c : ((r_X2_signAt cS ln po) - 48) < 0
  · rw [if_pos c]; exact h2
  · have := sg_lt h1 h2 c
    rw [if_neg c]
    split <;> omega
theorem ns_le {cS : Nat → Int32} {ln po : Nat} {xc : Int32} (hx : ¬ xc = 0) (h1 : ln ≤ 80) (h2 : po ≤ 80) : n_X2_scanSign_0_2 cS ln po xc ≤ 80 := by
  unfold n_X2_scanSign_0_2
  by_cases c : (r_X2_signAt cS ln po) = xc
  · have := sg_eq h1 h2 hx c
    rw [if_pos c]; omega
  · rw [if_neg c]; exact h2
theorem vb_lt {cS : Nat → Int32} {ln po : Nat} (h1 : ln ≤ 80) (h2 : po ≤ 80) (h : ¬ (r_X2_isVerb (r_X2_signAt cS ln po)) = 0) : po < ln := by
  rcases Nat.lt_or_ge po ln with c | c
  · exact c
  · refine absurd ?_ h
    unfold r_X2_signAt
    rw [if_pos (nI_le c (by omega))]
    decide
/-- the digits behind a first one -/
def nuI (cS : Nat → Int32) (ln : Nat) : Nat → Int32 → Nat → Int32 × Nat
  | 0, v, p => (v, p)
  | f + 1, v, p => if v ≤ 0 then (v, p) else if ((r_X2_signAt cS ln p) - 48) < 0 then (v, p) else if 9 < ((r_X2_signAt cS ln p) - 48) then (v, p) else if ((10 * v) + ((r_X2_signAt cS ln p) - 48)) ≤ 9999 then nuI cS ln f ((10 * v) + ((r_X2_signAt cS ln p) - 48)) (p + 1) else (v, p)
theorem nuI_s (cS : Nat → Int32) (ln f : Nat) (v : Int32) (p : Nat) : nuI cS ln (f + 1) v p = if v ≤ 0 then (v, p) else if ((r_X2_signAt cS ln p) - 48) < 0 then (v, p) else if 9 < ((r_X2_signAt cS ln p) - 48) then (v, p) else if ((10 * v) + ((r_X2_signAt cS ln p) - 48)) ≤ 9999 then nuI cS ln f ((10 * v) + ((r_X2_signAt cS ln p) - 48)) (p + 1) else (v, p) := rfl
theorem nuI_le {cS : Nat → Int32} {ln : Nat} (h1 : ln ≤ 80) : ∀ (f : Nat) (v : Int32) (p : Nat), p ≤ 80 → (nuI cS ln f v p).2 ≤ 80
  | 0, _, _, h => h
  | f + 1, v, p, h => by
    rw [nuI_s]
    by_cases c1 : v ≤ 0
    · rw [if_pos c1]; exact h
    · rw [if_neg c1]
      by_cases c2 : ((r_X2_signAt cS ln p) - 48) < 0
      · rw [if_pos c2]; exact h
      · have := sg_lt h1 h c2
        rw [if_neg c2]
        by_cases c3 : 9 < ((r_X2_signAt cS ln p) - 48)
        · rw [if_pos c3]; exact h
        · rw [if_neg c3]
          by_cases c4 : ((10 * v) + ((r_X2_signAt cS ln p) - 48)) ≤ 9999
          · rw [if_pos c4]; exact nuI_le h1 f _ (p + 1) (by omega)
          · rw [if_neg c4]; exact h
def nuR (cS : Nat → Int32) (ln po : Nat) : Int32 × Nat := nuI cS ln 4 (r_X2_scanDigit cS ln po 9) (n_X2_scanDigit_0_2 cS ln po 9)
theorem nuR_le {cS : Nat → Int32} {ln po : Nat} (h1 : ln ≤ 80) (h2 : po ≤ 80) : (nuR cS ln po).2 ≤ 80 := nuI_le h1 4 _ _ (nd_le h1 h2)
set_option maxHeartbeats 4000000 in
set_option maxRecDepth 100000 in
theorem c_X2_scanNumber (l : Launch) (D : va_G) (K : Nat → ClassId) (oP : Nat) (pS : Nat) (pV : Nat) (pF : Nat) (pE : Nat) (cS : Nat → Int32) (ln : Nat) (po : Nat) (od : Nat) (hln : ln ≤ 80) (hpo : po ≤ 80) : Met l yX2_scanNumber wsX2_scanNumber ({ frames := 2, cells := 0, slots := 0, locals := 42 }) (va_Pc [.ref oP] (fun U => Bd D K U ∧ va_P D vwCl [(oP, .inr (2, [.ref pS, .int (nI ln), .int (nI po), .ref pV, .ref pF, .ref pE, .int (nI od)])), (pS, .inl (K 1, 80, .inl cS))] U.heap ∧ va_D (fun _ => True) [(oP, .inr (2, [.ref pS, .int (nI ln), .int (nI po), .ref pV, .ref pF, .ref pE, .int (nI od)])), (pS, .inl (K 1, 80, .inl cS))])) (va_Qi (fun r (_ : Unit) => r = ((nuR cS ln po).1)) (fun _ t => va_P D vwCl [(oP, .inr (2, [.ref pS, .int (nI ln), .int (nI ((nuR cS ln po).2)), .ref pV, .ref pF, .ref pE, .int (nI od)])), (pS, .inl (K 1, 80, .inl cS))] t.heap) (inW [(oP, .inr (2, [.ref pS, .int (nI ln), .int (nI po), .ref pV, .ref pF, .ref pE, .int (nI od)])), (pS, .inl (K 1, 80, .inl cS))])) 0 0 (inW [(oP, .inr (2, [.ref pS, .int (nI ln), .int (nI po), .ref pV, .ref pF, .ref pE, .int (nI od)])), (pS, .inl (K 1, 80, .inl cS))]) := by
  refine Met.ofW (cc := cX2_scanNumber) (maxL := 4) (ret := (some .int)) (by decide) rfl ?_
  intro p e s m args below meth c s₁ B hml hv
  obtain ⟨rfl, hbd, hP, hD0⟩ := hv
  have hx := B.exec
  have hb := B.bytes
  have hr := B.returns
  have hts := atoms_spec (ws := wsX2_scanNumber) B.pre
  have hown : s.vm.findClass RX2 = some m.cls := findClass_of_methodNamed B.named
  have hlocks := B.notSynchronized
  have hK := hbd.2
  have hP : va_P D vwCl [(oP, .inr (2, [.ref pS, .int (nI ln), .int (nI po), .ref pV, .ref pF, .ref pE, .int (nI od)])), (pS, .inl (K 1, 80, .inl cS))] s.heap := hP
  have hin2 : ∀ w ∈ wsX20, w ∈ wsX2_scanNumber := by decide +kernel
  have hD := hD0.own
  generalize hAe : inW [(oP, .inr (2, [.ref pS, .int (nI ln), .int (nI po), .ref pV, .ref pF, .ref pE, .int (nI od)])), (pS, .inl (K 1, 80, .inl cS))] = A at hD ⊢
  have hS : va_S A s.heap s.heap [] := va_S.rf
  have hl := lv_entry ([.ref oP]) (n := 4) (Nat.le_of_ble_eq_true rfl)
  rw [lg_entry_eq]
  generalize (lg_sl ([.ref oP]) ++ List.replicate (4 - (lg_sl ([.ref oP])).length) Slot.unset).toArray = ls at hl ⊢
  have hl : lv_has ls 4 [(0, .ref oP)] := hl
  have K0 : ∀ (H : Heap) (locs : List Loc) (ls : Array Slot), va_P D vwCl [(oP, .inr (2, [.ref pS, .int (nI ln), .int (nI po), .ref pV, .ref pF, .ref pE, .int (nI od)])), (pS, .inl (K 1, 80, .inl cS))] H → va_D A [(oP, .inr (2, [.ref pS, .int (nI ln), .int (nI po), .ref pV, .ref pF, .ref pE, .int (nI od)])), (pS, .inl (K 1, 80, .inl cS))] → va_S A s.heap H locs → lv_has ls 4 [(0, .ref oP)] → W p l e (headSpec wsX2_scanNumber ({ frames := 2, cells := 0, slots := 0, locals := 42 })).room s m ([.ref oP] : List Value).toArray below meth c H locs 0 0 (MQ below (va_Qi (fun r (_ : Unit) => r = ((nuR cS ln po).1)) (fun _ t => va_P D vwCl [(oP, .inr (2, [.ref pS, .int (nI ln), .int (nI ((nuR cS ln po).2)), .ref pV, .ref pF, .ref pE, .int (nI od)])), (pS, .inl (K 1, 80, .inl cS))] t.heap) A) ([.ref oP] : List Value).toArray s 0 0 A) (F0 m 0 ls []) := by
    intro H locs ls hP hD hS hl
    refine lv_aload_n hx hb dX2_scanNumber_0 rfl (lv_at hl 0 rfl) ?_
    refine lv_bipush (v := 9) hx hb dX2_scanNumber_1 (by decide) ?_
    have hPc := hP.sub (ws' := [(oP, .inr (2, [.ref pS, .int (nI ln), .int (nI po), .ref pV, .ref pF, .ref pE, .int (nI od)])), (pS, .inl (K 1, 80, .inl cS))]) [0, 1] rfl
    have hDc : va_D (fun _ => True) [(oP, .inr (2, [.ref pS, .int (nI ln), .int (nI po), .ref pV, .ref pF, .ref pE, .int (nI od)])), (pS, .inl (K 1, 80, .inl cS))] := (hD.sub (ws' := [(oP, .inr (2, [.ref pS, .int (nI ln), .int (nI po), .ref pV, .ref pF, .ref pE, .int (nI od)])), (pS, .inl (K 1, 80, .inl cS))]) [0, 1] (by decide +kernel) rfl).weaken (fun _ _ _ _ => trivial)
    refine kw_i (W1 := [(oP, .inr (2, [.ref pS, .int (nI ln), .int (nI (n_X2_scanDigit_0_2 cS ln po 9)), .ref pV, .ref pF, .ref pE, .int (nI od)])), (pS, .inl (K 1, 80, .inl cS))]) (w1 := [(oP, .inr (2, [.ref pS, .int (nI ln), .int (nI (n_X2_scanDigit_0_2 cS ln po 9)), .ref pV, .ref pF, .ref pE, .int (nI od)])), (pS, .inl (K 1, 80, .inl cS))]) (va_runV (As := [.int 9]) (rest := []) ⟨hx, hb, hml, hown, hts⟩ (c_X2_scanDigit l D K oP pS pV pF pE cS ln po od 9 hln (by omega)) (cwV 1 hts gX2_scanNumber_X2_scanDigit rfl rfl rfl (by decide +kernel) ⟨Nat.le_of_ble_eq_true rfl, Nat.le_of_ble_eq_true rfl⟩) (pre_wr hbd hPc hDc (ci := 2) (q0 := 0) rfl rfl) rfl rfl hl.1 rfl (lv_room (Nat.le_of_ble_eq_true rfl)) dX2_scanNumber_3 ⟨Nat.zero_le _, Nat.zero_le _⟩) hP hD hS [0, 1] [] 2 rfl rfl rfl (Eq.trans (b := List.map some ([])) rfl rfl) (by decide +kernel) (by decide +kernel) (by simp only [List.map_append, drW_fst, List.map_cons, List.map_nil]) (fun r_1 H locs hr_1 hP hD hS => ?_)
    subst hr_1
    have hp0 := nd_le (cS := cS) (xm := 9) hln hpo
    refine lv_istore_n (lv' := [(1, .int (r_X2_scanDigit cS ln po 9)), (0, .ref oP)]) hx hb dX2_scanNumber_6 rfl hl (by decide) rfl (fun ls hl => ?_)
    refine lv_iconst (v := 0) hx hb dX2_scanNumber_7 (by decide) ?_
    refine lv_istore_n (lv' := [(2, .int 0), (1, .int (r_X2_scanDigit cS ln po 9)), (0, .ref oP)]) hx hb dX2_scanNumber_8 rfl hl (by decide) rfl (fun ls hl => ?_)
    have L_2 : ∀ (nf : Nat) (q : Nat) (v : Int32) (p_ : Nat), 4 - q < nf → q ≤ 4 → p_ ≤ 80 → nuI cS ln (4 - q) v p_ = nuR cS ln po → ∀ (H : Heap) (locs : List Loc) (ls : Array Slot), va_P D vwCl [(oP, .inr (2, [.ref pS, .int (nI ln), .int (nI p_), .ref pV, .ref pF, .ref pE, .int (nI od)])), (pS, .inl (K 1, 80, .inl cS))] H → va_D A [(oP, .inr (2, [.ref pS, .int (nI ln), .int (nI p_), .ref pV, .ref pF, .ref pE, .int (nI od)])), (pS, .inl (K 1, 80, .inl cS))] → va_S A s.heap H locs → lv_has ls 4 [(2, .int (nI q)), (1, .int v), (0, .ref oP)] → W p l e (headSpec wsX2_scanNumber ({ frames := 2, cells := 0, slots := 0, locals := 42 })).room s m ([.ref oP] : List Value).toArray below meth c H locs 0 0 (MQ below (va_Qi (fun r (_ : Unit) => r = ((nuR cS ln po).1)) (fun _ t => va_P D vwCl [(oP, .inr (2, [.ref pS, .int (nI ln), .int (nI ((nuR cS ln po).2)), .ref pV, .ref pF, .ref pE, .int (nI od)])), (pS, .inl (K 1, 80, .inl cS))] t.heap) A) ([.ref oP] : List Value).toArray s 0 0 A) (F0 m 9 ls []) := by
      intro nf
      induction nf with
      | zero =>
        intro q v p_ hm
        exact absurd hm (Nat.not_lt_zero _)
      | succ nf ih =>
        intro q v p_ hm hq hp_ hinv H locs ls hP hD hS hl
        refine lv_iload_n hx hb dX2_scanNumber_9 rfl (lv_at hl 0 rfl) ?_
        refine lv_iconst (v := 4) hx hb dX2_scanNumber_10 (by decide) ?_
        refine lv_icmp_ge (tgt := 74) hx hb dX2_scanNumber_11 (by decide) (fun c_3 => ?_) (fun c_3 => ?_)
        · skip
          have nc_3 := (nI_leI (a := 4) (b := q) (by omega) (by omega)).mp c_3
          refine lv_iload_n hx hb dX2_scanNumber_74 rfl (lv_at hl 1 rfl) ?_
          have e4 : q = 4 := by omega
          subst e4
          have e9 : (v, p_) = nuR cS ln po := hinv
          have hPf : va_P D vwCl [(oP, .inr (2, [.ref pS, .int (nI ln), .int (nI ((nuR cS ln po).2)), .ref pV, .ref pF, .ref pE, .int (nI od)])), (pS, .inl (K 1, 80, .inl cS))] H := by rw [← e9]; exact hP
          exact W.iret hx hb hr (fun t ht hW => ⟨⟨_, (), rfl, (by rw [← e9]), by show va_P D vwCl _ t.heap; rw [ht]; exact hPf⟩, hS.F ht⟩) hS.2.2 dX2_scanNumber_75
        · skip
          have nc_3 : ¬ (4 ≤ q) := fun h => c_3 ((nI_leI (a := 4) (b := q) (by omega) (by omega)).mpr h)
          refine lv_iload_n hx hb dX2_scanNumber_14 rfl (lv_at hl 1 rfl) ?_
          refine lv_if_le (tgt := 74) hx hb dX2_scanNumber_15 (by decide) (fun c_4 => ?_) (fun c_4 => ?_)
          · skip
            refine lv_iload_n hx hb dX2_scanNumber_74 rfl (lv_at hl 1 rfl) ?_
            have e9 : (v, p_) = nuR cS ln po := by rw [← hinv, show 4 - q = (3 - q) + 1 by omega, nuI_s, if_pos c_4]
            have hPf : va_P D vwCl [(oP, .inr (2, [.ref pS, .int (nI ln), .int (nI ((nuR cS ln po).2)), .ref pV, .ref pF, .ref pE, .int (nI od)])), (pS, .inl (K 1, 80, .inl cS))] H := by rw [← e9]; exact hP
            exact W.iret hx hb hr (fun t ht hW => ⟨⟨_, (), rfl, (by rw [← e9]), by show va_P D vwCl _ t.heap; rw [ht]; exact hPf⟩, hS.F ht⟩) hS.2.2 dX2_scanNumber_75
          · skip
            refine lv_aload_n hx hb dX2_scanNumber_18 rfl (lv_at hl 2 rfl) ?_
            have hPc := hP.sub (ws' := [(oP, .inr (2, [.ref pS, .int (nI ln), .int (nI p_), .ref pV, .ref pF, .ref pE, .int (nI od)])), (pS, .inl (K 1, 80, .inl cS))]) [0, 1] rfl
            refine vp_callSi (va_Run.run (va_runV (As := []) (rest := []) ⟨hx, hb, hml, hown, hts⟩ (c_X2_signAt l D K oP pS pV pF pE cS ln p_ od hln (by omega)) (cwV 0 hts gX2_scanNumber_X2_signAt rfl rfl rfl (by decide +kernel) ⟨Nat.le_of_ble_eq_true rfl, Nat.le_of_ble_eq_true rfl⟩) (pre_rd hbd hPc (ci := 2) (q0 := 0) rfl rfl) rfl rfl hl.1 rfl (lv_room (Nat.le_of_ble_eq_true rfl)) dX2_scanNumber_19 ⟨Nat.zero_le _, Nat.zero_le _⟩)) (fun r_5 hr_5 => ?_)
            subst hr_5
            refine lv_bipush (v := 48) hx hb dX2_scanNumber_22 (by decide) ?_
            refine lv_isub hx hb dX2_scanNumber_24 ?_
            refine lv_istore_n (lv' := [(3, .int ((r_X2_signAt cS ln p_) - 48)), (2, .int (nI q)), (1, .int v), (0, .ref oP)]) hx hb dX2_scanNumber_25 rfl hl (by decide) rfl (fun ls hl => ?_)
            refine lv_iload_n hx hb dX2_scanNumber_26 rfl (lv_at hl 0 rfl) ?_
            refine lv_if_lt (tgt := 74) hx hb dX2_scanNumber_27 (by decide) (fun c_6 => ?_) (fun c_6 => ?_)
            · skip
              refine lv_iload_n hx hb dX2_scanNumber_74 rfl (lv_at hl 2 rfl) ?_
              have e9 : (v, p_) = nuR cS ln po := by rw [← hinv, show 4 - q = (3 - q) + 1 by omega, nuI_s, if_neg c_4, if_pos c_6]
              have hPf : va_P D vwCl [(oP, .inr (2, [.ref pS, .int (nI ln), .int (nI ((nuR cS ln po).2)), .ref pV, .ref pF, .ref pE, .int (nI od)])), (pS, .inl (K 1, 80, .inl cS))] H := by rw [← e9]; exact hP
              exact W.iret hx hb hr (fun t ht hW => ⟨⟨_, (), rfl, (by rw [← e9]), by show va_P D vwCl _ t.heap; rw [ht]; exact hPf⟩, hS.F ht⟩) hS.2.2 dX2_scanNumber_75
            · skip
              have hc_6 := sg_lt hln hp_ c_6
              refine lv_iload_n hx hb dX2_scanNumber_30 rfl (lv_at hl 0 rfl) ?_
              refine lv_bipush (v := 9) hx hb dX2_scanNumber_31 (by decide) ?_
              refine lv_icmp_gt (tgt := 74) hx hb dX2_scanNumber_33 (by decide) (fun c_7 => ?_) (fun c_7 => ?_)
              · skip
                refine lv_iload_n hx hb dX2_scanNumber_74 rfl (lv_at hl 2 rfl) ?_
                have e9 : (v, p_) = nuR cS ln po := by rw [← hinv, show 4 - q = (3 - q) + 1 by omega, nuI_s, if_neg c_4, if_neg c_6, if_pos c_7]
                have hPf : va_P D vwCl [(oP, .inr (2, [.ref pS, .int (nI ln), .int (nI ((nuR cS ln po).2)), .ref pV, .ref pF, .ref pE, .int (nI od)])), (pS, .inl (K 1, 80, .inl cS))] H := by rw [← e9]; exact hP
                exact W.iret hx hb hr (fun t ht hW => ⟨⟨_, (), rfl, (by rw [← e9]), by show va_P D vwCl _ t.heap; rw [ht]; exact hPf⟩, hS.F ht⟩) hS.2.2 dX2_scanNumber_75
              · skip
                refine lv_bipush (v := 10) hx hb dX2_scanNumber_36 (by decide) ?_
                refine lv_iload_n hx hb dX2_scanNumber_38 rfl (lv_at hl 2 rfl) ?_
                refine lv_imul hx hb dX2_scanNumber_39 ?_
                refine lv_iload_n hx hb dX2_scanNumber_40 rfl (lv_at hl 0 rfl) ?_
                refine lv_iadd hx hb dX2_scanNumber_41 ?_
                refine lv_sipush (v := 9999) hx hb dX2_scanNumber_42 (by decide) ?_
                refine lv_icmp_le (tgt := 51) hx hb dX2_scanNumber_45 (by decide) (fun c_8 => ?_) (fun c_8 => ?_)
                · skip
                  refine lv_bipush (v := 10) hx hb dX2_scanNumber_51 (by decide) ?_
                  refine lv_iload_n hx hb dX2_scanNumber_53 rfl (lv_at hl 2 rfl) ?_
                  refine lv_imul hx hb dX2_scanNumber_54 ?_
                  refine lv_iload_n hx hb dX2_scanNumber_55 rfl (lv_at hl 0 rfl) ?_
                  refine lv_iadd hx hb dX2_scanNumber_56 ?_
                  refine lv_istore_n (lv' := [(1, .int ((10 * v) + ((r_X2_signAt cS ln p_) - 48))), (3, .int ((r_X2_signAt cS ln p_) - 48)), (2, .int (nI q)), (0, .ref oP)]) hx hb dX2_scanNumber_57 rfl hl (by decide) rfl (fun ls hl => ?_)
                  refine lv_aload_n hx hb dX2_scanNumber_58 rfl (lv_at hl 3 rfl) ?_
                  refine lv_dup hx hb dX2_scanNumber_59 rfl ?_
                  refine va_get (D := D) (ci := 2) (v := .int (nI p_)) (C := RX2) (T := TX2) (N := 7) hx hb hts hin2 hown hK hP 0 rfl rfl 2 (by decide) (hts _ (List.mem_of_getElem? (i := 1) rfl)) (fun _ h9 => h9) rfl dX2_scanNumber_60 ?_
                  refine lv_iconst (v := 1) hx hb dX2_scanNumber_63 (by decide) ?_
                  refine lv_iadd hx hb dX2_scanNumber_64 ?_
                  refine st1 (nI_add p_ 1) ?_
                  refine va_put (D := D) (ci := 2) (v := .int (nI (p_ + 1))) (ty := .int) (C := RX2) (T := TX2) (N := 7) hx hb hts hin2 tyX2 tyX2_ok nmX2 hown hK hP hD hS 0 rfl rfl 2 (by decide) (hts _ (List.mem_of_getElem? (i := 1) rfl)) (fun _ h9 => h9) rfl (by decide +kernel) rfl rfl (Nat.le_of_ble_eq_true rfl) dX2_scanNumber_65 (fun H locs hP hD hS => ?_)
                  have hP : va_P D vwCl [(oP, .inr (2, [.ref pS, .int (nI ln), .int (nI (p_ + 1)), .ref pV, .ref pF, .ref pE, .int (nI od)])), (pS, .inl (K 1, 80, .inl cS))] H := hP
                  have hD : va_D A [(oP, .inr (2, [.ref pS, .int (nI ln), .int (nI (p_ + 1)), .ref pV, .ref pF, .ref pE, .int (nI od)])), (pS, .inl (K 1, 80, .inl cS))] := hD
                  refine lv_iinc (v := (nI (q + 1))) (lv' := [(2, .int (nI (q + 1))), (1, .int ((10 * v) + ((r_X2_signAt cS ln p_) - 48))), (3, .int ((r_X2_signAt cS ln p_) - 48)), (0, .ref oP)]) hx hb dX2_scanNumber_68 hl (k := 2) rfl (nI_add q 1) (by decide) rfl (fun ls hl => ?_)
                  refine lv_goto (tgt := 9) hx hb dX2_scanNumber_71 (by decide) ?_
                  exact ih (q + 1) ((10 * v) + ((r_X2_signAt cS ln p_) - 48)) (p_ + 1) (by omega) (by omega) (by omega) (by rw [← hinv, show 4 - q = (4 - (q + 1)) + 1 by omega, nuI_s, if_neg c_4, if_neg c_6, if_neg c_7, if_pos c_8]) _ _ _ hP hD hS (lv_sub hl [0, 1, 3] rfl)
                · skip
                  refine lv_goto (tgt := 74) hx hb dX2_scanNumber_48 (by decide) ?_
                  refine lv_iload_n hx hb dX2_scanNumber_74 rfl (lv_at hl 2 rfl) ?_
                  have e9 : (v, p_) = nuR cS ln po := by rw [← hinv, show 4 - q = (3 - q) + 1 by omega, nuI_s, if_neg c_4, if_neg c_6, if_neg c_7, if_neg c_8]
                  have hPf : va_P D vwCl [(oP, .inr (2, [.ref pS, .int (nI ln), .int (nI ((nuR cS ln po).2)), .ref pV, .ref pF, .ref pE, .int (nI od)])), (pS, .inl (K 1, 80, .inl cS))] H := by rw [← e9]; exact hP
                  exact W.iret hx hb hr (fun t ht hW => ⟨⟨_, (), rfl, (by rw [← e9]), by show va_P D vwCl _ t.heap; rw [ht]; exact hPf⟩, hS.F ht⟩) hS.2.2 dX2_scanNumber_75
    exact L_2 _ 0 (r_X2_scanDigit cS ln po 9) (n_X2_scanDigit_0_2 cS ln po 9) (Nat.lt_succ_self _) (by omega) (by omega) rfl H locs ls hP hD hS (lv_sub hl [0, 1, 2] rfl)
  exact K0 s.heap [] ls hP hD hS hl
def r_X2_scanOrder (cS : Nat → Int32) (ln : Nat) (po : Nat) (od : Nat) : Int32 := (if (r_X2_isVerb (r_X2_signAt cS ln po)) = 0 then 0 else (if (if (r_X2_signAt cS ln po) = 33 then (if (r_X2_scanDigit cS ln (po + 1) 1) = (-1) then (-1) else (r_X2_scanDigit cS ln (n_X2_scanDigit_0_2 cS ln (po + 1) 1) 4)) else (if (r_X2_signAt cS ln po) = 114 then ((nuR cS ln (po + 1)).1) else (if (r_X2_signAt cS ln po) = 119 then (if ((nuR cS ln (po + 1)).1) = (-1) then (-1) else (if (r_X2_scanSign cS ln ((nuR cS ln (po + 1)).2) 61) = 0 then (-1) else ((nuR cS ln (n_X2_scanSign_0_2 cS ln ((nuR cS ln (po + 1)).2) 61)).1))) else (if (r_X2_signAt cS ln po) = 120 then (if (r_X2_scanDigit cS ln (po + 1) 1) = (-1) then (-1) else ((nuR cS ln (n_X2_scanDigit_0_2 cS ln (po + 1) 1)).1)) else 0)))) = (-1) then 0 else (if (r_X2_note od) = 0 then 0 else 1)))
theorem z_r_X2_scanOrder {cS : Nat → Int32} {ln : Nat} {po : Nat} {od : Nat} : narrow .boolean (.int (r_X2_scanOrder cS ln po od)) = .int (r_X2_scanOrder cS ln po od) := by
  unfold r_X2_scanOrder
  repeat' split
  all_goals first | with_reducible exact zl0 | with_reducible exact zl1
def n_X2_scanOrder_0_2 (cS : Nat → Int32) (ln : Nat) (po : Nat) : Nat := (if (r_X2_isVerb (r_X2_signAt cS ln po)) = 0 then po else (if (r_X2_signAt cS ln po) = 33 then (if (r_X2_scanDigit cS ln (po + 1) 1) = (-1) then (n_X2_scanDigit_0_2 cS ln (po + 1) 1) else (n_X2_scanDigit_0_2 cS ln (n_X2_scanDigit_0_2 cS ln (po + 1) 1) 4)) else (if (r_X2_signAt cS ln po) = 114 then ((nuR cS ln (po + 1)).2) else (if (r_X2_signAt cS ln po) = 119 then (if ((nuR cS ln (po + 1)).1) = (-1) then ((nuR cS ln (po + 1)).2) else (if (r_X2_scanSign cS ln ((nuR cS ln (po + 1)).2) 61) = 0 then (n_X2_scanSign_0_2 cS ln ((nuR cS ln (po + 1)).2) 61) else ((nuR cS ln (n_X2_scanSign_0_2 cS ln ((nuR cS ln (po + 1)).2) 61)).2))) else (if (r_X2_signAt cS ln po) = 120 then (if (r_X2_scanDigit cS ln (po + 1) 1) = (-1) then (n_X2_scanDigit_0_2 cS ln (po + 1) 1) else ((nuR cS ln (n_X2_scanDigit_0_2 cS ln (po + 1) 1)).2)) else po + 1)))))
def n_X2_scanOrder_0_6 (cS : Nat → Int32) (ln : Nat) (po : Nat) (od : Nat) : Nat := (if (r_X2_isVerb (r_X2_signAt cS ln po)) = 0 then od else (if (if (r_X2_signAt cS ln po) = 33 then (if (r_X2_scanDigit cS ln (po + 1) 1) = (-1) then (-1) else (r_X2_scanDigit cS ln (n_X2_scanDigit_0_2 cS ln (po + 1) 1) 4)) else (if (r_X2_signAt cS ln po) = 114 then ((nuR cS ln (po + 1)).1) else (if (r_X2_signAt cS ln po) = 119 then (if ((nuR cS ln (po + 1)).1) = (-1) then (-1) else (if (r_X2_scanSign cS ln ((nuR cS ln (po + 1)).2) 61) = 0 then (-1) else ((nuR cS ln (n_X2_scanSign_0_2 cS ln ((nuR cS ln (po + 1)).2) 61)).1))) else (if (r_X2_signAt cS ln po) = 120 then (if (r_X2_scanDigit cS ln (po + 1) 1) = (-1) then (-1) else ((nuR cS ln (n_X2_scanDigit_0_2 cS ln (po + 1) 1)).1)) else 0)))) = (-1) then od else (n_X2_note_0_6 od)))
def n_X2_scanOrder_2 (cS : Nat → Int32) (cV : Nat → Int32) (ln : Nat) (po : Nat) (od : Nat) : Nat → Int32 := (if (r_X2_isVerb (r_X2_signAt cS ln po)) = 0 then cV else (if (if (r_X2_signAt cS ln po) = 33 then (if (r_X2_scanDigit cS ln (po + 1) 1) = (-1) then (-1) else (r_X2_scanDigit cS ln (n_X2_scanDigit_0_2 cS ln (po + 1) 1) 4)) else (if (r_X2_signAt cS ln po) = 114 then ((nuR cS ln (po + 1)).1) else (if (r_X2_signAt cS ln po) = 119 then (if ((nuR cS ln (po + 1)).1) = (-1) then (-1) else (if (r_X2_scanSign cS ln ((nuR cS ln (po + 1)).2) 61) = 0 then (-1) else ((nuR cS ln (n_X2_scanSign_0_2 cS ln ((nuR cS ln (po + 1)).2) 61)).1))) else (if (r_X2_signAt cS ln po) = 120 then (if (r_X2_scanDigit cS ln (po + 1) 1) = (-1) then (-1) else ((nuR cS ln (n_X2_scanDigit_0_2 cS ln (po + 1) 1)).1)) else 0)))) = (-1) then cV else (n_X2_note_2 cV od (r_X2_signAt cS ln po))))
def n_X2_scanOrder_3 (cS : Nat → Int32) (cF : Nat → Int32) (ln : Nat) (po : Nat) (od : Nat) : Nat → Int32 := (if (r_X2_isVerb (r_X2_signAt cS ln po)) = 0 then cF else (if (if (r_X2_signAt cS ln po) = 33 then (if (r_X2_scanDigit cS ln (po + 1) 1) = (-1) then (-1) else (r_X2_scanDigit cS ln (n_X2_scanDigit_0_2 cS ln (po + 1) 1) 4)) else (if (r_X2_signAt cS ln po) = 114 then ((nuR cS ln (po + 1)).1) else (if (r_X2_signAt cS ln po) = 119 then (if ((nuR cS ln (po + 1)).1) = (-1) then (-1) else (if (r_X2_scanSign cS ln ((nuR cS ln (po + 1)).2) 61) = 0 then (-1) else ((nuR cS ln (n_X2_scanSign_0_2 cS ln ((nuR cS ln (po + 1)).2) 61)).1))) else (if (r_X2_signAt cS ln po) = 120 then (if (r_X2_scanDigit cS ln (po + 1) 1) = (-1) then (-1) else ((nuR cS ln (n_X2_scanDigit_0_2 cS ln (po + 1) 1)).1)) else 0)))) = (-1) then cF else (n_X2_note_3 cF od (if (r_X2_signAt cS ln po) = 33 then (r_X2_scanDigit cS ln (po + 1) 1) else (if (r_X2_signAt cS ln po) = 114 then 0 else (if (r_X2_signAt cS ln po) = 119 then ((nuR cS ln (po + 1)).1) else (if (r_X2_signAt cS ln po) = 120 then (r_X2_scanDigit cS ln (po + 1) 1) else 0)))))))
def n_X2_scanOrder_4 (cS : Nat → Int32) (cE : Nat → Int32) (ln : Nat) (po : Nat) (od : Nat) : Nat → Int32 := (if (r_X2_isVerb (r_X2_signAt cS ln po)) = 0 then cE else (if (if (r_X2_signAt cS ln po) = 33 then (if (r_X2_scanDigit cS ln (po + 1) 1) = (-1) then (-1) else (r_X2_scanDigit cS ln (n_X2_scanDigit_0_2 cS ln (po + 1) 1) 4)) else (if (r_X2_signAt cS ln po) = 114 then ((nuR cS ln (po + 1)).1) else (if (r_X2_signAt cS ln po) = 119 then (if ((nuR cS ln (po + 1)).1) = (-1) then (-1) else (if (r_X2_scanSign cS ln ((nuR cS ln (po + 1)).2) 61) = 0 then (-1) else ((nuR cS ln (n_X2_scanSign_0_2 cS ln ((nuR cS ln (po + 1)).2) 61)).1))) else (if (r_X2_signAt cS ln po) = 120 then (if (r_X2_scanDigit cS ln (po + 1) 1) = (-1) then (-1) else ((nuR cS ln (n_X2_scanDigit_0_2 cS ln (po + 1) 1)).1)) else 0)))) = (-1) then cE else (n_X2_note_4 cE od (if (r_X2_signAt cS ln po) = 33 then (if (r_X2_scanDigit cS ln (po + 1) 1) = (-1) then (-1) else (r_X2_scanDigit cS ln (n_X2_scanDigit_0_2 cS ln (po + 1) 1) 4)) else (if (r_X2_signAt cS ln po) = 114 then ((nuR cS ln (po + 1)).1) else (if (r_X2_signAt cS ln po) = 119 then (if ((nuR cS ln (po + 1)).1) = (-1) then (-1) else (if (r_X2_scanSign cS ln ((nuR cS ln (po + 1)).2) 61) = 0 then (-1) else ((nuR cS ln (n_X2_scanSign_0_2 cS ln ((nuR cS ln (po + 1)).2) 61)).1))) else (if (r_X2_signAt cS ln po) = 120 then (if (r_X2_scanDigit cS ln (po + 1) 1) = (-1) then (-1) else ((nuR cS ln (n_X2_scanDigit_0_2 cS ln (po + 1) 1)).1)) else 0)))))))
set_option maxHeartbeats 8000000 in
set_option maxRecDepth 100000 in
theorem c_X2_scanOrder (l : Launch) (D : va_G) (K : Nat → ClassId) (oP : Nat) (pS : Nat) (pV : Nat) (pF : Nat) (pE : Nat) (cS : Nat → Int32) (cV : Nat → Int32) (cF : Nat → Int32) (cE : Nat → Int32) (ln : Nat) (po : Nat) (od : Nat) (hln : ln ≤ 80) (hpo : po ≤ 80) (hod : od ≤ 40) : Met l yX2_scanOrder wsX2_scanOrder ({ frames := 3, cells := 0, slots := 0, locals := 65 }) (va_Pc [.ref oP] (fun U => Bd D K U ∧ va_P D vwCl [(oP, .inr (2, [.ref pS, .int (nI ln), .int (nI po), .ref pV, .ref pF, .ref pE, .int (nI od)])), (pS, .inl (K 1, 80, .inl cS)), (pV, .inl (K 0, 40, .inl cV)), (pF, .inl (K 0, 40, .inl cF)), (pE, .inl (K 0, 40, .inl cE))] U.heap ∧ va_D (fun _ => True) [(oP, .inr (2, [.ref pS, .int (nI ln), .int (nI po), .ref pV, .ref pF, .ref pE, .int (nI od)])), (pS, .inl (K 1, 80, .inl cS)), (pV, .inl (K 0, 40, .inl cV)), (pF, .inl (K 0, 40, .inl cF)), (pE, .inl (K 0, 40, .inl cE))])) (va_Qi (fun r (_ : Unit) => r = (r_X2_scanOrder cS ln po od)) (fun _ t => va_P D vwCl [(oP, .inr (2, [.ref pS, .int (nI ln), .int (nI (n_X2_scanOrder_0_2 cS ln po)), .ref pV, .ref pF, .ref pE, .int (nI (n_X2_scanOrder_0_6 cS ln po od))])), (pS, .inl (K 1, 80, .inl cS)), (pV, .inl (K 0, 40, .inl (n_X2_scanOrder_2 cS cV ln po od))), (pF, .inl (K 0, 40, .inl (n_X2_scanOrder_3 cS cF ln po od))), (pE, .inl (K 0, 40, .inl (n_X2_scanOrder_4 cS cE ln po od)))] t.heap) (inW [(oP, .inr (2, [.ref pS, .int (nI ln), .int (nI po), .ref pV, .ref pF, .ref pE, .int (nI od)])), (pS, .inl (K 1, 80, .inl cS)), (pV, .inl (K 0, 40, .inl cV)), (pF, .inl (K 0, 40, .inl cF)), (pE, .inl (K 0, 40, .inl cE))])) 0 0 (inW [(oP, .inr (2, [.ref pS, .int (nI ln), .int (nI po), .ref pV, .ref pF, .ref pE, .int (nI od)])), (pS, .inl (K 1, 80, .inl cS)), (pV, .inl (K 0, 40, .inl cV)), (pF, .inl (K 0, 40, .inl cF)), (pE, .inl (K 0, 40, .inl cE))]) := by
  refine Met.ofW (cc := cX2_scanOrder) (maxL := 4) (ret := (some .boolean)) (by decide) rfl ?_
  intro p e s m args below meth c s₁ B hml hv
  obtain ⟨rfl, hbd, hP, hD0⟩ := hv
  have hx := B.exec
  have hb := B.bytes
  have hr := B.returns
  have hts := atoms_spec (ws := wsX2_scanOrder) B.pre
  have hown : s.vm.findClass RX2 = some m.cls := findClass_of_methodNamed B.named
  have hlocks := B.notSynchronized
  have hK := hbd.2
  have hP : va_P D vwCl [(oP, .inr (2, [.ref pS, .int (nI ln), .int (nI po), .ref pV, .ref pF, .ref pE, .int (nI od)])), (pS, .inl (K 1, 80, .inl cS)), (pV, .inl (K 0, 40, .inl cV)), (pF, .inl (K 0, 40, .inl cF)), (pE, .inl (K 0, 40, .inl cE))] s.heap := hP
  have hin2 : ∀ w ∈ wsX20, w ∈ wsX2_scanOrder := by decide +kernel
  have hD := hD0.own
  generalize hAe : inW [(oP, .inr (2, [.ref pS, .int (nI ln), .int (nI po), .ref pV, .ref pF, .ref pE, .int (nI od)])), (pS, .inl (K 1, 80, .inl cS)), (pV, .inl (K 0, 40, .inl cV)), (pF, .inl (K 0, 40, .inl cF)), (pE, .inl (K 0, 40, .inl cE))] = A at hD ⊢
  have hS : va_S A s.heap s.heap [] := va_S.rf
  have hl := lv_entry ([.ref oP]) (n := 4) (Nat.le_of_ble_eq_true rfl)
  rw [lg_entry_eq]
  generalize (lg_sl ([.ref oP]) ++ List.replicate (4 - (lg_sl ([.ref oP])).length) Slot.unset).toArray = ls at hl ⊢
  have hl : lv_has ls 4 [(0, .ref oP)] := hl
  have K0 : ∀ (H : Heap) (locs : List Loc) (ls : Array Slot), va_P D vwCl [(oP, .inr (2, [.ref pS, .int (nI ln), .int (nI po), .ref pV, .ref pF, .ref pE, .int (nI od)])), (pS, .inl (K 1, 80, .inl cS)), (pV, .inl (K 0, 40, .inl cV)), (pF, .inl (K 0, 40, .inl cF)), (pE, .inl (K 0, 40, .inl cE))] H → va_D A [(oP, .inr (2, [.ref pS, .int (nI ln), .int (nI po), .ref pV, .ref pF, .ref pE, .int (nI od)])), (pS, .inl (K 1, 80, .inl cS)), (pV, .inl (K 0, 40, .inl cV)), (pF, .inl (K 0, 40, .inl cF)), (pE, .inl (K 0, 40, .inl cE))] → va_S A s.heap H locs → lv_has ls 4 [(0, .ref oP)] → W p l e (headSpec wsX2_scanOrder ({ frames := 3, cells := 0, slots := 0, locals := 65 })).room s m ([.ref oP] : List Value).toArray below meth c H locs 0 0 (MQ below (va_Qi (fun r (_ : Unit) => r = (r_X2_scanOrder cS ln po od)) (fun _ t => va_P D vwCl [(oP, .inr (2, [.ref pS, .int (nI ln), .int (nI (n_X2_scanOrder_0_2 cS ln po)), .ref pV, .ref pF, .ref pE, .int (nI (n_X2_scanOrder_0_6 cS ln po od))])), (pS, .inl (K 1, 80, .inl cS)), (pV, .inl (K 0, 40, .inl (n_X2_scanOrder_2 cS cV ln po od))), (pF, .inl (K 0, 40, .inl (n_X2_scanOrder_3 cS cF ln po od))), (pE, .inl (K 0, 40, .inl (n_X2_scanOrder_4 cS cE ln po od)))] t.heap) A) ([.ref oP] : List Value).toArray s 0 0 A) (F0 m 0 ls []) := by
    intro H locs ls hP hD hS hl
    refine lv_aload_n hx hb dX2_scanOrder_0 rfl (lv_at hl 0 rfl) ?_
    have hPc := hP.sub (ws' := [(oP, .inr (2, [.ref pS, .int (nI ln), .int (nI po), .ref pV, .ref pF, .ref pE, .int (nI od)])), (pS, .inl (K 1, 80, .inl cS))]) [0, 1] rfl
    refine vp_callSi (va_Run.run (va_runV (As := []) (rest := []) ⟨hx, hb, hml, hown, hts⟩ (c_X2_signAt l D K oP pS pV pF pE cS ln po od hln (by omega)) (cwV 0 hts gX2_scanOrder_X2_signAt rfl rfl rfl (by decide +kernel) ⟨Nat.le_of_ble_eq_true rfl, Nat.le_of_ble_eq_true rfl⟩) (pre_rd hbd hPc (ci := 2) (q0 := 0) rfl rfl) rfl rfl hl.1 rfl (lv_room (Nat.le_of_ble_eq_true rfl)) dX2_scanOrder_1 ⟨Nat.zero_le _, Nat.zero_le _⟩)) (fun r_1 hr_1 => ?_)
    subst hr_1
    refine lv_istore_n (lv' := [(1, .int (r_X2_signAt cS ln po)), (0, .ref oP)]) hx hb dX2_scanOrder_4 rfl hl (by decide) rfl (fun ls hl => ?_)
    refine lv_iload_n hx hb dX2_scanOrder_5 rfl (lv_at hl 0 rfl) ?_
    refine vp_callSi (va_Run.run (va_runS (As := [.int (r_X2_signAt cS ln po)]) (rest := []) ⟨hx, hb, hml, hown, hts⟩ (c_X2_isVerb l D K (r_X2_signAt cS ln po) ) (va_cwS 1 hts gX2_scanOrder_X2_isVerb rfl rfl rfl (by decide +kernel) ⟨Nat.le_of_ble_eq_true rfl, Nat.le_of_ble_eq_true rfl⟩) pre_s0 rfl rfl hl.1 rfl (lv_room (Nat.le_of_ble_eq_true rfl)) dX2_scanOrder_6 ⟨Nat.zero_le _, Nat.zero_le _⟩)) (fun r_2 hr_2 => ?_)
    subst hr_2
    refine lv_if_ne (tgt := 14) hx hb dX2_scanOrder_9 (by decide) (fun c_3 => ?_) (fun c_3 => ?_)
    · skip
      have hv0 := vb_lt (cS := cS) hln hpo c_3
      refine lv_aload_n hx hb dX2_scanOrder_14 rfl (lv_at hl 1 rfl) ?_
      refine lv_dup hx hb dX2_scanOrder_15 rfl ?_
      refine va_get (D := D) (ci := 2) (v := .int (nI po)) (C := RX2) (T := TX2) (N := 7) hx hb hts hin2 hown hK hP 0 rfl rfl 2 (by decide) (hts _ (List.mem_of_getElem? (i := 1) rfl)) (fun _ h9 => h9) rfl dX2_scanOrder_16 ?_
      refine lv_iconst (v := 1) hx hb dX2_scanOrder_19 (by decide) ?_
      refine lv_iadd hx hb dX2_scanOrder_20 ?_
      refine st1 (nI_add po 1) ?_
      refine va_put (D := D) (ci := 2) (v := .int (nI (po + 1))) (ty := .int) (C := RX2) (T := TX2) (N := 7) hx hb hts hin2 tyX2 tyX2_ok nmX2 hown hK hP hD hS 0 rfl rfl 2 (by decide) (hts _ (List.mem_of_getElem? (i := 1) rfl)) (fun _ h9 => h9) rfl (by decide +kernel) rfl rfl (Nat.le_of_ble_eq_true rfl) dX2_scanOrder_21 (fun H locs hP hD hS => ?_)
      have hP : va_P D vwCl [(oP, .inr (2, [.ref pS, .int (nI ln), .int (nI (po + 1)), .ref pV, .ref pF, .ref pE, .int (nI od)])), (pS, .inl (K 1, 80, .inl cS)), (pV, .inl (K 0, 40, .inl cV)), (pF, .inl (K 0, 40, .inl cF)), (pE, .inl (K 0, 40, .inl cE))] H := hP
      have hD : va_D A [(oP, .inr (2, [.ref pS, .int (nI ln), .int (nI (po + 1)), .ref pV, .ref pF, .ref pE, .int (nI od)])), (pS, .inl (K 1, 80, .inl cS)), (pV, .inl (K 0, 40, .inl cV)), (pF, .inl (K 0, 40, .inl cF)), (pE, .inl (K 0, 40, .inl cE))] := hD
      refine lv_iconst (v := 0) hx hb dX2_scanOrder_24 (by decide) ?_
      refine lv_istore_n (lv' := [(2, .int 0), (1, .int (r_X2_signAt cS ln po)), (0, .ref oP)]) hx hb dX2_scanOrder_25 rfl hl (by decide) rfl (fun ls hl => ?_)
      refine lv_iconst (v := 0) hx hb dX2_scanOrder_26 (by decide) ?_
      refine lv_istore_n (lv' := [(3, .int 0), (2, .int 0), (1, .int (r_X2_signAt cS ln po)), (0, .ref oP)]) hx hb dX2_scanOrder_27 rfl hl (by decide) rfl (fun ls hl => ?_)
      refine lv_iload_n hx hb dX2_scanOrder_28 rfl (lv_at hl 2 rfl) ?_
      have K_6 : ∀ (H : Heap) (locs : List Loc) (ls : Array Slot), va_P D vwCl [(oP, .inr (2, [.ref pS, .int (nI ln), .int (nI (if (r_X2_signAt cS ln po) = 33 then (if (r_X2_scanDigit cS ln (po + 1) 1) = (-1) then (n_X2_scanDigit_0_2 cS ln (po + 1) 1) else (n_X2_scanDigit_0_2 cS ln (n_X2_scanDigit_0_2 cS ln (po + 1) 1) 4)) else (if (r_X2_signAt cS ln po) = 114 then ((nuR cS ln (po + 1)).2) else (if (r_X2_signAt cS ln po) = 119 then (if ((nuR cS ln (po + 1)).1) = (-1) then ((nuR cS ln (po + 1)).2) else (if (r_X2_scanSign cS ln ((nuR cS ln (po + 1)).2) 61) = 0 then (n_X2_scanSign_0_2 cS ln ((nuR cS ln (po + 1)).2) 61) else ((nuR cS ln (n_X2_scanSign_0_2 cS ln ((nuR cS ln (po + 1)).2) 61)).2))) else (if (r_X2_signAt cS ln po) = 120 then (if (r_X2_scanDigit cS ln (po + 1) 1) = (-1) then (n_X2_scanDigit_0_2 cS ln (po + 1) 1) else ((nuR cS ln (n_X2_scanDigit_0_2 cS ln (po + 1) 1)).2)) else po + 1))))), .ref pV, .ref pF, .ref pE, .int (nI od)])), (pS, .inl (K 1, 80, .inl cS)), (pV, .inl (K 0, 40, .inl cV)), (pF, .inl (K 0, 40, .inl cF)), (pE, .inl (K 0, 40, .inl cE))] H → va_D A [(oP, .inr (2, [.ref pS, .int (nI ln), .int (nI (if (r_X2_signAt cS ln po) = 33 then (if (r_X2_scanDigit cS ln (po + 1) 1) = (-1) then (n_X2_scanDigit_0_2 cS ln (po + 1) 1) else (n_X2_scanDigit_0_2 cS ln (n_X2_scanDigit_0_2 cS ln (po + 1) 1) 4)) else (if (r_X2_signAt cS ln po) = 114 then ((nuR cS ln (po + 1)).2) else (if (r_X2_signAt cS ln po) = 119 then (if ((nuR cS ln (po + 1)).1) = (-1) then ((nuR cS ln (po + 1)).2) else (if (r_X2_scanSign cS ln ((nuR cS ln (po + 1)).2) 61) = 0 then (n_X2_scanSign_0_2 cS ln ((nuR cS ln (po + 1)).2) 61) else ((nuR cS ln (n_X2_scanSign_0_2 cS ln ((nuR cS ln (po + 1)).2) 61)).2))) else (if (r_X2_signAt cS ln po) = 120 then (if (r_X2_scanDigit cS ln (po + 1) 1) = (-1) then (n_X2_scanDigit_0_2 cS ln (po + 1) 1) else ((nuR cS ln (n_X2_scanDigit_0_2 cS ln (po + 1) 1)).2)) else po + 1))))), .ref pV, .ref pF, .ref pE, .int (nI od)])), (pS, .inl (K 1, 80, .inl cS)), (pV, .inl (K 0, 40, .inl cV)), (pF, .inl (K 0, 40, .inl cF)), (pE, .inl (K 0, 40, .inl cE))] → va_S A s.heap H locs → lv_has ls 4 [(3, .int (if (r_X2_signAt cS ln po) = 33 then (if (r_X2_scanDigit cS ln (po + 1) 1) = (-1) then (-1) else (r_X2_scanDigit cS ln (n_X2_scanDigit_0_2 cS ln (po + 1) 1) 4)) else (if (r_X2_signAt cS ln po) = 114 then ((nuR cS ln (po + 1)).1) else (if (r_X2_signAt cS ln po) = 119 then (if ((nuR cS ln (po + 1)).1) = (-1) then (-1) else (if (r_X2_scanSign cS ln ((nuR cS ln (po + 1)).2) 61) = 0 then (-1) else ((nuR cS ln (n_X2_scanSign_0_2 cS ln ((nuR cS ln (po + 1)).2) 61)).1))) else (if (r_X2_signAt cS ln po) = 120 then (if (r_X2_scanDigit cS ln (po + 1) 1) = (-1) then (-1) else ((nuR cS ln (n_X2_scanDigit_0_2 cS ln (po + 1) 1)).1)) else 0))))), (2, .int (if (r_X2_signAt cS ln po) = 33 then (r_X2_scanDigit cS ln (po + 1) 1) else (if (r_X2_signAt cS ln po) = 114 then 0 else (if (r_X2_signAt cS ln po) = 119 then ((nuR cS ln (po + 1)).1) else (if (r_X2_signAt cS ln po) = 120 then (r_X2_scanDigit cS ln (po + 1) 1) else 0))))), (1, .int (r_X2_signAt cS ln po)), (0, .ref oP)] → W p l e (headSpec wsX2_scanOrder ({ frames := 3, cells := 0, slots := 0, locals := 65 })).room s m ([.ref oP] : List Value).toArray below meth c H locs 0 0 (MQ below (va_Qi (fun r (_ : Unit) => r = (r_X2_scanOrder cS ln po od)) (fun _ t => va_P D vwCl [(oP, .inr (2, [.ref pS, .int (nI ln), .int (nI (n_X2_scanOrder_0_2 cS ln po)), .ref pV, .ref pF, .ref pE, .int (nI (n_X2_scanOrder_0_6 cS ln po od))])), (pS, .inl (K 1, 80, .inl cS)), (pV, .inl (K 0, 40, .inl (n_X2_scanOrder_2 cS cV ln po od))), (pF, .inl (K 0, 40, .inl (n_X2_scanOrder_3 cS cF ln po od))), (pE, .inl (K 0, 40, .inl (n_X2_scanOrder_4 cS cE ln po od)))] t.heap) A) ([.ref oP] : List Value).toArray s 0 0 A) (F0 m 158 ls []) := by
        intro H locs ls hP hD hS hl
        refine lv_iload_n hx hb dX2_scanOrder_158 rfl (lv_at hl 0 rfl) ?_
        refine lv_iconst (v := (-1)) hx hb dX2_scanOrder_159 (by decide) ?_
        refine lv_icmp_eq (tgt := 177) hx hb dX2_scanOrder_160 (by decide) (fun c_7 => ?_) (fun c_7 => ?_)
        · skip
          refine lv_iconst (v := 0) hx hb dX2_scanOrder_177 (by decide) ?_
          have e_8 : n_X2_scanOrder_0_2 cS ln po = (if (r_X2_signAt cS ln po) = 33 then (if (r_X2_scanDigit cS ln (po + 1) 1) = (-1) then (n_X2_scanDigit_0_2 cS ln (po + 1) 1) else (n_X2_scanDigit_0_2 cS ln (n_X2_scanDigit_0_2 cS ln (po + 1) 1) 4)) else (if (r_X2_signAt cS ln po) = 114 then ((nuR cS ln (po + 1)).2) else (if (r_X2_signAt cS ln po) = 119 then (if ((nuR cS ln (po + 1)).1) = (-1) then ((nuR cS ln (po + 1)).2) else (if (r_X2_scanSign cS ln ((nuR cS ln (po + 1)).2) 61) = 0 then (n_X2_scanSign_0_2 cS ln ((nuR cS ln (po + 1)).2) 61) else ((nuR cS ln (n_X2_scanSign_0_2 cS ln ((nuR cS ln (po + 1)).2) 61)).2))) else (if (r_X2_signAt cS ln po) = 120 then (if (r_X2_scanDigit cS ln (po + 1) 1) = (-1) then (n_X2_scanDigit_0_2 cS ln (po + 1) 1) else ((nuR cS ln (n_X2_scanDigit_0_2 cS ln (po + 1) 1)).2)) else po + 1)))) := by unfold n_X2_scanOrder_0_2; rw [if_neg c_3]
          have e_9 : n_X2_scanOrder_0_6 cS ln po od = od := by unfold n_X2_scanOrder_0_6; rw [if_neg c_3, if_pos c_7]
          have e_10 : n_X2_scanOrder_2 cS cV ln po od = cV := by unfold n_X2_scanOrder_2; rw [if_neg c_3, if_pos c_7]
          have e_11 : n_X2_scanOrder_3 cS cF ln po od = cF := by unfold n_X2_scanOrder_3; rw [if_neg c_3, if_pos c_7]
          have e_12 : n_X2_scanOrder_4 cS cE ln po od = cE := by unfold n_X2_scanOrder_4; rw [if_neg c_3, if_pos c_7]
          have hPf : va_P D vwCl [(oP, .inr (2, [.ref pS, .int (nI ln), .int (nI (n_X2_scanOrder_0_2 cS ln po)), .ref pV, .ref pF, .ref pE, .int (nI (n_X2_scanOrder_0_6 cS ln po od))])), (pS, .inl (K 1, 80, .inl cS)), (pV, .inl (K 0, 40, .inl (n_X2_scanOrder_2 cS cV ln po od))), (pF, .inl (K 0, 40, .inl (n_X2_scanOrder_3 cS cF ln po od))), (pE, .inl (K 0, 40, .inl (n_X2_scanOrder_4 cS cE ln po od)))] H := (by rw [e_8, e_9, e_10, e_11, e_12]; exact hP)
          exact W.zret hx hb hr rfl (fun t ht hW => ⟨⟨_, (), rfl, (by unfold r_X2_scanOrder; rw [if_neg c_3, if_pos c_7]), by show va_P D vwCl _ t.heap; rw [ht]; exact hPf⟩, hS.F ht⟩) hS.2.2 dX2_scanOrder_178
        · skip
          refine lv_aload_n hx hb dX2_scanOrder_163 rfl (lv_at hl 3 rfl) ?_
          refine lv_iload_n hx hb dX2_scanOrder_164 rfl (lv_at hl 2 rfl) ?_
          refine lv_iload_n hx hb dX2_scanOrder_165 rfl (lv_at hl 1 rfl) ?_
          refine lv_iload_n hx hb dX2_scanOrder_166 rfl (lv_at hl 0 rfl) ?_
          have hPc := hP.sub (ws' := [(oP, .inr (2, [.ref pS, .int (nI ln), .int (nI (if (r_X2_signAt cS ln po) = 33 then (if (r_X2_scanDigit cS ln (po + 1) 1) = (-1) then (n_X2_scanDigit_0_2 cS ln (po + 1) 1) else (n_X2_scanDigit_0_2 cS ln (n_X2_scanDigit_0_2 cS ln (po + 1) 1) 4)) else (if (r_X2_signAt cS ln po) = 114 then ((nuR cS ln (po + 1)).2) else (if (r_X2_signAt cS ln po) = 119 then (if ((nuR cS ln (po + 1)).1) = (-1) then ((nuR cS ln (po + 1)).2) else (if (r_X2_scanSign cS ln ((nuR cS ln (po + 1)).2) 61) = 0 then (n_X2_scanSign_0_2 cS ln ((nuR cS ln (po + 1)).2) 61) else ((nuR cS ln (n_X2_scanSign_0_2 cS ln ((nuR cS ln (po + 1)).2) 61)).2))) else (if (r_X2_signAt cS ln po) = 120 then (if (r_X2_scanDigit cS ln (po + 1) 1) = (-1) then (n_X2_scanDigit_0_2 cS ln (po + 1) 1) else ((nuR cS ln (n_X2_scanDigit_0_2 cS ln (po + 1) 1)).2)) else po + 1))))), .ref pV, .ref pF, .ref pE, .int (nI od)])), (pS, .inl (K 1, 80, .inl cS)), (pV, .inl (K 0, 40, .inl cV)), (pF, .inl (K 0, 40, .inl cF)), (pE, .inl (K 0, 40, .inl cE))]) [0, 1, 2, 3, 4] rfl
          have hDc : va_D (fun _ => True) [(oP, .inr (2, [.ref pS, .int (nI ln), .int (nI (if (r_X2_signAt cS ln po) = 33 then (if (r_X2_scanDigit cS ln (po + 1) 1) = (-1) then (n_X2_scanDigit_0_2 cS ln (po + 1) 1) else (n_X2_scanDigit_0_2 cS ln (n_X2_scanDigit_0_2 cS ln (po + 1) 1) 4)) else (if (r_X2_signAt cS ln po) = 114 then ((nuR cS ln (po + 1)).2) else (if (r_X2_signAt cS ln po) = 119 then (if ((nuR cS ln (po + 1)).1) = (-1) then ((nuR cS ln (po + 1)).2) else (if (r_X2_scanSign cS ln ((nuR cS ln (po + 1)).2) 61) = 0 then (n_X2_scanSign_0_2 cS ln ((nuR cS ln (po + 1)).2) 61) else ((nuR cS ln (n_X2_scanSign_0_2 cS ln ((nuR cS ln (po + 1)).2) 61)).2))) else (if (r_X2_signAt cS ln po) = 120 then (if (r_X2_scanDigit cS ln (po + 1) 1) = (-1) then (n_X2_scanDigit_0_2 cS ln (po + 1) 1) else ((nuR cS ln (n_X2_scanDigit_0_2 cS ln (po + 1) 1)).2)) else po + 1))))), .ref pV, .ref pF, .ref pE, .int (nI od)])), (pS, .inl (K 1, 80, .inl cS)), (pV, .inl (K 0, 40, .inl cV)), (pF, .inl (K 0, 40, .inl cF)), (pE, .inl (K 0, 40, .inl cE))] := (hD.sub (ws' := [(oP, .inr (2, [.ref pS, .int (nI ln), .int (nI (if (r_X2_signAt cS ln po) = 33 then (if (r_X2_scanDigit cS ln (po + 1) 1) = (-1) then (n_X2_scanDigit_0_2 cS ln (po + 1) 1) else (n_X2_scanDigit_0_2 cS ln (n_X2_scanDigit_0_2 cS ln (po + 1) 1) 4)) else (if (r_X2_signAt cS ln po) = 114 then ((nuR cS ln (po + 1)).2) else (if (r_X2_signAt cS ln po) = 119 then (if ((nuR cS ln (po + 1)).1) = (-1) then ((nuR cS ln (po + 1)).2) else (if (r_X2_scanSign cS ln ((nuR cS ln (po + 1)).2) 61) = 0 then (n_X2_scanSign_0_2 cS ln ((nuR cS ln (po + 1)).2) 61) else ((nuR cS ln (n_X2_scanSign_0_2 cS ln ((nuR cS ln (po + 1)).2) 61)).2))) else (if (r_X2_signAt cS ln po) = 120 then (if (r_X2_scanDigit cS ln (po + 1) 1) = (-1) then (n_X2_scanDigit_0_2 cS ln (po + 1) 1) else ((nuR cS ln (n_X2_scanDigit_0_2 cS ln (po + 1) 1)).2)) else po + 1))))), .ref pV, .ref pF, .ref pE, .int (nI od)])), (pS, .inl (K 1, 80, .inl cS)), (pV, .inl (K 0, 40, .inl cV)), (pF, .inl (K 0, 40, .inl cF)), (pE, .inl (K 0, 40, .inl cE))]) [0, 1, 2, 3, 4] (by decide +kernel) rfl).weaken (fun _ _ _ _ => trivial)
          refine kw_i (W1 := [(oP, .inr (2, [.ref pS, .int (nI ln), .int (nI (if (r_X2_signAt cS ln po) = 33 then (if (r_X2_scanDigit cS ln (po + 1) 1) = (-1) then (n_X2_scanDigit_0_2 cS ln (po + 1) 1) else (n_X2_scanDigit_0_2 cS ln (n_X2_scanDigit_0_2 cS ln (po + 1) 1) 4)) else (if (r_X2_signAt cS ln po) = 114 then ((nuR cS ln (po + 1)).2) else (if (r_X2_signAt cS ln po) = 119 then (if ((nuR cS ln (po + 1)).1) = (-1) then ((nuR cS ln (po + 1)).2) else (if (r_X2_scanSign cS ln ((nuR cS ln (po + 1)).2) 61) = 0 then (n_X2_scanSign_0_2 cS ln ((nuR cS ln (po + 1)).2) 61) else ((nuR cS ln (n_X2_scanSign_0_2 cS ln ((nuR cS ln (po + 1)).2) 61)).2))) else (if (r_X2_signAt cS ln po) = 120 then (if (r_X2_scanDigit cS ln (po + 1) 1) = (-1) then (n_X2_scanDigit_0_2 cS ln (po + 1) 1) else ((nuR cS ln (n_X2_scanDigit_0_2 cS ln (po + 1) 1)).2)) else po + 1))))), .ref pV, .ref pF, .ref pE, .int (nI (n_X2_note_0_6 od))])), (pS, .inl (K 1, 80, .inl cS)), (pV, .inl (K 0, 40, .inl (n_X2_note_2 cV od (r_X2_signAt cS ln po)))), (pF, .inl (K 0, 40, .inl (n_X2_note_3 cF od (if (r_X2_signAt cS ln po) = 33 then (r_X2_scanDigit cS ln (po + 1) 1) else (if (r_X2_signAt cS ln po) = 114 then 0 else (if (r_X2_signAt cS ln po) = 119 then ((nuR cS ln (po + 1)).1) else (if (r_X2_signAt cS ln po) = 120 then (r_X2_scanDigit cS ln (po + 1) 1) else 0))))))), (pE, .inl (K 0, 40, .inl (n_X2_note_4 cE od (if (r_X2_signAt cS ln po) = 33 then (if (r_X2_scanDigit cS ln (po + 1) 1) = (-1) then (-1) else (r_X2_scanDigit cS ln (n_X2_scanDigit_0_2 cS ln (po + 1) 1) 4)) else (if (r_X2_signAt cS ln po) = 114 then ((nuR cS ln (po + 1)).1) else (if (r_X2_signAt cS ln po) = 119 then (if ((nuR cS ln (po + 1)).1) = (-1) then (-1) else (if (r_X2_scanSign cS ln ((nuR cS ln (po + 1)).2) 61) = 0 then (-1) else ((nuR cS ln (n_X2_scanSign_0_2 cS ln ((nuR cS ln (po + 1)).2) 61)).1))) else (if (r_X2_signAt cS ln po) = 120 then (if (r_X2_scanDigit cS ln (po + 1) 1) = (-1) then (-1) else ((nuR cS ln (n_X2_scanDigit_0_2 cS ln (po + 1) 1)).1)) else 0)))))))]) (w1 := [(oP, .inr (2, [.ref pS, .int (nI ln), .int (nI (if (r_X2_signAt cS ln po) = 33 then (if (r_X2_scanDigit cS ln (po + 1) 1) = (-1) then (n_X2_scanDigit_0_2 cS ln (po + 1) 1) else (n_X2_scanDigit_0_2 cS ln (n_X2_scanDigit_0_2 cS ln (po + 1) 1) 4)) else (if (r_X2_signAt cS ln po) = 114 then ((nuR cS ln (po + 1)).2) else (if (r_X2_signAt cS ln po) = 119 then (if ((nuR cS ln (po + 1)).1) = (-1) then ((nuR cS ln (po + 1)).2) else (if (r_X2_scanSign cS ln ((nuR cS ln (po + 1)).2) 61) = 0 then (n_X2_scanSign_0_2 cS ln ((nuR cS ln (po + 1)).2) 61) else ((nuR cS ln (n_X2_scanSign_0_2 cS ln ((nuR cS ln (po + 1)).2) 61)).2))) else (if (r_X2_signAt cS ln po) = 120 then (if (r_X2_scanDigit cS ln (po + 1) 1) = (-1) then (n_X2_scanDigit_0_2 cS ln (po + 1) 1) else ((nuR cS ln (n_X2_scanDigit_0_2 cS ln (po + 1) 1)).2)) else po + 1))))), .ref pV, .ref pF, .ref pE, .int (nI (n_X2_note_0_6 od))])), (pS, .inl (K 1, 80, .inl cS)), (pV, .inl (K 0, 40, .inl (n_X2_note_2 cV od (r_X2_signAt cS ln po)))), (pF, .inl (K 0, 40, .inl (n_X2_note_3 cF od (if (r_X2_signAt cS ln po) = 33 then (r_X2_scanDigit cS ln (po + 1) 1) else (if (r_X2_signAt cS ln po) = 114 then 0 else (if (r_X2_signAt cS ln po) = 119 then ((nuR cS ln (po + 1)).1) else (if (r_X2_signAt cS ln po) = 120 then (r_X2_scanDigit cS ln (po + 1) 1) else 0))))))), (pE, .inl (K 0, 40, .inl (n_X2_note_4 cE od (if (r_X2_signAt cS ln po) = 33 then (if (r_X2_scanDigit cS ln (po + 1) 1) = (-1) then (-1) else (r_X2_scanDigit cS ln (n_X2_scanDigit_0_2 cS ln (po + 1) 1) 4)) else (if (r_X2_signAt cS ln po) = 114 then ((nuR cS ln (po + 1)).1) else (if (r_X2_signAt cS ln po) = 119 then (if ((nuR cS ln (po + 1)).1) = (-1) then (-1) else (if (r_X2_scanSign cS ln ((nuR cS ln (po + 1)).2) 61) = 0 then (-1) else ((nuR cS ln (n_X2_scanSign_0_2 cS ln ((nuR cS ln (po + 1)).2) 61)).1))) else (if (r_X2_signAt cS ln po) = 120 then (if (r_X2_scanDigit cS ln (po + 1) 1) = (-1) then (-1) else ((nuR cS ln (n_X2_scanDigit_0_2 cS ln (po + 1) 1)).1)) else 0)))))))]) (va_runV (As := [.int (r_X2_signAt cS ln po), .int (if (r_X2_signAt cS ln po) = 33 then (r_X2_scanDigit cS ln (po + 1) 1) else (if (r_X2_signAt cS ln po) = 114 then 0 else (if (r_X2_signAt cS ln po) = 119 then ((nuR cS ln (po + 1)).1) else (if (r_X2_signAt cS ln po) = 120 then (r_X2_scanDigit cS ln (po + 1) 1) else 0)))), .int (if (r_X2_signAt cS ln po) = 33 then (if (r_X2_scanDigit cS ln (po + 1) 1) = (-1) then (-1) else (r_X2_scanDigit cS ln (n_X2_scanDigit_0_2 cS ln (po + 1) 1) 4)) else (if (r_X2_signAt cS ln po) = 114 then ((nuR cS ln (po + 1)).1) else (if (r_X2_signAt cS ln po) = 119 then (if ((nuR cS ln (po + 1)).1) = (-1) then (-1) else (if (r_X2_scanSign cS ln ((nuR cS ln (po + 1)).2) 61) = 0 then (-1) else ((nuR cS ln (n_X2_scanSign_0_2 cS ln ((nuR cS ln (po + 1)).2) 61)).1))) else (if (r_X2_signAt cS ln po) = 120 then (if (r_X2_scanDigit cS ln (po + 1) 1) = (-1) then (-1) else ((nuR cS ln (n_X2_scanDigit_0_2 cS ln (po + 1) 1)).1)) else 0))))]) (rest := []) ⟨hx, hb, hml, hown, hts⟩ (c_X2_note l D K oP pS pV pF pE cS cV cF cE ln (if (r_X2_signAt cS ln po) = 33 then (if (r_X2_scanDigit cS ln (po + 1) 1) = (-1) then (n_X2_scanDigit_0_2 cS ln (po + 1) 1) else (n_X2_scanDigit_0_2 cS ln (n_X2_scanDigit_0_2 cS ln (po + 1) 1) 4)) else (if (r_X2_signAt cS ln po) = 114 then ((nuR cS ln (po + 1)).2) else (if (r_X2_signAt cS ln po) = 119 then (if ((nuR cS ln (po + 1)).1) = (-1) then ((nuR cS ln (po + 1)).2) else (if (r_X2_scanSign cS ln ((nuR cS ln (po + 1)).2) 61) = 0 then (n_X2_scanSign_0_2 cS ln ((nuR cS ln (po + 1)).2) 61) else ((nuR cS ln (n_X2_scanSign_0_2 cS ln ((nuR cS ln (po + 1)).2) 61)).2))) else (if (r_X2_signAt cS ln po) = 120 then (if (r_X2_scanDigit cS ln (po + 1) 1) = (-1) then (n_X2_scanDigit_0_2 cS ln (po + 1) 1) else ((nuR cS ln (n_X2_scanDigit_0_2 cS ln (po + 1) 1)).2)) else po + 1)))) od (r_X2_signAt cS ln po) (if (r_X2_signAt cS ln po) = 33 then (r_X2_scanDigit cS ln (po + 1) 1) else (if (r_X2_signAt cS ln po) = 114 then 0 else (if (r_X2_signAt cS ln po) = 119 then ((nuR cS ln (po + 1)).1) else (if (r_X2_signAt cS ln po) = 120 then (r_X2_scanDigit cS ln (po + 1) 1) else 0)))) (if (r_X2_signAt cS ln po) = 33 then (if (r_X2_scanDigit cS ln (po + 1) 1) = (-1) then (-1) else (r_X2_scanDigit cS ln (n_X2_scanDigit_0_2 cS ln (po + 1) 1) 4)) else (if (r_X2_signAt cS ln po) = 114 then ((nuR cS ln (po + 1)).1) else (if (r_X2_signAt cS ln po) = 119 then (if ((nuR cS ln (po + 1)).1) = (-1) then (-1) else (if (r_X2_scanSign cS ln ((nuR cS ln (po + 1)).2) 61) = 0 then (-1) else ((nuR cS ln (n_X2_scanSign_0_2 cS ln ((nuR cS ln (po + 1)).2) 61)).1))) else (if (r_X2_signAt cS ln po) = 120 then (if (r_X2_scanDigit cS ln (po + 1) 1) = (-1) then (-1) else ((nuR cS ln (n_X2_scanDigit_0_2 cS ln (po + 1) 1)).1)) else 0)))) hod) (cwV 3 hts gX2_scanOrder_X2_note rfl rfl rfl (by decide +kernel) ⟨Nat.le_of_ble_eq_true rfl, Nat.le_of_ble_eq_true rfl⟩) (pre_wr hbd hPc hDc (ci := 2) (q0 := 0) rfl rfl) rfl rfl hl.1 rfl (lv_room (Nat.le_of_ble_eq_true rfl)) dX2_scanOrder_167 ⟨Nat.zero_le _, Nat.zero_le _⟩) hP hD hS [0, 1, 2, 3, 4] [] 5 rfl rfl rfl (Eq.trans (b := List.map some ([])) rfl rfl) (by decide +kernel) (by decide +kernel) (by simp only [List.map_append, drW_fst, List.map_cons, List.map_nil]) (fun r_13 H locs hr_13 hP hD hS => ?_)
          subst hr_13
          refine lv_if_eq (tgt := 177) hx hb dX2_scanOrder_170 (by decide) (fun c_14 => ?_) (fun c_14 => ?_)
          · skip
            refine lv_iconst (v := 0) hx hb dX2_scanOrder_177 (by decide) ?_
            have e_15 : n_X2_scanOrder_0_2 cS ln po = (if (r_X2_signAt cS ln po) = 33 then (if (r_X2_scanDigit cS ln (po + 1) 1) = (-1) then (n_X2_scanDigit_0_2 cS ln (po + 1) 1) else (n_X2_scanDigit_0_2 cS ln (n_X2_scanDigit_0_2 cS ln (po + 1) 1) 4)) else (if (r_X2_signAt cS ln po) = 114 then ((nuR cS ln (po + 1)).2) else (if (r_X2_signAt cS ln po) = 119 then (if ((nuR cS ln (po + 1)).1) = (-1) then ((nuR cS ln (po + 1)).2) else (if (r_X2_scanSign cS ln ((nuR cS ln (po + 1)).2) 61) = 0 then (n_X2_scanSign_0_2 cS ln ((nuR cS ln (po + 1)).2) 61) else ((nuR cS ln (n_X2_scanSign_0_2 cS ln ((nuR cS ln (po + 1)).2) 61)).2))) else (if (r_X2_signAt cS ln po) = 120 then (if (r_X2_scanDigit cS ln (po + 1) 1) = (-1) then (n_X2_scanDigit_0_2 cS ln (po + 1) 1) else ((nuR cS ln (n_X2_scanDigit_0_2 cS ln (po + 1) 1)).2)) else po + 1)))) := by unfold n_X2_scanOrder_0_2; rw [if_neg c_3]
            have e_16 : n_X2_scanOrder_0_6 cS ln po od = (n_X2_note_0_6 od) := by unfold n_X2_scanOrder_0_6; rw [if_neg c_3, if_neg c_7]
            have e_17 : n_X2_scanOrder_2 cS cV ln po od = (n_X2_note_2 cV od (r_X2_signAt cS ln po)) := by unfold n_X2_scanOrder_2; rw [if_neg c_3, if_neg c_7]
            have e_18 : n_X2_scanOrder_3 cS cF ln po od = (n_X2_note_3 cF od (if (r_X2_signAt cS ln po) = 33 then (r_X2_scanDigit cS ln (po + 1) 1) else (if (r_X2_signAt cS ln po) = 114 then 0 else (if (r_X2_signAt cS ln po) = 119 then ((nuR cS ln (po + 1)).1) else (if (r_X2_signAt cS ln po) = 120 then (r_X2_scanDigit cS ln (po + 1) 1) else 0))))) := by unfold n_X2_scanOrder_3; rw [if_neg c_3, if_neg c_7]
            have e_19 : n_X2_scanOrder_4 cS cE ln po od = (n_X2_note_4 cE od (if (r_X2_signAt cS ln po) = 33 then (if (r_X2_scanDigit cS ln (po + 1) 1) = (-1) then (-1) else (r_X2_scanDigit cS ln (n_X2_scanDigit_0_2 cS ln (po + 1) 1) 4)) else (if (r_X2_signAt cS ln po) = 114 then ((nuR cS ln (po + 1)).1) else (if (r_X2_signAt cS ln po) = 119 then (if ((nuR cS ln (po + 1)).1) = (-1) then (-1) else (if (r_X2_scanSign cS ln ((nuR cS ln (po + 1)).2) 61) = 0 then (-1) else ((nuR cS ln (n_X2_scanSign_0_2 cS ln ((nuR cS ln (po + 1)).2) 61)).1))) else (if (r_X2_signAt cS ln po) = 120 then (if (r_X2_scanDigit cS ln (po + 1) 1) = (-1) then (-1) else ((nuR cS ln (n_X2_scanDigit_0_2 cS ln (po + 1) 1)).1)) else 0))))) := by unfold n_X2_scanOrder_4; rw [if_neg c_3, if_neg c_7]
            have hPf : va_P D vwCl [(oP, .inr (2, [.ref pS, .int (nI ln), .int (nI (n_X2_scanOrder_0_2 cS ln po)), .ref pV, .ref pF, .ref pE, .int (nI (n_X2_scanOrder_0_6 cS ln po od))])), (pS, .inl (K 1, 80, .inl cS)), (pV, .inl (K 0, 40, .inl (n_X2_scanOrder_2 cS cV ln po od))), (pF, .inl (K 0, 40, .inl (n_X2_scanOrder_3 cS cF ln po od))), (pE, .inl (K 0, 40, .inl (n_X2_scanOrder_4 cS cE ln po od)))] H := (by rw [e_15, e_16, e_17, e_18, e_19]; exact hP)
            exact W.zret hx hb hr rfl (fun t ht hW => ⟨⟨_, (), rfl, (by unfold r_X2_scanOrder; rw [if_neg c_3, if_neg c_7, if_pos c_14]), by show va_P D vwCl _ t.heap; rw [ht]; exact hPf⟩, hS.F ht⟩) hS.2.2 dX2_scanOrder_178
          · skip
            refine lv_iconst (v := 1) hx hb dX2_scanOrder_173 (by decide) ?_
            refine lv_goto (tgt := 178) hx hb dX2_scanOrder_174 (by decide) ?_
            have e_20 : n_X2_scanOrder_0_2 cS ln po = (if (r_X2_signAt cS ln po) = 33 then (if (r_X2_scanDigit cS ln (po + 1) 1) = (-1) then (n_X2_scanDigit_0_2 cS ln (po + 1) 1) else (n_X2_scanDigit_0_2 cS ln (n_X2_scanDigit_0_2 cS ln (po + 1) 1) 4)) else (if (r_X2_signAt cS ln po) = 114 then ((nuR cS ln (po + 1)).2) else (if (r_X2_signAt cS ln po) = 119 then (if ((nuR cS ln (po + 1)).1) = (-1) then ((nuR cS ln (po + 1)).2) else (if (r_X2_scanSign cS ln ((nuR cS ln (po + 1)).2) 61) = 0 then (n_X2_scanSign_0_2 cS ln ((nuR cS ln (po + 1)).2) 61) else ((nuR cS ln (n_X2_scanSign_0_2 cS ln ((nuR cS ln (po + 1)).2) 61)).2))) else (if (r_X2_signAt cS ln po) = 120 then (if (r_X2_scanDigit cS ln (po + 1) 1) = (-1) then (n_X2_scanDigit_0_2 cS ln (po + 1) 1) else ((nuR cS ln (n_X2_scanDigit_0_2 cS ln (po + 1) 1)).2)) else po + 1)))) := by unfold n_X2_scanOrder_0_2; rw [if_neg c_3]
            have e_21 : n_X2_scanOrder_0_6 cS ln po od = (n_X2_note_0_6 od) := by unfold n_X2_scanOrder_0_6; rw [if_neg c_3, if_neg c_7]
            have e_22 : n_X2_scanOrder_2 cS cV ln po od = (n_X2_note_2 cV od (r_X2_signAt cS ln po)) := by unfold n_X2_scanOrder_2; rw [if_neg c_3, if_neg c_7]
            have e_23 : n_X2_scanOrder_3 cS cF ln po od = (n_X2_note_3 cF od (if (r_X2_signAt cS ln po) = 33 then (r_X2_scanDigit cS ln (po + 1) 1) else (if (r_X2_signAt cS ln po) = 114 then 0 else (if (r_X2_signAt cS ln po) = 119 then ((nuR cS ln (po + 1)).1) else (if (r_X2_signAt cS ln po) = 120 then (r_X2_scanDigit cS ln (po + 1) 1) else 0))))) := by unfold n_X2_scanOrder_3; rw [if_neg c_3, if_neg c_7]
            have e_24 : n_X2_scanOrder_4 cS cE ln po od = (n_X2_note_4 cE od (if (r_X2_signAt cS ln po) = 33 then (if (r_X2_scanDigit cS ln (po + 1) 1) = (-1) then (-1) else (r_X2_scanDigit cS ln (n_X2_scanDigit_0_2 cS ln (po + 1) 1) 4)) else (if (r_X2_signAt cS ln po) = 114 then ((nuR cS ln (po + 1)).1) else (if (r_X2_signAt cS ln po) = 119 then (if ((nuR cS ln (po + 1)).1) = (-1) then (-1) else (if (r_X2_scanSign cS ln ((nuR cS ln (po + 1)).2) 61) = 0 then (-1) else ((nuR cS ln (n_X2_scanSign_0_2 cS ln ((nuR cS ln (po + 1)).2) 61)).1))) else (if (r_X2_signAt cS ln po) = 120 then (if (r_X2_scanDigit cS ln (po + 1) 1) = (-1) then (-1) else ((nuR cS ln (n_X2_scanDigit_0_2 cS ln (po + 1) 1)).1)) else 0))))) := by unfold n_X2_scanOrder_4; rw [if_neg c_3, if_neg c_7]
            have hPf : va_P D vwCl [(oP, .inr (2, [.ref pS, .int (nI ln), .int (nI (n_X2_scanOrder_0_2 cS ln po)), .ref pV, .ref pF, .ref pE, .int (nI (n_X2_scanOrder_0_6 cS ln po od))])), (pS, .inl (K 1, 80, .inl cS)), (pV, .inl (K 0, 40, .inl (n_X2_scanOrder_2 cS cV ln po od))), (pF, .inl (K 0, 40, .inl (n_X2_scanOrder_3 cS cF ln po od))), (pE, .inl (K 0, 40, .inl (n_X2_scanOrder_4 cS cE ln po od)))] H := (by rw [e_20, e_21, e_22, e_23, e_24]; exact hP)
            exact W.zret hx hb hr rfl (fun t ht hW => ⟨⟨_, (), rfl, (by unfold r_X2_scanOrder; rw [if_neg c_3, if_neg c_7, if_neg c_14]), by show va_P D vwCl _ t.heap; rw [ht]; exact hPf⟩, hS.F ht⟩) hS.2.2 dX2_scanOrder_178
      refine byc (P := (r_X2_signAt cS ln po) = 33) (fun c_4 => ?_) (fun c_4 => ?_)
      · skip
        refine lv_lookup (off := 82) (tgt := 111) hx hb dX2_scanOrder_29 (by decide) (by rw [c_4]; decide) (by decide) ?_
        refine lv_aload_n hx hb dX2_scanOrder_111 rfl (lv_at hl 3 rfl) ?_
        refine lv_iconst (v := 1) hx hb dX2_scanOrder_112 (by decide) ?_
        have hPc := hP.sub (ws' := [(oP, .inr (2, [.ref pS, .int (nI ln), .int (nI (po + 1)), .ref pV, .ref pF, .ref pE, .int (nI od)])), (pS, .inl (K 1, 80, .inl cS))]) [0, 1] rfl
        have hDc : va_D (fun _ => True) [(oP, .inr (2, [.ref pS, .int (nI ln), .int (nI (po + 1)), .ref pV, .ref pF, .ref pE, .int (nI od)])), (pS, .inl (K 1, 80, .inl cS))] := (hD.sub (ws' := [(oP, .inr (2, [.ref pS, .int (nI ln), .int (nI (po + 1)), .ref pV, .ref pF, .ref pE, .int (nI od)])), (pS, .inl (K 1, 80, .inl cS))]) [0, 1] (by decide +kernel) rfl).weaken (fun _ _ _ _ => trivial)
        refine kw_i (W1 := [(oP, .inr (2, [.ref pS, .int (nI ln), .int (nI (n_X2_scanDigit_0_2 cS ln (po + 1) 1)), .ref pV, .ref pF, .ref pE, .int (nI od)])), (pS, .inl (K 1, 80, .inl cS)), (pV, .inl (K 0, 40, .inl cV)), (pF, .inl (K 0, 40, .inl cF)), (pE, .inl (K 0, 40, .inl cE))]) (w1 := [(oP, .inr (2, [.ref pS, .int (nI ln), .int (nI (n_X2_scanDigit_0_2 cS ln (po + 1) 1)), .ref pV, .ref pF, .ref pE, .int (nI od)])), (pS, .inl (K 1, 80, .inl cS))]) (va_runV (As := [.int 1]) (rest := []) ⟨hx, hb, hml, hown, hts⟩ (c_X2_scanDigit l D K oP pS pV pF pE cS ln (po + 1) od 1 hln (by omega)) (cwV 1 hts gX2_scanOrder_X2_scanDigit rfl rfl rfl (by decide +kernel) ⟨Nat.le_of_ble_eq_true rfl, Nat.le_of_ble_eq_true rfl⟩) (pre_wr hbd hPc hDc (ci := 2) (q0 := 0) rfl rfl) rfl rfl hl.1 rfl (lv_room (Nat.le_of_ble_eq_true rfl)) dX2_scanOrder_113 ⟨Nat.zero_le _, Nat.zero_le _⟩) hP hD hS [0, 1] [2, 3, 4] 5 rfl rfl rfl (Eq.trans (b := List.map some ([(pV, .inl (K 0, 40, .inl cV)), (pF, .inl (K 0, 40, .inl cF)), (pE, .inl (K 0, 40, .inl cE))])) rfl rfl) (by decide +kernel) (by decide +kernel) (by simp only [List.map_append, drW_fst, List.map_cons, List.map_nil]) (fun r_25 H locs hr_25 hP hD hS => ?_)
        subst hr_25
        have hb_26 := nd_le (cS := cS) (ln := ln) (po := (po + 1)) (xm := 1) hln (by omega)
        refine lv_istore_n (lv' := [(2, .int (r_X2_scanDigit cS ln (po + 1) 1)), (3, .int 0), (1, .int (r_X2_signAt cS ln po)), (0, .ref oP)]) hx hb dX2_scanOrder_116 rfl hl (by decide) rfl (fun ls hl => ?_)
        refine lv_iload_n hx hb dX2_scanOrder_117 rfl (lv_at hl 0 rfl) ?_
        refine lv_iconst (v := (-1)) hx hb dX2_scanOrder_118 (by decide) ?_
        refine lv_icmp_eq (tgt := 130) hx hb dX2_scanOrder_119 (by decide) (fun c_27 => ?_) (fun c_27 => ?_)
        · skip
          refine lv_iconst (v := (-1)) hx hb dX2_scanOrder_130 (by decide) ?_
          refine lv_istore_n (lv' := [(3, .int (-1)), (2, .int (r_X2_scanDigit cS ln (po + 1) 1)), (1, .int (r_X2_signAt cS ln po)), (0, .ref oP)]) hx hb dX2_scanOrder_131 rfl hl (by decide) rfl (fun ls hl => ?_)
          refine lv_goto (tgt := 158) hx hb dX2_scanOrder_132 (by decide) ?_
          have e_28 : ((if (r_X2_signAt cS ln po) = 33 then (if (r_X2_scanDigit cS ln (po + 1) 1) = (-1) then (-1) else (r_X2_scanDigit cS ln (n_X2_scanDigit_0_2 cS ln (po + 1) 1) 4)) else (if (r_X2_signAt cS ln po) = 114 then ((nuR cS ln (po + 1)).1) else (if (r_X2_signAt cS ln po) = 119 then (if ((nuR cS ln (po + 1)).1) = (-1) then (-1) else (if (r_X2_scanSign cS ln ((nuR cS ln (po + 1)).2) 61) = 0 then (-1) else ((nuR cS ln (n_X2_scanSign_0_2 cS ln ((nuR cS ln (po + 1)).2) 61)).1))) else (if (r_X2_signAt cS ln po) = 120 then (if (r_X2_scanDigit cS ln (po + 1) 1) = (-1) then (-1) else ((nuR cS ln (n_X2_scanDigit_0_2 cS ln (po + 1) 1)).1)) else 0)))) : Int32) = (-1) := by rw [if_pos c_4, if_pos c_27]
          have e_29 : ((if (r_X2_signAt cS ln po) = 33 then (r_X2_scanDigit cS ln (po + 1) 1) else (if (r_X2_signAt cS ln po) = 114 then 0 else (if (r_X2_signAt cS ln po) = 119 then ((nuR cS ln (po + 1)).1) else (if (r_X2_signAt cS ln po) = 120 then (r_X2_scanDigit cS ln (po + 1) 1) else 0)))) : Int32) = (r_X2_scanDigit cS ln (po + 1) 1) := by rw [if_pos c_4]
          have e_30 : ((nI (if (r_X2_signAt cS ln po) = 33 then (if (r_X2_scanDigit cS ln (po + 1) 1) = (-1) then (n_X2_scanDigit_0_2 cS ln (po + 1) 1) else (n_X2_scanDigit_0_2 cS ln (n_X2_scanDigit_0_2 cS ln (po + 1) 1) 4)) else (if (r_X2_signAt cS ln po) = 114 then ((nuR cS ln (po + 1)).2) else (if (r_X2_signAt cS ln po) = 119 then (if ((nuR cS ln (po + 1)).1) = (-1) then ((nuR cS ln (po + 1)).2) else (if (r_X2_scanSign cS ln ((nuR cS ln (po + 1)).2) 61) = 0 then (n_X2_scanSign_0_2 cS ln ((nuR cS ln (po + 1)).2) 61) else ((nuR cS ln (n_X2_scanSign_0_2 cS ln ((nuR cS ln (po + 1)).2) 61)).2))) else (if (r_X2_signAt cS ln po) = 120 then (if (r_X2_scanDigit cS ln (po + 1) 1) = (-1) then (n_X2_scanDigit_0_2 cS ln (po + 1) 1) else ((nuR cS ln (n_X2_scanDigit_0_2 cS ln (po + 1) 1)).2)) else po + 1))))) : Int32) = (nI (n_X2_scanDigit_0_2 cS ln (po + 1) 1)) := by rw [if_pos c_4, if_pos c_27]
          exact K_6 _ _ _ (by rw [e_30]; exact hP) (by rw [e_30]; exact hD) hS (by rw [e_28, e_29]; exact (lv_sub hl [0, 1, 2, 3] rfl))
        · skip
          refine lv_aload_n hx hb dX2_scanOrder_122 rfl (lv_at hl 3 rfl) ?_
          refine lv_iconst (v := 4) hx hb dX2_scanOrder_123 (by decide) ?_
          have hPc := hP.sub (ws' := [(oP, .inr (2, [.ref pS, .int (nI ln), .int (nI (n_X2_scanDigit_0_2 cS ln (po + 1) 1)), .ref pV, .ref pF, .ref pE, .int (nI od)])), (pS, .inl (K 1, 80, .inl cS))]) [0, 1] rfl
          have hDc : va_D (fun _ => True) [(oP, .inr (2, [.ref pS, .int (nI ln), .int (nI (n_X2_scanDigit_0_2 cS ln (po + 1) 1)), .ref pV, .ref pF, .ref pE, .int (nI od)])), (pS, .inl (K 1, 80, .inl cS))] := (hD.sub (ws' := [(oP, .inr (2, [.ref pS, .int (nI ln), .int (nI (n_X2_scanDigit_0_2 cS ln (po + 1) 1)), .ref pV, .ref pF, .ref pE, .int (nI od)])), (pS, .inl (K 1, 80, .inl cS))]) [0, 1] (by decide +kernel) rfl).weaken (fun _ _ _ _ => trivial)
          refine kw_i (W1 := [(oP, .inr (2, [.ref pS, .int (nI ln), .int (nI (n_X2_scanDigit_0_2 cS ln (n_X2_scanDigit_0_2 cS ln (po + 1) 1) 4)), .ref pV, .ref pF, .ref pE, .int (nI od)])), (pS, .inl (K 1, 80, .inl cS)), (pV, .inl (K 0, 40, .inl cV)), (pF, .inl (K 0, 40, .inl cF)), (pE, .inl (K 0, 40, .inl cE))]) (w1 := [(oP, .inr (2, [.ref pS, .int (nI ln), .int (nI (n_X2_scanDigit_0_2 cS ln (n_X2_scanDigit_0_2 cS ln (po + 1) 1) 4)), .ref pV, .ref pF, .ref pE, .int (nI od)])), (pS, .inl (K 1, 80, .inl cS))]) (va_runV (As := [.int 4]) (rest := []) ⟨hx, hb, hml, hown, hts⟩ (c_X2_scanDigit l D K oP pS pV pF pE cS ln (n_X2_scanDigit_0_2 cS ln (po + 1) 1) od 4 hln (by omega)) (cwV 1 hts gX2_scanOrder_X2_scanDigit rfl rfl rfl (by decide +kernel) ⟨Nat.le_of_ble_eq_true rfl, Nat.le_of_ble_eq_true rfl⟩) (pre_wr hbd hPc hDc (ci := 2) (q0 := 0) rfl rfl) rfl rfl hl.1 rfl (lv_room (Nat.le_of_ble_eq_true rfl)) dX2_scanOrder_124 ⟨Nat.zero_le _, Nat.zero_le _⟩) hP hD hS [0, 1] [2, 3, 4] 5 rfl rfl rfl (Eq.trans (b := List.map some ([(pV, .inl (K 0, 40, .inl cV)), (pF, .inl (K 0, 40, .inl cF)), (pE, .inl (K 0, 40, .inl cE))])) rfl rfl) (by decide +kernel) (by decide +kernel) (by simp only [List.map_append, drW_fst, List.map_cons, List.map_nil]) (fun r_31 H locs hr_31 hP hD hS => ?_)
          subst hr_31
          have hb_32 := nd_le (cS := cS) (ln := ln) (po := (n_X2_scanDigit_0_2 cS ln (po + 1) 1)) (xm := 4) hln (by omega)
          refine lv_goto (tgt := 131) hx hb dX2_scanOrder_127 (by decide) ?_
          refine lv_istore_n (lv' := [(3, .int (r_X2_scanDigit cS ln (n_X2_scanDigit_0_2 cS ln (po + 1) 1) 4)), (2, .int (r_X2_scanDigit cS ln (po + 1) 1)), (1, .int (r_X2_signAt cS ln po)), (0, .ref oP)]) hx hb dX2_scanOrder_131 rfl hl (by decide) rfl (fun ls hl => ?_)
          refine lv_goto (tgt := 158) hx hb dX2_scanOrder_132 (by decide) ?_
          have e_33 : ((if (r_X2_signAt cS ln po) = 33 then (if (r_X2_scanDigit cS ln (po + 1) 1) = (-1) then (-1) else (r_X2_scanDigit cS ln (n_X2_scanDigit_0_2 cS ln (po + 1) 1) 4)) else (if (r_X2_signAt cS ln po) = 114 then ((nuR cS ln (po + 1)).1) else (if (r_X2_signAt cS ln po) = 119 then (if ((nuR cS ln (po + 1)).1) = (-1) then (-1) else (if (r_X2_scanSign cS ln ((nuR cS ln (po + 1)).2) 61) = 0 then (-1) else ((nuR cS ln (n_X2_scanSign_0_2 cS ln ((nuR cS ln (po + 1)).2) 61)).1))) else (if (r_X2_signAt cS ln po) = 120 then (if (r_X2_scanDigit cS ln (po + 1) 1) = (-1) then (-1) else ((nuR cS ln (n_X2_scanDigit_0_2 cS ln (po + 1) 1)).1)) else 0)))) : Int32) = (r_X2_scanDigit cS ln (n_X2_scanDigit_0_2 cS ln (po + 1) 1) 4) := by rw [if_pos c_4, if_neg c_27]
          have e_34 : ((if (r_X2_signAt cS ln po) = 33 then (r_X2_scanDigit cS ln (po + 1) 1) else (if (r_X2_signAt cS ln po) = 114 then 0 else (if (r_X2_signAt cS ln po) = 119 then ((nuR cS ln (po + 1)).1) else (if (r_X2_signAt cS ln po) = 120 then (r_X2_scanDigit cS ln (po + 1) 1) else 0)))) : Int32) = (r_X2_scanDigit cS ln (po + 1) 1) := by rw [if_pos c_4]
          have e_35 : ((nI (if (r_X2_signAt cS ln po) = 33 then (if (r_X2_scanDigit cS ln (po + 1) 1) = (-1) then (n_X2_scanDigit_0_2 cS ln (po + 1) 1) else (n_X2_scanDigit_0_2 cS ln (n_X2_scanDigit_0_2 cS ln (po + 1) 1) 4)) else (if (r_X2_signAt cS ln po) = 114 then ((nuR cS ln (po + 1)).2) else (if (r_X2_signAt cS ln po) = 119 then (if ((nuR cS ln (po + 1)).1) = (-1) then ((nuR cS ln (po + 1)).2) else (if (r_X2_scanSign cS ln ((nuR cS ln (po + 1)).2) 61) = 0 then (n_X2_scanSign_0_2 cS ln ((nuR cS ln (po + 1)).2) 61) else ((nuR cS ln (n_X2_scanSign_0_2 cS ln ((nuR cS ln (po + 1)).2) 61)).2))) else (if (r_X2_signAt cS ln po) = 120 then (if (r_X2_scanDigit cS ln (po + 1) 1) = (-1) then (n_X2_scanDigit_0_2 cS ln (po + 1) 1) else ((nuR cS ln (n_X2_scanDigit_0_2 cS ln (po + 1) 1)).2)) else po + 1))))) : Int32) = (nI (n_X2_scanDigit_0_2 cS ln (n_X2_scanDigit_0_2 cS ln (po + 1) 1) 4)) := by rw [if_pos c_4, if_neg c_27]
          exact K_6 _ _ _ (by rw [e_35]; exact hP) (by rw [e_35]; exact hD) hS (by rw [e_33, e_34]; exact (lv_sub hl [0, 1, 2, 3] rfl))
      · skip
        refine byc (P := (r_X2_signAt cS ln po) = 114) (fun c_36 => ?_) (fun c_36 => ?_)
        · skip
          refine lv_lookup (off := 74) (tgt := 103) hx hb dX2_scanOrder_29 (by decide) (by rw [c_36]; decide) (by decide) ?_
          refine lv_aload_n hx hb dX2_scanOrder_103 rfl (lv_at hl 3 rfl) ?_
          have hPc := hP.sub (ws' := [(oP, .inr (2, [.ref pS, .int (nI ln), .int (nI (po + 1)), .ref pV, .ref pF, .ref pE, .int (nI od)])), (pS, .inl (K 1, 80, .inl cS))]) [0, 1] rfl
          have hDc : va_D (fun _ => True) [(oP, .inr (2, [.ref pS, .int (nI ln), .int (nI (po + 1)), .ref pV, .ref pF, .ref pE, .int (nI od)])), (pS, .inl (K 1, 80, .inl cS))] := (hD.sub (ws' := [(oP, .inr (2, [.ref pS, .int (nI ln), .int (nI (po + 1)), .ref pV, .ref pF, .ref pE, .int (nI od)])), (pS, .inl (K 1, 80, .inl cS))]) [0, 1] (by decide +kernel) rfl).weaken (fun _ _ _ _ => trivial)
          refine kw_i (W1 := [(oP, .inr (2, [.ref pS, .int (nI ln), .int (nI ((nuR cS ln (po + 1)).2)), .ref pV, .ref pF, .ref pE, .int (nI od)])), (pS, .inl (K 1, 80, .inl cS)), (pV, .inl (K 0, 40, .inl cV)), (pF, .inl (K 0, 40, .inl cF)), (pE, .inl (K 0, 40, .inl cE))]) (w1 := [(oP, .inr (2, [.ref pS, .int (nI ln), .int (nI ((nuR cS ln (po + 1)).2)), .ref pV, .ref pF, .ref pE, .int (nI od)])), (pS, .inl (K 1, 80, .inl cS))]) (va_runV (As := []) (rest := []) ⟨hx, hb, hml, hown, hts⟩ (c_X2_scanNumber l D K oP pS pV pF pE cS ln (po + 1) od hln (by omega)) (cwV 0 hts gX2_scanOrder_X2_scanNumber rfl rfl rfl (by decide +kernel) ⟨Nat.le_of_ble_eq_true rfl, Nat.le_of_ble_eq_true rfl⟩) (pre_wr hbd hPc hDc (ci := 2) (q0 := 0) rfl rfl) rfl rfl hl.1 rfl (lv_room (Nat.le_of_ble_eq_true rfl)) dX2_scanOrder_104 ⟨Nat.zero_le _, Nat.zero_le _⟩) hP hD hS [0, 1] [2, 3, 4] 5 rfl rfl rfl (Eq.trans (b := List.map some ([(pV, .inl (K 0, 40, .inl cV)), (pF, .inl (K 0, 40, .inl cF)), (pE, .inl (K 0, 40, .inl cE))])) rfl rfl) (by decide +kernel) (by decide +kernel) (by simp only [List.map_append, drW_fst, List.map_cons, List.map_nil]) (fun r_37 H locs hr_37 hP hD hS => ?_)
          subst hr_37
          have hb_38 := nuR_le (cS := cS) (ln := ln) (po := (po + 1)) hln (by omega)
          refine lv_istore_n (lv' := [(3, .int ((nuR cS ln (po + 1)).1)), (2, .int 0), (1, .int (r_X2_signAt cS ln po)), (0, .ref oP)]) hx hb dX2_scanOrder_107 rfl hl (by decide) rfl (fun ls hl => ?_)
          refine lv_goto (tgt := 158) hx hb dX2_scanOrder_108 (by decide) ?_
          have e_39 : ((if (r_X2_signAt cS ln po) = 33 then (if (r_X2_scanDigit cS ln (po + 1) 1) = (-1) then (-1) else (r_X2_scanDigit cS ln (n_X2_scanDigit_0_2 cS ln (po + 1) 1) 4)) else (if (r_X2_signAt cS ln po) = 114 then ((nuR cS ln (po + 1)).1) else (if (r_X2_signAt cS ln po) = 119 then (if ((nuR cS ln (po + 1)).1) = (-1) then (-1) else (if (r_X2_scanSign cS ln ((nuR cS ln (po + 1)).2) 61) = 0 then (-1) else ((nuR cS ln (n_X2_scanSign_0_2 cS ln ((nuR cS ln (po + 1)).2) 61)).1))) else (if (r_X2_signAt cS ln po) = 120 then (if (r_X2_scanDigit cS ln (po + 1) 1) = (-1) then (-1) else ((nuR cS ln (n_X2_scanDigit_0_2 cS ln (po + 1) 1)).1)) else 0)))) : Int32) = ((nuR cS ln (po + 1)).1) := by rw [if_neg c_4, if_pos c_36]
          have e_40 : ((if (r_X2_signAt cS ln po) = 33 then (r_X2_scanDigit cS ln (po + 1) 1) else (if (r_X2_signAt cS ln po) = 114 then 0 else (if (r_X2_signAt cS ln po) = 119 then ((nuR cS ln (po + 1)).1) else (if (r_X2_signAt cS ln po) = 120 then (r_X2_scanDigit cS ln (po + 1) 1) else 0)))) : Int32) = 0 := by rw [if_neg c_4, if_pos c_36]
          have e_41 : ((nI (if (r_X2_signAt cS ln po) = 33 then (if (r_X2_scanDigit cS ln (po + 1) 1) = (-1) then (n_X2_scanDigit_0_2 cS ln (po + 1) 1) else (n_X2_scanDigit_0_2 cS ln (n_X2_scanDigit_0_2 cS ln (po + 1) 1) 4)) else (if (r_X2_signAt cS ln po) = 114 then ((nuR cS ln (po + 1)).2) else (if (r_X2_signAt cS ln po) = 119 then (if ((nuR cS ln (po + 1)).1) = (-1) then ((nuR cS ln (po + 1)).2) else (if (r_X2_scanSign cS ln ((nuR cS ln (po + 1)).2) 61) = 0 then (n_X2_scanSign_0_2 cS ln ((nuR cS ln (po + 1)).2) 61) else ((nuR cS ln (n_X2_scanSign_0_2 cS ln ((nuR cS ln (po + 1)).2) 61)).2))) else (if (r_X2_signAt cS ln po) = 120 then (if (r_X2_scanDigit cS ln (po + 1) 1) = (-1) then (n_X2_scanDigit_0_2 cS ln (po + 1) 1) else ((nuR cS ln (n_X2_scanDigit_0_2 cS ln (po + 1) 1)).2)) else po + 1))))) : Int32) = (nI ((nuR cS ln (po + 1)).2)) := by rw [if_neg c_4, if_pos c_36]
          exact K_6 _ _ _ (by rw [e_41]; exact hP) (by rw [e_41]; exact hD) hS (by rw [e_39, e_40]; exact (lv_sub hl [0, 1, 2, 3] rfl))
        · skip
          refine byc (P := (r_X2_signAt cS ln po) = 119) (fun c_42 => ?_) (fun c_42 => ?_)
          · skip
            refine lv_lookup (off := 43) (tgt := 72) hx hb dX2_scanOrder_29 (by decide) (by rw [c_42]; decide) (by decide) ?_
            refine lv_aload_n hx hb dX2_scanOrder_72 rfl (lv_at hl 3 rfl) ?_
            have hPc := hP.sub (ws' := [(oP, .inr (2, [.ref pS, .int (nI ln), .int (nI (po + 1)), .ref pV, .ref pF, .ref pE, .int (nI od)])), (pS, .inl (K 1, 80, .inl cS))]) [0, 1] rfl
            have hDc : va_D (fun _ => True) [(oP, .inr (2, [.ref pS, .int (nI ln), .int (nI (po + 1)), .ref pV, .ref pF, .ref pE, .int (nI od)])), (pS, .inl (K 1, 80, .inl cS))] := (hD.sub (ws' := [(oP, .inr (2, [.ref pS, .int (nI ln), .int (nI (po + 1)), .ref pV, .ref pF, .ref pE, .int (nI od)])), (pS, .inl (K 1, 80, .inl cS))]) [0, 1] (by decide +kernel) rfl).weaken (fun _ _ _ _ => trivial)
            refine kw_i (W1 := [(oP, .inr (2, [.ref pS, .int (nI ln), .int (nI ((nuR cS ln (po + 1)).2)), .ref pV, .ref pF, .ref pE, .int (nI od)])), (pS, .inl (K 1, 80, .inl cS)), (pV, .inl (K 0, 40, .inl cV)), (pF, .inl (K 0, 40, .inl cF)), (pE, .inl (K 0, 40, .inl cE))]) (w1 := [(oP, .inr (2, [.ref pS, .int (nI ln), .int (nI ((nuR cS ln (po + 1)).2)), .ref pV, .ref pF, .ref pE, .int (nI od)])), (pS, .inl (K 1, 80, .inl cS))]) (va_runV (As := []) (rest := []) ⟨hx, hb, hml, hown, hts⟩ (c_X2_scanNumber l D K oP pS pV pF pE cS ln (po + 1) od hln (by omega)) (cwV 0 hts gX2_scanOrder_X2_scanNumber rfl rfl rfl (by decide +kernel) ⟨Nat.le_of_ble_eq_true rfl, Nat.le_of_ble_eq_true rfl⟩) (pre_wr hbd hPc hDc (ci := 2) (q0 := 0) rfl rfl) rfl rfl hl.1 rfl (lv_room (Nat.le_of_ble_eq_true rfl)) dX2_scanOrder_73 ⟨Nat.zero_le _, Nat.zero_le _⟩) hP hD hS [0, 1] [2, 3, 4] 5 rfl rfl rfl (Eq.trans (b := List.map some ([(pV, .inl (K 0, 40, .inl cV)), (pF, .inl (K 0, 40, .inl cF)), (pE, .inl (K 0, 40, .inl cE))])) rfl rfl) (by decide +kernel) (by decide +kernel) (by simp only [List.map_append, drW_fst, List.map_cons, List.map_nil]) (fun r_43 H locs hr_43 hP hD hS => ?_)
            subst hr_43
            have hb_44 := nuR_le (cS := cS) (ln := ln) (po := (po + 1)) hln (by omega)
            refine lv_istore_n (lv' := [(2, .int ((nuR cS ln (po + 1)).1)), (3, .int 0), (1, .int (r_X2_signAt cS ln po)), (0, .ref oP)]) hx hb dX2_scanOrder_76 rfl hl (by decide) rfl (fun ls hl => ?_)
            refine lv_iload_n hx hb dX2_scanOrder_77 rfl (lv_at hl 0 rfl) ?_
            refine lv_iconst (v := (-1)) hx hb dX2_scanOrder_78 (by decide) ?_
            refine lv_icmp_eq (tgt := 98) hx hb dX2_scanOrder_79 (by decide) (fun c_45 => ?_) (fun c_45 => ?_)
            · skip
              refine lv_iconst (v := (-1)) hx hb dX2_scanOrder_98 (by decide) ?_
              refine lv_istore_n (lv' := [(3, .int (-1)), (2, .int ((nuR cS ln (po + 1)).1)), (1, .int (r_X2_signAt cS ln po)), (0, .ref oP)]) hx hb dX2_scanOrder_99 rfl hl (by decide) rfl (fun ls hl => ?_)
              refine lv_goto (tgt := 158) hx hb dX2_scanOrder_100 (by decide) ?_
              have e_46 : ((if (r_X2_signAt cS ln po) = 33 then (if (r_X2_scanDigit cS ln (po + 1) 1) = (-1) then (-1) else (r_X2_scanDigit cS ln (n_X2_scanDigit_0_2 cS ln (po + 1) 1) 4)) else (if (r_X2_signAt cS ln po) = 114 then ((nuR cS ln (po + 1)).1) else (if (r_X2_signAt cS ln po) = 119 then (if ((nuR cS ln (po + 1)).1) = (-1) then (-1) else (if (r_X2_scanSign cS ln ((nuR cS ln (po + 1)).2) 61) = 0 then (-1) else ((nuR cS ln (n_X2_scanSign_0_2 cS ln ((nuR cS ln (po + 1)).2) 61)).1))) else (if (r_X2_signAt cS ln po) = 120 then (if (r_X2_scanDigit cS ln (po + 1) 1) = (-1) then (-1) else ((nuR cS ln (n_X2_scanDigit_0_2 cS ln (po + 1) 1)).1)) else 0)))) : Int32) = (-1) := by rw [if_neg c_4, if_neg c_36, if_pos c_42, if_pos c_45]
              have e_47 : ((if (r_X2_signAt cS ln po) = 33 then (r_X2_scanDigit cS ln (po + 1) 1) else (if (r_X2_signAt cS ln po) = 114 then 0 else (if (r_X2_signAt cS ln po) = 119 then ((nuR cS ln (po + 1)).1) else (if (r_X2_signAt cS ln po) = 120 then (r_X2_scanDigit cS ln (po + 1) 1) else 0)))) : Int32) = ((nuR cS ln (po + 1)).1) := by rw [if_neg c_4, if_neg c_36, if_pos c_42]
              have e_48 : ((nI (if (r_X2_signAt cS ln po) = 33 then (if (r_X2_scanDigit cS ln (po + 1) 1) = (-1) then (n_X2_scanDigit_0_2 cS ln (po + 1) 1) else (n_X2_scanDigit_0_2 cS ln (n_X2_scanDigit_0_2 cS ln (po + 1) 1) 4)) else (if (r_X2_signAt cS ln po) = 114 then ((nuR cS ln (po + 1)).2) else (if (r_X2_signAt cS ln po) = 119 then (if ((nuR cS ln (po + 1)).1) = (-1) then ((nuR cS ln (po + 1)).2) else (if (r_X2_scanSign cS ln ((nuR cS ln (po + 1)).2) 61) = 0 then (n_X2_scanSign_0_2 cS ln ((nuR cS ln (po + 1)).2) 61) else ((nuR cS ln (n_X2_scanSign_0_2 cS ln ((nuR cS ln (po + 1)).2) 61)).2))) else (if (r_X2_signAt cS ln po) = 120 then (if (r_X2_scanDigit cS ln (po + 1) 1) = (-1) then (n_X2_scanDigit_0_2 cS ln (po + 1) 1) else ((nuR cS ln (n_X2_scanDigit_0_2 cS ln (po + 1) 1)).2)) else po + 1))))) : Int32) = (nI ((nuR cS ln (po + 1)).2)) := by rw [if_neg c_4, if_neg c_36, if_pos c_42, if_pos c_45]
              exact K_6 _ _ _ (by rw [e_48]; exact hP) (by rw [e_48]; exact hD) hS (by rw [e_46, e_47]; exact (lv_sub hl [0, 1, 2, 3] rfl))
            · skip
              refine lv_aload_n hx hb dX2_scanOrder_82 rfl (lv_at hl 3 rfl) ?_
              refine lv_bipush (v := 61) hx hb dX2_scanOrder_83 (by decide) ?_
              have hPc := hP.sub (ws' := [(oP, .inr (2, [.ref pS, .int (nI ln), .int (nI ((nuR cS ln (po + 1)).2)), .ref pV, .ref pF, .ref pE, .int (nI od)])), (pS, .inl (K 1, 80, .inl cS))]) [0, 1] rfl
              have hDc : va_D (fun _ => True) [(oP, .inr (2, [.ref pS, .int (nI ln), .int (nI ((nuR cS ln (po + 1)).2)), .ref pV, .ref pF, .ref pE, .int (nI od)])), (pS, .inl (K 1, 80, .inl cS))] := (hD.sub (ws' := [(oP, .inr (2, [.ref pS, .int (nI ln), .int (nI ((nuR cS ln (po + 1)).2)), .ref pV, .ref pF, .ref pE, .int (nI od)])), (pS, .inl (K 1, 80, .inl cS))]) [0, 1] (by decide +kernel) rfl).weaken (fun _ _ _ _ => trivial)
              refine kw_i (W1 := [(oP, .inr (2, [.ref pS, .int (nI ln), .int (nI (n_X2_scanSign_0_2 cS ln ((nuR cS ln (po + 1)).2) 61)), .ref pV, .ref pF, .ref pE, .int (nI od)])), (pS, .inl (K 1, 80, .inl cS)), (pV, .inl (K 0, 40, .inl cV)), (pF, .inl (K 0, 40, .inl cF)), (pE, .inl (K 0, 40, .inl cE))]) (w1 := [(oP, .inr (2, [.ref pS, .int (nI ln), .int (nI (n_X2_scanSign_0_2 cS ln ((nuR cS ln (po + 1)).2) 61)), .ref pV, .ref pF, .ref pE, .int (nI od)])), (pS, .inl (K 1, 80, .inl cS))]) (va_runV (As := [.int 61]) (rest := []) ⟨hx, hb, hml, hown, hts⟩ (c_X2_scanSign l D K oP pS pV pF pE cS ln ((nuR cS ln (po + 1)).2) od 61 hln (by omega)) (cwV 1 hts gX2_scanOrder_X2_scanSign rfl rfl rfl (by decide +kernel) ⟨Nat.le_of_ble_eq_true rfl, Nat.le_of_ble_eq_true rfl⟩) (pre_wr hbd hPc hDc (ci := 2) (q0 := 0) rfl rfl) rfl rfl hl.1 rfl (lv_room (Nat.le_of_ble_eq_true rfl)) dX2_scanOrder_85 ⟨Nat.zero_le _, Nat.zero_le _⟩) hP hD hS [0, 1] [2, 3, 4] 5 rfl rfl rfl (Eq.trans (b := List.map some ([(pV, .inl (K 0, 40, .inl cV)), (pF, .inl (K 0, 40, .inl cF)), (pE, .inl (K 0, 40, .inl cE))])) rfl rfl) (by decide +kernel) (by decide +kernel) (by simp only [List.map_append, drW_fst, List.map_cons, List.map_nil]) (fun r_49 H locs hr_49 hP hD hS => ?_)
              subst hr_49
              have hb_50 := ns_le (cS := cS) (ln := ln) (po := ((nuR cS ln (po + 1)).2)) (xc := 61) (by decide) hln (by omega)
              refine lv_if_eq (tgt := 98) hx hb dX2_scanOrder_88 (by decide) (fun c_51 => ?_) (fun c_51 => ?_)
              · skip
                refine lv_iconst (v := (-1)) hx hb dX2_scanOrder_98 (by decide) ?_
                refine lv_istore_n (lv' := [(3, .int (-1)), (2, .int ((nuR cS ln (po + 1)).1)), (1, .int (r_X2_signAt cS ln po)), (0, .ref oP)]) hx hb dX2_scanOrder_99 rfl hl (by decide) rfl (fun ls hl => ?_)
                refine lv_goto (tgt := 158) hx hb dX2_scanOrder_100 (by decide) ?_
                have e_52 : ((if (r_X2_signAt cS ln po) = 33 then (if (r_X2_scanDigit cS ln (po + 1) 1) = (-1) then (-1) else (r_X2_scanDigit cS ln (n_X2_scanDigit_0_2 cS ln (po + 1) 1) 4)) else (if (r_X2_signAt cS ln po) = 114 then ((nuR cS ln (po + 1)).1) else (if (r_X2_signAt cS ln po) = 119 then (if ((nuR cS ln (po + 1)).1) = (-1) then (-1) else (if (r_X2_scanSign cS ln ((nuR cS ln (po + 1)).2) 61) = 0 then (-1) else ((nuR cS ln (n_X2_scanSign_0_2 cS ln ((nuR cS ln (po + 1)).2) 61)).1))) else (if (r_X2_signAt cS ln po) = 120 then (if (r_X2_scanDigit cS ln (po + 1) 1) = (-1) then (-1) else ((nuR cS ln (n_X2_scanDigit_0_2 cS ln (po + 1) 1)).1)) else 0)))) : Int32) = (-1) := by rw [if_neg c_4, if_neg c_36, if_pos c_42, if_neg c_45, if_pos c_51]
                have e_53 : ((if (r_X2_signAt cS ln po) = 33 then (r_X2_scanDigit cS ln (po + 1) 1) else (if (r_X2_signAt cS ln po) = 114 then 0 else (if (r_X2_signAt cS ln po) = 119 then ((nuR cS ln (po + 1)).1) else (if (r_X2_signAt cS ln po) = 120 then (r_X2_scanDigit cS ln (po + 1) 1) else 0)))) : Int32) = ((nuR cS ln (po + 1)).1) := by rw [if_neg c_4, if_neg c_36, if_pos c_42]
                have e_54 : ((nI (if (r_X2_signAt cS ln po) = 33 then (if (r_X2_scanDigit cS ln (po + 1) 1) = (-1) then (n_X2_scanDigit_0_2 cS ln (po + 1) 1) else (n_X2_scanDigit_0_2 cS ln (n_X2_scanDigit_0_2 cS ln (po + 1) 1) 4)) else (if (r_X2_signAt cS ln po) = 114 then ((nuR cS ln (po + 1)).2) else (if (r_X2_signAt cS ln po) = 119 then (if ((nuR cS ln (po + 1)).1) = (-1) then ((nuR cS ln (po + 1)).2) else (if (r_X2_scanSign cS ln ((nuR cS ln (po + 1)).2) 61) = 0 then (n_X2_scanSign_0_2 cS ln ((nuR cS ln (po + 1)).2) 61) else ((nuR cS ln (n_X2_scanSign_0_2 cS ln ((nuR cS ln (po + 1)).2) 61)).2))) else (if (r_X2_signAt cS ln po) = 120 then (if (r_X2_scanDigit cS ln (po + 1) 1) = (-1) then (n_X2_scanDigit_0_2 cS ln (po + 1) 1) else ((nuR cS ln (n_X2_scanDigit_0_2 cS ln (po + 1) 1)).2)) else po + 1))))) : Int32) = (nI (n_X2_scanSign_0_2 cS ln ((nuR cS ln (po + 1)).2) 61)) := by rw [if_neg c_4, if_neg c_36, if_pos c_42, if_neg c_45, if_pos c_51]
                exact K_6 _ _ _ (by rw [e_54]; exact hP) (by rw [e_54]; exact hD) hS (by rw [e_52, e_53]; exact (lv_sub hl [0, 1, 2, 3] rfl))
              · skip
                refine lv_aload_n hx hb dX2_scanOrder_91 rfl (lv_at hl 3 rfl) ?_
                have hPc := hP.sub (ws' := [(oP, .inr (2, [.ref pS, .int (nI ln), .int (nI (n_X2_scanSign_0_2 cS ln ((nuR cS ln (po + 1)).2) 61)), .ref pV, .ref pF, .ref pE, .int (nI od)])), (pS, .inl (K 1, 80, .inl cS))]) [0, 1] rfl
                have hDc : va_D (fun _ => True) [(oP, .inr (2, [.ref pS, .int (nI ln), .int (nI (n_X2_scanSign_0_2 cS ln ((nuR cS ln (po + 1)).2) 61)), .ref pV, .ref pF, .ref pE, .int (nI od)])), (pS, .inl (K 1, 80, .inl cS))] := (hD.sub (ws' := [(oP, .inr (2, [.ref pS, .int (nI ln), .int (nI (n_X2_scanSign_0_2 cS ln ((nuR cS ln (po + 1)).2) 61)), .ref pV, .ref pF, .ref pE, .int (nI od)])), (pS, .inl (K 1, 80, .inl cS))]) [0, 1] (by decide +kernel) rfl).weaken (fun _ _ _ _ => trivial)
                refine kw_i (W1 := [(oP, .inr (2, [.ref pS, .int (nI ln), .int (nI ((nuR cS ln (n_X2_scanSign_0_2 cS ln ((nuR cS ln (po + 1)).2) 61)).2)), .ref pV, .ref pF, .ref pE, .int (nI od)])), (pS, .inl (K 1, 80, .inl cS)), (pV, .inl (K 0, 40, .inl cV)), (pF, .inl (K 0, 40, .inl cF)), (pE, .inl (K 0, 40, .inl cE))]) (w1 := [(oP, .inr (2, [.ref pS, .int (nI ln), .int (nI ((nuR cS ln (n_X2_scanSign_0_2 cS ln ((nuR cS ln (po + 1)).2) 61)).2)), .ref pV, .ref pF, .ref pE, .int (nI od)])), (pS, .inl (K 1, 80, .inl cS))]) (va_runV (As := []) (rest := []) ⟨hx, hb, hml, hown, hts⟩ (c_X2_scanNumber l D K oP pS pV pF pE cS ln (n_X2_scanSign_0_2 cS ln ((nuR cS ln (po + 1)).2) 61) od hln (by omega)) (cwV 0 hts gX2_scanOrder_X2_scanNumber rfl rfl rfl (by decide +kernel) ⟨Nat.le_of_ble_eq_true rfl, Nat.le_of_ble_eq_true rfl⟩) (pre_wr hbd hPc hDc (ci := 2) (q0 := 0) rfl rfl) rfl rfl hl.1 rfl (lv_room (Nat.le_of_ble_eq_true rfl)) dX2_scanOrder_92 ⟨Nat.zero_le _, Nat.zero_le _⟩) hP hD hS [0, 1] [2, 3, 4] 5 rfl rfl rfl (Eq.trans (b := List.map some ([(pV, .inl (K 0, 40, .inl cV)), (pF, .inl (K 0, 40, .inl cF)), (pE, .inl (K 0, 40, .inl cE))])) rfl rfl) (by decide +kernel) (by decide +kernel) (by simp only [List.map_append, drW_fst, List.map_cons, List.map_nil]) (fun r_55 H locs hr_55 hP hD hS => ?_)
                subst hr_55
                have hb_56 := nuR_le (cS := cS) (ln := ln) (po := (n_X2_scanSign_0_2 cS ln ((nuR cS ln (po + 1)).2) 61)) hln (by omega)
                refine lv_goto (tgt := 99) hx hb dX2_scanOrder_95 (by decide) ?_
                refine lv_istore_n (lv' := [(3, .int ((nuR cS ln (n_X2_scanSign_0_2 cS ln ((nuR cS ln (po + 1)).2) 61)).1)), (2, .int ((nuR cS ln (po + 1)).1)), (1, .int (r_X2_signAt cS ln po)), (0, .ref oP)]) hx hb dX2_scanOrder_99 rfl hl (by decide) rfl (fun ls hl => ?_)
                refine lv_goto (tgt := 158) hx hb dX2_scanOrder_100 (by decide) ?_
                have e_57 : ((if (r_X2_signAt cS ln po) = 33 then (if (r_X2_scanDigit cS ln (po + 1) 1) = (-1) then (-1) else (r_X2_scanDigit cS ln (n_X2_scanDigit_0_2 cS ln (po + 1) 1) 4)) else (if (r_X2_signAt cS ln po) = 114 then ((nuR cS ln (po + 1)).1) else (if (r_X2_signAt cS ln po) = 119 then (if ((nuR cS ln (po + 1)).1) = (-1) then (-1) else (if (r_X2_scanSign cS ln ((nuR cS ln (po + 1)).2) 61) = 0 then (-1) else ((nuR cS ln (n_X2_scanSign_0_2 cS ln ((nuR cS ln (po + 1)).2) 61)).1))) else (if (r_X2_signAt cS ln po) = 120 then (if (r_X2_scanDigit cS ln (po + 1) 1) = (-1) then (-1) else ((nuR cS ln (n_X2_scanDigit_0_2 cS ln (po + 1) 1)).1)) else 0)))) : Int32) = ((nuR cS ln (n_X2_scanSign_0_2 cS ln ((nuR cS ln (po + 1)).2) 61)).1) := by rw [if_neg c_4, if_neg c_36, if_pos c_42, if_neg c_45, if_neg c_51]
                have e_58 : ((if (r_X2_signAt cS ln po) = 33 then (r_X2_scanDigit cS ln (po + 1) 1) else (if (r_X2_signAt cS ln po) = 114 then 0 else (if (r_X2_signAt cS ln po) = 119 then ((nuR cS ln (po + 1)).1) else (if (r_X2_signAt cS ln po) = 120 then (r_X2_scanDigit cS ln (po + 1) 1) else 0)))) : Int32) = ((nuR cS ln (po + 1)).1) := by rw [if_neg c_4, if_neg c_36, if_pos c_42]
                have e_59 : ((nI (if (r_X2_signAt cS ln po) = 33 then (if (r_X2_scanDigit cS ln (po + 1) 1) = (-1) then (n_X2_scanDigit_0_2 cS ln (po + 1) 1) else (n_X2_scanDigit_0_2 cS ln (n_X2_scanDigit_0_2 cS ln (po + 1) 1) 4)) else (if (r_X2_signAt cS ln po) = 114 then ((nuR cS ln (po + 1)).2) else (if (r_X2_signAt cS ln po) = 119 then (if ((nuR cS ln (po + 1)).1) = (-1) then ((nuR cS ln (po + 1)).2) else (if (r_X2_scanSign cS ln ((nuR cS ln (po + 1)).2) 61) = 0 then (n_X2_scanSign_0_2 cS ln ((nuR cS ln (po + 1)).2) 61) else ((nuR cS ln (n_X2_scanSign_0_2 cS ln ((nuR cS ln (po + 1)).2) 61)).2))) else (if (r_X2_signAt cS ln po) = 120 then (if (r_X2_scanDigit cS ln (po + 1) 1) = (-1) then (n_X2_scanDigit_0_2 cS ln (po + 1) 1) else ((nuR cS ln (n_X2_scanDigit_0_2 cS ln (po + 1) 1)).2)) else po + 1))))) : Int32) = (nI ((nuR cS ln (n_X2_scanSign_0_2 cS ln ((nuR cS ln (po + 1)).2) 61)).2)) := by rw [if_neg c_4, if_neg c_36, if_pos c_42, if_neg c_45, if_neg c_51]
                exact K_6 _ _ _ (by rw [e_59]; exact hP) (by rw [e_59]; exact hD) hS (by rw [e_57, e_58]; exact (lv_sub hl [0, 1, 2, 3] rfl))
          · skip
            refine byc (P := (r_X2_signAt cS ln po) = 120) (fun c_60 => ?_) (fun c_60 => ?_)
            · skip
              refine lv_lookup (off := 106) (tgt := 135) hx hb dX2_scanOrder_29 (by decide) (by rw [c_60]; decide) (by decide) ?_
              refine lv_aload_n hx hb dX2_scanOrder_135 rfl (lv_at hl 3 rfl) ?_
              refine lv_iconst (v := 1) hx hb dX2_scanOrder_136 (by decide) ?_
              have hPc := hP.sub (ws' := [(oP, .inr (2, [.ref pS, .int (nI ln), .int (nI (po + 1)), .ref pV, .ref pF, .ref pE, .int (nI od)])), (pS, .inl (K 1, 80, .inl cS))]) [0, 1] rfl
              have hDc : va_D (fun _ => True) [(oP, .inr (2, [.ref pS, .int (nI ln), .int (nI (po + 1)), .ref pV, .ref pF, .ref pE, .int (nI od)])), (pS, .inl (K 1, 80, .inl cS))] := (hD.sub (ws' := [(oP, .inr (2, [.ref pS, .int (nI ln), .int (nI (po + 1)), .ref pV, .ref pF, .ref pE, .int (nI od)])), (pS, .inl (K 1, 80, .inl cS))]) [0, 1] (by decide +kernel) rfl).weaken (fun _ _ _ _ => trivial)
              refine kw_i (W1 := [(oP, .inr (2, [.ref pS, .int (nI ln), .int (nI (n_X2_scanDigit_0_2 cS ln (po + 1) 1)), .ref pV, .ref pF, .ref pE, .int (nI od)])), (pS, .inl (K 1, 80, .inl cS)), (pV, .inl (K 0, 40, .inl cV)), (pF, .inl (K 0, 40, .inl cF)), (pE, .inl (K 0, 40, .inl cE))]) (w1 := [(oP, .inr (2, [.ref pS, .int (nI ln), .int (nI (n_X2_scanDigit_0_2 cS ln (po + 1) 1)), .ref pV, .ref pF, .ref pE, .int (nI od)])), (pS, .inl (K 1, 80, .inl cS))]) (va_runV (As := [.int 1]) (rest := []) ⟨hx, hb, hml, hown, hts⟩ (c_X2_scanDigit l D K oP pS pV pF pE cS ln (po + 1) od 1 hln (by omega)) (cwV 1 hts gX2_scanOrder_X2_scanDigit rfl rfl rfl (by decide +kernel) ⟨Nat.le_of_ble_eq_true rfl, Nat.le_of_ble_eq_true rfl⟩) (pre_wr hbd hPc hDc (ci := 2) (q0 := 0) rfl rfl) rfl rfl hl.1 rfl (lv_room (Nat.le_of_ble_eq_true rfl)) dX2_scanOrder_137 ⟨Nat.zero_le _, Nat.zero_le _⟩) hP hD hS [0, 1] [2, 3, 4] 5 rfl rfl rfl (Eq.trans (b := List.map some ([(pV, .inl (K 0, 40, .inl cV)), (pF, .inl (K 0, 40, .inl cF)), (pE, .inl (K 0, 40, .inl cE))])) rfl rfl) (by decide +kernel) (by decide +kernel) (by simp only [List.map_append, drW_fst, List.map_cons, List.map_nil]) (fun r_61 H locs hr_61 hP hD hS => ?_)
              subst hr_61
              have hb_62 := nd_le (cS := cS) (ln := ln) (po := (po + 1)) (xm := 1) hln (by omega)
              refine lv_istore_n (lv' := [(2, .int (r_X2_scanDigit cS ln (po + 1) 1)), (3, .int 0), (1, .int (r_X2_signAt cS ln po)), (0, .ref oP)]) hx hb dX2_scanOrder_140 rfl hl (by decide) rfl (fun ls hl => ?_)
              refine lv_iload_n hx hb dX2_scanOrder_141 rfl (lv_at hl 0 rfl) ?_
              refine lv_iconst (v := (-1)) hx hb dX2_scanOrder_142 (by decide) ?_
              refine lv_icmp_eq (tgt := 153) hx hb dX2_scanOrder_143 (by decide) (fun c_63 => ?_) (fun c_63 => ?_)
              · skip
                refine lv_iconst (v := (-1)) hx hb dX2_scanOrder_153 (by decide) ?_
                refine lv_istore_n (lv' := [(3, .int (-1)), (2, .int (r_X2_scanDigit cS ln (po + 1) 1)), (1, .int (r_X2_signAt cS ln po)), (0, .ref oP)]) hx hb dX2_scanOrder_154 rfl hl (by decide) rfl (fun ls hl => ?_)
                refine lv_goto (tgt := 158) hx hb dX2_scanOrder_155 (by decide) ?_
                have e_64 : ((if (r_X2_signAt cS ln po) = 33 then (if (r_X2_scanDigit cS ln (po + 1) 1) = (-1) then (-1) else (r_X2_scanDigit cS ln (n_X2_scanDigit_0_2 cS ln (po + 1) 1) 4)) else (if (r_X2_signAt cS ln po) = 114 then ((nuR cS ln (po + 1)).1) else (if (r_X2_signAt cS ln po) = 119 then (if ((nuR cS ln (po + 1)).1) = (-1) then (-1) else (if (r_X2_scanSign cS ln ((nuR cS ln (po + 1)).2) 61) = 0 then (-1) else ((nuR cS ln (n_X2_scanSign_0_2 cS ln ((nuR cS ln (po + 1)).2) 61)).1))) else (if (r_X2_signAt cS ln po) = 120 then (if (r_X2_scanDigit cS ln (po + 1) 1) = (-1) then (-1) else ((nuR cS ln (n_X2_scanDigit_0_2 cS ln (po + 1) 1)).1)) else 0)))) : Int32) = (-1) := by rw [if_neg c_4, if_neg c_36, if_neg c_42, if_pos c_60, if_pos c_63]
                have e_65 : ((if (r_X2_signAt cS ln po) = 33 then (r_X2_scanDigit cS ln (po + 1) 1) else (if (r_X2_signAt cS ln po) = 114 then 0 else (if (r_X2_signAt cS ln po) = 119 then ((nuR cS ln (po + 1)).1) else (if (r_X2_signAt cS ln po) = 120 then (r_X2_scanDigit cS ln (po + 1) 1) else 0)))) : Int32) = (r_X2_scanDigit cS ln (po + 1) 1) := by rw [if_neg c_4, if_neg c_36, if_neg c_42, if_pos c_60]
                have e_66 : ((nI (if (r_X2_signAt cS ln po) = 33 then (if (r_X2_scanDigit cS ln (po + 1) 1) = (-1) then (n_X2_scanDigit_0_2 cS ln (po + 1) 1) else (n_X2_scanDigit_0_2 cS ln (n_X2_scanDigit_0_2 cS ln (po + 1) 1) 4)) else (if (r_X2_signAt cS ln po) = 114 then ((nuR cS ln (po + 1)).2) else (if (r_X2_signAt cS ln po) = 119 then (if ((nuR cS ln (po + 1)).1) = (-1) then ((nuR cS ln (po + 1)).2) else (if (r_X2_scanSign cS ln ((nuR cS ln (po + 1)).2) 61) = 0 then (n_X2_scanSign_0_2 cS ln ((nuR cS ln (po + 1)).2) 61) else ((nuR cS ln (n_X2_scanSign_0_2 cS ln ((nuR cS ln (po + 1)).2) 61)).2))) else (if (r_X2_signAt cS ln po) = 120 then (if (r_X2_scanDigit cS ln (po + 1) 1) = (-1) then (n_X2_scanDigit_0_2 cS ln (po + 1) 1) else ((nuR cS ln (n_X2_scanDigit_0_2 cS ln (po + 1) 1)).2)) else po + 1))))) : Int32) = (nI (n_X2_scanDigit_0_2 cS ln (po + 1) 1)) := by rw [if_neg c_4, if_neg c_36, if_neg c_42, if_pos c_60, if_pos c_63]
                exact K_6 _ _ _ (by rw [e_66]; exact hP) (by rw [e_66]; exact hD) hS (by rw [e_64, e_65]; exact (lv_sub hl [0, 1, 2, 3] rfl))
              · skip
                refine lv_aload_n hx hb dX2_scanOrder_146 rfl (lv_at hl 3 rfl) ?_
                have hPc := hP.sub (ws' := [(oP, .inr (2, [.ref pS, .int (nI ln), .int (nI (n_X2_scanDigit_0_2 cS ln (po + 1) 1)), .ref pV, .ref pF, .ref pE, .int (nI od)])), (pS, .inl (K 1, 80, .inl cS))]) [0, 1] rfl
                have hDc : va_D (fun _ => True) [(oP, .inr (2, [.ref pS, .int (nI ln), .int (nI (n_X2_scanDigit_0_2 cS ln (po + 1) 1)), .ref pV, .ref pF, .ref pE, .int (nI od)])), (pS, .inl (K 1, 80, .inl cS))] := (hD.sub (ws' := [(oP, .inr (2, [.ref pS, .int (nI ln), .int (nI (n_X2_scanDigit_0_2 cS ln (po + 1) 1)), .ref pV, .ref pF, .ref pE, .int (nI od)])), (pS, .inl (K 1, 80, .inl cS))]) [0, 1] (by decide +kernel) rfl).weaken (fun _ _ _ _ => trivial)
                refine kw_i (W1 := [(oP, .inr (2, [.ref pS, .int (nI ln), .int (nI ((nuR cS ln (n_X2_scanDigit_0_2 cS ln (po + 1) 1)).2)), .ref pV, .ref pF, .ref pE, .int (nI od)])), (pS, .inl (K 1, 80, .inl cS)), (pV, .inl (K 0, 40, .inl cV)), (pF, .inl (K 0, 40, .inl cF)), (pE, .inl (K 0, 40, .inl cE))]) (w1 := [(oP, .inr (2, [.ref pS, .int (nI ln), .int (nI ((nuR cS ln (n_X2_scanDigit_0_2 cS ln (po + 1) 1)).2)), .ref pV, .ref pF, .ref pE, .int (nI od)])), (pS, .inl (K 1, 80, .inl cS))]) (va_runV (As := []) (rest := []) ⟨hx, hb, hml, hown, hts⟩ (c_X2_scanNumber l D K oP pS pV pF pE cS ln (n_X2_scanDigit_0_2 cS ln (po + 1) 1) od hln (by omega)) (cwV 0 hts gX2_scanOrder_X2_scanNumber rfl rfl rfl (by decide +kernel) ⟨Nat.le_of_ble_eq_true rfl, Nat.le_of_ble_eq_true rfl⟩) (pre_wr hbd hPc hDc (ci := 2) (q0 := 0) rfl rfl) rfl rfl hl.1 rfl (lv_room (Nat.le_of_ble_eq_true rfl)) dX2_scanOrder_147 ⟨Nat.zero_le _, Nat.zero_le _⟩) hP hD hS [0, 1] [2, 3, 4] 5 rfl rfl rfl (Eq.trans (b := List.map some ([(pV, .inl (K 0, 40, .inl cV)), (pF, .inl (K 0, 40, .inl cF)), (pE, .inl (K 0, 40, .inl cE))])) rfl rfl) (by decide +kernel) (by decide +kernel) (by simp only [List.map_append, drW_fst, List.map_cons, List.map_nil]) (fun r_67 H locs hr_67 hP hD hS => ?_)
                subst hr_67
                have hb_68 := nuR_le (cS := cS) (ln := ln) (po := (n_X2_scanDigit_0_2 cS ln (po + 1) 1)) hln (by omega)
                refine lv_goto (tgt := 154) hx hb dX2_scanOrder_150 (by decide) ?_
                refine lv_istore_n (lv' := [(3, .int ((nuR cS ln (n_X2_scanDigit_0_2 cS ln (po + 1) 1)).1)), (2, .int (r_X2_scanDigit cS ln (po + 1) 1)), (1, .int (r_X2_signAt cS ln po)), (0, .ref oP)]) hx hb dX2_scanOrder_154 rfl hl (by decide) rfl (fun ls hl => ?_)
                refine lv_goto (tgt := 158) hx hb dX2_scanOrder_155 (by decide) ?_
                have e_69 : ((if (r_X2_signAt cS ln po) = 33 then (if (r_X2_scanDigit cS ln (po + 1) 1) = (-1) then (-1) else (r_X2_scanDigit cS ln (n_X2_scanDigit_0_2 cS ln (po + 1) 1) 4)) else (if (r_X2_signAt cS ln po) = 114 then ((nuR cS ln (po + 1)).1) else (if (r_X2_signAt cS ln po) = 119 then (if ((nuR cS ln (po + 1)).1) = (-1) then (-1) else (if (r_X2_scanSign cS ln ((nuR cS ln (po + 1)).2) 61) = 0 then (-1) else ((nuR cS ln (n_X2_scanSign_0_2 cS ln ((nuR cS ln (po + 1)).2) 61)).1))) else (if (r_X2_signAt cS ln po) = 120 then (if (r_X2_scanDigit cS ln (po + 1) 1) = (-1) then (-1) else ((nuR cS ln (n_X2_scanDigit_0_2 cS ln (po + 1) 1)).1)) else 0)))) : Int32) = ((nuR cS ln (n_X2_scanDigit_0_2 cS ln (po + 1) 1)).1) := by rw [if_neg c_4, if_neg c_36, if_neg c_42, if_pos c_60, if_neg c_63]
                have e_70 : ((if (r_X2_signAt cS ln po) = 33 then (r_X2_scanDigit cS ln (po + 1) 1) else (if (r_X2_signAt cS ln po) = 114 then 0 else (if (r_X2_signAt cS ln po) = 119 then ((nuR cS ln (po + 1)).1) else (if (r_X2_signAt cS ln po) = 120 then (r_X2_scanDigit cS ln (po + 1) 1) else 0)))) : Int32) = (r_X2_scanDigit cS ln (po + 1) 1) := by rw [if_neg c_4, if_neg c_36, if_neg c_42, if_pos c_60]
                have e_71 : ((nI (if (r_X2_signAt cS ln po) = 33 then (if (r_X2_scanDigit cS ln (po + 1) 1) = (-1) then (n_X2_scanDigit_0_2 cS ln (po + 1) 1) else (n_X2_scanDigit_0_2 cS ln (n_X2_scanDigit_0_2 cS ln (po + 1) 1) 4)) else (if (r_X2_signAt cS ln po) = 114 then ((nuR cS ln (po + 1)).2) else (if (r_X2_signAt cS ln po) = 119 then (if ((nuR cS ln (po + 1)).1) = (-1) then ((nuR cS ln (po + 1)).2) else (if (r_X2_scanSign cS ln ((nuR cS ln (po + 1)).2) 61) = 0 then (n_X2_scanSign_0_2 cS ln ((nuR cS ln (po + 1)).2) 61) else ((nuR cS ln (n_X2_scanSign_0_2 cS ln ((nuR cS ln (po + 1)).2) 61)).2))) else (if (r_X2_signAt cS ln po) = 120 then (if (r_X2_scanDigit cS ln (po + 1) 1) = (-1) then (n_X2_scanDigit_0_2 cS ln (po + 1) 1) else ((nuR cS ln (n_X2_scanDigit_0_2 cS ln (po + 1) 1)).2)) else po + 1))))) : Int32) = (nI ((nuR cS ln (n_X2_scanDigit_0_2 cS ln (po + 1) 1)).2)) := by rw [if_neg c_4, if_neg c_36, if_neg c_42, if_pos c_60, if_neg c_63]
                exact K_6 _ _ _ (by rw [e_71]; exact hP) (by rw [e_71]; exact hD) hS (by rw [e_69, e_70]; exact (lv_sub hl [0, 1, 2, 3] rfl))
            · skip
              refine lv_lookup (off := 129) (tgt := 158) hx hb dX2_scanOrder_29 (by decide) (by refine (lv_osw c_4 (by decide)).trans ?_; refine (lv_osw c_36 (by decide)).trans ?_; refine (lv_osw c_42 (by decide)).trans ?_; refine (lv_osw c_60 (by decide)).trans ?_; rfl) (by decide) ?_
              have e_72 : ((if (r_X2_signAt cS ln po) = 33 then (if (r_X2_scanDigit cS ln (po + 1) 1) = (-1) then (-1) else (r_X2_scanDigit cS ln (n_X2_scanDigit_0_2 cS ln (po + 1) 1) 4)) else (if (r_X2_signAt cS ln po) = 114 then ((nuR cS ln (po + 1)).1) else (if (r_X2_signAt cS ln po) = 119 then (if ((nuR cS ln (po + 1)).1) = (-1) then (-1) else (if (r_X2_scanSign cS ln ((nuR cS ln (po + 1)).2) 61) = 0 then (-1) else ((nuR cS ln (n_X2_scanSign_0_2 cS ln ((nuR cS ln (po + 1)).2) 61)).1))) else (if (r_X2_signAt cS ln po) = 120 then (if (r_X2_scanDigit cS ln (po + 1) 1) = (-1) then (-1) else ((nuR cS ln (n_X2_scanDigit_0_2 cS ln (po + 1) 1)).1)) else 0)))) : Int32) = 0 := by rw [if_neg c_4, if_neg c_36, if_neg c_42, if_neg c_60]
              have e_73 : ((if (r_X2_signAt cS ln po) = 33 then (r_X2_scanDigit cS ln (po + 1) 1) else (if (r_X2_signAt cS ln po) = 114 then 0 else (if (r_X2_signAt cS ln po) = 119 then ((nuR cS ln (po + 1)).1) else (if (r_X2_signAt cS ln po) = 120 then (r_X2_scanDigit cS ln (po + 1) 1) else 0)))) : Int32) = 0 := by rw [if_neg c_4, if_neg c_36, if_neg c_42, if_neg c_60]
              have e_74 : ((nI (if (r_X2_signAt cS ln po) = 33 then (if (r_X2_scanDigit cS ln (po + 1) 1) = (-1) then (n_X2_scanDigit_0_2 cS ln (po + 1) 1) else (n_X2_scanDigit_0_2 cS ln (n_X2_scanDigit_0_2 cS ln (po + 1) 1) 4)) else (if (r_X2_signAt cS ln po) = 114 then ((nuR cS ln (po + 1)).2) else (if (r_X2_signAt cS ln po) = 119 then (if ((nuR cS ln (po + 1)).1) = (-1) then ((nuR cS ln (po + 1)).2) else (if (r_X2_scanSign cS ln ((nuR cS ln (po + 1)).2) 61) = 0 then (n_X2_scanSign_0_2 cS ln ((nuR cS ln (po + 1)).2) 61) else ((nuR cS ln (n_X2_scanSign_0_2 cS ln ((nuR cS ln (po + 1)).2) 61)).2))) else (if (r_X2_signAt cS ln po) = 120 then (if (r_X2_scanDigit cS ln (po + 1) 1) = (-1) then (n_X2_scanDigit_0_2 cS ln (po + 1) 1) else ((nuR cS ln (n_X2_scanDigit_0_2 cS ln (po + 1) 1)).2)) else po + 1))))) : Int32) = (nI (po + 1)) := by rw [if_neg c_4, if_neg c_36, if_neg c_42, if_neg c_60]
              exact K_6 _ _ _ (by rw [e_74]; exact hP) (by rw [e_74]; exact hD) hS (by rw [e_72, e_73]; exact (lv_sub hl [0, 1, 2, 3] rfl))
    · skip
      refine lv_iconst (v := 0) hx hb dX2_scanOrder_12 (by decide) ?_
      have e_75 : n_X2_scanOrder_0_2 cS ln po = po := by unfold n_X2_scanOrder_0_2; rw [if_pos c_3]
      have e_76 : n_X2_scanOrder_0_6 cS ln po od = od := by unfold n_X2_scanOrder_0_6; rw [if_pos c_3]
      have e_77 : n_X2_scanOrder_2 cS cV ln po od = cV := by unfold n_X2_scanOrder_2; rw [if_pos c_3]
      have e_78 : n_X2_scanOrder_3 cS cF ln po od = cF := by unfold n_X2_scanOrder_3; rw [if_pos c_3]
      have e_79 : n_X2_scanOrder_4 cS cE ln po od = cE := by unfold n_X2_scanOrder_4; rw [if_pos c_3]
      have hPf : va_P D vwCl [(oP, .inr (2, [.ref pS, .int (nI ln), .int (nI (n_X2_scanOrder_0_2 cS ln po)), .ref pV, .ref pF, .ref pE, .int (nI (n_X2_scanOrder_0_6 cS ln po od))])), (pS, .inl (K 1, 80, .inl cS)), (pV, .inl (K 0, 40, .inl (n_X2_scanOrder_2 cS cV ln po od))), (pF, .inl (K 0, 40, .inl (n_X2_scanOrder_3 cS cF ln po od))), (pE, .inl (K 0, 40, .inl (n_X2_scanOrder_4 cS cE ln po od)))] H := (by rw [e_75, e_76, e_77, e_78, e_79]; exact hP)
      exact W.zret hx hb hr rfl (fun t ht hW => ⟨⟨_, (), rfl, (by unfold r_X2_scanOrder; rw [if_pos c_3]), by show va_P D vwCl _ t.heap; rw [ht]; exact hPf⟩, hS.F ht⟩) hS.2.2 dX2_scanOrder_13
  exact K0 s.heap [] ls hP hD hS hl
theorem nt_le {od : Nat} (h : od ≤ 40) : n_X2_note_0_6 od ≤ 40 := by
  unfold n_X2_note_0_6
  by_cases c : (nI od) < 40
  · have := (nI_ltI (a := od) (b := 40) (by omega) (by omega)).mp c
    rw [if_pos c]; omega
  · rw [if_neg c]; exact h
theorem so_po {cS : Nat → Int32} {ln po : Nat} (h1 : ln ≤ 80) (h2 : po ≤ 80) : n_X2_scanOrder_0_2 cS ln po ≤ 80 := by
  unfold n_X2_scanOrder_0_2
  by_cases c : (r_X2_isVerb (r_X2_signAt cS ln po)) = 0
  · rw [if_pos c]; exact h2
  · have := vb_lt h1 h2 c
    have a1 := nuR_le (cS := cS) (po := po + 1) h1 (by omega)
    have a2 := nd_le (cS := cS) (xm := 1) (po := po + 1) h1 (by omega)
    have a0 : po + 1 ≤ 80 := by omega
    rw [if_neg c]
    repeat' split
    all_goals repeat' first | with_reducible assumption | with_reducible refine nd_le h1 ?_ | with_reducible refine nuR_le h1 ?_ | with_reducible refine ns_le ?_ h1 ?_ | decide
theorem so_od {cS : Nat → Int32} {ln po od : Nat} (h : od ≤ 40) : n_X2_scanOrder_0_6 cS ln po od ≤ 40 := by
  have := nt_le h
  unfold n_X2_scanOrder_0_6
  repeat' split
  all_goals with_reducible assumption
def scI2 (cS : Nat → Int32) (ln : Nat) : Nat → Int32 → Nat → Nat → Nat → (Nat → Int32) → (Nat → Int32) → (Nat → Int32) → (Int32 × Nat × Nat × Nat × (Nat → Int32) × (Nat → Int32) × (Nat → Int32))
  | 0, rt, q, p_, o_, vV, vF, vE => (rt, q, p_, o_, vV, vF, vE)
  | fu_ + 1, rt, q, p_, o_, vV, vF, vE => (if 80 ≤ (nI q) then (rt, q, p_, o_, vV, vF, vE) else (if rt = 0 then (rt, q, p_, o_, vV, vF, vE) else (if (nI ln) ≤ (nI p_) then (rt, q, p_, o_, vV, vF, vE) else (if (r_X2_scanSign cS ln p_ 59) = 0 then (scI2 cS ln fu_ 0 (q + 1) (n_X2_scanSign_0_2 cS ln p_ 59) o_ vV vF vE) else (if (r_X2_scanOrder cS ln (n_X2_scanSign_0_2 cS ln p_ 59) o_) = 0 then (scI2 cS ln fu_ 0 (q + 1) (n_X2_scanOrder_0_2 cS ln (n_X2_scanSign_0_2 cS ln p_ 59)) (n_X2_scanOrder_0_6 cS ln (n_X2_scanSign_0_2 cS ln p_ 59) o_) (n_X2_scanOrder_2 cS vV ln (n_X2_scanSign_0_2 cS ln p_ 59) o_) (n_X2_scanOrder_3 cS vF ln (n_X2_scanSign_0_2 cS ln p_ 59) o_) (n_X2_scanOrder_4 cS vE ln (n_X2_scanSign_0_2 cS ln p_ 59) o_)) else (scI2 cS ln fu_ 1 (q + 1) (n_X2_scanOrder_0_2 cS ln (n_X2_scanSign_0_2 cS ln p_ 59)) (n_X2_scanOrder_0_6 cS ln (n_X2_scanSign_0_2 cS ln p_ 59) o_) (n_X2_scanOrder_2 cS vV ln (n_X2_scanSign_0_2 cS ln p_ 59) o_) (n_X2_scanOrder_3 cS vF ln (n_X2_scanSign_0_2 cS ln p_ 59) o_) (n_X2_scanOrder_4 cS vE ln (n_X2_scanSign_0_2 cS ln p_ 59) o_)))))))
theorem scI2_s (cS : Nat → Int32) (ln : Nat) (fu_ : Nat) (rt : Int32) (q : Nat) (p_ : Nat) (o_ : Nat) (vV : Nat → Int32) (vF : Nat → Int32) (vE : Nat → Int32) : scI2 cS ln (fu_ + 1) rt q p_ o_ vV vF vE = (if 80 ≤ (nI q) then (rt, q, p_, o_, vV, vF, vE) else (if rt = 0 then (rt, q, p_, o_, vV, vF, vE) else (if (nI ln) ≤ (nI p_) then (rt, q, p_, o_, vV, vF, vE) else (if (r_X2_scanSign cS ln p_ 59) = 0 then (scI2 cS ln fu_ 0 (q + 1) (n_X2_scanSign_0_2 cS ln p_ 59) o_ vV vF vE) else (if (r_X2_scanOrder cS ln (n_X2_scanSign_0_2 cS ln p_ 59) o_) = 0 then (scI2 cS ln fu_ 0 (q + 1) (n_X2_scanOrder_0_2 cS ln (n_X2_scanSign_0_2 cS ln p_ 59)) (n_X2_scanOrder_0_6 cS ln (n_X2_scanSign_0_2 cS ln p_ 59) o_) (n_X2_scanOrder_2 cS vV ln (n_X2_scanSign_0_2 cS ln p_ 59) o_) (n_X2_scanOrder_3 cS vF ln (n_X2_scanSign_0_2 cS ln p_ 59) o_) (n_X2_scanOrder_4 cS vE ln (n_X2_scanSign_0_2 cS ln p_ 59) o_)) else (scI2 cS ln fu_ 1 (q + 1) (n_X2_scanOrder_0_2 cS ln (n_X2_scanSign_0_2 cS ln p_ 59)) (n_X2_scanOrder_0_6 cS ln (n_X2_scanSign_0_2 cS ln p_ 59) o_) (n_X2_scanOrder_2 cS vV ln (n_X2_scanSign_0_2 cS ln p_ 59) o_) (n_X2_scanOrder_3 cS vF ln (n_X2_scanSign_0_2 cS ln p_ 59) o_) (n_X2_scanOrder_4 cS vE ln (n_X2_scanSign_0_2 cS ln p_ 59) o_))))))) := rfl
def r_X2_scan (cS : Nat → Int32) (cV : Nat → Int32) (cF : Nat → Int32) (cE : Nat → Int32) (ln : Nat) : Int32 := (if ((scI2 cS ln 80 (r_X2_scanOrder cS ln 0 0) 0 (n_X2_scanOrder_0_2 cS ln 0) (n_X2_scanOrder_0_6 cS ln 0 0) (n_X2_scanOrder_2 cS cV ln 0 0) (n_X2_scanOrder_3 cS cF ln 0 0) (n_X2_scanOrder_4 cS cE ln 0 0)).1) = 0 then (nI ((((scI2 cS ln 80 (r_X2_scanOrder cS ln 0 0) 0 (n_X2_scanOrder_0_2 cS ln 0) (n_X2_scanOrder_0_6 cS ln 0 0) (n_X2_scanOrder_2 cS cV ln 0 0) (n_X2_scanOrder_3 cS cF ln 0 0) (n_X2_scanOrder_4 cS cE ln 0 0)).2).2).1)) else (-6))
def n_X2_scan_0_2 (cS : Nat → Int32) (cV : Nat → Int32) (cF : Nat → Int32) (cE : Nat → Int32) (ln : Nat) : Nat := ((((scI2 cS ln 80 (r_X2_scanOrder cS ln 0 0) 0 (n_X2_scanOrder_0_2 cS ln 0) (n_X2_scanOrder_0_6 cS ln 0 0) (n_X2_scanOrder_2 cS cV ln 0 0) (n_X2_scanOrder_3 cS cF ln 0 0) (n_X2_scanOrder_4 cS cE ln 0 0)).2).2).1)
def n_X2_scan_0_6 (cS : Nat → Int32) (cV : Nat → Int32) (cF : Nat → Int32) (cE : Nat → Int32) (ln : Nat) : Nat := (((((scI2 cS ln 80 (r_X2_scanOrder cS ln 0 0) 0 (n_X2_scanOrder_0_2 cS ln 0) (n_X2_scanOrder_0_6 cS ln 0 0) (n_X2_scanOrder_2 cS cV ln 0 0) (n_X2_scanOrder_3 cS cF ln 0 0) (n_X2_scanOrder_4 cS cE ln 0 0)).2).2).2).1)
def n_X2_scan_2 (cS : Nat → Int32) (cV : Nat → Int32) (cF : Nat → Int32) (cE : Nat → Int32) (ln : Nat) : Nat → Int32 := ((((((scI2 cS ln 80 (r_X2_scanOrder cS ln 0 0) 0 (n_X2_scanOrder_0_2 cS ln 0) (n_X2_scanOrder_0_6 cS ln 0 0) (n_X2_scanOrder_2 cS cV ln 0 0) (n_X2_scanOrder_3 cS cF ln 0 0) (n_X2_scanOrder_4 cS cE ln 0 0)).2).2).2).2).1)
def n_X2_scan_3 (cS : Nat → Int32) (cV : Nat → Int32) (cF : Nat → Int32) (cE : Nat → Int32) (ln : Nat) : Nat → Int32 := (((((((scI2 cS ln 80 (r_X2_scanOrder cS ln 0 0) 0 (n_X2_scanOrder_0_2 cS ln 0) (n_X2_scanOrder_0_6 cS ln 0 0) (n_X2_scanOrder_2 cS cV ln 0 0) (n_X2_scanOrder_3 cS cF ln 0 0) (n_X2_scanOrder_4 cS cE ln 0 0)).2).2).2).2).2).1)
def n_X2_scan_4 (cS : Nat → Int32) (cV : Nat → Int32) (cF : Nat → Int32) (cE : Nat → Int32) (ln : Nat) : Nat → Int32 := (((((((scI2 cS ln 80 (r_X2_scanOrder cS ln 0 0) 0 (n_X2_scanOrder_0_2 cS ln 0) (n_X2_scanOrder_0_6 cS ln 0 0) (n_X2_scanOrder_2 cS cV ln 0 0) (n_X2_scanOrder_3 cS cF ln 0 0) (n_X2_scanOrder_4 cS cE ln 0 0)).2).2).2).2).2).2)
set_option maxHeartbeats 4000000 in
set_option maxRecDepth 100000 in
theorem c_X2_scan (l : Launch) (D : va_G) (K : Nat → ClassId) (oP : Nat) (pS : Nat) (pV : Nat) (pF : Nat) (pE : Nat) (cS : Nat → Int32) (cV : Nat → Int32) (cF : Nat → Int32) (cE : Nat → Int32) (ln : Nat) (po : Nat) (od : Nat) (hln : ln ≤ 80) (hpo : po ≤ 80) (hod : od ≤ 40) : Met l yX2_scan wsX2_scan ({ frames := 4, cells := 0, slots := 0, locals := 88 }) (va_Pc [.ref oP] (fun U => Bd D K U ∧ va_P D vwCl [(oP, .inr (2, [.ref pS, .int (nI ln), .int (nI po), .ref pV, .ref pF, .ref pE, .int (nI od)])), (pS, .inl (K 1, 80, .inl cS)), (pV, .inl (K 0, 40, .inl cV)), (pF, .inl (K 0, 40, .inl cF)), (pE, .inl (K 0, 40, .inl cE))] U.heap ∧ va_D (fun _ => True) [(oP, .inr (2, [.ref pS, .int (nI ln), .int (nI po), .ref pV, .ref pF, .ref pE, .int (nI od)])), (pS, .inl (K 1, 80, .inl cS)), (pV, .inl (K 0, 40, .inl cV)), (pF, .inl (K 0, 40, .inl cF)), (pE, .inl (K 0, 40, .inl cE))])) (va_Qi (fun r (_ : Unit) => r = (r_X2_scan cS cV cF cE ln)) (fun _ t => va_P D vwCl [(oP, .inr (2, [.ref pS, .int (nI ln), .int (nI (n_X2_scan_0_2 cS cV cF cE ln)), .ref pV, .ref pF, .ref pE, .int (nI (n_X2_scan_0_6 cS cV cF cE ln))])), (pS, .inl (K 1, 80, .inl cS)), (pV, .inl (K 0, 40, .inl (n_X2_scan_2 cS cV cF cE ln))), (pF, .inl (K 0, 40, .inl (n_X2_scan_3 cS cV cF cE ln))), (pE, .inl (K 0, 40, .inl (n_X2_scan_4 cS cV cF cE ln)))] t.heap) (inW [(oP, .inr (2, [.ref pS, .int (nI ln), .int (nI po), .ref pV, .ref pF, .ref pE, .int (nI od)])), (pS, .inl (K 1, 80, .inl cS)), (pV, .inl (K 0, 40, .inl cV)), (pF, .inl (K 0, 40, .inl cF)), (pE, .inl (K 0, 40, .inl cE))])) 0 0 (inW [(oP, .inr (2, [.ref pS, .int (nI ln), .int (nI po), .ref pV, .ref pF, .ref pE, .int (nI od)])), (pS, .inl (K 1, 80, .inl cS)), (pV, .inl (K 0, 40, .inl cV)), (pF, .inl (K 0, 40, .inl cF)), (pE, .inl (K 0, 40, .inl cE))]) := by
  refine Met.ofW (cc := cX2_scan) (maxL := 3) (ret := (some .int)) (by decide) rfl ?_
  intro p e s m args below meth c s₁ B hml hv
  obtain ⟨rfl, hbd, hP, hD0⟩ := hv
  have hx := B.exec
  have hb := B.bytes
  have hr := B.returns
  have hts := atoms_spec (ws := wsX2_scan) B.pre
  have hown : s.vm.findClass RX2 = some m.cls := findClass_of_methodNamed B.named
  have hlocks := B.notSynchronized
  have hK := hbd.2
  have hP : va_P D vwCl [(oP, .inr (2, [.ref pS, .int (nI ln), .int (nI po), .ref pV, .ref pF, .ref pE, .int (nI od)])), (pS, .inl (K 1, 80, .inl cS)), (pV, .inl (K 0, 40, .inl cV)), (pF, .inl (K 0, 40, .inl cF)), (pE, .inl (K 0, 40, .inl cE))] s.heap := hP
  have hin2 : ∀ w ∈ wsX20, w ∈ wsX2_scan := by decide +kernel
  have hD := hD0.own
  generalize hAe : inW [(oP, .inr (2, [.ref pS, .int (nI ln), .int (nI po), .ref pV, .ref pF, .ref pE, .int (nI od)])), (pS, .inl (K 1, 80, .inl cS)), (pV, .inl (K 0, 40, .inl cV)), (pF, .inl (K 0, 40, .inl cF)), (pE, .inl (K 0, 40, .inl cE))] = A at hD ⊢
  have hS : va_S A s.heap s.heap [] := va_S.rf
  have hl := lv_entry ([.ref oP]) (n := 3) (Nat.le_of_ble_eq_true rfl)
  rw [lg_entry_eq]
  generalize (lg_sl ([.ref oP]) ++ List.replicate (3 - (lg_sl ([.ref oP])).length) Slot.unset).toArray = ls at hl ⊢
  have hl : lv_has ls 3 [(0, .ref oP)] := hl
  have K0 : ∀ (H : Heap) (locs : List Loc) (ls : Array Slot), va_P D vwCl [(oP, .inr (2, [.ref pS, .int (nI ln), .int (nI po), .ref pV, .ref pF, .ref pE, .int (nI od)])), (pS, .inl (K 1, 80, .inl cS)), (pV, .inl (K 0, 40, .inl cV)), (pF, .inl (K 0, 40, .inl cF)), (pE, .inl (K 0, 40, .inl cE))] H → va_D A [(oP, .inr (2, [.ref pS, .int (nI ln), .int (nI po), .ref pV, .ref pF, .ref pE, .int (nI od)])), (pS, .inl (K 1, 80, .inl cS)), (pV, .inl (K 0, 40, .inl cV)), (pF, .inl (K 0, 40, .inl cF)), (pE, .inl (K 0, 40, .inl cE))] → va_S A s.heap H locs → lv_has ls 3 [(0, .ref oP)] → W p l e (headSpec wsX2_scan ({ frames := 4, cells := 0, slots := 0, locals := 88 })).room s m ([.ref oP] : List Value).toArray below meth c H locs 0 0 (MQ below (va_Qi (fun r (_ : Unit) => r = (r_X2_scan cS cV cF cE ln)) (fun _ t => va_P D vwCl [(oP, .inr (2, [.ref pS, .int (nI ln), .int (nI (n_X2_scan_0_2 cS cV cF cE ln)), .ref pV, .ref pF, .ref pE, .int (nI (n_X2_scan_0_6 cS cV cF cE ln))])), (pS, .inl (K 1, 80, .inl cS)), (pV, .inl (K 0, 40, .inl (n_X2_scan_2 cS cV cF cE ln))), (pF, .inl (K 0, 40, .inl (n_X2_scan_3 cS cV cF cE ln))), (pE, .inl (K 0, 40, .inl (n_X2_scan_4 cS cV cF cE ln)))] t.heap) A) ([.ref oP] : List Value).toArray s 0 0 A) (F0 m 0 ls []) := by
    intro H locs ls hP hD hS hl
    refine lv_aload_n hx hb dX2_scan_0 rfl (lv_at hl 0 rfl) ?_
    refine lv_iconst (v := 0) hx hb dX2_scan_1 (by decide) ?_
    refine va_put (D := D) (ci := 2) (v := .int 0) (ty := .int) (C := RX2) (T := TX2) (N := 7) hx hb hts hin2 tyX2 tyX2_ok nmX2 hown hK hP hD hS 0 rfl rfl 2 (by decide) (hts _ (List.mem_of_getElem? (i := 1) rfl)) (fun _ h9 => h9) rfl (by decide +kernel) rfl rfl (Nat.le_of_ble_eq_true rfl) dX2_scan_2 (fun H locs hP hD hS => ?_)
    have hP : va_P D vwCl [(oP, .inr (2, [.ref pS, .int (nI ln), .int 0, .ref pV, .ref pF, .ref pE, .int (nI od)])), (pS, .inl (K 1, 80, .inl cS)), (pV, .inl (K 0, 40, .inl cV)), (pF, .inl (K 0, 40, .inl cF)), (pE, .inl (K 0, 40, .inl cE))] H := hP
    have hD : va_D A [(oP, .inr (2, [.ref pS, .int (nI ln), .int 0, .ref pV, .ref pF, .ref pE, .int (nI od)])), (pS, .inl (K 1, 80, .inl cS)), (pV, .inl (K 0, 40, .inl cV)), (pF, .inl (K 0, 40, .inl cF)), (pE, .inl (K 0, 40, .inl cE))] := hD
    refine lv_aload_n hx hb dX2_scan_5 rfl (lv_at hl 0 rfl) ?_
    refine lv_iconst (v := 0) hx hb dX2_scan_6 (by decide) ?_
    refine va_put (D := D) (ci := 2) (v := .int 0) (ty := .int) (C := RX2) (T := TX2) (N := 7) hx hb hts hin2 tyX2 tyX2_ok nmX2 hown hK hP hD hS 0 rfl rfl 6 (by decide) (hts _ (List.mem_of_getElem? (i := 2) rfl)) (fun _ h9 => h9) rfl (by decide +kernel) rfl rfl (Nat.le_of_ble_eq_true rfl) dX2_scan_7 (fun H locs hP hD hS => ?_)
    have hP : va_P D vwCl [(oP, .inr (2, [.ref pS, .int (nI ln), .int 0, .ref pV, .ref pF, .ref pE, .int 0])), (pS, .inl (K 1, 80, .inl cS)), (pV, .inl (K 0, 40, .inl cV)), (pF, .inl (K 0, 40, .inl cF)), (pE, .inl (K 0, 40, .inl cE))] H := hP
    have hD : va_D A [(oP, .inr (2, [.ref pS, .int (nI ln), .int 0, .ref pV, .ref pF, .ref pE, .int 0])), (pS, .inl (K 1, 80, .inl cS)), (pV, .inl (K 0, 40, .inl cV)), (pF, .inl (K 0, 40, .inl cF)), (pE, .inl (K 0, 40, .inl cE))] := hD
    refine lv_aload_n hx hb dX2_scan_10 rfl (lv_at hl 0 rfl) ?_
    have hPc := hP.sub (ws' := [(oP, .inr (2, [.ref pS, .int (nI ln), .int 0, .ref pV, .ref pF, .ref pE, .int 0])), (pS, .inl (K 1, 80, .inl cS)), (pV, .inl (K 0, 40, .inl cV)), (pF, .inl (K 0, 40, .inl cF)), (pE, .inl (K 0, 40, .inl cE))]) [0, 1, 2, 3, 4] rfl
    have hDc : va_D (fun _ => True) [(oP, .inr (2, [.ref pS, .int (nI ln), .int 0, .ref pV, .ref pF, .ref pE, .int 0])), (pS, .inl (K 1, 80, .inl cS)), (pV, .inl (K 0, 40, .inl cV)), (pF, .inl (K 0, 40, .inl cF)), (pE, .inl (K 0, 40, .inl cE))] := (hD.sub (ws' := [(oP, .inr (2, [.ref pS, .int (nI ln), .int 0, .ref pV, .ref pF, .ref pE, .int 0])), (pS, .inl (K 1, 80, .inl cS)), (pV, .inl (K 0, 40, .inl cV)), (pF, .inl (K 0, 40, .inl cF)), (pE, .inl (K 0, 40, .inl cE))]) [0, 1, 2, 3, 4] (by decide +kernel) rfl).weaken (fun _ _ _ _ => trivial)
    refine kw_i (W1 := [(oP, .inr (2, [.ref pS, .int (nI ln), .int (nI (n_X2_scanOrder_0_2 cS ln 0)), .ref pV, .ref pF, .ref pE, .int (nI (n_X2_scanOrder_0_6 cS ln 0 0))])), (pS, .inl (K 1, 80, .inl cS)), (pV, .inl (K 0, 40, .inl (n_X2_scanOrder_2 cS cV ln 0 0))), (pF, .inl (K 0, 40, .inl (n_X2_scanOrder_3 cS cF ln 0 0))), (pE, .inl (K 0, 40, .inl (n_X2_scanOrder_4 cS cE ln 0 0)))]) (w1 := [(oP, .inr (2, [.ref pS, .int (nI ln), .int (nI (n_X2_scanOrder_0_2 cS ln 0)), .ref pV, .ref pF, .ref pE, .int (nI (n_X2_scanOrder_0_6 cS ln 0 0))])), (pS, .inl (K 1, 80, .inl cS)), (pV, .inl (K 0, 40, .inl (n_X2_scanOrder_2 cS cV ln 0 0))), (pF, .inl (K 0, 40, .inl (n_X2_scanOrder_3 cS cF ln 0 0))), (pE, .inl (K 0, 40, .inl (n_X2_scanOrder_4 cS cE ln 0 0)))]) (va_runV (As := []) (rest := []) ⟨hx, hb, hml, hown, hts⟩ (c_X2_scanOrder l D K oP pS pV pF pE cS cV cF cE ln 0 0 hln (by omega) (by omega)) (cwV 0 hts gX2_scan_X2_scanOrder rfl rfl rfl (by decide +kernel) ⟨Nat.le_of_ble_eq_true rfl, Nat.le_of_ble_eq_true rfl⟩) (pre_wr hbd hPc hDc (ci := 2) (q0 := 0) rfl rfl) rfl rfl hl.1 rfl (lv_room (Nat.le_of_ble_eq_true rfl)) dX2_scan_11 ⟨Nat.zero_le _, Nat.zero_le _⟩) hP hD hS [0, 1, 2, 3, 4] [] 5 rfl rfl rfl (Eq.trans (b := List.map some ([])) rfl rfl) (by decide +kernel) (by decide +kernel) (by simp only [List.map_append, drW_fst, List.map_cons, List.map_nil]) (fun r_1 H locs hr_1 hP hD hS => ?_)
    subst hr_1
    have hb_2 := so_po (cS := cS) (ln := ln) (po := 0) hln (by omega)
    have hb_3 := so_od (cS := cS) (ln := ln) (po := 0) (od := 0) (by omega)
    refine lv_istore_n (lv' := [(1, .int (r_X2_scanOrder cS ln 0 0)), (0, .ref oP)]) hx hb dX2_scan_14 rfl hl (by decide) rfl (fun ls hl => ?_)
    refine lv_iconst (v := 0) hx hb dX2_scan_15 (by decide) ?_
    refine lv_istore_n (lv' := [(2, .int 0), (1, .int (r_X2_scanOrder cS ln 0 0)), (0, .ref oP)]) hx hb dX2_scan_16 rfl hl (by decide) rfl (fun ls hl => ?_)
    have L_4 : ∀ (nf : Nat) (rt : Int32) (q : Nat) (p_ : Nat) (o_ : Nat) (vV : Nat → Int32) (vF : Nat → Int32) (vE : Nat → Int32), 80 - q < nf → q ≤ 80 → p_ ≤ 80 → o_ ≤ 40 → scI2 cS ln (80 - q) rt q p_ o_ vV vF vE = (scI2 cS ln 80 (r_X2_scanOrder cS ln 0 0) 0 (n_X2_scanOrder_0_2 cS ln 0) (n_X2_scanOrder_0_6 cS ln 0 0) (n_X2_scanOrder_2 cS cV ln 0 0) (n_X2_scanOrder_3 cS cF ln 0 0) (n_X2_scanOrder_4 cS cE ln 0 0)) → ∀ (H : Heap) (locs : List Loc) (ls : Array Slot), va_P D vwCl [(oP, .inr (2, [.ref pS, .int (nI ln), .int (nI p_), .ref pV, .ref pF, .ref pE, .int (nI o_)])), (pS, .inl (K 1, 80, .inl cS)), (pV, .inl (K 0, 40, .inl vV)), (pF, .inl (K 0, 40, .inl vF)), (pE, .inl (K 0, 40, .inl vE))] H → va_D A [(oP, .inr (2, [.ref pS, .int (nI ln), .int (nI p_), .ref pV, .ref pF, .ref pE, .int (nI o_)])), (pS, .inl (K 1, 80, .inl cS)), (pV, .inl (K 0, 40, .inl vV)), (pF, .inl (K 0, 40, .inl vF)), (pE, .inl (K 0, 40, .inl vE))] → va_S A s.heap H locs → lv_has ls 3 [(2, .int (nI q)), (1, .int rt), (0, .ref oP)] → W p l e (headSpec wsX2_scan ({ frames := 4, cells := 0, slots := 0, locals := 88 })).room s m ([.ref oP] : List Value).toArray below meth c H locs 0 0 (MQ below (va_Qi (fun r (_ : Unit) => r = (r_X2_scan cS cV cF cE ln)) (fun _ t => va_P D vwCl [(oP, .inr (2, [.ref pS, .int (nI ln), .int (nI (n_X2_scan_0_2 cS cV cF cE ln)), .ref pV, .ref pF, .ref pE, .int (nI (n_X2_scan_0_6 cS cV cF cE ln))])), (pS, .inl (K 1, 80, .inl cS)), (pV, .inl (K 0, 40, .inl (n_X2_scan_2 cS cV cF cE ln))), (pF, .inl (K 0, 40, .inl (n_X2_scan_3 cS cV cF cE ln))), (pE, .inl (K 0, 40, .inl (n_X2_scan_4 cS cV cF cE ln)))] t.heap) A) ([.ref oP] : List Value).toArray s 0 0 A) (F0 m 17 ls []) := by
      intro nf
      induction nf with
      | zero =>
        intro rt q p_ o_ vV vF vE hm
        exact absurd hm (Nat.not_lt_zero _)
      | succ nf ih =>
        intro rt q p_ o_ vV vF vE hm hq hp_ ho_ hinv H locs ls hP hD hS hl
        refine lv_iload_n hx hb dX2_scan_17 rfl (lv_at hl 0 rfl) ?_
        refine lv_bipush (v := 80) hx hb dX2_scan_18 (by decide) ?_
        refine lv_icmp_ge (tgt := 66) hx hb dX2_scan_20 (by decide) (fun c_5 => ?_) (fun c_5 => ?_)
        · skip
          have nc_5 := (nI_leI (a := 80) (b := q) (by omega) (by omega)).mp c_5
          have e9 : (rt, q, p_, o_, vV, vF, vE) = (scI2 cS ln 80 (r_X2_scanOrder cS ln 0 0) 0 (n_X2_scanOrder_0_2 cS ln 0) (n_X2_scanOrder_0_6 cS ln 0 0) (n_X2_scanOrder_2 cS cV ln 0 0) (n_X2_scanOrder_3 cS cF ln 0 0) (n_X2_scanOrder_4 cS cE ln 0 0)) := by
            rw [← hinv]
            rcases (show 80 - q = 0 ∨ 80 - q = (80 - q - 1) + 1 by omega) with h9 | h9
            · first | (exfalso; omega) | (rw [h9]; rfl)
            · rw [h9, scI2_s, if_pos c_5]
          have f9_rt : rt = ((scI2 cS ln 80 (r_X2_scanOrder cS ln 0 0) 0 (n_X2_scanOrder_0_2 cS ln 0) (n_X2_scanOrder_0_6 cS ln 0 0) (n_X2_scanOrder_2 cS cV ln 0 0) (n_X2_scanOrder_3 cS cF ln 0 0) (n_X2_scanOrder_4 cS cE ln 0 0)).1) := by rw [← e9]
          have f9_q : q = (((scI2 cS ln 80 (r_X2_scanOrder cS ln 0 0) 0 (n_X2_scanOrder_0_2 cS ln 0) (n_X2_scanOrder_0_6 cS ln 0 0) (n_X2_scanOrder_2 cS cV ln 0 0) (n_X2_scanOrder_3 cS cF ln 0 0) (n_X2_scanOrder_4 cS cE ln 0 0)).2).1) := by rw [← e9]
          have f9_p_ : p_ = ((((scI2 cS ln 80 (r_X2_scanOrder cS ln 0 0) 0 (n_X2_scanOrder_0_2 cS ln 0) (n_X2_scanOrder_0_6 cS ln 0 0) (n_X2_scanOrder_2 cS cV ln 0 0) (n_X2_scanOrder_3 cS cF ln 0 0) (n_X2_scanOrder_4 cS cE ln 0 0)).2).2).1) := by rw [← e9]
          have f9_o_ : o_ = (((((scI2 cS ln 80 (r_X2_scanOrder cS ln 0 0) 0 (n_X2_scanOrder_0_2 cS ln 0) (n_X2_scanOrder_0_6 cS ln 0 0) (n_X2_scanOrder_2 cS cV ln 0 0) (n_X2_scanOrder_3 cS cF ln 0 0) (n_X2_scanOrder_4 cS cE ln 0 0)).2).2).2).1) := by rw [← e9]
          have f9_vV : vV = ((((((scI2 cS ln 80 (r_X2_scanOrder cS ln 0 0) 0 (n_X2_scanOrder_0_2 cS ln 0) (n_X2_scanOrder_0_6 cS ln 0 0) (n_X2_scanOrder_2 cS cV ln 0 0) (n_X2_scanOrder_3 cS cF ln 0 0) (n_X2_scanOrder_4 cS cE ln 0 0)).2).2).2).2).1) := by rw [← e9]
          have f9_vF : vF = (((((((scI2 cS ln 80 (r_X2_scanOrder cS ln 0 0) 0 (n_X2_scanOrder_0_2 cS ln 0) (n_X2_scanOrder_0_6 cS ln 0 0) (n_X2_scanOrder_2 cS cV ln 0 0) (n_X2_scanOrder_3 cS cF ln 0 0) (n_X2_scanOrder_4 cS cE ln 0 0)).2).2).2).2).2).1) := by rw [← e9]
          have f9_vE : vE = (((((((scI2 cS ln 80 (r_X2_scanOrder cS ln 0 0) 0 (n_X2_scanOrder_0_2 cS ln 0) (n_X2_scanOrder_0_6 cS ln 0 0) (n_X2_scanOrder_2 cS cV ln 0 0) (n_X2_scanOrder_3 cS cF ln 0 0) (n_X2_scanOrder_4 cS cE ln 0 0)).2).2).2).2).2).2) := by rw [← e9]
          subst f9_rt
          subst f9_q
          subst f9_p_
          subst f9_o_
          subst f9_vV
          subst f9_vF
          subst f9_vE
          refine lv_iload_n hx hb dX2_scan_66 rfl (lv_at hl 1 rfl) ?_
          refine lv_if_eq (tgt := 75) hx hb dX2_scan_67 (by decide) (fun c_6 => ?_) (fun c_6 => ?_)
          · skip
            refine lv_aload_n hx hb dX2_scan_75 rfl (lv_at hl 2 rfl) ?_
            refine va_get (D := D) (ci := 2) (v := .int (nI ((((scI2 cS ln 80 (r_X2_scanOrder cS ln 0 0) 0 (n_X2_scanOrder_0_2 cS ln 0) (n_X2_scanOrder_0_6 cS ln 0 0) (n_X2_scanOrder_2 cS cV ln 0 0) (n_X2_scanOrder_3 cS cF ln 0 0) (n_X2_scanOrder_4 cS cE ln 0 0)).2).2).1))) (C := RX2) (T := TX2) (N := 7) hx hb hts hin2 hown hK hP 0 rfl rfl 2 (by decide) (hts _ (List.mem_of_getElem? (i := 1) rfl)) (fun _ h9 => h9) rfl dX2_scan_76 ?_
            have e_7 : n_X2_scan_0_2 cS cV cF cE ln = ((((scI2 cS ln 80 (r_X2_scanOrder cS ln 0 0) 0 (n_X2_scanOrder_0_2 cS ln 0) (n_X2_scanOrder_0_6 cS ln 0 0) (n_X2_scanOrder_2 cS cV ln 0 0) (n_X2_scanOrder_3 cS cF ln 0 0) (n_X2_scanOrder_4 cS cE ln 0 0)).2).2).1) := rfl
            have e_8 : n_X2_scan_0_6 cS cV cF cE ln = (((((scI2 cS ln 80 (r_X2_scanOrder cS ln 0 0) 0 (n_X2_scanOrder_0_2 cS ln 0) (n_X2_scanOrder_0_6 cS ln 0 0) (n_X2_scanOrder_2 cS cV ln 0 0) (n_X2_scanOrder_3 cS cF ln 0 0) (n_X2_scanOrder_4 cS cE ln 0 0)).2).2).2).1) := rfl
            have e_9 : n_X2_scan_2 cS cV cF cE ln = ((((((scI2 cS ln 80 (r_X2_scanOrder cS ln 0 0) 0 (n_X2_scanOrder_0_2 cS ln 0) (n_X2_scanOrder_0_6 cS ln 0 0) (n_X2_scanOrder_2 cS cV ln 0 0) (n_X2_scanOrder_3 cS cF ln 0 0) (n_X2_scanOrder_4 cS cE ln 0 0)).2).2).2).2).1) := rfl
            have e_10 : n_X2_scan_3 cS cV cF cE ln = (((((((scI2 cS ln 80 (r_X2_scanOrder cS ln 0 0) 0 (n_X2_scanOrder_0_2 cS ln 0) (n_X2_scanOrder_0_6 cS ln 0 0) (n_X2_scanOrder_2 cS cV ln 0 0) (n_X2_scanOrder_3 cS cF ln 0 0) (n_X2_scanOrder_4 cS cE ln 0 0)).2).2).2).2).2).1) := rfl
            have e_11 : n_X2_scan_4 cS cV cF cE ln = (((((((scI2 cS ln 80 (r_X2_scanOrder cS ln 0 0) 0 (n_X2_scanOrder_0_2 cS ln 0) (n_X2_scanOrder_0_6 cS ln 0 0) (n_X2_scanOrder_2 cS cV ln 0 0) (n_X2_scanOrder_3 cS cF ln 0 0) (n_X2_scanOrder_4 cS cE ln 0 0)).2).2).2).2).2).2) := rfl
            have hPf : va_P D vwCl [(oP, .inr (2, [.ref pS, .int (nI ln), .int (nI (n_X2_scan_0_2 cS cV cF cE ln)), .ref pV, .ref pF, .ref pE, .int (nI (n_X2_scan_0_6 cS cV cF cE ln))])), (pS, .inl (K 1, 80, .inl cS)), (pV, .inl (K 0, 40, .inl (n_X2_scan_2 cS cV cF cE ln))), (pF, .inl (K 0, 40, .inl (n_X2_scan_3 cS cV cF cE ln))), (pE, .inl (K 0, 40, .inl (n_X2_scan_4 cS cV cF cE ln)))] H := (by rw [e_7, e_8, e_9, e_10, e_11]; exact hP)
            exact W.iret hx hb hr (fun t ht hW => ⟨⟨_, (), rfl, (by unfold r_X2_scan; rw [if_pos c_6]), by show va_P D vwCl _ t.heap; rw [ht]; exact hPf⟩, hS.F ht⟩) hS.2.2 dX2_scan_79
          · skip
            refine lv_bipush (v := (-6)) hx hb dX2_scan_70 (by decide) ?_
            refine lv_goto (tgt := 79) hx hb dX2_scan_72 (by decide) ?_
            have e_12 : n_X2_scan_0_2 cS cV cF cE ln = ((((scI2 cS ln 80 (r_X2_scanOrder cS ln 0 0) 0 (n_X2_scanOrder_0_2 cS ln 0) (n_X2_scanOrder_0_6 cS ln 0 0) (n_X2_scanOrder_2 cS cV ln 0 0) (n_X2_scanOrder_3 cS cF ln 0 0) (n_X2_scanOrder_4 cS cE ln 0 0)).2).2).1) := rfl
            have e_13 : n_X2_scan_0_6 cS cV cF cE ln = (((((scI2 cS ln 80 (r_X2_scanOrder cS ln 0 0) 0 (n_X2_scanOrder_0_2 cS ln 0) (n_X2_scanOrder_0_6 cS ln 0 0) (n_X2_scanOrder_2 cS cV ln 0 0) (n_X2_scanOrder_3 cS cF ln 0 0) (n_X2_scanOrder_4 cS cE ln 0 0)).2).2).2).1) := rfl
            have e_14 : n_X2_scan_2 cS cV cF cE ln = ((((((scI2 cS ln 80 (r_X2_scanOrder cS ln 0 0) 0 (n_X2_scanOrder_0_2 cS ln 0) (n_X2_scanOrder_0_6 cS ln 0 0) (n_X2_scanOrder_2 cS cV ln 0 0) (n_X2_scanOrder_3 cS cF ln 0 0) (n_X2_scanOrder_4 cS cE ln 0 0)).2).2).2).2).1) := rfl
            have e_15 : n_X2_scan_3 cS cV cF cE ln = (((((((scI2 cS ln 80 (r_X2_scanOrder cS ln 0 0) 0 (n_X2_scanOrder_0_2 cS ln 0) (n_X2_scanOrder_0_6 cS ln 0 0) (n_X2_scanOrder_2 cS cV ln 0 0) (n_X2_scanOrder_3 cS cF ln 0 0) (n_X2_scanOrder_4 cS cE ln 0 0)).2).2).2).2).2).1) := rfl
            have e_16 : n_X2_scan_4 cS cV cF cE ln = (((((((scI2 cS ln 80 (r_X2_scanOrder cS ln 0 0) 0 (n_X2_scanOrder_0_2 cS ln 0) (n_X2_scanOrder_0_6 cS ln 0 0) (n_X2_scanOrder_2 cS cV ln 0 0) (n_X2_scanOrder_3 cS cF ln 0 0) (n_X2_scanOrder_4 cS cE ln 0 0)).2).2).2).2).2).2) := rfl
            have hPf : va_P D vwCl [(oP, .inr (2, [.ref pS, .int (nI ln), .int (nI (n_X2_scan_0_2 cS cV cF cE ln)), .ref pV, .ref pF, .ref pE, .int (nI (n_X2_scan_0_6 cS cV cF cE ln))])), (pS, .inl (K 1, 80, .inl cS)), (pV, .inl (K 0, 40, .inl (n_X2_scan_2 cS cV cF cE ln))), (pF, .inl (K 0, 40, .inl (n_X2_scan_3 cS cV cF cE ln))), (pE, .inl (K 0, 40, .inl (n_X2_scan_4 cS cV cF cE ln)))] H := (by rw [e_12, e_13, e_14, e_15, e_16]; exact hP)
            exact W.iret hx hb hr (fun t ht hW => ⟨⟨_, (), rfl, (by unfold r_X2_scan; rw [if_neg c_6]), by show va_P D vwCl _ t.heap; rw [ht]; exact hPf⟩, hS.F ht⟩) hS.2.2 dX2_scan_79
        · skip
          have nc_5 : ¬ (80 ≤ q) := fun h => c_5 ((nI_leI (a := 80) (b := q) (by omega) (by omega)).mpr h)
          refine lv_iload_n hx hb dX2_scan_23 rfl (lv_at hl 1 rfl) ?_
          refine lv_if_eq (tgt := 66) hx hb dX2_scan_24 (by decide) (fun c_17 => ?_) (fun c_17 => ?_)
          · skip
            have e9 : (rt, q, p_, o_, vV, vF, vE) = (scI2 cS ln 80 (r_X2_scanOrder cS ln 0 0) 0 (n_X2_scanOrder_0_2 cS ln 0) (n_X2_scanOrder_0_6 cS ln 0 0) (n_X2_scanOrder_2 cS cV ln 0 0) (n_X2_scanOrder_3 cS cF ln 0 0) (n_X2_scanOrder_4 cS cE ln 0 0)) := by
              rw [← hinv]
              rcases (show 80 - q = 0 ∨ 80 - q = (80 - q - 1) + 1 by omega) with h9 | h9
              · first | (exfalso; omega) | (rw [h9]; rfl)
              · rw [h9, scI2_s, if_neg c_5, if_pos c_17]
            have f9_rt : rt = ((scI2 cS ln 80 (r_X2_scanOrder cS ln 0 0) 0 (n_X2_scanOrder_0_2 cS ln 0) (n_X2_scanOrder_0_6 cS ln 0 0) (n_X2_scanOrder_2 cS cV ln 0 0) (n_X2_scanOrder_3 cS cF ln 0 0) (n_X2_scanOrder_4 cS cE ln 0 0)).1) := by rw [← e9]
            have f9_q : q = (((scI2 cS ln 80 (r_X2_scanOrder cS ln 0 0) 0 (n_X2_scanOrder_0_2 cS ln 0) (n_X2_scanOrder_0_6 cS ln 0 0) (n_X2_scanOrder_2 cS cV ln 0 0) (n_X2_scanOrder_3 cS cF ln 0 0) (n_X2_scanOrder_4 cS cE ln 0 0)).2).1) := by rw [← e9]
            have f9_p_ : p_ = ((((scI2 cS ln 80 (r_X2_scanOrder cS ln 0 0) 0 (n_X2_scanOrder_0_2 cS ln 0) (n_X2_scanOrder_0_6 cS ln 0 0) (n_X2_scanOrder_2 cS cV ln 0 0) (n_X2_scanOrder_3 cS cF ln 0 0) (n_X2_scanOrder_4 cS cE ln 0 0)).2).2).1) := by rw [← e9]
            have f9_o_ : o_ = (((((scI2 cS ln 80 (r_X2_scanOrder cS ln 0 0) 0 (n_X2_scanOrder_0_2 cS ln 0) (n_X2_scanOrder_0_6 cS ln 0 0) (n_X2_scanOrder_2 cS cV ln 0 0) (n_X2_scanOrder_3 cS cF ln 0 0) (n_X2_scanOrder_4 cS cE ln 0 0)).2).2).2).1) := by rw [← e9]
            have f9_vV : vV = ((((((scI2 cS ln 80 (r_X2_scanOrder cS ln 0 0) 0 (n_X2_scanOrder_0_2 cS ln 0) (n_X2_scanOrder_0_6 cS ln 0 0) (n_X2_scanOrder_2 cS cV ln 0 0) (n_X2_scanOrder_3 cS cF ln 0 0) (n_X2_scanOrder_4 cS cE ln 0 0)).2).2).2).2).1) := by rw [← e9]
            have f9_vF : vF = (((((((scI2 cS ln 80 (r_X2_scanOrder cS ln 0 0) 0 (n_X2_scanOrder_0_2 cS ln 0) (n_X2_scanOrder_0_6 cS ln 0 0) (n_X2_scanOrder_2 cS cV ln 0 0) (n_X2_scanOrder_3 cS cF ln 0 0) (n_X2_scanOrder_4 cS cE ln 0 0)).2).2).2).2).2).1) := by rw [← e9]
            have f9_vE : vE = (((((((scI2 cS ln 80 (r_X2_scanOrder cS ln 0 0) 0 (n_X2_scanOrder_0_2 cS ln 0) (n_X2_scanOrder_0_6 cS ln 0 0) (n_X2_scanOrder_2 cS cV ln 0 0) (n_X2_scanOrder_3 cS cF ln 0 0) (n_X2_scanOrder_4 cS cE ln 0 0)).2).2).2).2).2).2) := by rw [← e9]
            subst f9_rt
            subst f9_q
            subst f9_p_
            subst f9_o_
            subst f9_vV
            subst f9_vF
            subst f9_vE
            refine lv_iload_n hx hb dX2_scan_66 rfl (lv_at hl 1 rfl) ?_
            refine lv_if_eq (tgt := 75) hx hb dX2_scan_67 (by decide) (fun c_18 => ?_) (fun c_18 => ?_)
            · skip
              refine lv_aload_n hx hb dX2_scan_75 rfl (lv_at hl 2 rfl) ?_
              refine va_get (D := D) (ci := 2) (v := .int (nI ((((scI2 cS ln 80 (r_X2_scanOrder cS ln 0 0) 0 (n_X2_scanOrder_0_2 cS ln 0) (n_X2_scanOrder_0_6 cS ln 0 0) (n_X2_scanOrder_2 cS cV ln 0 0) (n_X2_scanOrder_3 cS cF ln 0 0) (n_X2_scanOrder_4 cS cE ln 0 0)).2).2).1))) (C := RX2) (T := TX2) (N := 7) hx hb hts hin2 hown hK hP 0 rfl rfl 2 (by decide) (hts _ (List.mem_of_getElem? (i := 1) rfl)) (fun _ h9 => h9) rfl dX2_scan_76 ?_
              have e_19 : n_X2_scan_0_2 cS cV cF cE ln = ((((scI2 cS ln 80 (r_X2_scanOrder cS ln 0 0) 0 (n_X2_scanOrder_0_2 cS ln 0) (n_X2_scanOrder_0_6 cS ln 0 0) (n_X2_scanOrder_2 cS cV ln 0 0) (n_X2_scanOrder_3 cS cF ln 0 0) (n_X2_scanOrder_4 cS cE ln 0 0)).2).2).1) := rfl
              have e_20 : n_X2_scan_0_6 cS cV cF cE ln = (((((scI2 cS ln 80 (r_X2_scanOrder cS ln 0 0) 0 (n_X2_scanOrder_0_2 cS ln 0) (n_X2_scanOrder_0_6 cS ln 0 0) (n_X2_scanOrder_2 cS cV ln 0 0) (n_X2_scanOrder_3 cS cF ln 0 0) (n_X2_scanOrder_4 cS cE ln 0 0)).2).2).2).1) := rfl
              have e_21 : n_X2_scan_2 cS cV cF cE ln = ((((((scI2 cS ln 80 (r_X2_scanOrder cS ln 0 0) 0 (n_X2_scanOrder_0_2 cS ln 0) (n_X2_scanOrder_0_6 cS ln 0 0) (n_X2_scanOrder_2 cS cV ln 0 0) (n_X2_scanOrder_3 cS cF ln 0 0) (n_X2_scanOrder_4 cS cE ln 0 0)).2).2).2).2).1) := rfl
              have e_22 : n_X2_scan_3 cS cV cF cE ln = (((((((scI2 cS ln 80 (r_X2_scanOrder cS ln 0 0) 0 (n_X2_scanOrder_0_2 cS ln 0) (n_X2_scanOrder_0_6 cS ln 0 0) (n_X2_scanOrder_2 cS cV ln 0 0) (n_X2_scanOrder_3 cS cF ln 0 0) (n_X2_scanOrder_4 cS cE ln 0 0)).2).2).2).2).2).1) := rfl
              have e_23 : n_X2_scan_4 cS cV cF cE ln = (((((((scI2 cS ln 80 (r_X2_scanOrder cS ln 0 0) 0 (n_X2_scanOrder_0_2 cS ln 0) (n_X2_scanOrder_0_6 cS ln 0 0) (n_X2_scanOrder_2 cS cV ln 0 0) (n_X2_scanOrder_3 cS cF ln 0 0) (n_X2_scanOrder_4 cS cE ln 0 0)).2).2).2).2).2).2) := rfl
              have hPf : va_P D vwCl [(oP, .inr (2, [.ref pS, .int (nI ln), .int (nI (n_X2_scan_0_2 cS cV cF cE ln)), .ref pV, .ref pF, .ref pE, .int (nI (n_X2_scan_0_6 cS cV cF cE ln))])), (pS, .inl (K 1, 80, .inl cS)), (pV, .inl (K 0, 40, .inl (n_X2_scan_2 cS cV cF cE ln))), (pF, .inl (K 0, 40, .inl (n_X2_scan_3 cS cV cF cE ln))), (pE, .inl (K 0, 40, .inl (n_X2_scan_4 cS cV cF cE ln)))] H := (by rw [e_19, e_20, e_21, e_22, e_23]; exact hP)
              exact W.iret hx hb hr (fun t ht hW => ⟨⟨_, (), rfl, (by unfold r_X2_scan; rw [if_pos c_18]), by show va_P D vwCl _ t.heap; rw [ht]; exact hPf⟩, hS.F ht⟩) hS.2.2 dX2_scan_79
            · skip
              refine lv_bipush (v := (-6)) hx hb dX2_scan_70 (by decide) ?_
              refine lv_goto (tgt := 79) hx hb dX2_scan_72 (by decide) ?_
              have e_24 : n_X2_scan_0_2 cS cV cF cE ln = ((((scI2 cS ln 80 (r_X2_scanOrder cS ln 0 0) 0 (n_X2_scanOrder_0_2 cS ln 0) (n_X2_scanOrder_0_6 cS ln 0 0) (n_X2_scanOrder_2 cS cV ln 0 0) (n_X2_scanOrder_3 cS cF ln 0 0) (n_X2_scanOrder_4 cS cE ln 0 0)).2).2).1) := rfl
              have e_25 : n_X2_scan_0_6 cS cV cF cE ln = (((((scI2 cS ln 80 (r_X2_scanOrder cS ln 0 0) 0 (n_X2_scanOrder_0_2 cS ln 0) (n_X2_scanOrder_0_6 cS ln 0 0) (n_X2_scanOrder_2 cS cV ln 0 0) (n_X2_scanOrder_3 cS cF ln 0 0) (n_X2_scanOrder_4 cS cE ln 0 0)).2).2).2).1) := rfl
              have e_26 : n_X2_scan_2 cS cV cF cE ln = ((((((scI2 cS ln 80 (r_X2_scanOrder cS ln 0 0) 0 (n_X2_scanOrder_0_2 cS ln 0) (n_X2_scanOrder_0_6 cS ln 0 0) (n_X2_scanOrder_2 cS cV ln 0 0) (n_X2_scanOrder_3 cS cF ln 0 0) (n_X2_scanOrder_4 cS cE ln 0 0)).2).2).2).2).1) := rfl
              have e_27 : n_X2_scan_3 cS cV cF cE ln = (((((((scI2 cS ln 80 (r_X2_scanOrder cS ln 0 0) 0 (n_X2_scanOrder_0_2 cS ln 0) (n_X2_scanOrder_0_6 cS ln 0 0) (n_X2_scanOrder_2 cS cV ln 0 0) (n_X2_scanOrder_3 cS cF ln 0 0) (n_X2_scanOrder_4 cS cE ln 0 0)).2).2).2).2).2).1) := rfl
              have e_28 : n_X2_scan_4 cS cV cF cE ln = (((((((scI2 cS ln 80 (r_X2_scanOrder cS ln 0 0) 0 (n_X2_scanOrder_0_2 cS ln 0) (n_X2_scanOrder_0_6 cS ln 0 0) (n_X2_scanOrder_2 cS cV ln 0 0) (n_X2_scanOrder_3 cS cF ln 0 0) (n_X2_scanOrder_4 cS cE ln 0 0)).2).2).2).2).2).2) := rfl
              have hPf : va_P D vwCl [(oP, .inr (2, [.ref pS, .int (nI ln), .int (nI (n_X2_scan_0_2 cS cV cF cE ln)), .ref pV, .ref pF, .ref pE, .int (nI (n_X2_scan_0_6 cS cV cF cE ln))])), (pS, .inl (K 1, 80, .inl cS)), (pV, .inl (K 0, 40, .inl (n_X2_scan_2 cS cV cF cE ln))), (pF, .inl (K 0, 40, .inl (n_X2_scan_3 cS cV cF cE ln))), (pE, .inl (K 0, 40, .inl (n_X2_scan_4 cS cV cF cE ln)))] H := (by rw [e_24, e_25, e_26, e_27, e_28]; exact hP)
              exact W.iret hx hb hr (fun t ht hW => ⟨⟨_, (), rfl, (by unfold r_X2_scan; rw [if_neg c_18]), by show va_P D vwCl _ t.heap; rw [ht]; exact hPf⟩, hS.F ht⟩) hS.2.2 dX2_scan_79
          · skip
            refine lv_aload_n hx hb dX2_scan_27 rfl (lv_at hl 2 rfl) ?_
            refine va_get (D := D) (ci := 2) (v := .int (nI p_)) (C := RX2) (T := TX2) (N := 7) hx hb hts hin2 hown hK hP 0 rfl rfl 2 (by decide) (hts _ (List.mem_of_getElem? (i := 1) rfl)) (fun _ h9 => h9) rfl dX2_scan_28 ?_
            refine lv_aload_n hx hb dX2_scan_31 rfl (lv_at hl 2 rfl) ?_
            refine va_get (D := D) (ci := 2) (v := .int (nI ln)) (C := RX2) (T := TX2) (N := 7) hx hb hts hin2 hown hK hP 0 rfl rfl 1 (by decide) (hts _ (List.mem_of_getElem? (i := 3) rfl)) (fun _ h9 => h9) rfl dX2_scan_32 ?_
            refine lv_icmp_ge (tgt := 66) hx hb dX2_scan_35 (by decide) (fun c_29 => ?_) (fun c_29 => ?_)
            · skip
              have nc_29 := (nI_leI (a := ln) (b := p_) (by omega) (by omega)).mp c_29
              have e9 : (rt, q, p_, o_, vV, vF, vE) = (scI2 cS ln 80 (r_X2_scanOrder cS ln 0 0) 0 (n_X2_scanOrder_0_2 cS ln 0) (n_X2_scanOrder_0_6 cS ln 0 0) (n_X2_scanOrder_2 cS cV ln 0 0) (n_X2_scanOrder_3 cS cF ln 0 0) (n_X2_scanOrder_4 cS cE ln 0 0)) := by
                rw [← hinv]
                rcases (show 80 - q = 0 ∨ 80 - q = (80 - q - 1) + 1 by omega) with h9 | h9
                · first | (exfalso; omega) | (rw [h9]; rfl)
                · rw [h9, scI2_s, if_neg c_5, if_neg c_17, if_pos c_29]
              have f9_rt : rt = ((scI2 cS ln 80 (r_X2_scanOrder cS ln 0 0) 0 (n_X2_scanOrder_0_2 cS ln 0) (n_X2_scanOrder_0_6 cS ln 0 0) (n_X2_scanOrder_2 cS cV ln 0 0) (n_X2_scanOrder_3 cS cF ln 0 0) (n_X2_scanOrder_4 cS cE ln 0 0)).1) := by rw [← e9]
              have f9_q : q = (((scI2 cS ln 80 (r_X2_scanOrder cS ln 0 0) 0 (n_X2_scanOrder_0_2 cS ln 0) (n_X2_scanOrder_0_6 cS ln 0 0) (n_X2_scanOrder_2 cS cV ln 0 0) (n_X2_scanOrder_3 cS cF ln 0 0) (n_X2_scanOrder_4 cS cE ln 0 0)).2).1) := by rw [← e9]
              have f9_p_ : p_ = ((((scI2 cS ln 80 (r_X2_scanOrder cS ln 0 0) 0 (n_X2_scanOrder_0_2 cS ln 0) (n_X2_scanOrder_0_6 cS ln 0 0) (n_X2_scanOrder_2 cS cV ln 0 0) (n_X2_scanOrder_3 cS cF ln 0 0) (n_X2_scanOrder_4 cS cE ln 0 0)).2).2).1) := by rw [← e9]
              have f9_o_ : o_ = (((((scI2 cS ln 80 (r_X2_scanOrder cS ln 0 0) 0 (n_X2_scanOrder_0_2 cS ln 0) (n_X2_scanOrder_0_6 cS ln 0 0) (n_X2_scanOrder_2 cS cV ln 0 0) (n_X2_scanOrder_3 cS cF ln 0 0) (n_X2_scanOrder_4 cS cE ln 0 0)).2).2).2).1) := by rw [← e9]
              have f9_vV : vV = ((((((scI2 cS ln 80 (r_X2_scanOrder cS ln 0 0) 0 (n_X2_scanOrder_0_2 cS ln 0) (n_X2_scanOrder_0_6 cS ln 0 0) (n_X2_scanOrder_2 cS cV ln 0 0) (n_X2_scanOrder_3 cS cF ln 0 0) (n_X2_scanOrder_4 cS cE ln 0 0)).2).2).2).2).1) := by rw [← e9]
              have f9_vF : vF = (((((((scI2 cS ln 80 (r_X2_scanOrder cS ln 0 0) 0 (n_X2_scanOrder_0_2 cS ln 0) (n_X2_scanOrder_0_6 cS ln 0 0) (n_X2_scanOrder_2 cS cV ln 0 0) (n_X2_scanOrder_3 cS cF ln 0 0) (n_X2_scanOrder_4 cS cE ln 0 0)).2).2).2).2).2).1) := by rw [← e9]
              have f9_vE : vE = (((((((scI2 cS ln 80 (r_X2_scanOrder cS ln 0 0) 0 (n_X2_scanOrder_0_2 cS ln 0) (n_X2_scanOrder_0_6 cS ln 0 0) (n_X2_scanOrder_2 cS cV ln 0 0) (n_X2_scanOrder_3 cS cF ln 0 0) (n_X2_scanOrder_4 cS cE ln 0 0)).2).2).2).2).2).2) := by rw [← e9]
              subst f9_rt
              subst f9_q
              subst f9_p_
              subst f9_o_
              subst f9_vV
              subst f9_vF
              subst f9_vE
              refine lv_iload_n hx hb dX2_scan_66 rfl (lv_at hl 1 rfl) ?_
              refine lv_if_eq (tgt := 75) hx hb dX2_scan_67 (by decide) (fun c_30 => ?_) (fun c_30 => ?_)
              · skip
                refine lv_aload_n hx hb dX2_scan_75 rfl (lv_at hl 2 rfl) ?_
                refine va_get (D := D) (ci := 2) (v := .int (nI ((((scI2 cS ln 80 (r_X2_scanOrder cS ln 0 0) 0 (n_X2_scanOrder_0_2 cS ln 0) (n_X2_scanOrder_0_6 cS ln 0 0) (n_X2_scanOrder_2 cS cV ln 0 0) (n_X2_scanOrder_3 cS cF ln 0 0) (n_X2_scanOrder_4 cS cE ln 0 0)).2).2).1))) (C := RX2) (T := TX2) (N := 7) hx hb hts hin2 hown hK hP 0 rfl rfl 2 (by decide) (hts _ (List.mem_of_getElem? (i := 1) rfl)) (fun _ h9 => h9) rfl dX2_scan_76 ?_
                have e_31 : n_X2_scan_0_2 cS cV cF cE ln = ((((scI2 cS ln 80 (r_X2_scanOrder cS ln 0 0) 0 (n_X2_scanOrder_0_2 cS ln 0) (n_X2_scanOrder_0_6 cS ln 0 0) (n_X2_scanOrder_2 cS cV ln 0 0) (n_X2_scanOrder_3 cS cF ln 0 0) (n_X2_scanOrder_4 cS cE ln 0 0)).2).2).1) := rfl
                have e_32 : n_X2_scan_0_6 cS cV cF cE ln = (((((scI2 cS ln 80 (r_X2_scanOrder cS ln 0 0) 0 (n_X2_scanOrder_0_2 cS ln 0) (n_X2_scanOrder_0_6 cS ln 0 0) (n_X2_scanOrder_2 cS cV ln 0 0) (n_X2_scanOrder_3 cS cF ln 0 0) (n_X2_scanOrder_4 cS cE ln 0 0)).2).2).2).1) := rfl
                have e_33 : n_X2_scan_2 cS cV cF cE ln = ((((((scI2 cS ln 80 (r_X2_scanOrder cS ln 0 0) 0 (n_X2_scanOrder_0_2 cS ln 0) (n_X2_scanOrder_0_6 cS ln 0 0) (n_X2_scanOrder_2 cS cV ln 0 0) (n_X2_scanOrder_3 cS cF ln 0 0) (n_X2_scanOrder_4 cS cE ln 0 0)).2).2).2).2).1) := rfl
                have e_34 : n_X2_scan_3 cS cV cF cE ln = (((((((scI2 cS ln 80 (r_X2_scanOrder cS ln 0 0) 0 (n_X2_scanOrder_0_2 cS ln 0) (n_X2_scanOrder_0_6 cS ln 0 0) (n_X2_scanOrder_2 cS cV ln 0 0) (n_X2_scanOrder_3 cS cF ln 0 0) (n_X2_scanOrder_4 cS cE ln 0 0)).2).2).2).2).2).1) := rfl
                have e_35 : n_X2_scan_4 cS cV cF cE ln = (((((((scI2 cS ln 80 (r_X2_scanOrder cS ln 0 0) 0 (n_X2_scanOrder_0_2 cS ln 0) (n_X2_scanOrder_0_6 cS ln 0 0) (n_X2_scanOrder_2 cS cV ln 0 0) (n_X2_scanOrder_3 cS cF ln 0 0) (n_X2_scanOrder_4 cS cE ln 0 0)).2).2).2).2).2).2) := rfl
                have hPf : va_P D vwCl [(oP, .inr (2, [.ref pS, .int (nI ln), .int (nI (n_X2_scan_0_2 cS cV cF cE ln)), .ref pV, .ref pF, .ref pE, .int (nI (n_X2_scan_0_6 cS cV cF cE ln))])), (pS, .inl (K 1, 80, .inl cS)), (pV, .inl (K 0, 40, .inl (n_X2_scan_2 cS cV cF cE ln))), (pF, .inl (K 0, 40, .inl (n_X2_scan_3 cS cV cF cE ln))), (pE, .inl (K 0, 40, .inl (n_X2_scan_4 cS cV cF cE ln)))] H := (by rw [e_31, e_32, e_33, e_34, e_35]; exact hP)
                exact W.iret hx hb hr (fun t ht hW => ⟨⟨_, (), rfl, (by unfold r_X2_scan; rw [if_pos c_30]), by show va_P D vwCl _ t.heap; rw [ht]; exact hPf⟩, hS.F ht⟩) hS.2.2 dX2_scan_79
              · skip
                refine lv_bipush (v := (-6)) hx hb dX2_scan_70 (by decide) ?_
                refine lv_goto (tgt := 79) hx hb dX2_scan_72 (by decide) ?_
                have e_36 : n_X2_scan_0_2 cS cV cF cE ln = ((((scI2 cS ln 80 (r_X2_scanOrder cS ln 0 0) 0 (n_X2_scanOrder_0_2 cS ln 0) (n_X2_scanOrder_0_6 cS ln 0 0) (n_X2_scanOrder_2 cS cV ln 0 0) (n_X2_scanOrder_3 cS cF ln 0 0) (n_X2_scanOrder_4 cS cE ln 0 0)).2).2).1) := rfl
                have e_37 : n_X2_scan_0_6 cS cV cF cE ln = (((((scI2 cS ln 80 (r_X2_scanOrder cS ln 0 0) 0 (n_X2_scanOrder_0_2 cS ln 0) (n_X2_scanOrder_0_6 cS ln 0 0) (n_X2_scanOrder_2 cS cV ln 0 0) (n_X2_scanOrder_3 cS cF ln 0 0) (n_X2_scanOrder_4 cS cE ln 0 0)).2).2).2).1) := rfl
                have e_38 : n_X2_scan_2 cS cV cF cE ln = ((((((scI2 cS ln 80 (r_X2_scanOrder cS ln 0 0) 0 (n_X2_scanOrder_0_2 cS ln 0) (n_X2_scanOrder_0_6 cS ln 0 0) (n_X2_scanOrder_2 cS cV ln 0 0) (n_X2_scanOrder_3 cS cF ln 0 0) (n_X2_scanOrder_4 cS cE ln 0 0)).2).2).2).2).1) := rfl
                have e_39 : n_X2_scan_3 cS cV cF cE ln = (((((((scI2 cS ln 80 (r_X2_scanOrder cS ln 0 0) 0 (n_X2_scanOrder_0_2 cS ln 0) (n_X2_scanOrder_0_6 cS ln 0 0) (n_X2_scanOrder_2 cS cV ln 0 0) (n_X2_scanOrder_3 cS cF ln 0 0) (n_X2_scanOrder_4 cS cE ln 0 0)).2).2).2).2).2).1) := rfl
                have e_40 : n_X2_scan_4 cS cV cF cE ln = (((((((scI2 cS ln 80 (r_X2_scanOrder cS ln 0 0) 0 (n_X2_scanOrder_0_2 cS ln 0) (n_X2_scanOrder_0_6 cS ln 0 0) (n_X2_scanOrder_2 cS cV ln 0 0) (n_X2_scanOrder_3 cS cF ln 0 0) (n_X2_scanOrder_4 cS cE ln 0 0)).2).2).2).2).2).2) := rfl
                have hPf : va_P D vwCl [(oP, .inr (2, [.ref pS, .int (nI ln), .int (nI (n_X2_scan_0_2 cS cV cF cE ln)), .ref pV, .ref pF, .ref pE, .int (nI (n_X2_scan_0_6 cS cV cF cE ln))])), (pS, .inl (K 1, 80, .inl cS)), (pV, .inl (K 0, 40, .inl (n_X2_scan_2 cS cV cF cE ln))), (pF, .inl (K 0, 40, .inl (n_X2_scan_3 cS cV cF cE ln))), (pE, .inl (K 0, 40, .inl (n_X2_scan_4 cS cV cF cE ln)))] H := (by rw [e_36, e_37, e_38, e_39, e_40]; exact hP)
                exact W.iret hx hb hr (fun t ht hW => ⟨⟨_, (), rfl, (by unfold r_X2_scan; rw [if_neg c_30]), by show va_P D vwCl _ t.heap; rw [ht]; exact hPf⟩, hS.F ht⟩) hS.2.2 dX2_scan_79
            · skip
              have nc_29 : ¬ (ln ≤ p_) := fun h => c_29 ((nI_leI (a := ln) (b := p_) (by omega) (by omega)).mpr h)
              refine lv_aload_n hx hb dX2_scan_38 rfl (lv_at hl 2 rfl) ?_
              refine lv_bipush (v := 59) hx hb dX2_scan_39 (by decide) ?_
              have hPc := hP.sub (ws' := [(oP, .inr (2, [.ref pS, .int (nI ln), .int (nI p_), .ref pV, .ref pF, .ref pE, .int (nI o_)])), (pS, .inl (K 1, 80, .inl cS))]) [0, 1] rfl
              have hDc : va_D (fun _ => True) [(oP, .inr (2, [.ref pS, .int (nI ln), .int (nI p_), .ref pV, .ref pF, .ref pE, .int (nI o_)])), (pS, .inl (K 1, 80, .inl cS))] := (hD.sub (ws' := [(oP, .inr (2, [.ref pS, .int (nI ln), .int (nI p_), .ref pV, .ref pF, .ref pE, .int (nI o_)])), (pS, .inl (K 1, 80, .inl cS))]) [0, 1] (by decide +kernel) rfl).weaken (fun _ _ _ _ => trivial)
              refine kw_i (W1 := [(oP, .inr (2, [.ref pS, .int (nI ln), .int (nI (n_X2_scanSign_0_2 cS ln p_ 59)), .ref pV, .ref pF, .ref pE, .int (nI o_)])), (pS, .inl (K 1, 80, .inl cS)), (pV, .inl (K 0, 40, .inl vV)), (pF, .inl (K 0, 40, .inl vF)), (pE, .inl (K 0, 40, .inl vE))]) (w1 := [(oP, .inr (2, [.ref pS, .int (nI ln), .int (nI (n_X2_scanSign_0_2 cS ln p_ 59)), .ref pV, .ref pF, .ref pE, .int (nI o_)])), (pS, .inl (K 1, 80, .inl cS))]) (va_runV (As := [.int 59]) (rest := []) ⟨hx, hb, hml, hown, hts⟩ (c_X2_scanSign l D K oP pS pV pF pE cS ln p_ o_ 59 hln (by omega)) (cwV 1 hts gX2_scan_X2_scanSign rfl rfl rfl (by decide +kernel) ⟨Nat.le_of_ble_eq_true rfl, Nat.le_of_ble_eq_true rfl⟩) (pre_wr hbd hPc hDc (ci := 2) (q0 := 0) rfl rfl) rfl rfl hl.1 rfl (lv_room (Nat.le_of_ble_eq_true rfl)) dX2_scan_41 ⟨Nat.zero_le _, Nat.zero_le _⟩) hP hD hS [0, 1] [2, 3, 4] 5 rfl rfl rfl (Eq.trans (b := List.map some ([(pV, .inl (K 0, 40, .inl vV)), (pF, .inl (K 0, 40, .inl vF)), (pE, .inl (K 0, 40, .inl vE))])) rfl rfl) (by decide +kernel) (by decide +kernel) (by simp only [List.map_append, drW_fst, List.map_cons, List.map_nil]) (fun r_41 H locs hr_41 hP hD hS => ?_)
              subst hr_41
              have hb_42 := ns_le (cS := cS) (ln := ln) (po := p_) (xc := 59) (by decide) hln (by omega)
              refine lv_if_eq (tgt := 58) hx hb dX2_scan_44 (by decide) (fun c_43 => ?_) (fun c_43 => ?_)
              · skip
                refine lv_iconst (v := 0) hx hb dX2_scan_58 (by decide) ?_
                refine lv_istore_n (lv' := [(1, .int 0), (2, .int (nI q)), (0, .ref oP)]) hx hb dX2_scan_59 rfl hl (by decide) rfl (fun ls hl => ?_)
                refine lv_iinc (v := (nI (q + 1))) (lv' := [(2, .int (nI (q + 1))), (1, .int 0), (0, .ref oP)]) hx hb dX2_scan_60 hl (k := 1) rfl (nI_add q 1) (by decide) rfl (fun ls hl => ?_)
                refine lv_goto (tgt := 17) hx hb dX2_scan_63 (by decide) ?_
                exact ih 0 (q + 1) (n_X2_scanSign_0_2 cS ln p_ 59) o_ vV vF vE (by omega) (by omega) (by omega) (by omega) (by rw [← hinv, show 80 - q = (80 - (q + 1)) + 1 by omega, scI2_s, if_neg c_5, if_neg c_17, if_neg c_29, if_pos c_43]) _ _ _ hP hD hS (lv_sub hl [0, 1, 2] rfl)
              · skip
                refine lv_aload_n hx hb dX2_scan_47 rfl (lv_at hl 2 rfl) ?_
                have hPc := hP.sub (ws' := [(oP, .inr (2, [.ref pS, .int (nI ln), .int (nI (n_X2_scanSign_0_2 cS ln p_ 59)), .ref pV, .ref pF, .ref pE, .int (nI o_)])), (pS, .inl (K 1, 80, .inl cS)), (pV, .inl (K 0, 40, .inl vV)), (pF, .inl (K 0, 40, .inl vF)), (pE, .inl (K 0, 40, .inl vE))]) [0, 1, 2, 3, 4] rfl
                have hDc : va_D (fun _ => True) [(oP, .inr (2, [.ref pS, .int (nI ln), .int (nI (n_X2_scanSign_0_2 cS ln p_ 59)), .ref pV, .ref pF, .ref pE, .int (nI o_)])), (pS, .inl (K 1, 80, .inl cS)), (pV, .inl (K 0, 40, .inl vV)), (pF, .inl (K 0, 40, .inl vF)), (pE, .inl (K 0, 40, .inl vE))] := (hD.sub (ws' := [(oP, .inr (2, [.ref pS, .int (nI ln), .int (nI (n_X2_scanSign_0_2 cS ln p_ 59)), .ref pV, .ref pF, .ref pE, .int (nI o_)])), (pS, .inl (K 1, 80, .inl cS)), (pV, .inl (K 0, 40, .inl vV)), (pF, .inl (K 0, 40, .inl vF)), (pE, .inl (K 0, 40, .inl vE))]) [0, 1, 2, 3, 4] (by decide +kernel) rfl).weaken (fun _ _ _ _ => trivial)
                refine kw_i (W1 := [(oP, .inr (2, [.ref pS, .int (nI ln), .int (nI (n_X2_scanOrder_0_2 cS ln (n_X2_scanSign_0_2 cS ln p_ 59))), .ref pV, .ref pF, .ref pE, .int (nI (n_X2_scanOrder_0_6 cS ln (n_X2_scanSign_0_2 cS ln p_ 59) o_))])), (pS, .inl (K 1, 80, .inl cS)), (pV, .inl (K 0, 40, .inl (n_X2_scanOrder_2 cS vV ln (n_X2_scanSign_0_2 cS ln p_ 59) o_))), (pF, .inl (K 0, 40, .inl (n_X2_scanOrder_3 cS vF ln (n_X2_scanSign_0_2 cS ln p_ 59) o_))), (pE, .inl (K 0, 40, .inl (n_X2_scanOrder_4 cS vE ln (n_X2_scanSign_0_2 cS ln p_ 59) o_)))]) (w1 := [(oP, .inr (2, [.ref pS, .int (nI ln), .int (nI (n_X2_scanOrder_0_2 cS ln (n_X2_scanSign_0_2 cS ln p_ 59))), .ref pV, .ref pF, .ref pE, .int (nI (n_X2_scanOrder_0_6 cS ln (n_X2_scanSign_0_2 cS ln p_ 59) o_))])), (pS, .inl (K 1, 80, .inl cS)), (pV, .inl (K 0, 40, .inl (n_X2_scanOrder_2 cS vV ln (n_X2_scanSign_0_2 cS ln p_ 59) o_))), (pF, .inl (K 0, 40, .inl (n_X2_scanOrder_3 cS vF ln (n_X2_scanSign_0_2 cS ln p_ 59) o_))), (pE, .inl (K 0, 40, .inl (n_X2_scanOrder_4 cS vE ln (n_X2_scanSign_0_2 cS ln p_ 59) o_)))]) (va_runV (As := []) (rest := []) ⟨hx, hb, hml, hown, hts⟩ (c_X2_scanOrder l D K oP pS pV pF pE cS vV vF vE ln (n_X2_scanSign_0_2 cS ln p_ 59) o_ hln (by omega) (by omega)) (cwV 0 hts gX2_scan_X2_scanOrder rfl rfl rfl (by decide +kernel) ⟨Nat.le_of_ble_eq_true rfl, Nat.le_of_ble_eq_true rfl⟩) (pre_wr hbd hPc hDc (ci := 2) (q0 := 0) rfl rfl) rfl rfl hl.1 rfl (lv_room (Nat.le_of_ble_eq_true rfl)) dX2_scan_48 ⟨Nat.zero_le _, Nat.zero_le _⟩) hP hD hS [0, 1, 2, 3, 4] [] 5 rfl rfl rfl (Eq.trans (b := List.map some ([])) rfl rfl) (by decide +kernel) (by decide +kernel) (by simp only [List.map_append, drW_fst, List.map_cons, List.map_nil]) (fun r_44 H locs hr_44 hP hD hS => ?_)
                subst hr_44
                have hb_45 := so_po (cS := cS) (ln := ln) (po := (n_X2_scanSign_0_2 cS ln p_ 59)) hln (by omega)
                have hb_46 := so_od (cS := cS) (ln := ln) (po := (n_X2_scanSign_0_2 cS ln p_ 59)) (od := o_) (by omega)
                refine lv_if_eq (tgt := 58) hx hb dX2_scan_51 (by decide) (fun c_47 => ?_) (fun c_47 => ?_)
                · skip
                  refine lv_iconst (v := 0) hx hb dX2_scan_58 (by decide) ?_
                  refine lv_istore_n (lv' := [(1, .int 0), (2, .int (nI q)), (0, .ref oP)]) hx hb dX2_scan_59 rfl hl (by decide) rfl (fun ls hl => ?_)
                  refine lv_iinc (v := (nI (q + 1))) (lv' := [(2, .int (nI (q + 1))), (1, .int 0), (0, .ref oP)]) hx hb dX2_scan_60 hl (k := 1) rfl (nI_add q 1) (by decide) rfl (fun ls hl => ?_)
                  refine lv_goto (tgt := 17) hx hb dX2_scan_63 (by decide) ?_
                  exact ih 0 (q + 1) (n_X2_scanOrder_0_2 cS ln (n_X2_scanSign_0_2 cS ln p_ 59)) (n_X2_scanOrder_0_6 cS ln (n_X2_scanSign_0_2 cS ln p_ 59) o_) (n_X2_scanOrder_2 cS vV ln (n_X2_scanSign_0_2 cS ln p_ 59) o_) (n_X2_scanOrder_3 cS vF ln (n_X2_scanSign_0_2 cS ln p_ 59) o_) (n_X2_scanOrder_4 cS vE ln (n_X2_scanSign_0_2 cS ln p_ 59) o_) (by omega) (by omega) (by omega) (by omega) (by rw [← hinv, show 80 - q = (80 - (q + 1)) + 1 by omega, scI2_s, if_neg c_5, if_neg c_17, if_neg c_29, if_neg c_43, if_pos c_47]) _ _ _ hP hD hS (lv_sub hl [0, 1, 2] rfl)
                · skip
                  refine lv_iconst (v := 1) hx hb dX2_scan_54 (by decide) ?_
                  refine lv_goto (tgt := 59) hx hb dX2_scan_55 (by decide) ?_
                  refine lv_istore_n (lv' := [(1, .int 1), (2, .int (nI q)), (0, .ref oP)]) hx hb dX2_scan_59 rfl hl (by decide) rfl (fun ls hl => ?_)
                  refine lv_iinc (v := (nI (q + 1))) (lv' := [(2, .int (nI (q + 1))), (1, .int 1), (0, .ref oP)]) hx hb dX2_scan_60 hl (k := 1) rfl (nI_add q 1) (by decide) rfl (fun ls hl => ?_)
                  refine lv_goto (tgt := 17) hx hb dX2_scan_63 (by decide) ?_
                  exact ih 1 (q + 1) (n_X2_scanOrder_0_2 cS ln (n_X2_scanSign_0_2 cS ln p_ 59)) (n_X2_scanOrder_0_6 cS ln (n_X2_scanSign_0_2 cS ln p_ 59) o_) (n_X2_scanOrder_2 cS vV ln (n_X2_scanSign_0_2 cS ln p_ 59) o_) (n_X2_scanOrder_3 cS vF ln (n_X2_scanSign_0_2 cS ln p_ 59) o_) (n_X2_scanOrder_4 cS vE ln (n_X2_scanSign_0_2 cS ln p_ 59) o_) (by omega) (by omega) (by omega) (by omega) (by rw [← hinv, show 80 - q = (80 - (q + 1)) + 1 by omega, scI2_s, if_neg c_5, if_neg c_17, if_neg c_29, if_neg c_43, if_neg c_47]) _ _ _ hP hD hS (lv_sub hl [0, 1, 2] rfl)
    exact L_4 _ (r_X2_scanOrder cS ln 0 0) 0 (n_X2_scanOrder_0_2 cS ln 0) (n_X2_scanOrder_0_6 cS ln 0 0) (n_X2_scanOrder_2 cS cV ln 0 0) (n_X2_scanOrder_3 cS cF ln 0 0) (n_X2_scanOrder_4 cS cE ln 0 0) (Nat.lt_succ_self _) (by omega) (by omega) (by omega) rfl H locs ls hP hD hS (lv_sub hl [0, 1, 2] rfl)
  exact K0 s.heap [] ls hP hD hS hl

def lnI  : Nat → Int64 → Nat → Nat → Nat
  | 0, rs, hh, q => hh
  | fu_ + 1, rs, hh, q => (if 8 ≤ (nI q) then hh else (if (lg_cmp rs 0) = 0 then hh else (if (lg_cmp (rs &&& 255) 33) < 0 then 0 else (if (lg_cmp (rs &&& 255) 126) ≤ 0 then (lnI  fu_ ((rs.toUInt64 >>> ((8 : Int32).toInt64.toUInt64 &&& Int64.toUInt64 63)).toInt64) (hh + 1) (q + 1)) else 0))))
theorem lnI_s  (fu_ : Nat) (rs : Int64) (hh : Nat) (q : Nat) : lnI  (fu_ + 1) rs hh q = (if 8 ≤ (nI q) then hh else (if (lg_cmp rs 0) = 0 then hh else (if (lg_cmp (rs &&& 255) 33) < 0 then 0 else (if (lg_cmp (rs &&& 255) 126) ≤ 0 then (lnI  fu_ ((rs.toUInt64 >>> ((8 : Int32).toInt64.toUInt64 &&& Int64.toUInt64 63)).toInt64) (hh + 1) (q + 1)) else 0)))) := rfl
set_option maxHeartbeats 4000000 in
set_option maxRecDepth 100000 in
theorem c_X2_lengthOf (l : Launch) (D : va_G) (K : Nat → ClassId) (xl : Int64)  : Met l yX2_lengthOf wsX2_lengthOf ({ frames := 0, cells := 0, slots := 0, locals := 0 }) (va_Pc [.long xl] (fun _ => True)) (vp_Si (fun r => r = (nI (lnI 8 xl 0 0)))) 0 0 (fun _ => False) := by
  refine Met.ofW (cc := cX2_lengthOf) (maxL := 8) (ret := (some .int)) (by decide) rfl ?_
  intro p e s m args below meth c s₁ B hml hv
  obtain ⟨rfl, -⟩ := hv
  have hx := B.exec
  have hb := B.bytes
  have hr := B.returns
  have hts := atoms_spec (ws := wsX2_lengthOf) B.pre
  have hown : s.vm.findClass RX2 = some m.cls := findClass_of_methodNamed B.named
  have hlocks := B.notSynchronized
  have hl := lv_entry ([.long xl]) (n := 8) (Nat.le_of_ble_eq_true rfl)
  rw [lg_entry_eq]
  generalize (lg_sl ([.long xl]) ++ List.replicate (8 - (lg_sl ([.long xl])).length) Slot.unset).toArray = ls at hl ⊢
  have hl : lv_has ls 8 [(0, .long xl)] := hl
  refine lv_lload_n hx hb dX2_lengthOf_0 rfl (lv_at hl 0 rfl) ?_
  refine lv_lstore_n (lv' := [(2, .long xl), (0, .long xl)]) hx hb dX2_lengthOf_1 rfl hl (by decide) rfl (fun ls hl => ?_)
  refine lv_iconst (v := 0) hx hb dX2_lengthOf_2 (by decide) ?_
  refine lv_istore (lv' := [(4, .int 0), (2, .long xl), (0, .long xl)]) hx hb dX2_lengthOf_3  hl (by decide) rfl (fun ls hl => ?_)
  refine lv_iconst (v := 0) hx hb dX2_lengthOf_5 (by decide) ?_
  refine lv_istore (lv' := [(5, .int 0), (4, .int 0), (2, .long xl), (0, .long xl)]) hx hb dX2_lengthOf_6  hl (by decide) rfl (fun ls hl => ?_)
  have L_1 : ∀ (nf : Nat) (rs : Int64) (hh : Nat) (q : Nat), 8 - q < nf → q ≤ 8 → hh ≤ q → lnI  (8 - q) rs hh q = (lnI  8 xl 0 0) → ∀ (ls : Array Slot), lv_has ls 8 [(5, .int (nI q)), (4, .int (nI hh)), (2, .long rs), (0, .long xl)] → W p l e (headSpec wsX2_lengthOf ({ frames := 0, cells := 0, slots := 0, locals := 0 })).room s m ([.long xl] : List Value).toArray below meth c s.heap [] 0 0 (MQ below (vp_Si (fun r => r = (nI (lnI 8 xl 0 0)))) ([.long xl] : List Value).toArray s 0 0 (fun _ => False)) (F0 m 8 ls []) := by
    intro nf
    induction nf with
    | zero =>
      intro rs hh q hm
      exact absurd hm (Nat.not_lt_zero _)
    | succ nf ih =>
      intro rs hh q hm hq hh8 hinv ls hl
      refine lv_iload hx hb dX2_lengthOf_8 (lv_at hl 0 rfl) ?_
      refine lv_bipush (v := 8) hx hb dX2_lengthOf_10 (by decide) ?_
      refine lv_icmp_ge (tgt := 62) hx hb dX2_lengthOf_12 (by decide) (fun c_2 => ?_) (fun c_2 => ?_)
      · skip
        have nc_2 := (nI_leI (a := 8) (b := q) (by omega) (by omega)).mp c_2
        refine lv_iload hx hb dX2_lengthOf_62 (lv_at hl 1 rfl) ?_
        have e9 : hh = (lnI  8 xl 0 0) := by
          rw [← hinv]
          rcases (show 8 - q = 0 ∨ 8 - q = (8 - q - 1) + 1 by omega) with h9 | h9
          · first | (exfalso; omega) | (rw [h9]; rfl)
          · rw [h9, lnI_s, if_pos c_2]
        exact W.iret hx hb hr (fun t ht hW => ⟨_, rfl, (by rw [← e9] <;> rfl), ht⟩) (fun q hq => absurd hq List.not_mem_nil) dX2_lengthOf_64
      · skip
        have nc_2 : ¬ (8 ≤ q) := fun h => c_2 ((nI_leI (a := 8) (b := q) (by omega) (by omega)).mpr h)
        refine lv_lload_n hx hb dX2_lengthOf_15 rfl (lv_at hl 2 rfl) ?_
        refine lv_lconst (v := 0) hx hb dX2_lengthOf_16 (by decide) ?_
        refine W.lcmp hx hb dX2_lengthOf_17 ?_
        refine lv_if_eq (tgt := 62) hx hb dX2_lengthOf_18 (by decide) (fun c_3 => ?_) (fun c_3 => ?_)
        · skip
          refine lv_iload hx hb dX2_lengthOf_62 (lv_at hl 1 rfl) ?_
          have e9 : hh = (lnI  8 xl 0 0) := by
            rw [← hinv]
            rcases (show 8 - q = 0 ∨ 8 - q = (8 - q - 1) + 1 by omega) with h9 | h9
            · first | (exfalso; omega) | (rw [h9]; rfl)
            · rw [h9, lnI_s, if_neg c_2, if_pos c_3]
          exact W.iret hx hb hr (fun t ht hW => ⟨_, rfl, (by rw [← e9] <;> rfl), ht⟩) (fun q hq => absurd hq List.not_mem_nil) dX2_lengthOf_64
        · skip
          refine lv_lload_n hx hb dX2_lengthOf_21 rfl (lv_at hl 2 rfl) ?_
          refine lv_ldc2 (v := 255) hx hb hown (hts _ (List.mem_of_getElem? (i := 1) rfl)) dX2_lengthOf_22 ?_
          refine lv_land hx hb dX2_lengthOf_25 ?_
          refine lv_lstore (lv' := [(6, .long (rs &&& 255)), (5, .int (nI q)), (4, .int (nI hh)), (2, .long rs), (0, .long xl)]) hx hb dX2_lengthOf_26  hl (by decide) rfl (fun ls hl => ?_)
          refine lv_lload hx hb dX2_lengthOf_28 (lv_at hl 0 rfl) ?_
          refine lv_ldc2 (v := 33) hx hb hown (hts _ (List.mem_of_getElem? (i := 2) rfl)) dX2_lengthOf_30 ?_
          refine W.lcmp hx hb dX2_lengthOf_33 ?_
          refine lv_if_lt (tgt := 46) hx hb dX2_lengthOf_34 (by decide) (fun c_4 => ?_) (fun c_4 => ?_)
          · skip
            refine lv_iconst (v := 0) hx hb dX2_lengthOf_46 (by decide) ?_
            have e9 : 0 = (lnI  8 xl 0 0) := by
              rw [← hinv]
              rcases (show 8 - q = 0 ∨ 8 - q = (8 - q - 1) + 1 by omega) with h9 | h9
              · first | (exfalso; omega) | (rw [h9]; rfl)
              · rw [h9, lnI_s, if_neg c_2, if_neg c_3, if_pos c_4]
            exact W.iret hx hb hr (fun t ht hW => ⟨_, rfl, (by rw [← e9] <;> rfl), ht⟩) (fun q hq => absurd hq List.not_mem_nil) dX2_lengthOf_47
          · skip
            refine lv_lload hx hb dX2_lengthOf_37 (lv_at hl 0 rfl) ?_
            refine lv_ldc2 (v := 126) hx hb hown (hts _ (List.mem_of_getElem? (i := 3) rfl)) dX2_lengthOf_39 ?_
            refine W.lcmp hx hb dX2_lengthOf_42 ?_
            refine lv_if_le (tgt := 48) hx hb dX2_lengthOf_43 (by decide) (fun c_5 => ?_) (fun c_5 => ?_)
            · skip
              refine lv_iinc (v := (nI (hh + 1))) (lv' := [(4, .int (nI (hh + 1))), (6, .long (rs &&& 255)), (5, .int (nI q)), (2, .long rs), (0, .long xl)]) hx hb dX2_lengthOf_48 hl (k := 2) rfl (nI_add hh 1) (by decide) rfl (fun ls hl => ?_)
              refine lv_lload_n hx hb dX2_lengthOf_51 rfl (lv_at hl 3 rfl) ?_
              refine lv_bipush (v := 8) hx hb dX2_lengthOf_52 (by decide) ?_
              refine lv_lushr (v := (rs.toUInt64 >>> ((8 : Int32).toInt64.toUInt64 &&& Int64.toUInt64 63)).toInt64) hx hb dX2_lengthOf_54 rfl ?_
              refine lv_lstore_n (lv' := [(2, .long ((rs.toUInt64 >>> ((8 : Int32).toInt64.toUInt64 &&& Int64.toUInt64 63)).toInt64)), (4, .int (nI (hh + 1))), (6, .long (rs &&& 255)), (5, .int (nI q)), (0, .long xl)]) hx hb dX2_lengthOf_55 rfl hl (by decide) rfl (fun ls hl => ?_)
              refine lv_iinc (v := (nI (q + 1))) (lv' := [(5, .int (nI (q + 1))), (2, .long ((rs.toUInt64 >>> ((8 : Int32).toInt64.toUInt64 &&& Int64.toUInt64 63)).toInt64)), (4, .int (nI (hh + 1))), (6, .long (rs &&& 255)), (0, .long xl)]) hx hb dX2_lengthOf_56 hl (k := 3) rfl (nI_add q 1) (by decide) rfl (fun ls hl => ?_)
              refine lv_goto (tgt := 8) hx hb dX2_lengthOf_59 (by decide) ?_
              exact ih ((rs.toUInt64 >>> ((8 : Int32).toInt64.toUInt64 &&& Int64.toUInt64 63)).toInt64) (hh + 1) (q + 1) (by omega) (by omega) (by omega) (by rw [← hinv, show 8 - q = (8 - (q + 1)) + 1 by omega, lnI_s, if_neg c_2, if_neg c_3, if_neg c_4, if_pos c_5]) _ (lv_sub hl [0, 2, 1, 4] rfl)
            · skip
              refine lv_iconst (v := 0) hx hb dX2_lengthOf_46 (by decide) ?_
              have e9 : 0 = (lnI  8 xl 0 0) := by
                rw [← hinv]
                rcases (show 8 - q = 0 ∨ 8 - q = (8 - q - 1) + 1 by omega) with h9 | h9
                · first | (exfalso; omega) | (rw [h9]; rfl)
                · rw [h9, lnI_s, if_neg c_2, if_neg c_3, if_neg c_4, if_neg c_5]
              exact W.iret hx hb hr (fun t ht hW => ⟨_, rfl, (by rw [← e9] <;> rfl), ht⟩) (fun q hq => absurd hq List.not_mem_nil) dX2_lengthOf_47
  exact L_1 _ xl 0 0 (Nat.lt_succ_self _) (by omega) (by omega) rfl ls (lv_sub hl [0, 1, 2, 3] rfl)
def lnF (x : Int64) : Nat := lnI 8 x 0 0
theorem lnI_le : ∀ (f : Nat) (rs : Int64) (hh q : Nat), hh ≤ q → lnI f rs hh q ≤ q + f
  | 0, rs, hh, q, h => by show hh ≤ q + 0; omega
  | f + 1, rs, hh, q, h => by
    rw [lnI_s]
    have := lnI_le f ((rs.toUInt64 >>> ((8 : Int32).toInt64.toUInt64 &&& Int64.toUInt64 63)).toInt64) (hh + 1) (q + 1) (by omega)
    repeat' split
    all_goals first | omega
theorem lnF_le (x : Int64) : lnF x ≤ 8 := by have := lnI_le 8 x 0 0 (Nat.le_refl 0); unfold lnF; omega
theorem c_X2_lengthOf2 (l : Launch) (D : va_G) (K : Nat → ClassId) (xl : Int64)  : Met l yX2_lengthOf wsX2_lengthOf ({ frames := 0, cells := 0, slots := 0, locals := 0 }) (va_Pc [.long xl] (fun _ => True)) (vp_Si (fun r => r = (nI (lnF xl)))) 0 0 (fun _ => False) := c_X2_lengthOf l D K xl
def apI (xl : Int64) : Nat → Int32 → Nat → (Nat → Int32) → (Int32 × Nat × (Nat → Int32))
  | 0, iv, L_, vS => (iv, L_, vS)
  | fu_ + 1, iv, L_, vS => (if iv < 0 then (iv, L_, vS) else (if 80 ≤ (nI L_) then (iv, L_, vS) else (apI xl fu_ (iv + (-1)) (L_ + 1) (upd vS L_ (vp_nar .char (((((xl.toUInt64 >>> ((8 * iv).toInt64.toUInt64 &&& Int64.toUInt64 63)).toInt64 &&& 255).toInt32).toUInt32 % 65536).toInt32))))))
theorem apI_s (xl : Int64) (fu_ : Nat) (iv : Int32) (L_ : Nat) (vS : Nat → Int32) : apI xl (fu_ + 1) iv L_ vS = (if iv < 0 then (iv, L_, vS) else (if 80 ≤ (nI L_) then (iv, L_, vS) else (apI xl fu_ (iv + (-1)) (L_ + 1) (upd vS L_ (vp_nar .char (((((xl.toUInt64 >>> ((8 * iv).toInt64.toUInt64 &&& Int64.toUInt64 63)).toInt64 &&& 255).toInt32).toUInt32 % 65536).toInt32)))))) := rfl
def r_X2_append (cS : Nat → Int32) (ln : Nat) (xl : Int64) : Int32 := (if (nI (lnF xl)) = 0 then (-2) else (if (nI (ln + (lnF xl))) ≤ 80 then (nI (((apI xl (80 - ln) ((nI (lnF xl)) - 1) ln cS).2).1)) else (-4)))
def n_X2_append_0_1 (cS : Nat → Int32) (ln : Nat) (xl : Int64) : Nat := (if (nI (lnF xl)) = 0 then ln else (if (nI (ln + (lnF xl))) ≤ 80 then (((apI xl (80 - ln) ((nI (lnF xl)) - 1) ln cS).2).1) else ln))
def n_X2_append_1 (cS : Nat → Int32) (ln : Nat) (xl : Int64) : Nat → Int32 := (if (nI (lnF xl)) = 0 then cS else (if (nI (ln + (lnF xl))) ≤ 80 then (((apI xl (80 - ln) ((nI (lnF xl)) - 1) ln cS).2).2) else cS))
set_option maxHeartbeats 4000000 in
set_option maxRecDepth 100000 in
theorem c_X2_append (l : Launch) (D : va_G) (K : Nat → ClassId) (oP : Nat) (pS : Nat) (pV : Nat) (pF : Nat) (pE : Nat) (cS : Nat → Int32) (ln : Nat) (po : Nat) (od : Nat) (xl : Int64) (hln : ln ≤ 80) : Met l yX2_append wsX2_append ({ frames := 1, cells := 0, slots := 0, locals := 27 }) (va_Pc [.ref oP, .long xl] (fun U => Bd D K U ∧ va_P D vwCl [(oP, .inr (2, [.ref pS, .int (nI ln), .int (nI po), .ref pV, .ref pF, .ref pE, .int (nI od)])), (pS, .inl (K 1, 80, .inl cS))] U.heap ∧ va_D (fun _ => True) [(oP, .inr (2, [.ref pS, .int (nI ln), .int (nI po), .ref pV, .ref pF, .ref pE, .int (nI od)])), (pS, .inl (K 1, 80, .inl cS))])) (va_Qi (fun r (_ : Unit) => r = (r_X2_append cS ln xl)) (fun _ t => va_P D vwCl [(oP, .inr (2, [.ref pS, .int (nI (n_X2_append_0_1 cS ln xl)), .int (nI po), .ref pV, .ref pF, .ref pE, .int (nI od)])), (pS, .inl (K 1, 80, .inl (n_X2_append_1 cS ln xl)))] t.heap) (inW [(oP, .inr (2, [.ref pS, .int (nI ln), .int (nI po), .ref pV, .ref pF, .ref pE, .int (nI od)])), (pS, .inl (K 1, 80, .inl cS))])) 0 0 (inW [(oP, .inr (2, [.ref pS, .int (nI ln), .int (nI po), .ref pV, .ref pF, .ref pE, .int (nI od)])), (pS, .inl (K 1, 80, .inl cS))]) := by
  refine Met.ofW (cc := cX2_append) (maxL := 5) (ret := (some .int)) (by decide) rfl ?_
  intro p e s m args below meth c s₁ B hml hv
  obtain ⟨rfl, hbd, hP, hD0⟩ := hv
  have hx := B.exec
  have hb := B.bytes
  have hr := B.returns
  have hts := atoms_spec (ws := wsX2_append) B.pre
  have hown : s.vm.findClass RX2 = some m.cls := findClass_of_methodNamed B.named
  have hlocks := B.notSynchronized
  have hK := hbd.2
  have hP : va_P D vwCl [(oP, .inr (2, [.ref pS, .int (nI ln), .int (nI po), .ref pV, .ref pF, .ref pE, .int (nI od)])), (pS, .inl (K 1, 80, .inl cS))] s.heap := hP
  have hin2 : ∀ w ∈ wsX20, w ∈ wsX2_append := by decide +kernel
  have hD := hD0.own
  generalize hAe : inW [(oP, .inr (2, [.ref pS, .int (nI ln), .int (nI po), .ref pV, .ref pF, .ref pE, .int (nI od)])), (pS, .inl (K 1, 80, .inl cS))] = A at hD ⊢
  have hS : va_S A s.heap s.heap [] := va_S.rf
  have hl := lv_entry ([.ref oP, .long xl]) (n := 5) (Nat.le_of_ble_eq_true rfl)
  rw [lg_entry_eq]
  generalize (lg_sl ([.ref oP, .long xl]) ++ List.replicate (5 - (lg_sl ([.ref oP, .long xl])).length) Slot.unset).toArray = ls at hl ⊢
  have hl : lv_has ls 5 [(0, .ref oP), (1, .long xl)] := hl
  have K0 : ∀ (H : Heap) (locs : List Loc) (ls : Array Slot), va_P D vwCl [(oP, .inr (2, [.ref pS, .int (nI ln), .int (nI po), .ref pV, .ref pF, .ref pE, .int (nI od)])), (pS, .inl (K 1, 80, .inl cS))] H → va_D A [(oP, .inr (2, [.ref pS, .int (nI ln), .int (nI po), .ref pV, .ref pF, .ref pE, .int (nI od)])), (pS, .inl (K 1, 80, .inl cS))] → va_S A s.heap H locs → lv_has ls 5 [(0, .ref oP), (1, .long xl)] → W p l e (headSpec wsX2_append ({ frames := 1, cells := 0, slots := 0, locals := 27 })).room s m ([.ref oP, .long xl] : List Value).toArray below meth c H locs 0 0 (MQ below (va_Qi (fun r (_ : Unit) => r = (r_X2_append cS ln xl)) (fun _ t => va_P D vwCl [(oP, .inr (2, [.ref pS, .int (nI (n_X2_append_0_1 cS ln xl)), .int (nI po), .ref pV, .ref pF, .ref pE, .int (nI od)])), (pS, .inl (K 1, 80, .inl (n_X2_append_1 cS ln xl)))] t.heap) A) ([.ref oP, .long xl] : List Value).toArray s 0 0 A) (F0 m 0 ls []) := by
    intro H locs ls hP hD hS hl
    refine lv_lload_n hx hb dX2_append_0 rfl (lv_at hl 1 rfl) ?_
    refine vp_callSi (va_Run.run (va_runS (As := [.long xl]) (rest := []) ⟨hx, hb, hml, hown, hts⟩ (c_X2_lengthOf2 l D K xl ) (va_cwS 1 hts gX2_append_X2_lengthOf rfl rfl rfl (by decide +kernel) ⟨Nat.le_of_ble_eq_true rfl, Nat.le_of_ble_eq_true rfl⟩) pre_s0 rfl rfl hl.1 rfl (lv_room (Nat.le_of_ble_eq_true rfl)) dX2_append_1 ⟨Nat.zero_le _, Nat.zero_le _⟩)) (fun r_1 hr_1 => ?_)
    subst hr_1
    have hl8 := lnF_le xl
    refine lv_istore_n (lv' := [(3, .int (nI (lnF xl))), (0, .ref oP), (1, .long xl)]) hx hb dX2_append_4 rfl hl (by decide) rfl (fun ls hl => ?_)
    refine lv_iload_n hx hb dX2_append_5 rfl (lv_at hl 0 rfl) ?_
    refine lv_if_ne (tgt := 12) hx hb dX2_append_6 (by decide) (fun c_2 => ?_) (fun c_2 => ?_)
    · skip
      have nc_2 : ¬ ((lnF xl) = 0) := fun h => c_2 ((nI_eq (a := (lnF xl)) (b := 0) (by omega) (by omega)).mpr h)
      refine lv_aload_n hx hb dX2_append_12 rfl (lv_at hl 1 rfl) ?_
      refine va_get (D := D) (ci := 2) (v := .int (nI ln)) (C := RX2) (T := TX2) (N := 7) hx hb hts hin2 hown hK hP 0 rfl rfl 1 (by decide) (hts _ (List.mem_of_getElem? (i := 1) rfl)) (fun _ h9 => h9) rfl dX2_append_13 ?_
      refine lv_iload_n hx hb dX2_append_16 rfl (lv_at hl 0 rfl) ?_
      refine lv_iadd hx hb dX2_append_17 ?_
      refine st1 (nI_add ln (lnF xl)) ?_
      refine lv_bipush (v := 80) hx hb dX2_append_18 (by decide) ?_
      refine lv_icmp_le (tgt := 26) hx hb dX2_append_20 (by decide) (fun c_3 => ?_) (fun c_3 => ?_)
      · skip
        have nc_3 := (nI_leI (a := (ln + (lnF xl))) (b := 80) (by omega) (by omega)).mp c_3
        refine lv_iload_n hx hb dX2_append_26 rfl (lv_at hl 0 rfl) ?_
        refine lv_iconst (v := 1) hx hb dX2_append_27 (by decide) ?_
        refine lv_isub hx hb dX2_append_28 ?_
        refine lv_istore (lv' := [(4, .int ((nI (lnF xl)) - 1)), (3, .int (nI (lnF xl))), (0, .ref oP), (1, .long xl)]) hx hb dX2_append_29  hl (by decide) rfl (fun ls hl => ?_)
        have L_4 : ∀ (nf : Nat) (iv : Int32) (L_ : Nat) (vS : Nat → Int32), 80 - L_ < nf → L_ ≤ 80 → apI xl (80 - L_) iv L_ vS = (apI xl (80 - ln) ((nI (lnF xl)) - 1) ln cS) → ∀ (H : Heap) (locs : List Loc) (ls : Array Slot), va_P D vwCl [(oP, .inr (2, [.ref pS, .int (nI L_), .int (nI po), .ref pV, .ref pF, .ref pE, .int (nI od)])), (pS, .inl (K 1, 80, .inl vS))] H → va_D A [(oP, .inr (2, [.ref pS, .int (nI L_), .int (nI po), .ref pV, .ref pF, .ref pE, .int (nI od)])), (pS, .inl (K 1, 80, .inl vS))] → va_S A s.heap H locs → lv_has ls 5 [(4, .int iv), (3, .int (nI (lnF xl))), (0, .ref oP), (1, .long xl)] → W p l e (headSpec wsX2_append ({ frames := 1, cells := 0, slots := 0, locals := 27 })).room s m ([.ref oP, .long xl] : List Value).toArray below meth c H locs 0 0 (MQ below (va_Qi (fun r (_ : Unit) => r = (r_X2_append cS ln xl)) (fun _ t => va_P D vwCl [(oP, .inr (2, [.ref pS, .int (nI (n_X2_append_0_1 cS ln xl)), .int (nI po), .ref pV, .ref pF, .ref pE, .int (nI od)])), (pS, .inl (K 1, 80, .inl (n_X2_append_1 cS ln xl)))] t.heap) A) ([.ref oP, .long xl] : List Value).toArray s 0 0 A) (F0 m 31 ls []) := by
          intro nf
          induction nf with
          | zero =>
            intro iv L_ vS hm
            exact absurd hm (Nat.not_lt_zero _)
          | succ nf ih =>
            intro iv L_ vS hm hL_ hinv H locs ls hP hD hS hl
            refine lv_iload hx hb dX2_append_31 (lv_at hl 0 rfl) ?_
            refine lv_if_lt (tgt := 83) hx hb dX2_append_33 (by decide) (fun c_5 => ?_) (fun c_5 => ?_)
            · skip
              have e9 : (iv, L_, vS) = (apI xl (80 - ln) ((nI (lnF xl)) - 1) ln cS) := by
                rw [← hinv]
                rcases (show 80 - L_ = 0 ∨ 80 - L_ = (80 - L_ - 1) + 1 by omega) with h9 | h9
                · first | (exfalso; omega) | (rw [h9]; rfl)
                · rw [h9, apI_s, if_pos c_5]
              have f9_iv : iv = ((apI xl (80 - ln) ((nI (lnF xl)) - 1) ln cS).1) := by rw [← e9]
              have f9_L_ : L_ = (((apI xl (80 - ln) ((nI (lnF xl)) - 1) ln cS).2).1) := by rw [← e9]
              have f9_vS : vS = (((apI xl (80 - ln) ((nI (lnF xl)) - 1) ln cS).2).2) := by rw [← e9]
              subst f9_iv
              subst f9_L_
              subst f9_vS
              refine lv_aload_n hx hb dX2_append_83 rfl (lv_at hl 2 rfl) ?_
              refine va_get (D := D) (ci := 2) (v := .int (nI (((apI xl (80 - ln) ((nI (lnF xl)) - 1) ln cS).2).1))) (C := RX2) (T := TX2) (N := 7) hx hb hts hin2 hown hK hP 0 rfl rfl 1 (by decide) (hts _ (List.mem_of_getElem? (i := 1) rfl)) (fun _ h9 => h9) rfl dX2_append_84 ?_
              have e_6 : n_X2_append_0_1 cS ln xl = (((apI xl (80 - ln) ((nI (lnF xl)) - 1) ln cS).2).1) := by unfold n_X2_append_0_1; rw [if_neg c_2, if_pos c_3]
              have e_7 : n_X2_append_1 cS ln xl = (((apI xl (80 - ln) ((nI (lnF xl)) - 1) ln cS).2).2) := by unfold n_X2_append_1; rw [if_neg c_2, if_pos c_3]
              have hPf : va_P D vwCl [(oP, .inr (2, [.ref pS, .int (nI (n_X2_append_0_1 cS ln xl)), .int (nI po), .ref pV, .ref pF, .ref pE, .int (nI od)])), (pS, .inl (K 1, 80, .inl (n_X2_append_1 cS ln xl)))] H := (by rw [e_6, e_7]; exact hP)
              exact W.iret hx hb hr (fun t ht hW => ⟨⟨_, (), rfl, (by unfold r_X2_append; rw [if_neg c_2, if_pos c_3]), by show va_P D vwCl _ t.heap; rw [ht]; exact hPf⟩, hS.F ht⟩) hS.2.2 dX2_append_87
            · skip
              refine lv_aload_n hx hb dX2_append_36 rfl (lv_at hl 2 rfl) ?_
              refine va_get (D := D) (ci := 2) (v := .int (nI L_)) (C := RX2) (T := TX2) (N := 7) hx hb hts hin2 hown hK hP 0 rfl rfl 1 (by decide) (hts _ (List.mem_of_getElem? (i := 1) rfl)) (fun _ h9 => h9) rfl dX2_append_37 ?_
              refine lv_bipush (v := 80) hx hb dX2_append_40 (by decide) ?_
              refine lv_icmp_ge (tgt := 83) hx hb dX2_append_42 (by decide) (fun c_8 => ?_) (fun c_8 => ?_)
              · skip
                have nc_8 := (nI_leI (a := 80) (b := L_) (by omega) (by omega)).mp c_8
                have e9 : (iv, L_, vS) = (apI xl (80 - ln) ((nI (lnF xl)) - 1) ln cS) := by
                  rw [← hinv]
                  rcases (show 80 - L_ = 0 ∨ 80 - L_ = (80 - L_ - 1) + 1 by omega) with h9 | h9
                  · first | (exfalso; omega) | (rw [h9]; rfl)
                  · rw [h9, apI_s, if_neg c_5, if_pos c_8]
                have f9_iv : iv = ((apI xl (80 - ln) ((nI (lnF xl)) - 1) ln cS).1) := by rw [← e9]
                have f9_L_ : L_ = (((apI xl (80 - ln) ((nI (lnF xl)) - 1) ln cS).2).1) := by rw [← e9]
                have f9_vS : vS = (((apI xl (80 - ln) ((nI (lnF xl)) - 1) ln cS).2).2) := by rw [← e9]
                subst f9_iv
                subst f9_L_
                subst f9_vS
                refine lv_aload_n hx hb dX2_append_83 rfl (lv_at hl 2 rfl) ?_
                refine va_get (D := D) (ci := 2) (v := .int (nI (((apI xl (80 - ln) ((nI (lnF xl)) - 1) ln cS).2).1))) (C := RX2) (T := TX2) (N := 7) hx hb hts hin2 hown hK hP 0 rfl rfl 1 (by decide) (hts _ (List.mem_of_getElem? (i := 1) rfl)) (fun _ h9 => h9) rfl dX2_append_84 ?_
                have e_9 : n_X2_append_0_1 cS ln xl = (((apI xl (80 - ln) ((nI (lnF xl)) - 1) ln cS).2).1) := by unfold n_X2_append_0_1; rw [if_neg c_2, if_pos c_3]
                have e_10 : n_X2_append_1 cS ln xl = (((apI xl (80 - ln) ((nI (lnF xl)) - 1) ln cS).2).2) := by unfold n_X2_append_1; rw [if_neg c_2, if_pos c_3]
                have hPf : va_P D vwCl [(oP, .inr (2, [.ref pS, .int (nI (n_X2_append_0_1 cS ln xl)), .int (nI po), .ref pV, .ref pF, .ref pE, .int (nI od)])), (pS, .inl (K 1, 80, .inl (n_X2_append_1 cS ln xl)))] H := (by rw [e_9, e_10]; exact hP)
                exact W.iret hx hb hr (fun t ht hW => ⟨⟨_, (), rfl, (by unfold r_X2_append; rw [if_neg c_2, if_pos c_3]), by show va_P D vwCl _ t.heap; rw [ht]; exact hPf⟩, hS.F ht⟩) hS.2.2 dX2_append_87
              · skip
                have nc_8 : ¬ (80 ≤ L_) := fun h => c_8 ((nI_leI (a := 80) (b := L_) (by omega) (by omega)).mpr h)
                refine lv_aload_n hx hb dX2_append_45 rfl (lv_at hl 2 rfl) ?_
                refine va_get (D := D) (ci := 2) (v := .ref pS) (C := RX2) (T := TX2) (N := 7) hx hb hts hin2 hown hK hP 0 rfl rfl 0 (by decide) (hts _ (List.mem_of_getElem? (i := 2) rfl)) (fun _ h9 => h9) rfl dX2_append_46 ?_
                refine lv_aload_n hx hb dX2_append_49 rfl (lv_at hl 2 rfl) ?_
                refine va_get (D := D) (ci := 2) (v := .int (nI L_)) (C := RX2) (T := TX2) (N := 7) hx hb hts hin2 hown hK hP 0 rfl rfl 1 (by decide) (hts _ (List.mem_of_getElem? (i := 1) rfl)) (fun _ h9 => h9) rfl dX2_append_50 ?_
                refine lv_lload_n hx hb dX2_append_53 rfl (lv_at hl 3 rfl) ?_
                refine lv_bipush (v := 8) hx hb dX2_append_54 (by decide) ?_
                refine lv_iload hx hb dX2_append_56 (lv_at hl 0 rfl) ?_
                refine lv_imul hx hb dX2_append_58 ?_
                refine lv_lushr (v := (xl.toUInt64 >>> ((8 * iv).toInt64.toUInt64 &&& Int64.toUInt64 63)).toInt64) hx hb dX2_append_59 rfl ?_
                refine lv_ldc2 (v := 255) hx hb hown (hts _ (List.mem_of_getElem? (i := 3) rfl)) dX2_append_60 ?_
                refine lv_land hx hb dX2_append_63 ?_
                refine lv_l2i (v := ((xl.toUInt64 >>> ((8 * iv).toInt64.toUInt64 &&& Int64.toUInt64 63)).toInt64 &&& 255).toInt32) hx hb dX2_append_64 rfl ?_
                refine lv_i2c (v := ((((xl.toUInt64 >>> ((8 * iv).toInt64.toUInt64 &&& Int64.toUInt64 63)).toInt64 &&& 255).toInt32).toUInt32 % 65536).toInt32) hx hb dX2_append_65 rfl ?_
                refine n_cast hx hb hK hP hD hS 1 1 rfl rfl L_ (by omega) (by decide) dX2_append_66 (fun H locs hP hD hS => ?_)
                have hP : va_P D vwCl [(oP, .inr (2, [.ref pS, .int (nI L_), .int (nI po), .ref pV, .ref pF, .ref pE, .int (nI od)])), (pS, .inl (K 1, 80, .inl (upd vS L_ (vp_nar .char (((((xl.toUInt64 >>> ((8 * iv).toInt64.toUInt64 &&& Int64.toUInt64 63)).toInt64 &&& 255).toInt32).toUInt32 % 65536).toInt32)))))] H := hP
                have hD : va_D A [(oP, .inr (2, [.ref pS, .int (nI L_), .int (nI po), .ref pV, .ref pF, .ref pE, .int (nI od)])), (pS, .inl (K 1, 80, .inl (upd vS L_ (vp_nar .char (((((xl.toUInt64 >>> ((8 * iv).toInt64.toUInt64 &&& Int64.toUInt64 63)).toInt64 &&& 255).toInt32).toUInt32 % 65536).toInt32)))))] := hD
                refine lv_aload_n hx hb dX2_append_67 rfl (lv_at hl 2 rfl) ?_
                refine lv_dup hx hb dX2_append_68 rfl ?_
                refine va_get (D := D) (ci := 2) (v := .int (nI L_)) (C := RX2) (T := TX2) (N := 7) hx hb hts hin2 hown hK hP 0 rfl rfl 1 (by decide) (hts _ (List.mem_of_getElem? (i := 1) rfl)) (fun _ h9 => h9) rfl dX2_append_69 ?_
                refine lv_iconst (v := 1) hx hb dX2_append_72 (by decide) ?_
                refine lv_iadd hx hb dX2_append_73 ?_
                refine st1 (nI_add L_ 1) ?_
                refine va_put (D := D) (ci := 2) (v := .int (nI (L_ + 1))) (ty := .int) (C := RX2) (T := TX2) (N := 7) hx hb hts hin2 tyX2 tyX2_ok nmX2 hown hK hP hD hS 0 rfl rfl 1 (by decide) (hts _ (List.mem_of_getElem? (i := 1) rfl)) (fun _ h9 => h9) rfl (by decide +kernel) rfl rfl (Nat.le_of_ble_eq_true rfl) dX2_append_74 (fun H locs hP hD hS => ?_)
                have hP : va_P D vwCl [(oP, .inr (2, [.ref pS, .int (nI (L_ + 1)), .int (nI po), .ref pV, .ref pF, .ref pE, .int (nI od)])), (pS, .inl (K 1, 80, .inl (upd vS L_ (vp_nar .char (((((xl.toUInt64 >>> ((8 * iv).toInt64.toUInt64 &&& Int64.toUInt64 63)).toInt64 &&& 255).toInt32).toUInt32 % 65536).toInt32)))))] H := hP
                have hD : va_D A [(oP, .inr (2, [.ref pS, .int (nI (L_ + 1)), .int (nI po), .ref pV, .ref pF, .ref pE, .int (nI od)])), (pS, .inl (K 1, 80, .inl (upd vS L_ (vp_nar .char (((((xl.toUInt64 >>> ((8 * iv).toInt64.toUInt64 &&& Int64.toUInt64 63)).toInt64 &&& 255).toInt32).toUInt32 % 65536).toInt32)))))] := hD
                refine lv_iinc (v := (iv + (-1))) (lv' := [(4, .int (iv + (-1))), (3, .int (nI (lnF xl))), (0, .ref oP), (1, .long xl)]) hx hb dX2_append_77 hl (k := 0) rfl rfl (by decide) rfl (fun ls hl => ?_)
                refine lv_goto (tgt := 31) hx hb dX2_append_80 (by decide) ?_
                exact ih (iv + (-1)) (L_ + 1) (upd vS L_ (vp_nar .char (((((xl.toUInt64 >>> ((8 * iv).toInt64.toUInt64 &&& Int64.toUInt64 63)).toInt64 &&& 255).toInt32).toUInt32 % 65536).toInt32))) (by omega) (by omega) (by rw [← hinv, show 80 - L_ = (80 - (L_ + 1)) + 1 by omega, apI_s, if_neg c_5, if_neg c_8]) _ _ _ hP hD hS (lv_sub hl [0, 1, 2, 3] rfl)
        exact L_4 _ ((nI (lnF xl)) - 1) ln cS (Nat.lt_succ_self _) (by omega) rfl H locs ls hP hD hS (lv_sub hl [0, 1, 2, 3] rfl)
      · skip
        have nc_3 : ¬ (ln + (lnF xl) ≤ 80) := fun h => c_3 ((nI_leI (a := (ln + (lnF xl))) (b := 80) (by omega) (by omega)).mpr h)
        refine lv_bipush (v := (-4)) hx hb dX2_append_23 (by decide) ?_
        have e_11 : n_X2_append_0_1 cS ln xl = ln := by unfold n_X2_append_0_1; rw [if_neg c_2, if_neg c_3]
        have e_12 : n_X2_append_1 cS ln xl = cS := by unfold n_X2_append_1; rw [if_neg c_2, if_neg c_3]
        have hPf : va_P D vwCl [(oP, .inr (2, [.ref pS, .int (nI (n_X2_append_0_1 cS ln xl)), .int (nI po), .ref pV, .ref pF, .ref pE, .int (nI od)])), (pS, .inl (K 1, 80, .inl (n_X2_append_1 cS ln xl)))] H := (by rw [e_11, e_12]; exact hP)
        exact W.iret hx hb hr (fun t ht hW => ⟨⟨_, (), rfl, (by unfold r_X2_append; rw [if_neg c_2, if_neg c_3]), by show va_P D vwCl _ t.heap; rw [ht]; exact hPf⟩, hS.F ht⟩) hS.2.2 dX2_append_25
    · skip
      have nc_2 := (nI_eq (a := (lnF xl)) (b := 0) (by omega) (by omega)).mp c_2
      refine lv_bipush (v := (-2)) hx hb dX2_append_9 (by decide) ?_
      have e_13 : n_X2_append_0_1 cS ln xl = ln := by unfold n_X2_append_0_1; rw [if_pos c_2]
      have e_14 : n_X2_append_1 cS ln xl = cS := by unfold n_X2_append_1; rw [if_pos c_2]
      have hPf : va_P D vwCl [(oP, .inr (2, [.ref pS, .int (nI (n_X2_append_0_1 cS ln xl)), .int (nI po), .ref pV, .ref pF, .ref pE, .int (nI od)])), (pS, .inl (K 1, 80, .inl (n_X2_append_1 cS ln xl)))] H := (by rw [e_13, e_14]; exact hP)
      exact W.iret hx hb hr (fun t ht hW => ⟨⟨_, (), rfl, (by unfold r_X2_append; rw [if_pos c_2]), by show va_P D vwCl _ t.heap; rw [ht]; exact hPf⟩, hS.F ht⟩) hS.2.2 dX2_append_11
  exact K0 s.heap [] ls hP hD hS hl
