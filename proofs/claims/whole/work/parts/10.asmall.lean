def r_X2_isVerb (xc : Int32) : Int32 := (if xc = 119 then 1 else (if xc = 114 then 1 else (if xc = 33 then 1 else (if xc = 120 then 1 else (if xc = 115 then 1 else 0)))))
theorem z_r_X2_isVerb {xc : Int32} : narrow .boolean (.int (r_X2_isVerb xc)) = .int (r_X2_isVerb xc) := by
  unfold r_X2_isVerb
  repeat' split
  all_goals first | with_reducible exact zl0 | with_reducible exact zl1
set_option maxHeartbeats 4000000 in
set_option maxRecDepth 100000 in
theorem c_X2_isVerb (l : Launch) (D : va_G) (K : Nat → ClassId) (xc : Int32)  : Met l yX2_isVerb wsX2_isVerb ({ frames := 0, cells := 0, slots := 0, locals := 0 }) (va_Pc [.int xc] (fun _ => True)) (vp_Si (fun r => r = (r_X2_isVerb xc))) 0 0 (fun _ => False) := by
  refine Met.ofW (cc := cX2_isVerb) (maxL := 1) (ret := (some .boolean)) (by decide) rfl ?_
  intro p e s m args below meth c s₁ B hml hv
  obtain ⟨rfl, -⟩ := hv
  have hx := B.exec
  have hb := B.bytes
  have hr := B.returns
  have hts := atoms_spec (ws := wsX2_isVerb) B.pre
  have hown : s.vm.findClass RX2 = some m.cls := findClass_of_methodNamed B.named
  have hlocks := B.notSynchronized
  have hl := lv_entry ([.int xc]) (n := 1) (Nat.le_of_ble_eq_true rfl)
  rw [lg_entry_eq]
  generalize (lg_sl ([.int xc]) ++ List.replicate (1 - (lg_sl ([.int xc])).length) Slot.unset).toArray = ls at hl ⊢
  have hl : lv_has ls 1 [(0, .int xc)] := hl
  refine lv_iload_n hx hb dX2_isVerb_0 rfl (lv_at hl 0 rfl) ?_
  refine lv_bipush (v := 119) hx hb dX2_isVerb_1 (by decide) ?_
  refine lv_icmp_eq (tgt := 30) hx hb dX2_isVerb_3 (by decide) (fun c_1 => ?_) (fun c_1 => ?_)
  · skip
    refine lv_iconst (v := 1) hx hb dX2_isVerb_30 (by decide) ?_
    refine lv_goto (tgt := 35) hx hb dX2_isVerb_31 (by decide) ?_
    exact W.zret hx hb hr rfl (fun t ht hW => ⟨_, rfl, (by unfold r_X2_isVerb; rw [if_pos c_1]), ht⟩) (fun q hq => absurd hq List.not_mem_nil) dX2_isVerb_35
  · skip
    refine lv_iload_n hx hb dX2_isVerb_6 rfl (lv_at hl 0 rfl) ?_
    refine lv_bipush (v := 114) hx hb dX2_isVerb_7 (by decide) ?_
    refine lv_icmp_eq (tgt := 30) hx hb dX2_isVerb_9 (by decide) (fun c_2 => ?_) (fun c_2 => ?_)
    · skip
      refine lv_iconst (v := 1) hx hb dX2_isVerb_30 (by decide) ?_
      refine lv_goto (tgt := 35) hx hb dX2_isVerb_31 (by decide) ?_
      exact W.zret hx hb hr rfl (fun t ht hW => ⟨_, rfl, (by unfold r_X2_isVerb; rw [if_neg c_1, if_pos c_2]), ht⟩) (fun q hq => absurd hq List.not_mem_nil) dX2_isVerb_35
    · skip
      refine lv_iload_n hx hb dX2_isVerb_12 rfl (lv_at hl 0 rfl) ?_
      refine lv_bipush (v := 33) hx hb dX2_isVerb_13 (by decide) ?_
      refine lv_icmp_eq (tgt := 30) hx hb dX2_isVerb_15 (by decide) (fun c_3 => ?_) (fun c_3 => ?_)
      · skip
        refine lv_iconst (v := 1) hx hb dX2_isVerb_30 (by decide) ?_
        refine lv_goto (tgt := 35) hx hb dX2_isVerb_31 (by decide) ?_
        exact W.zret hx hb hr rfl (fun t ht hW => ⟨_, rfl, (by unfold r_X2_isVerb; rw [if_neg c_1, if_neg c_2, if_pos c_3]), ht⟩) (fun q hq => absurd hq List.not_mem_nil) dX2_isVerb_35
      · skip
        refine lv_iload_n hx hb dX2_isVerb_18 rfl (lv_at hl 0 rfl) ?_
        refine lv_bipush (v := 120) hx hb dX2_isVerb_19 (by decide) ?_
        refine lv_icmp_eq (tgt := 30) hx hb dX2_isVerb_21 (by decide) (fun c_4 => ?_) (fun c_4 => ?_)
        · skip
          refine lv_iconst (v := 1) hx hb dX2_isVerb_30 (by decide) ?_
          refine lv_goto (tgt := 35) hx hb dX2_isVerb_31 (by decide) ?_
          exact W.zret hx hb hr rfl (fun t ht hW => ⟨_, rfl, (by unfold r_X2_isVerb; rw [if_neg c_1, if_neg c_2, if_neg c_3, if_pos c_4]), ht⟩) (fun q hq => absurd hq List.not_mem_nil) dX2_isVerb_35
        · skip
          refine lv_iload_n hx hb dX2_isVerb_24 rfl (lv_at hl 0 rfl) ?_
          refine lv_bipush (v := 115) hx hb dX2_isVerb_25 (by decide) ?_
          refine lv_icmp_ne (tgt := 34) hx hb dX2_isVerb_27 (by decide) (fun c_5 => ?_) (fun c_5 => ?_)
          · skip
            refine lv_iconst (v := 0) hx hb dX2_isVerb_34 (by decide) ?_
            exact W.zret hx hb hr rfl (fun t ht hW => ⟨_, rfl, (by unfold r_X2_isVerb; rw [if_neg c_1, if_neg c_2, if_neg c_3, if_neg c_4, if_neg c_5]), ht⟩) (fun q hq => absurd hq List.not_mem_nil) dX2_isVerb_35
          · skip
            refine lv_iconst (v := 1) hx hb dX2_isVerb_30 (by decide) ?_
            refine lv_goto (tgt := 35) hx hb dX2_isVerb_31 (by decide) ?_
            exact W.zret hx hb hr rfl (fun t ht hW => ⟨_, rfl, (by unfold r_X2_isVerb; rw [if_neg c_1, if_neg c_2, if_neg c_3, if_neg c_4, if_pos c_5]), ht⟩) (fun q hq => absurd hq List.not_mem_nil) dX2_isVerb_35
def r_X2_signAt (cS : Nat → Int32) (ln : Nat) (po : Nat) : Int32 := (if (nI ln) ≤ (nI po) then 0 else (cS po))
set_option maxHeartbeats 4000000 in
set_option maxRecDepth 100000 in
theorem c_X2_signAt (l : Launch) (D : va_G) (K : Nat → ClassId) (oP : Nat) (pS : Nat) (pV : Nat) (pF : Nat) (pE : Nat) (cS : Nat → Int32) (ln : Nat) (po : Nat) (od : Nat) (hln : ln ≤ 80) (hpo : po ≤ 80) : Met l yX2_signAt wsX2_signAt ({ frames := 0, cells := 0, slots := 0, locals := 0 }) (va_Pc [.ref oP] (fun U => Bd D K U ∧ va_P D vwCl [(oP, .inr (2, [.ref pS, .int (nI ln), .int (nI po), .ref pV, .ref pF, .ref pE, .int (nI od)])), (pS, .inl (K 1, 80, .inl cS))] U.heap)) (vp_Si (fun r => r = (r_X2_signAt cS ln po))) 0 0 (fun _ => False) := by
  refine Met.ofW (cc := cX2_signAt) (maxL := 1) (ret := (some .int)) (by decide) rfl ?_
  intro p e s m args below meth c s₁ B hml hv
  obtain ⟨rfl, hbd, hP⟩ := hv
  have hx := B.exec
  have hb := B.bytes
  have hr := B.returns
  have hts := atoms_spec (ws := wsX2_signAt) B.pre
  have hown : s.vm.findClass RX2 = some m.cls := findClass_of_methodNamed B.named
  have hlocks := B.notSynchronized
  have hK := hbd.2
  have hP : va_P D vwCl [(oP, .inr (2, [.ref pS, .int (nI ln), .int (nI po), .ref pV, .ref pF, .ref pE, .int (nI od)])), (pS, .inl (K 1, 80, .inl cS))] s.heap := hP
  have hin2 : ∀ w ∈ wsX20, w ∈ wsX2_signAt := by decide +kernel
  have hl := lv_entry ([.ref oP]) (n := 1) (Nat.le_of_ble_eq_true rfl)
  rw [lg_entry_eq]
  generalize (lg_sl ([.ref oP]) ++ List.replicate (1 - (lg_sl ([.ref oP])).length) Slot.unset).toArray = ls at hl ⊢
  have hl : lv_has ls 1 [(0, .ref oP)] := hl
  refine lv_aload_n hx hb dX2_signAt_0 rfl (lv_at hl 0 rfl) ?_
  refine va_get (D := D) (ci := 2) (v := .int (nI po)) (C := RX2) (T := TX2) (N := 7) hx hb hts hin2 hown hK hP 0 rfl rfl 2 (by decide) (hts _ (List.mem_of_getElem? (i := 1) rfl)) (fun _ h9 => h9) rfl dX2_signAt_1 ?_
  refine lv_if_lt (tgt := 39) hx hb dX2_signAt_4 (by decide) (fun h_1 => absurd h_1 (nI_nlt (a := po) (b := 0) (by omega) (by omega))) (fun _ => ?_)
  refine lv_aload_n hx hb dX2_signAt_7 rfl (lv_at hl 0 rfl) ?_
  refine va_get (D := D) (ci := 2) (v := .int (nI po)) (C := RX2) (T := TX2) (N := 7) hx hb hts hin2 hown hK hP 0 rfl rfl 2 (by decide) (hts _ (List.mem_of_getElem? (i := 1) rfl)) (fun _ h9 => h9) rfl dX2_signAt_8 ?_
  refine lv_aload_n hx hb dX2_signAt_11 rfl (lv_at hl 0 rfl) ?_
  refine va_get (D := D) (ci := 2) (v := .int (nI ln)) (C := RX2) (T := TX2) (N := 7) hx hb hts hin2 hown hK hP 0 rfl rfl 1 (by decide) (hts _ (List.mem_of_getElem? (i := 2) rfl)) (fun _ h9 => h9) rfl dX2_signAt_12 ?_
  refine lv_icmp_ge (tgt := 39) hx hb dX2_signAt_15 (by decide) (fun c_2 => ?_) (fun c_2 => ?_)
  · skip
    have nc_2 := (nI_leI (a := ln) (b := po) (by omega) (by omega)).mp c_2
    refine lv_iconst (v := 0) hx hb dX2_signAt_39 (by decide) ?_
    exact W.iret hx hb hr (fun t ht hW => ⟨_, rfl, (by unfold r_X2_signAt; rw [if_pos c_2]), ht⟩) (fun q hq => absurd hq List.not_mem_nil) dX2_signAt_40
  · skip
    have nc_2 : ¬ (ln ≤ po) := fun h => c_2 ((nI_leI (a := ln) (b := po) (by omega) (by omega)).mpr h)
    refine lv_aload_n hx hb dX2_signAt_18 rfl (lv_at hl 0 rfl) ?_
    refine va_get (D := D) (ci := 2) (v := .int (nI po)) (C := RX2) (T := TX2) (N := 7) hx hb hts hin2 hown hK hP 0 rfl rfl 2 (by decide) (hts _ (List.mem_of_getElem? (i := 1) rfl)) (fun _ h9 => h9) rfl dX2_signAt_19 ?_
    refine lv_bipush (v := 80) hx hb dX2_signAt_22 (by decide) ?_
    refine lv_icmp_ge (tgt := 39) hx hb dX2_signAt_24 (by decide) (fun h_3 => absurd h_3 (nI_ge (a := po) (b := 80) (by omega) (by omega))) (fun _ => ?_)
    refine lv_aload_n hx hb dX2_signAt_27 rfl (lv_at hl 0 rfl) ?_
    refine va_get (D := D) (ci := 2) (v := .ref pS) (C := RX2) (T := TX2) (N := 7) hx hb hts hin2 hown hK hP 0 rfl rfl 0 (by decide) (hts _ (List.mem_of_getElem? (i := 3) rfl)) (fun _ h9 => h9) rfl dX2_signAt_28 ?_
    refine lv_aload_n hx hb dX2_signAt_31 rfl (lv_at hl 0 rfl) ?_
    refine va_get (D := D) (ci := 2) (v := .int (nI po)) (C := RX2) (T := TX2) (N := 7) hx hb hts hin2 hown hK hP 0 rfl rfl 2 (by decide) (hts _ (List.mem_of_getElem? (i := 1) rfl)) (fun _ h9 => h9) rfl dX2_signAt_32 ?_
    refine n_cald hx hb hK hP 1 1 rfl rfl po (by omega) (by decide) dX2_signAt_35 ?_
    refine lv_goto (tgt := 40) hx hb dX2_signAt_36 (by decide) ?_
    exact W.iret hx hb hr (fun t ht hW => ⟨_, rfl, (by unfold r_X2_signAt; rw [if_neg c_2]), ht⟩) (fun q hq => absurd hq List.not_mem_nil) dX2_signAt_40
def r_X2_scanSign (cS : Nat → Int32) (ln : Nat) (po : Nat) (xc : Int32) : Int32 := (if (r_X2_signAt cS ln po) = xc then 1 else 0)
theorem z_r_X2_scanSign {cS : Nat → Int32} {ln : Nat} {po : Nat} {xc : Int32} : narrow .boolean (.int (r_X2_scanSign cS ln po xc)) = .int (r_X2_scanSign cS ln po xc) := by
  unfold r_X2_scanSign
  repeat' split
  all_goals first | with_reducible exact zl0 | with_reducible exact zl1
def n_X2_scanSign_0_2 (cS : Nat → Int32) (ln : Nat) (po : Nat) (xc : Int32) : Nat := (if (r_X2_signAt cS ln po) = xc then po + 1 else po)
set_option maxHeartbeats 4000000 in
set_option maxRecDepth 100000 in
theorem c_X2_scanSign (l : Launch) (D : va_G) (K : Nat → ClassId) (oP : Nat) (pS : Nat) (pV : Nat) (pF : Nat) (pE : Nat) (cS : Nat → Int32) (ln : Nat) (po : Nat) (od : Nat) (xc : Int32) (hln : ln ≤ 80) (hpo : po ≤ 80) : Met l yX2_scanSign wsX2_scanSign ({ frames := 1, cells := 0, slots := 0, locals := 20 }) (va_Pc [.ref oP, .int xc] (fun U => Bd D K U ∧ va_P D vwCl [(oP, .inr (2, [.ref pS, .int (nI ln), .int (nI po), .ref pV, .ref pF, .ref pE, .int (nI od)])), (pS, .inl (K 1, 80, .inl cS))] U.heap ∧ va_D (fun _ => True) [(oP, .inr (2, [.ref pS, .int (nI ln), .int (nI po), .ref pV, .ref pF, .ref pE, .int (nI od)])), (pS, .inl (K 1, 80, .inl cS))])) (va_Qi (fun r (_ : Unit) => r = (r_X2_scanSign cS ln po xc)) (fun _ t => va_P D vwCl [(oP, .inr (2, [.ref pS, .int (nI ln), .int (nI (n_X2_scanSign_0_2 cS ln po xc)), .ref pV, .ref pF, .ref pE, .int (nI od)])), (pS, .inl (K 1, 80, .inl cS))] t.heap) (inW [(oP, .inr (2, [.ref pS, .int (nI ln), .int (nI po), .ref pV, .ref pF, .ref pE, .int (nI od)])), (pS, .inl (K 1, 80, .inl cS))])) 0 0 (inW [(oP, .inr (2, [.ref pS, .int (nI ln), .int (nI po), .ref pV, .ref pF, .ref pE, .int (nI od)])), (pS, .inl (K 1, 80, .inl cS))]) := by
  refine Met.ofW (cc := cX2_scanSign) (maxL := 2) (ret := (some .boolean)) (by decide) rfl ?_
  intro p e s m args below meth c s₁ B hml hv
  obtain ⟨rfl, hbd, hP, hD0⟩ := hv
  have hx := B.exec
  have hb := B.bytes
  have hr := B.returns
  have hts := atoms_spec (ws := wsX2_scanSign) B.pre
  have hown : s.vm.findClass RX2 = some m.cls := findClass_of_methodNamed B.named
  have hlocks := B.notSynchronized
  have hK := hbd.2
  have hP : va_P D vwCl [(oP, .inr (2, [.ref pS, .int (nI ln), .int (nI po), .ref pV, .ref pF, .ref pE, .int (nI od)])), (pS, .inl (K 1, 80, .inl cS))] s.heap := hP
  have hin2 : ∀ w ∈ wsX20, w ∈ wsX2_scanSign := by decide +kernel
  have hD := hD0.own
  generalize hAe : inW [(oP, .inr (2, [.ref pS, .int (nI ln), .int (nI po), .ref pV, .ref pF, .ref pE, .int (nI od)])), (pS, .inl (K 1, 80, .inl cS))] = A at hD ⊢
  have hS : va_S A s.heap s.heap [] := va_S.rf
  have hl := lv_entry ([.ref oP, .int xc]) (n := 2) (Nat.le_of_ble_eq_true rfl)
  rw [lg_entry_eq]
  generalize (lg_sl ([.ref oP, .int xc]) ++ List.replicate (2 - (lg_sl ([.ref oP, .int xc])).length) Slot.unset).toArray = ls at hl ⊢
  have hl : lv_has ls 2 [(0, .ref oP), (1, .int xc)] := hl
  have K0 : ∀ (H : Heap) (locs : List Loc) (ls : Array Slot), va_P D vwCl [(oP, .inr (2, [.ref pS, .int (nI ln), .int (nI po), .ref pV, .ref pF, .ref pE, .int (nI od)])), (pS, .inl (K 1, 80, .inl cS))] H → va_D A [(oP, .inr (2, [.ref pS, .int (nI ln), .int (nI po), .ref pV, .ref pF, .ref pE, .int (nI od)])), (pS, .inl (K 1, 80, .inl cS))] → va_S A s.heap H locs → lv_has ls 2 [(0, .ref oP), (1, .int xc)] → W p l e (headSpec wsX2_scanSign ({ frames := 1, cells := 0, slots := 0, locals := 20 })).room s m ([.ref oP, .int xc] : List Value).toArray below meth c H locs 0 0 (MQ below (va_Qi (fun r (_ : Unit) => r = (r_X2_scanSign cS ln po xc)) (fun _ t => va_P D vwCl [(oP, .inr (2, [.ref pS, .int (nI ln), .int (nI (n_X2_scanSign_0_2 cS ln po xc)), .ref pV, .ref pF, .ref pE, .int (nI od)])), (pS, .inl (K 1, 80, .inl cS))] t.heap) A) ([.ref oP, .int xc] : List Value).toArray s 0 0 A) (F0 m 0 ls []) := by
    intro H locs ls hP hD hS hl
    refine lv_aload_n hx hb dX2_scanSign_0 rfl (lv_at hl 0 rfl) ?_
    have hPc := hP.sub (ws' := [(oP, .inr (2, [.ref pS, .int (nI ln), .int (nI po), .ref pV, .ref pF, .ref pE, .int (nI od)])), (pS, .inl (K 1, 80, .inl cS))]) [0, 1] rfl
    refine vp_callSi (va_Run.run (va_runV (As := []) (rest := []) ⟨hx, hb, hml, hown, hts⟩ (c_X2_signAt l D K oP pS pV pF pE cS ln po od (by omega) (by omega)) (cwV 0 hts gX2_scanSign_X2_signAt rfl rfl rfl (by decide +kernel) ⟨Nat.le_of_ble_eq_true rfl, Nat.le_of_ble_eq_true rfl⟩) (pre_rd hbd hPc (ci := 2) (q0 := 0) rfl rfl) rfl rfl hl.1 rfl (lv_room (Nat.le_of_ble_eq_true rfl)) dX2_scanSign_1 ⟨Nat.zero_le _, Nat.zero_le _⟩)) (fun r_1 hr_1 => ?_)
    refine st1 hr_1 ?_
    refine lv_iload_n hx hb dX2_scanSign_4 rfl (lv_at hl 1 rfl) ?_
    refine lv_icmp_eq (tgt := 10) hx hb dX2_scanSign_5 (by decide) (fun c_2 => ?_) (fun c_2 => ?_)
    · skip
      refine lv_aload_n hx hb dX2_scanSign_10 rfl (lv_at hl 0 rfl) ?_
      refine lv_dup hx hb dX2_scanSign_11 rfl ?_
      refine va_get (D := D) (ci := 2) (v := .int (nI po)) (C := RX2) (T := TX2) (N := 7) hx hb hts hin2 hown hK hP 0 rfl rfl 2 (by decide) (hts _ (List.mem_of_getElem? (i := 1) rfl)) (fun _ h9 => h9) rfl dX2_scanSign_12 ?_
      refine lv_iconst (v := 1) hx hb dX2_scanSign_15 (by decide) ?_
      refine lv_iadd hx hb dX2_scanSign_16 ?_
      refine st1 (nI_add po 1) ?_
      refine va_put (D := D) (ci := 2) (v := .int (nI (po + 1))) (ty := .int) (C := RX2) (T := TX2) (N := 7) hx hb hts hin2 tyX2 tyX2_ok nmX2 hown hK hP hD hS 0 rfl rfl 2 (by decide) (hts _ (List.mem_of_getElem? (i := 1) rfl)) (fun _ h9 => h9) rfl (by decide +kernel) rfl rfl (Nat.le_of_ble_eq_true rfl) dX2_scanSign_17 (fun H locs hP hD hS => ?_)
      have hP : va_P D vwCl [(oP, .inr (2, [.ref pS, .int (nI ln), .int (nI (po + 1)), .ref pV, .ref pF, .ref pE, .int (nI od)])), (pS, .inl (K 1, 80, .inl cS))] H := hP
      have hD : va_D A [(oP, .inr (2, [.ref pS, .int (nI ln), .int (nI (po + 1)), .ref pV, .ref pF, .ref pE, .int (nI od)])), (pS, .inl (K 1, 80, .inl cS))] := hD
      refine lv_iconst (v := 1) hx hb dX2_scanSign_20 (by decide) ?_
      have e_3 : n_X2_scanSign_0_2 cS ln po xc = po + 1 := by unfold n_X2_scanSign_0_2; rw [if_pos c_2]
      have hPf : va_P D vwCl [(oP, .inr (2, [.ref pS, .int (nI ln), .int (nI (n_X2_scanSign_0_2 cS ln po xc)), .ref pV, .ref pF, .ref pE, .int (nI od)])), (pS, .inl (K 1, 80, .inl cS))] H := (by rw [e_3]; exact hP)
      exact W.zret hx hb hr rfl (fun t ht hW => ⟨⟨_, (), rfl, (by unfold r_X2_scanSign; rw [if_pos c_2]), by show va_P D vwCl _ t.heap; rw [ht]; exact hPf⟩, hS.F ht⟩) hS.2.2 dX2_scanSign_21
    · skip
      refine lv_iconst (v := 0) hx hb dX2_scanSign_8 (by decide) ?_
      have e_4 : n_X2_scanSign_0_2 cS ln po xc = po := by unfold n_X2_scanSign_0_2; rw [if_neg c_2]
      have hPf : va_P D vwCl [(oP, .inr (2, [.ref pS, .int (nI ln), .int (nI (n_X2_scanSign_0_2 cS ln po xc)), .ref pV, .ref pF, .ref pE, .int (nI od)])), (pS, .inl (K 1, 80, .inl cS))] H := (by rw [e_4]; exact hP)
      exact W.zret hx hb hr rfl (fun t ht hW => ⟨⟨_, (), rfl, (by unfold r_X2_scanSign; rw [if_neg c_2]), by show va_P D vwCl _ t.heap; rw [ht]; exact hPf⟩, hS.F ht⟩) hS.2.2 dX2_scanSign_9
  exact K0 s.heap [] ls hP hD hS hl
def r_X2_scanDigit (cS : Nat → Int32) (ln : Nat) (po : Nat) (xm : Int32) : Int32 := (if ((r_X2_signAt cS ln po) - 48) < 0 then (-1) else (if ((r_X2_signAt cS ln po) - 48) ≤ xm then ((r_X2_signAt cS ln po) - 48) else (-1)))
def n_X2_scanDigit_0_2 (cS : Nat → Int32) (ln : Nat) (po : Nat) (xm : Int32) : Nat := (if ((r_X2_signAt cS ln po) - 48) < 0 then po else (if ((r_X2_signAt cS ln po) - 48) ≤ xm then po + 1 else po))
set_option maxHeartbeats 4000000 in
set_option maxRecDepth 100000 in
theorem c_X2_scanDigit (l : Launch) (D : va_G) (K : Nat → ClassId) (oP : Nat) (pS : Nat) (pV : Nat) (pF : Nat) (pE : Nat) (cS : Nat → Int32) (ln : Nat) (po : Nat) (od : Nat) (xm : Int32) (hln : ln ≤ 80) (hpo : po ≤ 80) : Met l yX2_scanDigit wsX2_scanDigit ({ frames := 1, cells := 0, slots := 0, locals := 20 }) (va_Pc [.ref oP, .int xm] (fun U => Bd D K U ∧ va_P D vwCl [(oP, .inr (2, [.ref pS, .int (nI ln), .int (nI po), .ref pV, .ref pF, .ref pE, .int (nI od)])), (pS, .inl (K 1, 80, .inl cS))] U.heap ∧ va_D (fun _ => True) [(oP, .inr (2, [.ref pS, .int (nI ln), .int (nI po), .ref pV, .ref pF, .ref pE, .int (nI od)])), (pS, .inl (K 1, 80, .inl cS))])) (va_Qi (fun r (_ : Unit) => r = (r_X2_scanDigit cS ln po xm)) (fun _ t => va_P D vwCl [(oP, .inr (2, [.ref pS, .int (nI ln), .int (nI (n_X2_scanDigit_0_2 cS ln po xm)), .ref pV, .ref pF, .ref pE, .int (nI od)])), (pS, .inl (K 1, 80, .inl cS))] t.heap) (inW [(oP, .inr (2, [.ref pS, .int (nI ln), .int (nI po), .ref pV, .ref pF, .ref pE, .int (nI od)])), (pS, .inl (K 1, 80, .inl cS))])) 0 0 (inW [(oP, .inr (2, [.ref pS, .int (nI ln), .int (nI po), .ref pV, .ref pF, .ref pE, .int (nI od)])), (pS, .inl (K 1, 80, .inl cS))]) := by
  refine Met.ofW (cc := cX2_scanDigit) (maxL := 3) (ret := (some .int)) (by decide) rfl ?_
  intro p e s m args below meth c s₁ B hml hv
  obtain ⟨rfl, hbd, hP, hD0⟩ := hv
  have hx := B.exec
  have hb := B.bytes
  have hr := B.returns
  have hts := atoms_spec (ws := wsX2_scanDigit) B.pre
  have hown : s.vm.findClass RX2 = some m.cls := findClass_of_methodNamed B.named
  have hlocks := B.notSynchronized
  have hK := hbd.2
  have hP : va_P D vwCl [(oP, .inr (2, [.ref pS, .int (nI ln), .int (nI po), .ref pV, .ref pF, .ref pE, .int (nI od)])), (pS, .inl (K 1, 80, .inl cS))] s.heap := hP
  have hin2 : ∀ w ∈ wsX20, w ∈ wsX2_scanDigit := by decide +kernel
  have hD := hD0.own
  generalize hAe : inW [(oP, .inr (2, [.ref pS, .int (nI ln), .int (nI po), .ref pV, .ref pF, .ref pE, .int (nI od)])), (pS, .inl (K 1, 80, .inl cS))] = A at hD ⊢
  have hS : va_S A s.heap s.heap [] := va_S.rf
  have hl := lv_entry ([.ref oP, .int xm]) (n := 3) (Nat.le_of_ble_eq_true rfl)
  rw [lg_entry_eq]
  generalize (lg_sl ([.ref oP, .int xm]) ++ List.replicate (3 - (lg_sl ([.ref oP, .int xm])).length) Slot.unset).toArray = ls at hl ⊢
  have hl : lv_has ls 3 [(0, .ref oP), (1, .int xm)] := hl
  have K0 : ∀ (H : Heap) (locs : List Loc) (ls : Array Slot), va_P D vwCl [(oP, .inr (2, [.ref pS, .int (nI ln), .int (nI po), .ref pV, .ref pF, .ref pE, .int (nI od)])), (pS, .inl (K 1, 80, .inl cS))] H → va_D A [(oP, .inr (2, [.ref pS, .int (nI ln), .int (nI po), .ref pV, .ref pF, .ref pE, .int (nI od)])), (pS, .inl (K 1, 80, .inl cS))] → va_S A s.heap H locs → lv_has ls 3 [(0, .ref oP), (1, .int xm)] → W p l e (headSpec wsX2_scanDigit ({ frames := 1, cells := 0, slots := 0, locals := 20 })).room s m ([.ref oP, .int xm] : List Value).toArray below meth c H locs 0 0 (MQ below (va_Qi (fun r (_ : Unit) => r = (r_X2_scanDigit cS ln po xm)) (fun _ t => va_P D vwCl [(oP, .inr (2, [.ref pS, .int (nI ln), .int (nI (n_X2_scanDigit_0_2 cS ln po xm)), .ref pV, .ref pF, .ref pE, .int (nI od)])), (pS, .inl (K 1, 80, .inl cS))] t.heap) A) ([.ref oP, .int xm] : List Value).toArray s 0 0 A) (F0 m 0 ls []) := by
    intro H locs ls hP hD hS hl
    refine lv_aload_n hx hb dX2_scanDigit_0 rfl (lv_at hl 0 rfl) ?_
    have hPc := hP.sub (ws' := [(oP, .inr (2, [.ref pS, .int (nI ln), .int (nI po), .ref pV, .ref pF, .ref pE, .int (nI od)])), (pS, .inl (K 1, 80, .inl cS))]) [0, 1] rfl
    refine vp_callSi (va_Run.run (va_runV (As := []) (rest := []) ⟨hx, hb, hml, hown, hts⟩ (c_X2_signAt l D K oP pS pV pF pE cS ln po od (by omega) (by omega)) (cwV 0 hts gX2_scanDigit_X2_signAt rfl rfl rfl (by decide +kernel) ⟨Nat.le_of_ble_eq_true rfl, Nat.le_of_ble_eq_true rfl⟩) (pre_rd hbd hPc (ci := 2) (q0 := 0) rfl rfl) rfl rfl hl.1 rfl (lv_room (Nat.le_of_ble_eq_true rfl)) dX2_scanDigit_1 ⟨Nat.zero_le _, Nat.zero_le _⟩)) (fun r_1 hr_1 => ?_)
    refine st1 hr_1 ?_
    refine lv_bipush (v := 48) hx hb dX2_scanDigit_4 (by decide) ?_
    refine lv_isub hx hb dX2_scanDigit_6 ?_
    refine lv_istore_n (lv' := [(2, .int ((r_X2_signAt cS ln po) - 48)), (0, .ref oP), (1, .int xm)]) hx hb dX2_scanDigit_7 rfl hl (by decide) rfl (fun ls hl => ?_)
    refine lv_iload_n hx hb dX2_scanDigit_8 rfl (lv_at hl 0 rfl) ?_
    refine lv_if_lt (tgt := 17) hx hb dX2_scanDigit_9 (by decide) (fun c_2 => ?_) (fun c_2 => ?_)
    · skip
      refine lv_iconst (v := (-1)) hx hb dX2_scanDigit_17 (by decide) ?_
      have e_3 : n_X2_scanDigit_0_2 cS ln po xm = po := by unfold n_X2_scanDigit_0_2; rw [if_pos c_2]
      have hPf : va_P D vwCl [(oP, .inr (2, [.ref pS, .int (nI ln), .int (nI (n_X2_scanDigit_0_2 cS ln po xm)), .ref pV, .ref pF, .ref pE, .int (nI od)])), (pS, .inl (K 1, 80, .inl cS))] H := (by rw [e_3]; exact hP)
      exact W.iret hx hb hr (fun t ht hW => ⟨⟨_, (), rfl, (by unfold r_X2_scanDigit; rw [if_pos c_2]), by show va_P D vwCl _ t.heap; rw [ht]; exact hPf⟩, hS.F ht⟩) hS.2.2 dX2_scanDigit_18
    · skip
      refine lv_iload_n hx hb dX2_scanDigit_12 rfl (lv_at hl 0 rfl) ?_
      refine lv_iload_n hx hb dX2_scanDigit_13 rfl (lv_at hl 2 rfl) ?_
      refine lv_icmp_le (tgt := 19) hx hb dX2_scanDigit_14 (by decide) (fun c_4 => ?_) (fun c_4 => ?_)
      · skip
        refine lv_aload_n hx hb dX2_scanDigit_19 rfl (lv_at hl 1 rfl) ?_
        refine lv_dup hx hb dX2_scanDigit_20 rfl ?_
        refine va_get (D := D) (ci := 2) (v := .int (nI po)) (C := RX2) (T := TX2) (N := 7) hx hb hts hin2 hown hK hP 0 rfl rfl 2 (by decide) (hts _ (List.mem_of_getElem? (i := 1) rfl)) (fun _ h9 => h9) rfl dX2_scanDigit_21 ?_
        refine lv_iconst (v := 1) hx hb dX2_scanDigit_24 (by decide) ?_
        refine lv_iadd hx hb dX2_scanDigit_25 ?_
        refine st1 (nI_add po 1) ?_
        refine va_put (D := D) (ci := 2) (v := .int (nI (po + 1))) (ty := .int) (C := RX2) (T := TX2) (N := 7) hx hb hts hin2 tyX2 tyX2_ok nmX2 hown hK hP hD hS 0 rfl rfl 2 (by decide) (hts _ (List.mem_of_getElem? (i := 1) rfl)) (fun _ h9 => h9) rfl (by decide +kernel) rfl rfl (Nat.le_of_ble_eq_true rfl) dX2_scanDigit_26 (fun H locs hP hD hS => ?_)
        have hP : va_P D vwCl [(oP, .inr (2, [.ref pS, .int (nI ln), .int (nI (po + 1)), .ref pV, .ref pF, .ref pE, .int (nI od)])), (pS, .inl (K 1, 80, .inl cS))] H := hP
        have hD : va_D A [(oP, .inr (2, [.ref pS, .int (nI ln), .int (nI (po + 1)), .ref pV, .ref pF, .ref pE, .int (nI od)])), (pS, .inl (K 1, 80, .inl cS))] := hD
        refine lv_iload_n hx hb dX2_scanDigit_29 rfl (lv_at hl 0 rfl) ?_
        have e_5 : n_X2_scanDigit_0_2 cS ln po xm = po + 1 := by unfold n_X2_scanDigit_0_2; rw [if_neg c_2, if_pos c_4]
        have hPf : va_P D vwCl [(oP, .inr (2, [.ref pS, .int (nI ln), .int (nI (n_X2_scanDigit_0_2 cS ln po xm)), .ref pV, .ref pF, .ref pE, .int (nI od)])), (pS, .inl (K 1, 80, .inl cS))] H := (by rw [e_5]; exact hP)
        exact W.iret hx hb hr (fun t ht hW => ⟨⟨_, (), rfl, (by unfold r_X2_scanDigit; rw [if_neg c_2, if_pos c_4]), by show va_P D vwCl _ t.heap; rw [ht]; exact hPf⟩, hS.F ht⟩) hS.2.2 dX2_scanDigit_30
      · skip
        refine lv_iconst (v := (-1)) hx hb dX2_scanDigit_17 (by decide) ?_
        have e_6 : n_X2_scanDigit_0_2 cS ln po xm = po := by unfold n_X2_scanDigit_0_2; rw [if_neg c_2, if_neg c_4]
        have hPf : va_P D vwCl [(oP, .inr (2, [.ref pS, .int (nI ln), .int (nI (n_X2_scanDigit_0_2 cS ln po xm)), .ref pV, .ref pF, .ref pE, .int (nI od)])), (pS, .inl (K 1, 80, .inl cS))] H := (by rw [e_6]; exact hP)
        exact W.iret hx hb hr (fun t ht hW => ⟨⟨_, (), rfl, (by unfold r_X2_scanDigit; rw [if_neg c_2, if_neg c_4]), by show va_P D vwCl _ t.heap; rw [ht]; exact hPf⟩, hS.F ht⟩) hS.2.2 dX2_scanDigit_18
  exact K0 s.heap [] ls hP hD hS hl
def r_X2_note (od : Nat) : Int32 := (if (nI od) < 40 then 1 else 0)
theorem z_r_X2_note {od : Nat} : narrow .boolean (.int (r_X2_note od)) = .int (r_X2_note od) := by
  unfold r_X2_note
  repeat' split
  all_goals first | with_reducible exact zl0 | with_reducible exact zl1
def n_X2_note_0_6 (od : Nat) : Nat := (if (nI od) < 40 then od + 1 else od)
def n_X2_note_2 (cV : Nat → Int32) (od : Nat) (xv : Int32) : Nat → Int32 := (if (nI od) < 40 then (upd cV od xv) else cV)
def n_X2_note_3 (cF : Nat → Int32) (od : Nat) (xf : Int32) : Nat → Int32 := (if (nI od) < 40 then (upd cF od xf) else cF)
def n_X2_note_4 (cE : Nat → Int32) (od : Nat) (xs : Int32) : Nat → Int32 := (if (nI od) < 40 then (upd cE od xs) else cE)
set_option maxHeartbeats 4000000 in
set_option maxRecDepth 100000 in
theorem c_X2_note (l : Launch) (D : va_G) (K : Nat → ClassId) (oP : Nat) (pS : Nat) (pV : Nat) (pF : Nat) (pE : Nat) (cS : Nat → Int32) (cV : Nat → Int32) (cF : Nat → Int32) (cE : Nat → Int32) (ln : Nat) (po : Nat) (od : Nat) (xv : Int32) (xf : Int32) (xs : Int32) (hod : od ≤ 40) : Met l yX2_note wsX2_note ({ frames := 0, cells := 0, slots := 0, locals := 0 }) (va_Pc [.ref oP, .int xv, .int xf, .int xs] (fun U => Bd D K U ∧ va_P D vwCl [(oP, .inr (2, [.ref pS, .int (nI ln), .int (nI po), .ref pV, .ref pF, .ref pE, .int (nI od)])), (pS, .inl (K 1, 80, .inl cS)), (pV, .inl (K 0, 40, .inl cV)), (pF, .inl (K 0, 40, .inl cF)), (pE, .inl (K 0, 40, .inl cE))] U.heap ∧ va_D (fun _ => True) [(oP, .inr (2, [.ref pS, .int (nI ln), .int (nI po), .ref pV, .ref pF, .ref pE, .int (nI od)])), (pS, .inl (K 1, 80, .inl cS)), (pV, .inl (K 0, 40, .inl cV)), (pF, .inl (K 0, 40, .inl cF)), (pE, .inl (K 0, 40, .inl cE))])) (va_Qi (fun r (_ : Unit) => r = (r_X2_note od)) (fun _ t => va_P D vwCl [(oP, .inr (2, [.ref pS, .int (nI ln), .int (nI po), .ref pV, .ref pF, .ref pE, .int (nI (n_X2_note_0_6 od))])), (pS, .inl (K 1, 80, .inl cS)), (pV, .inl (K 0, 40, .inl (n_X2_note_2 cV od xv))), (pF, .inl (K 0, 40, .inl (n_X2_note_3 cF od xf))), (pE, .inl (K 0, 40, .inl (n_X2_note_4 cE od xs)))] t.heap) (inW [(oP, .inr (2, [.ref pS, .int (nI ln), .int (nI po), .ref pV, .ref pF, .ref pE, .int (nI od)])), (pS, .inl (K 1, 80, .inl cS)), (pV, .inl (K 0, 40, .inl cV)), (pF, .inl (K 0, 40, .inl cF)), (pE, .inl (K 0, 40, .inl cE))])) 0 0 (inW [(oP, .inr (2, [.ref pS, .int (nI ln), .int (nI po), .ref pV, .ref pF, .ref pE, .int (nI od)])), (pS, .inl (K 1, 80, .inl cS)), (pV, .inl (K 0, 40, .inl cV)), (pF, .inl (K 0, 40, .inl cF)), (pE, .inl (K 0, 40, .inl cE))]) := by
  refine Met.ofW (cc := cX2_note) (maxL := 4) (ret := (some .boolean)) (by decide) rfl ?_
  intro p e s m args below meth c s₁ B hml hv
  obtain ⟨rfl, hbd, hP, hD0⟩ := hv
  have hx := B.exec
  have hb := B.bytes
  have hr := B.returns
  have hts := atoms_spec (ws := wsX2_note) B.pre
  have hown : s.vm.findClass RX2 = some m.cls := findClass_of_methodNamed B.named
  have hlocks := B.notSynchronized
  have hK := hbd.2
  have hP : va_P D vwCl [(oP, .inr (2, [.ref pS, .int (nI ln), .int (nI po), .ref pV, .ref pF, .ref pE, .int (nI od)])), (pS, .inl (K 1, 80, .inl cS)), (pV, .inl (K 0, 40, .inl cV)), (pF, .inl (K 0, 40, .inl cF)), (pE, .inl (K 0, 40, .inl cE))] s.heap := hP
  have hin2 : ∀ w ∈ wsX20, w ∈ wsX2_note := by decide +kernel
  have hD := hD0.own
  generalize hAe : inW [(oP, .inr (2, [.ref pS, .int (nI ln), .int (nI po), .ref pV, .ref pF, .ref pE, .int (nI od)])), (pS, .inl (K 1, 80, .inl cS)), (pV, .inl (K 0, 40, .inl cV)), (pF, .inl (K 0, 40, .inl cF)), (pE, .inl (K 0, 40, .inl cE))] = A at hD ⊢
  have hS : va_S A s.heap s.heap [] := va_S.rf
  have hl := lv_entry ([.ref oP, .int xv, .int xf, .int xs]) (n := 4) (Nat.le_of_ble_eq_true rfl)
  rw [lg_entry_eq]
  generalize (lg_sl ([.ref oP, .int xv, .int xf, .int xs]) ++ List.replicate (4 - (lg_sl ([.ref oP, .int xv, .int xf, .int xs])).length) Slot.unset).toArray = ls at hl ⊢
  have hl : lv_has ls 4 [(0, .ref oP), (1, .int xv), (2, .int xf), (3, .int xs)] := hl
  have K0 : ∀ (H : Heap) (locs : List Loc) (ls : Array Slot), va_P D vwCl [(oP, .inr (2, [.ref pS, .int (nI ln), .int (nI po), .ref pV, .ref pF, .ref pE, .int (nI od)])), (pS, .inl (K 1, 80, .inl cS)), (pV, .inl (K 0, 40, .inl cV)), (pF, .inl (K 0, 40, .inl cF)), (pE, .inl (K 0, 40, .inl cE))] H → va_D A [(oP, .inr (2, [.ref pS, .int (nI ln), .int (nI po), .ref pV, .ref pF, .ref pE, .int (nI od)])), (pS, .inl (K 1, 80, .inl cS)), (pV, .inl (K 0, 40, .inl cV)), (pF, .inl (K 0, 40, .inl cF)), (pE, .inl (K 0, 40, .inl cE))] → va_S A s.heap H locs → lv_has ls 4 [(0, .ref oP), (1, .int xv), (2, .int xf), (3, .int xs)] → W p l e (headSpec wsX2_note ({ frames := 0, cells := 0, slots := 0, locals := 0 })).room s m ([.ref oP, .int xv, .int xf, .int xs] : List Value).toArray below meth c H locs 0 0 (MQ below (va_Qi (fun r (_ : Unit) => r = (r_X2_note od)) (fun _ t => va_P D vwCl [(oP, .inr (2, [.ref pS, .int (nI ln), .int (nI po), .ref pV, .ref pF, .ref pE, .int (nI (n_X2_note_0_6 od))])), (pS, .inl (K 1, 80, .inl cS)), (pV, .inl (K 0, 40, .inl (n_X2_note_2 cV od xv))), (pF, .inl (K 0, 40, .inl (n_X2_note_3 cF od xf))), (pE, .inl (K 0, 40, .inl (n_X2_note_4 cE od xs)))] t.heap) A) ([.ref oP, .int xv, .int xf, .int xs] : List Value).toArray s 0 0 A) (F0 m 0 ls []) := by
    intro H locs ls hP hD hS hl
    refine lv_aload_n hx hb dX2_note_0 rfl (lv_at hl 0 rfl) ?_
    refine va_get (D := D) (ci := 2) (v := .int (nI od)) (C := RX2) (T := TX2) (N := 7) hx hb hts hin2 hown hK hP 0 rfl rfl 6 (by decide) (hts _ (List.mem_of_getElem? (i := 1) rfl)) (fun _ h9 => h9) rfl dX2_note_1 ?_
    refine lv_if_lt (tgt := 16) hx hb dX2_note_4 (by decide) (fun h_1 => absurd h_1 (nI_nlt (a := od) (b := 0) (by omega) (by omega))) (fun _ => ?_)
    refine lv_aload_n hx hb dX2_note_7 rfl (lv_at hl 0 rfl) ?_
    refine va_get (D := D) (ci := 2) (v := .int (nI od)) (C := RX2) (T := TX2) (N := 7) hx hb hts hin2 hown hK hP 0 rfl rfl 6 (by decide) (hts _ (List.mem_of_getElem? (i := 1) rfl)) (fun _ h9 => h9) rfl dX2_note_8 ?_
    refine lv_bipush (v := 40) hx hb dX2_note_11 (by decide) ?_
    refine lv_icmp_lt (tgt := 18) hx hb dX2_note_13 (by decide) (fun c_2 => ?_) (fun c_2 => ?_)
    · skip
      have nc_2 := (nI_ltI (a := od) (b := 40) (by omega) (by omega)).mp c_2
      refine lv_aload_n hx hb dX2_note_18 rfl (lv_at hl 0 rfl) ?_
      refine va_get (D := D) (ci := 2) (v := .ref pV) (C := RX2) (T := TX2) (N := 7) hx hb hts hin2 hown hK hP 0 rfl rfl 3 (by decide) (hts _ (List.mem_of_getElem? (i := 2) rfl)) (fun _ h9 => h9) rfl dX2_note_19 ?_
      refine lv_aload_n hx hb dX2_note_22 rfl (lv_at hl 0 rfl) ?_
      refine va_get (D := D) (ci := 2) (v := .int (nI od)) (C := RX2) (T := TX2) (N := 7) hx hb hts hin2 hown hK hP 0 rfl rfl 6 (by decide) (hts _ (List.mem_of_getElem? (i := 1) rfl)) (fun _ h9 => h9) rfl dX2_note_23 ?_
      refine lv_iload_n hx hb dX2_note_26 rfl (lv_at hl 1 rfl) ?_
      refine n_iast hx hb hK hP hD hS 2 0 rfl rfl od (by omega) (by decide) dX2_note_27 (fun H locs hP hD hS => ?_)
      have hP : va_P D vwCl [(oP, .inr (2, [.ref pS, .int (nI ln), .int (nI po), .ref pV, .ref pF, .ref pE, .int (nI od)])), (pS, .inl (K 1, 80, .inl cS)), (pV, .inl (K 0, 40, .inl (upd cV od xv))), (pF, .inl (K 0, 40, .inl cF)), (pE, .inl (K 0, 40, .inl cE))] H := hP
      have hD : va_D A [(oP, .inr (2, [.ref pS, .int (nI ln), .int (nI po), .ref pV, .ref pF, .ref pE, .int (nI od)])), (pS, .inl (K 1, 80, .inl cS)), (pV, .inl (K 0, 40, .inl (upd cV od xv))), (pF, .inl (K 0, 40, .inl cF)), (pE, .inl (K 0, 40, .inl cE))] := hD
      refine lv_aload_n hx hb dX2_note_28 rfl (lv_at hl 0 rfl) ?_
      refine va_get (D := D) (ci := 2) (v := .ref pF) (C := RX2) (T := TX2) (N := 7) hx hb hts hin2 hown hK hP 0 rfl rfl 4 (by decide) (hts _ (List.mem_of_getElem? (i := 3) rfl)) (fun _ h9 => h9) rfl dX2_note_29 ?_
      refine lv_aload_n hx hb dX2_note_32 rfl (lv_at hl 0 rfl) ?_
      refine va_get (D := D) (ci := 2) (v := .int (nI od)) (C := RX2) (T := TX2) (N := 7) hx hb hts hin2 hown hK hP 0 rfl rfl 6 (by decide) (hts _ (List.mem_of_getElem? (i := 1) rfl)) (fun _ h9 => h9) rfl dX2_note_33 ?_
      refine lv_iload_n hx hb dX2_note_36 rfl (lv_at hl 2 rfl) ?_
      refine n_iast hx hb hK hP hD hS 3 0 rfl rfl od (by omega) (by decide) dX2_note_37 (fun H locs hP hD hS => ?_)
      have hP : va_P D vwCl [(oP, .inr (2, [.ref pS, .int (nI ln), .int (nI po), .ref pV, .ref pF, .ref pE, .int (nI od)])), (pS, .inl (K 1, 80, .inl cS)), (pV, .inl (K 0, 40, .inl (upd cV od xv))), (pF, .inl (K 0, 40, .inl (upd cF od xf))), (pE, .inl (K 0, 40, .inl cE))] H := hP
      have hD : va_D A [(oP, .inr (2, [.ref pS, .int (nI ln), .int (nI po), .ref pV, .ref pF, .ref pE, .int (nI od)])), (pS, .inl (K 1, 80, .inl cS)), (pV, .inl (K 0, 40, .inl (upd cV od xv))), (pF, .inl (K 0, 40, .inl (upd cF od xf))), (pE, .inl (K 0, 40, .inl cE))] := hD
      refine lv_aload_n hx hb dX2_note_38 rfl (lv_at hl 0 rfl) ?_
      refine va_get (D := D) (ci := 2) (v := .ref pE) (C := RX2) (T := TX2) (N := 7) hx hb hts hin2 hown hK hP 0 rfl rfl 5 (by decide) (hts _ (List.mem_of_getElem? (i := 4) rfl)) (fun _ h9 => h9) rfl dX2_note_39 ?_
      refine lv_aload_n hx hb dX2_note_42 rfl (lv_at hl 0 rfl) ?_
      refine va_get (D := D) (ci := 2) (v := .int (nI od)) (C := RX2) (T := TX2) (N := 7) hx hb hts hin2 hown hK hP 0 rfl rfl 6 (by decide) (hts _ (List.mem_of_getElem? (i := 1) rfl)) (fun _ h9 => h9) rfl dX2_note_43 ?_
      refine lv_iload_n hx hb dX2_note_46 rfl (lv_at hl 3 rfl) ?_
      refine n_iast hx hb hK hP hD hS 4 0 rfl rfl od (by omega) (by decide) dX2_note_47 (fun H locs hP hD hS => ?_)
      have hP : va_P D vwCl [(oP, .inr (2, [.ref pS, .int (nI ln), .int (nI po), .ref pV, .ref pF, .ref pE, .int (nI od)])), (pS, .inl (K 1, 80, .inl cS)), (pV, .inl (K 0, 40, .inl (upd cV od xv))), (pF, .inl (K 0, 40, .inl (upd cF od xf))), (pE, .inl (K 0, 40, .inl (upd cE od xs)))] H := hP
      have hD : va_D A [(oP, .inr (2, [.ref pS, .int (nI ln), .int (nI po), .ref pV, .ref pF, .ref pE, .int (nI od)])), (pS, .inl (K 1, 80, .inl cS)), (pV, .inl (K 0, 40, .inl (upd cV od xv))), (pF, .inl (K 0, 40, .inl (upd cF od xf))), (pE, .inl (K 0, 40, .inl (upd cE od xs)))] := hD
      refine lv_aload_n hx hb dX2_note_48 rfl (lv_at hl 0 rfl) ?_
      refine lv_dup hx hb dX2_note_49 rfl ?_
      refine va_get (D := D) (ci := 2) (v := .int (nI od)) (C := RX2) (T := TX2) (N := 7) hx hb hts hin2 hown hK hP 0 rfl rfl 6 (by decide) (hts _ (List.mem_of_getElem? (i := 1) rfl)) (fun _ h9 => h9) rfl dX2_note_50 ?_
      refine lv_iconst (v := 1) hx hb dX2_note_53 (by decide) ?_
      refine lv_iadd hx hb dX2_note_54 ?_
      refine st1 (nI_add od 1) ?_
      refine va_put (D := D) (ci := 2) (v := .int (nI (od + 1))) (ty := .int) (C := RX2) (T := TX2) (N := 7) hx hb hts hin2 tyX2 tyX2_ok nmX2 hown hK hP hD hS 0 rfl rfl 6 (by decide) (hts _ (List.mem_of_getElem? (i := 1) rfl)) (fun _ h9 => h9) rfl (by decide +kernel) rfl rfl (Nat.le_of_ble_eq_true rfl) dX2_note_55 (fun H locs hP hD hS => ?_)
      have hP : va_P D vwCl [(oP, .inr (2, [.ref pS, .int (nI ln), .int (nI po), .ref pV, .ref pF, .ref pE, .int (nI (od + 1))])), (pS, .inl (K 1, 80, .inl cS)), (pV, .inl (K 0, 40, .inl (upd cV od xv))), (pF, .inl (K 0, 40, .inl (upd cF od xf))), (pE, .inl (K 0, 40, .inl (upd cE od xs)))] H := hP
      have hD : va_D A [(oP, .inr (2, [.ref pS, .int (nI ln), .int (nI po), .ref pV, .ref pF, .ref pE, .int (nI (od + 1))])), (pS, .inl (K 1, 80, .inl cS)), (pV, .inl (K 0, 40, .inl (upd cV od xv))), (pF, .inl (K 0, 40, .inl (upd cF od xf))), (pE, .inl (K 0, 40, .inl (upd cE od xs)))] := hD
      refine lv_iconst (v := 1) hx hb dX2_note_58 (by decide) ?_
      have e_3 : n_X2_note_0_6 od = od + 1 := by unfold n_X2_note_0_6; rw [if_pos c_2]
      have e_4 : n_X2_note_2 cV od xv = (upd cV od xv) := by unfold n_X2_note_2; rw [if_pos c_2]
      have e_5 : n_X2_note_3 cF od xf = (upd cF od xf) := by unfold n_X2_note_3; rw [if_pos c_2]
      have e_6 : n_X2_note_4 cE od xs = (upd cE od xs) := by unfold n_X2_note_4; rw [if_pos c_2]
      have hPf : va_P D vwCl [(oP, .inr (2, [.ref pS, .int (nI ln), .int (nI po), .ref pV, .ref pF, .ref pE, .int (nI (n_X2_note_0_6 od))])), (pS, .inl (K 1, 80, .inl cS)), (pV, .inl (K 0, 40, .inl (n_X2_note_2 cV od xv))), (pF, .inl (K 0, 40, .inl (n_X2_note_3 cF od xf))), (pE, .inl (K 0, 40, .inl (n_X2_note_4 cE od xs)))] H := (by rw [e_3, e_4, e_5, e_6]; exact hP)
      exact W.zret hx hb hr rfl (fun t ht hW => ⟨⟨_, (), rfl, (by unfold r_X2_note; rw [if_pos c_2]), by show va_P D vwCl _ t.heap; rw [ht]; exact hPf⟩, hS.F ht⟩) hS.2.2 dX2_note_59
    · skip
      have nc_2 : ¬ (od < 40) := fun h => c_2 ((nI_ltI (a := od) (b := 40) (by omega) (by omega)).mpr h)
      refine lv_iconst (v := 0) hx hb dX2_note_16 (by decide) ?_
      have e_7 : n_X2_note_0_6 od = od := by unfold n_X2_note_0_6; rw [if_neg c_2]
      have e_8 : n_X2_note_2 cV od xv = cV := by unfold n_X2_note_2; rw [if_neg c_2]
      have e_9 : n_X2_note_3 cF od xf = cF := by unfold n_X2_note_3; rw [if_neg c_2]
      have e_10 : n_X2_note_4 cE od xs = cE := by unfold n_X2_note_4; rw [if_neg c_2]
      have hPf : va_P D vwCl [(oP, .inr (2, [.ref pS, .int (nI ln), .int (nI po), .ref pV, .ref pF, .ref pE, .int (nI (n_X2_note_0_6 od))])), (pS, .inl (K 1, 80, .inl cS)), (pV, .inl (K 0, 40, .inl (n_X2_note_2 cV od xv))), (pF, .inl (K 0, 40, .inl (n_X2_note_3 cF od xf))), (pE, .inl (K 0, 40, .inl (n_X2_note_4 cE od xs)))] H := (by rw [e_7, e_8, e_9, e_10]; exact hP)
      exact W.zret hx hb hr rfl (fun t ht hW => ⟨⟨_, (), rfl, (by unfold r_X2_note; rw [if_neg c_2]), by show va_P D vwCl _ t.heap; rw [ht]; exact hPf⟩, hS.F ht⟩) hS.2.2 dX2_note_17
  exact K0 s.heap [] ls hP hD hS hl
set_option maxHeartbeats 4000000 in
set_option maxRecDepth 100000 in
theorem c_X2_empty (l : Launch) (D : va_G) (K : Nat → ClassId) (oP : Nat) (pS : Nat) (pV : Nat) (pF : Nat) (pE : Nat) (cS : Nat → Int32) (ln : Nat) (po : Nat) (od : Nat)  : Met l yX2_empty wsX2_empty ({ frames := 0, cells := 0, slots := 0, locals := 0 }) (va_Pc [.ref oP] (fun U => Bd D K U ∧ va_P D vwCl [(oP, .inr (2, [.ref pS, .int (nI ln), .int (nI po), .ref pV, .ref pF, .ref pE, .int (nI od)]))] U.heap ∧ va_D (fun _ => True) [(oP, .inr (2, [.ref pS, .int (nI ln), .int (nI po), .ref pV, .ref pF, .ref pE, .int (nI od)]))])) (va_Qi (fun r (_ : Unit) => r = (nI ln)) (fun _ t => va_P D vwCl [(oP, .inr (2, [.ref pS, .int 0, .int (nI po), .ref pV, .ref pF, .ref pE, .int (nI od)]))] t.heap) (inW [(oP, .inr (2, [.ref pS, .int (nI ln), .int (nI po), .ref pV, .ref pF, .ref pE, .int (nI od)]))])) 0 0 (inW [(oP, .inr (2, [.ref pS, .int (nI ln), .int (nI po), .ref pV, .ref pF, .ref pE, .int (nI od)]))]) := by
  refine Met.ofW (cc := cX2_empty) (maxL := 2) (ret := (some .int)) (by decide) rfl ?_
  intro p e s m args below meth c s₁ B hml hv
  obtain ⟨rfl, hbd, hP, hD0⟩ := hv
  have hx := B.exec
  have hb := B.bytes
  have hr := B.returns
  have hts := atoms_spec (ws := wsX2_empty) B.pre
  have hown : s.vm.findClass RX2 = some m.cls := findClass_of_methodNamed B.named
  have hlocks := B.notSynchronized
  have hK := hbd.2
  have hP : va_P D vwCl [(oP, .inr (2, [.ref pS, .int (nI ln), .int (nI po), .ref pV, .ref pF, .ref pE, .int (nI od)]))] s.heap := hP
  have hin2 : ∀ w ∈ wsX20, w ∈ wsX2_empty := by decide +kernel
  have hD := hD0.own
  generalize hAe : inW [(oP, .inr (2, [.ref pS, .int (nI ln), .int (nI po), .ref pV, .ref pF, .ref pE, .int (nI od)]))] = A at hD ⊢
  have hS : va_S A s.heap s.heap [] := va_S.rf
  have hl := lv_entry ([.ref oP]) (n := 2) (Nat.le_of_ble_eq_true rfl)
  rw [lg_entry_eq]
  generalize (lg_sl ([.ref oP]) ++ List.replicate (2 - (lg_sl ([.ref oP])).length) Slot.unset).toArray = ls at hl ⊢
  have hl : lv_has ls 2 [(0, .ref oP)] := hl
  have K0 : ∀ (H : Heap) (locs : List Loc) (ls : Array Slot), va_P D vwCl [(oP, .inr (2, [.ref pS, .int (nI ln), .int (nI po), .ref pV, .ref pF, .ref pE, .int (nI od)]))] H → va_D A [(oP, .inr (2, [.ref pS, .int (nI ln), .int (nI po), .ref pV, .ref pF, .ref pE, .int (nI od)]))] → va_S A s.heap H locs → lv_has ls 2 [(0, .ref oP)] → W p l e (headSpec wsX2_empty ({ frames := 0, cells := 0, slots := 0, locals := 0 })).room s m ([.ref oP] : List Value).toArray below meth c H locs 0 0 (MQ below (va_Qi (fun r (_ : Unit) => r = (nI ln)) (fun _ t => va_P D vwCl [(oP, .inr (2, [.ref pS, .int 0, .int (nI po), .ref pV, .ref pF, .ref pE, .int (nI od)]))] t.heap) A) ([.ref oP] : List Value).toArray s 0 0 A) (F0 m 0 ls []) := by
    intro H locs ls hP hD hS hl
    refine lv_aload_n hx hb dX2_empty_0 rfl (lv_at hl 0 rfl) ?_
    refine va_get (D := D) (ci := 2) (v := .int (nI ln)) (C := RX2) (T := TX2) (N := 7) hx hb hts hin2 hown hK hP 0 rfl rfl 1 (by decide) (hts _ (List.mem_of_getElem? (i := 1) rfl)) (fun _ h9 => h9) rfl dX2_empty_1 ?_
    refine lv_istore_n (lv' := [(1, .int (nI ln)), (0, .ref oP)]) hx hb dX2_empty_4 rfl hl (by decide) rfl (fun ls hl => ?_)
    refine lv_aload_n hx hb dX2_empty_5 rfl (lv_at hl 1 rfl) ?_
    refine lv_iconst (v := 0) hx hb dX2_empty_6 (by decide) ?_
    refine va_put (D := D) (ci := 2) (v := .int 0) (ty := .int) (C := RX2) (T := TX2) (N := 7) hx hb hts hin2 tyX2 tyX2_ok nmX2 hown hK hP hD hS 0 rfl rfl 1 (by decide) (hts _ (List.mem_of_getElem? (i := 1) rfl)) (fun _ h9 => h9) rfl (by decide +kernel) rfl rfl (Nat.le_of_ble_eq_true rfl) dX2_empty_7 (fun H locs hP hD hS => ?_)
    have hP : va_P D vwCl [(oP, .inr (2, [.ref pS, .int 0, .int (nI po), .ref pV, .ref pF, .ref pE, .int (nI od)]))] H := hP
    have hD : va_D A [(oP, .inr (2, [.ref pS, .int 0, .int (nI po), .ref pV, .ref pF, .ref pE, .int (nI od)]))] := hD
    refine lv_iload_n hx hb dX2_empty_10 rfl (lv_at hl 0 rfl) ?_
    have hPf : va_P D vwCl [(oP, .inr (2, [.ref pS, .int 0, .int (nI po), .ref pV, .ref pF, .ref pE, .int (nI od)]))] H := hP
    exact W.iret hx hb hr (fun t ht hW => ⟨⟨_, (), rfl, rfl, by show va_P D vwCl _ t.heap; rw [ht]; exact hPf⟩, hS.F ht⟩) hS.2.2 dX2_empty_11
  exact K0 s.heap [] ls hP hD hS hl
theorem sg_lt {cS : Nat → Int32} {ln po : Nat} (h1 : ln ≤ 80) (h2 : po ≤ 80) (h : ¬ ((r_X2_signAt cS ln po) - 48) < 0) : po < ln := by
  rcases Nat.lt_or_ge po ln with c | c
  · exact c
  · refine absurd ?_ h
    unfold r_X2_signAt
    rw [if_pos (nI_le c (by omega))]
    decide
theorem sg_eq {cS : Nat → Int32} {ln po : Nat} {x : Int32} (h1 : ln ≤ 80) (h2 : po ≤ 80) (hx : ¬ x = 0) (h : (r_X2_signAt cS ln po) = x) : po < ln := by
  rcases Nat.lt_or_ge po ln with c | c
  · exact c
  · refine absurd ?_ hx
    rw [← h]
    unfold r_X2_signAt
    rw [if_pos (nI_le c (by omega))]
theorem nd_le {cS : Nat → Int32} {ln po : Nat} {xm : Int32} (h1 : ln ≤ 80) (h2 : po ≤ 80) : n_X2_scanDigit_0_2 cS ln po xm ≤ 80 := by
  unfold n_X2_scanDigit_0_2
  by_cases c : ((r_X2_signAt cS ln po) - 48) < 0
  · rw [if_pos c]; exact h2
  · have := sg_lt h1 h2 c
    rw [if_neg c]
    split <;> omega
theorem ns_le {cS : Nat → Int32} {ln po : Nat} {xc : Int32} (hx : ¬ xc = 0) (h1 : ln ≤ 80) (h2 : po ≤ 80) : n_X2_scanSign_0_2 cS ln po xc ≤ 80 := by
  unfold n_X2_scanSign_0_2
  by_cases c : (r_X2_signAt cS ln po) = xc
  · have := sg_eq h1 h2 hx c
    rw [if_pos c]; omega
  · rw [if_neg c]; exact h2
theorem vb_lt {cS : Nat → Int32} {ln po : Nat} (h1 : ln ≤ 80) (h2 : po ≤ 80) (h : ¬ (r_X2_isVerb (r_X2_signAt cS ln po)) = 0) : po < ln := by
  rcases Nat.lt_or_ge po ln with c | c
  · exact c
  · refine absurd ?_ h
    unfold r_X2_signAt
    rw [if_pos (nI_le c (by omega))]
    decide
/-- the digits behind a first one -/
def nuI (cS : Nat → Int32) (ln : Nat) : Nat → Int32 → Nat → Int32 × Nat
  | 0, v, p => (v, p)
  | f + 1, v, p => if v ≤ 0 then (v, p) else if ((r_X2_signAt cS ln p) - 48) < 0 then (v, p) else if 9 < ((r_X2_signAt cS ln p) - 48) then (v, p) else if ((10 * v) + ((r_X2_signAt cS ln p) - 48)) ≤ 9999 then nuI cS ln f ((10 * v) + ((r_X2_signAt cS ln p) - 48)) (p + 1) else (v, p)
theorem nuI_s (cS : Nat → Int32) (ln f : Nat) (v : Int32) (p : Nat) : nuI cS ln (f + 1) v p = if v ≤ 0 then (v, p) else if ((r_X2_signAt cS ln p) - 48) < 0 then (v, p) else if 9 < ((r_X2_signAt cS ln p) - 48) then (v, p) else if ((10 * v) + ((r_X2_signAt cS ln p) - 48)) ≤ 9999 then nuI cS ln f ((10 * v) + ((r_X2_signAt cS ln p) - 48)) (p + 1) else (v, p) := rfl
theorem nuI_le {cS : Nat → Int32} {ln : Nat} (h1 : ln ≤ 80) : ∀ (f : Nat) (v : Int32) (p : Nat), p ≤ 80 → (nuI cS ln f v p).2 ≤ 80
  | 0, _, _, h => h
  | f + 1, v, p, h => by
    rw [nuI_s]
    by_cases c1 : v ≤ 0
    · rw [if_pos c1]; exact h
    · rw [if_neg c1]
      by_cases c2 : ((r_X2_signAt cS ln p) - 48) < 0
      · rw [if_pos c2]; exact h
      · have := sg_lt h1 h c2
        rw [if_neg c2]
        by_cases c3 : 9 < ((r_X2_signAt cS ln p) - 48)
        · rw [if_pos c3]; exact h
        · rw [if_neg c3]
          by_cases c4 : ((10 * v) + ((r_X2_signAt cS ln p) - 48)) ≤ 9999
          · rw [if_pos c4]; exact nuI_le h1 f _ (p + 1) (by omega)
          · rw [if_neg c4]; exact h
def nuR (cS : Nat → Int32) (ln po : Nat) : Int32 × Nat := nuI cS ln 4 (r_X2_scanDigit cS ln po 9) (n_X2_scanDigit_0_2 cS ln po 9)
theorem nuR_le {cS : Nat → Int32} {ln po : Nat} (h1 : ln ≤ 80) (h2 : po ≤ 80) : (nuR cS ln po).2 ≤ 80 := nuI_le h1 4 _ _ (nd_le h1 h2)
set_option maxHeartbeats 4000000 in
set_option maxRecDepth 100000 in
theorem c_X2_scanNumber (l : Launch) (D : va_G) (K : Nat → ClassId) (oP : Nat) (pS : Nat) (pV : Nat) (pF : Nat) (pE : Nat) (cS : Nat → Int32) (ln : Nat) (po : Nat) (od : Nat) (hln : ln ≤ 80) (hpo : po ≤ 80) : Met l yX2_scanNumber wsX2_scanNumber ({ frames := 2, cells := 0, slots := 0, locals := 42 }) (va_Pc [.ref oP] (fun U => Bd D K U ∧ va_P D vwCl [(oP, .inr (2, [.ref pS, .int (nI ln), .int (nI po), .ref pV, .ref pF, .ref pE, .int (nI od)])), (pS, .inl (K 1, 80, .inl cS))] U.heap ∧ va_D (fun _ => True) [(oP, .inr (2, [.ref pS, .int (nI ln), .int (nI po), .ref pV, .ref pF, .ref pE, .int (nI od)])), (pS, .inl (K 1, 80, .inl cS))])) (va_Qi (fun r (_ : Unit) => r = ((nuR cS ln po).1)) (fun _ t => va_P D vwCl [(oP, .inr (2, [.ref pS, .int (nI ln), .int (nI ((nuR cS ln po).2)), .ref pV, .ref pF, .ref pE, .int (nI od)])), (pS, .inl (K 1, 80, .inl cS))] t.heap) (inW [(oP, .inr (2, [.ref pS, .int (nI ln), .int (nI po), .ref pV, .ref pF, .ref pE, .int (nI od)])), (pS, .inl (K 1, 80, .inl cS))])) 0 0 (inW [(oP, .inr (2, [.ref pS, .int (nI ln), .int (nI po), .ref pV, .ref pF, .ref pE, .int (nI od)])), (pS, .inl (K 1, 80, .inl cS))]) := by
  refine Met.ofW (cc := cX2_scanNumber) (maxL := 4) (ret := (some .int)) (by decide) rfl ?_
  intro p e s m args below meth c s₁ B hml hv
  obtain ⟨rfl, hbd, hP, hD0⟩ := hv
  have hx := B.exec
  have hb := B.bytes
  have hr := B.returns
  have hts := atoms_spec (ws := wsX2_scanNumber) B.pre
  have hown : s.vm.findClass RX2 = some m.cls := findClass_of_methodNamed B.named
  have hlocks := B.notSynchronized
  have hK := hbd.2
  have hP : va_P D vwCl [(oP, .inr (2, [.ref pS, .int (nI ln), .int (nI po), .ref pV, .ref pF, .ref pE, .int (nI od)])), (pS, .inl (K 1, 80, .inl cS))] s.heap := hP
  have hin2 : ∀ w ∈ wsX20, w ∈ wsX2_scanNumber := by decide +kernel
  have hD := hD0.own
  generalize hAe : inW [(oP, .inr (2, [.ref pS, .int (nI ln), .int (nI po), .ref pV, .ref pF, .ref pE, .int (nI od)])), (pS, .inl (K 1, 80, .inl cS))] = A at hD ⊢
  have hS : va_S A s.heap s.heap [] := va_S.rf
  have hl := lv_entry ([.ref oP]) (n := 4) (Nat.le_of_ble_eq_true rfl)
  rw [lg_entry_eq]
  generalize (lg_sl ([.ref oP]) ++ List.replicate (4 - (lg_sl ([.ref oP])).length) Slot.unset).toArray = ls at hl ⊢
  have hl : lv_has ls 4 [(0, .ref oP)] := hl
  have K0 : ∀ (H : Heap) (locs : List Loc) (ls : Array Slot), va_P D vwCl [(oP, .inr (2, [.ref pS, .int (nI ln), .int (nI po), .ref pV, .ref pF, .ref pE, .int (nI od)])), (pS, .inl (K 1, 80, .inl cS))] H → va_D A [(oP, .inr (2, [.ref pS, .int (nI ln), .int (nI po), .ref pV, .ref pF, .ref pE, .int (nI od)])), (pS, .inl (K 1, 80, .inl cS))] → va_S A s.heap H locs → lv_has ls 4 [(0, .ref oP)] → W p l e (headSpec wsX2_scanNumber ({ frames := 2, cells := 0, slots := 0, locals := 42 })).room s m ([.ref oP] : List Value).toArray below meth c H locs 0 0 (MQ below (va_Qi (fun r (_ : Unit) => r = ((nuR cS ln po).1)) (fun _ t => va_P D vwCl [(oP, .inr (2, [.ref pS, .int (nI ln), .int (nI ((nuR cS ln po).2)), .ref pV, .ref pF, .ref pE, .int (nI od)])), (pS, .inl (K 1, 80, .inl cS))] t.heap) A) ([.ref oP] : List Value).toArray s 0 0 A) (F0 m 0 ls []) := by
    intro H locs ls hP hD hS hl
    refine lv_aload_n hx hb dX2_scanNumber_0 rfl (lv_at hl 0 rfl) ?_
    refine lv_bipush (v := 9) hx hb dX2_scanNumber_1 (by decide) ?_
    have hPc := hP.sub (ws' := [(oP, .inr (2, [.ref pS, .int (nI ln), .int (nI po), .ref pV, .ref pF, .ref pE, .int (nI od)])), (pS, .inl (K 1, 80, .inl cS))]) [0, 1] rfl
    have hDc : va_D (fun _ => True) [(oP, .inr (2, [.ref pS, .int (nI ln), .int (nI po), .ref pV, .ref pF, .ref pE, .int (nI od)])), (pS, .inl (K 1, 80, .inl cS))] := (hD.sub (ws' := [(oP, .inr (2, [.ref pS, .int (nI ln), .int (nI po), .ref pV, .ref pF, .ref pE, .int (nI od)])), (pS, .inl (K 1, 80, .inl cS))]) [0, 1] (by decide +kernel) rfl).weaken (fun _ _ _ _ => trivial)
    refine kw_i (W1 := [(oP, .inr (2, [.ref pS, .int (nI ln), .int (nI (n_X2_scanDigit_0_2 cS ln po 9)), .ref pV, .ref pF, .ref pE, .int (nI od)])), (pS, .inl (K 1, 80, .inl cS))]) (w1 := [(oP, .inr (2, [.ref pS, .int (nI ln), .int (nI (n_X2_scanDigit_0_2 cS ln po 9)), .ref pV, .ref pF, .ref pE, .int (nI od)])), (pS, .inl (K 1, 80, .inl cS))]) (va_runV (As := [.int 9]) (rest := []) ⟨hx, hb, hml, hown, hts⟩ (c_X2_scanDigit l D K oP pS pV pF pE cS ln po od 9 hln (by omega)) (cwV 1 hts gX2_scanNumber_X2_scanDigit rfl rfl rfl (by decide +kernel) ⟨Nat.le_of_ble_eq_true rfl, Nat.le_of_ble_eq_true rfl⟩) (pre_wr hbd hPc hDc (ci := 2) (q0 := 0) rfl rfl) rfl rfl hl.1 rfl (lv_room (Nat.le_of_ble_eq_true rfl)) dX2_scanNumber_3 ⟨Nat.zero_le _, Nat.zero_le _⟩) hP hD hS [0, 1] [] 2 rfl rfl rfl (Eq.trans (b := List.map some ([])) rfl rfl) (by decide +kernel) (by decide +kernel) (by simp only [List.map_append, drW_fst, List.map_cons, List.map_nil]) (fun r_1 H locs hr_1 hP hD hS => ?_)
    refine st1 hr_1 ?_
    have hp0 := nd_le (cS := cS) (xm := 9) hln hpo
    refine lv_istore_n (lv' := [(1, .int (r_X2_scanDigit cS ln po 9)), (0, .ref oP)]) hx hb dX2_scanNumber_6 rfl hl (by decide) rfl (fun ls hl => ?_)
    refine lv_iconst (v := 0) hx hb dX2_scanNumber_7 (by decide) ?_
    refine lv_istore_n (lv' := [(2, .int 0), (1, .int (r_X2_scanDigit cS ln po 9)), (0, .ref oP)]) hx hb dX2_scanNumber_8 rfl hl (by decide) rfl (fun ls hl => ?_)
    have L_2 : ∀ (nf : Nat) (q : Nat) (v : Int32) (p_ : Nat), 4 - q < nf → q ≤ 4 → p_ ≤ 80 → nuI cS ln (4 - q) v p_ = nuR cS ln po → ∀ (H : Heap) (locs : List Loc) (ls : Array Slot), va_P D vwCl [(oP, .inr (2, [.ref pS, .int (nI ln), .int (nI p_), .ref pV, .ref pF, .ref pE, .int (nI od)])), (pS, .inl (K 1, 80, .inl cS))] H → va_D A [(oP, .inr (2, [.ref pS, .int (nI ln), .int (nI p_), .ref pV, .ref pF, .ref pE, .int (nI od)])), (pS, .inl (K 1, 80, .inl cS))] → va_S A s.heap H locs → lv_has ls 4 [(2, .int (nI q)), (1, .int v), (0, .ref oP)] → W p l e (headSpec wsX2_scanNumber ({ frames := 2, cells := 0, slots := 0, locals := 42 })).room s m ([.ref oP] : List Value).toArray below meth c H locs 0 0 (MQ below (va_Qi (fun r (_ : Unit) => r = ((nuR cS ln po).1)) (fun _ t => va_P D vwCl [(oP, .inr (2, [.ref pS, .int (nI ln), .int (nI ((nuR cS ln po).2)), .ref pV, .ref pF, .ref pE, .int (nI od)])), (pS, .inl (K 1, 80, .inl cS))] t.heap) A) ([.ref oP] : List Value).toArray s 0 0 A) (F0 m 9 ls []) := by
      intro nf
      induction nf with
      | zero =>
        intro q v p_ hm
        exact absurd hm (Nat.not_lt_zero _)
      | succ nf ih =>
        intro q v p_ hm hq hp_ hinv H locs ls hP hD hS hl
        refine lv_iload_n hx hb dX2_scanNumber_9 rfl (lv_at hl 0 rfl) ?_
        refine lv_iconst (v := 4) hx hb dX2_scanNumber_10 (by decide) ?_
        refine lv_icmp_ge (tgt := 74) hx hb dX2_scanNumber_11 (by decide) (fun c_3 => ?_) (fun c_3 => ?_)
        · skip
          have nc_3 := (nI_leI (a := 4) (b := q) (by omega) (by omega)).mp c_3
          refine lv_iload_n hx hb dX2_scanNumber_74 rfl (lv_at hl 1 rfl) ?_
          have e4 : q = 4 := by omega
          subst e4
          have e9 : (v, p_) = nuR cS ln po := hinv
          have hPf : va_P D vwCl [(oP, .inr (2, [.ref pS, .int (nI ln), .int (nI ((nuR cS ln po).2)), .ref pV, .ref pF, .ref pE, .int (nI od)])), (pS, .inl (K 1, 80, .inl cS))] H := by rw [← e9]; exact hP
          exact W.iret hx hb hr (fun t ht hW => ⟨⟨_, (), rfl, (by rw [← e9]), by show va_P D vwCl _ t.heap; rw [ht]; exact hPf⟩, hS.F ht⟩) hS.2.2 dX2_scanNumber_75
        · skip
          have nc_3 : ¬ (4 ≤ q) := fun h => c_3 ((nI_leI (a := 4) (b := q) (by omega) (by omega)).mpr h)
          refine lv_iload_n hx hb dX2_scanNumber_14 rfl (lv_at hl 1 rfl) ?_
          refine lv_if_le (tgt := 74) hx hb dX2_scanNumber_15 (by decide) (fun c_4 => ?_) (fun c_4 => ?_)
          · skip
            refine lv_iload_n hx hb dX2_scanNumber_74 rfl (lv_at hl 1 rfl) ?_
            have e9 : (v, p_) = nuR cS ln po := by rw [← hinv, show 4 - q = (3 - q) + 1 by omega, nuI_s, if_pos c_4]
            have hPf : va_P D vwCl [(oP, .inr (2, [.ref pS, .int (nI ln), .int (nI ((nuR cS ln po).2)), .ref pV, .ref pF, .ref pE, .int (nI od)])), (pS, .inl (K 1, 80, .inl cS))] H := by rw [← e9]; exact hP
            exact W.iret hx hb hr (fun t ht hW => ⟨⟨_, (), rfl, (by rw [← e9]), by show va_P D vwCl _ t.heap; rw [ht]; exact hPf⟩, hS.F ht⟩) hS.2.2 dX2_scanNumber_75
          · skip
            refine lv_aload_n hx hb dX2_scanNumber_18 rfl (lv_at hl 2 rfl) ?_
            have hPc := hP.sub (ws' := [(oP, .inr (2, [.ref pS, .int (nI ln), .int (nI p_), .ref pV, .ref pF, .ref pE, .int (nI od)])), (pS, .inl (K 1, 80, .inl cS))]) [0, 1] rfl
            refine vp_callSi (va_Run.run (va_runV (As := []) (rest := []) ⟨hx, hb, hml, hown, hts⟩ (c_X2_signAt l D K oP pS pV pF pE cS ln p_ od hln (by omega)) (cwV 0 hts gX2_scanNumber_X2_signAt rfl rfl rfl (by decide +kernel) ⟨Nat.le_of_ble_eq_true rfl, Nat.le_of_ble_eq_true rfl⟩) (pre_rd hbd hPc (ci := 2) (q0 := 0) rfl rfl) rfl rfl hl.1 rfl (lv_room (Nat.le_of_ble_eq_true rfl)) dX2_scanNumber_19 ⟨Nat.zero_le _, Nat.zero_le _⟩)) (fun r_5 hr_5 => ?_)
            refine st1 hr_5 ?_
            refine lv_bipush (v := 48) hx hb dX2_scanNumber_22 (by decide) ?_
            refine lv_isub hx hb dX2_scanNumber_24 ?_
            refine lv_istore_n (lv' := [(3, .int ((r_X2_signAt cS ln p_) - 48)), (2, .int (nI q)), (1, .int v), (0, .ref oP)]) hx hb dX2_scanNumber_25 rfl hl (by decide) rfl (fun ls hl => ?_)
            refine lv_iload_n hx hb dX2_scanNumber_26 rfl (lv_at hl 0 rfl) ?_
            refine lv_if_lt (tgt := 74) hx hb dX2_scanNumber_27 (by decide) (fun c_6 => ?_) (fun c_6 => ?_)
            · skip
              refine lv_iload_n hx hb dX2_scanNumber_74 rfl (lv_at hl 2 rfl) ?_
              have e9 : (v, p_) = nuR cS ln po := by rw [← hinv, show 4 - q = (3 - q) + 1 by omega, nuI_s, if_neg c_4, if_pos c_6]
              have hPf : va_P D vwCl [(oP, .inr (2, [.ref pS, .int (nI ln), .int (nI ((nuR cS ln po).2)), .ref pV, .ref pF, .ref pE, .int (nI od)])), (pS, .inl (K 1, 80, .inl cS))] H := by rw [← e9]; exact hP
              exact W.iret hx hb hr (fun t ht hW => ⟨⟨_, (), rfl, (by rw [← e9]), by show va_P D vwCl _ t.heap; rw [ht]; exact hPf⟩, hS.F ht⟩) hS.2.2 dX2_scanNumber_75
            · skip
              have hc_6 := sg_lt hln hp_ c_6
              refine lv_iload_n hx hb dX2_scanNumber_30 rfl (lv_at hl 0 rfl) ?_
              refine lv_bipush (v := 9) hx hb dX2_scanNumber_31 (by decide) ?_
              refine lv_icmp_gt (tgt := 74) hx hb dX2_scanNumber_33 (by decide) (fun c_7 => ?_) (fun c_7 => ?_)
              · skip
                refine lv_iload_n hx hb dX2_scanNumber_74 rfl (lv_at hl 2 rfl) ?_
                have e9 : (v, p_) = nuR cS ln po := by rw [← hinv, show 4 - q = (3 - q) + 1 by omega, nuI_s, if_neg c_4, if_neg c_6, if_pos c_7]
                have hPf : va_P D vwCl [(oP, .inr (2, [.ref pS, .int (nI ln), .int (nI ((nuR cS ln po).2)), .ref pV, .ref pF, .ref pE, .int (nI od)])), (pS, .inl (K 1, 80, .inl cS))] H := by rw [← e9]; exact hP
                exact W.iret hx hb hr (fun t ht hW => ⟨⟨_, (), rfl, (by rw [← e9]), by show va_P D vwCl _ t.heap; rw [ht]; exact hPf⟩, hS.F ht⟩) hS.2.2 dX2_scanNumber_75
              · skip
                refine lv_bipush (v := 10) hx hb dX2_scanNumber_36 (by decide) ?_
                refine lv_iload_n hx hb dX2_scanNumber_38 rfl (lv_at hl 2 rfl) ?_
                refine lv_imul hx hb dX2_scanNumber_39 ?_
                refine lv_iload_n hx hb dX2_scanNumber_40 rfl (lv_at hl 0 rfl) ?_
                refine lv_iadd hx hb dX2_scanNumber_41 ?_
                refine lv_sipush (v := 9999) hx hb dX2_scanNumber_42 (by decide) ?_
                refine lv_icmp_le (tgt := 51) hx hb dX2_scanNumber_45 (by decide) (fun c_8 => ?_) (fun c_8 => ?_)
                · skip
                  refine lv_bipush (v := 10) hx hb dX2_scanNumber_51 (by decide) ?_
                  refine lv_iload_n hx hb dX2_scanNumber_53 rfl (lv_at hl 2 rfl) ?_
                  refine lv_imul hx hb dX2_scanNumber_54 ?_
                  refine lv_iload_n hx hb dX2_scanNumber_55 rfl (lv_at hl 0 rfl) ?_
                  refine lv_iadd hx hb dX2_scanNumber_56 ?_
                  refine lv_istore_n (lv' := [(1, .int ((10 * v) + ((r_X2_signAt cS ln p_) - 48))), (3, .int ((r_X2_signAt cS ln p_) - 48)), (2, .int (nI q)), (0, .ref oP)]) hx hb dX2_scanNumber_57 rfl hl (by decide) rfl (fun ls hl => ?_)
                  refine lv_aload_n hx hb dX2_scanNumber_58 rfl (lv_at hl 3 rfl) ?_
                  refine lv_dup hx hb dX2_scanNumber_59 rfl ?_
                  refine va_get (D := D) (ci := 2) (v := .int (nI p_)) (C := RX2) (T := TX2) (N := 7) hx hb hts hin2 hown hK hP 0 rfl rfl 2 (by decide) (hts _ (List.mem_of_getElem? (i := 1) rfl)) (fun _ h9 => h9) rfl dX2_scanNumber_60 ?_
                  refine lv_iconst (v := 1) hx hb dX2_scanNumber_63 (by decide) ?_
                  refine lv_iadd hx hb dX2_scanNumber_64 ?_
                  refine st1 (nI_add p_ 1) ?_
                  refine va_put (D := D) (ci := 2) (v := .int (nI (p_ + 1))) (ty := .int) (C := RX2) (T := TX2) (N := 7) hx hb hts hin2 tyX2 tyX2_ok nmX2 hown hK hP hD hS 0 rfl rfl 2 (by decide) (hts _ (List.mem_of_getElem? (i := 1) rfl)) (fun _ h9 => h9) rfl (by decide +kernel) rfl rfl (Nat.le_of_ble_eq_true rfl) dX2_scanNumber_65 (fun H locs hP hD hS => ?_)
                  have hP : va_P D vwCl [(oP, .inr (2, [.ref pS, .int (nI ln), .int (nI (p_ + 1)), .ref pV, .ref pF, .ref pE, .int (nI od)])), (pS, .inl (K 1, 80, .inl cS))] H := hP
                  have hD : va_D A [(oP, .inr (2, [.ref pS, .int (nI ln), .int (nI (p_ + 1)), .ref pV, .ref pF, .ref pE, .int (nI od)])), (pS, .inl (K 1, 80, .inl cS))] := hD
                  refine lv_iinc (v := (nI (q + 1))) (lv' := [(2, .int (nI (q + 1))), (1, .int ((10 * v) + ((r_X2_signAt cS ln p_) - 48))), (3, .int ((r_X2_signAt cS ln p_) - 48)), (0, .ref oP)]) hx hb dX2_scanNumber_68 hl (k := 2) rfl (nI_add q 1) (by decide) rfl (fun ls hl => ?_)
                  refine lv_goto (tgt := 9) hx hb dX2_scanNumber_71 (by decide) ?_
                  exact ih (q + 1) ((10 * v) + ((r_X2_signAt cS ln p_) - 48)) (p_ + 1) (by omega) (by omega) (by omega) (by rw [← hinv, show 4 - q = (4 - (q + 1)) + 1 by omega, nuI_s, if_neg c_4, if_neg c_6, if_neg c_7, if_pos c_8]) _ _ _ hP hD hS (lv_sub hl [0, 1, 3] rfl)
                · skip
                  refine lv_goto (tgt := 74) hx hb dX2_scanNumber_48 (by decide) ?_
                  refine lv_iload_n hx hb dX2_scanNumber_74 rfl (lv_at hl 2 rfl) ?_
                  have e9 : (v, p_) = nuR cS ln po := by rw [← hinv, show 4 - q = (3 - q) + 1 by omega, nuI_s, if_neg c_4, if_neg c_6, if_neg c_7, if_neg c_8]
                  have hPf : va_P D vwCl [(oP, .inr (2, [.ref pS, .int (nI ln), .int (nI ((nuR cS ln po).2)), .ref pV, .ref pF, .ref pE, .int (nI od)])), (pS, .inl (K 1, 80, .inl cS))] H := by rw [← e9]; exact hP
                  exact W.iret hx hb hr (fun t ht hW => ⟨⟨_, (), rfl, (by rw [← e9]), by show va_P D vwCl _ t.heap; rw [ht]; exact hPf⟩, hS.F ht⟩) hS.2.2 dX2_scanNumber_75
    exact L_2 _ 0 (r_X2_scanDigit cS ln po 9) (n_X2_scanDigit_0_2 cS ln po 9) (Nat.lt_succ_self _) (by omega) (by omega) rfl H locs ls hP hD hS (lv_sub hl [0, 1, 2] rfl)
  exact K0 s.heap [] ls hP hD hS hl
