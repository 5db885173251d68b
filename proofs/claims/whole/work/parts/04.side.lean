theorem zl0 : narrow .boolean (.int 0) = .int 0 := rfl
theorem zl1 : narrow .boolean (.int 1) = .int 1 := rfl
def sumF (a x d : Int32) : Int32 := (((7 * a) + (13 * x)) + d) - (((7 * a) + (13 * x)) + d) / 97 * 97
set_option maxHeartbeats 4000000 in
set_option maxRecDepth 100000 in
theorem c_X3_sumOf (l : Launch) (D : va_G) (K : Nat → ClassId) (xa : Int32) (xr : Int32) (xd : Int32)  : Met l yX3_sumOf wsX3_sumOf ({ frames := 0, cells := 0, slots := 0, locals := 0 }) (va_Pc [.int xa, .int xr, .int xd] (fun _ => True)) (vp_Si (fun r => r = (sumF xa xr xd))) 0 0 (fun _ => False) := by
  refine Met.ofW (cc := cX3_sumOf) (maxL := 3) (ret := (some .int)) (by decide) rfl ?_
  intro p e s m args below meth c s₁ B hml hv
  obtain ⟨rfl, -⟩ := hv
  have hx := B.exec
  have hb := B.bytes
  have hr := B.returns
  have hts := atoms_spec (ws := wsX3_sumOf) B.pre
  have hown : s.vm.findClass RX3 = some m.cls := findClass_of_methodNamed B.named
  have hlocks := B.notSynchronized
  have hl := lv_entry ([.int xa, .int xr, .int xd]) (n := 3) (Nat.le_of_ble_eq_true rfl)
  rw [lg_entry_eq]
  generalize (lg_sl ([.int xa, .int xr, .int xd]) ++ List.replicate (3 - (lg_sl ([.int xa, .int xr, .int xd])).length) Slot.unset).toArray = ls at hl ⊢
  have hl : lv_has ls 3 [(0, .int xa), (1, .int xr), (2, .int xd)] := hl
  refine lv_bipush (v := 7) hx hb dX3_sumOf_0 (by decide) ?_
  refine lv_iload_n hx hb dX3_sumOf_2 rfl (lv_at hl 0 rfl) ?_
  refine lv_imul hx hb dX3_sumOf_3 ?_
  refine lv_bipush (v := 13) hx hb dX3_sumOf_4 (by decide) ?_
  refine lv_iload_n hx hb dX3_sumOf_6 rfl (lv_at hl 1 rfl) ?_
  refine lv_imul hx hb dX3_sumOf_7 ?_
  refine lv_iadd hx hb dX3_sumOf_8 ?_
  refine lv_iload_n hx hb dX3_sumOf_9 rfl (lv_at hl 2 rfl) ?_
  refine lv_iadd hx hb dX3_sumOf_10 ?_
  refine lv_bipush (v := 97) hx hb dX3_sumOf_11 (by decide) ?_
  refine lv_irem hx hb dX3_sumOf_13 (by decide) ?_
  exact W.iret hx hb hr (fun t ht hW => ⟨_, rfl, rfl, ht⟩) (fun q hq => absurd hq List.not_mem_nil) dX3_sumOf_14
def r_X3_lies (fr : Nat → Int32) (j : Nat) : Int32 := (if (fr j) = 0 then 0 else 1)
theorem z_r_X3_lies {fr : Nat → Int32} {j : Nat} : narrow .boolean (.int (r_X3_lies fr j)) = .int (r_X3_lies fr j) := by
  unfold r_X3_lies
  repeat' split
  all_goals first | with_reducible exact zl0 | with_reducible exact zl1
set_option maxHeartbeats 4000000 in
set_option maxRecDepth 100000 in
theorem c_X3_lies (l : Launch) (D : va_G) (K : Nat → ClassId) (oh : Nat) (aA : Nat) (aR : Nat) (aD : Nat) (aS : Nat) (fa : Nat → Int32) (fr : Nat → Int32) (fd : Nat → Int32) (fs : Nat → Int32) (wt : Int32) (j : Nat) (hj : j < 32) : Met l yX3_lies wsX3_lies ({ frames := 0, cells := 0, slots := 0, locals := 0 }) (va_Pc [.ref oh, .int (nI j)] (fun U => Bd D K U ∧ va_P D vwCl [(oh, .inr (3, [.ref aA, .ref aR, .ref aD, .ref aS, .int wt])), (aA, .inl (K 0, 32, .inl fa)), (aR, .inl (K 0, 32, .inl fr)), (aD, .inl (K 0, 32, .inl fd)), (aS, .inl (K 0, 32, .inl fs))] U.heap)) (vp_Si (fun r => r = (r_X3_lies fr j))) 0 0 (fun _ => False) := by
  refine Met.ofW (cc := cX3_lies) (maxL := 2) (ret := (some .boolean)) (by decide) rfl ?_
  intro p e s m args below meth c s₁ B hml hv
  obtain ⟨rfl, hbd, hP⟩ := hv
  have hx := B.exec
  have hb := B.bytes
  have hr := B.returns
  have hts := atoms_spec (ws := wsX3_lies) B.pre
  have hown : s.vm.findClass RX3 = some m.cls := findClass_of_methodNamed B.named
  have hlocks := B.notSynchronized
  have hK := hbd.2
  have hP : va_P D vwCl [(oh, .inr (3, [.ref aA, .ref aR, .ref aD, .ref aS, .int wt])), (aA, .inl (K 0, 32, .inl fa)), (aR, .inl (K 0, 32, .inl fr)), (aD, .inl (K 0, 32, .inl fd)), (aS, .inl (K 0, 32, .inl fs))] s.heap := hP
  have hin3 : ∀ w ∈ wsX30, w ∈ wsX3_lies := by decide +kernel
  have hl := lv_entry ([.ref oh, .int (nI j)]) (n := 2) (Nat.le_of_ble_eq_true rfl)
  rw [lg_entry_eq]
  generalize (lg_sl ([.ref oh, .int (nI j)]) ++ List.replicate (2 - (lg_sl ([.ref oh, .int (nI j)])).length) Slot.unset).toArray = ls at hl ⊢
  have hl : lv_has ls 2 [(0, .ref oh), (1, .int (nI j))] := hl
  refine lv_iload_n hx hb dX3_lies_0 rfl (lv_at hl 1 rfl) ?_
  refine lv_if_lt (tgt := 23) hx hb dX3_lies_1 (by decide) (fun h_1 => absurd h_1 (nI_nlt (a := j) (b := 0) (by omega) (by omega))) (fun _ => ?_)
  refine lv_iload_n hx hb dX3_lies_4 rfl (lv_at hl 1 rfl) ?_
  refine lv_bipush (v := 32) hx hb dX3_lies_5 (by decide) ?_
  refine lv_icmp_ge (tgt := 23) hx hb dX3_lies_7 (by decide) (fun h_2 => absurd h_2 (nI_ge (a := j) (b := 32) (by omega) (by omega))) (fun _ => ?_)
  refine lv_aload_n hx hb dX3_lies_10 rfl (lv_at hl 0 rfl) ?_
  refine va_get (D := D) (ci := 3) (v := .ref aR) (C := RX3) (T := TX3) (N := 5) hx hb hts hin3 hown hK hP 0 rfl rfl 1 (by decide) (hts _ (List.mem_of_getElem? (i := 1) rfl)) (fun _ h9 => h9) rfl dX3_lies_11 ?_
  refine lv_iload_n hx hb dX3_lies_14 rfl (lv_at hl 1 rfl) ?_
  refine n_iald hx hb hK hP 2 0 rfl rfl j (by omega) (by decide) dX3_lies_15 ?_
  refine lv_if_eq (tgt := 23) hx hb dX3_lies_16 (by decide) (fun c_3 => ?_) (fun c_3 => ?_)
  · skip
    refine lv_iconst (v := 0) hx hb dX3_lies_23 (by decide) ?_
    exact W.zret hx hb hr rfl (fun t ht hW => ⟨_, rfl, (by unfold r_X3_lies; rw [if_pos c_3]), ht⟩) (fun q hq => absurd hq List.not_mem_nil) dX3_lies_24
  · skip
    refine lv_iconst (v := 1) hx hb dX3_lies_19 (by decide) ?_
    refine lv_goto (tgt := 24) hx hb dX3_lies_20 (by decide) ?_
    exact W.zret hx hb hr rfl (fun t ht hW => ⟨_, rfl, (by unfold r_X3_lies; rw [if_neg c_3]), ht⟩) (fun q hq => absurd hq List.not_mem_nil) dX3_lies_24
def r_X3_isWhole (fa : Nat → Int32) (fr : Nat → Int32) (fd : Nat → Int32) (fs : Nat → Int32) (j : Nat) : Int32 := (if (r_X3_lies fr j) = 0 then 0 else (if (fs j) = (sumF (fa j) (fr j) (fd j)) then 1 else 0))
theorem z_r_X3_isWhole {fa : Nat → Int32} {fr : Nat → Int32} {fd : Nat → Int32} {fs : Nat → Int32} {j : Nat} : narrow .boolean (.int (r_X3_isWhole fa fr fd fs j)) = .int (r_X3_isWhole fa fr fd fs j) := by
  unfold r_X3_isWhole
  repeat' split
  all_goals first | with_reducible exact zl0 | with_reducible exact zl1
set_option maxHeartbeats 4000000 in
set_option maxRecDepth 100000 in
theorem c_X3_isWhole (l : Launch) (D : va_G) (K : Nat → ClassId) (oh : Nat) (aA : Nat) (aR : Nat) (aD : Nat) (aS : Nat) (fa : Nat → Int32) (fr : Nat → Int32) (fd : Nat → Int32) (fs : Nat → Int32) (wt : Int32) (j : Nat) (hj : j < 32) : Met l yX3_isWhole wsX3_isWhole ({ frames := 1, cells := 0, slots := 0, locals := 22 }) (va_Pc [.ref oh, .int (nI j)] (fun U => Bd D K U ∧ va_P D vwCl [(oh, .inr (3, [.ref aA, .ref aR, .ref aD, .ref aS, .int wt])), (aA, .inl (K 0, 32, .inl fa)), (aR, .inl (K 0, 32, .inl fr)), (aD, .inl (K 0, 32, .inl fd)), (aS, .inl (K 0, 32, .inl fs))] U.heap)) (vp_Si (fun r => r = (r_X3_isWhole fa fr fd fs j))) 0 0 (fun _ => False) := by
  refine Met.ofW (cc := cX3_isWhole) (maxL := 2) (ret := (some .boolean)) (by decide) rfl ?_
  intro p e s m args below meth c s₁ B hml hv
  obtain ⟨rfl, hbd, hP⟩ := hv
  have hx := B.exec
  have hb := B.bytes
  have hr := B.returns
  have hts := atoms_spec (ws := wsX3_isWhole) B.pre
  have hown : s.vm.findClass RX3 = some m.cls := findClass_of_methodNamed B.named
  have hlocks := B.notSynchronized
  have hK := hbd.2
  have hP : va_P D vwCl [(oh, .inr (3, [.ref aA, .ref aR, .ref aD, .ref aS, .int wt])), (aA, .inl (K 0, 32, .inl fa)), (aR, .inl (K 0, 32, .inl fr)), (aD, .inl (K 0, 32, .inl fd)), (aS, .inl (K 0, 32, .inl fs))] s.heap := hP
  have hin3 : ∀ w ∈ wsX30, w ∈ wsX3_isWhole := by decide +kernel
  have hl := lv_entry ([.ref oh, .int (nI j)]) (n := 2) (Nat.le_of_ble_eq_true rfl)
  rw [lg_entry_eq]
  generalize (lg_sl ([.ref oh, .int (nI j)]) ++ List.replicate (2 - (lg_sl ([.ref oh, .int (nI j)])).length) Slot.unset).toArray = ls at hl ⊢
  have hl : lv_has ls 2 [(0, .ref oh), (1, .int (nI j))] := hl
  refine lv_aload_n hx hb dX3_isWhole_0 rfl (lv_at hl 0 rfl) ?_
  refine lv_iload_n hx hb dX3_isWhole_1 rfl (lv_at hl 1 rfl) ?_
  have hPc := hP.sub (ws' := [(oh, .inr (3, [.ref aA, .ref aR, .ref aD, .ref aS, .int wt])), (aA, .inl (K 0, 32, .inl fa)), (aR, .inl (K 0, 32, .inl fr)), (aD, .inl (K 0, 32, .inl fd)), (aS, .inl (K 0, 32, .inl fs))]) [0, 1, 2, 3, 4] rfl
  refine vp_callSi (va_Run.run (va_runV (As := [.int (nI j)]) (rest := []) ⟨hx, hb, hml, hown, hts⟩ (c_X3_lies l D K oh aA aR aD aS fa fr fd fs wt j (by omega)) (cwV 1 hts gX3_isWhole_X3_lies rfl rfl rfl (by decide +kernel) ⟨Nat.le_of_ble_eq_true rfl, Nat.le_of_ble_eq_true rfl⟩) (pre_rd hbd hPc (ci := 3) (q0 := 0) rfl rfl) rfl rfl hl.1 rfl (lv_room (Nat.le_of_ble_eq_true rfl)) dX3_isWhole_2 ⟨Nat.zero_le _, Nat.zero_le _⟩)) (fun r_1 hr_1 => ?_)
  subst hr_1
  refine lv_if_eq (tgt := 42) hx hb dX3_isWhole_5 (by decide) (fun c_2 => ?_) (fun c_2 => ?_)
  · skip
    refine lv_iconst (v := 0) hx hb dX3_isWhole_42 (by decide) ?_
    exact W.zret hx hb hr rfl (fun t ht hW => ⟨_, rfl, (by unfold r_X3_isWhole; rw [if_pos c_2]), ht⟩) (fun q hq => absurd hq List.not_mem_nil) dX3_isWhole_43
  · skip
    refine lv_aload_n hx hb dX3_isWhole_8 rfl (lv_at hl 0 rfl) ?_
    refine va_get (D := D) (ci := 3) (v := .ref aS) (C := RX3) (T := TX3) (N := 5) hx hb hts hin3 hown hK hP 0 rfl rfl 3 (by decide) (hts _ (List.mem_of_getElem? (i := 1) rfl)) (fun _ h9 => h9) rfl dX3_isWhole_9 ?_
    refine lv_iload_n hx hb dX3_isWhole_12 rfl (lv_at hl 1 rfl) ?_
    refine n_iald hx hb hK hP 4 0 rfl rfl j (by omega) (by decide) dX3_isWhole_13 ?_
    refine lv_aload_n hx hb dX3_isWhole_14 rfl (lv_at hl 0 rfl) ?_
    refine va_get (D := D) (ci := 3) (v := .ref aA) (C := RX3) (T := TX3) (N := 5) hx hb hts hin3 hown hK hP 0 rfl rfl 0 (by decide) (hts _ (List.mem_of_getElem? (i := 2) rfl)) (fun _ h9 => h9) rfl dX3_isWhole_15 ?_
    refine lv_iload_n hx hb dX3_isWhole_18 rfl (lv_at hl 1 rfl) ?_
    refine n_iald hx hb hK hP 1 0 rfl rfl j (by omega) (by decide) dX3_isWhole_19 ?_
    refine lv_aload_n hx hb dX3_isWhole_20 rfl (lv_at hl 0 rfl) ?_
    refine va_get (D := D) (ci := 3) (v := .ref aR) (C := RX3) (T := TX3) (N := 5) hx hb hts hin3 hown hK hP 0 rfl rfl 1 (by decide) (hts _ (List.mem_of_getElem? (i := 3) rfl)) (fun _ h9 => h9) rfl dX3_isWhole_21 ?_
    refine lv_iload_n hx hb dX3_isWhole_24 rfl (lv_at hl 1 rfl) ?_
    refine n_iald hx hb hK hP 2 0 rfl rfl j (by omega) (by decide) dX3_isWhole_25 ?_
    refine lv_aload_n hx hb dX3_isWhole_26 rfl (lv_at hl 0 rfl) ?_
    refine va_get (D := D) (ci := 3) (v := .ref aD) (C := RX3) (T := TX3) (N := 5) hx hb hts hin3 hown hK hP 0 rfl rfl 2 (by decide) (hts _ (List.mem_of_getElem? (i := 4) rfl)) (fun _ h9 => h9) rfl dX3_isWhole_27 ?_
    refine lv_iload_n hx hb dX3_isWhole_30 rfl (lv_at hl 1 rfl) ?_
    refine n_iald hx hb hK hP 3 0 rfl rfl j (by omega) (by decide) dX3_isWhole_31 ?_
    refine vp_callSi (va_Run.run (va_runS (As := [.int (fa j), .int (fr j), .int (fd j)]) (rest := [.int (fs j)]) ⟨hx, hb, hml, hown, hts⟩ (c_X3_sumOf l D K (fa j) (fr j) (fd j) ) (va_cwS 3 hts gX3_isWhole_X3_sumOf rfl rfl rfl (by decide +kernel) ⟨Nat.le_of_ble_eq_true rfl, Nat.le_of_ble_eq_true rfl⟩) pre_s0 rfl rfl hl.1 rfl (lv_room (Nat.le_of_ble_eq_true rfl)) dX3_isWhole_32 ⟨Nat.zero_le _, Nat.zero_le _⟩)) (fun r_3 hr_3 => ?_)
    subst hr_3
    refine lv_icmp_ne (tgt := 42) hx hb dX3_isWhole_35 (by decide) (fun c_4 => ?_) (fun c_4 => ?_)
    · skip
      refine lv_iconst (v := 0) hx hb dX3_isWhole_42 (by decide) ?_
      exact W.zret hx hb hr rfl (fun t ht hW => ⟨_, rfl, (by unfold r_X3_isWhole; rw [if_neg c_2, if_neg c_4]), ht⟩) (fun q hq => absurd hq List.not_mem_nil) dX3_isWhole_43
    · skip
      refine lv_iconst (v := 1) hx hb dX3_isWhole_38 (by decide) ?_
      refine lv_goto (tgt := 43) hx hb dX3_isWhole_39 (by decide) ?_
      exact W.zret hx hb hr rfl (fun t ht hW => ⟨_, rfl, (by unfold r_X3_isWhole; rw [if_neg c_2, if_pos c_4]), ht⟩) (fun q hq => absurd hq List.not_mem_nil) dX3_isWhole_43
def r_X3_isOfOtherAddress (fa : Nat → Int32) (fr : Nat → Int32) (j : Nat) : Int32 := (if (r_X3_lies fr j) = 0 then 0 else (if (fa j) = (nI j) then 0 else 1))
theorem z_r_X3_isOfOtherAddress {fa : Nat → Int32} {fr : Nat → Int32} {j : Nat} : narrow .boolean (.int (r_X3_isOfOtherAddress fa fr j)) = .int (r_X3_isOfOtherAddress fa fr j) := by
  unfold r_X3_isOfOtherAddress
  repeat' split
  all_goals first | with_reducible exact zl0 | with_reducible exact zl1
set_option maxHeartbeats 4000000 in
set_option maxRecDepth 100000 in
theorem c_X3_isOfOtherAddress (l : Launch) (D : va_G) (K : Nat → ClassId) (oh : Nat) (aA : Nat) (aR : Nat) (aD : Nat) (aS : Nat) (fa : Nat → Int32) (fr : Nat → Int32) (fd : Nat → Int32) (fs : Nat → Int32) (wt : Int32) (j : Nat) (hj : j < 32) : Met l yX3_isOfOtherAddress wsX3_isOfOtherAddress ({ frames := 1, cells := 0, slots := 0, locals := 21 }) (va_Pc [.ref oh, .int (nI j)] (fun U => Bd D K U ∧ va_P D vwCl [(oh, .inr (3, [.ref aA, .ref aR, .ref aD, .ref aS, .int wt])), (aA, .inl (K 0, 32, .inl fa)), (aR, .inl (K 0, 32, .inl fr)), (aD, .inl (K 0, 32, .inl fd)), (aS, .inl (K 0, 32, .inl fs))] U.heap)) (vp_Si (fun r => r = (r_X3_isOfOtherAddress fa fr j))) 0 0 (fun _ => False) := by
  refine Met.ofW (cc := cX3_isOfOtherAddress) (maxL := 2) (ret := (some .boolean)) (by decide) rfl ?_
  intro p e s m args below meth c s₁ B hml hv
  obtain ⟨rfl, hbd, hP⟩ := hv
  have hx := B.exec
  have hb := B.bytes
  have hr := B.returns
  have hts := atoms_spec (ws := wsX3_isOfOtherAddress) B.pre
  have hown : s.vm.findClass RX3 = some m.cls := findClass_of_methodNamed B.named
  have hlocks := B.notSynchronized
  have hK := hbd.2
  have hP : va_P D vwCl [(oh, .inr (3, [.ref aA, .ref aR, .ref aD, .ref aS, .int wt])), (aA, .inl (K 0, 32, .inl fa)), (aR, .inl (K 0, 32, .inl fr)), (aD, .inl (K 0, 32, .inl fd)), (aS, .inl (K 0, 32, .inl fs))] s.heap := hP
  have hin3 : ∀ w ∈ wsX30, w ∈ wsX3_isOfOtherAddress := by decide +kernel
  have hl := lv_entry ([.ref oh, .int (nI j)]) (n := 2) (Nat.le_of_ble_eq_true rfl)
  rw [lg_entry_eq]
  generalize (lg_sl ([.ref oh, .int (nI j)]) ++ List.replicate (2 - (lg_sl ([.ref oh, .int (nI j)])).length) Slot.unset).toArray = ls at hl ⊢
  have hl : lv_has ls 2 [(0, .ref oh), (1, .int (nI j))] := hl
  refine lv_aload_n hx hb dX3_isOfOtherAddress_0 rfl (lv_at hl 0 rfl) ?_
  refine lv_iload_n hx hb dX3_isOfOtherAddress_1 rfl (lv_at hl 1 rfl) ?_
  have hPc := hP.sub (ws' := [(oh, .inr (3, [.ref aA, .ref aR, .ref aD, .ref aS, .int wt])), (aA, .inl (K 0, 32, .inl fa)), (aR, .inl (K 0, 32, .inl fr)), (aD, .inl (K 0, 32, .inl fd)), (aS, .inl (K 0, 32, .inl fs))]) [0, 1, 2, 3, 4] rfl
  refine vp_callSi (va_Run.run (va_runV (As := [.int (nI j)]) (rest := []) ⟨hx, hb, hml, hown, hts⟩ (c_X3_lies l D K oh aA aR aD aS fa fr fd fs wt j (by omega)) (cwV 1 hts gX3_isOfOtherAddress_X3_lies rfl rfl rfl (by decide +kernel) ⟨Nat.le_of_ble_eq_true rfl, Nat.le_of_ble_eq_true rfl⟩) (pre_rd hbd hPc (ci := 3) (q0 := 0) rfl rfl) rfl rfl hl.1 rfl (lv_room (Nat.le_of_ble_eq_true rfl)) dX3_isOfOtherAddress_2 ⟨Nat.zero_le _, Nat.zero_le _⟩)) (fun r_1 hr_1 => ?_)
  subst hr_1
  refine lv_if_eq (tgt := 22) hx hb dX3_isOfOtherAddress_5 (by decide) (fun c_2 => ?_) (fun c_2 => ?_)
  · skip
    refine lv_iconst (v := 0) hx hb dX3_isOfOtherAddress_22 (by decide) ?_
    exact W.zret hx hb hr rfl (fun t ht hW => ⟨_, rfl, (by unfold r_X3_isOfOtherAddress; rw [if_pos c_2]), ht⟩) (fun q hq => absurd hq List.not_mem_nil) dX3_isOfOtherAddress_23
  · skip
    refine lv_aload_n hx hb dX3_isOfOtherAddress_8 rfl (lv_at hl 0 rfl) ?_
    refine va_get (D := D) (ci := 3) (v := .ref aA) (C := RX3) (T := TX3) (N := 5) hx hb hts hin3 hown hK hP 0 rfl rfl 0 (by decide) (hts _ (List.mem_of_getElem? (i := 1) rfl)) (fun _ h9 => h9) rfl dX3_isOfOtherAddress_9 ?_
    refine lv_iload_n hx hb dX3_isOfOtherAddress_12 rfl (lv_at hl 1 rfl) ?_
    refine n_iald hx hb hK hP 1 0 rfl rfl j (by omega) (by decide) dX3_isOfOtherAddress_13 ?_
    refine lv_iload_n hx hb dX3_isOfOtherAddress_14 rfl (lv_at hl 1 rfl) ?_
    refine lv_icmp_eq (tgt := 22) hx hb dX3_isOfOtherAddress_15 (by decide) (fun c_3 => ?_) (fun c_3 => ?_)
    · skip
      refine lv_iconst (v := 0) hx hb dX3_isOfOtherAddress_22 (by decide) ?_
      exact W.zret hx hb hr rfl (fun t ht hW => ⟨_, rfl, (by unfold r_X3_isOfOtherAddress; rw [if_neg c_2, if_pos c_3]), ht⟩) (fun q hq => absurd hq List.not_mem_nil) dX3_isOfOtherAddress_23
    · skip
      refine lv_iconst (v := 1) hx hb dX3_isOfOtherAddress_18 (by decide) ?_
      refine lv_goto (tgt := 23) hx hb dX3_isOfOtherAddress_19 (by decide) ?_
      exact W.zret hx hb hr rfl (fun t ht hW => ⟨_, rfl, (by unfold r_X3_isOfOtherAddress; rw [if_neg c_2, if_neg c_3]), ht⟩) (fun q hq => absurd hq List.not_mem_nil) dX3_isOfOtherAddress_23
def r_X3_reasonAgainst (fa : Nat → Int32) (fr : Nat → Int32) (fd : Nat → Int32) (fs : Nat → Int32) (j : Nat) (xr : Int32) : Int32 := (if (r_X3_lies fr j) = 0 then 1 else (if (fs j) = (sumF (fa j) (fr j) (fd j)) then (if (fa j) = (nI j) then (if (fr j) = xr then 0 else 4) else 3) else 2))
set_option maxHeartbeats 4000000 in
set_option maxRecDepth 100000 in
theorem c_X3_reasonAgainst (l : Launch) (D : va_G) (K : Nat → ClassId) (oh : Nat) (aA : Nat) (aR : Nat) (aD : Nat) (aS : Nat) (fa : Nat → Int32) (fr : Nat → Int32) (fd : Nat → Int32) (fs : Nat → Int32) (wt : Int32) (j : Nat) (xr : Int32) (hj : j < 32) : Met l yX3_reasonAgainst wsX3_reasonAgainst ({ frames := 1, cells := 0, slots := 0, locals := 22 }) (va_Pc [.ref oh, .int (nI j), .int xr] (fun U => Bd D K U ∧ va_P D vwCl [(oh, .inr (3, [.ref aA, .ref aR, .ref aD, .ref aS, .int wt])), (aA, .inl (K 0, 32, .inl fa)), (aR, .inl (K 0, 32, .inl fr)), (aD, .inl (K 0, 32, .inl fd)), (aS, .inl (K 0, 32, .inl fs))] U.heap)) (vp_Si (fun r => r = (r_X3_reasonAgainst fa fr fd fs j xr))) 0 0 (fun _ => False) := by
  refine Met.ofW (cc := cX3_reasonAgainst) (maxL := 3) (ret := (some .int)) (by decide) rfl ?_
  intro p e s m args below meth c s₁ B hml hv
  obtain ⟨rfl, hbd, hP⟩ := hv
  have hx := B.exec
  have hb := B.bytes
  have hr := B.returns
  have hts := atoms_spec (ws := wsX3_reasonAgainst) B.pre
  have hown : s.vm.findClass RX3 = some m.cls := findClass_of_methodNamed B.named
  have hlocks := B.notSynchronized
  have hK := hbd.2
  have hP : va_P D vwCl [(oh, .inr (3, [.ref aA, .ref aR, .ref aD, .ref aS, .int wt])), (aA, .inl (K 0, 32, .inl fa)), (aR, .inl (K 0, 32, .inl fr)), (aD, .inl (K 0, 32, .inl fd)), (aS, .inl (K 0, 32, .inl fs))] s.heap := hP
  have hin3 : ∀ w ∈ wsX30, w ∈ wsX3_reasonAgainst := by decide +kernel
  have hl := lv_entry ([.ref oh, .int (nI j), .int xr]) (n := 3) (Nat.le_of_ble_eq_true rfl)
  rw [lg_entry_eq]
  generalize (lg_sl ([.ref oh, .int (nI j), .int xr]) ++ List.replicate (3 - (lg_sl ([.ref oh, .int (nI j), .int xr])).length) Slot.unset).toArray = ls at hl ⊢
  have hl : lv_has ls 3 [(0, .ref oh), (1, .int (nI j)), (2, .int xr)] := hl
  refine lv_aload_n hx hb dX3_reasonAgainst_0 rfl (lv_at hl 0 rfl) ?_
  refine lv_iload_n hx hb dX3_reasonAgainst_1 rfl (lv_at hl 1 rfl) ?_
  have hPc := hP.sub (ws' := [(oh, .inr (3, [.ref aA, .ref aR, .ref aD, .ref aS, .int wt])), (aA, .inl (K 0, 32, .inl fa)), (aR, .inl (K 0, 32, .inl fr)), (aD, .inl (K 0, 32, .inl fd)), (aS, .inl (K 0, 32, .inl fs))]) [0, 1, 2, 3, 4] rfl
  refine vp_callSi (va_Run.run (va_runV (As := [.int (nI j)]) (rest := []) ⟨hx, hb, hml, hown, hts⟩ (c_X3_lies l D K oh aA aR aD aS fa fr fd fs wt j (by omega)) (cwV 1 hts gX3_reasonAgainst_X3_lies rfl rfl rfl (by decide +kernel) ⟨Nat.le_of_ble_eq_true rfl, Nat.le_of_ble_eq_true rfl⟩) (pre_rd hbd hPc (ci := 3) (q0 := 0) rfl rfl) rfl rfl hl.1 rfl (lv_room (Nat.le_of_ble_eq_true rfl)) dX3_reasonAgainst_2 ⟨Nat.zero_le _, Nat.zero_le _⟩)) (fun r_1 hr_1 => ?_)
  subst hr_1
  refine lv_if_ne (tgt := 10) hx hb dX3_reasonAgainst_5 (by decide) (fun c_2 => ?_) (fun c_2 => ?_)
  · skip
    refine lv_aload_n hx hb dX3_reasonAgainst_10 rfl (lv_at hl 0 rfl) ?_
    refine va_get (D := D) (ci := 3) (v := .ref aS) (C := RX3) (T := TX3) (N := 5) hx hb hts hin3 hown hK hP 0 rfl rfl 3 (by decide) (hts _ (List.mem_of_getElem? (i := 1) rfl)) (fun _ h9 => h9) rfl dX3_reasonAgainst_11 ?_
    refine lv_iload_n hx hb dX3_reasonAgainst_14 rfl (lv_at hl 1 rfl) ?_
    refine n_iald hx hb hK hP 4 0 rfl rfl j (by omega) (by decide) dX3_reasonAgainst_15 ?_
    refine lv_aload_n hx hb dX3_reasonAgainst_16 rfl (lv_at hl 0 rfl) ?_
    refine va_get (D := D) (ci := 3) (v := .ref aA) (C := RX3) (T := TX3) (N := 5) hx hb hts hin3 hown hK hP 0 rfl rfl 0 (by decide) (hts _ (List.mem_of_getElem? (i := 2) rfl)) (fun _ h9 => h9) rfl dX3_reasonAgainst_17 ?_
    refine lv_iload_n hx hb dX3_reasonAgainst_20 rfl (lv_at hl 1 rfl) ?_
    refine n_iald hx hb hK hP 1 0 rfl rfl j (by omega) (by decide) dX3_reasonAgainst_21 ?_
    refine lv_aload_n hx hb dX3_reasonAgainst_22 rfl (lv_at hl 0 rfl) ?_
    refine va_get (D := D) (ci := 3) (v := .ref aR) (C := RX3) (T := TX3) (N := 5) hx hb hts hin3 hown hK hP 0 rfl rfl 1 (by decide) (hts _ (List.mem_of_getElem? (i := 3) rfl)) (fun _ h9 => h9) rfl dX3_reasonAgainst_23 ?_
    refine lv_iload_n hx hb dX3_reasonAgainst_26 rfl (lv_at hl 1 rfl) ?_
    refine n_iald hx hb hK hP 2 0 rfl rfl j (by omega) (by decide) dX3_reasonAgainst_27 ?_
    refine lv_aload_n hx hb dX3_reasonAgainst_28 rfl (lv_at hl 0 rfl) ?_
    refine va_get (D := D) (ci := 3) (v := .ref aD) (C := RX3) (T := TX3) (N := 5) hx hb hts hin3 hown hK hP 0 rfl rfl 2 (by decide) (hts _ (List.mem_of_getElem? (i := 4) rfl)) (fun _ h9 => h9) rfl dX3_reasonAgainst_29 ?_
    refine lv_iload_n hx hb dX3_reasonAgainst_32 rfl (lv_at hl 1 rfl) ?_
    refine n_iald hx hb hK hP 3 0 rfl rfl j (by omega) (by decide) dX3_reasonAgainst_33 ?_
    refine vp_callSi (va_Run.run (va_runS (As := [.int (fa j), .int (fr j), .int (fd j)]) (rest := [.int (fs j)]) ⟨hx, hb, hml, hown, hts⟩ (c_X3_sumOf l D K (fa j) (fr j) (fd j) ) (va_cwS 3 hts gX3_reasonAgainst_X3_sumOf rfl rfl rfl (by decide +kernel) ⟨Nat.le_of_ble_eq_true rfl, Nat.le_of_ble_eq_true rfl⟩) pre_s0 rfl rfl hl.1 rfl (lv_room (Nat.le_of_ble_eq_true rfl)) dX3_reasonAgainst_34 ⟨Nat.zero_le _, Nat.zero_le _⟩)) (fun r_3 hr_3 => ?_)
    subst hr_3
    refine lv_icmp_eq (tgt := 42) hx hb dX3_reasonAgainst_37 (by decide) (fun c_4 => ?_) (fun c_4 => ?_)
    · skip
      refine lv_aload_n hx hb dX3_reasonAgainst_42 rfl (lv_at hl 0 rfl) ?_
      refine va_get (D := D) (ci := 3) (v := .ref aA) (C := RX3) (T := TX3) (N := 5) hx hb hts hin3 hown hK hP 0 rfl rfl 0 (by decide) (hts _ (List.mem_of_getElem? (i := 2) rfl)) (fun _ h9 => h9) rfl dX3_reasonAgainst_43 ?_
      refine lv_iload_n hx hb dX3_reasonAgainst_46 rfl (lv_at hl 1 rfl) ?_
      refine n_iald hx hb hK hP 1 0 rfl rfl j (by omega) (by decide) dX3_reasonAgainst_47 ?_
      refine lv_iload_n hx hb dX3_reasonAgainst_48 rfl (lv_at hl 1 rfl) ?_
      refine lv_icmp_eq (tgt := 54) hx hb dX3_reasonAgainst_49 (by decide) (fun c_5 => ?_) (fun c_5 => ?_)
      · skip
        refine lv_aload_n hx hb dX3_reasonAgainst_54 rfl (lv_at hl 0 rfl) ?_
        refine va_get (D := D) (ci := 3) (v := .ref aR) (C := RX3) (T := TX3) (N := 5) hx hb hts hin3 hown hK hP 0 rfl rfl 1 (by decide) (hts _ (List.mem_of_getElem? (i := 3) rfl)) (fun _ h9 => h9) rfl dX3_reasonAgainst_55 ?_
        refine lv_iload_n hx hb dX3_reasonAgainst_58 rfl (lv_at hl 1 rfl) ?_
        refine n_iald hx hb hK hP 2 0 rfl rfl j (by omega) (by decide) dX3_reasonAgainst_59 ?_
        refine lv_iload_n hx hb dX3_reasonAgainst_60 rfl (lv_at hl 2 rfl) ?_
        refine lv_icmp_ne (tgt := 68) hx hb dX3_reasonAgainst_61 (by decide) (fun c_6 => ?_) (fun c_6 => ?_)
        · skip
          refine lv_iconst (v := 4) hx hb dX3_reasonAgainst_68 (by decide) ?_
          exact W.iret hx hb hr (fun t ht hW => ⟨_, rfl, (by unfold r_X3_reasonAgainst; rw [if_neg c_2, if_pos c_4, if_pos c_5, if_neg c_6]), ht⟩) (fun q hq => absurd hq List.not_mem_nil) dX3_reasonAgainst_69
        · skip
          refine lv_iconst (v := 0) hx hb dX3_reasonAgainst_64 (by decide) ?_
          refine lv_goto (tgt := 69) hx hb dX3_reasonAgainst_65 (by decide) ?_
          exact W.iret hx hb hr (fun t ht hW => ⟨_, rfl, (by unfold r_X3_reasonAgainst; rw [if_neg c_2, if_pos c_4, if_pos c_5, if_pos c_6]), ht⟩) (fun q hq => absurd hq List.not_mem_nil) dX3_reasonAgainst_69
      · skip
        refine lv_iconst (v := 3) hx hb dX3_reasonAgainst_52 (by decide) ?_
        exact W.iret hx hb hr (fun t ht hW => ⟨_, rfl, (by unfold r_X3_reasonAgainst; rw [if_neg c_2, if_pos c_4, if_neg c_5]), ht⟩) (fun q hq => absurd hq List.not_mem_nil) dX3_reasonAgainst_53
    · skip
      refine lv_iconst (v := 2) hx hb dX3_reasonAgainst_40 (by decide) ?_
      exact W.iret hx hb hr (fun t ht hW => ⟨_, rfl, (by unfold r_X3_reasonAgainst; rw [if_neg c_2, if_neg c_4]), ht⟩) (fun q hq => absurd hq List.not_mem_nil) dX3_reasonAgainst_41
  · skip
    refine lv_iconst (v := 1) hx hb dX3_reasonAgainst_8 (by decide) ?_
    exact W.iret hx hb hr (fun t ht hW => ⟨_, rfl, (by unfold r_X3_reasonAgainst; rw [if_pos c_2]), ht⟩) (fun q hq => absurd hq List.not_mem_nil) dX3_reasonAgainst_9
def r_X3_dataAt (fr : Nat → Int32) (fd : Nat → Int32) (j : Nat) : Int32 := (if (r_X3_lies fr j) = 0 then (-6) else (fd j))
set_option maxHeartbeats 4000000 in
set_option maxRecDepth 100000 in
theorem c_X3_dataAt (l : Launch) (D : va_G) (K : Nat → ClassId) (oh : Nat) (aA : Nat) (aR : Nat) (aD : Nat) (aS : Nat) (fa : Nat → Int32) (fr : Nat → Int32) (fd : Nat → Int32) (fs : Nat → Int32) (wt : Int32) (j : Nat) (hj : j < 32) : Met l yX3_dataAt wsX3_dataAt ({ frames := 1, cells := 0, slots := 0, locals := 21 }) (va_Pc [.ref oh, .int (nI j)] (fun U => Bd D K U ∧ va_P D vwCl [(oh, .inr (3, [.ref aA, .ref aR, .ref aD, .ref aS, .int wt])), (aA, .inl (K 0, 32, .inl fa)), (aR, .inl (K 0, 32, .inl fr)), (aD, .inl (K 0, 32, .inl fd)), (aS, .inl (K 0, 32, .inl fs))] U.heap)) (vp_Si (fun r => r = (r_X3_dataAt fr fd j))) 0 0 (fun _ => False) := by
  refine Met.ofW (cc := cX3_dataAt) (maxL := 2) (ret := (some .int)) (by decide) rfl ?_
  intro p e s m args below meth c s₁ B hml hv
  obtain ⟨rfl, hbd, hP⟩ := hv
  have hx := B.exec
  have hb := B.bytes
  have hr := B.returns
  have hts := atoms_spec (ws := wsX3_dataAt) B.pre
  have hown : s.vm.findClass RX3 = some m.cls := findClass_of_methodNamed B.named
  have hlocks := B.notSynchronized
  have hK := hbd.2
  have hP : va_P D vwCl [(oh, .inr (3, [.ref aA, .ref aR, .ref aD, .ref aS, .int wt])), (aA, .inl (K 0, 32, .inl fa)), (aR, .inl (K 0, 32, .inl fr)), (aD, .inl (K 0, 32, .inl fd)), (aS, .inl (K 0, 32, .inl fs))] s.heap := hP
  have hin3 : ∀ w ∈ wsX30, w ∈ wsX3_dataAt := by decide +kernel
  have hl := lv_entry ([.ref oh, .int (nI j)]) (n := 2) (Nat.le_of_ble_eq_true rfl)
  rw [lg_entry_eq]
  generalize (lg_sl ([.ref oh, .int (nI j)]) ++ List.replicate (2 - (lg_sl ([.ref oh, .int (nI j)])).length) Slot.unset).toArray = ls at hl ⊢
  have hl : lv_has ls 2 [(0, .ref oh), (1, .int (nI j))] := hl
  refine lv_aload_n hx hb dX3_dataAt_0 rfl (lv_at hl 0 rfl) ?_
  refine lv_iload_n hx hb dX3_dataAt_1 rfl (lv_at hl 1 rfl) ?_
  have hPc := hP.sub (ws' := [(oh, .inr (3, [.ref aA, .ref aR, .ref aD, .ref aS, .int wt])), (aA, .inl (K 0, 32, .inl fa)), (aR, .inl (K 0, 32, .inl fr)), (aD, .inl (K 0, 32, .inl fd)), (aS, .inl (K 0, 32, .inl fs))]) [0, 1, 2, 3, 4] rfl
  refine vp_callSi (va_Run.run (va_runV (As := [.int (nI j)]) (rest := []) ⟨hx, hb, hml, hown, hts⟩ (c_X3_lies l D K oh aA aR aD aS fa fr fd fs wt j (by omega)) (cwV 1 hts gX3_dataAt_X3_lies rfl rfl rfl (by decide +kernel) ⟨Nat.le_of_ble_eq_true rfl, Nat.le_of_ble_eq_true rfl⟩) (pre_rd hbd hPc (ci := 3) (q0 := 0) rfl rfl) rfl rfl hl.1 rfl (lv_room (Nat.le_of_ble_eq_true rfl)) dX3_dataAt_2 ⟨Nat.zero_le _, Nat.zero_le _⟩)) (fun r_1 hr_1 => ?_)
  subst hr_1
  refine lv_if_eq (tgt := 17) hx hb dX3_dataAt_5 (by decide) (fun c_2 => ?_) (fun c_2 => ?_)
  · skip
    refine lv_bipush (v := (-6)) hx hb dX3_dataAt_17 (by decide) ?_
    exact W.iret hx hb hr (fun t ht hW => ⟨_, rfl, (by unfold r_X3_dataAt; rw [if_pos c_2]), ht⟩) (fun q hq => absurd hq List.not_mem_nil) dX3_dataAt_19
  · skip
    refine lv_aload_n hx hb dX3_dataAt_8 rfl (lv_at hl 0 rfl) ?_
    refine va_get (D := D) (ci := 3) (v := .ref aD) (C := RX3) (T := TX3) (N := 5) hx hb hts hin3 hown hK hP 0 rfl rfl 2 (by decide) (hts _ (List.mem_of_getElem? (i := 1) rfl)) (fun _ h9 => h9) rfl dX3_dataAt_9 ?_
    refine lv_iload_n hx hb dX3_dataAt_12 rfl (lv_at hl 1 rfl) ?_
    refine n_iald hx hb hK hP 3 0 rfl rfl j (by omega) (by decide) dX3_dataAt_13 ?_
    refine lv_goto (tgt := 19) hx hb dX3_dataAt_14 (by decide) ?_
    exact W.iret hx hb hr (fun t ht hW => ⟨_, rfl, (by unfold r_X3_dataAt; rw [if_neg c_2]), ht⟩) (fun q hq => absurd hq List.not_mem_nil) dX3_dataAt_19
def r_X3_part (fa : Nat → Int32) (fr : Nat → Int32) (fd : Nat → Int32) (fs : Nat → Int32) (j : Nat) (xw : Int32) : Int32 := (if xw = 4 then (if (r_X3_isWhole fa fr fd fs j) = 0 then 0 else 1) else (if (r_X3_lies fr j) = 0 then (-6) else (if xw = 0 then (fa j) else (if xw = 1 then (fr j) else (if xw = 2 then (fd j) else (fs j))))))
set_option maxHeartbeats 4000000 in
set_option maxRecDepth 100000 in
theorem c_X3_part (l : Launch) (D : va_G) (K : Nat → ClassId) (oh : Nat) (aA : Nat) (aR : Nat) (aD : Nat) (aS : Nat) (fa : Nat → Int32) (fr : Nat → Int32) (fd : Nat → Int32) (fs : Nat → Int32) (wt : Int32) (j : Nat) (xw : Int32) (hj : j < 32) : Met l yX3_part wsX3_part ({ frames := 2, cells := 0, slots := 0, locals := 43 }) (va_Pc [.ref oh, .int (nI j), .int xw] (fun U => Bd D K U ∧ va_P D vwCl [(oh, .inr (3, [.ref aA, .ref aR, .ref aD, .ref aS, .int wt])), (aA, .inl (K 0, 32, .inl fa)), (aR, .inl (K 0, 32, .inl fr)), (aD, .inl (K 0, 32, .inl fd)), (aS, .inl (K 0, 32, .inl fs))] U.heap)) (vp_Si (fun r => r = (r_X3_part fa fr fd fs j xw))) 0 0 (fun _ => False) := by
  refine Met.ofW (cc := cX3_part) (maxL := 3) (ret := (some .int)) (by decide) rfl ?_
  intro p e s m args below meth c s₁ B hml hv
  obtain ⟨rfl, hbd, hP⟩ := hv
  have hx := B.exec
  have hb := B.bytes
  have hr := B.returns
  have hts := atoms_spec (ws := wsX3_part) B.pre
  have hown : s.vm.findClass RX3 = some m.cls := findClass_of_methodNamed B.named
  have hlocks := B.notSynchronized
  have hK := hbd.2
  have hP : va_P D vwCl [(oh, .inr (3, [.ref aA, .ref aR, .ref aD, .ref aS, .int wt])), (aA, .inl (K 0, 32, .inl fa)), (aR, .inl (K 0, 32, .inl fr)), (aD, .inl (K 0, 32, .inl fd)), (aS, .inl (K 0, 32, .inl fs))] s.heap := hP
  have hin3 : ∀ w ∈ wsX30, w ∈ wsX3_part := by decide +kernel
  have hl := lv_entry ([.ref oh, .int (nI j), .int xw]) (n := 3) (Nat.le_of_ble_eq_true rfl)
  rw [lg_entry_eq]
  generalize (lg_sl ([.ref oh, .int (nI j), .int xw]) ++ List.replicate (3 - (lg_sl ([.ref oh, .int (nI j), .int xw])).length) Slot.unset).toArray = ls at hl ⊢
  have hl : lv_has ls 3 [(0, .ref oh), (1, .int (nI j)), (2, .int xw)] := hl
  refine lv_iload_n hx hb dX3_part_0 rfl (lv_at hl 2 rfl) ?_
  refine lv_iconst (v := 4) hx hb dX3_part_1 (by decide) ?_
  refine lv_icmp_ne (tgt := 19) hx hb dX3_part_2 (by decide) (fun c_1 => ?_) (fun c_1 => ?_)
  · skip
    refine lv_aload_n hx hb dX3_part_19 rfl (lv_at hl 0 rfl) ?_
    refine lv_iload_n hx hb dX3_part_20 rfl (lv_at hl 1 rfl) ?_
    have hPc := hP.sub (ws' := [(oh, .inr (3, [.ref aA, .ref aR, .ref aD, .ref aS, .int wt])), (aA, .inl (K 0, 32, .inl fa)), (aR, .inl (K 0, 32, .inl fr)), (aD, .inl (K 0, 32, .inl fd)), (aS, .inl (K 0, 32, .inl fs))]) [0, 1, 2, 3, 4] rfl
    refine vp_callSi (va_Run.run (va_runV (As := [.int (nI j)]) (rest := []) ⟨hx, hb, hml, hown, hts⟩ (c_X3_lies l D K oh aA aR aD aS fa fr fd fs wt j (by omega)) (cwV 1 hts gX3_part_X3_lies rfl rfl rfl (by decide +kernel) ⟨Nat.le_of_ble_eq_true rfl, Nat.le_of_ble_eq_true rfl⟩) (pre_rd hbd hPc (ci := 3) (q0 := 0) rfl rfl) rfl rfl hl.1 rfl (lv_room (Nat.le_of_ble_eq_true rfl)) dX3_part_21 ⟨Nat.zero_le _, Nat.zero_le _⟩)) (fun r_2 hr_2 => ?_)
    subst hr_2
    refine lv_if_ne (tgt := 30) hx hb dX3_part_24 (by decide) (fun c_3 => ?_) (fun c_3 => ?_)
    · skip
      refine lv_iload_n hx hb dX3_part_30 rfl (lv_at hl 2 rfl) ?_
      refine byc (P := xw = 0) (fun c_4 => ?_) (fun c_4 => ?_)
      · skip
        refine lv_tableIn (off := 25) (tgt := 56) hx hb dX3_part_31 (by rw [c_4]; decide) (by rw [c_4]; decide) (by rw [c_4]; rfl) (by decide) ?_
        refine lv_aload_n hx hb dX3_part_56 rfl (lv_at hl 0 rfl) ?_
        refine va_get (D := D) (ci := 3) (v := .ref aA) (C := RX3) (T := TX3) (N := 5) hx hb hts hin3 hown hK hP 0 rfl rfl 0 (by decide) (hts _ (List.mem_of_getElem? (i := 1) rfl)) (fun _ h9 => h9) rfl dX3_part_57 ?_
        refine lv_iload_n hx hb dX3_part_60 rfl (lv_at hl 1 rfl) ?_
        refine n_iald hx hb hK hP 1 0 rfl rfl j (by omega) (by decide) dX3_part_61 ?_
        exact W.iret hx hb hr (fun t ht hW => ⟨_, rfl, (by unfold r_X3_part; rw [if_neg c_1, if_neg c_3, if_pos c_4]), ht⟩) (fun q hq => absurd hq List.not_mem_nil) dX3_part_62
      · skip
        refine byc (P := xw = 1) (fun c_5 => ?_) (fun c_5 => ?_)
        · skip
          refine lv_tableIn (off := 32) (tgt := 63) hx hb dX3_part_31 (by rw [c_5]; decide) (by rw [c_5]; decide) (by rw [c_5]; rfl) (by decide) ?_
          refine lv_aload_n hx hb dX3_part_63 rfl (lv_at hl 0 rfl) ?_
          refine va_get (D := D) (ci := 3) (v := .ref aR) (C := RX3) (T := TX3) (N := 5) hx hb hts hin3 hown hK hP 0 rfl rfl 1 (by decide) (hts _ (List.mem_of_getElem? (i := 2) rfl)) (fun _ h9 => h9) rfl dX3_part_64 ?_
          refine lv_iload_n hx hb dX3_part_67 rfl (lv_at hl 1 rfl) ?_
          refine n_iald hx hb hK hP 2 0 rfl rfl j (by omega) (by decide) dX3_part_68 ?_
          exact W.iret hx hb hr (fun t ht hW => ⟨_, rfl, (by unfold r_X3_part; rw [if_neg c_1, if_neg c_3, if_neg c_4, if_pos c_5]), ht⟩) (fun q hq => absurd hq List.not_mem_nil) dX3_part_69
        · skip
          refine byc (P := xw = 2) (fun c_6 => ?_) (fun c_6 => ?_)
          · skip
            refine lv_tableIn (off := 39) (tgt := 70) hx hb dX3_part_31 (by rw [c_6]; decide) (by rw [c_6]; decide) (by rw [c_6]; rfl) (by decide) ?_
            refine lv_aload_n hx hb dX3_part_70 rfl (lv_at hl 0 rfl) ?_
            refine va_get (D := D) (ci := 3) (v := .ref aD) (C := RX3) (T := TX3) (N := 5) hx hb hts hin3 hown hK hP 0 rfl rfl 2 (by decide) (hts _ (List.mem_of_getElem? (i := 3) rfl)) (fun _ h9 => h9) rfl dX3_part_71 ?_
            refine lv_iload_n hx hb dX3_part_74 rfl (lv_at hl 1 rfl) ?_
            refine n_iald hx hb hK hP 3 0 rfl rfl j (by omega) (by decide) dX3_part_75 ?_
            exact W.iret hx hb hr (fun t ht hW => ⟨_, rfl, (by unfold r_X3_part; rw [if_neg c_1, if_neg c_3, if_neg c_4, if_neg c_5, if_pos c_6]), ht⟩) (fun q hq => absurd hq List.not_mem_nil) dX3_part_76
          · skip
            refine lv_tableOut (tgt := 77) hx hb dX3_part_31 (by have g0 := lv_neT (a := 0) c_4 (by decide); have g1 := lv_neT (a := 1) c_5 (by decide); have g2 := lv_neT (a := 2) c_6 (by decide); omega) (by decide) ?_
            refine lv_aload_n hx hb dX3_part_77 rfl (lv_at hl 0 rfl) ?_
            refine va_get (D := D) (ci := 3) (v := .ref aS) (C := RX3) (T := TX3) (N := 5) hx hb hts hin3 hown hK hP 0 rfl rfl 3 (by decide) (hts _ (List.mem_of_getElem? (i := 4) rfl)) (fun _ h9 => h9) rfl dX3_part_78 ?_
            refine lv_iload_n hx hb dX3_part_81 rfl (lv_at hl 1 rfl) ?_
            refine n_iald hx hb hK hP 4 0 rfl rfl j (by omega) (by decide) dX3_part_82 ?_
            exact W.iret hx hb hr (fun t ht hW => ⟨_, rfl, (by unfold r_X3_part; rw [if_neg c_1, if_neg c_3, if_neg c_4, if_neg c_5, if_neg c_6]), ht⟩) (fun q hq => absurd hq List.not_mem_nil) dX3_part_83
    · skip
      refine lv_bipush (v := (-6)) hx hb dX3_part_27 (by decide) ?_
      exact W.iret hx hb hr (fun t ht hW => ⟨_, rfl, (by unfold r_X3_part; rw [if_neg c_1, if_pos c_3]), ht⟩) (fun q hq => absurd hq List.not_mem_nil) dX3_part_29
  · skip
    refine lv_aload_n hx hb dX3_part_5 rfl (lv_at hl 0 rfl) ?_
    refine lv_iload_n hx hb dX3_part_6 rfl (lv_at hl 1 rfl) ?_
    have hPc := hP.sub (ws' := [(oh, .inr (3, [.ref aA, .ref aR, .ref aD, .ref aS, .int wt])), (aA, .inl (K 0, 32, .inl fa)), (aR, .inl (K 0, 32, .inl fr)), (aD, .inl (K 0, 32, .inl fd)), (aS, .inl (K 0, 32, .inl fs))]) [0, 1, 2, 3, 4] rfl
    refine vp_callSi (va_Run.run (va_runV (As := [.int (nI j)]) (rest := []) ⟨hx, hb, hml, hown, hts⟩ (c_X3_isWhole l D K oh aA aR aD aS fa fr fd fs wt j (by omega)) (cwV 1 hts gX3_part_X3_isWhole rfl rfl rfl (by decide +kernel) ⟨Nat.le_of_ble_eq_true rfl, Nat.le_of_ble_eq_true rfl⟩) (pre_rd hbd hPc (ci := 3) (q0 := 0) rfl rfl) rfl rfl hl.1 rfl (lv_room (Nat.le_of_ble_eq_true rfl)) dX3_part_7 ⟨Nat.zero_le _, Nat.zero_le _⟩)) (fun r_7 hr_7 => ?_)
    subst hr_7
    refine lv_if_eq (tgt := 17) hx hb dX3_part_10 (by decide) (fun c_8 => ?_) (fun c_8 => ?_)
    · skip
      refine lv_iconst (v := 0) hx hb dX3_part_17 (by decide) ?_
      exact W.iret hx hb hr (fun t ht hW => ⟨_, rfl, (by unfold r_X3_part; rw [if_pos c_1, if_pos c_8]), ht⟩) (fun q hq => absurd hq List.not_mem_nil) dX3_part_18
    · skip
      refine lv_iconst (v := 1) hx hb dX3_part_13 (by decide) ?_
      refine lv_goto (tgt := 18) hx hb dX3_part_14 (by decide) ?_
      exact W.iret hx hb hr (fun t ht hW => ⟨_, rfl, (by unfold r_X3_part; rw [if_pos c_1, if_neg c_8]), ht⟩) (fun q hq => absurd hq List.not_mem_nil) dX3_part_18
set_option maxHeartbeats 4000000 in
set_option maxRecDepth 100000 in
theorem c_X3_lay (l : Launch) (D : va_G) (K : Nat → ClassId) (oh : Nat) (aA : Nat) (aR : Nat) (aD : Nat) (aS : Nat) (fa : Nat → Int32) (fr : Nat → Int32) (fd : Nat → Int32) (fs : Nat → Int32) (wt : Int32) (j : Nat) (xa : Int32) (xr : Int32) (xd : Int32) (xs : Int32) (hj : j < 32) : Met l yX3_lay wsX3_lay ({ frames := 0, cells := 0, slots := 0, locals := 0 }) (va_Pc [.ref oh, .int (nI j), .int xa, .int xr, .int xd, .int xs] (fun U => Bd D K U ∧ va_P D vwCl [(oh, .inr (3, [.ref aA, .ref aR, .ref aD, .ref aS, .int wt])), (aA, .inl (K 0, 32, .inl fa)), (aR, .inl (K 0, 32, .inl fr)), (aD, .inl (K 0, 32, .inl fd)), (aS, .inl (K 0, 32, .inl fs))] U.heap ∧ va_D (fun _ => True) [(oh, .inr (3, [.ref aA, .ref aR, .ref aD, .ref aS, .int wt])), (aA, .inl (K 0, 32, .inl fa)), (aR, .inl (K 0, 32, .inl fr)), (aD, .inl (K 0, 32, .inl fd)), (aS, .inl (K 0, 32, .inl fs))])) (va_Qv (fun (_ : Unit) => True) (fun _ t => va_P D vwCl [(oh, .inr (3, [.ref aA, .ref aR, .ref aD, .ref aS, .int wt])), (aA, .inl (K 0, 32, .inl (upd fa j xa))), (aR, .inl (K 0, 32, .inl (upd fr j xr))), (aD, .inl (K 0, 32, .inl (upd fd j xd))), (aS, .inl (K 0, 32, .inl (upd fs j xs)))] t.heap) (inW [(oh, .inr (3, [.ref aA, .ref aR, .ref aD, .ref aS, .int wt])), (aA, .inl (K 0, 32, .inl fa)), (aR, .inl (K 0, 32, .inl fr)), (aD, .inl (K 0, 32, .inl fd)), (aS, .inl (K 0, 32, .inl fs))])) 0 0 (inW [(oh, .inr (3, [.ref aA, .ref aR, .ref aD, .ref aS, .int wt])), (aA, .inl (K 0, 32, .inl fa)), (aR, .inl (K 0, 32, .inl fr)), (aD, .inl (K 0, 32, .inl fd)), (aS, .inl (K 0, 32, .inl fs))]) := by
  refine Met.ofW (cc := cX3_lay) (maxL := 6) (ret := none) (by decide) rfl ?_
  intro p e s m args below meth c s₁ B hml hv
  obtain ⟨rfl, hbd, hP, hD0⟩ := hv
  have hx := B.exec
  have hb := B.bytes
  have hr := B.returns
  have hts := atoms_spec (ws := wsX3_lay) B.pre
  have hown : s.vm.findClass RX3 = some m.cls := findClass_of_methodNamed B.named
  have hlocks := B.notSynchronized
  have hK := hbd.2
  have hP : va_P D vwCl [(oh, .inr (3, [.ref aA, .ref aR, .ref aD, .ref aS, .int wt])), (aA, .inl (K 0, 32, .inl fa)), (aR, .inl (K 0, 32, .inl fr)), (aD, .inl (K 0, 32, .inl fd)), (aS, .inl (K 0, 32, .inl fs))] s.heap := hP
  have hin3 : ∀ w ∈ wsX30, w ∈ wsX3_lay := by decide +kernel
  have hD := hD0.own
  generalize hAe : inW [(oh, .inr (3, [.ref aA, .ref aR, .ref aD, .ref aS, .int wt])), (aA, .inl (K 0, 32, .inl fa)), (aR, .inl (K 0, 32, .inl fr)), (aD, .inl (K 0, 32, .inl fd)), (aS, .inl (K 0, 32, .inl fs))] = A at hD ⊢
  have hS : va_S A s.heap s.heap [] := va_S.rf
  have hl := lv_entry ([.ref oh, .int (nI j), .int xa, .int xr, .int xd, .int xs]) (n := 6) (Nat.le_of_ble_eq_true rfl)
  rw [lg_entry_eq]
  generalize (lg_sl ([.ref oh, .int (nI j), .int xa, .int xr, .int xd, .int xs]) ++ List.replicate (6 - (lg_sl ([.ref oh, .int (nI j), .int xa, .int xr, .int xd, .int xs])).length) Slot.unset).toArray = ls at hl ⊢
  have hl : lv_has ls 6 [(0, .ref oh), (1, .int (nI j)), (2, .int xa), (3, .int xr), (4, .int xd), (5, .int xs)] := hl
  have K0 : ∀ (H : Heap) (locs : List Loc) (ls : Array Slot), va_P D vwCl [(oh, .inr (3, [.ref aA, .ref aR, .ref aD, .ref aS, .int wt])), (aA, .inl (K 0, 32, .inl fa)), (aR, .inl (K 0, 32, .inl fr)), (aD, .inl (K 0, 32, .inl fd)), (aS, .inl (K 0, 32, .inl fs))] H → va_D A [(oh, .inr (3, [.ref aA, .ref aR, .ref aD, .ref aS, .int wt])), (aA, .inl (K 0, 32, .inl fa)), (aR, .inl (K 0, 32, .inl fr)), (aD, .inl (K 0, 32, .inl fd)), (aS, .inl (K 0, 32, .inl fs))] → va_S A s.heap H locs → lv_has ls 6 [(0, .ref oh), (1, .int (nI j)), (2, .int xa), (3, .int xr), (4, .int xd), (5, .int xs)] → W p l e (headSpec wsX3_lay ({ frames := 0, cells := 0, slots := 0, locals := 0 })).room s m ([.ref oh, .int (nI j), .int xa, .int xr, .int xd, .int xs] : List Value).toArray below meth c H locs 0 0 (MQ below (va_Qv (fun (_ : Unit) => True) (fun _ t => va_P D vwCl [(oh, .inr (3, [.ref aA, .ref aR, .ref aD, .ref aS, .int wt])), (aA, .inl (K 0, 32, .inl (upd fa j xa))), (aR, .inl (K 0, 32, .inl (upd fr j xr))), (aD, .inl (K 0, 32, .inl (upd fd j xd))), (aS, .inl (K 0, 32, .inl (upd fs j xs)))] t.heap) A) ([.ref oh, .int (nI j), .int xa, .int xr, .int xd, .int xs] : List Value).toArray s 0 0 A) (F0 m 0 ls []) := by
    intro H locs ls hP hD hS hl
    refine lv_iload_n hx hb dX3_lay_0 rfl (lv_at hl 1 rfl) ?_
    refine lv_if_lt (tgt := 10) hx hb dX3_lay_1 (by decide) (fun h_1 => absurd h_1 (nI_nlt (a := j) (b := 0) (by omega) (by omega))) (fun _ => ?_)
    refine lv_iload_n hx hb dX3_lay_4 rfl (lv_at hl 1 rfl) ?_
    refine lv_bipush (v := 32) hx hb dX3_lay_5 (by decide) ?_
    refine lv_icmp_lt (tgt := 11) hx hb dX3_lay_7 (by decide) (fun _ => ?_) (fun h_2 => absurd (nI_lt (a := j) (b := 32) (by omega) (by omega)) h_2)
    refine lv_aload_n hx hb dX3_lay_11 rfl (lv_at hl 0 rfl) ?_
    refine va_get (D := D) (ci := 3) (v := .ref aA) (C := RX3) (T := TX3) (N := 5) hx hb hts hin3 hown hK hP 0 rfl rfl 0 (by decide) (hts _ (List.mem_of_getElem? (i := 1) rfl)) (fun _ h9 => h9) rfl dX3_lay_12 ?_
    refine lv_iload_n hx hb dX3_lay_15 rfl (lv_at hl 1 rfl) ?_
    refine lv_iload_n hx hb dX3_lay_16 rfl (lv_at hl 2 rfl) ?_
    refine n_iast hx hb hK hP hD hS 1 0 rfl rfl j (by omega) (by decide) dX3_lay_17 (fun H locs hP hD hS => ?_)
    have hP : va_P D vwCl [(oh, .inr (3, [.ref aA, .ref aR, .ref aD, .ref aS, .int wt])), (aA, .inl (K 0, 32, .inl (upd fa j xa))), (aR, .inl (K 0, 32, .inl fr)), (aD, .inl (K 0, 32, .inl fd)), (aS, .inl (K 0, 32, .inl fs))] H := hP
    have hD : va_D A [(oh, .inr (3, [.ref aA, .ref aR, .ref aD, .ref aS, .int wt])), (aA, .inl (K 0, 32, .inl (upd fa j xa))), (aR, .inl (K 0, 32, .inl fr)), (aD, .inl (K 0, 32, .inl fd)), (aS, .inl (K 0, 32, .inl fs))] := hD
    refine lv_aload_n hx hb dX3_lay_18 rfl (lv_at hl 0 rfl) ?_
    refine va_get (D := D) (ci := 3) (v := .ref aR) (C := RX3) (T := TX3) (N := 5) hx hb hts hin3 hown hK hP 0 rfl rfl 1 (by decide) (hts _ (List.mem_of_getElem? (i := 2) rfl)) (fun _ h9 => h9) rfl dX3_lay_19 ?_
    refine lv_iload_n hx hb dX3_lay_22 rfl (lv_at hl 1 rfl) ?_
    refine lv_iload_n hx hb dX3_lay_23 rfl (lv_at hl 3 rfl) ?_
    refine n_iast hx hb hK hP hD hS 2 0 rfl rfl j (by omega) (by decide) dX3_lay_24 (fun H locs hP hD hS => ?_)
    have hP : va_P D vwCl [(oh, .inr (3, [.ref aA, .ref aR, .ref aD, .ref aS, .int wt])), (aA, .inl (K 0, 32, .inl (upd fa j xa))), (aR, .inl (K 0, 32, .inl (upd fr j xr))), (aD, .inl (K 0, 32, .inl fd)), (aS, .inl (K 0, 32, .inl fs))] H := hP
    have hD : va_D A [(oh, .inr (3, [.ref aA, .ref aR, .ref aD, .ref aS, .int wt])), (aA, .inl (K 0, 32, .inl (upd fa j xa))), (aR, .inl (K 0, 32, .inl (upd fr j xr))), (aD, .inl (K 0, 32, .inl fd)), (aS, .inl (K 0, 32, .inl fs))] := hD
    refine lv_aload_n hx hb dX3_lay_25 rfl (lv_at hl 0 rfl) ?_
    refine va_get (D := D) (ci := 3) (v := .ref aD) (C := RX3) (T := TX3) (N := 5) hx hb hts hin3 hown hK hP 0 rfl rfl 2 (by decide) (hts _ (List.mem_of_getElem? (i := 3) rfl)) (fun _ h9 => h9) rfl dX3_lay_26 ?_
    refine lv_iload_n hx hb dX3_lay_29 rfl (lv_at hl 1 rfl) ?_
    refine lv_iload hx hb dX3_lay_30 (lv_at hl 4 rfl) ?_
    refine n_iast hx hb hK hP hD hS 3 0 rfl rfl j (by omega) (by decide) dX3_lay_32 (fun H locs hP hD hS => ?_)
    have hP : va_P D vwCl [(oh, .inr (3, [.ref aA, .ref aR, .ref aD, .ref aS, .int wt])), (aA, .inl (K 0, 32, .inl (upd fa j xa))), (aR, .inl (K 0, 32, .inl (upd fr j xr))), (aD, .inl (K 0, 32, .inl (upd fd j xd))), (aS, .inl (K 0, 32, .inl fs))] H := hP
    have hD : va_D A [(oh, .inr (3, [.ref aA, .ref aR, .ref aD, .ref aS, .int wt])), (aA, .inl (K 0, 32, .inl (upd fa j xa))), (aR, .inl (K 0, 32, .inl (upd fr j xr))), (aD, .inl (K 0, 32, .inl (upd fd j xd))), (aS, .inl (K 0, 32, .inl fs))] := hD
    refine lv_aload_n hx hb dX3_lay_33 rfl (lv_at hl 0 rfl) ?_
    refine va_get (D := D) (ci := 3) (v := .ref aS) (C := RX3) (T := TX3) (N := 5) hx hb hts hin3 hown hK hP 0 rfl rfl 3 (by decide) (hts _ (List.mem_of_getElem? (i := 4) rfl)) (fun _ h9 => h9) rfl dX3_lay_34 ?_
    refine lv_iload_n hx hb dX3_lay_37 rfl (lv_at hl 1 rfl) ?_
    refine lv_iload hx hb dX3_lay_38 (lv_at hl 5 rfl) ?_
    refine n_iast hx hb hK hP hD hS 4 0 rfl rfl j (by omega) (by decide) dX3_lay_40 (fun H locs hP hD hS => ?_)
    have hP : va_P D vwCl [(oh, .inr (3, [.ref aA, .ref aR, .ref aD, .ref aS, .int wt])), (aA, .inl (K 0, 32, .inl (upd fa j xa))), (aR, .inl (K 0, 32, .inl (upd fr j xr))), (aD, .inl (K 0, 32, .inl (upd fd j xd))), (aS, .inl (K 0, 32, .inl (upd fs j xs)))] H := hP
    have hD : va_D A [(oh, .inr (3, [.ref aA, .ref aR, .ref aD, .ref aS, .int wt])), (aA, .inl (K 0, 32, .inl (upd fa j xa))), (aR, .inl (K 0, 32, .inl (upd fr j xr))), (aD, .inl (K 0, 32, .inl (upd fd j xd))), (aS, .inl (K 0, 32, .inl (upd fs j xs)))] := hD
    have hPf : va_P D vwCl [(oh, .inr (3, [.ref aA, .ref aR, .ref aD, .ref aS, .int wt])), (aA, .inl (K 0, 32, .inl (upd fa j xa))), (aR, .inl (K 0, 32, .inl (upd fr j xr))), (aD, .inl (K 0, 32, .inl (upd fd j xd))), (aS, .inl (K 0, 32, .inl (upd fs j xs)))] H := hP
    exact W.vret hx hb hr (fun t ht hW => ⟨⟨(), rfl, trivial, by show va_P D vwCl _ t.heap; rw [ht]; exact hPf⟩, hS.F ht⟩) hS.2.2 dX3_lay_41
  exact K0 s.heap [] ls hP hD hS hl
def r_X3_take (fr : Nat → Int32) (j : Nat) : Int32 := (if (r_X3_lies fr j) = 0 then 0 else 1)
def n_X3_take_2 (fr : Nat → Int32) (j : Nat) : Nat → Int32 := (if (r_X3_lies fr j) = 0 then fr else (upd fr j 0))
set_option maxHeartbeats 4000000 in
set_option maxRecDepth 100000 in
theorem c_X3_take (l : Launch) (D : va_G) (K : Nat → ClassId) (oh : Nat) (aA : Nat) (aR : Nat) (aD : Nat) (aS : Nat) (fa : Nat → Int32) (fr : Nat → Int32) (fd : Nat → Int32) (fs : Nat → Int32) (wt : Int32) (j : Nat) (hj : j < 32) : Met l yX3_take wsX3_take ({ frames := 1, cells := 0, slots := 0, locals := 21 }) (va_Pc [.ref oh, .int (nI j)] (fun U => Bd D K U ∧ va_P D vwCl [(oh, .inr (3, [.ref aA, .ref aR, .ref aD, .ref aS, .int wt])), (aA, .inl (K 0, 32, .inl fa)), (aR, .inl (K 0, 32, .inl fr)), (aD, .inl (K 0, 32, .inl fd)), (aS, .inl (K 0, 32, .inl fs))] U.heap ∧ va_D (fun _ => True) [(oh, .inr (3, [.ref aA, .ref aR, .ref aD, .ref aS, .int wt])), (aA, .inl (K 0, 32, .inl fa)), (aR, .inl (K 0, 32, .inl fr)), (aD, .inl (K 0, 32, .inl fd)), (aS, .inl (K 0, 32, .inl fs))])) (va_Qi (fun r (_ : Unit) => r = (r_X3_take fr j)) (fun _ t => va_P D vwCl [(oh, .inr (3, [.ref aA, .ref aR, .ref aD, .ref aS, .int wt])), (aA, .inl (K 0, 32, .inl fa)), (aR, .inl (K 0, 32, .inl (n_X3_take_2 fr j))), (aD, .inl (K 0, 32, .inl fd)), (aS, .inl (K 0, 32, .inl fs))] t.heap) (inW [(oh, .inr (3, [.ref aA, .ref aR, .ref aD, .ref aS, .int wt])), (aA, .inl (K 0, 32, .inl fa)), (aR, .inl (K 0, 32, .inl fr)), (aD, .inl (K 0, 32, .inl fd)), (aS, .inl (K 0, 32, .inl fs))])) 0 0 (inW [(oh, .inr (3, [.ref aA, .ref aR, .ref aD, .ref aS, .int wt])), (aA, .inl (K 0, 32, .inl fa)), (aR, .inl (K 0, 32, .inl fr)), (aD, .inl (K 0, 32, .inl fd)), (aS, .inl (K 0, 32, .inl fs))]) := by
  refine Met.ofW (cc := cX3_take) (maxL := 2) (ret := (some .int)) (by decide) rfl ?_
  intro p e s m args below meth c s₁ B hml hv
  obtain ⟨rfl, hbd, hP, hD0⟩ := hv
  have hx := B.exec
  have hb := B.bytes
  have hr := B.returns
  have hts := atoms_spec (ws := wsX3_take) B.pre
  have hown : s.vm.findClass RX3 = some m.cls := findClass_of_methodNamed B.named
  have hlocks := B.notSynchronized
  have hK := hbd.2
  have hP : va_P D vwCl [(oh, .inr (3, [.ref aA, .ref aR, .ref aD, .ref aS, .int wt])), (aA, .inl (K 0, 32, .inl fa)), (aR, .inl (K 0, 32, .inl fr)), (aD, .inl (K 0, 32, .inl fd)), (aS, .inl (K 0, 32, .inl fs))] s.heap := hP
  have hin3 : ∀ w ∈ wsX30, w ∈ wsX3_take := by decide +kernel
  have hD := hD0.own
  generalize hAe : inW [(oh, .inr (3, [.ref aA, .ref aR, .ref aD, .ref aS, .int wt])), (aA, .inl (K 0, 32, .inl fa)), (aR, .inl (K 0, 32, .inl fr)), (aD, .inl (K 0, 32, .inl fd)), (aS, .inl (K 0, 32, .inl fs))] = A at hD ⊢
  have hS : va_S A s.heap s.heap [] := va_S.rf
  have hl := lv_entry ([.ref oh, .int (nI j)]) (n := 2) (Nat.le_of_ble_eq_true rfl)
  rw [lg_entry_eq]
  generalize (lg_sl ([.ref oh, .int (nI j)]) ++ List.replicate (2 - (lg_sl ([.ref oh, .int (nI j)])).length) Slot.unset).toArray = ls at hl ⊢
  have hl : lv_has ls 2 [(0, .ref oh), (1, .int (nI j))] := hl
  have K0 : ∀ (H : Heap) (locs : List Loc) (ls : Array Slot), va_P D vwCl [(oh, .inr (3, [.ref aA, .ref aR, .ref aD, .ref aS, .int wt])), (aA, .inl (K 0, 32, .inl fa)), (aR, .inl (K 0, 32, .inl fr)), (aD, .inl (K 0, 32, .inl fd)), (aS, .inl (K 0, 32, .inl fs))] H → va_D A [(oh, .inr (3, [.ref aA, .ref aR, .ref aD, .ref aS, .int wt])), (aA, .inl (K 0, 32, .inl fa)), (aR, .inl (K 0, 32, .inl fr)), (aD, .inl (K 0, 32, .inl fd)), (aS, .inl (K 0, 32, .inl fs))] → va_S A s.heap H locs → lv_has ls 2 [(0, .ref oh), (1, .int (nI j))] → W p l e (headSpec wsX3_take ({ frames := 1, cells := 0, slots := 0, locals := 21 })).room s m ([.ref oh, .int (nI j)] : List Value).toArray below meth c H locs 0 0 (MQ below (va_Qi (fun r (_ : Unit) => r = (r_X3_take fr j)) (fun _ t => va_P D vwCl [(oh, .inr (3, [.ref aA, .ref aR, .ref aD, .ref aS, .int wt])), (aA, .inl (K 0, 32, .inl fa)), (aR, .inl (K 0, 32, .inl (n_X3_take_2 fr j))), (aD, .inl (K 0, 32, .inl fd)), (aS, .inl (K 0, 32, .inl fs))] t.heap) A) ([.ref oh, .int (nI j)] : List Value).toArray s 0 0 A) (F0 m 0 ls []) := by
    intro H locs ls hP hD hS hl
    refine lv_aload_n hx hb dX3_take_0 rfl (lv_at hl 0 rfl) ?_
    refine lv_iload_n hx hb dX3_take_1 rfl (lv_at hl 1 rfl) ?_
    have hPc := hP.sub (ws' := [(oh, .inr (3, [.ref aA, .ref aR, .ref aD, .ref aS, .int wt])), (aA, .inl (K 0, 32, .inl fa)), (aR, .inl (K 0, 32, .inl fr)), (aD, .inl (K 0, 32, .inl fd)), (aS, .inl (K 0, 32, .inl fs))]) [0, 1, 2, 3, 4] rfl
    refine vp_callSi (va_Run.run (va_runV (As := [.int (nI j)]) (rest := []) ⟨hx, hb, hml, hown, hts⟩ (c_X3_lies l D K oh aA aR aD aS fa fr fd fs wt j (by omega)) (cwV 1 hts gX3_take_X3_lies rfl rfl rfl (by decide +kernel) ⟨Nat.le_of_ble_eq_true rfl, Nat.le_of_ble_eq_true rfl⟩) (pre_rd hbd hPc (ci := 3) (q0 := 0) rfl rfl) rfl rfl hl.1 rfl (lv_room (Nat.le_of_ble_eq_true rfl)) dX3_take_2 ⟨Nat.zero_le _, Nat.zero_le _⟩)) (fun r_1 hr_1 => ?_)
    subst hr_1
    refine lv_if_ne (tgt := 10) hx hb dX3_take_5 (by decide) (fun c_2 => ?_) (fun c_2 => ?_)
    · skip
      refine lv_aload_n hx hb dX3_take_10 rfl (lv_at hl 0 rfl) ?_
      refine va_get (D := D) (ci := 3) (v := .ref aR) (C := RX3) (T := TX3) (N := 5) hx hb hts hin3 hown hK hP 0 rfl rfl 1 (by decide) (hts _ (List.mem_of_getElem? (i := 1) rfl)) (fun _ h9 => h9) rfl dX3_take_11 ?_
      refine lv_iload_n hx hb dX3_take_14 rfl (lv_at hl 1 rfl) ?_
      refine lv_iconst (v := 0) hx hb dX3_take_15 (by decide) ?_
      refine n_iast hx hb hK hP hD hS 2 0 rfl rfl j (by omega) (by decide) dX3_take_16 (fun H locs hP hD hS => ?_)
      have hP : va_P D vwCl [(oh, .inr (3, [.ref aA, .ref aR, .ref aD, .ref aS, .int wt])), (aA, .inl (K 0, 32, .inl fa)), (aR, .inl (K 0, 32, .inl (upd fr j 0))), (aD, .inl (K 0, 32, .inl fd)), (aS, .inl (K 0, 32, .inl fs))] H := hP
      have hD : va_D A [(oh, .inr (3, [.ref aA, .ref aR, .ref aD, .ref aS, .int wt])), (aA, .inl (K 0, 32, .inl fa)), (aR, .inl (K 0, 32, .inl (upd fr j 0))), (aD, .inl (K 0, 32, .inl fd)), (aS, .inl (K 0, 32, .inl fs))] := hD
      refine lv_iconst (v := 1) hx hb dX3_take_17 (by decide) ?_
      have e_3 : n_X3_take_2 fr j = (upd fr j 0) := by unfold n_X3_take_2; rw [if_neg c_2]
      have hPf : va_P D vwCl [(oh, .inr (3, [.ref aA, .ref aR, .ref aD, .ref aS, .int wt])), (aA, .inl (K 0, 32, .inl fa)), (aR, .inl (K 0, 32, .inl (n_X3_take_2 fr j))), (aD, .inl (K 0, 32, .inl fd)), (aS, .inl (K 0, 32, .inl fs))] H := (by rw [e_3]; exact hP)
      exact W.iret hx hb hr (fun t ht hW => ⟨⟨_, (), rfl, (by unfold r_X3_take; rw [if_neg c_2]), by show va_P D vwCl _ t.heap; rw [ht]; exact hPf⟩, hS.F ht⟩) hS.2.2 dX3_take_18
    · skip
      refine lv_iconst (v := 0) hx hb dX3_take_8 (by decide) ?_
      have e_4 : n_X3_take_2 fr j = fr := by unfold n_X3_take_2; rw [if_pos c_2]
      have hPf : va_P D vwCl [(oh, .inr (3, [.ref aA, .ref aR, .ref aD, .ref aS, .int wt])), (aA, .inl (K 0, 32, .inl fa)), (aR, .inl (K 0, 32, .inl (n_X3_take_2 fr j))), (aD, .inl (K 0, 32, .inl fd)), (aS, .inl (K 0, 32, .inl fs))] H := (by rw [e_4]; exact hP)
      exact W.iret hx hb hr (fun t ht hW => ⟨⟨_, (), rfl, (by unfold r_X3_take; rw [if_pos c_2]), by show va_P D vwCl _ t.heap; rw [ht]; exact hPf⟩, hS.F ht⟩) hS.2.2 dX3_take_9
  exact K0 s.heap [] ls hP hD hS hl
def n_X3_receive_1 (fa : Nat → Int32) (wt : Int32) (j : Nat) (k : Nat) : Nat → Int32 := (if wt = 1 then fa else (if wt = 2 then (upd fa k (nI j)) else (if wt = 3 then (upd (upd fa j (nI j)) k (nI j)) else (upd fa j (nI j)))))
def n_X3_receive_2 (fr : Nat → Int32) (wt : Int32) (j : Nat) (k : Nat) (xr : Int32) : Nat → Int32 := (if wt = 1 then fr else (if wt = 2 then (upd fr k xr) else (if wt = 3 then (upd (upd fr j xr) k xr) else (upd fr j xr))))
def n_X3_receive_3 (fd : Nat → Int32) (wt : Int32) (j : Nat) (k : Nat) (xd : Int32) : Nat → Int32 := (if wt = 1 then fd else (if wt = 2 then (upd fd k xd) else (if wt = 3 then (upd (upd fd j xd) k xd) else (if wt = 4 then (upd fd j (if 9999 ≤ xd then 0 else (xd + 1))) else (upd fd j xd)))))
def n_X3_receive_4 (fs : Nat → Int32) (wt : Int32) (j : Nat) (k : Nat) (xr : Int32) (xd : Int32) : Nat → Int32 := (if wt = 1 then fs else (if wt = 2 then (upd fs k (sumF (nI j) xr xd)) else (if wt = 3 then (upd (upd fs j (sumF (nI j) xr xd)) k (sumF (nI j) xr xd)) else (upd fs j (sumF (nI j) xr xd)))))
set_option maxHeartbeats 4000000 in
set_option maxRecDepth 100000 in
theorem c_X3_receive (l : Launch) (D : va_G) (K : Nat → ClassId) (oh : Nat) (aA : Nat) (aR : Nat) (aD : Nat) (aS : Nat) (fa : Nat → Int32) (fr : Nat → Int32) (fd : Nat → Int32) (fs : Nat → Int32) (wt : Int32) (j : Nat) (k : Nat) (xr : Int32) (xd : Int32) (hj : j < 32) (hk : k < 32) : Met l yX3_receive wsX3_receive ({ frames := 1, cells := 0, slots := 0, locals := 25 }) (va_Pc [.ref oh, .int (nI j), .int (nI k), .int xr, .int xd] (fun U => Bd D K U ∧ va_P D vwCl [(oh, .inr (3, [.ref aA, .ref aR, .ref aD, .ref aS, .int wt])), (aA, .inl (K 0, 32, .inl fa)), (aR, .inl (K 0, 32, .inl fr)), (aD, .inl (K 0, 32, .inl fd)), (aS, .inl (K 0, 32, .inl fs))] U.heap ∧ va_D (fun _ => True) [(oh, .inr (3, [.ref aA, .ref aR, .ref aD, .ref aS, .int wt])), (aA, .inl (K 0, 32, .inl fa)), (aR, .inl (K 0, 32, .inl fr)), (aD, .inl (K 0, 32, .inl fd)), (aS, .inl (K 0, 32, .inl fs))])) (va_Qv (fun (_ : Unit) => True) (fun _ t => va_P D vwCl [(oh, .inr (3, [.ref aA, .ref aR, .ref aD, .ref aS, .int 0])), (aA, .inl (K 0, 32, .inl (n_X3_receive_1 fa wt j k))), (aR, .inl (K 0, 32, .inl (n_X3_receive_2 fr wt j k xr))), (aD, .inl (K 0, 32, .inl (n_X3_receive_3 fd wt j k xd))), (aS, .inl (K 0, 32, .inl (n_X3_receive_4 fs wt j k xr xd)))] t.heap) (inW [(oh, .inr (3, [.ref aA, .ref aR, .ref aD, .ref aS, .int wt])), (aA, .inl (K 0, 32, .inl fa)), (aR, .inl (K 0, 32, .inl fr)), (aD, .inl (K 0, 32, .inl fd)), (aS, .inl (K 0, 32, .inl fs))])) 0 0 (inW [(oh, .inr (3, [.ref aA, .ref aR, .ref aD, .ref aS, .int wt])), (aA, .inl (K 0, 32, .inl fa)), (aR, .inl (K 0, 32, .inl fr)), (aD, .inl (K 0, 32, .inl fd)), (aS, .inl (K 0, 32, .inl fs))]) := by
  refine Met.ofW (cc := cX3_receive) (maxL := 7) (ret := none) (by decide) rfl ?_
  intro p e s m args below meth c s₁ B hml hv
  obtain ⟨rfl, hbd, hP, hD0⟩ := hv
  have hx := B.exec
  have hb := B.bytes
  have hr := B.returns
  have hts := atoms_spec (ws := wsX3_receive) B.pre
  have hown : s.vm.findClass RX3 = some m.cls := findClass_of_methodNamed B.named
  have hlocks := B.notSynchronized
  have hK := hbd.2
  have hP : va_P D vwCl [(oh, .inr (3, [.ref aA, .ref aR, .ref aD, .ref aS, .int wt])), (aA, .inl (K 0, 32, .inl fa)), (aR, .inl (K 0, 32, .inl fr)), (aD, .inl (K 0, 32, .inl fd)), (aS, .inl (K 0, 32, .inl fs))] s.heap := hP
  have hin3 : ∀ w ∈ wsX30, w ∈ wsX3_receive := by decide +kernel
  have hD := hD0.own
  generalize hAe : inW [(oh, .inr (3, [.ref aA, .ref aR, .ref aD, .ref aS, .int wt])), (aA, .inl (K 0, 32, .inl fa)), (aR, .inl (K 0, 32, .inl fr)), (aD, .inl (K 0, 32, .inl fd)), (aS, .inl (K 0, 32, .inl fs))] = A at hD ⊢
  have hS : va_S A s.heap s.heap [] := va_S.rf
  have hl := lv_entry ([.ref oh, .int (nI j), .int (nI k), .int xr, .int xd]) (n := 7) (Nat.le_of_ble_eq_true rfl)
  rw [lg_entry_eq]
  generalize (lg_sl ([.ref oh, .int (nI j), .int (nI k), .int xr, .int xd]) ++ List.replicate (7 - (lg_sl ([.ref oh, .int (nI j), .int (nI k), .int xr, .int xd])).length) Slot.unset).toArray = ls at hl ⊢
  have hl : lv_has ls 7 [(0, .ref oh), (1, .int (nI j)), (2, .int (nI k)), (3, .int xr), (4, .int xd)] := hl
  have K0 : ∀ (H : Heap) (locs : List Loc) (ls : Array Slot), va_P D vwCl [(oh, .inr (3, [.ref aA, .ref aR, .ref aD, .ref aS, .int wt])), (aA, .inl (K 0, 32, .inl fa)), (aR, .inl (K 0, 32, .inl fr)), (aD, .inl (K 0, 32, .inl fd)), (aS, .inl (K 0, 32, .inl fs))] H → va_D A [(oh, .inr (3, [.ref aA, .ref aR, .ref aD, .ref aS, .int wt])), (aA, .inl (K 0, 32, .inl fa)), (aR, .inl (K 0, 32, .inl fr)), (aD, .inl (K 0, 32, .inl fd)), (aS, .inl (K 0, 32, .inl fs))] → va_S A s.heap H locs → lv_has ls 7 [(0, .ref oh), (1, .int (nI j)), (2, .int (nI k)), (3, .int xr), (4, .int xd)] → W p l e (headSpec wsX3_receive ({ frames := 1, cells := 0, slots := 0, locals := 25 })).room s m ([.ref oh, .int (nI j), .int (nI k), .int xr, .int xd] : List Value).toArray below meth c H locs 0 0 (MQ below (va_Qv (fun (_ : Unit) => True) (fun _ t => va_P D vwCl [(oh, .inr (3, [.ref aA, .ref aR, .ref aD, .ref aS, .int 0])), (aA, .inl (K 0, 32, .inl (n_X3_receive_1 fa wt j k))), (aR, .inl (K 0, 32, .inl (n_X3_receive_2 fr wt j k xr))), (aD, .inl (K 0, 32, .inl (n_X3_receive_3 fd wt j k xd))), (aS, .inl (K 0, 32, .inl (n_X3_receive_4 fs wt j k xr xd)))] t.heap) A) ([.ref oh, .int (nI j), .int (nI k), .int xr, .int xd] : List Value).toArray s 0 0 A) (F0 m 0 ls []) := by
    intro H locs ls hP hD hS hl
    refine lv_iload_n hx hb dX3_receive_0 rfl (lv_at hl 1 rfl) ?_
    refine lv_iload_n hx hb dX3_receive_1 rfl (lv_at hl 3 rfl) ?_
    refine lv_iload hx hb dX3_receive_2 (lv_at hl 4 rfl) ?_
    refine vp_callSi (va_Run.run (va_runS (As := [.int (nI j), .int xr, .int xd]) (rest := []) ⟨hx, hb, hml, hown, hts⟩ (c_X3_sumOf l D K (nI j) xr xd ) (va_cwS 3 hts gX3_receive_X3_sumOf rfl rfl rfl (by decide +kernel) ⟨Nat.le_of_ble_eq_true rfl, Nat.le_of_ble_eq_true rfl⟩) pre_s0 rfl rfl hl.1 rfl (lv_room (Nat.le_of_ble_eq_true rfl)) dX3_receive_4 ⟨Nat.zero_le _, Nat.zero_le _⟩)) (fun r_1 hr_1 => ?_)
    subst hr_1
    refine lv_istore (lv' := [(5, .int (sumF (nI j) xr xd)), (0, .ref oh), (1, .int (nI j)), (2, .int (nI k)), (3, .int xr), (4, .int xd)]) hx hb dX3_receive_7  hl (by decide) rfl (fun ls hl => ?_)
    refine lv_aload_n hx hb dX3_receive_9 rfl (lv_at hl 1 rfl) ?_
    refine va_get (D := D) (ci := 3) (v := .int wt) (C := RX3) (T := TX3) (N := 5) hx hb hts hin3 hown hK hP 0 rfl rfl 4 (by decide) (hts _ (List.mem_of_getElem? (i := 1) rfl)) (fun _ h9 => h9) rfl dX3_receive_10 ?_
    refine lv_istore (lv' := [(6, .int wt), (5, .int (sumF (nI j) xr xd)), (0, .ref oh), (1, .int (nI j)), (2, .int (nI k)), (3, .int xr), (4, .int xd)]) hx hb dX3_receive_13  hl (by decide) rfl (fun ls hl => ?_)
    refine lv_aload_n hx hb dX3_receive_15 rfl (lv_at hl 2 rfl) ?_
    refine lv_iconst (v := 0) hx hb dX3_receive_16 (by decide) ?_
    refine va_put (D := D) (ci := 3) (v := .int 0) (ty := .int) (C := RX3) (T := TX3) (N := 5) hx hb hts hin3 tyX3 tyX3_ok nmX3 hown hK hP hD hS 0 rfl rfl 4 (by decide) (hts _ (List.mem_of_getElem? (i := 1) rfl)) (fun _ h9 => h9) rfl (by decide +kernel) rfl rfl (Nat.le_of_ble_eq_true rfl) dX3_receive_17 (fun H locs hP hD hS => ?_)
    have hP : va_P D vwCl [(oh, .inr (3, [.ref aA, .ref aR, .ref aD, .ref aS, .int 0])), (aA, .inl (K 0, 32, .inl fa)), (aR, .inl (K 0, 32, .inl fr)), (aD, .inl (K 0, 32, .inl fd)), (aS, .inl (K 0, 32, .inl fs))] H := hP
    have hD : va_D A [(oh, .inr (3, [.ref aA, .ref aR, .ref aD, .ref aS, .int 0])), (aA, .inl (K 0, 32, .inl fa)), (aR, .inl (K 0, 32, .inl fr)), (aD, .inl (K 0, 32, .inl fd)), (aS, .inl (K 0, 32, .inl fs))] := hD
    refine lv_iload hx hb dX3_receive_20 (lv_at hl 0 rfl) ?_
    refine byc (P := wt = 1) (fun c_2 => ?_) (fun c_2 => ?_)
    · skip
      refine lv_tableIn (off := 30) (tgt := 52) hx hb dX3_receive_22 (by rw [c_2]; decide) (by rw [c_2]; decide) (by rw [c_2]; rfl) (by decide) ?_
      refine lv_goto (tgt := 133) hx hb dX3_receive_52 (by decide) ?_
      have e_3 : n_X3_receive_1 fa wt j k = fa := by unfold n_X3_receive_1; rw [if_pos c_2]
      have e_4 : n_X3_receive_2 fr wt j k xr = fr := by unfold n_X3_receive_2; rw [if_pos c_2]
      have e_5 : n_X3_receive_3 fd wt j k xd = fd := by unfold n_X3_receive_3; rw [if_pos c_2]
      have e_6 : n_X3_receive_4 fs wt j k xr xd = fs := by unfold n_X3_receive_4; rw [if_pos c_2]
      have hPf : va_P D vwCl [(oh, .inr (3, [.ref aA, .ref aR, .ref aD, .ref aS, .int 0])), (aA, .inl (K 0, 32, .inl (n_X3_receive_1 fa wt j k))), (aR, .inl (K 0, 32, .inl (n_X3_receive_2 fr wt j k xr))), (aD, .inl (K 0, 32, .inl (n_X3_receive_3 fd wt j k xd))), (aS, .inl (K 0, 32, .inl (n_X3_receive_4 fs wt j k xr xd)))] H := (by rw [e_3, e_4, e_5, e_6]; exact hP)
      exact W.vret hx hb hr (fun t ht hW => ⟨⟨(), rfl, trivial, by show va_P D vwCl _ t.heap; rw [ht]; exact hPf⟩, hS.F ht⟩) hS.2.2 dX3_receive_133
    · skip
      refine byc (P := wt = 2) (fun c_7 => ?_) (fun c_7 => ?_)
      · skip
        refine lv_tableIn (off := 33) (tgt := 55) hx hb dX3_receive_22 (by rw [c_7]; decide) (by rw [c_7]; decide) (by rw [c_7]; rfl) (by decide) ?_
        refine lv_aload_n hx hb dX3_receive_55 rfl (lv_at hl 2 rfl) ?_
        refine lv_iload_n hx hb dX3_receive_56 rfl (lv_at hl 4 rfl) ?_
        refine lv_iload_n hx hb dX3_receive_57 rfl (lv_at hl 3 rfl) ?_
        refine lv_iload_n hx hb dX3_receive_58 rfl (lv_at hl 5 rfl) ?_
        refine lv_iload hx hb dX3_receive_59 (lv_at hl 6 rfl) ?_
        refine lv_iload hx hb dX3_receive_61 (lv_at hl 1 rfl) ?_
        have hPc := hP.sub (ws' := [(oh, .inr (3, [.ref aA, .ref aR, .ref aD, .ref aS, .int 0])), (aA, .inl (K 0, 32, .inl fa)), (aR, .inl (K 0, 32, .inl fr)), (aD, .inl (K 0, 32, .inl fd)), (aS, .inl (K 0, 32, .inl fs))]) [0, 1, 2, 3, 4] rfl
        have hDc : va_D (fun _ => True) [(oh, .inr (3, [.ref aA, .ref aR, .ref aD, .ref aS, .int 0])), (aA, .inl (K 0, 32, .inl fa)), (aR, .inl (K 0, 32, .inl fr)), (aD, .inl (K 0, 32, .inl fd)), (aS, .inl (K 0, 32, .inl fs))] := (hD.sub (ws' := [(oh, .inr (3, [.ref aA, .ref aR, .ref aD, .ref aS, .int 0])), (aA, .inl (K 0, 32, .inl fa)), (aR, .inl (K 0, 32, .inl fr)), (aD, .inl (K 0, 32, .inl fd)), (aS, .inl (K 0, 32, .inl fs))]) [0, 1, 2, 3, 4] (by decide +kernel) rfl).weaken (fun _ _ _ _ => trivial)
        refine kw_v (W1 := [(oh, .inr (3, [.ref aA, .ref aR, .ref aD, .ref aS, .int 0])), (aA, .inl (K 0, 32, .inl (upd fa k (nI j)))), (aR, .inl (K 0, 32, .inl (upd fr k xr))), (aD, .inl (K 0, 32, .inl (upd fd k xd))), (aS, .inl (K 0, 32, .inl (upd fs k (sumF (nI j) xr xd))))]) (w1 := [(oh, .inr (3, [.ref aA, .ref aR, .ref aD, .ref aS, .int 0])), (aA, .inl (K 0, 32, .inl (upd fa k (nI j)))), (aR, .inl (K 0, 32, .inl (upd fr k xr))), (aD, .inl (K 0, 32, .inl (upd fd k xd))), (aS, .inl (K 0, 32, .inl (upd fs k (sumF (nI j) xr xd))))]) (va_runV (As := [.int (nI k), .int (nI j), .int xr, .int xd, .int (sumF (nI j) xr xd)]) (rest := []) ⟨hx, hb, hml, hown, hts⟩ (c_X3_lay l D K oh aA aR aD aS fa fr fd fs 0 k (nI j) xr xd (sumF (nI j) xr xd) (by omega)) (cwV 5 hts gX3_receive_X3_lay rfl rfl rfl (by decide +kernel) ⟨Nat.le_of_ble_eq_true rfl, Nat.le_of_ble_eq_true rfl⟩) (pre_wr hbd hPc hDc (ci := 3) (q0 := 0) rfl rfl) rfl rfl hl.1 rfl (lv_room (Nat.le_of_ble_eq_true rfl)) dX3_receive_63 ⟨Nat.zero_le _, Nat.zero_le _⟩) hP hD hS [0, 1, 2, 3, 4] [] 5 rfl rfl rfl rfl (by decide +kernel) (by decide +kernel) rfl (fun H locs hP hD hS => ?_)
        refine lv_goto (tgt := 133) hx hb dX3_receive_66 (by decide) ?_
        have e_8 : n_X3_receive_1 fa wt j k = (upd fa k (nI j)) := by unfold n_X3_receive_1; rw [if_neg c_2, if_pos c_7]
        have e_9 : n_X3_receive_2 fr wt j k xr = (upd fr k xr) := by unfold n_X3_receive_2; rw [if_neg c_2, if_pos c_7]
        have e_10 : n_X3_receive_3 fd wt j k xd = (upd fd k xd) := by unfold n_X3_receive_3; rw [if_neg c_2, if_pos c_7]
        have e_11 : n_X3_receive_4 fs wt j k xr xd = (upd fs k (sumF (nI j) xr xd)) := by unfold n_X3_receive_4; rw [if_neg c_2, if_pos c_7]
        have hPf : va_P D vwCl [(oh, .inr (3, [.ref aA, .ref aR, .ref aD, .ref aS, .int 0])), (aA, .inl (K 0, 32, .inl (n_X3_receive_1 fa wt j k))), (aR, .inl (K 0, 32, .inl (n_X3_receive_2 fr wt j k xr))), (aD, .inl (K 0, 32, .inl (n_X3_receive_3 fd wt j k xd))), (aS, .inl (K 0, 32, .inl (n_X3_receive_4 fs wt j k xr xd)))] H := (by rw [e_8, e_9, e_10, e_11]; exact hP)
        exact W.vret hx hb hr (fun t ht hW => ⟨⟨(), rfl, trivial, by show va_P D vwCl _ t.heap; rw [ht]; exact hPf⟩, hS.F ht⟩) hS.2.2 dX3_receive_133
      · skip
        refine byc (P := wt = 3) (fun c_12 => ?_) (fun c_12 => ?_)
        · skip
          refine lv_tableIn (off := 47) (tgt := 69) hx hb dX3_receive_22 (by rw [c_12]; decide) (by rw [c_12]; decide) (by rw [c_12]; rfl) (by decide) ?_
          refine lv_aload_n hx hb dX3_receive_69 rfl (lv_at hl 2 rfl) ?_
          refine lv_iload_n hx hb dX3_receive_70 rfl (lv_at hl 3 rfl) ?_
          refine lv_iload_n hx hb dX3_receive_71 rfl (lv_at hl 3 rfl) ?_
          refine lv_iload_n hx hb dX3_receive_72 rfl (lv_at hl 5 rfl) ?_
          refine lv_iload hx hb dX3_receive_73 (lv_at hl 6 rfl) ?_
          refine lv_iload hx hb dX3_receive_75 (lv_at hl 1 rfl) ?_
          have hPc := hP.sub (ws' := [(oh, .inr (3, [.ref aA, .ref aR, .ref aD, .ref aS, .int 0])), (aA, .inl (K 0, 32, .inl fa)), (aR, .inl (K 0, 32, .inl fr)), (aD, .inl (K 0, 32, .inl fd)), (aS, .inl (K 0, 32, .inl fs))]) [0, 1, 2, 3, 4] rfl
          have hDc : va_D (fun _ => True) [(oh, .inr (3, [.ref aA, .ref aR, .ref aD, .ref aS, .int 0])), (aA, .inl (K 0, 32, .inl fa)), (aR, .inl (K 0, 32, .inl fr)), (aD, .inl (K 0, 32, .inl fd)), (aS, .inl (K 0, 32, .inl fs))] := (hD.sub (ws' := [(oh, .inr (3, [.ref aA, .ref aR, .ref aD, .ref aS, .int 0])), (aA, .inl (K 0, 32, .inl fa)), (aR, .inl (K 0, 32, .inl fr)), (aD, .inl (K 0, 32, .inl fd)), (aS, .inl (K 0, 32, .inl fs))]) [0, 1, 2, 3, 4] (by decide +kernel) rfl).weaken (fun _ _ _ _ => trivial)
          refine kw_v (W1 := [(oh, .inr (3, [.ref aA, .ref aR, .ref aD, .ref aS, .int 0])), (aA, .inl (K 0, 32, .inl (upd fa j (nI j)))), (aR, .inl (K 0, 32, .inl (upd fr j xr))), (aD, .inl (K 0, 32, .inl (upd fd j xd))), (aS, .inl (K 0, 32, .inl (upd fs j (sumF (nI j) xr xd))))]) (w1 := [(oh, .inr (3, [.ref aA, .ref aR, .ref aD, .ref aS, .int 0])), (aA, .inl (K 0, 32, .inl (upd fa j (nI j)))), (aR, .inl (K 0, 32, .inl (upd fr j xr))), (aD, .inl (K 0, 32, .inl (upd fd j xd))), (aS, .inl (K 0, 32, .inl (upd fs j (sumF (nI j) xr xd))))]) (va_runV (As := [.int (nI j), .int (nI j), .int xr, .int xd, .int (sumF (nI j) xr xd)]) (rest := []) ⟨hx, hb, hml, hown, hts⟩ (c_X3_lay l D K oh aA aR aD aS fa fr fd fs 0 j (nI j) xr xd (sumF (nI j) xr xd) (by omega)) (cwV 5 hts gX3_receive_X3_lay rfl rfl rfl (by decide +kernel) ⟨Nat.le_of_ble_eq_true rfl, Nat.le_of_ble_eq_true rfl⟩) (pre_wr hbd hPc hDc (ci := 3) (q0 := 0) rfl rfl) rfl rfl hl.1 rfl (lv_room (Nat.le_of_ble_eq_true rfl)) dX3_receive_77 ⟨Nat.zero_le _, Nat.zero_le _⟩) hP hD hS [0, 1, 2, 3, 4] [] 5 rfl rfl rfl rfl (by decide +kernel) (by decide +kernel) rfl (fun H locs hP hD hS => ?_)
          refine lv_aload_n hx hb dX3_receive_80 rfl (lv_at hl 2 rfl) ?_
          refine lv_iload_n hx hb dX3_receive_81 rfl (lv_at hl 4 rfl) ?_
          refine lv_iload_n hx hb dX3_receive_82 rfl (lv_at hl 3 rfl) ?_
          refine lv_iload_n hx hb dX3_receive_83 rfl (lv_at hl 5 rfl) ?_
          refine lv_iload hx hb dX3_receive_84 (lv_at hl 6 rfl) ?_
          refine lv_iload hx hb dX3_receive_86 (lv_at hl 1 rfl) ?_
          have hPc := hP.sub (ws' := [(oh, .inr (3, [.ref aA, .ref aR, .ref aD, .ref aS, .int 0])), (aA, .inl (K 0, 32, .inl (upd fa j (nI j)))), (aR, .inl (K 0, 32, .inl (upd fr j xr))), (aD, .inl (K 0, 32, .inl (upd fd j xd))), (aS, .inl (K 0, 32, .inl (upd fs j (sumF (nI j) xr xd))))]) [0, 1, 2, 3, 4] rfl
          have hDc : va_D (fun _ => True) [(oh, .inr (3, [.ref aA, .ref aR, .ref aD, .ref aS, .int 0])), (aA, .inl (K 0, 32, .inl (upd fa j (nI j)))), (aR, .inl (K 0, 32, .inl (upd fr j xr))), (aD, .inl (K 0, 32, .inl (upd fd j xd))), (aS, .inl (K 0, 32, .inl (upd fs j (sumF (nI j) xr xd))))] := (hD.sub (ws' := [(oh, .inr (3, [.ref aA, .ref aR, .ref aD, .ref aS, .int 0])), (aA, .inl (K 0, 32, .inl (upd fa j (nI j)))), (aR, .inl (K 0, 32, .inl (upd fr j xr))), (aD, .inl (K 0, 32, .inl (upd fd j xd))), (aS, .inl (K 0, 32, .inl (upd fs j (sumF (nI j) xr xd))))]) [0, 1, 2, 3, 4] (by decide +kernel) rfl).weaken (fun _ _ _ _ => trivial)
          refine kw_v (W1 := [(oh, .inr (3, [.ref aA, .ref aR, .ref aD, .ref aS, .int 0])), (aA, .inl (K 0, 32, .inl (upd (upd fa j (nI j)) k (nI j)))), (aR, .inl (K 0, 32, .inl (upd (upd fr j xr) k xr))), (aD, .inl (K 0, 32, .inl (upd (upd fd j xd) k xd))), (aS, .inl (K 0, 32, .inl (upd (upd fs j (sumF (nI j) xr xd)) k (sumF (nI j) xr xd))))]) (w1 := [(oh, .inr (3, [.ref aA, .ref aR, .ref aD, .ref aS, .int 0])), (aA, .inl (K 0, 32, .inl (upd (upd fa j (nI j)) k (nI j)))), (aR, .inl (K 0, 32, .inl (upd (upd fr j xr) k xr))), (aD, .inl (K 0, 32, .inl (upd (upd fd j xd) k xd))), (aS, .inl (K 0, 32, .inl (upd (upd fs j (sumF (nI j) xr xd)) k (sumF (nI j) xr xd))))]) (va_runV (As := [.int (nI k), .int (nI j), .int xr, .int xd, .int (sumF (nI j) xr xd)]) (rest := []) ⟨hx, hb, hml, hown, hts⟩ (c_X3_lay l D K oh aA aR aD aS (upd fa j (nI j)) (upd fr j xr) (upd fd j xd) (upd fs j (sumF (nI j) xr xd)) 0 k (nI j) xr xd (sumF (nI j) xr xd) (by omega)) (cwV 5 hts gX3_receive_X3_lay rfl rfl rfl (by decide +kernel) ⟨Nat.le_of_ble_eq_true rfl, Nat.le_of_ble_eq_true rfl⟩) (pre_wr hbd hPc hDc (ci := 3) (q0 := 0) rfl rfl) rfl rfl hl.1 rfl (lv_room (Nat.le_of_ble_eq_true rfl)) dX3_receive_88 ⟨Nat.zero_le _, Nat.zero_le _⟩) hP hD hS [0, 1, 2, 3, 4] [] 5 rfl rfl rfl rfl (by decide +kernel) (by decide +kernel) rfl (fun H locs hP hD hS => ?_)
          refine lv_goto (tgt := 133) hx hb dX3_receive_91 (by decide) ?_
          have e_13 : n_X3_receive_1 fa wt j k = (upd (upd fa j (nI j)) k (nI j)) := by unfold n_X3_receive_1; rw [if_neg c_2, if_neg c_7, if_pos c_12]
          have e_14 : n_X3_receive_2 fr wt j k xr = (upd (upd fr j xr) k xr) := by unfold n_X3_receive_2; rw [if_neg c_2, if_neg c_7, if_pos c_12]
          have e_15 : n_X3_receive_3 fd wt j k xd = (upd (upd fd j xd) k xd) := by unfold n_X3_receive_3; rw [if_neg c_2, if_neg c_7, if_pos c_12]
          have e_16 : n_X3_receive_4 fs wt j k xr xd = (upd (upd fs j (sumF (nI j) xr xd)) k (sumF (nI j) xr xd)) := by unfold n_X3_receive_4; rw [if_neg c_2, if_neg c_7, if_pos c_12]
          have hPf : va_P D vwCl [(oh, .inr (3, [.ref aA, .ref aR, .ref aD, .ref aS, .int 0])), (aA, .inl (K 0, 32, .inl (n_X3_receive_1 fa wt j k))), (aR, .inl (K 0, 32, .inl (n_X3_receive_2 fr wt j k xr))), (aD, .inl (K 0, 32, .inl (n_X3_receive_3 fd wt j k xd))), (aS, .inl (K 0, 32, .inl (n_X3_receive_4 fs wt j k xr xd)))] H := (by rw [e_13, e_14, e_15, e_16]; exact hP)
          exact W.vret hx hb hr (fun t ht hW => ⟨⟨(), rfl, trivial, by show va_P D vwCl _ t.heap; rw [ht]; exact hPf⟩, hS.F ht⟩) hS.2.2 dX3_receive_133
        · skip
          refine byc (P := wt = 4) (fun c_17 => ?_) (fun c_17 => ?_)
          · skip
            refine lv_tableIn (off := 72) (tgt := 94) hx hb dX3_receive_22 (by rw [c_17]; decide) (by rw [c_17]; decide) (by rw [c_17]; rfl) (by decide) ?_
            refine lv_aload_n hx hb dX3_receive_94 rfl (lv_at hl 2 rfl) ?_
            refine lv_iload_n hx hb dX3_receive_95 rfl (lv_at hl 3 rfl) ?_
            refine lv_iload_n hx hb dX3_receive_96 rfl (lv_at hl 3 rfl) ?_
            refine lv_iload_n hx hb dX3_receive_97 rfl (lv_at hl 5 rfl) ?_
            refine lv_iload hx hb dX3_receive_98 (lv_at hl 6 rfl) ?_
            refine lv_sipush (v := 9999) hx hb dX3_receive_100 (by decide) ?_
            have K_20 : ∀ (H : Heap) (locs : List Loc) (ls : Array Slot), va_P D vwCl [(oh, .inr (3, [.ref aA, .ref aR, .ref aD, .ref aS, .int 0])), (aA, .inl (K 0, 32, .inl fa)), (aR, .inl (K 0, 32, .inl fr)), (aD, .inl (K 0, 32, .inl fd)), (aS, .inl (K 0, 32, .inl fs))] H → va_D A [(oh, .inr (3, [.ref aA, .ref aR, .ref aD, .ref aS, .int 0])), (aA, .inl (K 0, 32, .inl fa)), (aR, .inl (K 0, 32, .inl fr)), (aD, .inl (K 0, 32, .inl fd)), (aS, .inl (K 0, 32, .inl fs))] → va_S A s.heap H locs → lv_has ls 7 [(6, .int wt), (5, .int (sumF (nI j) xr xd)), (0, .ref oh), (1, .int (nI j)), (2, .int (nI k)), (3, .int xr), (4, .int xd)] → W p l e (headSpec wsX3_receive ({ frames := 1, cells := 0, slots := 0, locals := 25 })).room s m ([.ref oh, .int (nI j), .int (nI k), .int xr, .int xd] : List Value).toArray below meth c H locs 0 0 (MQ below (va_Qv (fun (_ : Unit) => True) (fun _ t => va_P D vwCl [(oh, .inr (3, [.ref aA, .ref aR, .ref aD, .ref aS, .int 0])), (aA, .inl (K 0, 32, .inl (n_X3_receive_1 fa wt j k))), (aR, .inl (K 0, 32, .inl (n_X3_receive_2 fr wt j k xr))), (aD, .inl (K 0, 32, .inl (n_X3_receive_3 fd wt j k xd))), (aS, .inl (K 0, 32, .inl (n_X3_receive_4 fs wt j k xr xd)))] t.heap) A) ([.ref oh, .int (nI j), .int (nI k), .int xr, .int xd] : List Value).toArray s 0 0 A) (F0 m 114 ls [.int (if 9999 ≤ xd then 0 else (xd + 1)), .int xr, .int (nI j), .int (nI j), .ref oh]) := by
              intro H locs ls hP hD hS hl
              refine lv_iload hx hb dX3_receive_114 (lv_at hl 1 rfl) ?_
              have hPc := hP.sub (ws' := [(oh, .inr (3, [.ref aA, .ref aR, .ref aD, .ref aS, .int 0])), (aA, .inl (K 0, 32, .inl fa)), (aR, .inl (K 0, 32, .inl fr)), (aD, .inl (K 0, 32, .inl fd)), (aS, .inl (K 0, 32, .inl fs))]) [0, 1, 2, 3, 4] rfl
              have hDc : va_D (fun _ => True) [(oh, .inr (3, [.ref aA, .ref aR, .ref aD, .ref aS, .int 0])), (aA, .inl (K 0, 32, .inl fa)), (aR, .inl (K 0, 32, .inl fr)), (aD, .inl (K 0, 32, .inl fd)), (aS, .inl (K 0, 32, .inl fs))] := (hD.sub (ws' := [(oh, .inr (3, [.ref aA, .ref aR, .ref aD, .ref aS, .int 0])), (aA, .inl (K 0, 32, .inl fa)), (aR, .inl (K 0, 32, .inl fr)), (aD, .inl (K 0, 32, .inl fd)), (aS, .inl (K 0, 32, .inl fs))]) [0, 1, 2, 3, 4] (by decide +kernel) rfl).weaken (fun _ _ _ _ => trivial)
              refine kw_v (W1 := [(oh, .inr (3, [.ref aA, .ref aR, .ref aD, .ref aS, .int 0])), (aA, .inl (K 0, 32, .inl (upd fa j (nI j)))), (aR, .inl (K 0, 32, .inl (upd fr j xr))), (aD, .inl (K 0, 32, .inl (upd fd j (if 9999 ≤ xd then 0 else (xd + 1))))), (aS, .inl (K 0, 32, .inl (upd fs j (sumF (nI j) xr xd))))]) (w1 := [(oh, .inr (3, [.ref aA, .ref aR, .ref aD, .ref aS, .int 0])), (aA, .inl (K 0, 32, .inl (upd fa j (nI j)))), (aR, .inl (K 0, 32, .inl (upd fr j xr))), (aD, .inl (K 0, 32, .inl (upd fd j (if 9999 ≤ xd then 0 else (xd + 1))))), (aS, .inl (K 0, 32, .inl (upd fs j (sumF (nI j) xr xd))))]) (va_runV (As := [.int (nI j), .int (nI j), .int xr, .int (if 9999 ≤ xd then 0 else (xd + 1)), .int (sumF (nI j) xr xd)]) (rest := []) ⟨hx, hb, hml, hown, hts⟩ (c_X3_lay l D K oh aA aR aD aS fa fr fd fs 0 j (nI j) xr (if 9999 ≤ xd then 0 else (xd + 1)) (sumF (nI j) xr xd) (by omega)) (cwV 5 hts gX3_receive_X3_lay rfl rfl rfl (by decide +kernel) ⟨Nat.le_of_ble_eq_true rfl, Nat.le_of_ble_eq_true rfl⟩) (pre_wr hbd hPc hDc (ci := 3) (q0 := 0) rfl rfl) rfl rfl hl.1 rfl (lv_room (Nat.le_of_ble_eq_true rfl)) dX3_receive_116 ⟨Nat.zero_le _, Nat.zero_le _⟩) hP hD hS [0, 1, 2, 3, 4] [] 5 rfl rfl rfl rfl (by decide +kernel) (by decide +kernel) rfl (fun H locs hP hD hS => ?_)
              refine lv_goto (tgt := 133) hx hb dX3_receive_119 (by decide) ?_
              have e_21 : n_X3_receive_1 fa wt j k = (upd fa j (nI j)) := by unfold n_X3_receive_1; rw [if_neg c_2, if_neg c_7, if_neg c_12]
              have e_22 : n_X3_receive_2 fr wt j k xr = (upd fr j xr) := by unfold n_X3_receive_2; rw [if_neg c_2, if_neg c_7, if_neg c_12]
              have e_23 : n_X3_receive_3 fd wt j k xd = (upd fd j (if 9999 ≤ xd then 0 else (xd + 1))) := by unfold n_X3_receive_3; rw [if_neg c_2, if_neg c_7, if_neg c_12, if_pos c_17]
              have e_24 : n_X3_receive_4 fs wt j k xr xd = (upd fs j (sumF (nI j) xr xd)) := by unfold n_X3_receive_4; rw [if_neg c_2, if_neg c_7, if_neg c_12]
              have hPf : va_P D vwCl [(oh, .inr (3, [.ref aA, .ref aR, .ref aD, .ref aS, .int 0])), (aA, .inl (K 0, 32, .inl (n_X3_receive_1 fa wt j k))), (aR, .inl (K 0, 32, .inl (n_X3_receive_2 fr wt j k xr))), (aD, .inl (K 0, 32, .inl (n_X3_receive_3 fd wt j k xd))), (aS, .inl (K 0, 32, .inl (n_X3_receive_4 fs wt j k xr xd)))] H := (by rw [e_21, e_22, e_23, e_24]; exact hP)
              exact W.vret hx hb hr (fun t ht hW => ⟨⟨(), rfl, trivial, by show va_P D vwCl _ t.heap; rw [ht]; exact hPf⟩, hS.F ht⟩) hS.2.2 dX3_receive_133
            refine lv_icmp_ge (tgt := 113) hx hb dX3_receive_103 (by decide) (fun c_18 => ?_) (fun c_18 => ?_)
            · skip
              refine lv_iconst (v := 0) hx hb dX3_receive_113 (by decide) ?_
              have e_25 : ((if 9999 ≤ xd then 0 else (xd + 1)) : Int32) = 0 := by rw [if_pos c_18]
              exact W.eq (g2 := (F0 m 114 ls [.int (if 9999 ≤ xd then 0 else (xd + 1)), .int xr, .int (nI j), .int (nI j), .ref oh])) (by first | (rw [e_25]; done) | (rw [e_25]; rfl)) (K_20 _ _ _ hP hD hS (lv_sub hl [0, 1, 2, 3, 4, 5, 6] rfl))
            · skip
              refine lv_iload hx hb dX3_receive_106 (lv_at hl 6 rfl) ?_
              refine lv_iconst (v := 1) hx hb dX3_receive_108 (by decide) ?_
              refine lv_iadd hx hb dX3_receive_109 ?_
              refine lv_goto (tgt := 114) hx hb dX3_receive_110 (by decide) ?_
              have e_26 : ((if 9999 ≤ xd then 0 else (xd + 1)) : Int32) = (xd + 1) := by rw [if_neg c_18]
              exact W.eq (g2 := (F0 m 114 ls [.int (if 9999 ≤ xd then 0 else (xd + 1)), .int xr, .int (nI j), .int (nI j), .ref oh])) (by first | (rw [e_26]; done) | (rw [e_26]; rfl)) (K_20 _ _ _ hP hD hS (lv_sub hl [0, 1, 2, 3, 4, 5, 6] rfl))
          · skip
            refine lv_tableOut (tgt := 122) hx hb dX3_receive_22 (by have g0 := lv_neT (a := 1) c_2 (by decide); have g1 := lv_neT (a := 2) c_7 (by decide); have g2 := lv_neT (a := 3) c_12 (by decide); have g3 := lv_neT (a := 4) c_17 (by decide); omega) (by decide) ?_
            refine lv_aload_n hx hb dX3_receive_122 rfl (lv_at hl 2 rfl) ?_
            refine lv_iload_n hx hb dX3_receive_123 rfl (lv_at hl 3 rfl) ?_
            refine lv_iload_n hx hb dX3_receive_124 rfl (lv_at hl 3 rfl) ?_
            refine lv_iload_n hx hb dX3_receive_125 rfl (lv_at hl 5 rfl) ?_
            refine lv_iload hx hb dX3_receive_126 (lv_at hl 6 rfl) ?_
            refine lv_iload hx hb dX3_receive_128 (lv_at hl 1 rfl) ?_
            have hPc := hP.sub (ws' := [(oh, .inr (3, [.ref aA, .ref aR, .ref aD, .ref aS, .int 0])), (aA, .inl (K 0, 32, .inl fa)), (aR, .inl (K 0, 32, .inl fr)), (aD, .inl (K 0, 32, .inl fd)), (aS, .inl (K 0, 32, .inl fs))]) [0, 1, 2, 3, 4] rfl
            have hDc : va_D (fun _ => True) [(oh, .inr (3, [.ref aA, .ref aR, .ref aD, .ref aS, .int 0])), (aA, .inl (K 0, 32, .inl fa)), (aR, .inl (K 0, 32, .inl fr)), (aD, .inl (K 0, 32, .inl fd)), (aS, .inl (K 0, 32, .inl fs))] := (hD.sub (ws' := [(oh, .inr (3, [.ref aA, .ref aR, .ref aD, .ref aS, .int 0])), (aA, .inl (K 0, 32, .inl fa)), (aR, .inl (K 0, 32, .inl fr)), (aD, .inl (K 0, 32, .inl fd)), (aS, .inl (K 0, 32, .inl fs))]) [0, 1, 2, 3, 4] (by decide +kernel) rfl).weaken (fun _ _ _ _ => trivial)
            refine kw_v (W1 := [(oh, .inr (3, [.ref aA, .ref aR, .ref aD, .ref aS, .int 0])), (aA, .inl (K 0, 32, .inl (upd fa j (nI j)))), (aR, .inl (K 0, 32, .inl (upd fr j xr))), (aD, .inl (K 0, 32, .inl (upd fd j xd))), (aS, .inl (K 0, 32, .inl (upd fs j (sumF (nI j) xr xd))))]) (w1 := [(oh, .inr (3, [.ref aA, .ref aR, .ref aD, .ref aS, .int 0])), (aA, .inl (K 0, 32, .inl (upd fa j (nI j)))), (aR, .inl (K 0, 32, .inl (upd fr j xr))), (aD, .inl (K 0, 32, .inl (upd fd j xd))), (aS, .inl (K 0, 32, .inl (upd fs j (sumF (nI j) xr xd))))]) (va_runV (As := [.int (nI j), .int (nI j), .int xr, .int xd, .int (sumF (nI j) xr xd)]) (rest := []) ⟨hx, hb, hml, hown, hts⟩ (c_X3_lay l D K oh aA aR aD aS fa fr fd fs 0 j (nI j) xr xd (sumF (nI j) xr xd) (by omega)) (cwV 5 hts gX3_receive_X3_lay rfl rfl rfl (by decide +kernel) ⟨Nat.le_of_ble_eq_true rfl, Nat.le_of_ble_eq_true rfl⟩) (pre_wr hbd hPc hDc (ci := 3) (q0 := 0) rfl rfl) rfl rfl hl.1 rfl (lv_room (Nat.le_of_ble_eq_true rfl)) dX3_receive_130 ⟨Nat.zero_le _, Nat.zero_le _⟩) hP hD hS [0, 1, 2, 3, 4] [] 5 rfl rfl rfl rfl (by decide +kernel) (by decide +kernel) rfl (fun H locs hP hD hS => ?_)
            have e_27 : n_X3_receive_1 fa wt j k = (upd fa j (nI j)) := by unfold n_X3_receive_1; rw [if_neg c_2, if_neg c_7, if_neg c_12]
            have e_28 : n_X3_receive_2 fr wt j k xr = (upd fr j xr) := by unfold n_X3_receive_2; rw [if_neg c_2, if_neg c_7, if_neg c_12]
            have e_29 : n_X3_receive_3 fd wt j k xd = (upd fd j xd) := by unfold n_X3_receive_3; rw [if_neg c_2, if_neg c_7, if_neg c_12, if_neg c_17]
            have e_30 : n_X3_receive_4 fs wt j k xr xd = (upd fs j (sumF (nI j) xr xd)) := by unfold n_X3_receive_4; rw [if_neg c_2, if_neg c_7, if_neg c_12]
            have hPf : va_P D vwCl [(oh, .inr (3, [.ref aA, .ref aR, .ref aD, .ref aS, .int 0])), (aA, .inl (K 0, 32, .inl (n_X3_receive_1 fa wt j k))), (aR, .inl (K 0, 32, .inl (n_X3_receive_2 fr wt j k xr))), (aD, .inl (K 0, 32, .inl (n_X3_receive_3 fd wt j k xd))), (aS, .inl (K 0, 32, .inl (n_X3_receive_4 fs wt j k xr xd)))] H := (by rw [e_27, e_28, e_29, e_30]; exact hP)
            exact W.vret hx hb hr (fun t ht hW => ⟨⟨(), rfl, trivial, by show va_P D vwCl _ t.heap; rw [ht]; exact hPf⟩, hS.F ht⟩) hS.2.2 dX3_receive_133
  exact K0 s.heap [] ls hP hD hS hl
def n_X3_copyBlock_1 (fa : Nat → Int32) (ga : Nat → Int32) (gr : Nat → Int32) (j : Nat) : Nat → Int32 := (if (r_X3_lies gr j) = 0 then fa else (upd fa j (ga j)))
def n_X3_copyBlock_2 (fr : Nat → Int32) (gr : Nat → Int32) (j : Nat) : Nat → Int32 := (if (r_X3_lies gr j) = 0 then fr else (upd fr j (gr j)))
def n_X3_copyBlock_3 (fd : Nat → Int32) (gr : Nat → Int32) (gd : Nat → Int32) (j : Nat) : Nat → Int32 := (if (r_X3_lies gr j) = 0 then fd else (upd fd j (gd j)))
def n_X3_copyBlock_4 (fs : Nat → Int32) (gr : Nat → Int32) (gs : Nat → Int32) (j : Nat) : Nat → Int32 := (if (r_X3_lies gr j) = 0 then fs else (upd fs j (gs j)))
set_option maxHeartbeats 4000000 in
set_option maxRecDepth 100000 in
theorem c_X3_copyBlock (l : Launch) (D : va_G) (K : Nat → ClassId) (oh : Nat) (aA : Nat) (aR : Nat) (aD : Nat) (aS : Nat) (fa : Nat → Int32) (fr : Nat → Int32) (fd : Nat → Int32) (fs : Nat → Int32) (wt : Int32) (oh2 : Nat) (bA : Nat) (bR : Nat) (bD : Nat) (bS : Nat) (ga : Nat → Int32) (gr : Nat → Int32) (gd : Nat → Int32) (gs : Nat → Int32) (wt2 : Int32) (j : Nat) (hj : j < 32) : Met l yX3_copyBlock wsX3_copyBlock ({ frames := 1, cells := 0, slots := 0, locals := 25 }) (va_Pc [.ref oh, .ref oh2, .int (nI j)] (fun U => Bd D K U ∧ va_P D vwCl [(oh, .inr (3, [.ref aA, .ref aR, .ref aD, .ref aS, .int wt])), (aA, .inl (K 0, 32, .inl fa)), (aR, .inl (K 0, 32, .inl fr)), (aD, .inl (K 0, 32, .inl fd)), (aS, .inl (K 0, 32, .inl fs)), (oh2, .inr (3, [.ref bA, .ref bR, .ref bD, .ref bS, .int wt2])), (bA, .inl (K 0, 32, .inl ga)), (bR, .inl (K 0, 32, .inl gr)), (bD, .inl (K 0, 32, .inl gd)), (bS, .inl (K 0, 32, .inl gs))] U.heap ∧ va_D (fun _ => True) [(oh, .inr (3, [.ref aA, .ref aR, .ref aD, .ref aS, .int wt])), (aA, .inl (K 0, 32, .inl fa)), (aR, .inl (K 0, 32, .inl fr)), (aD, .inl (K 0, 32, .inl fd)), (aS, .inl (K 0, 32, .inl fs)), (oh2, .inr (3, [.ref bA, .ref bR, .ref bD, .ref bS, .int wt2])), (bA, .inl (K 0, 32, .inl ga)), (bR, .inl (K 0, 32, .inl gr)), (bD, .inl (K 0, 32, .inl gd)), (bS, .inl (K 0, 32, .inl gs))])) (va_Qv (fun (_ : Unit) => True) (fun _ t => va_P D vwCl [(oh, .inr (3, [.ref aA, .ref aR, .ref aD, .ref aS, .int wt])), (aA, .inl (K 0, 32, .inl (n_X3_copyBlock_1 fa ga gr j))), (aR, .inl (K 0, 32, .inl (n_X3_copyBlock_2 fr gr j))), (aD, .inl (K 0, 32, .inl (n_X3_copyBlock_3 fd gr gd j))), (aS, .inl (K 0, 32, .inl (n_X3_copyBlock_4 fs gr gs j))), (oh2, .inr (3, [.ref bA, .ref bR, .ref bD, .ref bS, .int wt2])), (bA, .inl (K 0, 32, .inl ga)), (bR, .inl (K 0, 32, .inl gr)), (bD, .inl (K 0, 32, .inl gd)), (bS, .inl (K 0, 32, .inl gs))] t.heap) (inW [(oh, .inr (3, [.ref aA, .ref aR, .ref aD, .ref aS, .int wt])), (aA, .inl (K 0, 32, .inl fa)), (aR, .inl (K 0, 32, .inl fr)), (aD, .inl (K 0, 32, .inl fd)), (aS, .inl (K 0, 32, .inl fs)), (oh2, .inr (3, [.ref bA, .ref bR, .ref bD, .ref bS, .int wt2])), (bA, .inl (K 0, 32, .inl ga)), (bR, .inl (K 0, 32, .inl gr)), (bD, .inl (K 0, 32, .inl gd)), (bS, .inl (K 0, 32, .inl gs))])) 0 0 (inW [(oh, .inr (3, [.ref aA, .ref aR, .ref aD, .ref aS, .int wt])), (aA, .inl (K 0, 32, .inl fa)), (aR, .inl (K 0, 32, .inl fr)), (aD, .inl (K 0, 32, .inl fd)), (aS, .inl (K 0, 32, .inl fs)), (oh2, .inr (3, [.ref bA, .ref bR, .ref bD, .ref bS, .int wt2])), (bA, .inl (K 0, 32, .inl ga)), (bR, .inl (K 0, 32, .inl gr)), (bD, .inl (K 0, 32, .inl gd)), (bS, .inl (K 0, 32, .inl gs))]) := by
  refine Met.ofW (cc := cX3_copyBlock) (maxL := 3) (ret := none) (by decide) rfl ?_
  intro p e s m args below meth c s₁ B hml hv
  obtain ⟨rfl, hbd, hP, hD0⟩ := hv
  have hx := B.exec
  have hb := B.bytes
  have hr := B.returns
  have hts := atoms_spec (ws := wsX3_copyBlock) B.pre
  have hown : s.vm.findClass RX3 = some m.cls := findClass_of_methodNamed B.named
  have hlocks := B.notSynchronized
  have hK := hbd.2
  have hP : va_P D vwCl [(oh, .inr (3, [.ref aA, .ref aR, .ref aD, .ref aS, .int wt])), (aA, .inl (K 0, 32, .inl fa)), (aR, .inl (K 0, 32, .inl fr)), (aD, .inl (K 0, 32, .inl fd)), (aS, .inl (K 0, 32, .inl fs)), (oh2, .inr (3, [.ref bA, .ref bR, .ref bD, .ref bS, .int wt2])), (bA, .inl (K 0, 32, .inl ga)), (bR, .inl (K 0, 32, .inl gr)), (bD, .inl (K 0, 32, .inl gd)), (bS, .inl (K 0, 32, .inl gs))] s.heap := hP
  have hin3 : ∀ w ∈ wsX30, w ∈ wsX3_copyBlock := by decide +kernel
  have hD := hD0.own
  generalize hAe : inW [(oh, .inr (3, [.ref aA, .ref aR, .ref aD, .ref aS, .int wt])), (aA, .inl (K 0, 32, .inl fa)), (aR, .inl (K 0, 32, .inl fr)), (aD, .inl (K 0, 32, .inl fd)), (aS, .inl (K 0, 32, .inl fs)), (oh2, .inr (3, [.ref bA, .ref bR, .ref bD, .ref bS, .int wt2])), (bA, .inl (K 0, 32, .inl ga)), (bR, .inl (K 0, 32, .inl gr)), (bD, .inl (K 0, 32, .inl gd)), (bS, .inl (K 0, 32, .inl gs))] = A at hD ⊢
  have hS : va_S A s.heap s.heap [] := va_S.rf
  have hl := lv_entry ([.ref oh, .ref oh2, .int (nI j)]) (n := 3) (Nat.le_of_ble_eq_true rfl)
  rw [lg_entry_eq]
  generalize (lg_sl ([.ref oh, .ref oh2, .int (nI j)]) ++ List.replicate (3 - (lg_sl ([.ref oh, .ref oh2, .int (nI j)])).length) Slot.unset).toArray = ls at hl ⊢
  have hl : lv_has ls 3 [(0, .ref oh), (1, .ref oh2), (2, .int (nI j))] := hl
  have K0 : ∀ (H : Heap) (locs : List Loc) (ls : Array Slot), va_P D vwCl [(oh, .inr (3, [.ref aA, .ref aR, .ref aD, .ref aS, .int wt])), (aA, .inl (K 0, 32, .inl fa)), (aR, .inl (K 0, 32, .inl fr)), (aD, .inl (K 0, 32, .inl fd)), (aS, .inl (K 0, 32, .inl fs)), (oh2, .inr (3, [.ref bA, .ref bR, .ref bD, .ref bS, .int wt2])), (bA, .inl (K 0, 32, .inl ga)), (bR, .inl (K 0, 32, .inl gr)), (bD, .inl (K 0, 32, .inl gd)), (bS, .inl (K 0, 32, .inl gs))] H → va_D A [(oh, .inr (3, [.ref aA, .ref aR, .ref aD, .ref aS, .int wt])), (aA, .inl (K 0, 32, .inl fa)), (aR, .inl (K 0, 32, .inl fr)), (aD, .inl (K 0, 32, .inl fd)), (aS, .inl (K 0, 32, .inl fs)), (oh2, .inr (3, [.ref bA, .ref bR, .ref bD, .ref bS, .int wt2])), (bA, .inl (K 0, 32, .inl ga)), (bR, .inl (K 0, 32, .inl gr)), (bD, .inl (K 0, 32, .inl gd)), (bS, .inl (K 0, 32, .inl gs))] → va_S A s.heap H locs → lv_has ls 3 [(0, .ref oh), (1, .ref oh2), (2, .int (nI j))] → W p l e (headSpec wsX3_copyBlock ({ frames := 1, cells := 0, slots := 0, locals := 25 })).room s m ([.ref oh, .ref oh2, .int (nI j)] : List Value).toArray below meth c H locs 0 0 (MQ below (va_Qv (fun (_ : Unit) => True) (fun _ t => va_P D vwCl [(oh, .inr (3, [.ref aA, .ref aR, .ref aD, .ref aS, .int wt])), (aA, .inl (K 0, 32, .inl (n_X3_copyBlock_1 fa ga gr j))), (aR, .inl (K 0, 32, .inl (n_X3_copyBlock_2 fr gr j))), (aD, .inl (K 0, 32, .inl (n_X3_copyBlock_3 fd gr gd j))), (aS, .inl (K 0, 32, .inl (n_X3_copyBlock_4 fs gr gs j))), (oh2, .inr (3, [.ref bA, .ref bR, .ref bD, .ref bS, .int wt2])), (bA, .inl (K 0, 32, .inl ga)), (bR, .inl (K 0, 32, .inl gr)), (bD, .inl (K 0, 32, .inl gd)), (bS, .inl (K 0, 32, .inl gs))] t.heap) A) ([.ref oh, .ref oh2, .int (nI j)] : List Value).toArray s 0 0 A) (F0 m 0 ls []) := by
    intro H locs ls hP hD hS hl
    refine lv_aload_n hx hb dX3_copyBlock_0 rfl (lv_at hl 1 rfl) ?_
    refine lv_iload_n hx hb dX3_copyBlock_1 rfl (lv_at hl 2 rfl) ?_
    have hPc := hP.sub (ws' := [(oh2, .inr (3, [.ref bA, .ref bR, .ref bD, .ref bS, .int wt2])), (bA, .inl (K 0, 32, .inl ga)), (bR, .inl (K 0, 32, .inl gr)), (bD, .inl (K 0, 32, .inl gd)), (bS, .inl (K 0, 32, .inl gs))]) [5, 6, 7, 8, 9] rfl
    refine vp_callSi (va_Run.run (va_runV (As := [.int (nI j)]) (rest := []) ⟨hx, hb, hml, hown, hts⟩ (c_X3_lies l D K oh2 bA bR bD bS ga gr gd gs wt2 j (by omega)) (cwV 1 hts gX3_copyBlock_X3_lies rfl rfl rfl (by decide +kernel) ⟨Nat.le_of_ble_eq_true rfl, Nat.le_of_ble_eq_true rfl⟩) (pre_rd hbd hPc (ci := 3) (q0 := 0) rfl rfl) rfl rfl hl.1 rfl (lv_room (Nat.le_of_ble_eq_true rfl)) dX3_copyBlock_2 ⟨Nat.zero_le _, Nat.zero_le _⟩)) (fun r_1 hr_1 => ?_)
    subst hr_1
    refine lv_if_eq (tgt := 37) hx hb dX3_copyBlock_5 (by decide) (fun c_2 => ?_) (fun c_2 => ?_)
    · skip
      have e_3 : n_X3_copyBlock_1 fa ga gr j = fa := by unfold n_X3_copyBlock_1; rw [if_pos c_2]
      have e_4 : n_X3_copyBlock_2 fr gr j = fr := by unfold n_X3_copyBlock_2; rw [if_pos c_2]
      have e_5 : n_X3_copyBlock_3 fd gr gd j = fd := by unfold n_X3_copyBlock_3; rw [if_pos c_2]
      have e_6 : n_X3_copyBlock_4 fs gr gs j = fs := by unfold n_X3_copyBlock_4; rw [if_pos c_2]
      have hPf : va_P D vwCl [(oh, .inr (3, [.ref aA, .ref aR, .ref aD, .ref aS, .int wt])), (aA, .inl (K 0, 32, .inl (n_X3_copyBlock_1 fa ga gr j))), (aR, .inl (K 0, 32, .inl (n_X3_copyBlock_2 fr gr j))), (aD, .inl (K 0, 32, .inl (n_X3_copyBlock_3 fd gr gd j))), (aS, .inl (K 0, 32, .inl (n_X3_copyBlock_4 fs gr gs j))), (oh2, .inr (3, [.ref bA, .ref bR, .ref bD, .ref bS, .int wt2])), (bA, .inl (K 0, 32, .inl ga)), (bR, .inl (K 0, 32, .inl gr)), (bD, .inl (K 0, 32, .inl gd)), (bS, .inl (K 0, 32, .inl gs))] H := (by rw [e_3, e_4, e_5, e_6]; exact hP)
      exact W.vret hx hb hr (fun t ht hW => ⟨⟨(), rfl, trivial, by show va_P D vwCl _ t.heap; rw [ht]; exact hPf⟩, hS.F ht⟩) hS.2.2 dX3_copyBlock_37
    · skip
      refine lv_aload_n hx hb dX3_copyBlock_8 rfl (lv_at hl 0 rfl) ?_
      refine lv_iload_n hx hb dX3_copyBlock_9 rfl (lv_at hl 2 rfl) ?_
      refine lv_aload_n hx hb dX3_copyBlock_10 rfl (lv_at hl 1 rfl) ?_
      refine va_get (D := D) (ci := 3) (v := .ref bA) (C := RX3) (T := TX3) (N := 5) hx hb hts hin3 hown hK hP 5 rfl rfl 0 (by decide) (hts _ (List.mem_of_getElem? (i := 1) rfl)) (fun _ h9 => h9) rfl dX3_copyBlock_11 ?_
      refine lv_iload_n hx hb dX3_copyBlock_14 rfl (lv_at hl 2 rfl) ?_
      refine n_iald hx hb hK hP 6 0 rfl rfl j (by omega) (by decide) dX3_copyBlock_15 ?_
      refine lv_aload_n hx hb dX3_copyBlock_16 rfl (lv_at hl 1 rfl) ?_
      refine va_get (D := D) (ci := 3) (v := .ref bR) (C := RX3) (T := TX3) (N := 5) hx hb hts hin3 hown hK hP 5 rfl rfl 1 (by decide) (hts _ (List.mem_of_getElem? (i := 2) rfl)) (fun _ h9 => h9) rfl dX3_copyBlock_17 ?_
      refine lv_iload_n hx hb dX3_copyBlock_20 rfl (lv_at hl 2 rfl) ?_
      refine n_iald hx hb hK hP 7 0 rfl rfl j (by omega) (by decide) dX3_copyBlock_21 ?_
      refine lv_aload_n hx hb dX3_copyBlock_22 rfl (lv_at hl 1 rfl) ?_
      refine va_get (D := D) (ci := 3) (v := .ref bD) (C := RX3) (T := TX3) (N := 5) hx hb hts hin3 hown hK hP 5 rfl rfl 2 (by decide) (hts _ (List.mem_of_getElem? (i := 3) rfl)) (fun _ h9 => h9) rfl dX3_copyBlock_23 ?_
      refine lv_iload_n hx hb dX3_copyBlock_26 rfl (lv_at hl 2 rfl) ?_
      refine n_iald hx hb hK hP 8 0 rfl rfl j (by omega) (by decide) dX3_copyBlock_27 ?_
      refine lv_aload_n hx hb dX3_copyBlock_28 rfl (lv_at hl 1 rfl) ?_
      refine va_get (D := D) (ci := 3) (v := .ref bS) (C := RX3) (T := TX3) (N := 5) hx hb hts hin3 hown hK hP 5 rfl rfl 3 (by decide) (hts _ (List.mem_of_getElem? (i := 4) rfl)) (fun _ h9 => h9) rfl dX3_copyBlock_29 ?_
      refine lv_iload_n hx hb dX3_copyBlock_32 rfl (lv_at hl 2 rfl) ?_
      refine n_iald hx hb hK hP 9 0 rfl rfl j (by omega) (by decide) dX3_copyBlock_33 ?_
      have hPc := hP.sub (ws' := [(oh, .inr (3, [.ref aA, .ref aR, .ref aD, .ref aS, .int wt])), (aA, .inl (K 0, 32, .inl fa)), (aR, .inl (K 0, 32, .inl fr)), (aD, .inl (K 0, 32, .inl fd)), (aS, .inl (K 0, 32, .inl fs))]) [0, 1, 2, 3, 4] rfl
      have hDc : va_D (fun _ => True) [(oh, .inr (3, [.ref aA, .ref aR, .ref aD, .ref aS, .int wt])), (aA, .inl (K 0, 32, .inl fa)), (aR, .inl (K 0, 32, .inl fr)), (aD, .inl (K 0, 32, .inl fd)), (aS, .inl (K 0, 32, .inl fs))] := (hD.sub (ws' := [(oh, .inr (3, [.ref aA, .ref aR, .ref aD, .ref aS, .int wt])), (aA, .inl (K 0, 32, .inl fa)), (aR, .inl (K 0, 32, .inl fr)), (aD, .inl (K 0, 32, .inl fd)), (aS, .inl (K 0, 32, .inl fs))]) [0, 1, 2, 3, 4] (by decide +kernel) rfl).weaken (fun _ _ _ _ => trivial)
      refine kw_v (W1 := [(oh, .inr (3, [.ref aA, .ref aR, .ref aD, .ref aS, .int wt])), (aA, .inl (K 0, 32, .inl (upd fa j (ga j)))), (aR, .inl (K 0, 32, .inl (upd fr j (gr j)))), (aD, .inl (K 0, 32, .inl (upd fd j (gd j)))), (aS, .inl (K 0, 32, .inl (upd fs j (gs j)))), (oh2, .inr (3, [.ref bA, .ref bR, .ref bD, .ref bS, .int wt2])), (bA, .inl (K 0, 32, .inl ga)), (bR, .inl (K 0, 32, .inl gr)), (bD, .inl (K 0, 32, .inl gd)), (bS, .inl (K 0, 32, .inl gs))]) (w1 := [(oh, .inr (3, [.ref aA, .ref aR, .ref aD, .ref aS, .int wt])), (aA, .inl (K 0, 32, .inl (upd fa j (ga j)))), (aR, .inl (K 0, 32, .inl (upd fr j (gr j)))), (aD, .inl (K 0, 32, .inl (upd fd j (gd j)))), (aS, .inl (K 0, 32, .inl (upd fs j (gs j))))]) (va_runV (As := [.int (nI j), .int (ga j), .int (gr j), .int (gd j), .int (gs j)]) (rest := []) ⟨hx, hb, hml, hown, hts⟩ (c_X3_lay l D K oh aA aR aD aS fa fr fd fs wt j (ga j) (gr j) (gd j) (gs j) (by omega)) (cwV 5 hts gX3_copyBlock_X3_lay rfl rfl rfl (by decide +kernel) ⟨Nat.le_of_ble_eq_true rfl, Nat.le_of_ble_eq_true rfl⟩) (pre_wr hbd hPc hDc (ci := 3) (q0 := 0) rfl rfl) rfl rfl hl.1 rfl (lv_room (Nat.le_of_ble_eq_true rfl)) dX3_copyBlock_34 ⟨Nat.zero_le _, Nat.zero_le _⟩) hP hD hS [0, 1, 2, 3, 4] [5, 6, 7, 8, 9] 10 rfl rfl rfl rfl (by decide +kernel) (by decide +kernel) rfl (fun H locs hP hD hS => ?_)
      have e_7 : n_X3_copyBlock_1 fa ga gr j = (upd fa j (ga j)) := by unfold n_X3_copyBlock_1; rw [if_neg c_2]
      have e_8 : n_X3_copyBlock_2 fr gr j = (upd fr j (gr j)) := by unfold n_X3_copyBlock_2; rw [if_neg c_2]
      have e_9 : n_X3_copyBlock_3 fd gr gd j = (upd fd j (gd j)) := by unfold n_X3_copyBlock_3; rw [if_neg c_2]
      have e_10 : n_X3_copyBlock_4 fs gr gs j = (upd fs j (gs j)) := by unfold n_X3_copyBlock_4; rw [if_neg c_2]
      have hPf : va_P D vwCl [(oh, .inr (3, [.ref aA, .ref aR, .ref aD, .ref aS, .int wt])), (aA, .inl (K 0, 32, .inl (n_X3_copyBlock_1 fa ga gr j))), (aR, .inl (K 0, 32, .inl (n_X3_copyBlock_2 fr gr j))), (aD, .inl (K 0, 32, .inl (n_X3_copyBlock_3 fd gr gd j))), (aS, .inl (K 0, 32, .inl (n_X3_copyBlock_4 fs gr gs j))), (oh2, .inr (3, [.ref bA, .ref bR, .ref bD, .ref bS, .int wt2])), (bA, .inl (K 0, 32, .inl ga)), (bR, .inl (K 0, 32, .inl gr)), (bD, .inl (K 0, 32, .inl gd)), (bS, .inl (K 0, 32, .inl gs))] H := (by rw [e_7, e_8, e_9, e_10]; exact hP)
      exact W.vret hx hb hr (fun t ht hW => ⟨⟨(), rfl, trivial, by show va_P D vwCl _ t.heap; rw [ht]; exact hPf⟩, hS.F ht⟩) hS.2.2 dX3_copyBlock_37
  exact K0 s.heap [] ls hP hD hS hl
set_option maxHeartbeats 4000000 in
set_option maxRecDepth 100000 in
theorem c_X3_copyFrom (l : Launch) (D : va_G) (K : Nat → ClassId) (oh : Nat) (aA : Nat) (aR : Nat) (aD : Nat) (aS : Nat) (fa : Nat → Int32) (fr : Nat → Int32) (fd : Nat → Int32) (fs : Nat → Int32) (wt : Int32) (oh2 : Nat) (bA : Nat) (bR : Nat) (bD : Nat) (bS : Nat) (ga : Nat → Int32) (gr : Nat → Int32) (gd : Nat → Int32) (gs : Nat → Int32) (wt2 : Int32)  : Met l yX3_copyFrom wsX3_copyFrom ({ frames := 1, cells := 0, slots := 0, locals := 40 }) (va_Pc [.ref oh, .ref oh2] (fun U => Bd D K U ∧ va_P D vwCl [(oh, .inr (3, [.ref aA, .ref aR, .ref aD, .ref aS, .int wt])), (aA, .inl (K 0, 32, .inl fa)), (aR, .inl (K 0, 32, .inl fr)), (aD, .inl (K 0, 32, .inl fd)), (aS, .inl (K 0, 32, .inl fs)), (oh2, .inr (3, [.ref bA, .ref bR, .ref bD, .ref bS, .int wt2])), (bA, .inl (K 0, 32, .inl ga)), (bR, .inl (K 0, 32, .inl gr)), (bD, .inl (K 0, 32, .inl gd)), (bS, .inl (K 0, 32, .inl gs))] U.heap ∧ va_D (fun _ => True) [(oh, .inr (3, [.ref aA, .ref aR, .ref aD, .ref aS, .int wt])), (aA, .inl (K 0, 32, .inl fa)), (aR, .inl (K 0, 32, .inl fr)), (aD, .inl (K 0, 32, .inl fd)), (aS, .inl (K 0, 32, .inl fs)), (oh2, .inr (3, [.ref bA, .ref bR, .ref bD, .ref bS, .int wt2])), (bA, .inl (K 0, 32, .inl ga)), (bR, .inl (K 0, 32, .inl gr)), (bD, .inl (K 0, 32, .inl gd)), (bS, .inl (K 0, 32, .inl gs))])) (va_Qv (fun (_ : Unit) => True) (fun _ t => va_P D vwCl [(oh, .inr (3, [.ref aA, .ref aR, .ref aD, .ref aS, .int wt2])), (aA, .inl (K 0, 32, .inl (va_cpy ga fa 0 0 32))), (aR, .inl (K 0, 32, .inl (va_cpy gr fr 0 0 32))), (aD, .inl (K 0, 32, .inl (va_cpy gd fd 0 0 32))), (aS, .inl (K 0, 32, .inl (va_cpy gs fs 0 0 32))), (oh2, .inr (3, [.ref bA, .ref bR, .ref bD, .ref bS, .int wt2])), (bA, .inl (K 0, 32, .inl ga)), (bR, .inl (K 0, 32, .inl gr)), (bD, .inl (K 0, 32, .inl gd)), (bS, .inl (K 0, 32, .inl gs))] t.heap) (inW [(oh, .inr (3, [.ref aA, .ref aR, .ref aD, .ref aS, .int wt])), (aA, .inl (K 0, 32, .inl fa)), (aR, .inl (K 0, 32, .inl fr)), (aD, .inl (K 0, 32, .inl fd)), (aS, .inl (K 0, 32, .inl fs)), (oh2, .inr (3, [.ref bA, .ref bR, .ref bD, .ref bS, .int wt2])), (bA, .inl (K 0, 32, .inl ga)), (bR, .inl (K 0, 32, .inl gr)), (bD, .inl (K 0, 32, .inl gd)), (bS, .inl (K 0, 32, .inl gs))])) 0 0 (inW [(oh, .inr (3, [.ref aA, .ref aR, .ref aD, .ref aS, .int wt])), (aA, .inl (K 0, 32, .inl fa)), (aR, .inl (K 0, 32, .inl fr)), (aD, .inl (K 0, 32, .inl fd)), (aS, .inl (K 0, 32, .inl fs)), (oh2, .inr (3, [.ref bA, .ref bR, .ref bD, .ref bS, .int wt2])), (bA, .inl (K 0, 32, .inl ga)), (bR, .inl (K 0, 32, .inl gr)), (bD, .inl (K 0, 32, .inl gd)), (bS, .inl (K 0, 32, .inl gs))]) := by
  refine Met.ofW (cc := cX3_copyFrom) (maxL := 2) (ret := none) (by decide) rfl ?_
  intro p e s m args below meth c s₁ B hml hv
  obtain ⟨rfl, hbd, hP, hD0⟩ := hv
  have hx := B.exec
  have hb := B.bytes
  have hr := B.returns
  have hts := atoms_spec (ws := wsX3_copyFrom) B.pre
  have hown : s.vm.findClass RX3 = some m.cls := findClass_of_methodNamed B.named
  have hlocks := B.notSynchronized
  have hK := hbd.2
  have hP : va_P D vwCl [(oh, .inr (3, [.ref aA, .ref aR, .ref aD, .ref aS, .int wt])), (aA, .inl (K 0, 32, .inl fa)), (aR, .inl (K 0, 32, .inl fr)), (aD, .inl (K 0, 32, .inl fd)), (aS, .inl (K 0, 32, .inl fs)), (oh2, .inr (3, [.ref bA, .ref bR, .ref bD, .ref bS, .int wt2])), (bA, .inl (K 0, 32, .inl ga)), (bR, .inl (K 0, 32, .inl gr)), (bD, .inl (K 0, 32, .inl gd)), (bS, .inl (K 0, 32, .inl gs))] s.heap := hP
  have hin3 : ∀ w ∈ wsX30, w ∈ wsX3_copyFrom := by decide +kernel
  have hD := hD0.own
  generalize hAe : inW [(oh, .inr (3, [.ref aA, .ref aR, .ref aD, .ref aS, .int wt])), (aA, .inl (K 0, 32, .inl fa)), (aR, .inl (K 0, 32, .inl fr)), (aD, .inl (K 0, 32, .inl fd)), (aS, .inl (K 0, 32, .inl fs)), (oh2, .inr (3, [.ref bA, .ref bR, .ref bD, .ref bS, .int wt2])), (bA, .inl (K 0, 32, .inl ga)), (bR, .inl (K 0, 32, .inl gr)), (bD, .inl (K 0, 32, .inl gd)), (bS, .inl (K 0, 32, .inl gs))] = A at hD ⊢
  have hS : va_S A s.heap s.heap [] := va_S.rf
  have hl := lv_entry ([.ref oh, .ref oh2]) (n := 2) (Nat.le_of_ble_eq_true rfl)
  rw [lg_entry_eq]
  generalize (lg_sl ([.ref oh, .ref oh2]) ++ List.replicate (2 - (lg_sl ([.ref oh, .ref oh2])).length) Slot.unset).toArray = ls at hl ⊢
  have hl : lv_has ls 2 [(0, .ref oh), (1, .ref oh2)] := hl
  have K0 : ∀ (H : Heap) (locs : List Loc) (ls : Array Slot), va_P D vwCl [(oh, .inr (3, [.ref aA, .ref aR, .ref aD, .ref aS, .int wt])), (aA, .inl (K 0, 32, .inl fa)), (aR, .inl (K 0, 32, .inl fr)), (aD, .inl (K 0, 32, .inl fd)), (aS, .inl (K 0, 32, .inl fs)), (oh2, .inr (3, [.ref bA, .ref bR, .ref bD, .ref bS, .int wt2])), (bA, .inl (K 0, 32, .inl ga)), (bR, .inl (K 0, 32, .inl gr)), (bD, .inl (K 0, 32, .inl gd)), (bS, .inl (K 0, 32, .inl gs))] H → va_D A [(oh, .inr (3, [.ref aA, .ref aR, .ref aD, .ref aS, .int wt])), (aA, .inl (K 0, 32, .inl fa)), (aR, .inl (K 0, 32, .inl fr)), (aD, .inl (K 0, 32, .inl fd)), (aS, .inl (K 0, 32, .inl fs)), (oh2, .inr (3, [.ref bA, .ref bR, .ref bD, .ref bS, .int wt2])), (bA, .inl (K 0, 32, .inl ga)), (bR, .inl (K 0, 32, .inl gr)), (bD, .inl (K 0, 32, .inl gd)), (bS, .inl (K 0, 32, .inl gs))] → va_S A s.heap H locs → lv_has ls 2 [(0, .ref oh), (1, .ref oh2)] → W p l e (headSpec wsX3_copyFrom ({ frames := 1, cells := 0, slots := 0, locals := 40 })).room s m ([.ref oh, .ref oh2] : List Value).toArray below meth c H locs 0 0 (MQ below (va_Qv (fun (_ : Unit) => True) (fun _ t => va_P D vwCl [(oh, .inr (3, [.ref aA, .ref aR, .ref aD, .ref aS, .int wt2])), (aA, .inl (K 0, 32, .inl (va_cpy ga fa 0 0 32))), (aR, .inl (K 0, 32, .inl (va_cpy gr fr 0 0 32))), (aD, .inl (K 0, 32, .inl (va_cpy gd fd 0 0 32))), (aS, .inl (K 0, 32, .inl (va_cpy gs fs 0 0 32))), (oh2, .inr (3, [.ref bA, .ref bR, .ref bD, .ref bS, .int wt2])), (bA, .inl (K 0, 32, .inl ga)), (bR, .inl (K 0, 32, .inl gr)), (bD, .inl (K 0, 32, .inl gd)), (bS, .inl (K 0, 32, .inl gs))] t.heap) A) ([.ref oh, .ref oh2] : List Value).toArray s 0 0 A) (F0 m 0 ls []) := by
    intro H locs ls hP hD hS hl
    refine lv_aload_n hx hb dX3_copyFrom_0 rfl (lv_at hl 1 rfl) ?_
    refine va_get (D := D) (ci := 3) (v := .ref bA) (C := RX3) (T := TX3) (N := 5) hx hb hts hin3 hown hK hP 5 rfl rfl 0 (by decide) (hts _ (List.mem_of_getElem? (i := 1) rfl)) (fun _ h9 => h9) rfl dX3_copyFrom_1 ?_
    refine lv_iconst (v := 0) hx hb dX3_copyFrom_4 (by decide) ?_
    refine lv_aload_n hx hb dX3_copyFrom_5 rfl (lv_at hl 0 rfl) ?_
    refine va_get (D := D) (ci := 3) (v := .ref aA) (C := RX3) (T := TX3) (N := 5) hx hb hts hin3 hown hK hP 0 rfl rfl 0 (by decide) (hts _ (List.mem_of_getElem? (i := 1) rfl)) (fun _ h9 => h9) rfl dX3_copyFrom_6 ?_
    refine lv_iconst (v := 0) hx hb dX3_copyFrom_9 (by decide) ?_
    refine lv_bipush (v := 32) hx hb dX3_copyFrom_10 (by decide) ?_
    refine va_copyi hx hb (by rw [hml]; exact hl.1.symm) hown (hts _ (List.mem_of_getElem? (i := 2) rfl)) (hts _ (List.mem_of_getElem? (i := 3) rfl)) (hts _ (List.mem_of_getElem? (i := 4) rfl)) (hts _ (List.mem_of_getElem? (i := 5) rfl)) hK hP hD hS 6 1 0 0 rfl rfl rfl rfl rfl (by decide) (by decide) (by decide) (by decide) (by decide) (fun _ _ => rfl) (by decide) (by decide) dX3_copyFrom_12 (fun H locs hP hD hS => ?_)
    have hP : va_P D vwCl [(oh, .inr (3, [.ref aA, .ref aR, .ref aD, .ref aS, .int wt])), (aA, .inl (K 0, 32, .inl (va_cpy ga fa 0 0 32))), (aR, .inl (K 0, 32, .inl fr)), (aD, .inl (K 0, 32, .inl fd)), (aS, .inl (K 0, 32, .inl fs)), (oh2, .inr (3, [.ref bA, .ref bR, .ref bD, .ref bS, .int wt2])), (bA, .inl (K 0, 32, .inl ga)), (bR, .inl (K 0, 32, .inl gr)), (bD, .inl (K 0, 32, .inl gd)), (bS, .inl (K 0, 32, .inl gs))] H := hP
    have hD : va_D A [(oh, .inr (3, [.ref aA, .ref aR, .ref aD, .ref aS, .int wt])), (aA, .inl (K 0, 32, .inl (va_cpy ga fa 0 0 32))), (aR, .inl (K 0, 32, .inl fr)), (aD, .inl (K 0, 32, .inl fd)), (aS, .inl (K 0, 32, .inl fs)), (oh2, .inr (3, [.ref bA, .ref bR, .ref bD, .ref bS, .int wt2])), (bA, .inl (K 0, 32, .inl ga)), (bR, .inl (K 0, 32, .inl gr)), (bD, .inl (K 0, 32, .inl gd)), (bS, .inl (K 0, 32, .inl gs))] := hD
    refine lv_aload_n hx hb dX3_copyFrom_15 rfl (lv_at hl 1 rfl) ?_
    refine va_get (D := D) (ci := 3) (v := .ref bR) (C := RX3) (T := TX3) (N := 5) hx hb hts hin3 hown hK hP 5 rfl rfl 1 (by decide) (hts _ (List.mem_of_getElem? (i := 6) rfl)) (fun _ h9 => h9) rfl dX3_copyFrom_16 ?_
    refine lv_iconst (v := 0) hx hb dX3_copyFrom_19 (by decide) ?_
    refine lv_aload_n hx hb dX3_copyFrom_20 rfl (lv_at hl 0 rfl) ?_
    refine va_get (D := D) (ci := 3) (v := .ref aR) (C := RX3) (T := TX3) (N := 5) hx hb hts hin3 hown hK hP 0 rfl rfl 1 (by decide) (hts _ (List.mem_of_getElem? (i := 6) rfl)) (fun _ h9 => h9) rfl dX3_copyFrom_21 ?_
    refine lv_iconst (v := 0) hx hb dX3_copyFrom_24 (by decide) ?_
    refine lv_bipush (v := 32) hx hb dX3_copyFrom_25 (by decide) ?_
    refine va_copyi hx hb (by rw [hml]; exact hl.1.symm) hown (hts _ (List.mem_of_getElem? (i := 2) rfl)) (hts _ (List.mem_of_getElem? (i := 3) rfl)) (hts _ (List.mem_of_getElem? (i := 4) rfl)) (hts _ (List.mem_of_getElem? (i := 5) rfl)) hK hP hD hS 7 2 0 0 rfl rfl rfl rfl rfl (by decide) (by decide) (by decide) (by decide) (by decide) (fun _ _ => rfl) (by decide) (by decide) dX3_copyFrom_27 (fun H locs hP hD hS => ?_)
    have hP : va_P D vwCl [(oh, .inr (3, [.ref aA, .ref aR, .ref aD, .ref aS, .int wt])), (aA, .inl (K 0, 32, .inl (va_cpy ga fa 0 0 32))), (aR, .inl (K 0, 32, .inl (va_cpy gr fr 0 0 32))), (aD, .inl (K 0, 32, .inl fd)), (aS, .inl (K 0, 32, .inl fs)), (oh2, .inr (3, [.ref bA, .ref bR, .ref bD, .ref bS, .int wt2])), (bA, .inl (K 0, 32, .inl ga)), (bR, .inl (K 0, 32, .inl gr)), (bD, .inl (K 0, 32, .inl gd)), (bS, .inl (K 0, 32, .inl gs))] H := hP
    have hD : va_D A [(oh, .inr (3, [.ref aA, .ref aR, .ref aD, .ref aS, .int wt])), (aA, .inl (K 0, 32, .inl (va_cpy ga fa 0 0 32))), (aR, .inl (K 0, 32, .inl (va_cpy gr fr 0 0 32))), (aD, .inl (K 0, 32, .inl fd)), (aS, .inl (K 0, 32, .inl fs)), (oh2, .inr (3, [.ref bA, .ref bR, .ref bD, .ref bS, .int wt2])), (bA, .inl (K 0, 32, .inl ga)), (bR, .inl (K 0, 32, .inl gr)), (bD, .inl (K 0, 32, .inl gd)), (bS, .inl (K 0, 32, .inl gs))] := hD
    refine lv_aload_n hx hb dX3_copyFrom_30 rfl (lv_at hl 1 rfl) ?_
    refine va_get (D := D) (ci := 3) (v := .ref bD) (C := RX3) (T := TX3) (N := 5) hx hb hts hin3 hown hK hP 5 rfl rfl 2 (by decide) (hts _ (List.mem_of_getElem? (i := 7) rfl)) (fun _ h9 => h9) rfl dX3_copyFrom_31 ?_
    refine lv_iconst (v := 0) hx hb dX3_copyFrom_34 (by decide) ?_
    refine lv_aload_n hx hb dX3_copyFrom_35 rfl (lv_at hl 0 rfl) ?_
    refine va_get (D := D) (ci := 3) (v := .ref aD) (C := RX3) (T := TX3) (N := 5) hx hb hts hin3 hown hK hP 0 rfl rfl 2 (by decide) (hts _ (List.mem_of_getElem? (i := 7) rfl)) (fun _ h9 => h9) rfl dX3_copyFrom_36 ?_
    refine lv_iconst (v := 0) hx hb dX3_copyFrom_39 (by decide) ?_
    refine lv_bipush (v := 32) hx hb dX3_copyFrom_40 (by decide) ?_
    refine va_copyi hx hb (by rw [hml]; exact hl.1.symm) hown (hts _ (List.mem_of_getElem? (i := 2) rfl)) (hts _ (List.mem_of_getElem? (i := 3) rfl)) (hts _ (List.mem_of_getElem? (i := 4) rfl)) (hts _ (List.mem_of_getElem? (i := 5) rfl)) hK hP hD hS 8 3 0 0 rfl rfl rfl rfl rfl (by decide) (by decide) (by decide) (by decide) (by decide) (fun _ _ => rfl) (by decide) (by decide) dX3_copyFrom_42 (fun H locs hP hD hS => ?_)
    have hP : va_P D vwCl [(oh, .inr (3, [.ref aA, .ref aR, .ref aD, .ref aS, .int wt])), (aA, .inl (K 0, 32, .inl (va_cpy ga fa 0 0 32))), (aR, .inl (K 0, 32, .inl (va_cpy gr fr 0 0 32))), (aD, .inl (K 0, 32, .inl (va_cpy gd fd 0 0 32))), (aS, .inl (K 0, 32, .inl fs)), (oh2, .inr (3, [.ref bA, .ref bR, .ref bD, .ref bS, .int wt2])), (bA, .inl (K 0, 32, .inl ga)), (bR, .inl (K 0, 32, .inl gr)), (bD, .inl (K 0, 32, .inl gd)), (bS, .inl (K 0, 32, .inl gs))] H := hP
    have hD : va_D A [(oh, .inr (3, [.ref aA, .ref aR, .ref aD, .ref aS, .int wt])), (aA, .inl (K 0, 32, .inl (va_cpy ga fa 0 0 32))), (aR, .inl (K 0, 32, .inl (va_cpy gr fr 0 0 32))), (aD, .inl (K 0, 32, .inl (va_cpy gd fd 0 0 32))), (aS, .inl (K 0, 32, .inl fs)), (oh2, .inr (3, [.ref bA, .ref bR, .ref bD, .ref bS, .int wt2])), (bA, .inl (K 0, 32, .inl ga)), (bR, .inl (K 0, 32, .inl gr)), (bD, .inl (K 0, 32, .inl gd)), (bS, .inl (K 0, 32, .inl gs))] := hD
    refine lv_aload_n hx hb dX3_copyFrom_45 rfl (lv_at hl 1 rfl) ?_
    refine va_get (D := D) (ci := 3) (v := .ref bS) (C := RX3) (T := TX3) (N := 5) hx hb hts hin3 hown hK hP 5 rfl rfl 3 (by decide) (hts _ (List.mem_of_getElem? (i := 8) rfl)) (fun _ h9 => h9) rfl dX3_copyFrom_46 ?_
    refine lv_iconst (v := 0) hx hb dX3_copyFrom_49 (by decide) ?_
    refine lv_aload_n hx hb dX3_copyFrom_50 rfl (lv_at hl 0 rfl) ?_
    refine va_get (D := D) (ci := 3) (v := .ref aS) (C := RX3) (T := TX3) (N := 5) hx hb hts hin3 hown hK hP 0 rfl rfl 3 (by decide) (hts _ (List.mem_of_getElem? (i := 8) rfl)) (fun _ h9 => h9) rfl dX3_copyFrom_51 ?_
    refine lv_iconst (v := 0) hx hb dX3_copyFrom_54 (by decide) ?_
    refine lv_bipush (v := 32) hx hb dX3_copyFrom_55 (by decide) ?_
    refine va_copyi hx hb (by rw [hml]; exact hl.1.symm) hown (hts _ (List.mem_of_getElem? (i := 2) rfl)) (hts _ (List.mem_of_getElem? (i := 3) rfl)) (hts _ (List.mem_of_getElem? (i := 4) rfl)) (hts _ (List.mem_of_getElem? (i := 5) rfl)) hK hP hD hS 9 4 0 0 rfl rfl rfl rfl rfl (by decide) (by decide) (by decide) (by decide) (by decide) (fun _ _ => rfl) (by decide) (by decide) dX3_copyFrom_57 (fun H locs hP hD hS => ?_)
    have hP : va_P D vwCl [(oh, .inr (3, [.ref aA, .ref aR, .ref aD, .ref aS, .int wt])), (aA, .inl (K 0, 32, .inl (va_cpy ga fa 0 0 32))), (aR, .inl (K 0, 32, .inl (va_cpy gr fr 0 0 32))), (aD, .inl (K 0, 32, .inl (va_cpy gd fd 0 0 32))), (aS, .inl (K 0, 32, .inl (va_cpy gs fs 0 0 32))), (oh2, .inr (3, [.ref bA, .ref bR, .ref bD, .ref bS, .int wt2])), (bA, .inl (K 0, 32, .inl ga)), (bR, .inl (K 0, 32, .inl gr)), (bD, .inl (K 0, 32, .inl gd)), (bS, .inl (K 0, 32, .inl gs))] H := hP
    have hD : va_D A [(oh, .inr (3, [.ref aA, .ref aR, .ref aD, .ref aS, .int wt])), (aA, .inl (K 0, 32, .inl (va_cpy ga fa 0 0 32))), (aR, .inl (K 0, 32, .inl (va_cpy gr fr 0 0 32))), (aD, .inl (K 0, 32, .inl (va_cpy gd fd 0 0 32))), (aS, .inl (K 0, 32, .inl (va_cpy gs fs 0 0 32))), (oh2, .inr (3, [.ref bA, .ref bR, .ref bD, .ref bS, .int wt2])), (bA, .inl (K 0, 32, .inl ga)), (bR, .inl (K 0, 32, .inl gr)), (bD, .inl (K 0, 32, .inl gd)), (bS, .inl (K 0, 32, .inl gs))] := hD
    refine lv_aload_n hx hb dX3_copyFrom_60 rfl (lv_at hl 0 rfl) ?_
    refine lv_aload_n hx hb dX3_copyFrom_61 rfl (lv_at hl 1 rfl) ?_
    refine va_get (D := D) (ci := 3) (v := .int wt2) (C := RX3) (T := TX3) (N := 5) hx hb hts hin3 hown hK hP 5 rfl rfl 4 (by decide) (hts _ (List.mem_of_getElem? (i := 9) rfl)) (fun _ h9 => h9) rfl dX3_copyFrom_62 ?_
    refine va_put (D := D) (ci := 3) (v := .int wt2) (ty := .int) (C := RX3) (T := TX3) (N := 5) hx hb hts hin3 tyX3 tyX3_ok nmX3 hown hK hP hD hS 0 rfl rfl 4 (by decide) (hts _ (List.mem_of_getElem? (i := 9) rfl)) (fun _ h9 => h9) rfl (by decide +kernel) rfl rfl (Nat.le_of_ble_eq_true rfl) dX3_copyFrom_65 (fun H locs hP hD hS => ?_)
    have hP : va_P D vwCl [(oh, .inr (3, [.ref aA, .ref aR, .ref aD, .ref aS, .int wt2])), (aA, .inl (K 0, 32, .inl (va_cpy ga fa 0 0 32))), (aR, .inl (K 0, 32, .inl (va_cpy gr fr 0 0 32))), (aD, .inl (K 0, 32, .inl (va_cpy gd fd 0 0 32))), (aS, .inl (K 0, 32, .inl (va_cpy gs fs 0 0 32))), (oh2, .inr (3, [.ref bA, .ref bR, .ref bD, .ref bS, .int wt2])), (bA, .inl (K 0, 32, .inl ga)), (bR, .inl (K 0, 32, .inl gr)), (bD, .inl (K 0, 32, .inl gd)), (bS, .inl (K 0, 32, .inl gs))] H := hP
    have hD : va_D A [(oh, .inr (3, [.ref aA, .ref aR, .ref aD, .ref aS, .int wt2])), (aA, .inl (K 0, 32, .inl (va_cpy ga fa 0 0 32))), (aR, .inl (K 0, 32, .inl (va_cpy gr fr 0 0 32))), (aD, .inl (K 0, 32, .inl (va_cpy gd fd 0 0 32))), (aS, .inl (K 0, 32, .inl (va_cpy gs fs 0 0 32))), (oh2, .inr (3, [.ref bA, .ref bR, .ref bD, .ref bS, .int wt2])), (bA, .inl (K 0, 32, .inl ga)), (bR, .inl (K 0, 32, .inl gr)), (bD, .inl (K 0, 32, .inl gd)), (bS, .inl (K 0, 32, .inl gs))] := hD
    have hPf : va_P D vwCl [(oh, .inr (3, [.ref aA, .ref aR, .ref aD, .ref aS, .int wt2])), (aA, .inl (K 0, 32, .inl (va_cpy ga fa 0 0 32))), (aR, .inl (K 0, 32, .inl (va_cpy gr fr 0 0 32))), (aD, .inl (K 0, 32, .inl (va_cpy gd fd 0 0 32))), (aS, .inl (K 0, 32, .inl (va_cpy gs fs 0 0 32))), (oh2, .inr (3, [.ref bA, .ref bR, .ref bD, .ref bS, .int wt2])), (bA, .inl (K 0, 32, .inl ga)), (bR, .inl (K 0, 32, .inl gr)), (bD, .inl (K 0, 32, .inl gd)), (bS, .inl (K 0, 32, .inl gs))] H := hP
    exact W.vret hx hb hr (fun t ht hW => ⟨⟨(), rfl, trivial, by show va_P D vwCl _ t.heap; rw [ht]; exact hPf⟩, hS.F ht⟩) hS.2.2 dX3_copyFrom_68
  exact K0 s.heap [] ls hP hD hS hl
