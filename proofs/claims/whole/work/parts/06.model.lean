def r_X5_in (xv : Int32) (xl : Int32) (xh : Int32) : Int32 := (if xv < xl then 0 else (if xh < xv then 0 else 1))
theorem z_r_X5_in {xv : Int32} {xl : Int32} {xh : Int32} : narrow .boolean (.int (r_X5_in xv xl xh)) = .int (r_X5_in xv xl xh) := by
  unfold r_X5_in
  repeat' split
  all_goals first | with_reducible exact zl0 | with_reducible exact zl1
set_option maxHeartbeats 4000000 in
set_option maxRecDepth 100000 in
theorem c_X5_in (l : Launch) (D : va_G) (K : Nat → ClassId) (xv : Int32) (xl : Int32) (xh : Int32)  : Met l yX5_in wsX5_in ({ frames := 0, cells := 0, slots := 0, locals := 0 }) (va_Pc [.int xv, .int xl, .int xh] (fun _ => True)) (vp_Si (fun r => r = (r_X5_in xv xl xh))) 0 0 (fun _ => False) := by
  refine Met.ofW (cc := cX5_in) (maxL := 3) (ret := (some .boolean)) (by decide) rfl ?_
  intro p e s m args below meth c s₁ B hml hv
  obtain ⟨rfl, -⟩ := hv
  have hx := B.exec
  have hb := B.bytes
  have hr := B.returns
  have hts := atoms_spec (ws := wsX5_in) B.pre
  have hown : s.vm.findClass RX5 = some m.cls := findClass_of_methodNamed B.named
  have hlocks := B.notSynchronized
  have hl := lv_entry ([.int xv, .int xl, .int xh]) (n := 3) (Nat.le_of_ble_eq_true rfl)
  rw [lg_entry_eq]
  generalize (lg_sl ([.int xv, .int xl, .int xh]) ++ List.replicate (3 - (lg_sl ([.int xv, .int xl, .int xh])).length) Slot.unset).toArray = ls at hl ⊢
  have hl : lv_has ls 3 [(0, .int xv), (1, .int xl), (2, .int xh)] := hl
  refine lv_iload_n hx hb dX5_in_0 rfl (lv_at hl 0 rfl) ?_
  refine lv_iload_n hx hb dX5_in_1 rfl (lv_at hl 1 rfl) ?_
  refine lv_icmp_lt (tgt := 14) hx hb dX5_in_2 (by decide) (fun c_1 => ?_) (fun c_1 => ?_)
  · skip
    refine lv_iconst (v := 0) hx hb dX5_in_14 (by decide) ?_
    exact W.zret hx hb hr rfl (fun t ht hW => ⟨_, rfl, (by unfold r_X5_in; rw [if_pos c_1]), ht⟩) (fun q hq => absurd hq List.not_mem_nil) dX5_in_15
  · skip
    refine lv_iload_n hx hb dX5_in_5 rfl (lv_at hl 0 rfl) ?_
    refine lv_iload_n hx hb dX5_in_6 rfl (lv_at hl 2 rfl) ?_
    refine lv_icmp_gt (tgt := 14) hx hb dX5_in_7 (by decide) (fun c_2 => ?_) (fun c_2 => ?_)
    · skip
      refine lv_iconst (v := 0) hx hb dX5_in_14 (by decide) ?_
      exact W.zret hx hb hr rfl (fun t ht hW => ⟨_, rfl, (by unfold r_X5_in; rw [if_neg c_1, if_pos c_2]), ht⟩) (fun q hq => absurd hq List.not_mem_nil) dX5_in_15
    · skip
      refine lv_iconst (v := 1) hx hb dX5_in_10 (by decide) ?_
      refine lv_goto (tgt := 15) hx hb dX5_in_11 (by decide) ?_
      exact W.zret hx hb hr rfl (fun t ht hW => ⟨_, rfl, (by unfold r_X5_in; rw [if_neg c_1, if_neg c_2]), ht⟩) (fun q hq => absurd hq List.not_mem_nil) dX5_in_15
set_option maxHeartbeats 4000000 in
set_option maxRecDepth 100000 in
theorem c_X5_in_ok (l : Launch) (D : va_G) (K : Nat → ClassId) (xv : Int32) (xl : Int32) (xh : Int32) (h1 : ¬ xv < xl) (h2 : ¬ xh < xv) : Met l yX5_in wsX5_in ({ frames := 0, cells := 0, slots := 0, locals := 0 }) (va_Pc [.int xv, .int xl, .int xh] (fun _ => True)) (vp_Si (fun r => r = 1)) 0 0 (fun _ => False) := by
  refine Met.ofW (cc := cX5_in) (maxL := 3) (ret := (some .boolean)) (by decide) rfl ?_
  intro p e s m args below meth c s₁ B hml hv
  obtain ⟨rfl, -⟩ := hv
  have hx := B.exec
  have hb := B.bytes
  have hr := B.returns
  have hts := atoms_spec (ws := wsX5_in) B.pre
  have hown : s.vm.findClass RX5 = some m.cls := findClass_of_methodNamed B.named
  have hlocks := B.notSynchronized
  have hl := lv_entry ([.int xv, .int xl, .int xh]) (n := 3) (Nat.le_of_ble_eq_true rfl)
  rw [lg_entry_eq]
  generalize (lg_sl ([.int xv, .int xl, .int xh]) ++ List.replicate (3 - (lg_sl ([.int xv, .int xl, .int xh])).length) Slot.unset).toArray = ls at hl ⊢
  have hl : lv_has ls 3 [(0, .int xv), (1, .int xl), (2, .int xh)] := hl
  refine lv_iload_n hx hb dX5_in_0 rfl (lv_at hl 0 rfl) ?_
  refine lv_iload_n hx hb dX5_in_1 rfl (lv_at hl 1 rfl) ?_
  refine lv_icmp_lt (tgt := 14) hx hb dX5_in_2 (by decide) (fun h_1 => absurd h_1 h1) (fun _ => ?_)
  refine lv_iload_n hx hb dX5_in_5 rfl (lv_at hl 0 rfl) ?_
  refine lv_iload_n hx hb dX5_in_6 rfl (lv_at hl 2 rfl) ?_
  refine lv_icmp_gt (tgt := 14) hx hb dX5_in_7 (by decide) (fun h_2 => absurd h_2 h2) (fun _ => ?_)
  refine lv_iconst (v := 1) hx hb dX5_in_10 (by decide) ?_
  refine lv_goto (tgt := 15) hx hb dX5_in_11 (by decide) ?_
  exact W.zret hx hb hr rfl (fun t ht hW => ⟨_, rfl, rfl, ht⟩) (fun q hq => absurd hq List.not_mem_nil) dX5_in_15
set_option maxHeartbeats 4000000 in
set_option maxRecDepth 100000 in
theorem c_X5_in_no (l : Launch) (D : va_G) (K : Nat → ClassId) (xv : Int32) (xl : Int32) (xh : Int32) (hbad : xv < xl ∨ xh < xv) : Met l yX5_in wsX5_in ({ frames := 0, cells := 0, slots := 0, locals := 0 }) (va_Pc [.int xv, .int xl, .int xh] (fun _ => True)) (vp_Si (fun r => r = 0)) 0 0 (fun _ => False) := by
  refine Met.ofW (cc := cX5_in) (maxL := 3) (ret := (some .boolean)) (by decide) rfl ?_
  intro p e s m args below meth c s₁ B hml hv
  obtain ⟨rfl, -⟩ := hv
  have hx := B.exec
  have hb := B.bytes
  have hr := B.returns
  have hts := atoms_spec (ws := wsX5_in) B.pre
  have hown : s.vm.findClass RX5 = some m.cls := findClass_of_methodNamed B.named
  have hlocks := B.notSynchronized
  have hl := lv_entry ([.int xv, .int xl, .int xh]) (n := 3) (Nat.le_of_ble_eq_true rfl)
  rw [lg_entry_eq]
  generalize (lg_sl ([.int xv, .int xl, .int xh]) ++ List.replicate (3 - (lg_sl ([.int xv, .int xl, .int xh])).length) Slot.unset).toArray = ls at hl ⊢
  have hl : lv_has ls 3 [(0, .int xv), (1, .int xl), (2, .int xh)] := hl
  refine lv_iload_n hx hb dX5_in_0 rfl (lv_at hl 0 rfl) ?_
  refine lv_iload_n hx hb dX5_in_1 rfl (lv_at hl 1 rfl) ?_
  refine lv_icmp_lt (tgt := 14) hx hb dX5_in_2 (by decide) (fun c_1 => ?_) (fun c_1 => ?_)
  · skip
    refine lv_iconst (v := 0) hx hb dX5_in_14 (by decide) ?_
    exact W.zret hx hb hr rfl (fun t ht hW => ⟨_, rfl, rfl, ht⟩) (fun q hq => absurd hq List.not_mem_nil) dX5_in_15
  · skip
    refine lv_iload_n hx hb dX5_in_5 rfl (lv_at hl 0 rfl) ?_
    refine lv_iload_n hx hb dX5_in_6 rfl (lv_at hl 2 rfl) ?_
    refine lv_icmp_gt (tgt := 14) hx hb dX5_in_7 (by decide) (fun c_2 => ?_) (fun c_2 => ?_)
    · skip
      refine lv_iconst (v := 0) hx hb dX5_in_14 (by decide) ?_
      exact W.zret hx hb hr rfl (fun t ht hW => ⟨_, rfl, rfl, ht⟩) (fun q hq => absurd hq List.not_mem_nil) dX5_in_15
    · skip
      exact absurd hbad (fun h => h.elim c_1 c_2)
set_option maxHeartbeats 4000000 in
set_option maxRecDepth 100000 in
theorem c_X5_of (l : Launch) (D : va_G) (K : Nat → ClassId) (ka : Nat) (kb : Nat) (kc : Nat)  : Met l yX5_of wsX5_of ({ frames := 0, cells := 0, slots := 0, locals := 0 }) (va_Pc [.int (nI ka), .int (nI kb), .int (nI kc)] (fun _ => True)) (vp_Si (fun r => r = (nI (40 + 160 * ka + 5 * kb + kc)))) 0 0 (fun _ => False) := by
  refine Met.ofW (cc := cX5_of) (maxL := 3) (ret := (some .int)) (by decide) rfl ?_
  intro p e s m args below meth c s₁ B hml hv
  obtain ⟨rfl, -⟩ := hv
  have hx := B.exec
  have hb := B.bytes
  have hr := B.returns
  have hts := atoms_spec (ws := wsX5_of) B.pre
  have hown : s.vm.findClass RX5 = some m.cls := findClass_of_methodNamed B.named
  have hlocks := B.notSynchronized
  have hl := lv_entry ([.int (nI ka), .int (nI kb), .int (nI kc)]) (n := 3) (Nat.le_of_ble_eq_true rfl)
  rw [lg_entry_eq]
  generalize (lg_sl ([.int (nI ka), .int (nI kb), .int (nI kc)]) ++ List.replicate (3 - (lg_sl ([.int (nI ka), .int (nI kb), .int (nI kc)])).length) Slot.unset).toArray = ls at hl ⊢
  have hl : lv_has ls 3 [(0, .int (nI ka)), (1, .int (nI kb)), (2, .int (nI kc))] := hl
  refine lv_bipush (v := 40) hx hb dX5_of_0 (by decide) ?_
  refine lv_sipush (v := 160) hx hb dX5_of_2 (by decide) ?_
  refine lv_iload_n hx hb dX5_of_5 rfl (lv_at hl 0 rfl) ?_
  refine lv_imul hx hb dX5_of_6 ?_
  refine st1 (pk_mul 160 ka) ?_
  refine lv_iadd hx hb dX5_of_7 ?_
  refine st1 (nI_add 40 (160 * ka)) ?_
  refine lv_iconst (v := 5) hx hb dX5_of_8 (by decide) ?_
  refine lv_iload_n hx hb dX5_of_9 rfl (lv_at hl 1 rfl) ?_
  refine lv_imul hx hb dX5_of_10 ?_
  refine st1 (pk_mul 5 kb) ?_
  refine lv_iadd hx hb dX5_of_11 ?_
  refine st1 (nI_add (40 + 160 * ka) (5 * kb)) ?_
  refine lv_iload_n hx hb dX5_of_12 rfl (lv_at hl 2 rfl) ?_
  refine lv_iadd hx hb dX5_of_13 ?_
  refine st1 (nI_add (40 + 160 * ka + 5 * kb) kc) ?_
  exact W.iret hx hb hr (fun t ht hW => ⟨_, rfl, rfl, ht⟩) (fun q hq => absurd hq List.not_mem_nil) dX5_of_14
set_option maxHeartbeats 4000000 in
set_option maxRecDepth 100000 in
theorem c_X5_sumOf (l : Launch) (D : va_G) (K : Nat → ClassId) (xa : Int32) (xr : Int32) (xd : Int32)  : Met l yX5_sumOf wsX5_sumOf ({ frames := 0, cells := 0, slots := 0, locals := 0 }) (va_Pc [.int xa, .int xr, .int xd] (fun _ => True)) (vp_Si (fun r => r = (sumF xa xr xd))) 0 0 (fun _ => False) := by
  refine Met.ofW (cc := cX5_sumOf) (maxL := 3) (ret := (some .int)) (by decide) rfl ?_
  intro p e s m args below meth c s₁ B hml hv
  obtain ⟨rfl, -⟩ := hv
  have hx := B.exec
  have hb := B.bytes
  have hr := B.returns
  have hts := atoms_spec (ws := wsX5_sumOf) B.pre
  have hown : s.vm.findClass RX5 = some m.cls := findClass_of_methodNamed B.named
  have hlocks := B.notSynchronized
  have hl := lv_entry ([.int xa, .int xr, .int xd]) (n := 3) (Nat.le_of_ble_eq_true rfl)
  rw [lg_entry_eq]
  generalize (lg_sl ([.int xa, .int xr, .int xd]) ++ List.replicate (3 - (lg_sl ([.int xa, .int xr, .int xd])).length) Slot.unset).toArray = ls at hl ⊢
  have hl : lv_has ls 3 [(0, .int xa), (1, .int xr), (2, .int xd)] := hl
  refine lv_bipush (v := 7) hx hb dX5_sumOf_0 (by decide) ?_
  refine lv_iload_n hx hb dX5_sumOf_2 rfl (lv_at hl 0 rfl) ?_
  refine lv_imul hx hb dX5_sumOf_3 ?_
  refine lv_bipush (v := 13) hx hb dX5_sumOf_4 (by decide) ?_
  refine lv_iload_n hx hb dX5_sumOf_6 rfl (lv_at hl 1 rfl) ?_
  refine lv_imul hx hb dX5_sumOf_7 ?_
  refine lv_iadd hx hb dX5_sumOf_8 ?_
  refine lv_iload_n hx hb dX5_sumOf_9 rfl (lv_at hl 2 rfl) ?_
  refine lv_iadd hx hb dX5_sumOf_10 ?_
  refine lv_bipush (v := 97) hx hb dX5_sumOf_11 (by decide) ?_
  refine lv_irem hx hb dX5_sumOf_13 (by decide) ?_
  exact W.iret hx hb hr (fun t ht hW => ⟨_, rfl, rfl, ht⟩) (fun q hq => absurd hq List.not_mem_nil) dX5_sumOf_14
theorem nI_prd {n : Nat} {x : Int32} (h : nI n ≤ x) (h1 : 1 ≤ n) (h2 : n ≤ 32) : nI (n - 1) < x := by
  rw [Int32.le_iff_toInt_le, nI_toInt (by omega)] at h
  rw [Int32.lt_iff_toInt_lt, nI_toInt (by omega)]
  omega
set_option maxHeartbeats 4000000 in
set_option maxRecDepth 100000 in
theorem c_X5_isPlace_ok (l : Launch) (D : va_G) (K : Nat → ClassId) (oM : Nat) (aS : Nat) (aA : Nat) (aB : Nat) (aT : Nat) (aV : Nat) (aP : Nat) (fS : Nat → Int32) (kn : Nat) (ln : Nat) (pl : Int32) (wr : Int32) (le : Int32) (on : Int32) (tw : Int32) (n : Nat) (j : Nat) (hs0 : fS 0 = nI n) (hn1 : 1 ≤ n) (hn : n ≤ 32) (hjn : j < n) : Met l yX5_isPlace wsX5_isPlace ({ frames := 1, cells := 0, slots := 0, locals := 22 }) (va_Pc [.ref oM, .int (nI j)] (fun U => Bd D K U ∧ va_P D vwCl [(oM, .inr (5, [.ref aS, .ref aA, .ref aB, .int (nI kn), .ref aT, .ref aV, .ref aP, .int (nI ln), .int pl, .int wr, .int le, .int on, .int tw])), (aS, .inl (K 0, 360, .inl fS))] U.heap)) (vp_Si (fun r => r = 1)) 0 0 (fun _ => False) := by
  refine Met.ofW (cc := cX5_isPlace) (maxL := 2) (ret := (some .boolean)) (by decide) rfl ?_
  intro p e s m args below meth c s₁ B hml hv
  obtain ⟨rfl, hbd, hP⟩ := hv
  have hx := B.exec
  have hb := B.bytes
  have hr := B.returns
  have hts := atoms_spec (ws := wsX5_isPlace) B.pre
  have hown : s.vm.findClass RX5 = some m.cls := findClass_of_methodNamed B.named
  have hlocks := B.notSynchronized
  have hK := hbd.2
  have hP : va_P D vwCl [(oM, .inr (5, [.ref aS, .ref aA, .ref aB, .int (nI kn), .ref aT, .ref aV, .ref aP, .int (nI ln), .int pl, .int wr, .int le, .int on, .int tw])), (aS, .inl (K 0, 360, .inl fS))] s.heap := hP
  have hin5 : ∀ w ∈ wsX50, w ∈ wsX5_isPlace := by decide +kernel
  have hl := lv_entry ([.ref oM, .int (nI j)]) (n := 2) (Nat.le_of_ble_eq_true rfl)
  rw [lg_entry_eq]
  generalize (lg_sl ([.ref oM, .int (nI j)]) ++ List.replicate (2 - (lg_sl ([.ref oM, .int (nI j)])).length) Slot.unset).toArray = ls at hl ⊢
  have hl : lv_has ls 2 [(0, .ref oM), (1, .int (nI j))] := hl
  refine lv_iload_n hx hb dX5_isPlace_0 rfl (lv_at hl 1 rfl) ?_
  refine lv_iconst (v := 0) hx hb dX5_isPlace_1 (by decide) ?_
  refine lv_aload_n hx hb dX5_isPlace_2 rfl (lv_at hl 0 rfl) ?_
  refine va_get (D := D) (ci := 5) (v := .ref aS) (C := RX5) (T := TX5) (N := 13) hx hb hts hin5 hown hK hP 0 rfl rfl 0 (by decide) (hts _ (List.mem_of_getElem? (i := 1) rfl)) (fun _ h9 => h9) rfl dX5_isPlace_3 ?_
  refine lv_iconst (v := 0) hx hb dX5_isPlace_6 (by decide) ?_
  refine n_iald hx hb hK hP 1 0 rfl rfl 0 (by omega) (by decide) dX5_isPlace_7 ?_
  refine st1 hs0 ?_
  refine lv_iconst (v := 1) hx hb dX5_isPlace_8 (by decide) ?_
  refine lv_isub hx hb dX5_isPlace_9 ?_
  refine st1 (pk_sub (a := n) (b := 1) (by omega)) ?_
  refine vp_callSi (va_Run.run (va_runS (As := [.int (nI j), .int 0, .int (nI (n - 1))]) (rest := []) ⟨hx, hb, hml, hown, hts⟩ (c_X5_in_ok l D K (nI j) 0 (nI (n - 1)) (nI_nlt (a := j) (b := 0) (by omega) (by omega)) (nI_nlt (a := n - 1) (b := j) (by omega) (by omega))) (va_cwS 3 hts gX5_isPlace_X5_in rfl rfl rfl (by decide +kernel) ⟨Nat.le_of_ble_eq_true rfl, Nat.le_of_ble_eq_true rfl⟩) pre_s0 rfl rfl hl.1 rfl (lv_room (Nat.le_of_ble_eq_true rfl)) dX5_isPlace_10 ⟨Nat.zero_le _, Nat.zero_le _⟩)) (fun r_1 hr_1 => ?_)
  subst hr_1
  exact W.zret hx hb hr rfl (fun t ht hW => ⟨_, rfl, rfl, ht⟩) (fun q hq => absurd hq List.not_mem_nil) dX5_isPlace_13
set_option maxHeartbeats 4000000 in
set_option maxRecDepth 100000 in
theorem c_X5_isPlace_no (l : Launch) (D : va_G) (K : Nat → ClassId) (oM : Nat) (aS : Nat) (aA : Nat) (aB : Nat) (aT : Nat) (aV : Nat) (aP : Nat) (fS : Nat → Int32) (kn : Nat) (ln : Nat) (pl : Int32) (wr : Int32) (le : Int32) (on : Int32) (tw : Int32) (n : Nat) (xp : Int32) (hs0 : fS 0 = nI n) (hn1 : 1 ≤ n) (hn : n ≤ 32) (hbad : xp < 0 ∨ nI n ≤ xp) : Met l yX5_isPlace wsX5_isPlace ({ frames := 1, cells := 0, slots := 0, locals := 22 }) (va_Pc [.ref oM, .int xp] (fun U => Bd D K U ∧ va_P D vwCl [(oM, .inr (5, [.ref aS, .ref aA, .ref aB, .int (nI kn), .ref aT, .ref aV, .ref aP, .int (nI ln), .int pl, .int wr, .int le, .int on, .int tw])), (aS, .inl (K 0, 360, .inl fS))] U.heap)) (vp_Si (fun r => r = 0)) 0 0 (fun _ => False) := by
  refine Met.ofW (cc := cX5_isPlace) (maxL := 2) (ret := (some .boolean)) (by decide) rfl ?_
  intro p e s m args below meth c s₁ B hml hv
  obtain ⟨rfl, hbd, hP⟩ := hv
  have hx := B.exec
  have hb := B.bytes
  have hr := B.returns
  have hts := atoms_spec (ws := wsX5_isPlace) B.pre
  have hown : s.vm.findClass RX5 = some m.cls := findClass_of_methodNamed B.named
  have hlocks := B.notSynchronized
  have hK := hbd.2
  have hP : va_P D vwCl [(oM, .inr (5, [.ref aS, .ref aA, .ref aB, .int (nI kn), .ref aT, .ref aV, .ref aP, .int (nI ln), .int pl, .int wr, .int le, .int on, .int tw])), (aS, .inl (K 0, 360, .inl fS))] s.heap := hP
  have hin5 : ∀ w ∈ wsX50, w ∈ wsX5_isPlace := by decide +kernel
  have hl := lv_entry ([.ref oM, .int xp]) (n := 2) (Nat.le_of_ble_eq_true rfl)
  rw [lg_entry_eq]
  generalize (lg_sl ([.ref oM, .int xp]) ++ List.replicate (2 - (lg_sl ([.ref oM, .int xp])).length) Slot.unset).toArray = ls at hl ⊢
  have hl : lv_has ls 2 [(0, .ref oM), (1, .int xp)] := hl
  refine lv_iload_n hx hb dX5_isPlace_0 rfl (lv_at hl 1 rfl) ?_
  refine lv_iconst (v := 0) hx hb dX5_isPlace_1 (by decide) ?_
  refine lv_aload_n hx hb dX5_isPlace_2 rfl (lv_at hl 0 rfl) ?_
  refine va_get (D := D) (ci := 5) (v := .ref aS) (C := RX5) (T := TX5) (N := 13) hx hb hts hin5 hown hK hP 0 rfl rfl 0 (by decide) (hts _ (List.mem_of_getElem? (i := 1) rfl)) (fun _ h9 => h9) rfl dX5_isPlace_3 ?_
  refine lv_iconst (v := 0) hx hb dX5_isPlace_6 (by decide) ?_
  refine n_iald hx hb hK hP 1 0 rfl rfl 0 (by omega) (by decide) dX5_isPlace_7 ?_
  refine st1 hs0 ?_
  refine lv_iconst (v := 1) hx hb dX5_isPlace_8 (by decide) ?_
  refine lv_isub hx hb dX5_isPlace_9 ?_
  refine st1 (pk_sub (a := n) (b := 1) (by omega)) ?_
  refine vp_callSi (va_Run.run (va_runS (As := [.int xp, .int 0, .int (nI (n - 1))]) (rest := []) ⟨hx, hb, hml, hown, hts⟩ (c_X5_in_no l D K xp 0 (nI (n - 1)) (hbad.imp id (fun h => nI_prd h hn1 hn))) (va_cwS 3 hts gX5_isPlace_X5_in rfl rfl rfl (by decide +kernel) ⟨Nat.le_of_ble_eq_true rfl, Nat.le_of_ble_eq_true rfl⟩) pre_s0 rfl rfl hl.1 rfl (lv_room (Nat.le_of_ble_eq_true rfl)) dX5_isPlace_10 ⟨Nat.zero_le _, Nat.zero_le _⟩)) (fun r_1 hr_1 => ?_)
  subst hr_1
  exact W.zret hx hb hr rfl (fun t ht hW => ⟨_, rfl, rfl, ht⟩) (fun q hq => absurd hq List.not_mem_nil) dX5_isPlace_13
def r_X5_isWhole (fS : Nat → Int32) (sg : Nat) (j : Nat) : Int32 := (if (fS (40 + 160 * sg + 5 * j + 0)) = 1 then (if (fS (40 + 160 * sg + 5 * j + 4)) = (sumF (fS (40 + 160 * sg + 5 * j + 1)) (fS (40 + 160 * sg + 5 * j + 2)) (fS (40 + 160 * sg + 5 * j + 3))) then 1 else 0) else 0)
theorem z_r_X5_isWhole {fS : Nat → Int32} {sg : Nat} {j : Nat} : narrow .boolean (.int (r_X5_isWhole fS sg j)) = .int (r_X5_isWhole fS sg j) := by
  unfold r_X5_isWhole
  repeat' split
  all_goals first | with_reducible exact zl0 | with_reducible exact zl1
set_option maxHeartbeats 4000000 in
set_option maxRecDepth 100000 in
theorem c_X5_isWhole (l : Launch) (D : va_G) (K : Nat → ClassId) (oM : Nat) (aS : Nat) (aA : Nat) (aB : Nat) (aT : Nat) (aV : Nat) (aP : Nat) (fS : Nat → Int32) (kn : Nat) (ln : Nat) (pl : Int32) (wr : Int32) (le : Int32) (on : Int32) (tw : Int32) (sg : Nat) (j : Nat) (hsg : sg < 2) (hj : j < 32) : Met l yX5_isWhole wsX5_isWhole ({ frames := 1, cells := 0, slots := 0, locals := 22 }) (va_Pc [.ref oM, .int (nI sg), .int (nI j)] (fun U => Bd D K U ∧ va_P D vwCl [(oM, .inr (5, [.ref aS, .ref aA, .ref aB, .int (nI kn), .ref aT, .ref aV, .ref aP, .int (nI ln), .int pl, .int wr, .int le, .int on, .int tw])), (aS, .inl (K 0, 360, .inl fS))] U.heap)) (vp_Si (fun r => r = (r_X5_isWhole fS sg j))) 0 0 (fun _ => False) := by
  refine Met.ofW (cc := cX5_isWhole) (maxL := 4) (ret := (some .boolean)) (by decide) rfl ?_
  intro p e s m args below meth c s₁ B hml hv
  obtain ⟨rfl, hbd, hP⟩ := hv
  have hx := B.exec
  have hb := B.bytes
  have hr := B.returns
  have hts := atoms_spec (ws := wsX5_isWhole) B.pre
  have hown : s.vm.findClass RX5 = some m.cls := findClass_of_methodNamed B.named
  have hlocks := B.notSynchronized
  have hK := hbd.2
  have hP : va_P D vwCl [(oM, .inr (5, [.ref aS, .ref aA, .ref aB, .int (nI kn), .ref aT, .ref aV, .ref aP, .int (nI ln), .int pl, .int wr, .int le, .int on, .int tw])), (aS, .inl (K 0, 360, .inl fS))] s.heap := hP
  have hin5 : ∀ w ∈ wsX50, w ∈ wsX5_isWhole := by decide +kernel
  have hl := lv_entry ([.ref oM, .int (nI sg), .int (nI j)]) (n := 4) (Nat.le_of_ble_eq_true rfl)
  rw [lg_entry_eq]
  generalize (lg_sl ([.ref oM, .int (nI sg), .int (nI j)]) ++ List.replicate (4 - (lg_sl ([.ref oM, .int (nI sg), .int (nI j)])).length) Slot.unset).toArray = ls at hl ⊢
  have hl : lv_has ls 4 [(0, .ref oM), (1, .int (nI sg)), (2, .int (nI j))] := hl
  refine lv_aload_n hx hb dX5_isWhole_0 rfl (lv_at hl 0 rfl) ?_
  refine va_get (D := D) (ci := 5) (v := .ref aS) (C := RX5) (T := TX5) (N := 13) hx hb hts hin5 hown hK hP 0 rfl rfl 0 (by decide) (hts _ (List.mem_of_getElem? (i := 1) rfl)) (fun _ h9 => h9) rfl dX5_isWhole_1 ?_
  refine lv_iload_n hx hb dX5_isWhole_4 rfl (lv_at hl 1 rfl) ?_
  refine lv_iload_n hx hb dX5_isWhole_5 rfl (lv_at hl 2 rfl) ?_
  refine lv_iconst (v := 0) hx hb dX5_isWhole_6 (by decide) ?_
  refine vp_callSi (va_Run.run (va_runS (As := [.int (nI sg), .int (nI j), .int 0]) (rest := [.ref aS]) ⟨hx, hb, hml, hown, hts⟩ (c_X5_of l D K sg j 0 ) (va_cwS 3 hts gX5_isWhole_X5_of rfl rfl rfl (by decide +kernel) ⟨Nat.le_of_ble_eq_true rfl, Nat.le_of_ble_eq_true rfl⟩) pre_s0 rfl rfl hl.1 rfl (lv_room (Nat.le_of_ble_eq_true rfl)) dX5_isWhole_7 ⟨Nat.zero_le _, Nat.zero_le _⟩)) (fun r_1 hr_1 => ?_)
  subst hr_1
  refine n_iald hx hb hK hP 1 0 rfl rfl (40 + 160 * sg + 5 * j + 0) (by omega) (by decide) dX5_isWhole_10 ?_
  refine lv_iconst (v := 1) hx hb dX5_isWhole_11 (by decide) ?_
  refine lv_icmp_ne (tgt := 19) hx hb dX5_isWhole_12 (by decide) (fun c_2 => ?_) (fun c_2 => ?_)
  · skip
    refine lv_iconst (v := 0) hx hb dX5_isWhole_19 (by decide) ?_
    refine lv_istore_n (lv' := [(3, .int 0), (0, .ref oM), (1, .int (nI sg)), (2, .int (nI j))]) hx hb dX5_isWhole_20 rfl hl (by decide) rfl (fun ls hl => ?_)
    refine lv_iload_n hx hb dX5_isWhole_21 rfl (lv_at hl 0 rfl) ?_
    refine lv_if_eq (tgt := 79) hx hb dX5_isWhole_22 (by decide) (fun _ => ?_) (fun h_3 => absurd (by decide) h_3)
    refine lv_iconst (v := 0) hx hb dX5_isWhole_79 (by decide) ?_
    exact W.zret hx hb hr rfl (fun t ht hW => ⟨_, rfl, (by unfold r_X5_isWhole; rw [if_neg c_2]), ht⟩) (fun q hq => absurd hq List.not_mem_nil) dX5_isWhole_80
  · skip
    refine lv_iconst (v := 1) hx hb dX5_isWhole_15 (by decide) ?_
    refine lv_goto (tgt := 20) hx hb dX5_isWhole_16 (by decide) ?_
    refine lv_istore_n (lv' := [(3, .int 1), (0, .ref oM), (1, .int (nI sg)), (2, .int (nI j))]) hx hb dX5_isWhole_20 rfl hl (by decide) rfl (fun ls hl => ?_)
    refine lv_iload_n hx hb dX5_isWhole_21 rfl (lv_at hl 0 rfl) ?_
    refine lv_if_eq (tgt := 79) hx hb dX5_isWhole_22 (by decide) (fun h_4 => absurd h_4 (by decide)) (fun _ => ?_)
    refine lv_aload_n hx hb dX5_isWhole_25 rfl (lv_at hl 1 rfl) ?_
    refine va_get (D := D) (ci := 5) (v := .ref aS) (C := RX5) (T := TX5) (N := 13) hx hb hts hin5 hown hK hP 0 rfl rfl 0 (by decide) (hts _ (List.mem_of_getElem? (i := 1) rfl)) (fun _ h9 => h9) rfl dX5_isWhole_26 ?_
    refine lv_iload_n hx hb dX5_isWhole_29 rfl (lv_at hl 2 rfl) ?_
    refine lv_iload_n hx hb dX5_isWhole_30 rfl (lv_at hl 3 rfl) ?_
    refine lv_iconst (v := 4) hx hb dX5_isWhole_31 (by decide) ?_
    refine vp_callSi (va_Run.run (va_runS (As := [.int (nI sg), .int (nI j), .int 4]) (rest := [.ref aS]) ⟨hx, hb, hml, hown, hts⟩ (c_X5_of l D K sg j 4 ) (va_cwS 3 hts gX5_isWhole_X5_of rfl rfl rfl (by decide +kernel) ⟨Nat.le_of_ble_eq_true rfl, Nat.le_of_ble_eq_true rfl⟩) pre_s0 rfl rfl hl.1 rfl (lv_room (Nat.le_of_ble_eq_true rfl)) dX5_isWhole_32 ⟨Nat.zero_le _, Nat.zero_le _⟩)) (fun r_5 hr_5 => ?_)
    subst hr_5
    refine n_iald hx hb hK hP 1 0 rfl rfl (40 + 160 * sg + 5 * j + 4) (by omega) (by decide) dX5_isWhole_35 ?_
    refine lv_aload_n hx hb dX5_isWhole_36 rfl (lv_at hl 1 rfl) ?_
    refine va_get (D := D) (ci := 5) (v := .ref aS) (C := RX5) (T := TX5) (N := 13) hx hb hts hin5 hown hK hP 0 rfl rfl 0 (by decide) (hts _ (List.mem_of_getElem? (i := 1) rfl)) (fun _ h9 => h9) rfl dX5_isWhole_37 ?_
    refine lv_iload_n hx hb dX5_isWhole_40 rfl (lv_at hl 2 rfl) ?_
    refine lv_iload_n hx hb dX5_isWhole_41 rfl (lv_at hl 3 rfl) ?_
    refine lv_iconst (v := 1) hx hb dX5_isWhole_42 (by decide) ?_
    refine vp_callSi (va_Run.run (va_runS (As := [.int (nI sg), .int (nI j), .int 1]) (rest := [.ref aS, .int (fS (40 + 160 * sg + 5 * j + 4))]) ⟨hx, hb, hml, hown, hts⟩ (c_X5_of l D K sg j 1 ) (va_cwS 3 hts gX5_isWhole_X5_of rfl rfl rfl (by decide +kernel) ⟨Nat.le_of_ble_eq_true rfl, Nat.le_of_ble_eq_true rfl⟩) pre_s0 rfl rfl hl.1 rfl (lv_room (Nat.le_of_ble_eq_true rfl)) dX5_isWhole_43 ⟨Nat.zero_le _, Nat.zero_le _⟩)) (fun r_6 hr_6 => ?_)
    subst hr_6
    refine n_iald hx hb hK hP 1 0 rfl rfl (40 + 160 * sg + 5 * j + 1) (by omega) (by decide) dX5_isWhole_46 ?_
    refine lv_aload_n hx hb dX5_isWhole_47 rfl (lv_at hl 1 rfl) ?_
    refine va_get (D := D) (ci := 5) (v := .ref aS) (C := RX5) (T := TX5) (N := 13) hx hb hts hin5 hown hK hP 0 rfl rfl 0 (by decide) (hts _ (List.mem_of_getElem? (i := 1) rfl)) (fun _ h9 => h9) rfl dX5_isWhole_48 ?_
    refine lv_iload_n hx hb dX5_isWhole_51 rfl (lv_at hl 2 rfl) ?_
    refine lv_iload_n hx hb dX5_isWhole_52 rfl (lv_at hl 3 rfl) ?_
    refine lv_iconst (v := 2) hx hb dX5_isWhole_53 (by decide) ?_
    refine vp_callSi (va_Run.run (va_runS (As := [.int (nI sg), .int (nI j), .int 2]) (rest := [.ref aS, .int (fS (40 + 160 * sg + 5 * j + 1)), .int (fS (40 + 160 * sg + 5 * j + 4))]) ⟨hx, hb, hml, hown, hts⟩ (c_X5_of l D K sg j 2 ) (va_cwS 3 hts gX5_isWhole_X5_of rfl rfl rfl (by decide +kernel) ⟨Nat.le_of_ble_eq_true rfl, Nat.le_of_ble_eq_true rfl⟩) pre_s0 rfl rfl hl.1 rfl (lv_room (Nat.le_of_ble_eq_true rfl)) dX5_isWhole_54 ⟨Nat.zero_le _, Nat.zero_le _⟩)) (fun r_7 hr_7 => ?_)
    subst hr_7
    refine n_iald hx hb hK hP 1 0 rfl rfl (40 + 160 * sg + 5 * j + 2) (by omega) (by decide) dX5_isWhole_57 ?_
    refine lv_aload_n hx hb dX5_isWhole_58 rfl (lv_at hl 1 rfl) ?_
    refine va_get (D := D) (ci := 5) (v := .ref aS) (C := RX5) (T := TX5) (N := 13) hx hb hts hin5 hown hK hP 0 rfl rfl 0 (by decide) (hts _ (List.mem_of_getElem? (i := 1) rfl)) (fun _ h9 => h9) rfl dX5_isWhole_59 ?_
    refine lv_iload_n hx hb dX5_isWhole_62 rfl (lv_at hl 2 rfl) ?_
    refine lv_iload_n hx hb dX5_isWhole_63 rfl (lv_at hl 3 rfl) ?_
    refine lv_iconst (v := 3) hx hb dX5_isWhole_64 (by decide) ?_
    refine vp_callSi (va_Run.run (va_runS (As := [.int (nI sg), .int (nI j), .int 3]) (rest := [.ref aS, .int (fS (40 + 160 * sg + 5 * j + 2)), .int (fS (40 + 160 * sg + 5 * j + 1)), .int (fS (40 + 160 * sg + 5 * j + 4))]) ⟨hx, hb, hml, hown, hts⟩ (c_X5_of l D K sg j 3 ) (va_cwS 3 hts gX5_isWhole_X5_of rfl rfl rfl (by decide +kernel) ⟨Nat.le_of_ble_eq_true rfl, Nat.le_of_ble_eq_true rfl⟩) pre_s0 rfl rfl hl.1 rfl (lv_room (Nat.le_of_ble_eq_true rfl)) dX5_isWhole_65 ⟨Nat.zero_le _, Nat.zero_le _⟩)) (fun r_8 hr_8 => ?_)
    subst hr_8
    refine n_iald hx hb hK hP 1 0 rfl rfl (40 + 160 * sg + 5 * j + 3) (by omega) (by decide) dX5_isWhole_68 ?_
    refine vp_callSi (va_Run.run (va_runS (As := [.int (fS (40 + 160 * sg + 5 * j + 1)), .int (fS (40 + 160 * sg + 5 * j + 2)), .int (fS (40 + 160 * sg + 5 * j + 3))]) (rest := [.int (fS (40 + 160 * sg + 5 * j + 4))]) ⟨hx, hb, hml, hown, hts⟩ (c_X5_sumOf l D K (fS (40 + 160 * sg + 5 * j + 1)) (fS (40 + 160 * sg + 5 * j + 2)) (fS (40 + 160 * sg + 5 * j + 3)) ) (va_cwS 3 hts gX5_isWhole_X5_sumOf rfl rfl rfl (by decide +kernel) ⟨Nat.le_of_ble_eq_true rfl, Nat.le_of_ble_eq_true rfl⟩) pre_s0 rfl rfl hl.1 rfl (lv_room (Nat.le_of_ble_eq_true rfl)) dX5_isWhole_69 ⟨Nat.zero_le _, Nat.zero_le _⟩)) (fun r_9 hr_9 => ?_)
    subst hr_9
    refine lv_icmp_ne (tgt := 79) hx hb dX5_isWhole_72 (by decide) (fun c_10 => ?_) (fun c_10 => ?_)
    · skip
      refine lv_iconst (v := 0) hx hb dX5_isWhole_79 (by decide) ?_
      exact W.zret hx hb hr rfl (fun t ht hW => ⟨_, rfl, (by unfold r_X5_isWhole; rw [if_pos c_2, if_neg c_10]), ht⟩) (fun q hq => absurd hq List.not_mem_nil) dX5_isWhole_80
    · skip
      refine lv_iconst (v := 1) hx hb dX5_isWhole_75 (by decide) ?_
      refine lv_goto (tgt := 80) hx hb dX5_isWhole_76 (by decide) ?_
      exact W.zret hx hb hr rfl (fun t ht hW => ⟨_, rfl, (by unfold r_X5_isWhole; rw [if_pos c_2, if_pos c_10]), ht⟩) (fun q hq => absurd hq List.not_mem_nil) dX5_isWhole_80
def r_X5_reason (fS : Nat → Int32) (sg : Nat) (j : Nat) : Int32 := (if (fS (40 + 160 * sg + 5 * j + 0)) = 0 then 1 else (if (r_X5_isWhole fS sg j) = 0 then 2 else (if (fS (40 + 160 * sg + 5 * j + 1)) = (nI j) then (if (fS (40 + 160 * sg + 5 * j + 2)) = (fS (8 + j)) then 0 else 4) else 3)))
set_option maxHeartbeats 4000000 in
set_option maxRecDepth 100000 in
theorem c_X5_reason (l : Launch) (D : va_G) (K : Nat → ClassId) (oM : Nat) (aS : Nat) (aA : Nat) (aB : Nat) (aT : Nat) (aV : Nat) (aP : Nat) (fS : Nat → Int32) (kn : Nat) (ln : Nat) (pl : Int32) (wr : Int32) (le : Int32) (on : Int32) (tw : Int32) (sg : Nat) (j : Nat) (hsg : sg < 2) (hj : j < 32) : Met l yX5_reason wsX5_reason ({ frames := 2, cells := 0, slots := 0, locals := 45 }) (va_Pc [.ref oM, .int (nI sg), .int (nI j)] (fun U => Bd D K U ∧ va_P D vwCl [(oM, .inr (5, [.ref aS, .ref aA, .ref aB, .int (nI kn), .ref aT, .ref aV, .ref aP, .int (nI ln), .int pl, .int wr, .int le, .int on, .int tw])), (aS, .inl (K 0, 360, .inl fS))] U.heap)) (vp_Si (fun r => r = (r_X5_reason fS sg j))) 0 0 (fun _ => False) := by
  refine Met.ofW (cc := cX5_reason) (maxL := 3) (ret := (some .int)) (by decide) rfl ?_
  intro p e s m args below meth c s₁ B hml hv
  obtain ⟨rfl, hbd, hP⟩ := hv
  have hx := B.exec
  have hb := B.bytes
  have hr := B.returns
  have hts := atoms_spec (ws := wsX5_reason) B.pre
  have hown : s.vm.findClass RX5 = some m.cls := findClass_of_methodNamed B.named
  have hlocks := B.notSynchronized
  have hK := hbd.2
  have hP : va_P D vwCl [(oM, .inr (5, [.ref aS, .ref aA, .ref aB, .int (nI kn), .ref aT, .ref aV, .ref aP, .int (nI ln), .int pl, .int wr, .int le, .int on, .int tw])), (aS, .inl (K 0, 360, .inl fS))] s.heap := hP
  have hin5 : ∀ w ∈ wsX50, w ∈ wsX5_reason := by decide +kernel
  have hl := lv_entry ([.ref oM, .int (nI sg), .int (nI j)]) (n := 3) (Nat.le_of_ble_eq_true rfl)
  rw [lg_entry_eq]
  generalize (lg_sl ([.ref oM, .int (nI sg), .int (nI j)]) ++ List.replicate (3 - (lg_sl ([.ref oM, .int (nI sg), .int (nI j)])).length) Slot.unset).toArray = ls at hl ⊢
  have hl : lv_has ls 3 [(0, .ref oM), (1, .int (nI sg)), (2, .int (nI j))] := hl
  refine lv_aload_n hx hb dX5_reason_0 rfl (lv_at hl 0 rfl) ?_
  refine va_get (D := D) (ci := 5) (v := .ref aS) (C := RX5) (T := TX5) (N := 13) hx hb hts hin5 hown hK hP 0 rfl rfl 0 (by decide) (hts _ (List.mem_of_getElem? (i := 1) rfl)) (fun _ h9 => h9) rfl dX5_reason_1 ?_
  refine lv_iload_n hx hb dX5_reason_4 rfl (lv_at hl 1 rfl) ?_
  refine lv_iload_n hx hb dX5_reason_5 rfl (lv_at hl 2 rfl) ?_
  refine lv_iconst (v := 0) hx hb dX5_reason_6 (by decide) ?_
  refine vp_callSi (va_Run.run (va_runS (As := [.int (nI sg), .int (nI j), .int 0]) (rest := [.ref aS]) ⟨hx, hb, hml, hown, hts⟩ (c_X5_of l D K sg j 0 ) (va_cwS 3 hts gX5_reason_X5_of rfl rfl rfl (by decide +kernel) ⟨Nat.le_of_ble_eq_true rfl, Nat.le_of_ble_eq_true rfl⟩) pre_s0 rfl rfl hl.1 rfl (lv_room (Nat.le_of_ble_eq_true rfl)) dX5_reason_7 ⟨Nat.zero_le _, Nat.zero_le _⟩)) (fun r_1 hr_1 => ?_)
  subst hr_1
  refine n_iald hx hb hK hP 1 0 rfl rfl (40 + 160 * sg + 5 * j + 0) (by omega) (by decide) dX5_reason_10 ?_
  refine lv_if_ne (tgt := 16) hx hb dX5_reason_11 (by decide) (fun c_2 => ?_) (fun c_2 => ?_)
  · skip
    refine lv_aload_n hx hb dX5_reason_16 rfl (lv_at hl 0 rfl) ?_
    refine lv_iload_n hx hb dX5_reason_17 rfl (lv_at hl 1 rfl) ?_
    refine lv_iload_n hx hb dX5_reason_18 rfl (lv_at hl 2 rfl) ?_
    have hPc := hP.sub (ws' := [(oM, .inr (5, [.ref aS, .ref aA, .ref aB, .int (nI kn), .ref aT, .ref aV, .ref aP, .int (nI ln), .int pl, .int wr, .int le, .int on, .int tw])), (aS, .inl (K 0, 360, .inl fS))]) [0, 1] rfl
    refine vp_callSi (va_Run.run (va_runV (As := [.int (nI sg), .int (nI j)]) (rest := []) ⟨hx, hb, hml, hown, hts⟩ (c_X5_isWhole l D K oM aS aA aB aT aV aP fS kn ln pl wr le on tw sg j (by omega) (by omega)) (cwV 2 hts gX5_reason_X5_isWhole rfl rfl rfl (by decide +kernel) ⟨Nat.le_of_ble_eq_true rfl, Nat.le_of_ble_eq_true rfl⟩) (pre_rd hbd hPc (ci := 5) (q0 := 0) rfl rfl) rfl rfl hl.1 rfl (lv_room (Nat.le_of_ble_eq_true rfl)) dX5_reason_19 ⟨Nat.zero_le _, Nat.zero_le _⟩)) (fun r_3 hr_3 => ?_)
    subst hr_3
    refine lv_if_ne (tgt := 27) hx hb dX5_reason_22 (by decide) (fun c_4 => ?_) (fun c_4 => ?_)
    · skip
      refine lv_aload_n hx hb dX5_reason_27 rfl (lv_at hl 0 rfl) ?_
      refine va_get (D := D) (ci := 5) (v := .ref aS) (C := RX5) (T := TX5) (N := 13) hx hb hts hin5 hown hK hP 0 rfl rfl 0 (by decide) (hts _ (List.mem_of_getElem? (i := 1) rfl)) (fun _ h9 => h9) rfl dX5_reason_28 ?_
      refine lv_iload_n hx hb dX5_reason_31 rfl (lv_at hl 1 rfl) ?_
      refine lv_iload_n hx hb dX5_reason_32 rfl (lv_at hl 2 rfl) ?_
      refine lv_iconst (v := 1) hx hb dX5_reason_33 (by decide) ?_
      refine vp_callSi (va_Run.run (va_runS (As := [.int (nI sg), .int (nI j), .int 1]) (rest := [.ref aS]) ⟨hx, hb, hml, hown, hts⟩ (c_X5_of l D K sg j 1 ) (va_cwS 3 hts gX5_reason_X5_of rfl rfl rfl (by decide +kernel) ⟨Nat.le_of_ble_eq_true rfl, Nat.le_of_ble_eq_true rfl⟩) pre_s0 rfl rfl hl.1 rfl (lv_room (Nat.le_of_ble_eq_true rfl)) dX5_reason_34 ⟨Nat.zero_le _, Nat.zero_le _⟩)) (fun r_5 hr_5 => ?_)
      subst hr_5
      refine n_iald hx hb hK hP 1 0 rfl rfl (40 + 160 * sg + 5 * j + 1) (by omega) (by decide) dX5_reason_37 ?_
      refine lv_iload_n hx hb dX5_reason_38 rfl (lv_at hl 2 rfl) ?_
      refine lv_icmp_eq (tgt := 46) hx hb dX5_reason_39 (by decide) (fun c_6 => ?_) (fun c_6 => ?_)
      · skip
        refine lv_aload_n hx hb dX5_reason_46 rfl (lv_at hl 0 rfl) ?_
        refine va_get (D := D) (ci := 5) (v := .ref aS) (C := RX5) (T := TX5) (N := 13) hx hb hts hin5 hown hK hP 0 rfl rfl 0 (by decide) (hts _ (List.mem_of_getElem? (i := 1) rfl)) (fun _ h9 => h9) rfl dX5_reason_47 ?_
        refine lv_iload_n hx hb dX5_reason_50 rfl (lv_at hl 1 rfl) ?_
        refine lv_iload_n hx hb dX5_reason_51 rfl (lv_at hl 2 rfl) ?_
        refine lv_iconst (v := 2) hx hb dX5_reason_52 (by decide) ?_
        refine vp_callSi (va_Run.run (va_runS (As := [.int (nI sg), .int (nI j), .int 2]) (rest := [.ref aS]) ⟨hx, hb, hml, hown, hts⟩ (c_X5_of l D K sg j 2 ) (va_cwS 3 hts gX5_reason_X5_of rfl rfl rfl (by decide +kernel) ⟨Nat.le_of_ble_eq_true rfl, Nat.le_of_ble_eq_true rfl⟩) pre_s0 rfl rfl hl.1 rfl (lv_room (Nat.le_of_ble_eq_true rfl)) dX5_reason_53 ⟨Nat.zero_le _, Nat.zero_le _⟩)) (fun r_7 hr_7 => ?_)
        subst hr_7
        refine n_iald hx hb hK hP 1 0 rfl rfl (40 + 160 * sg + 5 * j + 2) (by omega) (by decide) dX5_reason_56 ?_
        refine lv_aload_n hx hb dX5_reason_57 rfl (lv_at hl 0 rfl) ?_
        refine va_get (D := D) (ci := 5) (v := .ref aS) (C := RX5) (T := TX5) (N := 13) hx hb hts hin5 hown hK hP 0 rfl rfl 0 (by decide) (hts _ (List.mem_of_getElem? (i := 1) rfl)) (fun _ h9 => h9) rfl dX5_reason_58 ?_
        refine lv_bipush (v := 8) hx hb dX5_reason_61 (by decide) ?_
        refine lv_iload_n hx hb dX5_reason_63 rfl (lv_at hl 2 rfl) ?_
        refine lv_iadd hx hb dX5_reason_64 ?_
        refine st1 (nI_add 8 j) ?_
        refine n_iald hx hb hK hP 1 0 rfl rfl (8 + j) (by omega) (by decide) dX5_reason_65 ?_
        refine lv_icmp_eq (tgt := 73) hx hb dX5_reason_66 (by decide) (fun c_8 => ?_) (fun c_8 => ?_)
        · skip
          refine lv_iconst (v := 0) hx hb dX5_reason_73 (by decide) ?_
          exact W.iret hx hb hr (fun t ht hW => ⟨_, rfl, (by unfold r_X5_reason; rw [if_neg c_2, if_neg c_4, if_pos c_6, if_pos c_8]), ht⟩) (fun q hq => absurd hq List.not_mem_nil) dX5_reason_74
        · skip
          refine lv_iconst (v := 4) hx hb dX5_reason_69 (by decide) ?_
          refine lv_goto (tgt := 74) hx hb dX5_reason_70 (by decide) ?_
          exact W.iret hx hb hr (fun t ht hW => ⟨_, rfl, (by unfold r_X5_reason; rw [if_neg c_2, if_neg c_4, if_pos c_6, if_neg c_8]), ht⟩) (fun q hq => absurd hq List.not_mem_nil) dX5_reason_74
      · skip
        refine lv_iconst (v := 3) hx hb dX5_reason_42 (by decide) ?_
        refine lv_goto (tgt := 74) hx hb dX5_reason_43 (by decide) ?_
        exact W.iret hx hb hr (fun t ht hW => ⟨_, rfl, (by unfold r_X5_reason; rw [if_neg c_2, if_neg c_4, if_neg c_6]), ht⟩) (fun q hq => absurd hq List.not_mem_nil) dX5_reason_74
    · skip
      refine lv_iconst (v := 2) hx hb dX5_reason_25 (by decide) ?_
      exact W.iret hx hb hr (fun t ht hW => ⟨_, rfl, (by unfold r_X5_reason; rw [if_neg c_2, if_pos c_4]), ht⟩) (fun q hq => absurd hq List.not_mem_nil) dX5_reason_26
  · skip
    refine lv_iconst (v := 1) hx hb dX5_reason_14 (by decide) ?_
    exact W.iret hx hb hr (fun t ht hW => ⟨_, rfl, (by unfold r_X5_reason; rw [if_pos c_2]), ht⟩) (fun q hq => absurd hq List.not_mem_nil) dX5_reason_15
def r_X5_isBelieved (fS : Nat → Int32) (sg : Nat) (j : Nat) : Int32 := (if (fS (8 + j)) ≤ 0 then 0 else (if (r_X5_reason fS sg j) = 0 then 1 else 0))
theorem z_r_X5_isBelieved {fS : Nat → Int32} {sg : Nat} {j : Nat} : narrow .boolean (.int (r_X5_isBelieved fS sg j)) = .int (r_X5_isBelieved fS sg j) := by
  unfold r_X5_isBelieved
  repeat' split
  all_goals first | with_reducible exact zl0 | with_reducible exact zl1
set_option maxHeartbeats 4000000 in
set_option maxRecDepth 100000 in
theorem c_X5_isBelieved (l : Launch) (D : va_G) (K : Nat → ClassId) (oM : Nat) (aS : Nat) (aA : Nat) (aB : Nat) (aT : Nat) (aV : Nat) (aP : Nat) (fS : Nat → Int32) (kn : Nat) (ln : Nat) (pl : Int32) (wr : Int32) (le : Int32) (on : Int32) (tw : Int32) (sg : Nat) (j : Nat) (hsg : sg < 2) (hj : j < 32) : Met l yX5_isBelieved wsX5_isBelieved ({ frames := 3, cells := 0, slots := 0, locals := 67 }) (va_Pc [.ref oM, .int (nI sg), .int (nI j)] (fun U => Bd D K U ∧ va_P D vwCl [(oM, .inr (5, [.ref aS, .ref aA, .ref aB, .int (nI kn), .ref aT, .ref aV, .ref aP, .int (nI ln), .int pl, .int wr, .int le, .int on, .int tw])), (aS, .inl (K 0, 360, .inl fS))] U.heap)) (vp_Si (fun r => r = (r_X5_isBelieved fS sg j))) 0 0 (fun _ => False) := by
  refine Met.ofW (cc := cX5_isBelieved) (maxL := 3) (ret := (some .boolean)) (by decide) rfl ?_
  intro p e s m args below meth c s₁ B hml hv
  obtain ⟨rfl, hbd, hP⟩ := hv
  have hx := B.exec
  have hb := B.bytes
  have hr := B.returns
  have hts := atoms_spec (ws := wsX5_isBelieved) B.pre
  have hown : s.vm.findClass RX5 = some m.cls := findClass_of_methodNamed B.named
  have hlocks := B.notSynchronized
  have hK := hbd.2
  have hP : va_P D vwCl [(oM, .inr (5, [.ref aS, .ref aA, .ref aB, .int (nI kn), .ref aT, .ref aV, .ref aP, .int (nI ln), .int pl, .int wr, .int le, .int on, .int tw])), (aS, .inl (K 0, 360, .inl fS))] s.heap := hP
  have hin5 : ∀ w ∈ wsX50, w ∈ wsX5_isBelieved := by decide +kernel
  have hl := lv_entry ([.ref oM, .int (nI sg), .int (nI j)]) (n := 3) (Nat.le_of_ble_eq_true rfl)
  rw [lg_entry_eq]
  generalize (lg_sl ([.ref oM, .int (nI sg), .int (nI j)]) ++ List.replicate (3 - (lg_sl ([.ref oM, .int (nI sg), .int (nI j)])).length) Slot.unset).toArray = ls at hl ⊢
  have hl : lv_has ls 3 [(0, .ref oM), (1, .int (nI sg)), (2, .int (nI j))] := hl
  refine lv_aload_n hx hb dX5_isBelieved_0 rfl (lv_at hl 0 rfl) ?_
  refine va_get (D := D) (ci := 5) (v := .ref aS) (C := RX5) (T := TX5) (N := 13) hx hb hts hin5 hown hK hP 0 rfl rfl 0 (by decide) (hts _ (List.mem_of_getElem? (i := 1) rfl)) (fun _ h9 => h9) rfl dX5_isBelieved_1 ?_
  refine lv_bipush (v := 8) hx hb dX5_isBelieved_4 (by decide) ?_
  refine lv_iload_n hx hb dX5_isBelieved_6 rfl (lv_at hl 2 rfl) ?_
  refine lv_iadd hx hb dX5_isBelieved_7 ?_
  refine st1 (nI_add 8 j) ?_
  refine n_iald hx hb hK hP 1 0 rfl rfl (8 + j) (by omega) (by decide) dX5_isBelieved_8 ?_
  refine lv_if_le (tgt := 25) hx hb dX5_isBelieved_9 (by decide) (fun c_1 => ?_) (fun c_1 => ?_)
  · skip
    refine lv_iconst (v := 0) hx hb dX5_isBelieved_25 (by decide) ?_
    exact W.zret hx hb hr rfl (fun t ht hW => ⟨_, rfl, (by unfold r_X5_isBelieved; rw [if_pos c_1]), ht⟩) (fun q hq => absurd hq List.not_mem_nil) dX5_isBelieved_26
  · skip
    refine lv_aload_n hx hb dX5_isBelieved_12 rfl (lv_at hl 0 rfl) ?_
    refine lv_iload_n hx hb dX5_isBelieved_13 rfl (lv_at hl 1 rfl) ?_
    refine lv_iload_n hx hb dX5_isBelieved_14 rfl (lv_at hl 2 rfl) ?_
    have hPc := hP.sub (ws' := [(oM, .inr (5, [.ref aS, .ref aA, .ref aB, .int (nI kn), .ref aT, .ref aV, .ref aP, .int (nI ln), .int pl, .int wr, .int le, .int on, .int tw])), (aS, .inl (K 0, 360, .inl fS))]) [0, 1] rfl
    refine vp_callSi (va_Run.run (va_runV (As := [.int (nI sg), .int (nI j)]) (rest := []) ⟨hx, hb, hml, hown, hts⟩ (c_X5_reason l D K oM aS aA aB aT aV aP fS kn ln pl wr le on tw sg j (by omega) (by omega)) (cwV 2 hts gX5_isBelieved_X5_reason rfl rfl rfl (by decide +kernel) ⟨Nat.le_of_ble_eq_true rfl, Nat.le_of_ble_eq_true rfl⟩) (pre_rd hbd hPc (ci := 5) (q0 := 0) rfl rfl) rfl rfl hl.1 rfl (lv_room (Nat.le_of_ble_eq_true rfl)) dX5_isBelieved_15 ⟨Nat.zero_le _, Nat.zero_le _⟩)) (fun r_2 hr_2 => ?_)
    subst hr_2
    refine lv_if_ne (tgt := 25) hx hb dX5_isBelieved_18 (by decide) (fun c_3 => ?_) (fun c_3 => ?_)
    · skip
      refine lv_iconst (v := 0) hx hb dX5_isBelieved_25 (by decide) ?_
      exact W.zret hx hb hr rfl (fun t ht hW => ⟨_, rfl, (by unfold r_X5_isBelieved; rw [if_neg c_1, if_neg c_3]), ht⟩) (fun q hq => absurd hq List.not_mem_nil) dX5_isBelieved_26
    · skip
      refine lv_iconst (v := 1) hx hb dX5_isBelieved_21 (by decide) ?_
      refine lv_goto (tgt := 26) hx hb dX5_isBelieved_22 (by decide) ?_
      exact W.zret hx hb hr rfl (fun t ht hW => ⟨_, rfl, (by unfold r_X5_isBelieved; rw [if_neg c_1, if_pos c_3]), ht⟩) (fun q hq => absurd hq List.not_mem_nil) dX5_isBelieved_26
def r_X5_isLost (fS : Nat → Int32) (j : Nat) : Int32 := (if (fS (8 + j)) ≤ 0 then 0 else (if (r_X5_isBelieved fS 0 j) = 0 then (if (r_X5_isBelieved fS 1 j) = 0 then 1 else 0) else 0))
theorem z_r_X5_isLost {fS : Nat → Int32} {j : Nat} : narrow .boolean (.int (r_X5_isLost fS j)) = .int (r_X5_isLost fS j) := by
  unfold r_X5_isLost
  repeat' split
  all_goals first | with_reducible exact zl0 | with_reducible exact zl1
set_option maxHeartbeats 4000000 in
set_option maxRecDepth 100000 in
theorem c_X5_isLost (l : Launch) (D : va_G) (K : Nat → ClassId) (oM : Nat) (aS : Nat) (aA : Nat) (aB : Nat) (aT : Nat) (aV : Nat) (aP : Nat) (fS : Nat → Int32) (kn : Nat) (ln : Nat) (pl : Int32) (wr : Int32) (le : Int32) (on : Int32) (tw : Int32) (j : Nat) (hj : j < 32) : Met l yX5_isLost wsX5_isLost ({ frames := 4, cells := 0, slots := 0, locals := 89 }) (va_Pc [.ref oM, .int (nI j)] (fun U => Bd D K U ∧ va_P D vwCl [(oM, .inr (5, [.ref aS, .ref aA, .ref aB, .int (nI kn), .ref aT, .ref aV, .ref aP, .int (nI ln), .int pl, .int wr, .int le, .int on, .int tw])), (aS, .inl (K 0, 360, .inl fS))] U.heap)) (vp_Si (fun r => r = (r_X5_isLost fS j))) 0 0 (fun _ => False) := by
  refine Met.ofW (cc := cX5_isLost) (maxL := 2) (ret := (some .boolean)) (by decide) rfl ?_
  intro p e s m args below meth c s₁ B hml hv
  obtain ⟨rfl, hbd, hP⟩ := hv
  have hx := B.exec
  have hb := B.bytes
  have hr := B.returns
  have hts := atoms_spec (ws := wsX5_isLost) B.pre
  have hown : s.vm.findClass RX5 = some m.cls := findClass_of_methodNamed B.named
  have hlocks := B.notSynchronized
  have hK := hbd.2
  have hP : va_P D vwCl [(oM, .inr (5, [.ref aS, .ref aA, .ref aB, .int (nI kn), .ref aT, .ref aV, .ref aP, .int (nI ln), .int pl, .int wr, .int le, .int on, .int tw])), (aS, .inl (K 0, 360, .inl fS))] s.heap := hP
  have hin5 : ∀ w ∈ wsX50, w ∈ wsX5_isLost := by decide +kernel
  have hl := lv_entry ([.ref oM, .int (nI j)]) (n := 2) (Nat.le_of_ble_eq_true rfl)
  rw [lg_entry_eq]
  generalize (lg_sl ([.ref oM, .int (nI j)]) ++ List.replicate (2 - (lg_sl ([.ref oM, .int (nI j)])).length) Slot.unset).toArray = ls at hl ⊢
  have hl : lv_has ls 2 [(0, .ref oM), (1, .int (nI j))] := hl
  refine lv_aload_n hx hb dX5_isLost_0 rfl (lv_at hl 0 rfl) ?_
  refine va_get (D := D) (ci := 5) (v := .ref aS) (C := RX5) (T := TX5) (N := 13) hx hb hts hin5 hown hK hP 0 rfl rfl 0 (by decide) (hts _ (List.mem_of_getElem? (i := 1) rfl)) (fun _ h9 => h9) rfl dX5_isLost_1 ?_
  refine lv_bipush (v := 8) hx hb dX5_isLost_4 (by decide) ?_
  refine lv_iload_n hx hb dX5_isLost_6 rfl (lv_at hl 1 rfl) ?_
  refine lv_iadd hx hb dX5_isLost_7 ?_
  refine st1 (nI_add 8 j) ?_
  refine n_iald hx hb hK hP 1 0 rfl rfl (8 + j) (by omega) (by decide) dX5_isLost_8 ?_
  refine lv_if_le (tgt := 34) hx hb dX5_isLost_9 (by decide) (fun c_1 => ?_) (fun c_1 => ?_)
  · skip
    refine lv_iconst (v := 0) hx hb dX5_isLost_34 (by decide) ?_
    exact W.zret hx hb hr rfl (fun t ht hW => ⟨_, rfl, (by unfold r_X5_isLost; rw [if_pos c_1]), ht⟩) (fun q hq => absurd hq List.not_mem_nil) dX5_isLost_35
  · skip
    refine lv_aload_n hx hb dX5_isLost_12 rfl (lv_at hl 0 rfl) ?_
    refine lv_iconst (v := 0) hx hb dX5_isLost_13 (by decide) ?_
    refine lv_iload_n hx hb dX5_isLost_14 rfl (lv_at hl 1 rfl) ?_
    have hPc := hP.sub (ws' := [(oM, .inr (5, [.ref aS, .ref aA, .ref aB, .int (nI kn), .ref aT, .ref aV, .ref aP, .int (nI ln), .int pl, .int wr, .int le, .int on, .int tw])), (aS, .inl (K 0, 360, .inl fS))]) [0, 1] rfl
    refine vp_callSi (va_Run.run (va_runV (As := [.int 0, .int (nI j)]) (rest := []) ⟨hx, hb, hml, hown, hts⟩ (c_X5_isBelieved l D K oM aS aA aB aT aV aP fS kn ln pl wr le on tw 0 j (by omega) (by omega)) (cwV 2 hts gX5_isLost_X5_isBelieved rfl rfl rfl (by decide +kernel) ⟨Nat.le_of_ble_eq_true rfl, Nat.le_of_ble_eq_true rfl⟩) (pre_rd hbd hPc (ci := 5) (q0 := 0) rfl rfl) rfl rfl hl.1 rfl (lv_room (Nat.le_of_ble_eq_true rfl)) dX5_isLost_15 ⟨Nat.zero_le _, Nat.zero_le _⟩)) (fun r_2 hr_2 => ?_)
    subst hr_2
    refine lv_if_ne (tgt := 34) hx hb dX5_isLost_18 (by decide) (fun c_3 => ?_) (fun c_3 => ?_)
    · skip
      refine lv_iconst (v := 0) hx hb dX5_isLost_34 (by decide) ?_
      exact W.zret hx hb hr rfl (fun t ht hW => ⟨_, rfl, (by unfold r_X5_isLost; rw [if_neg c_1, if_neg c_3]), ht⟩) (fun q hq => absurd hq List.not_mem_nil) dX5_isLost_35
    · skip
      refine lv_aload_n hx hb dX5_isLost_21 rfl (lv_at hl 0 rfl) ?_
      refine lv_iconst (v := 1) hx hb dX5_isLost_22 (by decide) ?_
      refine lv_iload_n hx hb dX5_isLost_23 rfl (lv_at hl 1 rfl) ?_
      have hPc := hP.sub (ws' := [(oM, .inr (5, [.ref aS, .ref aA, .ref aB, .int (nI kn), .ref aT, .ref aV, .ref aP, .int (nI ln), .int pl, .int wr, .int le, .int on, .int tw])), (aS, .inl (K 0, 360, .inl fS))]) [0, 1] rfl
      refine vp_callSi (va_Run.run (va_runV (As := [.int 1, .int (nI j)]) (rest := []) ⟨hx, hb, hml, hown, hts⟩ (c_X5_isBelieved l D K oM aS aA aB aT aV aP fS kn ln pl wr le on tw 1 j (by omega) (by omega)) (cwV 2 hts gX5_isLost_X5_isBelieved rfl rfl rfl (by decide +kernel) ⟨Nat.le_of_ble_eq_true rfl, Nat.le_of_ble_eq_true rfl⟩) (pre_rd hbd hPc (ci := 5) (q0 := 0) rfl rfl) rfl rfl hl.1 rfl (lv_room (Nat.le_of_ble_eq_true rfl)) dX5_isLost_24 ⟨Nat.zero_le _, Nat.zero_le _⟩)) (fun r_4 hr_4 => ?_)
      subst hr_4
      refine lv_if_ne (tgt := 34) hx hb dX5_isLost_27 (by decide) (fun c_5 => ?_) (fun c_5 => ?_)
      · skip
        refine lv_iconst (v := 0) hx hb dX5_isLost_34 (by decide) ?_
        exact W.zret hx hb hr rfl (fun t ht hW => ⟨_, rfl, (by unfold r_X5_isLost; rw [if_neg c_1, if_pos c_3, if_neg c_5]), ht⟩) (fun q hq => absurd hq List.not_mem_nil) dX5_isLost_35
      · skip
        refine lv_iconst (v := 1) hx hb dX5_isLost_30 (by decide) ?_
        refine lv_goto (tgt := 35) hx hb dX5_isLost_31 (by decide) ?_
        exact W.zret hx hb hr rfl (fun t ht hW => ⟨_, rfl, (by unfold r_X5_isLost; rw [if_neg c_1, if_pos c_3, if_pos c_5]), ht⟩) (fun q hq => absurd hq List.not_mem_nil) dX5_isLost_35
def r_X5_canMend (fS : Nat → Int32) (j : Nat) : Int32 := (if (r_X5_isBelieved fS 0 j) = (r_X5_isBelieved fS 1 j) then 0 else 1)
theorem z_r_X5_canMend {fS : Nat → Int32} {j : Nat} : narrow .boolean (.int (r_X5_canMend fS j)) = .int (r_X5_canMend fS j) := by
  unfold r_X5_canMend
  repeat' split
  all_goals first | with_reducible exact zl0 | with_reducible exact zl1
set_option maxHeartbeats 4000000 in
set_option maxRecDepth 100000 in
theorem c_X5_canMend (l : Launch) (D : va_G) (K : Nat → ClassId) (oM : Nat) (aS : Nat) (aA : Nat) (aB : Nat) (aT : Nat) (aV : Nat) (aP : Nat) (fS : Nat → Int32) (kn : Nat) (ln : Nat) (pl : Int32) (wr : Int32) (le : Int32) (on : Int32) (tw : Int32) (j : Nat) (hj : j < 32) : Met l yX5_canMend wsX5_canMend ({ frames := 4, cells := 0, slots := 0, locals := 89 }) (va_Pc [.ref oM, .int (nI j)] (fun U => Bd D K U ∧ va_P D vwCl [(oM, .inr (5, [.ref aS, .ref aA, .ref aB, .int (nI kn), .ref aT, .ref aV, .ref aP, .int (nI ln), .int pl, .int wr, .int le, .int on, .int tw])), (aS, .inl (K 0, 360, .inl fS))] U.heap)) (vp_Si (fun r => r = (r_X5_canMend fS j))) 0 0 (fun _ => False) := by
  refine Met.ofW (cc := cX5_canMend) (maxL := 2) (ret := (some .boolean)) (by decide) rfl ?_
  intro p e s m args below meth c s₁ B hml hv
  obtain ⟨rfl, hbd, hP⟩ := hv
  have hx := B.exec
  have hb := B.bytes
  have hr := B.returns
  have hts := atoms_spec (ws := wsX5_canMend) B.pre
  have hown : s.vm.findClass RX5 = some m.cls := findClass_of_methodNamed B.named
  have hlocks := B.notSynchronized
  have hK := hbd.2
  have hP : va_P D vwCl [(oM, .inr (5, [.ref aS, .ref aA, .ref aB, .int (nI kn), .ref aT, .ref aV, .ref aP, .int (nI ln), .int pl, .int wr, .int le, .int on, .int tw])), (aS, .inl (K 0, 360, .inl fS))] s.heap := hP
  have hl := lv_entry ([.ref oM, .int (nI j)]) (n := 2) (Nat.le_of_ble_eq_true rfl)
  rw [lg_entry_eq]
  generalize (lg_sl ([.ref oM, .int (nI j)]) ++ List.replicate (2 - (lg_sl ([.ref oM, .int (nI j)])).length) Slot.unset).toArray = ls at hl ⊢
  have hl : lv_has ls 2 [(0, .ref oM), (1, .int (nI j))] := hl
  refine lv_aload_n hx hb dX5_canMend_0 rfl (lv_at hl 0 rfl) ?_
  refine lv_iconst (v := 0) hx hb dX5_canMend_1 (by decide) ?_
  refine lv_iload_n hx hb dX5_canMend_2 rfl (lv_at hl 1 rfl) ?_
  have hPc := hP.sub (ws' := [(oM, .inr (5, [.ref aS, .ref aA, .ref aB, .int (nI kn), .ref aT, .ref aV, .ref aP, .int (nI ln), .int pl, .int wr, .int le, .int on, .int tw])), (aS, .inl (K 0, 360, .inl fS))]) [0, 1] rfl
  refine vp_callSi (va_Run.run (va_runV (As := [.int 0, .int (nI j)]) (rest := []) ⟨hx, hb, hml, hown, hts⟩ (c_X5_isBelieved l D K oM aS aA aB aT aV aP fS kn ln pl wr le on tw 0 j (by omega) (by omega)) (cwV 2 hts gX5_canMend_X5_isBelieved rfl rfl rfl (by decide +kernel) ⟨Nat.le_of_ble_eq_true rfl, Nat.le_of_ble_eq_true rfl⟩) (pre_rd hbd hPc (ci := 5) (q0 := 0) rfl rfl) rfl rfl hl.1 rfl (lv_room (Nat.le_of_ble_eq_true rfl)) dX5_canMend_3 ⟨Nat.zero_le _, Nat.zero_le _⟩)) (fun r_1 hr_1 => ?_)
  subst hr_1
  refine lv_aload_n hx hb dX5_canMend_6 rfl (lv_at hl 0 rfl) ?_
  refine lv_iconst (v := 1) hx hb dX5_canMend_7 (by decide) ?_
  refine lv_iload_n hx hb dX5_canMend_8 rfl (lv_at hl 1 rfl) ?_
  have hPc := hP.sub (ws' := [(oM, .inr (5, [.ref aS, .ref aA, .ref aB, .int (nI kn), .ref aT, .ref aV, .ref aP, .int (nI ln), .int pl, .int wr, .int le, .int on, .int tw])), (aS, .inl (K 0, 360, .inl fS))]) [0, 1] rfl
  refine vp_callSi (va_Run.run (va_runV (As := [.int 1, .int (nI j)]) (rest := [.int (r_X5_isBelieved fS 0 j)]) ⟨hx, hb, hml, hown, hts⟩ (c_X5_isBelieved l D K oM aS aA aB aT aV aP fS kn ln pl wr le on tw 1 j (by omega) (by omega)) (cwV 2 hts gX5_canMend_X5_isBelieved rfl rfl rfl (by decide +kernel) ⟨Nat.le_of_ble_eq_true rfl, Nat.le_of_ble_eq_true rfl⟩) (pre_rd hbd hPc (ci := 5) (q0 := 0) rfl rfl) rfl rfl hl.1 rfl (lv_room (Nat.le_of_ble_eq_true rfl)) dX5_canMend_9 ⟨Nat.zero_le _, Nat.zero_le _⟩)) (fun r_2 hr_2 => ?_)
  subst hr_2
  refine lv_icmp_eq (tgt := 19) hx hb dX5_canMend_12 (by decide) (fun c_3 => ?_) (fun c_3 => ?_)
  · skip
    refine lv_iconst (v := 0) hx hb dX5_canMend_19 (by decide) ?_
    exact W.zret hx hb hr rfl (fun t ht hW => ⟨_, rfl, (by unfold r_X5_canMend; rw [if_pos c_3]), ht⟩) (fun q hq => absurd hq List.not_mem_nil) dX5_canMend_20
  · skip
    refine lv_iconst (v := 1) hx hb dX5_canMend_15 (by decide) ?_
    refine lv_goto (tgt := 20) hx hb dX5_canMend_16 (by decide) ?_
    exact W.zret hx hb hr rfl (fun t ht hW => ⟨_, rfl, (by unfold r_X5_canMend; rw [if_neg c_3]), ht⟩) (fun q hq => absurd hq List.not_mem_nil) dX5_canMend_20
def r_X5_isAstray (fS : Nat → Int32) (sg : Nat) (j : Nat) : Int32 := (if (fS (40 + 160 * sg + 5 * j + 0)) = 1 then (if (fS (40 + 160 * sg + 5 * j + 1)) = (nI j) then 0 else 1) else 0)
theorem z_r_X5_isAstray {fS : Nat → Int32} {sg : Nat} {j : Nat} : narrow .boolean (.int (r_X5_isAstray fS sg j)) = .int (r_X5_isAstray fS sg j) := by
  unfold r_X5_isAstray
  repeat' split
  all_goals first | with_reducible exact zl0 | with_reducible exact zl1
set_option maxHeartbeats 4000000 in
set_option maxRecDepth 100000 in
theorem c_X5_isAstray (l : Launch) (D : va_G) (K : Nat → ClassId) (oM : Nat) (aS : Nat) (aA : Nat) (aB : Nat) (aT : Nat) (aV : Nat) (aP : Nat) (fS : Nat → Int32) (kn : Nat) (ln : Nat) (pl : Int32) (wr : Int32) (le : Int32) (on : Int32) (tw : Int32) (sg : Nat) (j : Nat) (hsg : sg < 2) (hj : j < 32) : Met l yX5_isAstray wsX5_isAstray ({ frames := 1, cells := 0, slots := 0, locals := 22 }) (va_Pc [.ref oM, .int (nI sg), .int (nI j)] (fun U => Bd D K U ∧ va_P D vwCl [(oM, .inr (5, [.ref aS, .ref aA, .ref aB, .int (nI kn), .ref aT, .ref aV, .ref aP, .int (nI ln), .int pl, .int wr, .int le, .int on, .int tw])), (aS, .inl (K 0, 360, .inl fS))] U.heap)) (vp_Si (fun r => r = (r_X5_isAstray fS sg j))) 0 0 (fun _ => False) := by
  refine Met.ofW (cc := cX5_isAstray) (maxL := 3) (ret := (some .boolean)) (by decide) rfl ?_
  intro p e s m args below meth c s₁ B hml hv
  obtain ⟨rfl, hbd, hP⟩ := hv
  have hx := B.exec
  have hb := B.bytes
  have hr := B.returns
  have hts := atoms_spec (ws := wsX5_isAstray) B.pre
  have hown : s.vm.findClass RX5 = some m.cls := findClass_of_methodNamed B.named
  have hlocks := B.notSynchronized
  have hK := hbd.2
  have hP : va_P D vwCl [(oM, .inr (5, [.ref aS, .ref aA, .ref aB, .int (nI kn), .ref aT, .ref aV, .ref aP, .int (nI ln), .int pl, .int wr, .int le, .int on, .int tw])), (aS, .inl (K 0, 360, .inl fS))] s.heap := hP
  have hin5 : ∀ w ∈ wsX50, w ∈ wsX5_isAstray := by decide +kernel
  have hl := lv_entry ([.ref oM, .int (nI sg), .int (nI j)]) (n := 3) (Nat.le_of_ble_eq_true rfl)
  rw [lg_entry_eq]
  generalize (lg_sl ([.ref oM, .int (nI sg), .int (nI j)]) ++ List.replicate (3 - (lg_sl ([.ref oM, .int (nI sg), .int (nI j)])).length) Slot.unset).toArray = ls at hl ⊢
  have hl : lv_has ls 3 [(0, .ref oM), (1, .int (nI sg)), (2, .int (nI j))] := hl
  refine lv_aload_n hx hb dX5_isAstray_0 rfl (lv_at hl 0 rfl) ?_
  refine va_get (D := D) (ci := 5) (v := .ref aS) (C := RX5) (T := TX5) (N := 13) hx hb hts hin5 hown hK hP 0 rfl rfl 0 (by decide) (hts _ (List.mem_of_getElem? (i := 1) rfl)) (fun _ h9 => h9) rfl dX5_isAstray_1 ?_
  refine lv_iload_n hx hb dX5_isAstray_4 rfl (lv_at hl 1 rfl) ?_
  refine lv_iload_n hx hb dX5_isAstray_5 rfl (lv_at hl 2 rfl) ?_
  refine lv_iconst (v := 0) hx hb dX5_isAstray_6 (by decide) ?_
  refine vp_callSi (va_Run.run (va_runS (As := [.int (nI sg), .int (nI j), .int 0]) (rest := [.ref aS]) ⟨hx, hb, hml, hown, hts⟩ (c_X5_of l D K sg j 0 ) (va_cwS 3 hts gX5_isAstray_X5_of rfl rfl rfl (by decide +kernel) ⟨Nat.le_of_ble_eq_true rfl, Nat.le_of_ble_eq_true rfl⟩) pre_s0 rfl rfl hl.1 rfl (lv_room (Nat.le_of_ble_eq_true rfl)) dX5_isAstray_7 ⟨Nat.zero_le _, Nat.zero_le _⟩)) (fun r_1 hr_1 => ?_)
  subst hr_1
  refine n_iald hx hb hK hP 1 0 rfl rfl (40 + 160 * sg + 5 * j + 0) (by omega) (by decide) dX5_isAstray_10 ?_
  refine lv_iconst (v := 1) hx hb dX5_isAstray_11 (by decide) ?_
  refine lv_icmp_ne (tgt := 34) hx hb dX5_isAstray_12 (by decide) (fun c_2 => ?_) (fun c_2 => ?_)
  · skip
    refine lv_iconst (v := 0) hx hb dX5_isAstray_34 (by decide) ?_
    exact W.zret hx hb hr rfl (fun t ht hW => ⟨_, rfl, (by unfold r_X5_isAstray; rw [if_neg c_2]), ht⟩) (fun q hq => absurd hq List.not_mem_nil) dX5_isAstray_35
  · skip
    refine lv_aload_n hx hb dX5_isAstray_15 rfl (lv_at hl 0 rfl) ?_
    refine va_get (D := D) (ci := 5) (v := .ref aS) (C := RX5) (T := TX5) (N := 13) hx hb hts hin5 hown hK hP 0 rfl rfl 0 (by decide) (hts _ (List.mem_of_getElem? (i := 1) rfl)) (fun _ h9 => h9) rfl dX5_isAstray_16 ?_
    refine lv_iload_n hx hb dX5_isAstray_19 rfl (lv_at hl 1 rfl) ?_
    refine lv_iload_n hx hb dX5_isAstray_20 rfl (lv_at hl 2 rfl) ?_
    refine lv_iconst (v := 1) hx hb dX5_isAstray_21 (by decide) ?_
    refine vp_callSi (va_Run.run (va_runS (As := [.int (nI sg), .int (nI j), .int 1]) (rest := [.ref aS]) ⟨hx, hb, hml, hown, hts⟩ (c_X5_of l D K sg j 1 ) (va_cwS 3 hts gX5_isAstray_X5_of rfl rfl rfl (by decide +kernel) ⟨Nat.le_of_ble_eq_true rfl, Nat.le_of_ble_eq_true rfl⟩) pre_s0 rfl rfl hl.1 rfl (lv_room (Nat.le_of_ble_eq_true rfl)) dX5_isAstray_22 ⟨Nat.zero_le _, Nat.zero_le _⟩)) (fun r_3 hr_3 => ?_)
    subst hr_3
    refine n_iald hx hb hK hP 1 0 rfl rfl (40 + 160 * sg + 5 * j + 1) (by omega) (by decide) dX5_isAstray_25 ?_
    refine lv_iload_n hx hb dX5_isAstray_26 rfl (lv_at hl 2 rfl) ?_
    refine lv_icmp_eq (tgt := 34) hx hb dX5_isAstray_27 (by decide) (fun c_4 => ?_) (fun c_4 => ?_)
    · skip
      refine lv_iconst (v := 0) hx hb dX5_isAstray_34 (by decide) ?_
      exact W.zret hx hb hr rfl (fun t ht hW => ⟨_, rfl, (by unfold r_X5_isAstray; rw [if_pos c_2, if_pos c_4]), ht⟩) (fun q hq => absurd hq List.not_mem_nil) dX5_isAstray_35
    · skip
      refine lv_iconst (v := 1) hx hb dX5_isAstray_30 (by decide) ?_
      refine lv_goto (tgt := 35) hx hb dX5_isAstray_31 (by decide) ?_
      exact W.zret hx hb hr rfl (fun t ht hW => ⟨_, rfl, (by unfold r_X5_isAstray; rw [if_pos c_2, if_neg c_4]), ht⟩) (fun q hq => absurd hq List.not_mem_nil) dX5_isAstray_35
def r_X5_isSo (fS : Nat → Int32) (j : Nat) (xw : Int32) : Int32 := (if xw = 0 then (if (fS (8 + j)) ≤ 0 then 0 else 1) else (if xw = 1 then (r_X5_isBelieved fS 0 j) else (if xw = 2 then (r_X5_isBelieved fS 1 j) else (if xw = 3 then (r_X5_isLost fS j) else (if xw = 4 then (r_X5_canMend fS j) else (if (r_X5_isAstray fS 0 j) = 0 then (if (r_X5_isAstray fS 1 j) = 0 then 0 else 1) else 1))))))
theorem z_r_X5_isSo {fS : Nat → Int32} {j : Nat} {xw : Int32} : narrow .boolean (.int (r_X5_isSo fS j xw)) = .int (r_X5_isSo fS j xw) := by
  unfold r_X5_isSo
  repeat' split
  all_goals first | with_reducible exact zl0 | with_reducible exact zl1 | with_reducible exact z_r_X5_canMend | with_reducible exact z_r_X5_isBelieved | with_reducible exact z_r_X5_isLost
set_option maxHeartbeats 4000000 in
set_option maxRecDepth 100000 in
theorem c_X5_isSo (l : Launch) (D : va_G) (K : Nat → ClassId) (oM : Nat) (aS : Nat) (aA : Nat) (aB : Nat) (aT : Nat) (aV : Nat) (aP : Nat) (fS : Nat → Int32) (kn : Nat) (ln : Nat) (pl : Int32) (wr : Int32) (le : Int32) (on : Int32) (tw : Int32) (j : Nat) (xw : Int32) (hj : j < 32) : Met l yX5_isSo wsX5_isSo ({ frames := 5, cells := 0, slots := 0, locals := 110 }) (va_Pc [.ref oM, .int (nI j), .int xw] (fun U => Bd D K U ∧ va_P D vwCl [(oM, .inr (5, [.ref aS, .ref aA, .ref aB, .int (nI kn), .ref aT, .ref aV, .ref aP, .int (nI ln), .int pl, .int wr, .int le, .int on, .int tw])), (aS, .inl (K 0, 360, .inl fS))] U.heap)) (vp_Si (fun r => r = (r_X5_isSo fS j xw))) 0 0 (fun _ => False) := by
  refine Met.ofW (cc := cX5_isSo) (maxL := 3) (ret := (some .boolean)) (by decide) rfl ?_
  intro p e s m args below meth c s₁ B hml hv
  obtain ⟨rfl, hbd, hP⟩ := hv
  have hx := B.exec
  have hb := B.bytes
  have hr := B.returns
  have hts := atoms_spec (ws := wsX5_isSo) B.pre
  have hown : s.vm.findClass RX5 = some m.cls := findClass_of_methodNamed B.named
  have hlocks := B.notSynchronized
  have hK := hbd.2
  have hP : va_P D vwCl [(oM, .inr (5, [.ref aS, .ref aA, .ref aB, .int (nI kn), .ref aT, .ref aV, .ref aP, .int (nI ln), .int pl, .int wr, .int le, .int on, .int tw])), (aS, .inl (K 0, 360, .inl fS))] s.heap := hP
  have hin5 : ∀ w ∈ wsX50, w ∈ wsX5_isSo := by decide +kernel
  have hl := lv_entry ([.ref oM, .int (nI j), .int xw]) (n := 3) (Nat.le_of_ble_eq_true rfl)
  rw [lg_entry_eq]
  generalize (lg_sl ([.ref oM, .int (nI j), .int xw]) ++ List.replicate (3 - (lg_sl ([.ref oM, .int (nI j), .int xw])).length) Slot.unset).toArray = ls at hl ⊢
  have hl : lv_has ls 3 [(0, .ref oM), (1, .int (nI j)), (2, .int xw)] := hl
  refine lv_iload_n hx hb dX5_isSo_0 rfl (lv_at hl 2 rfl) ?_
  refine byc (P := xw = 0) (fun c_1 => ?_) (fun c_1 => ?_)
  · skip
    refine lv_tableIn (off := 35) (tgt := 36) hx hb dX5_isSo_1 (by rw [c_1]; decide) (by rw [c_1]; decide) (by rw [c_1]; rfl) (by decide) ?_
    refine lv_aload_n hx hb dX5_isSo_36 rfl (lv_at hl 0 rfl) ?_
    refine va_get (D := D) (ci := 5) (v := .ref aS) (C := RX5) (T := TX5) (N := 13) hx hb hts hin5 hown hK hP 0 rfl rfl 0 (by decide) (hts _ (List.mem_of_getElem? (i := 1) rfl)) (fun _ h9 => h9) rfl dX5_isSo_37 ?_
    refine lv_bipush (v := 8) hx hb dX5_isSo_40 (by decide) ?_
    refine lv_iload_n hx hb dX5_isSo_42 rfl (lv_at hl 1 rfl) ?_
    refine lv_iadd hx hb dX5_isSo_43 ?_
    refine st1 (nI_add 8 j) ?_
    refine n_iald hx hb hK hP 1 0 rfl rfl (8 + j) (by omega) (by decide) dX5_isSo_44 ?_
    refine lv_if_le (tgt := 52) hx hb dX5_isSo_45 (by decide) (fun c_2 => ?_) (fun c_2 => ?_)
    · skip
      refine lv_iconst (v := 0) hx hb dX5_isSo_52 (by decide) ?_
      exact W.zret hx hb hr rfl (fun t ht hW => ⟨_, rfl, (by unfold r_X5_isSo; rw [if_pos c_1, if_pos c_2]), ht⟩) (fun q hq => absurd hq List.not_mem_nil) dX5_isSo_53
    · skip
      refine lv_iconst (v := 1) hx hb dX5_isSo_48 (by decide) ?_
      refine lv_goto (tgt := 53) hx hb dX5_isSo_49 (by decide) ?_
      exact W.zret hx hb hr rfl (fun t ht hW => ⟨_, rfl, (by unfold r_X5_isSo; rw [if_pos c_1, if_neg c_2]), ht⟩) (fun q hq => absurd hq List.not_mem_nil) dX5_isSo_53
  · skip
    refine byc (P := xw = 1) (fun c_3 => ?_) (fun c_3 => ?_)
    · skip
      refine lv_tableIn (off := 53) (tgt := 54) hx hb dX5_isSo_1 (by rw [c_3]; decide) (by rw [c_3]; decide) (by rw [c_3]; rfl) (by decide) ?_
      refine lv_aload_n hx hb dX5_isSo_54 rfl (lv_at hl 0 rfl) ?_
      refine lv_iload_n hx hb dX5_isSo_55 rfl (lv_at hl 2 rfl) ?_
      refine lv_iconst (v := 1) hx hb dX5_isSo_56 (by decide) ?_
      refine lv_isub hx hb dX5_isSo_57 ?_
      refine st1 (y := 0) (by rw [c_3]; rfl) ?_
      refine lv_iload_n hx hb dX5_isSo_58 rfl (lv_at hl 1 rfl) ?_
      have hPc := hP.sub (ws' := [(oM, .inr (5, [.ref aS, .ref aA, .ref aB, .int (nI kn), .ref aT, .ref aV, .ref aP, .int (nI ln), .int pl, .int wr, .int le, .int on, .int tw])), (aS, .inl (K 0, 360, .inl fS))]) [0, 1] rfl
      refine vp_callSi (va_Run.run (va_runV (As := [.int 0, .int (nI j)]) (rest := []) ⟨hx, hb, hml, hown, hts⟩ (c_X5_isBelieved l D K oM aS aA aB aT aV aP fS kn ln pl wr le on tw 0 j (by omega) (by omega)) (cwV 2 hts gX5_isSo_X5_isBelieved rfl rfl rfl (by decide +kernel) ⟨Nat.le_of_ble_eq_true rfl, Nat.le_of_ble_eq_true rfl⟩) (pre_rd hbd hPc (ci := 5) (q0 := 0) rfl rfl) rfl rfl hl.1 rfl (lv_room (Nat.le_of_ble_eq_true rfl)) dX5_isSo_59 ⟨Nat.zero_le _, Nat.zero_le _⟩)) (fun r_4 hr_4 => ?_)
      subst hr_4
      exact W.zret hx hb hr z_r_X5_isBelieved (fun t ht hW => ⟨_, rfl, (by unfold r_X5_isSo; rw [if_neg c_1, if_pos c_3]), ht⟩) (fun q hq => absurd hq List.not_mem_nil) dX5_isSo_62
    · skip
      refine byc (P := xw = 2) (fun c_5 => ?_) (fun c_5 => ?_)
      · skip
        refine lv_tableIn (off := 53) (tgt := 54) hx hb dX5_isSo_1 (by rw [c_5]; decide) (by rw [c_5]; decide) (by rw [c_5]; rfl) (by decide) ?_
        refine lv_aload_n hx hb dX5_isSo_54 rfl (lv_at hl 0 rfl) ?_
        refine lv_iload_n hx hb dX5_isSo_55 rfl (lv_at hl 2 rfl) ?_
        refine lv_iconst (v := 1) hx hb dX5_isSo_56 (by decide) ?_
        refine lv_isub hx hb dX5_isSo_57 ?_
        refine st1 (y := 1) (by rw [c_5]; rfl) ?_
        refine lv_iload_n hx hb dX5_isSo_58 rfl (lv_at hl 1 rfl) ?_
        have hPc := hP.sub (ws' := [(oM, .inr (5, [.ref aS, .ref aA, .ref aB, .int (nI kn), .ref aT, .ref aV, .ref aP, .int (nI ln), .int pl, .int wr, .int le, .int on, .int tw])), (aS, .inl (K 0, 360, .inl fS))]) [0, 1] rfl
        refine vp_callSi (va_Run.run (va_runV (As := [.int 1, .int (nI j)]) (rest := []) ⟨hx, hb, hml, hown, hts⟩ (c_X5_isBelieved l D K oM aS aA aB aT aV aP fS kn ln pl wr le on tw 1 j (by omega) (by omega)) (cwV 2 hts gX5_isSo_X5_isBelieved rfl rfl rfl (by decide +kernel) ⟨Nat.le_of_ble_eq_true rfl, Nat.le_of_ble_eq_true rfl⟩) (pre_rd hbd hPc (ci := 5) (q0 := 0) rfl rfl) rfl rfl hl.1 rfl (lv_room (Nat.le_of_ble_eq_true rfl)) dX5_isSo_59 ⟨Nat.zero_le _, Nat.zero_le _⟩)) (fun r_6 hr_6 => ?_)
        subst hr_6
        exact W.zret hx hb hr z_r_X5_isBelieved (fun t ht hW => ⟨_, rfl, (by unfold r_X5_isSo; rw [if_neg c_1, if_neg c_3, if_pos c_5]), ht⟩) (fun q hq => absurd hq List.not_mem_nil) dX5_isSo_62
      · skip
        refine byc (P := xw = 3) (fun c_7 => ?_) (fun c_7 => ?_)
        · skip
          refine lv_tableIn (off := 62) (tgt := 63) hx hb dX5_isSo_1 (by rw [c_7]; decide) (by rw [c_7]; decide) (by rw [c_7]; rfl) (by decide) ?_
          refine lv_aload_n hx hb dX5_isSo_63 rfl (lv_at hl 0 rfl) ?_
          refine lv_iload_n hx hb dX5_isSo_64 rfl (lv_at hl 1 rfl) ?_
          have hPc := hP.sub (ws' := [(oM, .inr (5, [.ref aS, .ref aA, .ref aB, .int (nI kn), .ref aT, .ref aV, .ref aP, .int (nI ln), .int pl, .int wr, .int le, .int on, .int tw])), (aS, .inl (K 0, 360, .inl fS))]) [0, 1] rfl
          refine vp_callSi (va_Run.run (va_runV (As := [.int (nI j)]) (rest := []) ⟨hx, hb, hml, hown, hts⟩ (c_X5_isLost l D K oM aS aA aB aT aV aP fS kn ln pl wr le on tw j (by omega)) (cwV 1 hts gX5_isSo_X5_isLost rfl rfl rfl (by decide +kernel) ⟨Nat.le_of_ble_eq_true rfl, Nat.le_of_ble_eq_true rfl⟩) (pre_rd hbd hPc (ci := 5) (q0 := 0) rfl rfl) rfl rfl hl.1 rfl (lv_room (Nat.le_of_ble_eq_true rfl)) dX5_isSo_65 ⟨Nat.zero_le _, Nat.zero_le _⟩)) (fun r_8 hr_8 => ?_)
          subst hr_8
          exact W.zret hx hb hr z_r_X5_isLost (fun t ht hW => ⟨_, rfl, (by unfold r_X5_isSo; rw [if_neg c_1, if_neg c_3, if_neg c_5, if_pos c_7]), ht⟩) (fun q hq => absurd hq List.not_mem_nil) dX5_isSo_68
        · skip
          refine byc (P := xw = 4) (fun c_9 => ?_) (fun c_9 => ?_)
          · skip
            refine lv_tableIn (off := 68) (tgt := 69) hx hb dX5_isSo_1 (by rw [c_9]; decide) (by rw [c_9]; decide) (by rw [c_9]; rfl) (by decide) ?_
            refine lv_aload_n hx hb dX5_isSo_69 rfl (lv_at hl 0 rfl) ?_
            refine lv_iload_n hx hb dX5_isSo_70 rfl (lv_at hl 1 rfl) ?_
            have hPc := hP.sub (ws' := [(oM, .inr (5, [.ref aS, .ref aA, .ref aB, .int (nI kn), .ref aT, .ref aV, .ref aP, .int (nI ln), .int pl, .int wr, .int le, .int on, .int tw])), (aS, .inl (K 0, 360, .inl fS))]) [0, 1] rfl
            refine vp_callSi (va_Run.run (va_runV (As := [.int (nI j)]) (rest := []) ⟨hx, hb, hml, hown, hts⟩ (c_X5_canMend l D K oM aS aA aB aT aV aP fS kn ln pl wr le on tw j (by omega)) (cwV 1 hts gX5_isSo_X5_canMend rfl rfl rfl (by decide +kernel) ⟨Nat.le_of_ble_eq_true rfl, Nat.le_of_ble_eq_true rfl⟩) (pre_rd hbd hPc (ci := 5) (q0 := 0) rfl rfl) rfl rfl hl.1 rfl (lv_room (Nat.le_of_ble_eq_true rfl)) dX5_isSo_71 ⟨Nat.zero_le _, Nat.zero_le _⟩)) (fun r_10 hr_10 => ?_)
            subst hr_10
            exact W.zret hx hb hr z_r_X5_canMend (fun t ht hW => ⟨_, rfl, (by unfold r_X5_isSo; rw [if_neg c_1, if_neg c_3, if_neg c_5, if_neg c_7, if_pos c_9]), ht⟩) (fun q hq => absurd hq List.not_mem_nil) dX5_isSo_74
          · skip
            refine lv_tableOut (tgt := 75) hx hb dX5_isSo_1 (by have g0 := lv_neT (a := 0) c_1 (by decide); have g1 := lv_neT (a := 1) c_3 (by decide); have g2 := lv_neT (a := 2) c_5 (by decide); have g3 := lv_neT (a := 3) c_7 (by decide); have g4 := lv_neT (a := 4) c_9 (by decide); omega) (by decide) ?_
            refine lv_aload_n hx hb dX5_isSo_75 rfl (lv_at hl 0 rfl) ?_
            refine lv_iconst (v := 0) hx hb dX5_isSo_76 (by decide) ?_
            refine lv_iload_n hx hb dX5_isSo_77 rfl (lv_at hl 1 rfl) ?_
            have hPc := hP.sub (ws' := [(oM, .inr (5, [.ref aS, .ref aA, .ref aB, .int (nI kn), .ref aT, .ref aV, .ref aP, .int (nI ln), .int pl, .int wr, .int le, .int on, .int tw])), (aS, .inl (K 0, 360, .inl fS))]) [0, 1] rfl
            refine vp_callSi (va_Run.run (va_runV (As := [.int 0, .int (nI j)]) (rest := []) ⟨hx, hb, hml, hown, hts⟩ (c_X5_isAstray l D K oM aS aA aB aT aV aP fS kn ln pl wr le on tw 0 j (by omega) (by omega)) (cwV 2 hts gX5_isSo_X5_isAstray rfl rfl rfl (by decide +kernel) ⟨Nat.le_of_ble_eq_true rfl, Nat.le_of_ble_eq_true rfl⟩) (pre_rd hbd hPc (ci := 5) (q0 := 0) rfl rfl) rfl rfl hl.1 rfl (lv_room (Nat.le_of_ble_eq_true rfl)) dX5_isSo_78 ⟨Nat.zero_le _, Nat.zero_le _⟩)) (fun r_11 hr_11 => ?_)
            subst hr_11
            refine lv_if_ne (tgt := 93) hx hb dX5_isSo_81 (by decide) (fun c_12 => ?_) (fun c_12 => ?_)
            · skip
              refine lv_iconst (v := 1) hx hb dX5_isSo_93 (by decide) ?_
              refine lv_goto (tgt := 98) hx hb dX5_isSo_94 (by decide) ?_
              exact W.zret hx hb hr rfl (fun t ht hW => ⟨_, rfl, (by unfold r_X5_isSo; rw [if_neg c_1, if_neg c_3, if_neg c_5, if_neg c_7, if_neg c_9, if_neg c_12]), ht⟩) (fun q hq => absurd hq List.not_mem_nil) dX5_isSo_98
            · skip
              refine lv_aload_n hx hb dX5_isSo_84 rfl (lv_at hl 0 rfl) ?_
              refine lv_iconst (v := 1) hx hb dX5_isSo_85 (by decide) ?_
              refine lv_iload_n hx hb dX5_isSo_86 rfl (lv_at hl 1 rfl) ?_
              have hPc := hP.sub (ws' := [(oM, .inr (5, [.ref aS, .ref aA, .ref aB, .int (nI kn), .ref aT, .ref aV, .ref aP, .int (nI ln), .int pl, .int wr, .int le, .int on, .int tw])), (aS, .inl (K 0, 360, .inl fS))]) [0, 1] rfl
              refine vp_callSi (va_Run.run (va_runV (As := [.int 1, .int (nI j)]) (rest := []) ⟨hx, hb, hml, hown, hts⟩ (c_X5_isAstray l D K oM aS aA aB aT aV aP fS kn ln pl wr le on tw 1 j (by omega) (by omega)) (cwV 2 hts gX5_isSo_X5_isAstray rfl rfl rfl (by decide +kernel) ⟨Nat.le_of_ble_eq_true rfl, Nat.le_of_ble_eq_true rfl⟩) (pre_rd hbd hPc (ci := 5) (q0 := 0) rfl rfl) rfl rfl hl.1 rfl (lv_room (Nat.le_of_ble_eq_true rfl)) dX5_isSo_87 ⟨Nat.zero_le _, Nat.zero_le _⟩)) (fun r_13 hr_13 => ?_)
              subst hr_13
              refine lv_if_eq (tgt := 97) hx hb dX5_isSo_90 (by decide) (fun c_14 => ?_) (fun c_14 => ?_)
              · skip
                refine lv_iconst (v := 0) hx hb dX5_isSo_97 (by decide) ?_
                exact W.zret hx hb hr rfl (fun t ht hW => ⟨_, rfl, (by unfold r_X5_isSo; rw [if_neg c_1, if_neg c_3, if_neg c_5, if_neg c_7, if_neg c_9, if_pos c_12, if_pos c_14]), ht⟩) (fun q hq => absurd hq List.not_mem_nil) dX5_isSo_98
              · skip
                refine lv_iconst (v := 1) hx hb dX5_isSo_93 (by decide) ?_
                refine lv_goto (tgt := 98) hx hb dX5_isSo_94 (by decide) ?_
                exact W.zret hx hb hr rfl (fun t ht hW => ⟨_, rfl, (by unfold r_X5_isSo; rw [if_neg c_1, if_neg c_3, if_neg c_5, if_neg c_7, if_neg c_9, if_pos c_12, if_neg c_14]), ht⟩) (fun q hq => absurd hq List.not_mem_nil) dX5_isSo_98
def r_X5_readable (fS : Nat → Int32) (j : Nat) : Int32 := (if (fS (8 + j)) = 0 then 0 else (if (r_X5_isBelieved fS 0 j) = 0 then (if (r_X5_isBelieved fS 1 j) = 0 then (-6) else (fS (40 + 160 * 1 + 5 * j + 3))) else (fS (40 + 160 * 0 + 5 * j + 3))))
set_option maxHeartbeats 4000000 in
set_option maxRecDepth 100000 in
theorem c_X5_readable (l : Launch) (D : va_G) (K : Nat → ClassId) (oM : Nat) (aS : Nat) (aA : Nat) (aB : Nat) (aT : Nat) (aV : Nat) (aP : Nat) (fS : Nat → Int32) (kn : Nat) (ln : Nat) (pl : Int32) (wr : Int32) (le : Int32) (on : Int32) (tw : Int32) (j : Nat) (hj : j < 32) : Met l yX5_readable wsX5_readable ({ frames := 4, cells := 0, slots := 0, locals := 89 }) (va_Pc [.ref oM, .int (nI j)] (fun U => Bd D K U ∧ va_P D vwCl [(oM, .inr (5, [.ref aS, .ref aA, .ref aB, .int (nI kn), .ref aT, .ref aV, .ref aP, .int (nI ln), .int pl, .int wr, .int le, .int on, .int tw])), (aS, .inl (K 0, 360, .inl fS))] U.heap)) (vp_Si (fun r => r = (r_X5_readable fS j))) 0 0 (fun _ => False) := by
  refine Met.ofW (cc := cX5_readable) (maxL := 2) (ret := (some .int)) (by decide) rfl ?_
  intro p e s m args below meth c s₁ B hml hv
  obtain ⟨rfl, hbd, hP⟩ := hv
  have hx := B.exec
  have hb := B.bytes
  have hr := B.returns
  have hts := atoms_spec (ws := wsX5_readable) B.pre
  have hown : s.vm.findClass RX5 = some m.cls := findClass_of_methodNamed B.named
  have hlocks := B.notSynchronized
  have hK := hbd.2
  have hP : va_P D vwCl [(oM, .inr (5, [.ref aS, .ref aA, .ref aB, .int (nI kn), .ref aT, .ref aV, .ref aP, .int (nI ln), .int pl, .int wr, .int le, .int on, .int tw])), (aS, .inl (K 0, 360, .inl fS))] s.heap := hP
  have hin5 : ∀ w ∈ wsX50, w ∈ wsX5_readable := by decide +kernel
  have hl := lv_entry ([.ref oM, .int (nI j)]) (n := 2) (Nat.le_of_ble_eq_true rfl)
  rw [lg_entry_eq]
  generalize (lg_sl ([.ref oM, .int (nI j)]) ++ List.replicate (2 - (lg_sl ([.ref oM, .int (nI j)])).length) Slot.unset).toArray = ls at hl ⊢
  have hl : lv_has ls 2 [(0, .ref oM), (1, .int (nI j))] := hl
  refine lv_aload_n hx hb dX5_readable_0 rfl (lv_at hl 0 rfl) ?_
  refine va_get (D := D) (ci := 5) (v := .ref aS) (C := RX5) (T := TX5) (N := 13) hx hb hts hin5 hown hK hP 0 rfl rfl 0 (by decide) (hts _ (List.mem_of_getElem? (i := 1) rfl)) (fun _ h9 => h9) rfl dX5_readable_1 ?_
  refine lv_bipush (v := 8) hx hb dX5_readable_4 (by decide) ?_
  refine lv_iload_n hx hb dX5_readable_6 rfl (lv_at hl 1 rfl) ?_
  refine lv_iadd hx hb dX5_readable_7 ?_
  refine st1 (nI_add 8 j) ?_
  refine n_iald hx hb hK hP 1 0 rfl rfl (8 + j) (by omega) (by decide) dX5_readable_8 ?_
  refine lv_if_ne (tgt := 14) hx hb dX5_readable_9 (by decide) (fun c_1 => ?_) (fun c_1 => ?_)
  · skip
    refine lv_aload_n hx hb dX5_readable_14 rfl (lv_at hl 0 rfl) ?_
    refine lv_iconst (v := 0) hx hb dX5_readable_15 (by decide) ?_
    refine lv_iload_n hx hb dX5_readable_16 rfl (lv_at hl 1 rfl) ?_
    have hPc := hP.sub (ws' := [(oM, .inr (5, [.ref aS, .ref aA, .ref aB, .int (nI kn), .ref aT, .ref aV, .ref aP, .int (nI ln), .int pl, .int wr, .int le, .int on, .int tw])), (aS, .inl (K 0, 360, .inl fS))]) [0, 1] rfl
    refine vp_callSi (va_Run.run (va_runV (As := [.int 0, .int (nI j)]) (rest := []) ⟨hx, hb, hml, hown, hts⟩ (c_X5_isBelieved l D K oM aS aA aB aT aV aP fS kn ln pl wr le on tw 0 j (by omega) (by omega)) (cwV 2 hts gX5_readable_X5_isBelieved rfl rfl rfl (by decide +kernel) ⟨Nat.le_of_ble_eq_true rfl, Nat.le_of_ble_eq_true rfl⟩) (pre_rd hbd hPc (ci := 5) (q0 := 0) rfl rfl) rfl rfl hl.1 rfl (lv_room (Nat.le_of_ble_eq_true rfl)) dX5_readable_17 ⟨Nat.zero_le _, Nat.zero_le _⟩)) (fun r_2 hr_2 => ?_)
    subst hr_2
    refine lv_if_eq (tgt := 37) hx hb dX5_readable_20 (by decide) (fun c_3 => ?_) (fun c_3 => ?_)
    · skip
      refine lv_aload_n hx hb dX5_readable_37 rfl (lv_at hl 0 rfl) ?_
      refine lv_iconst (v := 1) hx hb dX5_readable_38 (by decide) ?_
      refine lv_iload_n hx hb dX5_readable_39 rfl (lv_at hl 1 rfl) ?_
      have hPc := hP.sub (ws' := [(oM, .inr (5, [.ref aS, .ref aA, .ref aB, .int (nI kn), .ref aT, .ref aV, .ref aP, .int (nI ln), .int pl, .int wr, .int le, .int on, .int tw])), (aS, .inl (K 0, 360, .inl fS))]) [0, 1] rfl
      refine vp_callSi (va_Run.run (va_runV (As := [.int 1, .int (nI j)]) (rest := []) ⟨hx, hb, hml, hown, hts⟩ (c_X5_isBelieved l D K oM aS aA aB aT aV aP fS kn ln pl wr le on tw 1 j (by omega) (by omega)) (cwV 2 hts gX5_readable_X5_isBelieved rfl rfl rfl (by decide +kernel) ⟨Nat.le_of_ble_eq_true rfl, Nat.le_of_ble_eq_true rfl⟩) (pre_rd hbd hPc (ci := 5) (q0 := 0) rfl rfl) rfl rfl hl.1 rfl (lv_room (Nat.le_of_ble_eq_true rfl)) dX5_readable_40 ⟨Nat.zero_le _, Nat.zero_le _⟩)) (fun r_4 hr_4 => ?_)
      subst hr_4
      refine lv_if_eq (tgt := 60) hx hb dX5_readable_43 (by decide) (fun c_5 => ?_) (fun c_5 => ?_)
      · skip
        refine lv_bipush (v := (-6)) hx hb dX5_readable_60 (by decide) ?_
        exact W.iret hx hb hr (fun t ht hW => ⟨_, rfl, (by unfold r_X5_readable; rw [if_neg c_1, if_pos c_3, if_pos c_5]), ht⟩) (fun q hq => absurd hq List.not_mem_nil) dX5_readable_62
      · skip
        refine lv_aload_n hx hb dX5_readable_46 rfl (lv_at hl 0 rfl) ?_
        refine va_get (D := D) (ci := 5) (v := .ref aS) (C := RX5) (T := TX5) (N := 13) hx hb hts hin5 hown hK hP 0 rfl rfl 0 (by decide) (hts _ (List.mem_of_getElem? (i := 1) rfl)) (fun _ h9 => h9) rfl dX5_readable_47 ?_
        refine lv_iconst (v := 1) hx hb dX5_readable_50 (by decide) ?_
        refine lv_iload_n hx hb dX5_readable_51 rfl (lv_at hl 1 rfl) ?_
        refine lv_iconst (v := 3) hx hb dX5_readable_52 (by decide) ?_
        refine vp_callSi (va_Run.run (va_runS (As := [.int 1, .int (nI j), .int 3]) (rest := [.ref aS]) ⟨hx, hb, hml, hown, hts⟩ (c_X5_of l D K 1 j 3 ) (va_cwS 3 hts gX5_readable_X5_of rfl rfl rfl (by decide +kernel) ⟨Nat.le_of_ble_eq_true rfl, Nat.le_of_ble_eq_true rfl⟩) pre_s0 rfl rfl hl.1 rfl (lv_room (Nat.le_of_ble_eq_true rfl)) dX5_readable_53 ⟨Nat.zero_le _, Nat.zero_le _⟩)) (fun r_6 hr_6 => ?_)
        subst hr_6
        refine n_iald hx hb hK hP 1 0 rfl rfl (40 + 160 * 1 + 5 * j + 3) (by omega) (by decide) dX5_readable_56 ?_
        refine lv_goto (tgt := 62) hx hb dX5_readable_57 (by decide) ?_
        exact W.iret hx hb hr (fun t ht hW => ⟨_, rfl, (by unfold r_X5_readable; rw [if_neg c_1, if_pos c_3, if_neg c_5]), ht⟩) (fun q hq => absurd hq List.not_mem_nil) dX5_readable_62
    · skip
      refine lv_aload_n hx hb dX5_readable_23 rfl (lv_at hl 0 rfl) ?_
      refine va_get (D := D) (ci := 5) (v := .ref aS) (C := RX5) (T := TX5) (N := 13) hx hb hts hin5 hown hK hP 0 rfl rfl 0 (by decide) (hts _ (List.mem_of_getElem? (i := 1) rfl)) (fun _ h9 => h9) rfl dX5_readable_24 ?_
      refine lv_iconst (v := 0) hx hb dX5_readable_27 (by decide) ?_
      refine lv_iload_n hx hb dX5_readable_28 rfl (lv_at hl 1 rfl) ?_
      refine lv_iconst (v := 3) hx hb dX5_readable_29 (by decide) ?_
      refine vp_callSi (va_Run.run (va_runS (As := [.int 0, .int (nI j), .int 3]) (rest := [.ref aS]) ⟨hx, hb, hml, hown, hts⟩ (c_X5_of l D K 0 j 3 ) (va_cwS 3 hts gX5_readable_X5_of rfl rfl rfl (by decide +kernel) ⟨Nat.le_of_ble_eq_true rfl, Nat.le_of_ble_eq_true rfl⟩) pre_s0 rfl rfl hl.1 rfl (lv_room (Nat.le_of_ble_eq_true rfl)) dX5_readable_30 ⟨Nat.zero_le _, Nat.zero_le _⟩)) (fun r_7 hr_7 => ?_)
      subst hr_7
      refine n_iald hx hb hK hP 1 0 rfl rfl (40 + 160 * 0 + 5 * j + 3) (by omega) (by decide) dX5_readable_33 ?_
      refine lv_goto (tgt := 62) hx hb dX5_readable_34 (by decide) ?_
      exact W.iret hx hb hr (fun t ht hW => ⟨_, rfl, (by unfold r_X5_readable; rw [if_neg c_1, if_neg c_3]), ht⟩) (fun q hq => absurd hq List.not_mem_nil) dX5_readable_62
  · skip
    refine lv_iconst (v := 0) hx hb dX5_readable_12 (by decide) ?_
    exact W.iret hx hb hr (fun t ht hW => ⟨_, rfl, (by unfold r_X5_readable; rw [if_pos c_1]), ht⟩) (fun q hq => absurd hq List.not_mem_nil) dX5_readable_13
def r_X5_writeFault_in (fS : Nat → Int32) (j : Nat) (xd : Int32) : Int32 := (if (r_X5_in xd 0 9999) = 0 then (-2) else (if (fS (8 + j)) = 999 then (-4) else 0))
set_option maxHeartbeats 4000000 in
set_option maxRecDepth 100000 in
theorem c_X5_writeFault_in (l : Launch) (D : va_G) (K : Nat → ClassId) (oM : Nat) (aS : Nat) (aA : Nat) (aB : Nat) (aT : Nat) (aV : Nat) (aP : Nat) (fS : Nat → Int32) (kn : Nat) (ln : Nat) (pl : Int32) (wr : Int32) (le : Int32) (on : Int32) (tw : Int32) (n : Nat) (j : Nat) (xd : Int32) (hs0 : fS 0 = nI n) (hn1 : 1 ≤ n) (hn : n ≤ 32) (hjn : j < n) : Met l yX5_writeFault wsX5_writeFault ({ frames := 2, cells := 0, slots := 0, locals := 43 }) (va_Pc [.ref oM, .int (nI j), .int xd] (fun U => Bd D K U ∧ va_P D vwCl [(oM, .inr (5, [.ref aS, .ref aA, .ref aB, .int (nI kn), .ref aT, .ref aV, .ref aP, .int (nI ln), .int pl, .int wr, .int le, .int on, .int tw])), (aS, .inl (K 0, 360, .inl fS))] U.heap)) (vp_Si (fun r => r = (r_X5_writeFault_in fS j xd))) 0 0 (fun _ => False) := by
  refine Met.ofW (cc := cX5_writeFault) (maxL := 3) (ret := (some .int)) (by decide) rfl ?_
  intro p e s m args below meth c s₁ B hml hv
  obtain ⟨rfl, hbd, hP⟩ := hv
  have hx := B.exec
  have hb := B.bytes
  have hr := B.returns
  have hts := atoms_spec (ws := wsX5_writeFault) B.pre
  have hown : s.vm.findClass RX5 = some m.cls := findClass_of_methodNamed B.named
  have hlocks := B.notSynchronized
  have hK := hbd.2
  have hP : va_P D vwCl [(oM, .inr (5, [.ref aS, .ref aA, .ref aB, .int (nI kn), .ref aT, .ref aV, .ref aP, .int (nI ln), .int pl, .int wr, .int le, .int on, .int tw])), (aS, .inl (K 0, 360, .inl fS))] s.heap := hP
  have hin5 : ∀ w ∈ wsX50, w ∈ wsX5_writeFault := by decide +kernel
  have hl := lv_entry ([.ref oM, .int (nI j), .int xd]) (n := 3) (Nat.le_of_ble_eq_true rfl)
  rw [lg_entry_eq]
  generalize (lg_sl ([.ref oM, .int (nI j), .int xd]) ++ List.replicate (3 - (lg_sl ([.ref oM, .int (nI j), .int xd])).length) Slot.unset).toArray = ls at hl ⊢
  have hl : lv_has ls 3 [(0, .ref oM), (1, .int (nI j)), (2, .int xd)] := hl
  refine lv_aload_n hx hb dX5_writeFault_0 rfl (lv_at hl 0 rfl) ?_
  refine lv_iload_n hx hb dX5_writeFault_1 rfl (lv_at hl 1 rfl) ?_
  have hPc := hP.sub (ws' := [(oM, .inr (5, [.ref aS, .ref aA, .ref aB, .int (nI kn), .ref aT, .ref aV, .ref aP, .int (nI ln), .int pl, .int wr, .int le, .int on, .int tw])), (aS, .inl (K 0, 360, .inl fS))]) [0, 1] rfl
  refine vp_callSi (va_Run.run (va_runV (As := [.int (nI j)]) (rest := []) ⟨hx, hb, hml, hown, hts⟩ (c_X5_isPlace_ok l D K oM aS aA aB aT aV aP fS kn ln pl wr le on tw n j hs0 hn1 hn hjn) (cwV 1 hts gX5_writeFault_X5_isPlace rfl rfl rfl (by decide +kernel) ⟨Nat.le_of_ble_eq_true rfl, Nat.le_of_ble_eq_true rfl⟩) (pre_rd hbd hPc (ci := 5) (q0 := 0) rfl rfl) rfl rfl hl.1 rfl (lv_room (Nat.le_of_ble_eq_true rfl)) dX5_writeFault_2 ⟨Nat.zero_le _, Nat.zero_le _⟩)) (fun r_1 hr_1 => ?_)
  subst hr_1
  refine lv_if_ne (tgt := 12) hx hb dX5_writeFault_5 (by decide) (fun _ => ?_) (fun h_2 => absurd h_2 (by decide))
  refine lv_iload_n hx hb dX5_writeFault_12 rfl (lv_at hl 2 rfl) ?_
  refine lv_iconst (v := 0) hx hb dX5_writeFault_13 (by decide) ?_
  refine lv_sipush (v := 9999) hx hb dX5_writeFault_14 (by decide) ?_
  refine vp_callSi (va_Run.run (va_runS (As := [.int xd, .int 0, .int 9999]) (rest := []) ⟨hx, hb, hml, hown, hts⟩ (c_X5_in l D K xd 0 9999 ) (va_cwS 3 hts gX5_writeFault_X5_in rfl rfl rfl (by decide +kernel) ⟨Nat.le_of_ble_eq_true rfl, Nat.le_of_ble_eq_true rfl⟩) pre_s0 rfl rfl hl.1 rfl (lv_room (Nat.le_of_ble_eq_true rfl)) dX5_writeFault_17 ⟨Nat.zero_le _, Nat.zero_le _⟩)) (fun r_3 hr_3 => ?_)
  subst hr_3
  refine lv_if_ne (tgt := 28) hx hb dX5_writeFault_20 (by decide) (fun c_4 => ?_) (fun c_4 => ?_)
  · skip
    refine lv_aload_n hx hb dX5_writeFault_28 rfl (lv_at hl 0 rfl) ?_
    refine va_get (D := D) (ci := 5) (v := .ref aS) (C := RX5) (T := TX5) (N := 13) hx hb hts hin5 hown hK hP 0 rfl rfl 0 (by decide) (hts _ (List.mem_of_getElem? (i := 1) rfl)) (fun _ h9 => h9) rfl dX5_writeFault_29 ?_
    refine lv_bipush (v := 8) hx hb dX5_writeFault_32 (by decide) ?_
    refine lv_iload_n hx hb dX5_writeFault_34 rfl (lv_at hl 1 rfl) ?_
    refine lv_iadd hx hb dX5_writeFault_35 ?_
    refine st1 (nI_add 8 j) ?_
    refine n_iald hx hb hK hP 1 0 rfl rfl (8 + j) (by omega) (by decide) dX5_writeFault_36 ?_
    refine lv_sipush (v := 999) hx hb dX5_writeFault_37 (by decide) ?_
    refine lv_icmp_ne (tgt := 48) hx hb dX5_writeFault_40 (by decide) (fun c_5 => ?_) (fun c_5 => ?_)
    · skip
      refine lv_iconst (v := 0) hx hb dX5_writeFault_48 (by decide) ?_
      exact W.iret hx hb hr (fun t ht hW => ⟨_, rfl, (by unfold r_X5_writeFault_in; rw [if_neg c_4, if_neg c_5]), ht⟩) (fun q hq => absurd hq List.not_mem_nil) dX5_writeFault_49
    · skip
      refine lv_bipush (v := (-4)) hx hb dX5_writeFault_43 (by decide) ?_
      refine lv_goto (tgt := 49) hx hb dX5_writeFault_45 (by decide) ?_
      exact W.iret hx hb hr (fun t ht hW => ⟨_, rfl, (by unfold r_X5_writeFault_in; rw [if_neg c_4, if_pos c_5]), ht⟩) (fun q hq => absurd hq List.not_mem_nil) dX5_writeFault_49
  · skip
    refine lv_bipush (v := (-2)) hx hb dX5_writeFault_23 (by decide) ?_
    refine lv_goto (tgt := 49) hx hb dX5_writeFault_25 (by decide) ?_
    exact W.iret hx hb hr (fun t ht hW => ⟨_, rfl, (by unfold r_X5_writeFault_in; rw [if_pos c_4]), ht⟩) (fun q hq => absurd hq List.not_mem_nil) dX5_writeFault_49
set_option maxHeartbeats 4000000 in
set_option maxRecDepth 100000 in
theorem c_X5_writeFault_no (l : Launch) (D : va_G) (K : Nat → ClassId) (oM : Nat) (aS : Nat) (aA : Nat) (aB : Nat) (aT : Nat) (aV : Nat) (aP : Nat) (fS : Nat → Int32) (kn : Nat) (ln : Nat) (pl : Int32) (wr : Int32) (le : Int32) (on : Int32) (tw : Int32) (n : Nat) (xp : Int32) (xd : Int32) (hs0 : fS 0 = nI n) (hn1 : 1 ≤ n) (hn : n ≤ 32) (hbad : xp < 0 ∨ nI n ≤ xp) : Met l yX5_writeFault wsX5_writeFault ({ frames := 2, cells := 0, slots := 0, locals := 43 }) (va_Pc [.ref oM, .int xp, .int xd] (fun U => Bd D K U ∧ va_P D vwCl [(oM, .inr (5, [.ref aS, .ref aA, .ref aB, .int (nI kn), .ref aT, .ref aV, .ref aP, .int (nI ln), .int pl, .int wr, .int le, .int on, .int tw])), (aS, .inl (K 0, 360, .inl fS))] U.heap)) (vp_Si (fun r => r = (-1))) 0 0 (fun _ => False) := by
  refine Met.ofW (cc := cX5_writeFault) (maxL := 3) (ret := (some .int)) (by decide) rfl ?_
  intro p e s m args below meth c s₁ B hml hv
  obtain ⟨rfl, hbd, hP⟩ := hv
  have hx := B.exec
  have hb := B.bytes
  have hr := B.returns
  have hts := atoms_spec (ws := wsX5_writeFault) B.pre
  have hown : s.vm.findClass RX5 = some m.cls := findClass_of_methodNamed B.named
  have hlocks := B.notSynchronized
  have hK := hbd.2
  have hP : va_P D vwCl [(oM, .inr (5, [.ref aS, .ref aA, .ref aB, .int (nI kn), .ref aT, .ref aV, .ref aP, .int (nI ln), .int pl, .int wr, .int le, .int on, .int tw])), (aS, .inl (K 0, 360, .inl fS))] s.heap := hP
  have hl := lv_entry ([.ref oM, .int xp, .int xd]) (n := 3) (Nat.le_of_ble_eq_true rfl)
  rw [lg_entry_eq]
  generalize (lg_sl ([.ref oM, .int xp, .int xd]) ++ List.replicate (3 - (lg_sl ([.ref oM, .int xp, .int xd])).length) Slot.unset).toArray = ls at hl ⊢
  have hl : lv_has ls 3 [(0, .ref oM), (1, .int xp), (2, .int xd)] := hl
  refine lv_aload_n hx hb dX5_writeFault_0 rfl (lv_at hl 0 rfl) ?_
  refine lv_iload_n hx hb dX5_writeFault_1 rfl (lv_at hl 1 rfl) ?_
  have hPc := hP.sub (ws' := [(oM, .inr (5, [.ref aS, .ref aA, .ref aB, .int (nI kn), .ref aT, .ref aV, .ref aP, .int (nI ln), .int pl, .int wr, .int le, .int on, .int tw])), (aS, .inl (K 0, 360, .inl fS))]) [0, 1] rfl
  refine vp_callSi (va_Run.run (va_runV (As := [.int xp]) (rest := []) ⟨hx, hb, hml, hown, hts⟩ (c_X5_isPlace_no l D K oM aS aA aB aT aV aP fS kn ln pl wr le on tw n xp hs0 hn1 hn hbad) (cwV 1 hts gX5_writeFault_X5_isPlace rfl rfl rfl (by decide +kernel) ⟨Nat.le_of_ble_eq_true rfl, Nat.le_of_ble_eq_true rfl⟩) (pre_rd hbd hPc (ci := 5) (q0 := 0) rfl rfl) rfl rfl hl.1 rfl (lv_room (Nat.le_of_ble_eq_true rfl)) dX5_writeFault_2 ⟨Nat.zero_le _, Nat.zero_le _⟩)) (fun r_1 hr_1 => ?_)
  subst hr_1
  refine lv_if_ne (tgt := 12) hx hb dX5_writeFault_5 (by decide) (fun h_2 => absurd (by decide) h_2) (fun _ => ?_)
  refine lv_iconst (v := (-1)) hx hb dX5_writeFault_8 (by decide) ?_
  refine lv_goto (tgt := 49) hx hb dX5_writeFault_9 (by decide) ?_
  exact W.iret hx hb hr (fun t ht hW => ⟨_, rfl, rfl, ht⟩) (fun q hq => absurd hq List.not_mem_nil) dX5_writeFault_49
def r_X5_awaitFault (xs : Int32) (xk : Int32) : Int32 := (if (r_X5_in xs 0 1) = 0 then (-1) else (if (r_X5_in xk 0 4) = 0 then (-2) else 0))
set_option maxHeartbeats 4000000 in
set_option maxRecDepth 100000 in
theorem c_X5_awaitFault (l : Launch) (D : va_G) (K : Nat → ClassId) (oM : Nat) (aS : Nat) (aA : Nat) (aB : Nat) (aT : Nat) (aV : Nat) (aP : Nat) (fS : Nat → Int32) (kn : Nat) (ln : Nat) (pl : Int32) (wr : Int32) (le : Int32) (on : Int32) (tw : Int32) (xs : Int32) (xk : Int32)  : Met l yX5_awaitFault wsX5_awaitFault ({ frames := 1, cells := 0, slots := 0, locals := 22 }) (va_Pc [.ref oM, .int xs, .int xk] (fun U => Bd D K U ∧ va_P D vwCl [(oM, .inr (5, [.ref aS, .ref aA, .ref aB, .int (nI kn), .ref aT, .ref aV, .ref aP, .int (nI ln), .int pl, .int wr, .int le, .int on, .int tw])), (aS, .inl (K 0, 360, .inl fS))] U.heap)) (vp_Si (fun r => r = (r_X5_awaitFault xs xk))) 0 0 (fun _ => False) := by
  refine Met.ofW (cc := cX5_awaitFault) (maxL := 3) (ret := (some .int)) (by decide) rfl ?_
  intro p e s m args below meth c s₁ B hml hv
  obtain ⟨rfl, hbd, hP⟩ := hv
  have hx := B.exec
  have hb := B.bytes
  have hr := B.returns
  have hts := atoms_spec (ws := wsX5_awaitFault) B.pre
  have hown : s.vm.findClass RX5 = some m.cls := findClass_of_methodNamed B.named
  have hlocks := B.notSynchronized
  have hK := hbd.2
  have hP : va_P D vwCl [(oM, .inr (5, [.ref aS, .ref aA, .ref aB, .int (nI kn), .ref aT, .ref aV, .ref aP, .int (nI ln), .int pl, .int wr, .int le, .int on, .int tw])), (aS, .inl (K 0, 360, .inl fS))] s.heap := hP
  have hl := lv_entry ([.ref oM, .int xs, .int xk]) (n := 3) (Nat.le_of_ble_eq_true rfl)
  rw [lg_entry_eq]
  generalize (lg_sl ([.ref oM, .int xs, .int xk]) ++ List.replicate (3 - (lg_sl ([.ref oM, .int xs, .int xk])).length) Slot.unset).toArray = ls at hl ⊢
  have hl : lv_has ls 3 [(0, .ref oM), (1, .int xs), (2, .int xk)] := hl
  refine lv_iload_n hx hb dX5_awaitFault_0 rfl (lv_at hl 1 rfl) ?_
  refine lv_iconst (v := 0) hx hb dX5_awaitFault_1 (by decide) ?_
  refine lv_iconst (v := 1) hx hb dX5_awaitFault_2 (by decide) ?_
  refine vp_callSi (va_Run.run (va_runS (As := [.int xs, .int 0, .int 1]) (rest := []) ⟨hx, hb, hml, hown, hts⟩ (c_X5_in l D K xs 0 1 ) (va_cwS 3 hts gX5_awaitFault_X5_in rfl rfl rfl (by decide +kernel) ⟨Nat.le_of_ble_eq_true rfl, Nat.le_of_ble_eq_true rfl⟩) pre_s0 rfl rfl hl.1 rfl (lv_room (Nat.le_of_ble_eq_true rfl)) dX5_awaitFault_3 ⟨Nat.zero_le _, Nat.zero_le _⟩)) (fun r_1 hr_1 => ?_)
  subst hr_1
  refine lv_if_ne (tgt := 13) hx hb dX5_awaitFault_6 (by decide) (fun c_2 => ?_) (fun c_2 => ?_)
  · skip
    refine lv_iload_n hx hb dX5_awaitFault_13 rfl (lv_at hl 2 rfl) ?_
    refine lv_iconst (v := 0) hx hb dX5_awaitFault_14 (by decide) ?_
    refine lv_iconst (v := 4) hx hb dX5_awaitFault_15 (by decide) ?_
    refine vp_callSi (va_Run.run (va_runS (As := [.int xk, .int 0, .int 4]) (rest := []) ⟨hx, hb, hml, hown, hts⟩ (c_X5_in l D K xk 0 4 ) (va_cwS 3 hts gX5_awaitFault_X5_in rfl rfl rfl (by decide +kernel) ⟨Nat.le_of_ble_eq_true rfl, Nat.le_of_ble_eq_true rfl⟩) pre_s0 rfl rfl hl.1 rfl (lv_room (Nat.le_of_ble_eq_true rfl)) dX5_awaitFault_16 ⟨Nat.zero_le _, Nat.zero_le _⟩)) (fun r_3 hr_3 => ?_)
    subst hr_3
    refine lv_if_eq (tgt := 26) hx hb dX5_awaitFault_19 (by decide) (fun c_4 => ?_) (fun c_4 => ?_)
    · skip
      refine lv_bipush (v := (-2)) hx hb dX5_awaitFault_26 (by decide) ?_
      exact W.iret hx hb hr (fun t ht hW => ⟨_, rfl, (by unfold r_X5_awaitFault; rw [if_neg c_2, if_pos c_4]), ht⟩) (fun q hq => absurd hq List.not_mem_nil) dX5_awaitFault_28
    · skip
      refine lv_iconst (v := 0) hx hb dX5_awaitFault_22 (by decide) ?_
      refine lv_goto (tgt := 28) hx hb dX5_awaitFault_23 (by decide) ?_
      exact W.iret hx hb hr (fun t ht hW => ⟨_, rfl, (by unfold r_X5_awaitFault; rw [if_neg c_2, if_neg c_4]), ht⟩) (fun q hq => absurd hq List.not_mem_nil) dX5_awaitFault_28
  · skip
    refine lv_iconst (v := (-1)) hx hb dX5_awaitFault_9 (by decide) ?_
    refine lv_goto (tgt := 28) hx hb dX5_awaitFault_10 (by decide) ?_
    exact W.iret hx hb hr (fun t ht hW => ⟨_, rfl, (by unfold r_X5_awaitFault; rw [if_pos c_2]), ht⟩) (fun q hq => absurd hq List.not_mem_nil) dX5_awaitFault_28
set_option maxHeartbeats 4000000 in
set_option maxRecDepth 100000 in
theorem c_X5_wipeFault_0 (l : Launch) (D : va_G) (K : Nat → ClassId) (oM : Nat) (aS : Nat) (aA : Nat) (aB : Nat) (aT : Nat) (aV : Nat) (aP : Nat) (fS : Nat → Int32) (kn : Nat) (ln : Nat) (pl : Int32) (wr : Int32) (le : Int32) (on : Int32) (tw : Int32) (n : Nat) (j : Nat) (hs0 : fS 0 = nI n) (hn1 : 1 ≤ n) (hn : n ≤ 32) (hjn : j < n) : Met l yX5_wipeFault wsX5_wipeFault ({ frames := 2, cells := 0, slots := 0, locals := 43 }) (va_Pc [.ref oM, .int 0, .int (nI j)] (fun U => Bd D K U ∧ va_P D vwCl [(oM, .inr (5, [.ref aS, .ref aA, .ref aB, .int (nI kn), .ref aT, .ref aV, .ref aP, .int (nI ln), .int pl, .int wr, .int le, .int on, .int tw])), (aS, .inl (K 0, 360, .inl fS))] U.heap)) (vp_Si (fun r => r = 0)) 0 0 (fun _ => False) := by
  refine Met.ofW (cc := cX5_wipeFault) (maxL := 3) (ret := (some .int)) (by decide) rfl ?_
  intro p e s m args below meth c s₁ B hml hv
  obtain ⟨rfl, hbd, hP⟩ := hv
  have hx := B.exec
  have hb := B.bytes
  have hr := B.returns
  have hts := atoms_spec (ws := wsX5_wipeFault) B.pre
  have hown : s.vm.findClass RX5 = some m.cls := findClass_of_methodNamed B.named
  have hlocks := B.notSynchronized
  have hK := hbd.2
  have hP : va_P D vwCl [(oM, .inr (5, [.ref aS, .ref aA, .ref aB, .int (nI kn), .ref aT, .ref aV, .ref aP, .int (nI ln), .int pl, .int wr, .int le, .int on, .int tw])), (aS, .inl (K 0, 360, .inl fS))] s.heap := hP
  have hl := lv_entry ([.ref oM, .int 0, .int (nI j)]) (n := 3) (Nat.le_of_ble_eq_true rfl)
  rw [lg_entry_eq]
  generalize (lg_sl ([.ref oM, .int 0, .int (nI j)]) ++ List.replicate (3 - (lg_sl ([.ref oM, .int 0, .int (nI j)])).length) Slot.unset).toArray = ls at hl ⊢
  have hl : lv_has ls 3 [(0, .ref oM), (1, .int 0), (2, .int (nI j))] := hl
  refine lv_iload_n hx hb dX5_wipeFault_0 rfl (lv_at hl 1 rfl) ?_
  refine lv_iconst (v := 0) hx hb dX5_wipeFault_1 (by decide) ?_
  refine lv_iconst (v := 1) hx hb dX5_wipeFault_2 (by decide) ?_
  refine vp_callSi (va_Run.run (va_runS (As := [.int 0, .int 0, .int 1]) (rest := []) ⟨hx, hb, hml, hown, hts⟩ (c_X5_in_ok l D K 0 0 1 (by decide) (by decide)) (va_cwS 3 hts gX5_wipeFault_X5_in rfl rfl rfl (by decide +kernel) ⟨Nat.le_of_ble_eq_true rfl, Nat.le_of_ble_eq_true rfl⟩) pre_s0 rfl rfl hl.1 rfl (lv_room (Nat.le_of_ble_eq_true rfl)) dX5_wipeFault_3 ⟨Nat.zero_le _, Nat.zero_le _⟩)) (fun r_1 hr_1 => ?_)
  subst hr_1
  refine lv_if_eq (tgt := 21) hx hb dX5_wipeFault_6 (by decide) (fun h_2 => absurd h_2 (by decide)) (fun _ => ?_)
  refine lv_aload_n hx hb dX5_wipeFault_9 rfl (lv_at hl 0 rfl) ?_
  refine lv_iload_n hx hb dX5_wipeFault_10 rfl (lv_at hl 2 rfl) ?_
  have hPc := hP.sub (ws' := [(oM, .inr (5, [.ref aS, .ref aA, .ref aB, .int (nI kn), .ref aT, .ref aV, .ref aP, .int (nI ln), .int pl, .int wr, .int le, .int on, .int tw])), (aS, .inl (K 0, 360, .inl fS))]) [0, 1] rfl
  refine vp_callSi (va_Run.run (va_runV (As := [.int (nI j)]) (rest := []) ⟨hx, hb, hml, hown, hts⟩ (c_X5_isPlace_ok l D K oM aS aA aB aT aV aP fS kn ln pl wr le on tw n j hs0 hn1 hn hjn) (cwV 1 hts gX5_wipeFault_X5_isPlace rfl rfl rfl (by decide +kernel) ⟨Nat.le_of_ble_eq_true rfl, Nat.le_of_ble_eq_true rfl⟩) (pre_rd hbd hPc (ci := 5) (q0 := 0) rfl rfl) rfl rfl hl.1 rfl (lv_room (Nat.le_of_ble_eq_true rfl)) dX5_wipeFault_11 ⟨Nat.zero_le _, Nat.zero_le _⟩)) (fun r_3 hr_3 => ?_)
  subst hr_3
  refine lv_if_eq (tgt := 21) hx hb dX5_wipeFault_14 (by decide) (fun h_4 => absurd h_4 (by decide)) (fun _ => ?_)
  refine lv_iconst (v := 0) hx hb dX5_wipeFault_17 (by decide) ?_
  refine lv_goto (tgt := 22) hx hb dX5_wipeFault_18 (by decide) ?_
  exact W.iret hx hb hr (fun t ht hW => ⟨_, rfl, rfl, ht⟩) (fun q hq => absurd hq List.not_mem_nil) dX5_wipeFault_22
set_option maxHeartbeats 4000000 in
set_option maxRecDepth 100000 in
theorem c_X5_wipeFault_0n (l : Launch) (D : va_G) (K : Nat → ClassId) (oM : Nat) (aS : Nat) (aA : Nat) (aB : Nat) (aT : Nat) (aV : Nat) (aP : Nat) (fS : Nat → Int32) (kn : Nat) (ln : Nat) (pl : Int32) (wr : Int32) (le : Int32) (on : Int32) (tw : Int32) (n : Nat) (xp : Int32) (hs0 : fS 0 = nI n) (hn1 : 1 ≤ n) (hn : n ≤ 32) (hbad : xp < 0 ∨ nI n ≤ xp) : Met l yX5_wipeFault wsX5_wipeFault ({ frames := 2, cells := 0, slots := 0, locals := 43 }) (va_Pc [.ref oM, .int 0, .int xp] (fun U => Bd D K U ∧ va_P D vwCl [(oM, .inr (5, [.ref aS, .ref aA, .ref aB, .int (nI kn), .ref aT, .ref aV, .ref aP, .int (nI ln), .int pl, .int wr, .int le, .int on, .int tw])), (aS, .inl (K 0, 360, .inl fS))] U.heap)) (vp_Si (fun r => r = (-1))) 0 0 (fun _ => False) := by
  refine Met.ofW (cc := cX5_wipeFault) (maxL := 3) (ret := (some .int)) (by decide) rfl ?_
  intro p e s m args below meth c s₁ B hml hv
  obtain ⟨rfl, hbd, hP⟩ := hv
  have hx := B.exec
  have hb := B.bytes
  have hr := B.returns
  have hts := atoms_spec (ws := wsX5_wipeFault) B.pre
  have hown : s.vm.findClass RX5 = some m.cls := findClass_of_methodNamed B.named
  have hlocks := B.notSynchronized
  have hK := hbd.2
  have hP : va_P D vwCl [(oM, .inr (5, [.ref aS, .ref aA, .ref aB, .int (nI kn), .ref aT, .ref aV, .ref aP, .int (nI ln), .int pl, .int wr, .int le, .int on, .int tw])), (aS, .inl (K 0, 360, .inl fS))] s.heap := hP
  have hl := lv_entry ([.ref oM, .int 0, .int xp]) (n := 3) (Nat.le_of_ble_eq_true rfl)
  rw [lg_entry_eq]
  generalize (lg_sl ([.ref oM, .int 0, .int xp]) ++ List.replicate (3 - (lg_sl ([.ref oM, .int 0, .int xp])).length) Slot.unset).toArray = ls at hl ⊢
  have hl : lv_has ls 3 [(0, .ref oM), (1, .int 0), (2, .int xp)] := hl
  refine lv_iload_n hx hb dX5_wipeFault_0 rfl (lv_at hl 1 rfl) ?_
  refine lv_iconst (v := 0) hx hb dX5_wipeFault_1 (by decide) ?_
  refine lv_iconst (v := 1) hx hb dX5_wipeFault_2 (by decide) ?_
  refine vp_callSi (va_Run.run (va_runS (As := [.int 0, .int 0, .int 1]) (rest := []) ⟨hx, hb, hml, hown, hts⟩ (c_X5_in_ok l D K 0 0 1 (by decide) (by decide)) (va_cwS 3 hts gX5_wipeFault_X5_in rfl rfl rfl (by decide +kernel) ⟨Nat.le_of_ble_eq_true rfl, Nat.le_of_ble_eq_true rfl⟩) pre_s0 rfl rfl hl.1 rfl (lv_room (Nat.le_of_ble_eq_true rfl)) dX5_wipeFault_3 ⟨Nat.zero_le _, Nat.zero_le _⟩)) (fun r_1 hr_1 => ?_)
  subst hr_1
  refine lv_if_eq (tgt := 21) hx hb dX5_wipeFault_6 (by decide) (fun h_2 => absurd h_2 (by decide)) (fun _ => ?_)
  refine lv_aload_n hx hb dX5_wipeFault_9 rfl (lv_at hl 0 rfl) ?_
  refine lv_iload_n hx hb dX5_wipeFault_10 rfl (lv_at hl 2 rfl) ?_
  have hPc := hP.sub (ws' := [(oM, .inr (5, [.ref aS, .ref aA, .ref aB, .int (nI kn), .ref aT, .ref aV, .ref aP, .int (nI ln), .int pl, .int wr, .int le, .int on, .int tw])), (aS, .inl (K 0, 360, .inl fS))]) [0, 1] rfl
  refine vp_callSi (va_Run.run (va_runV (As := [.int xp]) (rest := []) ⟨hx, hb, hml, hown, hts⟩ (c_X5_isPlace_no l D K oM aS aA aB aT aV aP fS kn ln pl wr le on tw n xp hs0 hn1 hn hbad) (cwV 1 hts gX5_wipeFault_X5_isPlace rfl rfl rfl (by decide +kernel) ⟨Nat.le_of_ble_eq_true rfl, Nat.le_of_ble_eq_true rfl⟩) (pre_rd hbd hPc (ci := 5) (q0 := 0) rfl rfl) rfl rfl hl.1 rfl (lv_room (Nat.le_of_ble_eq_true rfl)) dX5_wipeFault_11 ⟨Nat.zero_le _, Nat.zero_le _⟩)) (fun r_3 hr_3 => ?_)
  subst hr_3
  refine lv_if_eq (tgt := 21) hx hb dX5_wipeFault_14 (by decide) (fun _ => ?_) (fun h_4 => absurd (by decide) h_4)
  refine lv_iconst (v := (-1)) hx hb dX5_wipeFault_21 (by decide) ?_
  exact W.iret hx hb hr (fun t ht hW => ⟨_, rfl, rfl, ht⟩) (fun q hq => absurd hq List.not_mem_nil) dX5_wipeFault_22
set_option maxHeartbeats 4000000 in
set_option maxRecDepth 100000 in
theorem c_X5_wipeFault_1 (l : Launch) (D : va_G) (K : Nat → ClassId) (oM : Nat) (aS : Nat) (aA : Nat) (aB : Nat) (aT : Nat) (aV : Nat) (aP : Nat) (fS : Nat → Int32) (kn : Nat) (ln : Nat) (pl : Int32) (wr : Int32) (le : Int32) (on : Int32) (tw : Int32) (n : Nat) (j : Nat) (hs0 : fS 0 = nI n) (hn1 : 1 ≤ n) (hn : n ≤ 32) (hjn : j < n) : Met l yX5_wipeFault wsX5_wipeFault ({ frames := 2, cells := 0, slots := 0, locals := 43 }) (va_Pc [.ref oM, .int 1, .int (nI j)] (fun U => Bd D K U ∧ va_P D vwCl [(oM, .inr (5, [.ref aS, .ref aA, .ref aB, .int (nI kn), .ref aT, .ref aV, .ref aP, .int (nI ln), .int pl, .int wr, .int le, .int on, .int tw])), (aS, .inl (K 0, 360, .inl fS))] U.heap)) (vp_Si (fun r => r = 0)) 0 0 (fun _ => False) := by
  refine Met.ofW (cc := cX5_wipeFault) (maxL := 3) (ret := (some .int)) (by decide) rfl ?_
  intro p e s m args below meth c s₁ B hml hv
  obtain ⟨rfl, hbd, hP⟩ := hv
  have hx := B.exec
  have hb := B.bytes
  have hr := B.returns
  have hts := atoms_spec (ws := wsX5_wipeFault) B.pre
  have hown : s.vm.findClass RX5 = some m.cls := findClass_of_methodNamed B.named
  have hlocks := B.notSynchronized
  have hK := hbd.2
  have hP : va_P D vwCl [(oM, .inr (5, [.ref aS, .ref aA, .ref aB, .int (nI kn), .ref aT, .ref aV, .ref aP, .int (nI ln), .int pl, .int wr, .int le, .int on, .int tw])), (aS, .inl (K 0, 360, .inl fS))] s.heap := hP
  have hl := lv_entry ([.ref oM, .int 1, .int (nI j)]) (n := 3) (Nat.le_of_ble_eq_true rfl)
  rw [lg_entry_eq]
  generalize (lg_sl ([.ref oM, .int 1, .int (nI j)]) ++ List.replicate (3 - (lg_sl ([.ref oM, .int 1, .int (nI j)])).length) Slot.unset).toArray = ls at hl ⊢
  have hl : lv_has ls 3 [(0, .ref oM), (1, .int 1), (2, .int (nI j))] := hl
  refine lv_iload_n hx hb dX5_wipeFault_0 rfl (lv_at hl 1 rfl) ?_
  refine lv_iconst (v := 0) hx hb dX5_wipeFault_1 (by decide) ?_
  refine lv_iconst (v := 1) hx hb dX5_wipeFault_2 (by decide) ?_
  refine vp_callSi (va_Run.run (va_runS (As := [.int 1, .int 0, .int 1]) (rest := []) ⟨hx, hb, hml, hown, hts⟩ (c_X5_in_ok l D K 1 0 1 (by decide) (by decide)) (va_cwS 3 hts gX5_wipeFault_X5_in rfl rfl rfl (by decide +kernel) ⟨Nat.le_of_ble_eq_true rfl, Nat.le_of_ble_eq_true rfl⟩) pre_s0 rfl rfl hl.1 rfl (lv_room (Nat.le_of_ble_eq_true rfl)) dX5_wipeFault_3 ⟨Nat.zero_le _, Nat.zero_le _⟩)) (fun r_1 hr_1 => ?_)
  subst hr_1
  refine lv_if_eq (tgt := 21) hx hb dX5_wipeFault_6 (by decide) (fun h_2 => absurd h_2 (by decide)) (fun _ => ?_)
  refine lv_aload_n hx hb dX5_wipeFault_9 rfl (lv_at hl 0 rfl) ?_
  refine lv_iload_n hx hb dX5_wipeFault_10 rfl (lv_at hl 2 rfl) ?_
  have hPc := hP.sub (ws' := [(oM, .inr (5, [.ref aS, .ref aA, .ref aB, .int (nI kn), .ref aT, .ref aV, .ref aP, .int (nI ln), .int pl, .int wr, .int le, .int on, .int tw])), (aS, .inl (K 0, 360, .inl fS))]) [0, 1] rfl
  refine vp_callSi (va_Run.run (va_runV (As := [.int (nI j)]) (rest := []) ⟨hx, hb, hml, hown, hts⟩ (c_X5_isPlace_ok l D K oM aS aA aB aT aV aP fS kn ln pl wr le on tw n j hs0 hn1 hn hjn) (cwV 1 hts gX5_wipeFault_X5_isPlace rfl rfl rfl (by decide +kernel) ⟨Nat.le_of_ble_eq_true rfl, Nat.le_of_ble_eq_true rfl⟩) (pre_rd hbd hPc (ci := 5) (q0 := 0) rfl rfl) rfl rfl hl.1 rfl (lv_room (Nat.le_of_ble_eq_true rfl)) dX5_wipeFault_11 ⟨Nat.zero_le _, Nat.zero_le _⟩)) (fun r_3 hr_3 => ?_)
  subst hr_3
  refine lv_if_eq (tgt := 21) hx hb dX5_wipeFault_14 (by decide) (fun h_4 => absurd h_4 (by decide)) (fun _ => ?_)
  refine lv_iconst (v := 0) hx hb dX5_wipeFault_17 (by decide) ?_
  refine lv_goto (tgt := 22) hx hb dX5_wipeFault_18 (by decide) ?_
  exact W.iret hx hb hr (fun t ht hW => ⟨_, rfl, rfl, ht⟩) (fun q hq => absurd hq List.not_mem_nil) dX5_wipeFault_22
set_option maxHeartbeats 4000000 in
set_option maxRecDepth 100000 in
theorem c_X5_wipeFault_1n (l : Launch) (D : va_G) (K : Nat → ClassId) (oM : Nat) (aS : Nat) (aA : Nat) (aB : Nat) (aT : Nat) (aV : Nat) (aP : Nat) (fS : Nat → Int32) (kn : Nat) (ln : Nat) (pl : Int32) (wr : Int32) (le : Int32) (on : Int32) (tw : Int32) (n : Nat) (xp : Int32) (hs0 : fS 0 = nI n) (hn1 : 1 ≤ n) (hn : n ≤ 32) (hbad : xp < 0 ∨ nI n ≤ xp) : Met l yX5_wipeFault wsX5_wipeFault ({ frames := 2, cells := 0, slots := 0, locals := 43 }) (va_Pc [.ref oM, .int 1, .int xp] (fun U => Bd D K U ∧ va_P D vwCl [(oM, .inr (5, [.ref aS, .ref aA, .ref aB, .int (nI kn), .ref aT, .ref aV, .ref aP, .int (nI ln), .int pl, .int wr, .int le, .int on, .int tw])), (aS, .inl (K 0, 360, .inl fS))] U.heap)) (vp_Si (fun r => r = (-1))) 0 0 (fun _ => False) := by
  refine Met.ofW (cc := cX5_wipeFault) (maxL := 3) (ret := (some .int)) (by decide) rfl ?_
  intro p e s m args below meth c s₁ B hml hv
  obtain ⟨rfl, hbd, hP⟩ := hv
  have hx := B.exec
  have hb := B.bytes
  have hr := B.returns
  have hts := atoms_spec (ws := wsX5_wipeFault) B.pre
  have hown : s.vm.findClass RX5 = some m.cls := findClass_of_methodNamed B.named
  have hlocks := B.notSynchronized
  have hK := hbd.2
  have hP : va_P D vwCl [(oM, .inr (5, [.ref aS, .ref aA, .ref aB, .int (nI kn), .ref aT, .ref aV, .ref aP, .int (nI ln), .int pl, .int wr, .int le, .int on, .int tw])), (aS, .inl (K 0, 360, .inl fS))] s.heap := hP
  have hl := lv_entry ([.ref oM, .int 1, .int xp]) (n := 3) (Nat.le_of_ble_eq_true rfl)
  rw [lg_entry_eq]
  generalize (lg_sl ([.ref oM, .int 1, .int xp]) ++ List.replicate (3 - (lg_sl ([.ref oM, .int 1, .int xp])).length) Slot.unset).toArray = ls at hl ⊢
  have hl : lv_has ls 3 [(0, .ref oM), (1, .int 1), (2, .int xp)] := hl
  refine lv_iload_n hx hb dX5_wipeFault_0 rfl (lv_at hl 1 rfl) ?_
  refine lv_iconst (v := 0) hx hb dX5_wipeFault_1 (by decide) ?_
  refine lv_iconst (v := 1) hx hb dX5_wipeFault_2 (by decide) ?_
  refine vp_callSi (va_Run.run (va_runS (As := [.int 1, .int 0, .int 1]) (rest := []) ⟨hx, hb, hml, hown, hts⟩ (c_X5_in_ok l D K 1 0 1 (by decide) (by decide)) (va_cwS 3 hts gX5_wipeFault_X5_in rfl rfl rfl (by decide +kernel) ⟨Nat.le_of_ble_eq_true rfl, Nat.le_of_ble_eq_true rfl⟩) pre_s0 rfl rfl hl.1 rfl (lv_room (Nat.le_of_ble_eq_true rfl)) dX5_wipeFault_3 ⟨Nat.zero_le _, Nat.zero_le _⟩)) (fun r_1 hr_1 => ?_)
  subst hr_1
  refine lv_if_eq (tgt := 21) hx hb dX5_wipeFault_6 (by decide) (fun h_2 => absurd h_2 (by decide)) (fun _ => ?_)
  refine lv_aload_n hx hb dX5_wipeFault_9 rfl (lv_at hl 0 rfl) ?_
  refine lv_iload_n hx hb dX5_wipeFault_10 rfl (lv_at hl 2 rfl) ?_
  have hPc := hP.sub (ws' := [(oM, .inr (5, [.ref aS, .ref aA, .ref aB, .int (nI kn), .ref aT, .ref aV, .ref aP, .int (nI ln), .int pl, .int wr, .int le, .int on, .int tw])), (aS, .inl (K 0, 360, .inl fS))]) [0, 1] rfl
  refine vp_callSi (va_Run.run (va_runV (As := [.int xp]) (rest := []) ⟨hx, hb, hml, hown, hts⟩ (c_X5_isPlace_no l D K oM aS aA aB aT aV aP fS kn ln pl wr le on tw n xp hs0 hn1 hn hbad) (cwV 1 hts gX5_wipeFault_X5_isPlace rfl rfl rfl (by decide +kernel) ⟨Nat.le_of_ble_eq_true rfl, Nat.le_of_ble_eq_true rfl⟩) (pre_rd hbd hPc (ci := 5) (q0 := 0) rfl rfl) rfl rfl hl.1 rfl (lv_room (Nat.le_of_ble_eq_true rfl)) dX5_wipeFault_11 ⟨Nat.zero_le _, Nat.zero_le _⟩)) (fun r_3 hr_3 => ?_)
  subst hr_3
  refine lv_if_eq (tgt := 21) hx hb dX5_wipeFault_14 (by decide) (fun _ => ?_) (fun h_4 => absurd (by decide) h_4)
  refine lv_iconst (v := (-1)) hx hb dX5_wipeFault_21 (by decide) ?_
  exact W.iret hx hb hr (fun t ht hW => ⟨_, rfl, rfl, ht⟩) (fun q hq => absurd hq List.not_mem_nil) dX5_wipeFault_22
set_option maxHeartbeats 4000000 in
set_option maxRecDepth 100000 in
theorem c_X5_wipeFault_no (l : Launch) (D : va_G) (K : Nat → ClassId) (oM : Nat) (aS : Nat) (aA : Nat) (aB : Nat) (aT : Nat) (aV : Nat) (aP : Nat) (fS : Nat → Int32) (kn : Nat) (ln : Nat) (pl : Int32) (wr : Int32) (le : Int32) (on : Int32) (tw : Int32) (xs : Int32) (xp : Int32) (hs : xs < 0 ∨ 1 < xs) : Met l yX5_wipeFault wsX5_wipeFault ({ frames := 1, cells := 0, slots := 0, locals := 22 }) (va_Pc [.ref oM, .int xs, .int xp] (fun U => Bd D K U ∧ va_P D vwCl [(oM, .inr (5, [.ref aS, .ref aA, .ref aB, .int (nI kn), .ref aT, .ref aV, .ref aP, .int (nI ln), .int pl, .int wr, .int le, .int on, .int tw])), (aS, .inl (K 0, 360, .inl fS))] U.heap)) (vp_Si (fun r => r = (-1))) 0 0 (fun _ => False) := by
  refine Met.ofW (cc := cX5_wipeFault) (maxL := 3) (ret := (some .int)) (by decide) rfl ?_
  intro p e s m args below meth c s₁ B hml hv
  obtain ⟨rfl, hbd, hP⟩ := hv
  have hx := B.exec
  have hb := B.bytes
  have hr := B.returns
  have hts := atoms_spec (ws := wsX5_wipeFault) B.pre
  have hown : s.vm.findClass RX5 = some m.cls := findClass_of_methodNamed B.named
  have hlocks := B.notSynchronized
  have hK := hbd.2
  have hP : va_P D vwCl [(oM, .inr (5, [.ref aS, .ref aA, .ref aB, .int (nI kn), .ref aT, .ref aV, .ref aP, .int (nI ln), .int pl, .int wr, .int le, .int on, .int tw])), (aS, .inl (K 0, 360, .inl fS))] s.heap := hP
  have hl := lv_entry ([.ref oM, .int xs, .int xp]) (n := 3) (Nat.le_of_ble_eq_true rfl)
  rw [lg_entry_eq]
  generalize (lg_sl ([.ref oM, .int xs, .int xp]) ++ List.replicate (3 - (lg_sl ([.ref oM, .int xs, .int xp])).length) Slot.unset).toArray = ls at hl ⊢
  have hl : lv_has ls 3 [(0, .ref oM), (1, .int xs), (2, .int xp)] := hl
  refine lv_iload_n hx hb dX5_wipeFault_0 rfl (lv_at hl 1 rfl) ?_
  refine lv_iconst (v := 0) hx hb dX5_wipeFault_1 (by decide) ?_
  refine lv_iconst (v := 1) hx hb dX5_wipeFault_2 (by decide) ?_
  refine vp_callSi (va_Run.run (va_runS (As := [.int xs, .int 0, .int 1]) (rest := []) ⟨hx, hb, hml, hown, hts⟩ (c_X5_in_no l D K xs 0 1 hs) (va_cwS 3 hts gX5_wipeFault_X5_in rfl rfl rfl (by decide +kernel) ⟨Nat.le_of_ble_eq_true rfl, Nat.le_of_ble_eq_true rfl⟩) pre_s0 rfl rfl hl.1 rfl (lv_room (Nat.le_of_ble_eq_true rfl)) dX5_wipeFault_3 ⟨Nat.zero_le _, Nat.zero_le _⟩)) (fun r_1 hr_1 => ?_)
  subst hr_1
  refine lv_if_eq (tgt := 21) hx hb dX5_wipeFault_6 (by decide) (fun _ => ?_) (fun h_2 => absurd (by decide) h_2)
  refine lv_iconst (v := (-1)) hx hb dX5_wipeFault_21 (by decide) ?_
  exact W.iret hx hb hr (fun t ht hW => ⟨_, rfl, rfl, ht⟩) (fun q hq => absurd hq List.not_mem_nil) dX5_wipeFault_22
def n_X5_lay_1 (fS : Nat → Int32) (sg : Nat) (k : Nat) (j : Nat) (xd : Int32) (xs : Int32) : Nat → Int32 := (upd (upd (upd (upd (upd fS (40 + 160 * sg + 5 * k + 0) 1) (40 + 160 * sg + 5 * k + 1) (nI j)) (40 + 160 * sg + 5 * k + 2) (fS (8 + j))) (40 + 160 * sg + 5 * k + 3) xd) (40 + 160 * sg + 5 * k + 4) xs)
set_option maxHeartbeats 4000000 in
set_option maxRecDepth 100000 in
theorem c_X5_lay (l : Launch) (D : va_G) (K : Nat → ClassId) (oM : Nat) (aS : Nat) (aA : Nat) (aB : Nat) (aT : Nat) (aV : Nat) (aP : Nat) (fS : Nat → Int32) (fA : Nat → Int32) (fB : Nat → Int32) (fT : Nat → Int32) (fV : Nat → Int32) (fP : Nat → Int32) (kn : Nat) (ln : Nat) (pl : Int32) (wr : Int32) (le : Int32) (on : Int32) (tw : Int32) (sg : Nat) (k : Nat) (j : Nat) (xd : Int32) (xs : Int32) (hsg : sg < 2) (hk : k < 32) (hj : j < 32) : Met l yX5_lay wsX5_lay ({ frames := 1, cells := 0, slots := 0, locals := 22 }) (va_Pc [.ref oM, .int (nI sg), .int (nI k), .int (nI j), .int xd, .int xs] (fun U => Bd D K U ∧ va_P D vwCl [(oM, .inr (5, [.ref aS, .ref aA, .ref aB, .int (nI kn), .ref aT, .ref aV, .ref aP, .int (nI ln), .int pl, .int wr, .int le, .int on, .int tw])), (aS, .inl (K 0, 360, .inl fS)), (aA, .inl (K 0, 360, .inl fA)), (aB, .inl (K 0, 2160, .inl fB)), (aT, .inl (K 0, 720, .inl fT)), (aV, .inl (K 2, 2, .inl fV)), (aP, .inl (K 0, 80, .inl fP))] U.heap ∧ va_D (fun _ => True) [(oM, .inr (5, [.ref aS, .ref aA, .ref aB, .int (nI kn), .ref aT, .ref aV, .ref aP, .int (nI ln), .int pl, .int wr, .int le, .int on, .int tw])), (aS, .inl (K 0, 360, .inl fS)), (aA, .inl (K 0, 360, .inl fA)), (aB, .inl (K 0, 2160, .inl fB)), (aT, .inl (K 0, 720, .inl fT)), (aV, .inl (K 2, 2, .inl fV)), (aP, .inl (K 0, 80, .inl fP))])) (va_Qv (fun (_ : Unit) => True) (fun _ t => va_P D vwCl [(oM, .inr (5, [.ref aS, .ref aA, .ref aB, .int (nI kn), .ref aT, .ref aV, .ref aP, .int (nI ln), .int pl, .int wr, .int le, .int on, .int tw])), (aS, .inl (K 0, 360, .inl (n_X5_lay_1 fS sg k j xd xs))), (aA, .inl (K 0, 360, .inl fA)), (aB, .inl (K 0, 2160, .inl fB)), (aT, .inl (K 0, 720, .inl fT)), (aV, .inl (K 2, 2, .inl fV)), (aP, .inl (K 0, 80, .inl fP))] t.heap) (inW [(oM, .inr (5, [.ref aS, .ref aA, .ref aB, .int (nI kn), .ref aT, .ref aV, .ref aP, .int (nI ln), .int pl, .int wr, .int le, .int on, .int tw])), (aS, .inl (K 0, 360, .inl fS)), (aA, .inl (K 0, 360, .inl fA)), (aB, .inl (K 0, 2160, .inl fB)), (aT, .inl (K 0, 720, .inl fT)), (aV, .inl (K 2, 2, .inl fV)), (aP, .inl (K 0, 80, .inl fP))])) 0 0 (inW [(oM, .inr (5, [.ref aS, .ref aA, .ref aB, .int (nI kn), .ref aT, .ref aV, .ref aP, .int (nI ln), .int pl, .int wr, .int le, .int on, .int tw])), (aS, .inl (K 0, 360, .inl fS)), (aA, .inl (K 0, 360, .inl fA)), (aB, .inl (K 0, 2160, .inl fB)), (aT, .inl (K 0, 720, .inl fT)), (aV, .inl (K 2, 2, .inl fV)), (aP, .inl (K 0, 80, .inl fP))]) := by
  refine Met.ofW (cc := cX5_lay) (maxL := 6) (ret := none) (by decide) rfl ?_
  intro p e s m args below meth c s₁ B hml hv
  obtain ⟨rfl, hbd, hP, hD0⟩ := hv
  have hx := B.exec
  have hb := B.bytes
  have hr := B.returns
  have hts := atoms_spec (ws := wsX5_lay) B.pre
  have hown : s.vm.findClass RX5 = some m.cls := findClass_of_methodNamed B.named
  have hlocks := B.notSynchronized
  have hK := hbd.2
  have hP : va_P D vwCl [(oM, .inr (5, [.ref aS, .ref aA, .ref aB, .int (nI kn), .ref aT, .ref aV, .ref aP, .int (nI ln), .int pl, .int wr, .int le, .int on, .int tw])), (aS, .inl (K 0, 360, .inl fS)), (aA, .inl (K 0, 360, .inl fA)), (aB, .inl (K 0, 2160, .inl fB)), (aT, .inl (K 0, 720, .inl fT)), (aV, .inl (K 2, 2, .inl fV)), (aP, .inl (K 0, 80, .inl fP))] s.heap := hP
  have hin5 : ∀ w ∈ wsX50, w ∈ wsX5_lay := by decide +kernel
  have hD := hD0.own
  generalize hAe : inW [(oM, .inr (5, [.ref aS, .ref aA, .ref aB, .int (nI kn), .ref aT, .ref aV, .ref aP, .int (nI ln), .int pl, .int wr, .int le, .int on, .int tw])), (aS, .inl (K 0, 360, .inl fS)), (aA, .inl (K 0, 360, .inl fA)), (aB, .inl (K 0, 2160, .inl fB)), (aT, .inl (K 0, 720, .inl fT)), (aV, .inl (K 2, 2, .inl fV)), (aP, .inl (K 0, 80, .inl fP))] = A at hD ⊢
  have hS : va_S A s.heap s.heap [] := va_S.rf
  have hl := lv_entry ([.ref oM, .int (nI sg), .int (nI k), .int (nI j), .int xd, .int xs]) (n := 6) (Nat.le_of_ble_eq_true rfl)
  rw [lg_entry_eq]
  generalize (lg_sl ([.ref oM, .int (nI sg), .int (nI k), .int (nI j), .int xd, .int xs]) ++ List.replicate (6 - (lg_sl ([.ref oM, .int (nI sg), .int (nI k), .int (nI j), .int xd, .int xs])).length) Slot.unset).toArray = ls at hl ⊢
  have hl : lv_has ls 6 [(0, .ref oM), (1, .int (nI sg)), (2, .int (nI k)), (3, .int (nI j)), (4, .int xd), (5, .int xs)] := hl
  have K0 : ∀ (H : Heap) (locs : List Loc) (ls : Array Slot), va_P D vwCl [(oM, .inr (5, [.ref aS, .ref aA, .ref aB, .int (nI kn), .ref aT, .ref aV, .ref aP, .int (nI ln), .int pl, .int wr, .int le, .int on, .int tw])), (aS, .inl (K 0, 360, .inl fS)), (aA, .inl (K 0, 360, .inl fA)), (aB, .inl (K 0, 2160, .inl fB)), (aT, .inl (K 0, 720, .inl fT)), (aV, .inl (K 2, 2, .inl fV)), (aP, .inl (K 0, 80, .inl fP))] H → va_D A [(oM, .inr (5, [.ref aS, .ref aA, .ref aB, .int (nI kn), .ref aT, .ref aV, .ref aP, .int (nI ln), .int pl, .int wr, .int le, .int on, .int tw])), (aS, .inl (K 0, 360, .inl fS)), (aA, .inl (K 0, 360, .inl fA)), (aB, .inl (K 0, 2160, .inl fB)), (aT, .inl (K 0, 720, .inl fT)), (aV, .inl (K 2, 2, .inl fV)), (aP, .inl (K 0, 80, .inl fP))] → va_S A s.heap H locs → lv_has ls 6 [(0, .ref oM), (1, .int (nI sg)), (2, .int (nI k)), (3, .int (nI j)), (4, .int xd), (5, .int xs)] → W p l e (headSpec wsX5_lay ({ frames := 1, cells := 0, slots := 0, locals := 22 })).room s m ([.ref oM, .int (nI sg), .int (nI k), .int (nI j), .int xd, .int xs] : List Value).toArray below meth c H locs 0 0 (MQ below (va_Qv (fun (_ : Unit) => True) (fun _ t => va_P D vwCl [(oM, .inr (5, [.ref aS, .ref aA, .ref aB, .int (nI kn), .ref aT, .ref aV, .ref aP, .int (nI ln), .int pl, .int wr, .int le, .int on, .int tw])), (aS, .inl (K 0, 360, .inl (n_X5_lay_1 fS sg k j xd xs))), (aA, .inl (K 0, 360, .inl fA)), (aB, .inl (K 0, 2160, .inl fB)), (aT, .inl (K 0, 720, .inl fT)), (aV, .inl (K 2, 2, .inl fV)), (aP, .inl (K 0, 80, .inl fP))] t.heap) A) ([.ref oM, .int (nI sg), .int (nI k), .int (nI j), .int xd, .int xs] : List Value).toArray s 0 0 A) (F0 m 0 ls []) := by
    intro H locs ls hP hD hS hl
    refine lv_aload_n hx hb dX5_lay_0 rfl (lv_at hl 0 rfl) ?_
    refine va_get (D := D) (ci := 5) (v := .ref aS) (C := RX5) (T := TX5) (N := 13) hx hb hts hin5 hown hK hP 0 rfl rfl 0 (by decide) (hts _ (List.mem_of_getElem? (i := 1) rfl)) (fun _ h9 => h9) rfl dX5_lay_1 ?_
    refine lv_iload_n hx hb dX5_lay_4 rfl (lv_at hl 1 rfl) ?_
    refine lv_iload_n hx hb dX5_lay_5 rfl (lv_at hl 2 rfl) ?_
    refine lv_iconst (v := 0) hx hb dX5_lay_6 (by decide) ?_
    refine vp_callSi (va_Run.run (va_runS (As := [.int (nI sg), .int (nI k), .int 0]) (rest := [.ref aS]) ⟨hx, hb, hml, hown, hts⟩ (c_X5_of l D K sg k 0 ) (va_cwS 3 hts gX5_lay_X5_of rfl rfl rfl (by decide +kernel) ⟨Nat.le_of_ble_eq_true rfl, Nat.le_of_ble_eq_true rfl⟩) pre_s0 rfl rfl hl.1 rfl (lv_room (Nat.le_of_ble_eq_true rfl)) dX5_lay_7 ⟨Nat.zero_le _, Nat.zero_le _⟩)) (fun r_1 hr_1 => ?_)
    subst hr_1
    refine lv_iconst (v := 1) hx hb dX5_lay_10 (by decide) ?_
    refine n_iast hx hb hK hP hD hS 1 0 rfl rfl (40 + 160 * sg + 5 * k + 0) (by omega) (by decide) dX5_lay_11 (fun H locs hP hD hS => ?_)
    have hP : va_P D vwCl [(oM, .inr (5, [.ref aS, .ref aA, .ref aB, .int (nI kn), .ref aT, .ref aV, .ref aP, .int (nI ln), .int pl, .int wr, .int le, .int on, .int tw])), (aS, .inl (K 0, 360, .inl (upd fS (40 + 160 * sg + 5 * k + 0) 1))), (aA, .inl (K 0, 360, .inl fA)), (aB, .inl (K 0, 2160, .inl fB)), (aT, .inl (K 0, 720, .inl fT)), (aV, .inl (K 2, 2, .inl fV)), (aP, .inl (K 0, 80, .inl fP))] H := hP
    have hD : va_D A [(oM, .inr (5, [.ref aS, .ref aA, .ref aB, .int (nI kn), .ref aT, .ref aV, .ref aP, .int (nI ln), .int pl, .int wr, .int le, .int on, .int tw])), (aS, .inl (K 0, 360, .inl (upd fS (40 + 160 * sg + 5 * k + 0) 1))), (aA, .inl (K 0, 360, .inl fA)), (aB, .inl (K 0, 2160, .inl fB)), (aT, .inl (K 0, 720, .inl fT)), (aV, .inl (K 2, 2, .inl fV)), (aP, .inl (K 0, 80, .inl fP))] := hD
    refine lv_aload_n hx hb dX5_lay_12 rfl (lv_at hl 0 rfl) ?_
    refine va_get (D := D) (ci := 5) (v := .ref aS) (C := RX5) (T := TX5) (N := 13) hx hb hts hin5 hown hK hP 0 rfl rfl 0 (by decide) (hts _ (List.mem_of_getElem? (i := 1) rfl)) (fun _ h9 => h9) rfl dX5_lay_13 ?_
    refine lv_iload_n hx hb dX5_lay_16 rfl (lv_at hl 1 rfl) ?_
    refine lv_iload_n hx hb dX5_lay_17 rfl (lv_at hl 2 rfl) ?_
    refine lv_iconst (v := 1) hx hb dX5_lay_18 (by decide) ?_
    refine vp_callSi (va_Run.run (va_runS (As := [.int (nI sg), .int (nI k), .int 1]) (rest := [.ref aS]) ⟨hx, hb, hml, hown, hts⟩ (c_X5_of l D K sg k 1 ) (va_cwS 3 hts gX5_lay_X5_of rfl rfl rfl (by decide +kernel) ⟨Nat.le_of_ble_eq_true rfl, Nat.le_of_ble_eq_true rfl⟩) pre_s0 rfl rfl hl.1 rfl (lv_room (Nat.le_of_ble_eq_true rfl)) dX5_lay_19 ⟨Nat.zero_le _, Nat.zero_le _⟩)) (fun r_2 hr_2 => ?_)
    subst hr_2
    refine lv_iload_n hx hb dX5_lay_22 rfl (lv_at hl 3 rfl) ?_
    refine n_iast hx hb hK hP hD hS 1 0 rfl rfl (40 + 160 * sg + 5 * k + 1) (by omega) (by decide) dX5_lay_23 (fun H locs hP hD hS => ?_)
    have hP : va_P D vwCl [(oM, .inr (5, [.ref aS, .ref aA, .ref aB, .int (nI kn), .ref aT, .ref aV, .ref aP, .int (nI ln), .int pl, .int wr, .int le, .int on, .int tw])), (aS, .inl (K 0, 360, .inl (upd (upd fS (40 + 160 * sg + 5 * k + 0) 1) (40 + 160 * sg + 5 * k + 1) (nI j)))), (aA, .inl (K 0, 360, .inl fA)), (aB, .inl (K 0, 2160, .inl fB)), (aT, .inl (K 0, 720, .inl fT)), (aV, .inl (K 2, 2, .inl fV)), (aP, .inl (K 0, 80, .inl fP))] H := hP
    have hD : va_D A [(oM, .inr (5, [.ref aS, .ref aA, .ref aB, .int (nI kn), .ref aT, .ref aV, .ref aP, .int (nI ln), .int pl, .int wr, .int le, .int on, .int tw])), (aS, .inl (K 0, 360, .inl (upd (upd fS (40 + 160 * sg + 5 * k + 0) 1) (40 + 160 * sg + 5 * k + 1) (nI j)))), (aA, .inl (K 0, 360, .inl fA)), (aB, .inl (K 0, 2160, .inl fB)), (aT, .inl (K 0, 720, .inl fT)), (aV, .inl (K 2, 2, .inl fV)), (aP, .inl (K 0, 80, .inl fP))] := hD
    refine lv_aload_n hx hb dX5_lay_24 rfl (lv_at hl 0 rfl) ?_
    refine va_get (D := D) (ci := 5) (v := .ref aS) (C := RX5) (T := TX5) (N := 13) hx hb hts hin5 hown hK hP 0 rfl rfl 0 (by decide) (hts _ (List.mem_of_getElem? (i := 1) rfl)) (fun _ h9 => h9) rfl dX5_lay_25 ?_
    refine lv_iload_n hx hb dX5_lay_28 rfl (lv_at hl 1 rfl) ?_
    refine lv_iload_n hx hb dX5_lay_29 rfl (lv_at hl 2 rfl) ?_
    refine lv_iconst (v := 2) hx hb dX5_lay_30 (by decide) ?_
    refine vp_callSi (va_Run.run (va_runS (As := [.int (nI sg), .int (nI k), .int 2]) (rest := [.ref aS]) ⟨hx, hb, hml, hown, hts⟩ (c_X5_of l D K sg k 2 ) (va_cwS 3 hts gX5_lay_X5_of rfl rfl rfl (by decide +kernel) ⟨Nat.le_of_ble_eq_true rfl, Nat.le_of_ble_eq_true rfl⟩) pre_s0 rfl rfl hl.1 rfl (lv_room (Nat.le_of_ble_eq_true rfl)) dX5_lay_31 ⟨Nat.zero_le _, Nat.zero_le _⟩)) (fun r_3 hr_3 => ?_)
    subst hr_3
    refine lv_aload_n hx hb dX5_lay_34 rfl (lv_at hl 0 rfl) ?_
    refine va_get (D := D) (ci := 5) (v := .ref aS) (C := RX5) (T := TX5) (N := 13) hx hb hts hin5 hown hK hP 0 rfl rfl 0 (by decide) (hts _ (List.mem_of_getElem? (i := 1) rfl)) (fun _ h9 => h9) rfl dX5_lay_35 ?_
    refine lv_bipush (v := 8) hx hb dX5_lay_38 (by decide) ?_
    refine lv_iload_n hx hb dX5_lay_40 rfl (lv_at hl 3 rfl) ?_
    refine lv_iadd hx hb dX5_lay_41 ?_
    refine st1 (nI_add 8 j) ?_
    refine n_iald hx hb hK hP 1 0 rfl rfl (8 + j) (by omega) (by decide) dX5_lay_42 ?_
    refine st1 (pk_un (by omega)) ?_
    refine st1 (pk_un (by omega)) ?_
    refine n_iast hx hb hK hP hD hS 1 0 rfl rfl (40 + 160 * sg + 5 * k + 2) (by omega) (by decide) dX5_lay_43 (fun H locs hP hD hS => ?_)
    have hP : va_P D vwCl [(oM, .inr (5, [.ref aS, .ref aA, .ref aB, .int (nI kn), .ref aT, .ref aV, .ref aP, .int (nI ln), .int pl, .int wr, .int le, .int on, .int tw])), (aS, .inl (K 0, 360, .inl (upd (upd (upd fS (40 + 160 * sg + 5 * k + 0) 1) (40 + 160 * sg + 5 * k + 1) (nI j)) (40 + 160 * sg + 5 * k + 2) (fS (8 + j))))), (aA, .inl (K 0, 360, .inl fA)), (aB, .inl (K 0, 2160, .inl fB)), (aT, .inl (K 0, 720, .inl fT)), (aV, .inl (K 2, 2, .inl fV)), (aP, .inl (K 0, 80, .inl fP))] H := hP
    have hD : va_D A [(oM, .inr (5, [.ref aS, .ref aA, .ref aB, .int (nI kn), .ref aT, .ref aV, .ref aP, .int (nI ln), .int pl, .int wr, .int le, .int on, .int tw])), (aS, .inl (K 0, 360, .inl (upd (upd (upd fS (40 + 160 * sg + 5 * k + 0) 1) (40 + 160 * sg + 5 * k + 1) (nI j)) (40 + 160 * sg + 5 * k + 2) (fS (8 + j))))), (aA, .inl (K 0, 360, .inl fA)), (aB, .inl (K 0, 2160, .inl fB)), (aT, .inl (K 0, 720, .inl fT)), (aV, .inl (K 2, 2, .inl fV)), (aP, .inl (K 0, 80, .inl fP))] := hD
    refine lv_aload_n hx hb dX5_lay_44 rfl (lv_at hl 0 rfl) ?_
    refine va_get (D := D) (ci := 5) (v := .ref aS) (C := RX5) (T := TX5) (N := 13) hx hb hts hin5 hown hK hP 0 rfl rfl 0 (by decide) (hts _ (List.mem_of_getElem? (i := 1) rfl)) (fun _ h9 => h9) rfl dX5_lay_45 ?_
    refine lv_iload_n hx hb dX5_lay_48 rfl (lv_at hl 1 rfl) ?_
    refine lv_iload_n hx hb dX5_lay_49 rfl (lv_at hl 2 rfl) ?_
    refine lv_iconst (v := 3) hx hb dX5_lay_50 (by decide) ?_
    refine vp_callSi (va_Run.run (va_runS (As := [.int (nI sg), .int (nI k), .int 3]) (rest := [.ref aS]) ⟨hx, hb, hml, hown, hts⟩ (c_X5_of l D K sg k 3 ) (va_cwS 3 hts gX5_lay_X5_of rfl rfl rfl (by decide +kernel) ⟨Nat.le_of_ble_eq_true rfl, Nat.le_of_ble_eq_true rfl⟩) pre_s0 rfl rfl hl.1 rfl (lv_room (Nat.le_of_ble_eq_true rfl)) dX5_lay_51 ⟨Nat.zero_le _, Nat.zero_le _⟩)) (fun r_4 hr_4 => ?_)
    subst hr_4
    refine lv_iload hx hb dX5_lay_54 (lv_at hl 4 rfl) ?_
    refine n_iast hx hb hK hP hD hS 1 0 rfl rfl (40 + 160 * sg + 5 * k + 3) (by omega) (by decide) dX5_lay_56 (fun H locs hP hD hS => ?_)
    have hP : va_P D vwCl [(oM, .inr (5, [.ref aS, .ref aA, .ref aB, .int (nI kn), .ref aT, .ref aV, .ref aP, .int (nI ln), .int pl, .int wr, .int le, .int on, .int tw])), (aS, .inl (K 0, 360, .inl (upd (upd (upd (upd fS (40 + 160 * sg + 5 * k + 0) 1) (40 + 160 * sg + 5 * k + 1) (nI j)) (40 + 160 * sg + 5 * k + 2) (fS (8 + j))) (40 + 160 * sg + 5 * k + 3) xd))), (aA, .inl (K 0, 360, .inl fA)), (aB, .inl (K 0, 2160, .inl fB)), (aT, .inl (K 0, 720, .inl fT)), (aV, .inl (K 2, 2, .inl fV)), (aP, .inl (K 0, 80, .inl fP))] H := hP
    have hD : va_D A [(oM, .inr (5, [.ref aS, .ref aA, .ref aB, .int (nI kn), .ref aT, .ref aV, .ref aP, .int (nI ln), .int pl, .int wr, .int le, .int on, .int tw])), (aS, .inl (K 0, 360, .inl (upd (upd (upd (upd fS (40 + 160 * sg + 5 * k + 0) 1) (40 + 160 * sg + 5 * k + 1) (nI j)) (40 + 160 * sg + 5 * k + 2) (fS (8 + j))) (40 + 160 * sg + 5 * k + 3) xd))), (aA, .inl (K 0, 360, .inl fA)), (aB, .inl (K 0, 2160, .inl fB)), (aT, .inl (K 0, 720, .inl fT)), (aV, .inl (K 2, 2, .inl fV)), (aP, .inl (K 0, 80, .inl fP))] := hD
    refine lv_aload_n hx hb dX5_lay_57 rfl (lv_at hl 0 rfl) ?_
    refine va_get (D := D) (ci := 5) (v := .ref aS) (C := RX5) (T := TX5) (N := 13) hx hb hts hin5 hown hK hP 0 rfl rfl 0 (by decide) (hts _ (List.mem_of_getElem? (i := 1) rfl)) (fun _ h9 => h9) rfl dX5_lay_58 ?_
    refine lv_iload_n hx hb dX5_lay_61 rfl (lv_at hl 1 rfl) ?_
    refine lv_iload_n hx hb dX5_lay_62 rfl (lv_at hl 2 rfl) ?_
    refine lv_iconst (v := 4) hx hb dX5_lay_63 (by decide) ?_
    refine vp_callSi (va_Run.run (va_runS (As := [.int (nI sg), .int (nI k), .int 4]) (rest := [.ref aS]) ⟨hx, hb, hml, hown, hts⟩ (c_X5_of l D K sg k 4 ) (va_cwS 3 hts gX5_lay_X5_of rfl rfl rfl (by decide +kernel) ⟨Nat.le_of_ble_eq_true rfl, Nat.le_of_ble_eq_true rfl⟩) pre_s0 rfl rfl hl.1 rfl (lv_room (Nat.le_of_ble_eq_true rfl)) dX5_lay_64 ⟨Nat.zero_le _, Nat.zero_le _⟩)) (fun r_5 hr_5 => ?_)
    subst hr_5
    refine lv_iload hx hb dX5_lay_67 (lv_at hl 5 rfl) ?_
    refine n_iast hx hb hK hP hD hS 1 0 rfl rfl (40 + 160 * sg + 5 * k + 4) (by omega) (by decide) dX5_lay_69 (fun H locs hP hD hS => ?_)
    have hP : va_P D vwCl [(oM, .inr (5, [.ref aS, .ref aA, .ref aB, .int (nI kn), .ref aT, .ref aV, .ref aP, .int (nI ln), .int pl, .int wr, .int le, .int on, .int tw])), (aS, .inl (K 0, 360, .inl (upd (upd (upd (upd (upd fS (40 + 160 * sg + 5 * k + 0) 1) (40 + 160 * sg + 5 * k + 1) (nI j)) (40 + 160 * sg + 5 * k + 2) (fS (8 + j))) (40 + 160 * sg + 5 * k + 3) xd) (40 + 160 * sg + 5 * k + 4) xs))), (aA, .inl (K 0, 360, .inl fA)), (aB, .inl (K 0, 2160, .inl fB)), (aT, .inl (K 0, 720, .inl fT)), (aV, .inl (K 2, 2, .inl fV)), (aP, .inl (K 0, 80, .inl fP))] H := hP
    have hD : va_D A [(oM, .inr (5, [.ref aS, .ref aA, .ref aB, .int (nI kn), .ref aT, .ref aV, .ref aP, .int (nI ln), .int pl, .int wr, .int le, .int on, .int tw])), (aS, .inl (K 0, 360, .inl (upd (upd (upd (upd (upd fS (40 + 160 * sg + 5 * k + 0) 1) (40 + 160 * sg + 5 * k + 1) (nI j)) (40 + 160 * sg + 5 * k + 2) (fS (8 + j))) (40 + 160 * sg + 5 * k + 3) xd) (40 + 160 * sg + 5 * k + 4) xs))), (aA, .inl (K 0, 360, .inl fA)), (aB, .inl (K 0, 2160, .inl fB)), (aT, .inl (K 0, 720, .inl fT)), (aV, .inl (K 2, 2, .inl fV)), (aP, .inl (K 0, 80, .inl fP))] := hD
    have e_6 : n_X5_lay_1 fS sg k j xd xs = (upd (upd (upd (upd (upd fS (40 + 160 * sg + 5 * k + 0) 1) (40 + 160 * sg + 5 * k + 1) (nI j)) (40 + 160 * sg + 5 * k + 2) (fS (8 + j))) (40 + 160 * sg + 5 * k + 3) xd) (40 + 160 * sg + 5 * k + 4) xs) := rfl
    have hPf : va_P D vwCl [(oM, .inr (5, [.ref aS, .ref aA, .ref aB, .int (nI kn), .ref aT, .ref aV, .ref aP, .int (nI ln), .int pl, .int wr, .int le, .int on, .int tw])), (aS, .inl (K 0, 360, .inl (n_X5_lay_1 fS sg k j xd xs))), (aA, .inl (K 0, 360, .inl fA)), (aB, .inl (K 0, 2160, .inl fB)), (aT, .inl (K 0, 720, .inl fT)), (aV, .inl (K 2, 2, .inl fV)), (aP, .inl (K 0, 80, .inl fP))] H := (by rw [e_6]; exact hP)
    exact W.vret hx hb hr (fun t ht hW => ⟨⟨(), rfl, trivial, by show va_P D vwCl _ t.heap; rw [ht]; exact hPf⟩, hS.F ht⟩) hS.2.2 dX5_lay_70
  exact K0 s.heap [] ls hP hD hS hl
set_option maxHeartbeats 4000000 in
set_option maxRecDepth 100000 in
theorem c_X5_wipes (l : Launch) (D : va_G) (K : Nat → ClassId) (oM : Nat) (aS : Nat) (aA : Nat) (aB : Nat) (aT : Nat) (aV : Nat) (aP : Nat) (fS : Nat → Int32) (fA : Nat → Int32) (fB : Nat → Int32) (fT : Nat → Int32) (fV : Nat → Int32) (fP : Nat → Int32) (kn : Nat) (ln : Nat) (pl : Int32) (wr : Int32) (le : Int32) (on : Int32) (tw : Int32) (sg : Nat) (j : Nat) (hsg : sg < 2) (hj : j < 32) : Met l yX5_wipes wsX5_wipes ({ frames := 1, cells := 0, slots := 0, locals := 22 }) (va_Pc [.ref oM, .int (nI sg), .int (nI j)] (fun U => Bd D K U ∧ va_P D vwCl [(oM, .inr (5, [.ref aS, .ref aA, .ref aB, .int (nI kn), .ref aT, .ref aV, .ref aP, .int (nI ln), .int pl, .int wr, .int le, .int on, .int tw])), (aS, .inl (K 0, 360, .inl fS)), (aA, .inl (K 0, 360, .inl fA)), (aB, .inl (K 0, 2160, .inl fB)), (aT, .inl (K 0, 720, .inl fT)), (aV, .inl (K 2, 2, .inl fV)), (aP, .inl (K 0, 80, .inl fP))] U.heap ∧ va_D (fun _ => True) [(oM, .inr (5, [.ref aS, .ref aA, .ref aB, .int (nI kn), .ref aT, .ref aV, .ref aP, .int (nI ln), .int pl, .int wr, .int le, .int on, .int tw])), (aS, .inl (K 0, 360, .inl fS)), (aA, .inl (K 0, 360, .inl fA)), (aB, .inl (K 0, 2160, .inl fB)), (aT, .inl (K 0, 720, .inl fT)), (aV, .inl (K 2, 2, .inl fV)), (aP, .inl (K 0, 80, .inl fP))])) (va_Qi (fun r (_ : Unit) => r = (fS (40 + 160 * sg + 5 * j + 0))) (fun _ t => va_P D vwCl [(oM, .inr (5, [.ref aS, .ref aA, .ref aB, .int (nI kn), .ref aT, .ref aV, .ref aP, .int (nI ln), .int pl, .int wr, .int le, .int on, .int tw])), (aS, .inl (K 0, 360, .inl (upd fS (40 + 160 * sg + 5 * j + 0) 0))), (aA, .inl (K 0, 360, .inl fA)), (aB, .inl (K 0, 2160, .inl fB)), (aT, .inl (K 0, 720, .inl fT)), (aV, .inl (K 2, 2, .inl fV)), (aP, .inl (K 0, 80, .inl fP))] t.heap) (inW [(oM, .inr (5, [.ref aS, .ref aA, .ref aB, .int (nI kn), .ref aT, .ref aV, .ref aP, .int (nI ln), .int pl, .int wr, .int le, .int on, .int tw])), (aS, .inl (K 0, 360, .inl fS)), (aA, .inl (K 0, 360, .inl fA)), (aB, .inl (K 0, 2160, .inl fB)), (aT, .inl (K 0, 720, .inl fT)), (aV, .inl (K 2, 2, .inl fV)), (aP, .inl (K 0, 80, .inl fP))])) 0 0 (inW [(oM, .inr (5, [.ref aS, .ref aA, .ref aB, .int (nI kn), .ref aT, .ref aV, .ref aP, .int (nI ln), .int pl, .int wr, .int le, .int on, .int tw])), (aS, .inl (K 0, 360, .inl fS)), (aA, .inl (K 0, 360, .inl fA)), (aB, .inl (K 0, 2160, .inl fB)), (aT, .inl (K 0, 720, .inl fT)), (aV, .inl (K 2, 2, .inl fV)), (aP, .inl (K 0, 80, .inl fP))]) := by
  refine Met.ofW (cc := cX5_wipes) (maxL := 4) (ret := (some .int)) (by decide) rfl ?_
  intro p e s m args below meth c s₁ B hml hv
  obtain ⟨rfl, hbd, hP, hD0⟩ := hv
  have hx := B.exec
  have hb := B.bytes
  have hr := B.returns
  have hts := atoms_spec (ws := wsX5_wipes) B.pre
  have hown : s.vm.findClass RX5 = some m.cls := findClass_of_methodNamed B.named
  have hlocks := B.notSynchronized
  have hK := hbd.2
  have hP : va_P D vwCl [(oM, .inr (5, [.ref aS, .ref aA, .ref aB, .int (nI kn), .ref aT, .ref aV, .ref aP, .int (nI ln), .int pl, .int wr, .int le, .int on, .int tw])), (aS, .inl (K 0, 360, .inl fS)), (aA, .inl (K 0, 360, .inl fA)), (aB, .inl (K 0, 2160, .inl fB)), (aT, .inl (K 0, 720, .inl fT)), (aV, .inl (K 2, 2, .inl fV)), (aP, .inl (K 0, 80, .inl fP))] s.heap := hP
  have hin5 : ∀ w ∈ wsX50, w ∈ wsX5_wipes := by decide +kernel
  have hD := hD0.own
  generalize hAe : inW [(oM, .inr (5, [.ref aS, .ref aA, .ref aB, .int (nI kn), .ref aT, .ref aV, .ref aP, .int (nI ln), .int pl, .int wr, .int le, .int on, .int tw])), (aS, .inl (K 0, 360, .inl fS)), (aA, .inl (K 0, 360, .inl fA)), (aB, .inl (K 0, 2160, .inl fB)), (aT, .inl (K 0, 720, .inl fT)), (aV, .inl (K 2, 2, .inl fV)), (aP, .inl (K 0, 80, .inl fP))] = A at hD ⊢
  have hS : va_S A s.heap s.heap [] := va_S.rf
  have hl := lv_entry ([.ref oM, .int (nI sg), .int (nI j)]) (n := 4) (Nat.le_of_ble_eq_true rfl)
  rw [lg_entry_eq]
  generalize (lg_sl ([.ref oM, .int (nI sg), .int (nI j)]) ++ List.replicate (4 - (lg_sl ([.ref oM, .int (nI sg), .int (nI j)])).length) Slot.unset).toArray = ls at hl ⊢
  have hl : lv_has ls 4 [(0, .ref oM), (1, .int (nI sg)), (2, .int (nI j))] := hl
  have K0 : ∀ (H : Heap) (locs : List Loc) (ls : Array Slot), va_P D vwCl [(oM, .inr (5, [.ref aS, .ref aA, .ref aB, .int (nI kn), .ref aT, .ref aV, .ref aP, .int (nI ln), .int pl, .int wr, .int le, .int on, .int tw])), (aS, .inl (K 0, 360, .inl fS)), (aA, .inl (K 0, 360, .inl fA)), (aB, .inl (K 0, 2160, .inl fB)), (aT, .inl (K 0, 720, .inl fT)), (aV, .inl (K 2, 2, .inl fV)), (aP, .inl (K 0, 80, .inl fP))] H → va_D A [(oM, .inr (5, [.ref aS, .ref aA, .ref aB, .int (nI kn), .ref aT, .ref aV, .ref aP, .int (nI ln), .int pl, .int wr, .int le, .int on, .int tw])), (aS, .inl (K 0, 360, .inl fS)), (aA, .inl (K 0, 360, .inl fA)), (aB, .inl (K 0, 2160, .inl fB)), (aT, .inl (K 0, 720, .inl fT)), (aV, .inl (K 2, 2, .inl fV)), (aP, .inl (K 0, 80, .inl fP))] → va_S A s.heap H locs → lv_has ls 4 [(0, .ref oM), (1, .int (nI sg)), (2, .int (nI j))] → W p l e (headSpec wsX5_wipes ({ frames := 1, cells := 0, slots := 0, locals := 22 })).room s m ([.ref oM, .int (nI sg), .int (nI j)] : List Value).toArray below meth c H locs 0 0 (MQ below (va_Qi (fun r (_ : Unit) => r = (fS (40 + 160 * sg + 5 * j + 0))) (fun _ t => va_P D vwCl [(oM, .inr (5, [.ref aS, .ref aA, .ref aB, .int (nI kn), .ref aT, .ref aV, .ref aP, .int (nI ln), .int pl, .int wr, .int le, .int on, .int tw])), (aS, .inl (K 0, 360, .inl (upd fS (40 + 160 * sg + 5 * j + 0) 0))), (aA, .inl (K 0, 360, .inl fA)), (aB, .inl (K 0, 2160, .inl fB)), (aT, .inl (K 0, 720, .inl fT)), (aV, .inl (K 2, 2, .inl fV)), (aP, .inl (K 0, 80, .inl fP))] t.heap) A) ([.ref oM, .int (nI sg), .int (nI j)] : List Value).toArray s 0 0 A) (F0 m 0 ls []) := by
    intro H locs ls hP hD hS hl
    refine lv_aload_n hx hb dX5_wipes_0 rfl (lv_at hl 0 rfl) ?_
    refine va_get (D := D) (ci := 5) (v := .ref aS) (C := RX5) (T := TX5) (N := 13) hx hb hts hin5 hown hK hP 0 rfl rfl 0 (by decide) (hts _ (List.mem_of_getElem? (i := 1) rfl)) (fun _ h9 => h9) rfl dX5_wipes_1 ?_
    refine lv_iload_n hx hb dX5_wipes_4 rfl (lv_at hl 1 rfl) ?_
    refine lv_iload_n hx hb dX5_wipes_5 rfl (lv_at hl 2 rfl) ?_
    refine lv_iconst (v := 0) hx hb dX5_wipes_6 (by decide) ?_
    refine vp_callSi (va_Run.run (va_runS (As := [.int (nI sg), .int (nI j), .int 0]) (rest := [.ref aS]) ⟨hx, hb, hml, hown, hts⟩ (c_X5_of l D K sg j 0 ) (va_cwS 3 hts gX5_wipes_X5_of rfl rfl rfl (by decide +kernel) ⟨Nat.le_of_ble_eq_true rfl, Nat.le_of_ble_eq_true rfl⟩) pre_s0 rfl rfl hl.1 rfl (lv_room (Nat.le_of_ble_eq_true rfl)) dX5_wipes_7 ⟨Nat.zero_le _, Nat.zero_le _⟩)) (fun r_1 hr_1 => ?_)
    subst hr_1
    refine n_iald hx hb hK hP 1 0 rfl rfl (40 + 160 * sg + 5 * j + 0) (by omega) (by decide) dX5_wipes_10 ?_
    refine lv_istore_n (lv' := [(3, .int (fS (40 + 160 * sg + 5 * j + 0))), (0, .ref oM), (1, .int (nI sg)), (2, .int (nI j))]) hx hb dX5_wipes_11 rfl hl (by decide) rfl (fun ls hl => ?_)
    refine lv_aload_n hx hb dX5_wipes_12 rfl (lv_at hl 1 rfl) ?_
    refine va_get (D := D) (ci := 5) (v := .ref aS) (C := RX5) (T := TX5) (N := 13) hx hb hts hin5 hown hK hP 0 rfl rfl 0 (by decide) (hts _ (List.mem_of_getElem? (i := 1) rfl)) (fun _ h9 => h9) rfl dX5_wipes_13 ?_
    refine lv_iload_n hx hb dX5_wipes_16 rfl (lv_at hl 2 rfl) ?_
    refine lv_iload_n hx hb dX5_wipes_17 rfl (lv_at hl 3 rfl) ?_
    refine lv_iconst (v := 0) hx hb dX5_wipes_18 (by decide) ?_
    refine vp_callSi (va_Run.run (va_runS (As := [.int (nI sg), .int (nI j), .int 0]) (rest := [.ref aS]) ⟨hx, hb, hml, hown, hts⟩ (c_X5_of l D K sg j 0 ) (va_cwS 3 hts gX5_wipes_X5_of rfl rfl rfl (by decide +kernel) ⟨Nat.le_of_ble_eq_true rfl, Nat.le_of_ble_eq_true rfl⟩) pre_s0 rfl rfl hl.1 rfl (lv_room (Nat.le_of_ble_eq_true rfl)) dX5_wipes_19 ⟨Nat.zero_le _, Nat.zero_le _⟩)) (fun r_2 hr_2 => ?_)
    subst hr_2
    refine lv_iconst (v := 0) hx hb dX5_wipes_22 (by decide) ?_
    refine n_iast hx hb hK hP hD hS 1 0 rfl rfl (40 + 160 * sg + 5 * j + 0) (by omega) (by decide) dX5_wipes_23 (fun H locs hP hD hS => ?_)
    have hP : va_P D vwCl [(oM, .inr (5, [.ref aS, .ref aA, .ref aB, .int (nI kn), .ref aT, .ref aV, .ref aP, .int (nI ln), .int pl, .int wr, .int le, .int on, .int tw])), (aS, .inl (K 0, 360, .inl (upd fS (40 + 160 * sg + 5 * j + 0) 0))), (aA, .inl (K 0, 360, .inl fA)), (aB, .inl (K 0, 2160, .inl fB)), (aT, .inl (K 0, 720, .inl fT)), (aV, .inl (K 2, 2, .inl fV)), (aP, .inl (K 0, 80, .inl fP))] H := hP
    have hD : va_D A [(oM, .inr (5, [.ref aS, .ref aA, .ref aB, .int (nI kn), .ref aT, .ref aV, .ref aP, .int (nI ln), .int pl, .int wr, .int le, .int on, .int tw])), (aS, .inl (K 0, 360, .inl (upd fS (40 + 160 * sg + 5 * j + 0) 0))), (aA, .inl (K 0, 360, .inl fA)), (aB, .inl (K 0, 2160, .inl fB)), (aT, .inl (K 0, 720, .inl fT)), (aV, .inl (K 2, 2, .inl fV)), (aP, .inl (K 0, 80, .inl fP))] := hD
    refine lv_iload_n hx hb dX5_wipes_24 rfl (lv_at hl 0 rfl) ?_
    have hPf : va_P D vwCl [(oM, .inr (5, [.ref aS, .ref aA, .ref aB, .int (nI kn), .ref aT, .ref aV, .ref aP, .int (nI ln), .int pl, .int wr, .int le, .int on, .int tw])), (aS, .inl (K 0, 360, .inl (upd fS (40 + 160 * sg + 5 * j + 0) 0))), (aA, .inl (K 0, 360, .inl fA)), (aB, .inl (K 0, 2160, .inl fB)), (aT, .inl (K 0, 720, .inl fT)), (aV, .inl (K 2, 2, .inl fV)), (aP, .inl (K 0, 80, .inl fP))] H := hP
    exact W.iret hx hb hr (fun t ht hW => ⟨⟨_, (), rfl, rfl, by show va_P D vwCl _ t.heap; rw [ht]; exact hPf⟩, hS.F ht⟩) hS.2.2 dX5_wipes_25
  exact K0 s.heap [] ls hP hD hS hl
set_option maxHeartbeats 4000000 in
set_option maxRecDepth 100000 in
theorem c_X5_awaits (l : Launch) (D : va_G) (K : Nat → ClassId) (oM : Nat) (aS : Nat) (aA : Nat) (aB : Nat) (aT : Nat) (aV : Nat) (aP : Nat) (fS : Nat → Int32) (fA : Nat → Int32) (fB : Nat → Int32) (fT : Nat → Int32) (fV : Nat → Int32) (fP : Nat → Int32) (kn : Nat) (ln : Nat) (pl : Int32) (wr : Int32) (le : Int32) (on : Int32) (tw : Int32) (sg : Nat) (xk : Int32) (hsg : sg < 2) : Met l yX5_awaits wsX5_awaits ({ frames := 0, cells := 0, slots := 0, locals := 0 }) (va_Pc [.ref oM, .int (nI sg), .int xk] (fun U => Bd D K U ∧ va_P D vwCl [(oM, .inr (5, [.ref aS, .ref aA, .ref aB, .int (nI kn), .ref aT, .ref aV, .ref aP, .int (nI ln), .int pl, .int wr, .int le, .int on, .int tw])), (aS, .inl (K 0, 360, .inl fS)), (aA, .inl (K 0, 360, .inl fA)), (aB, .inl (K 0, 2160, .inl fB)), (aT, .inl (K 0, 720, .inl fT)), (aV, .inl (K 2, 2, .inl fV)), (aP, .inl (K 0, 80, .inl fP))] U.heap ∧ va_D (fun _ => True) [(oM, .inr (5, [.ref aS, .ref aA, .ref aB, .int (nI kn), .ref aT, .ref aV, .ref aP, .int (nI ln), .int pl, .int wr, .int le, .int on, .int tw])), (aS, .inl (K 0, 360, .inl fS)), (aA, .inl (K 0, 360, .inl fA)), (aB, .inl (K 0, 2160, .inl fB)), (aT, .inl (K 0, 720, .inl fT)), (aV, .inl (K 2, 2, .inl fV)), (aP, .inl (K 0, 80, .inl fP))])) (va_Qi (fun r (_ : Unit) => r = (fS (1 + sg))) (fun _ t => va_P D vwCl [(oM, .inr (5, [.ref aS, .ref aA, .ref aB, .int (nI kn), .ref aT, .ref aV, .ref aP, .int (nI ln), .int pl, .int wr, .int le, .int on, .int tw])), (aS, .inl (K 0, 360, .inl (upd fS (1 + sg) xk))), (aA, .inl (K 0, 360, .inl fA)), (aB, .inl (K 0, 2160, .inl fB)), (aT, .inl (K 0, 720, .inl fT)), (aV, .inl (K 2, 2, .inl fV)), (aP, .inl (K 0, 80, .inl fP))] t.heap) (inW [(oM, .inr (5, [.ref aS, .ref aA, .ref aB, .int (nI kn), .ref aT, .ref aV, .ref aP, .int (nI ln), .int pl, .int wr, .int le, .int on, .int tw])), (aS, .inl (K 0, 360, .inl fS)), (aA, .inl (K 0, 360, .inl fA)), (aB, .inl (K 0, 2160, .inl fB)), (aT, .inl (K 0, 720, .inl fT)), (aV, .inl (K 2, 2, .inl fV)), (aP, .inl (K 0, 80, .inl fP))])) 0 0 (inW [(oM, .inr (5, [.ref aS, .ref aA, .ref aB, .int (nI kn), .ref aT, .ref aV, .ref aP, .int (nI ln), .int pl, .int wr, .int le, .int on, .int tw])), (aS, .inl (K 0, 360, .inl fS)), (aA, .inl (K 0, 360, .inl fA)), (aB, .inl (K 0, 2160, .inl fB)), (aT, .inl (K 0, 720, .inl fT)), (aV, .inl (K 2, 2, .inl fV)), (aP, .inl (K 0, 80, .inl fP))]) := by
  refine Met.ofW (cc := cX5_awaits) (maxL := 4) (ret := (some .int)) (by decide) rfl ?_
  intro p e s m args below meth c s₁ B hml hv
  obtain ⟨rfl, hbd, hP, hD0⟩ := hv
  have hx := B.exec
  have hb := B.bytes
  have hr := B.returns
  have hts := atoms_spec (ws := wsX5_awaits) B.pre
  have hown : s.vm.findClass RX5 = some m.cls := findClass_of_methodNamed B.named
  have hlocks := B.notSynchronized
  have hK := hbd.2
  have hP : va_P D vwCl [(oM, .inr (5, [.ref aS, .ref aA, .ref aB, .int (nI kn), .ref aT, .ref aV, .ref aP, .int (nI ln), .int pl, .int wr, .int le, .int on, .int tw])), (aS, .inl (K 0, 360, .inl fS)), (aA, .inl (K 0, 360, .inl fA)), (aB, .inl (K 0, 2160, .inl fB)), (aT, .inl (K 0, 720, .inl fT)), (aV, .inl (K 2, 2, .inl fV)), (aP, .inl (K 0, 80, .inl fP))] s.heap := hP
  have hin5 : ∀ w ∈ wsX50, w ∈ wsX5_awaits := by decide +kernel
  have hD := hD0.own
  generalize hAe : inW [(oM, .inr (5, [.ref aS, .ref aA, .ref aB, .int (nI kn), .ref aT, .ref aV, .ref aP, .int (nI ln), .int pl, .int wr, .int le, .int on, .int tw])), (aS, .inl (K 0, 360, .inl fS)), (aA, .inl (K 0, 360, .inl fA)), (aB, .inl (K 0, 2160, .inl fB)), (aT, .inl (K 0, 720, .inl fT)), (aV, .inl (K 2, 2, .inl fV)), (aP, .inl (K 0, 80, .inl fP))] = A at hD ⊢
  have hS : va_S A s.heap s.heap [] := va_S.rf
  have hl := lv_entry ([.ref oM, .int (nI sg), .int xk]) (n := 4) (Nat.le_of_ble_eq_true rfl)
  rw [lg_entry_eq]
  generalize (lg_sl ([.ref oM, .int (nI sg), .int xk]) ++ List.replicate (4 - (lg_sl ([.ref oM, .int (nI sg), .int xk])).length) Slot.unset).toArray = ls at hl ⊢
  have hl : lv_has ls 4 [(0, .ref oM), (1, .int (nI sg)), (2, .int xk)] := hl
  have K0 : ∀ (H : Heap) (locs : List Loc) (ls : Array Slot), va_P D vwCl [(oM, .inr (5, [.ref aS, .ref aA, .ref aB, .int (nI kn), .ref aT, .ref aV, .ref aP, .int (nI ln), .int pl, .int wr, .int le, .int on, .int tw])), (aS, .inl (K 0, 360, .inl fS)), (aA, .inl (K 0, 360, .inl fA)), (aB, .inl (K 0, 2160, .inl fB)), (aT, .inl (K 0, 720, .inl fT)), (aV, .inl (K 2, 2, .inl fV)), (aP, .inl (K 0, 80, .inl fP))] H → va_D A [(oM, .inr (5, [.ref aS, .ref aA, .ref aB, .int (nI kn), .ref aT, .ref aV, .ref aP, .int (nI ln), .int pl, .int wr, .int le, .int on, .int tw])), (aS, .inl (K 0, 360, .inl fS)), (aA, .inl (K 0, 360, .inl fA)), (aB, .inl (K 0, 2160, .inl fB)), (aT, .inl (K 0, 720, .inl fT)), (aV, .inl (K 2, 2, .inl fV)), (aP, .inl (K 0, 80, .inl fP))] → va_S A s.heap H locs → lv_has ls 4 [(0, .ref oM), (1, .int (nI sg)), (2, .int xk)] → W p l e (headSpec wsX5_awaits ({ frames := 0, cells := 0, slots := 0, locals := 0 })).room s m ([.ref oM, .int (nI sg), .int xk] : List Value).toArray below meth c H locs 0 0 (MQ below (va_Qi (fun r (_ : Unit) => r = (fS (1 + sg))) (fun _ t => va_P D vwCl [(oM, .inr (5, [.ref aS, .ref aA, .ref aB, .int (nI kn), .ref aT, .ref aV, .ref aP, .int (nI ln), .int pl, .int wr, .int le, .int on, .int tw])), (aS, .inl (K 0, 360, .inl (upd fS (1 + sg) xk))), (aA, .inl (K 0, 360, .inl fA)), (aB, .inl (K 0, 2160, .inl fB)), (aT, .inl (K 0, 720, .inl fT)), (aV, .inl (K 2, 2, .inl fV)), (aP, .inl (K 0, 80, .inl fP))] t.heap) A) ([.ref oM, .int (nI sg), .int xk] : List Value).toArray s 0 0 A) (F0 m 0 ls []) := by
    intro H locs ls hP hD hS hl
    refine lv_aload_n hx hb dX5_awaits_0 rfl (lv_at hl 0 rfl) ?_
    refine va_get (D := D) (ci := 5) (v := .ref aS) (C := RX5) (T := TX5) (N := 13) hx hb hts hin5 hown hK hP 0 rfl rfl 0 (by decide) (hts _ (List.mem_of_getElem? (i := 1) rfl)) (fun _ h9 => h9) rfl dX5_awaits_1 ?_
    refine lv_iconst (v := 1) hx hb dX5_awaits_4 (by decide) ?_
    refine lv_iload_n hx hb dX5_awaits_5 rfl (lv_at hl 1 rfl) ?_
    refine lv_iadd hx hb dX5_awaits_6 ?_
    refine st1 (nI_add 1 sg) ?_
    refine n_iald hx hb hK hP 1 0 rfl rfl (1 + sg) (by omega) (by decide) dX5_awaits_7 ?_
    refine lv_istore_n (lv' := [(3, .int (fS (1 + sg))), (0, .ref oM), (1, .int (nI sg)), (2, .int xk)]) hx hb dX5_awaits_8 rfl hl (by decide) rfl (fun ls hl => ?_)
    refine lv_aload_n hx hb dX5_awaits_9 rfl (lv_at hl 1 rfl) ?_
    refine va_get (D := D) (ci := 5) (v := .ref aS) (C := RX5) (T := TX5) (N := 13) hx hb hts hin5 hown hK hP 0 rfl rfl 0 (by decide) (hts _ (List.mem_of_getElem? (i := 1) rfl)) (fun _ h9 => h9) rfl dX5_awaits_10 ?_
    refine lv_iconst (v := 1) hx hb dX5_awaits_13 (by decide) ?_
    refine lv_iload_n hx hb dX5_awaits_14 rfl (lv_at hl 2 rfl) ?_
    refine lv_iadd hx hb dX5_awaits_15 ?_
    refine st1 (nI_add 1 sg) ?_
    refine lv_iload_n hx hb dX5_awaits_16 rfl (lv_at hl 3 rfl) ?_
    refine n_iast hx hb hK hP hD hS 1 0 rfl rfl (1 + sg) (by omega) (by decide) dX5_awaits_17 (fun H locs hP hD hS => ?_)
    have hP : va_P D vwCl [(oM, .inr (5, [.ref aS, .ref aA, .ref aB, .int (nI kn), .ref aT, .ref aV, .ref aP, .int (nI ln), .int pl, .int wr, .int le, .int on, .int tw])), (aS, .inl (K 0, 360, .inl (upd fS (1 + sg) xk))), (aA, .inl (K 0, 360, .inl fA)), (aB, .inl (K 0, 2160, .inl fB)), (aT, .inl (K 0, 720, .inl fT)), (aV, .inl (K 2, 2, .inl fV)), (aP, .inl (K 0, 80, .inl fP))] H := hP
    have hD : va_D A [(oM, .inr (5, [.ref aS, .ref aA, .ref aB, .int (nI kn), .ref aT, .ref aV, .ref aP, .int (nI ln), .int pl, .int wr, .int le, .int on, .int tw])), (aS, .inl (K 0, 360, .inl (upd fS (1 + sg) xk))), (aA, .inl (K 0, 360, .inl fA)), (aB, .inl (K 0, 2160, .inl fB)), (aT, .inl (K 0, 720, .inl fT)), (aV, .inl (K 2, 2, .inl fV)), (aP, .inl (K 0, 80, .inl fP))] := hD
    refine lv_iload_n hx hb dX5_awaits_18 rfl (lv_at hl 0 rfl) ?_
    have hPf : va_P D vwCl [(oM, .inr (5, [.ref aS, .ref aA, .ref aB, .int (nI kn), .ref aT, .ref aV, .ref aP, .int (nI ln), .int pl, .int wr, .int le, .int on, .int tw])), (aS, .inl (K 0, 360, .inl (upd fS (1 + sg) xk))), (aA, .inl (K 0, 360, .inl fA)), (aB, .inl (K 0, 2160, .inl fB)), (aT, .inl (K 0, 720, .inl fT)), (aV, .inl (K 2, 2, .inl fV)), (aP, .inl (K 0, 80, .inl fP))] H := hP
    exact W.iret hx hb hr (fun t ht hW => ⟨⟨_, (), rfl, rfl, by show va_P D vwCl _ t.heap; rw [ht]; exact hPf⟩, hS.F ht⟩) hS.2.2 dX5_awaits_19
  exact K0 s.heap [] ls hP hD hS hl
def n_X5_reads_1 (fS : Nat → Int32) (j : Nat) : Nat → Int32 := (upd (upd (upd fS 4 ((fS 4) + 1)) 5 ((fS 5) + (if (fS (8 + j)) ≤ 0 then 0 else (if (r_X5_isBelieved (upd fS 4 ((fS 4) + 1)) 0 j) = 0 then 1 else 0)))) 6 ((fS 6) + (if (r_X5_isLost (upd (upd fS 4 ((fS 4) + 1)) 5 ((fS 5) + (if (fS (8 + j)) ≤ 0 then 0 else (if (r_X5_isBelieved (upd fS 4 ((fS 4) + 1)) 0 j) = 0 then 1 else 0)))) j) = 0 then 0 else 1)))
set_option maxHeartbeats 4000000 in
set_option maxRecDepth 100000 in
theorem c_X5_reads (l : Launch) (D : va_G) (K : Nat → ClassId) (oM : Nat) (aS : Nat) (aA : Nat) (aB : Nat) (aT : Nat) (aV : Nat) (aP : Nat) (fS : Nat → Int32) (fA : Nat → Int32) (fB : Nat → Int32) (fT : Nat → Int32) (fV : Nat → Int32) (fP : Nat → Int32) (kn : Nat) (ln : Nat) (pl : Int32) (wr : Int32) (le : Int32) (on : Int32) (tw : Int32) (j : Nat) (hj : j < 32) : Met l yX5_reads wsX5_reads ({ frames := 5, cells := 0, slots := 0, locals := 110 }) (va_Pc [.ref oM, .int (nI j)] (fun U => Bd D K U ∧ va_P D vwCl [(oM, .inr (5, [.ref aS, .ref aA, .ref aB, .int (nI kn), .ref aT, .ref aV, .ref aP, .int (nI ln), .int pl, .int wr, .int le, .int on, .int tw])), (aS, .inl (K 0, 360, .inl fS)), (aA, .inl (K 0, 360, .inl fA)), (aB, .inl (K 0, 2160, .inl fB)), (aT, .inl (K 0, 720, .inl fT)), (aV, .inl (K 2, 2, .inl fV)), (aP, .inl (K 0, 80, .inl fP))] U.heap ∧ va_D (fun _ => True) [(oM, .inr (5, [.ref aS, .ref aA, .ref aB, .int (nI kn), .ref aT, .ref aV, .ref aP, .int (nI ln), .int pl, .int wr, .int le, .int on, .int tw])), (aS, .inl (K 0, 360, .inl fS)), (aA, .inl (K 0, 360, .inl fA)), (aB, .inl (K 0, 2160, .inl fB)), (aT, .inl (K 0, 720, .inl fT)), (aV, .inl (K 2, 2, .inl fV)), (aP, .inl (K 0, 80, .inl fP))])) (va_Qi (fun r (_ : Unit) => r = (r_X5_readable (upd (upd (upd fS 4 ((fS 4) + 1)) 5 ((fS 5) + (if (fS (8 + j)) ≤ 0 then 0 else (if (r_X5_isBelieved (upd fS 4 ((fS 4) + 1)) 0 j) = 0 then 1 else 0)))) 6 ((fS 6) + (if (r_X5_isLost (upd (upd fS 4 ((fS 4) + 1)) 5 ((fS 5) + (if (fS (8 + j)) ≤ 0 then 0 else (if (r_X5_isBelieved (upd fS 4 ((fS 4) + 1)) 0 j) = 0 then 1 else 0)))) j) = 0 then 0 else 1))) j)) (fun _ t => va_P D vwCl [(oM, .inr (5, [.ref aS, .ref aA, .ref aB, .int (nI kn), .ref aT, .ref aV, .ref aP, .int (nI ln), .int pl, .int wr, .int le, .int on, .int tw])), (aS, .inl (K 0, 360, .inl (n_X5_reads_1 fS j))), (aA, .inl (K 0, 360, .inl fA)), (aB, .inl (K 0, 2160, .inl fB)), (aT, .inl (K 0, 720, .inl fT)), (aV, .inl (K 2, 2, .inl fV)), (aP, .inl (K 0, 80, .inl fP))] t.heap) (inW [(oM, .inr (5, [.ref aS, .ref aA, .ref aB, .int (nI kn), .ref aT, .ref aV, .ref aP, .int (nI ln), .int pl, .int wr, .int le, .int on, .int tw])), (aS, .inl (K 0, 360, .inl fS)), (aA, .inl (K 0, 360, .inl fA)), (aB, .inl (K 0, 2160, .inl fB)), (aT, .inl (K 0, 720, .inl fT)), (aV, .inl (K 2, 2, .inl fV)), (aP, .inl (K 0, 80, .inl fP))])) 0 0 (inW [(oM, .inr (5, [.ref aS, .ref aA, .ref aB, .int (nI kn), .ref aT, .ref aV, .ref aP, .int (nI ln), .int pl, .int wr, .int le, .int on, .int tw])), (aS, .inl (K 0, 360, .inl fS)), (aA, .inl (K 0, 360, .inl fA)), (aB, .inl (K 0, 2160, .inl fB)), (aT, .inl (K 0, 720, .inl fT)), (aV, .inl (K 2, 2, .inl fV)), (aP, .inl (K 0, 80, .inl fP))]) := by
  refine Met.ofW (cc := cX5_reads) (maxL := 2) (ret := (some .int)) (by decide) rfl ?_
  intro p e s m args below meth c s₁ B hml hv
  obtain ⟨rfl, hbd, hP, hD0⟩ := hv
  have hx := B.exec
  have hb := B.bytes
  have hr := B.returns
  have hts := atoms_spec (ws := wsX5_reads) B.pre
  have hown : s.vm.findClass RX5 = some m.cls := findClass_of_methodNamed B.named
  have hlocks := B.notSynchronized
  have hK := hbd.2
  have hP : va_P D vwCl [(oM, .inr (5, [.ref aS, .ref aA, .ref aB, .int (nI kn), .ref aT, .ref aV, .ref aP, .int (nI ln), .int pl, .int wr, .int le, .int on, .int tw])), (aS, .inl (K 0, 360, .inl fS)), (aA, .inl (K 0, 360, .inl fA)), (aB, .inl (K 0, 2160, .inl fB)), (aT, .inl (K 0, 720, .inl fT)), (aV, .inl (K 2, 2, .inl fV)), (aP, .inl (K 0, 80, .inl fP))] s.heap := hP
  have hin5 : ∀ w ∈ wsX50, w ∈ wsX5_reads := by decide +kernel
  have hD := hD0.own
  generalize hAe : inW [(oM, .inr (5, [.ref aS, .ref aA, .ref aB, .int (nI kn), .ref aT, .ref aV, .ref aP, .int (nI ln), .int pl, .int wr, .int le, .int on, .int tw])), (aS, .inl (K 0, 360, .inl fS)), (aA, .inl (K 0, 360, .inl fA)), (aB, .inl (K 0, 2160, .inl fB)), (aT, .inl (K 0, 720, .inl fT)), (aV, .inl (K 2, 2, .inl fV)), (aP, .inl (K 0, 80, .inl fP))] = A at hD ⊢
  have hS : va_S A s.heap s.heap [] := va_S.rf
  have hl := lv_entry ([.ref oM, .int (nI j)]) (n := 2) (Nat.le_of_ble_eq_true rfl)
  rw [lg_entry_eq]
  generalize (lg_sl ([.ref oM, .int (nI j)]) ++ List.replicate (2 - (lg_sl ([.ref oM, .int (nI j)])).length) Slot.unset).toArray = ls at hl ⊢
  have hl : lv_has ls 2 [(0, .ref oM), (1, .int (nI j))] := hl
  have K0 : ∀ (H : Heap) (locs : List Loc) (ls : Array Slot), va_P D vwCl [(oM, .inr (5, [.ref aS, .ref aA, .ref aB, .int (nI kn), .ref aT, .ref aV, .ref aP, .int (nI ln), .int pl, .int wr, .int le, .int on, .int tw])), (aS, .inl (K 0, 360, .inl fS)), (aA, .inl (K 0, 360, .inl fA)), (aB, .inl (K 0, 2160, .inl fB)), (aT, .inl (K 0, 720, .inl fT)), (aV, .inl (K 2, 2, .inl fV)), (aP, .inl (K 0, 80, .inl fP))] H → va_D A [(oM, .inr (5, [.ref aS, .ref aA, .ref aB, .int (nI kn), .ref aT, .ref aV, .ref aP, .int (nI ln), .int pl, .int wr, .int le, .int on, .int tw])), (aS, .inl (K 0, 360, .inl fS)), (aA, .inl (K 0, 360, .inl fA)), (aB, .inl (K 0, 2160, .inl fB)), (aT, .inl (K 0, 720, .inl fT)), (aV, .inl (K 2, 2, .inl fV)), (aP, .inl (K 0, 80, .inl fP))] → va_S A s.heap H locs → lv_has ls 2 [(0, .ref oM), (1, .int (nI j))] → W p l e (headSpec wsX5_reads ({ frames := 5, cells := 0, slots := 0, locals := 110 })).room s m ([.ref oM, .int (nI j)] : List Value).toArray below meth c H locs 0 0 (MQ below (va_Qi (fun r (_ : Unit) => r = (r_X5_readable (upd (upd (upd fS 4 ((fS 4) + 1)) 5 ((fS 5) + (if (fS (8 + j)) ≤ 0 then 0 else (if (r_X5_isBelieved (upd fS 4 ((fS 4) + 1)) 0 j) = 0 then 1 else 0)))) 6 ((fS 6) + (if (r_X5_isLost (upd (upd fS 4 ((fS 4) + 1)) 5 ((fS 5) + (if (fS (8 + j)) ≤ 0 then 0 else (if (r_X5_isBelieved (upd fS 4 ((fS 4) + 1)) 0 j) = 0 then 1 else 0)))) j) = 0 then 0 else 1))) j)) (fun _ t => va_P D vwCl [(oM, .inr (5, [.ref aS, .ref aA, .ref aB, .int (nI kn), .ref aT, .ref aV, .ref aP, .int (nI ln), .int pl, .int wr, .int le, .int on, .int tw])), (aS, .inl (K 0, 360, .inl (n_X5_reads_1 fS j))), (aA, .inl (K 0, 360, .inl fA)), (aB, .inl (K 0, 2160, .inl fB)), (aT, .inl (K 0, 720, .inl fT)), (aV, .inl (K 2, 2, .inl fV)), (aP, .inl (K 0, 80, .inl fP))] t.heap) A) ([.ref oM, .int (nI j)] : List Value).toArray s 0 0 A) (F0 m 0 ls []) := by
    intro H locs ls hP hD hS hl
    refine lv_aload_n hx hb dX5_reads_0 rfl (lv_at hl 0 rfl) ?_
    refine va_get (D := D) (ci := 5) (v := .ref aS) (C := RX5) (T := TX5) (N := 13) hx hb hts hin5 hown hK hP 0 rfl rfl 0 (by decide) (hts _ (List.mem_of_getElem? (i := 1) rfl)) (fun _ h9 => h9) rfl dX5_reads_1 ?_
    refine lv_iconst (v := 4) hx hb dX5_reads_4 (by decide) ?_
    refine lv_dup2_11 hx hb dX5_reads_5 rfl rfl ?_
    refine n_iald hx hb hK hP 1 0 rfl rfl 4 (by omega) (by decide) dX5_reads_6 ?_
    refine lv_iconst (v := 1) hx hb dX5_reads_7 (by decide) ?_
    refine lv_iadd hx hb dX5_reads_8 ?_
    refine n_iast hx hb hK hP hD hS 1 0 rfl rfl 4 (by omega) (by decide) dX5_reads_9 (fun H locs hP hD hS => ?_)
    have hP : va_P D vwCl [(oM, .inr (5, [.ref aS, .ref aA, .ref aB, .int (nI kn), .ref aT, .ref aV, .ref aP, .int (nI ln), .int pl, .int wr, .int le, .int on, .int tw])), (aS, .inl (K 0, 360, .inl (upd fS 4 ((fS 4) + 1)))), (aA, .inl (K 0, 360, .inl fA)), (aB, .inl (K 0, 2160, .inl fB)), (aT, .inl (K 0, 720, .inl fT)), (aV, .inl (K 2, 2, .inl fV)), (aP, .inl (K 0, 80, .inl fP))] H := hP
    have hD : va_D A [(oM, .inr (5, [.ref aS, .ref aA, .ref aB, .int (nI kn), .ref aT, .ref aV, .ref aP, .int (nI ln), .int pl, .int wr, .int le, .int on, .int tw])), (aS, .inl (K 0, 360, .inl (upd fS 4 ((fS 4) + 1)))), (aA, .inl (K 0, 360, .inl fA)), (aB, .inl (K 0, 2160, .inl fB)), (aT, .inl (K 0, 720, .inl fT)), (aV, .inl (K 2, 2, .inl fV)), (aP, .inl (K 0, 80, .inl fP))] := hD
    refine lv_aload_n hx hb dX5_reads_10 rfl (lv_at hl 0 rfl) ?_
    refine va_get (D := D) (ci := 5) (v := .ref aS) (C := RX5) (T := TX5) (N := 13) hx hb hts hin5 hown hK hP 0 rfl rfl 0 (by decide) (hts _ (List.mem_of_getElem? (i := 1) rfl)) (fun _ h9 => h9) rfl dX5_reads_11 ?_
    refine lv_iconst (v := 5) hx hb dX5_reads_14 (by decide) ?_
    refine lv_dup2_11 hx hb dX5_reads_15 rfl rfl ?_
    refine n_iald hx hb hK hP 1 0 rfl rfl 5 (by omega) (by decide) dX5_reads_16 ?_
    refine st1 (pk_un (by omega)) ?_
    refine lv_aload_n hx hb dX5_reads_17 rfl (lv_at hl 0 rfl) ?_
    refine va_get (D := D) (ci := 5) (v := .ref aS) (C := RX5) (T := TX5) (N := 13) hx hb hts hin5 hown hK hP 0 rfl rfl 0 (by decide) (hts _ (List.mem_of_getElem? (i := 1) rfl)) (fun _ h9 => h9) rfl dX5_reads_18 ?_
    refine lv_bipush (v := 8) hx hb dX5_reads_21 (by decide) ?_
    refine lv_iload_n hx hb dX5_reads_23 rfl (lv_at hl 1 rfl) ?_
    refine lv_iadd hx hb dX5_reads_24 ?_
    refine st1 (nI_add 8 j) ?_
    refine n_iald hx hb hK hP 1 0 rfl rfl (8 + j) (by omega) (by decide) dX5_reads_25 ?_
    refine st1 (pk_un (by omega)) ?_
    have K_3 : ∀ (H : Heap) (locs : List Loc) (ls : Array Slot), va_P D vwCl [(oM, .inr (5, [.ref aS, .ref aA, .ref aB, .int (nI kn), .ref aT, .ref aV, .ref aP, .int (nI ln), .int pl, .int wr, .int le, .int on, .int tw])), (aS, .inl (K 0, 360, .inl (upd fS 4 ((fS 4) + 1)))), (aA, .inl (K 0, 360, .inl fA)), (aB, .inl (K 0, 2160, .inl fB)), (aT, .inl (K 0, 720, .inl fT)), (aV, .inl (K 2, 2, .inl fV)), (aP, .inl (K 0, 80, .inl fP))] H → va_D A [(oM, .inr (5, [.ref aS, .ref aA, .ref aB, .int (nI kn), .ref aT, .ref aV, .ref aP, .int (nI ln), .int pl, .int wr, .int le, .int on, .int tw])), (aS, .inl (K 0, 360, .inl (upd fS 4 ((fS 4) + 1)))), (aA, .inl (K 0, 360, .inl fA)), (aB, .inl (K 0, 2160, .inl fB)), (aT, .inl (K 0, 720, .inl fT)), (aV, .inl (K 2, 2, .inl fV)), (aP, .inl (K 0, 80, .inl fP))] → va_S A s.heap H locs → lv_has ls 2 [(0, .ref oM), (1, .int (nI j))] → W p l e (headSpec wsX5_reads ({ frames := 5, cells := 0, slots := 0, locals := 110 })).room s m ([.ref oM, .int (nI j)] : List Value).toArray below meth c H locs 0 0 (MQ below (va_Qi (fun r (_ : Unit) => r = (r_X5_readable (upd (upd (upd fS 4 ((fS 4) + 1)) 5 ((fS 5) + (if (fS (8 + j)) ≤ 0 then 0 else (if (r_X5_isBelieved (upd fS 4 ((fS 4) + 1)) 0 j) = 0 then 1 else 0)))) 6 ((fS 6) + (if (r_X5_isLost (upd (upd fS 4 ((fS 4) + 1)) 5 ((fS 5) + (if (fS (8 + j)) ≤ 0 then 0 else (if (r_X5_isBelieved (upd fS 4 ((fS 4) + 1)) 0 j) = 0 then 1 else 0)))) j) = 0 then 0 else 1))) j)) (fun _ t => va_P D vwCl [(oM, .inr (5, [.ref aS, .ref aA, .ref aB, .int (nI kn), .ref aT, .ref aV, .ref aP, .int (nI ln), .int pl, .int wr, .int le, .int on, .int tw])), (aS, .inl (K 0, 360, .inl (n_X5_reads_1 fS j))), (aA, .inl (K 0, 360, .inl fA)), (aB, .inl (K 0, 2160, .inl fB)), (aT, .inl (K 0, 720, .inl fT)), (aV, .inl (K 2, 2, .inl fV)), (aP, .inl (K 0, 80, .inl fP))] t.heap) A) ([.ref oM, .int (nI j)] : List Value).toArray s 0 0 A) (F0 m 43 ls [.int (if (fS (8 + j)) ≤ 0 then 0 else (if (r_X5_isBelieved (upd fS 4 ((fS 4) + 1)) 0 j) = 0 then 1 else 0)), .int (fS 5), .int 5, .ref aS]) := by
      intro H locs ls hP hD hS hl
      refine lv_iadd hx hb dX5_reads_43 ?_
      refine n_iast hx hb hK hP hD hS 1 0 rfl rfl 5 (by omega) (by decide) dX5_reads_44 (fun H locs hP hD hS => ?_)
      have hP : va_P D vwCl [(oM, .inr (5, [.ref aS, .ref aA, .ref aB, .int (nI kn), .ref aT, .ref aV, .ref aP, .int (nI ln), .int pl, .int wr, .int le, .int on, .int tw])), (aS, .inl (K 0, 360, .inl (upd (upd fS 4 ((fS 4) + 1)) 5 ((fS 5) + (if (fS (8 + j)) ≤ 0 then 0 else (if (r_X5_isBelieved (upd fS 4 ((fS 4) + 1)) 0 j) = 0 then 1 else 0)))))), (aA, .inl (K 0, 360, .inl fA)), (aB, .inl (K 0, 2160, .inl fB)), (aT, .inl (K 0, 720, .inl fT)), (aV, .inl (K 2, 2, .inl fV)), (aP, .inl (K 0, 80, .inl fP))] H := hP
      have hD : va_D A [(oM, .inr (5, [.ref aS, .ref aA, .ref aB, .int (nI kn), .ref aT, .ref aV, .ref aP, .int (nI ln), .int pl, .int wr, .int le, .int on, .int tw])), (aS, .inl (K 0, 360, .inl (upd (upd fS 4 ((fS 4) + 1)) 5 ((fS 5) + (if (fS (8 + j)) ≤ 0 then 0 else (if (r_X5_isBelieved (upd fS 4 ((fS 4) + 1)) 0 j) = 0 then 1 else 0)))))), (aA, .inl (K 0, 360, .inl fA)), (aB, .inl (K 0, 2160, .inl fB)), (aT, .inl (K 0, 720, .inl fT)), (aV, .inl (K 2, 2, .inl fV)), (aP, .inl (K 0, 80, .inl fP))] := hD
      refine lv_aload_n hx hb dX5_reads_45 rfl (lv_at hl 0 rfl) ?_
      refine va_get (D := D) (ci := 5) (v := .ref aS) (C := RX5) (T := TX5) (N := 13) hx hb hts hin5 hown hK hP 0 rfl rfl 0 (by decide) (hts _ (List.mem_of_getElem? (i := 1) rfl)) (fun _ h9 => h9) rfl dX5_reads_46 ?_
      refine lv_bipush (v := 6) hx hb dX5_reads_49 (by decide) ?_
      refine lv_dup2_11 hx hb dX5_reads_51 rfl rfl ?_
      refine n_iald hx hb hK hP 1 0 rfl rfl 6 (by omega) (by decide) dX5_reads_52 ?_
      refine st1 (pk_un (by omega)) ?_
      refine st1 (pk_un (by omega)) ?_
      refine lv_aload_n hx hb dX5_reads_53 rfl (lv_at hl 0 rfl) ?_
      refine lv_iload_n hx hb dX5_reads_54 rfl (lv_at hl 1 rfl) ?_
      have hPc := hP.sub (ws' := [(oM, .inr (5, [.ref aS, .ref aA, .ref aB, .int (nI kn), .ref aT, .ref aV, .ref aP, .int (nI ln), .int pl, .int wr, .int le, .int on, .int tw])), (aS, .inl (K 0, 360, .inl (upd (upd fS 4 ((fS 4) + 1)) 5 ((fS 5) + (if (fS (8 + j)) ≤ 0 then 0 else (if (r_X5_isBelieved (upd fS 4 ((fS 4) + 1)) 0 j) = 0 then 1 else 0))))))]) [0, 1] rfl
      refine vp_callSi (va_Run.run (va_runV (As := [.int (nI j)]) (rest := [.int (fS 6), .int 6, .ref aS]) ⟨hx, hb, hml, hown, hts⟩ (c_X5_isLost l D K oM aS aA aB aT aV aP (upd (upd fS 4 ((fS 4) + 1)) 5 ((fS 5) + (if (fS (8 + j)) ≤ 0 then 0 else (if (r_X5_isBelieved (upd fS 4 ((fS 4) + 1)) 0 j) = 0 then 1 else 0)))) kn ln pl wr le on tw j (by omega)) (cwV 1 hts gX5_reads_X5_isLost rfl rfl rfl (by decide +kernel) ⟨Nat.le_of_ble_eq_true rfl, Nat.le_of_ble_eq_true rfl⟩) (pre_rd hbd hPc (ci := 5) (q0 := 0) rfl rfl) rfl rfl hl.1 rfl (lv_room (Nat.le_of_ble_eq_true rfl)) dX5_reads_55 ⟨Nat.zero_le _, Nat.zero_le _⟩)) (fun r_4 hr_4 => ?_)
      subst hr_4
      have K_7 : ∀ (H : Heap) (locs : List Loc) (ls : Array Slot), va_P D vwCl [(oM, .inr (5, [.ref aS, .ref aA, .ref aB, .int (nI kn), .ref aT, .ref aV, .ref aP, .int (nI ln), .int pl, .int wr, .int le, .int on, .int tw])), (aS, .inl (K 0, 360, .inl (upd (upd fS 4 ((fS 4) + 1)) 5 ((fS 5) + (if (fS (8 + j)) ≤ 0 then 0 else (if (r_X5_isBelieved (upd fS 4 ((fS 4) + 1)) 0 j) = 0 then 1 else 0)))))), (aA, .inl (K 0, 360, .inl fA)), (aB, .inl (K 0, 2160, .inl fB)), (aT, .inl (K 0, 720, .inl fT)), (aV, .inl (K 2, 2, .inl fV)), (aP, .inl (K 0, 80, .inl fP))] H → va_D A [(oM, .inr (5, [.ref aS, .ref aA, .ref aB, .int (nI kn), .ref aT, .ref aV, .ref aP, .int (nI ln), .int pl, .int wr, .int le, .int on, .int tw])), (aS, .inl (K 0, 360, .inl (upd (upd fS 4 ((fS 4) + 1)) 5 ((fS 5) + (if (fS (8 + j)) ≤ 0 then 0 else (if (r_X5_isBelieved (upd fS 4 ((fS 4) + 1)) 0 j) = 0 then 1 else 0)))))), (aA, .inl (K 0, 360, .inl fA)), (aB, .inl (K 0, 2160, .inl fB)), (aT, .inl (K 0, 720, .inl fT)), (aV, .inl (K 2, 2, .inl fV)), (aP, .inl (K 0, 80, .inl fP))] → va_S A s.heap H locs → lv_has ls 2 [(0, .ref oM), (1, .int (nI j))] → W p l e (headSpec wsX5_reads ({ frames := 5, cells := 0, slots := 0, locals := 110 })).room s m ([.ref oM, .int (nI j)] : List Value).toArray below meth c H locs 0 0 (MQ below (va_Qi (fun r (_ : Unit) => r = (r_X5_readable (upd (upd (upd fS 4 ((fS 4) + 1)) 5 ((fS 5) + (if (fS (8 + j)) ≤ 0 then 0 else (if (r_X5_isBelieved (upd fS 4 ((fS 4) + 1)) 0 j) = 0 then 1 else 0)))) 6 ((fS 6) + (if (r_X5_isLost (upd (upd fS 4 ((fS 4) + 1)) 5 ((fS 5) + (if (fS (8 + j)) ≤ 0 then 0 else (if (r_X5_isBelieved (upd fS 4 ((fS 4) + 1)) 0 j) = 0 then 1 else 0)))) j) = 0 then 0 else 1))) j)) (fun _ t => va_P D vwCl [(oM, .inr (5, [.ref aS, .ref aA, .ref aB, .int (nI kn), .ref aT, .ref aV, .ref aP, .int (nI ln), .int pl, .int wr, .int le, .int on, .int tw])), (aS, .inl (K 0, 360, .inl (n_X5_reads_1 fS j))), (aA, .inl (K 0, 360, .inl fA)), (aB, .inl (K 0, 2160, .inl fB)), (aT, .inl (K 0, 720, .inl fT)), (aV, .inl (K 2, 2, .inl fV)), (aP, .inl (K 0, 80, .inl fP))] t.heap) A) ([.ref oM, .int (nI j)] : List Value).toArray s 0 0 A) (F0 m 66 ls [.int (if (r_X5_isLost (upd (upd fS 4 ((fS 4) + 1)) 5 ((fS 5) + (if (fS (8 + j)) ≤ 0 then 0 else (if (r_X5_isBelieved (upd fS 4 ((fS 4) + 1)) 0 j) = 0 then 1 else 0)))) j) = 0 then 0 else 1), .int (fS 6), .int 6, .ref aS]) := by
        intro H locs ls hP hD hS hl
        refine lv_iadd hx hb dX5_reads_66 ?_
        refine n_iast hx hb hK hP hD hS 1 0 rfl rfl 6 (by omega) (by decide) dX5_reads_67 (fun H locs hP hD hS => ?_)
        have hP : va_P D vwCl [(oM, .inr (5, [.ref aS, .ref aA, .ref aB, .int (nI kn), .ref aT, .ref aV, .ref aP, .int (nI ln), .int pl, .int wr, .int le, .int on, .int tw])), (aS, .inl (K 0, 360, .inl (upd (upd (upd fS 4 ((fS 4) + 1)) 5 ((fS 5) + (if (fS (8 + j)) ≤ 0 then 0 else (if (r_X5_isBelieved (upd fS 4 ((fS 4) + 1)) 0 j) = 0 then 1 else 0)))) 6 ((fS 6) + (if (r_X5_isLost (upd (upd fS 4 ((fS 4) + 1)) 5 ((fS 5) + (if (fS (8 + j)) ≤ 0 then 0 else (if (r_X5_isBelieved (upd fS 4 ((fS 4) + 1)) 0 j) = 0 then 1 else 0)))) j) = 0 then 0 else 1))))), (aA, .inl (K 0, 360, .inl fA)), (aB, .inl (K 0, 2160, .inl fB)), (aT, .inl (K 0, 720, .inl fT)), (aV, .inl (K 2, 2, .inl fV)), (aP, .inl (K 0, 80, .inl fP))] H := hP
        have hD : va_D A [(oM, .inr (5, [.ref aS, .ref aA, .ref aB, .int (nI kn), .ref aT, .ref aV, .ref aP, .int (nI ln), .int pl, .int wr, .int le, .int on, .int tw])), (aS, .inl (K 0, 360, .inl (upd (upd (upd fS 4 ((fS 4) + 1)) 5 ((fS 5) + (if (fS (8 + j)) ≤ 0 then 0 else (if (r_X5_isBelieved (upd fS 4 ((fS 4) + 1)) 0 j) = 0 then 1 else 0)))) 6 ((fS 6) + (if (r_X5_isLost (upd (upd fS 4 ((fS 4) + 1)) 5 ((fS 5) + (if (fS (8 + j)) ≤ 0 then 0 else (if (r_X5_isBelieved (upd fS 4 ((fS 4) + 1)) 0 j) = 0 then 1 else 0)))) j) = 0 then 0 else 1))))), (aA, .inl (K 0, 360, .inl fA)), (aB, .inl (K 0, 2160, .inl fB)), (aT, .inl (K 0, 720, .inl fT)), (aV, .inl (K 2, 2, .inl fV)), (aP, .inl (K 0, 80, .inl fP))] := hD
        refine lv_aload_n hx hb dX5_reads_68 rfl (lv_at hl 0 rfl) ?_
        refine lv_iload_n hx hb dX5_reads_69 rfl (lv_at hl 1 rfl) ?_
        have hPc := hP.sub (ws' := [(oM, .inr (5, [.ref aS, .ref aA, .ref aB, .int (nI kn), .ref aT, .ref aV, .ref aP, .int (nI ln), .int pl, .int wr, .int le, .int on, .int tw])), (aS, .inl (K 0, 360, .inl (upd (upd (upd fS 4 ((fS 4) + 1)) 5 ((fS 5) + (if (fS (8 + j)) ≤ 0 then 0 else (if (r_X5_isBelieved (upd fS 4 ((fS 4) + 1)) 0 j) = 0 then 1 else 0)))) 6 ((fS 6) + (if (r_X5_isLost (upd (upd fS 4 ((fS 4) + 1)) 5 ((fS 5) + (if (fS (8 + j)) ≤ 0 then 0 else (if (r_X5_isBelieved (upd fS 4 ((fS 4) + 1)) 0 j) = 0 then 1 else 0)))) j) = 0 then 0 else 1)))))]) [0, 1] rfl
        refine vp_callSi (va_Run.run (va_runV (As := [.int (nI j)]) (rest := []) ⟨hx, hb, hml, hown, hts⟩ (c_X5_readable l D K oM aS aA aB aT aV aP (upd (upd (upd fS 4 ((fS 4) + 1)) 5 ((fS 5) + (if (fS (8 + j)) ≤ 0 then 0 else (if (r_X5_isBelieved (upd fS 4 ((fS 4) + 1)) 0 j) = 0 then 1 else 0)))) 6 ((fS 6) + (if (r_X5_isLost (upd (upd fS 4 ((fS 4) + 1)) 5 ((fS 5) + (if (fS (8 + j)) ≤ 0 then 0 else (if (r_X5_isBelieved (upd fS 4 ((fS 4) + 1)) 0 j) = 0 then 1 else 0)))) j) = 0 then 0 else 1))) kn ln pl wr le on tw j (by omega)) (cwV 1 hts gX5_reads_X5_readable rfl rfl rfl (by decide +kernel) ⟨Nat.le_of_ble_eq_true rfl, Nat.le_of_ble_eq_true rfl⟩) (pre_rd hbd hPc (ci := 5) (q0 := 0) rfl rfl) rfl rfl hl.1 rfl (lv_room (Nat.le_of_ble_eq_true rfl)) dX5_reads_70 ⟨Nat.zero_le _, Nat.zero_le _⟩)) (fun r_8 hr_8 => ?_)
        subst hr_8
        have e_9 : n_X5_reads_1 fS j = (upd (upd (upd fS 4 ((fS 4) + 1)) 5 ((fS 5) + (if (fS (8 + j)) ≤ 0 then 0 else (if (r_X5_isBelieved (upd fS 4 ((fS 4) + 1)) 0 j) = 0 then 1 else 0)))) 6 ((fS 6) + (if (r_X5_isLost (upd (upd fS 4 ((fS 4) + 1)) 5 ((fS 5) + (if (fS (8 + j)) ≤ 0 then 0 else (if (r_X5_isBelieved (upd fS 4 ((fS 4) + 1)) 0 j) = 0 then 1 else 0)))) j) = 0 then 0 else 1))) := rfl
        have hPf : va_P D vwCl [(oM, .inr (5, [.ref aS, .ref aA, .ref aB, .int (nI kn), .ref aT, .ref aV, .ref aP, .int (nI ln), .int pl, .int wr, .int le, .int on, .int tw])), (aS, .inl (K 0, 360, .inl (n_X5_reads_1 fS j))), (aA, .inl (K 0, 360, .inl fA)), (aB, .inl (K 0, 2160, .inl fB)), (aT, .inl (K 0, 720, .inl fT)), (aV, .inl (K 2, 2, .inl fV)), (aP, .inl (K 0, 80, .inl fP))] H := (by rw [e_9]; exact hP)
        exact W.iret hx hb hr (fun t ht hW => ⟨⟨_, (), rfl, rfl, by show va_P D vwCl _ t.heap; rw [ht]; exact hPf⟩, hS.F ht⟩) hS.2.2 dX5_reads_73
      refine lv_if_eq (tgt := 65) hx hb dX5_reads_58 (by decide) (fun c_5 => ?_) (fun c_5 => ?_)
      · skip
        refine lv_iconst (v := 0) hx hb dX5_reads_65 (by decide) ?_
        have e_10 : ((if (r_X5_isLost (upd (upd fS 4 ((fS 4) + 1)) 5 ((fS 5) + (if (fS (8 + j)) ≤ 0 then 0 else (if (r_X5_isBelieved (upd fS 4 ((fS 4) + 1)) 0 j) = 0 then 1 else 0)))) j) = 0 then 0 else 1) : Int32) = 0 := by rw [if_pos c_5]
        exact W.eq (g2 := (F0 m 66 ls [.int (if (r_X5_isLost (upd (upd fS 4 ((fS 4) + 1)) 5 ((fS 5) + (if (fS (8 + j)) ≤ 0 then 0 else (if (r_X5_isBelieved (upd fS 4 ((fS 4) + 1)) 0 j) = 0 then 1 else 0)))) j) = 0 then 0 else 1), .int (fS 6), .int 6, .ref aS])) (by first | (rw [e_10]; done) | (rw [e_10]; rfl)) (K_7 _ _ _ hP hD hS (lv_sub hl [0, 1] rfl))
      · skip
        refine lv_iconst (v := 1) hx hb dX5_reads_61 (by decide) ?_
        refine lv_goto (tgt := 66) hx hb dX5_reads_62 (by decide) ?_
        have e_11 : ((if (r_X5_isLost (upd (upd fS 4 ((fS 4) + 1)) 5 ((fS 5) + (if (fS (8 + j)) ≤ 0 then 0 else (if (r_X5_isBelieved (upd fS 4 ((fS 4) + 1)) 0 j) = 0 then 1 else 0)))) j) = 0 then 0 else 1) : Int32) = 1 := by rw [if_neg c_5]
        exact W.eq (g2 := (F0 m 66 ls [.int (if (r_X5_isLost (upd (upd fS 4 ((fS 4) + 1)) 5 ((fS 5) + (if (fS (8 + j)) ≤ 0 then 0 else (if (r_X5_isBelieved (upd fS 4 ((fS 4) + 1)) 0 j) = 0 then 1 else 0)))) j) = 0 then 0 else 1), .int (fS 6), .int 6, .ref aS])) (by first | (rw [e_11]; done) | (rw [e_11]; rfl)) (K_7 _ _ _ hP hD hS (lv_sub hl [0, 1] rfl))
    refine lv_if_le (tgt := 42) hx hb dX5_reads_26 (by decide) (fun c_1 => ?_) (fun c_1 => ?_)
    · skip
      refine lv_iconst (v := 0) hx hb dX5_reads_42 (by decide) ?_
      have e_12 : ((if (fS (8 + j)) ≤ 0 then 0 else (if (r_X5_isBelieved (upd fS 4 ((fS 4) + 1)) 0 j) = 0 then 1 else 0)) : Int32) = 0 := by rw [if_pos c_1]
      exact W.eq (g2 := (F0 m 43 ls [.int (if (fS (8 + j)) ≤ 0 then 0 else (if (r_X5_isBelieved (upd fS 4 ((fS 4) + 1)) 0 j) = 0 then 1 else 0)), .int (fS 5), .int 5, .ref aS])) (by first | (rw [e_12]; done) | (rw [e_12]; rfl)) (K_3 _ _ _ hP hD hS (lv_sub hl [0, 1] rfl))
    · skip
      refine lv_aload_n hx hb dX5_reads_29 rfl (lv_at hl 0 rfl) ?_
      refine lv_iconst (v := 0) hx hb dX5_reads_30 (by decide) ?_
      refine lv_iload_n hx hb dX5_reads_31 rfl (lv_at hl 1 rfl) ?_
      have hPc := hP.sub (ws' := [(oM, .inr (5, [.ref aS, .ref aA, .ref aB, .int (nI kn), .ref aT, .ref aV, .ref aP, .int (nI ln), .int pl, .int wr, .int le, .int on, .int tw])), (aS, .inl (K 0, 360, .inl (upd fS 4 ((fS 4) + 1))))]) [0, 1] rfl
      refine vp_callSi (va_Run.run (va_runV (As := [.int 0, .int (nI j)]) (rest := [.int (fS 5), .int 5, .ref aS]) ⟨hx, hb, hml, hown, hts⟩ (c_X5_isBelieved l D K oM aS aA aB aT aV aP (upd fS 4 ((fS 4) + 1)) kn ln pl wr le on tw 0 j (by omega) (by omega)) (cwV 2 hts gX5_reads_X5_isBelieved rfl rfl rfl (by decide +kernel) ⟨Nat.le_of_ble_eq_true rfl, Nat.le_of_ble_eq_true rfl⟩) (pre_rd hbd hPc (ci := 5) (q0 := 0) rfl rfl) rfl rfl hl.1 rfl (lv_room (Nat.le_of_ble_eq_true rfl)) dX5_reads_32 ⟨Nat.zero_le _, Nat.zero_le _⟩)) (fun r_13 hr_13 => ?_)
      subst hr_13
      refine lv_if_ne (tgt := 42) hx hb dX5_reads_35 (by decide) (fun c_14 => ?_) (fun c_14 => ?_)
      · skip
        refine lv_iconst (v := 0) hx hb dX5_reads_42 (by decide) ?_
        have e_15 : ((if (fS (8 + j)) ≤ 0 then 0 else (if (r_X5_isBelieved (upd fS 4 ((fS 4) + 1)) 0 j) = 0 then 1 else 0)) : Int32) = 0 := by rw [if_neg c_1, if_neg c_14]
        exact W.eq (g2 := (F0 m 43 ls [.int (if (fS (8 + j)) ≤ 0 then 0 else (if (r_X5_isBelieved (upd fS 4 ((fS 4) + 1)) 0 j) = 0 then 1 else 0)), .int (fS 5), .int 5, .ref aS])) (by first | (rw [e_15]; done) | (rw [e_15]; rfl)) (K_3 _ _ _ hP hD hS (lv_sub hl [0, 1] rfl))
      · skip
        refine lv_iconst (v := 1) hx hb dX5_reads_38 (by decide) ?_
        refine lv_goto (tgt := 43) hx hb dX5_reads_39 (by decide) ?_
        have e_16 : ((if (fS (8 + j)) ≤ 0 then 0 else (if (r_X5_isBelieved (upd fS 4 ((fS 4) + 1)) 0 j) = 0 then 1 else 0)) : Int32) = 1 := by rw [if_neg c_1, if_pos c_14]
        exact W.eq (g2 := (F0 m 43 ls [.int (if (fS (8 + j)) ≤ 0 then 0 else (if (r_X5_isBelieved (upd fS 4 ((fS 4) + 1)) 0 j) = 0 then 1 else 0)), .int (fS 5), .int 5, .ref aS])) (by first | (rw [e_16]; done) | (rw [e_16]; rfl)) (K_3 _ _ _ hP hD hS (lv_sub hl [0, 1] rfl))
  exact K0 s.heap [] ls hP hD hS hl
def r_X5_mends (fS : Nat → Int32) (j : Nat) : Int32 := (if (r_X5_canMend fS j) = 0 then 0 else (if (r_X5_isBelieved fS 0 j) = 0 then 1 else 2))
def n_X5_mends_1 (fS : Nat → Int32) (j : Nat) : Nat → Int32 := (if (r_X5_canMend fS j) = 0 then fS else (if (r_X5_isBelieved fS 0 j) = 0 then (upd (upd (upd (upd (upd (upd fS (40 + 160 * 0 + 5 * j + 0) (fS (40 + 160 * 1 + 5 * j + 0))) (40 + 160 * 0 + 5 * j + 1) (fS (40 + 160 * 1 + 5 * j + 1))) (40 + 160 * 0 + 5 * j + 2) (fS (40 + 160 * 1 + 5 * j + 2))) (40 + 160 * 0 + 5 * j + 3) (fS (40 + 160 * 1 + 5 * j + 3))) (40 + 160 * 0 + 5 * j + 4) (fS (40 + 160 * 1 + 5 * j + 4))) 7 ((fS 7) + 1)) else (upd (upd (upd (upd (upd (upd fS (40 + 160 * 1 + 5 * j + 0) (fS (40 + 160 * 0 + 5 * j + 0))) (40 + 160 * 1 + 5 * j + 1) (fS (40 + 160 * 0 + 5 * j + 1))) (40 + 160 * 1 + 5 * j + 2) (fS (40 + 160 * 0 + 5 * j + 2))) (40 + 160 * 1 + 5 * j + 3) (fS (40 + 160 * 0 + 5 * j + 3))) (40 + 160 * 1 + 5 * j + 4) (fS (40 + 160 * 0 + 5 * j + 4))) 7 ((fS 7) + 1))))
set_option maxHeartbeats 4000000 in
set_option maxRecDepth 100000 in
theorem c_X5_mends (l : Launch) (D : va_G) (K : Nat → ClassId) (oM : Nat) (aS : Nat) (aA : Nat) (aB : Nat) (aT : Nat) (aV : Nat) (aP : Nat) (fS : Nat → Int32) (fA : Nat → Int32) (fB : Nat → Int32) (fT : Nat → Int32) (fV : Nat → Int32) (fP : Nat → Int32) (kn : Nat) (ln : Nat) (pl : Int32) (wr : Int32) (le : Int32) (on : Int32) (tw : Int32) (j : Nat) (hj : j < 32) : Met l yX5_mends wsX5_mends ({ frames := 5, cells := 0, slots := 0, locals := 110 }) (va_Pc [.ref oM, .int (nI j)] (fun U => Bd D K U ∧ va_P D vwCl [(oM, .inr (5, [.ref aS, .ref aA, .ref aB, .int (nI kn), .ref aT, .ref aV, .ref aP, .int (nI ln), .int pl, .int wr, .int le, .int on, .int tw])), (aS, .inl (K 0, 360, .inl fS)), (aA, .inl (K 0, 360, .inl fA)), (aB, .inl (K 0, 2160, .inl fB)), (aT, .inl (K 0, 720, .inl fT)), (aV, .inl (K 2, 2, .inl fV)), (aP, .inl (K 0, 80, .inl fP))] U.heap ∧ va_D (fun _ => True) [(oM, .inr (5, [.ref aS, .ref aA, .ref aB, .int (nI kn), .ref aT, .ref aV, .ref aP, .int (nI ln), .int pl, .int wr, .int le, .int on, .int tw])), (aS, .inl (K 0, 360, .inl fS)), (aA, .inl (K 0, 360, .inl fA)), (aB, .inl (K 0, 2160, .inl fB)), (aT, .inl (K 0, 720, .inl fT)), (aV, .inl (K 2, 2, .inl fV)), (aP, .inl (K 0, 80, .inl fP))])) (va_Qi (fun r (_ : Unit) => r = (r_X5_mends fS j)) (fun _ t => va_P D vwCl [(oM, .inr (5, [.ref aS, .ref aA, .ref aB, .int (nI kn), .ref aT, .ref aV, .ref aP, .int (nI ln), .int pl, .int wr, .int le, .int on, .int tw])), (aS, .inl (K 0, 360, .inl (n_X5_mends_1 fS j))), (aA, .inl (K 0, 360, .inl fA)), (aB, .inl (K 0, 2160, .inl fB)), (aT, .inl (K 0, 720, .inl fT)), (aV, .inl (K 2, 2, .inl fV)), (aP, .inl (K 0, 80, .inl fP))] t.heap) (inW [(oM, .inr (5, [.ref aS, .ref aA, .ref aB, .int (nI kn), .ref aT, .ref aV, .ref aP, .int (nI ln), .int pl, .int wr, .int le, .int on, .int tw])), (aS, .inl (K 0, 360, .inl fS)), (aA, .inl (K 0, 360, .inl fA)), (aB, .inl (K 0, 2160, .inl fB)), (aT, .inl (K 0, 720, .inl fT)), (aV, .inl (K 2, 2, .inl fV)), (aP, .inl (K 0, 80, .inl fP))])) 0 0 (inW [(oM, .inr (5, [.ref aS, .ref aA, .ref aB, .int (nI kn), .ref aT, .ref aV, .ref aP, .int (nI ln), .int pl, .int wr, .int le, .int on, .int tw])), (aS, .inl (K 0, 360, .inl fS)), (aA, .inl (K 0, 360, .inl fA)), (aB, .inl (K 0, 2160, .inl fB)), (aT, .inl (K 0, 720, .inl fT)), (aV, .inl (K 2, 2, .inl fV)), (aP, .inl (K 0, 80, .inl fP))]) := by
  refine Met.ofW (cc := cX5_mends) (maxL := 4) (ret := (some .int)) (by decide) rfl ?_
  intro p e s m args below meth c s₁ B hml hv
  obtain ⟨rfl, hbd, hP, hD0⟩ := hv
  have hx := B.exec
  have hb := B.bytes
  have hr := B.returns
  have hts := atoms_spec (ws := wsX5_mends) B.pre
  have hown : s.vm.findClass RX5 = some m.cls := findClass_of_methodNamed B.named
  have hlocks := B.notSynchronized
  have hK := hbd.2
  have hP : va_P D vwCl [(oM, .inr (5, [.ref aS, .ref aA, .ref aB, .int (nI kn), .ref aT, .ref aV, .ref aP, .int (nI ln), .int pl, .int wr, .int le, .int on, .int tw])), (aS, .inl (K 0, 360, .inl fS)), (aA, .inl (K 0, 360, .inl fA)), (aB, .inl (K 0, 2160, .inl fB)), (aT, .inl (K 0, 720, .inl fT)), (aV, .inl (K 2, 2, .inl fV)), (aP, .inl (K 0, 80, .inl fP))] s.heap := hP
  have hin5 : ∀ w ∈ wsX50, w ∈ wsX5_mends := by decide +kernel
  have hD := hD0.own
  generalize hAe : inW [(oM, .inr (5, [.ref aS, .ref aA, .ref aB, .int (nI kn), .ref aT, .ref aV, .ref aP, .int (nI ln), .int pl, .int wr, .int le, .int on, .int tw])), (aS, .inl (K 0, 360, .inl fS)), (aA, .inl (K 0, 360, .inl fA)), (aB, .inl (K 0, 2160, .inl fB)), (aT, .inl (K 0, 720, .inl fT)), (aV, .inl (K 2, 2, .inl fV)), (aP, .inl (K 0, 80, .inl fP))] = A at hD ⊢
  have hS : va_S A s.heap s.heap [] := va_S.rf
  have hl := lv_entry ([.ref oM, .int (nI j)]) (n := 4) (Nat.le_of_ble_eq_true rfl)
  rw [lg_entry_eq]
  generalize (lg_sl ([.ref oM, .int (nI j)]) ++ List.replicate (4 - (lg_sl ([.ref oM, .int (nI j)])).length) Slot.unset).toArray = ls at hl ⊢
  have hl : lv_has ls 4 [(0, .ref oM), (1, .int (nI j))] := hl
  have K0 : ∀ (H : Heap) (locs : List Loc) (ls : Array Slot), va_P D vwCl [(oM, .inr (5, [.ref aS, .ref aA, .ref aB, .int (nI kn), .ref aT, .ref aV, .ref aP, .int (nI ln), .int pl, .int wr, .int le, .int on, .int tw])), (aS, .inl (K 0, 360, .inl fS)), (aA, .inl (K 0, 360, .inl fA)), (aB, .inl (K 0, 2160, .inl fB)), (aT, .inl (K 0, 720, .inl fT)), (aV, .inl (K 2, 2, .inl fV)), (aP, .inl (K 0, 80, .inl fP))] H → va_D A [(oM, .inr (5, [.ref aS, .ref aA, .ref aB, .int (nI kn), .ref aT, .ref aV, .ref aP, .int (nI ln), .int pl, .int wr, .int le, .int on, .int tw])), (aS, .inl (K 0, 360, .inl fS)), (aA, .inl (K 0, 360, .inl fA)), (aB, .inl (K 0, 2160, .inl fB)), (aT, .inl (K 0, 720, .inl fT)), (aV, .inl (K 2, 2, .inl fV)), (aP, .inl (K 0, 80, .inl fP))] → va_S A s.heap H locs → lv_has ls 4 [(0, .ref oM), (1, .int (nI j))] → W p l e (headSpec wsX5_mends ({ frames := 5, cells := 0, slots := 0, locals := 110 })).room s m ([.ref oM, .int (nI j)] : List Value).toArray below meth c H locs 0 0 (MQ below (va_Qi (fun r (_ : Unit) => r = (r_X5_mends fS j)) (fun _ t => va_P D vwCl [(oM, .inr (5, [.ref aS, .ref aA, .ref aB, .int (nI kn), .ref aT, .ref aV, .ref aP, .int (nI ln), .int pl, .int wr, .int le, .int on, .int tw])), (aS, .inl (K 0, 360, .inl (n_X5_mends_1 fS j))), (aA, .inl (K 0, 360, .inl fA)), (aB, .inl (K 0, 2160, .inl fB)), (aT, .inl (K 0, 720, .inl fT)), (aV, .inl (K 2, 2, .inl fV)), (aP, .inl (K 0, 80, .inl fP))] t.heap) A) ([.ref oM, .int (nI j)] : List Value).toArray s 0 0 A) (F0 m 0 ls []) := by
    intro H locs ls hP hD hS hl
    refine lv_aload_n hx hb dX5_mends_0 rfl (lv_at hl 0 rfl) ?_
    refine lv_iload_n hx hb dX5_mends_1 rfl (lv_at hl 1 rfl) ?_
    have hPc := hP.sub (ws' := [(oM, .inr (5, [.ref aS, .ref aA, .ref aB, .int (nI kn), .ref aT, .ref aV, .ref aP, .int (nI ln), .int pl, .int wr, .int le, .int on, .int tw])), (aS, .inl (K 0, 360, .inl fS))]) [0, 1] rfl
    refine vp_callSi (va_Run.run (va_runV (As := [.int (nI j)]) (rest := []) ⟨hx, hb, hml, hown, hts⟩ (c_X5_canMend l D K oM aS aA aB aT aV aP fS kn ln pl wr le on tw j (by omega)) (cwV 1 hts gX5_mends_X5_canMend rfl rfl rfl (by decide +kernel) ⟨Nat.le_of_ble_eq_true rfl, Nat.le_of_ble_eq_true rfl⟩) (pre_rd hbd hPc (ci := 5) (q0 := 0) rfl rfl) rfl rfl hl.1 rfl (lv_room (Nat.le_of_ble_eq_true rfl)) dX5_mends_2 ⟨Nat.zero_le _, Nat.zero_le _⟩)) (fun r_1 hr_1 => ?_)
    subst hr_1
    refine lv_if_ne (tgt := 10) hx hb dX5_mends_5 (by decide) (fun c_2 => ?_) (fun c_2 => ?_)
    · skip
      refine lv_aload_n hx hb dX5_mends_10 rfl (lv_at hl 0 rfl) ?_
      refine lv_iconst (v := 0) hx hb dX5_mends_11 (by decide) ?_
      refine lv_iload_n hx hb dX5_mends_12 rfl (lv_at hl 1 rfl) ?_
      have hPc := hP.sub (ws' := [(oM, .inr (5, [.ref aS, .ref aA, .ref aB, .int (nI kn), .ref aT, .ref aV, .ref aP, .int (nI ln), .int pl, .int wr, .int le, .int on, .int tw])), (aS, .inl (K 0, 360, .inl fS))]) [0, 1] rfl
      refine vp_callSi (va_Run.run (va_runV (As := [.int 0, .int (nI j)]) (rest := []) ⟨hx, hb, hml, hown, hts⟩ (c_X5_isBelieved l D K oM aS aA aB aT aV aP fS kn ln pl wr le on tw 0 j (by omega) (by omega)) (cwV 2 hts gX5_mends_X5_isBelieved rfl rfl rfl (by decide +kernel) ⟨Nat.le_of_ble_eq_true rfl, Nat.le_of_ble_eq_true rfl⟩) (pre_rd hbd hPc (ci := 5) (q0 := 0) rfl rfl) rfl rfl hl.1 rfl (lv_room (Nat.le_of_ble_eq_true rfl)) dX5_mends_13 ⟨Nat.zero_le _, Nat.zero_le _⟩)) (fun r_3 hr_3 => ?_)
      subst hr_3
      refine lv_if_eq (tgt := 23) hx hb dX5_mends_16 (by decide) (fun c_4 => ?_) (fun c_4 => ?_)
      · skip
        refine lv_iconst (v := 0) hx hb dX5_mends_23 (by decide) ?_
        refine lv_istore_n (lv' := [(2, .int 0), (0, .ref oM), (1, .int (nI j))]) hx hb dX5_mends_24 rfl hl (by decide) rfl (fun ls hl => ?_)
        refine lv_iconst (v := 0) hx hb dX5_mends_25 (by decide) ?_
        refine lv_istore_n (lv' := [(3, .int 0), (2, .int 0), (0, .ref oM), (1, .int (nI j))]) hx hb dX5_mends_26 rfl hl (by decide) rfl (fun ls hl => ?_)
        refine lv_iload_n hx hb dX5_mends_27 rfl (lv_at hl 0 rfl) ?_
        refine lv_iconst (v := 5) hx hb dX5_mends_28 (by decide) ?_
        refine lv_icmp_ge (tgt := 62) hx hb dX5_mends_29 (by decide) (fun h_5 => absurd h_5 (by decide)) (fun _ => ?_)
        refine lv_aload_n hx hb dX5_mends_32 rfl (lv_at hl 2 rfl) ?_
        refine va_get (D := D) (ci := 5) (v := .ref aS) (C := RX5) (T := TX5) (N := 13) hx hb hts hin5 hown hK hP 0 rfl rfl 0 (by decide) (hts _ (List.mem_of_getElem? (i := 1) rfl)) (fun _ h9 => h9) rfl dX5_mends_33 ?_
        refine lv_iload_n hx hb dX5_mends_36 rfl (lv_at hl 1 rfl) ?_
        refine lv_iload_n hx hb dX5_mends_37 rfl (lv_at hl 3 rfl) ?_
        refine lv_iload_n hx hb dX5_mends_38 rfl (lv_at hl 0 rfl) ?_
        refine vp_callSi (va_Run.run (va_runS (As := [.int 0, .int (nI j), .int 0]) (rest := [.ref aS]) ⟨hx, hb, hml, hown, hts⟩ (c_X5_of l D K 0 j 0 ) (va_cwS 3 hts gX5_mends_X5_of rfl rfl rfl (by decide +kernel) ⟨Nat.le_of_ble_eq_true rfl, Nat.le_of_ble_eq_true rfl⟩) pre_s0 rfl rfl hl.1 rfl (lv_room (Nat.le_of_ble_eq_true rfl)) dX5_mends_39 ⟨Nat.zero_le _, Nat.zero_le _⟩)) (fun r_6 hr_6 => ?_)
        subst hr_6
        refine lv_aload_n hx hb dX5_mends_42 rfl (lv_at hl 2 rfl) ?_
        refine va_get (D := D) (ci := 5) (v := .ref aS) (C := RX5) (T := TX5) (N := 13) hx hb hts hin5 hown hK hP 0 rfl rfl 0 (by decide) (hts _ (List.mem_of_getElem? (i := 1) rfl)) (fun _ h9 => h9) rfl dX5_mends_43 ?_
        refine lv_iconst (v := 1) hx hb dX5_mends_46 (by decide) ?_
        refine lv_iload_n hx hb dX5_mends_47 rfl (lv_at hl 1 rfl) ?_
        refine lv_isub hx hb dX5_mends_48 ?_
        refine st1 (y := 1) (by decide) ?_
        refine lv_iload_n hx hb dX5_mends_49 rfl (lv_at hl 3 rfl) ?_
        refine lv_iload_n hx hb dX5_mends_50 rfl (lv_at hl 0 rfl) ?_
        refine vp_callSi (va_Run.run (va_runS (As := [.int 1, .int (nI j), .int 0]) (rest := [.ref aS, .int (nI (40 + 160 * 0 + 5 * j + 0)), .ref aS]) ⟨hx, hb, hml, hown, hts⟩ (c_X5_of l D K 1 j 0 ) (va_cwS 3 hts gX5_mends_X5_of rfl rfl rfl (by decide +kernel) ⟨Nat.le_of_ble_eq_true rfl, Nat.le_of_ble_eq_true rfl⟩) pre_s0 rfl rfl hl.1 rfl (lv_room (Nat.le_of_ble_eq_true rfl)) dX5_mends_51 ⟨Nat.zero_le _, Nat.zero_le _⟩)) (fun r_7 hr_7 => ?_)
        subst hr_7
        refine n_iald hx hb hK hP 1 0 rfl rfl (40 + 160 * 1 + 5 * j + 0) (by omega) (by decide) dX5_mends_54 ?_
        refine n_iast hx hb hK hP hD hS 1 0 rfl rfl (40 + 160 * 0 + 5 * j + 0) (by omega) (by decide) dX5_mends_55 (fun H locs hP hD hS => ?_)
        have hP : va_P D vwCl [(oM, .inr (5, [.ref aS, .ref aA, .ref aB, .int (nI kn), .ref aT, .ref aV, .ref aP, .int (nI ln), .int pl, .int wr, .int le, .int on, .int tw])), (aS, .inl (K 0, 360, .inl (upd fS (40 + 160 * 0 + 5 * j + 0) (fS (40 + 160 * 1 + 5 * j + 0))))), (aA, .inl (K 0, 360, .inl fA)), (aB, .inl (K 0, 2160, .inl fB)), (aT, .inl (K 0, 720, .inl fT)), (aV, .inl (K 2, 2, .inl fV)), (aP, .inl (K 0, 80, .inl fP))] H := hP
        have hD : va_D A [(oM, .inr (5, [.ref aS, .ref aA, .ref aB, .int (nI kn), .ref aT, .ref aV, .ref aP, .int (nI ln), .int pl, .int wr, .int le, .int on, .int tw])), (aS, .inl (K 0, 360, .inl (upd fS (40 + 160 * 0 + 5 * j + 0) (fS (40 + 160 * 1 + 5 * j + 0))))), (aA, .inl (K 0, 360, .inl fA)), (aB, .inl (K 0, 2160, .inl fB)), (aT, .inl (K 0, 720, .inl fT)), (aV, .inl (K 2, 2, .inl fV)), (aP, .inl (K 0, 80, .inl fP))] := hD
        refine lv_iinc (v := 1) (lv' := [(3, .int 1), (2, .int 0), (0, .ref oM), (1, .int (nI j))]) hx hb dX5_mends_56 hl (k := 0) rfl (by decide) (by decide) rfl (fun ls hl => ?_)
        refine lv_goto (tgt := 27) hx hb dX5_mends_59 (by decide) ?_
        refine lv_iload_n hx hb dX5_mends_27 rfl (lv_at hl 0 rfl) ?_
        refine lv_iconst (v := 5) hx hb dX5_mends_28 (by decide) ?_
        refine lv_icmp_ge (tgt := 62) hx hb dX5_mends_29 (by decide) (fun h_8 => absurd h_8 (by decide)) (fun _ => ?_)
        refine lv_aload_n hx hb dX5_mends_32 rfl (lv_at hl 2 rfl) ?_
        refine va_get (D := D) (ci := 5) (v := .ref aS) (C := RX5) (T := TX5) (N := 13) hx hb hts hin5 hown hK hP 0 rfl rfl 0 (by decide) (hts _ (List.mem_of_getElem? (i := 1) rfl)) (fun _ h9 => h9) rfl dX5_mends_33 ?_
        refine lv_iload_n hx hb dX5_mends_36 rfl (lv_at hl 1 rfl) ?_
        refine lv_iload_n hx hb dX5_mends_37 rfl (lv_at hl 3 rfl) ?_
        refine lv_iload_n hx hb dX5_mends_38 rfl (lv_at hl 0 rfl) ?_
        refine vp_callSi (va_Run.run (va_runS (As := [.int 0, .int (nI j), .int 1]) (rest := [.ref aS]) ⟨hx, hb, hml, hown, hts⟩ (c_X5_of l D K 0 j 1 ) (va_cwS 3 hts gX5_mends_X5_of rfl rfl rfl (by decide +kernel) ⟨Nat.le_of_ble_eq_true rfl, Nat.le_of_ble_eq_true rfl⟩) pre_s0 rfl rfl hl.1 rfl (lv_room (Nat.le_of_ble_eq_true rfl)) dX5_mends_39 ⟨Nat.zero_le _, Nat.zero_le _⟩)) (fun r_9 hr_9 => ?_)
        subst hr_9
        refine lv_aload_n hx hb dX5_mends_42 rfl (lv_at hl 2 rfl) ?_
        refine va_get (D := D) (ci := 5) (v := .ref aS) (C := RX5) (T := TX5) (N := 13) hx hb hts hin5 hown hK hP 0 rfl rfl 0 (by decide) (hts _ (List.mem_of_getElem? (i := 1) rfl)) (fun _ h9 => h9) rfl dX5_mends_43 ?_
        refine lv_iconst (v := 1) hx hb dX5_mends_46 (by decide) ?_
        refine lv_iload_n hx hb dX5_mends_47 rfl (lv_at hl 1 rfl) ?_
        refine lv_isub hx hb dX5_mends_48 ?_
        refine st1 (y := 1) (by decide) ?_
        refine lv_iload_n hx hb dX5_mends_49 rfl (lv_at hl 3 rfl) ?_
        refine lv_iload_n hx hb dX5_mends_50 rfl (lv_at hl 0 rfl) ?_
        refine vp_callSi (va_Run.run (va_runS (As := [.int 1, .int (nI j), .int 1]) (rest := [.ref aS, .int (nI (40 + 160 * 0 + 5 * j + 1)), .ref aS]) ⟨hx, hb, hml, hown, hts⟩ (c_X5_of l D K 1 j 1 ) (va_cwS 3 hts gX5_mends_X5_of rfl rfl rfl (by decide +kernel) ⟨Nat.le_of_ble_eq_true rfl, Nat.le_of_ble_eq_true rfl⟩) pre_s0 rfl rfl hl.1 rfl (lv_room (Nat.le_of_ble_eq_true rfl)) dX5_mends_51 ⟨Nat.zero_le _, Nat.zero_le _⟩)) (fun r_10 hr_10 => ?_)
        subst hr_10
        refine n_iald hx hb hK hP 1 0 rfl rfl (40 + 160 * 1 + 5 * j + 1) (by omega) (by decide) dX5_mends_54 ?_
        refine st1 (pk_un (by omega)) ?_
        refine n_iast hx hb hK hP hD hS 1 0 rfl rfl (40 + 160 * 0 + 5 * j + 1) (by omega) (by decide) dX5_mends_55 (fun H locs hP hD hS => ?_)
        have hP : va_P D vwCl [(oM, .inr (5, [.ref aS, .ref aA, .ref aB, .int (nI kn), .ref aT, .ref aV, .ref aP, .int (nI ln), .int pl, .int wr, .int le, .int on, .int tw])), (aS, .inl (K 0, 360, .inl (upd (upd fS (40 + 160 * 0 + 5 * j + 0) (fS (40 + 160 * 1 + 5 * j + 0))) (40 + 160 * 0 + 5 * j + 1) (fS (40 + 160 * 1 + 5 * j + 1))))), (aA, .inl (K 0, 360, .inl fA)), (aB, .inl (K 0, 2160, .inl fB)), (aT, .inl (K 0, 720, .inl fT)), (aV, .inl (K 2, 2, .inl fV)), (aP, .inl (K 0, 80, .inl fP))] H := hP
        have hD : va_D A [(oM, .inr (5, [.ref aS, .ref aA, .ref aB, .int (nI kn), .ref aT, .ref aV, .ref aP, .int (nI ln), .int pl, .int wr, .int le, .int on, .int tw])), (aS, .inl (K 0, 360, .inl (upd (upd fS (40 + 160 * 0 + 5 * j + 0) (fS (40 + 160 * 1 + 5 * j + 0))) (40 + 160 * 0 + 5 * j + 1) (fS (40 + 160 * 1 + 5 * j + 1))))), (aA, .inl (K 0, 360, .inl fA)), (aB, .inl (K 0, 2160, .inl fB)), (aT, .inl (K 0, 720, .inl fT)), (aV, .inl (K 2, 2, .inl fV)), (aP, .inl (K 0, 80, .inl fP))] := hD
        refine lv_iinc (v := 2) (lv' := [(3, .int 2), (2, .int 0), (0, .ref oM), (1, .int (nI j))]) hx hb dX5_mends_56 hl (k := 0) rfl (by decide) (by decide) rfl (fun ls hl => ?_)
        refine lv_goto (tgt := 27) hx hb dX5_mends_59 (by decide) ?_
        refine lv_iload_n hx hb dX5_mends_27 rfl (lv_at hl 0 rfl) ?_
        refine lv_iconst (v := 5) hx hb dX5_mends_28 (by decide) ?_
        refine lv_icmp_ge (tgt := 62) hx hb dX5_mends_29 (by decide) (fun h_11 => absurd h_11 (by decide)) (fun _ => ?_)
        refine lv_aload_n hx hb dX5_mends_32 rfl (lv_at hl 2 rfl) ?_
        refine va_get (D := D) (ci := 5) (v := .ref aS) (C := RX5) (T := TX5) (N := 13) hx hb hts hin5 hown hK hP 0 rfl rfl 0 (by decide) (hts _ (List.mem_of_getElem? (i := 1) rfl)) (fun _ h9 => h9) rfl dX5_mends_33 ?_
        refine lv_iload_n hx hb dX5_mends_36 rfl (lv_at hl 1 rfl) ?_
        refine lv_iload_n hx hb dX5_mends_37 rfl (lv_at hl 3 rfl) ?_
        refine lv_iload_n hx hb dX5_mends_38 rfl (lv_at hl 0 rfl) ?_
        refine vp_callSi (va_Run.run (va_runS (As := [.int 0, .int (nI j), .int 2]) (rest := [.ref aS]) ⟨hx, hb, hml, hown, hts⟩ (c_X5_of l D K 0 j 2 ) (va_cwS 3 hts gX5_mends_X5_of rfl rfl rfl (by decide +kernel) ⟨Nat.le_of_ble_eq_true rfl, Nat.le_of_ble_eq_true rfl⟩) pre_s0 rfl rfl hl.1 rfl (lv_room (Nat.le_of_ble_eq_true rfl)) dX5_mends_39 ⟨Nat.zero_le _, Nat.zero_le _⟩)) (fun r_12 hr_12 => ?_)
        subst hr_12
        refine lv_aload_n hx hb dX5_mends_42 rfl (lv_at hl 2 rfl) ?_
        refine va_get (D := D) (ci := 5) (v := .ref aS) (C := RX5) (T := TX5) (N := 13) hx hb hts hin5 hown hK hP 0 rfl rfl 0 (by decide) (hts _ (List.mem_of_getElem? (i := 1) rfl)) (fun _ h9 => h9) rfl dX5_mends_43 ?_
        refine lv_iconst (v := 1) hx hb dX5_mends_46 (by decide) ?_
        refine lv_iload_n hx hb dX5_mends_47 rfl (lv_at hl 1 rfl) ?_
        refine lv_isub hx hb dX5_mends_48 ?_
        refine st1 (y := 1) (by decide) ?_
        refine lv_iload_n hx hb dX5_mends_49 rfl (lv_at hl 3 rfl) ?_
        refine lv_iload_n hx hb dX5_mends_50 rfl (lv_at hl 0 rfl) ?_
        refine vp_callSi (va_Run.run (va_runS (As := [.int 1, .int (nI j), .int 2]) (rest := [.ref aS, .int (nI (40 + 160 * 0 + 5 * j + 2)), .ref aS]) ⟨hx, hb, hml, hown, hts⟩ (c_X5_of l D K 1 j 2 ) (va_cwS 3 hts gX5_mends_X5_of rfl rfl rfl (by decide +kernel) ⟨Nat.le_of_ble_eq_true rfl, Nat.le_of_ble_eq_true rfl⟩) pre_s0 rfl rfl hl.1 rfl (lv_room (Nat.le_of_ble_eq_true rfl)) dX5_mends_51 ⟨Nat.zero_le _, Nat.zero_le _⟩)) (fun r_13 hr_13 => ?_)
        subst hr_13
        refine n_iald hx hb hK hP 1 0 rfl rfl (40 + 160 * 1 + 5 * j + 2) (by omega) (by decide) dX5_mends_54 ?_
        refine st1 (pk_un (by omega)) ?_
        refine st1 (pk_un (by omega)) ?_
        refine n_iast hx hb hK hP hD hS 1 0 rfl rfl (40 + 160 * 0 + 5 * j + 2) (by omega) (by decide) dX5_mends_55 (fun H locs hP hD hS => ?_)
        have hP : va_P D vwCl [(oM, .inr (5, [.ref aS, .ref aA, .ref aB, .int (nI kn), .ref aT, .ref aV, .ref aP, .int (nI ln), .int pl, .int wr, .int le, .int on, .int tw])), (aS, .inl (K 0, 360, .inl (upd (upd (upd fS (40 + 160 * 0 + 5 * j + 0) (fS (40 + 160 * 1 + 5 * j + 0))) (40 + 160 * 0 + 5 * j + 1) (fS (40 + 160 * 1 + 5 * j + 1))) (40 + 160 * 0 + 5 * j + 2) (fS (40 + 160 * 1 + 5 * j + 2))))), (aA, .inl (K 0, 360, .inl fA)), (aB, .inl (K 0, 2160, .inl fB)), (aT, .inl (K 0, 720, .inl fT)), (aV, .inl (K 2, 2, .inl fV)), (aP, .inl (K 0, 80, .inl fP))] H := hP
        have hD : va_D A [(oM, .inr (5, [.ref aS, .ref aA, .ref aB, .int (nI kn), .ref aT, .ref aV, .ref aP, .int (nI ln), .int pl, .int wr, .int le, .int on, .int tw])), (aS, .inl (K 0, 360, .inl (upd (upd (upd fS (40 + 160 * 0 + 5 * j + 0) (fS (40 + 160 * 1 + 5 * j + 0))) (40 + 160 * 0 + 5 * j + 1) (fS (40 + 160 * 1 + 5 * j + 1))) (40 + 160 * 0 + 5 * j + 2) (fS (40 + 160 * 1 + 5 * j + 2))))), (aA, .inl (K 0, 360, .inl fA)), (aB, .inl (K 0, 2160, .inl fB)), (aT, .inl (K 0, 720, .inl fT)), (aV, .inl (K 2, 2, .inl fV)), (aP, .inl (K 0, 80, .inl fP))] := hD
        refine lv_iinc (v := 3) (lv' := [(3, .int 3), (2, .int 0), (0, .ref oM), (1, .int (nI j))]) hx hb dX5_mends_56 hl (k := 0) rfl (by decide) (by decide) rfl (fun ls hl => ?_)
        refine lv_goto (tgt := 27) hx hb dX5_mends_59 (by decide) ?_
        refine lv_iload_n hx hb dX5_mends_27 rfl (lv_at hl 0 rfl) ?_
        refine lv_iconst (v := 5) hx hb dX5_mends_28 (by decide) ?_
        refine lv_icmp_ge (tgt := 62) hx hb dX5_mends_29 (by decide) (fun h_14 => absurd h_14 (by decide)) (fun _ => ?_)
        refine lv_aload_n hx hb dX5_mends_32 rfl (lv_at hl 2 rfl) ?_
        refine va_get (D := D) (ci := 5) (v := .ref aS) (C := RX5) (T := TX5) (N := 13) hx hb hts hin5 hown hK hP 0 rfl rfl 0 (by decide) (hts _ (List.mem_of_getElem? (i := 1) rfl)) (fun _ h9 => h9) rfl dX5_mends_33 ?_
        refine lv_iload_n hx hb dX5_mends_36 rfl (lv_at hl 1 rfl) ?_
        refine lv_iload_n hx hb dX5_mends_37 rfl (lv_at hl 3 rfl) ?_
        refine lv_iload_n hx hb dX5_mends_38 rfl (lv_at hl 0 rfl) ?_
        refine vp_callSi (va_Run.run (va_runS (As := [.int 0, .int (nI j), .int 3]) (rest := [.ref aS]) ⟨hx, hb, hml, hown, hts⟩ (c_X5_of l D K 0 j 3 ) (va_cwS 3 hts gX5_mends_X5_of rfl rfl rfl (by decide +kernel) ⟨Nat.le_of_ble_eq_true rfl, Nat.le_of_ble_eq_true rfl⟩) pre_s0 rfl rfl hl.1 rfl (lv_room (Nat.le_of_ble_eq_true rfl)) dX5_mends_39 ⟨Nat.zero_le _, Nat.zero_le _⟩)) (fun r_15 hr_15 => ?_)
        subst hr_15
        refine lv_aload_n hx hb dX5_mends_42 rfl (lv_at hl 2 rfl) ?_
        refine va_get (D := D) (ci := 5) (v := .ref aS) (C := RX5) (T := TX5) (N := 13) hx hb hts hin5 hown hK hP 0 rfl rfl 0 (by decide) (hts _ (List.mem_of_getElem? (i := 1) rfl)) (fun _ h9 => h9) rfl dX5_mends_43 ?_
        refine lv_iconst (v := 1) hx hb dX5_mends_46 (by decide) ?_
        refine lv_iload_n hx hb dX5_mends_47 rfl (lv_at hl 1 rfl) ?_
        refine lv_isub hx hb dX5_mends_48 ?_
        refine st1 (y := 1) (by decide) ?_
        refine lv_iload_n hx hb dX5_mends_49 rfl (lv_at hl 3 rfl) ?_
        refine lv_iload_n hx hb dX5_mends_50 rfl (lv_at hl 0 rfl) ?_
        refine vp_callSi (va_Run.run (va_runS (As := [.int 1, .int (nI j), .int 3]) (rest := [.ref aS, .int (nI (40 + 160 * 0 + 5 * j + 3)), .ref aS]) ⟨hx, hb, hml, hown, hts⟩ (c_X5_of l D K 1 j 3 ) (va_cwS 3 hts gX5_mends_X5_of rfl rfl rfl (by decide +kernel) ⟨Nat.le_of_ble_eq_true rfl, Nat.le_of_ble_eq_true rfl⟩) pre_s0 rfl rfl hl.1 rfl (lv_room (Nat.le_of_ble_eq_true rfl)) dX5_mends_51 ⟨Nat.zero_le _, Nat.zero_le _⟩)) (fun r_16 hr_16 => ?_)
        subst hr_16
        refine n_iald hx hb hK hP 1 0 rfl rfl (40 + 160 * 1 + 5 * j + 3) (by omega) (by decide) dX5_mends_54 ?_
        refine st1 (pk_un (by omega)) ?_
        refine st1 (pk_un (by omega)) ?_
        refine st1 (pk_un (by omega)) ?_
        refine n_iast hx hb hK hP hD hS 1 0 rfl rfl (40 + 160 * 0 + 5 * j + 3) (by omega) (by decide) dX5_mends_55 (fun H locs hP hD hS => ?_)
        have hP : va_P D vwCl [(oM, .inr (5, [.ref aS, .ref aA, .ref aB, .int (nI kn), .ref aT, .ref aV, .ref aP, .int (nI ln), .int pl, .int wr, .int le, .int on, .int tw])), (aS, .inl (K 0, 360, .inl (upd (upd (upd (upd fS (40 + 160 * 0 + 5 * j + 0) (fS (40 + 160 * 1 + 5 * j + 0))) (40 + 160 * 0 + 5 * j + 1) (fS (40 + 160 * 1 + 5 * j + 1))) (40 + 160 * 0 + 5 * j + 2) (fS (40 + 160 * 1 + 5 * j + 2))) (40 + 160 * 0 + 5 * j + 3) (fS (40 + 160 * 1 + 5 * j + 3))))), (aA, .inl (K 0, 360, .inl fA)), (aB, .inl (K 0, 2160, .inl fB)), (aT, .inl (K 0, 720, .inl fT)), (aV, .inl (K 2, 2, .inl fV)), (aP, .inl (K 0, 80, .inl fP))] H := hP
        have hD : va_D A [(oM, .inr (5, [.ref aS, .ref aA, .ref aB, .int (nI kn), .ref aT, .ref aV, .ref aP, .int (nI ln), .int pl, .int wr, .int le, .int on, .int tw])), (aS, .inl (K 0, 360, .inl (upd (upd (upd (upd fS (40 + 160 * 0 + 5 * j + 0) (fS (40 + 160 * 1 + 5 * j + 0))) (40 + 160 * 0 + 5 * j + 1) (fS (40 + 160 * 1 + 5 * j + 1))) (40 + 160 * 0 + 5 * j + 2) (fS (40 + 160 * 1 + 5 * j + 2))) (40 + 160 * 0 + 5 * j + 3) (fS (40 + 160 * 1 + 5 * j + 3))))), (aA, .inl (K 0, 360, .inl fA)), (aB, .inl (K 0, 2160, .inl fB)), (aT, .inl (K 0, 720, .inl fT)), (aV, .inl (K 2, 2, .inl fV)), (aP, .inl (K 0, 80, .inl fP))] := hD
        refine lv_iinc (v := 4) (lv' := [(3, .int 4), (2, .int 0), (0, .ref oM), (1, .int (nI j))]) hx hb dX5_mends_56 hl (k := 0) rfl (by decide) (by decide) rfl (fun ls hl => ?_)
        refine lv_goto (tgt := 27) hx hb dX5_mends_59 (by decide) ?_
        refine lv_iload_n hx hb dX5_mends_27 rfl (lv_at hl 0 rfl) ?_
        refine lv_iconst (v := 5) hx hb dX5_mends_28 (by decide) ?_
        refine lv_icmp_ge (tgt := 62) hx hb dX5_mends_29 (by decide) (fun h_17 => absurd h_17 (by decide)) (fun _ => ?_)
        refine lv_aload_n hx hb dX5_mends_32 rfl (lv_at hl 2 rfl) ?_
        refine va_get (D := D) (ci := 5) (v := .ref aS) (C := RX5) (T := TX5) (N := 13) hx hb hts hin5 hown hK hP 0 rfl rfl 0 (by decide) (hts _ (List.mem_of_getElem? (i := 1) rfl)) (fun _ h9 => h9) rfl dX5_mends_33 ?_
        refine lv_iload_n hx hb dX5_mends_36 rfl (lv_at hl 1 rfl) ?_
        refine lv_iload_n hx hb dX5_mends_37 rfl (lv_at hl 3 rfl) ?_
        refine lv_iload_n hx hb dX5_mends_38 rfl (lv_at hl 0 rfl) ?_
        refine vp_callSi (va_Run.run (va_runS (As := [.int 0, .int (nI j), .int 4]) (rest := [.ref aS]) ⟨hx, hb, hml, hown, hts⟩ (c_X5_of l D K 0 j 4 ) (va_cwS 3 hts gX5_mends_X5_of rfl rfl rfl (by decide +kernel) ⟨Nat.le_of_ble_eq_true rfl, Nat.le_of_ble_eq_true rfl⟩) pre_s0 rfl rfl hl.1 rfl (lv_room (Nat.le_of_ble_eq_true rfl)) dX5_mends_39 ⟨Nat.zero_le _, Nat.zero_le _⟩)) (fun r_18 hr_18 => ?_)
        subst hr_18
        refine lv_aload_n hx hb dX5_mends_42 rfl (lv_at hl 2 rfl) ?_
        refine va_get (D := D) (ci := 5) (v := .ref aS) (C := RX5) (T := TX5) (N := 13) hx hb hts hin5 hown hK hP 0 rfl rfl 0 (by decide) (hts _ (List.mem_of_getElem? (i := 1) rfl)) (fun _ h9 => h9) rfl dX5_mends_43 ?_
        refine lv_iconst (v := 1) hx hb dX5_mends_46 (by decide) ?_
        refine lv_iload_n hx hb dX5_mends_47 rfl (lv_at hl 1 rfl) ?_
        refine lv_isub hx hb dX5_mends_48 ?_
        refine st1 (y := 1) (by decide) ?_
        refine lv_iload_n hx hb dX5_mends_49 rfl (lv_at hl 3 rfl) ?_
        refine lv_iload_n hx hb dX5_mends_50 rfl (lv_at hl 0 rfl) ?_
        refine vp_callSi (va_Run.run (va_runS (As := [.int 1, .int (nI j), .int 4]) (rest := [.ref aS, .int (nI (40 + 160 * 0 + 5 * j + 4)), .ref aS]) ⟨hx, hb, hml, hown, hts⟩ (c_X5_of l D K 1 j 4 ) (va_cwS 3 hts gX5_mends_X5_of rfl rfl rfl (by decide +kernel) ⟨Nat.le_of_ble_eq_true rfl, Nat.le_of_ble_eq_true rfl⟩) pre_s0 rfl rfl hl.1 rfl (lv_room (Nat.le_of_ble_eq_true rfl)) dX5_mends_51 ⟨Nat.zero_le _, Nat.zero_le _⟩)) (fun r_19 hr_19 => ?_)
        subst hr_19
        refine n_iald hx hb hK hP 1 0 rfl rfl (40 + 160 * 1 + 5 * j + 4) (by omega) (by decide) dX5_mends_54 ?_
        refine st1 (pk_un (by omega)) ?_
        refine st1 (pk_un (by omega)) ?_
        refine st1 (pk_un (by omega)) ?_
        refine st1 (pk_un (by omega)) ?_
        refine n_iast hx hb hK hP hD hS 1 0 rfl rfl (40 + 160 * 0 + 5 * j + 4) (by omega) (by decide) dX5_mends_55 (fun H locs hP hD hS => ?_)
        have hP : va_P D vwCl [(oM, .inr (5, [.ref aS, .ref aA, .ref aB, .int (nI kn), .ref aT, .ref aV, .ref aP, .int (nI ln), .int pl, .int wr, .int le, .int on, .int tw])), (aS, .inl (K 0, 360, .inl (upd (upd (upd (upd (upd fS (40 + 160 * 0 + 5 * j + 0) (fS (40 + 160 * 1 + 5 * j + 0))) (40 + 160 * 0 + 5 * j + 1) (fS (40 + 160 * 1 + 5 * j + 1))) (40 + 160 * 0 + 5 * j + 2) (fS (40 + 160 * 1 + 5 * j + 2))) (40 + 160 * 0 + 5 * j + 3) (fS (40 + 160 * 1 + 5 * j + 3))) (40 + 160 * 0 + 5 * j + 4) (fS (40 + 160 * 1 + 5 * j + 4))))), (aA, .inl (K 0, 360, .inl fA)), (aB, .inl (K 0, 2160, .inl fB)), (aT, .inl (K 0, 720, .inl fT)), (aV, .inl (K 2, 2, .inl fV)), (aP, .inl (K 0, 80, .inl fP))] H := hP
        have hD : va_D A [(oM, .inr (5, [.ref aS, .ref aA, .ref aB, .int (nI kn), .ref aT, .ref aV, .ref aP, .int (nI ln), .int pl, .int wr, .int le, .int on, .int tw])), (aS, .inl (K 0, 360, .inl (upd (upd (upd (upd (upd fS (40 + 160 * 0 + 5 * j + 0) (fS (40 + 160 * 1 + 5 * j + 0))) (40 + 160 * 0 + 5 * j + 1) (fS (40 + 160 * 1 + 5 * j + 1))) (40 + 160 * 0 + 5 * j + 2) (fS (40 + 160 * 1 + 5 * j + 2))) (40 + 160 * 0 + 5 * j + 3) (fS (40 + 160 * 1 + 5 * j + 3))) (40 + 160 * 0 + 5 * j + 4) (fS (40 + 160 * 1 + 5 * j + 4))))), (aA, .inl (K 0, 360, .inl fA)), (aB, .inl (K 0, 2160, .inl fB)), (aT, .inl (K 0, 720, .inl fT)), (aV, .inl (K 2, 2, .inl fV)), (aP, .inl (K 0, 80, .inl fP))] := hD
        refine lv_iinc (v := 5) (lv' := [(3, .int 5), (2, .int 0), (0, .ref oM), (1, .int (nI j))]) hx hb dX5_mends_56 hl (k := 0) rfl (by decide) (by decide) rfl (fun ls hl => ?_)
        refine lv_goto (tgt := 27) hx hb dX5_mends_59 (by decide) ?_
        refine lv_iload_n hx hb dX5_mends_27 rfl (lv_at hl 0 rfl) ?_
        refine lv_iconst (v := 5) hx hb dX5_mends_28 (by decide) ?_
        refine lv_icmp_ge (tgt := 62) hx hb dX5_mends_29 (by decide) (fun _ => ?_) (fun h_20 => absurd (by decide) h_20)
        refine lv_aload_n hx hb dX5_mends_62 rfl (lv_at hl 2 rfl) ?_
        refine va_get (D := D) (ci := 5) (v := .ref aS) (C := RX5) (T := TX5) (N := 13) hx hb hts hin5 hown hK hP 0 rfl rfl 0 (by decide) (hts _ (List.mem_of_getElem? (i := 1) rfl)) (fun _ h9 => h9) rfl dX5_mends_63 ?_
        refine lv_bipush (v := 7) hx hb dX5_mends_66 (by decide) ?_
        refine lv_dup2_11 hx hb dX5_mends_68 rfl rfl ?_
        refine n_iald hx hb hK hP 1 0 rfl rfl 7 (by omega) (by decide) dX5_mends_69 ?_
        refine st1 (pk_un (by omega)) ?_
        refine st1 (pk_un (by omega)) ?_
        refine st1 (pk_un (by omega)) ?_
        refine st1 (pk_un (by omega)) ?_
        refine st1 (pk_un (by omega)) ?_
        refine lv_iconst (v := 1) hx hb dX5_mends_70 (by decide) ?_
        refine lv_iadd hx hb dX5_mends_71 ?_
        refine n_iast hx hb hK hP hD hS 1 0 rfl rfl 7 (by omega) (by decide) dX5_mends_72 (fun H locs hP hD hS => ?_)
        have hP : va_P D vwCl [(oM, .inr (5, [.ref aS, .ref aA, .ref aB, .int (nI kn), .ref aT, .ref aV, .ref aP, .int (nI ln), .int pl, .int wr, .int le, .int on, .int tw])), (aS, .inl (K 0, 360, .inl (upd (upd (upd (upd (upd (upd fS (40 + 160 * 0 + 5 * j + 0) (fS (40 + 160 * 1 + 5 * j + 0))) (40 + 160 * 0 + 5 * j + 1) (fS (40 + 160 * 1 + 5 * j + 1))) (40 + 160 * 0 + 5 * j + 2) (fS (40 + 160 * 1 + 5 * j + 2))) (40 + 160 * 0 + 5 * j + 3) (fS (40 + 160 * 1 + 5 * j + 3))) (40 + 160 * 0 + 5 * j + 4) (fS (40 + 160 * 1 + 5 * j + 4))) 7 ((fS 7) + 1)))), (aA, .inl (K 0, 360, .inl fA)), (aB, .inl (K 0, 2160, .inl fB)), (aT, .inl (K 0, 720, .inl fT)), (aV, .inl (K 2, 2, .inl fV)), (aP, .inl (K 0, 80, .inl fP))] H := hP
        have hD : va_D A [(oM, .inr (5, [.ref aS, .ref aA, .ref aB, .int (nI kn), .ref aT, .ref aV, .ref aP, .int (nI ln), .int pl, .int wr, .int le, .int on, .int tw])), (aS, .inl (K 0, 360, .inl (upd (upd (upd (upd (upd (upd fS (40 + 160 * 0 + 5 * j + 0) (fS (40 + 160 * 1 + 5 * j + 0))) (40 + 160 * 0 + 5 * j + 1) (fS (40 + 160 * 1 + 5 * j + 1))) (40 + 160 * 0 + 5 * j + 2) (fS (40 + 160 * 1 + 5 * j + 2))) (40 + 160 * 0 + 5 * j + 3) (fS (40 + 160 * 1 + 5 * j + 3))) (40 + 160 * 0 + 5 * j + 4) (fS (40 + 160 * 1 + 5 * j + 4))) 7 ((fS 7) + 1)))), (aA, .inl (K 0, 360, .inl fA)), (aB, .inl (K 0, 2160, .inl fB)), (aT, .inl (K 0, 720, .inl fT)), (aV, .inl (K 2, 2, .inl fV)), (aP, .inl (K 0, 80, .inl fP))] := hD
        refine lv_iload_n hx hb dX5_mends_73 rfl (lv_at hl 1 rfl) ?_
        refine lv_iconst (v := 1) hx hb dX5_mends_74 (by decide) ?_
        refine lv_iadd hx hb dX5_mends_75 ?_
        refine st1 (y := 1) (by decide) ?_
        have e_21 : n_X5_mends_1 fS j = (upd (upd (upd (upd (upd (upd fS (40 + 160 * 0 + 5 * j + 0) (fS (40 + 160 * 1 + 5 * j + 0))) (40 + 160 * 0 + 5 * j + 1) (fS (40 + 160 * 1 + 5 * j + 1))) (40 + 160 * 0 + 5 * j + 2) (fS (40 + 160 * 1 + 5 * j + 2))) (40 + 160 * 0 + 5 * j + 3) (fS (40 + 160 * 1 + 5 * j + 3))) (40 + 160 * 0 + 5 * j + 4) (fS (40 + 160 * 1 + 5 * j + 4))) 7 ((fS 7) + 1)) := by unfold n_X5_mends_1; rw [if_neg c_2, if_pos c_4]
        have hPf : va_P D vwCl [(oM, .inr (5, [.ref aS, .ref aA, .ref aB, .int (nI kn), .ref aT, .ref aV, .ref aP, .int (nI ln), .int pl, .int wr, .int le, .int on, .int tw])), (aS, .inl (K 0, 360, .inl (n_X5_mends_1 fS j))), (aA, .inl (K 0, 360, .inl fA)), (aB, .inl (K 0, 2160, .inl fB)), (aT, .inl (K 0, 720, .inl fT)), (aV, .inl (K 2, 2, .inl fV)), (aP, .inl (K 0, 80, .inl fP))] H := (by rw [e_21]; exact hP)
        exact W.iret hx hb hr (fun t ht hW => ⟨⟨_, (), rfl, (by unfold r_X5_mends; rw [if_neg c_2, if_pos c_4]), by show va_P D vwCl _ t.heap; rw [ht]; exact hPf⟩, hS.F ht⟩) hS.2.2 dX5_mends_76
      · skip
        refine lv_iconst (v := 1) hx hb dX5_mends_19 (by decide) ?_
        refine lv_goto (tgt := 24) hx hb dX5_mends_20 (by decide) ?_
        refine lv_istore_n (lv' := [(2, .int 1), (0, .ref oM), (1, .int (nI j))]) hx hb dX5_mends_24 rfl hl (by decide) rfl (fun ls hl => ?_)
        refine lv_iconst (v := 0) hx hb dX5_mends_25 (by decide) ?_
        refine lv_istore_n (lv' := [(3, .int 0), (2, .int 1), (0, .ref oM), (1, .int (nI j))]) hx hb dX5_mends_26 rfl hl (by decide) rfl (fun ls hl => ?_)
        refine lv_iload_n hx hb dX5_mends_27 rfl (lv_at hl 0 rfl) ?_
        refine lv_iconst (v := 5) hx hb dX5_mends_28 (by decide) ?_
        refine lv_icmp_ge (tgt := 62) hx hb dX5_mends_29 (by decide) (fun h_22 => absurd h_22 (by decide)) (fun _ => ?_)
        refine lv_aload_n hx hb dX5_mends_32 rfl (lv_at hl 2 rfl) ?_
        refine va_get (D := D) (ci := 5) (v := .ref aS) (C := RX5) (T := TX5) (N := 13) hx hb hts hin5 hown hK hP 0 rfl rfl 0 (by decide) (hts _ (List.mem_of_getElem? (i := 1) rfl)) (fun _ h9 => h9) rfl dX5_mends_33 ?_
        refine lv_iload_n hx hb dX5_mends_36 rfl (lv_at hl 1 rfl) ?_
        refine lv_iload_n hx hb dX5_mends_37 rfl (lv_at hl 3 rfl) ?_
        refine lv_iload_n hx hb dX5_mends_38 rfl (lv_at hl 0 rfl) ?_
        refine vp_callSi (va_Run.run (va_runS (As := [.int 1, .int (nI j), .int 0]) (rest := [.ref aS]) ⟨hx, hb, hml, hown, hts⟩ (c_X5_of l D K 1 j 0 ) (va_cwS 3 hts gX5_mends_X5_of rfl rfl rfl (by decide +kernel) ⟨Nat.le_of_ble_eq_true rfl, Nat.le_of_ble_eq_true rfl⟩) pre_s0 rfl rfl hl.1 rfl (lv_room (Nat.le_of_ble_eq_true rfl)) dX5_mends_39 ⟨Nat.zero_le _, Nat.zero_le _⟩)) (fun r_23 hr_23 => ?_)
        subst hr_23
        refine lv_aload_n hx hb dX5_mends_42 rfl (lv_at hl 2 rfl) ?_
        refine va_get (D := D) (ci := 5) (v := .ref aS) (C := RX5) (T := TX5) (N := 13) hx hb hts hin5 hown hK hP 0 rfl rfl 0 (by decide) (hts _ (List.mem_of_getElem? (i := 1) rfl)) (fun _ h9 => h9) rfl dX5_mends_43 ?_
        refine lv_iconst (v := 1) hx hb dX5_mends_46 (by decide) ?_
        refine lv_iload_n hx hb dX5_mends_47 rfl (lv_at hl 1 rfl) ?_
        refine lv_isub hx hb dX5_mends_48 ?_
        refine st1 (y := 0) (by decide) ?_
        refine lv_iload_n hx hb dX5_mends_49 rfl (lv_at hl 3 rfl) ?_
        refine lv_iload_n hx hb dX5_mends_50 rfl (lv_at hl 0 rfl) ?_
        refine vp_callSi (va_Run.run (va_runS (As := [.int 0, .int (nI j), .int 0]) (rest := [.ref aS, .int (nI (40 + 160 * 1 + 5 * j + 0)), .ref aS]) ⟨hx, hb, hml, hown, hts⟩ (c_X5_of l D K 0 j 0 ) (va_cwS 3 hts gX5_mends_X5_of rfl rfl rfl (by decide +kernel) ⟨Nat.le_of_ble_eq_true rfl, Nat.le_of_ble_eq_true rfl⟩) pre_s0 rfl rfl hl.1 rfl (lv_room (Nat.le_of_ble_eq_true rfl)) dX5_mends_51 ⟨Nat.zero_le _, Nat.zero_le _⟩)) (fun r_24 hr_24 => ?_)
        subst hr_24
        refine n_iald hx hb hK hP 1 0 rfl rfl (40 + 160 * 0 + 5 * j + 0) (by omega) (by decide) dX5_mends_54 ?_
        refine n_iast hx hb hK hP hD hS 1 0 rfl rfl (40 + 160 * 1 + 5 * j + 0) (by omega) (by decide) dX5_mends_55 (fun H locs hP hD hS => ?_)
        have hP : va_P D vwCl [(oM, .inr (5, [.ref aS, .ref aA, .ref aB, .int (nI kn), .ref aT, .ref aV, .ref aP, .int (nI ln), .int pl, .int wr, .int le, .int on, .int tw])), (aS, .inl (K 0, 360, .inl (upd fS (40 + 160 * 1 + 5 * j + 0) (fS (40 + 160 * 0 + 5 * j + 0))))), (aA, .inl (K 0, 360, .inl fA)), (aB, .inl (K 0, 2160, .inl fB)), (aT, .inl (K 0, 720, .inl fT)), (aV, .inl (K 2, 2, .inl fV)), (aP, .inl (K 0, 80, .inl fP))] H := hP
        have hD : va_D A [(oM, .inr (5, [.ref aS, .ref aA, .ref aB, .int (nI kn), .ref aT, .ref aV, .ref aP, .int (nI ln), .int pl, .int wr, .int le, .int on, .int tw])), (aS, .inl (K 0, 360, .inl (upd fS (40 + 160 * 1 + 5 * j + 0) (fS (40 + 160 * 0 + 5 * j + 0))))), (aA, .inl (K 0, 360, .inl fA)), (aB, .inl (K 0, 2160, .inl fB)), (aT, .inl (K 0, 720, .inl fT)), (aV, .inl (K 2, 2, .inl fV)), (aP, .inl (K 0, 80, .inl fP))] := hD
        refine lv_iinc (v := 1) (lv' := [(3, .int 1), (2, .int 1), (0, .ref oM), (1, .int (nI j))]) hx hb dX5_mends_56 hl (k := 0) rfl (by decide) (by decide) rfl (fun ls hl => ?_)
        refine lv_goto (tgt := 27) hx hb dX5_mends_59 (by decide) ?_
        refine lv_iload_n hx hb dX5_mends_27 rfl (lv_at hl 0 rfl) ?_
        refine lv_iconst (v := 5) hx hb dX5_mends_28 (by decide) ?_
        refine lv_icmp_ge (tgt := 62) hx hb dX5_mends_29 (by decide) (fun h_25 => absurd h_25 (by decide)) (fun _ => ?_)
        refine lv_aload_n hx hb dX5_mends_32 rfl (lv_at hl 2 rfl) ?_
        refine va_get (D := D) (ci := 5) (v := .ref aS) (C := RX5) (T := TX5) (N := 13) hx hb hts hin5 hown hK hP 0 rfl rfl 0 (by decide) (hts _ (List.mem_of_getElem? (i := 1) rfl)) (fun _ h9 => h9) rfl dX5_mends_33 ?_
        refine lv_iload_n hx hb dX5_mends_36 rfl (lv_at hl 1 rfl) ?_
        refine lv_iload_n hx hb dX5_mends_37 rfl (lv_at hl 3 rfl) ?_
        refine lv_iload_n hx hb dX5_mends_38 rfl (lv_at hl 0 rfl) ?_
        refine vp_callSi (va_Run.run (va_runS (As := [.int 1, .int (nI j), .int 1]) (rest := [.ref aS]) ⟨hx, hb, hml, hown, hts⟩ (c_X5_of l D K 1 j 1 ) (va_cwS 3 hts gX5_mends_X5_of rfl rfl rfl (by decide +kernel) ⟨Nat.le_of_ble_eq_true rfl, Nat.le_of_ble_eq_true rfl⟩) pre_s0 rfl rfl hl.1 rfl (lv_room (Nat.le_of_ble_eq_true rfl)) dX5_mends_39 ⟨Nat.zero_le _, Nat.zero_le _⟩)) (fun r_26 hr_26 => ?_)
        subst hr_26
        refine lv_aload_n hx hb dX5_mends_42 rfl (lv_at hl 2 rfl) ?_
        refine va_get (D := D) (ci := 5) (v := .ref aS) (C := RX5) (T := TX5) (N := 13) hx hb hts hin5 hown hK hP 0 rfl rfl 0 (by decide) (hts _ (List.mem_of_getElem? (i := 1) rfl)) (fun _ h9 => h9) rfl dX5_mends_43 ?_
        refine lv_iconst (v := 1) hx hb dX5_mends_46 (by decide) ?_
        refine lv_iload_n hx hb dX5_mends_47 rfl (lv_at hl 1 rfl) ?_
        refine lv_isub hx hb dX5_mends_48 ?_
        refine st1 (y := 0) (by decide) ?_
        refine lv_iload_n hx hb dX5_mends_49 rfl (lv_at hl 3 rfl) ?_
        refine lv_iload_n hx hb dX5_mends_50 rfl (lv_at hl 0 rfl) ?_
        refine vp_callSi (va_Run.run (va_runS (As := [.int 0, .int (nI j), .int 1]) (rest := [.ref aS, .int (nI (40 + 160 * 1 + 5 * j + 1)), .ref aS]) ⟨hx, hb, hml, hown, hts⟩ (c_X5_of l D K 0 j 1 ) (va_cwS 3 hts gX5_mends_X5_of rfl rfl rfl (by decide +kernel) ⟨Nat.le_of_ble_eq_true rfl, Nat.le_of_ble_eq_true rfl⟩) pre_s0 rfl rfl hl.1 rfl (lv_room (Nat.le_of_ble_eq_true rfl)) dX5_mends_51 ⟨Nat.zero_le _, Nat.zero_le _⟩)) (fun r_27 hr_27 => ?_)
        subst hr_27
        refine n_iald hx hb hK hP 1 0 rfl rfl (40 + 160 * 0 + 5 * j + 1) (by omega) (by decide) dX5_mends_54 ?_
        refine st1 (pk_un (by omega)) ?_
        refine n_iast hx hb hK hP hD hS 1 0 rfl rfl (40 + 160 * 1 + 5 * j + 1) (by omega) (by decide) dX5_mends_55 (fun H locs hP hD hS => ?_)
        have hP : va_P D vwCl [(oM, .inr (5, [.ref aS, .ref aA, .ref aB, .int (nI kn), .ref aT, .ref aV, .ref aP, .int (nI ln), .int pl, .int wr, .int le, .int on, .int tw])), (aS, .inl (K 0, 360, .inl (upd (upd fS (40 + 160 * 1 + 5 * j + 0) (fS (40 + 160 * 0 + 5 * j + 0))) (40 + 160 * 1 + 5 * j + 1) (fS (40 + 160 * 0 + 5 * j + 1))))), (aA, .inl (K 0, 360, .inl fA)), (aB, .inl (K 0, 2160, .inl fB)), (aT, .inl (K 0, 720, .inl fT)), (aV, .inl (K 2, 2, .inl fV)), (aP, .inl (K 0, 80, .inl fP))] H := hP
        have hD : va_D A [(oM, .inr (5, [.ref aS, .ref aA, .ref aB, .int (nI kn), .ref aT, .ref aV, .ref aP, .int (nI ln), .int pl, .int wr, .int le, .int on, .int tw])), (aS, .inl (K 0, 360, .inl (upd (upd fS (40 + 160 * 1 + 5 * j + 0) (fS (40 + 160 * 0 + 5 * j + 0))) (40 + 160 * 1 + 5 * j + 1) (fS (40 + 160 * 0 + 5 * j + 1))))), (aA, .inl (K 0, 360, .inl fA)), (aB, .inl (K 0, 2160, .inl fB)), (aT, .inl (K 0, 720, .inl fT)), (aV, .inl (K 2, 2, .inl fV)), (aP, .inl (K 0, 80, .inl fP))] := hD
        refine lv_iinc (v := 2) (lv' := [(3, .int 2), (2, .int 1), (0, .ref oM), (1, .int (nI j))]) hx hb dX5_mends_56 hl (k := 0) rfl (by decide) (by decide) rfl (fun ls hl => ?_)
        refine lv_goto (tgt := 27) hx hb dX5_mends_59 (by decide) ?_
        refine lv_iload_n hx hb dX5_mends_27 rfl (lv_at hl 0 rfl) ?_
        refine lv_iconst (v := 5) hx hb dX5_mends_28 (by decide) ?_
        refine lv_icmp_ge (tgt := 62) hx hb dX5_mends_29 (by decide) (fun h_28 => absurd h_28 (by decide)) (fun _ => ?_)
        refine lv_aload_n hx hb dX5_mends_32 rfl (lv_at hl 2 rfl) ?_
        refine va_get (D := D) (ci := 5) (v := .ref aS) (C := RX5) (T := TX5) (N := 13) hx hb hts hin5 hown hK hP 0 rfl rfl 0 (by decide) (hts _ (List.mem_of_getElem? (i := 1) rfl)) (fun _ h9 => h9) rfl dX5_mends_33 ?_
        refine lv_iload_n hx hb dX5_mends_36 rfl (lv_at hl 1 rfl) ?_
        refine lv_iload_n hx hb dX5_mends_37 rfl (lv_at hl 3 rfl) ?_
        refine lv_iload_n hx hb dX5_mends_38 rfl (lv_at hl 0 rfl) ?_
        refine vp_callSi (va_Run.run (va_runS (As := [.int 1, .int (nI j), .int 2]) (rest := [.ref aS]) ⟨hx, hb, hml, hown, hts⟩ (c_X5_of l D K 1 j 2 ) (va_cwS 3 hts gX5_mends_X5_of rfl rfl rfl (by decide +kernel) ⟨Nat.le_of_ble_eq_true rfl, Nat.le_of_ble_eq_true rfl⟩) pre_s0 rfl rfl hl.1 rfl (lv_room (Nat.le_of_ble_eq_true rfl)) dX5_mends_39 ⟨Nat.zero_le _, Nat.zero_le _⟩)) (fun r_29 hr_29 => ?_)
        subst hr_29
        refine lv_aload_n hx hb dX5_mends_42 rfl (lv_at hl 2 rfl) ?_
        refine va_get (D := D) (ci := 5) (v := .ref aS) (C := RX5) (T := TX5) (N := 13) hx hb hts hin5 hown hK hP 0 rfl rfl 0 (by decide) (hts _ (List.mem_of_getElem? (i := 1) rfl)) (fun _ h9 => h9) rfl dX5_mends_43 ?_
        refine lv_iconst (v := 1) hx hb dX5_mends_46 (by decide) ?_
        refine lv_iload_n hx hb dX5_mends_47 rfl (lv_at hl 1 rfl) ?_
        refine lv_isub hx hb dX5_mends_48 ?_
        refine st1 (y := 0) (by decide) ?_
        refine lv_iload_n hx hb dX5_mends_49 rfl (lv_at hl 3 rfl) ?_
        refine lv_iload_n hx hb dX5_mends_50 rfl (lv_at hl 0 rfl) ?_
        refine vp_callSi (va_Run.run (va_runS (As := [.int 0, .int (nI j), .int 2]) (rest := [.ref aS, .int (nI (40 + 160 * 1 + 5 * j + 2)), .ref aS]) ⟨hx, hb, hml, hown, hts⟩ (c_X5_of l D K 0 j 2 ) (va_cwS 3 hts gX5_mends_X5_of rfl rfl rfl (by decide +kernel) ⟨Nat.le_of_ble_eq_true rfl, Nat.le_of_ble_eq_true rfl⟩) pre_s0 rfl rfl hl.1 rfl (lv_room (Nat.le_of_ble_eq_true rfl)) dX5_mends_51 ⟨Nat.zero_le _, Nat.zero_le _⟩)) (fun r_30 hr_30 => ?_)
        subst hr_30
        refine n_iald hx hb hK hP 1 0 rfl rfl (40 + 160 * 0 + 5 * j + 2) (by omega) (by decide) dX5_mends_54 ?_
        refine st1 (pk_un (by omega)) ?_
        refine st1 (pk_un (by omega)) ?_
        refine n_iast hx hb hK hP hD hS 1 0 rfl rfl (40 + 160 * 1 + 5 * j + 2) (by omega) (by decide) dX5_mends_55 (fun H locs hP hD hS => ?_)
        have hP : va_P D vwCl [(oM, .inr (5, [.ref aS, .ref aA, .ref aB, .int (nI kn), .ref aT, .ref aV, .ref aP, .int (nI ln), .int pl, .int wr, .int le, .int on, .int tw])), (aS, .inl (K 0, 360, .inl (upd (upd (upd fS (40 + 160 * 1 + 5 * j + 0) (fS (40 + 160 * 0 + 5 * j + 0))) (40 + 160 * 1 + 5 * j + 1) (fS (40 + 160 * 0 + 5 * j + 1))) (40 + 160 * 1 + 5 * j + 2) (fS (40 + 160 * 0 + 5 * j + 2))))), (aA, .inl (K 0, 360, .inl fA)), (aB, .inl (K 0, 2160, .inl fB)), (aT, .inl (K 0, 720, .inl fT)), (aV, .inl (K 2, 2, .inl fV)), (aP, .inl (K 0, 80, .inl fP))] H := hP
        have hD : va_D A [(oM, .inr (5, [.ref aS, .ref aA, .ref aB, .int (nI kn), .ref aT, .ref aV, .ref aP, .int (nI ln), .int pl, .int wr, .int le, .int on, .int tw])), (aS, .inl (K 0, 360, .inl (upd (upd (upd fS (40 + 160 * 1 + 5 * j + 0) (fS (40 + 160 * 0 + 5 * j + 0))) (40 + 160 * 1 + 5 * j + 1) (fS (40 + 160 * 0 + 5 * j + 1))) (40 + 160 * 1 + 5 * j + 2) (fS (40 + 160 * 0 + 5 * j + 2))))), (aA, .inl (K 0, 360, .inl fA)), (aB, .inl (K 0, 2160, .inl fB)), (aT, .inl (K 0, 720, .inl fT)), (aV, .inl (K 2, 2, .inl fV)), (aP, .inl (K 0, 80, .inl fP))] := hD
        refine lv_iinc (v := 3) (lv' := [(3, .int 3), (2, .int 1), (0, .ref oM), (1, .int (nI j))]) hx hb dX5_mends_56 hl (k := 0) rfl (by decide) (by decide) rfl (fun ls hl => ?_)
        refine lv_goto (tgt := 27) hx hb dX5_mends_59 (by decide) ?_
        refine lv_iload_n hx hb dX5_mends_27 rfl (lv_at hl 0 rfl) ?_
        refine lv_iconst (v := 5) hx hb dX5_mends_28 (by decide) ?_
        refine lv_icmp_ge (tgt := 62) hx hb dX5_mends_29 (by decide) (fun h_31 => absurd h_31 (by decide)) (fun _ => ?_)
        refine lv_aload_n hx hb dX5_mends_32 rfl (lv_at hl 2 rfl) ?_
        refine va_get (D := D) (ci := 5) (v := .ref aS) (C := RX5) (T := TX5) (N := 13) hx hb hts hin5 hown hK hP 0 rfl rfl 0 (by decide) (hts _ (List.mem_of_getElem? (i := 1) rfl)) (fun _ h9 => h9) rfl dX5_mends_33 ?_
        refine lv_iload_n hx hb dX5_mends_36 rfl (lv_at hl 1 rfl) ?_
        refine lv_iload_n hx hb dX5_mends_37 rfl (lv_at hl 3 rfl) ?_
        refine lv_iload_n hx hb dX5_mends_38 rfl (lv_at hl 0 rfl) ?_
        refine vp_callSi (va_Run.run (va_runS (As := [.int 1, .int (nI j), .int 3]) (rest := [.ref aS]) ⟨hx, hb, hml, hown, hts⟩ (c_X5_of l D K 1 j 3 ) (va_cwS 3 hts gX5_mends_X5_of rfl rfl rfl (by decide +kernel) ⟨Nat.le_of_ble_eq_true rfl, Nat.le_of_ble_eq_true rfl⟩) pre_s0 rfl rfl hl.1 rfl (lv_room (Nat.le_of_ble_eq_true rfl)) dX5_mends_39 ⟨Nat.zero_le _, Nat.zero_le _⟩)) (fun r_32 hr_32 => ?_)
        subst hr_32
        refine lv_aload_n hx hb dX5_mends_42 rfl (lv_at hl 2 rfl) ?_
        refine va_get (D := D) (ci := 5) (v := .ref aS) (C := RX5) (T := TX5) (N := 13) hx hb hts hin5 hown hK hP 0 rfl rfl 0 (by decide) (hts _ (List.mem_of_getElem? (i := 1) rfl)) (fun _ h9 => h9) rfl dX5_mends_43 ?_
        refine lv_iconst (v := 1) hx hb dX5_mends_46 (by decide) ?_
        refine lv_iload_n hx hb dX5_mends_47 rfl (lv_at hl 1 rfl) ?_
        refine lv_isub hx hb dX5_mends_48 ?_
        refine st1 (y := 0) (by decide) ?_
        refine lv_iload_n hx hb dX5_mends_49 rfl (lv_at hl 3 rfl) ?_
        refine lv_iload_n hx hb dX5_mends_50 rfl (lv_at hl 0 rfl) ?_
        refine vp_callSi (va_Run.run (va_runS (As := [.int 0, .int (nI j), .int 3]) (rest := [.ref aS, .int (nI (40 + 160 * 1 + 5 * j + 3)), .ref aS]) ⟨hx, hb, hml, hown, hts⟩ (c_X5_of l D K 0 j 3 ) (va_cwS 3 hts gX5_mends_X5_of rfl rfl rfl (by decide +kernel) ⟨Nat.le_of_ble_eq_true rfl, Nat.le_of_ble_eq_true rfl⟩) pre_s0 rfl rfl hl.1 rfl (lv_room (Nat.le_of_ble_eq_true rfl)) dX5_mends_51 ⟨Nat.zero_le _, Nat.zero_le _⟩)) (fun r_33 hr_33 => ?_)
        subst hr_33
        refine n_iald hx hb hK hP 1 0 rfl rfl (40 + 160 * 0 + 5 * j + 3) (by omega) (by decide) dX5_mends_54 ?_
        refine st1 (pk_un (by omega)) ?_
        refine st1 (pk_un (by omega)) ?_
        refine st1 (pk_un (by omega)) ?_
        refine n_iast hx hb hK hP hD hS 1 0 rfl rfl (40 + 160 * 1 + 5 * j + 3) (by omega) (by decide) dX5_mends_55 (fun H locs hP hD hS => ?_)
        have hP : va_P D vwCl [(oM, .inr (5, [.ref aS, .ref aA, .ref aB, .int (nI kn), .ref aT, .ref aV, .ref aP, .int (nI ln), .int pl, .int wr, .int le, .int on, .int tw])), (aS, .inl (K 0, 360, .inl (upd (upd (upd (upd fS (40 + 160 * 1 + 5 * j + 0) (fS (40 + 160 * 0 + 5 * j + 0))) (40 + 160 * 1 + 5 * j + 1) (fS (40 + 160 * 0 + 5 * j + 1))) (40 + 160 * 1 + 5 * j + 2) (fS (40 + 160 * 0 + 5 * j + 2))) (40 + 160 * 1 + 5 * j + 3) (fS (40 + 160 * 0 + 5 * j + 3))))), (aA, .inl (K 0, 360, .inl fA)), (aB, .inl (K 0, 2160, .inl fB)), (aT, .inl (K 0, 720, .inl fT)), (aV, .inl (K 2, 2, .inl fV)), (aP, .inl (K 0, 80, .inl fP))] H := hP
        have hD : va_D A [(oM, .inr (5, [.ref aS, .ref aA, .ref aB, .int (nI kn), .ref aT, .ref aV, .ref aP, .int (nI ln), .int pl, .int wr, .int le, .int on, .int tw])), (aS, .inl (K 0, 360, .inl (upd (upd (upd (upd fS (40 + 160 * 1 + 5 * j + 0) (fS (40 + 160 * 0 + 5 * j + 0))) (40 + 160 * 1 + 5 * j + 1) (fS (40 + 160 * 0 + 5 * j + 1))) (40 + 160 * 1 + 5 * j + 2) (fS (40 + 160 * 0 + 5 * j + 2))) (40 + 160 * 1 + 5 * j + 3) (fS (40 + 160 * 0 + 5 * j + 3))))), (aA, .inl (K 0, 360, .inl fA)), (aB, .inl (K 0, 2160, .inl fB)), (aT, .inl (K 0, 720, .inl fT)), (aV, .inl (K 2, 2, .inl fV)), (aP, .inl (K 0, 80, .inl fP))] := hD
        refine lv_iinc (v := 4) (lv' := [(3, .int 4), (2, .int 1), (0, .ref oM), (1, .int (nI j))]) hx hb dX5_mends_56 hl (k := 0) rfl (by decide) (by decide) rfl (fun ls hl => ?_)
        refine lv_goto (tgt := 27) hx hb dX5_mends_59 (by decide) ?_
        refine lv_iload_n hx hb dX5_mends_27 rfl (lv_at hl 0 rfl) ?_
        refine lv_iconst (v := 5) hx hb dX5_mends_28 (by decide) ?_
        refine lv_icmp_ge (tgt := 62) hx hb dX5_mends_29 (by decide) (fun h_34 => absurd h_34 (by decide)) (fun _ => ?_)
        refine lv_aload_n hx hb dX5_mends_32 rfl (lv_at hl 2 rfl) ?_
        refine va_get (D := D) (ci := 5) (v := .ref aS) (C := RX5) (T := TX5) (N := 13) hx hb hts hin5 hown hK hP 0 rfl rfl 0 (by decide) (hts _ (List.mem_of_getElem? (i := 1) rfl)) (fun _ h9 => h9) rfl dX5_mends_33 ?_
        refine lv_iload_n hx hb dX5_mends_36 rfl (lv_at hl 1 rfl) ?_
        refine lv_iload_n hx hb dX5_mends_37 rfl (lv_at hl 3 rfl) ?_
        refine lv_iload_n hx hb dX5_mends_38 rfl (lv_at hl 0 rfl) ?_
        refine vp_callSi (va_Run.run (va_runS (As := [.int 1, .int (nI j), .int 4]) (rest := [.ref aS]) ⟨hx, hb, hml, hown, hts⟩ (c_X5_of l D K 1 j 4 ) (va_cwS 3 hts gX5_mends_X5_of rfl rfl rfl (by decide +kernel) ⟨Nat.le_of_ble_eq_true rfl, Nat.le_of_ble_eq_true rfl⟩) pre_s0 rfl rfl hl.1 rfl (lv_room (Nat.le_of_ble_eq_true rfl)) dX5_mends_39 ⟨Nat.zero_le _, Nat.zero_le _⟩)) (fun r_35 hr_35 => ?_)
        subst hr_35
        refine lv_aload_n hx hb dX5_mends_42 rfl (lv_at hl 2 rfl) ?_
        refine va_get (D := D) (ci := 5) (v := .ref aS) (C := RX5) (T := TX5) (N := 13) hx hb hts hin5 hown hK hP 0 rfl rfl 0 (by decide) (hts _ (List.mem_of_getElem? (i := 1) rfl)) (fun _ h9 => h9) rfl dX5_mends_43 ?_
        refine lv_iconst (v := 1) hx hb dX5_mends_46 (by decide) ?_
        refine lv_iload_n hx hb dX5_mends_47 rfl (lv_at hl 1 rfl) ?_
        refine lv_isub hx hb dX5_mends_48 ?_
        refine st1 (y := 0) (by decide) ?_
        refine lv_iload_n hx hb dX5_mends_49 rfl (lv_at hl 3 rfl) ?_
        refine lv_iload_n hx hb dX5_mends_50 rfl (lv_at hl 0 rfl) ?_
        refine vp_callSi (va_Run.run (va_runS (As := [.int 0, .int (nI j), .int 4]) (rest := [.ref aS, .int (nI (40 + 160 * 1 + 5 * j + 4)), .ref aS]) ⟨hx, hb, hml, hown, hts⟩ (c_X5_of l D K 0 j 4 ) (va_cwS 3 hts gX5_mends_X5_of rfl rfl rfl (by decide +kernel) ⟨Nat.le_of_ble_eq_true rfl, Nat.le_of_ble_eq_true rfl⟩) pre_s0 rfl rfl hl.1 rfl (lv_room (Nat.le_of_ble_eq_true rfl)) dX5_mends_51 ⟨Nat.zero_le _, Nat.zero_le _⟩)) (fun r_36 hr_36 => ?_)
        subst hr_36
        refine n_iald hx hb hK hP 1 0 rfl rfl (40 + 160 * 0 + 5 * j + 4) (by omega) (by decide) dX5_mends_54 ?_
        refine st1 (pk_un (by omega)) ?_
        refine st1 (pk_un (by omega)) ?_
        refine st1 (pk_un (by omega)) ?_
        refine st1 (pk_un (by omega)) ?_
        refine n_iast hx hb hK hP hD hS 1 0 rfl rfl (40 + 160 * 1 + 5 * j + 4) (by omega) (by decide) dX5_mends_55 (fun H locs hP hD hS => ?_)
        have hP : va_P D vwCl [(oM, .inr (5, [.ref aS, .ref aA, .ref aB, .int (nI kn), .ref aT, .ref aV, .ref aP, .int (nI ln), .int pl, .int wr, .int le, .int on, .int tw])), (aS, .inl (K 0, 360, .inl (upd (upd (upd (upd (upd fS (40 + 160 * 1 + 5 * j + 0) (fS (40 + 160 * 0 + 5 * j + 0))) (40 + 160 * 1 + 5 * j + 1) (fS (40 + 160 * 0 + 5 * j + 1))) (40 + 160 * 1 + 5 * j + 2) (fS (40 + 160 * 0 + 5 * j + 2))) (40 + 160 * 1 + 5 * j + 3) (fS (40 + 160 * 0 + 5 * j + 3))) (40 + 160 * 1 + 5 * j + 4) (fS (40 + 160 * 0 + 5 * j + 4))))), (aA, .inl (K 0, 360, .inl fA)), (aB, .inl (K 0, 2160, .inl fB)), (aT, .inl (K 0, 720, .inl fT)), (aV, .inl (K 2, 2, .inl fV)), (aP, .inl (K 0, 80, .inl fP))] H := hP
        have hD : va_D A [(oM, .inr (5, [.ref aS, .ref aA, .ref aB, .int (nI kn), .ref aT, .ref aV, .ref aP, .int (nI ln), .int pl, .int wr, .int le, .int on, .int tw])), (aS, .inl (K 0, 360, .inl (upd (upd (upd (upd (upd fS (40 + 160 * 1 + 5 * j + 0) (fS (40 + 160 * 0 + 5 * j + 0))) (40 + 160 * 1 + 5 * j + 1) (fS (40 + 160 * 0 + 5 * j + 1))) (40 + 160 * 1 + 5 * j + 2) (fS (40 + 160 * 0 + 5 * j + 2))) (40 + 160 * 1 + 5 * j + 3) (fS (40 + 160 * 0 + 5 * j + 3))) (40 + 160 * 1 + 5 * j + 4) (fS (40 + 160 * 0 + 5 * j + 4))))), (aA, .inl (K 0, 360, .inl fA)), (aB, .inl (K 0, 2160, .inl fB)), (aT, .inl (K 0, 720, .inl fT)), (aV, .inl (K 2, 2, .inl fV)), (aP, .inl (K 0, 80, .inl fP))] := hD
        refine lv_iinc (v := 5) (lv' := [(3, .int 5), (2, .int 1), (0, .ref oM), (1, .int (nI j))]) hx hb dX5_mends_56 hl (k := 0) rfl (by decide) (by decide) rfl (fun ls hl => ?_)
        refine lv_goto (tgt := 27) hx hb dX5_mends_59 (by decide) ?_
        refine lv_iload_n hx hb dX5_mends_27 rfl (lv_at hl 0 rfl) ?_
        refine lv_iconst (v := 5) hx hb dX5_mends_28 (by decide) ?_
        refine lv_icmp_ge (tgt := 62) hx hb dX5_mends_29 (by decide) (fun _ => ?_) (fun h_37 => absurd (by decide) h_37)
        refine lv_aload_n hx hb dX5_mends_62 rfl (lv_at hl 2 rfl) ?_
        refine va_get (D := D) (ci := 5) (v := .ref aS) (C := RX5) (T := TX5) (N := 13) hx hb hts hin5 hown hK hP 0 rfl rfl 0 (by decide) (hts _ (List.mem_of_getElem? (i := 1) rfl)) (fun _ h9 => h9) rfl dX5_mends_63 ?_
        refine lv_bipush (v := 7) hx hb dX5_mends_66 (by decide) ?_
        refine lv_dup2_11 hx hb dX5_mends_68 rfl rfl ?_
        refine n_iald hx hb hK hP 1 0 rfl rfl 7 (by omega) (by decide) dX5_mends_69 ?_
        refine st1 (pk_un (by omega)) ?_
        refine st1 (pk_un (by omega)) ?_
        refine st1 (pk_un (by omega)) ?_
        refine st1 (pk_un (by omega)) ?_
        refine st1 (pk_un (by omega)) ?_
        refine lv_iconst (v := 1) hx hb dX5_mends_70 (by decide) ?_
        refine lv_iadd hx hb dX5_mends_71 ?_
        refine n_iast hx hb hK hP hD hS 1 0 rfl rfl 7 (by omega) (by decide) dX5_mends_72 (fun H locs hP hD hS => ?_)
        have hP : va_P D vwCl [(oM, .inr (5, [.ref aS, .ref aA, .ref aB, .int (nI kn), .ref aT, .ref aV, .ref aP, .int (nI ln), .int pl, .int wr, .int le, .int on, .int tw])), (aS, .inl (K 0, 360, .inl (upd (upd (upd (upd (upd (upd fS (40 + 160 * 1 + 5 * j + 0) (fS (40 + 160 * 0 + 5 * j + 0))) (40 + 160 * 1 + 5 * j + 1) (fS (40 + 160 * 0 + 5 * j + 1))) (40 + 160 * 1 + 5 * j + 2) (fS (40 + 160 * 0 + 5 * j + 2))) (40 + 160 * 1 + 5 * j + 3) (fS (40 + 160 * 0 + 5 * j + 3))) (40 + 160 * 1 + 5 * j + 4) (fS (40 + 160 * 0 + 5 * j + 4))) 7 ((fS 7) + 1)))), (aA, .inl (K 0, 360, .inl fA)), (aB, .inl (K 0, 2160, .inl fB)), (aT, .inl (K 0, 720, .inl fT)), (aV, .inl (K 2, 2, .inl fV)), (aP, .inl (K 0, 80, .inl fP))] H := hP
        have hD : va_D A [(oM, .inr (5, [.ref aS, .ref aA, .ref aB, .int (nI kn), .ref aT, .ref aV, .ref aP, .int (nI ln), .int pl, .int wr, .int le, .int on, .int tw])), (aS, .inl (K 0, 360, .inl (upd (upd (upd (upd (upd (upd fS (40 + 160 * 1 + 5 * j + 0) (fS (40 + 160 * 0 + 5 * j + 0))) (40 + 160 * 1 + 5 * j + 1) (fS (40 + 160 * 0 + 5 * j + 1))) (40 + 160 * 1 + 5 * j + 2) (fS (40 + 160 * 0 + 5 * j + 2))) (40 + 160 * 1 + 5 * j + 3) (fS (40 + 160 * 0 + 5 * j + 3))) (40 + 160 * 1 + 5 * j + 4) (fS (40 + 160 * 0 + 5 * j + 4))) 7 ((fS 7) + 1)))), (aA, .inl (K 0, 360, .inl fA)), (aB, .inl (K 0, 2160, .inl fB)), (aT, .inl (K 0, 720, .inl fT)), (aV, .inl (K 2, 2, .inl fV)), (aP, .inl (K 0, 80, .inl fP))] := hD
        refine lv_iload_n hx hb dX5_mends_73 rfl (lv_at hl 1 rfl) ?_
        refine lv_iconst (v := 1) hx hb dX5_mends_74 (by decide) ?_
        refine lv_iadd hx hb dX5_mends_75 ?_
        refine st1 (y := 2) (by decide) ?_
        have e_38 : n_X5_mends_1 fS j = (upd (upd (upd (upd (upd (upd fS (40 + 160 * 1 + 5 * j + 0) (fS (40 + 160 * 0 + 5 * j + 0))) (40 + 160 * 1 + 5 * j + 1) (fS (40 + 160 * 0 + 5 * j + 1))) (40 + 160 * 1 + 5 * j + 2) (fS (40 + 160 * 0 + 5 * j + 2))) (40 + 160 * 1 + 5 * j + 3) (fS (40 + 160 * 0 + 5 * j + 3))) (40 + 160 * 1 + 5 * j + 4) (fS (40 + 160 * 0 + 5 * j + 4))) 7 ((fS 7) + 1)) := by unfold n_X5_mends_1; rw [if_neg c_2, if_neg c_4]
        have hPf : va_P D vwCl [(oM, .inr (5, [.ref aS, .ref aA, .ref aB, .int (nI kn), .ref aT, .ref aV, .ref aP, .int (nI ln), .int pl, .int wr, .int le, .int on, .int tw])), (aS, .inl (K 0, 360, .inl (n_X5_mends_1 fS j))), (aA, .inl (K 0, 360, .inl fA)), (aB, .inl (K 0, 2160, .inl fB)), (aT, .inl (K 0, 720, .inl fT)), (aV, .inl (K 2, 2, .inl fV)), (aP, .inl (K 0, 80, .inl fP))] H := (by rw [e_38]; exact hP)
        exact W.iret hx hb hr (fun t ht hW => ⟨⟨_, (), rfl, (by unfold r_X5_mends; rw [if_neg c_2, if_neg c_4]), by show va_P D vwCl _ t.heap; rw [ht]; exact hPf⟩, hS.F ht⟩) hS.2.2 dX5_mends_76
    · skip
      refine lv_iconst (v := 0) hx hb dX5_mends_8 (by decide) ?_
      have e_39 : n_X5_mends_1 fS j = fS := by unfold n_X5_mends_1; rw [if_pos c_2]
      have hPf : va_P D vwCl [(oM, .inr (5, [.ref aS, .ref aA, .ref aB, .int (nI kn), .ref aT, .ref aV, .ref aP, .int (nI ln), .int pl, .int wr, .int le, .int on, .int tw])), (aS, .inl (K 0, 360, .inl (n_X5_mends_1 fS j))), (aA, .inl (K 0, 360, .inl fA)), (aB, .inl (K 0, 2160, .inl fB)), (aT, .inl (K 0, 720, .inl fT)), (aV, .inl (K 2, 2, .inl fV)), (aP, .inl (K 0, 80, .inl fP))] H := (by rw [e_39]; exact hP)
      exact W.iret hx hb hr (fun t ht hW => ⟨⟨_, (), rfl, (by unfold r_X5_mends; rw [if_pos c_2]), by show va_P D vwCl _ t.heap; rw [ht]; exact hPf⟩, hS.F ht⟩) hS.2.2 dX5_mends_9
  exact K0 s.heap [] ls hP hD hS hl
