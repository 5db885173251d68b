set_option maxHeartbeats 4000000 in
set_option maxRecDepth 100000 in
theorem c_X5_round_in (l : Launch) (D : va_G) (K : Nat → ClassId) (oM : Nat) (aS : Nat) (aA : Nat) (aB : Nat) (aT : Nat) (aV : Nat) (aP : Nat) (fS : Nat → Int32) (kn : Nat) (ln : Nat) (pl : Int32) (wr : Int32) (le : Int32) (on : Int32) (tw : Int32) (n : Nat) (j : Nat) (hs0 : fS 0 = nI n) (hn1 : 1 ≤ n) (hn : n ≤ 32) (hjn : j < n) : Met l yX5_round wsX5_round ({ frames := 2, cells := 0, slots := 0, locals := 43 }) (va_Pc [.ref oM, .int (nI j)] (fun U => Bd D K U ∧ va_P D vwCl [(oM, .inr (5, [.ref aS, .ref aA, .ref aB, .int (nI kn), .ref aT, .ref aV, .ref aP, .int (nI ln), .int pl, .int wr, .int le, .int on, .int tw])), (aS, .inl (K 0, 360, .inl fS))] U.heap)) (vp_Si (fun r => r = (fS (8 + j)))) 0 0 (fun _ => False) := by
  refine Met.ofW (cc := cX5_round) (maxL := 2) (ret := (some .int)) (by decide) rfl ?_
  intro p e s m args below meth c s₁ B hml hv
  obtain ⟨rfl, hbd, hP⟩ := hv
  have hx := B.exec
  have hb := B.bytes
  have hr := B.returns
  have hts := atoms_spec (ws := wsX5_round) B.pre
  have hown : s.vm.findClass RX5 = some m.cls := findClass_of_methodNamed B.named
  have hlocks := B.notSynchronized
  have hK := hbd.2
  have hP : va_P D vwCl [(oM, .inr (5, [.ref aS, .ref aA, .ref aB, .int (nI kn), .ref aT, .ref aV, .ref aP, .int (nI ln), .int pl, .int wr, .int le, .int on, .int tw])), (aS, .inl (K 0, 360, .inl fS))] s.heap := hP
  have hin5 : ∀ w ∈ wsX50, w ∈ wsX5_round := by decide +kernel
  have hl := lv_entry ([.ref oM, .int (nI j)]) (n := 2) (Nat.le_of_ble_eq_true rfl)
  rw [lg_entry_eq]
  generalize (lg_sl ([.ref oM, .int (nI j)]) ++ List.replicate (2 - (lg_sl ([.ref oM, .int (nI j)])).length) Slot.unset).toArray = ls at hl ⊢
  have hl : lv_has ls 2 [(0, .ref oM), (1, .int (nI j))] := hl
  refine lv_aload_n hx hb dX5_round_0 rfl (lv_at hl 0 rfl) ?_
  refine lv_iload_n hx hb dX5_round_1 rfl (lv_at hl 1 rfl) ?_
  have hPc := hP.sub (ws' := [(oM, .inr (5, [.ref aS, .ref aA, .ref aB, .int (nI kn), .ref aT, .ref aV, .ref aP, .int (nI ln), .int pl, .int wr, .int le, .int on, .int tw])), (aS, .inl (K 0, 360, .inl fS))]) [0, 1] rfl
  refine vp_callSi (va_Run.run (va_runV (As := [.int (nI j)]) (rest := []) ⟨hx, hb, hml, hown, hts⟩ (c_X5_isPlace_ok l D K oM aS aA aB aT aV aP fS kn ln pl wr le on tw n j hs0 hn1 hn hjn) (cwV 1 hts gX5_round_X5_isPlace rfl rfl rfl (by decide +kernel) ⟨Nat.le_of_ble_eq_true rfl, Nat.le_of_ble_eq_true rfl⟩) (pre_rd hbd hPc (ci := 5) (q0 := 0) rfl rfl) rfl rfl hl.1 rfl (lv_room (Nat.le_of_ble_eq_true rfl)) dX5_round_2 ⟨Nat.zero_le _, Nat.zero_le _⟩)) (fun r_1 hr_1 => ?_)
  subst hr_1
  refine lv_if_eq (tgt := 20) hx hb dX5_round_5 (by decide) (fun h_2 => absurd h_2 (by decide)) (fun _ => ?_)
  refine lv_aload_n hx hb dX5_round_8 rfl (lv_at hl 0 rfl) ?_
  refine va_get (D := D) (ci := 5) (v := .ref aS) (C := RX5) (T := TX5) (N := 13) hx hb hts hin5 hown hK hP 0 rfl rfl 0 (by decide) (hts _ (List.mem_of_getElem? (i := 1) rfl)) (fun _ h9 => h9) rfl dX5_round_9 ?_
  refine lv_bipush (v := 8) hx hb dX5_round_12 (by decide) ?_
  refine lv_iload_n hx hb dX5_round_14 rfl (lv_at hl 1 rfl) ?_
  refine lv_iadd hx hb dX5_round_15 ?_
  refine st1 (nI_add 8 j) ?_
  refine n_iald hx hb hK hP 1 0 rfl rfl (8 + j) (by omega) (by decide) dX5_round_16 ?_
  refine lv_goto (tgt := 21) hx hb dX5_round_17 (by decide) ?_
  exact W.iret hx hb hr (fun t ht hW => ⟨_, rfl, rfl, ht⟩) (fun q hq => absurd hq List.not_mem_nil) dX5_round_21
set_option maxHeartbeats 4000000 in
set_option maxRecDepth 100000 in
theorem c_X5_round_no (l : Launch) (D : va_G) (K : Nat → ClassId) (oM : Nat) (aS : Nat) (aA : Nat) (aB : Nat) (aT : Nat) (aV : Nat) (aP : Nat) (fS : Nat → Int32) (kn : Nat) (ln : Nat) (pl : Int32) (wr : Int32) (le : Int32) (on : Int32) (tw : Int32) (n : Nat) (xp : Int32) (hs0 : fS 0 = nI n) (hn1 : 1 ≤ n) (hn : n ≤ 32) (hbad : xp < 0 ∨ nI n ≤ xp) : Met l yX5_round wsX5_round ({ frames := 2, cells := 0, slots := 0, locals := 43 }) (va_Pc [.ref oM, .int xp] (fun U => Bd D K U ∧ va_P D vwCl [(oM, .inr (5, [.ref aS, .ref aA, .ref aB, .int (nI kn), .ref aT, .ref aV, .ref aP, .int (nI ln), .int pl, .int wr, .int le, .int on, .int tw])), (aS, .inl (K 0, 360, .inl fS))] U.heap)) (vp_Si (fun r => r = (-1))) 0 0 (fun _ => False) := by
  refine Met.ofW (cc := cX5_round) (maxL := 2) (ret := (some .int)) (by decide) rfl ?_
  intro p e s m args below meth c s₁ B hml hv
  obtain ⟨rfl, hbd, hP⟩ := hv
  have hx := B.exec
  have hb := B.bytes
  have hr := B.returns
  have hts := atoms_spec (ws := wsX5_round) B.pre
  have hown : s.vm.findClass RX5 = some m.cls := findClass_of_methodNamed B.named
  have hlocks := B.notSynchronized
  have hK := hbd.2
  have hP : va_P D vwCl [(oM, .inr (5, [.ref aS, .ref aA, .ref aB, .int (nI kn), .ref aT, .ref aV, .ref aP, .int (nI ln), .int pl, .int wr, .int le, .int on, .int tw])), (aS, .inl (K 0, 360, .inl fS))] s.heap := hP
  have hl := lv_entry ([.ref oM, .int xp]) (n := 2) (Nat.le_of_ble_eq_true rfl)
  rw [lg_entry_eq]
  generalize (lg_sl ([.ref oM, .int xp]) ++ List.replicate (2 - (lg_sl ([.ref oM, .int xp])).length) Slot.unset).toArray = ls at hl ⊢
  have hl : lv_has ls 2 [(0, .ref oM), (1, .int xp)] := hl
  refine lv_aload_n hx hb dX5_round_0 rfl (lv_at hl 0 rfl) ?_
  refine lv_iload_n hx hb dX5_round_1 rfl (lv_at hl 1 rfl) ?_
  have hPc := hP.sub (ws' := [(oM, .inr (5, [.ref aS, .ref aA, .ref aB, .int (nI kn), .ref aT, .ref aV, .ref aP, .int (nI ln), .int pl, .int wr, .int le, .int on, .int tw])), (aS, .inl (K 0, 360, .inl fS))]) [0, 1] rfl
  refine vp_callSi (va_Run.run (va_runV (As := [.int xp]) (rest := []) ⟨hx, hb, hml, hown, hts⟩ (c_X5_isPlace_no l D K oM aS aA aB aT aV aP fS kn ln pl wr le on tw n xp hs0 hn1 hn hbad) (cwV 1 hts gX5_round_X5_isPlace rfl rfl rfl (by decide +kernel) ⟨Nat.le_of_ble_eq_true rfl, Nat.le_of_ble_eq_true rfl⟩) (pre_rd hbd hPc (ci := 5) (q0 := 0) rfl rfl) rfl rfl hl.1 rfl (lv_room (Nat.le_of_ble_eq_true rfl)) dX5_round_2 ⟨Nat.zero_le _, Nat.zero_le _⟩)) (fun r_1 hr_1 => ?_)
  subst hr_1
  refine lv_if_eq (tgt := 20) hx hb dX5_round_5 (by decide) (fun _ => ?_) (fun h_2 => absurd (by decide) h_2)
  refine lv_iconst (v := (-1)) hx hb dX5_round_20 (by decide) ?_
  exact W.iret hx hb hr (fun t ht hW => ⟨_, rfl, rfl, ht⟩) (fun q hq => absurd hq List.not_mem_nil) dX5_round_21
def r_X5_block_0 (fS : Nat → Int32) (j : Nat) (xw : Int32) : Int32 := (if xw = 0 then (if (fS (40 + 160 * 0 + 5 * j + 0)) = 0 then (-6) else (fS (40 + 160 * 0 + 5 * j + 1))) else (if xw = 1 then (if (fS (40 + 160 * 0 + 5 * j + 0)) = 0 then (-6) else (fS (40 + 160 * 0 + 5 * j + 2))) else (if xw = 2 then (if (fS (40 + 160 * 0 + 5 * j + 0)) = 0 then (-6) else (fS (40 + 160 * 0 + 5 * j + 3))) else (if xw = 3 then (if (fS (40 + 160 * 0 + 5 * j + 0)) = 0 then (-6) else (fS (40 + 160 * 0 + 5 * j + 4))) else (if xw = 4 then (if (r_X5_isWhole fS 0 j) = 0 then 0 else 1) else (if xw = 5 then (if (fS (8 + j)) = 0 then (-6) else (r_X5_reason fS 0 j)) else (-2)))))))
set_option maxHeartbeats 4000000 in
set_option maxRecDepth 100000 in
theorem c_X5_block_0 (l : Launch) (D : va_G) (K : Nat → ClassId) (oM : Nat) (aS : Nat) (aA : Nat) (aB : Nat) (aT : Nat) (aV : Nat) (aP : Nat) (fS : Nat → Int32) (kn : Nat) (ln : Nat) (pl : Int32) (wr : Int32) (le : Int32) (on : Int32) (tw : Int32) (n : Nat) (j : Nat) (xw : Int32) (hs0 : fS 0 = nI n) (hn1 : 1 ≤ n) (hn : n ≤ 32) (hjn : j < n) : Met l yX5_block wsX5_block ({ frames := 3, cells := 0, slots := 0, locals := 67 }) (va_Pc [.ref oM, .int 0, .int (nI j), .int xw] (fun U => Bd D K U ∧ va_P D vwCl [(oM, .inr (5, [.ref aS, .ref aA, .ref aB, .int (nI kn), .ref aT, .ref aV, .ref aP, .int (nI ln), .int pl, .int wr, .int le, .int on, .int tw])), (aS, .inl (K 0, 360, .inl fS))] U.heap)) (vp_Si (fun r => r = (r_X5_block_0 fS j xw))) 0 0 (fun _ => False) := by
  refine Met.ofW (cc := cX5_block) (maxL := 4) (ret := (some .int)) (by decide) rfl ?_
  intro p e s m args below meth c s₁ B hml hv
  obtain ⟨rfl, hbd, hP⟩ := hv
  have hx := B.exec
  have hb := B.bytes
  have hr := B.returns
  have hts := atoms_spec (ws := wsX5_block) B.pre
  have hown : s.vm.findClass RX5 = some m.cls := findClass_of_methodNamed B.named
  have hlocks := B.notSynchronized
  have hK := hbd.2
  have hP : va_P D vwCl [(oM, .inr (5, [.ref aS, .ref aA, .ref aB, .int (nI kn), .ref aT, .ref aV, .ref aP, .int (nI ln), .int pl, .int wr, .int le, .int on, .int tw])), (aS, .inl (K 0, 360, .inl fS))] s.heap := hP
  have hin5 : ∀ w ∈ wsX50, w ∈ wsX5_block := by decide +kernel
  have hl := lv_entry ([.ref oM, .int 0, .int (nI j), .int xw]) (n := 4) (Nat.le_of_ble_eq_true rfl)
  rw [lg_entry_eq]
  generalize (lg_sl ([.ref oM, .int 0, .int (nI j), .int xw]) ++ List.replicate (4 - (lg_sl ([.ref oM, .int 0, .int (nI j), .int xw])).length) Slot.unset).toArray = ls at hl ⊢
  have hl : lv_has ls 4 [(0, .ref oM), (1, .int 0), (2, .int (nI j)), (3, .int xw)] := hl
  refine lv_aload_n hx hb dX5_block_0 rfl (lv_at hl 0 rfl) ?_
  refine lv_iload_n hx hb dX5_block_1 rfl (lv_at hl 1 rfl) ?_
  refine lv_iload_n hx hb dX5_block_2 rfl (lv_at hl 2 rfl) ?_
  have hPc := hP.sub (ws' := [(oM, .inr (5, [.ref aS, .ref aA, .ref aB, .int (nI kn), .ref aT, .ref aV, .ref aP, .int (nI ln), .int pl, .int wr, .int le, .int on, .int tw])), (aS, .inl (K 0, 360, .inl fS))]) [0, 1] rfl
  refine vp_callSi (va_Run.run (va_runV (As := [.int 0, .int (nI j)]) (rest := []) ⟨hx, hb, hml, hown, hts⟩ (c_X5_wipeFault_0 l D K oM aS aA aB aT aV aP fS kn ln pl wr le on tw n j hs0 hn1 hn hjn) (cwV 2 hts gX5_block_X5_wipeFault rfl rfl rfl (by decide +kernel) ⟨Nat.le_of_ble_eq_true rfl, Nat.le_of_ble_eq_true rfl⟩) (pre_rd hbd hPc (ci := 5) (q0 := 0) rfl rfl) rfl rfl hl.1 rfl (lv_room (Nat.le_of_ble_eq_true rfl)) dX5_block_3 ⟨Nat.zero_le _, Nat.zero_le _⟩)) (fun r_1 hr_1 => ?_)
  subst hr_1
  refine lv_if_ge (tgt := 11) hx hb dX5_block_6 (by decide) (fun _ => ?_) (fun h_2 => absurd (by decide) h_2)
  refine lv_iload_n hx hb dX5_block_11 rfl (lv_at hl 3 rfl) ?_
  refine byc (P := xw = 0) (fun c_3 => ?_) (fun c_3 => ?_)
  · skip
    refine lv_tableIn (off := 40) (tgt := 52) hx hb dX5_block_12 (by rw [c_3]; decide) (by rw [c_3]; decide) (by rw [c_3]; rfl) (by decide) ?_
    refine lv_aload_n hx hb dX5_block_52 rfl (lv_at hl 0 rfl) ?_
    refine va_get (D := D) (ci := 5) (v := .ref aS) (C := RX5) (T := TX5) (N := 13) hx hb hts hin5 hown hK hP 0 rfl rfl 0 (by decide) (hts _ (List.mem_of_getElem? (i := 1) rfl)) (fun _ h9 => h9) rfl dX5_block_53 ?_
    refine lv_iload_n hx hb dX5_block_56 rfl (lv_at hl 1 rfl) ?_
    refine lv_iload_n hx hb dX5_block_57 rfl (lv_at hl 2 rfl) ?_
    refine lv_iconst (v := 0) hx hb dX5_block_58 (by decide) ?_
    refine vp_callSi (va_Run.run (va_runS (As := [.int 0, .int (nI j), .int 0]) (rest := [.ref aS]) ⟨hx, hb, hml, hown, hts⟩ (c_X5_of l D K 0 j 0 ) (va_cwS 3 hts gX5_block_X5_of rfl rfl rfl (by decide +kernel) ⟨Nat.le_of_ble_eq_true rfl, Nat.le_of_ble_eq_true rfl⟩) pre_s0 rfl rfl hl.1 rfl (lv_room (Nat.le_of_ble_eq_true rfl)) dX5_block_59 ⟨Nat.zero_le _, Nat.zero_le _⟩)) (fun r_4 hr_4 => ?_)
    subst hr_4
    refine n_iald hx hb hK hP 1 0 rfl rfl (40 + 160 * 0 + 5 * j + 0) (by omega) (by decide) dX5_block_62 ?_
    refine lv_if_ne (tgt := 71) hx hb dX5_block_63 (by decide) (fun c_5 => ?_) (fun c_5 => ?_)
    · skip
      refine lv_aload_n hx hb dX5_block_71 rfl (lv_at hl 0 rfl) ?_
      refine va_get (D := D) (ci := 5) (v := .ref aS) (C := RX5) (T := TX5) (N := 13) hx hb hts hin5 hown hK hP 0 rfl rfl 0 (by decide) (hts _ (List.mem_of_getElem? (i := 1) rfl)) (fun _ h9 => h9) rfl dX5_block_72 ?_
      refine lv_iload_n hx hb dX5_block_75 rfl (lv_at hl 1 rfl) ?_
      refine lv_iload_n hx hb dX5_block_76 rfl (lv_at hl 2 rfl) ?_
      refine lv_iconst (v := 1) hx hb dX5_block_77 (by decide) ?_
      refine lv_iload_n hx hb dX5_block_78 rfl (lv_at hl 3 rfl) ?_
      refine lv_iadd hx hb dX5_block_79 ?_
      refine st1 (y := 1) (by rw [c_3]; rfl) ?_
      refine vp_callSi (va_Run.run (va_runS (As := [.int 0, .int (nI j), .int 1]) (rest := [.ref aS]) ⟨hx, hb, hml, hown, hts⟩ (c_X5_of l D K 0 j 1 ) (va_cwS 3 hts gX5_block_X5_of rfl rfl rfl (by decide +kernel) ⟨Nat.le_of_ble_eq_true rfl, Nat.le_of_ble_eq_true rfl⟩) pre_s0 rfl rfl hl.1 rfl (lv_room (Nat.le_of_ble_eq_true rfl)) dX5_block_80 ⟨Nat.zero_le _, Nat.zero_le _⟩)) (fun r_6 hr_6 => ?_)
      subst hr_6
      refine n_iald hx hb hK hP 1 0 rfl rfl (40 + 160 * 0 + 5 * j + 1) (by omega) (by decide) dX5_block_83 ?_
      exact W.iret hx hb hr (fun t ht hW => ⟨_, rfl, (by unfold r_X5_block_0; rw [if_pos c_3, if_neg c_5]), ht⟩) (fun q hq => absurd hq List.not_mem_nil) dX5_block_84
    · skip
      refine lv_bipush (v := (-6)) hx hb dX5_block_66 (by decide) ?_
      refine lv_goto (tgt := 84) hx hb dX5_block_68 (by decide) ?_
      exact W.iret hx hb hr (fun t ht hW => ⟨_, rfl, (by unfold r_X5_block_0; rw [if_pos c_3, if_pos c_5]), ht⟩) (fun q hq => absurd hq List.not_mem_nil) dX5_block_84
  · skip
    refine byc (P := xw = 1) (fun c_7 => ?_) (fun c_7 => ?_)
    · skip
      refine lv_tableIn (off := 40) (tgt := 52) hx hb dX5_block_12 (by rw [c_7]; decide) (by rw [c_7]; decide) (by rw [c_7]; rfl) (by decide) ?_
      refine lv_aload_n hx hb dX5_block_52 rfl (lv_at hl 0 rfl) ?_
      refine va_get (D := D) (ci := 5) (v := .ref aS) (C := RX5) (T := TX5) (N := 13) hx hb hts hin5 hown hK hP 0 rfl rfl 0 (by decide) (hts _ (List.mem_of_getElem? (i := 1) rfl)) (fun _ h9 => h9) rfl dX5_block_53 ?_
      refine lv_iload_n hx hb dX5_block_56 rfl (lv_at hl 1 rfl) ?_
      refine lv_iload_n hx hb dX5_block_57 rfl (lv_at hl 2 rfl) ?_
      refine lv_iconst (v := 0) hx hb dX5_block_58 (by decide) ?_
      refine vp_callSi (va_Run.run (va_runS (As := [.int 0, .int (nI j), .int 0]) (rest := [.ref aS]) ⟨hx, hb, hml, hown, hts⟩ (c_X5_of l D K 0 j 0 ) (va_cwS 3 hts gX5_block_X5_of rfl rfl rfl (by decide +kernel) ⟨Nat.le_of_ble_eq_true rfl, Nat.le_of_ble_eq_true rfl⟩) pre_s0 rfl rfl hl.1 rfl (lv_room (Nat.le_of_ble_eq_true rfl)) dX5_block_59 ⟨Nat.zero_le _, Nat.zero_le _⟩)) (fun r_8 hr_8 => ?_)
      subst hr_8
      refine n_iald hx hb hK hP 1 0 rfl rfl (40 + 160 * 0 + 5 * j + 0) (by omega) (by decide) dX5_block_62 ?_
      refine lv_if_ne (tgt := 71) hx hb dX5_block_63 (by decide) (fun c_9 => ?_) (fun c_9 => ?_)
      · skip
        refine lv_aload_n hx hb dX5_block_71 rfl (lv_at hl 0 rfl) ?_
        refine va_get (D := D) (ci := 5) (v := .ref aS) (C := RX5) (T := TX5) (N := 13) hx hb hts hin5 hown hK hP 0 rfl rfl 0 (by decide) (hts _ (List.mem_of_getElem? (i := 1) rfl)) (fun _ h9 => h9) rfl dX5_block_72 ?_
        refine lv_iload_n hx hb dX5_block_75 rfl (lv_at hl 1 rfl) ?_
        refine lv_iload_n hx hb dX5_block_76 rfl (lv_at hl 2 rfl) ?_
        refine lv_iconst (v := 1) hx hb dX5_block_77 (by decide) ?_
        refine lv_iload_n hx hb dX5_block_78 rfl (lv_at hl 3 rfl) ?_
        refine lv_iadd hx hb dX5_block_79 ?_
        refine st1 (y := 2) (by rw [c_7]; rfl) ?_
        refine vp_callSi (va_Run.run (va_runS (As := [.int 0, .int (nI j), .int 2]) (rest := [.ref aS]) ⟨hx, hb, hml, hown, hts⟩ (c_X5_of l D K 0 j 2 ) (va_cwS 3 hts gX5_block_X5_of rfl rfl rfl (by decide +kernel) ⟨Nat.le_of_ble_eq_true rfl, Nat.le_of_ble_eq_true rfl⟩) pre_s0 rfl rfl hl.1 rfl (lv_room (Nat.le_of_ble_eq_true rfl)) dX5_block_80 ⟨Nat.zero_le _, Nat.zero_le _⟩)) (fun r_10 hr_10 => ?_)
        subst hr_10
        refine n_iald hx hb hK hP 1 0 rfl rfl (40 + 160 * 0 + 5 * j + 2) (by omega) (by decide) dX5_block_83 ?_
        exact W.iret hx hb hr (fun t ht hW => ⟨_, rfl, (by unfold r_X5_block_0; rw [if_neg c_3, if_pos c_7, if_neg c_9]), ht⟩) (fun q hq => absurd hq List.not_mem_nil) dX5_block_84
      · skip
        refine lv_bipush (v := (-6)) hx hb dX5_block_66 (by decide) ?_
        refine lv_goto (tgt := 84) hx hb dX5_block_68 (by decide) ?_
        exact W.iret hx hb hr (fun t ht hW => ⟨_, rfl, (by unfold r_X5_block_0; rw [if_neg c_3, if_pos c_7, if_pos c_9]), ht⟩) (fun q hq => absurd hq List.not_mem_nil) dX5_block_84
    · skip
      refine byc (P := xw = 2) (fun c_11 => ?_) (fun c_11 => ?_)
      · skip
        refine lv_tableIn (off := 40) (tgt := 52) hx hb dX5_block_12 (by rw [c_11]; decide) (by rw [c_11]; decide) (by rw [c_11]; rfl) (by decide) ?_
        refine lv_aload_n hx hb dX5_block_52 rfl (lv_at hl 0 rfl) ?_
        refine va_get (D := D) (ci := 5) (v := .ref aS) (C := RX5) (T := TX5) (N := 13) hx hb hts hin5 hown hK hP 0 rfl rfl 0 (by decide) (hts _ (List.mem_of_getElem? (i := 1) rfl)) (fun _ h9 => h9) rfl dX5_block_53 ?_
        refine lv_iload_n hx hb dX5_block_56 rfl (lv_at hl 1 rfl) ?_
        refine lv_iload_n hx hb dX5_block_57 rfl (lv_at hl 2 rfl) ?_
        refine lv_iconst (v := 0) hx hb dX5_block_58 (by decide) ?_
        refine vp_callSi (va_Run.run (va_runS (As := [.int 0, .int (nI j), .int 0]) (rest := [.ref aS]) ⟨hx, hb, hml, hown, hts⟩ (c_X5_of l D K 0 j 0 ) (va_cwS 3 hts gX5_block_X5_of rfl rfl rfl (by decide +kernel) ⟨Nat.le_of_ble_eq_true rfl, Nat.le_of_ble_eq_true rfl⟩) pre_s0 rfl rfl hl.1 rfl (lv_room (Nat.le_of_ble_eq_true rfl)) dX5_block_59 ⟨Nat.zero_le _, Nat.zero_le _⟩)) (fun r_12 hr_12 => ?_)
        subst hr_12
        refine n_iald hx hb hK hP 1 0 rfl rfl (40 + 160 * 0 + 5 * j + 0) (by omega) (by decide) dX5_block_62 ?_
        refine lv_if_ne (tgt := 71) hx hb dX5_block_63 (by decide) (fun c_13 => ?_) (fun c_13 => ?_)
        · skip
          refine lv_aload_n hx hb dX5_block_71 rfl (lv_at hl 0 rfl) ?_
          refine va_get (D := D) (ci := 5) (v := .ref aS) (C := RX5) (T := TX5) (N := 13) hx hb hts hin5 hown hK hP 0 rfl rfl 0 (by decide) (hts _ (List.mem_of_getElem? (i := 1) rfl)) (fun _ h9 => h9) rfl dX5_block_72 ?_
          refine lv_iload_n hx hb dX5_block_75 rfl (lv_at hl 1 rfl) ?_
          refine lv_iload_n hx hb dX5_block_76 rfl (lv_at hl 2 rfl) ?_
          refine lv_iconst (v := 1) hx hb dX5_block_77 (by decide) ?_
          refine lv_iload_n hx hb dX5_block_78 rfl (lv_at hl 3 rfl) ?_
          refine lv_iadd hx hb dX5_block_79 ?_
          refine st1 (y := 3) (by rw [c_11]; rfl) ?_
          refine vp_callSi (va_Run.run (va_runS (As := [.int 0, .int (nI j), .int 3]) (rest := [.ref aS]) ⟨hx, hb, hml, hown, hts⟩ (c_X5_of l D K 0 j 3 ) (va_cwS 3 hts gX5_block_X5_of rfl rfl rfl (by decide +kernel) ⟨Nat.le_of_ble_eq_true rfl, Nat.le_of_ble_eq_true rfl⟩) pre_s0 rfl rfl hl.1 rfl (lv_room (Nat.le_of_ble_eq_true rfl)) dX5_block_80 ⟨Nat.zero_le _, Nat.zero_le _⟩)) (fun r_14 hr_14 => ?_)
          subst hr_14
          refine n_iald hx hb hK hP 1 0 rfl rfl (40 + 160 * 0 + 5 * j + 3) (by omega) (by decide) dX5_block_83 ?_
          exact W.iret hx hb hr (fun t ht hW => ⟨_, rfl, (by unfold r_X5_block_0; rw [if_neg c_3, if_neg c_7, if_pos c_11, if_neg c_13]), ht⟩) (fun q hq => absurd hq List.not_mem_nil) dX5_block_84
        · skip
          refine lv_bipush (v := (-6)) hx hb dX5_block_66 (by decide) ?_
          refine lv_goto (tgt := 84) hx hb dX5_block_68 (by decide) ?_
          exact W.iret hx hb hr (fun t ht hW => ⟨_, rfl, (by unfold r_X5_block_0; rw [if_neg c_3, if_neg c_7, if_pos c_11, if_pos c_13]), ht⟩) (fun q hq => absurd hq List.not_mem_nil) dX5_block_84
      · skip
        refine byc (P := xw = 3) (fun c_15 => ?_) (fun c_15 => ?_)
        · skip
          refine lv_tableIn (off := 40) (tgt := 52) hx hb dX5_block_12 (by rw [c_15]; decide) (by rw [c_15]; decide) (by rw [c_15]; rfl) (by decide) ?_
          refine lv_aload_n hx hb dX5_block_52 rfl (lv_at hl 0 rfl) ?_
          refine va_get (D := D) (ci := 5) (v := .ref aS) (C := RX5) (T := TX5) (N := 13) hx hb hts hin5 hown hK hP 0 rfl rfl 0 (by decide) (hts _ (List.mem_of_getElem? (i := 1) rfl)) (fun _ h9 => h9) rfl dX5_block_53 ?_
          refine lv_iload_n hx hb dX5_block_56 rfl (lv_at hl 1 rfl) ?_
          refine lv_iload_n hx hb dX5_block_57 rfl (lv_at hl 2 rfl) ?_
          refine lv_iconst (v := 0) hx hb dX5_block_58 (by decide) ?_
          refine vp_callSi (va_Run.run (va_runS (As := [.int 0, .int (nI j), .int 0]) (rest := [.ref aS]) ⟨hx, hb, hml, hown, hts⟩ (c_X5_of l D K 0 j 0 ) (va_cwS 3 hts gX5_block_X5_of rfl rfl rfl (by decide +kernel) ⟨Nat.le_of_ble_eq_true rfl, Nat.le_of_ble_eq_true rfl⟩) pre_s0 rfl rfl hl.1 rfl (lv_room (Nat.le_of_ble_eq_true rfl)) dX5_block_59 ⟨Nat.zero_le _, Nat.zero_le _⟩)) (fun r_16 hr_16 => ?_)
          subst hr_16
          refine n_iald hx hb hK hP 1 0 rfl rfl (40 + 160 * 0 + 5 * j + 0) (by omega) (by decide) dX5_block_62 ?_
          refine lv_if_ne (tgt := 71) hx hb dX5_block_63 (by decide) (fun c_17 => ?_) (fun c_17 => ?_)
          · skip
            refine lv_aload_n hx hb dX5_block_71 rfl (lv_at hl 0 rfl) ?_
            refine va_get (D := D) (ci := 5) (v := .ref aS) (C := RX5) (T := TX5) (N := 13) hx hb hts hin5 hown hK hP 0 rfl rfl 0 (by decide) (hts _ (List.mem_of_getElem? (i := 1) rfl)) (fun _ h9 => h9) rfl dX5_block_72 ?_
            refine lv_iload_n hx hb dX5_block_75 rfl (lv_at hl 1 rfl) ?_
            refine lv_iload_n hx hb dX5_block_76 rfl (lv_at hl 2 rfl) ?_
            refine lv_iconst (v := 1) hx hb dX5_block_77 (by decide) ?_
            refine lv_iload_n hx hb dX5_block_78 rfl (lv_at hl 3 rfl) ?_
            refine lv_iadd hx hb dX5_block_79 ?_
            refine st1 (y := 4) (by rw [c_15]; rfl) ?_
            refine vp_callSi (va_Run.run (va_runS (As := [.int 0, .int (nI j), .int 4]) (rest := [.ref aS]) ⟨hx, hb, hml, hown, hts⟩ (c_X5_of l D K 0 j 4 ) (va_cwS 3 hts gX5_block_X5_of rfl rfl rfl (by decide +kernel) ⟨Nat.le_of_ble_eq_true rfl, Nat.le_of_ble_eq_true rfl⟩) pre_s0 rfl rfl hl.1 rfl (lv_room (Nat.le_of_ble_eq_true rfl)) dX5_block_80 ⟨Nat.zero_le _, Nat.zero_le _⟩)) (fun r_18 hr_18 => ?_)
            subst hr_18
            refine n_iald hx hb hK hP 1 0 rfl rfl (40 + 160 * 0 + 5 * j + 4) (by omega) (by decide) dX5_block_83 ?_
            exact W.iret hx hb hr (fun t ht hW => ⟨_, rfl, (by unfold r_X5_block_0; rw [if_neg c_3, if_neg c_7, if_neg c_11, if_pos c_15, if_neg c_17]), ht⟩) (fun q hq => absurd hq List.not_mem_nil) dX5_block_84
          · skip
            refine lv_bipush (v := (-6)) hx hb dX5_block_66 (by decide) ?_
            refine lv_goto (tgt := 84) hx hb dX5_block_68 (by decide) ?_
            exact W.iret hx hb hr (fun t ht hW => ⟨_, rfl, (by unfold r_X5_block_0; rw [if_neg c_3, if_neg c_7, if_neg c_11, if_pos c_15, if_pos c_17]), ht⟩) (fun q hq => absurd hq List.not_mem_nil) dX5_block_84
        · skip
          refine byc (P := xw = 4) (fun c_19 => ?_) (fun c_19 => ?_)
          · skip
            refine lv_tableIn (off := 73) (tgt := 85) hx hb dX5_block_12 (by rw [c_19]; decide) (by rw [c_19]; decide) (by rw [c_19]; rfl) (by decide) ?_
            refine lv_aload_n hx hb dX5_block_85 rfl (lv_at hl 0 rfl) ?_
            refine lv_iload_n hx hb dX5_block_86 rfl (lv_at hl 1 rfl) ?_
            refine lv_iload_n hx hb dX5_block_87 rfl (lv_at hl 2 rfl) ?_
            have hPc := hP.sub (ws' := [(oM, .inr (5, [.ref aS, .ref aA, .ref aB, .int (nI kn), .ref aT, .ref aV, .ref aP, .int (nI ln), .int pl, .int wr, .int le, .int on, .int tw])), (aS, .inl (K 0, 360, .inl fS))]) [0, 1] rfl
            refine vp_callSi (va_Run.run (va_runV (As := [.int 0, .int (nI j)]) (rest := []) ⟨hx, hb, hml, hown, hts⟩ (c_X5_isWhole l D K oM aS aA aB aT aV aP fS kn ln pl wr le on tw 0 j (by omega) (by omega)) (cwV 2 hts gX5_block_X5_isWhole rfl rfl rfl (by decide +kernel) ⟨Nat.le_of_ble_eq_true rfl, Nat.le_of_ble_eq_true rfl⟩) (pre_rd hbd hPc (ci := 5) (q0 := 0) rfl rfl) rfl rfl hl.1 rfl (lv_room (Nat.le_of_ble_eq_true rfl)) dX5_block_88 ⟨Nat.zero_le _, Nat.zero_le _⟩)) (fun r_20 hr_20 => ?_)
            subst hr_20
            refine lv_if_eq (tgt := 98) hx hb dX5_block_91 (by decide) (fun c_21 => ?_) (fun c_21 => ?_)
            · skip
              refine lv_iconst (v := 0) hx hb dX5_block_98 (by decide) ?_
              exact W.iret hx hb hr (fun t ht hW => ⟨_, rfl, (by unfold r_X5_block_0; rw [if_neg c_3, if_neg c_7, if_neg c_11, if_neg c_15, if_pos c_19, if_pos c_21]), ht⟩) (fun q hq => absurd hq List.not_mem_nil) dX5_block_99
            · skip
              refine lv_iconst (v := 1) hx hb dX5_block_94 (by decide) ?_
              refine lv_goto (tgt := 99) hx hb dX5_block_95 (by decide) ?_
              exact W.iret hx hb hr (fun t ht hW => ⟨_, rfl, (by unfold r_X5_block_0; rw [if_neg c_3, if_neg c_7, if_neg c_11, if_neg c_15, if_pos c_19, if_neg c_21]), ht⟩) (fun q hq => absurd hq List.not_mem_nil) dX5_block_99
          · skip
            refine byc (P := xw = 5) (fun c_22 => ?_) (fun c_22 => ?_)
            · skip
              refine lv_tableIn (off := 88) (tgt := 100) hx hb dX5_block_12 (by rw [c_22]; decide) (by rw [c_22]; decide) (by rw [c_22]; rfl) (by decide) ?_
              refine lv_aload_n hx hb dX5_block_100 rfl (lv_at hl 0 rfl) ?_
              refine va_get (D := D) (ci := 5) (v := .ref aS) (C := RX5) (T := TX5) (N := 13) hx hb hts hin5 hown hK hP 0 rfl rfl 0 (by decide) (hts _ (List.mem_of_getElem? (i := 1) rfl)) (fun _ h9 => h9) rfl dX5_block_101 ?_
              refine lv_bipush (v := 8) hx hb dX5_block_104 (by decide) ?_
              refine lv_iload_n hx hb dX5_block_106 rfl (lv_at hl 2 rfl) ?_
              refine lv_iadd hx hb dX5_block_107 ?_
              refine st1 (nI_add 8 j) ?_
              refine n_iald hx hb hK hP 1 0 rfl rfl (8 + j) (by omega) (by decide) dX5_block_108 ?_
              refine lv_if_ne (tgt := 117) hx hb dX5_block_109 (by decide) (fun c_23 => ?_) (fun c_23 => ?_)
              · skip
                refine lv_aload_n hx hb dX5_block_117 rfl (lv_at hl 0 rfl) ?_
                refine lv_iload_n hx hb dX5_block_118 rfl (lv_at hl 1 rfl) ?_
                refine lv_iload_n hx hb dX5_block_119 rfl (lv_at hl 2 rfl) ?_
                have hPc := hP.sub (ws' := [(oM, .inr (5, [.ref aS, .ref aA, .ref aB, .int (nI kn), .ref aT, .ref aV, .ref aP, .int (nI ln), .int pl, .int wr, .int le, .int on, .int tw])), (aS, .inl (K 0, 360, .inl fS))]) [0, 1] rfl
                refine vp_callSi (va_Run.run (va_runV (As := [.int 0, .int (nI j)]) (rest := []) ⟨hx, hb, hml, hown, hts⟩ (c_X5_reason l D K oM aS aA aB aT aV aP fS kn ln pl wr le on tw 0 j (by omega) (by omega)) (cwV 2 hts gX5_block_X5_reason rfl rfl rfl (by decide +kernel) ⟨Nat.le_of_ble_eq_true rfl, Nat.le_of_ble_eq_true rfl⟩) (pre_rd hbd hPc (ci := 5) (q0 := 0) rfl rfl) rfl rfl hl.1 rfl (lv_room (Nat.le_of_ble_eq_true rfl)) dX5_block_120 ⟨Nat.zero_le _, Nat.zero_le _⟩)) (fun r_24 hr_24 => ?_)
                subst hr_24
                exact W.iret hx hb hr (fun t ht hW => ⟨_, rfl, (by unfold r_X5_block_0; rw [if_neg c_3, if_neg c_7, if_neg c_11, if_neg c_15, if_neg c_19, if_pos c_22, if_neg c_23]), ht⟩) (fun q hq => absurd hq List.not_mem_nil) dX5_block_123
              · skip
                refine lv_bipush (v := (-6)) hx hb dX5_block_112 (by decide) ?_
                refine lv_goto (tgt := 123) hx hb dX5_block_114 (by decide) ?_
                exact W.iret hx hb hr (fun t ht hW => ⟨_, rfl, (by unfold r_X5_block_0; rw [if_neg c_3, if_neg c_7, if_neg c_11, if_neg c_15, if_neg c_19, if_pos c_22, if_pos c_23]), ht⟩) (fun q hq => absurd hq List.not_mem_nil) dX5_block_123
            · skip
              refine lv_tableOut (tgt := 124) hx hb dX5_block_12 (by have g0 := lv_neT (a := 0) c_3 (by decide); have g1 := lv_neT (a := 1) c_7 (by decide); have g2 := lv_neT (a := 2) c_11 (by decide); have g3 := lv_neT (a := 3) c_15 (by decide); have g4 := lv_neT (a := 4) c_19 (by decide); have g5 := lv_neT (a := 5) c_22 (by decide); omega) (by decide) ?_
              refine lv_bipush (v := (-2)) hx hb dX5_block_124 (by decide) ?_
              exact W.iret hx hb hr (fun t ht hW => ⟨_, rfl, (by unfold r_X5_block_0; rw [if_neg c_3, if_neg c_7, if_neg c_11, if_neg c_15, if_neg c_19, if_neg c_22]), ht⟩) (fun q hq => absurd hq List.not_mem_nil) dX5_block_126
set_option maxHeartbeats 4000000 in
set_option maxRecDepth 100000 in
theorem c_X5_block_0n (l : Launch) (D : va_G) (K : Nat → ClassId) (oM : Nat) (aS : Nat) (aA : Nat) (aB : Nat) (aT : Nat) (aV : Nat) (aP : Nat) (fS : Nat → Int32) (kn : Nat) (ln : Nat) (pl : Int32) (wr : Int32) (le : Int32) (on : Int32) (tw : Int32) (n : Nat) (xp : Int32) (xw : Int32) (hs0 : fS 0 = nI n) (hn1 : 1 ≤ n) (hn : n ≤ 32) (hbad : xp < 0 ∨ nI n ≤ xp) : Met l yX5_block wsX5_block ({ frames := 3, cells := 0, slots := 0, locals := 65 }) (va_Pc [.ref oM, .int 0, .int xp, .int xw] (fun U => Bd D K U ∧ va_P D vwCl [(oM, .inr (5, [.ref aS, .ref aA, .ref aB, .int (nI kn), .ref aT, .ref aV, .ref aP, .int (nI ln), .int pl, .int wr, .int le, .int on, .int tw])), (aS, .inl (K 0, 360, .inl fS))] U.heap)) (vp_Si (fun r => r = (-1))) 0 0 (fun _ => False) := by
  refine Met.ofW (cc := cX5_block) (maxL := 4) (ret := (some .int)) (by decide) rfl ?_
  intro p e s m args below meth c s₁ B hml hv
  obtain ⟨rfl, hbd, hP⟩ := hv
  have hx := B.exec
  have hb := B.bytes
  have hr := B.returns
  have hts := atoms_spec (ws := wsX5_block) B.pre
  have hown : s.vm.findClass RX5 = some m.cls := findClass_of_methodNamed B.named
  have hlocks := B.notSynchronized
  have hK := hbd.2
  have hP : va_P D vwCl [(oM, .inr (5, [.ref aS, .ref aA, .ref aB, .int (nI kn), .ref aT, .ref aV, .ref aP, .int (nI ln), .int pl, .int wr, .int le, .int on, .int tw])), (aS, .inl (K 0, 360, .inl fS))] s.heap := hP
  have hl := lv_entry ([.ref oM, .int 0, .int xp, .int xw]) (n := 4) (Nat.le_of_ble_eq_true rfl)
  rw [lg_entry_eq]
  generalize (lg_sl ([.ref oM, .int 0, .int xp, .int xw]) ++ List.replicate (4 - (lg_sl ([.ref oM, .int 0, .int xp, .int xw])).length) Slot.unset).toArray = ls at hl ⊢
  have hl : lv_has ls 4 [(0, .ref oM), (1, .int 0), (2, .int xp), (3, .int xw)] := hl
  refine lv_aload_n hx hb dX5_block_0 rfl (lv_at hl 0 rfl) ?_
  refine lv_iload_n hx hb dX5_block_1 rfl (lv_at hl 1 rfl) ?_
  refine lv_iload_n hx hb dX5_block_2 rfl (lv_at hl 2 rfl) ?_
  have hPc := hP.sub (ws' := [(oM, .inr (5, [.ref aS, .ref aA, .ref aB, .int (nI kn), .ref aT, .ref aV, .ref aP, .int (nI ln), .int pl, .int wr, .int le, .int on, .int tw])), (aS, .inl (K 0, 360, .inl fS))]) [0, 1] rfl
  refine vp_callSi (va_Run.run (va_runV (As := [.int 0, .int xp]) (rest := []) ⟨hx, hb, hml, hown, hts⟩ (c_X5_wipeFault_0n l D K oM aS aA aB aT aV aP fS kn ln pl wr le on tw n xp hs0 hn1 hn hbad) (cwV 2 hts gX5_block_X5_wipeFault rfl rfl rfl (by decide +kernel) ⟨Nat.le_of_ble_eq_true rfl, Nat.le_of_ble_eq_true rfl⟩) (pre_rd hbd hPc (ci := 5) (q0 := 0) rfl rfl) rfl rfl hl.1 rfl (lv_room (Nat.le_of_ble_eq_true rfl)) dX5_block_3 ⟨Nat.zero_le _, Nat.zero_le _⟩)) (fun r_1 hr_1 => ?_)
  subst hr_1
  refine lv_if_ge (tgt := 11) hx hb dX5_block_6 (by decide) (fun h_2 => absurd h_2 (by decide)) (fun _ => ?_)
  refine lv_iconst (v := (-1)) hx hb dX5_block_9 (by decide) ?_
  exact W.iret hx hb hr (fun t ht hW => ⟨_, rfl, rfl, ht⟩) (fun q hq => absurd hq List.not_mem_nil) dX5_block_10
def r_X5_block_1 (fS : Nat → Int32) (j : Nat) (xw : Int32) : Int32 := (if xw = 0 then (if (fS (40 + 160 * 1 + 5 * j + 0)) = 0 then (-6) else (fS (40 + 160 * 1 + 5 * j + 1))) else (if xw = 1 then (if (fS (40 + 160 * 1 + 5 * j + 0)) = 0 then (-6) else (fS (40 + 160 * 1 + 5 * j + 2))) else (if xw = 2 then (if (fS (40 + 160 * 1 + 5 * j + 0)) = 0 then (-6) else (fS (40 + 160 * 1 + 5 * j + 3))) else (if xw = 3 then (if (fS (40 + 160 * 1 + 5 * j + 0)) = 0 then (-6) else (fS (40 + 160 * 1 + 5 * j + 4))) else (if xw = 4 then (if (r_X5_isWhole fS 1 j) = 0 then 0 else 1) else (if xw = 5 then (if (fS (8 + j)) = 0 then (-6) else (r_X5_reason fS 1 j)) else (-2)))))))
set_option maxHeartbeats 4000000 in
set_option maxRecDepth 100000 in
theorem c_X5_block_1 (l : Launch) (D : va_G) (K : Nat → ClassId) (oM : Nat) (aS : Nat) (aA : Nat) (aB : Nat) (aT : Nat) (aV : Nat) (aP : Nat) (fS : Nat → Int32) (kn : Nat) (ln : Nat) (pl : Int32) (wr : Int32) (le : Int32) (on : Int32) (tw : Int32) (n : Nat) (j : Nat) (xw : Int32) (hs0 : fS 0 = nI n) (hn1 : 1 ≤ n) (hn : n ≤ 32) (hjn : j < n) : Met l yX5_block wsX5_block ({ frames := 3, cells := 0, slots := 0, locals := 67 }) (va_Pc [.ref oM, .int 1, .int (nI j), .int xw] (fun U => Bd D K U ∧ va_P D vwCl [(oM, .inr (5, [.ref aS, .ref aA, .ref aB, .int (nI kn), .ref aT, .ref aV, .ref aP, .int (nI ln), .int pl, .int wr, .int le, .int on, .int tw])), (aS, .inl (K 0, 360, .inl fS))] U.heap)) (vp_Si (fun r => r = (r_X5_block_1 fS j xw))) 0 0 (fun _ => False) := by
  refine Met.ofW (cc := cX5_block) (maxL := 4) (ret := (some .int)) (by decide) rfl ?_
  intro p e s m args below meth c s₁ B hml hv
  obtain ⟨rfl, hbd, hP⟩ := hv
  have hx := B.exec
  have hb := B.bytes
  have hr := B.returns
  have hts := atoms_spec (ws := wsX5_block) B.pre
  have hown : s.vm.findClass RX5 = some m.cls := findClass_of_methodNamed B.named
  have hlocks := B.notSynchronized
  have hK := hbd.2
  have hP : va_P D vwCl [(oM, .inr (5, [.ref aS, .ref aA, .ref aB, .int (nI kn), .ref aT, .ref aV, .ref aP, .int (nI ln), .int pl, .int wr, .int le, .int on, .int tw])), (aS, .inl (K 0, 360, .inl fS))] s.heap := hP
  have hin5 : ∀ w ∈ wsX50, w ∈ wsX5_block := by decide +kernel
  have hl := lv_entry ([.ref oM, .int 1, .int (nI j), .int xw]) (n := 4) (Nat.le_of_ble_eq_true rfl)
  rw [lg_entry_eq]
  generalize (lg_sl ([.ref oM, .int 1, .int (nI j), .int xw]) ++ List.replicate (4 - (lg_sl ([.ref oM, .int 1, .int (nI j), .int xw])).length) Slot.unset).toArray = ls at hl ⊢
  have hl : lv_has ls 4 [(0, .ref oM), (1, .int 1), (2, .int (nI j)), (3, .int xw)] := hl
  refine lv_aload_n hx hb dX5_block_0 rfl (lv_at hl 0 rfl) ?_
  refine lv_iload_n hx hb dX5_block_1 rfl (lv_at hl 1 rfl) ?_
  refine lv_iload_n hx hb dX5_block_2 rfl (lv_at hl 2 rfl) ?_
  have hPc := hP.sub (ws' := [(oM, .inr (5, [.ref aS, .ref aA, .ref aB, .int (nI kn), .ref aT, .ref aV, .ref aP, .int (nI ln), .int pl, .int wr, .int le, .int on, .int tw])), (aS, .inl (K 0, 360, .inl fS))]) [0, 1] rfl
  refine vp_callSi (va_Run.run (va_runV (As := [.int 1, .int (nI j)]) (rest := []) ⟨hx, hb, hml, hown, hts⟩ (c_X5_wipeFault_1 l D K oM aS aA aB aT aV aP fS kn ln pl wr le on tw n j hs0 hn1 hn hjn) (cwV 2 hts gX5_block_X5_wipeFault rfl rfl rfl (by decide +kernel) ⟨Nat.le_of_ble_eq_true rfl, Nat.le_of_ble_eq_true rfl⟩) (pre_rd hbd hPc (ci := 5) (q0 := 0) rfl rfl) rfl rfl hl.1 rfl (lv_room (Nat.le_of_ble_eq_true rfl)) dX5_block_3 ⟨Nat.zero_le _, Nat.zero_le _⟩)) (fun r_1 hr_1 => ?_)
  subst hr_1
  refine lv_if_ge (tgt := 11) hx hb dX5_block_6 (by decide) (fun _ => ?_) (fun h_2 => absurd (by decide) h_2)
  refine lv_iload_n hx hb dX5_block_11 rfl (lv_at hl 3 rfl) ?_
  refine byc (P := xw = 0) (fun c_3 => ?_) (fun c_3 => ?_)
  · skip
    refine lv_tableIn (off := 40) (tgt := 52) hx hb dX5_block_12 (by rw [c_3]; decide) (by rw [c_3]; decide) (by rw [c_3]; rfl) (by decide) ?_
    refine lv_aload_n hx hb dX5_block_52 rfl (lv_at hl 0 rfl) ?_
    refine va_get (D := D) (ci := 5) (v := .ref aS) (C := RX5) (T := TX5) (N := 13) hx hb hts hin5 hown hK hP 0 rfl rfl 0 (by decide) (hts _ (List.mem_of_getElem? (i := 1) rfl)) (fun _ h9 => h9) rfl dX5_block_53 ?_
    refine lv_iload_n hx hb dX5_block_56 rfl (lv_at hl 1 rfl) ?_
    refine lv_iload_n hx hb dX5_block_57 rfl (lv_at hl 2 rfl) ?_
    refine lv_iconst (v := 0) hx hb dX5_block_58 (by decide) ?_
    refine vp_callSi (va_Run.run (va_runS (As := [.int 1, .int (nI j), .int 0]) (rest := [.ref aS]) ⟨hx, hb, hml, hown, hts⟩ (c_X5_of l D K 1 j 0 ) (va_cwS 3 hts gX5_block_X5_of rfl rfl rfl (by decide +kernel) ⟨Nat.le_of_ble_eq_true rfl, Nat.le_of_ble_eq_true rfl⟩) pre_s0 rfl rfl hl.1 rfl (lv_room (Nat.le_of_ble_eq_true rfl)) dX5_block_59 ⟨Nat.zero_le _, Nat.zero_le _⟩)) (fun r_4 hr_4 => ?_)
    subst hr_4
    refine n_iald hx hb hK hP 1 0 rfl rfl (40 + 160 * 1 + 5 * j + 0) (by omega) (by decide) dX5_block_62 ?_
    refine lv_if_ne (tgt := 71) hx hb dX5_block_63 (by decide) (fun c_5 => ?_) (fun c_5 => ?_)
    · skip
      refine lv_aload_n hx hb dX5_block_71 rfl (lv_at hl 0 rfl) ?_
      refine va_get (D := D) (ci := 5) (v := .ref aS) (C := RX5) (T := TX5) (N := 13) hx hb hts hin5 hown hK hP 0 rfl rfl 0 (by decide) (hts _ (List.mem_of_getElem? (i := 1) rfl)) (fun _ h9 => h9) rfl dX5_block_72 ?_
      refine lv_iload_n hx hb dX5_block_75 rfl (lv_at hl 1 rfl) ?_
      refine lv_iload_n hx hb dX5_block_76 rfl (lv_at hl 2 rfl) ?_
      refine lv_iconst (v := 1) hx hb dX5_block_77 (by decide) ?_
      refine lv_iload_n hx hb dX5_block_78 rfl (lv_at hl 3 rfl) ?_
      refine lv_iadd hx hb dX5_block_79 ?_
      refine st1 (y := 1) (by rw [c_3]; rfl) ?_
      refine vp_callSi (va_Run.run (va_runS (As := [.int 1, .int (nI j), .int 1]) (rest := [.ref aS]) ⟨hx, hb, hml, hown, hts⟩ (c_X5_of l D K 1 j 1 ) (va_cwS 3 hts gX5_block_X5_of rfl rfl rfl (by decide +kernel) ⟨Nat.le_of_ble_eq_true rfl, Nat.le_of_ble_eq_true rfl⟩) pre_s0 rfl rfl hl.1 rfl (lv_room (Nat.le_of_ble_eq_true rfl)) dX5_block_80 ⟨Nat.zero_le _, Nat.zero_le _⟩)) (fun r_6 hr_6 => ?_)
      subst hr_6
      refine n_iald hx hb hK hP 1 0 rfl rfl (40 + 160 * 1 + 5 * j + 1) (by omega) (by decide) dX5_block_83 ?_
      exact W.iret hx hb hr (fun t ht hW => ⟨_, rfl, (by unfold r_X5_block_1; rw [if_pos c_3, if_neg c_5]), ht⟩) (fun q hq => absurd hq List.not_mem_nil) dX5_block_84
    · skip
      refine lv_bipush (v := (-6)) hx hb dX5_block_66 (by decide) ?_
      refine lv_goto (tgt := 84) hx hb dX5_block_68 (by decide) ?_
      exact W.iret hx hb hr (fun t ht hW => ⟨_, rfl, (by unfold r_X5_block_1; rw [if_pos c_3, if_pos c_5]), ht⟩) (fun q hq => absurd hq List.not_mem_nil) dX5_block_84
  · skip
    refine byc (P := xw = 1) (fun c_7 => ?_) (fun c_7 => ?_)
    · skip
      refine lv_tableIn (off := 40) (tgt := 52) hx hb dX5_block_12 (by rw [c_7]; decide) (by rw [c_7]; decide) (by rw [c_7]; rfl) (by decide) ?_
      refine lv_aload_n hx hb dX5_block_52 rfl (lv_at hl 0 rfl) ?_
      refine va_get (D := D) (ci := 5) (v := .ref aS) (C := RX5) (T := TX5) (N := 13) hx hb hts hin5 hown hK hP 0 rfl rfl 0 (by decide) (hts _ (List.mem_of_getElem? (i := 1) rfl)) (fun _ h9 => h9) rfl dX5_block_53 ?_
      refine lv_iload_n hx hb dX5_block_56 rfl (lv_at hl 1 rfl) ?_
      refine lv_iload_n hx hb dX5_block_57 rfl (lv_at hl 2 rfl) ?_
      refine lv_iconst (v := 0) hx hb dX5_block_58 (by decide) ?_
      refine vp_callSi (va_Run.run (va_runS (As := [.int 1, .int (nI j), .int 0]) (rest := [.ref aS]) ⟨hx, hb, hml, hown, hts⟩ (c_X5_of l D K 1 j 0 ) (va_cwS 3 hts gX5_block_X5_of rfl rfl rfl (by decide +kernel) ⟨Nat.le_of_ble_eq_true rfl, Nat.le_of_ble_eq_true rfl⟩) pre_s0 rfl rfl hl.1 rfl (lv_room (Nat.le_of_ble_eq_true rfl)) dX5_block_59 ⟨Nat.zero_le _, Nat.zero_le _⟩)) (fun r_8 hr_8 => ?_)
      subst hr_8
      refine n_iald hx hb hK hP 1 0 rfl rfl (40 + 160 * 1 + 5 * j + 0) (by omega) (by decide) dX5_block_62 ?_
      refine lv_if_ne (tgt := 71) hx hb dX5_block_63 (by decide) (fun c_9 => ?_) (fun c_9 => ?_)
      · skip
        refine lv_aload_n hx hb dX5_block_71 rfl (lv_at hl 0 rfl) ?_
        refine va_get (D := D) (ci := 5) (v := .ref aS) (C := RX5) (T := TX5) (N := 13) hx hb hts hin5 hown hK hP 0 rfl rfl 0 (by decide) (hts _ (List.mem_of_getElem? (i := 1) rfl)) (fun _ h9 => h9) rfl dX5_block_72 ?_
        refine lv_iload_n hx hb dX5_block_75 rfl (lv_at hl 1 rfl) ?_
        refine lv_iload_n hx hb dX5_block_76 rfl (lv_at hl 2 rfl) ?_
        refine lv_iconst (v := 1) hx hb dX5_block_77 (by decide) ?_
        refine lv_iload_n hx hb dX5_block_78 rfl (lv_at hl 3 rfl) ?_
        refine lv_iadd hx hb dX5_block_79 ?_
        refine st1 (y := 2) (by rw [c_7]; rfl) ?_
        refine vp_callSi (va_Run.run (va_runS (As := [.int 1, .int (nI j), .int 2]) (rest := [.ref aS]) ⟨hx, hb, hml, hown, hts⟩ (c_X5_of l D K 1 j 2 ) (va_cwS 3 hts gX5_block_X5_of rfl rfl rfl (by decide +kernel) ⟨Nat.le_of_ble_eq_true rfl, Nat.le_of_ble_eq_true rfl⟩) pre_s0 rfl rfl hl.1 rfl (lv_room (Nat.le_of_ble_eq_true rfl)) dX5_block_80 ⟨Nat.zero_le _, Nat.zero_le _⟩)) (fun r_10 hr_10 => ?_)
        subst hr_10
        refine n_iald hx hb hK hP 1 0 rfl rfl (40 + 160 * 1 + 5 * j + 2) (by omega) (by decide) dX5_block_83 ?_
        exact W.iret hx hb hr (fun t ht hW => ⟨_, rfl, (by unfold r_X5_block_1; rw [if_neg c_3, if_pos c_7, if_neg c_9]), ht⟩) (fun q hq => absurd hq List.not_mem_nil) dX5_block_84
      · skip
        refine lv_bipush (v := (-6)) hx hb dX5_block_66 (by decide) ?_
        refine lv_goto (tgt := 84) hx hb dX5_block_68 (by decide) ?_
        exact W.iret hx hb hr (fun t ht hW => ⟨_, rfl, (by unfold r_X5_block_1; rw [if_neg c_3, if_pos c_7, if_pos c_9]), ht⟩) (fun q hq => absurd hq List.not_mem_nil) dX5_block_84
    · skip
      refine byc (P := xw = 2) (fun c_11 => ?_) (fun c_11 => ?_)
      · skip
        refine lv_tableIn (off := 40) (tgt := 52) hx hb dX5_block_12 (by rw [c_11]; decide) (by rw [c_11]; decide) (by rw [c_11]; rfl) (by decide) ?_
        refine lv_aload_n hx hb dX5_block_52 rfl (lv_at hl 0 rfl) ?_
        refine va_get (D := D) (ci := 5) (v := .ref aS) (C := RX5) (T := TX5) (N := 13) hx hb hts hin5 hown hK hP 0 rfl rfl 0 (by decide) (hts _ (List.mem_of_getElem? (i := 1) rfl)) (fun _ h9 => h9) rfl dX5_block_53 ?_
        refine lv_iload_n hx hb dX5_block_56 rfl (lv_at hl 1 rfl) ?_
        refine lv_iload_n hx hb dX5_block_57 rfl (lv_at hl 2 rfl) ?_
        refine lv_iconst (v := 0) hx hb dX5_block_58 (by decide) ?_
        refine vp_callSi (va_Run.run (va_runS (As := [.int 1, .int (nI j), .int 0]) (rest := [.ref aS]) ⟨hx, hb, hml, hown, hts⟩ (c_X5_of l D K 1 j 0 ) (va_cwS 3 hts gX5_block_X5_of rfl rfl rfl (by decide +kernel) ⟨Nat.le_of_ble_eq_true rfl, Nat.le_of_ble_eq_true rfl⟩) pre_s0 rfl rfl hl.1 rfl (lv_room (Nat.le_of_ble_eq_true rfl)) dX5_block_59 ⟨Nat.zero_le _, Nat.zero_le _⟩)) (fun r_12 hr_12 => ?_)
        subst hr_12
        refine n_iald hx hb hK hP 1 0 rfl rfl (40 + 160 * 1 + 5 * j + 0) (by omega) (by decide) dX5_block_62 ?_
        refine lv_if_ne (tgt := 71) hx hb dX5_block_63 (by decide) (fun c_13 => ?_) (fun c_13 => ?_)
        · skip
          refine lv_aload_n hx hb dX5_block_71 rfl (lv_at hl 0 rfl) ?_
          refine va_get (D := D) (ci := 5) (v := .ref aS) (C := RX5) (T := TX5) (N := 13) hx hb hts hin5 hown hK hP 0 rfl rfl 0 (by decide) (hts _ (List.mem_of_getElem? (i := 1) rfl)) (fun _ h9 => h9) rfl dX5_block_72 ?_
          refine lv_iload_n hx hb dX5_block_75 rfl (lv_at hl 1 rfl) ?_
          refine lv_iload_n hx hb dX5_block_76 rfl (lv_at hl 2 rfl) ?_
          refine lv_iconst (v := 1) hx hb dX5_block_77 (by decide) ?_
          refine lv_iload_n hx hb dX5_block_78 rfl (lv_at hl 3 rfl) ?_
          refine lv_iadd hx hb dX5_block_79 ?_
          refine st1 (y := 3) (by rw [c_11]; rfl) ?_
          refine vp_callSi (va_Run.run (va_runS (As := [.int 1, .int (nI j), .int 3]) (rest := [.ref aS]) ⟨hx, hb, hml, hown, hts⟩ (c_X5_of l D K 1 j 3 ) (va_cwS 3 hts gX5_block_X5_of rfl rfl rfl (by decide +kernel) ⟨Nat.le_of_ble_eq_true rfl, Nat.le_of_ble_eq_true rfl⟩) pre_s0 rfl rfl hl.1 rfl (lv_room (Nat.le_of_ble_eq_true rfl)) dX5_block_80 ⟨Nat.zero_le _, Nat.zero_le _⟩)) (fun r_14 hr_14 => ?_)
          subst hr_14
          refine n_iald hx hb hK hP 1 0 rfl rfl (40 + 160 * 1 + 5 * j + 3) (by omega) (by decide) dX5_block_83 ?_
          exact W.iret hx hb hr (fun t ht hW => ⟨_, rfl, (by unfold r_X5_block_1; rw [if_neg c_3, if_neg c_7, if_pos c_11, if_neg c_13]), ht⟩) (fun q hq => absurd hq List.not_mem_nil) dX5_block_84
        · skip
          refine lv_bipush (v := (-6)) hx hb dX5_block_66 (by decide) ?_
          refine lv_goto (tgt := 84) hx hb dX5_block_68 (by decide) ?_
          exact W.iret hx hb hr (fun t ht hW => ⟨_, rfl, (by unfold r_X5_block_1; rw [if_neg c_3, if_neg c_7, if_pos c_11, if_pos c_13]), ht⟩) (fun q hq => absurd hq List.not_mem_nil) dX5_block_84
      · skip
        refine byc (P := xw = 3) (fun c_15 => ?_) (fun c_15 => ?_)
        · skip
          refine lv_tableIn (off := 40) (tgt := 52) hx hb dX5_block_12 (by rw [c_15]; decide) (by rw [c_15]; decide) (by rw [c_15]; rfl) (by decide) ?_
          refine lv_aload_n hx hb dX5_block_52 rfl (lv_at hl 0 rfl) ?_
          refine va_get (D := D) (ci := 5) (v := .ref aS) (C := RX5) (T := TX5) (N := 13) hx hb hts hin5 hown hK hP 0 rfl rfl 0 (by decide) (hts _ (List.mem_of_getElem? (i := 1) rfl)) (fun _ h9 => h9) rfl dX5_block_53 ?_
          refine lv_iload_n hx hb dX5_block_56 rfl (lv_at hl 1 rfl) ?_
          refine lv_iload_n hx hb dX5_block_57 rfl (lv_at hl 2 rfl) ?_
          refine lv_iconst (v := 0) hx hb dX5_block_58 (by decide) ?_
          refine vp_callSi (va_Run.run (va_runS (As := [.int 1, .int (nI j), .int 0]) (rest := [.ref aS]) ⟨hx, hb, hml, hown, hts⟩ (c_X5_of l D K 1 j 0 ) (va_cwS 3 hts gX5_block_X5_of rfl rfl rfl (by decide +kernel) ⟨Nat.le_of_ble_eq_true rfl, Nat.le_of_ble_eq_true rfl⟩) pre_s0 rfl rfl hl.1 rfl (lv_room (Nat.le_of_ble_eq_true rfl)) dX5_block_59 ⟨Nat.zero_le _, Nat.zero_le _⟩)) (fun r_16 hr_16 => ?_)
          subst hr_16
          refine n_iald hx hb hK hP 1 0 rfl rfl (40 + 160 * 1 + 5 * j + 0) (by omega) (by decide) dX5_block_62 ?_
          refine lv_if_ne (tgt := 71) hx hb dX5_block_63 (by decide) (fun c_17 => ?_) (fun c_17 => ?_)
          · skip
            refine lv_aload_n hx hb dX5_block_71 rfl (lv_at hl 0 rfl) ?_
            refine va_get (D := D) (ci := 5) (v := .ref aS) (C := RX5) (T := TX5) (N := 13) hx hb hts hin5 hown hK hP 0 rfl rfl 0 (by decide) (hts _ (List.mem_of_getElem? (i := 1) rfl)) (fun _ h9 => h9) rfl dX5_block_72 ?_
            refine lv_iload_n hx hb dX5_block_75 rfl (lv_at hl 1 rfl) ?_
            refine lv_iload_n hx hb dX5_block_76 rfl (lv_at hl 2 rfl) ?_
            refine lv_iconst (v := 1) hx hb dX5_block_77 (by decide) ?_
            refine lv_iload_n hx hb dX5_block_78 rfl (lv_at hl 3 rfl) ?_
            refine lv_iadd hx hb dX5_block_79 ?_
            refine st1 (y := 4) (by rw [c_15]; rfl) ?_
            refine vp_callSi (va_Run.run (va_runS (As := [.int 1, .int (nI j), .int 4]) (rest := [.ref aS]) ⟨hx, hb, hml, hown, hts⟩ (c_X5_of l D K 1 j 4 ) (va_cwS 3 hts gX5_block_X5_of rfl rfl rfl (by decide +kernel) ⟨Nat.le_of_ble_eq_true rfl, Nat.le_of_ble_eq_true rfl⟩) pre_s0 rfl rfl hl.1 rfl (lv_room (Nat.le_of_ble_eq_true rfl)) dX5_block_80 ⟨Nat.zero_le _, Nat.zero_le _⟩)) (fun r_18 hr_18 => ?_)
            subst hr_18
            refine n_iald hx hb hK hP 1 0 rfl rfl (40 + 160 * 1 + 5 * j + 4) (by omega) (by decide) dX5_block_83 ?_
            exact W.iret hx hb hr (fun t ht hW => ⟨_, rfl, (by unfold r_X5_block_1; rw [if_neg c_3, if_neg c_7, if_neg c_11, if_pos c_15, if_neg c_17]), ht⟩) (fun q hq => absurd hq List.not_mem_nil) dX5_block_84
          · skip
            refine lv_bipush (v := (-6)) hx hb dX5_block_66 (by decide) ?_
            refine lv_goto (tgt := 84) hx hb dX5_block_68 (by decide) ?_
            exact W.iret hx hb hr (fun t ht hW => ⟨_, rfl, (by unfold r_X5_block_1; rw [if_neg c_3, if_neg c_7, if_neg c_11, if_pos c_15, if_pos c_17]), ht⟩) (fun q hq => absurd hq List.not_mem_nil) dX5_block_84
        · skip
          refine byc (P := xw = 4) (fun c_19 => ?_) (fun c_19 => ?_)
          · skip
            refine lv_tableIn (off := 73) (tgt := 85) hx hb dX5_block_12 (by rw [c_19]; decide) (by rw [c_19]; decide) (by rw [c_19]; rfl) (by decide) ?_
            refine lv_aload_n hx hb dX5_block_85 rfl (lv_at hl 0 rfl) ?_
            refine lv_iload_n hx hb dX5_block_86 rfl (lv_at hl 1 rfl) ?_
            refine lv_iload_n hx hb dX5_block_87 rfl (lv_at hl 2 rfl) ?_
            have hPc := hP.sub (ws' := [(oM, .inr (5, [.ref aS, .ref aA, .ref aB, .int (nI kn), .ref aT, .ref aV, .ref aP, .int (nI ln), .int pl, .int wr, .int le, .int on, .int tw])), (aS, .inl (K 0, 360, .inl fS))]) [0, 1] rfl
            refine vp_callSi (va_Run.run (va_runV (As := [.int 1, .int (nI j)]) (rest := []) ⟨hx, hb, hml, hown, hts⟩ (c_X5_isWhole l D K oM aS aA aB aT aV aP fS kn ln pl wr le on tw 1 j (by omega) (by omega)) (cwV 2 hts gX5_block_X5_isWhole rfl rfl rfl (by decide +kernel) ⟨Nat.le_of_ble_eq_true rfl, Nat.le_of_ble_eq_true rfl⟩) (pre_rd hbd hPc (ci := 5) (q0 := 0) rfl rfl) rfl rfl hl.1 rfl (lv_room (Nat.le_of_ble_eq_true rfl)) dX5_block_88 ⟨Nat.zero_le _, Nat.zero_le _⟩)) (fun r_20 hr_20 => ?_)
            subst hr_20
            refine lv_if_eq (tgt := 98) hx hb dX5_block_91 (by decide) (fun c_21 => ?_) (fun c_21 => ?_)
            · skip
              refine lv_iconst (v := 0) hx hb dX5_block_98 (by decide) ?_
              exact W.iret hx hb hr (fun t ht hW => ⟨_, rfl, (by unfold r_X5_block_1; rw [if_neg c_3, if_neg c_7, if_neg c_11, if_neg c_15, if_pos c_19, if_pos c_21]), ht⟩) (fun q hq => absurd hq List.not_mem_nil) dX5_block_99
            · skip
              refine lv_iconst (v := 1) hx hb dX5_block_94 (by decide) ?_
              refine lv_goto (tgt := 99) hx hb dX5_block_95 (by decide) ?_
              exact W.iret hx hb hr (fun t ht hW => ⟨_, rfl, (by unfold r_X5_block_1; rw [if_neg c_3, if_neg c_7, if_neg c_11, if_neg c_15, if_pos c_19, if_neg c_21]), ht⟩) (fun q hq => absurd hq List.not_mem_nil) dX5_block_99
          · skip
            refine byc (P := xw = 5) (fun c_22 => ?_) (fun c_22 => ?_)
            · skip
              refine lv_tableIn (off := 88) (tgt := 100) hx hb dX5_block_12 (by rw [c_22]; decide) (by rw [c_22]; decide) (by rw [c_22]; rfl) (by decide) ?_
              refine lv_aload_n hx hb dX5_block_100 rfl (lv_at hl 0 rfl) ?_
              refine va_get (D := D) (ci := 5) (v := .ref aS) (C := RX5) (T := TX5) (N := 13) hx hb hts hin5 hown hK hP 0 rfl rfl 0 (by decide) (hts _ (List.mem_of_getElem? (i := 1) rfl)) (fun _ h9 => h9) rfl dX5_block_101 ?_
              refine lv_bipush (v := 8) hx hb dX5_block_104 (by decide) ?_
              refine lv_iload_n hx hb dX5_block_106 rfl (lv_at hl 2 rfl) ?_
              refine lv_iadd hx hb dX5_block_107 ?_
              refine st1 (nI_add 8 j) ?_
              refine n_iald hx hb hK hP 1 0 rfl rfl (8 + j) (by omega) (by decide) dX5_block_108 ?_
              refine lv_if_ne (tgt := 117) hx hb dX5_block_109 (by decide) (fun c_23 => ?_) (fun c_23 => ?_)
              · skip
                refine lv_aload_n hx hb dX5_block_117 rfl (lv_at hl 0 rfl) ?_
                refine lv_iload_n hx hb dX5_block_118 rfl (lv_at hl 1 rfl) ?_
                refine lv_iload_n hx hb dX5_block_119 rfl (lv_at hl 2 rfl) ?_
                have hPc := hP.sub (ws' := [(oM, .inr (5, [.ref aS, .ref aA, .ref aB, .int (nI kn), .ref aT, .ref aV, .ref aP, .int (nI ln), .int pl, .int wr, .int le, .int on, .int tw])), (aS, .inl (K 0, 360, .inl fS))]) [0, 1] rfl
                refine vp_callSi (va_Run.run (va_runV (As := [.int 1, .int (nI j)]) (rest := []) ⟨hx, hb, hml, hown, hts⟩ (c_X5_reason l D K oM aS aA aB aT aV aP fS kn ln pl wr le on tw 1 j (by omega) (by omega)) (cwV 2 hts gX5_block_X5_reason rfl rfl rfl (by decide +kernel) ⟨Nat.le_of_ble_eq_true rfl, Nat.le_of_ble_eq_true rfl⟩) (pre_rd hbd hPc (ci := 5) (q0 := 0) rfl rfl) rfl rfl hl.1 rfl (lv_room (Nat.le_of_ble_eq_true rfl)) dX5_block_120 ⟨Nat.zero_le _, Nat.zero_le _⟩)) (fun r_24 hr_24 => ?_)
                subst hr_24
                exact W.iret hx hb hr (fun t ht hW => ⟨_, rfl, (by unfold r_X5_block_1; rw [if_neg c_3, if_neg c_7, if_neg c_11, if_neg c_15, if_neg c_19, if_pos c_22, if_neg c_23]), ht⟩) (fun q hq => absurd hq List.not_mem_nil) dX5_block_123
              · skip
                refine lv_bipush (v := (-6)) hx hb dX5_block_112 (by decide) ?_
                refine lv_goto (tgt := 123) hx hb dX5_block_114 (by decide) ?_
                exact W.iret hx hb hr (fun t ht hW => ⟨_, rfl, (by unfold r_X5_block_1; rw [if_neg c_3, if_neg c_7, if_neg c_11, if_neg c_15, if_neg c_19, if_pos c_22, if_pos c_23]), ht⟩) (fun q hq => absurd hq List.not_mem_nil) dX5_block_123
            · skip
              refine lv_tableOut (tgt := 124) hx hb dX5_block_12 (by have g0 := lv_neT (a := 0) c_3 (by decide); have g1 := lv_neT (a := 1) c_7 (by decide); have g2 := lv_neT (a := 2) c_11 (by decide); have g3 := lv_neT (a := 3) c_15 (by decide); have g4 := lv_neT (a := 4) c_19 (by decide); have g5 := lv_neT (a := 5) c_22 (by decide); omega) (by decide) ?_
              refine lv_bipush (v := (-2)) hx hb dX5_block_124 (by decide) ?_
              exact W.iret hx hb hr (fun t ht hW => ⟨_, rfl, (by unfold r_X5_block_1; rw [if_neg c_3, if_neg c_7, if_neg c_11, if_neg c_15, if_neg c_19, if_neg c_22]), ht⟩) (fun q hq => absurd hq List.not_mem_nil) dX5_block_126
set_option maxHeartbeats 4000000 in
set_option maxRecDepth 100000 in
theorem c_X5_block_1n (l : Launch) (D : va_G) (K : Nat → ClassId) (oM : Nat) (aS : Nat) (aA : Nat) (aB : Nat) (aT : Nat) (aV : Nat) (aP : Nat) (fS : Nat → Int32) (kn : Nat) (ln : Nat) (pl : Int32) (wr : Int32) (le : Int32) (on : Int32) (tw : Int32) (n : Nat) (xp : Int32) (xw : Int32) (hs0 : fS 0 = nI n) (hn1 : 1 ≤ n) (hn : n ≤ 32) (hbad : xp < 0 ∨ nI n ≤ xp) : Met l yX5_block wsX5_block ({ frames := 3, cells := 0, slots := 0, locals := 65 }) (va_Pc [.ref oM, .int 1, .int xp, .int xw] (fun U => Bd D K U ∧ va_P D vwCl [(oM, .inr (5, [.ref aS, .ref aA, .ref aB, .int (nI kn), .ref aT, .ref aV, .ref aP, .int (nI ln), .int pl, .int wr, .int le, .int on, .int tw])), (aS, .inl (K 0, 360, .inl fS))] U.heap)) (vp_Si (fun r => r = (-1))) 0 0 (fun _ => False) := by
  refine Met.ofW (cc := cX5_block) (maxL := 4) (ret := (some .int)) (by decide) rfl ?_
  intro p e s m args below meth c s₁ B hml hv
  obtain ⟨rfl, hbd, hP⟩ := hv
  have hx := B.exec
  have hb := B.bytes
  have hr := B.returns
  have hts := atoms_spec (ws := wsX5_block) B.pre
  have hown : s.vm.findClass RX5 = some m.cls := findClass_of_methodNamed B.named
  have hlocks := B.notSynchronized
  have hK := hbd.2
  have hP : va_P D vwCl [(oM, .inr (5, [.ref aS, .ref aA, .ref aB, .int (nI kn), .ref aT, .ref aV, .ref aP, .int (nI ln), .int pl, .int wr, .int le, .int on, .int tw])), (aS, .inl (K 0, 360, .inl fS))] s.heap := hP
  have hl := lv_entry ([.ref oM, .int 1, .int xp, .int xw]) (n := 4) (Nat.le_of_ble_eq_true rfl)
  rw [lg_entry_eq]
  generalize (lg_sl ([.ref oM, .int 1, .int xp, .int xw]) ++ List.replicate (4 - (lg_sl ([.ref oM, .int 1, .int xp, .int xw])).length) Slot.unset).toArray = ls at hl ⊢
  have hl : lv_has ls 4 [(0, .ref oM), (1, .int 1), (2, .int xp), (3, .int xw)] := hl
  refine lv_aload_n hx hb dX5_block_0 rfl (lv_at hl 0 rfl) ?_
  refine lv_iload_n hx hb dX5_block_1 rfl (lv_at hl 1 rfl) ?_
  refine lv_iload_n hx hb dX5_block_2 rfl (lv_at hl 2 rfl) ?_
  have hPc := hP.sub (ws' := [(oM, .inr (5, [.ref aS, .ref aA, .ref aB, .int (nI kn), .ref aT, .ref aV, .ref aP, .int (nI ln), .int pl, .int wr, .int le, .int on, .int tw])), (aS, .inl (K 0, 360, .inl fS))]) [0, 1] rfl
  refine vp_callSi (va_Run.run (va_runV (As := [.int 1, .int xp]) (rest := []) ⟨hx, hb, hml, hown, hts⟩ (c_X5_wipeFault_1n l D K oM aS aA aB aT aV aP fS kn ln pl wr le on tw n xp hs0 hn1 hn hbad) (cwV 2 hts gX5_block_X5_wipeFault rfl rfl rfl (by decide +kernel) ⟨Nat.le_of_ble_eq_true rfl, Nat.le_of_ble_eq_true rfl⟩) (pre_rd hbd hPc (ci := 5) (q0 := 0) rfl rfl) rfl rfl hl.1 rfl (lv_room (Nat.le_of_ble_eq_true rfl)) dX5_block_3 ⟨Nat.zero_le _, Nat.zero_le _⟩)) (fun r_1 hr_1 => ?_)
  subst hr_1
  refine lv_if_ge (tgt := 11) hx hb dX5_block_6 (by decide) (fun h_2 => absurd h_2 (by decide)) (fun _ => ?_)
  refine lv_iconst (v := (-1)) hx hb dX5_block_9 (by decide) ?_
  exact W.iret hx hb hr (fun t ht hW => ⟨_, rfl, rfl, ht⟩) (fun q hq => absurd hq List.not_mem_nil) dX5_block_10
set_option maxHeartbeats 4000000 in
set_option maxRecDepth 100000 in
theorem c_X5_block_no (l : Launch) (D : va_G) (K : Nat → ClassId) (oM : Nat) (aS : Nat) (aA : Nat) (aB : Nat) (aT : Nat) (aV : Nat) (aP : Nat) (fS : Nat → Int32) (kn : Nat) (ln : Nat) (pl : Int32) (wr : Int32) (le : Int32) (on : Int32) (tw : Int32) (xs : Int32) (xp : Int32) (xw : Int32) (hs : xs < 0 ∨ 1 < xs) : Met l yX5_block wsX5_block ({ frames := 2, cells := 0, slots := 0, locals := 44 }) (va_Pc [.ref oM, .int xs, .int xp, .int xw] (fun U => Bd D K U ∧ va_P D vwCl [(oM, .inr (5, [.ref aS, .ref aA, .ref aB, .int (nI kn), .ref aT, .ref aV, .ref aP, .int (nI ln), .int pl, .int wr, .int le, .int on, .int tw])), (aS, .inl (K 0, 360, .inl fS))] U.heap)) (vp_Si (fun r => r = (-1))) 0 0 (fun _ => False) := by
  refine Met.ofW (cc := cX5_block) (maxL := 4) (ret := (some .int)) (by decide) rfl ?_
  intro p e s m args below meth c s₁ B hml hv
  obtain ⟨rfl, hbd, hP⟩ := hv
  have hx := B.exec
  have hb := B.bytes
  have hr := B.returns
  have hts := atoms_spec (ws := wsX5_block) B.pre
  have hown : s.vm.findClass RX5 = some m.cls := findClass_of_methodNamed B.named
  have hlocks := B.notSynchronized
  have hK := hbd.2
  have hP : va_P D vwCl [(oM, .inr (5, [.ref aS, .ref aA, .ref aB, .int (nI kn), .ref aT, .ref aV, .ref aP, .int (nI ln), .int pl, .int wr, .int le, .int on, .int tw])), (aS, .inl (K 0, 360, .inl fS))] s.heap := hP
  have hl := lv_entry ([.ref oM, .int xs, .int xp, .int xw]) (n := 4) (Nat.le_of_ble_eq_true rfl)
  rw [lg_entry_eq]
  generalize (lg_sl ([.ref oM, .int xs, .int xp, .int xw]) ++ List.replicate (4 - (lg_sl ([.ref oM, .int xs, .int xp, .int xw])).length) Slot.unset).toArray = ls at hl ⊢
  have hl : lv_has ls 4 [(0, .ref oM), (1, .int xs), (2, .int xp), (3, .int xw)] := hl
  refine lv_aload_n hx hb dX5_block_0 rfl (lv_at hl 0 rfl) ?_
  refine lv_iload_n hx hb dX5_block_1 rfl (lv_at hl 1 rfl) ?_
  refine lv_iload_n hx hb dX5_block_2 rfl (lv_at hl 2 rfl) ?_
  have hPc := hP.sub (ws' := [(oM, .inr (5, [.ref aS, .ref aA, .ref aB, .int (nI kn), .ref aT, .ref aV, .ref aP, .int (nI ln), .int pl, .int wr, .int le, .int on, .int tw])), (aS, .inl (K 0, 360, .inl fS))]) [0, 1] rfl
  refine vp_callSi (va_Run.run (va_runV (As := [.int xs, .int xp]) (rest := []) ⟨hx, hb, hml, hown, hts⟩ (c_X5_wipeFault_no l D K oM aS aA aB aT aV aP fS kn ln pl wr le on tw xs xp hs) (cwV 2 hts gX5_block_X5_wipeFault rfl rfl rfl (by decide +kernel) ⟨Nat.le_of_ble_eq_true rfl, Nat.le_of_ble_eq_true rfl⟩) (pre_rd hbd hPc (ci := 5) (q0 := 0) rfl rfl) rfl rfl hl.1 rfl (lv_room (Nat.le_of_ble_eq_true rfl)) dX5_block_3 ⟨Nat.zero_le _, Nat.zero_le _⟩)) (fun r_1 hr_1 => ?_)
  subst hr_1
  refine lv_if_ge (tgt := 11) hx hb dX5_block_6 (by decide) (fun h_2 => absurd h_2 (by decide)) (fun _ => ?_)
  refine lv_iconst (v := (-1)) hx hb dX5_block_9 (by decide) ?_
  exact W.iret hx hb hr (fun t ht hW => ⟨_, rfl, rfl, ht⟩) (fun q hq => absurd hq List.not_mem_nil) dX5_block_10
def pn (x : Int32) : Nat := x.toNatClampNeg
theorem pn_eq {x : Int32} (h : ¬ x < 0) : x = nI (pn x) := by
  obtain ⟨j, hj, rfl⟩ := nI_of h
  unfold pn
  rw [nI_clamp hj]
theorem pn_le {x : Int32} {k : Nat} (hk : k < 2 ^ 31) (h : ¬ x < 0) (h2 : ¬ nI k < x) : pn x ≤ k := by
  obtain ⟨j, hj, rfl⟩ := nI_of h
  unfold pn
  rw [nI_clamp hj]
  exact Nat.le_of_not_lt (fun q => h2 (nI_lt q hj))
theorem in_of {x a b : Int32} (h : ¬ r_X5_in x a b = 0) : ¬ x < a ∧ ¬ b < x := by
  unfold r_X5_in at h
  refine ⟨fun q => h (if_pos q), fun q => h ?_⟩
  by_cases c : x < a
  · exact if_pos c
  · rw [if_neg c, if_pos q]
def r_X5_count (fS : Nat → Int32) (kn : Nat) (ln : Nat) (xw : Int32) : Int32 := (if xw = 8 then (nI ln) else (if xw = 9 then (nI kn) else (if (r_X5_in xw 0 7) = 0 then (-2) else (fS (pn xw)))))
set_option maxHeartbeats 4000000 in
set_option maxRecDepth 100000 in
theorem c_X5_count (l : Launch) (D : va_G) (K : Nat → ClassId) (oM : Nat) (aS : Nat) (aA : Nat) (aB : Nat) (aT : Nat) (aV : Nat) (aP : Nat) (fS : Nat → Int32) (kn : Nat) (ln : Nat) (pl : Int32) (wr : Int32) (le : Int32) (on : Int32) (tw : Int32) (xw : Int32)  : Met l yX5_count wsX5_count ({ frames := 1, cells := 0, slots := 0, locals := 22 }) (va_Pc [.ref oM, .int xw] (fun U => Bd D K U ∧ va_P D vwCl [(oM, .inr (5, [.ref aS, .ref aA, .ref aB, .int (nI kn), .ref aT, .ref aV, .ref aP, .int (nI ln), .int pl, .int wr, .int le, .int on, .int tw])), (aS, .inl (K 0, 360, .inl fS))] U.heap)) (vp_Si (fun r => r = (r_X5_count fS kn ln xw))) 0 0 (fun _ => False) := by
  refine Met.ofW (cc := cX5_count) (maxL := 2) (ret := (some .int)) (by decide) rfl ?_
  intro p e s m args below meth c s₁ B hml hv
  obtain ⟨rfl, hbd, hP⟩ := hv
  have hx := B.exec
  have hb := B.bytes
  have hr := B.returns
  have hts := atoms_spec (ws := wsX5_count) B.pre
  have hown : s.vm.findClass RX5 = some m.cls := findClass_of_methodNamed B.named
  have hlocks := B.notSynchronized
  have hK := hbd.2
  have hP : va_P D vwCl [(oM, .inr (5, [.ref aS, .ref aA, .ref aB, .int (nI kn), .ref aT, .ref aV, .ref aP, .int (nI ln), .int pl, .int wr, .int le, .int on, .int tw])), (aS, .inl (K 0, 360, .inl fS))] s.heap := hP
  have hin5 : ∀ w ∈ wsX50, w ∈ wsX5_count := by decide +kernel
  have hl := lv_entry ([.ref oM, .int xw]) (n := 2) (Nat.le_of_ble_eq_true rfl)
  rw [lg_entry_eq]
  generalize (lg_sl ([.ref oM, .int xw]) ++ List.replicate (2 - (lg_sl ([.ref oM, .int xw])).length) Slot.unset).toArray = ls at hl ⊢
  have hl : lv_has ls 2 [(0, .ref oM), (1, .int xw)] := hl
  refine lv_iload_n hx hb dX5_count_0 rfl (lv_at hl 1 rfl) ?_
  refine lv_bipush (v := 8) hx hb dX5_count_1 (by decide) ?_
  refine lv_icmp_ne (tgt := 13) hx hb dX5_count_3 (by decide) (fun c_1 => ?_) (fun c_1 => ?_)
  · skip
    refine lv_iload_n hx hb dX5_count_13 rfl (lv_at hl 1 rfl) ?_
    refine lv_bipush (v := 9) hx hb dX5_count_14 (by decide) ?_
    refine lv_icmp_ne (tgt := 26) hx hb dX5_count_16 (by decide) (fun c_2 => ?_) (fun c_2 => ?_)
    · skip
      refine lv_iload_n hx hb dX5_count_26 rfl (lv_at hl 1 rfl) ?_
      refine lv_iconst (v := 0) hx hb dX5_count_27 (by decide) ?_
      refine lv_bipush (v := 7) hx hb dX5_count_28 (by decide) ?_
      refine vp_callSi (va_Run.run (va_runS (As := [.int xw, .int 0, .int 7]) (rest := []) ⟨hx, hb, hml, hown, hts⟩ (c_X5_in l D K xw 0 7 ) (va_cwS 3 hts gX5_count_X5_in rfl rfl rfl (by decide +kernel) ⟨Nat.le_of_ble_eq_true rfl, Nat.le_of_ble_eq_true rfl⟩) pre_s0 rfl rfl hl.1 rfl (lv_room (Nat.le_of_ble_eq_true rfl)) dX5_count_30 ⟨Nat.zero_le _, Nat.zero_le _⟩)) (fun r_3 hr_3 => ?_)
      subst hr_3
      refine lv_if_eq (tgt := 45) hx hb dX5_count_33 (by decide) (fun c_4 => ?_) (fun c_4 => ?_)
      · skip
        refine lv_bipush (v := (-2)) hx hb dX5_count_45 (by decide) ?_
        exact W.iret hx hb hr (fun t ht hW => ⟨_, rfl, (by unfold r_X5_count; rw [if_neg c_1, if_neg c_2, if_pos c_4]), ht⟩) (fun q hq => absurd hq List.not_mem_nil) dX5_count_47
      · skip
        refine lv_aload_n hx hb dX5_count_36 rfl (lv_at hl 0 rfl) ?_
        refine va_get (D := D) (ci := 5) (v := .ref aS) (C := RX5) (T := TX5) (N := 13) hx hb hts hin5 hown hK hP 0 rfl rfl 0 (by decide) (hts _ (List.mem_of_getElem? (i := 3) rfl)) (fun _ h9 => h9) rfl dX5_count_37 ?_
        refine lv_iload_n hx hb dX5_count_40 rfl (lv_at hl 1 rfl) ?_
        refine st1 (pn_eq (in_of c_4).1) ?_
        refine n_iald hx hb hK hP 1 0 rfl rfl (pn xw) (Nat.lt_of_le_of_lt (pn_le (k := 7) (by decide) (in_of c_4).1 (in_of c_4).2) (by decide)) (by decide) dX5_count_41 ?_
        refine lv_goto (tgt := 47) hx hb dX5_count_42 (by decide) ?_
        exact W.iret hx hb hr (fun t ht hW => ⟨_, rfl, (by unfold r_X5_count; rw [if_neg c_1, if_neg c_2, if_neg c_4]), ht⟩) (fun q hq => absurd hq List.not_mem_nil) dX5_count_47
    · skip
      refine lv_aload_n hx hb dX5_count_19 rfl (lv_at hl 0 rfl) ?_
      refine va_get (D := D) (ci := 5) (v := .int (nI kn)) (C := RX5) (T := TX5) (N := 13) hx hb hts hin5 hown hK hP 0 rfl rfl 3 (by decide) (hts _ (List.mem_of_getElem? (i := 2) rfl)) (fun _ h9 => h9) rfl dX5_count_20 ?_
      refine lv_goto (tgt := 47) hx hb dX5_count_23 (by decide) ?_
      exact W.iret hx hb hr (fun t ht hW => ⟨_, rfl, (by unfold r_X5_count; rw [if_neg c_1, if_pos c_2]), ht⟩) (fun q hq => absurd hq List.not_mem_nil) dX5_count_47
  · skip
    refine lv_aload_n hx hb dX5_count_6 rfl (lv_at hl 0 rfl) ?_
    refine va_get (D := D) (ci := 5) (v := .int (nI ln)) (C := RX5) (T := TX5) (N := 13) hx hb hts hin5 hown hK hP 0 rfl rfl 7 (by decide) (hts _ (List.mem_of_getElem? (i := 1) rfl)) (fun _ h9 => h9) rfl dX5_count_7 ?_
    refine lv_goto (tgt := 47) hx hb dX5_count_10 (by decide) ?_
    exact W.iret hx hb hr (fun t ht hW => ⟨_, rfl, (by unfold r_X5_count; rw [if_pos c_1]), ht⟩) (fun q hq => absurd hq List.not_mem_nil) dX5_count_47
