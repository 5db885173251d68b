theorem Met_room {l : Launch} {y : MethodName} {ws : List Cond} {rm rm2 : Room} {Pc : Array Value → State → Prop} {Qc : Array Value → State → Outcome → State → Prop} {mc ms : Nat} {free : Addr → Prop} (h : Met l y ws rm Pc Qc mc ms free) (h1 : rm.frames ≤ rm2.frames) (h2 : rm.cells ≤ rm2.cells) (h3 : rm.slots ≤ rm2.slots) (h4 : rm.locals ≤ rm2.locals) : Met l y ws rm2 Pc Qc mc ms free := by
  intro p e ha hc hk s m args below hfr happ hP hK
  refine h p e ha hc hk s m args below hfr ?_ hP hK
  rw [Spec.appliesLoose_iff hfr] at happ ⊢
  obtain ⟨a1, a2, a3, a4, a5, a6, a7, a8⟩ := happ
  refine ⟨a1, a2, a3, a4, a5, a6, ?_, a8⟩
  have a7' : s.hasRoom e.platform rm2 = true := a7
  show s.hasRoom e.platform rm = true
  unfold State.hasRoom at a7' ⊢
  simp only [Bool.and_eq_true, decide_eq_true_eq] at a7' ⊢
  obtain ⟨⟨⟨⟨b1, b2, b3, b4, b5, b6⟩, b7⟩, b8⟩, b9⟩ := a7'
  exact ⟨⟨⟨⟨by omega, by omega, by omega, by omega, by omega, b6⟩, by omega⟩, by omega⟩, b9⟩
theorem pn_lt {n : Nat} {x : Int32} (hn : n ≤ 32) (h : ¬ (x < 0 ∨ (nI n) ≤ x)) : pn x < n := by
  obtain ⟨j, hj, rfl⟩ := nI_of (fun q => h (Or.inl q))
  unfold pn
  rw [nI_clamp hj]
  rcases Nat.lt_or_ge j n with c | c
  · exact c
  · exact absurd (Or.inr (nI_le c hj)) h
theorem pn_e2 {n : Nat} {x : Int32} (h : ¬ (x < 0 ∨ (nI n) ≤ x)) : x = nI (pn x) := pn_eq (fun q => h (Or.inl q))
def r_X4_carryOutOrder (n : Nat) (d : Nat → Nat → Int32) (xv : Int32) (xf : Int32) (xs : Int32) : Int32 := (if xv = 33 then (if xf = 0 then (r_X0_expect_0 (d 9 1) xs) else (r_X0_expect_1 (d 9 2) xs)) else (if xv = 114 then (if xs < 0 ∨ (nI n) ≤ xs then (-1) else (r_X0_fetch_in (d 0) (d 1) (d 2) (d 3) (d 4) (d 5) (d 6) (d 7) (d 8) (pn xs))) else (if xv = 119 then (if xf < 0 ∨ (nI n) ≤ xf then (-1) else (r_X0_store_in (d 0) (pn xf) xs)) else (if xv = 120 then (if xf = 0 then (if xs < 0 ∨ (nI n) ≤ xs then (-1) else (r_X3_take (d 2) (pn xs))) else (if xs < 0 ∨ (nI n) ≤ xs then (-1) else (r_X3_take (d 6) (pn xs)))) else (((repN d n) 9 7) - (d 9 7))))))
def n_X4_carryOutOrder_1_d (n : Nat) (d : Nat → Nat → Int32) (xv : Int32) (xf : Int32) (xs : Int32) : Nat → Nat → Int32 := (if xv = 33 then (if xf = 0 then (D_X0_expect_0 n d xs) else (D_X0_expect_1 n d xs)) else (if xv = 114 then (if xs < 0 ∨ (nI n) ≤ xs then d else (D_X0_fetch_in n d (pn xs))) else (if xv = 119 then (if xf < 0 ∨ (nI n) ≤ xf then d else (D_X0_store_in n d (pn xf) xs)) else (if xv = 120 then (if xf = 0 then (if xs < 0 ∨ (nI n) ≤ xs then d else (D_X0_empty_0 n d (pn xs))) else (if xs < 0 ∨ (nI n) ≤ xs then d else (D_X0_empty_1 n d (pn xs)))) else (repN d n)))))
set_option maxHeartbeats 4000000 in
set_option maxRecDepth 100000 in
theorem c_X4_carryOutOrder (l : Launch) (D : va_G) (K : Nat → ClassId) (oX : Nat) (an : Nat → Nat) (at_ : Nat → Nat) (a0 : Nat → Nat) (a1 : Nat → Nat) (z0 : Int32) (z1 : Int32) (oh : Nat) (oP : Nat) (n : Nat) (d : Nat → Nat → Int32) (xv : Int32) (xf : Int32) (xs : Int32) (hn1 : 1 ≤ n) (hn : n ≤ 32) (ho : xv = 33 ∨ xv = 120 → xf = 0 ∨ xf = 1) : Met l yX4_carryOutOrder wsX4_carryOutOrder ({ frames := 5, cells := 0, slots := 0, locals := 110 }) (va_Pc [.ref oX, .int xv, .int xf, .int xs] (fun U => Bd D K U ∧ va_P D vwCl ([(oX, .inr (4, [.ref (an 0), .ref (at_ 0), .ref (a0 0), .ref (a1 0), .int z0, .int z1, .ref oh, .ref oP]))] ++ (drW K an n d ++ [])) U.heap ∧ va_D (fun _ => True) ([(oX, .inr (4, [.ref (an 0), .ref (at_ 0), .ref (a0 0), .ref (a1 0), .int z0, .int z1, .ref oh, .ref oP]))] ++ (drW K an n d ++ [])))) (va_Qi (fun r (_ : Unit) => r = (r_X4_carryOutOrder n d xv xf xs)) (fun _ t => va_P D vwCl ([(oX, .inr (4, [.ref (an 0), .ref (at_ 0), .ref (a0 0), .ref (a1 0), .int z0, .int z1, .ref oh, .ref oP]))] ++ (drW K an n (n_X4_carryOutOrder_1_d n d xv xf xs) ++ [])) t.heap) (inW ([(oX, .inr (4, [.ref (an 0), .ref (at_ 0), .ref (a0 0), .ref (a1 0), .int z0, .int z1, .ref oh, .ref oP]))] ++ (drW K an n d ++ [])))) 0 0 (inW ([(oX, .inr (4, [.ref (an 0), .ref (at_ 0), .ref (a0 0), .ref (a1 0), .int z0, .int z1, .ref oh, .ref oP]))] ++ (drW K an n d ++ []))) := by
  refine Met.ofW (cc := cX4_carryOutOrder) (maxL := 4) (ret := (some .int)) (by decide) rfl ?_
  intro p e s m args below meth c s₁ B hml hv
  obtain ⟨rfl, hbd, hP, hD0⟩ := hv
  have hx := B.exec
  have hb := B.bytes
  have hr := B.returns
  have hts := atoms_spec (ws := wsX4_carryOutOrder) B.pre
  have hown : s.vm.findClass RX4 = some m.cls := findClass_of_methodNamed B.named
  have hlocks := B.notSynchronized
  have hK := hbd.2
  have hP : va_P D vwCl ([(oX, .inr (4, [.ref (an 0), .ref (at_ 0), .ref (a0 0), .ref (a1 0), .int z0, .int z1, .ref oh, .ref oP]))] ++ (drW K an n d ++ [])) s.heap := hP
  have hin4 : ∀ w ∈ wsX40, w ∈ wsX4_carryOutOrder := by decide +kernel
  have hD := hD0.own
  generalize hAe : inW ([(oX, .inr (4, [.ref (an 0), .ref (at_ 0), .ref (a0 0), .ref (a1 0), .int z0, .int z1, .ref oh, .ref oP]))] ++ (drW K an n d ++ [])) = A at hD ⊢
  have hS : va_S A s.heap s.heap [] := va_S.rf
  have hl := lv_entry ([.ref oX, .int xv, .int xf, .int xs]) (n := 4) (Nat.le_of_ble_eq_true rfl)
  rw [lg_entry_eq]
  generalize (lg_sl ([.ref oX, .int xv, .int xf, .int xs]) ++ List.replicate (4 - (lg_sl ([.ref oX, .int xv, .int xf, .int xs])).length) Slot.unset).toArray = ls at hl ⊢
  have hl : lv_has ls 4 [(0, .ref oX), (1, .int xv), (2, .int xf), (3, .int xs)] := hl
  have K0 : ∀ (H : Heap) (locs : List Loc) (ls : Array Slot), va_P D vwCl ([(oX, .inr (4, [.ref (an 0), .ref (at_ 0), .ref (a0 0), .ref (a1 0), .int z0, .int z1, .ref oh, .ref oP]))] ++ (drW K an n d ++ [])) H → va_D A ([(oX, .inr (4, [.ref (an 0), .ref (at_ 0), .ref (a0 0), .ref (a1 0), .int z0, .int z1, .ref oh, .ref oP]))] ++ (drW K an n d ++ [])) → va_S A s.heap H locs → lv_has ls 4 [(0, .ref oX), (1, .int xv), (2, .int xf), (3, .int xs)] → W p l e (headSpec wsX4_carryOutOrder ({ frames := 5, cells := 0, slots := 0, locals := 110 })).room s m ([.ref oX, .int xv, .int xf, .int xs] : List Value).toArray below meth c H locs 0 0 (MQ below (va_Qi (fun r (_ : Unit) => r = (r_X4_carryOutOrder n d xv xf xs)) (fun _ t => va_P D vwCl ([(oX, .inr (4, [.ref (an 0), .ref (at_ 0), .ref (a0 0), .ref (a1 0), .int z0, .int z1, .ref oh, .ref oP]))] ++ (drW K an n (n_X4_carryOutOrder_1_d n d xv xf xs) ++ [])) t.heap) A) ([.ref oX, .int xv, .int xf, .int xs] : List Value).toArray s 0 0 A) (F0 m 0 ls []) := by
    intro H locs ls hP hD hS hl
    refine lv_iload_n hx hb dX4_carryOutOrder_0 rfl (lv_at hl 1 rfl) ?_
    refine byc (P := xv = 33) (fun c_1 => ?_) (fun c_1 => ?_)
    · skip
      refine lv_lookup (off := 62) (tgt := 63) hx hb dX4_carryOutOrder_1 (by decide) (by rw [c_1]; decide) (by decide) ?_
      refine lv_aload_n hx hb dX4_carryOutOrder_63 rfl (lv_at hl 0 rfl) ?_
      refine va_get (D := D) (ci := 4) (v := .ref (an 0)) (C := RX4) (T := TX4) (N := 8) hx hb hts hin4 hown hK hP 0 rfl rfl 0 (by decide) (hts _ (List.mem_of_getElem? (i := 1) rfl)) (fun _ h9 => h9) rfl dX4_carryOutOrder_64 ?_
      refine lv_iload_n hx hb dX4_carryOutOrder_67 rfl (lv_at hl 2 rfl) ?_
      refine lv_iload_n hx hb dX4_carryOutOrder_68 rfl (lv_at hl 3 rfl) ?_
      refine byc (P := xf = 0) (fun c_2 => ?_) (fun c_2 => ?_)
      · refine st2 (y := 0) c_2 ?_
        have hPc := hP.sub (ws' := (drW K an n d ++ [])) [1, 2, 3, 4, 5, 6, 7, 8, 9, 10, 11, 12] rfl
        have hDc : va_D (fun _ => True) (drW K an n d ++ []) := (hD.sub (ws' := (drW K an n d ++ [])) [1, 2, 3, 4, 5, 6, 7, 8, 9, 10, 11, 12] (by decide +kernel) rfl).weaken (fun _ _ _ _ => trivial)
        refine kw_i (W1 := ([(oX, .inr (4, [.ref (an 0), .ref (at_ 0), .ref (a0 0), .ref (a1 0), .int z0, .int z1, .ref oh, .ref oP]))] ++ (drW K an n (D_X0_expect_0 n d xs) ++ []))) (w1 := (drW K an n (D_X0_expect_0 n d xs) ++ [])) (va_runVN (As := [.int 0, .int xs]) (rest := []) ⟨hx, hb, hml, hown, hts⟩ (cb_X0_expect_0 l D K an n d xs ) ⟨va_cnB 2 hts gX4_carryOutOrder_X0_expect_n54 rfl rfl rfl (hbd.1.nw 14 rfl) (hts _ (List.mem_of_getElem? (i := 3) rfl)) (by decide +kernel) ⟨Nat.le_of_ble_eq_true rfl, Nat.le_of_ble_eq_true rfl⟩, (hts _ (List.mem_of_getElem? (i := 59) rfl)), (hts _ (List.mem_of_getElem? (i := 60) rfl))⟩ (pre_wr hbd hPc hDc (ci := 0) (q0 := 0) rfl rfl) rfl rfl hl.1 rfl (lv_room (Nat.le_of_ble_eq_true rfl)) dX4_carryOutOrder_69 ⟨Nat.zero_le _, Nat.zero_le _⟩) hP hD hS [1, 2, 3, 4, 5, 6, 7, 8, 9, 10, 11, 12] [0] 13 rfl rfl rfl (Eq.trans (b := List.map some ([(oX, .inr (4, [.ref (an 0), .ref (at_ 0), .ref (a0 0), .ref (a1 0), .int z0, .int z1, .ref oh, .ref oP]))])) rfl rfl) (by decide +kernel) (by decide +kernel) (by simp only [List.map_append, drW_fst, List.map_cons, List.map_nil]) (fun r_3 H locs hr_3 hP hD hS => ?_)
        refine st1 hr_3 ?_
        have e_4 : n_X4_carryOutOrder_1_d n d xv xf xs = (D_X0_expect_0 n d xs) := by unfold n_X4_carryOutOrder_1_d; rw [if_pos c_1, if_pos c_2]
        have hPf : va_P D vwCl ([(oX, .inr (4, [.ref (an 0), .ref (at_ 0), .ref (a0 0), .ref (a1 0), .int z0, .int z1, .ref oh, .ref oP]))] ++ (drW K an n (n_X4_carryOutOrder_1_d n d xv xf xs) ++ [])) H := (by rw [e_4]; exact hP)
        exact W.iret hx hb hr (fun t ht hW => ⟨⟨_, (), rfl, (by unfold r_X4_carryOutOrder; rw [if_pos c_1, if_pos c_2]), by show va_P D vwCl _ t.heap; rw [ht]; exact hPf⟩, hS.F ht⟩) hS.2.2 dX4_carryOutOrder_72
      · refine st2 (y := 1) ((ho (Or.inl c_1)).resolve_left c_2) ?_
        have hPc := hP.sub (ws' := (drW K an n d ++ [])) [1, 2, 3, 4, 5, 6, 7, 8, 9, 10, 11, 12] rfl
        have hDc : va_D (fun _ => True) (drW K an n d ++ []) := (hD.sub (ws' := (drW K an n d ++ [])) [1, 2, 3, 4, 5, 6, 7, 8, 9, 10, 11, 12] (by decide +kernel) rfl).weaken (fun _ _ _ _ => trivial)
        refine kw_i (W1 := ([(oX, .inr (4, [.ref (an 0), .ref (at_ 0), .ref (a0 0), .ref (a1 0), .int z0, .int z1, .ref oh, .ref oP]))] ++ (drW K an n (D_X0_expect_1 n d xs) ++ []))) (w1 := (drW K an n (D_X0_expect_1 n d xs) ++ [])) (va_runVN (As := [.int 1, .int xs]) (rest := []) ⟨hx, hb, hml, hown, hts⟩ (cb_X0_expect_1 l D K an n d xs ) ⟨va_cnB 2 hts gX4_carryOutOrder_X0_expect_n54 rfl rfl rfl (hbd.1.nw 14 rfl) (hts _ (List.mem_of_getElem? (i := 3) rfl)) (by decide +kernel) ⟨Nat.le_of_ble_eq_true rfl, Nat.le_of_ble_eq_true rfl⟩, (hts _ (List.mem_of_getElem? (i := 59) rfl)), (hts _ (List.mem_of_getElem? (i := 60) rfl))⟩ (pre_wr hbd hPc hDc (ci := 0) (q0 := 0) rfl rfl) rfl rfl hl.1 rfl (lv_room (Nat.le_of_ble_eq_true rfl)) dX4_carryOutOrder_69 ⟨Nat.zero_le _, Nat.zero_le _⟩) hP hD hS [1, 2, 3, 4, 5, 6, 7, 8, 9, 10, 11, 12] [0] 13 rfl rfl rfl (Eq.trans (b := List.map some ([(oX, .inr (4, [.ref (an 0), .ref (at_ 0), .ref (a0 0), .ref (a1 0), .int z0, .int z1, .ref oh, .ref oP]))])) rfl rfl) (by decide +kernel) (by decide +kernel) (by simp only [List.map_append, drW_fst, List.map_cons, List.map_nil]) (fun r_5 H locs hr_5 hP hD hS => ?_)
        refine st1 hr_5 ?_
        have e_6 : n_X4_carryOutOrder_1_d n d xv xf xs = (D_X0_expect_1 n d xs) := by unfold n_X4_carryOutOrder_1_d; rw [if_pos c_1, if_neg c_2]
        have hPf : va_P D vwCl ([(oX, .inr (4, [.ref (an 0), .ref (at_ 0), .ref (a0 0), .ref (a1 0), .int z0, .int z1, .ref oh, .ref oP]))] ++ (drW K an n (n_X4_carryOutOrder_1_d n d xv xf xs) ++ [])) H := (by rw [e_6]; exact hP)
        exact W.iret hx hb hr (fun t ht hW => ⟨⟨_, (), rfl, (by unfold r_X4_carryOutOrder; rw [if_pos c_1, if_neg c_2]), by show va_P D vwCl _ t.heap; rw [ht]; exact hPf⟩, hS.F ht⟩) hS.2.2 dX4_carryOutOrder_72
    · skip
      refine byc (P := xv = 114) (fun c_7 => ?_) (fun c_7 => ?_)
      · skip
        refine lv_lookup (off := 53) (tgt := 54) hx hb dX4_carryOutOrder_1 (by decide) (by rw [c_7]; decide) (by decide) ?_
        refine lv_aload_n hx hb dX4_carryOutOrder_54 rfl (lv_at hl 0 rfl) ?_
        refine va_get (D := D) (ci := 4) (v := .ref (an 0)) (C := RX4) (T := TX4) (N := 8) hx hb hts hin4 hown hK hP 0 rfl rfl 0 (by decide) (hts _ (List.mem_of_getElem? (i := 1) rfl)) (fun _ h9 => h9) rfl dX4_carryOutOrder_55 ?_
        refine lv_iload_n hx hb dX4_carryOutOrder_58 rfl (lv_at hl 3 rfl) ?_
        refine byc (P := xs < 0 ∨ (nI n) ≤ xs) (fun c_8 => ?_) (fun c_8 => ?_)
        · skip
          have hPc := hP.sub (ws' := (drW K an n d ++ [])) [1, 2, 3, 4, 5, 6, 7, 8, 9, 10, 11, 12] rfl
          have hDc : va_D (fun _ => True) (drW K an n d ++ []) := (hD.sub (ws' := (drW K an n d ++ [])) [1, 2, 3, 4, 5, 6, 7, 8, 9, 10, 11, 12] (by decide +kernel) rfl).weaken (fun _ _ _ _ => trivial)
          refine kw_i (W1 := ([(oX, .inr (4, [.ref (an 0), .ref (at_ 0), .ref (a0 0), .ref (a1 0), .int z0, .int z1, .ref oh, .ref oP]))] ++ (drW K an n d ++ []))) (w1 := (drW K an n d ++ [])) (va_runVN (As := [.int xs]) (rest := []) ⟨hx, hb, hml, hown, hts⟩ (cb_X0_fetch_no l D K an n d xs c_8) ⟨va_cnB 1 hts gX4_carryOutOrder_X0_fetch_n60 rfl rfl rfl (hbd.1.nw 18 rfl) (hts _ (List.mem_of_getElem? (i := 3) rfl)) (by decide +kernel) ⟨Nat.le_of_ble_eq_true rfl, Nat.le_of_ble_eq_true rfl⟩, (hts _ (List.mem_of_getElem? (i := 31) rfl)), (hts _ (List.mem_of_getElem? (i := 32) rfl))⟩ (pre_wr hbd hPc hDc (ci := 0) (q0 := 0) rfl rfl) rfl rfl hl.1 rfl (lv_room (Nat.le_of_ble_eq_true rfl)) dX4_carryOutOrder_59 ⟨Nat.zero_le _, Nat.zero_le _⟩) hP hD hS [1, 2, 3, 4, 5, 6, 7, 8, 9, 10, 11, 12] [0] 13 rfl rfl rfl (Eq.trans (b := List.map some ([(oX, .inr (4, [.ref (an 0), .ref (at_ 0), .ref (a0 0), .ref (a1 0), .int z0, .int z1, .ref oh, .ref oP]))])) rfl rfl) (by decide +kernel) (by decide +kernel) (by simp only [List.map_append, drW_fst, List.map_cons, List.map_nil]) (fun r_9 H locs hr_9 hP hD hS => ?_)
          refine st1 hr_9 ?_
          have e_10 : n_X4_carryOutOrder_1_d n d xv xf xs = d := by unfold n_X4_carryOutOrder_1_d; rw [if_neg c_1, if_pos c_7, if_pos c_8]
          have hPf : va_P D vwCl ([(oX, .inr (4, [.ref (an 0), .ref (at_ 0), .ref (a0 0), .ref (a1 0), .int z0, .int z1, .ref oh, .ref oP]))] ++ (drW K an n (n_X4_carryOutOrder_1_d n d xv xf xs) ++ [])) H := (by rw [e_10]; exact hP)
          exact W.iret hx hb hr (fun t ht hW => ⟨⟨_, (), rfl, (by unfold r_X4_carryOutOrder; rw [if_neg c_1, if_pos c_7, if_pos c_8]), by show va_P D vwCl _ t.heap; rw [ht]; exact hPf⟩, hS.F ht⟩) hS.2.2 dX4_carryOutOrder_62
        · refine st1 (pn_e2 c_8) ?_
          have hPc := hP.sub (ws' := (drW K an n d ++ [])) [1, 2, 3, 4, 5, 6, 7, 8, 9, 10, 11, 12] rfl
          have hDc : va_D (fun _ => True) (drW K an n d ++ []) := (hD.sub (ws' := (drW K an n d ++ [])) [1, 2, 3, 4, 5, 6, 7, 8, 9, 10, 11, 12] (by decide +kernel) rfl).weaken (fun _ _ _ _ => trivial)
          refine kw_i (W1 := ([(oX, .inr (4, [.ref (an 0), .ref (at_ 0), .ref (a0 0), .ref (a1 0), .int z0, .int z1, .ref oh, .ref oP]))] ++ (drW K an n (D_X0_fetch_in n d (pn xs)) ++ []))) (w1 := (drW K an n (D_X0_fetch_in n d (pn xs)) ++ [])) (va_runVN (As := [.int (nI (pn xs))]) (rest := []) ⟨hx, hb, hml, hown, hts⟩ (cb_X0_fetch_in l D K an n d (pn xs) hn1 hn (pn_lt hn c_8)) ⟨va_cnB 1 hts gX4_carryOutOrder_X0_fetch_n60 rfl rfl rfl (hbd.1.nw 18 rfl) (hts _ (List.mem_of_getElem? (i := 3) rfl)) (by decide +kernel) ⟨Nat.le_of_ble_eq_true rfl, Nat.le_of_ble_eq_true rfl⟩, (hts _ (List.mem_of_getElem? (i := 31) rfl)), (hts _ (List.mem_of_getElem? (i := 32) rfl))⟩ (pre_wr hbd hPc hDc (ci := 0) (q0 := 0) rfl rfl) rfl rfl hl.1 rfl (lv_room (Nat.le_of_ble_eq_true rfl)) dX4_carryOutOrder_59 ⟨Nat.zero_le _, Nat.zero_le _⟩) hP hD hS [1, 2, 3, 4, 5, 6, 7, 8, 9, 10, 11, 12] [0] 13 rfl rfl rfl (Eq.trans (b := List.map some ([(oX, .inr (4, [.ref (an 0), .ref (at_ 0), .ref (a0 0), .ref (a1 0), .int z0, .int z1, .ref oh, .ref oP]))])) rfl rfl) (by decide +kernel) (by decide +kernel) (by simp only [List.map_append, drW_fst, List.map_cons, List.map_nil]) (fun r_11 H locs hr_11 hP hD hS => ?_)
          refine st1 hr_11 ?_
          have e_12 : n_X4_carryOutOrder_1_d n d xv xf xs = (D_X0_fetch_in n d (pn xs)) := by unfold n_X4_carryOutOrder_1_d; rw [if_neg c_1, if_pos c_7, if_neg c_8]
          have hPf : va_P D vwCl ([(oX, .inr (4, [.ref (an 0), .ref (at_ 0), .ref (a0 0), .ref (a1 0), .int z0, .int z1, .ref oh, .ref oP]))] ++ (drW K an n (n_X4_carryOutOrder_1_d n d xv xf xs) ++ [])) H := (by rw [e_12]; exact hP)
          exact W.iret hx hb hr (fun t ht hW => ⟨⟨_, (), rfl, (by unfold r_X4_carryOutOrder; rw [if_neg c_1, if_pos c_7, if_neg c_8]), by show va_P D vwCl _ t.heap; rw [ht]; exact hPf⟩, hS.F ht⟩) hS.2.2 dX4_carryOutOrder_62
      · skip
        refine byc (P := xv = 119) (fun c_13 => ?_) (fun c_13 => ?_)
        · skip
          refine lv_lookup (off := 43) (tgt := 44) hx hb dX4_carryOutOrder_1 (by decide) (by rw [c_13]; decide) (by decide) ?_
          refine lv_aload_n hx hb dX4_carryOutOrder_44 rfl (lv_at hl 0 rfl) ?_
          refine va_get (D := D) (ci := 4) (v := .ref (an 0)) (C := RX4) (T := TX4) (N := 8) hx hb hts hin4 hown hK hP 0 rfl rfl 0 (by decide) (hts _ (List.mem_of_getElem? (i := 1) rfl)) (fun _ h9 => h9) rfl dX4_carryOutOrder_45 ?_
          refine lv_iload_n hx hb dX4_carryOutOrder_48 rfl (lv_at hl 2 rfl) ?_
          refine lv_iload_n hx hb dX4_carryOutOrder_49 rfl (lv_at hl 3 rfl) ?_
          refine byc (P := xf < 0 ∨ (nI n) ≤ xf) (fun c_14 => ?_) (fun c_14 => ?_)
          · skip
            have hPc := hP.sub (ws' := (drW K an n d ++ [])) [1, 2, 3, 4, 5, 6, 7, 8, 9, 10, 11, 12] rfl
            have hDc : va_D (fun _ => True) (drW K an n d ++ []) := (hD.sub (ws' := (drW K an n d ++ [])) [1, 2, 3, 4, 5, 6, 7, 8, 9, 10, 11, 12] (by decide +kernel) rfl).weaken (fun _ _ _ _ => trivial)
            refine kw_i (W1 := ([(oX, .inr (4, [.ref (an 0), .ref (at_ 0), .ref (a0 0), .ref (a1 0), .int z0, .int z1, .ref oh, .ref oP]))] ++ (drW K an n d ++ []))) (w1 := (drW K an n d ++ [])) (va_runVN (As := [.int xf, .int xs]) (rest := []) ⟨hx, hb, hml, hown, hts⟩ (cb_X0_store_no l D K an n d xf xs c_14) ⟨va_cnB 2 hts gX4_carryOutOrder_X0_store_n50 rfl rfl rfl (hbd.1.nw 12 rfl) (hts _ (List.mem_of_getElem? (i := 3) rfl)) (by decide +kernel) ⟨Nat.le_of_ble_eq_true rfl, Nat.le_of_ble_eq_true rfl⟩, (hts _ (List.mem_of_getElem? (i := 2) rfl)), (hts _ (List.mem_of_getElem? (i := 4) rfl))⟩ (pre_wr hbd hPc hDc (ci := 0) (q0 := 0) rfl rfl) rfl rfl hl.1 rfl (lv_room (Nat.le_of_ble_eq_true rfl)) dX4_carryOutOrder_50 ⟨Nat.zero_le _, Nat.zero_le _⟩) hP hD hS [1, 2, 3, 4, 5, 6, 7, 8, 9, 10, 11, 12] [0] 13 rfl rfl rfl (Eq.trans (b := List.map some ([(oX, .inr (4, [.ref (an 0), .ref (at_ 0), .ref (a0 0), .ref (a1 0), .int z0, .int z1, .ref oh, .ref oP]))])) rfl rfl) (by decide +kernel) (by decide +kernel) (by simp only [List.map_append, drW_fst, List.map_cons, List.map_nil]) (fun r_15 H locs hr_15 hP hD hS => ?_)
            refine st1 hr_15 ?_
            have e_16 : n_X4_carryOutOrder_1_d n d xv xf xs = d := by unfold n_X4_carryOutOrder_1_d; rw [if_neg c_1, if_neg c_7, if_pos c_13, if_pos c_14]
            have hPf : va_P D vwCl ([(oX, .inr (4, [.ref (an 0), .ref (at_ 0), .ref (a0 0), .ref (a1 0), .int z0, .int z1, .ref oh, .ref oP]))] ++ (drW K an n (n_X4_carryOutOrder_1_d n d xv xf xs) ++ [])) H := (by rw [e_16]; exact hP)
            exact W.iret hx hb hr (fun t ht hW => ⟨⟨_, (), rfl, (by unfold r_X4_carryOutOrder; rw [if_neg c_1, if_neg c_7, if_pos c_13, if_pos c_14]), by show va_P D vwCl _ t.heap; rw [ht]; exact hPf⟩, hS.F ht⟩) hS.2.2 dX4_carryOutOrder_53
          · refine st2 (pn_e2 c_14) ?_
            have hPc := hP.sub (ws' := (drW K an n d ++ [])) [1, 2, 3, 4, 5, 6, 7, 8, 9, 10, 11, 12] rfl
            have hDc : va_D (fun _ => True) (drW K an n d ++ []) := (hD.sub (ws' := (drW K an n d ++ [])) [1, 2, 3, 4, 5, 6, 7, 8, 9, 10, 11, 12] (by decide +kernel) rfl).weaken (fun _ _ _ _ => trivial)
            refine kw_i (W1 := ([(oX, .inr (4, [.ref (an 0), .ref (at_ 0), .ref (a0 0), .ref (a1 0), .int z0, .int z1, .ref oh, .ref oP]))] ++ (drW K an n (D_X0_store_in n d (pn xf) xs) ++ []))) (w1 := (drW K an n (D_X0_store_in n d (pn xf) xs) ++ [])) (va_runVN (As := [.int (nI (pn xf)), .int xs]) (rest := []) ⟨hx, hb, hml, hown, hts⟩ (cb_X0_store_in l D K an n d (pn xf) xs hn1 hn (pn_lt hn c_14)) ⟨va_cnB 2 hts gX4_carryOutOrder_X0_store_n50 rfl rfl rfl (hbd.1.nw 12 rfl) (hts _ (List.mem_of_getElem? (i := 3) rfl)) (by decide +kernel) ⟨Nat.le_of_ble_eq_true rfl, Nat.le_of_ble_eq_true rfl⟩, (hts _ (List.mem_of_getElem? (i := 2) rfl)), (hts _ (List.mem_of_getElem? (i := 4) rfl))⟩ (pre_wr hbd hPc hDc (ci := 0) (q0 := 0) rfl rfl) rfl rfl hl.1 rfl (lv_room (Nat.le_of_ble_eq_true rfl)) dX4_carryOutOrder_50 ⟨Nat.zero_le _, Nat.zero_le _⟩) hP hD hS [1, 2, 3, 4, 5, 6, 7, 8, 9, 10, 11, 12] [0] 13 rfl rfl rfl (Eq.trans (b := List.map some ([(oX, .inr (4, [.ref (an 0), .ref (at_ 0), .ref (a0 0), .ref (a1 0), .int z0, .int z1, .ref oh, .ref oP]))])) rfl rfl) (by decide +kernel) (by decide +kernel) (by simp only [List.map_append, drW_fst, List.map_cons, List.map_nil]) (fun r_17 H locs hr_17 hP hD hS => ?_)
            refine st1 hr_17 ?_
            have e_18 : n_X4_carryOutOrder_1_d n d xv xf xs = (D_X0_store_in n d (pn xf) xs) := by unfold n_X4_carryOutOrder_1_d; rw [if_neg c_1, if_neg c_7, if_pos c_13, if_neg c_14]
            have hPf : va_P D vwCl ([(oX, .inr (4, [.ref (an 0), .ref (at_ 0), .ref (a0 0), .ref (a1 0), .int z0, .int z1, .ref oh, .ref oP]))] ++ (drW K an n (n_X4_carryOutOrder_1_d n d xv xf xs) ++ [])) H := (by rw [e_18]; exact hP)
            exact W.iret hx hb hr (fun t ht hW => ⟨⟨_, (), rfl, (by unfold r_X4_carryOutOrder; rw [if_neg c_1, if_neg c_7, if_pos c_13, if_neg c_14]), by show va_P D vwCl _ t.heap; rw [ht]; exact hPf⟩, hS.F ht⟩) hS.2.2 dX4_carryOutOrder_53
        · skip
          refine byc (P := xv = 120) (fun c_19 => ?_) (fun c_19 => ?_)
          · skip
            refine lv_lookup (off := 72) (tgt := 73) hx hb dX4_carryOutOrder_1 (by decide) (by rw [c_19]; decide) (by decide) ?_
            refine lv_aload_n hx hb dX4_carryOutOrder_73 rfl (lv_at hl 0 rfl) ?_
            refine va_get (D := D) (ci := 4) (v := .ref (an 0)) (C := RX4) (T := TX4) (N := 8) hx hb hts hin4 hown hK hP 0 rfl rfl 0 (by decide) (hts _ (List.mem_of_getElem? (i := 1) rfl)) (fun _ h9 => h9) rfl dX4_carryOutOrder_74 ?_
            refine lv_iload_n hx hb dX4_carryOutOrder_77 rfl (lv_at hl 2 rfl) ?_
            refine lv_iload_n hx hb dX4_carryOutOrder_78 rfl (lv_at hl 3 rfl) ?_
            refine byc (P := xf = 0) (fun c_20 => ?_) (fun c_20 => ?_)
            · refine st2 (y := 0) c_20 ?_
              refine byc (P := xs < 0 ∨ (nI n) ≤ xs) (fun c_21 => ?_) (fun c_21 => ?_)
              · skip
                have hPc := hP.sub (ws' := (drW K an n d ++ [])) [1, 2, 3, 4, 5, 6, 7, 8, 9, 10, 11, 12] rfl
                have hDc : va_D (fun _ => True) (drW K an n d ++ []) := (hD.sub (ws' := (drW K an n d ++ [])) [1, 2, 3, 4, 5, 6, 7, 8, 9, 10, 11, 12] (by decide +kernel) rfl).weaken (fun _ _ _ _ => trivial)
                refine kw_i (W1 := ([(oX, .inr (4, [.ref (an 0), .ref (at_ 0), .ref (a0 0), .ref (a1 0), .int z0, .int z1, .ref oh, .ref oP]))] ++ (drW K an n d ++ []))) (w1 := (drW K an n d ++ [])) (va_runVN (As := [.int 0, .int xs]) (rest := []) ⟨hx, hb, hml, hown, hts⟩ (cb_X0_empty_0n l D K an n d xs c_21) ⟨va_cnB 2 hts gX4_carryOutOrder_X0_empty_n57 rfl rfl rfl (hbd.1.nw 16 rfl) (hts _ (List.mem_of_getElem? (i := 3) rfl)) (by decide +kernel) ⟨Nat.le_of_ble_eq_true rfl, Nat.le_of_ble_eq_true rfl⟩, (hts _ (List.mem_of_getElem? (i := 69) rfl)), (hts _ (List.mem_of_getElem? (i := 70) rfl))⟩ (pre_wr hbd hPc hDc (ci := 0) (q0 := 0) rfl rfl) rfl rfl hl.1 rfl (lv_room (Nat.le_of_ble_eq_true rfl)) dX4_carryOutOrder_79 ⟨Nat.zero_le _, Nat.zero_le _⟩) hP hD hS [1, 2, 3, 4, 5, 6, 7, 8, 9, 10, 11, 12] [0] 13 rfl rfl rfl (Eq.trans (b := List.map some ([(oX, .inr (4, [.ref (an 0), .ref (at_ 0), .ref (a0 0), .ref (a1 0), .int z0, .int z1, .ref oh, .ref oP]))])) rfl rfl) (by decide +kernel) (by decide +kernel) (by simp only [List.map_append, drW_fst, List.map_cons, List.map_nil]) (fun r_22 H locs hr_22 hP hD hS => ?_)
                refine st1 hr_22 ?_
                have e_23 : n_X4_carryOutOrder_1_d n d xv xf xs = d := by unfold n_X4_carryOutOrder_1_d; rw [if_neg c_1, if_neg c_7, if_neg c_13, if_pos c_19, if_pos c_20, if_pos c_21]
                have hPf : va_P D vwCl ([(oX, .inr (4, [.ref (an 0), .ref (at_ 0), .ref (a0 0), .ref (a1 0), .int z0, .int z1, .ref oh, .ref oP]))] ++ (drW K an n (n_X4_carryOutOrder_1_d n d xv xf xs) ++ [])) H := (by rw [e_23]; exact hP)
                exact W.iret hx hb hr (fun t ht hW => ⟨⟨_, (), rfl, (by unfold r_X4_carryOutOrder; rw [if_neg c_1, if_neg c_7, if_neg c_13, if_pos c_19, if_pos c_20, if_pos c_21]), by show va_P D vwCl _ t.heap; rw [ht]; exact hPf⟩, hS.F ht⟩) hS.2.2 dX4_carryOutOrder_82
              · refine st1 (pn_e2 c_21) ?_
                have hPc := hP.sub (ws' := (drW K an n d ++ [])) [1, 2, 3, 4, 5, 6, 7, 8, 9, 10, 11, 12] rfl
                have hDc : va_D (fun _ => True) (drW K an n d ++ []) := (hD.sub (ws' := (drW K an n d ++ [])) [1, 2, 3, 4, 5, 6, 7, 8, 9, 10, 11, 12] (by decide +kernel) rfl).weaken (fun _ _ _ _ => trivial)
                refine kw_i (W1 := ([(oX, .inr (4, [.ref (an 0), .ref (at_ 0), .ref (a0 0), .ref (a1 0), .int z0, .int z1, .ref oh, .ref oP]))] ++ (drW K an n (D_X0_empty_0 n d (pn xs)) ++ []))) (w1 := (drW K an n (D_X0_empty_0 n d (pn xs)) ++ [])) (va_runVN (As := [.int 0, .int (nI (pn xs))]) (rest := []) ⟨hx, hb, hml, hown, hts⟩ (cb_X0_empty_0 l D K an n d (pn xs) hn1 hn (pn_lt hn c_21)) ⟨va_cnB 2 hts gX4_carryOutOrder_X0_empty_n57 rfl rfl rfl (hbd.1.nw 16 rfl) (hts _ (List.mem_of_getElem? (i := 3) rfl)) (by decide +kernel) ⟨Nat.le_of_ble_eq_true rfl, Nat.le_of_ble_eq_true rfl⟩, (hts _ (List.mem_of_getElem? (i := 69) rfl)), (hts _ (List.mem_of_getElem? (i := 70) rfl))⟩ (pre_wr hbd hPc hDc (ci := 0) (q0 := 0) rfl rfl) rfl rfl hl.1 rfl (lv_room (Nat.le_of_ble_eq_true rfl)) dX4_carryOutOrder_79 ⟨Nat.zero_le _, Nat.zero_le _⟩) hP hD hS [1, 2, 3, 4, 5, 6, 7, 8, 9, 10, 11, 12] [0] 13 rfl rfl rfl (Eq.trans (b := List.map some ([(oX, .inr (4, [.ref (an 0), .ref (at_ 0), .ref (a0 0), .ref (a1 0), .int z0, .int z1, .ref oh, .ref oP]))])) rfl rfl) (by decide +kernel) (by decide +kernel) (by simp only [List.map_append, drW_fst, List.map_cons, List.map_nil]) (fun r_24 H locs hr_24 hP hD hS => ?_)
                refine st1 hr_24 ?_
                have e_25 : n_X4_carryOutOrder_1_d n d xv xf xs = (D_X0_empty_0 n d (pn xs)) := by unfold n_X4_carryOutOrder_1_d; rw [if_neg c_1, if_neg c_7, if_neg c_13, if_pos c_19, if_pos c_20, if_neg c_21]
                have hPf : va_P D vwCl ([(oX, .inr (4, [.ref (an 0), .ref (at_ 0), .ref (a0 0), .ref (a1 0), .int z0, .int z1, .ref oh, .ref oP]))] ++ (drW K an n (n_X4_carryOutOrder_1_d n d xv xf xs) ++ [])) H := (by rw [e_25]; exact hP)
                exact W.iret hx hb hr (fun t ht hW => ⟨⟨_, (), rfl, (by unfold r_X4_carryOutOrder; rw [if_neg c_1, if_neg c_7, if_neg c_13, if_pos c_19, if_pos c_20, if_neg c_21]), by show va_P D vwCl _ t.heap; rw [ht]; exact hPf⟩, hS.F ht⟩) hS.2.2 dX4_carryOutOrder_82
            · refine st2 (y := 1) ((ho (Or.inr c_19)).resolve_left c_20) ?_
              refine byc (P := xs < 0 ∨ (nI n) ≤ xs) (fun c_26 => ?_) (fun c_26 => ?_)
              · skip
                have hPc := hP.sub (ws' := (drW K an n d ++ [])) [1, 2, 3, 4, 5, 6, 7, 8, 9, 10, 11, 12] rfl
                have hDc : va_D (fun _ => True) (drW K an n d ++ []) := (hD.sub (ws' := (drW K an n d ++ [])) [1, 2, 3, 4, 5, 6, 7, 8, 9, 10, 11, 12] (by decide +kernel) rfl).weaken (fun _ _ _ _ => trivial)
                refine kw_i (W1 := ([(oX, .inr (4, [.ref (an 0), .ref (at_ 0), .ref (a0 0), .ref (a1 0), .int z0, .int z1, .ref oh, .ref oP]))] ++ (drW K an n d ++ []))) (w1 := (drW K an n d ++ [])) (va_runVN (As := [.int 1, .int xs]) (rest := []) ⟨hx, hb, hml, hown, hts⟩ (cb_X0_empty_1n l D K an n d xs c_26) ⟨va_cnB 2 hts gX4_carryOutOrder_X0_empty_n57 rfl rfl rfl (hbd.1.nw 16 rfl) (hts _ (List.mem_of_getElem? (i := 3) rfl)) (by decide +kernel) ⟨Nat.le_of_ble_eq_true rfl, Nat.le_of_ble_eq_true rfl⟩, (hts _ (List.mem_of_getElem? (i := 69) rfl)), (hts _ (List.mem_of_getElem? (i := 70) rfl))⟩ (pre_wr hbd hPc hDc (ci := 0) (q0 := 0) rfl rfl) rfl rfl hl.1 rfl (lv_room (Nat.le_of_ble_eq_true rfl)) dX4_carryOutOrder_79 ⟨Nat.zero_le _, Nat.zero_le _⟩) hP hD hS [1, 2, 3, 4, 5, 6, 7, 8, 9, 10, 11, 12] [0] 13 rfl rfl rfl (Eq.trans (b := List.map some ([(oX, .inr (4, [.ref (an 0), .ref (at_ 0), .ref (a0 0), .ref (a1 0), .int z0, .int z1, .ref oh, .ref oP]))])) rfl rfl) (by decide +kernel) (by decide +kernel) (by simp only [List.map_append, drW_fst, List.map_cons, List.map_nil]) (fun r_27 H locs hr_27 hP hD hS => ?_)
                refine st1 hr_27 ?_
                have e_28 : n_X4_carryOutOrder_1_d n d xv xf xs = d := by unfold n_X4_carryOutOrder_1_d; rw [if_neg c_1, if_neg c_7, if_neg c_13, if_pos c_19, if_neg c_20, if_pos c_26]
                have hPf : va_P D vwCl ([(oX, .inr (4, [.ref (an 0), .ref (at_ 0), .ref (a0 0), .ref (a1 0), .int z0, .int z1, .ref oh, .ref oP]))] ++ (drW K an n (n_X4_carryOutOrder_1_d n d xv xf xs) ++ [])) H := (by rw [e_28]; exact hP)
                exact W.iret hx hb hr (fun t ht hW => ⟨⟨_, (), rfl, (by unfold r_X4_carryOutOrder; rw [if_neg c_1, if_neg c_7, if_neg c_13, if_pos c_19, if_neg c_20, if_pos c_26]), by show va_P D vwCl _ t.heap; rw [ht]; exact hPf⟩, hS.F ht⟩) hS.2.2 dX4_carryOutOrder_82
              · refine st1 (pn_e2 c_26) ?_
                have hPc := hP.sub (ws' := (drW K an n d ++ [])) [1, 2, 3, 4, 5, 6, 7, 8, 9, 10, 11, 12] rfl
                have hDc : va_D (fun _ => True) (drW K an n d ++ []) := (hD.sub (ws' := (drW K an n d ++ [])) [1, 2, 3, 4, 5, 6, 7, 8, 9, 10, 11, 12] (by decide +kernel) rfl).weaken (fun _ _ _ _ => trivial)
                refine kw_i (W1 := ([(oX, .inr (4, [.ref (an 0), .ref (at_ 0), .ref (a0 0), .ref (a1 0), .int z0, .int z1, .ref oh, .ref oP]))] ++ (drW K an n (D_X0_empty_1 n d (pn xs)) ++ []))) (w1 := (drW K an n (D_X0_empty_1 n d (pn xs)) ++ [])) (va_runVN (As := [.int 1, .int (nI (pn xs))]) (rest := []) ⟨hx, hb, hml, hown, hts⟩ (cb_X0_empty_1 l D K an n d (pn xs) hn1 hn (pn_lt hn c_26)) ⟨va_cnB 2 hts gX4_carryOutOrder_X0_empty_n57 rfl rfl rfl (hbd.1.nw 16 rfl) (hts _ (List.mem_of_getElem? (i := 3) rfl)) (by decide +kernel) ⟨Nat.le_of_ble_eq_true rfl, Nat.le_of_ble_eq_true rfl⟩, (hts _ (List.mem_of_getElem? (i := 69) rfl)), (hts _ (List.mem_of_getElem? (i := 70) rfl))⟩ (pre_wr hbd hPc hDc (ci := 0) (q0 := 0) rfl rfl) rfl rfl hl.1 rfl (lv_room (Nat.le_of_ble_eq_true rfl)) dX4_carryOutOrder_79 ⟨Nat.zero_le _, Nat.zero_le _⟩) hP hD hS [1, 2, 3, 4, 5, 6, 7, 8, 9, 10, 11, 12] [0] 13 rfl rfl rfl (Eq.trans (b := List.map some ([(oX, .inr (4, [.ref (an 0), .ref (at_ 0), .ref (a0 0), .ref (a1 0), .int z0, .int z1, .ref oh, .ref oP]))])) rfl rfl) (by decide +kernel) (by decide +kernel) (by simp only [List.map_append, drW_fst, List.map_cons, List.map_nil]) (fun r_29 H locs hr_29 hP hD hS => ?_)
                refine st1 hr_29 ?_
                have e_30 : n_X4_carryOutOrder_1_d n d xv xf xs = (D_X0_empty_1 n d (pn xs)) := by unfold n_X4_carryOutOrder_1_d; rw [if_neg c_1, if_neg c_7, if_neg c_13, if_pos c_19, if_neg c_20, if_neg c_26]
                have hPf : va_P D vwCl ([(oX, .inr (4, [.ref (an 0), .ref (at_ 0), .ref (a0 0), .ref (a1 0), .int z0, .int z1, .ref oh, .ref oP]))] ++ (drW K an n (n_X4_carryOutOrder_1_d n d xv xf xs) ++ [])) H := (by rw [e_30]; exact hP)
                exact W.iret hx hb hr (fun t ht hW => ⟨⟨_, (), rfl, (by unfold r_X4_carryOutOrder; rw [if_neg c_1, if_neg c_7, if_neg c_13, if_pos c_19, if_neg c_20, if_neg c_26]), by show va_P D vwCl _ t.heap; rw [ht]; exact hPf⟩, hS.F ht⟩) hS.2.2 dX4_carryOutOrder_82
          · skip
            refine lv_lookup (off := 82) (tgt := 83) hx hb dX4_carryOutOrder_1 (by decide) (by refine (lv_osw c_1 (by decide)).trans ?_; refine (lv_osw c_7 (by decide)).trans ?_; refine (lv_osw c_13 (by decide)).trans ?_; refine (lv_osw c_19 (by decide)).trans ?_; rfl) (by decide) ?_
            refine lv_aload_n hx hb dX4_carryOutOrder_83 rfl (lv_at hl 0 rfl) ?_
            refine va_get (D := D) (ci := 4) (v := .ref (an 0)) (C := RX4) (T := TX4) (N := 8) hx hb hts hin4 hown hK hP 0 rfl rfl 0 (by decide) (hts _ (List.mem_of_getElem? (i := 1) rfl)) (fun _ h9 => h9) rfl dX4_carryOutOrder_84 ?_
            have hPc := hP.sub (ws' := (drW K an n d ++ [])) [1, 2, 3, 4, 5, 6, 7, 8, 9, 10, 11, 12] rfl
            have hDc : va_D (fun _ => True) (drW K an n d ++ []) := (hD.sub (ws' := (drW K an n d ++ [])) [1, 2, 3, 4, 5, 6, 7, 8, 9, 10, 11, 12] (by decide +kernel) rfl).weaken (fun _ _ _ _ => trivial)
            refine kw_i (W1 := ([(oX, .inr (4, [.ref (an 0), .ref (at_ 0), .ref (a0 0), .ref (a1 0), .int z0, .int z1, .ref oh, .ref oP]))] ++ (drW K an n (repN d n) ++ []))) (w1 := (drW K an n (repN d n) ++ [])) (va_runVN (As := []) (rest := []) ⟨hx, hb, hml, hown, hts⟩ (cb_X0_repairAll l D K an n d hn1 hn) ⟨va_cnB 0 hts gX4_carryOutOrder_X0_repairAll_n66 rfl rfl rfl (hbd.1.nw 23 rfl) (hts _ (List.mem_of_getElem? (i := 3) rfl)) (by decide +kernel) ⟨Nat.le_of_ble_eq_true rfl, Nat.le_of_ble_eq_true rfl⟩, (hts _ (List.mem_of_getElem? (i := 75) rfl)), (hts _ (List.mem_of_getElem? (i := 76) rfl))⟩ (pre_wr hbd hPc hDc (ci := 0) (q0 := 0) rfl rfl) rfl rfl hl.1 rfl (lv_room (Nat.le_of_ble_eq_true rfl)) dX4_carryOutOrder_87 ⟨Nat.zero_le _, Nat.zero_le _⟩) hP hD hS [1, 2, 3, 4, 5, 6, 7, 8, 9, 10, 11, 12] [0] 13 rfl rfl rfl (Eq.trans (b := List.map some ([(oX, .inr (4, [.ref (an 0), .ref (at_ 0), .ref (a0 0), .ref (a1 0), .int z0, .int z1, .ref oh, .ref oP]))])) rfl rfl) (by decide +kernel) (by decide +kernel) (by simp only [List.map_append, drW_fst, List.map_cons, List.map_nil]) (fun r_31 H locs hr_31 hP hD hS => ?_)
            refine st1 hr_31 ?_
            have e_32 : n_X4_carryOutOrder_1_d n d xv xf xs = (repN d n) := by unfold n_X4_carryOutOrder_1_d; rw [if_neg c_1, if_neg c_7, if_neg c_13, if_neg c_19]
            have hPf : va_P D vwCl ([(oX, .inr (4, [.ref (an 0), .ref (at_ 0), .ref (a0 0), .ref (a1 0), .int z0, .int z1, .ref oh, .ref oP]))] ++ (drW K an n (n_X4_carryOutOrder_1_d n d xv xf xs) ++ [])) H := (by rw [e_32]; exact hP)
            exact W.iret hx hb hr (fun t ht hW => ⟨⟨_, (), rfl, (by unfold r_X4_carryOutOrder; rw [if_neg c_1, if_neg c_7, if_neg c_13, if_neg c_19]), by show va_P D vwCl _ t.heap; rw [ht]; exact hPf⟩, hS.F ht⟩) hS.2.2 dX4_carryOutOrder_90
  exact K0 s.heap [] ls hP hD hS hl
