theorem hiP_eq {j n : Nat} (hj : j < n) (hn : n ≤ 32) : ((nI (j + 1)) - (nI (j + 1)) / (nI n) * (nI n)) = nI (nxP j n) := by
  rw [pk_rem (by omega) (by omega) (by omega)]
  unfold nxP
  split
  · rw [Nat.mod_eq_of_lt (by assumption)]
  · rw [show j + 1 = n by omega, Nat.mod_self]
def wrM (S : Nat → Int32) (sg j : Nat) (xd xs : Int32) : Nat → Int32 := (if (S (1 + sg)) = 1 then (upd S (1 + sg) 0) else (if (S (1 + sg)) = 2 then (upd S (1 + sg) 0) else (n_X5_lay_1 (upd S (1 + sg) 0) sg j j (if (S (1 + sg)) = 4 then ((xd + 1) - (xd + 1) / 10000 * 10000) else xd) xs)))
def wrB (S : Nat → Int32) (sg j k : Nat) (xd xs : Int32) : Nat → Int32 := (if (S (1 + sg)) = 2 then (n_X5_lay_1 (wrM S sg j xd xs) sg k j xd xs) else (if (S (1 + sg)) = 3 then (n_X5_lay_1 (wrM S sg j xd xs) sg k j xd xs) else (wrM S sg j xd xs)))
def wrI (S : Nat → Int32) (j k : Nat) (xd xs : Int32) : Nat → Nat → Int32
  | 0 => S
  | sg + 1 => wrB (wrI S j k xd xs sg) sg j k xd xs
def wrF (fS : Nat → Int32) (j k : Nat) (xd : Int32) : Nat → Int32 := wrI (upd (upd fS (8 + j) ((fS (8 + j)) + 1)) 3 ((fS 3) + 1)) j k xd (sumF (nI j) ((fS (8 + j)) + 1) xd) 2
set_option maxHeartbeats 4000000 in
set_option maxRecDepth 100000 in
theorem c_X5_writes (l : Launch) (D : va_G) (K : Nat → ClassId) (oM : Nat) (aS : Nat) (aA : Nat) (aB : Nat) (aT : Nat) (aV : Nat) (aP : Nat) (fS : Nat → Int32) (fA : Nat → Int32) (fB : Nat → Int32) (fT : Nat → Int32) (fV : Nat → Int32) (fP : Nat → Int32) (kn : Nat) (ln : Nat) (pl : Int32) (wr : Int32) (le : Int32) (on : Int32) (tw : Int32) (n : Nat) (j : Nat) (xd : Int32) (hs0 : fS 0 = nI n) (hn1 : 1 ≤ n) (hn : n ≤ 32) (hjn : j < n) : Met l yX5_writes wsX5_writes ({ frames := 2, cells := 0, slots := 0, locals := 47 }) (va_Pc [.ref oM, .int (nI j), .int xd] (fun U => Bd D K U ∧ va_P D vwCl [(oM, .inr (5, [.ref aS, .ref aA, .ref aB, .int (nI kn), .ref aT, .ref aV, .ref aP, .int (nI ln), .int pl, .int wr, .int le, .int on, .int tw])), (aS, .inl (K 0, 360, .inl fS)), (aA, .inl (K 0, 360, .inl fA)), (aB, .inl (K 0, 2160, .inl fB)), (aT, .inl (K 0, 720, .inl fT)), (aV, .inl (K 2, 2, .inl fV)), (aP, .inl (K 0, 80, .inl fP))] U.heap ∧ va_D (fun _ => True) [(oM, .inr (5, [.ref aS, .ref aA, .ref aB, .int (nI kn), .ref aT, .ref aV, .ref aP, .int (nI ln), .int pl, .int wr, .int le, .int on, .int tw])), (aS, .inl (K 0, 360, .inl fS)), (aA, .inl (K 0, 360, .inl fA)), (aB, .inl (K 0, 2160, .inl fB)), (aT, .inl (K 0, 720, .inl fT)), (aV, .inl (K 2, 2, .inl fV)), (aP, .inl (K 0, 80, .inl fP))])) (va_Qi (fun r (_ : Unit) => r = ((wrF fS j (nxP j n) xd) (8 + j))) (fun _ t => va_P D vwCl [(oM, .inr (5, [.ref aS, .ref aA, .ref aB, .int (nI kn), .ref aT, .ref aV, .ref aP, .int (nI ln), .int pl, .int wr, .int le, .int on, .int tw])), (aS, .inl (K 0, 360, .inl (wrF fS j (nxP j n) xd))), (aA, .inl (K 0, 360, .inl fA)), (aB, .inl (K 0, 2160, .inl fB)), (aT, .inl (K 0, 720, .inl fT)), (aV, .inl (K 2, 2, .inl fV)), (aP, .inl (K 0, 80, .inl fP))] t.heap) (inW [(oM, .inr (5, [.ref aS, .ref aA, .ref aB, .int (nI kn), .ref aT, .ref aV, .ref aP, .int (nI ln), .int pl, .int wr, .int le, .int on, .int tw])), (aS, .inl (K 0, 360, .inl fS)), (aA, .inl (K 0, 360, .inl fA)), (aB, .inl (K 0, 2160, .inl fB)), (aT, .inl (K 0, 720, .inl fT)), (aV, .inl (K 2, 2, .inl fV)), (aP, .inl (K 0, 80, .inl fP))])) 0 0 (inW [(oM, .inr (5, [.ref aS, .ref aA, .ref aB, .int (nI kn), .ref aT, .ref aV, .ref aP, .int (nI ln), .int pl, .int wr, .int le, .int on, .int tw])), (aS, .inl (K 0, 360, .inl fS)), (aA, .inl (K 0, 360, .inl fA)), (aB, .inl (K 0, 2160, .inl fB)), (aT, .inl (K 0, 720, .inl fT)), (aV, .inl (K 2, 2, .inl fV)), (aP, .inl (K 0, 80, .inl fP))]) := by
  refine Met.ofW (cc := cX5_writes) (maxL := 7) (ret := (some .int)) (by decide) rfl ?_
  intro p e s m args below meth c s₁ B hml hv
  obtain ⟨rfl, hbd, hP, hD0⟩ := hv
  have hx := B.exec
  have hb := B.bytes
  have hr := B.returns
  have hts := atoms_spec (ws := wsX5_writes) B.pre
  have hown : s.vm.findClass RX5 = some m.cls := findClass_of_methodNamed B.named
  have hlocks := B.notSynchronized
  have hK := hbd.2
  have hP : va_P D vwCl [(oM, .inr (5, [.ref aS, .ref aA, .ref aB, .int (nI kn), .ref aT, .ref aV, .ref aP, .int (nI ln), .int pl, .int wr, .int le, .int on, .int tw])), (aS, .inl (K 0, 360, .inl fS)), (aA, .inl (K 0, 360, .inl fA)), (aB, .inl (K 0, 2160, .inl fB)), (aT, .inl (K 0, 720, .inl fT)), (aV, .inl (K 2, 2, .inl fV)), (aP, .inl (K 0, 80, .inl fP))] s.heap := hP
  have hin5 : ∀ w ∈ wsX50, w ∈ wsX5_writes := by decide +kernel
  have hD := hD0.own
  generalize hAe : inW [(oM, .inr (5, [.ref aS, .ref aA, .ref aB, .int (nI kn), .ref aT, .ref aV, .ref aP, .int (nI ln), .int pl, .int wr, .int le, .int on, .int tw])), (aS, .inl (K 0, 360, .inl fS)), (aA, .inl (K 0, 360, .inl fA)), (aB, .inl (K 0, 2160, .inl fB)), (aT, .inl (K 0, 720, .inl fT)), (aV, .inl (K 2, 2, .inl fV)), (aP, .inl (K 0, 80, .inl fP))] = A at hD ⊢
  have hS : va_S A s.heap s.heap [] := va_S.rf
  have hl := lv_entry ([.ref oM, .int (nI j), .int xd]) (n := 7) (Nat.le_of_ble_eq_true rfl)
  rw [lg_entry_eq]
  generalize (lg_sl ([.ref oM, .int (nI j), .int xd]) ++ List.replicate (7 - (lg_sl ([.ref oM, .int (nI j), .int xd])).length) Slot.unset).toArray = ls at hl ⊢
  have hl : lv_has ls 7 [(0, .ref oM), (1, .int (nI j)), (2, .int xd)] := hl
  have K0 : ∀ (H : Heap) (locs : List Loc) (ls : Array Slot), va_P D vwCl [(oM, .inr (5, [.ref aS, .ref aA, .ref aB, .int (nI kn), .ref aT, .ref aV, .ref aP, .int (nI ln), .int pl, .int wr, .int le, .int on, .int tw])), (aS, .inl (K 0, 360, .inl fS)), (aA, .inl (K 0, 360, .inl fA)), (aB, .inl (K 0, 2160, .inl fB)), (aT, .inl (K 0, 720, .inl fT)), (aV, .inl (K 2, 2, .inl fV)), (aP, .inl (K 0, 80, .inl fP))] H → va_D A [(oM, .inr (5, [.ref aS, .ref aA, .ref aB, .int (nI kn), .ref aT, .ref aV, .ref aP, .int (nI ln), .int pl, .int wr, .int le, .int on, .int tw])), (aS, .inl (K 0, 360, .inl fS)), (aA, .inl (K 0, 360, .inl fA)), (aB, .inl (K 0, 2160, .inl fB)), (aT, .inl (K 0, 720, .inl fT)), (aV, .inl (K 2, 2, .inl fV)), (aP, .inl (K 0, 80, .inl fP))] → va_S A s.heap H locs → lv_has ls 7 [(0, .ref oM), (1, .int (nI j)), (2, .int xd)] → W p l e (headSpec wsX5_writes ({ frames := 2, cells := 0, slots := 0, locals := 47 })).room s m ([.ref oM, .int (nI j), .int xd] : List Value).toArray below meth c H locs 0 0 (MQ below (va_Qi (fun r (_ : Unit) => r = ((wrF fS j (nxP j n) xd) (8 + j))) (fun _ t => va_P D vwCl [(oM, .inr (5, [.ref aS, .ref aA, .ref aB, .int (nI kn), .ref aT, .ref aV, .ref aP, .int (nI ln), .int pl, .int wr, .int le, .int on, .int tw])), (aS, .inl (K 0, 360, .inl (wrF fS j (nxP j n) xd))), (aA, .inl (K 0, 360, .inl fA)), (aB, .inl (K 0, 2160, .inl fB)), (aT, .inl (K 0, 720, .inl fT)), (aV, .inl (K 2, 2, .inl fV)), (aP, .inl (K 0, 80, .inl fP))] t.heap) A) ([.ref oM, .int (nI j), .int xd] : List Value).toArray s 0 0 A) (F0 m 0 ls []) := by
    intro H locs ls hP hD hS hl
    refine lv_aload_n hx hb dX5_writes_0 rfl (lv_at hl 0 rfl) ?_
    refine va_get (D := D) (ci := 5) (v := .ref aS) (C := RX5) (T := TX5) (N := 13) hx hb hts hin5 hown hK hP 0 rfl rfl 0 (by decide) (hts _ (List.mem_of_getElem? (i := 1) rfl)) (fun _ h9 => h9) rfl dX5_writes_1 ?_
    refine lv_bipush (v := 8) hx hb dX5_writes_4 (by decide) ?_
    refine lv_iload_n hx hb dX5_writes_6 rfl (lv_at hl 1 rfl) ?_
    refine lv_iadd hx hb dX5_writes_7 ?_
    refine st1 (nI_add 8 j) ?_
    refine lv_dup2_11 hx hb dX5_writes_8 rfl rfl ?_
    refine n_iald hx hb hK hP 1 0 rfl rfl (8 + j) (by omega) (by decide) dX5_writes_9 ?_
    refine lv_iconst (v := 1) hx hb dX5_writes_10 (by decide) ?_
    refine lv_iadd hx hb dX5_writes_11 ?_
    refine n_iast hx hb hK hP hD hS 1 0 rfl rfl (8 + j) (by omega) (by decide) dX5_writes_12 (fun H locs hP hD hS => ?_)
    have hP : va_P D vwCl [(oM, .inr (5, [.ref aS, .ref aA, .ref aB, .int (nI kn), .ref aT, .ref aV, .ref aP, .int (nI ln), .int pl, .int wr, .int le, .int on, .int tw])), (aS, .inl (K 0, 360, .inl (upd fS (8 + j) ((fS (8 + j)) + 1)))), (aA, .inl (K 0, 360, .inl fA)), (aB, .inl (K 0, 2160, .inl fB)), (aT, .inl (K 0, 720, .inl fT)), (aV, .inl (K 2, 2, .inl fV)), (aP, .inl (K 0, 80, .inl fP))] H := hP
    have hD : va_D A [(oM, .inr (5, [.ref aS, .ref aA, .ref aB, .int (nI kn), .ref aT, .ref aV, .ref aP, .int (nI ln), .int pl, .int wr, .int le, .int on, .int tw])), (aS, .inl (K 0, 360, .inl (upd fS (8 + j) ((fS (8 + j)) + 1)))), (aA, .inl (K 0, 360, .inl fA)), (aB, .inl (K 0, 2160, .inl fB)), (aT, .inl (K 0, 720, .inl fT)), (aV, .inl (K 2, 2, .inl fV)), (aP, .inl (K 0, 80, .inl fP))] := hD
    refine lv_aload_n hx hb dX5_writes_13 rfl (lv_at hl 0 rfl) ?_
    refine va_get (D := D) (ci := 5) (v := .ref aS) (C := RX5) (T := TX5) (N := 13) hx hb hts hin5 hown hK hP 0 rfl rfl 0 (by decide) (hts _ (List.mem_of_getElem? (i := 1) rfl)) (fun _ h9 => h9) rfl dX5_writes_14 ?_
    refine lv_iconst (v := 3) hx hb dX5_writes_17 (by decide) ?_
    refine lv_dup2_11 hx hb dX5_writes_18 rfl rfl ?_
    refine n_iald hx hb hK hP 1 0 rfl rfl 3 (by omega) (by decide) dX5_writes_19 ?_
    refine st1 (pk_un (by omega)) ?_
    refine lv_iconst (v := 1) hx hb dX5_writes_20 (by decide) ?_
    refine lv_iadd hx hb dX5_writes_21 ?_
    refine n_iast hx hb hK hP hD hS 1 0 rfl rfl 3 (by omega) (by decide) dX5_writes_22 (fun H locs hP hD hS => ?_)
    have hP : va_P D vwCl [(oM, .inr (5, [.ref aS, .ref aA, .ref aB, .int (nI kn), .ref aT, .ref aV, .ref aP, .int (nI ln), .int pl, .int wr, .int le, .int on, .int tw])), (aS, .inl (K 0, 360, .inl (upd (upd fS (8 + j) ((fS (8 + j)) + 1)) 3 ((fS 3) + 1)))), (aA, .inl (K 0, 360, .inl fA)), (aB, .inl (K 0, 2160, .inl fB)), (aT, .inl (K 0, 720, .inl fT)), (aV, .inl (K 2, 2, .inl fV)), (aP, .inl (K 0, 80, .inl fP))] H := hP
    have hD : va_D A [(oM, .inr (5, [.ref aS, .ref aA, .ref aB, .int (nI kn), .ref aT, .ref aV, .ref aP, .int (nI ln), .int pl, .int wr, .int le, .int on, .int tw])), (aS, .inl (K 0, 360, .inl (upd (upd fS (8 + j) ((fS (8 + j)) + 1)) 3 ((fS 3) + 1)))), (aA, .inl (K 0, 360, .inl fA)), (aB, .inl (K 0, 2160, .inl fB)), (aT, .inl (K 0, 720, .inl fT)), (aV, .inl (K 2, 2, .inl fV)), (aP, .inl (K 0, 80, .inl fP))] := hD
    refine lv_iload_n hx hb dX5_writes_23 rfl (lv_at hl 1 rfl) ?_
    refine lv_aload_n hx hb dX5_writes_24 rfl (lv_at hl 0 rfl) ?_
    refine va_get (D := D) (ci := 5) (v := .ref aS) (C := RX5) (T := TX5) (N := 13) hx hb hts hin5 hown hK hP 0 rfl rfl 0 (by decide) (hts _ (List.mem_of_getElem? (i := 1) rfl)) (fun _ h9 => h9) rfl dX5_writes_25 ?_
    refine lv_bipush (v := 8) hx hb dX5_writes_28 (by decide) ?_
    refine lv_iload_n hx hb dX5_writes_30 rfl (lv_at hl 1 rfl) ?_
    refine lv_iadd hx hb dX5_writes_31 ?_
    refine st1 (nI_add 8 j) ?_
    refine n_iald hx hb hK hP 1 0 rfl rfl (8 + j) (by omega) (by decide) dX5_writes_32 ?_
    refine st1 (pk_un (by omega)) ?_
    refine st1 pk_us ?_
    refine lv_iload_n hx hb dX5_writes_33 rfl (lv_at hl 2 rfl) ?_
    refine vp_callSi (va_Run.run (va_runS (As := [.int (nI j), .int ((fS (8 + j)) + 1), .int xd]) (rest := []) ⟨hx, hb, hml, hown, hts⟩ (c_X5_sumOf l D K (nI j) ((fS (8 + j)) + 1) xd ) (va_cwS 3 hts gX5_writes_X5_sumOf rfl rfl rfl (by decide +kernel) ⟨Nat.le_of_ble_eq_true rfl, Nat.le_of_ble_eq_true rfl⟩) pre_s0 rfl rfl hl.1 rfl (lv_room (Nat.le_of_ble_eq_true rfl)) dX5_writes_34 ⟨Nat.zero_le _, Nat.zero_le _⟩)) (fun r_1 hr_1 => ?_)
    subst hr_1
    refine lv_istore_n (lv' := [(3, .int (sumF (nI j) ((fS (8 + j)) + 1) xd)), (0, .ref oM), (1, .int (nI j)), (2, .int xd)]) hx hb dX5_writes_37 rfl hl (by decide) rfl (fun ls hl => ?_)
    refine lv_iload_n hx hb dX5_writes_38 rfl (lv_at hl 2 rfl) ?_
    refine lv_iconst (v := 1) hx hb dX5_writes_39 (by decide) ?_
    refine lv_iadd hx hb dX5_writes_40 ?_
    refine st1 (nI_add j 1) ?_
    refine lv_aload_n hx hb dX5_writes_41 rfl (lv_at hl 1 rfl) ?_
    refine va_get (D := D) (ci := 5) (v := .ref aS) (C := RX5) (T := TX5) (N := 13) hx hb hts hin5 hown hK hP 0 rfl rfl 0 (by decide) (hts _ (List.mem_of_getElem? (i := 1) rfl)) (fun _ h9 => h9) rfl dX5_writes_42 ?_
    refine lv_iconst (v := 0) hx hb dX5_writes_45 (by decide) ?_
    refine n_iald hx hb hK hP 1 0 rfl rfl 0 (by omega) (by decide) dX5_writes_46 ?_
    refine st1 (pk_un (by omega)) ?_
    refine st1 (pk_un (by omega)) ?_
    refine st1 hs0 ?_
    refine lv_irem hx hb dX5_writes_47 (nI_ne0 (by omega) (by omega)) ?_
    refine st1 (hiP_eq hjn hn) ?_
    refine lv_istore (lv' := [(4, .int (nI (nxP j n))), (3, .int (sumF (nI j) ((fS (8 + j)) + 1) xd)), (0, .ref oM), (1, .int (nI j)), (2, .int xd)]) hx hb dX5_writes_48  hl (by decide) rfl (fun ls hl => ?_)
    refine lv_iconst (v := 0) hx hb dX5_writes_50 (by decide) ?_
    refine lv_istore (lv' := [(5, .int 0), (4, .int (nI (nxP j n))), (3, .int (sumF (nI j) ((fS (8 + j)) + 1) xd)), (0, .ref oM), (1, .int (nI j)), (2, .int xd)]) hx hb dX5_writes_51  hl (by decide) rfl (fun ls hl => ?_)
    have L_2 : ∀ (nf : Nat) (sg : Nat), 2 - sg < nf → sg ≤ 2 → ∀ (H : Heap) (locs : List Loc) (ls : Array Slot), va_P D vwCl [(oM, .inr (5, [.ref aS, .ref aA, .ref aB, .int (nI kn), .ref aT, .ref aV, .ref aP, .int (nI ln), .int pl, .int wr, .int le, .int on, .int tw])), (aS, .inl (K 0, 360, .inl (wrI (upd (upd fS (8 + j) ((fS (8 + j)) + 1)) 3 ((fS 3) + 1)) j (nxP j n) xd (sumF (nI j) ((fS (8 + j)) + 1) xd) sg))), (aA, .inl (K 0, 360, .inl fA)), (aB, .inl (K 0, 2160, .inl fB)), (aT, .inl (K 0, 720, .inl fT)), (aV, .inl (K 2, 2, .inl fV)), (aP, .inl (K 0, 80, .inl fP))] H → va_D A [(oM, .inr (5, [.ref aS, .ref aA, .ref aB, .int (nI kn), .ref aT, .ref aV, .ref aP, .int (nI ln), .int pl, .int wr, .int le, .int on, .int tw])), (aS, .inl (K 0, 360, .inl (wrI (upd (upd fS (8 + j) ((fS (8 + j)) + 1)) 3 ((fS 3) + 1)) j (nxP j n) xd (sumF (nI j) ((fS (8 + j)) + 1) xd) sg))), (aA, .inl (K 0, 360, .inl fA)), (aB, .inl (K 0, 2160, .inl fB)), (aT, .inl (K 0, 720, .inl fT)), (aV, .inl (K 2, 2, .inl fV)), (aP, .inl (K 0, 80, .inl fP))] → va_S A s.heap H locs → lv_has ls 7 [(5, .int (nI sg)), (4, .int (nI (nxP j n))), (3, .int (sumF (nI j) ((fS (8 + j)) + 1) xd)), (0, .ref oM), (1, .int (nI j)), (2, .int xd)] → W p l e (headSpec wsX5_writes ({ frames := 2, cells := 0, slots := 0, locals := 47 })).room s m ([.ref oM, .int (nI j), .int xd] : List Value).toArray below meth c H locs 0 0 (MQ below (va_Qi (fun r (_ : Unit) => r = ((wrF fS j (nxP j n) xd) (8 + j))) (fun _ t => va_P D vwCl [(oM, .inr (5, [.ref aS, .ref aA, .ref aB, .int (nI kn), .ref aT, .ref aV, .ref aP, .int (nI ln), .int pl, .int wr, .int le, .int on, .int tw])), (aS, .inl (K 0, 360, .inl (wrF fS j (nxP j n) xd))), (aA, .inl (K 0, 360, .inl fA)), (aB, .inl (K 0, 2160, .inl fB)), (aT, .inl (K 0, 720, .inl fT)), (aV, .inl (K 2, 2, .inl fV)), (aP, .inl (K 0, 80, .inl fP))] t.heap) A) ([.ref oM, .int (nI j), .int xd] : List Value).toArray s 0 0 A) (F0 m 53 ls []) := by
      intro nf
      induction nf with
      | zero =>
        intro sg hm
        exact absurd hm (Nat.not_lt_zero _)
      | succ nf ih =>
        intro sg hm hsg H locs ls hP hD hS hl
        refine lv_iload hx hb dX5_writes_53 (lv_at hl 0 rfl) ?_
        refine lv_iconst (v := 2) hx hb dX5_writes_55 (by decide) ?_
        refine lv_icmp_ge (tgt := 147) hx hb dX5_writes_56 (by decide) (fun c_3 => ?_) (fun c_3 => ?_)
        · skip
          have nc_3 := (nI_leI (a := 2) (b := sg) (by omega) (by omega)).mp c_3
          have e9 : sg = 2 := by omega
          subst e9
          refine lv_aload_n hx hb dX5_writes_147 rfl (lv_at hl 3 rfl) ?_
          refine va_get (D := D) (ci := 5) (v := .ref aS) (C := RX5) (T := TX5) (N := 13) hx hb hts hin5 hown hK hP 0 rfl rfl 0 (by decide) (hts _ (List.mem_of_getElem? (i := 1) rfl)) (fun _ h9 => h9) rfl dX5_writes_148 ?_
          refine lv_bipush (v := 8) hx hb dX5_writes_151 (by decide) ?_
          refine lv_iload_n hx hb dX5_writes_153 rfl (lv_at hl 4 rfl) ?_
          refine lv_iadd hx hb dX5_writes_154 ?_
          refine st1 (nI_add 8 j) ?_
          refine n_iald hx hb hK hP 1 0 rfl rfl (8 + j) (by omega) (by decide) dX5_writes_155 ?_
          have hPf : va_P D vwCl [(oM, .inr (5, [.ref aS, .ref aA, .ref aB, .int (nI kn), .ref aT, .ref aV, .ref aP, .int (nI ln), .int pl, .int wr, .int le, .int on, .int tw])), (aS, .inl (K 0, 360, .inl (wrF fS j (nxP j n) xd))), (aA, .inl (K 0, 360, .inl fA)), (aB, .inl (K 0, 2160, .inl fB)), (aT, .inl (K 0, 720, .inl fT)), (aV, .inl (K 2, 2, .inl fV)), (aP, .inl (K 0, 80, .inl fP))] H := hP
          exact W.iret hx hb hr (fun t ht hW => ⟨⟨_, (), rfl, rfl, by show va_P D vwCl _ t.heap; rw [ht]; exact hPf⟩, hS.F ht⟩) hS.2.2 dX5_writes_156
        · skip
          have nc_3 : ¬ (2 ≤ sg) := fun h => c_3 ((nI_leI (a := 2) (b := sg) (by omega) (by omega)).mpr h)
          refine lv_aload_n hx hb dX5_writes_59 rfl (lv_at hl 3 rfl) ?_
          refine va_get (D := D) (ci := 5) (v := .ref aS) (C := RX5) (T := TX5) (N := 13) hx hb hts hin5 hown hK hP 0 rfl rfl 0 (by decide) (hts _ (List.mem_of_getElem? (i := 1) rfl)) (fun _ h9 => h9) rfl dX5_writes_60 ?_
          refine lv_iconst (v := 1) hx hb dX5_writes_63 (by decide) ?_
          refine lv_iload hx hb dX5_writes_64 (lv_at hl 0 rfl) ?_
          refine lv_iadd hx hb dX5_writes_66 ?_
          refine st1 (nI_add 1 sg) ?_
          refine n_iald hx hb hK hP 1 0 rfl rfl (1 + sg) (by omega) (by decide) dX5_writes_67 ?_
          refine lv_istore (lv' := [(6, .int ((wrI (upd (upd fS (8 + j) ((fS (8 + j)) + 1)) 3 ((fS 3) + 1)) j (nxP j n) xd (sumF (nI j) ((fS (8 + j)) + 1) xd) sg) (1 + sg))), (5, .int (nI sg)), (4, .int (nI (nxP j n))), (3, .int (sumF (nI j) ((fS (8 + j)) + 1) xd)), (0, .ref oM), (1, .int (nI j)), (2, .int xd)]) hx hb dX5_writes_68  hl (by decide) rfl (fun ls hl => ?_)
          refine lv_aload_n hx hb dX5_writes_70 rfl (lv_at hl 4 rfl) ?_
          refine va_get (D := D) (ci := 5) (v := .ref aS) (C := RX5) (T := TX5) (N := 13) hx hb hts hin5 hown hK hP 0 rfl rfl 0 (by decide) (hts _ (List.mem_of_getElem? (i := 1) rfl)) (fun _ h9 => h9) rfl dX5_writes_71 ?_
          refine lv_iconst (v := 1) hx hb dX5_writes_74 (by decide) ?_
          refine lv_iload hx hb dX5_writes_75 (lv_at hl 1 rfl) ?_
          refine lv_iadd hx hb dX5_writes_77 ?_
          refine st1 (nI_add 1 sg) ?_
          refine lv_iconst (v := 0) hx hb dX5_writes_78 (by decide) ?_
          refine n_iast hx hb hK hP hD hS 1 0 rfl rfl (1 + sg) (by omega) (by decide) dX5_writes_79 (fun H locs hP hD hS => ?_)
          have hP : va_P D vwCl [(oM, .inr (5, [.ref aS, .ref aA, .ref aB, .int (nI kn), .ref aT, .ref aV, .ref aP, .int (nI ln), .int pl, .int wr, .int le, .int on, .int tw])), (aS, .inl (K 0, 360, .inl (upd (wrI (upd (upd fS (8 + j) ((fS (8 + j)) + 1)) 3 ((fS 3) + 1)) j (nxP j n) xd (sumF (nI j) ((fS (8 + j)) + 1) xd) sg) (1 + sg) 0))), (aA, .inl (K 0, 360, .inl fA)), (aB, .inl (K 0, 2160, .inl fB)), (aT, .inl (K 0, 720, .inl fT)), (aV, .inl (K 2, 2, .inl fV)), (aP, .inl (K 0, 80, .inl fP))] H := hP
          have hD : va_D A [(oM, .inr (5, [.ref aS, .ref aA, .ref aB, .int (nI kn), .ref aT, .ref aV, .ref aP, .int (nI ln), .int pl, .int wr, .int le, .int on, .int tw])), (aS, .inl (K 0, 360, .inl (upd (wrI (upd (upd fS (8 + j) ((fS (8 + j)) + 1)) 3 ((fS 3) + 1)) j (nxP j n) xd (sumF (nI j) ((fS (8 + j)) + 1) xd) sg) (1 + sg) 0))), (aA, .inl (K 0, 360, .inl fA)), (aB, .inl (K 0, 2160, .inl fB)), (aT, .inl (K 0, 720, .inl fT)), (aV, .inl (K 2, 2, .inl fV)), (aP, .inl (K 0, 80, .inl fP))] := hD
          refine lv_iload hx hb dX5_writes_80 (lv_at hl 0 rfl) ?_
          refine lv_iconst (v := 1) hx hb dX5_writes_82 (by decide) ?_
          have K_17 : ∀ (H : Heap) (locs : List Loc) (ls : Array Slot), va_P D vwCl [(oM, .inr (5, [.ref aS, .ref aA, .ref aB, .int (nI kn), .ref aT, .ref aV, .ref aP, .int (nI ln), .int pl, .int wr, .int le, .int on, .int tw])), (aS, .inl (K 0, 360, .inl (if ((wrI (upd (upd fS (8 + j) ((fS (8 + j)) + 1)) 3 ((fS 3) + 1)) j (nxP j n) xd (sumF (nI j) ((fS (8 + j)) + 1) xd) sg) (1 + sg)) = 1 then (upd (wrI (upd (upd fS (8 + j) ((fS (8 + j)) + 1)) 3 ((fS 3) + 1)) j (nxP j n) xd (sumF (nI j) ((fS (8 + j)) + 1) xd) sg) (1 + sg) 0) else (if ((wrI (upd (upd fS (8 + j) ((fS (8 + j)) + 1)) 3 ((fS 3) + 1)) j (nxP j n) xd (sumF (nI j) ((fS (8 + j)) + 1) xd) sg) (1 + sg)) = 2 then (upd (wrI (upd (upd fS (8 + j) ((fS (8 + j)) + 1)) 3 ((fS 3) + 1)) j (nxP j n) xd (sumF (nI j) ((fS (8 + j)) + 1) xd) sg) (1 + sg) 0) else (n_X5_lay_1 (upd (wrI (upd (upd fS (8 + j) ((fS (8 + j)) + 1)) 3 ((fS 3) + 1)) j (nxP j n) xd (sumF (nI j) ((fS (8 + j)) + 1) xd) sg) (1 + sg) 0) sg j j (if ((wrI (upd (upd fS (8 + j) ((fS (8 + j)) + 1)) 3 ((fS 3) + 1)) j (nxP j n) xd (sumF (nI j) ((fS (8 + j)) + 1) xd) sg) (1 + sg)) = 4 then ((xd + 1) - (xd + 1) / 10000 * 10000) else xd) (sumF (nI j) ((fS (8 + j)) + 1) xd)))))), (aA, .inl (K 0, 360, .inl fA)), (aB, .inl (K 0, 2160, .inl fB)), (aT, .inl (K 0, 720, .inl fT)), (aV, .inl (K 2, 2, .inl fV)), (aP, .inl (K 0, 80, .inl fP))] H → va_D A [(oM, .inr (5, [.ref aS, .ref aA, .ref aB, .int (nI kn), .ref aT, .ref aV, .ref aP, .int (nI ln), .int pl, .int wr, .int le, .int on, .int tw])), (aS, .inl (K 0, 360, .inl (if ((wrI (upd (upd fS (8 + j) ((fS (8 + j)) + 1)) 3 ((fS 3) + 1)) j (nxP j n) xd (sumF (nI j) ((fS (8 + j)) + 1) xd) sg) (1 + sg)) = 1 then (upd (wrI (upd (upd fS (8 + j) ((fS (8 + j)) + 1)) 3 ((fS 3) + 1)) j (nxP j n) xd (sumF (nI j) ((fS (8 + j)) + 1) xd) sg) (1 + sg) 0) else (if ((wrI (upd (upd fS (8 + j) ((fS (8 + j)) + 1)) 3 ((fS 3) + 1)) j (nxP j n) xd (sumF (nI j) ((fS (8 + j)) + 1) xd) sg) (1 + sg)) = 2 then (upd (wrI (upd (upd fS (8 + j) ((fS (8 + j)) + 1)) 3 ((fS 3) + 1)) j (nxP j n) xd (sumF (nI j) ((fS (8 + j)) + 1) xd) sg) (1 + sg) 0) else (n_X5_lay_1 (upd (wrI (upd (upd fS (8 + j) ((fS (8 + j)) + 1)) 3 ((fS 3) + 1)) j (nxP j n) xd (sumF (nI j) ((fS (8 + j)) + 1) xd) sg) (1 + sg) 0) sg j j (if ((wrI (upd (upd fS (8 + j) ((fS (8 + j)) + 1)) 3 ((fS 3) + 1)) j (nxP j n) xd (sumF (nI j) ((fS (8 + j)) + 1) xd) sg) (1 + sg)) = 4 then ((xd + 1) - (xd + 1) / 10000 * 10000) else xd) (sumF (nI j) ((fS (8 + j)) + 1) xd)))))), (aA, .inl (K 0, 360, .inl fA)), (aB, .inl (K 0, 2160, .inl fB)), (aT, .inl (K 0, 720, .inl fT)), (aV, .inl (K 2, 2, .inl fV)), (aP, .inl (K 0, 80, .inl fP))] → va_S A s.heap H locs → lv_has ls 7 [(6, .int ((wrI (upd (upd fS (8 + j) ((fS (8 + j)) + 1)) 3 ((fS 3) + 1)) j (nxP j n) xd (sumF (nI j) ((fS (8 + j)) + 1) xd) sg) (1 + sg))), (5, .int (nI sg)), (4, .int (nI (nxP j n))), (3, .int (sumF (nI j) ((fS (8 + j)) + 1) xd)), (0, .ref oM), (1, .int (nI j)), (2, .int xd)] → W p l e (headSpec wsX5_writes ({ frames := 2, cells := 0, slots := 0, locals := 47 })).room s m ([.ref oM, .int (nI j), .int xd] : List Value).toArray below meth c H locs 0 0 (MQ below (va_Qi (fun r (_ : Unit) => r = ((wrF fS j (nxP j n) xd) (8 + j))) (fun _ t => va_P D vwCl [(oM, .inr (5, [.ref aS, .ref aA, .ref aB, .int (nI kn), .ref aT, .ref aV, .ref aP, .int (nI ln), .int pl, .int wr, .int le, .int on, .int tw])), (aS, .inl (K 0, 360, .inl (wrF fS j (nxP j n) xd))), (aA, .inl (K 0, 360, .inl fA)), (aB, .inl (K 0, 2160, .inl fB)), (aT, .inl (K 0, 720, .inl fT)), (aV, .inl (K 2, 2, .inl fV)), (aP, .inl (K 0, 80, .inl fP))] t.heap) A) ([.ref oM, .int (nI j), .int xd] : List Value).toArray s 0 0 A) (F0 m 118 ls []) := by
            intro H locs ls hP hD hS hl
            refine lv_iload hx hb dX5_writes_118 (lv_at hl 0 rfl) ?_
            refine lv_iconst (v := 2) hx hb dX5_writes_120 (by decide) ?_
            have K_20 : ∀ (H : Heap) (locs : List Loc) (ls : Array Slot), va_P D vwCl [(oM, .inr (5, [.ref aS, .ref aA, .ref aB, .int (nI kn), .ref aT, .ref aV, .ref aP, .int (nI ln), .int pl, .int wr, .int le, .int on, .int tw])), (aS, .inl (K 0, 360, .inl (if ((wrI (upd (upd fS (8 + j) ((fS (8 + j)) + 1)) 3 ((fS 3) + 1)) j (nxP j n) xd (sumF (nI j) ((fS (8 + j)) + 1) xd) sg) (1 + sg)) = 2 then (n_X5_lay_1 (if ((wrI (upd (upd fS (8 + j) ((fS (8 + j)) + 1)) 3 ((fS 3) + 1)) j (nxP j n) xd (sumF (nI j) ((fS (8 + j)) + 1) xd) sg) (1 + sg)) = 1 then (upd (wrI (upd (upd fS (8 + j) ((fS (8 + j)) + 1)) 3 ((fS 3) + 1)) j (nxP j n) xd (sumF (nI j) ((fS (8 + j)) + 1) xd) sg) (1 + sg) 0) else (if ((wrI (upd (upd fS (8 + j) ((fS (8 + j)) + 1)) 3 ((fS 3) + 1)) j (nxP j n) xd (sumF (nI j) ((fS (8 + j)) + 1) xd) sg) (1 + sg)) = 2 then (upd (wrI (upd (upd fS (8 + j) ((fS (8 + j)) + 1)) 3 ((fS 3) + 1)) j (nxP j n) xd (sumF (nI j) ((fS (8 + j)) + 1) xd) sg) (1 + sg) 0) else (n_X5_lay_1 (upd (wrI (upd (upd fS (8 + j) ((fS (8 + j)) + 1)) 3 ((fS 3) + 1)) j (nxP j n) xd (sumF (nI j) ((fS (8 + j)) + 1) xd) sg) (1 + sg) 0) sg j j (if ((wrI (upd (upd fS (8 + j) ((fS (8 + j)) + 1)) 3 ((fS 3) + 1)) j (nxP j n) xd (sumF (nI j) ((fS (8 + j)) + 1) xd) sg) (1 + sg)) = 4 then ((xd + 1) - (xd + 1) / 10000 * 10000) else xd) (sumF (nI j) ((fS (8 + j)) + 1) xd)))) sg (nxP j n) j xd (sumF (nI j) ((fS (8 + j)) + 1) xd)) else (if ((wrI (upd (upd fS (8 + j) ((fS (8 + j)) + 1)) 3 ((fS 3) + 1)) j (nxP j n) xd (sumF (nI j) ((fS (8 + j)) + 1) xd) sg) (1 + sg)) = 3 then (n_X5_lay_1 (if ((wrI (upd (upd fS (8 + j) ((fS (8 + j)) + 1)) 3 ((fS 3) + 1)) j (nxP j n) xd (sumF (nI j) ((fS (8 + j)) + 1) xd) sg) (1 + sg)) = 1 then (upd (wrI (upd (upd fS (8 + j) ((fS (8 + j)) + 1)) 3 ((fS 3) + 1)) j (nxP j n) xd (sumF (nI j) ((fS (8 + j)) + 1) xd) sg) (1 + sg) 0) else (if ((wrI (upd (upd fS (8 + j) ((fS (8 + j)) + 1)) 3 ((fS 3) + 1)) j (nxP j n) xd (sumF (nI j) ((fS (8 + j)) + 1) xd) sg) (1 + sg)) = 2 then (upd (wrI (upd (upd fS (8 + j) ((fS (8 + j)) + 1)) 3 ((fS 3) + 1)) j (nxP j n) xd (sumF (nI j) ((fS (8 + j)) + 1) xd) sg) (1 + sg) 0) else (n_X5_lay_1 (upd (wrI (upd (upd fS (8 + j) ((fS (8 + j)) + 1)) 3 ((fS 3) + 1)) j (nxP j n) xd (sumF (nI j) ((fS (8 + j)) + 1) xd) sg) (1 + sg) 0) sg j j (if ((wrI (upd (upd fS (8 + j) ((fS (8 + j)) + 1)) 3 ((fS 3) + 1)) j (nxP j n) xd (sumF (nI j) ((fS (8 + j)) + 1) xd) sg) (1 + sg)) = 4 then ((xd + 1) - (xd + 1) / 10000 * 10000) else xd) (sumF (nI j) ((fS (8 + j)) + 1) xd)))) sg (nxP j n) j xd (sumF (nI j) ((fS (8 + j)) + 1) xd)) else (if ((wrI (upd (upd fS (8 + j) ((fS (8 + j)) + 1)) 3 ((fS 3) + 1)) j (nxP j n) xd (sumF (nI j) ((fS (8 + j)) + 1) xd) sg) (1 + sg)) = 1 then (upd (wrI (upd (upd fS (8 + j) ((fS (8 + j)) + 1)) 3 ((fS 3) + 1)) j (nxP j n) xd (sumF (nI j) ((fS (8 + j)) + 1) xd) sg) (1 + sg) 0) else (if ((wrI (upd (upd fS (8 + j) ((fS (8 + j)) + 1)) 3 ((fS 3) + 1)) j (nxP j n) xd (sumF (nI j) ((fS (8 + j)) + 1) xd) sg) (1 + sg)) = 2 then (upd (wrI (upd (upd fS (8 + j) ((fS (8 + j)) + 1)) 3 ((fS 3) + 1)) j (nxP j n) xd (sumF (nI j) ((fS (8 + j)) + 1) xd) sg) (1 + sg) 0) else (n_X5_lay_1 (upd (wrI (upd (upd fS (8 + j) ((fS (8 + j)) + 1)) 3 ((fS 3) + 1)) j (nxP j n) xd (sumF (nI j) ((fS (8 + j)) + 1) xd) sg) (1 + sg) 0) sg j j (if ((wrI (upd (upd fS (8 + j) ((fS (8 + j)) + 1)) 3 ((fS 3) + 1)) j (nxP j n) xd (sumF (nI j) ((fS (8 + j)) + 1) xd) sg) (1 + sg)) = 4 then ((xd + 1) - (xd + 1) / 10000 * 10000) else xd) (sumF (nI j) ((fS (8 + j)) + 1) xd)))))))), (aA, .inl (K 0, 360, .inl fA)), (aB, .inl (K 0, 2160, .inl fB)), (aT, .inl (K 0, 720, .inl fT)), (aV, .inl (K 2, 2, .inl fV)), (aP, .inl (K 0, 80, .inl fP))] H → va_D A [(oM, .inr (5, [.ref aS, .ref aA, .ref aB, .int (nI kn), .ref aT, .ref aV, .ref aP, .int (nI ln), .int pl, .int wr, .int le, .int on, .int tw])), (aS, .inl (K 0, 360, .inl (if ((wrI (upd (upd fS (8 + j) ((fS (8 + j)) + 1)) 3 ((fS 3) + 1)) j (nxP j n) xd (sumF (nI j) ((fS (8 + j)) + 1) xd) sg) (1 + sg)) = 2 then (n_X5_lay_1 (if ((wrI (upd (upd fS (8 + j) ((fS (8 + j)) + 1)) 3 ((fS 3) + 1)) j (nxP j n) xd (sumF (nI j) ((fS (8 + j)) + 1) xd) sg) (1 + sg)) = 1 then (upd (wrI (upd (upd fS (8 + j) ((fS (8 + j)) + 1)) 3 ((fS 3) + 1)) j (nxP j n) xd (sumF (nI j) ((fS (8 + j)) + 1) xd) sg) (1 + sg) 0) else (if ((wrI (upd (upd fS (8 + j) ((fS (8 + j)) + 1)) 3 ((fS 3) + 1)) j (nxP j n) xd (sumF (nI j) ((fS (8 + j)) + 1) xd) sg) (1 + sg)) = 2 then (upd (wrI (upd (upd fS (8 + j) ((fS (8 + j)) + 1)) 3 ((fS 3) + 1)) j (nxP j n) xd (sumF (nI j) ((fS (8 + j)) + 1) xd) sg) (1 + sg) 0) else (n_X5_lay_1 (upd (wrI (upd (upd fS (8 + j) ((fS (8 + j)) + 1)) 3 ((fS 3) + 1)) j (nxP j n) xd (sumF (nI j) ((fS (8 + j)) + 1) xd) sg) (1 + sg) 0) sg j j (if ((wrI (upd (upd fS (8 + j) ((fS (8 + j)) + 1)) 3 ((fS 3) + 1)) j (nxP j n) xd (sumF (nI j) ((fS (8 + j)) + 1) xd) sg) (1 + sg)) = 4 then ((xd + 1) - (xd + 1) / 10000 * 10000) else xd) (sumF (nI j) ((fS (8 + j)) + 1) xd)))) sg (nxP j n) j xd (sumF (nI j) ((fS (8 + j)) + 1) xd)) else (if ((wrI (upd (upd fS (8 + j) ((fS (8 + j)) + 1)) 3 ((fS 3) + 1)) j (nxP j n) xd (sumF (nI j) ((fS (8 + j)) + 1) xd) sg) (1 + sg)) = 3 then (n_X5_lay_1 (if ((wrI (upd (upd fS (8 + j) ((fS (8 + j)) + 1)) 3 ((fS 3) + 1)) j (nxP j n) xd (sumF (nI j) ((fS (8 + j)) + 1) xd) sg) (1 + sg)) = 1 then (upd (wrI (upd (upd fS (8 + j) ((fS (8 + j)) + 1)) 3 ((fS 3) + 1)) j (nxP j n) xd (sumF (nI j) ((fS (8 + j)) + 1) xd) sg) (1 + sg) 0) else (if ((wrI (upd (upd fS (8 + j) ((fS (8 + j)) + 1)) 3 ((fS 3) + 1)) j (nxP j n) xd (sumF (nI j) ((fS (8 + j)) + 1) xd) sg) (1 + sg)) = 2 then (upd (wrI (upd (upd fS (8 + j) ((fS (8 + j)) + 1)) 3 ((fS 3) + 1)) j (nxP j n) xd (sumF (nI j) ((fS (8 + j)) + 1) xd) sg) (1 + sg) 0) else (n_X5_lay_1 (upd (wrI (upd (upd fS (8 + j) ((fS (8 + j)) + 1)) 3 ((fS 3) + 1)) j (nxP j n) xd (sumF (nI j) ((fS (8 + j)) + 1) xd) sg) (1 + sg) 0) sg j j (if ((wrI (upd (upd fS (8 + j) ((fS (8 + j)) + 1)) 3 ((fS 3) + 1)) j (nxP j n) xd (sumF (nI j) ((fS (8 + j)) + 1) xd) sg) (1 + sg)) = 4 then ((xd + 1) - (xd + 1) / 10000 * 10000) else xd) (sumF (nI j) ((fS (8 + j)) + 1) xd)))) sg (nxP j n) j xd (sumF (nI j) ((fS (8 + j)) + 1) xd)) else (if ((wrI (upd (upd fS (8 + j) ((fS (8 + j)) + 1)) 3 ((fS 3) + 1)) j (nxP j n) xd (sumF (nI j) ((fS (8 + j)) + 1) xd) sg) (1 + sg)) = 1 then (upd (wrI (upd (upd fS (8 + j) ((fS (8 + j)) + 1)) 3 ((fS 3) + 1)) j (nxP j n) xd (sumF (nI j) ((fS (8 + j)) + 1) xd) sg) (1 + sg) 0) else (if ((wrI (upd (upd fS (8 + j) ((fS (8 + j)) + 1)) 3 ((fS 3) + 1)) j (nxP j n) xd (sumF (nI j) ((fS (8 + j)) + 1) xd) sg) (1 + sg)) = 2 then (upd (wrI (upd (upd fS (8 + j) ((fS (8 + j)) + 1)) 3 ((fS 3) + 1)) j (nxP j n) xd (sumF (nI j) ((fS (8 + j)) + 1) xd) sg) (1 + sg) 0) else (n_X5_lay_1 (upd (wrI (upd (upd fS (8 + j) ((fS (8 + j)) + 1)) 3 ((fS 3) + 1)) j (nxP j n) xd (sumF (nI j) ((fS (8 + j)) + 1) xd) sg) (1 + sg) 0) sg j j (if ((wrI (upd (upd fS (8 + j) ((fS (8 + j)) + 1)) 3 ((fS 3) + 1)) j (nxP j n) xd (sumF (nI j) ((fS (8 + j)) + 1) xd) sg) (1 + sg)) = 4 then ((xd + 1) - (xd + 1) / 10000 * 10000) else xd) (sumF (nI j) ((fS (8 + j)) + 1) xd)))))))), (aA, .inl (K 0, 360, .inl fA)), (aB, .inl (K 0, 2160, .inl fB)), (aT, .inl (K 0, 720, .inl fT)), (aV, .inl (K 2, 2, .inl fV)), (aP, .inl (K 0, 80, .inl fP))] → va_S A s.heap H locs → lv_has ls 7 [(6, .int ((wrI (upd (upd fS (8 + j) ((fS (8 + j)) + 1)) 3 ((fS 3) + 1)) j (nxP j n) xd (sumF (nI j) ((fS (8 + j)) + 1) xd) sg) (1 + sg))), (5, .int (nI sg)), (4, .int (nI (nxP j n))), (3, .int (sumF (nI j) ((fS (8 + j)) + 1) xd)), (0, .ref oM), (1, .int (nI j)), (2, .int xd)] → W p l e (headSpec wsX5_writes ({ frames := 2, cells := 0, slots := 0, locals := 47 })).room s m ([.ref oM, .int (nI j), .int xd] : List Value).toArray below meth c H locs 0 0 (MQ below (va_Qi (fun r (_ : Unit) => r = ((wrF fS j (nxP j n) xd) (8 + j))) (fun _ t => va_P D vwCl [(oM, .inr (5, [.ref aS, .ref aA, .ref aB, .int (nI kn), .ref aT, .ref aV, .ref aP, .int (nI ln), .int pl, .int wr, .int le, .int on, .int tw])), (aS, .inl (K 0, 360, .inl (wrF fS j (nxP j n) xd))), (aA, .inl (K 0, 360, .inl fA)), (aB, .inl (K 0, 2160, .inl fB)), (aT, .inl (K 0, 720, .inl fT)), (aV, .inl (K 2, 2, .inl fV)), (aP, .inl (K 0, 80, .inl fP))] t.heap) A) ([.ref oM, .int (nI j), .int xd] : List Value).toArray s 0 0 A) (F0 m 141 ls []) := by
              intro H locs ls hP hD hS hl
              refine lv_iinc (v := (nI (sg + 1))) (lv' := [(5, .int (nI (sg + 1))), (6, .int ((wrI (upd (upd fS (8 + j) ((fS (8 + j)) + 1)) 3 ((fS 3) + 1)) j (nxP j n) xd (sumF (nI j) ((fS (8 + j)) + 1) xd) sg) (1 + sg))), (4, .int (nI (nxP j n))), (3, .int (sumF (nI j) ((fS (8 + j)) + 1) xd)), (0, .ref oM), (1, .int (nI j)), (2, .int xd)]) hx hb dX5_writes_141 hl (k := 1) rfl (nI_add sg 1) (by decide) rfl (fun ls hl => ?_)
              refine lv_goto (tgt := 53) hx hb dX5_writes_144 (by decide) ?_
              exact ih (sg + 1) (by omega) (by omega) _ _ _ hP hD hS (lv_sub hl [0, 2, 3, 4, 5, 6] rfl)
            refine lv_icmp_eq (tgt := 130) hx hb dX5_writes_121 (by decide) (fun c_18 => ?_) (fun c_18 => ?_)
            · skip
              refine lv_aload_n hx hb dX5_writes_130 rfl (lv_at hl 4 rfl) ?_
              refine lv_iload hx hb dX5_writes_131 (lv_at hl 1 rfl) ?_
              refine lv_iload hx hb dX5_writes_133 (lv_at hl 2 rfl) ?_
              refine lv_iload_n hx hb dX5_writes_135 rfl (lv_at hl 5 rfl) ?_
              refine lv_iload_n hx hb dX5_writes_136 rfl (lv_at hl 6 rfl) ?_
              refine lv_iload_n hx hb dX5_writes_137 rfl (lv_at hl 3 rfl) ?_
              have hPc := hP.sub (ws' := [(oM, .inr (5, [.ref aS, .ref aA, .ref aB, .int (nI kn), .ref aT, .ref aV, .ref aP, .int (nI ln), .int pl, .int wr, .int le, .int on, .int tw])), (aS, .inl (K 0, 360, .inl (if ((wrI (upd (upd fS (8 + j) ((fS (8 + j)) + 1)) 3 ((fS 3) + 1)) j (nxP j n) xd (sumF (nI j) ((fS (8 + j)) + 1) xd) sg) (1 + sg)) = 1 then (upd (wrI (upd (upd fS (8 + j) ((fS (8 + j)) + 1)) 3 ((fS 3) + 1)) j (nxP j n) xd (sumF (nI j) ((fS (8 + j)) + 1) xd) sg) (1 + sg) 0) else (if ((wrI (upd (upd fS (8 + j) ((fS (8 + j)) + 1)) 3 ((fS 3) + 1)) j (nxP j n) xd (sumF (nI j) ((fS (8 + j)) + 1) xd) sg) (1 + sg)) = 2 then (upd (wrI (upd (upd fS (8 + j) ((fS (8 + j)) + 1)) 3 ((fS 3) + 1)) j (nxP j n) xd (sumF (nI j) ((fS (8 + j)) + 1) xd) sg) (1 + sg) 0) else (n_X5_lay_1 (upd (wrI (upd (upd fS (8 + j) ((fS (8 + j)) + 1)) 3 ((fS 3) + 1)) j (nxP j n) xd (sumF (nI j) ((fS (8 + j)) + 1) xd) sg) (1 + sg) 0) sg j j (if ((wrI (upd (upd fS (8 + j) ((fS (8 + j)) + 1)) 3 ((fS 3) + 1)) j (nxP j n) xd (sumF (nI j) ((fS (8 + j)) + 1) xd) sg) (1 + sg)) = 4 then ((xd + 1) - (xd + 1) / 10000 * 10000) else xd) (sumF (nI j) ((fS (8 + j)) + 1) xd)))))), (aA, .inl (K 0, 360, .inl fA)), (aB, .inl (K 0, 2160, .inl fB)), (aT, .inl (K 0, 720, .inl fT)), (aV, .inl (K 2, 2, .inl fV)), (aP, .inl (K 0, 80, .inl fP))]) [0, 1, 2, 3, 4, 5, 6] rfl
              have hDc : va_D (fun _ => True) [(oM, .inr (5, [.ref aS, .ref aA, .ref aB, .int (nI kn), .ref aT, .ref aV, .ref aP, .int (nI ln), .int pl, .int wr, .int le, .int on, .int tw])), (aS, .inl (K 0, 360, .inl (if ((wrI (upd (upd fS (8 + j) ((fS (8 + j)) + 1)) 3 ((fS 3) + 1)) j (nxP j n) xd (sumF (nI j) ((fS (8 + j)) + 1) xd) sg) (1 + sg)) = 1 then (upd (wrI (upd (upd fS (8 + j) ((fS (8 + j)) + 1)) 3 ((fS 3) + 1)) j (nxP j n) xd (sumF (nI j) ((fS (8 + j)) + 1) xd) sg) (1 + sg) 0) else (if ((wrI (upd (upd fS (8 + j) ((fS (8 + j)) + 1)) 3 ((fS 3) + 1)) j (nxP j n) xd (sumF (nI j) ((fS (8 + j)) + 1) xd) sg) (1 + sg)) = 2 then (upd (wrI (upd (upd fS (8 + j) ((fS (8 + j)) + 1)) 3 ((fS 3) + 1)) j (nxP j n) xd (sumF (nI j) ((fS (8 + j)) + 1) xd) sg) (1 + sg) 0) else (n_X5_lay_1 (upd (wrI (upd (upd fS (8 + j) ((fS (8 + j)) + 1)) 3 ((fS 3) + 1)) j (nxP j n) xd (sumF (nI j) ((fS (8 + j)) + 1) xd) sg) (1 + sg) 0) sg j j (if ((wrI (upd (upd fS (8 + j) ((fS (8 + j)) + 1)) 3 ((fS 3) + 1)) j (nxP j n) xd (sumF (nI j) ((fS (8 + j)) + 1) xd) sg) (1 + sg)) = 4 then ((xd + 1) - (xd + 1) / 10000 * 10000) else xd) (sumF (nI j) ((fS (8 + j)) + 1) xd)))))), (aA, .inl (K 0, 360, .inl fA)), (aB, .inl (K 0, 2160, .inl fB)), (aT, .inl (K 0, 720, .inl fT)), (aV, .inl (K 2, 2, .inl fV)), (aP, .inl (K 0, 80, .inl fP))] := (hD.sub (ws' := [(oM, .inr (5, [.ref aS, .ref aA, .ref aB, .int (nI kn), .ref aT, .ref aV, .ref aP, .int (nI ln), .int pl, .int wr, .int le, .int on, .int tw])), (aS, .inl (K 0, 360, .inl (if ((wrI (upd (upd fS (8 + j) ((fS (8 + j)) + 1)) 3 ((fS 3) + 1)) j (nxP j n) xd (sumF (nI j) ((fS (8 + j)) + 1) xd) sg) (1 + sg)) = 1 then (upd (wrI (upd (upd fS (8 + j) ((fS (8 + j)) + 1)) 3 ((fS 3) + 1)) j (nxP j n) xd (sumF (nI j) ((fS (8 + j)) + 1) xd) sg) (1 + sg) 0) else (if ((wrI (upd (upd fS (8 + j) ((fS (8 + j)) + 1)) 3 ((fS 3) + 1)) j (nxP j n) xd (sumF (nI j) ((fS (8 + j)) + 1) xd) sg) (1 + sg)) = 2 then (upd (wrI (upd (upd fS (8 + j) ((fS (8 + j)) + 1)) 3 ((fS 3) + 1)) j (nxP j n) xd (sumF (nI j) ((fS (8 + j)) + 1) xd) sg) (1 + sg) 0) else (n_X5_lay_1 (upd (wrI (upd (upd fS (8 + j) ((fS (8 + j)) + 1)) 3 ((fS 3) + 1)) j (nxP j n) xd (sumF (nI j) ((fS (8 + j)) + 1) xd) sg) (1 + sg) 0) sg j j (if ((wrI (upd (upd fS (8 + j) ((fS (8 + j)) + 1)) 3 ((fS 3) + 1)) j (nxP j n) xd (sumF (nI j) ((fS (8 + j)) + 1) xd) sg) (1 + sg)) = 4 then ((xd + 1) - (xd + 1) / 10000 * 10000) else xd) (sumF (nI j) ((fS (8 + j)) + 1) xd)))))), (aA, .inl (K 0, 360, .inl fA)), (aB, .inl (K 0, 2160, .inl fB)), (aT, .inl (K 0, 720, .inl fT)), (aV, .inl (K 2, 2, .inl fV)), (aP, .inl (K 0, 80, .inl fP))]) [0, 1, 2, 3, 4, 5, 6] (by decide) rfl).weaken (fun _ _ _ _ => trivial)
              refine kw_v (W1 := [(oM, .inr (5, [.ref aS, .ref aA, .ref aB, .int (nI kn), .ref aT, .ref aV, .ref aP, .int (nI ln), .int pl, .int wr, .int le, .int on, .int tw])), (aS, .inl (K 0, 360, .inl (n_X5_lay_1 (if ((wrI (upd (upd fS (8 + j) ((fS (8 + j)) + 1)) 3 ((fS 3) + 1)) j (nxP j n) xd (sumF (nI j) ((fS (8 + j)) + 1) xd) sg) (1 + sg)) = 1 then (upd (wrI (upd (upd fS (8 + j) ((fS (8 + j)) + 1)) 3 ((fS 3) + 1)) j (nxP j n) xd (sumF (nI j) ((fS (8 + j)) + 1) xd) sg) (1 + sg) 0) else (if ((wrI (upd (upd fS (8 + j) ((fS (8 + j)) + 1)) 3 ((fS 3) + 1)) j (nxP j n) xd (sumF (nI j) ((fS (8 + j)) + 1) xd) sg) (1 + sg)) = 2 then (upd (wrI (upd (upd fS (8 + j) ((fS (8 + j)) + 1)) 3 ((fS 3) + 1)) j (nxP j n) xd (sumF (nI j) ((fS (8 + j)) + 1) xd) sg) (1 + sg) 0) else (n_X5_lay_1 (upd (wrI (upd (upd fS (8 + j) ((fS (8 + j)) + 1)) 3 ((fS 3) + 1)) j (nxP j n) xd (sumF (nI j) ((fS (8 + j)) + 1) xd) sg) (1 + sg) 0) sg j j (if ((wrI (upd (upd fS (8 + j) ((fS (8 + j)) + 1)) 3 ((fS 3) + 1)) j (nxP j n) xd (sumF (nI j) ((fS (8 + j)) + 1) xd) sg) (1 + sg)) = 4 then ((xd + 1) - (xd + 1) / 10000 * 10000) else xd) (sumF (nI j) ((fS (8 + j)) + 1) xd)))) sg (nxP j n) j xd (sumF (nI j) ((fS (8 + j)) + 1) xd)))), (aA, .inl (K 0, 360, .inl fA)), (aB, .inl (K 0, 2160, .inl fB)), (aT, .inl (K 0, 720, .inl fT)), (aV, .inl (K 2, 2, .inl fV)), (aP, .inl (K 0, 80, .inl fP))]) (w1 := [(oM, .inr (5, [.ref aS, .ref aA, .ref aB, .int (nI kn), .ref aT, .ref aV, .ref aP, .int (nI ln), .int pl, .int wr, .int le, .int on, .int tw])), (aS, .inl (K 0, 360, .inl (n_X5_lay_1 (if ((wrI (upd (upd fS (8 + j) ((fS (8 + j)) + 1)) 3 ((fS 3) + 1)) j (nxP j n) xd (sumF (nI j) ((fS (8 + j)) + 1) xd) sg) (1 + sg)) = 1 then (upd (wrI (upd (upd fS (8 + j) ((fS (8 + j)) + 1)) 3 ((fS 3) + 1)) j (nxP j n) xd (sumF (nI j) ((fS (8 + j)) + 1) xd) sg) (1 + sg) 0) else (if ((wrI (upd (upd fS (8 + j) ((fS (8 + j)) + 1)) 3 ((fS 3) + 1)) j (nxP j n) xd (sumF (nI j) ((fS (8 + j)) + 1) xd) sg) (1 + sg)) = 2 then (upd (wrI (upd (upd fS (8 + j) ((fS (8 + j)) + 1)) 3 ((fS 3) + 1)) j (nxP j n) xd (sumF (nI j) ((fS (8 + j)) + 1) xd) sg) (1 + sg) 0) else (n_X5_lay_1 (upd (wrI (upd (upd fS (8 + j) ((fS (8 + j)) + 1)) 3 ((fS 3) + 1)) j (nxP j n) xd (sumF (nI j) ((fS (8 + j)) + 1) xd) sg) (1 + sg) 0) sg j j (if ((wrI (upd (upd fS (8 + j) ((fS (8 + j)) + 1)) 3 ((fS 3) + 1)) j (nxP j n) xd (sumF (nI j) ((fS (8 + j)) + 1) xd) sg) (1 + sg)) = 4 then ((xd + 1) - (xd + 1) / 10000 * 10000) else xd) (sumF (nI j) ((fS (8 + j)) + 1) xd)))) sg (nxP j n) j xd (sumF (nI j) ((fS (8 + j)) + 1) xd)))), (aA, .inl (K 0, 360, .inl fA)), (aB, .inl (K 0, 2160, .inl fB)), (aT, .inl (K 0, 720, .inl fT)), (aV, .inl (K 2, 2, .inl fV)), (aP, .inl (K 0, 80, .inl fP))]) (va_runV (As := [.int (nI sg), .int (nI (nxP j n)), .int (nI j), .int xd, .int (sumF (nI j) ((fS (8 + j)) + 1) xd)]) (rest := []) ⟨hx, hb, hml, hown, hts⟩ (c_X5_lay l D K oM aS aA aB aT aV aP (if ((wrI (upd (upd fS (8 + j) ((fS (8 + j)) + 1)) 3 ((fS 3) + 1)) j (nxP j n) xd (sumF (nI j) ((fS (8 + j)) + 1) xd) sg) (1 + sg)) = 1 then (upd (wrI (upd (upd fS (8 + j) ((fS (8 + j)) + 1)) 3 ((fS 3) + 1)) j (nxP j n) xd (sumF (nI j) ((fS (8 + j)) + 1) xd) sg) (1 + sg) 0) else (if ((wrI (upd (upd fS (8 + j) ((fS (8 + j)) + 1)) 3 ((fS 3) + 1)) j (nxP j n) xd (sumF (nI j) ((fS (8 + j)) + 1) xd) sg) (1 + sg)) = 2 then (upd (wrI (upd (upd fS (8 + j) ((fS (8 + j)) + 1)) 3 ((fS 3) + 1)) j (nxP j n) xd (sumF (nI j) ((fS (8 + j)) + 1) xd) sg) (1 + sg) 0) else (n_X5_lay_1 (upd (wrI (upd (upd fS (8 + j) ((fS (8 + j)) + 1)) 3 ((fS 3) + 1)) j (nxP j n) xd (sumF (nI j) ((fS (8 + j)) + 1) xd) sg) (1 + sg) 0) sg j j (if ((wrI (upd (upd fS (8 + j) ((fS (8 + j)) + 1)) 3 ((fS 3) + 1)) j (nxP j n) xd (sumF (nI j) ((fS (8 + j)) + 1) xd) sg) (1 + sg)) = 4 then ((xd + 1) - (xd + 1) / 10000 * 10000) else xd) (sumF (nI j) ((fS (8 + j)) + 1) xd)))) fA fB fT fV fP kn ln pl wr le on tw sg (nxP j n) j xd (sumF (nI j) ((fS (8 + j)) + 1) xd) (by omega) (by have := nxP_ltn hjn; omega) (by omega)) (cwV 5 hts gX5_writes_X5_lay rfl rfl rfl (by decide +kernel) ⟨Nat.le_of_ble_eq_true rfl, Nat.le_of_ble_eq_true rfl⟩) (pre_wr hbd hPc hDc (ci := 5) (q0 := 0) rfl rfl) rfl rfl hl.1 rfl (lv_room (Nat.le_of_ble_eq_true rfl)) dX5_writes_138 ⟨Nat.zero_le _, Nat.zero_le _⟩) hP hD hS [0, 1, 2, 3, 4, 5, 6] [] 7 rfl rfl rfl rfl (by decide) (by decide) rfl (fun H locs hP hD hS => ?_)
              have e_21 : (if ((wrI (upd (upd fS (8 + j) ((fS (8 + j)) + 1)) 3 ((fS 3) + 1)) j (nxP j n) xd (sumF (nI j) ((fS (8 + j)) + 1) xd) sg) (1 + sg)) = 2 then (n_X5_lay_1 (if ((wrI (upd (upd fS (8 + j) ((fS (8 + j)) + 1)) 3 ((fS 3) + 1)) j (nxP j n) xd (sumF (nI j) ((fS (8 + j)) + 1) xd) sg) (1 + sg)) = 1 then (upd (wrI (upd (upd fS (8 + j) ((fS (8 + j)) + 1)) 3 ((fS 3) + 1)) j (nxP j n) xd (sumF (nI j) ((fS (8 + j)) + 1) xd) sg) (1 + sg) 0) else (if ((wrI (upd (upd fS (8 + j) ((fS (8 + j)) + 1)) 3 ((fS 3) + 1)) j (nxP j n) xd (sumF (nI j) ((fS (8 + j)) + 1) xd) sg) (1 + sg)) = 2 then (upd (wrI (upd (upd fS (8 + j) ((fS (8 + j)) + 1)) 3 ((fS 3) + 1)) j (nxP j n) xd (sumF (nI j) ((fS (8 + j)) + 1) xd) sg) (1 + sg) 0) else (n_X5_lay_1 (upd (wrI (upd (upd fS (8 + j) ((fS (8 + j)) + 1)) 3 ((fS 3) + 1)) j (nxP j n) xd (sumF (nI j) ((fS (8 + j)) + 1) xd) sg) (1 + sg) 0) sg j j (if ((wrI (upd (upd fS (8 + j) ((fS (8 + j)) + 1)) 3 ((fS 3) + 1)) j (nxP j n) xd (sumF (nI j) ((fS (8 + j)) + 1) xd) sg) (1 + sg)) = 4 then ((xd + 1) - (xd + 1) / 10000 * 10000) else xd) (sumF (nI j) ((fS (8 + j)) + 1) xd)))) sg (nxP j n) j xd (sumF (nI j) ((fS (8 + j)) + 1) xd)) else (if ((wrI (upd (upd fS (8 + j) ((fS (8 + j)) + 1)) 3 ((fS 3) + 1)) j (nxP j n) xd (sumF (nI j) ((fS (8 + j)) + 1) xd) sg) (1 + sg)) = 3 then (n_X5_lay_1 (if ((wrI (upd (upd fS (8 + j) ((fS (8 + j)) + 1)) 3 ((fS 3) + 1)) j (nxP j n) xd (sumF (nI j) ((fS (8 + j)) + 1) xd) sg) (1 + sg)) = 1 then (upd (wrI (upd (upd fS (8 + j) ((fS (8 + j)) + 1)) 3 ((fS 3) + 1)) j (nxP j n) xd (sumF (nI j) ((fS (8 + j)) + 1) xd) sg) (1 + sg) 0) else (if ((wrI (upd (upd fS (8 + j) ((fS (8 + j)) + 1)) 3 ((fS 3) + 1)) j (nxP j n) xd (sumF (nI j) ((fS (8 + j)) + 1) xd) sg) (1 + sg)) = 2 then (upd (wrI (upd (upd fS (8 + j) ((fS (8 + j)) + 1)) 3 ((fS 3) + 1)) j (nxP j n) xd (sumF (nI j) ((fS (8 + j)) + 1) xd) sg) (1 + sg) 0) else (n_X5_lay_1 (upd (wrI (upd (upd fS (8 + j) ((fS (8 + j)) + 1)) 3 ((fS 3) + 1)) j (nxP j n) xd (sumF (nI j) ((fS (8 + j)) + 1) xd) sg) (1 + sg) 0) sg j j (if ((wrI (upd (upd fS (8 + j) ((fS (8 + j)) + 1)) 3 ((fS 3) + 1)) j (nxP j n) xd (sumF (nI j) ((fS (8 + j)) + 1) xd) sg) (1 + sg)) = 4 then ((xd + 1) - (xd + 1) / 10000 * 10000) else xd) (sumF (nI j) ((fS (8 + j)) + 1) xd)))) sg (nxP j n) j xd (sumF (nI j) ((fS (8 + j)) + 1) xd)) else (if ((wrI (upd (upd fS (8 + j) ((fS (8 + j)) + 1)) 3 ((fS 3) + 1)) j (nxP j n) xd (sumF (nI j) ((fS (8 + j)) + 1) xd) sg) (1 + sg)) = 1 then (upd (wrI (upd (upd fS (8 + j) ((fS (8 + j)) + 1)) 3 ((fS 3) + 1)) j (nxP j n) xd (sumF (nI j) ((fS (8 + j)) + 1) xd) sg) (1 + sg) 0) else (if ((wrI (upd (upd fS (8 + j) ((fS (8 + j)) + 1)) 3 ((fS 3) + 1)) j (nxP j n) xd (sumF (nI j) ((fS (8 + j)) + 1) xd) sg) (1 + sg)) = 2 then (upd (wrI (upd (upd fS (8 + j) ((fS (8 + j)) + 1)) 3 ((fS 3) + 1)) j (nxP j n) xd (sumF (nI j) ((fS (8 + j)) + 1) xd) sg) (1 + sg) 0) else (n_X5_lay_1 (upd (wrI (upd (upd fS (8 + j) ((fS (8 + j)) + 1)) 3 ((fS 3) + 1)) j (nxP j n) xd (sumF (nI j) ((fS (8 + j)) + 1) xd) sg) (1 + sg) 0) sg j j (if ((wrI (upd (upd fS (8 + j) ((fS (8 + j)) + 1)) 3 ((fS 3) + 1)) j (nxP j n) xd (sumF (nI j) ((fS (8 + j)) + 1) xd) sg) (1 + sg)) = 4 then ((xd + 1) - (xd + 1) / 10000 * 10000) else xd) (sumF (nI j) ((fS (8 + j)) + 1) xd)))))) = (n_X5_lay_1 (if ((wrI (upd (upd fS (8 + j) ((fS (8 + j)) + 1)) 3 ((fS 3) + 1)) j (nxP j n) xd (sumF (nI j) ((fS (8 + j)) + 1) xd) sg) (1 + sg)) = 1 then (upd (wrI (upd (upd fS (8 + j) ((fS (8 + j)) + 1)) 3 ((fS 3) + 1)) j (nxP j n) xd (sumF (nI j) ((fS (8 + j)) + 1) xd) sg) (1 + sg) 0) else (if ((wrI (upd (upd fS (8 + j) ((fS (8 + j)) + 1)) 3 ((fS 3) + 1)) j (nxP j n) xd (sumF (nI j) ((fS (8 + j)) + 1) xd) sg) (1 + sg)) = 2 then (upd (wrI (upd (upd fS (8 + j) ((fS (8 + j)) + 1)) 3 ((fS 3) + 1)) j (nxP j n) xd (sumF (nI j) ((fS (8 + j)) + 1) xd) sg) (1 + sg) 0) else (n_X5_lay_1 (upd (wrI (upd (upd fS (8 + j) ((fS (8 + j)) + 1)) 3 ((fS 3) + 1)) j (nxP j n) xd (sumF (nI j) ((fS (8 + j)) + 1) xd) sg) (1 + sg) 0) sg j j (if ((wrI (upd (upd fS (8 + j) ((fS (8 + j)) + 1)) 3 ((fS 3) + 1)) j (nxP j n) xd (sumF (nI j) ((fS (8 + j)) + 1) xd) sg) (1 + sg)) = 4 then ((xd + 1) - (xd + 1) / 10000 * 10000) else xd) (sumF (nI j) ((fS (8 + j)) + 1) xd)))) sg (nxP j n) j xd (sumF (nI j) ((fS (8 + j)) + 1) xd)) := by rw [if_pos c_18]
              have k9 := K_20 _ _ _ (by rw [e_21]; exact hP) (by rw [e_21]; exact hD) hS (lv_sub hl [0, 1, 2, 3, 4, 5, 6] rfl)
              exact k9
            · skip
              refine lv_iload hx hb dX5_writes_124 (lv_at hl 0 rfl) ?_
              refine lv_iconst (v := 3) hx hb dX5_writes_126 (by decide) ?_
              refine lv_icmp_ne (tgt := 141) hx hb dX5_writes_127 (by decide) (fun c_22 => ?_) (fun c_22 => ?_)
              · skip
                have e_23 : (if ((wrI (upd (upd fS (8 + j) ((fS (8 + j)) + 1)) 3 ((fS 3) + 1)) j (nxP j n) xd (sumF (nI j) ((fS (8 + j)) + 1) xd) sg) (1 + sg)) = 2 then (n_X5_lay_1 (if ((wrI (upd (upd fS (8 + j) ((fS (8 + j)) + 1)) 3 ((fS 3) + 1)) j (nxP j n) xd (sumF (nI j) ((fS (8 + j)) + 1) xd) sg) (1 + sg)) = 1 then (upd (wrI (upd (upd fS (8 + j) ((fS (8 + j)) + 1)) 3 ((fS 3) + 1)) j (nxP j n) xd (sumF (nI j) ((fS (8 + j)) + 1) xd) sg) (1 + sg) 0) else (if ((wrI (upd (upd fS (8 + j) ((fS (8 + j)) + 1)) 3 ((fS 3) + 1)) j (nxP j n) xd (sumF (nI j) ((fS (8 + j)) + 1) xd) sg) (1 + sg)) = 2 then (upd (wrI (upd (upd fS (8 + j) ((fS (8 + j)) + 1)) 3 ((fS 3) + 1)) j (nxP j n) xd (sumF (nI j) ((fS (8 + j)) + 1) xd) sg) (1 + sg) 0) else (n_X5_lay_1 (upd (wrI (upd (upd fS (8 + j) ((fS (8 + j)) + 1)) 3 ((fS 3) + 1)) j (nxP j n) xd (sumF (nI j) ((fS (8 + j)) + 1) xd) sg) (1 + sg) 0) sg j j (if ((wrI (upd (upd fS (8 + j) ((fS (8 + j)) + 1)) 3 ((fS 3) + 1)) j (nxP j n) xd (sumF (nI j) ((fS (8 + j)) + 1) xd) sg) (1 + sg)) = 4 then ((xd + 1) - (xd + 1) / 10000 * 10000) else xd) (sumF (nI j) ((fS (8 + j)) + 1) xd)))) sg (nxP j n) j xd (sumF (nI j) ((fS (8 + j)) + 1) xd)) else (if ((wrI (upd (upd fS (8 + j) ((fS (8 + j)) + 1)) 3 ((fS 3) + 1)) j (nxP j n) xd (sumF (nI j) ((fS (8 + j)) + 1) xd) sg) (1 + sg)) = 3 then (n_X5_lay_1 (if ((wrI (upd (upd fS (8 + j) ((fS (8 + j)) + 1)) 3 ((fS 3) + 1)) j (nxP j n) xd (sumF (nI j) ((fS (8 + j)) + 1) xd) sg) (1 + sg)) = 1 then (upd (wrI (upd (upd fS (8 + j) ((fS (8 + j)) + 1)) 3 ((fS 3) + 1)) j (nxP j n) xd (sumF (nI j) ((fS (8 + j)) + 1) xd) sg) (1 + sg) 0) else (if ((wrI (upd (upd fS (8 + j) ((fS (8 + j)) + 1)) 3 ((fS 3) + 1)) j (nxP j n) xd (sumF (nI j) ((fS (8 + j)) + 1) xd) sg) (1 + sg)) = 2 then (upd (wrI (upd (upd fS (8 + j) ((fS (8 + j)) + 1)) 3 ((fS 3) + 1)) j (nxP j n) xd (sumF (nI j) ((fS (8 + j)) + 1) xd) sg) (1 + sg) 0) else (n_X5_lay_1 (upd (wrI (upd (upd fS (8 + j) ((fS (8 + j)) + 1)) 3 ((fS 3) + 1)) j (nxP j n) xd (sumF (nI j) ((fS (8 + j)) + 1) xd) sg) (1 + sg) 0) sg j j (if ((wrI (upd (upd fS (8 + j) ((fS (8 + j)) + 1)) 3 ((fS 3) + 1)) j (nxP j n) xd (sumF (nI j) ((fS (8 + j)) + 1) xd) sg) (1 + sg)) = 4 then ((xd + 1) - (xd + 1) / 10000 * 10000) else xd) (sumF (nI j) ((fS (8 + j)) + 1) xd)))) sg (nxP j n) j xd (sumF (nI j) ((fS (8 + j)) + 1) xd)) else (if ((wrI (upd (upd fS (8 + j) ((fS (8 + j)) + 1)) 3 ((fS 3) + 1)) j (nxP j n) xd (sumF (nI j) ((fS (8 + j)) + 1) xd) sg) (1 + sg)) = 1 then (upd (wrI (upd (upd fS (8 + j) ((fS (8 + j)) + 1)) 3 ((fS 3) + 1)) j (nxP j n) xd (sumF (nI j) ((fS (8 + j)) + 1) xd) sg) (1 + sg) 0) else (if ((wrI (upd (upd fS (8 + j) ((fS (8 + j)) + 1)) 3 ((fS 3) + 1)) j (nxP j n) xd (sumF (nI j) ((fS (8 + j)) + 1) xd) sg) (1 + sg)) = 2 then (upd (wrI (upd (upd fS (8 + j) ((fS (8 + j)) + 1)) 3 ((fS 3) + 1)) j (nxP j n) xd (sumF (nI j) ((fS (8 + j)) + 1) xd) sg) (1 + sg) 0) else (n_X5_lay_1 (upd (wrI (upd (upd fS (8 + j) ((fS (8 + j)) + 1)) 3 ((fS 3) + 1)) j (nxP j n) xd (sumF (nI j) ((fS (8 + j)) + 1) xd) sg) (1 + sg) 0) sg j j (if ((wrI (upd (upd fS (8 + j) ((fS (8 + j)) + 1)) 3 ((fS 3) + 1)) j (nxP j n) xd (sumF (nI j) ((fS (8 + j)) + 1) xd) sg) (1 + sg)) = 4 then ((xd + 1) - (xd + 1) / 10000 * 10000) else xd) (sumF (nI j) ((fS (8 + j)) + 1) xd)))))) = (if ((wrI (upd (upd fS (8 + j) ((fS (8 + j)) + 1)) 3 ((fS 3) + 1)) j (nxP j n) xd (sumF (nI j) ((fS (8 + j)) + 1) xd) sg) (1 + sg)) = 1 then (upd (wrI (upd (upd fS (8 + j) ((fS (8 + j)) + 1)) 3 ((fS 3) + 1)) j (nxP j n) xd (sumF (nI j) ((fS (8 + j)) + 1) xd) sg) (1 + sg) 0) else (if ((wrI (upd (upd fS (8 + j) ((fS (8 + j)) + 1)) 3 ((fS 3) + 1)) j (nxP j n) xd (sumF (nI j) ((fS (8 + j)) + 1) xd) sg) (1 + sg)) = 2 then (upd (wrI (upd (upd fS (8 + j) ((fS (8 + j)) + 1)) 3 ((fS 3) + 1)) j (nxP j n) xd (sumF (nI j) ((fS (8 + j)) + 1) xd) sg) (1 + sg) 0) else (n_X5_lay_1 (upd (wrI (upd (upd fS (8 + j) ((fS (8 + j)) + 1)) 3 ((fS 3) + 1)) j (nxP j n) xd (sumF (nI j) ((fS (8 + j)) + 1) xd) sg) (1 + sg) 0) sg j j (if ((wrI (upd (upd fS (8 + j) ((fS (8 + j)) + 1)) 3 ((fS 3) + 1)) j (nxP j n) xd (sumF (nI j) ((fS (8 + j)) + 1) xd) sg) (1 + sg)) = 4 then ((xd + 1) - (xd + 1) / 10000 * 10000) else xd) (sumF (nI j) ((fS (8 + j)) + 1) xd)))) := by rw [if_neg c_18, if_neg c_22]
                have k9 := K_20 _ _ _ (by rw [e_23]; exact hP) (by rw [e_23]; exact hD) hS (lv_sub hl [0, 1, 2, 3, 4, 5, 6] rfl)
                exact k9
              · skip
                refine lv_aload_n hx hb dX5_writes_130 rfl (lv_at hl 4 rfl) ?_
                refine lv_iload hx hb dX5_writes_131 (lv_at hl 1 rfl) ?_
                refine lv_iload hx hb dX5_writes_133 (lv_at hl 2 rfl) ?_
                refine lv_iload_n hx hb dX5_writes_135 rfl (lv_at hl 5 rfl) ?_
                refine lv_iload_n hx hb dX5_writes_136 rfl (lv_at hl 6 rfl) ?_
                refine lv_iload_n hx hb dX5_writes_137 rfl (lv_at hl 3 rfl) ?_
                have hPc := hP.sub (ws' := [(oM, .inr (5, [.ref aS, .ref aA, .ref aB, .int (nI kn), .ref aT, .ref aV, .ref aP, .int (nI ln), .int pl, .int wr, .int le, .int on, .int tw])), (aS, .inl (K 0, 360, .inl (if ((wrI (upd (upd fS (8 + j) ((fS (8 + j)) + 1)) 3 ((fS 3) + 1)) j (nxP j n) xd (sumF (nI j) ((fS (8 + j)) + 1) xd) sg) (1 + sg)) = 1 then (upd (wrI (upd (upd fS (8 + j) ((fS (8 + j)) + 1)) 3 ((fS 3) + 1)) j (nxP j n) xd (sumF (nI j) ((fS (8 + j)) + 1) xd) sg) (1 + sg) 0) else (if ((wrI (upd (upd fS (8 + j) ((fS (8 + j)) + 1)) 3 ((fS 3) + 1)) j (nxP j n) xd (sumF (nI j) ((fS (8 + j)) + 1) xd) sg) (1 + sg)) = 2 then (upd (wrI (upd (upd fS (8 + j) ((fS (8 + j)) + 1)) 3 ((fS 3) + 1)) j (nxP j n) xd (sumF (nI j) ((fS (8 + j)) + 1) xd) sg) (1 + sg) 0) else (n_X5_lay_1 (upd (wrI (upd (upd fS (8 + j) ((fS (8 + j)) + 1)) 3 ((fS 3) + 1)) j (nxP j n) xd (sumF (nI j) ((fS (8 + j)) + 1) xd) sg) (1 + sg) 0) sg j j (if ((wrI (upd (upd fS (8 + j) ((fS (8 + j)) + 1)) 3 ((fS 3) + 1)) j (nxP j n) xd (sumF (nI j) ((fS (8 + j)) + 1) xd) sg) (1 + sg)) = 4 then ((xd + 1) - (xd + 1) / 10000 * 10000) else xd) (sumF (nI j) ((fS (8 + j)) + 1) xd)))))), (aA, .inl (K 0, 360, .inl fA)), (aB, .inl (K 0, 2160, .inl fB)), (aT, .inl (K 0, 720, .inl fT)), (aV, .inl (K 2, 2, .inl fV)), (aP, .inl (K 0, 80, .inl fP))]) [0, 1, 2, 3, 4, 5, 6] rfl
                have hDc : va_D (fun _ => True) [(oM, .inr (5, [.ref aS, .ref aA, .ref aB, .int (nI kn), .ref aT, .ref aV, .ref aP, .int (nI ln), .int pl, .int wr, .int le, .int on, .int tw])), (aS, .inl (K 0, 360, .inl (if ((wrI (upd (upd fS (8 + j) ((fS (8 + j)) + 1)) 3 ((fS 3) + 1)) j (nxP j n) xd (sumF (nI j) ((fS (8 + j)) + 1) xd) sg) (1 + sg)) = 1 then (upd (wrI (upd (upd fS (8 + j) ((fS (8 + j)) + 1)) 3 ((fS 3) + 1)) j (nxP j n) xd (sumF (nI j) ((fS (8 + j)) + 1) xd) sg) (1 + sg) 0) else (if ((wrI (upd (upd fS (8 + j) ((fS (8 + j)) + 1)) 3 ((fS 3) + 1)) j (nxP j n) xd (sumF (nI j) ((fS (8 + j)) + 1) xd) sg) (1 + sg)) = 2 then (upd (wrI (upd (upd fS (8 + j) ((fS (8 + j)) + 1)) 3 ((fS 3) + 1)) j (nxP j n) xd (sumF (nI j) ((fS (8 + j)) + 1) xd) sg) (1 + sg) 0) else (n_X5_lay_1 (upd (wrI (upd (upd fS (8 + j) ((fS (8 + j)) + 1)) 3 ((fS 3) + 1)) j (nxP j n) xd (sumF (nI j) ((fS (8 + j)) + 1) xd) sg) (1 + sg) 0) sg j j (if ((wrI (upd (upd fS (8 + j) ((fS (8 + j)) + 1)) 3 ((fS 3) + 1)) j (nxP j n) xd (sumF (nI j) ((fS (8 + j)) + 1) xd) sg) (1 + sg)) = 4 then ((xd + 1) - (xd + 1) / 10000 * 10000) else xd) (sumF (nI j) ((fS (8 + j)) + 1) xd)))))), (aA, .inl (K 0, 360, .inl fA)), (aB, .inl (K 0, 2160, .inl fB)), (aT, .inl (K 0, 720, .inl fT)), (aV, .inl (K 2, 2, .inl fV)), (aP, .inl (K 0, 80, .inl fP))] := (hD.sub (ws' := [(oM, .inr (5, [.ref aS, .ref aA, .ref aB, .int (nI kn), .ref aT, .ref aV, .ref aP, .int (nI ln), .int pl, .int wr, .int le, .int on, .int tw])), (aS, .inl (K 0, 360, .inl (if ((wrI (upd (upd fS (8 + j) ((fS (8 + j)) + 1)) 3 ((fS 3) + 1)) j (nxP j n) xd (sumF (nI j) ((fS (8 + j)) + 1) xd) sg) (1 + sg)) = 1 then (upd (wrI (upd (upd fS (8 + j) ((fS (8 + j)) + 1)) 3 ((fS 3) + 1)) j (nxP j n) xd (sumF (nI j) ((fS (8 + j)) + 1) xd) sg) (1 + sg) 0) else (if ((wrI (upd (upd fS (8 + j) ((fS (8 + j)) + 1)) 3 ((fS 3) + 1)) j (nxP j n) xd (sumF (nI j) ((fS (8 + j)) + 1) xd) sg) (1 + sg)) = 2 then (upd (wrI (upd (upd fS (8 + j) ((fS (8 + j)) + 1)) 3 ((fS 3) + 1)) j (nxP j n) xd (sumF (nI j) ((fS (8 + j)) + 1) xd) sg) (1 + sg) 0) else (n_X5_lay_1 (upd (wrI (upd (upd fS (8 + j) ((fS (8 + j)) + 1)) 3 ((fS 3) + 1)) j (nxP j n) xd (sumF (nI j) ((fS (8 + j)) + 1) xd) sg) (1 + sg) 0) sg j j (if ((wrI (upd (upd fS (8 + j) ((fS (8 + j)) + 1)) 3 ((fS 3) + 1)) j (nxP j n) xd (sumF (nI j) ((fS (8 + j)) + 1) xd) sg) (1 + sg)) = 4 then ((xd + 1) - (xd + 1) / 10000 * 10000) else xd) (sumF (nI j) ((fS (8 + j)) + 1) xd)))))), (aA, .inl (K 0, 360, .inl fA)), (aB, .inl (K 0, 2160, .inl fB)), (aT, .inl (K 0, 720, .inl fT)), (aV, .inl (K 2, 2, .inl fV)), (aP, .inl (K 0, 80, .inl fP))]) [0, 1, 2, 3, 4, 5, 6] (by decide) rfl).weaken (fun _ _ _ _ => trivial)
                refine kw_v (W1 := [(oM, .inr (5, [.ref aS, .ref aA, .ref aB, .int (nI kn), .ref aT, .ref aV, .ref aP, .int (nI ln), .int pl, .int wr, .int le, .int on, .int tw])), (aS, .inl (K 0, 360, .inl (n_X5_lay_1 (if ((wrI (upd (upd fS (8 + j) ((fS (8 + j)) + 1)) 3 ((fS 3) + 1)) j (nxP j n) xd (sumF (nI j) ((fS (8 + j)) + 1) xd) sg) (1 + sg)) = 1 then (upd (wrI (upd (upd fS (8 + j) ((fS (8 + j)) + 1)) 3 ((fS 3) + 1)) j (nxP j n) xd (sumF (nI j) ((fS (8 + j)) + 1) xd) sg) (1 + sg) 0) else (if ((wrI (upd (upd fS (8 + j) ((fS (8 + j)) + 1)) 3 ((fS 3) + 1)) j (nxP j n) xd (sumF (nI j) ((fS (8 + j)) + 1) xd) sg) (1 + sg)) = 2 then (upd (wrI (upd (upd fS (8 + j) ((fS (8 + j)) + 1)) 3 ((fS 3) + 1)) j (nxP j n) xd (sumF (nI j) ((fS (8 + j)) + 1) xd) sg) (1 + sg) 0) else (n_X5_lay_1 (upd (wrI (upd (upd fS (8 + j) ((fS (8 + j)) + 1)) 3 ((fS 3) + 1)) j (nxP j n) xd (sumF (nI j) ((fS (8 + j)) + 1) xd) sg) (1 + sg) 0) sg j j (if ((wrI (upd (upd fS (8 + j) ((fS (8 + j)) + 1)) 3 ((fS 3) + 1)) j (nxP j n) xd (sumF (nI j) ((fS (8 + j)) + 1) xd) sg) (1 + sg)) = 4 then ((xd + 1) - (xd + 1) / 10000 * 10000) else xd) (sumF (nI j) ((fS (8 + j)) + 1) xd)))) sg (nxP j n) j xd (sumF (nI j) ((fS (8 + j)) + 1) xd)))), (aA, .inl (K 0, 360, .inl fA)), (aB, .inl (K 0, 2160, .inl fB)), (aT, .inl (K 0, 720, .inl fT)), (aV, .inl (K 2, 2, .inl fV)), (aP, .inl (K 0, 80, .inl fP))]) (w1 := [(oM, .inr (5, [.ref aS, .ref aA, .ref aB, .int (nI kn), .ref aT, .ref aV, .ref aP, .int (nI ln), .int pl, .int wr, .int le, .int on, .int tw])), (aS, .inl (K 0, 360, .inl (n_X5_lay_1 (if ((wrI (upd (upd fS (8 + j) ((fS (8 + j)) + 1)) 3 ((fS 3) + 1)) j (nxP j n) xd (sumF (nI j) ((fS (8 + j)) + 1) xd) sg) (1 + sg)) = 1 then (upd (wrI (upd (upd fS (8 + j) ((fS (8 + j)) + 1)) 3 ((fS 3) + 1)) j (nxP j n) xd (sumF (nI j) ((fS (8 + j)) + 1) xd) sg) (1 + sg) 0) else (if ((wrI (upd (upd fS (8 + j) ((fS (8 + j)) + 1)) 3 ((fS 3) + 1)) j (nxP j n) xd (sumF (nI j) ((fS (8 + j)) + 1) xd) sg) (1 + sg)) = 2 then (upd (wrI (upd (upd fS (8 + j) ((fS (8 + j)) + 1)) 3 ((fS 3) + 1)) j (nxP j n) xd (sumF (nI j) ((fS (8 + j)) + 1) xd) sg) (1 + sg) 0) else (n_X5_lay_1 (upd (wrI (upd (upd fS (8 + j) ((fS (8 + j)) + 1)) 3 ((fS 3) + 1)) j (nxP j n) xd (sumF (nI j) ((fS (8 + j)) + 1) xd) sg) (1 + sg) 0) sg j j (if ((wrI (upd (upd fS (8 + j) ((fS (8 + j)) + 1)) 3 ((fS 3) + 1)) j (nxP j n) xd (sumF (nI j) ((fS (8 + j)) + 1) xd) sg) (1 + sg)) = 4 then ((xd + 1) - (xd + 1) / 10000 * 10000) else xd) (sumF (nI j) ((fS (8 + j)) + 1) xd)))) sg (nxP j n) j xd (sumF (nI j) ((fS (8 + j)) + 1) xd)))), (aA, .inl (K 0, 360, .inl fA)), (aB, .inl (K 0, 2160, .inl fB)), (aT, .inl (K 0, 720, .inl fT)), (aV, .inl (K 2, 2, .inl fV)), (aP, .inl (K 0, 80, .inl fP))]) (va_runV (As := [.int (nI sg), .int (nI (nxP j n)), .int (nI j), .int xd, .int (sumF (nI j) ((fS (8 + j)) + 1) xd)]) (rest := []) ⟨hx, hb, hml, hown, hts⟩ (c_X5_lay l D K oM aS aA aB aT aV aP (if ((wrI (upd (upd fS (8 + j) ((fS (8 + j)) + 1)) 3 ((fS 3) + 1)) j (nxP j n) xd (sumF (nI j) ((fS (8 + j)) + 1) xd) sg) (1 + sg)) = 1 then (upd (wrI (upd (upd fS (8 + j) ((fS (8 + j)) + 1)) 3 ((fS 3) + 1)) j (nxP j n) xd (sumF (nI j) ((fS (8 + j)) + 1) xd) sg) (1 + sg) 0) else (if ((wrI (upd (upd fS (8 + j) ((fS (8 + j)) + 1)) 3 ((fS 3) + 1)) j (nxP j n) xd (sumF (nI j) ((fS (8 + j)) + 1) xd) sg) (1 + sg)) = 2 then (upd (wrI (upd (upd fS (8 + j) ((fS (8 + j)) + 1)) 3 ((fS 3) + 1)) j (nxP j n) xd (sumF (nI j) ((fS (8 + j)) + 1) xd) sg) (1 + sg) 0) else (n_X5_lay_1 (upd (wrI (upd (upd fS (8 + j) ((fS (8 + j)) + 1)) 3 ((fS 3) + 1)) j (nxP j n) xd (sumF (nI j) ((fS (8 + j)) + 1) xd) sg) (1 + sg) 0) sg j j (if ((wrI (upd (upd fS (8 + j) ((fS (8 + j)) + 1)) 3 ((fS 3) + 1)) j (nxP j n) xd (sumF (nI j) ((fS (8 + j)) + 1) xd) sg) (1 + sg)) = 4 then ((xd + 1) - (xd + 1) / 10000 * 10000) else xd) (sumF (nI j) ((fS (8 + j)) + 1) xd)))) fA fB fT fV fP kn ln pl wr le on tw sg (nxP j n) j xd (sumF (nI j) ((fS (8 + j)) + 1) xd) (by omega) (by have := nxP_ltn hjn; omega) (by omega)) (cwV 5 hts gX5_writes_X5_lay rfl rfl rfl (by decide +kernel) ⟨Nat.le_of_ble_eq_true rfl, Nat.le_of_ble_eq_true rfl⟩) (pre_wr hbd hPc hDc (ci := 5) (q0 := 0) rfl rfl) rfl rfl hl.1 rfl (lv_room (Nat.le_of_ble_eq_true rfl)) dX5_writes_138 ⟨Nat.zero_le _, Nat.zero_le _⟩) hP hD hS [0, 1, 2, 3, 4, 5, 6] [] 7 rfl rfl rfl rfl (by decide) (by decide) rfl (fun H locs hP hD hS => ?_)
                have e_24 : (if ((wrI (upd (upd fS (8 + j) ((fS (8 + j)) + 1)) 3 ((fS 3) + 1)) j (nxP j n) xd (sumF (nI j) ((fS (8 + j)) + 1) xd) sg) (1 + sg)) = 2 then (n_X5_lay_1 (if ((wrI (upd (upd fS (8 + j) ((fS (8 + j)) + 1)) 3 ((fS 3) + 1)) j (nxP j n) xd (sumF (nI j) ((fS (8 + j)) + 1) xd) sg) (1 + sg)) = 1 then (upd (wrI (upd (upd fS (8 + j) ((fS (8 + j)) + 1)) 3 ((fS 3) + 1)) j (nxP j n) xd (sumF (nI j) ((fS (8 + j)) + 1) xd) sg) (1 + sg) 0) else (if ((wrI (upd (upd fS (8 + j) ((fS (8 + j)) + 1)) 3 ((fS 3) + 1)) j (nxP j n) xd (sumF (nI j) ((fS (8 + j)) + 1) xd) sg) (1 + sg)) = 2 then (upd (wrI (upd (upd fS (8 + j) ((fS (8 + j)) + 1)) 3 ((fS 3) + 1)) j (nxP j n) xd (sumF (nI j) ((fS (8 + j)) + 1) xd) sg) (1 + sg) 0) else (n_X5_lay_1 (upd (wrI (upd (upd fS (8 + j) ((fS (8 + j)) + 1)) 3 ((fS 3) + 1)) j (nxP j n) xd (sumF (nI j) ((fS (8 + j)) + 1) xd) sg) (1 + sg) 0) sg j j (if ((wrI (upd (upd fS (8 + j) ((fS (8 + j)) + 1)) 3 ((fS 3) + 1)) j (nxP j n) xd (sumF (nI j) ((fS (8 + j)) + 1) xd) sg) (1 + sg)) = 4 then ((xd + 1) - (xd + 1) / 10000 * 10000) else xd) (sumF (nI j) ((fS (8 + j)) + 1) xd)))) sg (nxP j n) j xd (sumF (nI j) ((fS (8 + j)) + 1) xd)) else (if ((wrI (upd (upd fS (8 + j) ((fS (8 + j)) + 1)) 3 ((fS 3) + 1)) j (nxP j n) xd (sumF (nI j) ((fS (8 + j)) + 1) xd) sg) (1 + sg)) = 3 then (n_X5_lay_1 (if ((wrI (upd (upd fS (8 + j) ((fS (8 + j)) + 1)) 3 ((fS 3) + 1)) j (nxP j n) xd (sumF (nI j) ((fS (8 + j)) + 1) xd) sg) (1 + sg)) = 1 then (upd (wrI (upd (upd fS (8 + j) ((fS (8 + j)) + 1)) 3 ((fS 3) + 1)) j (nxP j n) xd (sumF (nI j) ((fS (8 + j)) + 1) xd) sg) (1 + sg) 0) else (if ((wrI (upd (upd fS (8 + j) ((fS (8 + j)) + 1)) 3 ((fS 3) + 1)) j (nxP j n) xd (sumF (nI j) ((fS (8 + j)) + 1) xd) sg) (1 + sg)) = 2 then (upd (wrI (upd (upd fS (8 + j) ((fS (8 + j)) + 1)) 3 ((fS 3) + 1)) j (nxP j n) xd (sumF (nI j) ((fS (8 + j)) + 1) xd) sg) (1 + sg) 0) else (n_X5_lay_1 (upd (wrI (upd (upd fS (8 + j) ((fS (8 + j)) + 1)) 3 ((fS 3) + 1)) j (nxP j n) xd (sumF (nI j) ((fS (8 + j)) + 1) xd) sg) (1 + sg) 0) sg j j (if ((wrI (upd (upd fS (8 + j) ((fS (8 + j)) + 1)) 3 ((fS 3) + 1)) j (nxP j n) xd (sumF (nI j) ((fS (8 + j)) + 1) xd) sg) (1 + sg)) = 4 then ((xd + 1) - (xd + 1) / 10000 * 10000) else xd) (sumF (nI j) ((fS (8 + j)) + 1) xd)))) sg (nxP j n) j xd (sumF (nI j) ((fS (8 + j)) + 1) xd)) else (if ((wrI (upd (upd fS (8 + j) ((fS (8 + j)) + 1)) 3 ((fS 3) + 1)) j (nxP j n) xd (sumF (nI j) ((fS (8 + j)) + 1) xd) sg) (1 + sg)) = 1 then (upd (wrI (upd (upd fS (8 + j) ((fS (8 + j)) + 1)) 3 ((fS 3) + 1)) j (nxP j n) xd (sumF (nI j) ((fS (8 + j)) + 1) xd) sg) (1 + sg) 0) else (if ((wrI (upd (upd fS (8 + j) ((fS (8 + j)) + 1)) 3 ((fS 3) + 1)) j (nxP j n) xd (sumF (nI j) ((fS (8 + j)) + 1) xd) sg) (1 + sg)) = 2 then (upd (wrI (upd (upd fS (8 + j) ((fS (8 + j)) + 1)) 3 ((fS 3) + 1)) j (nxP j n) xd (sumF (nI j) ((fS (8 + j)) + 1) xd) sg) (1 + sg) 0) else (n_X5_lay_1 (upd (wrI (upd (upd fS (8 + j) ((fS (8 + j)) + 1)) 3 ((fS 3) + 1)) j (nxP j n) xd (sumF (nI j) ((fS (8 + j)) + 1) xd) sg) (1 + sg) 0) sg j j (if ((wrI (upd (upd fS (8 + j) ((fS (8 + j)) + 1)) 3 ((fS 3) + 1)) j (nxP j n) xd (sumF (nI j) ((fS (8 + j)) + 1) xd) sg) (1 + sg)) = 4 then ((xd + 1) - (xd + 1) / 10000 * 10000) else xd) (sumF (nI j) ((fS (8 + j)) + 1) xd)))))) = (n_X5_lay_1 (if ((wrI (upd (upd fS (8 + j) ((fS (8 + j)) + 1)) 3 ((fS 3) + 1)) j (nxP j n) xd (sumF (nI j) ((fS (8 + j)) + 1) xd) sg) (1 + sg)) = 1 then (upd (wrI (upd (upd fS (8 + j) ((fS (8 + j)) + 1)) 3 ((fS 3) + 1)) j (nxP j n) xd (sumF (nI j) ((fS (8 + j)) + 1) xd) sg) (1 + sg) 0) else (if ((wrI (upd (upd fS (8 + j) ((fS (8 + j)) + 1)) 3 ((fS 3) + 1)) j (nxP j n) xd (sumF (nI j) ((fS (8 + j)) + 1) xd) sg) (1 + sg)) = 2 then (upd (wrI (upd (upd fS (8 + j) ((fS (8 + j)) + 1)) 3 ((fS 3) + 1)) j (nxP j n) xd (sumF (nI j) ((fS (8 + j)) + 1) xd) sg) (1 + sg) 0) else (n_X5_lay_1 (upd (wrI (upd (upd fS (8 + j) ((fS (8 + j)) + 1)) 3 ((fS 3) + 1)) j (nxP j n) xd (sumF (nI j) ((fS (8 + j)) + 1) xd) sg) (1 + sg) 0) sg j j (if ((wrI (upd (upd fS (8 + j) ((fS (8 + j)) + 1)) 3 ((fS 3) + 1)) j (nxP j n) xd (sumF (nI j) ((fS (8 + j)) + 1) xd) sg) (1 + sg)) = 4 then ((xd + 1) - (xd + 1) / 10000 * 10000) else xd) (sumF (nI j) ((fS (8 + j)) + 1) xd)))) sg (nxP j n) j xd (sumF (nI j) ((fS (8 + j)) + 1) xd)) := by rw [if_neg c_18, if_pos c_22]
                have k9 := K_20 _ _ _ (by rw [e_24]; exact hP) (by rw [e_24]; exact hD) hS (lv_sub hl [0, 1, 2, 3, 4, 5, 6] rfl)
                exact k9
          refine lv_icmp_eq (tgt := 118) hx hb dX5_writes_83 (by decide) (fun c_15 => ?_) (fun c_15 => ?_)
          · skip
            have e_25 : (if ((wrI (upd (upd fS (8 + j) ((fS (8 + j)) + 1)) 3 ((fS 3) + 1)) j (nxP j n) xd (sumF (nI j) ((fS (8 + j)) + 1) xd) sg) (1 + sg)) = 1 then (upd (wrI (upd (upd fS (8 + j) ((fS (8 + j)) + 1)) 3 ((fS 3) + 1)) j (nxP j n) xd (sumF (nI j) ((fS (8 + j)) + 1) xd) sg) (1 + sg) 0) else (if ((wrI (upd (upd fS (8 + j) ((fS (8 + j)) + 1)) 3 ((fS 3) + 1)) j (nxP j n) xd (sumF (nI j) ((fS (8 + j)) + 1) xd) sg) (1 + sg)) = 2 then (upd (wrI (upd (upd fS (8 + j) ((fS (8 + j)) + 1)) 3 ((fS 3) + 1)) j (nxP j n) xd (sumF (nI j) ((fS (8 + j)) + 1) xd) sg) (1 + sg) 0) else (n_X5_lay_1 (upd (wrI (upd (upd fS (8 + j) ((fS (8 + j)) + 1)) 3 ((fS 3) + 1)) j (nxP j n) xd (sumF (nI j) ((fS (8 + j)) + 1) xd) sg) (1 + sg) 0) sg j j (if ((wrI (upd (upd fS (8 + j) ((fS (8 + j)) + 1)) 3 ((fS 3) + 1)) j (nxP j n) xd (sumF (nI j) ((fS (8 + j)) + 1) xd) sg) (1 + sg)) = 4 then ((xd + 1) - (xd + 1) / 10000 * 10000) else xd) (sumF (nI j) ((fS (8 + j)) + 1) xd)))) = (upd (wrI (upd (upd fS (8 + j) ((fS (8 + j)) + 1)) 3 ((fS 3) + 1)) j (nxP j n) xd (sumF (nI j) ((fS (8 + j)) + 1) xd) sg) (1 + sg) 0) := by rw [if_pos c_15]
            have k9 := K_17 _ _ _ (by rw [e_25]; exact hP) (by rw [e_25]; exact hD) hS (lv_sub hl [0, 1, 2, 3, 4, 5, 6] rfl)
            exact k9
          · skip
            refine lv_iload hx hb dX5_writes_86 (lv_at hl 0 rfl) ?_
            refine lv_iconst (v := 2) hx hb dX5_writes_88 (by decide) ?_
            refine lv_icmp_eq (tgt := 118) hx hb dX5_writes_89 (by decide) (fun c_26 => ?_) (fun c_26 => ?_)
            · skip
              have e_27 : (if ((wrI (upd (upd fS (8 + j) ((fS (8 + j)) + 1)) 3 ((fS 3) + 1)) j (nxP j n) xd (sumF (nI j) ((fS (8 + j)) + 1) xd) sg) (1 + sg)) = 1 then (upd (wrI (upd (upd fS (8 + j) ((fS (8 + j)) + 1)) 3 ((fS 3) + 1)) j (nxP j n) xd (sumF (nI j) ((fS (8 + j)) + 1) xd) sg) (1 + sg) 0) else (if ((wrI (upd (upd fS (8 + j) ((fS (8 + j)) + 1)) 3 ((fS 3) + 1)) j (nxP j n) xd (sumF (nI j) ((fS (8 + j)) + 1) xd) sg) (1 + sg)) = 2 then (upd (wrI (upd (upd fS (8 + j) ((fS (8 + j)) + 1)) 3 ((fS 3) + 1)) j (nxP j n) xd (sumF (nI j) ((fS (8 + j)) + 1) xd) sg) (1 + sg) 0) else (n_X5_lay_1 (upd (wrI (upd (upd fS (8 + j) ((fS (8 + j)) + 1)) 3 ((fS 3) + 1)) j (nxP j n) xd (sumF (nI j) ((fS (8 + j)) + 1) xd) sg) (1 + sg) 0) sg j j (if ((wrI (upd (upd fS (8 + j) ((fS (8 + j)) + 1)) 3 ((fS 3) + 1)) j (nxP j n) xd (sumF (nI j) ((fS (8 + j)) + 1) xd) sg) (1 + sg)) = 4 then ((xd + 1) - (xd + 1) / 10000 * 10000) else xd) (sumF (nI j) ((fS (8 + j)) + 1) xd)))) = (upd (wrI (upd (upd fS (8 + j) ((fS (8 + j)) + 1)) 3 ((fS 3) + 1)) j (nxP j n) xd (sumF (nI j) ((fS (8 + j)) + 1) xd) sg) (1 + sg) 0) := by rw [if_neg c_15, if_pos c_26]
              have k9 := K_17 _ _ _ (by rw [e_27]; exact hP) (by rw [e_27]; exact hD) hS (lv_sub hl [0, 1, 2, 3, 4, 5, 6] rfl)
              exact k9
            · skip
              refine lv_aload_n hx hb dX5_writes_92 rfl (lv_at hl 4 rfl) ?_
              refine lv_iload hx hb dX5_writes_93 (lv_at hl 1 rfl) ?_
              refine lv_iload_n hx hb dX5_writes_95 rfl (lv_at hl 5 rfl) ?_
              refine lv_iload_n hx hb dX5_writes_96 rfl (lv_at hl 5 rfl) ?_
              refine lv_iload hx hb dX5_writes_97 (lv_at hl 0 rfl) ?_
              refine lv_iconst (v := 4) hx hb dX5_writes_99 (by decide) ?_
              have K_30 : ∀ (H : Heap) (locs : List Loc) (ls : Array Slot), va_P D vwCl [(oM, .inr (5, [.ref aS, .ref aA, .ref aB, .int (nI kn), .ref aT, .ref aV, .ref aP, .int (nI ln), .int pl, .int wr, .int le, .int on, .int tw])), (aS, .inl (K 0, 360, .inl (upd (wrI (upd (upd fS (8 + j) ((fS (8 + j)) + 1)) 3 ((fS 3) + 1)) j (nxP j n) xd (sumF (nI j) ((fS (8 + j)) + 1) xd) sg) (1 + sg) 0))), (aA, .inl (K 0, 360, .inl fA)), (aB, .inl (K 0, 2160, .inl fB)), (aT, .inl (K 0, 720, .inl fT)), (aV, .inl (K 2, 2, .inl fV)), (aP, .inl (K 0, 80, .inl fP))] H → va_D A [(oM, .inr (5, [.ref aS, .ref aA, .ref aB, .int (nI kn), .ref aT, .ref aV, .ref aP, .int (nI ln), .int pl, .int wr, .int le, .int on, .int tw])), (aS, .inl (K 0, 360, .inl (upd (wrI (upd (upd fS (8 + j) ((fS (8 + j)) + 1)) 3 ((fS 3) + 1)) j (nxP j n) xd (sumF (nI j) ((fS (8 + j)) + 1) xd) sg) (1 + sg) 0))), (aA, .inl (K 0, 360, .inl fA)), (aB, .inl (K 0, 2160, .inl fB)), (aT, .inl (K 0, 720, .inl fT)), (aV, .inl (K 2, 2, .inl fV)), (aP, .inl (K 0, 80, .inl fP))] → va_S A s.heap H locs → lv_has ls 7 [(6, .int ((wrI (upd (upd fS (8 + j) ((fS (8 + j)) + 1)) 3 ((fS 3) + 1)) j (nxP j n) xd (sumF (nI j) ((fS (8 + j)) + 1) xd) sg) (1 + sg))), (5, .int (nI sg)), (4, .int (nI (nxP j n))), (3, .int (sumF (nI j) ((fS (8 + j)) + 1) xd)), (0, .ref oM), (1, .int (nI j)), (2, .int xd)] → W p l e (headSpec wsX5_writes ({ frames := 2, cells := 0, slots := 0, locals := 47 })).room s m ([.ref oM, .int (nI j), .int xd] : List Value).toArray below meth c H locs 0 0 (MQ below (va_Qi (fun r (_ : Unit) => r = ((wrF fS j (nxP j n) xd) (8 + j))) (fun _ t => va_P D vwCl [(oM, .inr (5, [.ref aS, .ref aA, .ref aB, .int (nI kn), .ref aT, .ref aV, .ref aP, .int (nI ln), .int pl, .int wr, .int le, .int on, .int tw])), (aS, .inl (K 0, 360, .inl (wrF fS j (nxP j n) xd))), (aA, .inl (K 0, 360, .inl fA)), (aB, .inl (K 0, 2160, .inl fB)), (aT, .inl (K 0, 720, .inl fT)), (aV, .inl (K 2, 2, .inl fV)), (aP, .inl (K 0, 80, .inl fP))] t.heap) A) ([.ref oM, .int (nI j), .int xd] : List Value).toArray s 0 0 A) (F0 m 114 ls [.int (if ((wrI (upd (upd fS (8 + j) ((fS (8 + j)) + 1)) 3 ((fS 3) + 1)) j (nxP j n) xd (sumF (nI j) ((fS (8 + j)) + 1) xd) sg) (1 + sg)) = 4 then ((xd + 1) - (xd + 1) / 10000 * 10000) else xd), .int (nI j), .int (nI j), .int (nI sg), .ref oM]) := by
                intro H locs ls hP hD hS hl
                refine lv_iload_n hx hb dX5_writes_114 rfl (lv_at hl 3 rfl) ?_
                have hPc := hP.sub (ws' := [(oM, .inr (5, [.ref aS, .ref aA, .ref aB, .int (nI kn), .ref aT, .ref aV, .ref aP, .int (nI ln), .int pl, .int wr, .int le, .int on, .int tw])), (aS, .inl (K 0, 360, .inl (upd (wrI (upd (upd fS (8 + j) ((fS (8 + j)) + 1)) 3 ((fS 3) + 1)) j (nxP j n) xd (sumF (nI j) ((fS (8 + j)) + 1) xd) sg) (1 + sg) 0))), (aA, .inl (K 0, 360, .inl fA)), (aB, .inl (K 0, 2160, .inl fB)), (aT, .inl (K 0, 720, .inl fT)), (aV, .inl (K 2, 2, .inl fV)), (aP, .inl (K 0, 80, .inl fP))]) [0, 1, 2, 3, 4, 5, 6] rfl
                have hDc : va_D (fun _ => True) [(oM, .inr (5, [.ref aS, .ref aA, .ref aB, .int (nI kn), .ref aT, .ref aV, .ref aP, .int (nI ln), .int pl, .int wr, .int le, .int on, .int tw])), (aS, .inl (K 0, 360, .inl (upd (wrI (upd (upd fS (8 + j) ((fS (8 + j)) + 1)) 3 ((fS 3) + 1)) j (nxP j n) xd (sumF (nI j) ((fS (8 + j)) + 1) xd) sg) (1 + sg) 0))), (aA, .inl (K 0, 360, .inl fA)), (aB, .inl (K 0, 2160, .inl fB)), (aT, .inl (K 0, 720, .inl fT)), (aV, .inl (K 2, 2, .inl fV)), (aP, .inl (K 0, 80, .inl fP))] := (hD.sub (ws' := [(oM, .inr (5, [.ref aS, .ref aA, .ref aB, .int (nI kn), .ref aT, .ref aV, .ref aP, .int (nI ln), .int pl, .int wr, .int le, .int on, .int tw])), (aS, .inl (K 0, 360, .inl (upd (wrI (upd (upd fS (8 + j) ((fS (8 + j)) + 1)) 3 ((fS 3) + 1)) j (nxP j n) xd (sumF (nI j) ((fS (8 + j)) + 1) xd) sg) (1 + sg) 0))), (aA, .inl (K 0, 360, .inl fA)), (aB, .inl (K 0, 2160, .inl fB)), (aT, .inl (K 0, 720, .inl fT)), (aV, .inl (K 2, 2, .inl fV)), (aP, .inl (K 0, 80, .inl fP))]) [0, 1, 2, 3, 4, 5, 6] (by decide) rfl).weaken (fun _ _ _ _ => trivial)
                refine kw_v (W1 := [(oM, .inr (5, [.ref aS, .ref aA, .ref aB, .int (nI kn), .ref aT, .ref aV, .ref aP, .int (nI ln), .int pl, .int wr, .int le, .int on, .int tw])), (aS, .inl (K 0, 360, .inl (n_X5_lay_1 (upd (wrI (upd (upd fS (8 + j) ((fS (8 + j)) + 1)) 3 ((fS 3) + 1)) j (nxP j n) xd (sumF (nI j) ((fS (8 + j)) + 1) xd) sg) (1 + sg) 0) sg j j (if ((wrI (upd (upd fS (8 + j) ((fS (8 + j)) + 1)) 3 ((fS 3) + 1)) j (nxP j n) xd (sumF (nI j) ((fS (8 + j)) + 1) xd) sg) (1 + sg)) = 4 then ((xd + 1) - (xd + 1) / 10000 * 10000) else xd) (sumF (nI j) ((fS (8 + j)) + 1) xd)))), (aA, .inl (K 0, 360, .inl fA)), (aB, .inl (K 0, 2160, .inl fB)), (aT, .inl (K 0, 720, .inl fT)), (aV, .inl (K 2, 2, .inl fV)), (aP, .inl (K 0, 80, .inl fP))]) (w1 := [(oM, .inr (5, [.ref aS, .ref aA, .ref aB, .int (nI kn), .ref aT, .ref aV, .ref aP, .int (nI ln), .int pl, .int wr, .int le, .int on, .int tw])), (aS, .inl (K 0, 360, .inl (n_X5_lay_1 (upd (wrI (upd (upd fS (8 + j) ((fS (8 + j)) + 1)) 3 ((fS 3) + 1)) j (nxP j n) xd (sumF (nI j) ((fS (8 + j)) + 1) xd) sg) (1 + sg) 0) sg j j (if ((wrI (upd (upd fS (8 + j) ((fS (8 + j)) + 1)) 3 ((fS 3) + 1)) j (nxP j n) xd (sumF (nI j) ((fS (8 + j)) + 1) xd) sg) (1 + sg)) = 4 then ((xd + 1) - (xd + 1) / 10000 * 10000) else xd) (sumF (nI j) ((fS (8 + j)) + 1) xd)))), (aA, .inl (K 0, 360, .inl fA)), (aB, .inl (K 0, 2160, .inl fB)), (aT, .inl (K 0, 720, .inl fT)), (aV, .inl (K 2, 2, .inl fV)), (aP, .inl (K 0, 80, .inl fP))]) (va_runV (As := [.int (nI sg), .int (nI j), .int (nI j), .int (if ((wrI (upd (upd fS (8 + j) ((fS (8 + j)) + 1)) 3 ((fS 3) + 1)) j (nxP j n) xd (sumF (nI j) ((fS (8 + j)) + 1) xd) sg) (1 + sg)) = 4 then ((xd + 1) - (xd + 1) / 10000 * 10000) else xd), .int (sumF (nI j) ((fS (8 + j)) + 1) xd)]) (rest := []) ⟨hx, hb, hml, hown, hts⟩ (c_X5_lay l D K oM aS aA aB aT aV aP (upd (wrI (upd (upd fS (8 + j) ((fS (8 + j)) + 1)) 3 ((fS 3) + 1)) j (nxP j n) xd (sumF (nI j) ((fS (8 + j)) + 1) xd) sg) (1 + sg) 0) fA fB fT fV fP kn ln pl wr le on tw sg j j (if ((wrI (upd (upd fS (8 + j) ((fS (8 + j)) + 1)) 3 ((fS 3) + 1)) j (nxP j n) xd (sumF (nI j) ((fS (8 + j)) + 1) xd) sg) (1 + sg)) = 4 then ((xd + 1) - (xd + 1) / 10000 * 10000) else xd) (sumF (nI j) ((fS (8 + j)) + 1) xd) (by omega) (by have := nxP_ltn hjn; omega) (by omega)) (cwV 5 hts gX5_writes_X5_lay rfl rfl rfl (by decide +kernel) ⟨Nat.le_of_ble_eq_true rfl, Nat.le_of_ble_eq_true rfl⟩) (pre_wr hbd hPc hDc (ci := 5) (q0 := 0) rfl rfl) rfl rfl hl.1 rfl (lv_room (Nat.le_of_ble_eq_true rfl)) dX5_writes_115 ⟨Nat.zero_le _, Nat.zero_le _⟩) hP hD hS [0, 1, 2, 3, 4, 5, 6] [] 7 rfl rfl rfl rfl (by decide) (by decide) rfl (fun H locs hP hD hS => ?_)
                have e_31 : (if ((wrI (upd (upd fS (8 + j) ((fS (8 + j)) + 1)) 3 ((fS 3) + 1)) j (nxP j n) xd (sumF (nI j) ((fS (8 + j)) + 1) xd) sg) (1 + sg)) = 1 then (upd (wrI (upd (upd fS (8 + j) ((fS (8 + j)) + 1)) 3 ((fS 3) + 1)) j (nxP j n) xd (sumF (nI j) ((fS (8 + j)) + 1) xd) sg) (1 + sg) 0) else (if ((wrI (upd (upd fS (8 + j) ((fS (8 + j)) + 1)) 3 ((fS 3) + 1)) j (nxP j n) xd (sumF (nI j) ((fS (8 + j)) + 1) xd) sg) (1 + sg)) = 2 then (upd (wrI (upd (upd fS (8 + j) ((fS (8 + j)) + 1)) 3 ((fS 3) + 1)) j (nxP j n) xd (sumF (nI j) ((fS (8 + j)) + 1) xd) sg) (1 + sg) 0) else (n_X5_lay_1 (upd (wrI (upd (upd fS (8 + j) ((fS (8 + j)) + 1)) 3 ((fS 3) + 1)) j (nxP j n) xd (sumF (nI j) ((fS (8 + j)) + 1) xd) sg) (1 + sg) 0) sg j j (if ((wrI (upd (upd fS (8 + j) ((fS (8 + j)) + 1)) 3 ((fS 3) + 1)) j (nxP j n) xd (sumF (nI j) ((fS (8 + j)) + 1) xd) sg) (1 + sg)) = 4 then ((xd + 1) - (xd + 1) / 10000 * 10000) else xd) (sumF (nI j) ((fS (8 + j)) + 1) xd)))) = (n_X5_lay_1 (upd (wrI (upd (upd fS (8 + j) ((fS (8 + j)) + 1)) 3 ((fS 3) + 1)) j (nxP j n) xd (sumF (nI j) ((fS (8 + j)) + 1) xd) sg) (1 + sg) 0) sg j j (if ((wrI (upd (upd fS (8 + j) ((fS (8 + j)) + 1)) 3 ((fS 3) + 1)) j (nxP j n) xd (sumF (nI j) ((fS (8 + j)) + 1) xd) sg) (1 + sg)) = 4 then ((xd + 1) - (xd + 1) / 10000 * 10000) else xd) (sumF (nI j) ((fS (8 + j)) + 1) xd)) := by rw [if_neg c_15, if_neg c_26]
                have k9 := K_17 _ _ _ (by rw [e_31]; exact hP) (by rw [e_31]; exact hD) hS (lv_sub hl [0, 1, 2, 3, 4, 5, 6] rfl)
                exact k9
              refine lv_icmp_ne (tgt := 113) hx hb dX5_writes_100 (by decide) (fun c_28 => ?_) (fun c_28 => ?_)
              · skip
                refine lv_iload_n hx hb dX5_writes_113 rfl (lv_at hl 6 rfl) ?_
                have e_32 : (if ((wrI (upd (upd fS (8 + j) ((fS (8 + j)) + 1)) 3 ((fS 3) + 1)) j (nxP j n) xd (sumF (nI j) ((fS (8 + j)) + 1) xd) sg) (1 + sg)) = 4 then ((xd + 1) - (xd + 1) / 10000 * 10000) else xd) = xd := by rw [if_neg c_28]
                have k9 := K_30 _ _ _ hP hD hS (lv_sub hl [0, 1, 2, 3, 4, 5, 6] rfl)
                rw [e_32] at k9
                exact k9
              · skip
                refine lv_iload_n hx hb dX5_writes_103 rfl (lv_at hl 6 rfl) ?_
                refine lv_iconst (v := 1) hx hb dX5_writes_104 (by decide) ?_
                refine lv_iadd hx hb dX5_writes_105 ?_
                refine lv_sipush (v := 10000) hx hb dX5_writes_106 (by decide) ?_
                refine lv_irem hx hb dX5_writes_109 (by decide) ?_
                refine lv_goto (tgt := 114) hx hb dX5_writes_110 (by decide) ?_
                have e_33 : (if ((wrI (upd (upd fS (8 + j) ((fS (8 + j)) + 1)) 3 ((fS 3) + 1)) j (nxP j n) xd (sumF (nI j) ((fS (8 + j)) + 1) xd) sg) (1 + sg)) = 4 then ((xd + 1) - (xd + 1) / 10000 * 10000) else xd) = ((xd + 1) - (xd + 1) / 10000 * 10000) := by rw [if_pos c_28]
                have k9 := K_30 _ _ _ hP hD hS (lv_sub hl [0, 1, 2, 3, 4, 5, 6] rfl)
                rw [e_33] at k9
                exact k9
    exact L_2 _ 0 (Nat.lt_succ_self _) (by omega) H locs ls hP hD hS (lv_sub hl [0, 1, 2, 3, 4, 5] rfl)
  exact K0 s.heap [] ls hP hD hS hl
theorem mends_0 (f : Nat → Int32) (j : Nat) : n_X5_mends_1 f j 0 = f 0 := by
  unfold n_X5_mends_1
  split
  · rfl
  · split <;> (repeat rw [pk_un (by omega)])
def scI (f : Nat → Int32) : Nat → Nat → Int32
  | 0 => f
  | k + 1 => n_X5_mends_1 (scI f k) k
def scN (f : Nat → Int32) : Nat → Int32
  | 0 => 0
  | k + 1 => (scN f k) + (if (r_X5_mends (scI f k) k) ≤ 0 then 0 else 1)
theorem scI_0 {f : Nat → Int32} {x : Int32} (h : f 0 = x) : ∀ k, scI f k 0 = x
  | 0 => h
  | k + 1 => (mends_0 (scI f k) k).trans (scI_0 h k)
set_option maxHeartbeats 4000000 in
set_option maxRecDepth 100000 in
theorem c_X5_scrubs (l : Launch) (D : va_G) (K : Nat → ClassId) (oM : Nat) (aS : Nat) (aA : Nat) (aB : Nat) (aT : Nat) (aV : Nat) (aP : Nat) (fS : Nat → Int32) (fA : Nat → Int32) (fB : Nat → Int32) (fT : Nat → Int32) (fV : Nat → Int32) (fP : Nat → Int32) (kn : Nat) (ln : Nat) (pl : Int32) (wr : Int32) (le : Int32) (on : Int32) (tw : Int32) (n : Nat) (hs0 : fS 0 = nI n) (hn1 : 1 ≤ n) (hn : n ≤ 32) : Met l yX5_scrubs wsX5_scrubs ({ frames := 6, cells := 0, slots := 0, locals := 133 }) (va_Pc [.ref oM] (fun U => Bd D K U ∧ va_P D vwCl [(oM, .inr (5, [.ref aS, .ref aA, .ref aB, .int (nI kn), .ref aT, .ref aV, .ref aP, .int (nI ln), .int pl, .int wr, .int le, .int on, .int tw])), (aS, .inl (K 0, 360, .inl fS)), (aA, .inl (K 0, 360, .inl fA)), (aB, .inl (K 0, 2160, .inl fB)), (aT, .inl (K 0, 720, .inl fT)), (aV, .inl (K 2, 2, .inl fV)), (aP, .inl (K 0, 80, .inl fP))] U.heap ∧ va_D (fun _ => True) [(oM, .inr (5, [.ref aS, .ref aA, .ref aB, .int (nI kn), .ref aT, .ref aV, .ref aP, .int (nI ln), .int pl, .int wr, .int le, .int on, .int tw])), (aS, .inl (K 0, 360, .inl fS)), (aA, .inl (K 0, 360, .inl fA)), (aB, .inl (K 0, 2160, .inl fB)), (aT, .inl (K 0, 720, .inl fT)), (aV, .inl (K 2, 2, .inl fV)), (aP, .inl (K 0, 80, .inl fP))])) (va_Qi (fun r (_ : Unit) => r = (scN fS n)) (fun _ t => va_P D vwCl [(oM, .inr (5, [.ref aS, .ref aA, .ref aB, .int (nI kn), .ref aT, .ref aV, .ref aP, .int (nI ln), .int pl, .int wr, .int le, .int on, .int tw])), (aS, .inl (K 0, 360, .inl (scI fS n))), (aA, .inl (K 0, 360, .inl fA)), (aB, .inl (K 0, 2160, .inl fB)), (aT, .inl (K 0, 720, .inl fT)), (aV, .inl (K 2, 2, .inl fV)), (aP, .inl (K 0, 80, .inl fP))] t.heap) (inW [(oM, .inr (5, [.ref aS, .ref aA, .ref aB, .int (nI kn), .ref aT, .ref aV, .ref aP, .int (nI ln), .int pl, .int wr, .int le, .int on, .int tw])), (aS, .inl (K 0, 360, .inl fS)), (aA, .inl (K 0, 360, .inl fA)), (aB, .inl (K 0, 2160, .inl fB)), (aT, .inl (K 0, 720, .inl fT)), (aV, .inl (K 2, 2, .inl fV)), (aP, .inl (K 0, 80, .inl fP))])) 0 0 (inW [(oM, .inr (5, [.ref aS, .ref aA, .ref aB, .int (nI kn), .ref aT, .ref aV, .ref aP, .int (nI ln), .int pl, .int wr, .int le, .int on, .int tw])), (aS, .inl (K 0, 360, .inl fS)), (aA, .inl (K 0, 360, .inl fA)), (aB, .inl (K 0, 2160, .inl fB)), (aT, .inl (K 0, 720, .inl fT)), (aV, .inl (K 2, 2, .inl fV)), (aP, .inl (K 0, 80, .inl fP))]) := by
  refine Met.ofW (cc := cX5_scrubs) (maxL := 3) (ret := (some .int)) (by decide) rfl ?_
  intro p e s m args below meth c s₁ B hml hv
  obtain ⟨rfl, hbd, hP, hD0⟩ := hv
  have hx := B.exec
  have hb := B.bytes
  have hr := B.returns
  have hts := atoms_spec (ws := wsX5_scrubs) B.pre
  have hown : s.vm.findClass RX5 = some m.cls := findClass_of_methodNamed B.named
  have hlocks := B.notSynchronized
  have hK := hbd.2
  have hP : va_P D vwCl [(oM, .inr (5, [.ref aS, .ref aA, .ref aB, .int (nI kn), .ref aT, .ref aV, .ref aP, .int (nI ln), .int pl, .int wr, .int le, .int on, .int tw])), (aS, .inl (K 0, 360, .inl fS)), (aA, .inl (K 0, 360, .inl fA)), (aB, .inl (K 0, 2160, .inl fB)), (aT, .inl (K 0, 720, .inl fT)), (aV, .inl (K 2, 2, .inl fV)), (aP, .inl (K 0, 80, .inl fP))] s.heap := hP
  have hin5 : ∀ w ∈ wsX50, w ∈ wsX5_scrubs := by decide +kernel
  have hD := hD0.own
  generalize hAe : inW [(oM, .inr (5, [.ref aS, .ref aA, .ref aB, .int (nI kn), .ref aT, .ref aV, .ref aP, .int (nI ln), .int pl, .int wr, .int le, .int on, .int tw])), (aS, .inl (K 0, 360, .inl fS)), (aA, .inl (K 0, 360, .inl fA)), (aB, .inl (K 0, 2160, .inl fB)), (aT, .inl (K 0, 720, .inl fT)), (aV, .inl (K 2, 2, .inl fV)), (aP, .inl (K 0, 80, .inl fP))] = A at hD ⊢
  have hS : va_S A s.heap s.heap [] := va_S.rf
  have hl := lv_entry ([.ref oM]) (n := 3) (Nat.le_of_ble_eq_true rfl)
  rw [lg_entry_eq]
  generalize (lg_sl ([.ref oM]) ++ List.replicate (3 - (lg_sl ([.ref oM])).length) Slot.unset).toArray = ls at hl ⊢
  have hl : lv_has ls 3 [(0, .ref oM)] := hl
  have K0 : ∀ (H : Heap) (locs : List Loc) (ls : Array Slot), va_P D vwCl [(oM, .inr (5, [.ref aS, .ref aA, .ref aB, .int (nI kn), .ref aT, .ref aV, .ref aP, .int (nI ln), .int pl, .int wr, .int le, .int on, .int tw])), (aS, .inl (K 0, 360, .inl fS)), (aA, .inl (K 0, 360, .inl fA)), (aB, .inl (K 0, 2160, .inl fB)), (aT, .inl (K 0, 720, .inl fT)), (aV, .inl (K 2, 2, .inl fV)), (aP, .inl (K 0, 80, .inl fP))] H → va_D A [(oM, .inr (5, [.ref aS, .ref aA, .ref aB, .int (nI kn), .ref aT, .ref aV, .ref aP, .int (nI ln), .int pl, .int wr, .int le, .int on, .int tw])), (aS, .inl (K 0, 360, .inl fS)), (aA, .inl (K 0, 360, .inl fA)), (aB, .inl (K 0, 2160, .inl fB)), (aT, .inl (K 0, 720, .inl fT)), (aV, .inl (K 2, 2, .inl fV)), (aP, .inl (K 0, 80, .inl fP))] → va_S A s.heap H locs → lv_has ls 3 [(0, .ref oM)] → W p l e (headSpec wsX5_scrubs ({ frames := 6, cells := 0, slots := 0, locals := 133 })).room s m ([.ref oM] : List Value).toArray below meth c H locs 0 0 (MQ below (va_Qi (fun r (_ : Unit) => r = (scN fS n)) (fun _ t => va_P D vwCl [(oM, .inr (5, [.ref aS, .ref aA, .ref aB, .int (nI kn), .ref aT, .ref aV, .ref aP, .int (nI ln), .int pl, .int wr, .int le, .int on, .int tw])), (aS, .inl (K 0, 360, .inl (scI fS n))), (aA, .inl (K 0, 360, .inl fA)), (aB, .inl (K 0, 2160, .inl fB)), (aT, .inl (K 0, 720, .inl fT)), (aV, .inl (K 2, 2, .inl fV)), (aP, .inl (K 0, 80, .inl fP))] t.heap) A) ([.ref oM] : List Value).toArray s 0 0 A) (F0 m 0 ls []) := by
    intro H locs ls hP hD hS hl
    refine lv_iconst (v := 0) hx hb dX5_scrubs_0 (by decide) ?_
    refine lv_istore_n (lv' := [(1, .int 0), (0, .ref oM)]) hx hb dX5_scrubs_1 rfl hl (by decide) rfl (fun ls hl => ?_)
    refine lv_iconst (v := 0) hx hb dX5_scrubs_2 (by decide) ?_
    refine lv_istore_n (lv' := [(2, .int 0), (1, .int 0), (0, .ref oM)]) hx hb dX5_scrubs_3 rfl hl (by decide) rfl (fun ls hl => ?_)
    have L_1 : ∀ (nf : Nat) (k : Nat), n - k < nf → k ≤ n → ∀ (H : Heap) (locs : List Loc) (ls : Array Slot), va_P D vwCl [(oM, .inr (5, [.ref aS, .ref aA, .ref aB, .int (nI kn), .ref aT, .ref aV, .ref aP, .int (nI ln), .int pl, .int wr, .int le, .int on, .int tw])), (aS, .inl (K 0, 360, .inl (scI fS k))), (aA, .inl (K 0, 360, .inl fA)), (aB, .inl (K 0, 2160, .inl fB)), (aT, .inl (K 0, 720, .inl fT)), (aV, .inl (K 2, 2, .inl fV)), (aP, .inl (K 0, 80, .inl fP))] H → va_D A [(oM, .inr (5, [.ref aS, .ref aA, .ref aB, .int (nI kn), .ref aT, .ref aV, .ref aP, .int (nI ln), .int pl, .int wr, .int le, .int on, .int tw])), (aS, .inl (K 0, 360, .inl (scI fS k))), (aA, .inl (K 0, 360, .inl fA)), (aB, .inl (K 0, 2160, .inl fB)), (aT, .inl (K 0, 720, .inl fT)), (aV, .inl (K 2, 2, .inl fV)), (aP, .inl (K 0, 80, .inl fP))] → va_S A s.heap H locs → lv_has ls 3 [(2, .int (nI k)), (1, .int (scN fS k)), (0, .ref oM)] → W p l e (headSpec wsX5_scrubs ({ frames := 6, cells := 0, slots := 0, locals := 133 })).room s m ([.ref oM] : List Value).toArray below meth c H locs 0 0 (MQ below (va_Qi (fun r (_ : Unit) => r = (scN fS n)) (fun _ t => va_P D vwCl [(oM, .inr (5, [.ref aS, .ref aA, .ref aB, .int (nI kn), .ref aT, .ref aV, .ref aP, .int (nI ln), .int pl, .int wr, .int le, .int on, .int tw])), (aS, .inl (K 0, 360, .inl (scI fS n))), (aA, .inl (K 0, 360, .inl fA)), (aB, .inl (K 0, 2160, .inl fB)), (aT, .inl (K 0, 720, .inl fT)), (aV, .inl (K 2, 2, .inl fV)), (aP, .inl (K 0, 80, .inl fP))] t.heap) A) ([.ref oM] : List Value).toArray s 0 0 A) (F0 m 4 ls []) := by
      intro nf
      induction nf with
      | zero =>
        intro k hm
        exact absurd hm (Nat.not_lt_zero _)
      | succ nf ih =>
        intro k hm hk H locs ls hP hD hS hl
        refine lv_iload_n hx hb dX5_scrubs_4 rfl (lv_at hl 0 rfl) ?_
        refine lv_aload_n hx hb dX5_scrubs_5 rfl (lv_at hl 2 rfl) ?_
        refine va_get (D := D) (ci := 5) (v := .ref aS) (C := RX5) (T := TX5) (N := 13) hx hb hts hin5 hown hK hP 0 rfl rfl 0 (by decide) (hts _ (List.mem_of_getElem? (i := 1) rfl)) (fun _ h9 => h9) rfl dX5_scrubs_6 ?_
        refine lv_iconst (v := 0) hx hb dX5_scrubs_9 (by decide) ?_
        refine n_iald hx hb hK hP 1 0 rfl rfl 0 (by omega) (by decide) dX5_scrubs_10 ?_
        refine st1 (scI_0 hs0 k) ?_
        refine lv_icmp_ge (tgt := 36) hx hb dX5_scrubs_11 (by decide) (fun c_2 => ?_) (fun c_2 => ?_)
        · skip
          have nc_2 := (nI_leI (a := n) (b := k) (by omega) (by omega)).mp c_2
          have e9 : n = k := by omega
          subst e9
          refine lv_iload_n hx hb dX5_scrubs_36 rfl (lv_at hl 1 rfl) ?_
          have hPf : va_P D vwCl [(oM, .inr (5, [.ref aS, .ref aA, .ref aB, .int (nI kn), .ref aT, .ref aV, .ref aP, .int (nI ln), .int pl, .int wr, .int le, .int on, .int tw])), (aS, .inl (K 0, 360, .inl (scI fS n))), (aA, .inl (K 0, 360, .inl fA)), (aB, .inl (K 0, 2160, .inl fB)), (aT, .inl (K 0, 720, .inl fT)), (aV, .inl (K 2, 2, .inl fV)), (aP, .inl (K 0, 80, .inl fP))] H := hP
          exact W.iret hx hb hr (fun t ht hW => ⟨⟨_, (), rfl, rfl, by show va_P D vwCl _ t.heap; rw [ht]; exact hPf⟩, hS.F ht⟩) hS.2.2 dX5_scrubs_37
        · skip
          have nc_2 : ¬ (n ≤ k) := fun h => c_2 ((nI_leI (a := n) (b := k) (by omega) (by omega)).mpr h)
          refine lv_iload_n hx hb dX5_scrubs_14 rfl (lv_at hl 1 rfl) ?_
          refine lv_aload_n hx hb dX5_scrubs_15 rfl (lv_at hl 2 rfl) ?_
          refine lv_iload_n hx hb dX5_scrubs_16 rfl (lv_at hl 0 rfl) ?_
          have hPc := hP.sub (ws' := [(oM, .inr (5, [.ref aS, .ref aA, .ref aB, .int (nI kn), .ref aT, .ref aV, .ref aP, .int (nI ln), .int pl, .int wr, .int le, .int on, .int tw])), (aS, .inl (K 0, 360, .inl (scI fS k))), (aA, .inl (K 0, 360, .inl fA)), (aB, .inl (K 0, 2160, .inl fB)), (aT, .inl (K 0, 720, .inl fT)), (aV, .inl (K 2, 2, .inl fV)), (aP, .inl (K 0, 80, .inl fP))]) [0, 1, 2, 3, 4, 5, 6] rfl
          have hDc : va_D (fun _ => True) [(oM, .inr (5, [.ref aS, .ref aA, .ref aB, .int (nI kn), .ref aT, .ref aV, .ref aP, .int (nI ln), .int pl, .int wr, .int le, .int on, .int tw])), (aS, .inl (K 0, 360, .inl (scI fS k))), (aA, .inl (K 0, 360, .inl fA)), (aB, .inl (K 0, 2160, .inl fB)), (aT, .inl (K 0, 720, .inl fT)), (aV, .inl (K 2, 2, .inl fV)), (aP, .inl (K 0, 80, .inl fP))] := (hD.sub (ws' := [(oM, .inr (5, [.ref aS, .ref aA, .ref aB, .int (nI kn), .ref aT, .ref aV, .ref aP, .int (nI ln), .int pl, .int wr, .int le, .int on, .int tw])), (aS, .inl (K 0, 360, .inl (scI fS k))), (aA, .inl (K 0, 360, .inl fA)), (aB, .inl (K 0, 2160, .inl fB)), (aT, .inl (K 0, 720, .inl fT)), (aV, .inl (K 2, 2, .inl fV)), (aP, .inl (K 0, 80, .inl fP))]) [0, 1, 2, 3, 4, 5, 6] (by decide) rfl).weaken (fun _ _ _ _ => trivial)
          refine kw_i (W1 := [(oM, .inr (5, [.ref aS, .ref aA, .ref aB, .int (nI kn), .ref aT, .ref aV, .ref aP, .int (nI ln), .int pl, .int wr, .int le, .int on, .int tw])), (aS, .inl (K 0, 360, .inl (n_X5_mends_1 (scI fS k) k))), (aA, .inl (K 0, 360, .inl fA)), (aB, .inl (K 0, 2160, .inl fB)), (aT, .inl (K 0, 720, .inl fT)), (aV, .inl (K 2, 2, .inl fV)), (aP, .inl (K 0, 80, .inl fP))]) (w1 := [(oM, .inr (5, [.ref aS, .ref aA, .ref aB, .int (nI kn), .ref aT, .ref aV, .ref aP, .int (nI ln), .int pl, .int wr, .int le, .int on, .int tw])), (aS, .inl (K 0, 360, .inl (n_X5_mends_1 (scI fS k) k))), (aA, .inl (K 0, 360, .inl fA)), (aB, .inl (K 0, 2160, .inl fB)), (aT, .inl (K 0, 720, .inl fT)), (aV, .inl (K 2, 2, .inl fV)), (aP, .inl (K 0, 80, .inl fP))]) (va_runV (As := [.int (nI k)]) (rest := [.int (scN fS k)]) ⟨hx, hb, hml, hown, hts⟩ (c_X5_mends l D K oM aS aA aB aT aV aP (scI fS k) fA fB fT fV fP kn ln pl wr le on tw k (by omega)) (cwV 1 hts gX5_scrubs_X5_mends rfl rfl rfl (by decide +kernel) ⟨Nat.le_of_ble_eq_true rfl, Nat.le_of_ble_eq_true rfl⟩) (pre_wr hbd hPc hDc (ci := 5) (q0 := 0) rfl rfl) rfl rfl hl.1 rfl (lv_room (Nat.le_of_ble_eq_true rfl)) dX5_scrubs_17 ⟨Nat.zero_le _, Nat.zero_le _⟩) hP hD hS [0, 1, 2, 3, 4, 5, 6] [] 7 rfl rfl rfl rfl (by decide) (by decide) rfl (fun r_7 H locs hr_7 hP hD hS => ?_)
          subst hr_7
          have K_10 : ∀ (H : Heap) (locs : List Loc) (ls : Array Slot), va_P D vwCl [(oM, .inr (5, [.ref aS, .ref aA, .ref aB, .int (nI kn), .ref aT, .ref aV, .ref aP, .int (nI ln), .int pl, .int wr, .int le, .int on, .int tw])), (aS, .inl (K 0, 360, .inl (n_X5_mends_1 (scI fS k) k))), (aA, .inl (K 0, 360, .inl fA)), (aB, .inl (K 0, 2160, .inl fB)), (aT, .inl (K 0, 720, .inl fT)), (aV, .inl (K 2, 2, .inl fV)), (aP, .inl (K 0, 80, .inl fP))] H → va_D A [(oM, .inr (5, [.ref aS, .ref aA, .ref aB, .int (nI kn), .ref aT, .ref aV, .ref aP, .int (nI ln), .int pl, .int wr, .int le, .int on, .int tw])), (aS, .inl (K 0, 360, .inl (n_X5_mends_1 (scI fS k) k))), (aA, .inl (K 0, 360, .inl fA)), (aB, .inl (K 0, 2160, .inl fB)), (aT, .inl (K 0, 720, .inl fT)), (aV, .inl (K 2, 2, .inl fV)), (aP, .inl (K 0, 80, .inl fP))] → va_S A s.heap H locs → lv_has ls 3 [(2, .int (nI k)), (1, .int (scN fS k)), (0, .ref oM)] → W p l e (headSpec wsX5_scrubs ({ frames := 6, cells := 0, slots := 0, locals := 133 })).room s m ([.ref oM] : List Value).toArray below meth c H locs 0 0 (MQ below (va_Qi (fun r (_ : Unit) => r = (scN fS n)) (fun _ t => va_P D vwCl [(oM, .inr (5, [.ref aS, .ref aA, .ref aB, .int (nI kn), .ref aT, .ref aV, .ref aP, .int (nI ln), .int pl, .int wr, .int le, .int on, .int tw])), (aS, .inl (K 0, 360, .inl (scI fS n))), (aA, .inl (K 0, 360, .inl fA)), (aB, .inl (K 0, 2160, .inl fB)), (aT, .inl (K 0, 720, .inl fT)), (aV, .inl (K 2, 2, .inl fV)), (aP, .inl (K 0, 80, .inl fP))] t.heap) A) ([.ref oM] : List Value).toArray s 0 0 A) (F0 m 28 ls [.int (if (r_X5_mends (scI fS k) k) ≤ 0 then 0 else 1), .int (scN fS k)]) := by
            intro H locs ls hP hD hS hl
            refine lv_iadd hx hb dX5_scrubs_28 ?_
            refine lv_istore_n (lv' := [(1, .int ((scN fS k) + (if (r_X5_mends (scI fS k) k) ≤ 0 then 0 else 1))), (2, .int (nI k)), (0, .ref oM)]) hx hb dX5_scrubs_29 rfl hl (by decide) rfl (fun ls hl => ?_)
            refine lv_iinc (v := (nI (k + 1))) (lv' := [(2, .int (nI (k + 1))), (1, .int ((scN fS k) + (if (r_X5_mends (scI fS k) k) ≤ 0 then 0 else 1))), (0, .ref oM)]) hx hb dX5_scrubs_30 hl (k := 1) rfl (nI_add k 1) (by decide) rfl (fun ls hl => ?_)
            refine lv_goto (tgt := 4) hx hb dX5_scrubs_33 (by decide) ?_
            exact ih (k + 1) (by omega) (by omega) _ _ _ hP hD hS (lv_sub hl [0, 1, 2] rfl)
          refine lv_if_le (tgt := 27) hx hb dX5_scrubs_20 (by decide) (fun c_8 => ?_) (fun c_8 => ?_)
          · skip
            refine lv_iconst (v := 0) hx hb dX5_scrubs_27 (by decide) ?_
            have e_11 : (if (r_X5_mends (scI fS k) k) ≤ 0 then 0 else 1) = 0 := by rw [if_pos c_8]
            have k9 := K_10 _ _ _ hP hD hS (lv_sub hl [0, 1, 2] rfl)
            rw [e_11] at k9
            exact k9
          · skip
            refine lv_iconst (v := 1) hx hb dX5_scrubs_23 (by decide) ?_
            refine lv_goto (tgt := 28) hx hb dX5_scrubs_24 (by decide) ?_
            have e_12 : (if (r_X5_mends (scI fS k) k) ≤ 0 then 0 else 1) = 1 := by rw [if_neg c_8]
            have k9 := K_10 _ _ _ hP hD hS (lv_sub hl [0, 1, 2] rfl)
            rw [e_12] at k9
            exact k9
    exact L_1 _ 0 (Nat.lt_succ_self _) (by omega) H locs ls hP hD hS (lv_sub hl [0, 1, 2] rfl)
  exact K0 s.heap [] ls hP hD hS hl
def plS (f : Nat → Int32) (w : Int32) : Nat → Int64
  | 0 => 0
  | k + 1 => ((plS f w k) ||| (if (r_X5_isSo f k w) = 0 then 0 else (1 <<< ((nI k).toInt64 &&& 63))))
def mnS (f : Nat → Int32) (w : Int32) : Nat → Int32
  | 0 => 0
  | k + 1 => ((mnS f w k) + (if (r_X5_isSo f k w) = 0 then 0 else 1))
def plR (f : Nat → Int32) (w : Int32) (n : Nat) : Int64 := (if (r_X5_in w 0 5) = 0 then (-2) else (plS f w n))
set_option maxHeartbeats 4000000 in
set_option maxRecDepth 100000 in
theorem c_X5_places (l : Launch) (D : va_G) (K : Nat → ClassId) (oM : Nat) (aS : Nat) (aA : Nat) (aB : Nat) (aT : Nat) (aV : Nat) (aP : Nat) (fS : Nat → Int32) (kn : Nat) (ln : Nat) (pl : Int32) (wr : Int32) (le : Int32) (on : Int32) (tw : Int32) (n : Nat) (xw : Int32) (hs0 : fS 0 = nI n) (hn1 : 1 ≤ n) (hn : n ≤ 32) : Met l yX5_places wsX5_places ({ frames := 6, cells := 0, slots := 0, locals := 132 }) (va_Pc [.ref oM, .int xw] (fun U => Bd D K U ∧ va_P D vwCl [(oM, .inr (5, [.ref aS, .ref aA, .ref aB, .int (nI kn), .ref aT, .ref aV, .ref aP, .int (nI ln), .int pl, .int wr, .int le, .int on, .int tw])), (aS, .inl (K 0, 360, .inl fS))] U.heap)) (vp_Sl (fun r => r = (plR fS xw n))) 0 0 (fun _ => False) := by
  refine Met.ofW (cc := cX5_places) (maxL := 5) (ret := (some .long)) (by decide) rfl ?_
  intro p e s m args below meth c s₁ B hml hv
  obtain ⟨rfl, hbd, hP⟩ := hv
  have hx := B.exec
  have hb := B.bytes
  have hr := B.returns
  have hts := atoms_spec (ws := wsX5_places) B.pre
  have hown : s.vm.findClass RX5 = some m.cls := findClass_of_methodNamed B.named
  have hlocks := B.notSynchronized
  have hK := hbd.2
  have hP : va_P D vwCl [(oM, .inr (5, [.ref aS, .ref aA, .ref aB, .int (nI kn), .ref aT, .ref aV, .ref aP, .int (nI ln), .int pl, .int wr, .int le, .int on, .int tw])), (aS, .inl (K 0, 360, .inl fS))] s.heap := hP
  have hin5 : ∀ w ∈ wsX50, w ∈ wsX5_places := by decide +kernel
  have hl := lv_entry ([.ref oM, .int xw]) (n := 5) (Nat.le_of_ble_eq_true rfl)
  rw [lg_entry_eq]
  generalize (lg_sl ([.ref oM, .int xw]) ++ List.replicate (5 - (lg_sl ([.ref oM, .int xw])).length) Slot.unset).toArray = ls at hl ⊢
  have hl : lv_has ls 5 [(0, .ref oM), (1, .int xw)] := hl
  refine lv_iload_n hx hb dX5_places_0 rfl (lv_at hl 1 rfl) ?_
  refine lv_iconst (v := 0) hx hb dX5_places_1 (by decide) ?_
  refine lv_iconst (v := 5) hx hb dX5_places_2 (by decide) ?_
  refine vp_callSi (va_Run.run (va_runS (As := [.int xw, .int 0, .int 5]) (rest := []) ⟨hx, hb, hml, hown, hts⟩ (c_X5_in l D K xw 0 5 ) (va_cwS 3 hts gX5_places_X5_in rfl rfl rfl (by decide +kernel) ⟨Nat.le_of_ble_eq_true rfl, Nat.le_of_ble_eq_true rfl⟩) pre_s0 rfl rfl hl.1 rfl (lv_room (Nat.le_of_ble_eq_true rfl)) dX5_places_3 ⟨Nat.zero_le _, Nat.zero_le _⟩)) (fun r_1 hr_1 => ?_)
  subst hr_1
  refine lv_if_ne (tgt := 13) hx hb dX5_places_6 (by decide) (fun c_2 => ?_) (fun c_2 => ?_)
  · skip
    refine lv_lconst (v := 0) hx hb dX5_places_13 (by decide) ?_
    refine lv_lstore_n (lv' := [(2, .long 0), (0, .ref oM), (1, .int xw)]) hx hb dX5_places_14 rfl hl (by decide) rfl (fun ls hl => ?_)
    refine lv_iconst (v := 0) hx hb dX5_places_15 (by decide) ?_
    refine lv_istore (lv' := [(4, .int 0), (2, .long 0), (0, .ref oM), (1, .int xw)]) hx hb dX5_places_16  hl (by decide) rfl (fun ls hl => ?_)
    have L_3 : ∀ (nf : Nat) (k : Nat), n - k < nf → k ≤ n → ∀ (ls : Array Slot), lv_has ls 5 [(4, .int (nI k)), (2, .long (plS fS xw k)), (0, .ref oM), (1, .int xw)] → W p l e (headSpec wsX5_places ({ frames := 6, cells := 0, slots := 0, locals := 132 })).room s m ([.ref oM, .int xw] : List Value).toArray below meth c s.heap [] 0 0 (MQ below (vp_Sl (fun r => r = (plR fS xw n))) ([.ref oM, .int xw] : List Value).toArray s 0 0 (fun _ => False)) (F0 m 18 ls []) := by
      intro nf
      induction nf with
      | zero =>
        intro k hm
        exact absurd hm (Nat.not_lt_zero _)
      | succ nf ih =>
        intro k hm hk ls hl
        refine lv_iload hx hb dX5_places_18 (lv_at hl 0 rfl) ?_
        refine lv_aload_n hx hb dX5_places_20 rfl (lv_at hl 2 rfl) ?_
        refine va_get (D := D) (ci := 5) (v := .ref aS) (C := RX5) (T := TX5) (N := 13) hx hb hts hin5 hown hK hP 0 rfl rfl 0 (by decide) (hts _ (List.mem_of_getElem? (i := 2) rfl)) (fun _ h9 => h9) rfl dX5_places_21 ?_
        refine lv_iconst (v := 0) hx hb dX5_places_24 (by decide) ?_
        refine n_iald hx hb hK hP 1 0 rfl rfl 0 (by omega) (by decide) dX5_places_25 ?_
        refine st1 hs0 ?_
        refine lv_icmp_ge (tgt := 56) hx hb dX5_places_26 (by decide) (fun c_4 => ?_) (fun c_4 => ?_)
        · skip
          have nc_4 := (nI_leI (a := n) (b := k) (by omega) (by omega)).mp c_4
          have e9 : n = k := by omega
          subst e9
          refine lv_lload_n hx hb dX5_places_56 rfl (lv_at hl 1 rfl) ?_
          exact W.lret hx hb hr (fun t ht hW => ⟨_, rfl, (by unfold plR; rw [if_neg c_2]), ht⟩) (fun q hq => absurd hq List.not_mem_nil) dX5_places_57
        · skip
          have nc_4 : ¬ (n ≤ k) := fun h => c_4 ((nI_leI (a := n) (b := k) (by omega) (by omega)).mpr h)
          refine lv_lload_n hx hb dX5_places_29 rfl (lv_at hl 1 rfl) ?_
          refine lv_aload_n hx hb dX5_places_30 rfl (lv_at hl 2 rfl) ?_
          refine lv_iload hx hb dX5_places_31 (lv_at hl 0 rfl) ?_
          refine lv_iload_n hx hb dX5_places_33 rfl (lv_at hl 3 rfl) ?_
          have hPc := hP.sub (ws' := [(oM, .inr (5, [.ref aS, .ref aA, .ref aB, .int (nI kn), .ref aT, .ref aV, .ref aP, .int (nI ln), .int pl, .int wr, .int le, .int on, .int tw])), (aS, .inl (K 0, 360, .inl fS))]) [0, 1] rfl
          refine vp_callSi (va_Run.run (va_runV (As := [.int (nI k), .int xw]) (rest := [.long (plS fS xw k)]) ⟨hx, hb, hml, hown, hts⟩ (c_X5_isSo l D K oM aS aA aB aT aV aP fS kn ln pl wr le on tw k xw (by omega)) (cwV 2 hts gX5_places_X5_isSo rfl rfl rfl (by decide +kernel) ⟨Nat.le_of_ble_eq_true rfl, Nat.le_of_ble_eq_true rfl⟩) (pre_rd hbd hPc (ci := 5) (q0 := 0) rfl rfl) rfl rfl hl.1 rfl (lv_room (Nat.le_of_ble_eq_true rfl)) dX5_places_34 ⟨Nat.zero_le _, Nat.zero_le _⟩)) (fun r_9 hr_9 => ?_)
          subst hr_9
          have K_12 : ∀ (ls : Array Slot), lv_has ls 5 [(4, .int (nI k)), (2, .long (plS fS xw k)), (0, .ref oM), (1, .int xw)] → W p l e (headSpec wsX5_places ({ frames := 6, cells := 0, slots := 0, locals := 132 })).room s m ([.ref oM, .int xw] : List Value).toArray below meth c s.heap [] 0 0 (MQ below (vp_Sl (fun r => r = (plR fS xw n))) ([.ref oM, .int xw] : List Value).toArray s 0 0 (fun _ => False)) (F0 m 48 ls [.long (if (r_X5_isSo fS k xw) = 0 then 0 else (1 <<< ((nI k).toInt64 &&& 63))), .long (plS fS xw k)]) := by
            intro ls hl
            refine lv_lor hx hb dX5_places_48 ?_
            refine lv_lstore_n (lv' := [(2, .long ((plS fS xw k) ||| (if (r_X5_isSo fS k xw) = 0 then 0 else (1 <<< ((nI k).toInt64 &&& 63))))), (4, .int (nI k)), (0, .ref oM), (1, .int xw)]) hx hb dX5_places_49 rfl hl (by decide) rfl (fun ls hl => ?_)
            refine lv_iinc (v := (nI (k + 1))) (lv' := [(4, .int (nI (k + 1))), (2, .long ((plS fS xw k) ||| (if (r_X5_isSo fS k xw) = 0 then 0 else (1 <<< ((nI k).toInt64 &&& 63))))), (0, .ref oM), (1, .int xw)]) hx hb dX5_places_50 hl (k := 1) rfl (nI_add k 1) (by decide) rfl (fun ls hl => ?_)
            refine lv_goto (tgt := 18) hx hb dX5_places_53 (by decide) ?_
            exact ih (k + 1) (by omega) (by omega) _ (lv_sub hl [0, 1, 2, 3] rfl)
          refine lv_if_eq (tgt := 47) hx hb dX5_places_37 (by decide) (fun c_10 => ?_) (fun c_10 => ?_)
          · skip
            refine lv_lconst (v := 0) hx hb dX5_places_47 (by decide) ?_
            have e_13 : (if (r_X5_isSo fS k xw) = 0 then 0 else (1 <<< ((nI k).toInt64 &&& 63))) = 0 := by rw [if_pos c_10]
            have k9 := K_12 _ (lv_sub hl [0, 1, 2, 3] rfl)
            rw [e_13] at k9
            exact k9
          · skip
            refine lv_lconst (v := 1) hx hb dX5_places_40 (by decide) ?_
            refine lv_iload hx hb dX5_places_41 (lv_at hl 0 rfl) ?_
            refine lv_lshl (v := (1 <<< ((nI k).toInt64 &&& 63))) hx hb dX5_places_43 rfl ?_
            refine lv_goto (tgt := 48) hx hb dX5_places_44 (by decide) ?_
            have e_14 : (if (r_X5_isSo fS k xw) = 0 then 0 else (1 <<< ((nI k).toInt64 &&& 63))) = (1 <<< ((nI k).toInt64 &&& 63)) := by rw [if_neg c_10]
            have k9 := K_12 _ (lv_sub hl [0, 1, 2, 3] rfl)
            rw [e_14] at k9
            exact k9
    exact L_3 _ 0 (Nat.lt_succ_self _) (by omega) ls (lv_sub hl [0, 1, 2, 3] rfl)
  · skip
    refine lv_ldc2 (v := (-2)) hx hb hown (hts _ (List.mem_of_getElem? (i := 1) rfl)) dX5_places_9 ?_
    exact W.lret hx hb hr (fun t ht hW => ⟨_, rfl, (by unfold plR; rw [if_pos c_2]), ht⟩) (fun q hq => absurd hq List.not_mem_nil) dX5_places_12
set_option maxHeartbeats 4000000 in
set_option maxRecDepth 100000 in
theorem c_X5_many (l : Launch) (D : va_G) (K : Nat → ClassId) (oM : Nat) (aS : Nat) (aA : Nat) (aB : Nat) (aT : Nat) (aV : Nat) (aP : Nat) (fS : Nat → Int32) (kn : Nat) (ln : Nat) (pl : Int32) (wr : Int32) (le : Int32) (on : Int32) (tw : Int32) (n : Nat) (xw : Int32) (hs0 : fS 0 = nI n) (hn1 : 1 ≤ n) (hn : n ≤ 32) : Met l yX5_many wsX5_many ({ frames := 6, cells := 0, slots := 0, locals := 132 }) (va_Pc [.ref oM, .int xw] (fun U => Bd D K U ∧ va_P D vwCl [(oM, .inr (5, [.ref aS, .ref aA, .ref aB, .int (nI kn), .ref aT, .ref aV, .ref aP, .int (nI ln), .int pl, .int wr, .int le, .int on, .int tw])), (aS, .inl (K 0, 360, .inl fS))] U.heap)) (vp_Si (fun r => r = (mnS fS xw n))) 0 0 (fun _ => False) := by
  refine Met.ofW (cc := cX5_many) (maxL := 4) (ret := (some .int)) (by decide) rfl ?_
  intro p e s m args below meth c s₁ B hml hv
  obtain ⟨rfl, hbd, hP⟩ := hv
  have hx := B.exec
  have hb := B.bytes
  have hr := B.returns
  have hts := atoms_spec (ws := wsX5_many) B.pre
  have hown : s.vm.findClass RX5 = some m.cls := findClass_of_methodNamed B.named
  have hlocks := B.notSynchronized
  have hK := hbd.2
  have hP : va_P D vwCl [(oM, .inr (5, [.ref aS, .ref aA, .ref aB, .int (nI kn), .ref aT, .ref aV, .ref aP, .int (nI ln), .int pl, .int wr, .int le, .int on, .int tw])), (aS, .inl (K 0, 360, .inl fS))] s.heap := hP
  have hin5 : ∀ w ∈ wsX50, w ∈ wsX5_many := by decide +kernel
  have hl := lv_entry ([.ref oM, .int xw]) (n := 4) (Nat.le_of_ble_eq_true rfl)
  rw [lg_entry_eq]
  generalize (lg_sl ([.ref oM, .int xw]) ++ List.replicate (4 - (lg_sl ([.ref oM, .int xw])).length) Slot.unset).toArray = ls at hl ⊢
  have hl : lv_has ls 4 [(0, .ref oM), (1, .int xw)] := hl
  refine lv_iconst (v := 0) hx hb dX5_many_0 (by decide) ?_
  refine lv_istore_n (lv' := [(2, .int 0), (0, .ref oM), (1, .int xw)]) hx hb dX5_many_1 rfl hl (by decide) rfl (fun ls hl => ?_)
  refine lv_iconst (v := 0) hx hb dX5_many_2 (by decide) ?_
  refine lv_istore_n (lv' := [(3, .int 0), (2, .int 0), (0, .ref oM), (1, .int xw)]) hx hb dX5_many_3 rfl hl (by decide) rfl (fun ls hl => ?_)
  have L_1 : ∀ (nf : Nat) (k : Nat), n - k < nf → k ≤ n → ∀ (ls : Array Slot), lv_has ls 4 [(3, .int (nI k)), (2, .int (mnS fS xw k)), (0, .ref oM), (1, .int xw)] → W p l e (headSpec wsX5_many ({ frames := 6, cells := 0, slots := 0, locals := 132 })).room s m ([.ref oM, .int xw] : List Value).toArray below meth c s.heap [] 0 0 (MQ below (vp_Si (fun r => r = (mnS fS xw n))) ([.ref oM, .int xw] : List Value).toArray s 0 0 (fun _ => False)) (F0 m 4 ls []) := by
    intro nf
    induction nf with
    | zero =>
      intro k hm
      exact absurd hm (Nat.not_lt_zero _)
    | succ nf ih =>
      intro k hm hk ls hl
      refine lv_iload_n hx hb dX5_many_4 rfl (lv_at hl 0 rfl) ?_
      refine lv_aload_n hx hb dX5_many_5 rfl (lv_at hl 2 rfl) ?_
      refine va_get (D := D) (ci := 5) (v := .ref aS) (C := RX5) (T := TX5) (N := 13) hx hb hts hin5 hown hK hP 0 rfl rfl 0 (by decide) (hts _ (List.mem_of_getElem? (i := 1) rfl)) (fun _ h9 => h9) rfl dX5_many_6 ?_
      refine lv_iconst (v := 0) hx hb dX5_many_9 (by decide) ?_
      refine n_iald hx hb hK hP 1 0 rfl rfl 0 (by omega) (by decide) dX5_many_10 ?_
      refine st1 hs0 ?_
      refine lv_icmp_ge (tgt := 37) hx hb dX5_many_11 (by decide) (fun c_2 => ?_) (fun c_2 => ?_)
      · skip
        have nc_2 := (nI_leI (a := n) (b := k) (by omega) (by omega)).mp c_2
        have e9 : n = k := by omega
        subst e9
        refine lv_iload_n hx hb dX5_many_37 rfl (lv_at hl 1 rfl) ?_
        exact W.iret hx hb hr (fun t ht hW => ⟨_, rfl, rfl, ht⟩) (fun q hq => absurd hq List.not_mem_nil) dX5_many_38
      · skip
        have nc_2 : ¬ (n ≤ k) := fun h => c_2 ((nI_leI (a := n) (b := k) (by omega) (by omega)).mpr h)
        refine lv_iload_n hx hb dX5_many_14 rfl (lv_at hl 1 rfl) ?_
        refine lv_aload_n hx hb dX5_many_15 rfl (lv_at hl 2 rfl) ?_
        refine lv_iload_n hx hb dX5_many_16 rfl (lv_at hl 0 rfl) ?_
        refine lv_iload_n hx hb dX5_many_17 rfl (lv_at hl 3 rfl) ?_
        have hPc := hP.sub (ws' := [(oM, .inr (5, [.ref aS, .ref aA, .ref aB, .int (nI kn), .ref aT, .ref aV, .ref aP, .int (nI ln), .int pl, .int wr, .int le, .int on, .int tw])), (aS, .inl (K 0, 360, .inl fS))]) [0, 1] rfl
        refine vp_callSi (va_Run.run (va_runV (As := [.int (nI k), .int xw]) (rest := [.int (mnS fS xw k)]) ⟨hx, hb, hml, hown, hts⟩ (c_X5_isSo l D K oM aS aA aB aT aV aP fS kn ln pl wr le on tw k xw (by omega)) (cwV 2 hts gX5_many_X5_isSo rfl rfl rfl (by decide +kernel) ⟨Nat.le_of_ble_eq_true rfl, Nat.le_of_ble_eq_true rfl⟩) (pre_rd hbd hPc (ci := 5) (q0 := 0) rfl rfl) rfl rfl hl.1 rfl (lv_room (Nat.le_of_ble_eq_true rfl)) dX5_many_18 ⟨Nat.zero_le _, Nat.zero_le _⟩)) (fun r_7 hr_7 => ?_)
        subst hr_7
        have K_10 : ∀ (ls : Array Slot), lv_has ls 4 [(3, .int (nI k)), (2, .int (mnS fS xw k)), (0, .ref oM), (1, .int xw)] → W p l e (headSpec wsX5_many ({ frames := 6, cells := 0, slots := 0, locals := 132 })).room s m ([.ref oM, .int xw] : List Value).toArray below meth c s.heap [] 0 0 (MQ below (vp_Si (fun r => r = (mnS fS xw n))) ([.ref oM, .int xw] : List Value).toArray s 0 0 (fun _ => False)) (F0 m 29 ls [.int (if (r_X5_isSo fS k xw) = 0 then 0 else 1), .int (mnS fS xw k)]) := by
          intro ls hl
          refine lv_iadd hx hb dX5_many_29 ?_
          refine lv_istore_n (lv' := [(2, .int ((mnS fS xw k) + (if (r_X5_isSo fS k xw) = 0 then 0 else 1))), (3, .int (nI k)), (0, .ref oM), (1, .int xw)]) hx hb dX5_many_30 rfl hl (by decide) rfl (fun ls hl => ?_)
          refine lv_iinc (v := (nI (k + 1))) (lv' := [(3, .int (nI (k + 1))), (2, .int ((mnS fS xw k) + (if (r_X5_isSo fS k xw) = 0 then 0 else 1))), (0, .ref oM), (1, .int xw)]) hx hb dX5_many_31 hl (k := 1) rfl (nI_add k 1) (by decide) rfl (fun ls hl => ?_)
          refine lv_goto (tgt := 4) hx hb dX5_many_34 (by decide) ?_
          exact ih (k + 1) (by omega) (by omega) _ (lv_sub hl [0, 1, 2, 3] rfl)
        refine lv_if_eq (tgt := 28) hx hb dX5_many_21 (by decide) (fun c_8 => ?_) (fun c_8 => ?_)
        · skip
          refine lv_iconst (v := 0) hx hb dX5_many_28 (by decide) ?_
          have e_11 : (if (r_X5_isSo fS k xw) = 0 then 0 else 1) = 0 := by rw [if_pos c_8]
          have k9 := K_10 _ (lv_sub hl [0, 1, 2, 3] rfl)
          rw [e_11] at k9
          exact k9
        · skip
          refine lv_iconst (v := 1) hx hb dX5_many_24 (by decide) ?_
          refine lv_goto (tgt := 29) hx hb dX5_many_25 (by decide) ?_
          have e_12 : (if (r_X5_isSo fS k xw) = 0 then 0 else 1) = 1 := by rw [if_neg c_8]
          have k9 := K_10 _ (lv_sub hl [0, 1, 2, 3] rfl)
          rw [e_12] at k9
          exact k9
  exact L_1 _ 0 (Nat.lt_succ_self _) (by omega) ls (lv_sub hl [0, 1, 2, 3] rfl)
def cpI (f g : Nat → Int32) (a b : Nat) : Nat → Nat → Int32
  | 0 => f
  | k + 1 => upd (cpI f g a b k) (a + k) (g (b + k))
def cp0 (f g : Nat → Int32) : Nat → Nat → Int32
  | 0 => f
  | k + 1 => upd (cp0 f g k) k (g k)
def cpA (f g : Nat → Int32) (a : Nat) : Nat → Nat → Int32
  | 0 => f
  | k + 1 => upd (cpA f g a k) (a + k) (g k)
def cpB (f g : Nat → Int32) (b : Nat) : Nat → Nat → Int32
  | 0 => f
  | k + 1 => upd (cpB f g b k) k (g (b + k))
def shI (f : Nat → Int32) : Nat → Nat → Int32
  | 0 => f
  | k + 1 => upd (shI f k) k ((shI f k) (360 + k))
set_option maxHeartbeats 4000000 in
set_option maxRecDepth 100000 in
theorem c_X5_putAside (l : Launch) (D : va_G) (K : Nat → ClassId) (oM : Nat) (aS : Nat) (aA : Nat) (aB : Nat) (aT : Nat) (aV : Nat) (aP : Nat) (fS : Nat → Int32) (fA : Nat → Int32) (fB : Nat → Int32) (fT : Nat → Int32) (fV : Nat → Int32) (fP : Nat → Int32) (kn : Nat) (ln : Nat) (pl : Int32) (wr : Int32) (le : Int32) (on : Int32) (tw : Int32)  : Met l yX5_putAside wsX5_putAside ({ frames := 0, cells := 0, slots := 0, locals := 0 }) (va_Pc [.ref oM] (fun U => Bd D K U ∧ va_P D vwCl [(oM, .inr (5, [.ref aS, .ref aA, .ref aB, .int (nI kn), .ref aT, .ref aV, .ref aP, .int (nI ln), .int pl, .int wr, .int le, .int on, .int tw])), (aS, .inl (K 0, 360, .inl fS)), (aA, .inl (K 0, 360, .inl fA)), (aB, .inl (K 0, 2160, .inl fB)), (aT, .inl (K 0, 720, .inl fT)), (aV, .inl (K 2, 2, .inl fV)), (aP, .inl (K 0, 80, .inl fP))] U.heap ∧ va_D (fun _ => True) [(oM, .inr (5, [.ref aS, .ref aA, .ref aB, .int (nI kn), .ref aT, .ref aV, .ref aP, .int (nI ln), .int pl, .int wr, .int le, .int on, .int tw])), (aS, .inl (K 0, 360, .inl fS)), (aA, .inl (K 0, 360, .inl fA)), (aB, .inl (K 0, 2160, .inl fB)), (aT, .inl (K 0, 720, .inl fT)), (aV, .inl (K 2, 2, .inl fV)), (aP, .inl (K 0, 80, .inl fP))])) (va_Qv (fun (_ : Unit) => True) (fun _ t => va_P D vwCl [(oM, .inr (5, [.ref aS, .ref aA, .ref aB, .int (nI kn), .ref aT, .ref aV, .ref aP, .int (nI ln), .int pl, .int wr, .int le, .int on, .int tw])), (aS, .inl (K 0, 360, .inl fS)), (aA, .inl (K 0, 360, .inl (cp0 fA fS 360))), (aB, .inl (K 0, 2160, .inl fB)), (aT, .inl (K 0, 720, .inl fT)), (aV, .inl (K 2, 2, .inl fV)), (aP, .inl (K 0, 80, .inl fP))] t.heap) (inW [(oM, .inr (5, [.ref aS, .ref aA, .ref aB, .int (nI kn), .ref aT, .ref aV, .ref aP, .int (nI ln), .int pl, .int wr, .int le, .int on, .int tw])), (aS, .inl (K 0, 360, .inl fS)), (aA, .inl (K 0, 360, .inl fA)), (aB, .inl (K 0, 2160, .inl fB)), (aT, .inl (K 0, 720, .inl fT)), (aV, .inl (K 2, 2, .inl fV)), (aP, .inl (K 0, 80, .inl fP))])) 0 0 (inW [(oM, .inr (5, [.ref aS, .ref aA, .ref aB, .int (nI kn), .ref aT, .ref aV, .ref aP, .int (nI ln), .int pl, .int wr, .int le, .int on, .int tw])), (aS, .inl (K 0, 360, .inl fS)), (aA, .inl (K 0, 360, .inl fA)), (aB, .inl (K 0, 2160, .inl fB)), (aT, .inl (K 0, 720, .inl fT)), (aV, .inl (K 2, 2, .inl fV)), (aP, .inl (K 0, 80, .inl fP))]) := by
  refine Met.ofW (cc := cX5_putAside) (maxL := 2) (ret := none) (by decide) rfl ?_
  intro p e s m args below meth c s₁ B hml hv
  obtain ⟨rfl, hbd, hP, hD0⟩ := hv
  have hx := B.exec
  have hb := B.bytes
  have hr := B.returns
  have hts := atoms_spec (ws := wsX5_putAside) B.pre
  have hown : s.vm.findClass RX5 = some m.cls := findClass_of_methodNamed B.named
  have hlocks := B.notSynchronized
  have hK := hbd.2
  have hP : va_P D vwCl [(oM, .inr (5, [.ref aS, .ref aA, .ref aB, .int (nI kn), .ref aT, .ref aV, .ref aP, .int (nI ln), .int pl, .int wr, .int le, .int on, .int tw])), (aS, .inl (K 0, 360, .inl fS)), (aA, .inl (K 0, 360, .inl fA)), (aB, .inl (K 0, 2160, .inl fB)), (aT, .inl (K 0, 720, .inl fT)), (aV, .inl (K 2, 2, .inl fV)), (aP, .inl (K 0, 80, .inl fP))] s.heap := hP
  have hin5 : ∀ w ∈ wsX50, w ∈ wsX5_putAside := by decide +kernel
  have hD := hD0.own
  generalize hAe : inW [(oM, .inr (5, [.ref aS, .ref aA, .ref aB, .int (nI kn), .ref aT, .ref aV, .ref aP, .int (nI ln), .int pl, .int wr, .int le, .int on, .int tw])), (aS, .inl (K 0, 360, .inl fS)), (aA, .inl (K 0, 360, .inl fA)), (aB, .inl (K 0, 2160, .inl fB)), (aT, .inl (K 0, 720, .inl fT)), (aV, .inl (K 2, 2, .inl fV)), (aP, .inl (K 0, 80, .inl fP))] = A at hD ⊢
  have hS : va_S A s.heap s.heap [] := va_S.rf
  have hl := lv_entry ([.ref oM]) (n := 2) (Nat.le_of_ble_eq_true rfl)
  rw [lg_entry_eq]
  generalize (lg_sl ([.ref oM]) ++ List.replicate (2 - (lg_sl ([.ref oM])).length) Slot.unset).toArray = ls at hl ⊢
  have hl : lv_has ls 2 [(0, .ref oM)] := hl
  have K0 : ∀ (H : Heap) (locs : List Loc) (ls : Array Slot), va_P D vwCl [(oM, .inr (5, [.ref aS, .ref aA, .ref aB, .int (nI kn), .ref aT, .ref aV, .ref aP, .int (nI ln), .int pl, .int wr, .int le, .int on, .int tw])), (aS, .inl (K 0, 360, .inl fS)), (aA, .inl (K 0, 360, .inl fA)), (aB, .inl (K 0, 2160, .inl fB)), (aT, .inl (K 0, 720, .inl fT)), (aV, .inl (K 2, 2, .inl fV)), (aP, .inl (K 0, 80, .inl fP))] H → va_D A [(oM, .inr (5, [.ref aS, .ref aA, .ref aB, .int (nI kn), .ref aT, .ref aV, .ref aP, .int (nI ln), .int pl, .int wr, .int le, .int on, .int tw])), (aS, .inl (K 0, 360, .inl fS)), (aA, .inl (K 0, 360, .inl fA)), (aB, .inl (K 0, 2160, .inl fB)), (aT, .inl (K 0, 720, .inl fT)), (aV, .inl (K 2, 2, .inl fV)), (aP, .inl (K 0, 80, .inl fP))] → va_S A s.heap H locs → lv_has ls 2 [(0, .ref oM)] → W p l e (headSpec wsX5_putAside ({ frames := 0, cells := 0, slots := 0, locals := 0 })).room s m ([.ref oM] : List Value).toArray below meth c H locs 0 0 (MQ below (va_Qv (fun (_ : Unit) => True) (fun _ t => va_P D vwCl [(oM, .inr (5, [.ref aS, .ref aA, .ref aB, .int (nI kn), .ref aT, .ref aV, .ref aP, .int (nI ln), .int pl, .int wr, .int le, .int on, .int tw])), (aS, .inl (K 0, 360, .inl fS)), (aA, .inl (K 0, 360, .inl (cp0 fA fS 360))), (aB, .inl (K 0, 2160, .inl fB)), (aT, .inl (K 0, 720, .inl fT)), (aV, .inl (K 2, 2, .inl fV)), (aP, .inl (K 0, 80, .inl fP))] t.heap) A) ([.ref oM] : List Value).toArray s 0 0 A) (F0 m 0 ls []) := by
    intro H locs ls hP hD hS hl
    refine lv_iconst (v := 0) hx hb dX5_putAside_0 (by decide) ?_
    refine lv_istore_n (lv' := [(1, .int 0), (0, .ref oM)]) hx hb dX5_putAside_1 rfl hl (by decide) rfl (fun ls hl => ?_)
    have L_1 : ∀ (nf : Nat) (q : Nat), 360 - q < nf → q ≤ 360 → ∀ (H : Heap) (locs : List Loc) (ls : Array Slot), va_P D vwCl [(oM, .inr (5, [.ref aS, .ref aA, .ref aB, .int (nI kn), .ref aT, .ref aV, .ref aP, .int (nI ln), .int pl, .int wr, .int le, .int on, .int tw])), (aS, .inl (K 0, 360, .inl fS)), (aA, .inl (K 0, 360, .inl (cp0 fA fS q))), (aB, .inl (K 0, 2160, .inl fB)), (aT, .inl (K 0, 720, .inl fT)), (aV, .inl (K 2, 2, .inl fV)), (aP, .inl (K 0, 80, .inl fP))] H → va_D A [(oM, .inr (5, [.ref aS, .ref aA, .ref aB, .int (nI kn), .ref aT, .ref aV, .ref aP, .int (nI ln), .int pl, .int wr, .int le, .int on, .int tw])), (aS, .inl (K 0, 360, .inl fS)), (aA, .inl (K 0, 360, .inl (cp0 fA fS q))), (aB, .inl (K 0, 2160, .inl fB)), (aT, .inl (K 0, 720, .inl fT)), (aV, .inl (K 2, 2, .inl fV)), (aP, .inl (K 0, 80, .inl fP))] → va_S A s.heap H locs → lv_has ls 2 [(1, .int (nI q)), (0, .ref oM)] → W p l e (headSpec wsX5_putAside ({ frames := 0, cells := 0, slots := 0, locals := 0 })).room s m ([.ref oM] : List Value).toArray below meth c H locs 0 0 (MQ below (va_Qv (fun (_ : Unit) => True) (fun _ t => va_P D vwCl [(oM, .inr (5, [.ref aS, .ref aA, .ref aB, .int (nI kn), .ref aT, .ref aV, .ref aP, .int (nI ln), .int pl, .int wr, .int le, .int on, .int tw])), (aS, .inl (K 0, 360, .inl fS)), (aA, .inl (K 0, 360, .inl (cp0 fA fS 360))), (aB, .inl (K 0, 2160, .inl fB)), (aT, .inl (K 0, 720, .inl fT)), (aV, .inl (K 2, 2, .inl fV)), (aP, .inl (K 0, 80, .inl fP))] t.heap) A) ([.ref oM] : List Value).toArray s 0 0 A) (F0 m 2 ls []) := by
      intro nf
      induction nf with
      | zero =>
        intro q hm
        exact absurd hm (Nat.not_lt_zero _)
      | succ nf ih =>
        intro q hm hq H locs ls hP hD hS hl
        refine lv_iload_n hx hb dX5_putAside_2 rfl (lv_at hl 0 rfl) ?_
        refine lv_sipush (v := 360) hx hb dX5_putAside_3 (by decide) ?_
        refine lv_icmp_ge (tgt := 27) hx hb dX5_putAside_6 (by decide) (fun c_2 => ?_) (fun c_2 => ?_)
        · skip
          have nc_2 := (nI_leI (a := 360) (b := q) (by omega) (by omega)).mp c_2
          have e9 : q = 360 := by omega
          subst e9
          have hPf : va_P D vwCl [(oM, .inr (5, [.ref aS, .ref aA, .ref aB, .int (nI kn), .ref aT, .ref aV, .ref aP, .int (nI ln), .int pl, .int wr, .int le, .int on, .int tw])), (aS, .inl (K 0, 360, .inl fS)), (aA, .inl (K 0, 360, .inl (cp0 fA fS 360))), (aB, .inl (K 0, 2160, .inl fB)), (aT, .inl (K 0, 720, .inl fT)), (aV, .inl (K 2, 2, .inl fV)), (aP, .inl (K 0, 80, .inl fP))] H := hP
          exact W.vret hx hb hr (fun t ht hW => ⟨⟨(), rfl, trivial, by show va_P D vwCl _ t.heap; rw [ht]; exact hPf⟩, hS.F ht⟩) hS.2.2 dX5_putAside_27
        · skip
          have nc_2 : ¬ (360 ≤ q) := fun h => c_2 ((nI_leI (a := 360) (b := q) (by omega) (by omega)).mpr h)
          refine lv_aload_n hx hb dX5_putAside_9 rfl (lv_at hl 1 rfl) ?_
          refine va_get (D := D) (ci := 5) (v := .ref aA) (C := RX5) (T := TX5) (N := 13) hx hb hts hin5 hown hK hP 0 rfl rfl 1 (by decide) (hts _ (List.mem_of_getElem? (i := 1) rfl)) (fun _ h9 => h9) rfl dX5_putAside_10 ?_
          refine lv_iload_n hx hb dX5_putAside_13 rfl (lv_at hl 0 rfl) ?_
          refine lv_aload_n hx hb dX5_putAside_14 rfl (lv_at hl 1 rfl) ?_
          refine va_get (D := D) (ci := 5) (v := .ref aS) (C := RX5) (T := TX5) (N := 13) hx hb hts hin5 hown hK hP 0 rfl rfl 0 (by decide) (hts _ (List.mem_of_getElem? (i := 2) rfl)) (fun _ h9 => h9) rfl dX5_putAside_15 ?_
          refine lv_iload_n hx hb dX5_putAside_18 rfl (lv_at hl 0 rfl) ?_
          refine n_iald hx hb hK hP 1 0 rfl rfl q (by omega) (by decide) dX5_putAside_19 ?_
          refine n_iast hx hb hK hP hD hS 2 0 rfl rfl q (by omega) (by decide) dX5_putAside_20 (fun H locs hP hD hS => ?_)
          have hP : va_P D vwCl [(oM, .inr (5, [.ref aS, .ref aA, .ref aB, .int (nI kn), .ref aT, .ref aV, .ref aP, .int (nI ln), .int pl, .int wr, .int le, .int on, .int tw])), (aS, .inl (K 0, 360, .inl fS)), (aA, .inl (K 0, 360, .inl (upd (cp0 fA fS q) q (fS q)))), (aB, .inl (K 0, 2160, .inl fB)), (aT, .inl (K 0, 720, .inl fT)), (aV, .inl (K 2, 2, .inl fV)), (aP, .inl (K 0, 80, .inl fP))] H := hP
          have hD : va_D A [(oM, .inr (5, [.ref aS, .ref aA, .ref aB, .int (nI kn), .ref aT, .ref aV, .ref aP, .int (nI ln), .int pl, .int wr, .int le, .int on, .int tw])), (aS, .inl (K 0, 360, .inl fS)), (aA, .inl (K 0, 360, .inl (upd (cp0 fA fS q) q (fS q)))), (aB, .inl (K 0, 2160, .inl fB)), (aT, .inl (K 0, 720, .inl fT)), (aV, .inl (K 2, 2, .inl fV)), (aP, .inl (K 0, 80, .inl fP))] := hD
          refine lv_iinc (v := (nI (q + 1))) (lv' := [(1, .int (nI (q + 1))), (0, .ref oM)]) hx hb dX5_putAside_21 hl (k := 0) rfl (nI_add q 1) (by decide) rfl (fun ls hl => ?_)
          refine lv_goto (tgt := 2) hx hb dX5_putAside_24 (by decide) ?_
          exact ih (q + 1) (by omega) (by omega) _ _ _ hP hD hS (lv_sub hl [0, 1] rfl)
    exact L_1 _ 0 (Nat.lt_succ_self _) (by omega) H locs ls hP hD hS (lv_sub hl [0, 1] rfl)
  exact K0 s.heap [] ls hP hD hS hl
set_option maxHeartbeats 4000000 in
set_option maxRecDepth 100000 in
theorem c_X5_putBack (l : Launch) (D : va_G) (K : Nat → ClassId) (oM : Nat) (aS : Nat) (aA : Nat) (aB : Nat) (aT : Nat) (aV : Nat) (aP : Nat) (fS : Nat → Int32) (fA : Nat → Int32) (fB : Nat → Int32) (fT : Nat → Int32) (fV : Nat → Int32) (fP : Nat → Int32) (kn : Nat) (ln : Nat) (pl : Int32) (wr : Int32) (le : Int32) (on : Int32) (tw : Int32)  : Met l yX5_putBack wsX5_putBack ({ frames := 0, cells := 0, slots := 0, locals := 0 }) (va_Pc [.ref oM] (fun U => Bd D K U ∧ va_P D vwCl [(oM, .inr (5, [.ref aS, .ref aA, .ref aB, .int (nI kn), .ref aT, .ref aV, .ref aP, .int (nI ln), .int pl, .int wr, .int le, .int on, .int tw])), (aS, .inl (K 0, 360, .inl fS)), (aA, .inl (K 0, 360, .inl fA)), (aB, .inl (K 0, 2160, .inl fB)), (aT, .inl (K 0, 720, .inl fT)), (aV, .inl (K 2, 2, .inl fV)), (aP, .inl (K 0, 80, .inl fP))] U.heap ∧ va_D (fun _ => True) [(oM, .inr (5, [.ref aS, .ref aA, .ref aB, .int (nI kn), .ref aT, .ref aV, .ref aP, .int (nI ln), .int pl, .int wr, .int le, .int on, .int tw])), (aS, .inl (K 0, 360, .inl fS)), (aA, .inl (K 0, 360, .inl fA)), (aB, .inl (K 0, 2160, .inl fB)), (aT, .inl (K 0, 720, .inl fT)), (aV, .inl (K 2, 2, .inl fV)), (aP, .inl (K 0, 80, .inl fP))])) (va_Qv (fun (_ : Unit) => True) (fun _ t => va_P D vwCl [(oM, .inr (5, [.ref aS, .ref aA, .ref aB, .int (nI kn), .ref aT, .ref aV, .ref aP, .int (nI ln), .int pl, .int wr, .int le, .int on, .int tw])), (aS, .inl (K 0, 360, .inl (cp0 fS fA 360))), (aA, .inl (K 0, 360, .inl fA)), (aB, .inl (K 0, 2160, .inl fB)), (aT, .inl (K 0, 720, .inl fT)), (aV, .inl (K 2, 2, .inl fV)), (aP, .inl (K 0, 80, .inl fP))] t.heap) (inW [(oM, .inr (5, [.ref aS, .ref aA, .ref aB, .int (nI kn), .ref aT, .ref aV, .ref aP, .int (nI ln), .int pl, .int wr, .int le, .int on, .int tw])), (aS, .inl (K 0, 360, .inl fS)), (aA, .inl (K 0, 360, .inl fA)), (aB, .inl (K 0, 2160, .inl fB)), (aT, .inl (K 0, 720, .inl fT)), (aV, .inl (K 2, 2, .inl fV)), (aP, .inl (K 0, 80, .inl fP))])) 0 0 (inW [(oM, .inr (5, [.ref aS, .ref aA, .ref aB, .int (nI kn), .ref aT, .ref aV, .ref aP, .int (nI ln), .int pl, .int wr, .int le, .int on, .int tw])), (aS, .inl (K 0, 360, .inl fS)), (aA, .inl (K 0, 360, .inl fA)), (aB, .inl (K 0, 2160, .inl fB)), (aT, .inl (K 0, 720, .inl fT)), (aV, .inl (K 2, 2, .inl fV)), (aP, .inl (K 0, 80, .inl fP))]) := by
  refine Met.ofW (cc := cX5_putBack) (maxL := 2) (ret := none) (by decide) rfl ?_
  intro p e s m args below meth c s₁ B hml hv
  obtain ⟨rfl, hbd, hP, hD0⟩ := hv
  have hx := B.exec
  have hb := B.bytes
  have hr := B.returns
  have hts := atoms_spec (ws := wsX5_putBack) B.pre
  have hown : s.vm.findClass RX5 = some m.cls := findClass_of_methodNamed B.named
  have hlocks := B.notSynchronized
  have hK := hbd.2
  have hP : va_P D vwCl [(oM, .inr (5, [.ref aS, .ref aA, .ref aB, .int (nI kn), .ref aT, .ref aV, .ref aP, .int (nI ln), .int pl, .int wr, .int le, .int on, .int tw])), (aS, .inl (K 0, 360, .inl fS)), (aA, .inl (K 0, 360, .inl fA)), (aB, .inl (K 0, 2160, .inl fB)), (aT, .inl (K 0, 720, .inl fT)), (aV, .inl (K 2, 2, .inl fV)), (aP, .inl (K 0, 80, .inl fP))] s.heap := hP
  have hin5 : ∀ w ∈ wsX50, w ∈ wsX5_putBack := by decide +kernel
  have hD := hD0.own
  generalize hAe : inW [(oM, .inr (5, [.ref aS, .ref aA, .ref aB, .int (nI kn), .ref aT, .ref aV, .ref aP, .int (nI ln), .int pl, .int wr, .int le, .int on, .int tw])), (aS, .inl (K 0, 360, .inl fS)), (aA, .inl (K 0, 360, .inl fA)), (aB, .inl (K 0, 2160, .inl fB)), (aT, .inl (K 0, 720, .inl fT)), (aV, .inl (K 2, 2, .inl fV)), (aP, .inl (K 0, 80, .inl fP))] = A at hD ⊢
  have hS : va_S A s.heap s.heap [] := va_S.rf
  have hl := lv_entry ([.ref oM]) (n := 2) (Nat.le_of_ble_eq_true rfl)
  rw [lg_entry_eq]
  generalize (lg_sl ([.ref oM]) ++ List.replicate (2 - (lg_sl ([.ref oM])).length) Slot.unset).toArray = ls at hl ⊢
  have hl : lv_has ls 2 [(0, .ref oM)] := hl
  have K0 : ∀ (H : Heap) (locs : List Loc) (ls : Array Slot), va_P D vwCl [(oM, .inr (5, [.ref aS, .ref aA, .ref aB, .int (nI kn), .ref aT, .ref aV, .ref aP, .int (nI ln), .int pl, .int wr, .int le, .int on, .int tw])), (aS, .inl (K 0, 360, .inl fS)), (aA, .inl (K 0, 360, .inl fA)), (aB, .inl (K 0, 2160, .inl fB)), (aT, .inl (K 0, 720, .inl fT)), (aV, .inl (K 2, 2, .inl fV)), (aP, .inl (K 0, 80, .inl fP))] H → va_D A [(oM, .inr (5, [.ref aS, .ref aA, .ref aB, .int (nI kn), .ref aT, .ref aV, .ref aP, .int (nI ln), .int pl, .int wr, .int le, .int on, .int tw])), (aS, .inl (K 0, 360, .inl fS)), (aA, .inl (K 0, 360, .inl fA)), (aB, .inl (K 0, 2160, .inl fB)), (aT, .inl (K 0, 720, .inl fT)), (aV, .inl (K 2, 2, .inl fV)), (aP, .inl (K 0, 80, .inl fP))] → va_S A s.heap H locs → lv_has ls 2 [(0, .ref oM)] → W p l e (headSpec wsX5_putBack ({ frames := 0, cells := 0, slots := 0, locals := 0 })).room s m ([.ref oM] : List Value).toArray below meth c H locs 0 0 (MQ below (va_Qv (fun (_ : Unit) => True) (fun _ t => va_P D vwCl [(oM, .inr (5, [.ref aS, .ref aA, .ref aB, .int (nI kn), .ref aT, .ref aV, .ref aP, .int (nI ln), .int pl, .int wr, .int le, .int on, .int tw])), (aS, .inl (K 0, 360, .inl (cp0 fS fA 360))), (aA, .inl (K 0, 360, .inl fA)), (aB, .inl (K 0, 2160, .inl fB)), (aT, .inl (K 0, 720, .inl fT)), (aV, .inl (K 2, 2, .inl fV)), (aP, .inl (K 0, 80, .inl fP))] t.heap) A) ([.ref oM] : List Value).toArray s 0 0 A) (F0 m 0 ls []) := by
    intro H locs ls hP hD hS hl
    refine lv_iconst (v := 0) hx hb dX5_putBack_0 (by decide) ?_
    refine lv_istore_n (lv' := [(1, .int 0), (0, .ref oM)]) hx hb dX5_putBack_1 rfl hl (by decide) rfl (fun ls hl => ?_)
    have L_1 : ∀ (nf : Nat) (q : Nat), 360 - q < nf → q ≤ 360 → ∀ (H : Heap) (locs : List Loc) (ls : Array Slot), va_P D vwCl [(oM, .inr (5, [.ref aS, .ref aA, .ref aB, .int (nI kn), .ref aT, .ref aV, .ref aP, .int (nI ln), .int pl, .int wr, .int le, .int on, .int tw])), (aS, .inl (K 0, 360, .inl (cp0 fS fA q))), (aA, .inl (K 0, 360, .inl fA)), (aB, .inl (K 0, 2160, .inl fB)), (aT, .inl (K 0, 720, .inl fT)), (aV, .inl (K 2, 2, .inl fV)), (aP, .inl (K 0, 80, .inl fP))] H → va_D A [(oM, .inr (5, [.ref aS, .ref aA, .ref aB, .int (nI kn), .ref aT, .ref aV, .ref aP, .int (nI ln), .int pl, .int wr, .int le, .int on, .int tw])), (aS, .inl (K 0, 360, .inl (cp0 fS fA q))), (aA, .inl (K 0, 360, .inl fA)), (aB, .inl (K 0, 2160, .inl fB)), (aT, .inl (K 0, 720, .inl fT)), (aV, .inl (K 2, 2, .inl fV)), (aP, .inl (K 0, 80, .inl fP))] → va_S A s.heap H locs → lv_has ls 2 [(1, .int (nI q)), (0, .ref oM)] → W p l e (headSpec wsX5_putBack ({ frames := 0, cells := 0, slots := 0, locals := 0 })).room s m ([.ref oM] : List Value).toArray below meth c H locs 0 0 (MQ below (va_Qv (fun (_ : Unit) => True) (fun _ t => va_P D vwCl [(oM, .inr (5, [.ref aS, .ref aA, .ref aB, .int (nI kn), .ref aT, .ref aV, .ref aP, .int (nI ln), .int pl, .int wr, .int le, .int on, .int tw])), (aS, .inl (K 0, 360, .inl (cp0 fS fA 360))), (aA, .inl (K 0, 360, .inl fA)), (aB, .inl (K 0, 2160, .inl fB)), (aT, .inl (K 0, 720, .inl fT)), (aV, .inl (K 2, 2, .inl fV)), (aP, .inl (K 0, 80, .inl fP))] t.heap) A) ([.ref oM] : List Value).toArray s 0 0 A) (F0 m 2 ls []) := by
      intro nf
      induction nf with
      | zero =>
        intro q hm
        exact absurd hm (Nat.not_lt_zero _)
      | succ nf ih =>
        intro q hm hq H locs ls hP hD hS hl
        refine lv_iload_n hx hb dX5_putBack_2 rfl (lv_at hl 0 rfl) ?_
        refine lv_sipush (v := 360) hx hb dX5_putBack_3 (by decide) ?_
        refine lv_icmp_ge (tgt := 27) hx hb dX5_putBack_6 (by decide) (fun c_2 => ?_) (fun c_2 => ?_)
        · skip
          have nc_2 := (nI_leI (a := 360) (b := q) (by omega) (by omega)).mp c_2
          have e9 : q = 360 := by omega
          subst e9
          have hPf : va_P D vwCl [(oM, .inr (5, [.ref aS, .ref aA, .ref aB, .int (nI kn), .ref aT, .ref aV, .ref aP, .int (nI ln), .int pl, .int wr, .int le, .int on, .int tw])), (aS, .inl (K 0, 360, .inl (cp0 fS fA 360))), (aA, .inl (K 0, 360, .inl fA)), (aB, .inl (K 0, 2160, .inl fB)), (aT, .inl (K 0, 720, .inl fT)), (aV, .inl (K 2, 2, .inl fV)), (aP, .inl (K 0, 80, .inl fP))] H := hP
          exact W.vret hx hb hr (fun t ht hW => ⟨⟨(), rfl, trivial, by show va_P D vwCl _ t.heap; rw [ht]; exact hPf⟩, hS.F ht⟩) hS.2.2 dX5_putBack_27
        · skip
          have nc_2 : ¬ (360 ≤ q) := fun h => c_2 ((nI_leI (a := 360) (b := q) (by omega) (by omega)).mpr h)
          refine lv_aload_n hx hb dX5_putBack_9 rfl (lv_at hl 1 rfl) ?_
          refine va_get (D := D) (ci := 5) (v := .ref aS) (C := RX5) (T := TX5) (N := 13) hx hb hts hin5 hown hK hP 0 rfl rfl 0 (by decide) (hts _ (List.mem_of_getElem? (i := 1) rfl)) (fun _ h9 => h9) rfl dX5_putBack_10 ?_
          refine lv_iload_n hx hb dX5_putBack_13 rfl (lv_at hl 0 rfl) ?_
          refine lv_aload_n hx hb dX5_putBack_14 rfl (lv_at hl 1 rfl) ?_
          refine va_get (D := D) (ci := 5) (v := .ref aA) (C := RX5) (T := TX5) (N := 13) hx hb hts hin5 hown hK hP 0 rfl rfl 1 (by decide) (hts _ (List.mem_of_getElem? (i := 2) rfl)) (fun _ h9 => h9) rfl dX5_putBack_15 ?_
          refine lv_iload_n hx hb dX5_putBack_18 rfl (lv_at hl 0 rfl) ?_
          refine n_iald hx hb hK hP 2 0 rfl rfl q (by omega) (by decide) dX5_putBack_19 ?_
          refine n_iast hx hb hK hP hD hS 1 0 rfl rfl q (by omega) (by decide) dX5_putBack_20 (fun H locs hP hD hS => ?_)
          have hP : va_P D vwCl [(oM, .inr (5, [.ref aS, .ref aA, .ref aB, .int (nI kn), .ref aT, .ref aV, .ref aP, .int (nI ln), .int pl, .int wr, .int le, .int on, .int tw])), (aS, .inl (K 0, 360, .inl (upd (cp0 fS fA q) q (fA q)))), (aA, .inl (K 0, 360, .inl fA)), (aB, .inl (K 0, 2160, .inl fB)), (aT, .inl (K 0, 720, .inl fT)), (aV, .inl (K 2, 2, .inl fV)), (aP, .inl (K 0, 80, .inl fP))] H := hP
          have hD : va_D A [(oM, .inr (5, [.ref aS, .ref aA, .ref aB, .int (nI kn), .ref aT, .ref aV, .ref aP, .int (nI ln), .int pl, .int wr, .int le, .int on, .int tw])), (aS, .inl (K 0, 360, .inl (upd (cp0 fS fA q) q (fA q)))), (aA, .inl (K 0, 360, .inl fA)), (aB, .inl (K 0, 2160, .inl fB)), (aT, .inl (K 0, 720, .inl fT)), (aV, .inl (K 2, 2, .inl fV)), (aP, .inl (K 0, 80, .inl fP))] := hD
          refine lv_iinc (v := (nI (q + 1))) (lv' := [(1, .int (nI (q + 1))), (0, .ref oM)]) hx hb dX5_putBack_21 hl (k := 0) rfl (nI_add q 1) (by decide) rfl (fun ls hl => ?_)
          refine lv_goto (tgt := 2) hx hb dX5_putBack_24 (by decide) ?_
          exact ih (q + 1) (by omega) (by omega) _ _ _ hP hD hS (lv_sub hl [0, 1] rfl)
    exact L_1 _ 0 (Nat.lt_succ_self _) (by omega) H locs ls hP hD hS (lv_sub hl [0, 1] rfl)
  exact K0 s.heap [] ls hP hD hS hl
set_option maxHeartbeats 4000000 in
set_option maxRecDepth 100000 in
theorem c_X5_know_lt (l : Launch) (D : va_G) (K : Nat → ClassId) (oM : Nat) (aS : Nat) (aA : Nat) (aB : Nat) (aT : Nat) (aV : Nat) (aP : Nat) (fS : Nat → Int32) (fA : Nat → Int32) (fB : Nat → Int32) (fT : Nat → Int32) (fV : Nat → Int32) (fP : Nat → Int32) (kn : Nat) (ln : Nat) (pl : Int32) (wr : Int32) (le : Int32) (on : Int32) (tw : Int32) (hk6 : kn < 6) : Met l yX5_know wsX5_know ({ frames := 0, cells := 0, slots := 0, locals := 0 }) (va_Pc [.ref oM] (fun U => Bd D K U ∧ va_P D vwCl [(oM, .inr (5, [.ref aS, .ref aA, .ref aB, .int (nI kn), .ref aT, .ref aV, .ref aP, .int (nI ln), .int pl, .int wr, .int le, .int on, .int tw])), (aS, .inl (K 0, 360, .inl fS)), (aA, .inl (K 0, 360, .inl fA)), (aB, .inl (K 0, 2160, .inl fB)), (aT, .inl (K 0, 720, .inl fT)), (aV, .inl (K 2, 2, .inl fV)), (aP, .inl (K 0, 80, .inl fP))] U.heap ∧ va_D (fun _ => True) [(oM, .inr (5, [.ref aS, .ref aA, .ref aB, .int (nI kn), .ref aT, .ref aV, .ref aP, .int (nI ln), .int pl, .int wr, .int le, .int on, .int tw])), (aS, .inl (K 0, 360, .inl fS)), (aA, .inl (K 0, 360, .inl fA)), (aB, .inl (K 0, 2160, .inl fB)), (aT, .inl (K 0, 720, .inl fT)), (aV, .inl (K 2, 2, .inl fV)), (aP, .inl (K 0, 80, .inl fP))])) (va_Qv (fun (_ : Unit) => True) (fun _ t => va_P D vwCl [(oM, .inr (5, [.ref aS, .ref aA, .ref aB, .int (nI (kn + 1)), .ref aT, .ref aV, .ref aP, .int (nI ln), .int pl, .int wr, .int le, .int on, .int tw])), (aS, .inl (K 0, 360, .inl fS)), (aA, .inl (K 0, 360, .inl fA)), (aB, .inl (K 0, 2160, .inl (cpA fB fS (360 * kn) 360))), (aT, .inl (K 0, 720, .inl fT)), (aV, .inl (K 2, 2, .inl fV)), (aP, .inl (K 0, 80, .inl fP))] t.heap) (inW [(oM, .inr (5, [.ref aS, .ref aA, .ref aB, .int (nI kn), .ref aT, .ref aV, .ref aP, .int (nI ln), .int pl, .int wr, .int le, .int on, .int tw])), (aS, .inl (K 0, 360, .inl fS)), (aA, .inl (K 0, 360, .inl fA)), (aB, .inl (K 0, 2160, .inl fB)), (aT, .inl (K 0, 720, .inl fT)), (aV, .inl (K 2, 2, .inl fV)), (aP, .inl (K 0, 80, .inl fP))])) 0 0 (inW [(oM, .inr (5, [.ref aS, .ref aA, .ref aB, .int (nI kn), .ref aT, .ref aV, .ref aP, .int (nI ln), .int pl, .int wr, .int le, .int on, .int tw])), (aS, .inl (K 0, 360, .inl fS)), (aA, .inl (K 0, 360, .inl fA)), (aB, .inl (K 0, 2160, .inl fB)), (aT, .inl (K 0, 720, .inl fT)), (aV, .inl (K 2, 2, .inl fV)), (aP, .inl (K 0, 80, .inl fP))]) := by
  refine Met.ofW (cc := cX5_know) (maxL := 2) (ret := none) (by decide) rfl ?_
  intro p e s m args below meth c s₁ B hml hv
  obtain ⟨rfl, hbd, hP, hD0⟩ := hv
  have hx := B.exec
  have hb := B.bytes
  have hr := B.returns
  have hts := atoms_spec (ws := wsX5_know) B.pre
  have hown : s.vm.findClass RX5 = some m.cls := findClass_of_methodNamed B.named
  have hlocks := B.notSynchronized
  have hK := hbd.2
  have hP : va_P D vwCl [(oM, .inr (5, [.ref aS, .ref aA, .ref aB, .int (nI kn), .ref aT, .ref aV, .ref aP, .int (nI ln), .int pl, .int wr, .int le, .int on, .int tw])), (aS, .inl (K 0, 360, .inl fS)), (aA, .inl (K 0, 360, .inl fA)), (aB, .inl (K 0, 2160, .inl fB)), (aT, .inl (K 0, 720, .inl fT)), (aV, .inl (K 2, 2, .inl fV)), (aP, .inl (K 0, 80, .inl fP))] s.heap := hP
  have hin5 : ∀ w ∈ wsX50, w ∈ wsX5_know := by decide +kernel
  have hD := hD0.own
  generalize hAe : inW [(oM, .inr (5, [.ref aS, .ref aA, .ref aB, .int (nI kn), .ref aT, .ref aV, .ref aP, .int (nI ln), .int pl, .int wr, .int le, .int on, .int tw])), (aS, .inl (K 0, 360, .inl fS)), (aA, .inl (K 0, 360, .inl fA)), (aB, .inl (K 0, 2160, .inl fB)), (aT, .inl (K 0, 720, .inl fT)), (aV, .inl (K 2, 2, .inl fV)), (aP, .inl (K 0, 80, .inl fP))] = A at hD ⊢
  have hS : va_S A s.heap s.heap [] := va_S.rf
  have hl := lv_entry ([.ref oM]) (n := 2) (Nat.le_of_ble_eq_true rfl)
  rw [lg_entry_eq]
  generalize (lg_sl ([.ref oM]) ++ List.replicate (2 - (lg_sl ([.ref oM])).length) Slot.unset).toArray = ls at hl ⊢
  have hl : lv_has ls 2 [(0, .ref oM)] := hl
  have K0 : ∀ (H : Heap) (locs : List Loc) (ls : Array Slot), va_P D vwCl [(oM, .inr (5, [.ref aS, .ref aA, .ref aB, .int (nI kn), .ref aT, .ref aV, .ref aP, .int (nI ln), .int pl, .int wr, .int le, .int on, .int tw])), (aS, .inl (K 0, 360, .inl fS)), (aA, .inl (K 0, 360, .inl fA)), (aB, .inl (K 0, 2160, .inl fB)), (aT, .inl (K 0, 720, .inl fT)), (aV, .inl (K 2, 2, .inl fV)), (aP, .inl (K 0, 80, .inl fP))] H → va_D A [(oM, .inr (5, [.ref aS, .ref aA, .ref aB, .int (nI kn), .ref aT, .ref aV, .ref aP, .int (nI ln), .int pl, .int wr, .int le, .int on, .int tw])), (aS, .inl (K 0, 360, .inl fS)), (aA, .inl (K 0, 360, .inl fA)), (aB, .inl (K 0, 2160, .inl fB)), (aT, .inl (K 0, 720, .inl fT)), (aV, .inl (K 2, 2, .inl fV)), (aP, .inl (K 0, 80, .inl fP))] → va_S A s.heap H locs → lv_has ls 2 [(0, .ref oM)] → W p l e (headSpec wsX5_know ({ frames := 0, cells := 0, slots := 0, locals := 0 })).room s m ([.ref oM] : List Value).toArray below meth c H locs 0 0 (MQ below (va_Qv (fun (_ : Unit) => True) (fun _ t => va_P D vwCl [(oM, .inr (5, [.ref aS, .ref aA, .ref aB, .int (nI (kn + 1)), .ref aT, .ref aV, .ref aP, .int (nI ln), .int pl, .int wr, .int le, .int on, .int tw])), (aS, .inl (K 0, 360, .inl fS)), (aA, .inl (K 0, 360, .inl fA)), (aB, .inl (K 0, 2160, .inl (cpA fB fS (360 * kn) 360))), (aT, .inl (K 0, 720, .inl fT)), (aV, .inl (K 2, 2, .inl fV)), (aP, .inl (K 0, 80, .inl fP))] t.heap) A) ([.ref oM] : List Value).toArray s 0 0 A) (F0 m 0 ls []) := by
    intro H locs ls hP hD hS hl
    refine lv_aload_n hx hb dX5_know_0 rfl (lv_at hl 0 rfl) ?_
    refine va_get (D := D) (ci := 5) (v := .int (nI kn)) (C := RX5) (T := TX5) (N := 13) hx hb hts hin5 hown hK hP 0 rfl rfl 3 (by decide) (hts _ (List.mem_of_getElem? (i := 1) rfl)) (fun _ h9 => h9) rfl dX5_know_1 ?_
    refine lv_bipush (v := 6) hx hb dX5_know_4 (by decide) ?_
    refine lv_icmp_ne (tgt := 50) hx hb dX5_know_6 (by decide) (fun _ => ?_) (fun h_1 => absurd h_1 (fun h => absurd ((nI_eq (a := kn) (b := 6) (by omega) (by omega)).mp h) (by omega)))
    refine lv_iconst (v := 0) hx hb dX5_know_50 (by decide) ?_
    refine lv_istore_n (lv' := [(1, .int 0), (0, .ref oM)]) hx hb dX5_know_51 rfl hl (by decide) rfl (fun ls hl => ?_)
    have L_2 : ∀ (nf : Nat) (q : Nat), 360 - q < nf → q ≤ 360 → ∀ (H : Heap) (locs : List Loc) (ls : Array Slot), va_P D vwCl [(oM, .inr (5, [.ref aS, .ref aA, .ref aB, .int (nI kn), .ref aT, .ref aV, .ref aP, .int (nI ln), .int pl, .int wr, .int le, .int on, .int tw])), (aS, .inl (K 0, 360, .inl fS)), (aA, .inl (K 0, 360, .inl fA)), (aB, .inl (K 0, 2160, .inl (cpA fB fS (360 * kn) q))), (aT, .inl (K 0, 720, .inl fT)), (aV, .inl (K 2, 2, .inl fV)), (aP, .inl (K 0, 80, .inl fP))] H → va_D A [(oM, .inr (5, [.ref aS, .ref aA, .ref aB, .int (nI kn), .ref aT, .ref aV, .ref aP, .int (nI ln), .int pl, .int wr, .int le, .int on, .int tw])), (aS, .inl (K 0, 360, .inl fS)), (aA, .inl (K 0, 360, .inl fA)), (aB, .inl (K 0, 2160, .inl (cpA fB fS (360 * kn) q))), (aT, .inl (K 0, 720, .inl fT)), (aV, .inl (K 2, 2, .inl fV)), (aP, .inl (K 0, 80, .inl fP))] → va_S A s.heap H locs → lv_has ls 2 [(1, .int (nI q)), (0, .ref oM)] → W p l e (headSpec wsX5_know ({ frames := 0, cells := 0, slots := 0, locals := 0 })).room s m ([.ref oM] : List Value).toArray below meth c H locs 0 0 (MQ below (va_Qv (fun (_ : Unit) => True) (fun _ t => va_P D vwCl [(oM, .inr (5, [.ref aS, .ref aA, .ref aB, .int (nI (kn + 1)), .ref aT, .ref aV, .ref aP, .int (nI ln), .int pl, .int wr, .int le, .int on, .int tw])), (aS, .inl (K 0, 360, .inl fS)), (aA, .inl (K 0, 360, .inl fA)), (aB, .inl (K 0, 2160, .inl (cpA fB fS (360 * kn) 360))), (aT, .inl (K 0, 720, .inl fT)), (aV, .inl (K 2, 2, .inl fV)), (aP, .inl (K 0, 80, .inl fP))] t.heap) A) ([.ref oM] : List Value).toArray s 0 0 A) (F0 m 52 ls []) := by
      intro nf
      induction nf with
      | zero =>
        intro q hm
        exact absurd hm (Nat.not_lt_zero _)
      | succ nf ih =>
        intro q hm hq H locs ls hP hD hS hl
        refine lv_iload_n hx hb dX5_know_52 rfl (lv_at hl 0 rfl) ?_
        refine lv_sipush (v := 360) hx hb dX5_know_53 (by decide) ?_
        refine lv_icmp_ge (tgt := 86) hx hb dX5_know_56 (by decide) (fun c_3 => ?_) (fun c_3 => ?_)
        · skip
          have nc_3 := (nI_leI (a := 360) (b := q) (by omega) (by omega)).mp c_3
          have e9 : q = 360 := by omega
          subst e9
          refine lv_aload_n hx hb dX5_know_86 rfl (lv_at hl 1 rfl) ?_
          refine lv_dup hx hb dX5_know_87 rfl ?_
          refine va_get (D := D) (ci := 5) (v := .int (nI kn)) (C := RX5) (T := TX5) (N := 13) hx hb hts hin5 hown hK hP 0 rfl rfl 3 (by decide) (hts _ (List.mem_of_getElem? (i := 1) rfl)) (fun _ h9 => h9) rfl dX5_know_88 ?_
          refine lv_iconst (v := 1) hx hb dX5_know_91 (by decide) ?_
          refine lv_iadd hx hb dX5_know_92 ?_
          refine st1 (nI_add kn 1) ?_
          refine va_put (D := D) (ci := 5) (v := .int (nI (kn + 1))) (ty := .int) (C := RX5) (T := TX5) (N := 13) hx hb hts hin5 tyX5 tyX5_ok nmX5 hown hK hP hD hS 0 rfl rfl 3 (by decide) (hts _ (List.mem_of_getElem? (i := 1) rfl)) (fun _ h9 => h9) rfl (by decide +kernel) rfl rfl (Nat.le_of_ble_eq_true rfl) dX5_know_93 (fun H locs hP hD hS => ?_)
          have hP : va_P D vwCl [(oM, .inr (5, [.ref aS, .ref aA, .ref aB, .int (nI (kn + 1)), .ref aT, .ref aV, .ref aP, .int (nI ln), .int pl, .int wr, .int le, .int on, .int tw])), (aS, .inl (K 0, 360, .inl fS)), (aA, .inl (K 0, 360, .inl fA)), (aB, .inl (K 0, 2160, .inl (cpA fB fS (360 * kn) 360))), (aT, .inl (K 0, 720, .inl fT)), (aV, .inl (K 2, 2, .inl fV)), (aP, .inl (K 0, 80, .inl fP))] H := hP
          have hD : va_D A [(oM, .inr (5, [.ref aS, .ref aA, .ref aB, .int (nI (kn + 1)), .ref aT, .ref aV, .ref aP, .int (nI ln), .int pl, .int wr, .int le, .int on, .int tw])), (aS, .inl (K 0, 360, .inl fS)), (aA, .inl (K 0, 360, .inl fA)), (aB, .inl (K 0, 2160, .inl (cpA fB fS (360 * kn) 360))), (aT, .inl (K 0, 720, .inl fT)), (aV, .inl (K 2, 2, .inl fV)), (aP, .inl (K 0, 80, .inl fP))] := hD
          have hPf : va_P D vwCl [(oM, .inr (5, [.ref aS, .ref aA, .ref aB, .int (nI (kn + 1)), .ref aT, .ref aV, .ref aP, .int (nI ln), .int pl, .int wr, .int le, .int on, .int tw])), (aS, .inl (K 0, 360, .inl fS)), (aA, .inl (K 0, 360, .inl fA)), (aB, .inl (K 0, 2160, .inl (cpA fB fS (360 * kn) 360))), (aT, .inl (K 0, 720, .inl fT)), (aV, .inl (K 2, 2, .inl fV)), (aP, .inl (K 0, 80, .inl fP))] H := hP
          exact W.vret hx hb hr (fun t ht hW => ⟨⟨(), rfl, trivial, by show va_P D vwCl _ t.heap; rw [ht]; exact hPf⟩, hS.F ht⟩) hS.2.2 dX5_know_96
        · skip
          have nc_3 : ¬ (360 ≤ q) := fun h => c_3 ((nI_leI (a := 360) (b := q) (by omega) (by omega)).mpr h)
          refine lv_aload_n hx hb dX5_know_59 rfl (lv_at hl 1 rfl) ?_
          refine va_get (D := D) (ci := 5) (v := .ref aB) (C := RX5) (T := TX5) (N := 13) hx hb hts hin5 hown hK hP 0 rfl rfl 2 (by decide) (hts _ (List.mem_of_getElem? (i := 2) rfl)) (fun _ h9 => h9) rfl dX5_know_60 ?_
          refine lv_sipush (v := 360) hx hb dX5_know_63 (by decide) ?_
          refine lv_aload_n hx hb dX5_know_66 rfl (lv_at hl 1 rfl) ?_
          refine va_get (D := D) (ci := 5) (v := .int (nI kn)) (C := RX5) (T := TX5) (N := 13) hx hb hts hin5 hown hK hP 0 rfl rfl 3 (by decide) (hts _ (List.mem_of_getElem? (i := 1) rfl)) (fun _ h9 => h9) rfl dX5_know_67 ?_
          refine lv_imul hx hb dX5_know_70 ?_
          refine st1 (pk_mul 360 kn) ?_
          refine lv_iload_n hx hb dX5_know_71 rfl (lv_at hl 0 rfl) ?_
          refine lv_iadd hx hb dX5_know_72 ?_
          refine st1 (nI_add (360 * kn) q) ?_
          refine lv_aload_n hx hb dX5_know_73 rfl (lv_at hl 1 rfl) ?_
          refine va_get (D := D) (ci := 5) (v := .ref aS) (C := RX5) (T := TX5) (N := 13) hx hb hts hin5 hown hK hP 0 rfl rfl 0 (by decide) (hts _ (List.mem_of_getElem? (i := 3) rfl)) (fun _ h9 => h9) rfl dX5_know_74 ?_
          refine lv_iload_n hx hb dX5_know_77 rfl (lv_at hl 0 rfl) ?_
          refine n_iald hx hb hK hP 1 0 rfl rfl q (by omega) (by decide) dX5_know_78 ?_
          refine n_iast hx hb hK hP hD hS 3 0 rfl rfl (360 * kn + q) (by omega) (by decide) dX5_know_79 (fun H locs hP hD hS => ?_)
          have hP : va_P D vwCl [(oM, .inr (5, [.ref aS, .ref aA, .ref aB, .int (nI kn), .ref aT, .ref aV, .ref aP, .int (nI ln), .int pl, .int wr, .int le, .int on, .int tw])), (aS, .inl (K 0, 360, .inl fS)), (aA, .inl (K 0, 360, .inl fA)), (aB, .inl (K 0, 2160, .inl (upd (cpA fB fS (360 * kn) q) (360 * kn + q) (fS q)))), (aT, .inl (K 0, 720, .inl fT)), (aV, .inl (K 2, 2, .inl fV)), (aP, .inl (K 0, 80, .inl fP))] H := hP
          have hD : va_D A [(oM, .inr (5, [.ref aS, .ref aA, .ref aB, .int (nI kn), .ref aT, .ref aV, .ref aP, .int (nI ln), .int pl, .int wr, .int le, .int on, .int tw])), (aS, .inl (K 0, 360, .inl fS)), (aA, .inl (K 0, 360, .inl fA)), (aB, .inl (K 0, 2160, .inl (upd (cpA fB fS (360 * kn) q) (360 * kn + q) (fS q)))), (aT, .inl (K 0, 720, .inl fT)), (aV, .inl (K 2, 2, .inl fV)), (aP, .inl (K 0, 80, .inl fP))] := hD
          refine lv_iinc (v := (nI (q + 1))) (lv' := [(1, .int (nI (q + 1))), (0, .ref oM)]) hx hb dX5_know_80 hl (k := 0) rfl (nI_add q 1) (by decide) rfl (fun ls hl => ?_)
          refine lv_goto (tgt := 52) hx hb dX5_know_83 (by decide) ?_
          exact ih (q + 1) (by omega) (by omega) _ _ _ hP hD hS (lv_sub hl [0, 1] rfl)
    exact L_2 _ 0 (Nat.lt_succ_self _) (by omega) H locs ls hP hD hS (lv_sub hl [0, 1] rfl)
  exact K0 s.heap [] ls hP hD hS hl
set_option maxHeartbeats 4000000 in
set_option maxRecDepth 100000 in
theorem c_X5_know_6 (l : Launch) (D : va_G) (K : Nat → ClassId) (oM : Nat) (aS : Nat) (aA : Nat) (aB : Nat) (aT : Nat) (aV : Nat) (aP : Nat) (fS : Nat → Int32) (fA : Nat → Int32) (fB : Nat → Int32) (fT : Nat → Int32) (fV : Nat → Int32) (fP : Nat → Int32) (ln : Nat) (pl : Int32) (wr : Int32) (le : Int32) (on : Int32) (tw : Int32)  : Met l yX5_know wsX5_know ({ frames := 0, cells := 0, slots := 0, locals := 0 }) (va_Pc [.ref oM] (fun U => Bd D K U ∧ va_P D vwCl [(oM, .inr (5, [.ref aS, .ref aA, .ref aB, .int 6, .ref aT, .ref aV, .ref aP, .int (nI ln), .int pl, .int wr, .int le, .int on, .int tw])), (aS, .inl (K 0, 360, .inl fS)), (aA, .inl (K 0, 360, .inl fA)), (aB, .inl (K 0, 2160, .inl fB)), (aT, .inl (K 0, 720, .inl fT)), (aV, .inl (K 2, 2, .inl fV)), (aP, .inl (K 0, 80, .inl fP))] U.heap ∧ va_D (fun _ => True) [(oM, .inr (5, [.ref aS, .ref aA, .ref aB, .int 6, .ref aT, .ref aV, .ref aP, .int (nI ln), .int pl, .int wr, .int le, .int on, .int tw])), (aS, .inl (K 0, 360, .inl fS)), (aA, .inl (K 0, 360, .inl fA)), (aB, .inl (K 0, 2160, .inl fB)), (aT, .inl (K 0, 720, .inl fT)), (aV, .inl (K 2, 2, .inl fV)), (aP, .inl (K 0, 80, .inl fP))])) (va_Qv (fun (_ : Unit) => True) (fun _ t => va_P D vwCl [(oM, .inr (5, [.ref aS, .ref aA, .ref aB, .int 6, .ref aT, .ref aV, .ref aP, .int (nI ln), .int pl, .int wr, .int le, .int on, .int tw])), (aS, .inl (K 0, 360, .inl fS)), (aA, .inl (K 0, 360, .inl fA)), (aB, .inl (K 0, 2160, .inl (cpA (shI fB 1800) fS 1800 360))), (aT, .inl (K 0, 720, .inl fT)), (aV, .inl (K 2, 2, .inl fV)), (aP, .inl (K 0, 80, .inl fP))] t.heap) (inW [(oM, .inr (5, [.ref aS, .ref aA, .ref aB, .int 6, .ref aT, .ref aV, .ref aP, .int (nI ln), .int pl, .int wr, .int le, .int on, .int tw])), (aS, .inl (K 0, 360, .inl fS)), (aA, .inl (K 0, 360, .inl fA)), (aB, .inl (K 0, 2160, .inl fB)), (aT, .inl (K 0, 720, .inl fT)), (aV, .inl (K 2, 2, .inl fV)), (aP, .inl (K 0, 80, .inl fP))])) 0 0 (inW [(oM, .inr (5, [.ref aS, .ref aA, .ref aB, .int 6, .ref aT, .ref aV, .ref aP, .int (nI ln), .int pl, .int wr, .int le, .int on, .int tw])), (aS, .inl (K 0, 360, .inl fS)), (aA, .inl (K 0, 360, .inl fA)), (aB, .inl (K 0, 2160, .inl fB)), (aT, .inl (K 0, 720, .inl fT)), (aV, .inl (K 2, 2, .inl fV)), (aP, .inl (K 0, 80, .inl fP))]) := by
  refine Met.ofW (cc := cX5_know) (maxL := 2) (ret := none) (by decide) rfl ?_
  intro p e s m args below meth c s₁ B hml hv
  obtain ⟨rfl, hbd, hP, hD0⟩ := hv
  have hx := B.exec
  have hb := B.bytes
  have hr := B.returns
  have hts := atoms_spec (ws := wsX5_know) B.pre
  have hown : s.vm.findClass RX5 = some m.cls := findClass_of_methodNamed B.named
  have hlocks := B.notSynchronized
  have hK := hbd.2
  have hP : va_P D vwCl [(oM, .inr (5, [.ref aS, .ref aA, .ref aB, .int 6, .ref aT, .ref aV, .ref aP, .int (nI ln), .int pl, .int wr, .int le, .int on, .int tw])), (aS, .inl (K 0, 360, .inl fS)), (aA, .inl (K 0, 360, .inl fA)), (aB, .inl (K 0, 2160, .inl fB)), (aT, .inl (K 0, 720, .inl fT)), (aV, .inl (K 2, 2, .inl fV)), (aP, .inl (K 0, 80, .inl fP))] s.heap := hP
  have hin5 : ∀ w ∈ wsX50, w ∈ wsX5_know := by decide +kernel
  have hD := hD0.own
  generalize hAe : inW [(oM, .inr (5, [.ref aS, .ref aA, .ref aB, .int 6, .ref aT, .ref aV, .ref aP, .int (nI ln), .int pl, .int wr, .int le, .int on, .int tw])), (aS, .inl (K 0, 360, .inl fS)), (aA, .inl (K 0, 360, .inl fA)), (aB, .inl (K 0, 2160, .inl fB)), (aT, .inl (K 0, 720, .inl fT)), (aV, .inl (K 2, 2, .inl fV)), (aP, .inl (K 0, 80, .inl fP))] = A at hD ⊢
  have hS : va_S A s.heap s.heap [] := va_S.rf
  have hl := lv_entry ([.ref oM]) (n := 2) (Nat.le_of_ble_eq_true rfl)
  rw [lg_entry_eq]
  generalize (lg_sl ([.ref oM]) ++ List.replicate (2 - (lg_sl ([.ref oM])).length) Slot.unset).toArray = ls at hl ⊢
  have hl : lv_has ls 2 [(0, .ref oM)] := hl
  have K0 : ∀ (H : Heap) (locs : List Loc) (ls : Array Slot), va_P D vwCl [(oM, .inr (5, [.ref aS, .ref aA, .ref aB, .int 6, .ref aT, .ref aV, .ref aP, .int (nI ln), .int pl, .int wr, .int le, .int on, .int tw])), (aS, .inl (K 0, 360, .inl fS)), (aA, .inl (K 0, 360, .inl fA)), (aB, .inl (K 0, 2160, .inl fB)), (aT, .inl (K 0, 720, .inl fT)), (aV, .inl (K 2, 2, .inl fV)), (aP, .inl (K 0, 80, .inl fP))] H → va_D A [(oM, .inr (5, [.ref aS, .ref aA, .ref aB, .int 6, .ref aT, .ref aV, .ref aP, .int (nI ln), .int pl, .int wr, .int le, .int on, .int tw])), (aS, .inl (K 0, 360, .inl fS)), (aA, .inl (K 0, 360, .inl fA)), (aB, .inl (K 0, 2160, .inl fB)), (aT, .inl (K 0, 720, .inl fT)), (aV, .inl (K 2, 2, .inl fV)), (aP, .inl (K 0, 80, .inl fP))] → va_S A s.heap H locs → lv_has ls 2 [(0, .ref oM)] → W p l e (headSpec wsX5_know ({ frames := 0, cells := 0, slots := 0, locals := 0 })).room s m ([.ref oM] : List Value).toArray below meth c H locs 0 0 (MQ below (va_Qv (fun (_ : Unit) => True) (fun _ t => va_P D vwCl [(oM, .inr (5, [.ref aS, .ref aA, .ref aB, .int 6, .ref aT, .ref aV, .ref aP, .int (nI ln), .int pl, .int wr, .int le, .int on, .int tw])), (aS, .inl (K 0, 360, .inl fS)), (aA, .inl (K 0, 360, .inl fA)), (aB, .inl (K 0, 2160, .inl (cpA (shI fB 1800) fS 1800 360))), (aT, .inl (K 0, 720, .inl fT)), (aV, .inl (K 2, 2, .inl fV)), (aP, .inl (K 0, 80, .inl fP))] t.heap) A) ([.ref oM] : List Value).toArray s 0 0 A) (F0 m 0 ls []) := by
    intro H locs ls hP hD hS hl
    refine lv_aload_n hx hb dX5_know_0 rfl (lv_at hl 0 rfl) ?_
    refine va_get (D := D) (ci := 5) (v := .int 6) (C := RX5) (T := TX5) (N := 13) hx hb hts hin5 hown hK hP 0 rfl rfl 3 (by decide) (hts _ (List.mem_of_getElem? (i := 1) rfl)) (fun _ h9 => h9) rfl dX5_know_1 ?_
    refine lv_bipush (v := 6) hx hb dX5_know_4 (by decide) ?_
    refine lv_icmp_ne (tgt := 50) hx hb dX5_know_6 (by decide) (fun h_1 => absurd (by decide) h_1) (fun _ => ?_)
    refine lv_iconst (v := 0) hx hb dX5_know_9 (by decide) ?_
    refine lv_istore_n (lv' := [(1, .int 0), (0, .ref oM)]) hx hb dX5_know_10 rfl hl (by decide) rfl (fun ls hl => ?_)
    have L_2 : ∀ (nf : Nat) (q : Nat), 1800 - q < nf → q ≤ 1800 → ∀ (H : Heap) (locs : List Loc) (ls : Array Slot), va_P D vwCl [(oM, .inr (5, [.ref aS, .ref aA, .ref aB, .int 6, .ref aT, .ref aV, .ref aP, .int (nI ln), .int pl, .int wr, .int le, .int on, .int tw])), (aS, .inl (K 0, 360, .inl fS)), (aA, .inl (K 0, 360, .inl fA)), (aB, .inl (K 0, 2160, .inl (shI fB q))), (aT, .inl (K 0, 720, .inl fT)), (aV, .inl (K 2, 2, .inl fV)), (aP, .inl (K 0, 80, .inl fP))] H → va_D A [(oM, .inr (5, [.ref aS, .ref aA, .ref aB, .int 6, .ref aT, .ref aV, .ref aP, .int (nI ln), .int pl, .int wr, .int le, .int on, .int tw])), (aS, .inl (K 0, 360, .inl fS)), (aA, .inl (K 0, 360, .inl fA)), (aB, .inl (K 0, 2160, .inl (shI fB q))), (aT, .inl (K 0, 720, .inl fT)), (aV, .inl (K 2, 2, .inl fV)), (aP, .inl (K 0, 80, .inl fP))] → va_S A s.heap H locs → lv_has ls 2 [(1, .int (nI q)), (0, .ref oM)] → W p l e (headSpec wsX5_know ({ frames := 0, cells := 0, slots := 0, locals := 0 })).room s m ([.ref oM] : List Value).toArray below meth c H locs 0 0 (MQ below (va_Qv (fun (_ : Unit) => True) (fun _ t => va_P D vwCl [(oM, .inr (5, [.ref aS, .ref aA, .ref aB, .int 6, .ref aT, .ref aV, .ref aP, .int (nI ln), .int pl, .int wr, .int le, .int on, .int tw])), (aS, .inl (K 0, 360, .inl fS)), (aA, .inl (K 0, 360, .inl fA)), (aB, .inl (K 0, 2160, .inl (cpA (shI fB 1800) fS 1800 360))), (aT, .inl (K 0, 720, .inl fT)), (aV, .inl (K 2, 2, .inl fV)), (aP, .inl (K 0, 80, .inl fP))] t.heap) A) ([.ref oM] : List Value).toArray s 0 0 A) (F0 m 11 ls []) := by
      intro nf
      induction nf with
      | zero =>
        intro q hm
        exact absurd hm (Nat.not_lt_zero _)
      | succ nf ih =>
        intro q hm hq H locs ls hP hD hS hl
        refine lv_iload_n hx hb dX5_know_11 rfl (lv_at hl 0 rfl) ?_
        refine lv_sipush (v := 1800) hx hb dX5_know_12 (by decide) ?_
        refine lv_icmp_ge (tgt := 40) hx hb dX5_know_15 (by decide) (fun c_3 => ?_) (fun c_3 => ?_)
        · skip
          have nc_3 := (nI_leI (a := 1800) (b := q) (by omega) (by omega)).mp c_3
          have e9 : q = 1800 := by omega
          subst e9
          refine lv_aload_n hx hb dX5_know_40 rfl (lv_at hl 1 rfl) ?_
          refine lv_dup hx hb dX5_know_41 rfl ?_
          refine va_get (D := D) (ci := 5) (v := .int 6) (C := RX5) (T := TX5) (N := 13) hx hb hts hin5 hown hK hP 0 rfl rfl 3 (by decide) (hts _ (List.mem_of_getElem? (i := 1) rfl)) (fun _ h9 => h9) rfl dX5_know_42 ?_
          refine lv_iconst (v := 1) hx hb dX5_know_45 (by decide) ?_
          refine lv_isub hx hb dX5_know_46 ?_
          refine st1 (y := 5) (by decide) ?_
          refine va_put (D := D) (ci := 5) (v := .int 5) (ty := .int) (C := RX5) (T := TX5) (N := 13) hx hb hts hin5 tyX5 tyX5_ok nmX5 hown hK hP hD hS 0 rfl rfl 3 (by decide) (hts _ (List.mem_of_getElem? (i := 1) rfl)) (fun _ h9 => h9) rfl (by decide +kernel) rfl rfl (Nat.le_of_ble_eq_true rfl) dX5_know_47 (fun H locs hP hD hS => ?_)
          have hP : va_P D vwCl [(oM, .inr (5, [.ref aS, .ref aA, .ref aB, .int 5, .ref aT, .ref aV, .ref aP, .int (nI ln), .int pl, .int wr, .int le, .int on, .int tw])), (aS, .inl (K 0, 360, .inl fS)), (aA, .inl (K 0, 360, .inl fA)), (aB, .inl (K 0, 2160, .inl (shI fB 1800))), (aT, .inl (K 0, 720, .inl fT)), (aV, .inl (K 2, 2, .inl fV)), (aP, .inl (K 0, 80, .inl fP))] H := hP
          have hD : va_D A [(oM, .inr (5, [.ref aS, .ref aA, .ref aB, .int 5, .ref aT, .ref aV, .ref aP, .int (nI ln), .int pl, .int wr, .int le, .int on, .int tw])), (aS, .inl (K 0, 360, .inl fS)), (aA, .inl (K 0, 360, .inl fA)), (aB, .inl (K 0, 2160, .inl (shI fB 1800))), (aT, .inl (K 0, 720, .inl fT)), (aV, .inl (K 2, 2, .inl fV)), (aP, .inl (K 0, 80, .inl fP))] := hD
          refine lv_iconst (v := 0) hx hb dX5_know_50 (by decide) ?_
          refine lv_istore_n (lv' := [(1, .int 0), (0, .ref oM)]) hx hb dX5_know_51 rfl hl (by decide) rfl (fun ls hl => ?_)
          have L_4 : ∀ (nf : Nat) (q : Nat), 360 - q < nf → q ≤ 360 → ∀ (H : Heap) (locs : List Loc) (ls : Array Slot), va_P D vwCl [(oM, .inr (5, [.ref aS, .ref aA, .ref aB, .int 5, .ref aT, .ref aV, .ref aP, .int (nI ln), .int pl, .int wr, .int le, .int on, .int tw])), (aS, .inl (K 0, 360, .inl fS)), (aA, .inl (K 0, 360, .inl fA)), (aB, .inl (K 0, 2160, .inl (cpA (shI fB 1800) fS 1800 q))), (aT, .inl (K 0, 720, .inl fT)), (aV, .inl (K 2, 2, .inl fV)), (aP, .inl (K 0, 80, .inl fP))] H → va_D A [(oM, .inr (5, [.ref aS, .ref aA, .ref aB, .int 5, .ref aT, .ref aV, .ref aP, .int (nI ln), .int pl, .int wr, .int le, .int on, .int tw])), (aS, .inl (K 0, 360, .inl fS)), (aA, .inl (K 0, 360, .inl fA)), (aB, .inl (K 0, 2160, .inl (cpA (shI fB 1800) fS 1800 q))), (aT, .inl (K 0, 720, .inl fT)), (aV, .inl (K 2, 2, .inl fV)), (aP, .inl (K 0, 80, .inl fP))] → va_S A s.heap H locs → lv_has ls 2 [(1, .int (nI q)), (0, .ref oM)] → W p l e (headSpec wsX5_know ({ frames := 0, cells := 0, slots := 0, locals := 0 })).room s m ([.ref oM] : List Value).toArray below meth c H locs 0 0 (MQ below (va_Qv (fun (_ : Unit) => True) (fun _ t => va_P D vwCl [(oM, .inr (5, [.ref aS, .ref aA, .ref aB, .int 6, .ref aT, .ref aV, .ref aP, .int (nI ln), .int pl, .int wr, .int le, .int on, .int tw])), (aS, .inl (K 0, 360, .inl fS)), (aA, .inl (K 0, 360, .inl fA)), (aB, .inl (K 0, 2160, .inl (cpA (shI fB 1800) fS 1800 360))), (aT, .inl (K 0, 720, .inl fT)), (aV, .inl (K 2, 2, .inl fV)), (aP, .inl (K 0, 80, .inl fP))] t.heap) A) ([.ref oM] : List Value).toArray s 0 0 A) (F0 m 52 ls []) := by
            intro nf
            induction nf with
            | zero =>
              intro q hm
              exact absurd hm (Nat.not_lt_zero _)
            | succ nf ih =>
              intro q hm hq H locs ls hP hD hS hl
              refine lv_iload_n hx hb dX5_know_52 rfl (lv_at hl 0 rfl) ?_
              refine lv_sipush (v := 360) hx hb dX5_know_53 (by decide) ?_
              refine lv_icmp_ge (tgt := 86) hx hb dX5_know_56 (by decide) (fun c_5 => ?_) (fun c_5 => ?_)
              · skip
                have nc_5 := (nI_leI (a := 360) (b := q) (by omega) (by omega)).mp c_5
                have e9 : q = 360 := by omega
                subst e9
                refine lv_aload_n hx hb dX5_know_86 rfl (lv_at hl 1 rfl) ?_
                refine lv_dup hx hb dX5_know_87 rfl ?_
                refine va_get (D := D) (ci := 5) (v := .int 5) (C := RX5) (T := TX5) (N := 13) hx hb hts hin5 hown hK hP 0 rfl rfl 3 (by decide) (hts _ (List.mem_of_getElem? (i := 1) rfl)) (fun _ h9 => h9) rfl dX5_know_88 ?_
                refine lv_iconst (v := 1) hx hb dX5_know_91 (by decide) ?_
                refine lv_iadd hx hb dX5_know_92 ?_
                refine st1 (y := 6) (by decide) ?_
                refine va_put (D := D) (ci := 5) (v := .int 6) (ty := .int) (C := RX5) (T := TX5) (N := 13) hx hb hts hin5 tyX5 tyX5_ok nmX5 hown hK hP hD hS 0 rfl rfl 3 (by decide) (hts _ (List.mem_of_getElem? (i := 1) rfl)) (fun _ h9 => h9) rfl (by decide +kernel) rfl rfl (Nat.le_of_ble_eq_true rfl) dX5_know_93 (fun H locs hP hD hS => ?_)
                have hP : va_P D vwCl [(oM, .inr (5, [.ref aS, .ref aA, .ref aB, .int 6, .ref aT, .ref aV, .ref aP, .int (nI ln), .int pl, .int wr, .int le, .int on, .int tw])), (aS, .inl (K 0, 360, .inl fS)), (aA, .inl (K 0, 360, .inl fA)), (aB, .inl (K 0, 2160, .inl (cpA (shI fB 1800) fS 1800 360))), (aT, .inl (K 0, 720, .inl fT)), (aV, .inl (K 2, 2, .inl fV)), (aP, .inl (K 0, 80, .inl fP))] H := hP
                have hD : va_D A [(oM, .inr (5, [.ref aS, .ref aA, .ref aB, .int 6, .ref aT, .ref aV, .ref aP, .int (nI ln), .int pl, .int wr, .int le, .int on, .int tw])), (aS, .inl (K 0, 360, .inl fS)), (aA, .inl (K 0, 360, .inl fA)), (aB, .inl (K 0, 2160, .inl (cpA (shI fB 1800) fS 1800 360))), (aT, .inl (K 0, 720, .inl fT)), (aV, .inl (K 2, 2, .inl fV)), (aP, .inl (K 0, 80, .inl fP))] := hD
                have hPf : va_P D vwCl [(oM, .inr (5, [.ref aS, .ref aA, .ref aB, .int 6, .ref aT, .ref aV, .ref aP, .int (nI ln), .int pl, .int wr, .int le, .int on, .int tw])), (aS, .inl (K 0, 360, .inl fS)), (aA, .inl (K 0, 360, .inl fA)), (aB, .inl (K 0, 2160, .inl (cpA (shI fB 1800) fS 1800 360))), (aT, .inl (K 0, 720, .inl fT)), (aV, .inl (K 2, 2, .inl fV)), (aP, .inl (K 0, 80, .inl fP))] H := hP
                exact W.vret hx hb hr (fun t ht hW => ⟨⟨(), rfl, trivial, by show va_P D vwCl _ t.heap; rw [ht]; exact hPf⟩, hS.F ht⟩) hS.2.2 dX5_know_96
              · skip
                have nc_5 : ¬ (360 ≤ q) := fun h => c_5 ((nI_leI (a := 360) (b := q) (by omega) (by omega)).mpr h)
                refine lv_aload_n hx hb dX5_know_59 rfl (lv_at hl 1 rfl) ?_
                refine va_get (D := D) (ci := 5) (v := .ref aB) (C := RX5) (T := TX5) (N := 13) hx hb hts hin5 hown hK hP 0 rfl rfl 2 (by decide) (hts _ (List.mem_of_getElem? (i := 2) rfl)) (fun _ h9 => h9) rfl dX5_know_60 ?_
                refine lv_sipush (v := 360) hx hb dX5_know_63 (by decide) ?_
                refine lv_aload_n hx hb dX5_know_66 rfl (lv_at hl 1 rfl) ?_
                refine va_get (D := D) (ci := 5) (v := .int 5) (C := RX5) (T := TX5) (N := 13) hx hb hts hin5 hown hK hP 0 rfl rfl 3 (by decide) (hts _ (List.mem_of_getElem? (i := 1) rfl)) (fun _ h9 => h9) rfl dX5_know_67 ?_
                refine lv_imul hx hb dX5_know_70 ?_
                refine st1 (y := 1800) (by decide) ?_
                refine lv_iload_n hx hb dX5_know_71 rfl (lv_at hl 0 rfl) ?_
                refine lv_iadd hx hb dX5_know_72 ?_
                refine st1 (nI_add 1800 q) ?_
                refine lv_aload_n hx hb dX5_know_73 rfl (lv_at hl 1 rfl) ?_
                refine va_get (D := D) (ci := 5) (v := .ref aS) (C := RX5) (T := TX5) (N := 13) hx hb hts hin5 hown hK hP 0 rfl rfl 0 (by decide) (hts _ (List.mem_of_getElem? (i := 3) rfl)) (fun _ h9 => h9) rfl dX5_know_74 ?_
                refine lv_iload_n hx hb dX5_know_77 rfl (lv_at hl 0 rfl) ?_
                refine n_iald hx hb hK hP 1 0 rfl rfl q (by omega) (by decide) dX5_know_78 ?_
                refine n_iast hx hb hK hP hD hS 3 0 rfl rfl (1800 + q) (by omega) (by decide) dX5_know_79 (fun H locs hP hD hS => ?_)
                have hP : va_P D vwCl [(oM, .inr (5, [.ref aS, .ref aA, .ref aB, .int 5, .ref aT, .ref aV, .ref aP, .int (nI ln), .int pl, .int wr, .int le, .int on, .int tw])), (aS, .inl (K 0, 360, .inl fS)), (aA, .inl (K 0, 360, .inl fA)), (aB, .inl (K 0, 2160, .inl (upd (cpA (shI fB 1800) fS 1800 q) (1800 + q) (fS q)))), (aT, .inl (K 0, 720, .inl fT)), (aV, .inl (K 2, 2, .inl fV)), (aP, .inl (K 0, 80, .inl fP))] H := hP
                have hD : va_D A [(oM, .inr (5, [.ref aS, .ref aA, .ref aB, .int 5, .ref aT, .ref aV, .ref aP, .int (nI ln), .int pl, .int wr, .int le, .int on, .int tw])), (aS, .inl (K 0, 360, .inl fS)), (aA, .inl (K 0, 360, .inl fA)), (aB, .inl (K 0, 2160, .inl (upd (cpA (shI fB 1800) fS 1800 q) (1800 + q) (fS q)))), (aT, .inl (K 0, 720, .inl fT)), (aV, .inl (K 2, 2, .inl fV)), (aP, .inl (K 0, 80, .inl fP))] := hD
                refine lv_iinc (v := (nI (q + 1))) (lv' := [(1, .int (nI (q + 1))), (0, .ref oM)]) hx hb dX5_know_80 hl (k := 0) rfl (nI_add q 1) (by decide) rfl (fun ls hl => ?_)
                refine lv_goto (tgt := 52) hx hb dX5_know_83 (by decide) ?_
                exact ih (q + 1) (by omega) (by omega) _ _ _ hP hD hS (lv_sub hl [0, 1] rfl)
          exact L_4 _ 0 (Nat.lt_succ_self _) (by omega) H locs ls hP hD hS (lv_sub hl [0, 1] rfl)
        · skip
          have nc_3 : ¬ (1800 ≤ q) := fun h => c_3 ((nI_leI (a := 1800) (b := q) (by omega) (by omega)).mpr h)
          refine lv_aload_n hx hb dX5_know_18 rfl (lv_at hl 1 rfl) ?_
          refine va_get (D := D) (ci := 5) (v := .ref aB) (C := RX5) (T := TX5) (N := 13) hx hb hts hin5 hown hK hP 0 rfl rfl 2 (by decide) (hts _ (List.mem_of_getElem? (i := 2) rfl)) (fun _ h9 => h9) rfl dX5_know_19 ?_
          refine lv_iload_n hx hb dX5_know_22 rfl (lv_at hl 0 rfl) ?_
          refine lv_aload_n hx hb dX5_know_23 rfl (lv_at hl 1 rfl) ?_
          refine va_get (D := D) (ci := 5) (v := .ref aB) (C := RX5) (T := TX5) (N := 13) hx hb hts hin5 hown hK hP 0 rfl rfl 2 (by decide) (hts _ (List.mem_of_getElem? (i := 2) rfl)) (fun _ h9 => h9) rfl dX5_know_24 ?_
          refine lv_sipush (v := 360) hx hb dX5_know_27 (by decide) ?_
          refine lv_iload_n hx hb dX5_know_30 rfl (lv_at hl 0 rfl) ?_
          refine lv_iadd hx hb dX5_know_31 ?_
          refine st1 (nI_add 360 q) ?_
          refine n_iald hx hb hK hP 3 0 rfl rfl (360 + q) (by omega) (by decide) dX5_know_32 ?_
          refine n_iast hx hb hK hP hD hS 3 0 rfl rfl q (by omega) (by decide) dX5_know_33 (fun H locs hP hD hS => ?_)
          have hP : va_P D vwCl [(oM, .inr (5, [.ref aS, .ref aA, .ref aB, .int 6, .ref aT, .ref aV, .ref aP, .int (nI ln), .int pl, .int wr, .int le, .int on, .int tw])), (aS, .inl (K 0, 360, .inl fS)), (aA, .inl (K 0, 360, .inl fA)), (aB, .inl (K 0, 2160, .inl (upd (shI fB q) q ((shI fB q) (360 + q))))), (aT, .inl (K 0, 720, .inl fT)), (aV, .inl (K 2, 2, .inl fV)), (aP, .inl (K 0, 80, .inl fP))] H := hP
          have hD : va_D A [(oM, .inr (5, [.ref aS, .ref aA, .ref aB, .int 6, .ref aT, .ref aV, .ref aP, .int (nI ln), .int pl, .int wr, .int le, .int on, .int tw])), (aS, .inl (K 0, 360, .inl fS)), (aA, .inl (K 0, 360, .inl fA)), (aB, .inl (K 0, 2160, .inl (upd (shI fB q) q ((shI fB q) (360 + q))))), (aT, .inl (K 0, 720, .inl fT)), (aV, .inl (K 2, 2, .inl fV)), (aP, .inl (K 0, 80, .inl fP))] := hD
          refine lv_iinc (v := (nI (q + 1))) (lv' := [(1, .int (nI (q + 1))), (0, .ref oM)]) hx hb dX5_know_34 hl (k := 0) rfl (nI_add q 1) (by decide) rfl (fun ls hl => ?_)
          refine lv_goto (tgt := 11) hx hb dX5_know_37 (by decide) ?_
          exact ih (q + 1) (by omega) (by omega) _ _ _ hP hD hS (lv_sub hl [0, 1] rfl)
    exact L_2 _ 0 (Nat.lt_succ_self _) (by omega) H locs ls hP hD hS (lv_sub hl [0, 1] rfl)
  exact K0 s.heap [] ls hP hD hS hl
def knB (fB fS : Nat → Int32) (kn : Nat) : Nat → Int32 := if kn < 6 then cpA fB fS (360 * kn) 360 else cpA (shI fB 1800) fS 1800 360
def knK (kn : Nat) : Nat := if kn < 6 then kn + 1 else 6
theorem c_X5_know (l : Launch) (D : va_G) (K : Nat → ClassId) (oM : Nat) (aS : Nat) (aA : Nat) (aB : Nat) (aT : Nat) (aV : Nat) (aP : Nat) (fS : Nat → Int32) (fA : Nat → Int32) (fB : Nat → Int32) (fT : Nat → Int32) (fV : Nat → Int32) (fP : Nat → Int32) (kn : Nat) (ln : Nat) (pl : Int32) (wr : Int32) (le : Int32) (on : Int32) (tw : Int32) (hkn : kn ≤ 6) : Met l yX5_know wsX5_know ({ frames := 0, cells := 0, slots := 0, locals := 0 }) (va_Pc [.ref oM] (fun U => Bd D K U ∧ va_P D vwCl [(oM, .inr (5, [.ref aS, .ref aA, .ref aB, .int (nI kn), .ref aT, .ref aV, .ref aP, .int (nI ln), .int pl, .int wr, .int le, .int on, .int tw])), (aS, .inl (K 0, 360, .inl fS)), (aA, .inl (K 0, 360, .inl fA)), (aB, .inl (K 0, 2160, .inl fB)), (aT, .inl (K 0, 720, .inl fT)), (aV, .inl (K 2, 2, .inl fV)), (aP, .inl (K 0, 80, .inl fP))] U.heap ∧ va_D (fun _ => True) [(oM, .inr (5, [.ref aS, .ref aA, .ref aB, .int (nI kn), .ref aT, .ref aV, .ref aP, .int (nI ln), .int pl, .int wr, .int le, .int on, .int tw])), (aS, .inl (K 0, 360, .inl fS)), (aA, .inl (K 0, 360, .inl fA)), (aB, .inl (K 0, 2160, .inl fB)), (aT, .inl (K 0, 720, .inl fT)), (aV, .inl (K 2, 2, .inl fV)), (aP, .inl (K 0, 80, .inl fP))])) (va_Qv (fun (_ : Unit) => True) (fun _ t => va_P D vwCl [(oM, .inr (5, [.ref aS, .ref aA, .ref aB, .int (nI (knK kn)), .ref aT, .ref aV, .ref aP, .int (nI ln), .int pl, .int wr, .int le, .int on, .int tw])), (aS, .inl (K 0, 360, .inl fS)), (aA, .inl (K 0, 360, .inl fA)), (aB, .inl (K 0, 2160, .inl (knB fB fS kn))), (aT, .inl (K 0, 720, .inl fT)), (aV, .inl (K 2, 2, .inl fV)), (aP, .inl (K 0, 80, .inl fP))] t.heap) (inW [(oM, .inr (5, [.ref aS, .ref aA, .ref aB, .int (nI kn), .ref aT, .ref aV, .ref aP, .int (nI ln), .int pl, .int wr, .int le, .int on, .int tw])), (aS, .inl (K 0, 360, .inl fS)), (aA, .inl (K 0, 360, .inl fA)), (aB, .inl (K 0, 2160, .inl fB)), (aT, .inl (K 0, 720, .inl fT)), (aV, .inl (K 2, 2, .inl fV)), (aP, .inl (K 0, 80, .inl fP))])) 0 0 (inW [(oM, .inr (5, [.ref aS, .ref aA, .ref aB, .int (nI kn), .ref aT, .ref aV, .ref aP, .int (nI ln), .int pl, .int wr, .int le, .int on, .int tw])), (aS, .inl (K 0, 360, .inl fS)), (aA, .inl (K 0, 360, .inl fA)), (aB, .inl (K 0, 2160, .inl fB)), (aT, .inl (K 0, 720, .inl fT)), (aV, .inl (K 2, 2, .inl fV)), (aP, .inl (K 0, 80, .inl fP))]) := by
  by_cases h : kn < 6
  · unfold knB knK
    rw [if_pos h, if_pos h]
    exact c_X5_know_lt l D K oM aS aA aB aT aV aP fS fA fB fT fV fP kn ln pl wr le on tw h
  · have e : kn = 6 := by omega
    subst e
    exact c_X5_know_6 l D K oM aS aA aB aT aV aP fS fA fB fT fV fP ln pl wr le on tw
