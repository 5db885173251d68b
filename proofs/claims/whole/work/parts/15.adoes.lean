def r_X5_does (fS : Nat → Int32) (le : Int32) (on : Int32) (tw : Int32) (n : Nat) : Int32 := (if le = 119 then (if on < 0 ∨ (nI n) ≤ on then 0 else (if (r_X5_writeFault_in fS (pn on) tw) = 0 then 1 else 0)) else (if le = 114 then (if on < 0 ∨ (nI n) ≤ on then 0 else 1) else (if le = 120 then (if on = 0 then (if tw < 0 ∨ (nI n) ≤ tw then 0 else 1) else (if tw < 0 ∨ (nI n) ≤ tw then 0 else 1)) else 1)))
theorem z_r_X5_does {fS : Nat → Int32} {le : Int32} {on : Int32} {tw : Int32} {n : Nat} : narrow .boolean (.int (r_X5_does fS le on tw n)) = .int (r_X5_does fS le on tw n) := by
  unfold r_X5_does
  repeat' split
  all_goals first | with_reducible exact zl0 | with_reducible exact zl1
def n_X5_does_1 (fS : Nat → Int32) (le : Int32) (on : Int32) (tw : Int32) (n : Nat) : Nat → Int32 := (if le = 119 then (if on < 0 ∨ (nI n) ≤ on then fS else (if (r_X5_writeFault_in fS (pn on) tw) = 0 then (wrF fS (pn on) (nxP (pn on) n) tw) else fS)) else (if le = 114 then (if on < 0 ∨ (nI n) ≤ on then fS else (n_X5_reads_1 fS (pn on))) else (if le = 120 then (if on = 0 then (if tw < 0 ∨ (nI n) ≤ tw then fS else (upd fS (40 + 160 * 0 + 5 * (pn tw) + 0) 0)) else (if tw < 0 ∨ (nI n) ≤ tw then fS else (upd fS (40 + 160 * 1 + 5 * (pn tw) + 0) 0))) else (if le = 33 then (if on = 0 then (upd fS (1 + 0) tw) else (upd fS (1 + 1) tw)) else (scI fS n)))))
set_option maxHeartbeats 4000000 in
set_option maxRecDepth 100000 in
theorem c_X5_does (l : Launch) (D : va_G) (K : Nat → ClassId) (oM : Nat) (aS : Nat) (aA : Nat) (aB : Nat) (aT : Nat) (aV : Nat) (aP : Nat) (fS : Nat → Int32) (fA : Nat → Int32) (fB : Nat → Int32) (fT : Nat → Int32) (fV : Nat → Int32) (fP : Nat → Int32) (kn : Nat) (ln : Nat) (po : Nat) (wz : Nat) (le : Int32) (on : Int32) (tw : Int32) (n : Nat) (hs0 : fS 0 = nI n) (hn1 : 1 ≤ n) (hn : n ≤ 32) (ho : le = 33 ∨ le = 120 → on = 0 ∨ on = 1) : Met l yX5_does wsX5_does ({ frames := 7, cells := 0, slots := 0, locals := 155 }) (va_Pc [.ref oM] (fun U => Bd D K U ∧ va_P D vwCl [(oM, .inr (5, [.ref aS, .ref aA, .ref aB, .int (nI kn), .ref aT, .ref aV, .ref aP, .int (nI ln), .int (nI po), .int (nI wz), .int le, .int on, .int tw])), (aS, .inl (K 0, 360, .inl fS)), (aA, .inl (K 0, 360, .inl fA)), (aB, .inl (K 0, 2160, .inl fB)), (aT, .inl (K 0, 720, .inl fT)), (aV, .inl (K 2, 2, .inl fV)), (aP, .inl (K 0, 80, .inl fP))] U.heap ∧ va_D (fun _ => True) [(oM, .inr (5, [.ref aS, .ref aA, .ref aB, .int (nI kn), .ref aT, .ref aV, .ref aP, .int (nI ln), .int (nI po), .int (nI wz), .int le, .int on, .int tw])), (aS, .inl (K 0, 360, .inl fS)), (aA, .inl (K 0, 360, .inl fA)), (aB, .inl (K 0, 2160, .inl fB)), (aT, .inl (K 0, 720, .inl fT)), (aV, .inl (K 2, 2, .inl fV)), (aP, .inl (K 0, 80, .inl fP))])) (va_Qi (fun r (_ : Unit) => r = (r_X5_does fS le on tw n)) (fun _ t => va_P D vwCl [(oM, .inr (5, [.ref aS, .ref aA, .ref aB, .int (nI kn), .ref aT, .ref aV, .ref aP, .int (nI ln), .int (nI po), .int (nI wz), .int le, .int on, .int tw])), (aS, .inl (K 0, 360, .inl (n_X5_does_1 fS le on tw n))), (aA, .inl (K 0, 360, .inl fA)), (aB, .inl (K 0, 2160, .inl fB)), (aT, .inl (K 0, 720, .inl fT)), (aV, .inl (K 2, 2, .inl fV)), (aP, .inl (K 0, 80, .inl fP))] t.heap) (inW [(oM, .inr (5, [.ref aS, .ref aA, .ref aB, .int (nI kn), .ref aT, .ref aV, .ref aP, .int (nI ln), .int (nI po), .int (nI wz), .int le, .int on, .int tw])), (aS, .inl (K 0, 360, .inl fS)), (aA, .inl (K 0, 360, .inl fA)), (aB, .inl (K 0, 2160, .inl fB)), (aT, .inl (K 0, 720, .inl fT)), (aV, .inl (K 2, 2, .inl fV)), (aP, .inl (K 0, 80, .inl fP))])) 0 0 (inW [(oM, .inr (5, [.ref aS, .ref aA, .ref aB, .int (nI kn), .ref aT, .ref aV, .ref aP, .int (nI ln), .int (nI po), .int (nI wz), .int le, .int on, .int tw])), (aS, .inl (K 0, 360, .inl fS)), (aA, .inl (K 0, 360, .inl fA)), (aB, .inl (K 0, 2160, .inl fB)), (aT, .inl (K 0, 720, .inl fT)), (aV, .inl (K 2, 2, .inl fV)), (aP, .inl (K 0, 80, .inl fP))]) := by
  refine Met.ofW (cc := cX5_does) (maxL := 4) (ret := (some .boolean)) (by decide) rfl ?_
  intro p e s m args below meth c s₁ B hml hv
  obtain ⟨rfl, hbd, hP, hD0⟩ := hv
  have hx := B.exec
  have hb := B.bytes
  have hr := B.returns
  have hts := atoms_spec (ws := wsX5_does) B.pre
  have hown : s.vm.findClass RX5 = some m.cls := findClass_of_methodNamed B.named
  have hlocks := B.notSynchronized
  have hK := hbd.2
  have hP : va_P D vwCl [(oM, .inr (5, [.ref aS, .ref aA, .ref aB, .int (nI kn), .ref aT, .ref aV, .ref aP, .int (nI ln), .int (nI po), .int (nI wz), .int le, .int on, .int tw])), (aS, .inl (K 0, 360, .inl fS)), (aA, .inl (K 0, 360, .inl fA)), (aB, .inl (K 0, 2160, .inl fB)), (aT, .inl (K 0, 720, .inl fT)), (aV, .inl (K 2, 2, .inl fV)), (aP, .inl (K 0, 80, .inl fP))] s.heap := hP
  have hin5 : ∀ w ∈ wsX50, w ∈ wsX5_does := by decide +kernel
  have hD := hD0.own
  generalize hAe : inW [(oM, .inr (5, [.ref aS, .ref aA, .ref aB, .int (nI kn), .ref aT, .ref aV, .ref aP, .int (nI ln), .int (nI po), .int (nI wz), .int le, .int on, .int tw])), (aS, .inl (K 0, 360, .inl fS)), (aA, .inl (K 0, 360, .inl fA)), (aB, .inl (K 0, 2160, .inl fB)), (aT, .inl (K 0, 720, .inl fT)), (aV, .inl (K 2, 2, .inl fV)), (aP, .inl (K 0, 80, .inl fP))] = A at hD ⊢
  have hS : va_S A s.heap s.heap [] := va_S.rf
  have hl := lv_entry ([.ref oM]) (n := 4) (Nat.le_of_ble_eq_true rfl)
  rw [lg_entry_eq]
  generalize (lg_sl ([.ref oM]) ++ List.replicate (4 - (lg_sl ([.ref oM])).length) Slot.unset).toArray = ls at hl ⊢
  have hl : lv_has ls 4 [(0, .ref oM)] := hl
  have K0 : ∀ (H : Heap) (locs : List Loc) (ls : Array Slot), va_P D vwCl [(oM, .inr (5, [.ref aS, .ref aA, .ref aB, .int (nI kn), .ref aT, .ref aV, .ref aP, .int (nI ln), .int (nI po), .int (nI wz), .int le, .int on, .int tw])), (aS, .inl (K 0, 360, .inl fS)), (aA, .inl (K 0, 360, .inl fA)), (aB, .inl (K 0, 2160, .inl fB)), (aT, .inl (K 0, 720, .inl fT)), (aV, .inl (K 2, 2, .inl fV)), (aP, .inl (K 0, 80, .inl fP))] H → va_D A [(oM, .inr (5, [.ref aS, .ref aA, .ref aB, .int (nI kn), .ref aT, .ref aV, .ref aP, .int (nI ln), .int (nI po), .int (nI wz), .int le, .int on, .int tw])), (aS, .inl (K 0, 360, .inl fS)), (aA, .inl (K 0, 360, .inl fA)), (aB, .inl (K 0, 2160, .inl fB)), (aT, .inl (K 0, 720, .inl fT)), (aV, .inl (K 2, 2, .inl fV)), (aP, .inl (K 0, 80, .inl fP))] → va_S A s.heap H locs → lv_has ls 4 [(0, .ref oM)] → W p l e (headSpec wsX5_does ({ frames := 7, cells := 0, slots := 0, locals := 155 })).room s m ([.ref oM] : List Value).toArray below meth c H locs 0 0 (MQ below (va_Qi (fun r (_ : Unit) => r = (r_X5_does fS le on tw n)) (fun _ t => va_P D vwCl [(oM, .inr (5, [.ref aS, .ref aA, .ref aB, .int (nI kn), .ref aT, .ref aV, .ref aP, .int (nI ln), .int (nI po), .int (nI wz), .int le, .int on, .int tw])), (aS, .inl (K 0, 360, .inl (n_X5_does_1 fS le on tw n))), (aA, .inl (K 0, 360, .inl fA)), (aB, .inl (K 0, 2160, .inl fB)), (aT, .inl (K 0, 720, .inl fT)), (aV, .inl (K 2, 2, .inl fV)), (aP, .inl (K 0, 80, .inl fP))] t.heap) A) ([.ref oM] : List Value).toArray s 0 0 A) (F0 m 0 ls []) := by
    intro H locs ls hP hD hS hl
    refine lv_aload_n hx hb dX5_does_0 rfl (lv_at hl 0 rfl) ?_
    refine va_get (D := D) (ci := 5) (v := .int le) (C := RX5) (T := TX5) (N := 13) hx hb hts hin5 hown hK hP 0 rfl rfl 10 (by decide) (hts _ (List.mem_of_getElem? (i := 1) rfl)) (fun _ h9 => h9) rfl dX5_does_1 ?_
    refine lv_istore_n (lv' := [(1, .int le), (0, .ref oM)]) hx hb dX5_does_4 rfl hl (by decide) rfl (fun ls hl => ?_)
    refine lv_iload_n hx hb dX5_does_5 rfl (lv_at hl 0 rfl) ?_
    refine lv_bipush (v := 119) hx hb dX5_does_6 (by decide) ?_
    refine lv_icmp_ne (tgt := 26) hx hb dX5_does_8 (by decide) (fun c_1 => ?_) (fun c_1 => ?_)
    · skip
      refine lv_iload_n hx hb dX5_does_26 rfl (lv_at hl 0 rfl) ?_
      refine lv_bipush (v := 114) hx hb dX5_does_27 (by decide) ?_
      refine lv_icmp_ne (tgt := 51) hx hb dX5_does_29 (by decide) (fun c_2 => ?_) (fun c_2 => ?_)
      · skip
        refine lv_iload_n hx hb dX5_does_51 rfl (lv_at hl 0 rfl) ?_
        refine lv_bipush (v := 120) hx hb dX5_does_52 (by decide) ?_
        refine lv_icmp_ne (tgt := 72) hx hb dX5_does_54 (by decide) (fun c_3 => ?_) (fun c_3 => ?_)
        · skip
          refine lv_iconst (v := 0) hx hb dX5_does_72 (by decide) ?_
          refine lv_istore_n (lv' := [(2, .int 0), (1, .int le), (0, .ref oM)]) hx hb dX5_does_73 rfl hl (by decide) rfl (fun ls hl => ?_)
          refine lv_iload_n hx hb dX5_does_74 rfl (lv_at hl 0 rfl) ?_
          refine lv_if_ne (tgt := 163) hx hb dX5_does_75 (by decide) (fun h_4 => absurd (by decide) h_4) (fun _ => ?_)
          refine lv_iload_n hx hb dX5_does_78 rfl (lv_at hl 1 rfl) ?_
          refine lv_bipush (v := 119) hx hb dX5_does_79 (by decide) ?_
          refine lv_icmp_ne (tgt := 99) hx hb dX5_does_81 (by decide) (fun _ => ?_) (fun h_5 => absurd h_5 c_1)
          refine lv_iload_n hx hb dX5_does_99 rfl (lv_at hl 1 rfl) ?_
          refine lv_bipush (v := 114) hx hb dX5_does_100 (by decide) ?_
          refine lv_icmp_ne (tgt := 116) hx hb dX5_does_102 (by decide) (fun _ => ?_) (fun h_6 => absurd h_6 c_2)
          refine lv_iload_n hx hb dX5_does_116 rfl (lv_at hl 1 rfl) ?_
          refine lv_bipush (v := 33) hx hb dX5_does_117 (by decide) ?_
          refine lv_icmp_ne (tgt := 137) hx hb dX5_does_119 (by decide) (fun c_7 => ?_) (fun c_7 => ?_)
          · skip
            refine lv_iload_n hx hb dX5_does_137 rfl (lv_at hl 1 rfl) ?_
            refine lv_bipush (v := 120) hx hb dX5_does_138 (by decide) ?_
            refine lv_icmp_ne (tgt := 158) hx hb dX5_does_140 (by decide) (fun _ => ?_) (fun h_8 => absurd h_8 c_3)
            refine lv_aload_n hx hb dX5_does_158 rfl (lv_at hl 2 rfl) ?_
            have hPc := hP.sub (ws' := [(oM, .inr (5, [.ref aS, .ref aA, .ref aB, .int (nI kn), .ref aT, .ref aV, .ref aP, .int (nI ln), .int (nI po), .int (nI wz), .int le, .int on, .int tw])), (aS, .inl (K 0, 360, .inl fS)), (aA, .inl (K 0, 360, .inl fA)), (aB, .inl (K 0, 2160, .inl fB)), (aT, .inl (K 0, 720, .inl fT)), (aV, .inl (K 2, 2, .inl fV)), (aP, .inl (K 0, 80, .inl fP))]) [0, 1, 2, 3, 4, 5, 6] rfl
            have hDc : va_D (fun _ => True) [(oM, .inr (5, [.ref aS, .ref aA, .ref aB, .int (nI kn), .ref aT, .ref aV, .ref aP, .int (nI ln), .int (nI po), .int (nI wz), .int le, .int on, .int tw])), (aS, .inl (K 0, 360, .inl fS)), (aA, .inl (K 0, 360, .inl fA)), (aB, .inl (K 0, 2160, .inl fB)), (aT, .inl (K 0, 720, .inl fT)), (aV, .inl (K 2, 2, .inl fV)), (aP, .inl (K 0, 80, .inl fP))] := (hD.sub (ws' := [(oM, .inr (5, [.ref aS, .ref aA, .ref aB, .int (nI kn), .ref aT, .ref aV, .ref aP, .int (nI ln), .int (nI po), .int (nI wz), .int le, .int on, .int tw])), (aS, .inl (K 0, 360, .inl fS)), (aA, .inl (K 0, 360, .inl fA)), (aB, .inl (K 0, 2160, .inl fB)), (aT, .inl (K 0, 720, .inl fT)), (aV, .inl (K 2, 2, .inl fV)), (aP, .inl (K 0, 80, .inl fP))]) [0, 1, 2, 3, 4, 5, 6] (by decide +kernel) rfl).weaken (fun _ _ _ _ => trivial)
            refine kw_i (W1 := [(oM, .inr (5, [.ref aS, .ref aA, .ref aB, .int (nI kn), .ref aT, .ref aV, .ref aP, .int (nI ln), .int (nI po), .int (nI wz), .int le, .int on, .int tw])), (aS, .inl (K 0, 360, .inl (scI fS n))), (aA, .inl (K 0, 360, .inl fA)), (aB, .inl (K 0, 2160, .inl fB)), (aT, .inl (K 0, 720, .inl fT)), (aV, .inl (K 2, 2, .inl fV)), (aP, .inl (K 0, 80, .inl fP))]) (w1 := [(oM, .inr (5, [.ref aS, .ref aA, .ref aB, .int (nI kn), .ref aT, .ref aV, .ref aP, .int (nI ln), .int (nI po), .int (nI wz), .int le, .int on, .int tw])), (aS, .inl (K 0, 360, .inl (scI fS n))), (aA, .inl (K 0, 360, .inl fA)), (aB, .inl (K 0, 2160, .inl fB)), (aT, .inl (K 0, 720, .inl fT)), (aV, .inl (K 2, 2, .inl fV)), (aP, .inl (K 0, 80, .inl fP))]) (va_runV (As := []) (rest := []) ⟨hx, hb, hml, hown, hts⟩ (c_X5_scrubs l D K oM aS aA aB aT aV aP fS fA fB fT fV fP kn ln (nI po) (nI wz) le on tw n hs0 hn1 hn) (cwV 0 hts gX5_does_X5_scrubs rfl rfl rfl (by decide +kernel) ⟨Nat.le_of_ble_eq_true rfl, Nat.le_of_ble_eq_true rfl⟩) (pre_wr hbd hPc hDc (ci := 5) (q0 := 0) rfl rfl) rfl rfl hl.1 rfl (lv_room (Nat.le_of_ble_eq_true rfl)) dX5_does_159 ⟨Nat.zero_le _, Nat.zero_le _⟩) hP hD hS [0, 1, 2, 3, 4, 5, 6] [] 7 rfl rfl rfl (Eq.trans (b := List.map some ([])) rfl rfl) (by decide +kernel) (by decide +kernel) (by simp only [List.map_append, drW_fst, List.map_cons, List.map_nil]) (fun r_9 H locs hr_9 hP hD hS => ?_)
            refine st1 hr_9 ?_
            refine lv_istore_n (lv' := [(3, .int (scN fS n)), (2, .int 0), (1, .int le), (0, .ref oM)]) hx hb dX5_does_162 rfl hl (by decide) rfl (fun ls hl => ?_)
            refine lv_iload_n hx hb dX5_does_163 rfl (lv_at hl 1 rfl) ?_
            refine lv_if_ne (tgt := 171) hx hb dX5_does_164 (by decide) (fun h_10 => absurd (by decide) h_10) (fun _ => ?_)
            refine lv_iconst (v := 1) hx hb dX5_does_167 (by decide) ?_
            refine lv_goto (tgt := 172) hx hb dX5_does_168 (by decide) ?_
            have e_11 : n_X5_does_1 fS le on tw n = (scI fS n) := by unfold n_X5_does_1; rw [if_neg c_1, if_neg c_2, if_neg c_3, if_neg c_7]
            have hPf : va_P D vwCl [(oM, .inr (5, [.ref aS, .ref aA, .ref aB, .int (nI kn), .ref aT, .ref aV, .ref aP, .int (nI ln), .int (nI po), .int (nI wz), .int le, .int on, .int tw])), (aS, .inl (K 0, 360, .inl (n_X5_does_1 fS le on tw n))), (aA, .inl (K 0, 360, .inl fA)), (aB, .inl (K 0, 2160, .inl fB)), (aT, .inl (K 0, 720, .inl fT)), (aV, .inl (K 2, 2, .inl fV)), (aP, .inl (K 0, 80, .inl fP))] H := (by rw [e_11]; exact hP)
            exact W.zret hx hb hr rfl (fun t ht hW => ⟨⟨_, (), rfl, (by unfold r_X5_does; rw [if_neg c_1, if_neg c_2, if_neg c_3]), by show va_P D vwCl _ t.heap; rw [ht]; exact hPf⟩, hS.F ht⟩) hS.2.2 dX5_does_172
          · skip
            refine lv_aload_n hx hb dX5_does_122 rfl (lv_at hl 2 rfl) ?_
            refine lv_aload_n hx hb dX5_does_123 rfl (lv_at hl 2 rfl) ?_
            refine va_get (D := D) (ci := 5) (v := .int on) (C := RX5) (T := TX5) (N := 13) hx hb hts hin5 hown hK hP 0 rfl rfl 11 (by decide) (hts _ (List.mem_of_getElem? (i := 2) rfl)) (fun _ h9 => h9) rfl dX5_does_124 ?_
            refine lv_aload_n hx hb dX5_does_127 rfl (lv_at hl 2 rfl) ?_
            refine va_get (D := D) (ci := 5) (v := .int tw) (C := RX5) (T := TX5) (N := 13) hx hb hts hin5 hown hK hP 0 rfl rfl 12 (by decide) (hts _ (List.mem_of_getElem? (i := 3) rfl)) (fun _ h9 => h9) rfl dX5_does_128 ?_
            refine byc (P := on = 0) (fun c_12 => ?_) (fun c_12 => ?_)
            · refine st2 (y := 0) c_12 ?_
              have hPc := hP.sub (ws' := [(oM, .inr (5, [.ref aS, .ref aA, .ref aB, .int (nI kn), .ref aT, .ref aV, .ref aP, .int (nI ln), .int (nI po), .int (nI wz), .int le, .int on, .int tw])), (aS, .inl (K 0, 360, .inl fS)), (aA, .inl (K 0, 360, .inl fA)), (aB, .inl (K 0, 2160, .inl fB)), (aT, .inl (K 0, 720, .inl fT)), (aV, .inl (K 2, 2, .inl fV)), (aP, .inl (K 0, 80, .inl fP))]) [0, 1, 2, 3, 4, 5, 6] rfl
              have hDc : va_D (fun _ => True) [(oM, .inr (5, [.ref aS, .ref aA, .ref aB, .int (nI kn), .ref aT, .ref aV, .ref aP, .int (nI ln), .int (nI po), .int (nI wz), .int le, .int on, .int tw])), (aS, .inl (K 0, 360, .inl fS)), (aA, .inl (K 0, 360, .inl fA)), (aB, .inl (K 0, 2160, .inl fB)), (aT, .inl (K 0, 720, .inl fT)), (aV, .inl (K 2, 2, .inl fV)), (aP, .inl (K 0, 80, .inl fP))] := (hD.sub (ws' := [(oM, .inr (5, [.ref aS, .ref aA, .ref aB, .int (nI kn), .ref aT, .ref aV, .ref aP, .int (nI ln), .int (nI po), .int (nI wz), .int le, .int on, .int tw])), (aS, .inl (K 0, 360, .inl fS)), (aA, .inl (K 0, 360, .inl fA)), (aB, .inl (K 0, 2160, .inl fB)), (aT, .inl (K 0, 720, .inl fT)), (aV, .inl (K 2, 2, .inl fV)), (aP, .inl (K 0, 80, .inl fP))]) [0, 1, 2, 3, 4, 5, 6] (by decide +kernel) rfl).weaken (fun _ _ _ _ => trivial)
              refine kw_i (W1 := [(oM, .inr (5, [.ref aS, .ref aA, .ref aB, .int (nI kn), .ref aT, .ref aV, .ref aP, .int (nI ln), .int (nI po), .int (nI wz), .int le, .int on, .int tw])), (aS, .inl (K 0, 360, .inl (upd fS (1 + 0) tw))), (aA, .inl (K 0, 360, .inl fA)), (aB, .inl (K 0, 2160, .inl fB)), (aT, .inl (K 0, 720, .inl fT)), (aV, .inl (K 2, 2, .inl fV)), (aP, .inl (K 0, 80, .inl fP))]) (w1 := [(oM, .inr (5, [.ref aS, .ref aA, .ref aB, .int (nI kn), .ref aT, .ref aV, .ref aP, .int (nI ln), .int (nI po), .int (nI wz), .int le, .int on, .int tw])), (aS, .inl (K 0, 360, .inl (upd fS (1 + 0) tw))), (aA, .inl (K 0, 360, .inl fA)), (aB, .inl (K 0, 2160, .inl fB)), (aT, .inl (K 0, 720, .inl fT)), (aV, .inl (K 2, 2, .inl fV)), (aP, .inl (K 0, 80, .inl fP))]) (va_runV (As := [.int 0, .int tw]) (rest := []) ⟨hx, hb, hml, hown, hts⟩ (c_X5_awaits l D K oM aS aA aB aT aV aP fS fA fB fT fV fP kn ln (nI po) (nI wz) le on tw 0 tw (by decide)) (cwV 2 hts gX5_does_X5_awaits rfl rfl rfl (by decide +kernel) ⟨Nat.le_of_ble_eq_true rfl, Nat.le_of_ble_eq_true rfl⟩) (pre_wr hbd hPc hDc (ci := 5) (q0 := 0) rfl rfl) rfl rfl hl.1 rfl (lv_room (Nat.le_of_ble_eq_true rfl)) dX5_does_131 ⟨Nat.zero_le _, Nat.zero_le _⟩) hP hD hS [0, 1, 2, 3, 4, 5, 6] [] 7 rfl rfl rfl (Eq.trans (b := List.map some ([])) rfl rfl) (by decide +kernel) (by decide +kernel) (by simp only [List.map_append, drW_fst, List.map_cons, List.map_nil]) (fun r_13 H locs hr_13 hP hD hS => ?_)
              refine st1 hr_13 ?_
              refine lv_goto (tgt := 162) hx hb dX5_does_134 (by decide) ?_
              refine lv_istore_n (lv' := [(3, .int (fS (1 + 0))), (2, .int 0), (1, .int le), (0, .ref oM)]) hx hb dX5_does_162 rfl hl (by decide) rfl (fun ls hl => ?_)
              refine lv_iload_n hx hb dX5_does_163 rfl (lv_at hl 1 rfl) ?_
              refine lv_if_ne (tgt := 171) hx hb dX5_does_164 (by decide) (fun h_14 => absurd (by decide) h_14) (fun _ => ?_)
              refine lv_iconst (v := 1) hx hb dX5_does_167 (by decide) ?_
              refine lv_goto (tgt := 172) hx hb dX5_does_168 (by decide) ?_
              have e_15 : n_X5_does_1 fS le on tw n = (upd fS (1 + 0) tw) := by unfold n_X5_does_1; rw [if_neg c_1, if_neg c_2, if_neg c_3, if_pos c_7, if_pos c_12]
              have hPf : va_P D vwCl [(oM, .inr (5, [.ref aS, .ref aA, .ref aB, .int (nI kn), .ref aT, .ref aV, .ref aP, .int (nI ln), .int (nI po), .int (nI wz), .int le, .int on, .int tw])), (aS, .inl (K 0, 360, .inl (n_X5_does_1 fS le on tw n))), (aA, .inl (K 0, 360, .inl fA)), (aB, .inl (K 0, 2160, .inl fB)), (aT, .inl (K 0, 720, .inl fT)), (aV, .inl (K 2, 2, .inl fV)), (aP, .inl (K 0, 80, .inl fP))] H := (by rw [e_15]; exact hP)
              exact W.zret hx hb hr rfl (fun t ht hW => ⟨⟨_, (), rfl, (by unfold r_X5_does; rw [if_neg c_1, if_neg c_2, if_neg c_3]), by show va_P D vwCl _ t.heap; rw [ht]; exact hPf⟩, hS.F ht⟩) hS.2.2 dX5_does_172
            · refine st2 (y := 1) ((ho (Or.inl c_7)).resolve_left c_12) ?_
              have hPc := hP.sub (ws' := [(oM, .inr (5, [.ref aS, .ref aA, .ref aB, .int (nI kn), .ref aT, .ref aV, .ref aP, .int (nI ln), .int (nI po), .int (nI wz), .int le, .int on, .int tw])), (aS, .inl (K 0, 360, .inl fS)), (aA, .inl (K 0, 360, .inl fA)), (aB, .inl (K 0, 2160, .inl fB)), (aT, .inl (K 0, 720, .inl fT)), (aV, .inl (K 2, 2, .inl fV)), (aP, .inl (K 0, 80, .inl fP))]) [0, 1, 2, 3, 4, 5, 6] rfl
              have hDc : va_D (fun _ => True) [(oM, .inr (5, [.ref aS, .ref aA, .ref aB, .int (nI kn), .ref aT, .ref aV, .ref aP, .int (nI ln), .int (nI po), .int (nI wz), .int le, .int on, .int tw])), (aS, .inl (K 0, 360, .inl fS)), (aA, .inl (K 0, 360, .inl fA)), (aB, .inl (K 0, 2160, .inl fB)), (aT, .inl (K 0, 720, .inl fT)), (aV, .inl (K 2, 2, .inl fV)), (aP, .inl (K 0, 80, .inl fP))] := (hD.sub (ws' := [(oM, .inr (5, [.ref aS, .ref aA, .ref aB, .int (nI kn), .ref aT, .ref aV, .ref aP, .int (nI ln), .int (nI po), .int (nI wz), .int le, .int on, .int tw])), (aS, .inl (K 0, 360, .inl fS)), (aA, .inl (K 0, 360, .inl fA)), (aB, .inl (K 0, 2160, .inl fB)), (aT, .inl (K 0, 720, .inl fT)), (aV, .inl (K 2, 2, .inl fV)), (aP, .inl (K 0, 80, .inl fP))]) [0, 1, 2, 3, 4, 5, 6] (by decide +kernel) rfl).weaken (fun _ _ _ _ => trivial)
              refine kw_i (W1 := [(oM, .inr (5, [.ref aS, .ref aA, .ref aB, .int (nI kn), .ref aT, .ref aV, .ref aP, .int (nI ln), .int (nI po), .int (nI wz), .int le, .int on, .int tw])), (aS, .inl (K 0, 360, .inl (upd fS (1 + 1) tw))), (aA, .inl (K 0, 360, .inl fA)), (aB, .inl (K 0, 2160, .inl fB)), (aT, .inl (K 0, 720, .inl fT)), (aV, .inl (K 2, 2, .inl fV)), (aP, .inl (K 0, 80, .inl fP))]) (w1 := [(oM, .inr (5, [.ref aS, .ref aA, .ref aB, .int (nI kn), .ref aT, .ref aV, .ref aP, .int (nI ln), .int (nI po), .int (nI wz), .int le, .int on, .int tw])), (aS, .inl (K 0, 360, .inl (upd fS (1 + 1) tw))), (aA, .inl (K 0, 360, .inl fA)), (aB, .inl (K 0, 2160, .inl fB)), (aT, .inl (K 0, 720, .inl fT)), (aV, .inl (K 2, 2, .inl fV)), (aP, .inl (K 0, 80, .inl fP))]) (va_runV (As := [.int 1, .int tw]) (rest := []) ⟨hx, hb, hml, hown, hts⟩ (c_X5_awaits l D K oM aS aA aB aT aV aP fS fA fB fT fV fP kn ln (nI po) (nI wz) le on tw 1 tw (by decide)) (cwV 2 hts gX5_does_X5_awaits rfl rfl rfl (by decide +kernel) ⟨Nat.le_of_ble_eq_true rfl, Nat.le_of_ble_eq_true rfl⟩) (pre_wr hbd hPc hDc (ci := 5) (q0 := 0) rfl rfl) rfl rfl hl.1 rfl (lv_room (Nat.le_of_ble_eq_true rfl)) dX5_does_131 ⟨Nat.zero_le _, Nat.zero_le _⟩) hP hD hS [0, 1, 2, 3, 4, 5, 6] [] 7 rfl rfl rfl (Eq.trans (b := List.map some ([])) rfl rfl) (by decide +kernel) (by decide +kernel) (by simp only [List.map_append, drW_fst, List.map_cons, List.map_nil]) (fun r_16 H locs hr_16 hP hD hS => ?_)
              refine st1 hr_16 ?_
              refine lv_goto (tgt := 162) hx hb dX5_does_134 (by decide) ?_
              refine lv_istore_n (lv' := [(3, .int (fS (1 + 1))), (2, .int 0), (1, .int le), (0, .ref oM)]) hx hb dX5_does_162 rfl hl (by decide) rfl (fun ls hl => ?_)
              refine lv_iload_n hx hb dX5_does_163 rfl (lv_at hl 1 rfl) ?_
              refine lv_if_ne (tgt := 171) hx hb dX5_does_164 (by decide) (fun h_17 => absurd (by decide) h_17) (fun _ => ?_)
              refine lv_iconst (v := 1) hx hb dX5_does_167 (by decide) ?_
              refine lv_goto (tgt := 172) hx hb dX5_does_168 (by decide) ?_
              have e_18 : n_X5_does_1 fS le on tw n = (upd fS (1 + 1) tw) := by unfold n_X5_does_1; rw [if_neg c_1, if_neg c_2, if_neg c_3, if_pos c_7, if_neg c_12]
              have hPf : va_P D vwCl [(oM, .inr (5, [.ref aS, .ref aA, .ref aB, .int (nI kn), .ref aT, .ref aV, .ref aP, .int (nI ln), .int (nI po), .int (nI wz), .int le, .int on, .int tw])), (aS, .inl (K 0, 360, .inl (n_X5_does_1 fS le on tw n))), (aA, .inl (K 0, 360, .inl fA)), (aB, .inl (K 0, 2160, .inl fB)), (aT, .inl (K 0, 720, .inl fT)), (aV, .inl (K 2, 2, .inl fV)), (aP, .inl (K 0, 80, .inl fP))] H := (by rw [e_18]; exact hP)
              exact W.zret hx hb hr rfl (fun t ht hW => ⟨⟨_, (), rfl, (by unfold r_X5_does; rw [if_neg c_1, if_neg c_2, if_neg c_3]), by show va_P D vwCl _ t.heap; rw [ht]; exact hPf⟩, hS.F ht⟩) hS.2.2 dX5_does_172
        · skip
          refine lv_aload_n hx hb dX5_does_57 rfl (lv_at hl 1 rfl) ?_
          refine lv_aload_n hx hb dX5_does_58 rfl (lv_at hl 1 rfl) ?_
          refine va_get (D := D) (ci := 5) (v := .int on) (C := RX5) (T := TX5) (N := 13) hx hb hts hin5 hown hK hP 0 rfl rfl 11 (by decide) (hts _ (List.mem_of_getElem? (i := 2) rfl)) (fun _ h9 => h9) rfl dX5_does_59 ?_
          refine lv_aload_n hx hb dX5_does_62 rfl (lv_at hl 1 rfl) ?_
          refine va_get (D := D) (ci := 5) (v := .int tw) (C := RX5) (T := TX5) (N := 13) hx hb hts hin5 hown hK hP 0 rfl rfl 12 (by decide) (hts _ (List.mem_of_getElem? (i := 3) rfl)) (fun _ h9 => h9) rfl dX5_does_63 ?_
          refine byc (P := on = 0) (fun c_19 => ?_) (fun c_19 => ?_)
          · refine st2 (y := 0) c_19 ?_
            refine byc (P := tw < 0 ∨ (nI n) ≤ tw) (fun c_20 => ?_) (fun c_20 => ?_)
            · skip
              have hPc := hP.sub (ws' := [(oM, .inr (5, [.ref aS, .ref aA, .ref aB, .int (nI kn), .ref aT, .ref aV, .ref aP, .int (nI ln), .int (nI po), .int (nI wz), .int le, .int on, .int tw])), (aS, .inl (K 0, 360, .inl fS))]) [0, 1] rfl
              refine vp_callSi (va_Run.run (va_runV (As := [.int 0, .int tw]) (rest := []) ⟨hx, hb, hml, hown, hts⟩ (c_X5_wipeFault_0n l D K oM aS aA aB aT aV aP fS kn ln (nI po) (nI wz) le on tw n tw hs0 hn1 hn c_20) (cwV 2 hts gX5_does_X5_wipeFault rfl rfl rfl (by decide +kernel) ⟨Nat.le_of_ble_eq_true rfl, Nat.le_of_ble_eq_true rfl⟩) (pre_rd hbd hPc (ci := 5) (q0 := 0) rfl rfl) rfl rfl hl.1 rfl (lv_room (Nat.le_of_ble_eq_true rfl)) dX5_does_66 ⟨Nat.zero_le _, Nat.zero_le _⟩)) (fun r_21 hr_21 => ?_)
              refine st1 hr_21 ?_
              refine lv_goto (tgt := 73) hx hb dX5_does_69 (by decide) ?_
              refine lv_istore_n (lv' := [(2, .int (-1)), (1, .int le), (0, .ref oM)]) hx hb dX5_does_73 rfl hl (by decide) rfl (fun ls hl => ?_)
              refine lv_iload_n hx hb dX5_does_74 rfl (lv_at hl 0 rfl) ?_
              refine lv_if_ne (tgt := 163) hx hb dX5_does_75 (by decide) (fun _ => ?_) (fun h_22 => absurd h_22 (by decide))
              refine lv_iload_n hx hb dX5_does_163 rfl (lv_at hl 0 rfl) ?_
              refine lv_if_ne (tgt := 171) hx hb dX5_does_164 (by decide) (fun _ => ?_) (fun h_23 => absurd h_23 (by decide))
              refine lv_iconst (v := 0) hx hb dX5_does_171 (by decide) ?_
              have e_24 : n_X5_does_1 fS le on tw n = fS := by unfold n_X5_does_1; rw [if_neg c_1, if_neg c_2, if_pos c_3, if_pos c_19, if_pos c_20]
              have hPf : va_P D vwCl [(oM, .inr (5, [.ref aS, .ref aA, .ref aB, .int (nI kn), .ref aT, .ref aV, .ref aP, .int (nI ln), .int (nI po), .int (nI wz), .int le, .int on, .int tw])), (aS, .inl (K 0, 360, .inl (n_X5_does_1 fS le on tw n))), (aA, .inl (K 0, 360, .inl fA)), (aB, .inl (K 0, 2160, .inl fB)), (aT, .inl (K 0, 720, .inl fT)), (aV, .inl (K 2, 2, .inl fV)), (aP, .inl (K 0, 80, .inl fP))] H := (by rw [e_24]; exact hP)
              exact W.zret hx hb hr rfl (fun t ht hW => ⟨⟨_, (), rfl, (by unfold r_X5_does; rw [if_neg c_1, if_neg c_2, if_pos c_3, if_pos c_19, if_pos c_20]), by show va_P D vwCl _ t.heap; rw [ht]; exact hPf⟩, hS.F ht⟩) hS.2.2 dX5_does_172
            · refine st1 (pn_e2 c_20) ?_
              have hPc := hP.sub (ws' := [(oM, .inr (5, [.ref aS, .ref aA, .ref aB, .int (nI kn), .ref aT, .ref aV, .ref aP, .int (nI ln), .int (nI po), .int (nI wz), .int le, .int on, .int tw])), (aS, .inl (K 0, 360, .inl fS))]) [0, 1] rfl
              refine vp_callSi (va_Run.run (va_runV (As := [.int 0, .int (nI (pn tw))]) (rest := []) ⟨hx, hb, hml, hown, hts⟩ (c_X5_wipeFault_0 l D K oM aS aA aB aT aV aP fS kn ln (nI po) (nI wz) le on tw n (pn tw) hs0 hn1 hn (pn_lt hn c_20)) (cwV 2 hts gX5_does_X5_wipeFault rfl rfl rfl (by decide +kernel) ⟨Nat.le_of_ble_eq_true rfl, Nat.le_of_ble_eq_true rfl⟩) (pre_rd hbd hPc (ci := 5) (q0 := 0) rfl rfl) rfl rfl hl.1 rfl (lv_room (Nat.le_of_ble_eq_true rfl)) dX5_does_66 ⟨Nat.zero_le _, Nat.zero_le _⟩)) (fun r_25 hr_25 => ?_)
              refine st1 hr_25 ?_
              refine lv_goto (tgt := 73) hx hb dX5_does_69 (by decide) ?_
              refine lv_istore_n (lv' := [(2, .int 0), (1, .int le), (0, .ref oM)]) hx hb dX5_does_73 rfl hl (by decide) rfl (fun ls hl => ?_)
              refine lv_iload_n hx hb dX5_does_74 rfl (lv_at hl 0 rfl) ?_
              refine lv_if_ne (tgt := 163) hx hb dX5_does_75 (by decide) (fun h_26 => absurd (by decide) h_26) (fun _ => ?_)
              refine lv_iload_n hx hb dX5_does_78 rfl (lv_at hl 1 rfl) ?_
              refine lv_bipush (v := 119) hx hb dX5_does_79 (by decide) ?_
              refine lv_icmp_ne (tgt := 99) hx hb dX5_does_81 (by decide) (fun _ => ?_) (fun h_27 => absurd h_27 c_1)
              refine lv_iload_n hx hb dX5_does_99 rfl (lv_at hl 1 rfl) ?_
              refine lv_bipush (v := 114) hx hb dX5_does_100 (by decide) ?_
              refine lv_icmp_ne (tgt := 116) hx hb dX5_does_102 (by decide) (fun _ => ?_) (fun h_28 => absurd h_28 c_2)
              refine lv_iload_n hx hb dX5_does_116 rfl (lv_at hl 1 rfl) ?_
              refine lv_bipush (v := 33) hx hb dX5_does_117 (by decide) ?_
              refine lv_icmp_ne (tgt := 137) hx hb dX5_does_119 (by decide) (fun _ => ?_) (fun h_29 => absurd h_29 (fun h => absurd (c_3.symm.trans h) (by decide)))
              refine lv_iload_n hx hb dX5_does_137 rfl (lv_at hl 1 rfl) ?_
              refine lv_bipush (v := 120) hx hb dX5_does_138 (by decide) ?_
              refine lv_icmp_ne (tgt := 158) hx hb dX5_does_140 (by decide) (fun h_30 => absurd c_3 h_30) (fun _ => ?_)
              refine lv_aload_n hx hb dX5_does_143 rfl (lv_at hl 2 rfl) ?_
              refine lv_aload_n hx hb dX5_does_144 rfl (lv_at hl 2 rfl) ?_
              refine va_get (D := D) (ci := 5) (v := .int on) (C := RX5) (T := TX5) (N := 13) hx hb hts hin5 hown hK hP 0 rfl rfl 11 (by decide) (hts _ (List.mem_of_getElem? (i := 2) rfl)) (fun _ h9 => h9) rfl dX5_does_145 ?_
              refine lv_aload_n hx hb dX5_does_148 rfl (lv_at hl 2 rfl) ?_
              refine va_get (D := D) (ci := 5) (v := .int tw) (C := RX5) (T := TX5) (N := 13) hx hb hts hin5 hown hK hP 0 rfl rfl 12 (by decide) (hts _ (List.mem_of_getElem? (i := 3) rfl)) (fun _ h9 => h9) rfl dX5_does_149 ?_
              refine st2 (y := 0) c_19 ?_
              refine st1 (pn_e2 c_20) ?_
              have hPc := hP.sub (ws' := [(oM, .inr (5, [.ref aS, .ref aA, .ref aB, .int (nI kn), .ref aT, .ref aV, .ref aP, .int (nI ln), .int (nI po), .int (nI wz), .int le, .int on, .int tw])), (aS, .inl (K 0, 360, .inl fS)), (aA, .inl (K 0, 360, .inl fA)), (aB, .inl (K 0, 2160, .inl fB)), (aT, .inl (K 0, 720, .inl fT)), (aV, .inl (K 2, 2, .inl fV)), (aP, .inl (K 0, 80, .inl fP))]) [0, 1, 2, 3, 4, 5, 6] rfl
              have hDc : va_D (fun _ => True) [(oM, .inr (5, [.ref aS, .ref aA, .ref aB, .int (nI kn), .ref aT, .ref aV, .ref aP, .int (nI ln), .int (nI po), .int (nI wz), .int le, .int on, .int tw])), (aS, .inl (K 0, 360, .inl fS)), (aA, .inl (K 0, 360, .inl fA)), (aB, .inl (K 0, 2160, .inl fB)), (aT, .inl (K 0, 720, .inl fT)), (aV, .inl (K 2, 2, .inl fV)), (aP, .inl (K 0, 80, .inl fP))] := (hD.sub (ws' := [(oM, .inr (5, [.ref aS, .ref aA, .ref aB, .int (nI kn), .ref aT, .ref aV, .ref aP, .int (nI ln), .int (nI po), .int (nI wz), .int le, .int on, .int tw])), (aS, .inl (K 0, 360, .inl fS)), (aA, .inl (K 0, 360, .inl fA)), (aB, .inl (K 0, 2160, .inl fB)), (aT, .inl (K 0, 720, .inl fT)), (aV, .inl (K 2, 2, .inl fV)), (aP, .inl (K 0, 80, .inl fP))]) [0, 1, 2, 3, 4, 5, 6] (by decide +kernel) rfl).weaken (fun _ _ _ _ => trivial)
              refine kw_i (W1 := [(oM, .inr (5, [.ref aS, .ref aA, .ref aB, .int (nI kn), .ref aT, .ref aV, .ref aP, .int (nI ln), .int (nI po), .int (nI wz), .int le, .int on, .int tw])), (aS, .inl (K 0, 360, .inl (upd fS (40 + 160 * 0 + 5 * (pn tw) + 0) 0))), (aA, .inl (K 0, 360, .inl fA)), (aB, .inl (K 0, 2160, .inl fB)), (aT, .inl (K 0, 720, .inl fT)), (aV, .inl (K 2, 2, .inl fV)), (aP, .inl (K 0, 80, .inl fP))]) (w1 := [(oM, .inr (5, [.ref aS, .ref aA, .ref aB, .int (nI kn), .ref aT, .ref aV, .ref aP, .int (nI ln), .int (nI po), .int (nI wz), .int le, .int on, .int tw])), (aS, .inl (K 0, 360, .inl (upd fS (40 + 160 * 0 + 5 * (pn tw) + 0) 0))), (aA, .inl (K 0, 360, .inl fA)), (aB, .inl (K 0, 2160, .inl fB)), (aT, .inl (K 0, 720, .inl fT)), (aV, .inl (K 2, 2, .inl fV)), (aP, .inl (K 0, 80, .inl fP))]) (va_runV (As := [.int 0, .int (nI (pn tw))]) (rest := []) ⟨hx, hb, hml, hown, hts⟩ (c_X5_wipes l D K oM aS aA aB aT aV aP fS fA fB fT fV fP kn ln (nI po) (nI wz) le on tw 0 (pn tw) (by decide) (Nat.lt_of_lt_of_le (pn_lt hn c_20) hn)) (cwV 2 hts gX5_does_X5_wipes rfl rfl rfl (by decide +kernel) ⟨Nat.le_of_ble_eq_true rfl, Nat.le_of_ble_eq_true rfl⟩) (pre_wr hbd hPc hDc (ci := 5) (q0 := 0) rfl rfl) rfl rfl hl.1 rfl (lv_room (Nat.le_of_ble_eq_true rfl)) dX5_does_152 ⟨Nat.zero_le _, Nat.zero_le _⟩) hP hD hS [0, 1, 2, 3, 4, 5, 6] [] 7 rfl rfl rfl (Eq.trans (b := List.map some ([])) rfl rfl) (by decide +kernel) (by decide +kernel) (by simp only [List.map_append, drW_fst, List.map_cons, List.map_nil]) (fun r_31 H locs hr_31 hP hD hS => ?_)
              refine st1 hr_31 ?_
              refine lv_goto (tgt := 162) hx hb dX5_does_155 (by decide) ?_
              refine lv_istore_n (lv' := [(3, .int (fS (40 + 160 * 0 + 5 * (pn tw) + 0))), (2, .int 0), (1, .int le), (0, .ref oM)]) hx hb dX5_does_162 rfl hl (by decide) rfl (fun ls hl => ?_)
              refine lv_iload_n hx hb dX5_does_163 rfl (lv_at hl 1 rfl) ?_
              refine lv_if_ne (tgt := 171) hx hb dX5_does_164 (by decide) (fun h_32 => absurd (by decide) h_32) (fun _ => ?_)
              refine lv_iconst (v := 1) hx hb dX5_does_167 (by decide) ?_
              refine lv_goto (tgt := 172) hx hb dX5_does_168 (by decide) ?_
              have e_33 : n_X5_does_1 fS le on tw n = (upd fS (40 + 160 * 0 + 5 * (pn tw) + 0) 0) := by unfold n_X5_does_1; rw [if_neg c_1, if_neg c_2, if_pos c_3, if_pos c_19, if_neg c_20]
              have hPf : va_P D vwCl [(oM, .inr (5, [.ref aS, .ref aA, .ref aB, .int (nI kn), .ref aT, .ref aV, .ref aP, .int (nI ln), .int (nI po), .int (nI wz), .int le, .int on, .int tw])), (aS, .inl (K 0, 360, .inl (n_X5_does_1 fS le on tw n))), (aA, .inl (K 0, 360, .inl fA)), (aB, .inl (K 0, 2160, .inl fB)), (aT, .inl (K 0, 720, .inl fT)), (aV, .inl (K 2, 2, .inl fV)), (aP, .inl (K 0, 80, .inl fP))] H := (by rw [e_33]; exact hP)
              exact W.zret hx hb hr rfl (fun t ht hW => ⟨⟨_, (), rfl, (by unfold r_X5_does; rw [if_neg c_1, if_neg c_2, if_pos c_3, if_pos c_19, if_neg c_20]), by show va_P D vwCl _ t.heap; rw [ht]; exact hPf⟩, hS.F ht⟩) hS.2.2 dX5_does_172
          · refine st2 (y := 1) ((ho (Or.inr c_3)).resolve_left c_19) ?_
            refine byc (P := tw < 0 ∨ (nI n) ≤ tw) (fun c_34 => ?_) (fun c_34 => ?_)
            · skip
              have hPc := hP.sub (ws' := [(oM, .inr (5, [.ref aS, .ref aA, .ref aB, .int (nI kn), .ref aT, .ref aV, .ref aP, .int (nI ln), .int (nI po), .int (nI wz), .int le, .int on, .int tw])), (aS, .inl (K 0, 360, .inl fS))]) [0, 1] rfl
              refine vp_callSi (va_Run.run (va_runV (As := [.int 1, .int tw]) (rest := []) ⟨hx, hb, hml, hown, hts⟩ (c_X5_wipeFault_1n l D K oM aS aA aB aT aV aP fS kn ln (nI po) (nI wz) le on tw n tw hs0 hn1 hn c_34) (cwV 2 hts gX5_does_X5_wipeFault rfl rfl rfl (by decide +kernel) ⟨Nat.le_of_ble_eq_true rfl, Nat.le_of_ble_eq_true rfl⟩) (pre_rd hbd hPc (ci := 5) (q0 := 0) rfl rfl) rfl rfl hl.1 rfl (lv_room (Nat.le_of_ble_eq_true rfl)) dX5_does_66 ⟨Nat.zero_le _, Nat.zero_le _⟩)) (fun r_35 hr_35 => ?_)
              refine st1 hr_35 ?_
              refine lv_goto (tgt := 73) hx hb dX5_does_69 (by decide) ?_
              refine lv_istore_n (lv' := [(2, .int (-1)), (1, .int le), (0, .ref oM)]) hx hb dX5_does_73 rfl hl (by decide) rfl (fun ls hl => ?_)
              refine lv_iload_n hx hb dX5_does_74 rfl (lv_at hl 0 rfl) ?_
              refine lv_if_ne (tgt := 163) hx hb dX5_does_75 (by decide) (fun _ => ?_) (fun h_36 => absurd h_36 (by decide))
              refine lv_iload_n hx hb dX5_does_163 rfl (lv_at hl 0 rfl) ?_
              refine lv_if_ne (tgt := 171) hx hb dX5_does_164 (by decide) (fun _ => ?_) (fun h_37 => absurd h_37 (by decide))
              refine lv_iconst (v := 0) hx hb dX5_does_171 (by decide) ?_
              have e_38 : n_X5_does_1 fS le on tw n = fS := by unfold n_X5_does_1; rw [if_neg c_1, if_neg c_2, if_pos c_3, if_neg c_19, if_pos c_34]
              have hPf : va_P D vwCl [(oM, .inr (5, [.ref aS, .ref aA, .ref aB, .int (nI kn), .ref aT, .ref aV, .ref aP, .int (nI ln), .int (nI po), .int (nI wz), .int le, .int on, .int tw])), (aS, .inl (K 0, 360, .inl (n_X5_does_1 fS le on tw n))), (aA, .inl (K 0, 360, .inl fA)), (aB, .inl (K 0, 2160, .inl fB)), (aT, .inl (K 0, 720, .inl fT)), (aV, .inl (K 2, 2, .inl fV)), (aP, .inl (K 0, 80, .inl fP))] H := (by rw [e_38]; exact hP)
              exact W.zret hx hb hr rfl (fun t ht hW => ⟨⟨_, (), rfl, (by unfold r_X5_does; rw [if_neg c_1, if_neg c_2, if_pos c_3, if_neg c_19, if_pos c_34]), by show va_P D vwCl _ t.heap; rw [ht]; exact hPf⟩, hS.F ht⟩) hS.2.2 dX5_does_172
            · refine st1 (pn_e2 c_34) ?_
              have hPc := hP.sub (ws' := [(oM, .inr (5, [.ref aS, .ref aA, .ref aB, .int (nI kn), .ref aT, .ref aV, .ref aP, .int (nI ln), .int (nI po), .int (nI wz), .int le, .int on, .int tw])), (aS, .inl (K 0, 360, .inl fS))]) [0, 1] rfl
              refine vp_callSi (va_Run.run (va_runV (As := [.int 1, .int (nI (pn tw))]) (rest := []) ⟨hx, hb, hml, hown, hts⟩ (c_X5_wipeFault_1 l D K oM aS aA aB aT aV aP fS kn ln (nI po) (nI wz) le on tw n (pn tw) hs0 hn1 hn (pn_lt hn c_34)) (cwV 2 hts gX5_does_X5_wipeFault rfl rfl rfl (by decide +kernel) ⟨Nat.le_of_ble_eq_true rfl, Nat.le_of_ble_eq_true rfl⟩) (pre_rd hbd hPc (ci := 5) (q0 := 0) rfl rfl) rfl rfl hl.1 rfl (lv_room (Nat.le_of_ble_eq_true rfl)) dX5_does_66 ⟨Nat.zero_le _, Nat.zero_le _⟩)) (fun r_39 hr_39 => ?_)
              refine st1 hr_39 ?_
              refine lv_goto (tgt := 73) hx hb dX5_does_69 (by decide) ?_
              refine lv_istore_n (lv' := [(2, .int 0), (1, .int le), (0, .ref oM)]) hx hb dX5_does_73 rfl hl (by decide) rfl (fun ls hl => ?_)
              refine lv_iload_n hx hb dX5_does_74 rfl (lv_at hl 0 rfl) ?_
              refine lv_if_ne (tgt := 163) hx hb dX5_does_75 (by decide) (fun h_40 => absurd (by decide) h_40) (fun _ => ?_)
              refine lv_iload_n hx hb dX5_does_78 rfl (lv_at hl 1 rfl) ?_
              refine lv_bipush (v := 119) hx hb dX5_does_79 (by decide) ?_
              refine lv_icmp_ne (tgt := 99) hx hb dX5_does_81 (by decide) (fun _ => ?_) (fun h_41 => absurd h_41 c_1)
              refine lv_iload_n hx hb dX5_does_99 rfl (lv_at hl 1 rfl) ?_
              refine lv_bipush (v := 114) hx hb dX5_does_100 (by decide) ?_
              refine lv_icmp_ne (tgt := 116) hx hb dX5_does_102 (by decide) (fun _ => ?_) (fun h_42 => absurd h_42 c_2)
              refine lv_iload_n hx hb dX5_does_116 rfl (lv_at hl 1 rfl) ?_
              refine lv_bipush (v := 33) hx hb dX5_does_117 (by decide) ?_
              refine lv_icmp_ne (tgt := 137) hx hb dX5_does_119 (by decide) (fun _ => ?_) (fun h_43 => absurd h_43 (fun h => absurd (c_3.symm.trans h) (by decide)))
              refine lv_iload_n hx hb dX5_does_137 rfl (lv_at hl 1 rfl) ?_
              refine lv_bipush (v := 120) hx hb dX5_does_138 (by decide) ?_
              refine lv_icmp_ne (tgt := 158) hx hb dX5_does_140 (by decide) (fun h_44 => absurd c_3 h_44) (fun _ => ?_)
              refine lv_aload_n hx hb dX5_does_143 rfl (lv_at hl 2 rfl) ?_
              refine lv_aload_n hx hb dX5_does_144 rfl (lv_at hl 2 rfl) ?_
              refine va_get (D := D) (ci := 5) (v := .int on) (C := RX5) (T := TX5) (N := 13) hx hb hts hin5 hown hK hP 0 rfl rfl 11 (by decide) (hts _ (List.mem_of_getElem? (i := 2) rfl)) (fun _ h9 => h9) rfl dX5_does_145 ?_
              refine lv_aload_n hx hb dX5_does_148 rfl (lv_at hl 2 rfl) ?_
              refine va_get (D := D) (ci := 5) (v := .int tw) (C := RX5) (T := TX5) (N := 13) hx hb hts hin5 hown hK hP 0 rfl rfl 12 (by decide) (hts _ (List.mem_of_getElem? (i := 3) rfl)) (fun _ h9 => h9) rfl dX5_does_149 ?_
              refine st2 (y := 1) ((ho (Or.inr c_3)).resolve_left c_19) ?_
              refine st1 (pn_e2 c_34) ?_
              have hPc := hP.sub (ws' := [(oM, .inr (5, [.ref aS, .ref aA, .ref aB, .int (nI kn), .ref aT, .ref aV, .ref aP, .int (nI ln), .int (nI po), .int (nI wz), .int le, .int on, .int tw])), (aS, .inl (K 0, 360, .inl fS)), (aA, .inl (K 0, 360, .inl fA)), (aB, .inl (K 0, 2160, .inl fB)), (aT, .inl (K 0, 720, .inl fT)), (aV, .inl (K 2, 2, .inl fV)), (aP, .inl (K 0, 80, .inl fP))]) [0, 1, 2, 3, 4, 5, 6] rfl
              have hDc : va_D (fun _ => True) [(oM, .inr (5, [.ref aS, .ref aA, .ref aB, .int (nI kn), .ref aT, .ref aV, .ref aP, .int (nI ln), .int (nI po), .int (nI wz), .int le, .int on, .int tw])), (aS, .inl (K 0, 360, .inl fS)), (aA, .inl (K 0, 360, .inl fA)), (aB, .inl (K 0, 2160, .inl fB)), (aT, .inl (K 0, 720, .inl fT)), (aV, .inl (K 2, 2, .inl fV)), (aP, .inl (K 0, 80, .inl fP))] := (hD.sub (ws' := [(oM, .inr (5, [.ref aS, .ref aA, .ref aB, .int (nI kn), .ref aT, .ref aV, .ref aP, .int (nI ln), .int (nI po), .int (nI wz), .int le, .int on, .int tw])), (aS, .inl (K 0, 360, .inl fS)), (aA, .inl (K 0, 360, .inl fA)), (aB, .inl (K 0, 2160, .inl fB)), (aT, .inl (K 0, 720, .inl fT)), (aV, .inl (K 2, 2, .inl fV)), (aP, .inl (K 0, 80, .inl fP))]) [0, 1, 2, 3, 4, 5, 6] (by decide +kernel) rfl).weaken (fun _ _ _ _ => trivial)
              refine kw_i (W1 := [(oM, .inr (5, [.ref aS, .ref aA, .ref aB, .int (nI kn), .ref aT, .ref aV, .ref aP, .int (nI ln), .int (nI po), .int (nI wz), .int le, .int on, .int tw])), (aS, .inl (K 0, 360, .inl (upd fS (40 + 160 * 1 + 5 * (pn tw) + 0) 0))), (aA, .inl (K 0, 360, .inl fA)), (aB, .inl (K 0, 2160, .inl fB)), (aT, .inl (K 0, 720, .inl fT)), (aV, .inl (K 2, 2, .inl fV)), (aP, .inl (K 0, 80, .inl fP))]) (w1 := [(oM, .inr (5, [.ref aS, .ref aA, .ref aB, .int (nI kn), .ref aT, .ref aV, .ref aP, .int (nI ln), .int (nI po), .int (nI wz), .int le, .int on, .int tw])), (aS, .inl (K 0, 360, .inl (upd fS (40 + 160 * 1 + 5 * (pn tw) + 0) 0))), (aA, .inl (K 0, 360, .inl fA)), (aB, .inl (K 0, 2160, .inl fB)), (aT, .inl (K 0, 720, .inl fT)), (aV, .inl (K 2, 2, .inl fV)), (aP, .inl (K 0, 80, .inl fP))]) (va_runV (As := [.int 1, .int (nI (pn tw))]) (rest := []) ⟨hx, hb, hml, hown, hts⟩ (c_X5_wipes l D K oM aS aA aB aT aV aP fS fA fB fT fV fP kn ln (nI po) (nI wz) le on tw 1 (pn tw) (by decide) (Nat.lt_of_lt_of_le (pn_lt hn c_34) hn)) (cwV 2 hts gX5_does_X5_wipes rfl rfl rfl (by decide +kernel) ⟨Nat.le_of_ble_eq_true rfl, Nat.le_of_ble_eq_true rfl⟩) (pre_wr hbd hPc hDc (ci := 5) (q0 := 0) rfl rfl) rfl rfl hl.1 rfl (lv_room (Nat.le_of_ble_eq_true rfl)) dX5_does_152 ⟨Nat.zero_le _, Nat.zero_le _⟩) hP hD hS [0, 1, 2, 3, 4, 5, 6] [] 7 rfl rfl rfl (Eq.trans (b := List.map some ([])) rfl rfl) (by decide +kernel) (by decide +kernel) (by simp only [List.map_append, drW_fst, List.map_cons, List.map_nil]) (fun r_45 H locs hr_45 hP hD hS => ?_)
              refine st1 hr_45 ?_
              refine lv_goto (tgt := 162) hx hb dX5_does_155 (by decide) ?_
              refine lv_istore_n (lv' := [(3, .int (fS (40 + 160 * 1 + 5 * (pn tw) + 0))), (2, .int 0), (1, .int le), (0, .ref oM)]) hx hb dX5_does_162 rfl hl (by decide) rfl (fun ls hl => ?_)
              refine lv_iload_n hx hb dX5_does_163 rfl (lv_at hl 1 rfl) ?_
              refine lv_if_ne (tgt := 171) hx hb dX5_does_164 (by decide) (fun h_46 => absurd (by decide) h_46) (fun _ => ?_)
              refine lv_iconst (v := 1) hx hb dX5_does_167 (by decide) ?_
              refine lv_goto (tgt := 172) hx hb dX5_does_168 (by decide) ?_
              have e_47 : n_X5_does_1 fS le on tw n = (upd fS (40 + 160 * 1 + 5 * (pn tw) + 0) 0) := by unfold n_X5_does_1; rw [if_neg c_1, if_neg c_2, if_pos c_3, if_neg c_19, if_neg c_34]
              have hPf : va_P D vwCl [(oM, .inr (5, [.ref aS, .ref aA, .ref aB, .int (nI kn), .ref aT, .ref aV, .ref aP, .int (nI ln), .int (nI po), .int (nI wz), .int le, .int on, .int tw])), (aS, .inl (K 0, 360, .inl (n_X5_does_1 fS le on tw n))), (aA, .inl (K 0, 360, .inl fA)), (aB, .inl (K 0, 2160, .inl fB)), (aT, .inl (K 0, 720, .inl fT)), (aV, .inl (K 2, 2, .inl fV)), (aP, .inl (K 0, 80, .inl fP))] H := (by rw [e_47]; exact hP)
              exact W.zret hx hb hr rfl (fun t ht hW => ⟨⟨_, (), rfl, (by unfold r_X5_does; rw [if_neg c_1, if_neg c_2, if_pos c_3, if_neg c_19, if_neg c_34]), by show va_P D vwCl _ t.heap; rw [ht]; exact hPf⟩, hS.F ht⟩) hS.2.2 dX5_does_172
      · skip
        refine lv_aload_n hx hb dX5_does_32 rfl (lv_at hl 1 rfl) ?_
        refine lv_aload_n hx hb dX5_does_33 rfl (lv_at hl 1 rfl) ?_
        refine va_get (D := D) (ci := 5) (v := .int on) (C := RX5) (T := TX5) (N := 13) hx hb hts hin5 hown hK hP 0 rfl rfl 11 (by decide) (hts _ (List.mem_of_getElem? (i := 2) rfl)) (fun _ h9 => h9) rfl dX5_does_34 ?_
        refine byc (P := on < 0 ∨ (nI n) ≤ on) (fun c_48 => ?_) (fun c_48 => ?_)
        · skip
          have hPc := hP.sub (ws' := [(oM, .inr (5, [.ref aS, .ref aA, .ref aB, .int (nI kn), .ref aT, .ref aV, .ref aP, .int (nI ln), .int (nI po), .int (nI wz), .int le, .int on, .int tw])), (aS, .inl (K 0, 360, .inl fS))]) [0, 1] rfl
          refine vp_callSi (va_Run.run (va_runV (As := [.int on]) (rest := []) ⟨hx, hb, hml, hown, hts⟩ (c_X5_isPlace_no l D K oM aS aA aB aT aV aP fS kn ln (nI po) (nI wz) le on tw n on hs0 hn1 hn c_48) (cwV 1 hts gX5_does_X5_isPlace rfl rfl rfl (by decide +kernel) ⟨Nat.le_of_ble_eq_true rfl, Nat.le_of_ble_eq_true rfl⟩) (pre_rd hbd hPc (ci := 5) (q0 := 0) rfl rfl) rfl rfl hl.1 rfl (lv_room (Nat.le_of_ble_eq_true rfl)) dX5_does_37 ⟨Nat.zero_le _, Nat.zero_le _⟩)) (fun r_49 hr_49 => ?_)
          refine st1 hr_49 ?_
          refine lv_if_eq (tgt := 47) hx hb dX5_does_40 (by decide) (fun _ => ?_) (fun h_50 => absurd (by decide) h_50)
          refine lv_iconst (v := (-1)) hx hb dX5_does_47 (by decide) ?_
          refine lv_goto (tgt := 73) hx hb dX5_does_48 (by decide) ?_
          refine lv_istore_n (lv' := [(2, .int (-1)), (1, .int le), (0, .ref oM)]) hx hb dX5_does_73 rfl hl (by decide) rfl (fun ls hl => ?_)
          refine lv_iload_n hx hb dX5_does_74 rfl (lv_at hl 0 rfl) ?_
          refine lv_if_ne (tgt := 163) hx hb dX5_does_75 (by decide) (fun _ => ?_) (fun h_51 => absurd h_51 (by decide))
          refine lv_iload_n hx hb dX5_does_163 rfl (lv_at hl 0 rfl) ?_
          refine lv_if_ne (tgt := 171) hx hb dX5_does_164 (by decide) (fun _ => ?_) (fun h_52 => absurd h_52 (by decide))
          refine lv_iconst (v := 0) hx hb dX5_does_171 (by decide) ?_
          have e_53 : n_X5_does_1 fS le on tw n = fS := by unfold n_X5_does_1; rw [if_neg c_1, if_pos c_2, if_pos c_48]
          have hPf : va_P D vwCl [(oM, .inr (5, [.ref aS, .ref aA, .ref aB, .int (nI kn), .ref aT, .ref aV, .ref aP, .int (nI ln), .int (nI po), .int (nI wz), .int le, .int on, .int tw])), (aS, .inl (K 0, 360, .inl (n_X5_does_1 fS le on tw n))), (aA, .inl (K 0, 360, .inl fA)), (aB, .inl (K 0, 2160, .inl fB)), (aT, .inl (K 0, 720, .inl fT)), (aV, .inl (K 2, 2, .inl fV)), (aP, .inl (K 0, 80, .inl fP))] H := (by rw [e_53]; exact hP)
          exact W.zret hx hb hr rfl (fun t ht hW => ⟨⟨_, (), rfl, (by unfold r_X5_does; rw [if_neg c_1, if_pos c_2, if_pos c_48]), by show va_P D vwCl _ t.heap; rw [ht]; exact hPf⟩, hS.F ht⟩) hS.2.2 dX5_does_172
        · refine st1 (pn_e2 c_48) ?_
          have hPc := hP.sub (ws' := [(oM, .inr (5, [.ref aS, .ref aA, .ref aB, .int (nI kn), .ref aT, .ref aV, .ref aP, .int (nI ln), .int (nI po), .int (nI wz), .int le, .int on, .int tw])), (aS, .inl (K 0, 360, .inl fS))]) [0, 1] rfl
          refine vp_callSi (va_Run.run (va_runV (As := [.int (nI (pn on))]) (rest := []) ⟨hx, hb, hml, hown, hts⟩ (c_X5_isPlace_ok l D K oM aS aA aB aT aV aP fS kn ln (nI po) (nI wz) le on tw n (pn on) hs0 hn1 hn (pn_lt hn c_48)) (cwV 1 hts gX5_does_X5_isPlace rfl rfl rfl (by decide +kernel) ⟨Nat.le_of_ble_eq_true rfl, Nat.le_of_ble_eq_true rfl⟩) (pre_rd hbd hPc (ci := 5) (q0 := 0) rfl rfl) rfl rfl hl.1 rfl (lv_room (Nat.le_of_ble_eq_true rfl)) dX5_does_37 ⟨Nat.zero_le _, Nat.zero_le _⟩)) (fun r_54 hr_54 => ?_)
          refine st1 hr_54 ?_
          refine lv_if_eq (tgt := 47) hx hb dX5_does_40 (by decide) (fun h_55 => absurd h_55 (by decide)) (fun _ => ?_)
          refine lv_iconst (v := 0) hx hb dX5_does_43 (by decide) ?_
          refine lv_goto (tgt := 73) hx hb dX5_does_44 (by decide) ?_
          refine lv_istore_n (lv' := [(2, .int 0), (1, .int le), (0, .ref oM)]) hx hb dX5_does_73 rfl hl (by decide) rfl (fun ls hl => ?_)
          refine lv_iload_n hx hb dX5_does_74 rfl (lv_at hl 0 rfl) ?_
          refine lv_if_ne (tgt := 163) hx hb dX5_does_75 (by decide) (fun h_56 => absurd (by decide) h_56) (fun _ => ?_)
          refine lv_iload_n hx hb dX5_does_78 rfl (lv_at hl 1 rfl) ?_
          refine lv_bipush (v := 119) hx hb dX5_does_79 (by decide) ?_
          refine lv_icmp_ne (tgt := 99) hx hb dX5_does_81 (by decide) (fun _ => ?_) (fun h_57 => absurd h_57 c_1)
          refine lv_iload_n hx hb dX5_does_99 rfl (lv_at hl 1 rfl) ?_
          refine lv_bipush (v := 114) hx hb dX5_does_100 (by decide) ?_
          refine lv_icmp_ne (tgt := 116) hx hb dX5_does_102 (by decide) (fun h_58 => absurd c_2 h_58) (fun _ => ?_)
          refine lv_aload_n hx hb dX5_does_105 rfl (lv_at hl 2 rfl) ?_
          refine lv_aload_n hx hb dX5_does_106 rfl (lv_at hl 2 rfl) ?_
          refine va_get (D := D) (ci := 5) (v := .int on) (C := RX5) (T := TX5) (N := 13) hx hb hts hin5 hown hK hP 0 rfl rfl 11 (by decide) (hts _ (List.mem_of_getElem? (i := 2) rfl)) (fun _ h9 => h9) rfl dX5_does_107 ?_
          refine st1 (pn_e2 c_48) ?_
          have hPc := hP.sub (ws' := [(oM, .inr (5, [.ref aS, .ref aA, .ref aB, .int (nI kn), .ref aT, .ref aV, .ref aP, .int (nI ln), .int (nI po), .int (nI wz), .int le, .int on, .int tw])), (aS, .inl (K 0, 360, .inl fS)), (aA, .inl (K 0, 360, .inl fA)), (aB, .inl (K 0, 2160, .inl fB)), (aT, .inl (K 0, 720, .inl fT)), (aV, .inl (K 2, 2, .inl fV)), (aP, .inl (K 0, 80, .inl fP))]) [0, 1, 2, 3, 4, 5, 6] rfl
          have hDc : va_D (fun _ => True) [(oM, .inr (5, [.ref aS, .ref aA, .ref aB, .int (nI kn), .ref aT, .ref aV, .ref aP, .int (nI ln), .int (nI po), .int (nI wz), .int le, .int on, .int tw])), (aS, .inl (K 0, 360, .inl fS)), (aA, .inl (K 0, 360, .inl fA)), (aB, .inl (K 0, 2160, .inl fB)), (aT, .inl (K 0, 720, .inl fT)), (aV, .inl (K 2, 2, .inl fV)), (aP, .inl (K 0, 80, .inl fP))] := (hD.sub (ws' := [(oM, .inr (5, [.ref aS, .ref aA, .ref aB, .int (nI kn), .ref aT, .ref aV, .ref aP, .int (nI ln), .int (nI po), .int (nI wz), .int le, .int on, .int tw])), (aS, .inl (K 0, 360, .inl fS)), (aA, .inl (K 0, 360, .inl fA)), (aB, .inl (K 0, 2160, .inl fB)), (aT, .inl (K 0, 720, .inl fT)), (aV, .inl (K 2, 2, .inl fV)), (aP, .inl (K 0, 80, .inl fP))]) [0, 1, 2, 3, 4, 5, 6] (by decide +kernel) rfl).weaken (fun _ _ _ _ => trivial)
          refine kw_i (W1 := [(oM, .inr (5, [.ref aS, .ref aA, .ref aB, .int (nI kn), .ref aT, .ref aV, .ref aP, .int (nI ln), .int (nI po), .int (nI wz), .int le, .int on, .int tw])), (aS, .inl (K 0, 360, .inl (n_X5_reads_1 fS (pn on)))), (aA, .inl (K 0, 360, .inl fA)), (aB, .inl (K 0, 2160, .inl fB)), (aT, .inl (K 0, 720, .inl fT)), (aV, .inl (K 2, 2, .inl fV)), (aP, .inl (K 0, 80, .inl fP))]) (w1 := [(oM, .inr (5, [.ref aS, .ref aA, .ref aB, .int (nI kn), .ref aT, .ref aV, .ref aP, .int (nI ln), .int (nI po), .int (nI wz), .int le, .int on, .int tw])), (aS, .inl (K 0, 360, .inl (n_X5_reads_1 fS (pn on)))), (aA, .inl (K 0, 360, .inl fA)), (aB, .inl (K 0, 2160, .inl fB)), (aT, .inl (K 0, 720, .inl fT)), (aV, .inl (K 2, 2, .inl fV)), (aP, .inl (K 0, 80, .inl fP))]) (va_runV (As := [.int (nI (pn on))]) (rest := []) ⟨hx, hb, hml, hown, hts⟩ (c_X5_reads l D K oM aS aA aB aT aV aP fS fA fB fT fV fP kn ln (nI po) (nI wz) le on tw (pn on) (Nat.lt_of_lt_of_le (pn_lt hn c_48) hn)) (cwV 1 hts gX5_does_X5_reads rfl rfl rfl (by decide +kernel) ⟨Nat.le_of_ble_eq_true rfl, Nat.le_of_ble_eq_true rfl⟩) (pre_wr hbd hPc hDc (ci := 5) (q0 := 0) rfl rfl) rfl rfl hl.1 rfl (lv_room (Nat.le_of_ble_eq_true rfl)) dX5_does_110 ⟨Nat.zero_le _, Nat.zero_le _⟩) hP hD hS [0, 1, 2, 3, 4, 5, 6] [] 7 rfl rfl rfl (Eq.trans (b := List.map some ([])) rfl rfl) (by decide +kernel) (by decide +kernel) (by simp only [List.map_append, drW_fst, List.map_cons, List.map_nil]) (fun r_59 H locs hr_59 hP hD hS => ?_)
          refine st1 hr_59 ?_
          refine lv_goto (tgt := 162) hx hb dX5_does_113 (by decide) ?_
          refine lv_istore_n (lv' := [(3, .int (r_X5_readable (upd (upd (upd fS 4 ((fS 4) + 1)) 5 ((fS 5) + (if (fS (8 + (pn on))) ≤ 0 then 0 else (if (r_X5_isBelieved (upd fS 4 ((fS 4) + 1)) 0 (pn on)) = 0 then 1 else 0)))) 6 ((fS 6) + (if (r_X5_isLost (upd (upd fS 4 ((fS 4) + 1)) 5 ((fS 5) + (if (fS (8 + (pn on))) ≤ 0 then 0 else (if (r_X5_isBelieved (upd fS 4 ((fS 4) + 1)) 0 (pn on)) = 0 then 1 else 0)))) (pn on)) = 0 then 0 else 1))) (pn on))), (2, .int 0), (1, .int le), (0, .ref oM)]) hx hb dX5_does_162 rfl hl (by decide) rfl (fun ls hl => ?_)
          refine lv_iload_n hx hb dX5_does_163 rfl (lv_at hl 1 rfl) ?_
          refine lv_if_ne (tgt := 171) hx hb dX5_does_164 (by decide) (fun h_60 => absurd (by decide) h_60) (fun _ => ?_)
          refine lv_iconst (v := 1) hx hb dX5_does_167 (by decide) ?_
          refine lv_goto (tgt := 172) hx hb dX5_does_168 (by decide) ?_
          have e_61 : n_X5_does_1 fS le on tw n = (n_X5_reads_1 fS (pn on)) := by unfold n_X5_does_1; rw [if_neg c_1, if_pos c_2, if_neg c_48]
          have hPf : va_P D vwCl [(oM, .inr (5, [.ref aS, .ref aA, .ref aB, .int (nI kn), .ref aT, .ref aV, .ref aP, .int (nI ln), .int (nI po), .int (nI wz), .int le, .int on, .int tw])), (aS, .inl (K 0, 360, .inl (n_X5_does_1 fS le on tw n))), (aA, .inl (K 0, 360, .inl fA)), (aB, .inl (K 0, 2160, .inl fB)), (aT, .inl (K 0, 720, .inl fT)), (aV, .inl (K 2, 2, .inl fV)), (aP, .inl (K 0, 80, .inl fP))] H := (by rw [e_61]; exact hP)
          exact W.zret hx hb hr rfl (fun t ht hW => ⟨⟨_, (), rfl, (by unfold r_X5_does; rw [if_neg c_1, if_pos c_2, if_neg c_48]), by show va_P D vwCl _ t.heap; rw [ht]; exact hPf⟩, hS.F ht⟩) hS.2.2 dX5_does_172
    · skip
      refine lv_aload_n hx hb dX5_does_11 rfl (lv_at hl 1 rfl) ?_
      refine lv_aload_n hx hb dX5_does_12 rfl (lv_at hl 1 rfl) ?_
      refine va_get (D := D) (ci := 5) (v := .int on) (C := RX5) (T := TX5) (N := 13) hx hb hts hin5 hown hK hP 0 rfl rfl 11 (by decide) (hts _ (List.mem_of_getElem? (i := 2) rfl)) (fun _ h9 => h9) rfl dX5_does_13 ?_
      refine lv_aload_n hx hb dX5_does_16 rfl (lv_at hl 1 rfl) ?_
      refine va_get (D := D) (ci := 5) (v := .int tw) (C := RX5) (T := TX5) (N := 13) hx hb hts hin5 hown hK hP 0 rfl rfl 12 (by decide) (hts _ (List.mem_of_getElem? (i := 3) rfl)) (fun _ h9 => h9) rfl dX5_does_17 ?_
      refine byc (P := on < 0 ∨ (nI n) ≤ on) (fun c_62 => ?_) (fun c_62 => ?_)
      · skip
        have hPc := hP.sub (ws' := [(oM, .inr (5, [.ref aS, .ref aA, .ref aB, .int (nI kn), .ref aT, .ref aV, .ref aP, .int (nI ln), .int (nI po), .int (nI wz), .int le, .int on, .int tw])), (aS, .inl (K 0, 360, .inl fS))]) [0, 1] rfl
        refine vp_callSi (va_Run.run (va_runV (As := [.int on, .int tw]) (rest := []) ⟨hx, hb, hml, hown, hts⟩ (c_X5_writeFault_no l D K oM aS aA aB aT aV aP fS kn ln (nI po) (nI wz) le on tw n on tw hs0 hn1 hn c_62) (cwV 2 hts gX5_does_X5_writeFault rfl rfl rfl (by decide +kernel) ⟨Nat.le_of_ble_eq_true rfl, Nat.le_of_ble_eq_true rfl⟩) (pre_rd hbd hPc (ci := 5) (q0 := 0) rfl rfl) rfl rfl hl.1 rfl (lv_room (Nat.le_of_ble_eq_true rfl)) dX5_does_20 ⟨Nat.zero_le _, Nat.zero_le _⟩)) (fun r_63 hr_63 => ?_)
        refine st1 hr_63 ?_
        refine lv_goto (tgt := 73) hx hb dX5_does_23 (by decide) ?_
        refine lv_istore_n (lv' := [(2, .int (-1)), (1, .int le), (0, .ref oM)]) hx hb dX5_does_73 rfl hl (by decide) rfl (fun ls hl => ?_)
        refine lv_iload_n hx hb dX5_does_74 rfl (lv_at hl 0 rfl) ?_
        refine lv_if_ne (tgt := 163) hx hb dX5_does_75 (by decide) (fun _ => ?_) (fun h_64 => absurd h_64 (by decide))
        refine lv_iload_n hx hb dX5_does_163 rfl (lv_at hl 0 rfl) ?_
        refine lv_if_ne (tgt := 171) hx hb dX5_does_164 (by decide) (fun _ => ?_) (fun h_65 => absurd h_65 (by decide))
        refine lv_iconst (v := 0) hx hb dX5_does_171 (by decide) ?_
        have e_66 : n_X5_does_1 fS le on tw n = fS := by unfold n_X5_does_1; rw [if_pos c_1, if_pos c_62]
        have hPf : va_P D vwCl [(oM, .inr (5, [.ref aS, .ref aA, .ref aB, .int (nI kn), .ref aT, .ref aV, .ref aP, .int (nI ln), .int (nI po), .int (nI wz), .int le, .int on, .int tw])), (aS, .inl (K 0, 360, .inl (n_X5_does_1 fS le on tw n))), (aA, .inl (K 0, 360, .inl fA)), (aB, .inl (K 0, 2160, .inl fB)), (aT, .inl (K 0, 720, .inl fT)), (aV, .inl (K 2, 2, .inl fV)), (aP, .inl (K 0, 80, .inl fP))] H := (by rw [e_66]; exact hP)
        exact W.zret hx hb hr rfl (fun t ht hW => ⟨⟨_, (), rfl, (by unfold r_X5_does; rw [if_pos c_1, if_pos c_62]), by show va_P D vwCl _ t.heap; rw [ht]; exact hPf⟩, hS.F ht⟩) hS.2.2 dX5_does_172
      · refine st2 (pn_e2 c_62) ?_
        have hPc := hP.sub (ws' := [(oM, .inr (5, [.ref aS, .ref aA, .ref aB, .int (nI kn), .ref aT, .ref aV, .ref aP, .int (nI ln), .int (nI po), .int (nI wz), .int le, .int on, .int tw])), (aS, .inl (K 0, 360, .inl fS))]) [0, 1] rfl
        refine vp_callSi (va_Run.run (va_runV (As := [.int (nI (pn on)), .int tw]) (rest := []) ⟨hx, hb, hml, hown, hts⟩ (c_X5_writeFault_in l D K oM aS aA aB aT aV aP fS kn ln (nI po) (nI wz) le on tw n (pn on) tw hs0 hn1 hn (pn_lt hn c_62)) (cwV 2 hts gX5_does_X5_writeFault rfl rfl rfl (by decide +kernel) ⟨Nat.le_of_ble_eq_true rfl, Nat.le_of_ble_eq_true rfl⟩) (pre_rd hbd hPc (ci := 5) (q0 := 0) rfl rfl) rfl rfl hl.1 rfl (lv_room (Nat.le_of_ble_eq_true rfl)) dX5_does_20 ⟨Nat.zero_le _, Nat.zero_le _⟩)) (fun r_67 hr_67 => ?_)
        refine st1 hr_67 ?_
        refine lv_goto (tgt := 73) hx hb dX5_does_23 (by decide) ?_
        refine lv_istore_n (lv' := [(2, .int (r_X5_writeFault_in fS (pn on) tw)), (1, .int le), (0, .ref oM)]) hx hb dX5_does_73 rfl hl (by decide) rfl (fun ls hl => ?_)
        refine lv_iload_n hx hb dX5_does_74 rfl (lv_at hl 0 rfl) ?_
        refine lv_if_ne (tgt := 163) hx hb dX5_does_75 (by decide) (fun c_68 => ?_) (fun c_68 => ?_)
        · skip
          refine lv_iload_n hx hb dX5_does_163 rfl (lv_at hl 0 rfl) ?_
          refine lv_if_ne (tgt := 171) hx hb dX5_does_164 (by decide) (fun _ => ?_) (fun h_69 => absurd h_69 c_68)
          refine lv_iconst (v := 0) hx hb dX5_does_171 (by decide) ?_
          have e_70 : n_X5_does_1 fS le on tw n = fS := by unfold n_X5_does_1; rw [if_pos c_1, if_neg c_62, if_neg c_68]
          have hPf : va_P D vwCl [(oM, .inr (5, [.ref aS, .ref aA, .ref aB, .int (nI kn), .ref aT, .ref aV, .ref aP, .int (nI ln), .int (nI po), .int (nI wz), .int le, .int on, .int tw])), (aS, .inl (K 0, 360, .inl (n_X5_does_1 fS le on tw n))), (aA, .inl (K 0, 360, .inl fA)), (aB, .inl (K 0, 2160, .inl fB)), (aT, .inl (K 0, 720, .inl fT)), (aV, .inl (K 2, 2, .inl fV)), (aP, .inl (K 0, 80, .inl fP))] H := (by rw [e_70]; exact hP)
          exact W.zret hx hb hr rfl (fun t ht hW => ⟨⟨_, (), rfl, (by unfold r_X5_does; rw [if_pos c_1, if_neg c_62, if_neg c_68]), by show va_P D vwCl _ t.heap; rw [ht]; exact hPf⟩, hS.F ht⟩) hS.2.2 dX5_does_172
        · skip
          refine lv_iload_n hx hb dX5_does_78 rfl (lv_at hl 1 rfl) ?_
          refine lv_bipush (v := 119) hx hb dX5_does_79 (by decide) ?_
          refine lv_icmp_ne (tgt := 99) hx hb dX5_does_81 (by decide) (fun h_71 => absurd c_1 h_71) (fun _ => ?_)
          refine lv_aload_n hx hb dX5_does_84 rfl (lv_at hl 2 rfl) ?_
          refine lv_aload_n hx hb dX5_does_85 rfl (lv_at hl 2 rfl) ?_
          refine va_get (D := D) (ci := 5) (v := .int on) (C := RX5) (T := TX5) (N := 13) hx hb hts hin5 hown hK hP 0 rfl rfl 11 (by decide) (hts _ (List.mem_of_getElem? (i := 2) rfl)) (fun _ h9 => h9) rfl dX5_does_86 ?_
          refine lv_aload_n hx hb dX5_does_89 rfl (lv_at hl 2 rfl) ?_
          refine va_get (D := D) (ci := 5) (v := .int tw) (C := RX5) (T := TX5) (N := 13) hx hb hts hin5 hown hK hP 0 rfl rfl 12 (by decide) (hts _ (List.mem_of_getElem? (i := 3) rfl)) (fun _ h9 => h9) rfl dX5_does_90 ?_
          refine st2 (pn_e2 c_62) ?_
          have hPc := hP.sub (ws' := [(oM, .inr (5, [.ref aS, .ref aA, .ref aB, .int (nI kn), .ref aT, .ref aV, .ref aP, .int (nI ln), .int (nI po), .int (nI wz), .int le, .int on, .int tw])), (aS, .inl (K 0, 360, .inl fS)), (aA, .inl (K 0, 360, .inl fA)), (aB, .inl (K 0, 2160, .inl fB)), (aT, .inl (K 0, 720, .inl fT)), (aV, .inl (K 2, 2, .inl fV)), (aP, .inl (K 0, 80, .inl fP))]) [0, 1, 2, 3, 4, 5, 6] rfl
          have hDc : va_D (fun _ => True) [(oM, .inr (5, [.ref aS, .ref aA, .ref aB, .int (nI kn), .ref aT, .ref aV, .ref aP, .int (nI ln), .int (nI po), .int (nI wz), .int le, .int on, .int tw])), (aS, .inl (K 0, 360, .inl fS)), (aA, .inl (K 0, 360, .inl fA)), (aB, .inl (K 0, 2160, .inl fB)), (aT, .inl (K 0, 720, .inl fT)), (aV, .inl (K 2, 2, .inl fV)), (aP, .inl (K 0, 80, .inl fP))] := (hD.sub (ws' := [(oM, .inr (5, [.ref aS, .ref aA, .ref aB, .int (nI kn), .ref aT, .ref aV, .ref aP, .int (nI ln), .int (nI po), .int (nI wz), .int le, .int on, .int tw])), (aS, .inl (K 0, 360, .inl fS)), (aA, .inl (K 0, 360, .inl fA)), (aB, .inl (K 0, 2160, .inl fB)), (aT, .inl (K 0, 720, .inl fT)), (aV, .inl (K 2, 2, .inl fV)), (aP, .inl (K 0, 80, .inl fP))]) [0, 1, 2, 3, 4, 5, 6] (by decide +kernel) rfl).weaken (fun _ _ _ _ => trivial)
          refine kw_i (W1 := [(oM, .inr (5, [.ref aS, .ref aA, .ref aB, .int (nI kn), .ref aT, .ref aV, .ref aP, .int (nI ln), .int (nI po), .int (nI wz), .int le, .int on, .int tw])), (aS, .inl (K 0, 360, .inl (wrF fS (pn on) (nxP (pn on) n) tw))), (aA, .inl (K 0, 360, .inl fA)), (aB, .inl (K 0, 2160, .inl fB)), (aT, .inl (K 0, 720, .inl fT)), (aV, .inl (K 2, 2, .inl fV)), (aP, .inl (K 0, 80, .inl fP))]) (w1 := [(oM, .inr (5, [.ref aS, .ref aA, .ref aB, .int (nI kn), .ref aT, .ref aV, .ref aP, .int (nI ln), .int (nI po), .int (nI wz), .int le, .int on, .int tw])), (aS, .inl (K 0, 360, .inl (wrF fS (pn on) (nxP (pn on) n) tw))), (aA, .inl (K 0, 360, .inl fA)), (aB, .inl (K 0, 2160, .inl fB)), (aT, .inl (K 0, 720, .inl fT)), (aV, .inl (K 2, 2, .inl fV)), (aP, .inl (K 0, 80, .inl fP))]) (va_runV (As := [.int (nI (pn on)), .int tw]) (rest := []) ⟨hx, hb, hml, hown, hts⟩ (c_X5_writes l D K oM aS aA aB aT aV aP fS fA fB fT fV fP kn ln (nI po) (nI wz) le on tw n (pn on) tw hs0 hn1 hn (pn_lt hn c_62)) (cwV 2 hts gX5_does_X5_writes rfl rfl rfl (by decide +kernel) ⟨Nat.le_of_ble_eq_true rfl, Nat.le_of_ble_eq_true rfl⟩) (pre_wr hbd hPc hDc (ci := 5) (q0 := 0) rfl rfl) rfl rfl hl.1 rfl (lv_room (Nat.le_of_ble_eq_true rfl)) dX5_does_93 ⟨Nat.zero_le _, Nat.zero_le _⟩) hP hD hS [0, 1, 2, 3, 4, 5, 6] [] 7 rfl rfl rfl (Eq.trans (b := List.map some ([])) rfl rfl) (by decide +kernel) (by decide +kernel) (by simp only [List.map_append, drW_fst, List.map_cons, List.map_nil]) (fun r_72 H locs hr_72 hP hD hS => ?_)
          refine st1 hr_72 ?_
          refine lv_goto (tgt := 162) hx hb dX5_does_96 (by decide) ?_
          refine lv_istore_n (lv' := [(3, .int ((wrF fS (pn on) (nxP (pn on) n) tw) (8 + (pn on)))), (2, .int (r_X5_writeFault_in fS (pn on) tw)), (1, .int le), (0, .ref oM)]) hx hb dX5_does_162 rfl hl (by decide) rfl (fun ls hl => ?_)
          refine lv_iload_n hx hb dX5_does_163 rfl (lv_at hl 1 rfl) ?_
          refine lv_if_ne (tgt := 171) hx hb dX5_does_164 (by decide) (fun h_73 => absurd c_68 h_73) (fun _ => ?_)
          refine lv_iconst (v := 1) hx hb dX5_does_167 (by decide) ?_
          refine lv_goto (tgt := 172) hx hb dX5_does_168 (by decide) ?_
          have e_74 : n_X5_does_1 fS le on tw n = (wrF fS (pn on) (nxP (pn on) n) tw) := by unfold n_X5_does_1; rw [if_pos c_1, if_neg c_62, if_pos c_68]
          have hPf : va_P D vwCl [(oM, .inr (5, [.ref aS, .ref aA, .ref aB, .int (nI kn), .ref aT, .ref aV, .ref aP, .int (nI ln), .int (nI po), .int (nI wz), .int le, .int on, .int tw])), (aS, .inl (K 0, 360, .inl (n_X5_does_1 fS le on tw n))), (aA, .inl (K 0, 360, .inl fA)), (aB, .inl (K 0, 2160, .inl fB)), (aT, .inl (K 0, 720, .inl fT)), (aV, .inl (K 2, 2, .inl fV)), (aP, .inl (K 0, 80, .inl fP))] H := (by rw [e_74]; exact hP)
          exact W.zret hx hb hr rfl (fun t ht hW => ⟨⟨_, (), rfl, (by unfold r_X5_does; rw [if_pos c_1, if_neg c_62, if_pos c_68]), by show va_P D vwCl _ t.heap; rw [ht]; exact hPf⟩, hS.F ht⟩) hS.2.2 dX5_does_172
  exact K0 s.heap [] ls hP hD hS hl
theorem cp0_at (f g : Nat → Int32) : ∀ (N k : Nat), k < N → cp0 f g N k = g k
  | 0, k, h => absurd h (Nat.not_lt_zero _)
  | N + 1, k, h => by
    show upd (cp0 f g N) N (g N) k = g k
    by_cases c : k = N
    · subst c; exact pk_us
    · rw [pk_un c]; exact cp0_at f g N k (by omega)
theorem cpb0 (a b : Nat → Int32) {f : Nat → Int32} {x : Int32} (h : f 0 = x) : cp0 a (cp0 b f 360) 360 0 = x := by
  rw [cp0_at _ _ _ _ (by decide), cp0_at _ _ _ _ (by decide), h]
theorem ud0 {f : Nat → Int32} {x y : Int32} (h : f 0 = x) : upd (upd f 1 y) 2 y 0 = x := by
  rw [pk_un (by decide), pk_un (by decide), h]
theorem ly0 {f : Nat → Int32} {sg k j : Nat} {d s : Int32} : n_X5_lay_1 f sg k j d s 0 = f 0 := by
  unfold n_X5_lay_1
  repeat rw [pk_un (by omega)]
theorem wrI0 (f : Nat → Int32) (j k : Nat) (xd xs : Int32) : ∀ q, wrI f j k xd xs q 0 = f 0
  | 0 => rfl
  | q + 1 => by
    have h := wrI0 f j k xd xs q
    have m : wrM (wrI f j k xd xs q) q j xd xs 0 = f 0 := by
      unfold wrM
      repeat' split
      all_goals first | (rw [pk_un (by omega)]; exact h) | (rw [ly0, pk_un (by omega)]; exact h)
    show wrB (wrI f j k xd xs q) q j k xd xs 0 = f 0
    unfold wrB
    repeat' split
    all_goals first | exact m | (rw [ly0]; exact m)
theorem wr0 {f : Nat → Int32} {j k : Nat} {xd x : Int32} (h : f 0 = x) : wrF f j k xd 0 = x := by
  unfold wrF
  rw [wrI0, pk_un (by decide), pk_un (by omega), h]
theorem rd0 {f : Nat → Int32} {j : Nat} {x : Int32} (h : f 0 = x) : n_X5_reads_1 f j 0 = x := by
  unfold n_X5_reads_1
  repeat' split
  all_goals first | (repeat rw [pk_un (by omega)]; exact h) | exact h
theorem ds_0 {f : Nat → Int32} {le on tw x : Int32} {n : Nat} (h : f 0 = x) : n_X5_does_1 f le on tw n 0 = x := by
  unfold n_X5_does_1
  repeat' split
  all_goals first | with_reducible exact h | with_reducible exact wr0 h | with_reducible exact rd0 h | with_reducible exact scI_0 h n | (rw [pk_un (by omega)]; exact h) | (unfold n_X5_awaits_1; rw [pk_un (by omega)]; exact h) | (unfold n_X5_wipes_1; rw [pk_un (by omega)]; exact h)
