section KQ
variable {p : Program} {l : Launch} {e : Env} {R : Room} {s : State} {m : MethodId} {args : Array Value} {below : List Frame} {meth : Method} {c : Code} {H : Heap} {locs : List Loc} {cells slots : Nat} {Q : State → Prop}
variable {cc : ByteArray} {pc : Nat} {ls : Array Slot} {rest : List Value} {D : va_G} {cl : List vw_C} {a : Nat} {tys : List (ClassId × FieldType)} {ws : va_W}
theorem n_aldq (hexec : p.tables.exec = Jvm.exec) (hb : c.code = cc) (hK : va_K D cl tys s) (hP : va_P D cl ws H) (q0 t0 : Nat) {cA : ClassId} {C : String} {n : Nat} {f : Nat → Option Nat} (ha : ws[q0]? = some (a, .inl (cA, n, .inr (.inr (.inr (.inr f)))))) (ht : tys[t0]? = some (cA, .object C)) (j : Nat) (hj : j < n) (hn : n < 2 ^ 31) {x : Nat} (hx : f j = some x) (hdg : decode cc pc = .ok (.aaload, 1))
    (kk : W p l e R s m args below meth c H locs cells slots Q (F0 m (pc + 1) ls (.ref x :: rest))) : W p l e R s m args below meth c H locs cells slots Q (F0 m pc ls (.int (nI j) :: .ref a :: rest)) :=
  va_aldq hexec hb hK hP q0 t0 ha ht (vp_in_nI hj hn) hdg (by rw [nI_clamp (Nat.lt_trans hj hn), hx]; exact kk)
end KQ
theorem drW_fst (K : Nat → ClassId) (a : Nat → Nat) (n : Nat) (d : Nat → Nat → Int32) : (drW K a n d).map (fun e => e.1) = [a 0, a 1, a 2, a 3, a 4, a 5, a 6, a 7, a 8, a 9, a 10, a 11] := rfl
def n_X1_keep_0_1 (sp : Nat) (xr : Int32) : Nat := (if (r_X4_isError xr) = 0 then (if 6 ≤ (nI sp) then 0 else sp + 1) else sp)
def n_X1_keep_0_2 (kt : Nat) (xr : Int32) : Nat := (if (r_X4_isError xr) = 0 then (if 6 ≤ (nI kt) then kt else kt + 1) else kt)
set_option maxHeartbeats 4000000 in
set_option maxRecDepth 100000 in
theorem c_X1_keep (l : Launch) (D : va_G) (K : Nat → ClassId) (oh : Nat) (aR : Nat) (sp : Nat) (kt : Nat) (xr : Int32) (hsp : sp < 7) (hkt : kt ≤ 6) : Met l yX1_keep wsX1_keep ({ frames := 1, cells := 0, slots := 0, locals := 20 }) (va_Pc [.ref oh, .int xr] (fun U => Bd D K U ∧ va_P D vwCl [(oh, .inr (1, [.ref aR, .int (nI sp), .int (nI kt)]))] U.heap ∧ va_D (fun _ => True) [(oh, .inr (1, [.ref aR, .int (nI sp), .int (nI kt)]))])) (va_Qi (fun r (_ : Unit) => r = xr) (fun _ t => va_P D vwCl [(oh, .inr (1, [.ref aR, .int (nI (n_X1_keep_0_1 sp xr)), .int (nI (n_X1_keep_0_2 kt xr))]))] t.heap) (inW [(oh, .inr (1, [.ref aR, .int (nI sp), .int (nI kt)]))])) 0 0 (inW [(oh, .inr (1, [.ref aR, .int (nI sp), .int (nI kt)]))]) := by
  refine Met.ofW (cc := cX1_keep) (maxL := 2) (ret := (some .int)) (by decide) rfl ?_
  intro p e s m args below meth c s₁ B hml hv
  obtain ⟨rfl, hbd, hP, hD0⟩ := hv
  have hx := B.exec
  have hb := B.bytes
  have hr := B.returns
  have hts := atoms_spec (ws := wsX1_keep) B.pre
  have hown : s.vm.findClass RX1 = some m.cls := findClass_of_methodNamed B.named
  have hlocks := B.notSynchronized
  have hK := hbd.2
  have hP : va_P D vwCl [(oh, .inr (1, [.ref aR, .int (nI sp), .int (nI kt)]))] s.heap := hP
  have hin1 : ∀ w ∈ wsX10, w ∈ wsX1_keep := by decide +kernel
  have hD := hD0.own
  generalize hAe : inW [(oh, .inr (1, [.ref aR, .int (nI sp), .int (nI kt)]))] = A at hD ⊢
  have hS : va_S A s.heap s.heap [] := va_S.rf
  have hl := lv_entry ([.ref oh, .int xr]) (n := 2) (Nat.le_of_ble_eq_true rfl)
  rw [lg_entry_eq]
  generalize (lg_sl ([.ref oh, .int xr]) ++ List.replicate (2 - (lg_sl ([.ref oh, .int xr])).length) Slot.unset).toArray = ls at hl ⊢
  have hl : lv_has ls 2 [(0, .ref oh), (1, .int xr)] := hl
  have K0 : ∀ (H : Heap) (locs : List Loc) (ls : Array Slot), va_P D vwCl [(oh, .inr (1, [.ref aR, .int (nI sp), .int (nI kt)]))] H → va_D A [(oh, .inr (1, [.ref aR, .int (nI sp), .int (nI kt)]))] → va_S A s.heap H locs → lv_has ls 2 [(0, .ref oh), (1, .int xr)] → W p l e (headSpec wsX1_keep ({ frames := 1, cells := 0, slots := 0, locals := 20 })).room s m ([.ref oh, .int xr] : List Value).toArray below meth c H locs 0 0 (MQ below (va_Qi (fun r (_ : Unit) => r = xr) (fun _ t => va_P D vwCl [(oh, .inr (1, [.ref aR, .int (nI (n_X1_keep_0_1 sp xr)), .int (nI (n_X1_keep_0_2 kt xr))]))] t.heap) A) ([.ref oh, .int xr] : List Value).toArray s 0 0 A) (F0 m 0 ls []) := by
    intro H locs ls hP hD hS hl
    refine lv_iload_n hx hb dX1_keep_0 rfl (lv_at hl 1 rfl) ?_
    refine vp_callSi (va_Run.run (va_runSN (As := [.int xr]) (rest := []) ⟨hx, hb, hml, hown, hts⟩ (c_X4_isError l D K xr ) ⟨va_cnB 1 hts gX1_keep_X4_isError_n26 rfl rfl rfl (hbd.1.nw 11 rfl) (hts _ (List.mem_of_getElem? (i := 4) rfl)) (by decide +kernel) ⟨Nat.le_of_ble_eq_true rfl, Nat.le_of_ble_eq_true rfl⟩, (hts _ (List.mem_of_getElem? (i := 3) rfl)), trivial⟩ pre_s0 rfl rfl hl.1 rfl (lv_room (Nat.le_of_ble_eq_true rfl)) dX1_keep_1 ⟨Nat.zero_le _, Nat.zero_le _⟩)) (fun r_1 hr_1 => ?_)
    subst hr_1
    refine lv_if_eq (tgt := 9) hx hb dX1_keep_4 (by decide) (fun c_2 => ?_) (fun c_2 => ?_)
    · skip
      refine lv_aload_n hx hb dX1_keep_9 rfl (lv_at hl 0 rfl) ?_
      refine lv_aload_n hx hb dX1_keep_10 rfl (lv_at hl 0 rfl) ?_
      refine va_get (D := D) (ci := 1) (v := .int (nI sp)) (C := RX1) (T := TX1) (N := 3) hx hb hts hin1 hown hK hP 0 rfl rfl 1 (by decide) (hts _ (List.mem_of_getElem? (i := 1) rfl)) (fun _ h9 => h9) rfl dX1_keep_11 ?_
      refine lv_bipush (v := 6) hx hb dX1_keep_14 (by decide) ?_
      have K_5 : ∀ (H : Heap) (locs : List Loc) (ls : Array Slot), va_P D vwCl [(oh, .inr (1, [.ref aR, .int (nI sp), .int (nI kt)]))] H → va_D A [(oh, .inr (1, [.ref aR, .int (nI sp), .int (nI kt)]))] → va_S A s.heap H locs → lv_has ls 2 [(0, .ref oh), (1, .int xr)] → W p l e (headSpec wsX1_keep ({ frames := 1, cells := 0, slots := 0, locals := 20 })).room s m ([.ref oh, .int xr] : List Value).toArray below meth c H locs 0 0 (MQ below (va_Qi (fun r (_ : Unit) => r = xr) (fun _ t => va_P D vwCl [(oh, .inr (1, [.ref aR, .int (nI (n_X1_keep_0_1 sp xr)), .int (nI (n_X1_keep_0_2 kt xr))]))] t.heap) A) ([.ref oh, .int xr] : List Value).toArray s 0 0 A) (F0 m 29 ls [.int (nI (if 6 ≤ (nI sp) then 0 else sp + 1)), .ref oh]) := by
        intro H locs ls hP hD hS hl
        refine va_put (D := D) (ci := 1) (v := .int (nI (if 6 ≤ (nI sp) then 0 else sp + 1))) (ty := .int) (C := RX1) (T := TX1) (N := 3) hx hb hts hin1 tyX1 tyX1_ok nmX1 hown hK hP hD hS 0 rfl rfl 1 (by decide) (hts _ (List.mem_of_getElem? (i := 1) rfl)) (fun _ h9 => h9) rfl (by decide +kernel) rfl rfl (Nat.le_of_ble_eq_true rfl) dX1_keep_29 (fun H locs hP hD hS => ?_)
        have hP : va_P D vwCl [(oh, .inr (1, [.ref aR, .int (nI (if 6 ≤ (nI sp) then 0 else sp + 1)), .int (nI kt)]))] H := hP
        have hD : va_D A [(oh, .inr (1, [.ref aR, .int (nI (if 6 ≤ (nI sp) then 0 else sp + 1)), .int (nI kt)]))] := hD
        refine lv_aload_n hx hb dX1_keep_32 rfl (lv_at hl 0 rfl) ?_
        refine va_get (D := D) (ci := 1) (v := .int (nI kt)) (C := RX1) (T := TX1) (N := 3) hx hb hts hin1 hown hK hP 0 rfl rfl 2 (by decide) (hts _ (List.mem_of_getElem? (i := 2) rfl)) (fun _ h9 => h9) rfl dX1_keep_33 ?_
        refine lv_bipush (v := 6) hx hb dX1_keep_36 (by decide) ?_
        have K_8 : ∀ (H : Heap) (locs : List Loc) (ls : Array Slot), va_P D vwCl [(oh, .inr (1, [.ref aR, .int (nI (if 6 ≤ (nI sp) then 0 else sp + 1)), .int (nI (if 6 ≤ (nI kt) then kt else kt + 1))]))] H → va_D A [(oh, .inr (1, [.ref aR, .int (nI (if 6 ≤ (nI sp) then 0 else sp + 1)), .int (nI (if 6 ≤ (nI kt) then kt else kt + 1))]))] → va_S A s.heap H locs → lv_has ls 2 [(0, .ref oh), (1, .int xr)] → W p l e (headSpec wsX1_keep ({ frames := 1, cells := 0, slots := 0, locals := 20 })).room s m ([.ref oh, .int xr] : List Value).toArray below meth c H locs 0 0 (MQ below (va_Qi (fun r (_ : Unit) => r = xr) (fun _ t => va_P D vwCl [(oh, .inr (1, [.ref aR, .int (nI (n_X1_keep_0_1 sp xr)), .int (nI (n_X1_keep_0_2 kt xr))]))] t.heap) A) ([.ref oh, .int xr] : List Value).toArray s 0 0 A) (F0 m 51 ls []) := by
          intro H locs ls hP hD hS hl
          refine lv_iload_n hx hb dX1_keep_51 rfl (lv_at hl 1 rfl) ?_
          have e_9 : n_X1_keep_0_1 sp xr = (if 6 ≤ (nI sp) then 0 else sp + 1) := by unfold n_X1_keep_0_1; rw [if_pos c_2]
          have e_10 : n_X1_keep_0_2 kt xr = (if 6 ≤ (nI kt) then kt else kt + 1) := by unfold n_X1_keep_0_2; rw [if_pos c_2]
          have hPf : va_P D vwCl [(oh, .inr (1, [.ref aR, .int (nI (n_X1_keep_0_1 sp xr)), .int (nI (n_X1_keep_0_2 kt xr))]))] H := (by rw [e_9, e_10]; exact hP)
          exact W.iret hx hb hr (fun t ht hW => ⟨⟨_, (), rfl, rfl, by show va_P D vwCl _ t.heap; rw [ht]; exact hPf⟩, hS.F ht⟩) hS.2.2 dX1_keep_52
        refine lv_icmp_ge (tgt := 51) hx hb dX1_keep_38 (by decide) (fun c_6 => ?_) (fun c_6 => ?_)
        · skip
          have nc_6 := (nI_leI (a := 6) (b := kt) (by omega) (by omega)).mp c_6
          have e_11 : ((nI (if 6 ≤ (nI kt) then kt else kt + 1)) : Int32) = (nI kt) := by rw [if_pos c_6]
          exact K_8 _ _ _ (by rw [e_11]; exact hP) (by rw [e_11]; exact hD) hS (lv_sub hl [0, 1] rfl)
        · skip
          have nc_6 : ¬ (6 ≤ kt) := fun h => c_6 ((nI_leI (a := 6) (b := kt) (by omega) (by omega)).mpr h)
          refine lv_aload_n hx hb dX1_keep_41 rfl (lv_at hl 0 rfl) ?_
          refine lv_dup hx hb dX1_keep_42 rfl ?_
          refine va_get (D := D) (ci := 1) (v := .int (nI kt)) (C := RX1) (T := TX1) (N := 3) hx hb hts hin1 hown hK hP 0 rfl rfl 2 (by decide) (hts _ (List.mem_of_getElem? (i := 2) rfl)) (fun _ h9 => h9) rfl dX1_keep_43 ?_
          refine lv_iconst (v := 1) hx hb dX1_keep_46 (by decide) ?_
          refine lv_iadd hx hb dX1_keep_47 ?_
          refine st1 (nI_add kt 1) ?_
          refine va_put (D := D) (ci := 1) (v := .int (nI (kt + 1))) (ty := .int) (C := RX1) (T := TX1) (N := 3) hx hb hts hin1 tyX1 tyX1_ok nmX1 hown hK hP hD hS 0 rfl rfl 2 (by decide) (hts _ (List.mem_of_getElem? (i := 2) rfl)) (fun _ h9 => h9) rfl (by decide +kernel) rfl rfl (Nat.le_of_ble_eq_true rfl) dX1_keep_48 (fun H locs hP hD hS => ?_)
          have hP : va_P D vwCl [(oh, .inr (1, [.ref aR, .int (nI (if 6 ≤ (nI sp) then 0 else sp + 1)), .int (nI (kt + 1))]))] H := hP
          have hD : va_D A [(oh, .inr (1, [.ref aR, .int (nI (if 6 ≤ (nI sp) then 0 else sp + 1)), .int (nI (kt + 1))]))] := hD
          have e_12 : ((nI (if 6 ≤ (nI kt) then kt else kt + 1)) : Int32) = (nI (kt + 1)) := by rw [if_neg c_6]
          exact K_8 _ _ _ (by rw [e_12]; exact hP) (by rw [e_12]; exact hD) hS (lv_sub hl [0, 1] rfl)
      refine lv_icmp_ge (tgt := 28) hx hb dX1_keep_16 (by decide) (fun c_3 => ?_) (fun c_3 => ?_)
      · skip
        have nc_3 := (nI_leI (a := 6) (b := sp) (by omega) (by omega)).mp c_3
        refine lv_iconst (v := 0) hx hb dX1_keep_28 (by decide) ?_
        have e_13 : ((nI (if 6 ≤ (nI sp) then 0 else sp + 1)) : Int32) = 0 := by first | (rw [if_pos c_3]; done) | (rw [if_pos c_3]; rfl)
        exact W.eq (g2 := (F0 m 29 ls [.int (nI (if 6 ≤ (nI sp) then 0 else sp + 1)), .ref oh])) (by first | (rw [e_13]; done) | (rw [e_13]; rfl)) (K_5 _ _ _ hP hD hS (lv_sub hl [0, 1] rfl))
      · skip
        have nc_3 : ¬ (6 ≤ sp) := fun h => c_3 ((nI_leI (a := 6) (b := sp) (by omega) (by omega)).mpr h)
        refine lv_aload_n hx hb dX1_keep_19 rfl (lv_at hl 0 rfl) ?_
        refine va_get (D := D) (ci := 1) (v := .int (nI sp)) (C := RX1) (T := TX1) (N := 3) hx hb hts hin1 hown hK hP 0 rfl rfl 1 (by decide) (hts _ (List.mem_of_getElem? (i := 1) rfl)) (fun _ h9 => h9) rfl dX1_keep_20 ?_
        refine lv_iconst (v := 1) hx hb dX1_keep_23 (by decide) ?_
        refine lv_iadd hx hb dX1_keep_24 ?_
        refine st1 (nI_add sp 1) ?_
        refine lv_goto (tgt := 29) hx hb dX1_keep_25 (by decide) ?_
        have e_14 : ((nI (if 6 ≤ (nI sp) then 0 else sp + 1)) : Int32) = (nI (sp + 1)) := by rw [if_neg c_3]
        exact W.eq (g2 := (F0 m 29 ls [.int (nI (if 6 ≤ (nI sp) then 0 else sp + 1)), .ref oh])) (by first | (rw [e_14]; done) | (rw [e_14]; rfl)) (K_5 _ _ _ hP hD hS (lv_sub hl [0, 1] rfl))
    · skip
      refine lv_iload_n hx hb dX1_keep_7 rfl (lv_at hl 1 rfl) ?_
      have e_15 : n_X1_keep_0_1 sp xr = sp := by unfold n_X1_keep_0_1; rw [if_neg c_2]
      have e_16 : n_X1_keep_0_2 kt xr = kt := by unfold n_X1_keep_0_2; rw [if_neg c_2]
      have hPf : va_P D vwCl [(oh, .inr (1, [.ref aR, .int (nI (n_X1_keep_0_1 sp xr)), .int (nI (n_X1_keep_0_2 kt xr))]))] H := (by rw [e_15, e_16]; exact hP)
      exact W.iret hx hb hr (fun t ht hW => ⟨⟨_, (), rfl, rfl, by show va_P D vwCl _ t.heap; rw [ht]; exact hPf⟩, hS.F ht⟩) hS.2.2 dX1_keep_8
  exact K0 s.heap [] ls hP hD hS hl
set_option maxHeartbeats 4000000 in
set_option maxRecDepth 100000 in
theorem c_X1_spareRow (l : Launch) (D : va_G) (K : Nat → ClassId) (oh : Nat) (aR : Nat) (gr : Nat → Option Nat) (sp : Nat) (kt : Nat) (ra : Nat) (hsp : sp < 7) (hra : gr sp = some ra) : Met l yX1_spareRow wsX1_spareRow ({ frames := 0, cells := 0, slots := 0, locals := 0 }) (va_Pc [.ref oh] (fun U => Bd D K U ∧ va_P D vwCl [(oh, .inr (1, [.ref aR, .int (nI sp), .int (nI kt)])), (aR, .inl (K 3, 7, .inr (.inr (.inr (.inr gr)))))] U.heap)) (va_Sr (fun (_ : Nat) => True) (fun _ => .ref ra)) 0 0 (fun _ => False) := by
  refine Met.ofW (cc := cX1_spareRow) (maxL := 1) (ret := (some (.object "BlockRounds$Drive"))) (by decide) rfl ?_
  intro p e s m args below meth c s₁ B hml hv
  obtain ⟨rfl, hbd, hP⟩ := hv
  have hx := B.exec
  have hb := B.bytes
  have hr := B.returns
  have hts := atoms_spec (ws := wsX1_spareRow) B.pre
  have hown : s.vm.findClass RX1 = some m.cls := findClass_of_methodNamed B.named
  have hlocks := B.notSynchronized
  have hK := hbd.2
  have hP : va_P D vwCl [(oh, .inr (1, [.ref aR, .int (nI sp), .int (nI kt)])), (aR, .inl (K 3, 7, .inr (.inr (.inr (.inr gr)))))] s.heap := hP
  have hin1 : ∀ w ∈ wsX10, w ∈ wsX1_spareRow := by decide +kernel
  have hl := lv_entry ([.ref oh]) (n := 1) (Nat.le_of_ble_eq_true rfl)
  rw [lg_entry_eq]
  generalize (lg_sl ([.ref oh]) ++ List.replicate (1 - (lg_sl ([.ref oh])).length) Slot.unset).toArray = ls at hl ⊢
  have hl : lv_has ls 1 [(0, .ref oh)] := hl
  refine lv_aload_n hx hb dX1_spareRow_0 rfl (lv_at hl 0 rfl) ?_
  refine va_get (D := D) (ci := 1) (v := .int (nI sp)) (C := RX1) (T := TX1) (N := 3) hx hb hts hin1 hown hK hP 0 rfl rfl 1 (by decide) (hts _ (List.mem_of_getElem? (i := 1) rfl)) (fun _ h9 => h9) rfl dX1_spareRow_1 ?_
  refine lv_if_lt (tgt := 31) hx hb dX1_spareRow_4 (by decide) (fun h_1 => absurd h_1 (nI_nlt (a := sp) (b := 0) (by omega) (by omega))) (fun _ => ?_)
  refine lv_aload_n hx hb dX1_spareRow_7 rfl (lv_at hl 0 rfl) ?_
  refine va_get (D := D) (ci := 1) (v := .int (nI sp)) (C := RX1) (T := TX1) (N := 3) hx hb hts hin1 hown hK hP 0 rfl rfl 1 (by decide) (hts _ (List.mem_of_getElem? (i := 1) rfl)) (fun _ h9 => h9) rfl dX1_spareRow_8 ?_
  refine lv_aload_n hx hb dX1_spareRow_11 rfl (lv_at hl 0 rfl) ?_
  refine va_get (D := D) (ci := 1) (v := .ref aR) (C := RX1) (T := TX1) (N := 3) hx hb hts hin1 hown hK hP 0 rfl rfl 0 (by decide) (hts _ (List.mem_of_getElem? (i := 2) rfl)) (fun _ h9 => h9) rfl dX1_spareRow_12 ?_
  refine va_alen (v := 7) hx hb hK hP 1 3 rfl rfl rfl dX1_spareRow_15 ?_
  refine lv_icmp_ge (tgt := 31) hx hb dX1_spareRow_16 (by decide) (fun h_2 => absurd h_2 (nI_ge (a := sp) (b := 7) (by omega) (by omega))) (fun _ => ?_)
  refine lv_aload_n hx hb dX1_spareRow_19 rfl (lv_at hl 0 rfl) ?_
  refine va_get (D := D) (ci := 1) (v := .ref aR) (C := RX1) (T := TX1) (N := 3) hx hb hts hin1 hown hK hP 0 rfl rfl 0 (by decide) (hts _ (List.mem_of_getElem? (i := 2) rfl)) (fun _ h9 => h9) rfl dX1_spareRow_20 ?_
  refine lv_aload_n hx hb dX1_spareRow_23 rfl (lv_at hl 0 rfl) ?_
  refine va_get (D := D) (ci := 1) (v := .int (nI sp)) (C := RX1) (T := TX1) (N := 3) hx hb hts hin1 hown hK hP 0 rfl rfl 1 (by decide) (hts _ (List.mem_of_getElem? (i := 1) rfl)) (fun _ h9 => h9) rfl dX1_spareRow_24 ?_
  refine n_aldq hx hb hK hP 1 3 rfl rfl sp (by omega) (by decide) hra dX1_spareRow_27 ?_
  refine lv_goto (tgt := 32) hx hb dX1_spareRow_28 (by decide) ?_
  exact W.aret hx hb hr (Or.inl ⟨_, rfl⟩) (Or.inr ⟨_, rfl⟩) (fun t ht hW => ⟨0, rfl, trivial, ht⟩) (fun q hq => absurd hq List.not_mem_nil) dX1_spareRow_32
set_option maxHeartbeats 4000000 in
set_option maxRecDepth 100000 in
theorem c_X1_prepare (l : Launch) (D : va_G) (K : Nat → ClassId) (oh : Nat) (aR : Nat) (gr : Nat → Option Nat) (sp : Nat) (kt : Nat) (a : Nat → Nat) (n : Nat) (d : Nat → Nat → Int32) (ro : Nat → Nat) (rn : Nat) (rv : Nat → Nat → Int32) (hsp : sp < 7) (hn : n ≤ 32) (hrn : rn ≤ 32) (hgr : gr sp = some (ro 0)) : Met l yX1_prepare wsX1_prepare ({ frames := 3, cells := 0, slots := 0, locals := 82 }) (va_Pc [.ref oh, .ref (a 0)] (fun U => Bd D K U ∧ va_P D vwCl ([(oh, .inr (1, [.ref aR, .int (nI sp), .int (nI kt)])), (aR, .inl (K 3, 7, .inr (.inr (.inr (.inr gr)))))] ++ (drW K a n d ++ (drW K ro rn rv ++ []))) U.heap ∧ va_D (fun _ => True) ([(oh, .inr (1, [.ref aR, .int (nI sp), .int (nI kt)])), (aR, .inl (K 3, 7, .inr (.inr (.inr (.inr gr)))))] ++ (drW K a n d ++ (drW K ro rn rv ++ []))))) (va_Qv (fun (_ : Unit) => True) (fun _ t => va_P D vwCl ([(oh, .inr (1, [.ref aR, .int (nI sp), .int (nI kt)])), (aR, .inl (K 3, 7, .inr (.inr (.inr (.inr gr)))))] ++ (drW K a n d ++ (drW K ro n (cpD d rv) ++ []))) t.heap) (inW ([(oh, .inr (1, [.ref aR, .int (nI sp), .int (nI kt)])), (aR, .inl (K 3, 7, .inr (.inr (.inr (.inr gr)))))] ++ (drW K a n d ++ (drW K ro rn rv ++ []))))) 0 0 (inW ([(oh, .inr (1, [.ref aR, .int (nI sp), .int (nI kt)])), (aR, .inl (K 3, 7, .inr (.inr (.inr (.inr gr)))))] ++ (drW K a n d ++ (drW K ro rn rv ++ [])))) := by
  refine Met.ofW (cc := cX1_prepare) (maxL := 3) (ret := none) (by decide) rfl ?_
  intro p e s m args below meth c s₁ B hml hv
  obtain ⟨rfl, hbd, hP, hD0⟩ := hv
  have hx := B.exec
  have hb := B.bytes
  have hr := B.returns
  have hts := atoms_spec (ws := wsX1_prepare) B.pre
  have hown : s.vm.findClass RX1 = some m.cls := findClass_of_methodNamed B.named
  have hlocks := B.notSynchronized
  have hK := hbd.2
  have hP : va_P D vwCl ([(oh, .inr (1, [.ref aR, .int (nI sp), .int (nI kt)])), (aR, .inl (K 3, 7, .inr (.inr (.inr (.inr gr)))))] ++ (drW K a n d ++ (drW K ro rn rv ++ []))) s.heap := hP
  have hD := hD0.own
  generalize hAe : inW ([(oh, .inr (1, [.ref aR, .int (nI sp), .int (nI kt)])), (aR, .inl (K 3, 7, .inr (.inr (.inr (.inr gr)))))] ++ (drW K a n d ++ (drW K ro rn rv ++ []))) = A at hD ⊢
  have hS : va_S A s.heap s.heap [] := va_S.rf
  have hl := lv_entry ([.ref oh, .ref (a 0)]) (n := 3) (Nat.le_of_ble_eq_true rfl)
  rw [lg_entry_eq]
  generalize (lg_sl ([.ref oh, .ref (a 0)]) ++ List.replicate (3 - (lg_sl ([.ref oh, .ref (a 0)])).length) Slot.unset).toArray = ls at hl ⊢
  have hl : lv_has ls 3 [(0, .ref oh), (1, .ref (a 0))] := hl
  have K0 : ∀ (H : Heap) (locs : List Loc) (ls : Array Slot), va_P D vwCl ([(oh, .inr (1, [.ref aR, .int (nI sp), .int (nI kt)])), (aR, .inl (K 3, 7, .inr (.inr (.inr (.inr gr)))))] ++ (drW K a n d ++ (drW K ro rn rv ++ []))) H → va_D A ([(oh, .inr (1, [.ref aR, .int (nI sp), .int (nI kt)])), (aR, .inl (K 3, 7, .inr (.inr (.inr (.inr gr)))))] ++ (drW K a n d ++ (drW K ro rn rv ++ []))) → va_S A s.heap H locs → lv_has ls 3 [(0, .ref oh), (1, .ref (a 0))] → W p l e (headSpec wsX1_prepare ({ frames := 3, cells := 0, slots := 0, locals := 82 })).room s m ([.ref oh, .ref (a 0)] : List Value).toArray below meth c H locs 0 0 (MQ below (va_Qv (fun (_ : Unit) => True) (fun _ t => va_P D vwCl ([(oh, .inr (1, [.ref aR, .int (nI sp), .int (nI kt)])), (aR, .inl (K 3, 7, .inr (.inr (.inr (.inr gr)))))] ++ (drW K a n d ++ (drW K ro n (cpD d rv) ++ []))) t.heap) A) ([.ref oh, .ref (a 0)] : List Value).toArray s 0 0 A) (F0 m 0 ls []) := by
    intro H locs ls hP hD hS hl
    refine lv_aload_n hx hb dX1_prepare_0 rfl (lv_at hl 0 rfl) ?_
    have hPc := hP.sub (ws' := [(oh, .inr (1, [.ref aR, .int (nI sp), .int (nI kt)])), (aR, .inl (K 3, 7, .inr (.inr (.inr (.inr gr)))))]) [0, 1] rfl
    refine va_csr (va_Run.run (va_runV (As := []) (rest := []) ⟨hx, hb, hml, hown, hts⟩ (c_X1_spareRow l D K oh aR gr sp kt (ro 0) (by omega) hgr) (cwV 0 hts gX1_prepare_X1_spareRow rfl rfl rfl (by decide +kernel) ⟨Nat.le_of_ble_eq_true rfl, Nat.le_of_ble_eq_true rfl⟩) (pre_rd hbd hPc (ci := 1) (q0 := 0) rfl rfl) rfl rfl hl.1 rfl (lv_room (Nat.le_of_ble_eq_true rfl)) dX1_prepare_1 ⟨Nat.zero_le _, Nat.zero_le _⟩)) (fun _ _ => ?_)
    refine lv_astore_n (lv' := [(2, .ref (ro 0)), (0, .ref oh), (1, .ref (a 0))]) hx hb dX1_prepare_4 rfl hl (by decide) rfl (fun ls hl => ?_)
    refine lv_aload_n hx hb dX1_prepare_5 rfl (lv_at hl 0 rfl) ?_
    refine lv_ifnull hx hb dX1_prepare_6 ?_
    refine lv_aload_n hx hb dX1_prepare_9 rfl (lv_at hl 0 rfl) ?_
    refine lv_aload_n hx hb dX1_prepare_10 rfl (lv_at hl 2 rfl) ?_
    have hPc := hP.sub (ws' := (drW K ro rn rv ++ (drW K a n d ++ []))) [14, 15, 16, 17, 18, 19, 20, 21, 22, 23, 24, 25, 2, 3, 4, 5, 6, 7, 8, 9, 10, 11, 12, 13] rfl
    have hDc : va_D (fun _ => True) (drW K ro rn rv ++ (drW K a n d ++ [])) := (hD.sub (ws' := (drW K ro rn rv ++ (drW K a n d ++ []))) [14, 15, 16, 17, 18, 19, 20, 21, 22, 23, 24, 25, 2, 3, 4, 5, 6, 7, 8, 9, 10, 11, 12, 13] (by decide +kernel) rfl).weaken (fun _ _ _ _ => trivial)
    refine kw_v (W1 := ([(oh, .inr (1, [.ref aR, .int (nI sp), .int (nI kt)])), (aR, .inl (K 3, 7, .inr (.inr (.inr (.inr gr)))))] ++ (drW K a n d ++ (drW K ro n (cpD d rv) ++ [])))) (w1 := (drW K ro n (cpD d rv) ++ (drW K a n d ++ []))) (va_runVN (As := [.ref (a 0)]) (rest := []) ⟨hx, hb, hml, hown, hts⟩ (cb_X0_copyFrom l D K ro rn rv a n d hrn hn) ⟨va_cnB 1 hts gX1_prepare_X0_copyFrom_n22 rfl rfl rfl (hbd.1.nw 6 rfl) (hts _ (List.mem_of_getElem? (i := 9) rfl)) (by decide +kernel) ⟨Nat.le_of_ble_eq_true rfl, Nat.le_of_ble_eq_true rfl⟩, (hts _ (List.mem_of_getElem? (i := 8) rfl)), (hts _ (List.mem_of_getElem? (i := 10) rfl))⟩ (pre_wr hbd hPc hDc (ci := 0) (q0 := 0) rfl rfl) rfl rfl hl.1 rfl (lv_room (Nat.le_of_ble_eq_true rfl)) dX1_prepare_11 ⟨Nat.zero_le _, Nat.zero_le _⟩) hP hD hS [14, 15, 16, 17, 18, 19, 20, 21, 22, 23, 24, 25, 2, 3, 4, 5, 6, 7, 8, 9, 10, 11, 12, 13] [0, 1] 26 rfl rfl rfl (Eq.trans (b := List.map some ([(oh, .inr (1, [.ref aR, .int (nI sp), .int (nI kt)])), (aR, .inl (K 3, 7, .inr (.inr (.inr (.inr gr)))))])) rfl rfl) (by decide +kernel) (by decide +kernel) (by simp only [List.map_append, drW_fst, List.map_cons, List.map_nil]) (fun H locs hP hD hS => ?_)
    have hPf : va_P D vwCl ([(oh, .inr (1, [.ref aR, .int (nI sp), .int (nI kt)])), (aR, .inl (K 3, 7, .inr (.inr (.inr (.inr gr)))))] ++ (drW K a n d ++ (drW K ro n (cpD d rv) ++ []))) H := hP
    exact W.vret hx hb hr (fun t ht hW => ⟨⟨(), rfl, trivial, by show va_P D vwCl _ t.heap; rw [ht]; exact hPf⟩, hS.F ht⟩) hS.2.2 dX1_prepare_14
  exact K0 s.heap [] ls hP hD hS hl
set_option maxHeartbeats 4000000 in
set_option maxRecDepth 100000 in
theorem c_X1_takeBack_0 (l : Launch) (D : va_G) (K : Nat → ClassId) (oh : Nat) (aR : Nat) (sp : Nat) (a : Nat → Nat)  : Met l yX1_takeBack wsX1_takeBack ({ frames := 0, cells := 0, slots := 0, locals := 0 }) (va_Pc [.ref oh, .ref (a 0)] (fun U => Bd D K U ∧ va_P D vwCl [(oh, .inr (1, [.ref aR, .int (nI sp), .int 0]))] U.heap ∧ va_D (fun _ => True) [(oh, .inr (1, [.ref aR, .int (nI sp), .int 0]))])) (va_Qi (fun r (_ : Unit) => r = (-5)) (fun _ t => va_P D vwCl [(oh, .inr (1, [.ref aR, .int (nI sp), .int 0]))] t.heap) (inW [(oh, .inr (1, [.ref aR, .int (nI sp), .int 0]))])) 0 0 (inW [(oh, .inr (1, [.ref aR, .int (nI sp), .int 0]))]) := by
  refine Met.ofW (cc := cX1_takeBack) (maxL := 3) (ret := (some .int)) (by decide) rfl ?_
  intro p e s m args below meth c s₁ B hml hv
  obtain ⟨rfl, hbd, hP, hD0⟩ := hv
  have hx := B.exec
  have hb := B.bytes
  have hr := B.returns
  have hts := atoms_spec (ws := wsX1_takeBack) B.pre
  have hown : s.vm.findClass RX1 = some m.cls := findClass_of_methodNamed B.named
  have hlocks := B.notSynchronized
  have hK := hbd.2
  have hP : va_P D vwCl [(oh, .inr (1, [.ref aR, .int (nI sp), .int 0]))] s.heap := hP
  have hin1 : ∀ w ∈ wsX10, w ∈ wsX1_takeBack := by decide +kernel
  have hD := hD0.own
  generalize hAe : inW [(oh, .inr (1, [.ref aR, .int (nI sp), .int 0]))] = A at hD ⊢
  have hS : va_S A s.heap s.heap [] := va_S.rf
  have hl := lv_entry ([.ref oh, .ref (a 0)]) (n := 3) (Nat.le_of_ble_eq_true rfl)
  rw [lg_entry_eq]
  generalize (lg_sl ([.ref oh, .ref (a 0)]) ++ List.replicate (3 - (lg_sl ([.ref oh, .ref (a 0)])).length) Slot.unset).toArray = ls at hl ⊢
  have hl : lv_has ls 3 [(0, .ref oh), (1, .ref (a 0))] := hl
  have K0 : ∀ (H : Heap) (locs : List Loc) (ls : Array Slot), va_P D vwCl [(oh, .inr (1, [.ref aR, .int (nI sp), .int 0]))] H → va_D A [(oh, .inr (1, [.ref aR, .int (nI sp), .int 0]))] → va_S A s.heap H locs → lv_has ls 3 [(0, .ref oh), (1, .ref (a 0))] → W p l e (headSpec wsX1_takeBack ({ frames := 0, cells := 0, slots := 0, locals := 0 })).room s m ([.ref oh, .ref (a 0)] : List Value).toArray below meth c H locs 0 0 (MQ below (va_Qi (fun r (_ : Unit) => r = (-5)) (fun _ t => va_P D vwCl [(oh, .inr (1, [.ref aR, .int (nI sp), .int 0]))] t.heap) A) ([.ref oh, .ref (a 0)] : List Value).toArray s 0 0 A) (F0 m 0 ls []) := by
    intro H locs ls hP hD hS hl
    refine lv_aload_n hx hb dX1_takeBack_0 rfl (lv_at hl 0 rfl) ?_
    refine va_get (D := D) (ci := 1) (v := .int 0) (C := RX1) (T := TX1) (N := 3) hx hb hts hin1 hown hK hP 0 rfl rfl 2 (by decide) (hts _ (List.mem_of_getElem? (i := 1) rfl)) (fun _ h9 => h9) rfl dX1_takeBack_1 ?_
    refine lv_if_ne (tgt := 10) hx hb dX1_takeBack_4 (by decide) (fun h_1 => absurd (by decide) h_1) (fun _ => ?_)
    refine lv_bipush (v := (-5)) hx hb dX1_takeBack_7 (by decide) ?_
    have hPf : va_P D vwCl [(oh, .inr (1, [.ref aR, .int (nI sp), .int 0]))] H := hP
    exact W.iret hx hb hr (fun t ht hW => ⟨⟨_, (), rfl, rfl, by show va_P D vwCl _ t.heap; rw [ht]; exact hPf⟩, hS.F ht⟩) hS.2.2 dX1_takeBack_9
  exact K0 s.heap [] ls hP hD hS hl
set_option maxHeartbeats 4000000 in
set_option maxRecDepth 100000 in
theorem c_X1_takeBack_z (l : Launch) (D : va_G) (K : Nat → ClassId) (oh : Nat) (aR : Nat) (gr : Nat → Option Nat) (kt : Nat) (a : Nat → Nat) (n : Nat) (d : Nat → Nat → Int32) (ro : Nat → Nat) (rn : Nat) (rv : Nat → Nat → Int32) (hk1 : 1 ≤ kt) (hkt : kt ≤ 6) (hn : n ≤ 32) (hrn : rn ≤ 32) (hgr : gr 6 = some (ro 0)) : Met l yX1_takeBack wsX1_takeBack ({ frames := 3, cells := 0, slots := 0, locals := 82 }) (va_Pc [.ref oh, .ref (a 0)] (fun U => Bd D K U ∧ va_P D vwCl ([(oh, .inr (1, [.ref aR, .int 0, .int (nI kt)])), (aR, .inl (K 3, 7, .inr (.inr (.inr (.inr gr)))))] ++ (drW K a n d ++ (drW K ro rn rv ++ []))) U.heap ∧ va_D (fun _ => True) ([(oh, .inr (1, [.ref aR, .int 0, .int (nI kt)])), (aR, .inl (K 3, 7, .inr (.inr (.inr (.inr gr)))))] ++ (drW K a n d ++ (drW K ro rn rv ++ []))))) (va_Qi (fun r (_ : Unit) => r = (nI (kt - 1))) (fun _ t => va_P D vwCl ([(oh, .inr (1, [.ref aR, .int 6, .int (nI (kt - 1))])), (aR, .inl (K 3, 7, .inr (.inr (.inr (.inr gr)))))] ++ (drW K a rn (cpD rv d) ++ (drW K ro rn rv ++ []))) t.heap) (inW ([(oh, .inr (1, [.ref aR, .int 0, .int (nI kt)])), (aR, .inl (K 3, 7, .inr (.inr (.inr (.inr gr)))))] ++ (drW K a n d ++ (drW K ro rn rv ++ []))))) 0 0 (inW ([(oh, .inr (1, [.ref aR, .int 0, .int (nI kt)])), (aR, .inl (K 3, 7, .inr (.inr (.inr (.inr gr)))))] ++ (drW K a n d ++ (drW K ro rn rv ++ [])))) := by
  refine Met.ofW (cc := cX1_takeBack) (maxL := 3) (ret := (some .int)) (by decide) rfl ?_
  intro p e s m args below meth c s₁ B hml hv
  obtain ⟨rfl, hbd, hP, hD0⟩ := hv
  have hx := B.exec
  have hb := B.bytes
  have hr := B.returns
  have hts := atoms_spec (ws := wsX1_takeBack) B.pre
  have hown : s.vm.findClass RX1 = some m.cls := findClass_of_methodNamed B.named
  have hlocks := B.notSynchronized
  have hK := hbd.2
  have hP : va_P D vwCl ([(oh, .inr (1, [.ref aR, .int 0, .int (nI kt)])), (aR, .inl (K 3, 7, .inr (.inr (.inr (.inr gr)))))] ++ (drW K a n d ++ (drW K ro rn rv ++ []))) s.heap := hP
  have hin1 : ∀ w ∈ wsX10, w ∈ wsX1_takeBack := by decide +kernel
  have hD := hD0.own
  generalize hAe : inW ([(oh, .inr (1, [.ref aR, .int 0, .int (nI kt)])), (aR, .inl (K 3, 7, .inr (.inr (.inr (.inr gr)))))] ++ (drW K a n d ++ (drW K ro rn rv ++ []))) = A at hD ⊢
  have hS : va_S A s.heap s.heap [] := va_S.rf
  have hl := lv_entry ([.ref oh, .ref (a 0)]) (n := 3) (Nat.le_of_ble_eq_true rfl)
  rw [lg_entry_eq]
  generalize (lg_sl ([.ref oh, .ref (a 0)]) ++ List.replicate (3 - (lg_sl ([.ref oh, .ref (a 0)])).length) Slot.unset).toArray = ls at hl ⊢
  have hl : lv_has ls 3 [(0, .ref oh), (1, .ref (a 0))] := hl
  have K0 : ∀ (H : Heap) (locs : List Loc) (ls : Array Slot), va_P D vwCl ([(oh, .inr (1, [.ref aR, .int 0, .int (nI kt)])), (aR, .inl (K 3, 7, .inr (.inr (.inr (.inr gr)))))] ++ (drW K a n d ++ (drW K ro rn rv ++ []))) H → va_D A ([(oh, .inr (1, [.ref aR, .int 0, .int (nI kt)])), (aR, .inl (K 3, 7, .inr (.inr (.inr (.inr gr)))))] ++ (drW K a n d ++ (drW K ro rn rv ++ []))) → va_S A s.heap H locs → lv_has ls 3 [(0, .ref oh), (1, .ref (a 0))] → W p l e (headSpec wsX1_takeBack ({ frames := 3, cells := 0, slots := 0, locals := 82 })).room s m ([.ref oh, .ref (a 0)] : List Value).toArray below meth c H locs 0 0 (MQ below (va_Qi (fun r (_ : Unit) => r = (nI (kt - 1))) (fun _ t => va_P D vwCl ([(oh, .inr (1, [.ref aR, .int 6, .int (nI (kt - 1))])), (aR, .inl (K 3, 7, .inr (.inr (.inr (.inr gr)))))] ++ (drW K a rn (cpD rv d) ++ (drW K ro rn rv ++ []))) t.heap) A) ([.ref oh, .ref (a 0)] : List Value).toArray s 0 0 A) (F0 m 0 ls []) := by
    intro H locs ls hP hD hS hl
    refine lv_aload_n hx hb dX1_takeBack_0 rfl (lv_at hl 0 rfl) ?_
    refine va_get (D := D) (ci := 1) (v := .int (nI kt)) (C := RX1) (T := TX1) (N := 3) hx hb hts hin1 hown hK hP 0 rfl rfl 2 (by decide) (hts _ (List.mem_of_getElem? (i := 1) rfl)) (fun _ h9 => h9) rfl dX1_takeBack_1 ?_
    refine lv_if_ne (tgt := 10) hx hb dX1_takeBack_4 (by decide) (fun _ => ?_) (fun h_1 => absurd h_1 (fun h => absurd ((nI_eq (a := kt) (b := 0) (by omega) (by omega)).mp h) (by omega)))
    refine lv_aload_n hx hb dX1_takeBack_10 rfl (lv_at hl 0 rfl) ?_
    refine lv_dup hx hb dX1_takeBack_11 rfl ?_
    refine va_get (D := D) (ci := 1) (v := .int (nI kt)) (C := RX1) (T := TX1) (N := 3) hx hb hts hin1 hown hK hP 0 rfl rfl 2 (by decide) (hts _ (List.mem_of_getElem? (i := 1) rfl)) (fun _ h9 => h9) rfl dX1_takeBack_12 ?_
    refine lv_iconst (v := 1) hx hb dX1_takeBack_15 (by decide) ?_
    refine lv_isub hx hb dX1_takeBack_16 ?_
    refine st1 (pk_sub (a := kt) (b := 1) (by omega)) ?_
    refine va_put (D := D) (ci := 1) (v := .int (nI (kt - 1))) (ty := .int) (C := RX1) (T := TX1) (N := 3) hx hb hts hin1 tyX1 tyX1_ok nmX1 hown hK hP hD hS 0 rfl rfl 2 (by decide) (hts _ (List.mem_of_getElem? (i := 1) rfl)) (fun _ h9 => h9) rfl (by decide +kernel) rfl rfl (Nat.le_of_ble_eq_true rfl) dX1_takeBack_17 (fun H locs hP hD hS => ?_)
    have hP : va_P D vwCl ([(oh, .inr (1, [.ref aR, .int 0, .int (nI (kt - 1))])), (aR, .inl (K 3, 7, .inr (.inr (.inr (.inr gr)))))] ++ (drW K a n d ++ (drW K ro rn rv ++ []))) H := hP
    have hD : va_D A ([(oh, .inr (1, [.ref aR, .int 0, .int (nI (kt - 1))])), (aR, .inl (K 3, 7, .inr (.inr (.inr (.inr gr)))))] ++ (drW K a n d ++ (drW K ro rn rv ++ []))) := hD
    refine lv_aload_n hx hb dX1_takeBack_20 rfl (lv_at hl 0 rfl) ?_
    refine lv_aload_n hx hb dX1_takeBack_21 rfl (lv_at hl 0 rfl) ?_
    refine va_get (D := D) (ci := 1) (v := .int 0) (C := RX1) (T := TX1) (N := 3) hx hb hts hin1 hown hK hP 0 rfl rfl 1 (by decide) (hts _ (List.mem_of_getElem? (i := 2) rfl)) (fun _ h9 => h9) rfl dX1_takeBack_22 ?_
    refine lv_if_le (tgt := 37) hx hb dX1_takeBack_25 (by decide) (fun _ => ?_) (fun h_2 => absurd (by decide) h_2)
    refine lv_bipush (v := 6) hx hb dX1_takeBack_37 (by decide) ?_
    refine va_put (D := D) (ci := 1) (v := .int 6) (ty := .int) (C := RX1) (T := TX1) (N := 3) hx hb hts hin1 tyX1 tyX1_ok nmX1 hown hK hP hD hS 0 rfl rfl 1 (by decide) (hts _ (List.mem_of_getElem? (i := 2) rfl)) (fun _ h9 => h9) rfl (by decide +kernel) rfl rfl (Nat.le_of_ble_eq_true rfl) dX1_takeBack_39 (fun H locs hP hD hS => ?_)
    have hP : va_P D vwCl ([(oh, .inr (1, [.ref aR, .int 6, .int (nI (kt - 1))])), (aR, .inl (K 3, 7, .inr (.inr (.inr (.inr gr)))))] ++ (drW K a n d ++ (drW K ro rn rv ++ []))) H := hP
    have hD : va_D A ([(oh, .inr (1, [.ref aR, .int 6, .int (nI (kt - 1))])), (aR, .inl (K 3, 7, .inr (.inr (.inr (.inr gr)))))] ++ (drW K a n d ++ (drW K ro rn rv ++ []))) := hD
    refine lv_aload_n hx hb dX1_takeBack_42 rfl (lv_at hl 0 rfl) ?_
    have hPc := hP.sub (ws' := [(oh, .inr (1, [.ref aR, .int 6, .int (nI (kt - 1))])), (aR, .inl (K 3, 7, .inr (.inr (.inr (.inr gr)))))]) [0, 1] rfl
    refine va_csr (va_Run.run (va_runV (As := []) (rest := []) ⟨hx, hb, hml, hown, hts⟩ (c_X1_spareRow l D K oh aR gr 6 (kt - 1) (ro 0) (by omega) hgr) (cwV 0 hts gX1_takeBack_X1_spareRow rfl rfl rfl (by decide +kernel) ⟨Nat.le_of_ble_eq_true rfl, Nat.le_of_ble_eq_true rfl⟩) (pre_rd hbd hPc (ci := 1) (q0 := 0) rfl rfl) rfl rfl hl.1 rfl (lv_room (Nat.le_of_ble_eq_true rfl)) dX1_takeBack_43 ⟨Nat.zero_le _, Nat.zero_le _⟩)) (fun _ _ => ?_)
    refine lv_astore_n (lv' := [(2, .ref (ro 0)), (0, .ref oh), (1, .ref (a 0))]) hx hb dX1_takeBack_46 rfl hl (by decide) rfl (fun ls hl => ?_)
    refine lv_aload_n hx hb dX1_takeBack_47 rfl (lv_at hl 0 rfl) ?_
    refine lv_ifnull hx hb dX1_takeBack_48 ?_
    refine lv_aload_n hx hb dX1_takeBack_51 rfl (lv_at hl 2 rfl) ?_
    refine lv_aload_n hx hb dX1_takeBack_52 rfl (lv_at hl 0 rfl) ?_
    have hPc := hP.sub (ws' := (drW K a n d ++ (drW K ro rn rv ++ []))) [2, 3, 4, 5, 6, 7, 8, 9, 10, 11, 12, 13, 14, 15, 16, 17, 18, 19, 20, 21, 22, 23, 24, 25] rfl
    have hDc : va_D (fun _ => True) (drW K a n d ++ (drW K ro rn rv ++ [])) := (hD.sub (ws' := (drW K a n d ++ (drW K ro rn rv ++ []))) [2, 3, 4, 5, 6, 7, 8, 9, 10, 11, 12, 13, 14, 15, 16, 17, 18, 19, 20, 21, 22, 23, 24, 25] (by decide +kernel) rfl).weaken (fun _ _ _ _ => trivial)
    refine kw_v (W1 := ([(oh, .inr (1, [.ref aR, .int 6, .int (nI (kt - 1))])), (aR, .inl (K 3, 7, .inr (.inr (.inr (.inr gr)))))] ++ (drW K a rn (cpD rv d) ++ (drW K ro rn rv ++ [])))) (w1 := (drW K a rn (cpD rv d) ++ (drW K ro rn rv ++ []))) (va_runVN (As := [.ref (ro 0)]) (rest := []) ⟨hx, hb, hml, hown, hts⟩ (cb_X0_copyFrom l D K a n d ro rn rv hn hrn) ⟨va_cnB 1 hts gX1_takeBack_X0_copyFrom_n22 rfl rfl rfl (hbd.1.nw 6 rfl) (hts _ (List.mem_of_getElem? (i := 10) rfl)) (by decide +kernel) ⟨Nat.le_of_ble_eq_true rfl, Nat.le_of_ble_eq_true rfl⟩, (hts _ (List.mem_of_getElem? (i := 9) rfl)), (hts _ (List.mem_of_getElem? (i := 11) rfl))⟩ (pre_wr hbd hPc hDc (ci := 0) (q0 := 0) rfl rfl) rfl rfl hl.1 rfl (lv_room (Nat.le_of_ble_eq_true rfl)) dX1_takeBack_53 ⟨Nat.zero_le _, Nat.zero_le _⟩) hP hD hS [2, 3, 4, 5, 6, 7, 8, 9, 10, 11, 12, 13, 14, 15, 16, 17, 18, 19, 20, 21, 22, 23, 24, 25] [0, 1] 26 rfl rfl rfl (Eq.trans (b := List.map some ([(oh, .inr (1, [.ref aR, .int 6, .int (nI (kt - 1))])), (aR, .inl (K 3, 7, .inr (.inr (.inr (.inr gr)))))])) rfl rfl) (by decide +kernel) (by decide +kernel) (by simp only [List.map_append, drW_fst, List.map_cons, List.map_nil]) (fun H locs hP hD hS => ?_)
    refine lv_aload_n hx hb dX1_takeBack_56 rfl (lv_at hl 1 rfl) ?_
    refine va_get (D := D) (ci := 1) (v := .int (nI (kt - 1))) (C := RX1) (T := TX1) (N := 3) hx hb hts hin1 hown hK hP 0 rfl rfl 2 (by decide) (hts _ (List.mem_of_getElem? (i := 1) rfl)) (fun _ h9 => h9) rfl dX1_takeBack_57 ?_
    have hPf : va_P D vwCl ([(oh, .inr (1, [.ref aR, .int 6, .int (nI (kt - 1))])), (aR, .inl (K 3, 7, .inr (.inr (.inr (.inr gr)))))] ++ (drW K a rn (cpD rv d) ++ (drW K ro rn rv ++ []))) H := hP
    exact W.iret hx hb hr (fun t ht hW => ⟨⟨_, (), rfl, rfl, by show va_P D vwCl _ t.heap; rw [ht]; exact hPf⟩, hS.F ht⟩) hS.2.2 dX1_takeBack_60
  exact K0 s.heap [] ls hP hD hS hl
set_option maxHeartbeats 4000000 in
set_option maxRecDepth 100000 in
theorem c_X1_takeBack_s (l : Launch) (D : va_G) (K : Nat → ClassId) (oh : Nat) (aR : Nat) (gr : Nat → Option Nat) (sp : Nat) (kt : Nat) (a : Nat → Nat) (n : Nat) (d : Nat → Nat → Int32) (ro : Nat → Nat) (rn : Nat) (rv : Nat → Nat → Int32) (hsp : sp < 6) (hk1 : 1 ≤ kt) (hkt : kt ≤ 6) (hn : n ≤ 32) (hrn : rn ≤ 32) (hgr : gr sp = some (ro 0)) : Met l yX1_takeBack wsX1_takeBack ({ frames := 3, cells := 0, slots := 0, locals := 82 }) (va_Pc [.ref oh, .ref (a 0)] (fun U => Bd D K U ∧ va_P D vwCl ([(oh, .inr (1, [.ref aR, .int (nI (sp + 1)), .int (nI kt)])), (aR, .inl (K 3, 7, .inr (.inr (.inr (.inr gr)))))] ++ (drW K a n d ++ (drW K ro rn rv ++ []))) U.heap ∧ va_D (fun _ => True) ([(oh, .inr (1, [.ref aR, .int (nI (sp + 1)), .int (nI kt)])), (aR, .inl (K 3, 7, .inr (.inr (.inr (.inr gr)))))] ++ (drW K a n d ++ (drW K ro rn rv ++ []))))) (va_Qi (fun r (_ : Unit) => r = (nI (kt - 1))) (fun _ t => va_P D vwCl ([(oh, .inr (1, [.ref aR, .int (nI (sp + 1 - 1)), .int (nI (kt - 1))])), (aR, .inl (K 3, 7, .inr (.inr (.inr (.inr gr)))))] ++ (drW K a rn (cpD rv d) ++ (drW K ro rn rv ++ []))) t.heap) (inW ([(oh, .inr (1, [.ref aR, .int (nI (sp + 1)), .int (nI kt)])), (aR, .inl (K 3, 7, .inr (.inr (.inr (.inr gr)))))] ++ (drW K a n d ++ (drW K ro rn rv ++ []))))) 0 0 (inW ([(oh, .inr (1, [.ref aR, .int (nI (sp + 1)), .int (nI kt)])), (aR, .inl (K 3, 7, .inr (.inr (.inr (.inr gr)))))] ++ (drW K a n d ++ (drW K ro rn rv ++ [])))) := by
  refine Met.ofW (cc := cX1_takeBack) (maxL := 3) (ret := (some .int)) (by decide) rfl ?_
  intro p e s m args below meth c s₁ B hml hv
  obtain ⟨rfl, hbd, hP, hD0⟩ := hv
  have hx := B.exec
  have hb := B.bytes
  have hr := B.returns
  have hts := atoms_spec (ws := wsX1_takeBack) B.pre
  have hown : s.vm.findClass RX1 = some m.cls := findClass_of_methodNamed B.named
  have hlocks := B.notSynchronized
  have hK := hbd.2
  have hP : va_P D vwCl ([(oh, .inr (1, [.ref aR, .int (nI (sp + 1)), .int (nI kt)])), (aR, .inl (K 3, 7, .inr (.inr (.inr (.inr gr)))))] ++ (drW K a n d ++ (drW K ro rn rv ++ []))) s.heap := hP
  have hin1 : ∀ w ∈ wsX10, w ∈ wsX1_takeBack := by decide +kernel
  have hD := hD0.own
  generalize hAe : inW ([(oh, .inr (1, [.ref aR, .int (nI (sp + 1)), .int (nI kt)])), (aR, .inl (K 3, 7, .inr (.inr (.inr (.inr gr)))))] ++ (drW K a n d ++ (drW K ro rn rv ++ []))) = A at hD ⊢
  have hS : va_S A s.heap s.heap [] := va_S.rf
  have hl := lv_entry ([.ref oh, .ref (a 0)]) (n := 3) (Nat.le_of_ble_eq_true rfl)
  rw [lg_entry_eq]
  generalize (lg_sl ([.ref oh, .ref (a 0)]) ++ List.replicate (3 - (lg_sl ([.ref oh, .ref (a 0)])).length) Slot.unset).toArray = ls at hl ⊢
  have hl : lv_has ls 3 [(0, .ref oh), (1, .ref (a 0))] := hl
  have K0 : ∀ (H : Heap) (locs : List Loc) (ls : Array Slot), va_P D vwCl ([(oh, .inr (1, [.ref aR, .int (nI (sp + 1)), .int (nI kt)])), (aR, .inl (K 3, 7, .inr (.inr (.inr (.inr gr)))))] ++ (drW K a n d ++ (drW K ro rn rv ++ []))) H → va_D A ([(oh, .inr (1, [.ref aR, .int (nI (sp + 1)), .int (nI kt)])), (aR, .inl (K 3, 7, .inr (.inr (.inr (.inr gr)))))] ++ (drW K a n d ++ (drW K ro rn rv ++ []))) → va_S A s.heap H locs → lv_has ls 3 [(0, .ref oh), (1, .ref (a 0))] → W p l e (headSpec wsX1_takeBack ({ frames := 3, cells := 0, slots := 0, locals := 82 })).room s m ([.ref oh, .ref (a 0)] : List Value).toArray below meth c H locs 0 0 (MQ below (va_Qi (fun r (_ : Unit) => r = (nI (kt - 1))) (fun _ t => va_P D vwCl ([(oh, .inr (1, [.ref aR, .int (nI (sp + 1 - 1)), .int (nI (kt - 1))])), (aR, .inl (K 3, 7, .inr (.inr (.inr (.inr gr)))))] ++ (drW K a rn (cpD rv d) ++ (drW K ro rn rv ++ []))) t.heap) A) ([.ref oh, .ref (a 0)] : List Value).toArray s 0 0 A) (F0 m 0 ls []) := by
    intro H locs ls hP hD hS hl
    refine lv_aload_n hx hb dX1_takeBack_0 rfl (lv_at hl 0 rfl) ?_
    refine va_get (D := D) (ci := 1) (v := .int (nI kt)) (C := RX1) (T := TX1) (N := 3) hx hb hts hin1 hown hK hP 0 rfl rfl 2 (by decide) (hts _ (List.mem_of_getElem? (i := 1) rfl)) (fun _ h9 => h9) rfl dX1_takeBack_1 ?_
    refine lv_if_ne (tgt := 10) hx hb dX1_takeBack_4 (by decide) (fun _ => ?_) (fun h_1 => absurd h_1 (fun h => absurd ((nI_eq (a := kt) (b := 0) (by omega) (by omega)).mp h) (by omega)))
    refine lv_aload_n hx hb dX1_takeBack_10 rfl (lv_at hl 0 rfl) ?_
    refine lv_dup hx hb dX1_takeBack_11 rfl ?_
    refine va_get (D := D) (ci := 1) (v := .int (nI kt)) (C := RX1) (T := TX1) (N := 3) hx hb hts hin1 hown hK hP 0 rfl rfl 2 (by decide) (hts _ (List.mem_of_getElem? (i := 1) rfl)) (fun _ h9 => h9) rfl dX1_takeBack_12 ?_
    refine lv_iconst (v := 1) hx hb dX1_takeBack_15 (by decide) ?_
    refine lv_isub hx hb dX1_takeBack_16 ?_
    refine st1 (pk_sub (a := kt) (b := 1) (by omega)) ?_
    refine va_put (D := D) (ci := 1) (v := .int (nI (kt - 1))) (ty := .int) (C := RX1) (T := TX1) (N := 3) hx hb hts hin1 tyX1 tyX1_ok nmX1 hown hK hP hD hS 0 rfl rfl 2 (by decide) (hts _ (List.mem_of_getElem? (i := 1) rfl)) (fun _ h9 => h9) rfl (by decide +kernel) rfl rfl (Nat.le_of_ble_eq_true rfl) dX1_takeBack_17 (fun H locs hP hD hS => ?_)
    have hP : va_P D vwCl ([(oh, .inr (1, [.ref aR, .int (nI (sp + 1)), .int (nI (kt - 1))])), (aR, .inl (K 3, 7, .inr (.inr (.inr (.inr gr)))))] ++ (drW K a n d ++ (drW K ro rn rv ++ []))) H := hP
    have hD : va_D A ([(oh, .inr (1, [.ref aR, .int (nI (sp + 1)), .int (nI (kt - 1))])), (aR, .inl (K 3, 7, .inr (.inr (.inr (.inr gr)))))] ++ (drW K a n d ++ (drW K ro rn rv ++ []))) := hD
    refine lv_aload_n hx hb dX1_takeBack_20 rfl (lv_at hl 0 rfl) ?_
    refine lv_aload_n hx hb dX1_takeBack_21 rfl (lv_at hl 0 rfl) ?_
    refine va_get (D := D) (ci := 1) (v := .int (nI (sp + 1))) (C := RX1) (T := TX1) (N := 3) hx hb hts hin1 hown hK hP 0 rfl rfl 1 (by decide) (hts _ (List.mem_of_getElem? (i := 2) rfl)) (fun _ h9 => h9) rfl dX1_takeBack_22 ?_
    refine lv_if_le (tgt := 37) hx hb dX1_takeBack_25 (by decide) (fun h_2 => absurd h_2 (nI_ge (a := 0) (b := (sp + 1)) (by omega) (by omega))) (fun _ => ?_)
    refine lv_aload_n hx hb dX1_takeBack_28 rfl (lv_at hl 0 rfl) ?_
    refine va_get (D := D) (ci := 1) (v := .int (nI (sp + 1))) (C := RX1) (T := TX1) (N := 3) hx hb hts hin1 hown hK hP 0 rfl rfl 1 (by decide) (hts _ (List.mem_of_getElem? (i := 2) rfl)) (fun _ h9 => h9) rfl dX1_takeBack_29 ?_
    refine lv_iconst (v := 1) hx hb dX1_takeBack_32 (by decide) ?_
    refine lv_isub hx hb dX1_takeBack_33 ?_
    refine st1 (pk_sub (a := (sp + 1)) (b := 1) (by omega)) ?_
    refine lv_goto (tgt := 39) hx hb dX1_takeBack_34 (by decide) ?_
    refine va_put (D := D) (ci := 1) (v := .int (nI (sp + 1 - 1))) (ty := .int) (C := RX1) (T := TX1) (N := 3) hx hb hts hin1 tyX1 tyX1_ok nmX1 hown hK hP hD hS 0 rfl rfl 1 (by decide) (hts _ (List.mem_of_getElem? (i := 2) rfl)) (fun _ h9 => h9) rfl (by decide +kernel) rfl rfl (Nat.le_of_ble_eq_true rfl) dX1_takeBack_39 (fun H locs hP hD hS => ?_)
    have hP : va_P D vwCl ([(oh, .inr (1, [.ref aR, .int (nI (sp + 1 - 1)), .int (nI (kt - 1))])), (aR, .inl (K 3, 7, .inr (.inr (.inr (.inr gr)))))] ++ (drW K a n d ++ (drW K ro rn rv ++ []))) H := hP
    have hD : va_D A ([(oh, .inr (1, [.ref aR, .int (nI (sp + 1 - 1)), .int (nI (kt - 1))])), (aR, .inl (K 3, 7, .inr (.inr (.inr (.inr gr)))))] ++ (drW K a n d ++ (drW K ro rn rv ++ []))) := hD
    refine lv_aload_n hx hb dX1_takeBack_42 rfl (lv_at hl 0 rfl) ?_
    have hPc := hP.sub (ws' := [(oh, .inr (1, [.ref aR, .int (nI (sp + 1 - 1)), .int (nI (kt - 1))])), (aR, .inl (K 3, 7, .inr (.inr (.inr (.inr gr)))))]) [0, 1] rfl
    refine va_csr (va_Run.run (va_runV (As := []) (rest := []) ⟨hx, hb, hml, hown, hts⟩ (c_X1_spareRow l D K oh aR gr (sp + 1 - 1) (kt - 1) (ro 0) (by omega) hgr) (cwV 0 hts gX1_takeBack_X1_spareRow rfl rfl rfl (by decide +kernel) ⟨Nat.le_of_ble_eq_true rfl, Nat.le_of_ble_eq_true rfl⟩) (pre_rd hbd hPc (ci := 1) (q0 := 0) rfl rfl) rfl rfl hl.1 rfl (lv_room (Nat.le_of_ble_eq_true rfl)) dX1_takeBack_43 ⟨Nat.zero_le _, Nat.zero_le _⟩)) (fun _ _ => ?_)
    refine lv_astore_n (lv' := [(2, .ref (ro 0)), (0, .ref oh), (1, .ref (a 0))]) hx hb dX1_takeBack_46 rfl hl (by decide) rfl (fun ls hl => ?_)
    refine lv_aload_n hx hb dX1_takeBack_47 rfl (lv_at hl 0 rfl) ?_
    refine lv_ifnull hx hb dX1_takeBack_48 ?_
    refine lv_aload_n hx hb dX1_takeBack_51 rfl (lv_at hl 2 rfl) ?_
    refine lv_aload_n hx hb dX1_takeBack_52 rfl (lv_at hl 0 rfl) ?_
    have hPc := hP.sub (ws' := (drW K a n d ++ (drW K ro rn rv ++ []))) [2, 3, 4, 5, 6, 7, 8, 9, 10, 11, 12, 13, 14, 15, 16, 17, 18, 19, 20, 21, 22, 23, 24, 25] rfl
    have hDc : va_D (fun _ => True) (drW K a n d ++ (drW K ro rn rv ++ [])) := (hD.sub (ws' := (drW K a n d ++ (drW K ro rn rv ++ []))) [2, 3, 4, 5, 6, 7, 8, 9, 10, 11, 12, 13, 14, 15, 16, 17, 18, 19, 20, 21, 22, 23, 24, 25] (by decide +kernel) rfl).weaken (fun _ _ _ _ => trivial)
    refine kw_v (W1 := ([(oh, .inr (1, [.ref aR, .int (nI (sp + 1 - 1)), .int (nI (kt - 1))])), (aR, .inl (K 3, 7, .inr (.inr (.inr (.inr gr)))))] ++ (drW K a rn (cpD rv d) ++ (drW K ro rn rv ++ [])))) (w1 := (drW K a rn (cpD rv d) ++ (drW K ro rn rv ++ []))) (va_runVN (As := [.ref (ro 0)]) (rest := []) ⟨hx, hb, hml, hown, hts⟩ (cb_X0_copyFrom l D K a n d ro rn rv hn hrn) ⟨va_cnB 1 hts gX1_takeBack_X0_copyFrom_n22 rfl rfl rfl (hbd.1.nw 6 rfl) (hts _ (List.mem_of_getElem? (i := 10) rfl)) (by decide +kernel) ⟨Nat.le_of_ble_eq_true rfl, Nat.le_of_ble_eq_true rfl⟩, (hts _ (List.mem_of_getElem? (i := 9) rfl)), (hts _ (List.mem_of_getElem? (i := 11) rfl))⟩ (pre_wr hbd hPc hDc (ci := 0) (q0 := 0) rfl rfl) rfl rfl hl.1 rfl (lv_room (Nat.le_of_ble_eq_true rfl)) dX1_takeBack_53 ⟨Nat.zero_le _, Nat.zero_le _⟩) hP hD hS [2, 3, 4, 5, 6, 7, 8, 9, 10, 11, 12, 13, 14, 15, 16, 17, 18, 19, 20, 21, 22, 23, 24, 25] [0, 1] 26 rfl rfl rfl (Eq.trans (b := List.map some ([(oh, .inr (1, [.ref aR, .int (nI (sp + 1 - 1)), .int (nI (kt - 1))])), (aR, .inl (K 3, 7, .inr (.inr (.inr (.inr gr)))))])) rfl rfl) (by decide +kernel) (by decide +kernel) (by simp only [List.map_append, drW_fst, List.map_cons, List.map_nil]) (fun H locs hP hD hS => ?_)
    refine lv_aload_n hx hb dX1_takeBack_56 rfl (lv_at hl 1 rfl) ?_
    refine va_get (D := D) (ci := 1) (v := .int (nI (kt - 1))) (C := RX1) (T := TX1) (N := 3) hx hb hts hin1 hown hK hP 0 rfl rfl 2 (by decide) (hts _ (List.mem_of_getElem? (i := 1) rfl)) (fun _ h9 => h9) rfl dX1_takeBack_57 ?_
    have hPf : va_P D vwCl ([(oh, .inr (1, [.ref aR, .int (nI (sp + 1 - 1)), .int (nI (kt - 1))])), (aR, .inl (K 3, 7, .inr (.inr (.inr (.inr gr)))))] ++ (drW K a rn (cpD rv d) ++ (drW K ro rn rv ++ []))) H := hP
    exact W.iret hx hb hr (fun t ht hW => ⟨⟨_, (), rfl, rfl, by show va_P D vwCl _ t.heap; rw [ht]; exact hPf⟩, hS.F ht⟩) hS.2.2 dX1_takeBack_60
  exact K0 s.heap [] ls hP hD hS hl
def pvS : Nat → Nat
  | 0 => 6
  | q + 1 => q
theorem c_X1_takeBack (l : Launch) (D : va_G) (K : Nat → ClassId) (oh : Nat) (aR : Nat) (gr : Nat → Option Nat) (sp : Nat) (kt : Nat) (a : Nat → Nat) (n : Nat) (d : Nat → Nat → Int32) (ro : Nat → Nat) (rn : Nat) (rv : Nat → Nat → Int32) (hsp : sp < 7) (hk1 : 1 ≤ kt) (hkt : kt ≤ 6) (hn : n ≤ 32) (hrn : rn ≤ 32) (hgr : gr (pvS sp) = some (ro 0)) : Met l yX1_takeBack wsX1_takeBack ({ frames := 3, cells := 0, slots := 0, locals := 82 }) (va_Pc [.ref oh, .ref (a 0)] (fun U => Bd D K U ∧ va_P D vwCl ([(oh, .inr (1, [.ref aR, .int (nI sp), .int (nI kt)])), (aR, .inl (K 3, 7, .inr (.inr (.inr (.inr gr)))))] ++ (drW K a n d ++ (drW K ro rn rv ++ []))) U.heap ∧ va_D (fun _ => True) ([(oh, .inr (1, [.ref aR, .int (nI sp), .int (nI kt)])), (aR, .inl (K 3, 7, .inr (.inr (.inr (.inr gr)))))] ++ (drW K a n d ++ (drW K ro rn rv ++ []))))) (va_Qi (fun r (_ : Unit) => r = (nI (kt - 1))) (fun _ t => va_P D vwCl ([(oh, .inr (1, [.ref aR, .int (nI (pvS sp)), .int (nI (kt - 1))])), (aR, .inl (K 3, 7, .inr (.inr (.inr (.inr gr)))))] ++ (drW K a rn (cpD rv d) ++ (drW K ro rn rv ++ []))) t.heap) (inW ([(oh, .inr (1, [.ref aR, .int (nI sp), .int (nI kt)])), (aR, .inl (K 3, 7, .inr (.inr (.inr (.inr gr)))))] ++ (drW K a n d ++ (drW K ro rn rv ++ []))))) 0 0 (inW ([(oh, .inr (1, [.ref aR, .int (nI sp), .int (nI kt)])), (aR, .inl (K 3, 7, .inr (.inr (.inr (.inr gr)))))] ++ (drW K a n d ++ (drW K ro rn rv ++ [])))) := by
  cases sp with
  | zero => exact c_X1_takeBack_z l D K oh aR gr kt a n d ro rn rv hk1 hkt hn hrn hgr
  | succ sp => exact c_X1_takeBack_s l D K oh aR gr sp kt a n d ro rn rv (by omega) hk1 hkt hn hrn hgr
