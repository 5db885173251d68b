theorem newK0 {D : va_G} {K : Nat → ClassId} {s : State} {cA : ClassId} (h : va_K D vwCl (tysK K ++ [(cA, .int)]) s) : cA = K 0 := by
  have h1 : s.vm.findClass _ = some (K 0) := (h.2 0 _ rfl).2
  have h2 : s.vm.findClass _ = some cA := (h.2 4 _ rfl).2
  exact Option.some.inj (h2.symm.trans h1)
theorem newK1 {D : va_G} {K : Nat → ClassId} {s : State} {cA : ClassId} (h : va_K D vwCl (tysK K ++ [(cA, .char)]) s) : cA = K 1 := by
  have h1 : s.vm.findClass _ = some (K 1) := (h.2 1 _ rfl).2
  have h2 : s.vm.findClass _ = some cA := (h.2 4 _ rfl).2
  exact Option.some.inj (h2.symm.trans h1)
theorem newK2 {D : va_G} {K : Nat → ClassId} {s : State} {cA : ClassId} (h : va_K D vwCl (tysK K ++ [(cA, .boolean)]) s) : cA = K 2 := by
  have h1 : s.vm.findClass _ = some (K 2) := (h.2 2 _ rfl).2
  have h2 : s.vm.findClass _ = some cA := (h.2 4 _ rfl).2
  exact Option.some.inj (h2.symm.trans h1)
theorem newK3 {D : va_G} {K : Nat → ClassId} {s : State} {cA : ClassId} (h : va_K D vwCl (tysK K ++ [(cA, .object RX0)]) s) : cA = K 3 := by
  obtain ⟨_, _, _, _, _, h1⟩ := (h.2 3 _ rfl).2
  obtain ⟨_, _, _, _, _, h2⟩ := (h.2 4 _ rfl).2
  exact Option.some.inj (h2.symm.trans h1)
theorem pre_i {s : State} {H : Heap} {D : va_G} {K : Nat → ClassId} {wc : va_W} {b : Nat} (hbd : Bd D K s) (hP : va_P D vwCl wc H) {A : Nat → Prop} (hDc : va_D A wc) : PreS s H (va_Pc [.ref b] (fun U => Bd D K U ∧ U.heap.size = H.size ∧ va_P D vwCl wc U.heap ∧ va_D (fun _ => True) wc)) [.ref b] :=
  ⟨fun a U g mk h => ⟨h.1, h.2.1.call, h.2.2⟩, fun U hU hW => ⟨rfl, hbd.warm hW, by rw [hU], by rw [hU]; exact hP, hDc.weaken (fun _ _ _ _ => trivial)⟩⟩
theorem pre_iA {s : State} {H : Heap} {D : va_G} {K : Nat → ClassId} {wc : va_W} {b : Nat} (hbd : Bd D K s) (hao : va_AO RX0 s) (hP : va_P D vwCl wc H) {A : Nat → Prop} (hDc : va_D A wc) : PreS s H (va_Pc [.ref b] (fun U => Bd D K U ∧ va_AO RX0 U ∧ U.heap.size = H.size ∧ va_P D vwCl wc U.heap ∧ va_D (fun _ => True) wc)) [.ref b] :=
  ⟨fun a U g mk h => ⟨h.1, h.2.1.call, va_AO.moved (u := U) (U := U.calling g mk a) (Vm.Alike.refl U.vm) h.2.2.1, h.2.2.2⟩, fun U hU hW => ⟨rfl, hbd.warm hW, hao.moved hW.alike, by rw [hU], by rw [hU]; exact hP, hDc.weaken (fun _ _ _ _ => trivial)⟩⟩
set_option maxHeartbeats 4000000 in
set_option maxRecDepth 100000 in
theorem ci_X3 (l : Launch) (D : va_G) (K : Nat → ClassId) (h0 sz : Nat) : Met l yX3_init wsX3_init ({ frames := 1, cells := 4, slots := 128, locals := 12 }) (va_Pc [.ref h0] (fun U => Bd D K U ∧ U.heap.size = sz ∧ va_P D vwCl [(h0, .inr (3, [.null, .null, .null, .null, .int 0]))] U.heap ∧ va_D (fun _ => True) [(h0, .inr (3, [.null, .null, .null, .null, .int 0]))])) (va_Qv (fun u : Nat → Nat => u 0 = h0) (fun u t => va_P D vwCl [((u 0), .inr (3, [.ref (u 1), .ref (u 2), .ref (u 3), .ref (u 4), .int 0])), ((u 1), .inl (K 0, 32, .inl (fun _ => 0))), ((u 2), .inl (K 0, 32, .inl (fun _ => 0))), ((u 3), .inl (K 0, 32, .inl (fun _ => 0))), ((u 4), .inl (K 0, 32, .inl (fun _ => 0)))] t.heap ∧ va_D (va_A [(h0, .inr (3, [.null, .null, .null, .null, .int 0]))] sz) [((u 0), .inr (3, [.ref (u 1), .ref (u 2), .ref (u 3), .ref (u 4), .int 0])), ((u 1), .inl (K 0, 32, .inl (fun _ => 0))), ((u 2), .inl (K 0, 32, .inl (fun _ => 0))), ((u 3), .inl (K 0, 32, .inl (fun _ => 0))), ((u 4), .inl (K 0, 32, .inl (fun _ => 0)))]) (va_A [(h0, .inr (3, [.null, .null, .null, .null, .int 0]))] sz)) 4 128 (va_A [(h0, .inr (3, [.null, .null, .null, .null, .int 0]))] sz) := by
  refine Met.ofW (cc := cX3_init) (maxL := 1) (ret := none) (by decide) rfl ?_
  intro p e s m args below meth c s₁ B hml hv
  obtain ⟨rfl, hbd, hsz, hP, hD0⟩ := hv
  have hx := B.exec
  have hb := B.bytes
  have hr := B.returns
  have hts := atoms_spec (ws := wsX3_init) B.pre
  have hown : s.vm.findClass RX3 = some m.cls := findClass_of_methodNamed B.named
  have hlocks := B.notSynchronized
  have hin : meth.name = "<init>" := (name_of_methodNamed B.named B.method).1
  have hK := hbd.2
  have hin3 : ∀ w ∈ wsX30, w ∈ wsX3_init := by decide +kernel
  subst hsz
  have hD := hD0.self (sz := s.heap.size)
  generalize hAe : va_A [(h0, .inr (3, [.null, .null, .null, .null, .int 0]))] s.heap.size = A at hD ⊢
  have hA : ∀ q : Nat, s.heap.size ≤ q → A q := fun q h => by rw [← hAe]; exact Or.inr h
  have hS : va_S A s.heap s.heap [] := va_S.rf
  have hP : va_P D vwCl [(h0, .inr (3, [.null, .null, .null, .null, .int 0]))] s.heap := hP
  have hl := lv_entry ([.ref h0]) (n := 1) (Nat.le_of_ble_eq_true rfl)
  rw [lg_entry_eq]
  generalize (lg_sl ([.ref h0]) ++ List.replicate (1 - (lg_sl ([.ref h0])).length) Slot.unset).toArray = ls at hl ⊢
  have hl : lv_has ls 1 [(0, .ref h0)] := hl
  refine lv_aload_n hx hb dX3_init_0 rfl (lv_at hl 0 rfl) ?_
  refine W.objInit hx hb hown (hts _ (List.mem_of_getElem? (i := 1) rfl)) (hts _ (List.mem_of_getElem? (i := 2) rfl)) (hts _ (List.mem_of_getElem? (i := 3) rfl)) rfl (by rw [hml]; exact hl.1) rfl dX3_init_1 (Nat.le_of_ble_eq_true rfl) (Nat.le_of_ble_eq_true rfl) ?_
  refine W.eq (g2 := (F0 m 4 ls [])) rfl ?_
  refine lv_aload_n hx hb dX3_init_4 rfl (lv_at hl 0 rfl) ?_
  refine lv_bipush (v := 32) hx hb dX3_init_5 (by decide) ?_
  refine va_newa (D := D) (atype := .int) (ty := .int) (N' := 32) (a0 := (32, .inl (fun _ => 0))) hx hb (hts _ (List.mem_of_getElem? (i := 4) rfl)) rfl hK hP hD hS hA (fun cA => rfl) (by decide) (by decide) (Nat.le_of_ble_eq_true rfl) (Nat.le_of_ble_eq_true rfl) (Nat.le_of_ble_eq_true rfl) dX3_init_7 (fun q_1 cA H hK9 hP hD hS => ?_)
  obtain rfl := newK0 hK9
  have hP : va_P D vwCl [(h0, .inr (3, [.null, .null, .null, .null, .int 0])), (q_1, .inl (K 0, 32, .inl (fun _ => 0)))] H := hP
  have hD : va_D A [(h0, .inr (3, [.null, .null, .null, .null, .int 0])), (q_1, .inl (K 0, 32, .inl (fun _ => 0)))] := hD
  refine W.widen (k := 1) (n := 32) (Nat.le_of_ble_eq_true rfl) (Nat.le_of_ble_eq_true rfl) ?_
  refine va_putF (D := D) (ci := 3) (v := .ref q_1) (ty := (.array .int)) (C := RX3) (T := TX3) (N := 5) hx hb hts hin3 tyX3 tyX3_ok nmX3 hown hK hP hD hS 0 rfl rfl 0 (by decide) (hts _ (List.mem_of_getElem? (i := 5) rfl)) (fun _ h9 => h9) rfl hin rfl (by decide +kernel) rfl rfl (Nat.le_of_ble_eq_true rfl) dX3_init_9 (fun H locs hP hD hS => ?_)
  have hP : va_P D vwCl [(h0, .inr (3, [.ref q_1, .null, .null, .null, .int 0])), (q_1, .inl (K 0, 32, .inl (fun _ => 0)))] H := hP
  have hD : va_D A [(h0, .inr (3, [.ref q_1, .null, .null, .null, .int 0])), (q_1, .inl (K 0, 32, .inl (fun _ => 0)))] := hD
  refine lv_aload_n hx hb dX3_init_12 rfl (lv_at hl 0 rfl) ?_
  refine lv_bipush (v := 32) hx hb dX3_init_13 (by decide) ?_
  refine va_newa (D := D) (atype := .int) (ty := .int) (N' := 32) (a0 := (32, .inl (fun _ => 0))) hx hb (hts _ (List.mem_of_getElem? (i := 4) rfl)) rfl hK hP hD hS hA (fun cA => rfl) (by decide) (by decide) (Nat.le_of_ble_eq_true rfl) (Nat.le_of_ble_eq_true rfl) (Nat.le_of_ble_eq_true rfl) dX3_init_15 (fun q_2 cA H hK9 hP hD hS => ?_)
  obtain rfl := newK0 hK9
  have hP : va_P D vwCl [(h0, .inr (3, [.ref q_1, .null, .null, .null, .int 0])), (q_1, .inl (K 0, 32, .inl (fun _ => 0))), (q_2, .inl (K 0, 32, .inl (fun _ => 0)))] H := hP
  have hD : va_D A [(h0, .inr (3, [.ref q_1, .null, .null, .null, .int 0])), (q_1, .inl (K 0, 32, .inl (fun _ => 0))), (q_2, .inl (K 0, 32, .inl (fun _ => 0)))] := hD
  refine W.widen (k := 2) (n := 64) (Nat.le_of_ble_eq_true rfl) (Nat.le_of_ble_eq_true rfl) ?_
  refine va_putF (D := D) (ci := 3) (v := .ref q_2) (ty := (.array .int)) (C := RX3) (T := TX3) (N := 5) hx hb hts hin3 tyX3 tyX3_ok nmX3 hown hK hP hD hS 0 rfl rfl 1 (by decide) (hts _ (List.mem_of_getElem? (i := 6) rfl)) (fun _ h9 => h9) rfl hin rfl (by decide +kernel) rfl rfl (Nat.le_of_ble_eq_true rfl) dX3_init_17 (fun H locs hP hD hS => ?_)
  have hP : va_P D vwCl [(h0, .inr (3, [.ref q_1, .ref q_2, .null, .null, .int 0])), (q_1, .inl (K 0, 32, .inl (fun _ => 0))), (q_2, .inl (K 0, 32, .inl (fun _ => 0)))] H := hP
  have hD : va_D A [(h0, .inr (3, [.ref q_1, .ref q_2, .null, .null, .int 0])), (q_1, .inl (K 0, 32, .inl (fun _ => 0))), (q_2, .inl (K 0, 32, .inl (fun _ => 0)))] := hD
  refine lv_aload_n hx hb dX3_init_20 rfl (lv_at hl 0 rfl) ?_
  refine lv_bipush (v := 32) hx hb dX3_init_21 (by decide) ?_
  refine va_newa (D := D) (atype := .int) (ty := .int) (N' := 32) (a0 := (32, .inl (fun _ => 0))) hx hb (hts _ (List.mem_of_getElem? (i := 4) rfl)) rfl hK hP hD hS hA (fun cA => rfl) (by decide) (by decide) (Nat.le_of_ble_eq_true rfl) (Nat.le_of_ble_eq_true rfl) (Nat.le_of_ble_eq_true rfl) dX3_init_23 (fun q_3 cA H hK9 hP hD hS => ?_)
  obtain rfl := newK0 hK9
  have hP : va_P D vwCl [(h0, .inr (3, [.ref q_1, .ref q_2, .null, .null, .int 0])), (q_1, .inl (K 0, 32, .inl (fun _ => 0))), (q_2, .inl (K 0, 32, .inl (fun _ => 0))), (q_3, .inl (K 0, 32, .inl (fun _ => 0)))] H := hP
  have hD : va_D A [(h0, .inr (3, [.ref q_1, .ref q_2, .null, .null, .int 0])), (q_1, .inl (K 0, 32, .inl (fun _ => 0))), (q_2, .inl (K 0, 32, .inl (fun _ => 0))), (q_3, .inl (K 0, 32, .inl (fun _ => 0)))] := hD
  refine W.widen (k := 3) (n := 96) (Nat.le_of_ble_eq_true rfl) (Nat.le_of_ble_eq_true rfl) ?_
  refine va_putF (D := D) (ci := 3) (v := .ref q_3) (ty := (.array .int)) (C := RX3) (T := TX3) (N := 5) hx hb hts hin3 tyX3 tyX3_ok nmX3 hown hK hP hD hS 0 rfl rfl 2 (by decide) (hts _ (List.mem_of_getElem? (i := 7) rfl)) (fun _ h9 => h9) rfl hin rfl (by decide +kernel) rfl rfl (Nat.le_of_ble_eq_true rfl) dX3_init_25 (fun H locs hP hD hS => ?_)
  have hP : va_P D vwCl [(h0, .inr (3, [.ref q_1, .ref q_2, .ref q_3, .null, .int 0])), (q_1, .inl (K 0, 32, .inl (fun _ => 0))), (q_2, .inl (K 0, 32, .inl (fun _ => 0))), (q_3, .inl (K 0, 32, .inl (fun _ => 0)))] H := hP
  have hD : va_D A [(h0, .inr (3, [.ref q_1, .ref q_2, .ref q_3, .null, .int 0])), (q_1, .inl (K 0, 32, .inl (fun _ => 0))), (q_2, .inl (K 0, 32, .inl (fun _ => 0))), (q_3, .inl (K 0, 32, .inl (fun _ => 0)))] := hD
  refine lv_aload_n hx hb dX3_init_28 rfl (lv_at hl 0 rfl) ?_
  refine lv_bipush (v := 32) hx hb dX3_init_29 (by decide) ?_
  refine va_newa (D := D) (atype := .int) (ty := .int) (N' := 32) (a0 := (32, .inl (fun _ => 0))) hx hb (hts _ (List.mem_of_getElem? (i := 4) rfl)) rfl hK hP hD hS hA (fun cA => rfl) (by decide) (by decide) (Nat.le_of_ble_eq_true rfl) (Nat.le_of_ble_eq_true rfl) (Nat.le_of_ble_eq_true rfl) dX3_init_31 (fun q_4 cA H hK9 hP hD hS => ?_)
  obtain rfl := newK0 hK9
  have hP : va_P D vwCl [(h0, .inr (3, [.ref q_1, .ref q_2, .ref q_3, .null, .int 0])), (q_1, .inl (K 0, 32, .inl (fun _ => 0))), (q_2, .inl (K 0, 32, .inl (fun _ => 0))), (q_3, .inl (K 0, 32, .inl (fun _ => 0))), (q_4, .inl (K 0, 32, .inl (fun _ => 0)))] H := hP
  have hD : va_D A [(h0, .inr (3, [.ref q_1, .ref q_2, .ref q_3, .null, .int 0])), (q_1, .inl (K 0, 32, .inl (fun _ => 0))), (q_2, .inl (K 0, 32, .inl (fun _ => 0))), (q_3, .inl (K 0, 32, .inl (fun _ => 0))), (q_4, .inl (K 0, 32, .inl (fun _ => 0)))] := hD
  refine W.widen (k := 4) (n := 128) (Nat.le_of_ble_eq_true rfl) (Nat.le_of_ble_eq_true rfl) ?_
  refine va_putF (D := D) (ci := 3) (v := .ref q_4) (ty := (.array .int)) (C := RX3) (T := TX3) (N := 5) hx hb hts hin3 tyX3 tyX3_ok nmX3 hown hK hP hD hS 0 rfl rfl 3 (by decide) (hts _ (List.mem_of_getElem? (i := 8) rfl)) (fun _ h9 => h9) rfl hin rfl (by decide +kernel) rfl rfl (Nat.le_of_ble_eq_true rfl) dX3_init_33 (fun H locs hP hD hS => ?_)
  have hP : va_P D vwCl [(h0, .inr (3, [.ref q_1, .ref q_2, .ref q_3, .ref q_4, .int 0])), (q_1, .inl (K 0, 32, .inl (fun _ => 0))), (q_2, .inl (K 0, 32, .inl (fun _ => 0))), (q_3, .inl (K 0, 32, .inl (fun _ => 0))), (q_4, .inl (K 0, 32, .inl (fun _ => 0)))] H := hP
  have hD : va_D A [(h0, .inr (3, [.ref q_1, .ref q_2, .ref q_3, .ref q_4, .int 0])), (q_1, .inl (K 0, 32, .inl (fun _ => 0))), (q_2, .inl (K 0, 32, .inl (fun _ => 0))), (q_3, .inl (K 0, 32, .inl (fun _ => 0))), (q_4, .inl (K 0, 32, .inl (fun _ => 0)))] := hD
  refine lv_aload_n hx hb dX3_init_36 rfl (lv_at hl 0 rfl) ?_
  refine lv_iconst (v := 0) hx hb dX3_init_37 (by decide) ?_
  refine va_put (D := D) (ci := 3) (v := .int 0) (ty := .int) (C := RX3) (T := TX3) (N := 5) hx hb hts hin3 tyX3 tyX3_ok nmX3 hown hK hP hD hS 0 rfl rfl 4 (by decide) (hts _ (List.mem_of_getElem? (i := 9) rfl)) (fun _ h9 => h9) rfl (by decide +kernel) rfl rfl (Nat.le_of_ble_eq_true rfl) dX3_init_38 (fun H locs hP hD hS => ?_)
  have hP : va_P D vwCl [(h0, .inr (3, [.ref q_1, .ref q_2, .ref q_3, .ref q_4, .int 0])), (q_1, .inl (K 0, 32, .inl (fun _ => 0))), (q_2, .inl (K 0, 32, .inl (fun _ => 0))), (q_3, .inl (K 0, 32, .inl (fun _ => 0))), (q_4, .inl (K 0, 32, .inl (fun _ => 0)))] H := hP
  have hD : va_D A [(h0, .inr (3, [.ref q_1, .ref q_2, .ref q_3, .ref q_4, .int 0])), (q_1, .inl (K 0, 32, .inl (fun _ => 0))), (q_2, .inl (K 0, 32, .inl (fun _ => 0))), (q_3, .inl (K 0, 32, .inl (fun _ => 0))), (q_4, .inl (K 0, 32, .inl (fun _ => 0)))] := hD
  have hP9 := hP.sub (ws' := [(((fun k => ([h0, q_1, q_2, q_3, q_4] : List Nat).getD k 0) 0), .inr (3, [.ref ((fun k => ([h0, q_1, q_2, q_3, q_4] : List Nat).getD k 0) 1), .ref ((fun k => ([h0, q_1, q_2, q_3, q_4] : List Nat).getD k 0) 2), .ref ((fun k => ([h0, q_1, q_2, q_3, q_4] : List Nat).getD k 0) 3), .ref ((fun k => ([h0, q_1, q_2, q_3, q_4] : List Nat).getD k 0) 4), .int 0])), (((fun k => ([h0, q_1, q_2, q_3, q_4] : List Nat).getD k 0) 1), .inl (K 0, 32, .inl (fun _ => 0))), (((fun k => ([h0, q_1, q_2, q_3, q_4] : List Nat).getD k 0) 2), .inl (K 0, 32, .inl (fun _ => 0))), (((fun k => ([h0, q_1, q_2, q_3, q_4] : List Nat).getD k 0) 3), .inl (K 0, 32, .inl (fun _ => 0))), (((fun k => ([h0, q_1, q_2, q_3, q_4] : List Nat).getD k 0) 4), .inl (K 0, 32, .inl (fun _ => 0)))]) [0, 1, 2, 3, 4] rfl
  have hD9 := hD.sub (ws' := [(((fun k => ([h0, q_1, q_2, q_3, q_4] : List Nat).getD k 0) 0), .inr (3, [.ref ((fun k => ([h0, q_1, q_2, q_3, q_4] : List Nat).getD k 0) 1), .ref ((fun k => ([h0, q_1, q_2, q_3, q_4] : List Nat).getD k 0) 2), .ref ((fun k => ([h0, q_1, q_2, q_3, q_4] : List Nat).getD k 0) 3), .ref ((fun k => ([h0, q_1, q_2, q_3, q_4] : List Nat).getD k 0) 4), .int 0])), (((fun k => ([h0, q_1, q_2, q_3, q_4] : List Nat).getD k 0) 1), .inl (K 0, 32, .inl (fun _ => 0))), (((fun k => ([h0, q_1, q_2, q_3, q_4] : List Nat).getD k 0) 2), .inl (K 0, 32, .inl (fun _ => 0))), (((fun k => ([h0, q_1, q_2, q_3, q_4] : List Nat).getD k 0) 3), .inl (K 0, 32, .inl (fun _ => 0))), (((fun k => ([h0, q_1, q_2, q_3, q_4] : List Nat).getD k 0) 4), .inl (K 0, 32, .inl (fun _ => 0)))]) [0, 1, 2, 3, 4] (by decide +kernel) rfl
  exact W.vret hx hb hr (fun t ht hW => ⟨⟨(fun k => ([h0, q_1, q_2, q_3, q_4] : List Nat).getD k 0), rfl, rfl, by rw [ht]; exact hP9, hD9⟩, hS.F ht⟩) hS.2.2 dX3_init_41
set_option maxHeartbeats 4000000 in
set_option maxRecDepth 100000 in
theorem ci_X0 (l : Launch) (D : va_G) (K : Nat → ClassId) (h0 sz : Nat) : Met l yX0_init wsX0_init ({ frames := 2, cells := 11, slots := 298, locals := 32 }) (va_Pc [.ref h0] (fun U => Bd D K U ∧ U.heap.size = sz ∧ va_P D vwCl [(h0, .inr (0, [.int 0, .null, .null, .null, .int 0, .int 0, .int 0, .int 0, .int 0]))] U.heap ∧ va_D (fun _ => True) [(h0, .inr (0, [.int 0, .null, .null, .null, .int 0, .int 0, .int 0, .int 0, .int 0]))])) (va_Qv (fun u : Nat → Nat => u 0 = h0) (fun u t => va_P D vwCl (drW K u 16 (fun _ _ => 0)) t.heap ∧ va_D (va_A [(h0, .inr (0, [.int 0, .null, .null, .null, .int 0, .int 0, .int 0, .int 0, .int 0]))] sz) (drW K u 16 (fun _ _ => 0))) (va_A [(h0, .inr (0, [.int 0, .null, .null, .null, .int 0, .int 0, .int 0, .int 0, .int 0]))] sz)) 11 298 (va_A [(h0, .inr (0, [.int 0, .null, .null, .null, .int 0, .int 0, .int 0, .int 0, .int 0]))] sz) := by
  refine Met.ofW (cc := cX0_init) (maxL := 1) (ret := none) (by decide) rfl ?_
  intro p e s m args below meth c s₁ B hml hv
  obtain ⟨rfl, hbd, hsz, hP, hD0⟩ := hv
  have hx := B.exec
  have hb := B.bytes
  have hr := B.returns
  have hts := atoms_spec (ws := wsX0_init) B.pre
  have hown : s.vm.findClass RX0 = some m.cls := findClass_of_methodNamed B.named
  have hlocks := B.notSynchronized
  have hin : meth.name = "<init>" := (name_of_methodNamed B.named B.method).1
  have hK := hbd.2
  have hin0 : ∀ w ∈ wsX00, w ∈ wsX0_init := by decide +kernel
  have hin3 : ∀ w ∈ wsX30, w ∈ wsX0_init := by decide +kernel
  subst hsz
  have hD := hD0.self (sz := s.heap.size)
  generalize hAe : va_A [(h0, .inr (0, [.int 0, .null, .null, .null, .int 0, .int 0, .int 0, .int 0, .int 0]))] s.heap.size = A at hD ⊢
  have hA : ∀ q : Nat, s.heap.size ≤ q → A q := fun q h => by rw [← hAe]; exact Or.inr h
  have hS : va_S A s.heap s.heap [] := va_S.rf
  have hP : va_P D vwCl [(h0, .inr (0, [.int 0, .null, .null, .null, .int 0, .int 0, .int 0, .int 0, .int 0]))] s.heap := hP
  have hl := lv_entry ([.ref h0]) (n := 1) (Nat.le_of_ble_eq_true rfl)
  rw [lg_entry_eq]
  generalize (lg_sl ([.ref h0]) ++ List.replicate (1 - (lg_sl ([.ref h0])).length) Slot.unset).toArray = ls at hl ⊢
  have hl : lv_has ls 1 [(0, .ref h0)] := hl
  refine lv_aload_n hx hb dX0_init_0 rfl (lv_at hl 0 rfl) ?_
  refine W.objInit hx hb hown (hts _ (List.mem_of_getElem? (i := 1) rfl)) (hts _ (List.mem_of_getElem? (i := 2) rfl)) (hts _ (List.mem_of_getElem? (i := 3) rfl)) rfl (by rw [hml]; exact hl.1) rfl dX0_init_1 (Nat.le_of_ble_eq_true rfl) (Nat.le_of_ble_eq_true rfl) ?_
  refine W.eq (g2 := (F0 m 4 ls [])) rfl ?_
  refine lv_aload_n hx hb dX0_init_4 rfl (lv_at hl 0 rfl) ?_
  refine lv_bipush (v := 16) hx hb dX0_init_5 (by decide) ?_
  refine va_put (D := D) (ci := 0) (v := .int 16) (ty := .int) (C := RX0) (T := TX0) (N := 9) hx hb hts hin0 tyX0 tyX0_ok nmX0 hown hK hP hD hS 0 rfl rfl 0 (by decide) (hts _ (List.mem_of_getElem? (i := 4) rfl)) (fun _ h9 => h9) rfl (by decide +kernel) rfl rfl (Nat.le_of_ble_eq_true rfl) dX0_init_7 (fun H locs hP hD hS => ?_)
  have hP : va_P D vwCl [(h0, .inr (0, [.int 16, .null, .null, .null, .int 0, .int 0, .int 0, .int 0, .int 0]))] H := hP
  have hD : va_D A [(h0, .inr (0, [.int 16, .null, .null, .null, .int 0, .int 0, .int 0, .int 0, .int 0]))] := hD
  refine lv_aload_n hx hb dX0_init_10 rfl (lv_at hl 0 rfl) ?_
  refine lv_bipush (v := 32) hx hb dX0_init_11 (by decide) ?_
  refine va_newa (D := D) (atype := .int) (ty := .int) (N' := 32) (a0 := (32, .inl (fun _ => 0))) hx hb (hts _ (List.mem_of_getElem? (i := 5) rfl)) rfl hK hP hD hS hA (fun cA => rfl) (by decide) (by decide) (Nat.le_of_ble_eq_true rfl) (Nat.le_of_ble_eq_true rfl) (Nat.le_of_ble_eq_true rfl) dX0_init_13 (fun q_1 cA H hK9 hP hD hS => ?_)
  obtain rfl := newK0 hK9
  have hP : va_P D vwCl [(h0, .inr (0, [.int 16, .null, .null, .null, .int 0, .int 0, .int 0, .int 0, .int 0])), (q_1, .inl (K 0, 32, .inl (fun _ => 0)))] H := hP
  have hD : va_D A [(h0, .inr (0, [.int 16, .null, .null, .null, .int 0, .int 0, .int 0, .int 0, .int 0])), (q_1, .inl (K 0, 32, .inl (fun _ => 0)))] := hD
  refine W.widen (k := 1) (n := 32) (Nat.le_of_ble_eq_true rfl) (Nat.le_of_ble_eq_true rfl) ?_
  refine va_putF (D := D) (ci := 0) (v := .ref q_1) (ty := (.array .int)) (C := RX0) (T := TX0) (N := 9) hx hb hts hin0 tyX0 tyX0_ok nmX0 hown hK hP hD hS 0 rfl rfl 1 (by decide) (hts _ (List.mem_of_getElem? (i := 6) rfl)) (fun _ h9 => h9) rfl hin rfl (by decide +kernel) rfl rfl (Nat.le_of_ble_eq_true rfl) dX0_init_15 (fun H locs hP hD hS => ?_)
  have hP : va_P D vwCl [(h0, .inr (0, [.int 16, .ref q_1, .null, .null, .int 0, .int 0, .int 0, .int 0, .int 0])), (q_1, .inl (K 0, 32, .inl (fun _ => 0)))] H := hP
  have hD : va_D A [(h0, .inr (0, [.int 16, .ref q_1, .null, .null, .int 0, .int 0, .int 0, .int 0, .int 0])), (q_1, .inl (K 0, 32, .inl (fun _ => 0)))] := hD
  refine lv_aload_n hx hb dX0_init_18 rfl (lv_at hl 0 rfl) ?_
  refine va_new (D := D) (ci := 3) (fs := [.null, .null, .null, .null, .int 0]) (C := RX3) (T := TX3) (N := 5) hx hb hts hin3 tyX3 tyX3_ok hown (hts _ (List.mem_of_getElem? (i := 7) rfl)) (hts _ (List.mem_of_getElem? (i := 8) rfl)) (hts _ (List.mem_of_getElem? (i := 9) rfl)) hK hP hD hS hA rfl (fun j hj => by rcases (show j = 0 ∨ j = 1 ∨ j = 2 ∨ j = 3 ∨ j = 4 by omega) with rfl | rfl | rfl | rfl | rfl <;> rfl) (Nat.le_of_ble_eq_true rfl) (Nat.le_of_ble_eq_true rfl) dX0_init_19 (fun q_2 H hP hD hS => ?_)
  have hP : va_P D vwCl [(h0, .inr (0, [.int 16, .ref q_1, .null, .null, .int 0, .int 0, .int 0, .int 0, .int 0])), (q_1, .inl (K 0, 32, .inl (fun _ => 0))), (q_2, .inr (3, [.null, .null, .null, .null, .int 0]))] H := hP
  have hD : va_D A [(h0, .inr (0, [.int 16, .ref q_1, .null, .null, .int 0, .int 0, .int 0, .int 0, .int 0])), (q_1, .inl (K 0, 32, .inl (fun _ => 0))), (q_2, .inr (3, [.null, .null, .null, .null, .int 0]))] := hD
  refine W.widen (k := 2) (n := 37) (Nat.le_of_ble_eq_true rfl) (Nat.le_of_ble_eq_true rfl) ?_
  refine lv_dup hx hb dX0_init_22 rfl ?_
  have hPc := hP.sub (ws' := [(q_2, .inr (3, [.null, .null, .null, .null, .int 0]))]) [2] rfl
  have hDc := hD.sub (ws' := [(q_2, .inr (3, [.null, .null, .null, .null, .int 0]))]) [2] (by decide) rfl
  have hFc := va_free (wc := [(q_2, .inr (3, [.null, .null, .null, .null, .int 0]))]) hD hS hA [2] rfl
  refine va_callv (va_runIN (As := []) (rest := [.ref q_2, .ref h0]) ⟨hx, hb, hml, hown, hts⟩ (ci_X3 l D K q_2 H.size) ⟨va_cnB 0 hts gX0_init_X3_init_n21 rfl rfl rfl (hbd.1.nw 1 rfl) (hts _ (List.mem_of_getElem? (i := 9) rfl)) (by decide +kernel) ⟨Nat.le_of_ble_eq_true rfl, Nat.le_of_ble_eq_true rfl⟩, rfl, (hts _ (List.mem_of_getElem? (i := 12) rfl))⟩ (pre_i hbd hPc hDc) rfl rfl hl.1 rfl (lv_room (Nat.le_of_ble_eq_true rfl)) dX0_init_23 ⟨Nat.le_of_ble_eq_true rfl, Nat.le_of_ble_eq_true rfl⟩) hS (fun q _ h => hFc q h) hFc (fun u t H1 locs ht hvm hw hB hz1 hk1 hS => ?_)
  obtain ⟨u_3, rfl⟩ : ∃ z, z = u := ⟨_, rfl⟩
  obtain ⟨hP1, hD1⟩ := hB
  rw [ht] at hP1
  obtain ⟨hP9, hD9⟩ := va_join (wr := [(h0, .inr (0, [.int 16, .ref q_1, .null, .null, .int 0, .int 0, .int 0, .int 0, .int 0])), (q_1, .inl (K 0, 32, .inl (fun _ => 0)))]) (w1 := [((u_3 0), .inr (3, [.ref (u_3 1), .ref (u_3 2), .ref (u_3 3), .ref (u_3 4), .int 0])), ((u_3 1), .inl (K 0, 32, .inl (fun _ => 0))), ((u_3 2), .inl (K 0, 32, .inl (fun _ => 0))), ((u_3 3), .inl (K 0, 32, .inl (fun _ => 0))), ((u_3 4), .inl (K 0, 32, .inl (fun _ => 0)))]) hP hD [2] [0, 1] rfl rfl (by decide +kernel) (by decide +kernel) hk1 hFc hP1 hD1
  clear hP hD hPc hDc hFc
  have hw : u_3 0 = q_2 := hw
  subst hw
  have hP := hP9
  have hD := hD9
  clear hP9 hD9
  generalize H1 = H at hP hS ⊢
  have hP : va_P D vwCl [(h0, .inr (0, [.int 16, .ref q_1, .null, .null, .int 0, .int 0, .int 0, .int 0, .int 0])), (q_1, .inl (K 0, 32, .inl (fun _ => 0))), ((u_3 0), .inr (3, [.ref (u_3 1), .ref (u_3 2), .ref (u_3 3), .ref (u_3 4), .int 0])), ((u_3 1), .inl (K 0, 32, .inl (fun _ => 0))), ((u_3 2), .inl (K 0, 32, .inl (fun _ => 0))), ((u_3 3), .inl (K 0, 32, .inl (fun _ => 0))), ((u_3 4), .inl (K 0, 32, .inl (fun _ => 0)))] H := hP
  have hD : va_D A [(h0, .inr (0, [.int 16, .ref q_1, .null, .null, .int 0, .int 0, .int 0, .int 0, .int 0])), (q_1, .inl (K 0, 32, .inl (fun _ => 0))), ((u_3 0), .inr (3, [.ref (u_3 1), .ref (u_3 2), .ref (u_3 3), .ref (u_3 4), .int 0])), ((u_3 1), .inl (K 0, 32, .inl (fun _ => 0))), ((u_3 2), .inl (K 0, 32, .inl (fun _ => 0))), ((u_3 3), .inl (K 0, 32, .inl (fun _ => 0))), ((u_3 4), .inl (K 0, 32, .inl (fun _ => 0)))] := hD
  refine W.widen (k := 6) (n := 165) (Nat.le_of_ble_eq_true rfl) (Nat.le_of_ble_eq_true rfl) ?_
  refine va_putF (D := D) (ci := 0) (v := .ref (u_3 0)) (ty := (.object "BlockRounds$Side")) (C := RX0) (T := TX0) (N := 9) hx hb hts hin0 tyX0 tyX0_ok nmX0 hown hK hP hD hS 0 rfl rfl 2 (by decide) (hts _ (List.mem_of_getElem? (i := 10) rfl)) (fun _ h9 => h9) rfl hin rfl (by decide +kernel) rfl rfl (Nat.le_of_ble_eq_true rfl) dX0_init_26 (fun H locs hP hD hS => ?_)
  have hP : va_P D vwCl [(h0, .inr (0, [.int 16, .ref q_1, .ref (u_3 0), .null, .int 0, .int 0, .int 0, .int 0, .int 0])), (q_1, .inl (K 0, 32, .inl (fun _ => 0))), ((u_3 0), .inr (3, [.ref (u_3 1), .ref (u_3 2), .ref (u_3 3), .ref (u_3 4), .int 0])), ((u_3 1), .inl (K 0, 32, .inl (fun _ => 0))), ((u_3 2), .inl (K 0, 32, .inl (fun _ => 0))), ((u_3 3), .inl (K 0, 32, .inl (fun _ => 0))), ((u_3 4), .inl (K 0, 32, .inl (fun _ => 0)))] H := hP
  have hD : va_D A [(h0, .inr (0, [.int 16, .ref q_1, .ref (u_3 0), .null, .int 0, .int 0, .int 0, .int 0, .int 0])), (q_1, .inl (K 0, 32, .inl (fun _ => 0))), ((u_3 0), .inr (3, [.ref (u_3 1), .ref (u_3 2), .ref (u_3 3), .ref (u_3 4), .int 0])), ((u_3 1), .inl (K 0, 32, .inl (fun _ => 0))), ((u_3 2), .inl (K 0, 32, .inl (fun _ => 0))), ((u_3 3), .inl (K 0, 32, .inl (fun _ => 0))), ((u_3 4), .inl (K 0, 32, .inl (fun _ => 0)))] := hD
  refine lv_aload_n hx hb dX0_init_29 rfl (lv_at hl 0 rfl) ?_
  refine va_new (D := D) (ci := 3) (fs := [.null, .null, .null, .null, .int 0]) (C := RX3) (T := TX3) (N := 5) hx hb hts hin3 tyX3 tyX3_ok hown (hts _ (List.mem_of_getElem? (i := 7) rfl)) (hts _ (List.mem_of_getElem? (i := 8) rfl)) (hts _ (List.mem_of_getElem? (i := 9) rfl)) hK hP hD hS hA rfl (fun j hj => by rcases (show j = 0 ∨ j = 1 ∨ j = 2 ∨ j = 3 ∨ j = 4 by omega) with rfl | rfl | rfl | rfl | rfl <;> rfl) (Nat.le_of_ble_eq_true rfl) (Nat.le_of_ble_eq_true rfl) dX0_init_30 (fun q_4 H hP hD hS => ?_)
  have hP : va_P D vwCl [(h0, .inr (0, [.int 16, .ref q_1, .ref (u_3 0), .null, .int 0, .int 0, .int 0, .int 0, .int 0])), (q_1, .inl (K 0, 32, .inl (fun _ => 0))), ((u_3 0), .inr (3, [.ref (u_3 1), .ref (u_3 2), .ref (u_3 3), .ref (u_3 4), .int 0])), ((u_3 1), .inl (K 0, 32, .inl (fun _ => 0))), ((u_3 2), .inl (K 0, 32, .inl (fun _ => 0))), ((u_3 3), .inl (K 0, 32, .inl (fun _ => 0))), ((u_3 4), .inl (K 0, 32, .inl (fun _ => 0))), (q_4, .inr (3, [.null, .null, .null, .null, .int 0]))] H := hP
  have hD : va_D A [(h0, .inr (0, [.int 16, .ref q_1, .ref (u_3 0), .null, .int 0, .int 0, .int 0, .int 0, .int 0])), (q_1, .inl (K 0, 32, .inl (fun _ => 0))), ((u_3 0), .inr (3, [.ref (u_3 1), .ref (u_3 2), .ref (u_3 3), .ref (u_3 4), .int 0])), ((u_3 1), .inl (K 0, 32, .inl (fun _ => 0))), ((u_3 2), .inl (K 0, 32, .inl (fun _ => 0))), ((u_3 3), .inl (K 0, 32, .inl (fun _ => 0))), ((u_3 4), .inl (K 0, 32, .inl (fun _ => 0))), (q_4, .inr (3, [.null, .null, .null, .null, .int 0]))] := hD
  refine W.widen (k := 7) (n := 170) (Nat.le_of_ble_eq_true rfl) (Nat.le_of_ble_eq_true rfl) ?_
  refine lv_dup hx hb dX0_init_33 rfl ?_
  have hPc := hP.sub (ws' := [(q_4, .inr (3, [.null, .null, .null, .null, .int 0]))]) [7] rfl
  have hDc := hD.sub (ws' := [(q_4, .inr (3, [.null, .null, .null, .null, .int 0]))]) [7] (by decide) rfl
  have hFc := va_free (wc := [(q_4, .inr (3, [.null, .null, .null, .null, .int 0]))]) hD hS hA [7] rfl
  refine va_callv (va_runIN (As := []) (rest := [.ref q_4, .ref h0]) ⟨hx, hb, hml, hown, hts⟩ (ci_X3 l D K q_4 H.size) ⟨va_cnB 0 hts gX0_init_X3_init_n21 rfl rfl rfl (hbd.1.nw 1 rfl) (hts _ (List.mem_of_getElem? (i := 9) rfl)) (by decide +kernel) ⟨Nat.le_of_ble_eq_true rfl, Nat.le_of_ble_eq_true rfl⟩, rfl, (hts _ (List.mem_of_getElem? (i := 12) rfl))⟩ (pre_i hbd hPc hDc) rfl rfl hl.1 rfl (lv_room (Nat.le_of_ble_eq_true rfl)) dX0_init_34 ⟨Nat.le_of_ble_eq_true rfl, Nat.le_of_ble_eq_true rfl⟩) hS (fun q _ h => hFc q h) hFc (fun u t H1 locs ht hvm hw hB hz1 hk1 hS => ?_)
  obtain ⟨u_5, rfl⟩ : ∃ z, z = u := ⟨_, rfl⟩
  obtain ⟨hP1, hD1⟩ := hB
  rw [ht] at hP1
  obtain ⟨hP9, hD9⟩ := va_join (wr := [(h0, .inr (0, [.int 16, .ref q_1, .ref (u_3 0), .null, .int 0, .int 0, .int 0, .int 0, .int 0])), (q_1, .inl (K 0, 32, .inl (fun _ => 0))), ((u_3 0), .inr (3, [.ref (u_3 1), .ref (u_3 2), .ref (u_3 3), .ref (u_3 4), .int 0])), ((u_3 1), .inl (K 0, 32, .inl (fun _ => 0))), ((u_3 2), .inl (K 0, 32, .inl (fun _ => 0))), ((u_3 3), .inl (K 0, 32, .inl (fun _ => 0))), ((u_3 4), .inl (K 0, 32, .inl (fun _ => 0)))]) (w1 := [((u_5 0), .inr (3, [.ref (u_5 1), .ref (u_5 2), .ref (u_5 3), .ref (u_5 4), .int 0])), ((u_5 1), .inl (K 0, 32, .inl (fun _ => 0))), ((u_5 2), .inl (K 0, 32, .inl (fun _ => 0))), ((u_5 3), .inl (K 0, 32, .inl (fun _ => 0))), ((u_5 4), .inl (K 0, 32, .inl (fun _ => 0)))]) hP hD [7] [0, 1, 2, 3, 4, 5, 6] rfl rfl (by decide +kernel) (by decide +kernel) hk1 hFc hP1 hD1
  clear hP hD hPc hDc hFc
  have hw : u_5 0 = q_4 := hw
  subst hw
  have hP := hP9
  have hD := hD9
  clear hP9 hD9
  generalize H1 = H at hP hS ⊢
  have hP : va_P D vwCl [(h0, .inr (0, [.int 16, .ref q_1, .ref (u_3 0), .null, .int 0, .int 0, .int 0, .int 0, .int 0])), (q_1, .inl (K 0, 32, .inl (fun _ => 0))), ((u_3 0), .inr (3, [.ref (u_3 1), .ref (u_3 2), .ref (u_3 3), .ref (u_3 4), .int 0])), ((u_3 1), .inl (K 0, 32, .inl (fun _ => 0))), ((u_3 2), .inl (K 0, 32, .inl (fun _ => 0))), ((u_3 3), .inl (K 0, 32, .inl (fun _ => 0))), ((u_3 4), .inl (K 0, 32, .inl (fun _ => 0))), ((u_5 0), .inr (3, [.ref (u_5 1), .ref (u_5 2), .ref (u_5 3), .ref (u_5 4), .int 0])), ((u_5 1), .inl (K 0, 32, .inl (fun _ => 0))), ((u_5 2), .inl (K 0, 32, .inl (fun _ => 0))), ((u_5 3), .inl (K 0, 32, .inl (fun _ => 0))), ((u_5 4), .inl (K 0, 32, .inl (fun _ => 0)))] H := hP
  have hD : va_D A [(h0, .inr (0, [.int 16, .ref q_1, .ref (u_3 0), .null, .int 0, .int 0, .int 0, .int 0, .int 0])), (q_1, .inl (K 0, 32, .inl (fun _ => 0))), ((u_3 0), .inr (3, [.ref (u_3 1), .ref (u_3 2), .ref (u_3 3), .ref (u_3 4), .int 0])), ((u_3 1), .inl (K 0, 32, .inl (fun _ => 0))), ((u_3 2), .inl (K 0, 32, .inl (fun _ => 0))), ((u_3 3), .inl (K 0, 32, .inl (fun _ => 0))), ((u_3 4), .inl (K 0, 32, .inl (fun _ => 0))), ((u_5 0), .inr (3, [.ref (u_5 1), .ref (u_5 2), .ref (u_5 3), .ref (u_5 4), .int 0])), ((u_5 1), .inl (K 0, 32, .inl (fun _ => 0))), ((u_5 2), .inl (K 0, 32, .inl (fun _ => 0))), ((u_5 3), .inl (K 0, 32, .inl (fun _ => 0))), ((u_5 4), .inl (K 0, 32, .inl (fun _ => 0)))] := hD
  refine W.widen (k := 11) (n := 298) (Nat.le_of_ble_eq_true rfl) (Nat.le_of_ble_eq_true rfl) ?_
  refine va_putF (D := D) (ci := 0) (v := .ref (u_5 0)) (ty := (.object "BlockRounds$Side")) (C := RX0) (T := TX0) (N := 9) hx hb hts hin0 tyX0 tyX0_ok nmX0 hown hK hP hD hS 0 rfl rfl 3 (by decide) (hts _ (List.mem_of_getElem? (i := 11) rfl)) (fun _ h9 => h9) rfl hin rfl (by decide +kernel) rfl rfl (Nat.le_of_ble_eq_true rfl) dX0_init_37 (fun H locs hP hD hS => ?_)
  have hP : va_P D vwCl [(h0, .inr (0, [.int 16, .ref q_1, .ref (u_3 0), .ref (u_5 0), .int 0, .int 0, .int 0, .int 0, .int 0])), (q_1, .inl (K 0, 32, .inl (fun _ => 0))), ((u_3 0), .inr (3, [.ref (u_3 1), .ref (u_3 2), .ref (u_3 3), .ref (u_3 4), .int 0])), ((u_3 1), .inl (K 0, 32, .inl (fun _ => 0))), ((u_3 2), .inl (K 0, 32, .inl (fun _ => 0))), ((u_3 3), .inl (K 0, 32, .inl (fun _ => 0))), ((u_3 4), .inl (K 0, 32, .inl (fun _ => 0))), ((u_5 0), .inr (3, [.ref (u_5 1), .ref (u_5 2), .ref (u_5 3), .ref (u_5 4), .int 0])), ((u_5 1), .inl (K 0, 32, .inl (fun _ => 0))), ((u_5 2), .inl (K 0, 32, .inl (fun _ => 0))), ((u_5 3), .inl (K 0, 32, .inl (fun _ => 0))), ((u_5 4), .inl (K 0, 32, .inl (fun _ => 0)))] H := hP
  have hD : va_D A [(h0, .inr (0, [.int 16, .ref q_1, .ref (u_3 0), .ref (u_5 0), .int 0, .int 0, .int 0, .int 0, .int 0])), (q_1, .inl (K 0, 32, .inl (fun _ => 0))), ((u_3 0), .inr (3, [.ref (u_3 1), .ref (u_3 2), .ref (u_3 3), .ref (u_3 4), .int 0])), ((u_3 1), .inl (K 0, 32, .inl (fun _ => 0))), ((u_3 2), .inl (K 0, 32, .inl (fun _ => 0))), ((u_3 3), .inl (K 0, 32, .inl (fun _ => 0))), ((u_3 4), .inl (K 0, 32, .inl (fun _ => 0))), ((u_5 0), .inr (3, [.ref (u_5 1), .ref (u_5 2), .ref (u_5 3), .ref (u_5 4), .int 0])), ((u_5 1), .inl (K 0, 32, .inl (fun _ => 0))), ((u_5 2), .inl (K 0, 32, .inl (fun _ => 0))), ((u_5 3), .inl (K 0, 32, .inl (fun _ => 0))), ((u_5 4), .inl (K 0, 32, .inl (fun _ => 0)))] := hD
  have hP9 := hP.sub (ws' := (drW K (fun k => ([h0, q_1, (u_3 0), (u_5 0), (u_3 1), (u_3 2), (u_3 3), (u_3 4), (u_5 1), (u_5 2), (u_5 3), (u_5 4)] : List Nat).getD k 0) 16 (fun _ _ => 0))) [0, 1, 2, 7, 3, 4, 5, 6, 8, 9, 10, 11] rfl
  have hD9 := hD.sub (ws' := (drW K (fun k => ([h0, q_1, (u_3 0), (u_5 0), (u_3 1), (u_3 2), (u_3 3), (u_3 4), (u_5 1), (u_5 2), (u_5 3), (u_5 4)] : List Nat).getD k 0) 16 (fun _ _ => 0))) [0, 1, 2, 7, 3, 4, 5, 6, 8, 9, 10, 11] (by decide +kernel) rfl
  exact W.vret hx hb hr (fun t ht hW => ⟨⟨(fun k => ([h0, q_1, (u_3 0), (u_5 0), (u_3 1), (u_3 2), (u_3 3), (u_3 4), (u_5 1), (u_5 2), (u_5 3), (u_5 4)] : List Nat).getD k 0), rfl, rfl, by rw [ht]; exact hP9, hD9⟩, hS.F ht⟩) hS.2.2 dX0_init_40
set_option maxHeartbeats 4000000 in
set_option maxRecDepth 100000 in
theorem ci_X2 (l : Launch) (D : va_G) (K : Nat → ClassId) (h0 sz : Nat) : Met l yX2_init wsX2_init ({ frames := 1, cells := 4, slots := 200, locals := 12 }) (va_Pc [.ref h0] (fun U => Bd D K U ∧ U.heap.size = sz ∧ va_P D vwCl [(h0, .inr (2, [.null, .int 0, .int 0, .null, .null, .null, .int 0]))] U.heap ∧ va_D (fun _ => True) [(h0, .inr (2, [.null, .int 0, .int 0, .null, .null, .null, .int 0]))])) (va_Qv (fun u : Nat → Nat => u 0 = h0) (fun u t => va_P D vwCl [((u 0), .inr (2, [.ref (u 1), .int 0, .int 0, .ref (u 2), .ref (u 3), .ref (u 4), .int 0])), ((u 1), .inl (K 1, 80, .inl (fun _ => 0))), ((u 2), .inl (K 0, 40, .inl (fun _ => 0))), ((u 3), .inl (K 0, 40, .inl (fun _ => 0))), ((u 4), .inl (K 0, 40, .inl (fun _ => 0)))] t.heap ∧ va_D (va_A [(h0, .inr (2, [.null, .int 0, .int 0, .null, .null, .null, .int 0]))] sz) [((u 0), .inr (2, [.ref (u 1), .int 0, .int 0, .ref (u 2), .ref (u 3), .ref (u 4), .int 0])), ((u 1), .inl (K 1, 80, .inl (fun _ => 0))), ((u 2), .inl (K 0, 40, .inl (fun _ => 0))), ((u 3), .inl (K 0, 40, .inl (fun _ => 0))), ((u 4), .inl (K 0, 40, .inl (fun _ => 0)))]) (va_A [(h0, .inr (2, [.null, .int 0, .int 0, .null, .null, .null, .int 0]))] sz)) 4 200 (va_A [(h0, .inr (2, [.null, .int 0, .int 0, .null, .null, .null, .int 0]))] sz) := by
  refine Met.ofW (cc := cX2_init) (maxL := 1) (ret := none) (by decide) rfl ?_
  intro p e s m args below meth c s₁ B hml hv
  obtain ⟨rfl, hbd, hsz, hP, hD0⟩ := hv
  have hx := B.exec
  have hb := B.bytes
  have hr := B.returns
  have hts := atoms_spec (ws := wsX2_init) B.pre
  have hown : s.vm.findClass RX2 = some m.cls := findClass_of_methodNamed B.named
  have hlocks := B.notSynchronized
  have hin : meth.name = "<init>" := (name_of_methodNamed B.named B.method).1
  have hK := hbd.2
  have hin2 : ∀ w ∈ wsX20, w ∈ wsX2_init := by decide +kernel
  subst hsz
  have hD := hD0.self (sz := s.heap.size)
  generalize hAe : va_A [(h0, .inr (2, [.null, .int 0, .int 0, .null, .null, .null, .int 0]))] s.heap.size = A at hD ⊢
  have hA : ∀ q : Nat, s.heap.size ≤ q → A q := fun q h => by rw [← hAe]; exact Or.inr h
  have hS : va_S A s.heap s.heap [] := va_S.rf
  have hP : va_P D vwCl [(h0, .inr (2, [.null, .int 0, .int 0, .null, .null, .null, .int 0]))] s.heap := hP
  have hl := lv_entry ([.ref h0]) (n := 1) (Nat.le_of_ble_eq_true rfl)
  rw [lg_entry_eq]
  generalize (lg_sl ([.ref h0]) ++ List.replicate (1 - (lg_sl ([.ref h0])).length) Slot.unset).toArray = ls at hl ⊢
  have hl : lv_has ls 1 [(0, .ref h0)] := hl
  refine lv_aload_n hx hb dX2_init_0 rfl (lv_at hl 0 rfl) ?_
  refine W.objInit hx hb hown (hts _ (List.mem_of_getElem? (i := 1) rfl)) (hts _ (List.mem_of_getElem? (i := 2) rfl)) (hts _ (List.mem_of_getElem? (i := 3) rfl)) rfl (by rw [hml]; exact hl.1) rfl dX2_init_1 (Nat.le_of_ble_eq_true rfl) (Nat.le_of_ble_eq_true rfl) ?_
  refine W.eq (g2 := (F0 m 4 ls [])) rfl ?_
  refine lv_aload_n hx hb dX2_init_4 rfl (lv_at hl 0 rfl) ?_
  refine lv_bipush (v := 80) hx hb dX2_init_5 (by decide) ?_
  refine va_newa (D := D) (atype := .char) (ty := .char) (N' := 80) (a0 := (80, .inl (fun _ => 0))) hx hb (hts _ (List.mem_of_getElem? (i := 4) rfl)) rfl hK hP hD hS hA (fun cA => rfl) (by decide) (by decide) (Nat.le_of_ble_eq_true rfl) (Nat.le_of_ble_eq_true rfl) (Nat.le_of_ble_eq_true rfl) dX2_init_7 (fun q_1 cA H hK9 hP hD hS => ?_)
  obtain rfl := newK1 hK9
  have hP : va_P D vwCl [(h0, .inr (2, [.null, .int 0, .int 0, .null, .null, .null, .int 0])), (q_1, .inl (K 1, 80, .inl (fun _ => 0)))] H := hP
  have hD : va_D A [(h0, .inr (2, [.null, .int 0, .int 0, .null, .null, .null, .int 0])), (q_1, .inl (K 1, 80, .inl (fun _ => 0)))] := hD
  refine W.widen (k := 1) (n := 80) (Nat.le_of_ble_eq_true rfl) (Nat.le_of_ble_eq_true rfl) ?_
  refine va_putF (D := D) (ci := 2) (v := .ref q_1) (ty := (.array .char)) (C := RX2) (T := TX2) (N := 7) hx hb hts hin2 tyX2 tyX2_ok nmX2 hown hK hP hD hS 0 rfl rfl 0 (by decide) (hts _ (List.mem_of_getElem? (i := 5) rfl)) (fun _ h9 => h9) rfl hin rfl (by decide +kernel) rfl rfl (Nat.le_of_ble_eq_true rfl) dX2_init_9 (fun H locs hP hD hS => ?_)
  have hP : va_P D vwCl [(h0, .inr (2, [.ref q_1, .int 0, .int 0, .null, .null, .null, .int 0])), (q_1, .inl (K 1, 80, .inl (fun _ => 0)))] H := hP
  have hD : va_D A [(h0, .inr (2, [.ref q_1, .int 0, .int 0, .null, .null, .null, .int 0])), (q_1, .inl (K 1, 80, .inl (fun _ => 0)))] := hD
  refine lv_aload_n hx hb dX2_init_12 rfl (lv_at hl 0 rfl) ?_
  refine lv_bipush (v := 40) hx hb dX2_init_13 (by decide) ?_
  refine va_newa (D := D) (atype := .int) (ty := .int) (N' := 40) (a0 := (40, .inl (fun _ => 0))) hx hb (hts _ (List.mem_of_getElem? (i := 6) rfl)) rfl hK hP hD hS hA (fun cA => rfl) (by decide) (by decide) (Nat.le_of_ble_eq_true rfl) (Nat.le_of_ble_eq_true rfl) (Nat.le_of_ble_eq_true rfl) dX2_init_15 (fun q_2 cA H hK9 hP hD hS => ?_)
  obtain rfl := newK0 hK9
  have hP : va_P D vwCl [(h0, .inr (2, [.ref q_1, .int 0, .int 0, .null, .null, .null, .int 0])), (q_1, .inl (K 1, 80, .inl (fun _ => 0))), (q_2, .inl (K 0, 40, .inl (fun _ => 0)))] H := hP
  have hD : va_D A [(h0, .inr (2, [.ref q_1, .int 0, .int 0, .null, .null, .null, .int 0])), (q_1, .inl (K 1, 80, .inl (fun _ => 0))), (q_2, .inl (K 0, 40, .inl (fun _ => 0)))] := hD
  refine W.widen (k := 2) (n := 120) (Nat.le_of_ble_eq_true rfl) (Nat.le_of_ble_eq_true rfl) ?_
  refine va_putF (D := D) (ci := 2) (v := .ref q_2) (ty := (.array .int)) (C := RX2) (T := TX2) (N := 7) hx hb hts hin2 tyX2 tyX2_ok nmX2 hown hK hP hD hS 0 rfl rfl 3 (by decide) (hts _ (List.mem_of_getElem? (i := 7) rfl)) (fun _ h9 => h9) rfl hin rfl (by decide +kernel) rfl rfl (Nat.le_of_ble_eq_true rfl) dX2_init_17 (fun H locs hP hD hS => ?_)
  have hP : va_P D vwCl [(h0, .inr (2, [.ref q_1, .int 0, .int 0, .ref q_2, .null, .null, .int 0])), (q_1, .inl (K 1, 80, .inl (fun _ => 0))), (q_2, .inl (K 0, 40, .inl (fun _ => 0)))] H := hP
  have hD : va_D A [(h0, .inr (2, [.ref q_1, .int 0, .int 0, .ref q_2, .null, .null, .int 0])), (q_1, .inl (K 1, 80, .inl (fun _ => 0))), (q_2, .inl (K 0, 40, .inl (fun _ => 0)))] := hD
  refine lv_aload_n hx hb dX2_init_20 rfl (lv_at hl 0 rfl) ?_
  refine lv_bipush (v := 40) hx hb dX2_init_21 (by decide) ?_
  refine va_newa (D := D) (atype := .int) (ty := .int) (N' := 40) (a0 := (40, .inl (fun _ => 0))) hx hb (hts _ (List.mem_of_getElem? (i := 6) rfl)) rfl hK hP hD hS hA (fun cA => rfl) (by decide) (by decide) (Nat.le_of_ble_eq_true rfl) (Nat.le_of_ble_eq_true rfl) (Nat.le_of_ble_eq_true rfl) dX2_init_23 (fun q_3 cA H hK9 hP hD hS => ?_)
  obtain rfl := newK0 hK9
  have hP : va_P D vwCl [(h0, .inr (2, [.ref q_1, .int 0, .int 0, .ref q_2, .null, .null, .int 0])), (q_1, .inl (K 1, 80, .inl (fun _ => 0))), (q_2, .inl (K 0, 40, .inl (fun _ => 0))), (q_3, .inl (K 0, 40, .inl (fun _ => 0)))] H := hP
  have hD : va_D A [(h0, .inr (2, [.ref q_1, .int 0, .int 0, .ref q_2, .null, .null, .int 0])), (q_1, .inl (K 1, 80, .inl (fun _ => 0))), (q_2, .inl (K 0, 40, .inl (fun _ => 0))), (q_3, .inl (K 0, 40, .inl (fun _ => 0)))] := hD
  refine W.widen (k := 3) (n := 160) (Nat.le_of_ble_eq_true rfl) (Nat.le_of_ble_eq_true rfl) ?_
  refine va_putF (D := D) (ci := 2) (v := .ref q_3) (ty := (.array .int)) (C := RX2) (T := TX2) (N := 7) hx hb hts hin2 tyX2 tyX2_ok nmX2 hown hK hP hD hS 0 rfl rfl 4 (by decide) (hts _ (List.mem_of_getElem? (i := 8) rfl)) (fun _ h9 => h9) rfl hin rfl (by decide +kernel) rfl rfl (Nat.le_of_ble_eq_true rfl) dX2_init_25 (fun H locs hP hD hS => ?_)
  have hP : va_P D vwCl [(h0, .inr (2, [.ref q_1, .int 0, .int 0, .ref q_2, .ref q_3, .null, .int 0])), (q_1, .inl (K 1, 80, .inl (fun _ => 0))), (q_2, .inl (K 0, 40, .inl (fun _ => 0))), (q_3, .inl (K 0, 40, .inl (fun _ => 0)))] H := hP
  have hD : va_D A [(h0, .inr (2, [.ref q_1, .int 0, .int 0, .ref q_2, .ref q_3, .null, .int 0])), (q_1, .inl (K 1, 80, .inl (fun _ => 0))), (q_2, .inl (K 0, 40, .inl (fun _ => 0))), (q_3, .inl (K 0, 40, .inl (fun _ => 0)))] := hD
  refine lv_aload_n hx hb dX2_init_28 rfl (lv_at hl 0 rfl) ?_
  refine lv_bipush (v := 40) hx hb dX2_init_29 (by decide) ?_
  refine va_newa (D := D) (atype := .int) (ty := .int) (N' := 40) (a0 := (40, .inl (fun _ => 0))) hx hb (hts _ (List.mem_of_getElem? (i := 6) rfl)) rfl hK hP hD hS hA (fun cA => rfl) (by decide) (by decide) (Nat.le_of_ble_eq_true rfl) (Nat.le_of_ble_eq_true rfl) (Nat.le_of_ble_eq_true rfl) dX2_init_31 (fun q_4 cA H hK9 hP hD hS => ?_)
  obtain rfl := newK0 hK9
  have hP : va_P D vwCl [(h0, .inr (2, [.ref q_1, .int 0, .int 0, .ref q_2, .ref q_3, .null, .int 0])), (q_1, .inl (K 1, 80, .inl (fun _ => 0))), (q_2, .inl (K 0, 40, .inl (fun _ => 0))), (q_3, .inl (K 0, 40, .inl (fun _ => 0))), (q_4, .inl (K 0, 40, .inl (fun _ => 0)))] H := hP
  have hD : va_D A [(h0, .inr (2, [.ref q_1, .int 0, .int 0, .ref q_2, .ref q_3, .null, .int 0])), (q_1, .inl (K 1, 80, .inl (fun _ => 0))), (q_2, .inl (K 0, 40, .inl (fun _ => 0))), (q_3, .inl (K 0, 40, .inl (fun _ => 0))), (q_4, .inl (K 0, 40, .inl (fun _ => 0)))] := hD
  refine W.widen (k := 4) (n := 200) (Nat.le_of_ble_eq_true rfl) (Nat.le_of_ble_eq_true rfl) ?_
  refine va_putF (D := D) (ci := 2) (v := .ref q_4) (ty := (.array .int)) (C := RX2) (T := TX2) (N := 7) hx hb hts hin2 tyX2 tyX2_ok nmX2 hown hK hP hD hS 0 rfl rfl 5 (by decide) (hts _ (List.mem_of_getElem? (i := 9) rfl)) (fun _ h9 => h9) rfl hin rfl (by decide +kernel) rfl rfl (Nat.le_of_ble_eq_true rfl) dX2_init_33 (fun H locs hP hD hS => ?_)
  have hP : va_P D vwCl [(h0, .inr (2, [.ref q_1, .int 0, .int 0, .ref q_2, .ref q_3, .ref q_4, .int 0])), (q_1, .inl (K 1, 80, .inl (fun _ => 0))), (q_2, .inl (K 0, 40, .inl (fun _ => 0))), (q_3, .inl (K 0, 40, .inl (fun _ => 0))), (q_4, .inl (K 0, 40, .inl (fun _ => 0)))] H := hP
  have hD : va_D A [(h0, .inr (2, [.ref q_1, .int 0, .int 0, .ref q_2, .ref q_3, .ref q_4, .int 0])), (q_1, .inl (K 1, 80, .inl (fun _ => 0))), (q_2, .inl (K 0, 40, .inl (fun _ => 0))), (q_3, .inl (K 0, 40, .inl (fun _ => 0))), (q_4, .inl (K 0, 40, .inl (fun _ => 0)))] := hD
  have hP9 := hP.sub (ws' := [(((fun k => ([h0, q_1, q_2, q_3, q_4] : List Nat).getD k 0) 0), .inr (2, [.ref ((fun k => ([h0, q_1, q_2, q_3, q_4] : List Nat).getD k 0) 1), .int 0, .int 0, .ref ((fun k => ([h0, q_1, q_2, q_3, q_4] : List Nat).getD k 0) 2), .ref ((fun k => ([h0, q_1, q_2, q_3, q_4] : List Nat).getD k 0) 3), .ref ((fun k => ([h0, q_1, q_2, q_3, q_4] : List Nat).getD k 0) 4), .int 0])), (((fun k => ([h0, q_1, q_2, q_3, q_4] : List Nat).getD k 0) 1), .inl (K 1, 80, .inl (fun _ => 0))), (((fun k => ([h0, q_1, q_2, q_3, q_4] : List Nat).getD k 0) 2), .inl (K 0, 40, .inl (fun _ => 0))), (((fun k => ([h0, q_1, q_2, q_3, q_4] : List Nat).getD k 0) 3), .inl (K 0, 40, .inl (fun _ => 0))), (((fun k => ([h0, q_1, q_2, q_3, q_4] : List Nat).getD k 0) 4), .inl (K 0, 40, .inl (fun _ => 0)))]) [0, 1, 2, 3, 4] rfl
  have hD9 := hD.sub (ws' := [(((fun k => ([h0, q_1, q_2, q_3, q_4] : List Nat).getD k 0) 0), .inr (2, [.ref ((fun k => ([h0, q_1, q_2, q_3, q_4] : List Nat).getD k 0) 1), .int 0, .int 0, .ref ((fun k => ([h0, q_1, q_2, q_3, q_4] : List Nat).getD k 0) 2), .ref ((fun k => ([h0, q_1, q_2, q_3, q_4] : List Nat).getD k 0) 3), .ref ((fun k => ([h0, q_1, q_2, q_3, q_4] : List Nat).getD k 0) 4), .int 0])), (((fun k => ([h0, q_1, q_2, q_3, q_4] : List Nat).getD k 0) 1), .inl (K 1, 80, .inl (fun _ => 0))), (((fun k => ([h0, q_1, q_2, q_3, q_4] : List Nat).getD k 0) 2), .inl (K 0, 40, .inl (fun _ => 0))), (((fun k => ([h0, q_1, q_2, q_3, q_4] : List Nat).getD k 0) 3), .inl (K 0, 40, .inl (fun _ => 0))), (((fun k => ([h0, q_1, q_2, q_3, q_4] : List Nat).getD k 0) 4), .inl (K 0, 40, .inl (fun _ => 0)))]) [0, 1, 2, 3, 4] (by decide +kernel) rfl
  exact W.vret hx hb hr (fun t ht hW => ⟨⟨(fun k => ([h0, q_1, q_2, q_3, q_4] : List Nat).getD k 0), rfl, rfl, by rw [ht]; exact hP9, hD9⟩, hS.F ht⟩) hS.2.2 dX2_init_36
set_option maxHeartbeats 4000000 in
set_option maxRecDepth 100000 in
theorem ci_X5 (l : Launch) (D : va_G) (K : Nat → ClassId) (h0 sz : Nat) : Met l yX5_init wsX5_init ({ frames := 1, cells := 6, slots := 3682, locals := 12 }) (va_Pc [.ref h0] (fun U => Bd D K U ∧ U.heap.size = sz ∧ va_P D vwCl [(h0, .inr (5, [.null, .null, .null, .int 0, .null, .null, .null, .int 0, .int 0, .int 0, .int 0, .int 0, .int 0]))] U.heap ∧ va_D (fun _ => True) [(h0, .inr (5, [.null, .null, .null, .int 0, .null, .null, .null, .int 0, .int 0, .int 0, .int 0, .int 0, .int 0]))])) (va_Qv (fun u : Nat → Nat => u 0 = h0) (fun u t => va_P D vwCl [((u 0), .inr (5, [.ref (u 1), .ref (u 2), .ref (u 3), .int 0, .ref (u 4), .ref (u 5), .ref (u 6), .int 0, .int 0, .int 0, .int 0, .int 0, .int 0])), ((u 1), .inl (K 0, 360, .inl (upd (fun _ => 0) 0 16))), ((u 2), .inl (K 0, 360, .inl (fun _ => 0))), ((u 3), .inl (K 0, 2160, .inl (fun _ => 0))), ((u 4), .inl (K 0, 720, .inl (fun _ => 0))), ((u 5), .inl (K 2, 2, .inl (fun _ => 0))), ((u 6), .inl (K 0, 80, .inl (fun _ => 0)))] t.heap ∧ va_D (va_A [(h0, .inr (5, [.null, .null, .null, .int 0, .null, .null, .null, .int 0, .int 0, .int 0, .int 0, .int 0, .int 0]))] sz) [((u 0), .inr (5, [.ref (u 1), .ref (u 2), .ref (u 3), .int 0, .ref (u 4), .ref (u 5), .ref (u 6), .int 0, .int 0, .int 0, .int 0, .int 0, .int 0])), ((u 1), .inl (K 0, 360, .inl (upd (fun _ => 0) 0 16))), ((u 2), .inl (K 0, 360, .inl (fun _ => 0))), ((u 3), .inl (K 0, 2160, .inl (fun _ => 0))), ((u 4), .inl (K 0, 720, .inl (fun _ => 0))), ((u 5), .inl (K 2, 2, .inl (fun _ => 0))), ((u 6), .inl (K 0, 80, .inl (fun _ => 0)))]) (va_A [(h0, .inr (5, [.null, .null, .null, .int 0, .null, .null, .null, .int 0, .int 0, .int 0, .int 0, .int 0, .int 0]))] sz)) 6 3682 (va_A [(h0, .inr (5, [.null, .null, .null, .int 0, .null, .null, .null, .int 0, .int 0, .int 0, .int 0, .int 0, .int 0]))] sz) := by
  refine Met.ofW (cc := cX5_init) (maxL := 1) (ret := none) (by decide) rfl ?_
  intro p e s m args below meth c s₁ B hml hv
  obtain ⟨rfl, hbd, hsz, hP, hD0⟩ := hv
  have hx := B.exec
  have hb := B.bytes
  have hr := B.returns
  have hts := atoms_spec (ws := wsX5_init) B.pre
  have hown : s.vm.findClass RX5 = some m.cls := findClass_of_methodNamed B.named
  have hlocks := B.notSynchronized
  have hin : meth.name = "<init>" := (name_of_methodNamed B.named B.method).1
  have hK := hbd.2
  have hin5 : ∀ w ∈ wsX50, w ∈ wsX5_init := by decide +kernel
  subst hsz
  have hD := hD0.self (sz := s.heap.size)
  generalize hAe : va_A [(h0, .inr (5, [.null, .null, .null, .int 0, .null, .null, .null, .int 0, .int 0, .int 0, .int 0, .int 0, .int 0]))] s.heap.size = A at hD ⊢
  have hA : ∀ q : Nat, s.heap.size ≤ q → A q := fun q h => by rw [← hAe]; exact Or.inr h
  have hS : va_S A s.heap s.heap [] := va_S.rf
  have hP : va_P D vwCl [(h0, .inr (5, [.null, .null, .null, .int 0, .null, .null, .null, .int 0, .int 0, .int 0, .int 0, .int 0, .int 0]))] s.heap := hP
  have hl := lv_entry ([.ref h0]) (n := 1) (Nat.le_of_ble_eq_true rfl)
  rw [lg_entry_eq]
  generalize (lg_sl ([.ref h0]) ++ List.replicate (1 - (lg_sl ([.ref h0])).length) Slot.unset).toArray = ls at hl ⊢
  have hl : lv_has ls 1 [(0, .ref h0)] := hl
  refine lv_aload_n hx hb dX5_init_0 rfl (lv_at hl 0 rfl) ?_
  refine W.objInit hx hb hown (hts _ (List.mem_of_getElem? (i := 1) rfl)) (hts _ (List.mem_of_getElem? (i := 2) rfl)) (hts _ (List.mem_of_getElem? (i := 3) rfl)) rfl (by rw [hml]; exact hl.1) rfl dX5_init_1 (Nat.le_of_ble_eq_true rfl) (Nat.le_of_ble_eq_true rfl) ?_
  refine W.eq (g2 := (F0 m 4 ls [])) rfl ?_
  refine lv_aload_n hx hb dX5_init_4 rfl (lv_at hl 0 rfl) ?_
  refine lv_sipush (v := 360) hx hb dX5_init_5 (by decide) ?_
  refine va_newa (D := D) (atype := .int) (ty := .int) (N' := 360) (a0 := (360, .inl (fun _ => 0))) hx hb (hts _ (List.mem_of_getElem? (i := 4) rfl)) rfl hK hP hD hS hA (fun cA => rfl) (by decide) (by decide) (Nat.le_of_ble_eq_true rfl) (Nat.le_of_ble_eq_true rfl) (Nat.le_of_ble_eq_true rfl) dX5_init_8 (fun q_1 cA H hK9 hP hD hS => ?_)
  obtain rfl := newK0 hK9
  have hP : va_P D vwCl [(h0, .inr (5, [.null, .null, .null, .int 0, .null, .null, .null, .int 0, .int 0, .int 0, .int 0, .int 0, .int 0])), (q_1, .inl (K 0, 360, .inl (fun _ => 0)))] H := hP
  have hD : va_D A [(h0, .inr (5, [.null, .null, .null, .int 0, .null, .null, .null, .int 0, .int 0, .int 0, .int 0, .int 0, .int 0])), (q_1, .inl (K 0, 360, .inl (fun _ => 0)))] := hD
  refine W.widen (k := 1) (n := 360) (Nat.le_of_ble_eq_true rfl) (Nat.le_of_ble_eq_true rfl) ?_
  refine va_putF (D := D) (ci := 5) (v := .ref q_1) (ty := (.array .int)) (C := RX5) (T := TX5) (N := 13) hx hb hts hin5 tyX5 tyX5_ok nmX5 hown hK hP hD hS 0 rfl rfl 0 (by decide) (hts _ (List.mem_of_getElem? (i := 5) rfl)) (fun _ h9 => h9) rfl hin rfl (by decide +kernel) rfl rfl (Nat.le_of_ble_eq_true rfl) dX5_init_10 (fun H locs hP hD hS => ?_)
  have hP : va_P D vwCl [(h0, .inr (5, [.ref q_1, .null, .null, .int 0, .null, .null, .null, .int 0, .int 0, .int 0, .int 0, .int 0, .int 0])), (q_1, .inl (K 0, 360, .inl (fun _ => 0)))] H := hP
  have hD : va_D A [(h0, .inr (5, [.ref q_1, .null, .null, .int 0, .null, .null, .null, .int 0, .int 0, .int 0, .int 0, .int 0, .int 0])), (q_1, .inl (K 0, 360, .inl (fun _ => 0)))] := hD
  refine lv_aload_n hx hb dX5_init_13 rfl (lv_at hl 0 rfl) ?_
  refine lv_sipush (v := 360) hx hb dX5_init_14 (by decide) ?_
  refine va_newa (D := D) (atype := .int) (ty := .int) (N' := 360) (a0 := (360, .inl (fun _ => 0))) hx hb (hts _ (List.mem_of_getElem? (i := 4) rfl)) rfl hK hP hD hS hA (fun cA => rfl) (by decide) (by decide) (Nat.le_of_ble_eq_true rfl) (Nat.le_of_ble_eq_true rfl) (Nat.le_of_ble_eq_true rfl) dX5_init_17 (fun q_2 cA H hK9 hP hD hS => ?_)
  obtain rfl := newK0 hK9
  have hP : va_P D vwCl [(h0, .inr (5, [.ref q_1, .null, .null, .int 0, .null, .null, .null, .int 0, .int 0, .int 0, .int 0, .int 0, .int 0])), (q_1, .inl (K 0, 360, .inl (fun _ => 0))), (q_2, .inl (K 0, 360, .inl (fun _ => 0)))] H := hP
  have hD : va_D A [(h0, .inr (5, [.ref q_1, .null, .null, .int 0, .null, .null, .null, .int 0, .int 0, .int 0, .int 0, .int 0, .int 0])), (q_1, .inl (K 0, 360, .inl (fun _ => 0))), (q_2, .inl (K 0, 360, .inl (fun _ => 0)))] := hD
  refine W.widen (k := 2) (n := 720) (Nat.le_of_ble_eq_true rfl) (Nat.le_of_ble_eq_true rfl) ?_
  refine va_putF (D := D) (ci := 5) (v := .ref q_2) (ty := (.array .int)) (C := RX5) (T := TX5) (N := 13) hx hb hts hin5 tyX5 tyX5_ok nmX5 hown hK hP hD hS 0 rfl rfl 1 (by decide) (hts _ (List.mem_of_getElem? (i := 6) rfl)) (fun _ h9 => h9) rfl hin rfl (by decide +kernel) rfl rfl (Nat.le_of_ble_eq_true rfl) dX5_init_19 (fun H locs hP hD hS => ?_)
  have hP : va_P D vwCl [(h0, .inr (5, [.ref q_1, .ref q_2, .null, .int 0, .null, .null, .null, .int 0, .int 0, .int 0, .int 0, .int 0, .int 0])), (q_1, .inl (K 0, 360, .inl (fun _ => 0))), (q_2, .inl (K 0, 360, .inl (fun _ => 0)))] H := hP
  have hD : va_D A [(h0, .inr (5, [.ref q_1, .ref q_2, .null, .int 0, .null, .null, .null, .int 0, .int 0, .int 0, .int 0, .int 0, .int 0])), (q_1, .inl (K 0, 360, .inl (fun _ => 0))), (q_2, .inl (K 0, 360, .inl (fun _ => 0)))] := hD
  refine lv_aload_n hx hb dX5_init_22 rfl (lv_at hl 0 rfl) ?_
  refine lv_sipush (v := 2160) hx hb dX5_init_23 (by decide) ?_
  refine va_newa (D := D) (atype := .int) (ty := .int) (N' := 2160) (a0 := (2160, .inl (fun _ => 0))) hx hb (hts _ (List.mem_of_getElem? (i := 4) rfl)) rfl hK hP hD hS hA (fun cA => rfl) (by decide) (by decide) (Nat.le_of_ble_eq_true rfl) (Nat.le_of_ble_eq_true rfl) (Nat.le_of_ble_eq_true rfl) dX5_init_26 (fun q_3 cA H hK9 hP hD hS => ?_)
  obtain rfl := newK0 hK9
  have hP : va_P D vwCl [(h0, .inr (5, [.ref q_1, .ref q_2, .null, .int 0, .null, .null, .null, .int 0, .int 0, .int 0, .int 0, .int 0, .int 0])), (q_1, .inl (K 0, 360, .inl (fun _ => 0))), (q_2, .inl (K 0, 360, .inl (fun _ => 0))), (q_3, .inl (K 0, 2160, .inl (fun _ => 0)))] H := hP
  have hD : va_D A [(h0, .inr (5, [.ref q_1, .ref q_2, .null, .int 0, .null, .null, .null, .int 0, .int 0, .int 0, .int 0, .int 0, .int 0])), (q_1, .inl (K 0, 360, .inl (fun _ => 0))), (q_2, .inl (K 0, 360, .inl (fun _ => 0))), (q_3, .inl (K 0, 2160, .inl (fun _ => 0)))] := hD
  refine W.widen (k := 3) (n := 2880) (Nat.le_of_ble_eq_true rfl) (Nat.le_of_ble_eq_true rfl) ?_
  refine va_putF (D := D) (ci := 5) (v := .ref q_3) (ty := (.array .int)) (C := RX5) (T := TX5) (N := 13) hx hb hts hin5 tyX5 tyX5_ok nmX5 hown hK hP hD hS 0 rfl rfl 2 (by decide) (hts _ (List.mem_of_getElem? (i := 7) rfl)) (fun _ h9 => h9) rfl hin rfl (by decide +kernel) rfl rfl (Nat.le_of_ble_eq_true rfl) dX5_init_28 (fun H locs hP hD hS => ?_)
  have hP : va_P D vwCl [(h0, .inr (5, [.ref q_1, .ref q_2, .ref q_3, .int 0, .null, .null, .null, .int 0, .int 0, .int 0, .int 0, .int 0, .int 0])), (q_1, .inl (K 0, 360, .inl (fun _ => 0))), (q_2, .inl (K 0, 360, .inl (fun _ => 0))), (q_3, .inl (K 0, 2160, .inl (fun _ => 0)))] H := hP
  have hD : va_D A [(h0, .inr (5, [.ref q_1, .ref q_2, .ref q_3, .int 0, .null, .null, .null, .int 0, .int 0, .int 0, .int 0, .int 0, .int 0])), (q_1, .inl (K 0, 360, .inl (fun _ => 0))), (q_2, .inl (K 0, 360, .inl (fun _ => 0))), (q_3, .inl (K 0, 2160, .inl (fun _ => 0)))] := hD
  refine lv_aload_n hx hb dX5_init_31 rfl (lv_at hl 0 rfl) ?_
  refine lv_sipush (v := 720) hx hb dX5_init_32 (by decide) ?_
  refine va_newa (D := D) (atype := .int) (ty := .int) (N' := 720) (a0 := (720, .inl (fun _ => 0))) hx hb (hts _ (List.mem_of_getElem? (i := 4) rfl)) rfl hK hP hD hS hA (fun cA => rfl) (by decide) (by decide) (Nat.le_of_ble_eq_true rfl) (Nat.le_of_ble_eq_true rfl) (Nat.le_of_ble_eq_true rfl) dX5_init_35 (fun q_4 cA H hK9 hP hD hS => ?_)
  obtain rfl := newK0 hK9
  have hP : va_P D vwCl [(h0, .inr (5, [.ref q_1, .ref q_2, .ref q_3, .int 0, .null, .null, .null, .int 0, .int 0, .int 0, .int 0, .int 0, .int 0])), (q_1, .inl (K 0, 360, .inl (fun _ => 0))), (q_2, .inl (K 0, 360, .inl (fun _ => 0))), (q_3, .inl (K 0, 2160, .inl (fun _ => 0))), (q_4, .inl (K 0, 720, .inl (fun _ => 0)))] H := hP
  have hD : va_D A [(h0, .inr (5, [.ref q_1, .ref q_2, .ref q_3, .int 0, .null, .null, .null, .int 0, .int 0, .int 0, .int 0, .int 0, .int 0])), (q_1, .inl (K 0, 360, .inl (fun _ => 0))), (q_2, .inl (K 0, 360, .inl (fun _ => 0))), (q_3, .inl (K 0, 2160, .inl (fun _ => 0))), (q_4, .inl (K 0, 720, .inl (fun _ => 0)))] := hD
  refine W.widen (k := 4) (n := 3600) (Nat.le_of_ble_eq_true rfl) (Nat.le_of_ble_eq_true rfl) ?_
  refine va_putF (D := D) (ci := 5) (v := .ref q_4) (ty := (.array .int)) (C := RX5) (T := TX5) (N := 13) hx hb hts hin5 tyX5 tyX5_ok nmX5 hown hK hP hD hS 0 rfl rfl 4 (by decide) (hts _ (List.mem_of_getElem? (i := 8) rfl)) (fun _ h9 => h9) rfl hin rfl (by decide +kernel) rfl rfl (Nat.le_of_ble_eq_true rfl) dX5_init_37 (fun H locs hP hD hS => ?_)
  have hP : va_P D vwCl [(h0, .inr (5, [.ref q_1, .ref q_2, .ref q_3, .int 0, .ref q_4, .null, .null, .int 0, .int 0, .int 0, .int 0, .int 0, .int 0])), (q_1, .inl (K 0, 360, .inl (fun _ => 0))), (q_2, .inl (K 0, 360, .inl (fun _ => 0))), (q_3, .inl (K 0, 2160, .inl (fun _ => 0))), (q_4, .inl (K 0, 720, .inl (fun _ => 0)))] H := hP
  have hD : va_D A [(h0, .inr (5, [.ref q_1, .ref q_2, .ref q_3, .int 0, .ref q_4, .null, .null, .int 0, .int 0, .int 0, .int 0, .int 0, .int 0])), (q_1, .inl (K 0, 360, .inl (fun _ => 0))), (q_2, .inl (K 0, 360, .inl (fun _ => 0))), (q_3, .inl (K 0, 2160, .inl (fun _ => 0))), (q_4, .inl (K 0, 720, .inl (fun _ => 0)))] := hD
  refine lv_aload_n hx hb dX5_init_40 rfl (lv_at hl 0 rfl) ?_
  refine lv_iconst (v := 2) hx hb dX5_init_41 (by decide) ?_
  refine va_newa (D := D) (atype := .boolean) (ty := .boolean) (N' := 2) (a0 := (2, .inl (fun _ => 0))) hx hb (hts _ (List.mem_of_getElem? (i := 9) rfl)) rfl hK hP hD hS hA (fun cA => rfl) (by decide) (by decide) (Nat.le_of_ble_eq_true rfl) (Nat.le_of_ble_eq_true rfl) (Nat.le_of_ble_eq_true rfl) dX5_init_42 (fun q_5 cA H hK9 hP hD hS => ?_)
  obtain rfl := newK2 hK9
  have hP : va_P D vwCl [(h0, .inr (5, [.ref q_1, .ref q_2, .ref q_3, .int 0, .ref q_4, .null, .null, .int 0, .int 0, .int 0, .int 0, .int 0, .int 0])), (q_1, .inl (K 0, 360, .inl (fun _ => 0))), (q_2, .inl (K 0, 360, .inl (fun _ => 0))), (q_3, .inl (K 0, 2160, .inl (fun _ => 0))), (q_4, .inl (K 0, 720, .inl (fun _ => 0))), (q_5, .inl (K 2, 2, .inl (fun _ => 0)))] H := hP
  have hD : va_D A [(h0, .inr (5, [.ref q_1, .ref q_2, .ref q_3, .int 0, .ref q_4, .null, .null, .int 0, .int 0, .int 0, .int 0, .int 0, .int 0])), (q_1, .inl (K 0, 360, .inl (fun _ => 0))), (q_2, .inl (K 0, 360, .inl (fun _ => 0))), (q_3, .inl (K 0, 2160, .inl (fun _ => 0))), (q_4, .inl (K 0, 720, .inl (fun _ => 0))), (q_5, .inl (K 2, 2, .inl (fun _ => 0)))] := hD
  refine W.widen (k := 5) (n := 3602) (Nat.le_of_ble_eq_true rfl) (Nat.le_of_ble_eq_true rfl) ?_
  refine va_putF (D := D) (ci := 5) (v := .ref q_5) (ty := (.array .boolean)) (C := RX5) (T := TX5) (N := 13) hx hb hts hin5 tyX5 tyX5_ok nmX5 hown hK hP hD hS 0 rfl rfl 5 (by decide) (hts _ (List.mem_of_getElem? (i := 10) rfl)) (fun _ h9 => h9) rfl hin rfl (by decide +kernel) rfl rfl (Nat.le_of_ble_eq_true rfl) dX5_init_44 (fun H locs hP hD hS => ?_)
  have hP : va_P D vwCl [(h0, .inr (5, [.ref q_1, .ref q_2, .ref q_3, .int 0, .ref q_4, .ref q_5, .null, .int 0, .int 0, .int 0, .int 0, .int 0, .int 0])), (q_1, .inl (K 0, 360, .inl (fun _ => 0))), (q_2, .inl (K 0, 360, .inl (fun _ => 0))), (q_3, .inl (K 0, 2160, .inl (fun _ => 0))), (q_4, .inl (K 0, 720, .inl (fun _ => 0))), (q_5, .inl (K 2, 2, .inl (fun _ => 0)))] H := hP
  have hD : va_D A [(h0, .inr (5, [.ref q_1, .ref q_2, .ref q_3, .int 0, .ref q_4, .ref q_5, .null, .int 0, .int 0, .int 0, .int 0, .int 0, .int 0])), (q_1, .inl (K 0, 360, .inl (fun _ => 0))), (q_2, .inl (K 0, 360, .inl (fun _ => 0))), (q_3, .inl (K 0, 2160, .inl (fun _ => 0))), (q_4, .inl (K 0, 720, .inl (fun _ => 0))), (q_5, .inl (K 2, 2, .inl (fun _ => 0)))] := hD
  refine lv_aload_n hx hb dX5_init_47 rfl (lv_at hl 0 rfl) ?_
  refine lv_bipush (v := 80) hx hb dX5_init_48 (by decide) ?_
  refine va_newa (D := D) (atype := .int) (ty := .int) (N' := 80) (a0 := (80, .inl (fun _ => 0))) hx hb (hts _ (List.mem_of_getElem? (i := 4) rfl)) rfl hK hP hD hS hA (fun cA => rfl) (by decide) (by decide) (Nat.le_of_ble_eq_true rfl) (Nat.le_of_ble_eq_true rfl) (Nat.le_of_ble_eq_true rfl) dX5_init_50 (fun q_6 cA H hK9 hP hD hS => ?_)
  obtain rfl := newK0 hK9
  have hP : va_P D vwCl [(h0, .inr (5, [.ref q_1, .ref q_2, .ref q_3, .int 0, .ref q_4, .ref q_5, .null, .int 0, .int 0, .int 0, .int 0, .int 0, .int 0])), (q_1, .inl (K 0, 360, .inl (fun _ => 0))), (q_2, .inl (K 0, 360, .inl (fun _ => 0))), (q_3, .inl (K 0, 2160, .inl (fun _ => 0))), (q_4, .inl (K 0, 720, .inl (fun _ => 0))), (q_5, .inl (K 2, 2, .inl (fun _ => 0))), (q_6, .inl (K 0, 80, .inl (fun _ => 0)))] H := hP
  have hD : va_D A [(h0, .inr (5, [.ref q_1, .ref q_2, .ref q_3, .int 0, .ref q_4, .ref q_5, .null, .int 0, .int 0, .int 0, .int 0, .int 0, .int 0])), (q_1, .inl (K 0, 360, .inl (fun _ => 0))), (q_2, .inl (K 0, 360, .inl (fun _ => 0))), (q_3, .inl (K 0, 2160, .inl (fun _ => 0))), (q_4, .inl (K 0, 720, .inl (fun _ => 0))), (q_5, .inl (K 2, 2, .inl (fun _ => 0))), (q_6, .inl (K 0, 80, .inl (fun _ => 0)))] := hD
  refine W.widen (k := 6) (n := 3682) (Nat.le_of_ble_eq_true rfl) (Nat.le_of_ble_eq_true rfl) ?_
  refine va_putF (D := D) (ci := 5) (v := .ref q_6) (ty := (.array .int)) (C := RX5) (T := TX5) (N := 13) hx hb hts hin5 tyX5 tyX5_ok nmX5 hown hK hP hD hS 0 rfl rfl 6 (by decide) (hts _ (List.mem_of_getElem? (i := 11) rfl)) (fun _ h9 => h9) rfl hin rfl (by decide +kernel) rfl rfl (Nat.le_of_ble_eq_true rfl) dX5_init_52 (fun H locs hP hD hS => ?_)
  have hP : va_P D vwCl [(h0, .inr (5, [.ref q_1, .ref q_2, .ref q_3, .int 0, .ref q_4, .ref q_5, .ref q_6, .int 0, .int 0, .int 0, .int 0, .int 0, .int 0])), (q_1, .inl (K 0, 360, .inl (fun _ => 0))), (q_2, .inl (K 0, 360, .inl (fun _ => 0))), (q_3, .inl (K 0, 2160, .inl (fun _ => 0))), (q_4, .inl (K 0, 720, .inl (fun _ => 0))), (q_5, .inl (K 2, 2, .inl (fun _ => 0))), (q_6, .inl (K 0, 80, .inl (fun _ => 0)))] H := hP
  have hD : va_D A [(h0, .inr (5, [.ref q_1, .ref q_2, .ref q_3, .int 0, .ref q_4, .ref q_5, .ref q_6, .int 0, .int 0, .int 0, .int 0, .int 0, .int 0])), (q_1, .inl (K 0, 360, .inl (fun _ => 0))), (q_2, .inl (K 0, 360, .inl (fun _ => 0))), (q_3, .inl (K 0, 2160, .inl (fun _ => 0))), (q_4, .inl (K 0, 720, .inl (fun _ => 0))), (q_5, .inl (K 2, 2, .inl (fun _ => 0))), (q_6, .inl (K 0, 80, .inl (fun _ => 0)))] := hD
  refine lv_aload_n hx hb dX5_init_55 rfl (lv_at hl 0 rfl) ?_
  refine va_get (D := D) (ci := 5) (v := .ref q_1) (C := RX5) (T := TX5) (N := 13) hx hb hts hin5 hown hK hP 0 rfl rfl 0 (by decide) (hts _ (List.mem_of_getElem? (i := 5) rfl)) (fun _ h9 => h9) rfl dX5_init_56 ?_
  refine lv_iconst (v := 0) hx hb dX5_init_59 (by decide) ?_
  refine lv_bipush (v := 16) hx hb dX5_init_60 (by decide) ?_
  refine n_iast hx hb hK hP hD hS 1 0 rfl rfl 0 (by omega) (by decide) dX5_init_62 (fun H locs hP hD hS => ?_)
  have hP : va_P D vwCl [(h0, .inr (5, [.ref q_1, .ref q_2, .ref q_3, .int 0, .ref q_4, .ref q_5, .ref q_6, .int 0, .int 0, .int 0, .int 0, .int 0, .int 0])), (q_1, .inl (K 0, 360, .inl (upd (fun _ => 0) 0 16))), (q_2, .inl (K 0, 360, .inl (fun _ => 0))), (q_3, .inl (K 0, 2160, .inl (fun _ => 0))), (q_4, .inl (K 0, 720, .inl (fun _ => 0))), (q_5, .inl (K 2, 2, .inl (fun _ => 0))), (q_6, .inl (K 0, 80, .inl (fun _ => 0)))] H := hP
  have hD : va_D A [(h0, .inr (5, [.ref q_1, .ref q_2, .ref q_3, .int 0, .ref q_4, .ref q_5, .ref q_6, .int 0, .int 0, .int 0, .int 0, .int 0, .int 0])), (q_1, .inl (K 0, 360, .inl (upd (fun _ => 0) 0 16))), (q_2, .inl (K 0, 360, .inl (fun _ => 0))), (q_3, .inl (K 0, 2160, .inl (fun _ => 0))), (q_4, .inl (K 0, 720, .inl (fun _ => 0))), (q_5, .inl (K 2, 2, .inl (fun _ => 0))), (q_6, .inl (K 0, 80, .inl (fun _ => 0)))] := hD
  have hP9 := hP.sub (ws' := [(((fun k => ([h0, q_1, q_2, q_3, q_4, q_5, q_6] : List Nat).getD k 0) 0), .inr (5, [.ref ((fun k => ([h0, q_1, q_2, q_3, q_4, q_5, q_6] : List Nat).getD k 0) 1), .ref ((fun k => ([h0, q_1, q_2, q_3, q_4, q_5, q_6] : List Nat).getD k 0) 2), .ref ((fun k => ([h0, q_1, q_2, q_3, q_4, q_5, q_6] : List Nat).getD k 0) 3), .int 0, .ref ((fun k => ([h0, q_1, q_2, q_3, q_4, q_5, q_6] : List Nat).getD k 0) 4), .ref ((fun k => ([h0, q_1, q_2, q_3, q_4, q_5, q_6] : List Nat).getD k 0) 5), .ref ((fun k => ([h0, q_1, q_2, q_3, q_4, q_5, q_6] : List Nat).getD k 0) 6), .int 0, .int 0, .int 0, .int 0, .int 0, .int 0])), (((fun k => ([h0, q_1, q_2, q_3, q_4, q_5, q_6] : List Nat).getD k 0) 1), .inl (K 0, 360, .inl (upd (fun _ => 0) 0 16))), (((fun k => ([h0, q_1, q_2, q_3, q_4, q_5, q_6] : List Nat).getD k 0) 2), .inl (K 0, 360, .inl (fun _ => 0))), (((fun k => ([h0, q_1, q_2, q_3, q_4, q_5, q_6] : List Nat).getD k 0) 3), .inl (K 0, 2160, .inl (fun _ => 0))), (((fun k => ([h0, q_1, q_2, q_3, q_4, q_5, q_6] : List Nat).getD k 0) 4), .inl (K 0, 720, .inl (fun _ => 0))), (((fun k => ([h0, q_1, q_2, q_3, q_4, q_5, q_6] : List Nat).getD k 0) 5), .inl (K 2, 2, .inl (fun _ => 0))), (((fun k => ([h0, q_1, q_2, q_3, q_4, q_5, q_6] : List Nat).getD k 0) 6), .inl (K 0, 80, .inl (fun _ => 0)))]) [0, 1, 2, 3, 4, 5, 6] rfl
  have hD9 := hD.sub (ws' := [(((fun k => ([h0, q_1, q_2, q_3, q_4, q_5, q_6] : List Nat).getD k 0) 0), .inr (5, [.ref ((fun k => ([h0, q_1, q_2, q_3, q_4, q_5, q_6] : List Nat).getD k 0) 1), .ref ((fun k => ([h0, q_1, q_2, q_3, q_4, q_5, q_6] : List Nat).getD k 0) 2), .ref ((fun k => ([h0, q_1, q_2, q_3, q_4, q_5, q_6] : List Nat).getD k 0) 3), .int 0, .ref ((fun k => ([h0, q_1, q_2, q_3, q_4, q_5, q_6] : List Nat).getD k 0) 4), .ref ((fun k => ([h0, q_1, q_2, q_3, q_4, q_5, q_6] : List Nat).getD k 0) 5), .ref ((fun k => ([h0, q_1, q_2, q_3, q_4, q_5, q_6] : List Nat).getD k 0) 6), .int 0, .int 0, .int 0, .int 0, .int 0, .int 0])), (((fun k => ([h0, q_1, q_2, q_3, q_4, q_5, q_6] : List Nat).getD k 0) 1), .inl (K 0, 360, .inl (upd (fun _ => 0) 0 16))), (((fun k => ([h0, q_1, q_2, q_3, q_4, q_5, q_6] : List Nat).getD k 0) 2), .inl (K 0, 360, .inl (fun _ => 0))), (((fun k => ([h0, q_1, q_2, q_3, q_4, q_5, q_6] : List Nat).getD k 0) 3), .inl (K 0, 2160, .inl (fun _ => 0))), (((fun k => ([h0, q_1, q_2, q_3, q_4, q_5, q_6] : List Nat).getD k 0) 4), .inl (K 0, 720, .inl (fun _ => 0))), (((fun k => ([h0, q_1, q_2, q_3, q_4, q_5, q_6] : List Nat).getD k 0) 5), .inl (K 2, 2, .inl (fun _ => 0))), (((fun k => ([h0, q_1, q_2, q_3, q_4, q_5, q_6] : List Nat).getD k 0) 6), .inl (K 0, 80, .inl (fun _ => 0)))]) [0, 1, 2, 3, 4, 5, 6] (by decide +kernel) rfl
  exact W.vret hx hb hr (fun t ht hW => ⟨⟨(fun k => ([h0, q_1, q_2, q_3, q_4, q_5, q_6] : List Nat).getD k 0), rfl, rfl, by rw [ht]; exact hP9, hD9⟩, hS.F ht⟩) hS.2.2 dX5_init_63
