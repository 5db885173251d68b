/-! words of nest mates, the bundle that every contract is handed, calls -/
def nwOK : Cond → Bool
  | .methodLinkNest .. => true
  | .fieldLinkNest .. => true
  | _ => false
def nwl : List Cond := [Cond.methodLinkNest "BlockRounds" 9 ⟨"BlockRounds$Drive", "<init>", "()V"⟩ "BlockRounds", Cond.methodLinkNest "BlockRounds$Drive" 21 ⟨"BlockRounds$Side", "<init>", "()V"⟩ "BlockRounds", Cond.methodLinkNest "BlockRounds" 27 ⟨"BlockRounds$History", "<init>", "()V"⟩ "BlockRounds", Cond.methodLinkNest "BlockRounds$History" 17 ⟨"BlockRounds$Drive", "<init>", "()V"⟩ "BlockRounds", Cond.methodLinkNest "BlockRounds" 34 ⟨"BlockRounds$Pad", "<init>", "()V"⟩ "BlockRounds", Cond.methodLinkNest "BlockRounds" 39 ⟨"BlockRounds$History", "prepare", "(LBlockRounds$Drive;)V"⟩ "BlockRounds", Cond.methodLinkNest "BlockRounds$History" 22 ⟨"BlockRounds$Drive", "copyFrom", "(LBlockRounds$Drive;)V"⟩ "BlockRounds", Cond.methodLinkNest "BlockRounds$Drive" 35 ⟨"BlockRounds$Side", "copyFrom", "(LBlockRounds$Side;)V"⟩ "BlockRounds", Cond.methodLinkNest "BlockRounds" 43 ⟨"BlockRounds$Drive", "startAnew", "(I)I"⟩ "BlockRounds", Cond.methodLinkNest "BlockRounds$Drive" 60 ⟨"BlockRounds$Side", "clear", "()V"⟩ "BlockRounds", Cond.methodLinkNest "BlockRounds" 47 ⟨"BlockRounds$History", "keep", "(I)I"⟩ "BlockRounds", Cond.methodLinkNest "BlockRounds$History" 26 ⟨"BlockRounds", "isError", "(I)Z"⟩ "BlockRounds", Cond.methodLinkNest "BlockRounds" 50 ⟨"BlockRounds$Drive", "store", "(II)I"⟩ "BlockRounds", Cond.methodLinkNest "BlockRounds$Drive" 75 ⟨"BlockRounds$Side", "receive", "(IIII)V"⟩ "BlockRounds", Cond.methodLinkNest "BlockRounds" 54 ⟨"BlockRounds$Drive", "expect", "(II)I"⟩ "BlockRounds", Cond.methodLinkNest "BlockRounds$Drive" 79 ⟨"BlockRounds", "isSide", "(I)Z"⟩ "BlockRounds", Cond.methodLinkNest "BlockRounds" 57 ⟨"BlockRounds$Drive", "empty", "(II)I"⟩ "BlockRounds", Cond.methodLinkNest "BlockRounds$Drive" 89 ⟨"BlockRounds$Side", "take", "(I)I"⟩ "BlockRounds", Cond.methodLinkNest "BlockRounds" 60 ⟨"BlockRounds$Drive", "fetch", "(I)I"⟩ "BlockRounds", Cond.methodLinkNest "BlockRounds$Drive" 71 ⟨"BlockRounds$Side", "reasonAgainst", "(II)I"⟩ "BlockRounds", Cond.methodLinkNest "BlockRounds$Drive" 99 ⟨"BlockRounds$Side", "dataAt", "(I)I"⟩ "BlockRounds", Cond.methodLinkNest "BlockRounds" 63 ⟨"BlockRounds$Drive", "repair", "(I)I"⟩ "BlockRounds", Cond.methodLinkNest "BlockRounds$Drive" 102 ⟨"BlockRounds$Side", "copyBlock", "(LBlockRounds$Side;I)V"⟩ "BlockRounds", Cond.methodLinkNest "BlockRounds" 66 ⟨"BlockRounds$Drive", "repairAll", "()I"⟩ "BlockRounds", Cond.methodLinkNest "BlockRounds" 74 ⟨"BlockRounds$Drive", "hasPlace", "(I)Z"⟩ "BlockRounds", Cond.methodLinkNest "BlockRounds" 77 ⟨"BlockRounds$Drive", "sideOf", "(I)LBlockRounds$Side;"⟩ "BlockRounds", Cond.methodLinkNest "BlockRounds" 81 ⟨"BlockRounds$Drive", "isWritten", "(I)Z"⟩ "BlockRounds", Cond.methodLinkNest "BlockRounds" 84 ⟨"BlockRounds$Drive", "roundOf", "(I)I"⟩ "BlockRounds", Cond.methodLinkNest "BlockRounds" 87 ⟨"BlockRounds$Side", "reasonAgainst", "(II)I"⟩ "BlockRounds", Cond.methodLinkNest "BlockRounds" 92 ⟨"BlockRounds$Side", "part", "(II)I"⟩ "BlockRounds", Cond.methodLinkNest "BlockRounds" 97 ⟨"BlockRounds$Drive", "setOf", "(I)J"⟩ "BlockRounds", Cond.methodLinkNest "BlockRounds$Drive" 113 ⟨"BlockRounds$Side", "isOfOtherAddress", "(I)Z"⟩ "BlockRounds", Cond.methodLinkNest "BlockRounds" 136 ⟨"BlockRounds$Drive", "writtenPlaces", "()I"⟩ "BlockRounds", Cond.methodLinkNest "BlockRounds" 148 ⟨"BlockRounds$Drive", "copyFrom", "(LBlockRounds$Drive;)V"⟩ "BlockRounds", Cond.methodLinkNest "BlockRounds" 156 ⟨"BlockRounds$Pad", "append", "(J)I"⟩ "BlockRounds", Cond.methodLinkNest "BlockRounds" 159 ⟨"BlockRounds$Pad", "empty", "()I"⟩ "BlockRounds", Cond.methodLinkNest "BlockRounds" 161 ⟨"BlockRounds$Pad", "scan", "()I"⟩ "BlockRounds", Cond.methodLinkNest "BlockRounds" 181 ⟨"BlockRounds$History", "takeBack", "(LBlockRounds$Drive;)I"⟩ "BlockRounds", Cond.fieldLinkNest "BlockRounds$Drive" 86 "BlockRounds$Side" "waiting" "I" "BlockRounds", Cond.fieldLinkNest "BlockRounds" 109 "BlockRounds$Side" "waiting" "I" "BlockRounds", Cond.fieldLinkNest "BlockRounds" 101 "BlockRounds$Drive" "size" "I" "BlockRounds", Cond.fieldLinkNest "BlockRounds" 105 "BlockRounds$Drive" "disk" "LBlockRounds$Side;" "BlockRounds", Cond.fieldLinkNest "BlockRounds" 112 "BlockRounds$Drive" "mirror" "LBlockRounds$Side;" "BlockRounds", Cond.fieldLinkNest "BlockRounds" 115 "BlockRounds$Drive" "writes" "I" "BlockRounds", Cond.fieldLinkNest "BlockRounds" 118 "BlockRounds$Drive" "reads" "I" "BlockRounds", Cond.fieldLinkNest "BlockRounds" 121 "BlockRounds$Drive" "mirrorReads" "I" "BlockRounds", Cond.fieldLinkNest "BlockRounds" 124 "BlockRounds$Drive" "lostReads" "I" "BlockRounds", Cond.fieldLinkNest "BlockRounds" 127 "BlockRounds$Drive" "mended" "I" "BlockRounds", Cond.fieldLinkNest "BlockRounds" 133 "BlockRounds$History" "kept" "I" "BlockRounds", Cond.fieldLinkNest "BlockRounds" 130 "BlockRounds$Pad" "length" "I" "BlockRounds", Cond.fieldLinkNest "BlockRounds" 167 "BlockRounds$Pad" "verbs" "[I" "BlockRounds", Cond.fieldLinkNest "BlockRounds" 171 "BlockRounds$Pad" "firsts" "[I" "BlockRounds", Cond.fieldLinkNest "BlockRounds" 174 "BlockRounds$Pad" "seconds" "[I" "BlockRounds", Cond.fieldLinkNest "BlockRounds" 164 "BlockRounds$Pad" "orders" "I" "BlockRounds"]
theorem nwl_ok : nwl.all nwOK = true := by decide +kernel
def NWs (U : State) : Prop := ∀ w ∈ nwl, va_Nw w U
theorem nw_tab {w : Cond} (h : nwOK w = true) : w.onTables = true := by
  unfold nwOK at h
  split at h
  · rfl
  · rfl
  · cases h
theorem nw_warm {w : Cond} (hk : nwOK w = true) {s U : State} (hW : s.WarmedH U.vm) (h : va_Nw w s) : va_Nw w U := by
  unfold nwOK at hk
  split at hk
  · exact va_Nw.warmM hW h
  · exact va_Nw.warmF hW h
  · cases hk
theorem NWs.warm {s U : State} (hW : s.WarmedH U.vm) (h : NWs s) : NWs U := fun w hw => nw_warm (List.all_eq_true.mp nwl_ok w hw) hW (h w hw)
theorem NWs.same {u U : State} (e : u.vm = U.vm) (h : NWs u) : NWs U := fun w hw => va_Nw.same (nw_tab (List.all_eq_true.mp nwl_ok w hw)) e (h w hw)
theorem NWs.of {A : Array Value} {U : State} (h : ∀ w ∈ nwl, w.before A U = true) : NWs U := fun w hw => va_Nw.of (nw_tab (List.all_eq_true.mp nwl_ok w hw)) (h w hw)
theorem NWs.at {A : Array Value} {U : State} (h : NWs U) {w : Cond} (i : Nat) (hw : nwl[i]? = some w) : w.before A U = true := va_Nw.use (nw_tab (List.all_eq_true.mp nwl_ok w (List.mem_of_getElem? hw))) (h w (List.mem_of_getElem? hw))
theorem NWs.nw {U : State} (h : NWs U) {w : Cond} (i : Nat) (hw : nwl[i]? = some w) : va_Nw w U := h w (List.mem_of_getElem? hw)
abbrev tysK (K : Nat → ClassId) : List (ClassId × FieldType) := [(K 0, .int), (K 1, .char), (K 2, .boolean), (K 3, .object RX0)]
/-- what every method is handed of the tables -/
def Bd (D : va_G) (K : Nat → ClassId) (U : State) : Prop := NWs U ∧ va_K D vwCl (tysK K) U
theorem Bd.warm {D : va_G} {K : Nat → ClassId} {s U : State} (hW : s.WarmedH U.vm) (h : Bd D K s) : Bd D K U := ⟨h.1.warm hW, va_K.moved hW.alike h.2⟩
theorem Bd.call {D : va_G} {K : Nat → ClassId} {U : State} {g : JFrame} {mk : MethodId} {a : Array Value} (h : Bd D K U) : Bd D K (U.calling g mk a) := ⟨NWs.same (u := U) (U := U.calling g mk a) rfl h.1, va_K.moved (u := U) (U := U.calling g mk a) (Vm.Alike.refl U.vm) h.2⟩
def inW (ws : va_W) : Nat → Prop := fun q => q ∈ ws.map (fun e => e.1)
theorem inW_at {ws : va_W} {q : Nat} (h : inW ws q) : ∃ (k : Nat) (e : va_E), ws[k]? = some (q, e) := by
  obtain ⟨x, hx, rfl⟩ := List.mem_map.mp h
  obtain ⟨k, hk⟩ := List.getElem?_of_mem hx
  exact ⟨k, x.2, hk⟩
theorem inW_of {ws : va_W} {k : Nat} {q : Nat × va_E} (h : ws[k]? = some q) : inW ws q.1 := List.mem_map.mpr ⟨q, List.mem_of_getElem? h, rfl⟩
theorem va_D.own {ws : va_W} {A : Nat → Prop} (h : va_D A ws) : va_D (inW ws) ws := ⟨h.1, fun _ _ hk => inW_of hk⟩
theorem map_at {α β : Type} {l : List Nat} {f : Nat → α} {g : List β} {h : β → α} (e : l.map f = g.map h) {t : Nat} {q : β} (ht : g[t]? = some q) : ∃ i, l[t]? = some i ∧ f i = h q := by
  have h1 : (l.map f)[t]? = some (h q) := by rw [e, List.getElem?_map, ht]; rfl
  rw [List.getElem?_map] at h1
  cases hi : l[t]? with
  | none => rw [hi] at h1; cases h1
  | some i => rw [hi] at h1; exact ⟨i, rfl, Option.some.inj h1⟩
theorem map_at2 {α β : Type} {l : List Nat} {f : Nat → α} {g : List β} {h : β → α} (e : l.map f = g.map h) {t i : Nat} (ht : l[t]? = some i) : ∃ q, g[t]? = some q ∧ f i = h q := by
  have h1 : (g.map h)[t]? = some (f i) := by rw [← e, List.getElem?_map, ht]; rfl
  rw [List.getElem?_map] at h1
  cases hi : g[t]? with
  | none => rw [hi] at h1; cases h1
  | some q => rw [hi] at h1; exact ⟨q, rfl, (Option.some.inj h1).symm⟩
theorem inW_sub {A : Nat → Prop} {W0 wc : va_W} (hD : va_D A W0) {isC : List Nat} (hC : isC.map (fun i => W0[i]?) = wc.map some) : ∀ q, inW wc q → A q := by
  intro q h
  obtain ⟨k, e, hk⟩ := inW_at h
  obtain ⟨i, -, h2⟩ := map_at hC hk
  exact hD.2 i _ h2
theorem va_D_same {A : Nat → Prop} {W0 W1 : va_W} (h : W1.map (fun e => e.1) = W0.map (fun e => e.1)) (hD : va_D A W0) : va_D A W1 := by
  have key : ∀ (k : Nat) (q : Nat × va_E), W1[k]? = some q → ∃ q0, W0[k]? = some q0 ∧ q0.1 = q.1 := by
    intro k q hk
    have h1 : (W0.map (fun e => e.1))[k]? = some q.1 := by rw [← h, List.getElem?_map, hk]; rfl
    rw [List.getElem?_map] at h1
    cases hi : W0[k]? with
    | none => rw [hi] at h1; cases h1
    | some q0 => rw [hi] at h1; exact ⟨q0, rfl, Option.some.inj h1⟩
  refine ⟨fun i j p q hi hj e => ?_, fun k q hk => ?_⟩
  · obtain ⟨x0, h1, h2⟩ := key i p hi
    obtain ⟨y0, h3, h4⟩ := key j q hj
    exact hD.1 i j x0 y0 h1 h3 (h2.trans (e.trans h4.symm))
  · obtain ⟨q0, h1, h2⟩ := key k q hk
    rw [← h2]
    exact hD.2 k q0 h1
theorem cj_main {A : Nat → Prop} {D : va_G} {cl : List vw_C} {W0 W1 wc w1 : va_W} {H H1 : Heap} (hP : va_P D cl W0 H) (hD : va_D A W0) (isC isR : List Nat) (nW : Nat) (hnW : W0.length = nW) (hC : isC.map (fun i => W0[i]?) = wc.map some) (hC1 : isC.map (fun i => W1[i]?) = w1.map some) (hR : isR.map (fun i => W1[i]?) = isR.map (fun i => W0[i]?))
    (hcov : (List.range nW).all (fun i => isC.contains i || isR.contains i) = true) (hdis : isR.all (fun i => !isC.contains i) = true) (hlen : W1.map (fun e => e.1) = W0.map (fun e => e.1)) (hk : ∀ q : Nat, q < H.size → ¬ inW wc q → H1[q]? = H[q]?) (hP1 : va_P D cl w1 H1) : va_P D cl W1 H1 ∧ va_D A W1 := by
  refine ⟨fun k q hq => ?_, va_D_same hlen hD⟩
  have hl : W1.length = W0.length := by
    have := congrArg List.length hlen
    simpa using this
  have hkl : k < W0.length := by rw [← hl]; exact (List.getElem?_eq_some_iff.mp hq).1
  have hc := List.all_eq_true.mp hcov k (List.mem_range.mpr (by rw [← hnW]; exact hkl))
  simp only [Bool.or_eq_true, List.contains_iff_mem] at hc
  rcases hc with hc | hc
  · obtain ⟨t, ht⟩ := List.getElem?_of_mem hc
    obtain ⟨x, h1, h2⟩ := map_at2 hC1 ht
    have e : q = x := Option.some.inj (hq.symm.trans h2)
    rw [e]
    exact hP1 t x h1
  · obtain ⟨t, ht⟩ := List.getElem?_of_mem hc
    have h0 : W0[k]? = some q := by
      have h1 : (isR.map (fun i => W1[i]?))[t]? = (isR.map (fun i => W0[i]?))[t]? := by rw [hR]
      rw [List.getElem?_map, List.getElem?_map, ht] at h1
      exact (Option.some.inj h1).symm.trans hq
    refine (hP k q h0).kept (hk q.1 (hP k q h0).lt (fun hin => ?_))
    obtain ⟨j, e, hj⟩ := inW_at hin
    obtain ⟨i, h1, h2⟩ := map_at hC hj
    have hik : i = k := hD.1 i k _ q h2 h0 rfl
    subst hik
    have := List.all_eq_true.mp hdis i hc
    simp only [Bool.not_eq_true', List.contains_eq_mem, decide_eq_false_iff_not] at this
    exact this (List.mem_of_getElem? h1)
theorem pre_rd {s : State} {H : Heap} {D : va_G} {K : Nat → ClassId} {wc : va_W} {b : Nat} {As : List Value} (hbd : Bd D K s) (hP : va_P D vwCl wc H) {ci q0 : Nat} {q : vw_C} {fs : List Value} (hc : vwCl[ci]? = some q) (he : wc[q0]? = some (b, .inr (ci, fs))) : PreV s H q.1 b (va_Pc (.ref b :: As) (fun U => Bd D K U ∧ va_P D vwCl wc U.heap)) As :=
  ⟨fun a U g mk h => ⟨h.1, h.2.1.call, h.2.2⟩, va_recv hbd.2 hP hc he, fun U hU hW => ⟨rfl, hbd.warm hW, by rw [hU]; exact hP⟩⟩
theorem pre_wr {s : State} {H : Heap} {D : va_G} {K : Nat → ClassId} {wc : va_W} {b : Nat} {As : List Value} (hbd : Bd D K s) (hP : va_P D vwCl wc H) (hDc : va_D (fun _ => True) wc) {ci q0 : Nat} {q : vw_C} {fs : List Value} (hc : vwCl[ci]? = some q) (he : wc[q0]? = some (b, .inr (ci, fs))) : PreV s H q.1 b (va_Pc (.ref b :: As) (fun U => Bd D K U ∧ va_P D vwCl wc U.heap ∧ va_D (fun _ => True) wc)) As :=
  ⟨fun a U g mk h => ⟨h.1, h.2.1.call, h.2.2⟩, va_recv hbd.2 hP hc he, fun U hU hW => ⟨rfl, hbd.warm hW, by rw [hU]; exact hP, hDc⟩⟩
theorem pre_sr {s : State} {H : Heap} {D : va_G} {K : Nat → ClassId} {wc : va_W} {As : List Value} (hbd : Bd D K s) (hP : va_P D vwCl wc H) : PreS s H (va_Pc As (fun U => Bd D K U ∧ va_P D vwCl wc U.heap)) As :=
  ⟨fun a U g mk h => ⟨h.1, h.2.1.call, h.2.2⟩, fun U hU hW => ⟨rfl, hbd.warm hW, by rw [hU]; exact hP⟩⟩
theorem pre_sw {s : State} {H : Heap} {D : va_G} {K : Nat → ClassId} {wc : va_W} {As : List Value} (hbd : Bd D K s) (hP : va_P D vwCl wc H) (hDc : va_D (fun _ => True) wc) : PreS s H (va_Pc As (fun U => Bd D K U ∧ va_P D vwCl wc U.heap ∧ va_D (fun _ => True) wc)) As :=
  ⟨fun a U g mk h => ⟨h.1, h.2.1.call, h.2.2⟩, fun U hU hW => ⟨rfl, hbd.warm hW, by rw [hU]; exact hP, hDc⟩⟩
theorem pre_s0 {s : State} {H : Heap} {As : List Value} : PreS s H (va_Pc As (fun _ => True)) As := ⟨fun a U g mk h => ⟨h.1, trivial⟩, fun U hU hW => ⟨rfl, trivial⟩⟩
section KW
variable {p : Program} {l : Launch} {e : Env} {R : Room} {s : State} {m : MethodId} {args : Array Value} {below : List Frame} {meth : Method} {c : Code} {H : Heap} {locs : List Loc} {cells slots : Nat} {Q : State → Prop}
variable {pc : Nat} {ls : Array Slot} {rest st0 : List Value} {a : Array Value} {A : Nat → Prop} {H0 : Heap} {D : va_G} {cl : List vw_C} {cc : ByteArray}
theorem kw_i {post : Int32 → Prop} {W0 W1 wc w1 : va_W} (hr : va_Run p l e R s m args below meth c H locs cells slots 0 0 (F0 m pc ls st0) rest (va_Qi (fun r (_ : Unit) => post r) (fun _ t => va_P D cl w1 t.heap) (inW wc) a) (inW wc)) (hP : va_P D cl W0 H) (hD : va_D A W0) (hS : va_S A H0 H locs) (isC isR : List Nat) (nW : Nat) (hnW : W0.length = nW) (hC : isC.map (fun i => W0[i]?) = wc.map some) (hC1 : isC.map (fun i => W1[i]?) = w1.map some) (hR : isR.map (fun i => W1[i]?) = isR.map (fun i => W0[i]?))
    (hcov : (List.range nW).all (fun i => isC.contains i || isR.contains i) = true) (hdis : isR.all (fun i => !isC.contains i) = true) (hlen : W1.map (fun e => e.1) = W0.map (fun e => e.1))
    (kk : ∀ (r : Int32) (H1 : Heap) (locs1 : List Loc), post r → va_P D cl W1 H1 → va_D A W1 → va_S A H0 H1 locs1 → W p l e R s m args below meth c H1 locs1 cells slots Q (F0 m (pc + 3) ls (.int r :: rest))) : W p l e R s m args below meth c H locs cells slots Q (F0 m pc ls st0) :=
  va_calli hr hS (fun q _ h => inW_sub hD hC q h) (fun q h => inW_sub hD hC q h) (fun r u t H1 locs1 ht hvm hp hB hz hk hS1 => by
    obtain ⟨hP2, hD2⟩ := cj_main hP hD isC isR nW hnW hC hC1 hR hcov hdis hlen hk (by rw [← ht]; exact hB)
    exact kk r H1 locs1 hp hP2 hD2 hS1)
theorem kw_v {W0 W1 wc w1 : va_W} (hr : va_Run p l e R s m args below meth c H locs cells slots 0 0 (F0 m pc ls st0) rest (va_Qv (fun (_ : Unit) => True) (fun _ t => va_P D cl w1 t.heap) (inW wc) a) (inW wc)) (hP : va_P D cl W0 H) (hD : va_D A W0) (hS : va_S A H0 H locs) (isC isR : List Nat) (nW : Nat) (hnW : W0.length = nW) (hC : isC.map (fun i => W0[i]?) = wc.map some) (hC1 : isC.map (fun i => W1[i]?) = w1.map some) (hR : isR.map (fun i => W1[i]?) = isR.map (fun i => W0[i]?))
    (hcov : (List.range nW).all (fun i => isC.contains i || isR.contains i) = true) (hdis : isR.all (fun i => !isC.contains i) = true) (hlen : W1.map (fun e => e.1) = W0.map (fun e => e.1))
    (kk : ∀ (H1 : Heap) (locs1 : List Loc), va_P D cl W1 H1 → va_D A W1 → va_S A H0 H1 locs1 → W p l e R s m args below meth c H1 locs1 cells slots Q (F0 m (pc + 3) ls rest)) : W p l e R s m args below meth c H locs cells slots Q (F0 m pc ls st0) :=
  va_callv hr hS (fun q _ h => inW_sub hD hC q h) (fun q h => inW_sub hD hC q h) (fun u t H1 locs1 ht hvm hp hB hz hk hS1 => by
    obtain ⟨hP2, hD2⟩ := cj_main hP hD isC isR nW hnW hC hC1 hR hcov hdis hlen hk (by rw [← ht]; exact hB)
    exact kk H1 locs1 hP2 hD2 hS1)
theorem st1 {x y : Int32} (h : x = y) (k : W p l e R s m args below meth c H locs cells slots Q (F0 m pc ls (.int y :: rest))) : W p l e R s m args below meth c H locs cells slots Q (F0 m pc ls (.int x :: rest)) := by rw [h]; exact k
theorem st1l {x y : Int64} (h : x = y) (k : W p l e R s m args below meth c H locs cells slots Q (F0 m pc ls (.long y :: rest))) : W p l e R s m args below meth c H locs cells slots Q (F0 m pc ls (.long x :: rest)) := by rw [h]; exact k
theorem st2 {x y : Int32} {v : Value} (h : x = y) (k : W p l e R s m args below meth c H locs cells slots Q (F0 m pc ls (v :: .int y :: rest))) : W p l e R s m args below meth c H locs cells slots Q (F0 m pc ls (v :: .int x :: rest)) := by rw [h]; exact k
theorem st3 {x y : Int32} {v w : Value} (h : x = y) (k : W p l e R s m args below meth c H locs cells slots Q (F0 m pc ls (v :: w :: .int y :: rest))) : W p l e R s m args below meth c H locs cells slots Q (F0 m pc ls (v :: w :: .int x :: rest)) := by rw [h]; exact k
end KW
section KA
variable {p : Program} {l : Launch} {e : Env} {R : Room} {s : State} {m : MethodId} {args : Array Value} {below : List Frame} {meth : Method} {c : Code} {H : Heap} {locs : List Loc} {cells slots : Nat} {Q : State → Prop}
variable {cc : ByteArray} {pc : Nat} {ls : Array Slot} {rest : List Value} {D : va_G} {cl : List vw_C} {A : Nat → Prop} {a : Nat} {tys : List (ClassId × FieldType)} {ws : va_W} {H0 : Heap}
theorem n_iald (hexec : p.tables.exec = Jvm.exec) (hb : c.code = cc) (hK : va_K D cl tys s) (hP : va_P D cl ws H) (q0 t0 : Nat) {cA : ClassId} {n : Nat} {f : Nat → Int32} (ha : ws[q0]? = some (a, .inl (cA, n, .inl f))) (ht : tys[t0]? = some (cA, .int)) (j : Nat) (hj : j < n) (hn : n < 2 ^ 31) (hdg : decode cc pc = .ok (.iaload, 1))
    (kk : W p l e R s m args below meth c H locs cells slots Q (F0 m (pc + 1) ls (.int (f j) :: rest))) : W p l e R s m args below meth c H locs cells slots Q (F0 m pc ls (.int (nI j) :: .ref a :: rest)) :=
  va_iald hexec hb hK hP q0 t0 ha ht (vp_in_nI hj hn) hdg (by rw [nI_clamp (Nat.lt_trans hj hn)]; exact kk)
theorem n_cald (hexec : p.tables.exec = Jvm.exec) (hb : c.code = cc) (hK : va_K D cl tys s) (hP : va_P D cl ws H) (q0 t0 : Nat) {cA : ClassId} {n : Nat} {f : Nat → Int32} (ha : ws[q0]? = some (a, .inl (cA, n, .inl f))) (ht : tys[t0]? = some (cA, .char)) (j : Nat) (hj : j < n) (hn : n < 2 ^ 31) (hdg : decode cc pc = .ok (.caload, 1))
    (kk : W p l e R s m args below meth c H locs cells slots Q (F0 m (pc + 1) ls (.int (f j) :: rest))) : W p l e R s m args below meth c H locs cells slots Q (F0 m pc ls (.int (nI j) :: .ref a :: rest)) :=
  va_cald hexec hb hK hP q0 t0 ha ht (vp_in_nI hj hn) hdg (by rw [nI_clamp (Nat.lt_trans hj hn)]; exact kk)
theorem n_zald (hexec : p.tables.exec = Jvm.exec) (hb : c.code = cc) (hK : va_K D cl tys s) (hP : va_P D cl ws H) (q0 t0 : Nat) {cA : ClassId} {n : Nat} {f : Nat → Int32} (ha : ws[q0]? = some (a, .inl (cA, n, .inl f))) (ht : tys[t0]? = some (cA, .boolean)) (j : Nat) (hj : j < n) (hn : n < 2 ^ 31) (hdg : decode cc pc = .ok (.baload, 1))
    (kk : W p l e R s m args below meth c H locs cells slots Q (F0 m (pc + 1) ls (.int (f j) :: rest))) : W p l e R s m args below meth c H locs cells slots Q (F0 m pc ls (.int (nI j) :: .ref a :: rest)) :=
  va_zald hexec hb hK hP q0 t0 ha ht (vp_in_nI hj hn) hdg (by rw [nI_clamp (Nat.lt_trans hj hn)]; exact kk)
theorem n_iast (hexec : p.tables.exec = Jvm.exec) (hb : c.code = cc) (hK : va_K D cl tys s) (hP : va_P D cl ws H) (hD : va_D A ws) (hS : va_S A H0 H locs) (q0 t0 : Nat) {cA : ClassId} {n : Nat} {f : Nat → Int32} (ha : ws[q0]? = some (a, .inl (cA, n, .inl f))) (ht : tys[t0]? = some (cA, .int)) (j : Nat) {x : Int32} (hj : j < n) (hn : n < 2 ^ 31) (hdg : decode cc pc = .ok (.iastore, 1))
    (kk : ∀ (H1 : Heap) (locs1 : List Loc), va_P D cl (ws.set q0 (a, .inl (cA, n, .inl (upd f j x)))) H1 → va_D A (ws.set q0 (a, .inl (cA, n, .inl (upd f j x)))) → va_S A H0 H1 locs1 → W p l e R s m args below meth c H1 locs1 cells slots Q (F0 m (pc + 1) ls rest)) : W p l e R s m args below meth c H locs cells slots Q (F0 m pc ls (.int x :: .int (nI j) :: .ref a :: rest)) :=
  va_iast hexec hb hK hP hD hS q0 t0 ha ht (vp_in_nI hj hn) hdg (by rw [nI_clamp (Nat.lt_trans hj hn)]; exact kk)
theorem n_cast (hexec : p.tables.exec = Jvm.exec) (hb : c.code = cc) (hK : va_K D cl tys s) (hP : va_P D cl ws H) (hD : va_D A ws) (hS : va_S A H0 H locs) (q0 t0 : Nat) {cA : ClassId} {n : Nat} {f : Nat → Int32} (ha : ws[q0]? = some (a, .inl (cA, n, .inl f))) (ht : tys[t0]? = some (cA, .char)) (j : Nat) {x : Int32} (hj : j < n) (hn : n < 2 ^ 31) (hdg : decode cc pc = .ok (.castore, 1))
    (kk : ∀ (H1 : Heap) (locs1 : List Loc), va_P D cl (ws.set q0 (a, .inl (cA, n, .inl (upd f j (vp_nar .char x))))) H1 → va_D A (ws.set q0 (a, .inl (cA, n, .inl (upd f j (vp_nar .char x))))) → va_S A H0 H1 locs1 → W p l e R s m args below meth c H1 locs1 cells slots Q (F0 m (pc + 1) ls rest)) : W p l e R s m args below meth c H locs cells slots Q (F0 m pc ls (.int x :: .int (nI j) :: .ref a :: rest)) :=
  va_cast hexec hb hK hP hD hS q0 t0 ha ht (vp_in_nI hj hn) hdg (by rw [nI_clamp (Nat.lt_trans hj hn)]; exact kk)
theorem n_zast (hexec : p.tables.exec = Jvm.exec) (hb : c.code = cc) (hK : va_K D cl tys s) (hP : va_P D cl ws H) (hD : va_D A ws) (hS : va_S A H0 H locs) (q0 t0 : Nat) {cA : ClassId} {n : Nat} {f : Nat → Int32} (ha : ws[q0]? = some (a, .inl (cA, n, .inl f))) (ht : tys[t0]? = some (cA, .boolean)) (j : Nat) {x : Int32} (hj : j < n) (hn : n < 2 ^ 31) (hdg : decode cc pc = .ok (.bastore, 1))
    (kk : ∀ (H1 : Heap) (locs1 : List Loc), va_P D cl (ws.set q0 (a, .inl (cA, n, .inl (upd f j (vp_nar .boolean x))))) H1 → va_D A (ws.set q0 (a, .inl (cA, n, .inl (upd f j (vp_nar .boolean x))))) → va_S A H0 H1 locs1 → W p l e R s m args below meth c H1 locs1 cells slots Q (F0 m (pc + 1) ls rest)) : W p l e R s m args below meth c H locs cells slots Q (F0 m pc ls (.int x :: .int (nI j) :: .ref a :: rest)) :=
  va_zast hexec hb hK hP hD hS q0 t0 ha ht (vp_in_nI hj hn) hdg (by rw [nI_clamp (Nat.lt_trans hj hn)]; exact kk)
end KA
theorem byc {P G : Prop} [Decidable P] (t : P → G) (f : ¬ P → G) : G := if h : P then t h else f h
theorem nI_nneg {n : Nat} {k : Int32} (h : n < 2 ^ 31) (hk : k < 0) : ¬ nI n = k := fun e => nI_pos h (by rw [e]; exact hk)
theorem r_zok {c : Prop} [Decidable c] {x : Int32} (e : x = if c then 1 else 0) : narrow .boolean (.int x) = .int x := by
  rw [e]
  split <;> rfl
