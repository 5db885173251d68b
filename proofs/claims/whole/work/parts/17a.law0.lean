theorem va_P_perm {D : va_G} {cl : List vw_C} {ws ws' : va_W} {H : Heap} (hp : List.Perm ws ws') (h : va_P D cl ws H) : va_P D cl ws' H := fun k q hq => by
  obtain ⟨i, hi⟩ := List.getElem?_of_mem (hp.mem_iff.mpr (List.mem_of_getElem? hq))
  exact h i q hi
theorem va_D_perm {A : Nat → Prop} {ws ws' : va_W} (hp : List.Perm ws ws') (hD : va_D A ws) : va_D A ws' := by
  have nd : (ws.map (fun e => e.1)).Nodup := by
    rw [List.nodup_iff_pairwise_ne, List.pairwise_iff_getElem]
    intro i j hi hj hij e
    rw [List.length_map] at hi hj
    rw [List.getElem_map, List.getElem_map] at e
    have := hD.1 i j ws[i] ws[j] (List.getElem?_eq_getElem hi) (List.getElem?_eq_getElem hj) e
    omega
  have nd' : (ws'.map (fun e => e.1)).Nodup := (hp.map _).nodup nd
  rw [List.nodup_iff_pairwise_ne, List.pairwise_iff_getElem] at nd'
  refine ⟨fun i j p q hi hj e => ?_, fun k q hk => ?_⟩
  · obtain ⟨hi1, hi2⟩ := List.getElem?_eq_some_iff.mp hi
    obtain ⟨hj1, hj2⟩ := List.getElem?_eq_some_iff.mp hj
    rcases Nat.lt_trichotomy i j with c | c | c
    · exfalso
      refine nd' i j (by rw [List.length_map]; exact hi1) (by rw [List.length_map]; exact hj1) c ?_
      rw [List.getElem_map, List.getElem_map, hi2, hj2]
      exact e
    · exact c
    · exfalso
      refine nd' j i (by rw [List.length_map]; exact hj1) (by rw [List.length_map]; exact hi1) c ?_
      rw [List.getElem_map, List.getElem_map, hi2, hj2]
      exact e.symm
  · obtain ⟨i, hi⟩ := List.getElem?_of_mem (hp.mem_iff.mpr (List.mem_of_getElem? hk))
    exact hD.2 i q hi
/-- the rows of the history but one -/
def oth (K : Nat → ClassId) (ra : Nat → Nat → Nat) (rN : Nat → Nat) (rD : Nat → Nat → Nat → Int32) (sp : Nat) : va_W := ((List.range 7).erase sp).flatMap (fun k => drW K (ra k) (rN k) (rD k))
theorem oth_up {K : Nat → ClassId} {ra : Nat → Nat → Nat} {rN : Nat → Nat} {rD : Nat → Nat → Nat → Int32} {sp x : Nat} {y : Nat → Nat → Int32} : oth K ra (fup rN sp x) (fup rD sp y) sp = oth K ra rN rD sp := by
  have h : ∀ k ∈ (List.range 7).erase sp, drW K (ra k) (fup rN sp x k) (fup rD sp y k) = drW K (ra k) (rN k) (rD k) := fun k hk => by
    have hk2 : k ≠ sp := ((List.Nodup.mem_erase_iff List.nodup_range).mp hk).1
    rw [fup_n hk2, fup_n hk2]
  unfold oth
  rw [List.flatMap_def, List.flatMap_def, List.map_congr_left h]
theorem rows_perm {K : Nat → ClassId} {ra : Nat → Nat → Nat} {rN : Nat → Nat} {rD : Nat → Nat → Nat → Int32} {sp : Nat} (hsp : sp < 7) : List.Perm (drW K (ra sp) (rN sp) (rD sp) ++ oth K ra rN rD sp) ((List.range 7).flatMap (fun k => drW K (ra k) (rN k) (rD k))) :=
  ((List.perm_cons_erase (List.mem_range.mpr hsp)).flatMap_right (fun k => drW K (ra k) (rN k) (rD k))).symm
theorem rows_turn {K : Nat → ClassId} {ra : Nat → Nat → Nat} {rN : Nat → Nat} {rD : Nat → Nat → Nat → Int32} {sp sq : Nat} (hsp : sp < 7) (hsq : sq < 7) (x : Nat) (y : Nat → Nat → Int32) : List.Perm (drW K (ra sp) x y ++ oth K ra rN rD sp) (drW K (ra sq) (fup rN sp x sq) (fup rD sp y sq) ++ oth K ra (fup rN sp x) (fup rD sp y) sq) := by
  have h1 := rows_perm (K := K) (ra := ra) (rN := fup rN sp x) (rD := fup rD sp y) hsp
  rw [fup_s, fup_s, oth_up] at h1
  exact h1.trans (rows_perm hsq).symm
theorem rows_turn0 {K : Nat → ClassId} {ra : Nat → Nat → Nat} {rN : Nat → Nat} {rD : Nat → Nat → Nat → Int32} {sp sq : Nat} (hsp : sp < 7) (hsq : sq < 7) : List.Perm (drW K (ra sp) (rN sp) (rD sp) ++ oth K ra rN rD sp) (drW K (ra sq) (rN sq) (rD sq) ++ oth K ra rN rD sq) := (rows_perm hsp).trans (rows_perm hsq).symm
theorem rot7 (M C a b c d : va_W) {r o r' o' : va_W} (h : List.Perm (r ++ o) (r' ++ o')) : List.Perm (M ++ (C ++ (a ++ (b ++ (c ++ (d ++ (r ++ o))))))) (M ++ (C ++ (a ++ (b ++ (c ++ (d ++ (r' ++ o'))))))) := (((((h.append_left d).append_left c).append_left b).append_left a).append_left C).append_left M
theorem pm_H {α : Type} (M C a b c d r o : List α) : List.Perm (M ++ (C ++ (a ++ (b ++ (c ++ (d ++ (r ++ o))))))) ((C ++ (d ++ (r ++ []))) ++ (M ++ (a ++ (b ++ (c ++ o))))) := by
  classical exact List.perm_iff_count.mpr (fun x => by simp only [List.count_append, List.count_nil]; omega)
theorem pm_R {α : Type} (M C a b c d r o : List α) : List.Perm (M ++ (C ++ (a ++ (b ++ (c ++ (d ++ (r ++ o))))))) ((C ++ (d ++ [])) ++ (M ++ (a ++ (b ++ (c ++ (r ++ o)))))) := by
  classical exact List.perm_iff_count.mpr (fun x => by simp only [List.count_append, List.count_nil]; omega)
theorem pm_T {α : Type} (M C a b c d r o : List α) : List.Perm (M ++ (C ++ (a ++ (b ++ (c ++ (d ++ (r ++ o))))))) ((C ++ (a ++ (d ++ []))) ++ (M ++ (b ++ (c ++ (r ++ o))))) := by
  classical exact List.perm_iff_count.mpr (fun x => by simp only [List.count_append, List.count_nil]; omega)
theorem pm_S {α : Type} (M C a b c d r o : List α) : List.Perm (M ++ (C ++ (a ++ (b ++ (c ++ (d ++ (r ++ o))))))) ((C ++ (b ++ (c ++ (d ++ [])))) ++ (M ++ (a ++ (r ++ o)))) := by
  classical exact List.perm_iff_count.mpr (fun x => by simp only [List.count_append, List.count_nil]; omega)
theorem pm_Z {α : Type} (M C a b c d r o : List α) : List.Perm (M ++ (C ++ (a ++ (b ++ (c ++ (d ++ (r ++ o))))))) ((C ++ (b ++ (c ++ (d ++ (r ++ []))))) ++ (M ++ (a ++ o))) := by
  classical exact List.perm_iff_count.mpr (fun x => by simp only [List.count_append, List.count_nil]; omega)
theorem pm_P {α : Type} (M C a b c d r o : List α) : List.Perm (M ++ (C ++ (a ++ (b ++ (c ++ (d ++ (r ++ o))))))) (C ++ (M ++ (a ++ (b ++ (c ++ (d ++ (r ++ o))))))) := by
  classical exact List.perm_iff_count.mpr (fun x => by simp only [List.count_append, List.count_nil]; omega)
theorem fup_le {rN : Nat → Nat} {sp x : Nat} (h : ∀ k, k < 7 → rN k ≤ 32) (hx : x ≤ 32) : ∀ k, k < 7 → fup rN sp x k ≤ 32 := fun k hk => by
  unfold fup
  split
  · exact hx
  · exact h k hk
theorem va_D_left {A : Nat → Prop} {X R : va_W} (h : va_D A (X ++ R)) : va_D A X := by
  have key : ∀ (k : Nat) (q : Nat × va_E), X[k]? = some q → (X ++ R)[k]? = some q := fun k q hk => by
    rw [List.getElem?_append_left (List.getElem?_eq_some_iff.mp hk).1]
    exact hk
  exact ⟨fun i j p q hi hj e => h.1 i j p q (key i p hi) (key j q hj) e, fun k q hk => h.2 k q (key k q hk)⟩
theorem va_P_left {D : va_G} {cl : List vw_C} {X R : va_W} {H : Heap} (h : va_P D cl (X ++ R) H) : va_P D cl X H := fun k q hk => h k q (by
    rw [List.getElem?_append_left (List.getElem?_eq_some_iff.mp hk).1]
    exact hk)
/-- a call, and cells that it never sees -/
theorem cj_rest {A : Nat → Prop} {D : va_G} {cl : List vw_C} {X0 X1 R wc w1 : va_W} {H H1 : Heap} (hP : va_P D cl (X0 ++ R) H) (hD : va_D A (X0 ++ R)) (isC isR : List Nat) (nW : Nat) (hnW : X0.length = nW) (hC : isC.map (fun i => X0[i]?) = wc.map some) (hC1 : isC.map (fun i => X1[i]?) = w1.map some) (hR : isR.map (fun i => X1[i]?) = isR.map (fun i => X0[i]?))
    (hcov : (List.range nW).all (fun i => isC.contains i || isR.contains i) = true) (hdis : isR.all (fun i => !isC.contains i) = true) (hlen : X1.map (fun e => e.1) = X0.map (fun e => e.1)) (hk : ∀ q : Nat, q < H.size → ¬ inW wc q → H1[q]? = H[q]?) (hP1 : va_P D cl w1 H1) : va_P D cl (X1 ++ R) H1 ∧ va_D A (X1 ++ R) := by
  obtain ⟨a, -⟩ := cj_main (va_P_left hP) (va_D_left hD) isC isR nW hnW hC hC1 hR hcov hdis hlen hk hP1
  have hl : X1.length = X0.length := by
    have := congrArg List.length hlen
    simpa using this
  refine ⟨fun k q hq => ?_, va_D_same (by rw [List.map_append, List.map_append, hlen]) hD⟩
  by_cases c : k < X1.length
  · rw [List.getElem?_append_left c] at hq
    exact a k q hq
  · rw [List.getElem?_append_right (by omega)] at hq
    have h0 : (X0 ++ R)[k]? = some q := by
      rw [List.getElem?_append_right (by omega), ← hl]
      exact hq
    refine (hP k q h0).kept (hk q.1 (hP k q h0).lt (fun hin => ?_))
    obtain ⟨j, e, hj⟩ := inW_at hin
    obtain ⟨i, h1, h2⟩ := map_at hC hj
    have hi : i < X0.length := (List.getElem?_eq_some_iff.mp h2).1
    have h3 : (X0 ++ R)[i]? = some (q.1, e) := by
      rw [List.getElem?_append_left hi]
      exact h2
    have := hD.1 i k _ q h3 h0 rfl
    omega
section KWR
variable {p : Program} {l : Launch} {e : Env} {R : Room} {s : State} {m : MethodId} {args : Array Value} {below : List Frame} {meth : Method} {c : Code} {H : Heap} {locs : List Loc} {cells slots : Nat} {Q : State → Prop}
variable {pc : Nat} {ls : Array Slot} {rest st0 : List Value} {a : Array Value} {A : Nat → Prop} {H0 : Heap} {D : va_G} {cl : List vw_C} {cc : ByteArray}
theorem kwR_i {post : Int32 → Prop} {X0 X1 Rw wc w1 : va_W} (hr : va_Run p l e R s m args below meth c H locs cells slots 0 0 (F0 m pc ls st0) rest (va_Qi (fun r (_ : Unit) => post r) (fun _ t => va_P D cl w1 t.heap) (inW wc) a) (inW wc)) (hP : va_P D cl (X0 ++ Rw) H) (hD : va_D A (X0 ++ Rw)) (hS : va_S A H0 H locs) (isC isR : List Nat) (nW : Nat) (hnW : X0.length = nW) (hC : isC.map (fun i => X0[i]?) = wc.map some) (hC1 : isC.map (fun i => X1[i]?) = w1.map some) (hR : isR.map (fun i => X1[i]?) = isR.map (fun i => X0[i]?))
    (hcov : (List.range nW).all (fun i => isC.contains i || isR.contains i) = true) (hdis : isR.all (fun i => !isC.contains i) = true) (hlen : X1.map (fun e => e.1) = X0.map (fun e => e.1))
    (kk : ∀ (r : Int32) (H1 : Heap) (locs1 : List Loc), post r → va_P D cl (X1 ++ Rw) H1 → va_D A (X1 ++ Rw) → va_S A H0 H1 locs1 → W p l e R s m args below meth c H1 locs1 cells slots Q (F0 m (pc + 3) ls (.int r :: rest))) : W p l e R s m args below meth c H locs cells slots Q (F0 m pc ls st0) :=
  va_calli hr hS (fun q _ h => inW_sub (va_D_left hD) hC q h) (fun q h => inW_sub (va_D_left hD) hC q h) (fun r u t H1 locs1 ht hvm hp hB hz hk hS1 => by
    obtain ⟨hP2, hD2⟩ := cj_rest hP hD isC isR nW hnW hC hC1 hR hcov hdis hlen hk (by rw [← ht]; exact hB)
    exact kk r H1 locs1 hp hP2 hD2 hS1)
end KWR
/-- what holds between the class and the reference, in front of every call -/
def LInv (fS fB fT fV fP : Nat → Int32) (kn lm : Nat) (z0 z1 : Int32) (sp kt ln po od : Nat) (cS cV cF : Nat → Int32) (tn n0 : Nat) (e0 : Nat → Nat → Int32) (n1 : Nat) (e1 : Nat → Nat → Int32) (n : Nat) (d : Nat → Nat → Int32) (rN : Nat → Nat) (rD : Nat → Nat → Nat → Int32) : Prop :=
  (RelD fS n d ∧ tn ≤ 32) ∧ (SlotR (fun k => fT (0 + k)) (fV 0) z0 n0 e0 ∧ SlotR (fun k => fT (360 + k)) (fV 1) z1 n1 e1) ∧ (HR fB rN rD sp kt ∧ sp < 7 ∧ kt ≤ 6 ∧ kn = kt ∧ ∀ k, k < 7 → rN k ≤ 32) ∧ (PadR fP cS ln ∧ lm = ln) ∧ (∀ i, VFp (cV i) (cF i)) ∧ po ≤ 80 ∧ od ≤ 40
theorem side_no {x : Int32} (h0 : ¬ x = 0) (h1 : ¬ x = 1) : x < 0 ∨ 1 < x := by
  rcases Decidable.em (x < 0) with c | c
  · exact Or.inl c
  · right
    obtain ⟨j, hj, rfl⟩ := nI_of c
    have a0 : ¬ j = 0 := fun e => h0 (by rw [e]; exact nI_0)
    have a1 : ¬ j = 1 := fun e => h1 (by rw [e]; rfl)
    exact nI_lt (a := 1) (by omega) (by omega)
theorem P_write {fS fB : Nat → Int32} {n sp kt j : Nat} {d rv : Nat → Nat → Int32} {rN : Nat → Nat} {rD : Nat → Nat → Nat → Int32} {xd : Int32} (H : HR fB rN rD sp kt) (hsp : sp < 7) (hkt : kt ≤ 6) (R : RelD fS n d) (hj : j < n) : r_X0_store_in (d 0) j xd = r_X5_write_in fS n j xd ∧ Aft (n_X5_write_in_1 fS n j xd) (n_X5_write_in_3 fS fB kt j xd) (n_X5_write_in_0_3 fS kt j xd) n (D_X0_store_in n d j xd) rN rD sp kt n d rv (r_X0_store_in (d 0) j xd) := by
  unfold r_X5_write_in n_X5_write_in_1 n_X5_write_in_3 n_X5_write_in_0_3
  rcases Rel.write R (xd := xd) hj with ⟨e1, e2, e3, e4⟩ | ⟨e1, e2, e3, e4⟩
  · have e5 : 0 ≤ r_X5_writeFault_in fS j xd := by rw [e1]; decide
    simp only [if_pos e5]
    exact ⟨e2, Aft.ok H hsp hkt R e4 e3⟩
  · simp only [if_neg e1]
    exact ⟨e2, Aft.er H hsp hkt e4 e3⟩
theorem P_await0 {fS fB : Nat → Int32} {n sp kt : Nat} {d rv : Nat → Nat → Int32} {rN : Nat → Nat} {rD : Nat → Nat → Nat → Int32} {xk : Int32} (H : HR fB rN rD sp kt) (hsp : sp < 7) (hkt : kt ≤ 6) (R : RelD fS n d) : r_X0_expect_0 (d 9 1) xk = r_X5_await_0 fS xk ∧ Aft (n_X5_await_0_1 fS xk) (n_X5_await_0_3 fS fB kt xk) (n_X5_await_0_0_3 kt xk) n (D_X0_expect_0 n d xk) rN rD sp kt n d rv (r_X0_expect_0 (d 9 1) xk) := by
  unfold r_X5_await_0 n_X5_await_0_1 n_X5_await_0_3 n_X5_await_0_0_3
  rcases Rel.aw0 R (xk := xk) with ⟨e1, e2, e3, e4⟩ | ⟨e1, e2, e3, e4⟩
  · simp only [if_pos e1]
    exact ⟨e2, Aft.ok H hsp hkt R e4 e3⟩
  · simp only [if_neg e1]
    exact ⟨e2, Aft.er H hsp hkt e4 e3⟩
theorem P_await1 {fS fB : Nat → Int32} {n sp kt : Nat} {d rv : Nat → Nat → Int32} {rN : Nat → Nat} {rD : Nat → Nat → Nat → Int32} {xk : Int32} (H : HR fB rN rD sp kt) (hsp : sp < 7) (hkt : kt ≤ 6) (R : RelD fS n d) : r_X0_expect_1 (d 9 2) xk = r_X5_await_1 fS xk ∧ Aft (n_X5_await_1_1 fS xk) (n_X5_await_1_3 fS fB kt xk) (n_X5_await_1_0_3 kt xk) n (D_X0_expect_1 n d xk) rN rD sp kt n d rv (r_X0_expect_1 (d 9 2) xk) := by
  unfold r_X5_await_1 n_X5_await_1_1 n_X5_await_1_3 n_X5_await_1_0_3
  rcases Rel.aw1 R (xk := xk) with ⟨e1, e2, e3, e4⟩ | ⟨e1, e2, e3, e4⟩
  · simp only [if_pos e1]
    exact ⟨e2, Aft.ok H hsp hkt R e4 e3⟩
  · simp only [if_neg e1]
    exact ⟨e2, Aft.er H hsp hkt e4 e3⟩
