theorem goW {fP : Nat → Int32} {ln : Nat} : ∀ (fu i q p w : Nat) (e o t e' o' t' : Int32), (goI fP ln fu i q p w e o t).2.2.2.1 = (goI fP ln fu i q p w e' o' t').2.2.2.1
  | 0, _, _, _, _, _, _, _, _, _, _ => rfl
  | fu + 1, i, q, p, w, e, o, t, e', o', t' => by
    rw [goI_s, goI_s]
    repeat' split
    all_goals rfl
theorem snw {fP : Nat → Int32} {ln po wz : Nat} {xl xh : Int32} (h : ¬ (nI wz) = 0) : n_X5_sign_0_9 fP ln po wz xl xh = 1 := by
  unfold n_X5_sign_0_9
  rw [if_neg h]
theorem go0 {fP : Nat → Int32} {ln : Nat} (fu q p w : Nat) (e o t : Int32) : (goI fP ln fu 0 q p w e o t).2.2.2.1 = w := by
  cases fu with
  | zero => rfl
  | succ fu => rw [goI_s, if_pos nI_0]
theorem go_w {fP : Nat → Int32} {ln fu i q p w : Nat} {e o t : Int32} (hi : ¬ (nI i) = 0) (h : (nI ((goI fP ln (fu + 1) i q p w e o t).2.2.2.1)) = 0) : (nI (n_X5_order_0_9 fP ln p w)) = 0 := by
  rw [goI_s, if_neg hi] at h
  by_cases c : (nI (n_X5_order_0_9 fP ln p w)) = 0
  · exact c
  · rw [if_neg c, go0] at h
    exact h
theorem od_w {fP : Nat → Int32} {ln p w : Nat} (h : (nI (n_X5_order_0_9 fP ln p w)) = 0) : (n_X5_order_0_10 fP ln p) = 33 ∨ (n_X5_order_0_10 fP ln p) = 120 → (n_X5_order_0_11 fP ln p w) = 0 ∨ (n_X5_order_0_11 fP ln p w) = 1 := by
  have key : ∀ x : Int32, ¬ r_X5_in x 48 49 = 0 → x - 48 = 0 ∨ x - 48 = 1 := by
    intro x hx
    obtain ⟨h1, h2⟩ := in_of hx
    obtain ⟨k, hk, rfl⟩ := nI_of (x := x) (fun q => h1 (by rw [Int32.lt_iff_toInt_lt] at q ⊢; exact Int.lt_trans q (by decide)))
    have a1 : 48 ≤ k := by
      rcases Nat.lt_or_ge k 48 with c | c
      · exact absurd (nI_lt (b := 48) c (by omega)) h1
      · exact c
    have a2 : k ≤ 49 := by
      rcases Nat.lt_or_ge 49 k with c | c
      · exact absurd (nI_lt (a := 49) c (by omega)) h2
      · exact c
    rcases (show k = 48 ∨ k = 49 by omega) with rfl | rfl
    · exact Or.inl (by decide)
    · exact Or.inr (by decide)
  intro hl
  have hw : (nI w) = 0 := by
    by_cases c : (nI w) = 0
    · exact c
    · exfalso
      unfold n_X5_order_0_9 at h
      rw [if_neg c] at h
      unfold n_X5_order_0_10 at hl
      rcases hl with hl | hl
      · rw [hl, if_neg (by decide), if_neg (by decide), if_pos rfl, snw (wz := n_X5_sign_0_9 fP ln p 1 48 49) (by rw [snw (by decide)]; decide)] at h
        exact absurd h (by decide)
      · rw [hl, if_neg (by decide), if_neg (by decide), if_neg (by decide), if_pos rfl, snw (by decide)] at h
        have e : n_X5_number_0_9 fP ln (n_X5_sign_0_8 fP ln p 1 48 49) 1 = 1 := by
          unfold n_X5_number_0_9
          rw [snw (by decide)]
          rw [nmI_s]
          repeat' split
          all_goals first | rfl | (exfalso; rename_i c1; exact absurd c1 (by decide)) | (rename_i c1 _ _; exact absurd c1 (by decide)) | (rename_i c1 _; exact absurd c1 (by decide))
        rw [e] at h
        exact absurd h (by decide)
  unfold n_X5_order_0_9 at h
  unfold n_X5_order_0_11
  rw [if_pos hw] at h ⊢
  unfold n_X5_order_0_10 at hl
  have fin : (nI (n_X5_sign_0_9 fP ln (p + 1) 0 48 49)) = 0 → (r_X5_sign fP ln (p + 1)) - 48 = 0 ∨ (r_X5_sign fP ln (p + 1)) - 48 = 1 := by
    intro z
    unfold n_X5_sign_0_9 at z
    rw [if_pos (by decide)] at z
    unfold r_X5_sign
    by_cases c : r_X5_in (if (nI ln) ≤ (nI (p + 1)) then 0 else (fP (p + 1))) 48 49 = 0
    · rw [if_pos c] at z
      exact absurd z (by decide)
    · exact key _ c
  rcases hl with hl | hl
  · rw [hl, if_neg (by decide), if_neg (by decide), if_pos rfl] at h ⊢
    apply fin
    by_cases c : (nI (n_X5_sign_0_9 fP ln (p + 1) 0 48 49)) = 0
    · exact c
    · rw [snw c] at h
      exact absurd h (by decide)
  · rw [hl, if_neg (by decide), if_neg (by decide), if_neg (by decide), if_pos rfl] at h ⊢
    apply fin
    by_cases c : (nI (n_X5_sign_0_9 fP ln (p + 1) 0 48 49)) = 0
    · exact c
    · exfalso
      have e : ¬ (nI (n_X5_number_0_9 fP ln (n_X5_sign_0_8 fP ln (p + 1) 0 48 49) (n_X5_sign_0_9 fP ln (p + 1) 0 48 49))) = 0 := by
        unfold n_X5_number_0_9
        rw [snw c, (nm_w 3).2]
        exact n1_0
      exact e h
def gdI (fP : Nat → Int32) (ln : Nat) (n : Nat) : Nat → Nat → Nat → Nat → Nat → Nat → Int32 → Int32 → Int32 → (Nat → Int32) → (Nat × Nat × Nat × Nat × Nat × Int32 × Int32 × Int32 × (Nat → Int32))
  | 0, m_, i_, q, p_, w_, e_, o_, t_, vS => (m_, i_, q, p_, w_, e_, o_, t_, vS)
  | fu_ + 1, m_, i_, q, p_, w_, e_, o_, t_, vS => (if (nI i_) = 0 then (m_, i_, q, p_, w_, e_, o_, t_, vS) else (if (r_X5_does vS (n_X5_order_0_10 fP ln p_) (n_X5_order_0_11 fP ln p_ w_) (n_X5_order_0_12 fP ln p_ w_) n) = 0 then (gdI fP ln n fu_ m_ 0 (q + 1) (n_X5_order_0_8 fP ln p_ w_) (n_X5_order_0_9 fP ln p_ w_) (n_X5_order_0_10 fP ln p_) (n_X5_order_0_11 fP ln p_ w_) (n_X5_order_0_12 fP ln p_ w_) (n_X5_does_1 vS (n_X5_order_0_10 fP ln p_) (n_X5_order_0_11 fP ln p_ w_) (n_X5_order_0_12 fP ln p_ w_) n)) else (if (nI (n_X5_order_0_9 fP ln p_ w_)) = 0 then (if (nI ln) ≤ (nI (n_X5_order_0_8 fP ln p_ w_)) then (gdI fP ln n fu_ (m_ + 1) 0 (q + 1) (n_X5_order_0_8 fP ln p_ w_) (n_X5_order_0_9 fP ln p_ w_) (n_X5_order_0_10 fP ln p_) (n_X5_order_0_11 fP ln p_ w_) (n_X5_order_0_12 fP ln p_ w_) (n_X5_does_1 vS (n_X5_order_0_10 fP ln p_) (n_X5_order_0_11 fP ln p_ w_) (n_X5_order_0_12 fP ln p_ w_) n)) else (if (nI (n_X5_sign_0_9 fP ln (n_X5_order_0_8 fP ln p_ w_) (n_X5_order_0_9 fP ln p_ w_) 59 59)) = 0 then (gdI fP ln n fu_ (m_ + 1) 1 (q + 1) (n_X5_sign_0_8 fP ln (n_X5_order_0_8 fP ln p_ w_) (n_X5_order_0_9 fP ln p_ w_) 59 59) (n_X5_sign_0_9 fP ln (n_X5_order_0_8 fP ln p_ w_) (n_X5_order_0_9 fP ln p_ w_) 59 59) (n_X5_order_0_10 fP ln p_) (n_X5_order_0_11 fP ln p_ w_) (n_X5_order_0_12 fP ln p_ w_) (n_X5_does_1 vS (n_X5_order_0_10 fP ln p_) (n_X5_order_0_11 fP ln p_ w_) (n_X5_order_0_12 fP ln p_ w_) n)) else (gdI fP ln n fu_ (m_ + 1) 0 (q + 1) (n_X5_sign_0_8 fP ln (n_X5_order_0_8 fP ln p_ w_) (n_X5_order_0_9 fP ln p_ w_) 59 59) (n_X5_sign_0_9 fP ln (n_X5_order_0_8 fP ln p_ w_) (n_X5_order_0_9 fP ln p_ w_) 59 59) (n_X5_order_0_10 fP ln p_) (n_X5_order_0_11 fP ln p_ w_) (n_X5_order_0_12 fP ln p_ w_) (n_X5_does_1 vS (n_X5_order_0_10 fP ln p_) (n_X5_order_0_11 fP ln p_ w_) (n_X5_order_0_12 fP ln p_ w_) n)))) else (gdI fP ln n fu_ (m_ + 1) 0 (q + 1) (n_X5_order_0_8 fP ln p_ w_) (n_X5_order_0_9 fP ln p_ w_) (n_X5_order_0_10 fP ln p_) (n_X5_order_0_11 fP ln p_ w_) (n_X5_order_0_12 fP ln p_ w_) (n_X5_does_1 vS (n_X5_order_0_10 fP ln p_) (n_X5_order_0_11 fP ln p_ w_) (n_X5_order_0_12 fP ln p_ w_) n)))))
theorem gdI_s (fP : Nat → Int32) (ln : Nat) (n : Nat) (fu_ : Nat) (m_ : Nat) (i_ : Nat) (q : Nat) (p_ : Nat) (w_ : Nat) (e_ : Int32) (o_ : Int32) (t_ : Int32) (vS : Nat → Int32) : gdI fP ln n (fu_ + 1) m_ i_ q p_ w_ e_ o_ t_ vS = (if (nI i_) = 0 then (m_, i_, q, p_, w_, e_, o_, t_, vS) else (if (r_X5_does vS (n_X5_order_0_10 fP ln p_) (n_X5_order_0_11 fP ln p_ w_) (n_X5_order_0_12 fP ln p_ w_) n) = 0 then (gdI fP ln n fu_ m_ 0 (q + 1) (n_X5_order_0_8 fP ln p_ w_) (n_X5_order_0_9 fP ln p_ w_) (n_X5_order_0_10 fP ln p_) (n_X5_order_0_11 fP ln p_ w_) (n_X5_order_0_12 fP ln p_ w_) (n_X5_does_1 vS (n_X5_order_0_10 fP ln p_) (n_X5_order_0_11 fP ln p_ w_) (n_X5_order_0_12 fP ln p_ w_) n)) else (if (nI (n_X5_order_0_9 fP ln p_ w_)) = 0 then (if (nI ln) ≤ (nI (n_X5_order_0_8 fP ln p_ w_)) then (gdI fP ln n fu_ (m_ + 1) 0 (q + 1) (n_X5_order_0_8 fP ln p_ w_) (n_X5_order_0_9 fP ln p_ w_) (n_X5_order_0_10 fP ln p_) (n_X5_order_0_11 fP ln p_ w_) (n_X5_order_0_12 fP ln p_ w_) (n_X5_does_1 vS (n_X5_order_0_10 fP ln p_) (n_X5_order_0_11 fP ln p_ w_) (n_X5_order_0_12 fP ln p_ w_) n)) else (if (nI (n_X5_sign_0_9 fP ln (n_X5_order_0_8 fP ln p_ w_) (n_X5_order_0_9 fP ln p_ w_) 59 59)) = 0 then (gdI fP ln n fu_ (m_ + 1) 1 (q + 1) (n_X5_sign_0_8 fP ln (n_X5_order_0_8 fP ln p_ w_) (n_X5_order_0_9 fP ln p_ w_) 59 59) (n_X5_sign_0_9 fP ln (n_X5_order_0_8 fP ln p_ w_) (n_X5_order_0_9 fP ln p_ w_) 59 59) (n_X5_order_0_10 fP ln p_) (n_X5_order_0_11 fP ln p_ w_) (n_X5_order_0_12 fP ln p_ w_) (n_X5_does_1 vS (n_X5_order_0_10 fP ln p_) (n_X5_order_0_11 fP ln p_ w_) (n_X5_order_0_12 fP ln p_ w_) n)) else (gdI fP ln n fu_ (m_ + 1) 0 (q + 1) (n_X5_sign_0_8 fP ln (n_X5_order_0_8 fP ln p_ w_) (n_X5_order_0_9 fP ln p_ w_) 59 59) (n_X5_sign_0_9 fP ln (n_X5_order_0_8 fP ln p_ w_) (n_X5_order_0_9 fP ln p_ w_) 59 59) (n_X5_order_0_10 fP ln p_) (n_X5_order_0_11 fP ln p_ w_) (n_X5_order_0_12 fP ln p_ w_) (n_X5_does_1 vS (n_X5_order_0_10 fP ln p_) (n_X5_order_0_11 fP ln p_ w_) (n_X5_order_0_12 fP ln p_ w_) n)))) else (gdI fP ln n fu_ (m_ + 1) 0 (q + 1) (n_X5_order_0_8 fP ln p_ w_) (n_X5_order_0_9 fP ln p_ w_) (n_X5_order_0_10 fP ln p_) (n_X5_order_0_11 fP ln p_ w_) (n_X5_order_0_12 fP ln p_ w_) (n_X5_does_1 vS (n_X5_order_0_10 fP ln p_) (n_X5_order_0_11 fP ln p_ w_) (n_X5_order_0_12 fP ln p_ w_) n))))) := rfl
def r_X5_go_1 (fS : Nat → Int32) (fP : Nat → Int32) (ln : Nat) (le : Int32) (on : Int32) (tw : Int32) (n : Nat) : Int32 := (nI ((gdI fP ln n 82 0 1 0 0 0 le on tw fS).1))
def n_X5_go_1_0_8 (fS : Nat → Int32) (fP : Nat → Int32) (ln : Nat) (le : Int32) (on : Int32) (tw : Int32) (n : Nat) : Nat := (((((gdI fP ln n 82 0 1 0 0 0 le on tw fS).2).2).2).1)
def n_X5_go_1_0_9 (fS : Nat → Int32) (fP : Nat → Int32) (ln : Nat) (le : Int32) (on : Int32) (tw : Int32) (n : Nat) : Nat := ((((((gdI fP ln n 82 0 1 0 0 0 le on tw fS).2).2).2).2).1)
def n_X5_go_1_0_10 (fS : Nat → Int32) (fP : Nat → Int32) (ln : Nat) (le : Int32) (on : Int32) (tw : Int32) (n : Nat) : Int32 := (((((((gdI fP ln n 82 0 1 0 0 0 le on tw fS).2).2).2).2).2).1)
def n_X5_go_1_0_11 (fS : Nat → Int32) (fP : Nat → Int32) (ln : Nat) (le : Int32) (on : Int32) (tw : Int32) (n : Nat) : Int32 := ((((((((gdI fP ln n 82 0 1 0 0 0 le on tw fS).2).2).2).2).2).2).1)
def n_X5_go_1_0_12 (fS : Nat → Int32) (fP : Nat → Int32) (ln : Nat) (le : Int32) (on : Int32) (tw : Int32) (n : Nat) : Int32 := (((((((((gdI fP ln n 82 0 1 0 0 0 le on tw fS).2).2).2).2).2).2).2).1)
def n_X5_go_1_1 (fS : Nat → Int32) (fP : Nat → Int32) (ln : Nat) (le : Int32) (on : Int32) (tw : Int32) (n : Nat) : Nat → Int32 := (((((((((gdI fP ln n 82 0 1 0 0 0 le on tw fS).2).2).2).2).2).2).2).2)
set_option maxHeartbeats 4000000 in
set_option maxRecDepth 100000 in
theorem c_X5_go_1 (l : Launch) (D : va_G) (K : Nat → ClassId) (oM : Nat) (aS : Nat) (aA : Nat) (aB : Nat) (aT : Nat) (aV : Nat) (aP : Nat) (fS : Nat → Int32) (fA : Nat → Int32) (fB : Nat → Int32) (fT : Nat → Int32) (fV : Nat → Int32) (fP : Nat → Int32) (kn : Nat) (ln : Nat) (po : Nat) (wz : Nat) (le : Int32) (on : Int32) (tw : Int32) (n : Nat) (hs0 : fS 0 = nI n) (hn1 : 1 ≤ n) (hn : n ≤ 32) (hln : ln ≤ 80) (hgo : (nI ((goI fP ln 82 1 0 0 0 le on tw).2.2.2.1)) = 0) : Met l yX5_go wsX5_go ({ frames := 8, cells := 0, slots := 0, locals := 178 }) (va_Pc [.ref oM, .int 1] (fun U => Bd D K U ∧ va_P D vwCl [(oM, .inr (5, [.ref aS, .ref aA, .ref aB, .int (nI kn), .ref aT, .ref aV, .ref aP, .int (nI ln), .int (nI po), .int (nI wz), .int le, .int on, .int tw])), (aS, .inl (K 0, 360, .inl fS)), (aA, .inl (K 0, 360, .inl fA)), (aB, .inl (K 0, 2160, .inl fB)), (aT, .inl (K 0, 720, .inl fT)), (aV, .inl (K 2, 2, .inl fV)), (aP, .inl (K 0, 80, .inl fP))] U.heap ∧ va_D (fun _ => True) [(oM, .inr (5, [.ref aS, .ref aA, .ref aB, .int (nI kn), .ref aT, .ref aV, .ref aP, .int (nI ln), .int (nI po), .int (nI wz), .int le, .int on, .int tw])), (aS, .inl (K 0, 360, .inl fS)), (aA, .inl (K 0, 360, .inl fA)), (aB, .inl (K 0, 2160, .inl fB)), (aT, .inl (K 0, 720, .inl fT)), (aV, .inl (K 2, 2, .inl fV)), (aP, .inl (K 0, 80, .inl fP))])) (va_Qi (fun r (_ : Unit) => r = (r_X5_go_1 fS fP ln le on tw n)) (fun _ t => va_P D vwCl [(oM, .inr (5, [.ref aS, .ref aA, .ref aB, .int (nI kn), .ref aT, .ref aV, .ref aP, .int (nI ln), .int (nI (n_X5_go_1_0_8 fS fP ln le on tw n)), .int (nI (n_X5_go_1_0_9 fS fP ln le on tw n)), .int (n_X5_go_1_0_10 fS fP ln le on tw n), .int (n_X5_go_1_0_11 fS fP ln le on tw n), .int (n_X5_go_1_0_12 fS fP ln le on tw n)])), (aS, .inl (K 0, 360, .inl (n_X5_go_1_1 fS fP ln le on tw n))), (aA, .inl (K 0, 360, .inl fA)), (aB, .inl (K 0, 2160, .inl fB)), (aT, .inl (K 0, 720, .inl fT)), (aV, .inl (K 2, 2, .inl fV)), (aP, .inl (K 0, 80, .inl fP))] t.heap) (inW [(oM, .inr (5, [.ref aS, .ref aA, .ref aB, .int (nI kn), .ref aT, .ref aV, .ref aP, .int (nI ln), .int (nI po), .int (nI wz), .int le, .int on, .int tw])), (aS, .inl (K 0, 360, .inl fS)), (aA, .inl (K 0, 360, .inl fA)), (aB, .inl (K 0, 2160, .inl fB)), (aT, .inl (K 0, 720, .inl fT)), (aV, .inl (K 2, 2, .inl fV)), (aP, .inl (K 0, 80, .inl fP))])) 0 0 (inW [(oM, .inr (5, [.ref aS, .ref aA, .ref aB, .int (nI kn), .ref aT, .ref aV, .ref aP, .int (nI ln), .int (nI po), .int (nI wz), .int le, .int on, .int tw])), (aS, .inl (K 0, 360, .inl fS)), (aA, .inl (K 0, 360, .inl fA)), (aB, .inl (K 0, 2160, .inl fB)), (aT, .inl (K 0, 720, .inl fT)), (aV, .inl (K 2, 2, .inl fV)), (aP, .inl (K 0, 80, .inl fP))]) := by
  refine Met.ofW (cc := cX5_go) (maxL := 6) (ret := (some .int)) (by decide) rfl ?_
  intro p e s m args below meth c s₁ B hml hv
  obtain ⟨rfl, hbd, hP, hD0⟩ := hv
  have hx := B.exec
  have hb := B.bytes
  have hr := B.returns
  have hts := atoms_spec (ws := wsX5_go) B.pre
  have hown : s.vm.findClass RX5 = some m.cls := findClass_of_methodNamed B.named
  have hlocks := B.notSynchronized
  have hK := hbd.2
  have hP : va_P D vwCl [(oM, .inr (5, [.ref aS, .ref aA, .ref aB, .int (nI kn), .ref aT, .ref aV, .ref aP, .int (nI ln), .int (nI po), .int (nI wz), .int le, .int on, .int tw])), (aS, .inl (K 0, 360, .inl fS)), (aA, .inl (K 0, 360, .inl fA)), (aB, .inl (K 0, 2160, .inl fB)), (aT, .inl (K 0, 720, .inl fT)), (aV, .inl (K 2, 2, .inl fV)), (aP, .inl (K 0, 80, .inl fP))] s.heap := hP
  have hin5 : ∀ w ∈ wsX50, w ∈ wsX5_go := by decide +kernel
  have hD := hD0.own
  generalize hAe : inW [(oM, .inr (5, [.ref aS, .ref aA, .ref aB, .int (nI kn), .ref aT, .ref aV, .ref aP, .int (nI ln), .int (nI po), .int (nI wz), .int le, .int on, .int tw])), (aS, .inl (K 0, 360, .inl fS)), (aA, .inl (K 0, 360, .inl fA)), (aB, .inl (K 0, 2160, .inl fB)), (aT, .inl (K 0, 720, .inl fT)), (aV, .inl (K 2, 2, .inl fV)), (aP, .inl (K 0, 80, .inl fP))] = A at hD ⊢
  have hS : va_S A s.heap s.heap [] := va_S.rf
  have hl := lv_entry ([.ref oM, .int 1]) (n := 6) (Nat.le_of_ble_eq_true rfl)
  rw [lg_entry_eq]
  generalize (lg_sl ([.ref oM, .int 1]) ++ List.replicate (6 - (lg_sl ([.ref oM, .int 1])).length) Slot.unset).toArray = ls at hl ⊢
  have hl : lv_has ls 6 [(0, .ref oM), (1, .int 1)] := hl
  have K0 : ∀ (H : Heap) (locs : List Loc) (ls : Array Slot), va_P D vwCl [(oM, .inr (5, [.ref aS, .ref aA, .ref aB, .int (nI kn), .ref aT, .ref aV, .ref aP, .int (nI ln), .int (nI po), .int (nI wz), .int le, .int on, .int tw])), (aS, .inl (K 0, 360, .inl fS)), (aA, .inl (K 0, 360, .inl fA)), (aB, .inl (K 0, 2160, .inl fB)), (aT, .inl (K 0, 720, .inl fT)), (aV, .inl (K 2, 2, .inl fV)), (aP, .inl (K 0, 80, .inl fP))] H → va_D A [(oM, .inr (5, [.ref aS, .ref aA, .ref aB, .int (nI kn), .ref aT, .ref aV, .ref aP, .int (nI ln), .int (nI po), .int (nI wz), .int le, .int on, .int tw])), (aS, .inl (K 0, 360, .inl fS)), (aA, .inl (K 0, 360, .inl fA)), (aB, .inl (K 0, 2160, .inl fB)), (aT, .inl (K 0, 720, .inl fT)), (aV, .inl (K 2, 2, .inl fV)), (aP, .inl (K 0, 80, .inl fP))] → va_S A s.heap H locs → lv_has ls 6 [(0, .ref oM), (1, .int 1)] → W p l e (headSpec wsX5_go ({ frames := 8, cells := 0, slots := 0, locals := 178 })).room s m ([.ref oM, .int 1] : List Value).toArray below meth c H locs 0 0 (MQ below (va_Qi (fun r (_ : Unit) => r = (r_X5_go_1 fS fP ln le on tw n)) (fun _ t => va_P D vwCl [(oM, .inr (5, [.ref aS, .ref aA, .ref aB, .int (nI kn), .ref aT, .ref aV, .ref aP, .int (nI ln), .int (nI (n_X5_go_1_0_8 fS fP ln le on tw n)), .int (nI (n_X5_go_1_0_9 fS fP ln le on tw n)), .int (n_X5_go_1_0_10 fS fP ln le on tw n), .int (n_X5_go_1_0_11 fS fP ln le on tw n), .int (n_X5_go_1_0_12 fS fP ln le on tw n)])), (aS, .inl (K 0, 360, .inl (n_X5_go_1_1 fS fP ln le on tw n))), (aA, .inl (K 0, 360, .inl fA)), (aB, .inl (K 0, 2160, .inl fB)), (aT, .inl (K 0, 720, .inl fT)), (aV, .inl (K 2, 2, .inl fV)), (aP, .inl (K 0, 80, .inl fP))] t.heap) A) ([.ref oM, .int 1] : List Value).toArray s 0 0 A) (F0 m 0 ls []) := by
    intro H locs ls hP hD hS hl
    refine lv_aload_n hx hb dX5_go_0 rfl (lv_at hl 0 rfl) ?_
    refine lv_iconst (v := 0) hx hb dX5_go_1 (by decide) ?_
    refine va_put (D := D) (ci := 5) (v := .int 0) (ty := .int) (C := RX5) (T := TX5) (N := 13) hx hb hts hin5 tyX5 tyX5_ok nmX5 hown hK hP hD hS 0 rfl rfl 8 (by decide) (hts _ (List.mem_of_getElem? (i := 1) rfl)) (fun _ h9 => h9) rfl (by decide +kernel) rfl rfl (Nat.le_of_ble_eq_true rfl) dX5_go_2 (fun H locs hP hD hS => ?_)
    have hP : va_P D vwCl [(oM, .inr (5, [.ref aS, .ref aA, .ref aB, .int (nI kn), .ref aT, .ref aV, .ref aP, .int (nI ln), .int 0, .int (nI wz), .int le, .int on, .int tw])), (aS, .inl (K 0, 360, .inl fS)), (aA, .inl (K 0, 360, .inl fA)), (aB, .inl (K 0, 2160, .inl fB)), (aT, .inl (K 0, 720, .inl fT)), (aV, .inl (K 2, 2, .inl fV)), (aP, .inl (K 0, 80, .inl fP))] H := hP
    have hD : va_D A [(oM, .inr (5, [.ref aS, .ref aA, .ref aB, .int (nI kn), .ref aT, .ref aV, .ref aP, .int (nI ln), .int 0, .int (nI wz), .int le, .int on, .int tw])), (aS, .inl (K 0, 360, .inl fS)), (aA, .inl (K 0, 360, .inl fA)), (aB, .inl (K 0, 2160, .inl fB)), (aT, .inl (K 0, 720, .inl fT)), (aV, .inl (K 2, 2, .inl fV)), (aP, .inl (K 0, 80, .inl fP))] := hD
    refine lv_aload_n hx hb dX5_go_5 rfl (lv_at hl 0 rfl) ?_
    refine lv_iconst (v := 0) hx hb dX5_go_6 (by decide) ?_
    refine va_put (D := D) (ci := 5) (v := .int 0) (ty := .boolean) (C := RX5) (T := TX5) (N := 13) hx hb hts hin5 tyX5 tyX5_ok nmX5 hown hK hP hD hS 0 rfl rfl 9 (by decide) (hts _ (List.mem_of_getElem? (i := 2) rfl)) (fun _ h9 => h9) rfl (by decide +kernel) rfl rfl (Nat.le_of_ble_eq_true rfl) dX5_go_7 (fun H locs hP hD hS => ?_)
    have hP : va_P D vwCl [(oM, .inr (5, [.ref aS, .ref aA, .ref aB, .int (nI kn), .ref aT, .ref aV, .ref aP, .int (nI ln), .int 0, .int 0, .int le, .int on, .int tw])), (aS, .inl (K 0, 360, .inl fS)), (aA, .inl (K 0, 360, .inl fA)), (aB, .inl (K 0, 2160, .inl fB)), (aT, .inl (K 0, 720, .inl fT)), (aV, .inl (K 2, 2, .inl fV)), (aP, .inl (K 0, 80, .inl fP))] H := hP
    have hD : va_D A [(oM, .inr (5, [.ref aS, .ref aA, .ref aB, .int (nI kn), .ref aT, .ref aV, .ref aP, .int (nI ln), .int 0, .int 0, .int le, .int on, .int tw])), (aS, .inl (K 0, 360, .inl fS)), (aA, .inl (K 0, 360, .inl fA)), (aB, .inl (K 0, 2160, .inl fB)), (aT, .inl (K 0, 720, .inl fT)), (aV, .inl (K 2, 2, .inl fV)), (aP, .inl (K 0, 80, .inl fP))] := hD
    refine lv_iconst (v := 0) hx hb dX5_go_10 (by decide) ?_
    refine lv_istore_n (lv' := [(2, .int 0), (0, .ref oM), (1, .int 1)]) hx hb dX5_go_11 rfl hl (by decide) rfl (fun ls hl => ?_)
    refine lv_iconst (v := 1) hx hb dX5_go_12 (by decide) ?_
    refine lv_istore_n (lv' := [(3, .int 1), (2, .int 0), (0, .ref oM), (1, .int 1)]) hx hb dX5_go_13 rfl hl (by decide) rfl (fun ls hl => ?_)
    have L_1 : ∀ (nf : Nat) (m_ : Nat) (i_ : Nat) (q : Nat) (p_ : Nat) (w_ : Nat) (e_ : Int32) (o_ : Int32) (t_ : Int32) (vS : Nat → Int32), 82 - q < nf → q ≤ 81 → i_ = 0 ∨ q ≤ p_ → p_ ≤ ln → vS 0 = nI n → i_ = 0 ∨ (nI ((goI fP ln (82 - q) i_ q p_ w_ e_ o_ t_).2.2.2.1)) = 0 → m_ ≤ q → i_ ≤ 1 → gdI fP ln n (82 - q) m_ i_ q p_ w_ e_ o_ t_ vS = (gdI fP ln n 82 0 1 0 0 0 le on tw fS) → ∀ (H : Heap) (locs : List Loc) (ls : Array Slot), va_P D vwCl [(oM, .inr (5, [.ref aS, .ref aA, .ref aB, .int (nI kn), .ref aT, .ref aV, .ref aP, .int (nI ln), .int (nI p_), .int (nI w_), .int e_, .int o_, .int t_])), (aS, .inl (K 0, 360, .inl vS)), (aA, .inl (K 0, 360, .inl fA)), (aB, .inl (K 0, 2160, .inl fB)), (aT, .inl (K 0, 720, .inl fT)), (aV, .inl (K 2, 2, .inl fV)), (aP, .inl (K 0, 80, .inl fP))] H → va_D A [(oM, .inr (5, [.ref aS, .ref aA, .ref aB, .int (nI kn), .ref aT, .ref aV, .ref aP, .int (nI ln), .int (nI p_), .int (nI w_), .int e_, .int o_, .int t_])), (aS, .inl (K 0, 360, .inl vS)), (aA, .inl (K 0, 360, .inl fA)), (aB, .inl (K 0, 2160, .inl fB)), (aT, .inl (K 0, 720, .inl fT)), (aV, .inl (K 2, 2, .inl fV)), (aP, .inl (K 0, 80, .inl fP))] → va_S A s.heap H locs → lv_has ls 6 [(3, .int (nI i_)), (2, .int (nI m_)), (0, .ref oM), (1, .int 1)] → W p l e (headSpec wsX5_go ({ frames := 8, cells := 0, slots := 0, locals := 178 })).room s m ([.ref oM, .int 1] : List Value).toArray below meth c H locs 0 0 (MQ below (va_Qi (fun r (_ : Unit) => r = (r_X5_go_1 fS fP ln le on tw n)) (fun _ t => va_P D vwCl [(oM, .inr (5, [.ref aS, .ref aA, .ref aB, .int (nI kn), .ref aT, .ref aV, .ref aP, .int (nI ln), .int (nI (n_X5_go_1_0_8 fS fP ln le on tw n)), .int (nI (n_X5_go_1_0_9 fS fP ln le on tw n)), .int (n_X5_go_1_0_10 fS fP ln le on tw n), .int (n_X5_go_1_0_11 fS fP ln le on tw n), .int (n_X5_go_1_0_12 fS fP ln le on tw n)])), (aS, .inl (K 0, 360, .inl (n_X5_go_1_1 fS fP ln le on tw n))), (aA, .inl (K 0, 360, .inl fA)), (aB, .inl (K 0, 2160, .inl fB)), (aT, .inl (K 0, 720, .inl fT)), (aV, .inl (K 2, 2, .inl fV)), (aP, .inl (K 0, 80, .inl fP))] t.heap) A) ([.ref oM, .int 1] : List Value).toArray s 0 0 A) (F0 m 14 ls []) := by
      intro nf
      induction nf with
      | zero =>
        intro m_ i_ q p_ w_ e_ o_ t_ vS hm
        exact absurd hm (Nat.not_lt_zero _)
      | succ nf ih =>
        intro m_ i_ q p_ w_ e_ o_ t_ vS hm hq hqi hp_ hv0 hok hm_ hi_ hinv H locs ls hP hD hS hl
        refine lv_iload_n hx hb dX5_go_14 rfl (lv_at hl 0 rfl) ?_
        refine lv_if_eq (tgt := 116) hx hb dX5_go_15 (by decide) (fun c_2 => ?_) (fun c_2 => ?_)
        · skip
          have nc_2 := (nI_eq (a := i_) (b := 0) (by omega) (by omega)).mp c_2
          have e9 : (m_, i_, q, p_, w_, e_, o_, t_, vS) = (gdI fP ln n 82 0 1 0 0 0 le on tw fS) := by
            rw [← hinv]
            rcases (show 82 - q = 0 ∨ 82 - q = (82 - q - 1) + 1 by omega) with h9 | h9
            · first | (exfalso; omega) | (rw [h9]; rfl)
            · rw [h9, gdI_s, if_pos c_2]
          have f9_m_ : ((gdI fP ln n 82 0 1 0 0 0 le on tw fS).1) = m_ := by rw [← e9]
          have f9_i_ : (((gdI fP ln n 82 0 1 0 0 0 le on tw fS).2).1) = i_ := by rw [← e9]
          have f9_q : ((((gdI fP ln n 82 0 1 0 0 0 le on tw fS).2).2).1) = q := by rw [← e9]
          have f9_p_ : (((((gdI fP ln n 82 0 1 0 0 0 le on tw fS).2).2).2).1) = p_ := by rw [← e9]
          have f9_w_ : ((((((gdI fP ln n 82 0 1 0 0 0 le on tw fS).2).2).2).2).1) = w_ := by rw [← e9]
          have f9_e_ : (((((((gdI fP ln n 82 0 1 0 0 0 le on tw fS).2).2).2).2).2).1) = e_ := by rw [← e9]
          have f9_o_ : ((((((((gdI fP ln n 82 0 1 0 0 0 le on tw fS).2).2).2).2).2).2).1) = o_ := by rw [← e9]
          have f9_t_ : (((((((((gdI fP ln n 82 0 1 0 0 0 le on tw fS).2).2).2).2).2).2).2).1) = t_ := by rw [← e9]
          have f9_vS : (((((((((gdI fP ln n 82 0 1 0 0 0 le on tw fS).2).2).2).2).2).2).2).2) = vS := by rw [← e9]
          subst f9_m_
          subst f9_i_
          subst f9_q
          subst f9_p_
          subst f9_w_
          subst f9_e_
          subst f9_o_
          subst f9_t_
          subst f9_vS
          refine lv_iload_n hx hb dX5_go_116 rfl (lv_at hl 1 rfl) ?_
          have e_3 : n_X5_go_1_0_8 fS fP ln le on tw n = (((((gdI fP ln n 82 0 1 0 0 0 le on tw fS).2).2).2).1) := rfl
          have e_4 : n_X5_go_1_0_9 fS fP ln le on tw n = ((((((gdI fP ln n 82 0 1 0 0 0 le on tw fS).2).2).2).2).1) := rfl
          have e_5 : n_X5_go_1_0_10 fS fP ln le on tw n = (((((((gdI fP ln n 82 0 1 0 0 0 le on tw fS).2).2).2).2).2).1) := rfl
          have e_6 : n_X5_go_1_0_11 fS fP ln le on tw n = ((((((((gdI fP ln n 82 0 1 0 0 0 le on tw fS).2).2).2).2).2).2).1) := rfl
          have e_7 : n_X5_go_1_0_12 fS fP ln le on tw n = (((((((((gdI fP ln n 82 0 1 0 0 0 le on tw fS).2).2).2).2).2).2).2).1) := rfl
          have e_8 : n_X5_go_1_1 fS fP ln le on tw n = (((((((((gdI fP ln n 82 0 1 0 0 0 le on tw fS).2).2).2).2).2).2).2).2) := rfl
          have hPf : va_P D vwCl [(oM, .inr (5, [.ref aS, .ref aA, .ref aB, .int (nI kn), .ref aT, .ref aV, .ref aP, .int (nI ln), .int (nI (n_X5_go_1_0_8 fS fP ln le on tw n)), .int (nI (n_X5_go_1_0_9 fS fP ln le on tw n)), .int (n_X5_go_1_0_10 fS fP ln le on tw n), .int (n_X5_go_1_0_11 fS fP ln le on tw n), .int (n_X5_go_1_0_12 fS fP ln le on tw n)])), (aS, .inl (K 0, 360, .inl (n_X5_go_1_1 fS fP ln le on tw n))), (aA, .inl (K 0, 360, .inl fA)), (aB, .inl (K 0, 2160, .inl fB)), (aT, .inl (K 0, 720, .inl fT)), (aV, .inl (K 2, 2, .inl fV)), (aP, .inl (K 0, 80, .inl fP))] H := (by rw [e_3, e_4, e_5, e_6, e_7, e_8]; exact hP)
          exact W.iret hx hb hr (fun t ht hW => ⟨⟨_, (), rfl, (by unfold r_X5_go_1; rfl), by show va_P D vwCl _ t.heap; rw [ht]; exact hPf⟩, hS.F ht⟩) hS.2.2 dX5_go_117
        · skip
          have nc_2 : ¬ (i_ = 0) := fun h => c_2 ((nI_eq (a := i_) (b := 0) (by omega) (by omega)).mpr h)
          refine lv_aload_n hx hb dX5_go_18 rfl (lv_at hl 2 rfl) ?_
          have hPc := hP.sub (ws' := [(oM, .inr (5, [.ref aS, .ref aA, .ref aB, .int (nI kn), .ref aT, .ref aV, .ref aP, .int (nI ln), .int (nI p_), .int (nI w_), .int e_, .int o_, .int t_])), (aP, .inl (K 0, 80, .inl fP))]) [0, 6] rfl
          have hDc : va_D (fun _ => True) [(oM, .inr (5, [.ref aS, .ref aA, .ref aB, .int (nI kn), .ref aT, .ref aV, .ref aP, .int (nI ln), .int (nI p_), .int (nI w_), .int e_, .int o_, .int t_])), (aP, .inl (K 0, 80, .inl fP))] := (hD.sub (ws' := [(oM, .inr (5, [.ref aS, .ref aA, .ref aB, .int (nI kn), .ref aT, .ref aV, .ref aP, .int (nI ln), .int (nI p_), .int (nI w_), .int e_, .int o_, .int t_])), (aP, .inl (K 0, 80, .inl fP))]) [0, 6] (by decide +kernel) rfl).weaken (fun _ _ _ _ => trivial)
          refine kw_v (W1 := [(oM, .inr (5, [.ref aS, .ref aA, .ref aB, .int (nI kn), .ref aT, .ref aV, .ref aP, .int (nI ln), .int (nI (n_X5_order_0_8 fP ln p_ w_)), .int (nI (n_X5_order_0_9 fP ln p_ w_)), .int (n_X5_order_0_10 fP ln p_), .int (n_X5_order_0_11 fP ln p_ w_), .int (n_X5_order_0_12 fP ln p_ w_)])), (aS, .inl (K 0, 360, .inl vS)), (aA, .inl (K 0, 360, .inl fA)), (aB, .inl (K 0, 2160, .inl fB)), (aT, .inl (K 0, 720, .inl fT)), (aV, .inl (K 2, 2, .inl fV)), (aP, .inl (K 0, 80, .inl fP))]) (w1 := [(oM, .inr (5, [.ref aS, .ref aA, .ref aB, .int (nI kn), .ref aT, .ref aV, .ref aP, .int (nI ln), .int (nI (n_X5_order_0_8 fP ln p_ w_)), .int (nI (n_X5_order_0_9 fP ln p_ w_)), .int (n_X5_order_0_10 fP ln p_), .int (n_X5_order_0_11 fP ln p_ w_), .int (n_X5_order_0_12 fP ln p_ w_)])), (aP, .inl (K 0, 80, .inl fP))]) (va_runV (As := []) (rest := []) ⟨hx, hb, hml, hown, hts⟩ (c_X5_order l D K oM aS aA aB aT aV aP fP kn ln p_ w_ e_ o_ t_ hln (by omega)) (cwV 0 hts gX5_go_X5_order rfl rfl rfl (by decide +kernel) ⟨Nat.le_of_ble_eq_true rfl, Nat.le_of_ble_eq_true rfl⟩) (pre_wr hbd hPc hDc (ci := 5) (q0 := 0) rfl rfl) rfl rfl hl.1 rfl (lv_room (Nat.le_of_ble_eq_true rfl)) dX5_go_19 ⟨Nat.zero_le _, Nat.zero_le _⟩) hP hD hS [0, 6] [1, 2, 3, 4, 5] 7 rfl rfl rfl (Eq.trans (b := List.map some ([(aS, .inl (K 0, 360, .inl vS)), (aA, .inl (K 0, 360, .inl fA)), (aB, .inl (K 0, 2160, .inl fB)), (aT, .inl (K 0, 720, .inl fT)), (aV, .inl (K 2, 2, .inl fV))])) rfl rfl) (by decide +kernel) (by decide +kernel) (by simp only [List.map_append, drW_fst, List.map_cons, List.map_nil]) (fun H locs hP hD hS => ?_)
          have hb_9 := od_le (fP := fP) (ln := ln) (po := p_) (wz := w_) hln (by omega)
          have hb_10 := od_ge (fP := fP) (ln := ln) (po := p_) (wz := w_)
          have hk1 : (nI ((goI fP ln ((81 - q) + 1) i_ q p_ w_ e_ o_ t_).2.2.2.1)) = 0 := by rw [show 81 - q + 1 = 82 - q by omega]; exact hok.resolve_left (fun z => c_2 (by rw [z]; rfl))
          have hk2 := go_w c_2 hk1
          refine lv_iload_n hx hb dX5_go_22 rfl (lv_at hl 3 rfl) ?_
          refine lv_if_eq (tgt := 37) hx hb dX5_go_23 (by decide) (fun h_11 => absurd h_11 (by decide)) (fun _ => ?_)
          refine lv_aload_n hx hb dX5_go_26 rfl (lv_at hl 2 rfl) ?_
          have hPc := hP.sub (ws' := [(oM, .inr (5, [.ref aS, .ref aA, .ref aB, .int (nI kn), .ref aT, .ref aV, .ref aP, .int (nI ln), .int (nI (n_X5_order_0_8 fP ln p_ w_)), .int (nI (n_X5_order_0_9 fP ln p_ w_)), .int (n_X5_order_0_10 fP ln p_), .int (n_X5_order_0_11 fP ln p_ w_), .int (n_X5_order_0_12 fP ln p_ w_)])), (aS, .inl (K 0, 360, .inl vS)), (aA, .inl (K 0, 360, .inl fA)), (aB, .inl (K 0, 2160, .inl fB)), (aT, .inl (K 0, 720, .inl fT)), (aV, .inl (K 2, 2, .inl fV)), (aP, .inl (K 0, 80, .inl fP))]) [0, 1, 2, 3, 4, 5, 6] rfl
          have hDc : va_D (fun _ => True) [(oM, .inr (5, [.ref aS, .ref aA, .ref aB, .int (nI kn), .ref aT, .ref aV, .ref aP, .int (nI ln), .int (nI (n_X5_order_0_8 fP ln p_ w_)), .int (nI (n_X5_order_0_9 fP ln p_ w_)), .int (n_X5_order_0_10 fP ln p_), .int (n_X5_order_0_11 fP ln p_ w_), .int (n_X5_order_0_12 fP ln p_ w_)])), (aS, .inl (K 0, 360, .inl vS)), (aA, .inl (K 0, 360, .inl fA)), (aB, .inl (K 0, 2160, .inl fB)), (aT, .inl (K 0, 720, .inl fT)), (aV, .inl (K 2, 2, .inl fV)), (aP, .inl (K 0, 80, .inl fP))] := (hD.sub (ws' := [(oM, .inr (5, [.ref aS, .ref aA, .ref aB, .int (nI kn), .ref aT, .ref aV, .ref aP, .int (nI ln), .int (nI (n_X5_order_0_8 fP ln p_ w_)), .int (nI (n_X5_order_0_9 fP ln p_ w_)), .int (n_X5_order_0_10 fP ln p_), .int (n_X5_order_0_11 fP ln p_ w_), .int (n_X5_order_0_12 fP ln p_ w_)])), (aS, .inl (K 0, 360, .inl vS)), (aA, .inl (K 0, 360, .inl fA)), (aB, .inl (K 0, 2160, .inl fB)), (aT, .inl (K 0, 720, .inl fT)), (aV, .inl (K 2, 2, .inl fV)), (aP, .inl (K 0, 80, .inl fP))]) [0, 1, 2, 3, 4, 5, 6] (by decide +kernel) rfl).weaken (fun _ _ _ _ => trivial)
          refine kw_i (W1 := [(oM, .inr (5, [.ref aS, .ref aA, .ref aB, .int (nI kn), .ref aT, .ref aV, .ref aP, .int (nI ln), .int (nI (n_X5_order_0_8 fP ln p_ w_)), .int (nI (n_X5_order_0_9 fP ln p_ w_)), .int (n_X5_order_0_10 fP ln p_), .int (n_X5_order_0_11 fP ln p_ w_), .int (n_X5_order_0_12 fP ln p_ w_)])), (aS, .inl (K 0, 360, .inl (n_X5_does_1 vS (n_X5_order_0_10 fP ln p_) (n_X5_order_0_11 fP ln p_ w_) (n_X5_order_0_12 fP ln p_ w_) n))), (aA, .inl (K 0, 360, .inl fA)), (aB, .inl (K 0, 2160, .inl fB)), (aT, .inl (K 0, 720, .inl fT)), (aV, .inl (K 2, 2, .inl fV)), (aP, .inl (K 0, 80, .inl fP))]) (w1 := [(oM, .inr (5, [.ref aS, .ref aA, .ref aB, .int (nI kn), .ref aT, .ref aV, .ref aP, .int (nI ln), .int (nI (n_X5_order_0_8 fP ln p_ w_)), .int (nI (n_X5_order_0_9 fP ln p_ w_)), .int (n_X5_order_0_10 fP ln p_), .int (n_X5_order_0_11 fP ln p_ w_), .int (n_X5_order_0_12 fP ln p_ w_)])), (aS, .inl (K 0, 360, .inl (n_X5_does_1 vS (n_X5_order_0_10 fP ln p_) (n_X5_order_0_11 fP ln p_ w_) (n_X5_order_0_12 fP ln p_ w_) n))), (aA, .inl (K 0, 360, .inl fA)), (aB, .inl (K 0, 2160, .inl fB)), (aT, .inl (K 0, 720, .inl fT)), (aV, .inl (K 2, 2, .inl fV)), (aP, .inl (K 0, 80, .inl fP))]) (va_runV (As := []) (rest := []) ⟨hx, hb, hml, hown, hts⟩ (c_X5_does l D K oM aS aA aB aT aV aP vS fA fB fT fV fP kn ln (n_X5_order_0_8 fP ln p_ w_) (n_X5_order_0_9 fP ln p_ w_) (n_X5_order_0_10 fP ln p_) (n_X5_order_0_11 fP ln p_ w_) (n_X5_order_0_12 fP ln p_ w_) n hv0 hn1 hn (od_w hk2)) (cwV 0 hts gX5_go_X5_does rfl rfl rfl (by decide +kernel) ⟨Nat.le_of_ble_eq_true rfl, Nat.le_of_ble_eq_true rfl⟩) (pre_wr hbd hPc hDc (ci := 5) (q0 := 0) rfl rfl) rfl rfl hl.1 rfl (lv_room (Nat.le_of_ble_eq_true rfl)) dX5_go_27 ⟨Nat.zero_le _, Nat.zero_le _⟩) hP hD hS [0, 1, 2, 3, 4, 5, 6] [] 7 rfl rfl rfl (Eq.trans (b := List.map some ([])) rfl rfl) (by decide +kernel) (by decide +kernel) (by simp only [List.map_append, drW_fst, List.map_cons, List.map_nil]) (fun r_12 H locs hr_12 hP hD hS => ?_)
          refine st1 hr_12 ?_
          refine lv_if_eq (tgt := 37) hx hb dX5_go_30 (by decide) (fun c_13 => ?_) (fun c_13 => ?_)
          · skip
            refine lv_iconst (v := 0) hx hb dX5_go_37 (by decide) ?_
            refine lv_istore (lv' := [(4, .int 0), (3, .int (nI i_)), (2, .int (nI m_)), (0, .ref oM), (1, .int 1)]) hx hb dX5_go_38  hl (by decide) rfl (fun ls hl => ?_)
            refine lv_iload_n hx hb dX5_go_40 rfl (lv_at hl 2 rfl) ?_
            refine lv_iload hx hb dX5_go_41 (lv_at hl 0 rfl) ?_
            refine lv_if_eq (tgt := 50) hx hb dX5_go_43 (by decide) (fun _ => ?_) (fun h_14 => absurd (by decide) h_14)
            refine lv_iconst (v := 0) hx hb dX5_go_50 (by decide) ?_
            refine lv_iadd hx hb dX5_go_51 ?_
            refine st1 (y := (nI m_)) (nI_add m_ 0) ?_
            refine lv_istore_n (lv' := [(2, .int (nI m_)), (4, .int 0), (3, .int (nI i_)), (0, .ref oM), (1, .int 1)]) hx hb dX5_go_52 rfl hl (by decide) rfl (fun ls hl => ?_)
            refine lv_aload_n hx hb dX5_go_53 rfl (lv_at hl 3 rfl) ?_
            refine va_get (D := D) (ci := 5) (v := .int (nI (n_X5_order_0_9 fP ln p_ w_))) (C := RX5) (T := TX5) (N := 13) hx hb hts hin5 hown hK hP 0 rfl rfl 9 (by decide) (hts _ (List.mem_of_getElem? (i := 2) rfl)) (fun _ h9 => h9) rfl dX5_go_54 ?_
            refine lv_if_ne (tgt := 84) hx hb dX5_go_57 (by decide) (fun c_15 => ?_) (fun c_15 => ?_)
            · skip
              refine lv_iconst (v := 0) hx hb dX5_go_84 (by decide) ?_
              refine lv_istore_n (lv' := [(3, .int 0), (2, .int (nI m_)), (4, .int 0), (0, .ref oM), (1, .int 1)]) hx hb dX5_go_85 rfl hl (by decide) rfl (fun ls hl => ?_)
              refine lv_iload_n hx hb dX5_go_86 rfl (lv_at hl 0 rfl) ?_
              refine lv_if_eq (tgt := 113) hx hb dX5_go_87 (by decide) (fun _ => ?_) (fun h_16 => absurd (by decide) h_16)
              refine lv_goto (tgt := 14) hx hb dX5_go_113 (by decide) ?_
              exact ih m_ 0 (q + 1) (n_X5_order_0_8 fP ln p_ w_) (n_X5_order_0_9 fP ln p_ w_) (n_X5_order_0_10 fP ln p_) (n_X5_order_0_11 fP ln p_ w_) (n_X5_order_0_12 fP ln p_ w_) (n_X5_does_1 vS (n_X5_order_0_10 fP ln p_) (n_X5_order_0_11 fP ln p_ w_) (n_X5_order_0_12 fP ln p_ w_) n) (by omega) (by omega) (Or.inl rfl) (by omega) (ds_0 hv0) (Or.inl rfl) (by omega) (by omega) (by rw [← hinv, show 82 - q = (82 - (q + 1)) + 1 by omega, gdI_s, if_neg c_2, if_pos c_13]) _ _ _ hP hD hS (lv_sub hl [0, 1, 3, 4] rfl)
            · skip
              refine lv_iload hx hb dX5_go_60 (lv_at hl 1 rfl) ?_
              refine lv_if_ne (tgt := 69) hx hb dX5_go_62 (by decide) (fun h_17 => absurd (by decide) h_17) (fun _ => ?_)
              refine lv_iload_n hx hb dX5_go_65 rfl (lv_at hl 4 rfl) ?_
              refine lv_if_ne (tgt := 84) hx hb dX5_go_66 (by decide) (fun _ => ?_) (fun h_18 => absurd h_18 (by decide))
              refine lv_iconst (v := 0) hx hb dX5_go_84 (by decide) ?_
              refine lv_istore_n (lv' := [(3, .int 0), (2, .int (nI m_)), (4, .int 0), (0, .ref oM), (1, .int 1)]) hx hb dX5_go_85 rfl hl (by decide) rfl (fun ls hl => ?_)
              refine lv_iload_n hx hb dX5_go_86 rfl (lv_at hl 0 rfl) ?_
              refine lv_if_eq (tgt := 113) hx hb dX5_go_87 (by decide) (fun _ => ?_) (fun h_19 => absurd (by decide) h_19)
              refine lv_goto (tgt := 14) hx hb dX5_go_113 (by decide) ?_
              exact ih m_ 0 (q + 1) (n_X5_order_0_8 fP ln p_ w_) (n_X5_order_0_9 fP ln p_ w_) (n_X5_order_0_10 fP ln p_) (n_X5_order_0_11 fP ln p_ w_) (n_X5_order_0_12 fP ln p_ w_) (n_X5_does_1 vS (n_X5_order_0_10 fP ln p_) (n_X5_order_0_11 fP ln p_ w_) (n_X5_order_0_12 fP ln p_ w_) n) (by omega) (by omega) (Or.inl rfl) (by omega) (ds_0 hv0) (Or.inl rfl) (by omega) (by omega) (by rw [← hinv, show 82 - q = (82 - (q + 1)) + 1 by omega, gdI_s, if_neg c_2, if_pos c_13]) _ _ _ hP hD hS (lv_sub hl [0, 1, 3, 4] rfl)
          · skip
            refine lv_iconst (v := 1) hx hb dX5_go_33 (by decide) ?_
            refine lv_goto (tgt := 38) hx hb dX5_go_34 (by decide) ?_
            refine lv_istore (lv' := [(4, .int 1), (3, .int (nI i_)), (2, .int (nI m_)), (0, .ref oM), (1, .int 1)]) hx hb dX5_go_38  hl (by decide) rfl (fun ls hl => ?_)
            refine lv_iload_n hx hb dX5_go_40 rfl (lv_at hl 2 rfl) ?_
            refine lv_iload hx hb dX5_go_41 (lv_at hl 0 rfl) ?_
            refine lv_if_eq (tgt := 50) hx hb dX5_go_43 (by decide) (fun h_20 => absurd h_20 (by decide)) (fun _ => ?_)
            refine lv_iconst (v := 1) hx hb dX5_go_46 (by decide) ?_
            refine lv_goto (tgt := 51) hx hb dX5_go_47 (by decide) ?_
            refine lv_iadd hx hb dX5_go_51 ?_
            refine st1 (nI_add m_ 1) ?_
            refine lv_istore_n (lv' := [(2, .int (nI (m_ + 1))), (4, .int 1), (3, .int (nI i_)), (0, .ref oM), (1, .int 1)]) hx hb dX5_go_52 rfl hl (by decide) rfl (fun ls hl => ?_)
            refine lv_aload_n hx hb dX5_go_53 rfl (lv_at hl 3 rfl) ?_
            refine va_get (D := D) (ci := 5) (v := .int (nI (n_X5_order_0_9 fP ln p_ w_))) (C := RX5) (T := TX5) (N := 13) hx hb hts hin5 hown hK hP 0 rfl rfl 9 (by decide) (hts _ (List.mem_of_getElem? (i := 2) rfl)) (fun _ h9 => h9) rfl dX5_go_54 ?_
            refine lv_if_ne (tgt := 84) hx hb dX5_go_57 (by decide) (fun c_21 => ?_) (fun c_21 => ?_)
            · skip
              refine lv_iconst (v := 0) hx hb dX5_go_84 (by decide) ?_
              refine lv_istore_n (lv' := [(3, .int 0), (2, .int (nI (m_ + 1))), (4, .int 1), (0, .ref oM), (1, .int 1)]) hx hb dX5_go_85 rfl hl (by decide) rfl (fun ls hl => ?_)
              refine lv_iload_n hx hb dX5_go_86 rfl (lv_at hl 0 rfl) ?_
              refine lv_if_eq (tgt := 113) hx hb dX5_go_87 (by decide) (fun _ => ?_) (fun h_22 => absurd (by decide) h_22)
              refine lv_goto (tgt := 14) hx hb dX5_go_113 (by decide) ?_
              exact ih (m_ + 1) 0 (q + 1) (n_X5_order_0_8 fP ln p_ w_) (n_X5_order_0_9 fP ln p_ w_) (n_X5_order_0_10 fP ln p_) (n_X5_order_0_11 fP ln p_ w_) (n_X5_order_0_12 fP ln p_ w_) (n_X5_does_1 vS (n_X5_order_0_10 fP ln p_) (n_X5_order_0_11 fP ln p_ w_) (n_X5_order_0_12 fP ln p_ w_) n) (by omega) (by omega) (Or.inl rfl) (by omega) (ds_0 hv0) (Or.inl rfl) (by omega) (by omega) (by rw [← hinv, show 82 - q = (82 - (q + 1)) + 1 by omega, gdI_s, if_neg c_2, if_neg c_13, if_neg c_21]) _ _ _ hP hD hS (lv_sub hl [0, 1, 3, 4] rfl)
            · skip
              refine lv_iload hx hb dX5_go_60 (lv_at hl 1 rfl) ?_
              refine lv_if_ne (tgt := 69) hx hb dX5_go_62 (by decide) (fun _ => ?_) (fun h_23 => absurd h_23 (by decide))
              refine lv_aload_n hx hb dX5_go_69 rfl (lv_at hl 3 rfl) ?_
              refine va_get (D := D) (ci := 5) (v := .int (nI (n_X5_order_0_8 fP ln p_ w_))) (C := RX5) (T := TX5) (N := 13) hx hb hts hin5 hown hK hP 0 rfl rfl 8 (by decide) (hts _ (List.mem_of_getElem? (i := 1) rfl)) (fun _ h9 => h9) rfl dX5_go_70 ?_
              refine lv_aload_n hx hb dX5_go_73 rfl (lv_at hl 3 rfl) ?_
              refine va_get (D := D) (ci := 5) (v := .int (nI ln)) (C := RX5) (T := TX5) (N := 13) hx hb hts hin5 hown hK hP 0 rfl rfl 7 (by decide) (hts _ (List.mem_of_getElem? (i := 3) rfl)) (fun _ h9 => h9) rfl dX5_go_74 ?_
              refine lv_icmp_ge (tgt := 84) hx hb dX5_go_77 (by decide) (fun c_24 => ?_) (fun c_24 => ?_)
              · skip
                refine lv_iconst (v := 0) hx hb dX5_go_84 (by decide) ?_
                refine lv_istore_n (lv' := [(3, .int 0), (2, .int (nI (m_ + 1))), (4, .int 1), (0, .ref oM), (1, .int 1)]) hx hb dX5_go_85 rfl hl (by decide) rfl (fun ls hl => ?_)
                refine lv_iload_n hx hb dX5_go_86 rfl (lv_at hl 0 rfl) ?_
                refine lv_if_eq (tgt := 113) hx hb dX5_go_87 (by decide) (fun _ => ?_) (fun h_25 => absurd (by decide) h_25)
                refine lv_goto (tgt := 14) hx hb dX5_go_113 (by decide) ?_
                exact ih (m_ + 1) 0 (q + 1) (n_X5_order_0_8 fP ln p_ w_) (n_X5_order_0_9 fP ln p_ w_) (n_X5_order_0_10 fP ln p_) (n_X5_order_0_11 fP ln p_ w_) (n_X5_order_0_12 fP ln p_ w_) (n_X5_does_1 vS (n_X5_order_0_10 fP ln p_) (n_X5_order_0_11 fP ln p_ w_) (n_X5_order_0_12 fP ln p_ w_) n) (by omega) (by omega) (Or.inl rfl) (by omega) (ds_0 hv0) (Or.inl rfl) (by omega) (by omega) (by rw [← hinv, show 82 - q = (82 - (q + 1)) + 1 by omega, gdI_s, if_neg c_2, if_neg c_13, if_pos c_21, if_pos c_24]) _ _ _ hP hD hS (lv_sub hl [0, 1, 3, 4] rfl)
              · skip
                refine lv_iconst (v := 1) hx hb dX5_go_80 (by decide) ?_
                refine lv_goto (tgt := 85) hx hb dX5_go_81 (by decide) ?_
                refine lv_istore_n (lv' := [(3, .int 1), (2, .int (nI (m_ + 1))), (4, .int 1), (0, .ref oM), (1, .int 1)]) hx hb dX5_go_85 rfl hl (by decide) rfl (fun ls hl => ?_)
                refine lv_iload_n hx hb dX5_go_86 rfl (lv_at hl 0 rfl) ?_
                refine lv_if_eq (tgt := 113) hx hb dX5_go_87 (by decide) (fun h_26 => absurd h_26 (by decide)) (fun _ => ?_)
                refine lv_aload_n hx hb dX5_go_90 rfl (lv_at hl 3 rfl) ?_
                refine lv_bipush (v := 59) hx hb dX5_go_91 (by decide) ?_
                refine lv_bipush (v := 59) hx hb dX5_go_93 (by decide) ?_
                have hPc := hP.sub (ws' := [(oM, .inr (5, [.ref aS, .ref aA, .ref aB, .int (nI kn), .ref aT, .ref aV, .ref aP, .int (nI ln), .int (nI (n_X5_order_0_8 fP ln p_ w_)), .int (nI (n_X5_order_0_9 fP ln p_ w_)), .int (n_X5_order_0_10 fP ln p_), .int (n_X5_order_0_11 fP ln p_ w_), .int (n_X5_order_0_12 fP ln p_ w_)])), (aP, .inl (K 0, 80, .inl fP))]) [0, 6] rfl
                have hDc : va_D (fun _ => True) [(oM, .inr (5, [.ref aS, .ref aA, .ref aB, .int (nI kn), .ref aT, .ref aV, .ref aP, .int (nI ln), .int (nI (n_X5_order_0_8 fP ln p_ w_)), .int (nI (n_X5_order_0_9 fP ln p_ w_)), .int (n_X5_order_0_10 fP ln p_), .int (n_X5_order_0_11 fP ln p_ w_), .int (n_X5_order_0_12 fP ln p_ w_)])), (aP, .inl (K 0, 80, .inl fP))] := (hD.sub (ws' := [(oM, .inr (5, [.ref aS, .ref aA, .ref aB, .int (nI kn), .ref aT, .ref aV, .ref aP, .int (nI ln), .int (nI (n_X5_order_0_8 fP ln p_ w_)), .int (nI (n_X5_order_0_9 fP ln p_ w_)), .int (n_X5_order_0_10 fP ln p_), .int (n_X5_order_0_11 fP ln p_ w_), .int (n_X5_order_0_12 fP ln p_ w_)])), (aP, .inl (K 0, 80, .inl fP))]) [0, 6] (by decide +kernel) rfl).weaken (fun _ _ _ _ => trivial)
                refine kw_i (W1 := [(oM, .inr (5, [.ref aS, .ref aA, .ref aB, .int (nI kn), .ref aT, .ref aV, .ref aP, .int (nI ln), .int (nI (n_X5_sign_0_8 fP ln (n_X5_order_0_8 fP ln p_ w_) (n_X5_order_0_9 fP ln p_ w_) 59 59)), .int (nI (n_X5_sign_0_9 fP ln (n_X5_order_0_8 fP ln p_ w_) (n_X5_order_0_9 fP ln p_ w_) 59 59)), .int (n_X5_order_0_10 fP ln p_), .int (n_X5_order_0_11 fP ln p_ w_), .int (n_X5_order_0_12 fP ln p_ w_)])), (aS, .inl (K 0, 360, .inl (n_X5_does_1 vS (n_X5_order_0_10 fP ln p_) (n_X5_order_0_11 fP ln p_ w_) (n_X5_order_0_12 fP ln p_ w_) n))), (aA, .inl (K 0, 360, .inl fA)), (aB, .inl (K 0, 2160, .inl fB)), (aT, .inl (K 0, 720, .inl fT)), (aV, .inl (K 2, 2, .inl fV)), (aP, .inl (K 0, 80, .inl fP))]) (w1 := [(oM, .inr (5, [.ref aS, .ref aA, .ref aB, .int (nI kn), .ref aT, .ref aV, .ref aP, .int (nI ln), .int (nI (n_X5_sign_0_8 fP ln (n_X5_order_0_8 fP ln p_ w_) (n_X5_order_0_9 fP ln p_ w_) 59 59)), .int (nI (n_X5_sign_0_9 fP ln (n_X5_order_0_8 fP ln p_ w_) (n_X5_order_0_9 fP ln p_ w_) 59 59)), .int (n_X5_order_0_10 fP ln p_), .int (n_X5_order_0_11 fP ln p_ w_), .int (n_X5_order_0_12 fP ln p_ w_)])), (aP, .inl (K 0, 80, .inl fP))]) (va_runV (As := [.int 59, .int 59]) (rest := []) ⟨hx, hb, hml, hown, hts⟩ (c_X5_sign l D K oM aS aA aB aT aV aP fP kn ln (n_X5_order_0_8 fP ln p_ w_) (n_X5_order_0_9 fP ln p_ w_) (n_X5_order_0_10 fP ln p_) (n_X5_order_0_11 fP ln p_ w_) (n_X5_order_0_12 fP ln p_ w_) 59 59 hln (by omega)) (cwV 2 hts gX5_go_X5_sign rfl rfl rfl (by decide +kernel) ⟨Nat.le_of_ble_eq_true rfl, Nat.le_of_ble_eq_true rfl⟩) (pre_wr hbd hPc hDc (ci := 5) (q0 := 0) rfl rfl) rfl rfl hl.1 rfl (lv_room (Nat.le_of_ble_eq_true rfl)) dX5_go_95 ⟨Nat.zero_le _, Nat.zero_le _⟩) hP hD hS [0, 6] [1, 2, 3, 4, 5] 7 rfl rfl rfl (Eq.trans (b := List.map some ([(aS, .inl (K 0, 360, .inl (n_X5_does_1 vS (n_X5_order_0_10 fP ln p_) (n_X5_order_0_11 fP ln p_ w_) (n_X5_order_0_12 fP ln p_ w_) n))), (aA, .inl (K 0, 360, .inl fA)), (aB, .inl (K 0, 2160, .inl fB)), (aT, .inl (K 0, 720, .inl fT)), (aV, .inl (K 2, 2, .inl fV))])) rfl rfl) (by decide +kernel) (by decide +kernel) (by simp only [List.map_append, drW_fst, List.map_cons, List.map_nil]) (fun r_27 H locs hr_27 hP hD hS => ?_)
                refine st1 hr_27 ?_
                have hb_28 := sn_le (fP := fP) (ln := ln) (po := (n_X5_order_0_8 fP ln p_ w_)) (wz := (n_X5_order_0_9 fP ln p_ w_)) (xl := 59) (xh := 59) (by decide) hln (by omega)
                refine lv_istore (lv' := [(5, .int (r_X5_sign fP ln (n_X5_order_0_8 fP ln p_ w_))), (3, .int 1), (2, .int (nI (m_ + 1))), (4, .int 1), (0, .ref oM), (1, .int 1)]) hx hb dX5_go_98  hl (by decide) rfl (fun ls hl => ?_)
                refine lv_aload_n hx hb dX5_go_100 rfl (lv_at hl 4 rfl) ?_
                refine va_get (D := D) (ci := 5) (v := .int (nI (n_X5_sign_0_9 fP ln (n_X5_order_0_8 fP ln p_ w_) (n_X5_order_0_9 fP ln p_ w_) 59 59))) (C := RX5) (T := TX5) (N := 13) hx hb hts hin5 hown hK hP 0 rfl rfl 9 (by decide) (hts _ (List.mem_of_getElem? (i := 2) rfl)) (fun _ h9 => h9) rfl dX5_go_101 ?_
                refine lv_if_ne (tgt := 111) hx hb dX5_go_104 (by decide) (fun c_29 => ?_) (fun c_29 => ?_)
                · skip
                  refine lv_iconst (v := 0) hx hb dX5_go_111 (by decide) ?_
                  refine lv_istore_n (lv' := [(3, .int 0), (5, .int (r_X5_sign fP ln (n_X5_order_0_8 fP ln p_ w_))), (2, .int (nI (m_ + 1))), (4, .int 1), (0, .ref oM), (1, .int 1)]) hx hb dX5_go_112 rfl hl (by decide) rfl (fun ls hl => ?_)
                  refine lv_goto (tgt := 14) hx hb dX5_go_113 (by decide) ?_
                  exact ih (m_ + 1) 0 (q + 1) (n_X5_sign_0_8 fP ln (n_X5_order_0_8 fP ln p_ w_) (n_X5_order_0_9 fP ln p_ w_) 59 59) (n_X5_sign_0_9 fP ln (n_X5_order_0_8 fP ln p_ w_) (n_X5_order_0_9 fP ln p_ w_) 59 59) (n_X5_order_0_10 fP ln p_) (n_X5_order_0_11 fP ln p_ w_) (n_X5_order_0_12 fP ln p_ w_) (n_X5_does_1 vS (n_X5_order_0_10 fP ln p_) (n_X5_order_0_11 fP ln p_ w_) (n_X5_order_0_12 fP ln p_ w_) n) (by omega) (by omega) (Or.inl rfl) (by omega) (ds_0 hv0) (Or.inl rfl) (by omega) (by omega) (by rw [← hinv, show 82 - q = (82 - (q + 1)) + 1 by omega, gdI_s, if_neg c_2, if_neg c_13, if_pos c_21, if_neg c_24, if_neg c_29]) _ _ _ hP hD hS (lv_sub hl [0, 2, 4, 5] rfl)
                · skip
                  refine lv_iconst (v := 1) hx hb dX5_go_107 (by decide) ?_
                  refine lv_goto (tgt := 112) hx hb dX5_go_108 (by decide) ?_
                  refine lv_istore_n (lv' := [(3, .int 1), (5, .int (r_X5_sign fP ln (n_X5_order_0_8 fP ln p_ w_))), (2, .int (nI (m_ + 1))), (4, .int 1), (0, .ref oM), (1, .int 1)]) hx hb dX5_go_112 rfl hl (by decide) rfl (fun ls hl => ?_)
                  refine lv_goto (tgt := 14) hx hb dX5_go_113 (by decide) ?_
                  exact ih (m_ + 1) 1 (q + 1) (n_X5_sign_0_8 fP ln (n_X5_order_0_8 fP ln p_ w_) (n_X5_order_0_9 fP ln p_ w_) 59 59) (n_X5_sign_0_9 fP ln (n_X5_order_0_8 fP ln p_ w_) (n_X5_order_0_9 fP ln p_ w_) 59 59) (n_X5_order_0_10 fP ln p_) (n_X5_order_0_11 fP ln p_ w_) (n_X5_order_0_12 fP ln p_ w_) (n_X5_does_1 vS (n_X5_order_0_10 fP ln p_) (n_X5_order_0_11 fP ln p_ w_) (n_X5_order_0_12 fP ln p_ w_) n) (by omega) (by have := sn_1 c_29; omega) (Or.inr (by have := sn_1 c_29; omega)) (by omega) (ds_0 hv0) (Or.inr (by rw [goI_s, if_neg c_2, if_pos c_21, if_neg c_24, if_pos c_29] at hk1; rw [show 82 - (q + 1) = 81 - q by omega]; exact hk1)) (by omega) (by omega) (by rw [← hinv, show 82 - q = (82 - (q + 1)) + 1 by omega, gdI_s, if_neg c_2, if_neg c_13, if_pos c_21, if_neg c_24, if_pos c_29]) _ _ _ hP hD hS (lv_sub hl [0, 2, 4, 5] rfl)
    exact L_1 _ 0 1 0 0 0 le on tw fS (Nat.lt_succ_self _) (by omega) (Or.inr (by omega)) (by omega) hs0 (Or.inr hgo) (by omega) (by omega) rfl H locs ls hP hD hS (lv_sub hl [0, 1, 2, 3] rfl)
  exact K0 s.heap [] ls hP hD hS hl
