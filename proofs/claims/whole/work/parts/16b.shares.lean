def n32b (r : UInt32) : Bool := decide (r &&& 0x7fffffff ≤ 0x7f800000)
def boKb : Nat → UInt32 → Bool
  | 0, x => decide (0 ≤ (Op.cmpValue (FP.fcmp x FP.fconst1) CmpOp.g)) && n32b (FP.fsub x FP.fconst1) && n32b (FP.fmul (FP.fsub x FP.fconst1) 1258291200)
  | f + 1, x => if 0 ≤ (Op.cmpValue (FP.fcmp x FP.fconst1) CmpOp.g) then n32b (FP.fsub x FP.fconst1) && n32b (FP.fmul (FP.fsub x FP.fconst1) 1258291200) else n32b (FP.fmul x FP.fconst2) && boKb f (FP.fmul x FP.fconst2)
theorem n32b_of {r : UInt32} (h : n32b r = true) : vf_n32 r := by
  unfold n32b at h
  unfold vf_n32
  exact of_decide_eq_true h
theorem boKb_of : ∀ (f : Nat) (x : UInt32), boKb f x = true → boK f x
  | 0, x, h => by
    unfold boKb at h
    simp only [Bool.and_eq_true, decide_eq_true_eq] at h
    exact ⟨h.1.1, n32b_of h.1.2, n32b_of h.2⟩
  | f + 1, x, h => by
    unfold boKb at h
    unfold boK
    by_cases c : 0 ≤ (Op.cmpValue (FP.fcmp x FP.fconst1) CmpOp.g)
    · rw [if_pos c] at h ⊢
      simp only [Bool.and_eq_true] at h
      exact ⟨n32b_of h.1, n32b_of h.2⟩
    · rw [if_neg c] at h ⊢
      simp only [Bool.and_eq_true] at h
      exact ⟨n32b_of h.1, boKb_of f _ h.2⟩
def shV (p a : Nat) : UInt32 := FP.fdiv (FP.i2f (nI p)) (FP.i2f (nI a))
def shC (p a : Nat) : Bool := decide (r_X4_floatBitsOf (nI p) (nI a) = r_X5_bitsOf (shV p a)) && n32b (shV p a) && (decide ((Op.cmpValue (FP.fcmp (shV p a) FP.fconst0) CmpOp.l) = 0) || boKb 6 (shV p a))
def shAll (a : Nat) : Bool := (List.range (a + 1)).all (fun p => shC p a)
theorem shAll_ok : (List.range 32).all (fun a => shAll (a + 1)) = true := by decide +kernel
theorem share_ok {p a : Nat} (h1 : 1 ≤ a) (h2 : a ≤ 32) (h : p ≤ a) : r_X4_floatBitsOf (nI p) (nI a) = r_X5_bitsOf (shV p a) ∧ vf_n32 (shV p a) ∧ (¬ (Op.cmpValue (FP.fcmp (shV p a) FP.fconst0) CmpOp.l) = 0 → boK 6 (shV p a)) := by
  have e1 := List.all_eq_true.mp shAll_ok (a - 1) (List.mem_range.mpr (by omega))
  rw [show a - 1 + 1 = a by omega] at e1
  have e2 := List.all_eq_true.mp e1 p (List.mem_range.mpr (by omega))
  unfold shC at e2
  simp only [Bool.and_eq_true, Bool.or_eq_true, decide_eq_true_eq] at e2
  exact ⟨e2.1.1, n32b_of e2.1.2, fun c => boKb_of _ _ (e2.2.resolve_left c)⟩
