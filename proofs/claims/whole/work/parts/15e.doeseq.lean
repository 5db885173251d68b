theorem pn_nI {j : Nat} (h : j < 2 ^ 31) : pn (nI j) = j := nI_clamp h
/-- an order carried out by both -/
theorem does_eq {vS : Nat → Int32} {n : Nat} {vd : Nat → Nat → Int32} {L xf xs on tw : Int32} (R : RelD vS n vd) (h : OrdR L xf xs on tw) :
    (r_X4_isError (r_X4_carryOutOrder n vd L xf xs) = 0 ∧ ¬ r_X5_does vS L on tw n = 0 ∧ RelD (n_X5_does_1 vS L on tw n) n (n_X4_carryOutOrder_1_d n vd L xf xs)) ∨
    (¬ r_X4_isError (r_X4_carryOutOrder n vd L xf xs) = 0 ∧ r_X5_does vS L on tw n = 0 ∧ RelD (n_X5_does_1 vS L on tw n) n (n_X4_carryOutOrder_1_d n vd L xf xs)) := by
  have hn := R.1.1.2.2
  unfold r_X4_carryOutOrder n_X4_carryOutOrder_1_d r_X5_does n_X5_does_1
  rcases h with ⟨rfl, rfl, rfl⟩ | ⟨rfl, rfl⟩ | ⟨rfl, k, rfl, rfl, t0, t4⟩ | ⟨rfl, k, rfl, rfl⟩ | rfl
  · simp only [if_neg (show ¬ (119 : Int32) = 33 by decide), if_neg (show ¬ (119 : Int32) = 114 by decide), if_pos (show (119 : Int32) = 119 from rfl)]
    by_cases c : xf < 0 ∨ nI n ≤ xf
    · right
      simp only [if_pos c]
      exact ⟨er_1, rfl, R⟩
    · rcases pk_ix xf (n := n) (by omega) with q | q | ⟨j, hj, rfl⟩
      · exact absurd (Or.inl q) c
      · exact absurd (Or.inr q) c
      · simp only [if_neg c, pn_nI (show j < 2 ^ 31 by omega)]
        rcases Rel.write R (xd := xs) hj with ⟨e1, e2, e3, e4⟩ | ⟨e1, e2, e3, e4⟩
        · left
          rw [if_pos e1, if_pos e1]
          exact ⟨e3, i10, e4⟩
        · right
          have e5 : ¬ r_X5_writeFault_in vS j xs = 0 := fun q => e1 (by rw [q]; decide)
          rw [if_neg e5, if_neg e5]
          exact ⟨e3, rfl, e4⟩
  · simp only [if_neg (show ¬ (114 : Int32) = 33 by decide), if_neg (show ¬ (114 : Int32) = 119 by decide), if_pos (show (114 : Int32) = 114 from rfl)]
    by_cases c : xs < 0 ∨ nI n ≤ xs
    · right
      simp only [if_pos c]
      exact ⟨er_1, rfl, R⟩
    · rcases pk_ix xs (n := n) (by omega) with q | q | ⟨j, hj, rfl⟩
      · exact absurd (Or.inl q) c
      · exact absurd (Or.inr q) c
      · obtain ⟨e1, e2, -, e4⟩ := R.read (j := j) (by omega)
        left
        simp only [if_neg c, pn_nI (show j < 2 ^ 31 by omega)]
        rw [e1]
        exact ⟨e2, i10, e4⟩
  · simp only [if_neg (show ¬ (33 : Int32) = 119 by decide), if_neg (show ¬ (33 : Int32) = 114 by decide), if_neg (show ¬ (33 : Int32) = 120 by decide), if_pos (show (33 : Int32) = 33 from rfl)]
    left
    have z : ∀ s : Int32, r_X5_in s 0 1 = 1 → 0 ≤ r_X5_awaitFault s xs := fun s hs => by
      unfold r_X5_awaitFault
      rw [hs, if_neg i10, in_1b t0 t4, if_neg i10]
      exact Int32.le_refl _
    rcases k with rfl | rfl
    · rw [if_pos rfl, if_pos rfl, if_pos rfl]
      rcases Rel.aw0 R (xk := xs) with ⟨-, -, e3, e4⟩ | ⟨e1, -⟩
      · exact ⟨e3, i10, e4⟩
      · exact absurd (z 0 (by decide)) e1
    · rw [if_neg i10, if_neg i10, if_neg i10]
      rcases Rel.aw1 R (xk := xs) with ⟨-, -, e3, e4⟩ | ⟨e1, -⟩
      · exact ⟨e3, i10, e4⟩
      · exact absurd (z 1 (by decide)) e1
  · simp only [if_neg (show ¬ (120 : Int32) = 33 by decide), if_neg (show ¬ (120 : Int32) = 114 by decide), if_neg (show ¬ (120 : Int32) = 119 by decide), if_pos (show (120 : Int32) = 120 from rfl)]
    by_cases c : xs < 0 ∨ nI n ≤ xs
    · right
      simp only [if_pos c]
      rcases k with rfl | rfl
      · simp only [if_pos (show (0 : Int32) = 0 from rfl)]
        exact ⟨er_1, rfl, R⟩
      · simp only [if_neg i10]
        exact ⟨er_1, rfl, R⟩
    · rcases pk_ix xs (n := n) (by omega) with q | q | ⟨j, hj, rfl⟩
      · exact absurd (Or.inl q) c
      · exact absurd (Or.inr q) c
      · left
        simp only [if_neg c, pn_nI (show j < 2 ^ 31 by omega)]
        rcases k with rfl | rfl
        · simp only [if_pos (show (0 : Int32) = 0 from rfl)]
          obtain ⟨e1, e2, e3⟩ := R.wipe0 (j := j) (by omega)
          exact ⟨e2, i10, e3⟩
        · simp only [if_neg i10]
          obtain ⟨e1, e2, e3⟩ := R.wipe1 (j := j) (by omega)
          exact ⟨e2, i10, e3⟩
  · simp only [if_neg (show ¬ (115 : Int32) = 33 by decide), if_neg (show ¬ (115 : Int32) = 114 by decide), if_neg (show ¬ (115 : Int32) = 119 by decide), if_neg (show ¬ (115 : Int32) = 120 by decide)]
    left
    obtain ⟨e1, e2, e3⟩ := R.scrub
    rw [e1]
    exact ⟨e2, i10, e3⟩
