theorem six {x : Int32} (h0 : ¬ x < 0) (h5 : x ≤ 5) : x = 0 ∨ x = 1 ∨ x = 2 ∨ x = 3 ∨ x = 4 ∨ x = 5 := by
  obtain ⟨j, hj, rfl⟩ := nI_of2 (M := 5) (n := 5) rfl h0 h5
  rcases (show j = 0 ∨ j = 1 ∨ j = 2 ∨ j = 3 ∨ j = 4 ∨ j = 5 by omega) with rfl | rfl | rfl | rfl | rfl | rfl
  · exact Or.inl nI_0
  · exact Or.inr (Or.inl rfl)
  · exact Or.inr (Or.inr (Or.inl rfl))
  · exact Or.inr (Or.inr (Or.inr (Or.inl rfl)))
  · exact Or.inr (Or.inr (Or.inr (Or.inr (Or.inl rfl))))
  · exact Or.inr (Or.inr (Or.inr (Or.inr (Or.inr rfl))))
theorem Ls_pick {f a r e s : Nat → Int32} {sg j : Nat} (h : Ls f a r e s sg j) {x y : Int32} (hx : ¬ r j = 0 → f (40 + 160 * sg + 5 * j + 0) = 1 → x = y) : (if r_X3_lies r j = 0 then (-6) else x) = (if f (40 + 160 * sg + 5 * j + 0) = 0 then (-6) else y) := by
  unfold r_X3_lies
  rcases h with ⟨h1, h2, -⟩ | ⟨h1, h2⟩
  · rw [if_neg h2, if_neg i10, h1, if_neg i10]
    exact hx h2 h1
  · rw [if_pos h2, if_pos rfl, h1, if_pos rfl]
theorem Ls_not {f a r e s : Nat → Int32} {sg j : Nat} (h : Ls f a r e s sg j) (h2 : ¬ r j = 0) : a j = f (40 + 160 * sg + 5 * j + 1) ∧ r j = f (40 + 160 * sg + 5 * j + 2) ∧ e j = f (40 + 160 * sg + 5 * j + 3) ∧ s j = f (40 + 160 * sg + 5 * j + 4) := by
  rcases h with ⟨-, -, h⟩ | ⟨-, h⟩
  · exact h
  · exact absurd h h2
theorem no6 {x : Int32} (h : x < 0 ∨ ¬ x ≤ 5) : ¬ x = 0 ∧ ¬ x = 1 ∧ ¬ x = 2 ∧ ¬ x = 3 ∧ ¬ x = 4 ∧ ¬ x = 5 := by
  refine ⟨?_, ?_, ?_, ?_, ?_, ?_⟩ <;> (intro e; subst e; exact absurd h (by decide))
theorem P_block0 {f : Nat → Int32} {n : Nat} {d : Nat → Nat → Int32} (R : RelD f n d) {j : Nat} (hj : j < 32) (xw : Int32) : r_X4_block_0 d j xw = r_X5_block_0 f j xw := by
  unfold r_X4_block_0 r_X5_block_0 r_X3_part
  have L := R.1.2.2.2.2.1 j hj
  by_cases c : xw < 0 ∨ ¬ xw ≤ 5
  · obtain ⟨a0, a1, a2, a3, a4, a5⟩ := no6 c
    by_cases b : xw < 0
    · simp only [a0, a1, a2, a3, a4, a5, b, ↓reduceIte]
    · have b5 := c.resolve_left b
      simp only [a0, a1, a2, a3, a4, a5, b, b5, ↓reduceIte]
  · have h0 : ¬ xw < 0 := fun q => c (Or.inl q)
    have h5 : xw ≤ 5 := Decidable.not_not.mp (fun q => c (Or.inr q))
    clear c
    rcases six h0 h5 with rfl | rfl | rfl | rfl | rfl | rfl
    · simp only [show ¬ (0 : Int32) = 1 by decide, show ¬ (0 : Int32) = 2 by decide, show ¬ (0 : Int32) = 3 by decide, show ¬ (0 : Int32) = 4 by decide, show ¬ (0 : Int32) = 5 by decide, show ¬ (0 : Int32) < 0 by decide, show (0 : Int32) ≤ 5 by decide, ↓reduceIte]
      exact Ls_pick L (fun q _ => (Ls_not L q).1)
    · simp only [show ¬ (1 : Int32) = 0 by decide, show ¬ (1 : Int32) = 2 by decide, show ¬ (1 : Int32) = 3 by decide, show ¬ (1 : Int32) = 4 by decide, show ¬ (1 : Int32) = 5 by decide, show ¬ (1 : Int32) < 0 by decide, show (1 : Int32) ≤ 5 by decide, ↓reduceIte]
      exact Ls_pick L (fun q _ => (Ls_not L q).2.1)
    · simp only [show ¬ (2 : Int32) = 0 by decide, show ¬ (2 : Int32) = 1 by decide, show ¬ (2 : Int32) = 3 by decide, show ¬ (2 : Int32) = 4 by decide, show ¬ (2 : Int32) = 5 by decide, show ¬ (2 : Int32) < 0 by decide, show (2 : Int32) ≤ 5 by decide, ↓reduceIte]
      exact Ls_pick L (fun q _ => (Ls_not L q).2.2.1)
    · simp only [show ¬ (3 : Int32) = 0 by decide, show ¬ (3 : Int32) = 1 by decide, show ¬ (3 : Int32) = 2 by decide, show ¬ (3 : Int32) = 4 by decide, show ¬ (3 : Int32) = 5 by decide, show ¬ (3 : Int32) < 0 by decide, show (3 : Int32) ≤ 5 by decide, ↓reduceIte]
      exact Ls_pick L (fun q _ => (Ls_not L q).2.2.2)
    · simp only [show ¬ (4 : Int32) = 0 by decide, show ¬ (4 : Int32) = 1 by decide, show ¬ (4 : Int32) = 2 by decide, show ¬ (4 : Int32) = 3 by decide, show ¬ (4 : Int32) = 5 by decide, show ¬ (4 : Int32) < 0 by decide, show (4 : Int32) ≤ 5 by decide, ↓reduceIte]
      rw [Ls_whole L]
    · simp only [show ¬ (5 : Int32) = 0 by decide, show ¬ (5 : Int32) = 1 by decide, show ¬ (5 : Int32) = 2 by decide, show ¬ (5 : Int32) = 3 by decide, show ¬ (5 : Int32) = 4 by decide, show ¬ (5 : Int32) < 0 by decide, show (5 : Int32) ≤ 5 by decide, ↓reduceIte]
      rw [Ls_reason L (R.1.2.2.1 j hj)]
      unfold r_X0_isWritten
      rw [R.1.2.2.1 j hj]
      by_cases z : f (8 + j) = 0
      · rw [if_pos z, if_pos z, if_pos rfl]
      · rw [if_neg z, if_neg z, if_neg i10]
theorem P_block1 {f : Nat → Int32} {n : Nat} {d : Nat → Nat → Int32} (R : RelD f n d) {j : Nat} (hj : j < 32) (xw : Int32) : r_X4_block_1 d j xw = r_X5_block_1 f j xw := by
  unfold r_X4_block_1 r_X5_block_1 r_X3_part
  have L := R.1.2.2.2.2.2.1 j hj
  by_cases c : xw < 0 ∨ ¬ xw ≤ 5
  · obtain ⟨a0, a1, a2, a3, a4, a5⟩ := no6 c
    by_cases b : xw < 0
    · simp only [a0, a1, a2, a3, a4, a5, b, ↓reduceIte]
    · have b5 := c.resolve_left b
      simp only [a0, a1, a2, a3, a4, a5, b, b5, ↓reduceIte]
  · have h0 : ¬ xw < 0 := fun q => c (Or.inl q)
    have h5 : xw ≤ 5 := Decidable.not_not.mp (fun q => c (Or.inr q))
    clear c
    rcases six h0 h5 with rfl | rfl | rfl | rfl | rfl | rfl
    · simp only [show ¬ (0 : Int32) = 1 by decide, show ¬ (0 : Int32) = 2 by decide, show ¬ (0 : Int32) = 3 by decide, show ¬ (0 : Int32) = 4 by decide, show ¬ (0 : Int32) = 5 by decide, show ¬ (0 : Int32) < 0 by decide, show (0 : Int32) ≤ 5 by decide, ↓reduceIte]
      exact Ls_pick L (fun q _ => (Ls_not L q).1)
    · simp only [show ¬ (1 : Int32) = 0 by decide, show ¬ (1 : Int32) = 2 by decide, show ¬ (1 : Int32) = 3 by decide, show ¬ (1 : Int32) = 4 by decide, show ¬ (1 : Int32) = 5 by decide, show ¬ (1 : Int32) < 0 by decide, show (1 : Int32) ≤ 5 by decide, ↓reduceIte]
      exact Ls_pick L (fun q _ => (Ls_not L q).2.1)
    · simp only [show ¬ (2 : Int32) = 0 by decide, show ¬ (2 : Int32) = 1 by decide, show ¬ (2 : Int32) = 3 by decide, show ¬ (2 : Int32) = 4 by decide, show ¬ (2 : Int32) = 5 by decide, show ¬ (2 : Int32) < 0 by decide, show (2 : Int32) ≤ 5 by decide, ↓reduceIte]
      exact Ls_pick L (fun q _ => (Ls_not L q).2.2.1)
    · simp only [show ¬ (3 : Int32) = 0 by decide, show ¬ (3 : Int32) = 1 by decide, show ¬ (3 : Int32) = 2 by decide, show ¬ (3 : Int32) = 4 by decide, show ¬ (3 : Int32) = 5 by decide, show ¬ (3 : Int32) < 0 by decide, show (3 : Int32) ≤ 5 by decide, ↓reduceIte]
      exact Ls_pick L (fun q _ => (Ls_not L q).2.2.2)
    · simp only [show ¬ (4 : Int32) = 0 by decide, show ¬ (4 : Int32) = 1 by decide, show ¬ (4 : Int32) = 2 by decide, show ¬ (4 : Int32) = 3 by decide, show ¬ (4 : Int32) = 5 by decide, show ¬ (4 : Int32) < 0 by decide, show (4 : Int32) ≤ 5 by decide, ↓reduceIte]
      rw [Ls_whole L]
    · simp only [show ¬ (5 : Int32) = 0 by decide, show ¬ (5 : Int32) = 1 by decide, show ¬ (5 : Int32) = 2 by decide, show ¬ (5 : Int32) = 3 by decide, show ¬ (5 : Int32) = 4 by decide, show ¬ (5 : Int32) < 0 by decide, show (5 : Int32) ≤ 5 by decide, ↓reduceIte]
      rw [Ls_reason L (R.1.2.2.1 j hj)]
      unfold r_X0_isWritten
      rw [R.1.2.2.1 j hj]
      by_cases z : f (8 + j) = 0
      · rw [if_pos z, if_pos z, if_pos rfl]
      · rw [if_neg z, if_neg z, if_neg i10]
theorem P_places {f : Nat → Int32} {n : Nat} {d : Nat → Nat → Int32} (R : RelD f n d) (xw : Int32) : r_X4_places n d xw = plR f xw n := by
  unfold r_X4_places plR
  by_cases c : xw < 0 ∨ ¬ xw ≤ 5
  · rw [if_pos (in_0b c)]
    by_cases b : xw < 0
    · rw [if_pos b]
    · rw [if_neg b, if_neg (c.resolve_left b)]
  · have h0 : ¬ xw < 0 := fun q => c (Or.inl q)
    have h5 : xw ≤ 5 := Decidable.not_not.mp (fun q => c (Or.inr q))
    rw [if_neg h0, if_pos h5, if_neg (by rw [in_1b h0 h5]; decide)]
    exact R.1.places (six h0 h5) n R.1.1.2.2
theorem P_count {f : Nat → Int32} {n : Nat} {d : Nat → Nat → Int32} (R : RelD f n d) (kt ln : Nat) (xw : Int32) : r_X4_count kt ln n d xw = r_X5_count f kt ln xw := by
  unfold r_X4_count r_X5_count
  have b := R.1.2.1
  by_cases c : xw < 0 ∨ ¬ xw ≤ 7
  · have nk : ∀ k : Int32, ¬ (k < 0 ∨ ¬ k ≤ 7) → ¬ xw = k := fun k hk e => hk (by rw [← e]; exact c)
    rw [if_neg (nk 0 (by decide)), if_neg (nk 1 (by decide)), if_neg (nk 2 (by decide)), if_neg (nk 3 (by decide)), if_neg (nk 4 (by decide)), if_neg (nk 5 (by decide)), if_neg (nk 6 (by decide)), if_neg (nk 7 (by decide)), if_pos (in_0b c)]
  · have h0 : ¬ xw < 0 := fun q => c (Or.inl q)
    have h7 : xw ≤ 7 := Decidable.not_not.mp (fun q => c (Or.inr q))
    have n8' : ¬ xw = 8 := fun e => by rw [e] at h7; exact absurd h7 (by decide)
    have n9' : ¬ xw = 9 := fun e => by rw [e] at h7; exact absurd h7 (by decide)
    rw [if_neg n8', if_neg n9', if_neg n8', if_neg n9', if_neg (show ¬ r_X5_in xw 0 7 = 0 by rw [in_1b h0 h7]; decide)]
    obtain ⟨j, hj, rfl⟩ := nI_of2 (M := 7) (n := 7) rfl h0 h7
    rw [pn_nI (by omega)]
    have nq : ∀ k, k < 8 → ¬ j = k → ¬ nI j = nI k := fun k hk hne e => hne ((nI_eq (by omega) (by omega)).mp e)
    have key : ∀ k, k < 8 → j = k → (if nI j = nI 0 then nI n else if nI j = nI 1 then d 9 1 else if nI j = nI 2 then d 9 2 else if nI j = nI 3 then d 9 3 else if nI j = nI 4 then d 9 4 else if nI j = nI 5 then d 9 5 else if nI j = nI 6 then d 9 6 else if nI j = nI 7 then d 9 7 else -2) = f j := by
      intro k hk e
      by_cases e0 : j = 0
      · subst e0; rw [if_pos rfl]; exact R.1.1.1.symm
      · rw [if_neg (nq 0 (by decide) e0)]
        by_cases e1 : j = 1
        · subst e1; rw [if_pos rfl]; exact b 1 (by decide) (by decide)
        · rw [if_neg (nq 1 (by decide) e1)]
          by_cases e2 : j = 2
          · subst e2; rw [if_pos rfl]; exact b 2 (by decide) (by decide)
          · rw [if_neg (nq 2 (by decide) e2)]
            by_cases e3 : j = 3
            · subst e3; rw [if_pos rfl]; exact b 3 (by decide) (by decide)
            · rw [if_neg (nq 3 (by decide) e3)]
              by_cases e4 : j = 4
              · subst e4; rw [if_pos rfl]; exact b 4 (by decide) (by decide)
              · rw [if_neg (nq 4 (by decide) e4)]
                by_cases e5 : j = 5
                · subst e5; rw [if_pos rfl]; exact b 5 (by decide) (by decide)
                · rw [if_neg (nq 5 (by decide) e5)]
                  by_cases e6 : j = 6
                  · subst e6; rw [if_pos rfl]; exact b 6 (by decide) (by decide)
                  · rw [if_neg (nq 6 (by decide) e6)]
                    have e7 : j = 7 := by omega
                    subst e7; rw [if_pos rfl]; exact b 7 (by decide) (by decide)
    exact key j (by omega) rfl
theorem sf_lost {f : Nat → Int32} : ∀ k, cnN (sfN f 3) k ≤ cnN (sfN f 0) k
  | 0 => Nat.le_refl _
  | k + 1 => by
    have h := sf_lost (f := f) k
    have h2 : sfN f 3 k ≤ sfN f 0 k := by
      unfold sfN r_X5_isSo
      simp only [show ¬ (3 : Int32) = 0 by decide, show ¬ (3 : Int32) = 1 by decide, show ¬ (3 : Int32) = 2 by decide, ↓reduceIte]
      unfold r_X5_isLost
      by_cases c : f (8 + k) ≤ 0
      · rw [if_pos c, if_pos rfl]; exact Nat.zero_le _
      · rw [if_neg c, if_neg c, if_neg i10]
        repeat' split
        all_goals decide
    show cnN (sfN f 3) k + sfN f 3 k ≤ cnN (sfN f 0) k + sfN f 0 k
    omega
theorem sh_pre {f : Nat → Int32} {n : Nat} (hn : n ≤ 32) (h : ¬ mnS f 0 n = 0) : r_X4_floatBitsOf ((mnS f 0 n) - (mnS f 3 n)) (mnS f 0 n) = r_X5_bitsOf (FP.fdiv (FP.i2f ((mnS f 0 n) - (mnS f 3 n))) (FP.i2f (mnS f 0 n))) ∧ vf_n32 (FP.fdiv (FP.i2f ((mnS f 0 n) - (mnS f 3 n))) (FP.i2f (mnS f 0 n))) ∧ (¬ (Op.cmpValue (FP.fcmp (FP.fdiv (FP.i2f ((mnS f 0 n) - (mnS f 3 n))) (FP.i2f (mnS f 0 n))) FP.fconst0) CmpOp.l) = 0 → boK 6 (FP.fdiv (FP.i2f ((mnS f 0 n) - (mnS f 3 n))) (FP.i2f (mnS f 0 n)))) := by
  have a1 := cnN_le (g := sfN f 0) sfN_lt n
  have a2 := sf_lost (f := f) n
  rw [mn_cn] at h
  rw [mn_cn, mn_cn, pk_sub a2]
  have a3 : 1 ≤ cnN (sfN f 0) n := by
    rcases Nat.eq_zero_or_pos (cnN (sfN f 0) n) with z | z
    · rw [z] at h; exact absurd nI_0 h
    · exact z
  exact share_ok a3 (by omega) (Nat.sub_le _ _)
theorem P_share {f : Nat → Int32} {n : Nat} {d : Nat → Nat → Int32} (R : RelD f n d) : r_X4_share n d = r_X5_share f n := by
  unfold r_X4_share r_X5_share
  rw [R.1.many (Or.inl rfl), R.1.many (Or.inr (Or.inr (Or.inr (Or.inl rfl))))]
  by_cases c : mnS f 0 n = 0
  · rw [if_pos c, if_pos c]
  · rw [if_neg c, if_neg c]
    exact (sh_pre R.1.1.2.2 c).1
/-- a trial write and a look -/
theorem P_would {f fA : Nat → Int32} {n : Nat} {d td : Nat → Nat → Int32} (R : RelD f n d) {i j : Nat} {xd : Int32} (hi : i < n) (hj : j < n) :
    r_X4_wouldRead_in_in n d td i j xd = r_X5_wouldRead_in_in f n i j xd ∧ RelD (n_X5_wouldRead_in_in_1 f fA n j xd) n d := by
  have h32 := R.1.1.2.2
  have Rc := R.cp td
  unfold r_X4_wouldRead_in_in r_X5_wouldRead_in_in n_X5_wouldRead_in_in_1
  rcases Rel.write Rc (xd := xd) hj with ⟨e1, e2, e3, e4⟩ | ⟨e1, e2, e3, e4⟩
  · have e5 : 0 ≤ r_X5_writeFault_in f j xd := by rw [e1]; decide
    rw [if_pos e3, if_pos e5, if_pos e5]
    refine ⟨(e4.read (j := i) (by omega)).1, R.cong (fun k hk => ?_)⟩
    rw [cp0_at _ _ _ _ hk, cp0_at _ _ _ _ hk]
  · rw [if_neg e3, if_neg e1, if_neg e1]
    exact ⟨e2, R⟩
theorem P_would_no {f : Nat → Int32} {n : Nat} {d td : Nat → Nat → Int32} (R : RelD f n d) {j : Nat} {xd : Int32} (hj : j < n) : r_X4_wouldRead_no_in d td j xd = r_X5_wouldRead_no_in f j xd := by
  have Rc := R.cp td
  unfold r_X4_wouldRead_no_in r_X5_wouldRead_no_in
  rcases Rel.write Rc (xd := xd) hj with ⟨e1, e2, e3, e4⟩ | ⟨e1, e2, e3, e4⟩
  · have e5 : 0 ≤ r_X5_writeFault_in f j xd := by rw [e1]; decide
    rw [if_pos e3, if_pos e5]
  · rw [if_neg e3, if_neg e1]
    exact e2
/-- a trial with a fault told to both sides -/
theorem ls_eq {f X : Nat → Int32} {n : Nat} {d t : Nat → Nat → Int32} (R : RelD f n d) (hX : ∀ k, k < 360 → X k = f k) {j : Nat} {xd k : Int32} (hj : j < n) (hF : r_X5_writeFault_in f j xd = 0) (k0 : ¬ k < 0) (k4 : k ≤ 4) : Rel (wrF (upd (upd X 1 k) 2 k) j (nxP j n) xd) n (lsD n d t j xd k) := by
  have h32 := R.1.1.2.2
  have R1 : Rel X n (cpD d t) := (R.1.cp t).cong hX (fun _ _ _ _ => rfl) (fun _ _ _ => rfl)
  have R2 := (R1.await0 k0 k4).await1 k0 k4
  refine (Rel.store R2 hj ?_).1
  unfold r_X5_writeFault_in at hF ⊢
  rw [pk_un (by omega), pk_un (by omega), hX _ (by omega)]
  exact hF
theorem ls_st {f X : Nat → Int32} {n : Nat} {d t : Nat → Nat → Int32} (R : RelD f n d) (hX : ∀ k, k < 360 → X k = f k) {j : Nat} {xd k : Int32} (hj : j < n) (hF : r_X5_writeFault_in f j xd = 0) (k0 : ¬ k < 0) (k4 : k ≤ 4) : plR (wrF (upd (upd X 1 k) 2 k) j (nxP j n) xd) 3 n = stS ((lsD n d t j xd k) 0) ((lsD n d t j xd k) 1) ((lsD n d t j xd k) 2) ((lsD n d t j xd k) 3) ((lsD n d t j xd k) 4) ((lsD n d t j xd k) 5) ((lsD n d t j xd k) 6) ((lsD n d t j xd k) 7) ((lsD n d t j xd k) 8) 3 n := by
  unfold plR
  rw [if_neg (by decide)]
  exact ((ls_eq R hX hj hF k0 k4).places (Or.inr (Or.inr (Or.inr (Or.inl rfl)))) n R.1.1.2.2).symm
theorem cpX {f fA g : Nat → Int32} (k : Nat) (hk : k < 360) : cp0 g (cp0 fA f 360) 360 k = f k := by rw [cp0_at _ _ _ _ hk, cp0_at _ _ _ _ hk]
theorem P_losing_ok {f fA : Nat → Int32} {n : Nat} {d td : Nat → Nat → Int32} (R : RelD f n d) {j : Nat} {xd : Int32} (hj : j < n) (hF : r_X5_writeFault_in f j xd = 0) : r_X4_losing_ok n d td j xd = r_X5_losing_in f fA n j xd ∧ RelD (n_X5_losing_in_1 f fA n j xd) n d := by
  have e0 : plR f 3 n = stS (d 0) (d 1) (d 2) (d 3) (d 4) (d 5) (d 6) (d 7) (d 8) 3 n := by
    unfold plR
    rw [if_neg (by decide)]
    exact (R.1.places (Or.inr (Or.inr (Or.inr (Or.inl rfl)))) n R.1.1.2.2).symm
  have hp : 0 ≤ r_X5_writeFault_in f j xd := by rw [hF]; decide
  unfold r_X4_losing_ok r_X5_losing_in n_X5_losing_in_1
  rw [if_pos hp, if_pos hp, e0, ls_st (t := td) R (fun _ _ => rfl) hj hF (k := 1) (by decide) (by decide), ls_st (t := lsD n d td j xd 1) R cpX hj hF (k := 2) (by decide) (by decide), ls_st (t := lsD n d (lsD n d td j xd 1) j xd 2) R cpX hj hF (k := 3) (by decide) (by decide), ls_st (t := lsD n d (lsD n d (lsD n d td j xd 1) j xd 2) j xd 3) R cpX hj hF (k := 4) (by decide) (by decide)]
  refine ⟨?_, R.cong (fun k hk => cpX k hk)⟩
  generalize (stS ((lsD n d (lsD n d (lsD n d (lsD n d td j xd 1) j xd 2) j xd 3) j xd 4) 0) ((lsD n d (lsD n d (lsD n d (lsD n d td j xd 1) j xd 2) j xd 3) j xd 4) 1) ((lsD n d (lsD n d (lsD n d (lsD n d td j xd 1) j xd 2) j xd 3) j xd 4) 2) ((lsD n d (lsD n d (lsD n d (lsD n d td j xd 1) j xd 2) j xd 3) j xd 4) 3) ((lsD n d (lsD n d (lsD n d (lsD n d td j xd 1) j xd 2) j xd 3) j xd 4) 4) ((lsD n d (lsD n d (lsD n d (lsD n d td j xd 1) j xd 2) j xd 3) j xd 4) 5) ((lsD n d (lsD n d (lsD n d (lsD n d td j xd 1) j xd 2) j xd 3) j xd 4) 6) ((lsD n d (lsD n d (lsD n d (lsD n d td j xd 1) j xd 2) j xd 3) j xd 4) 7) ((lsD n d (lsD n d (lsD n d (lsD n d td j xd 1) j xd 2) j xd 3) j xd 4) 8) 3 n) &&& ((stS (d 0) (d 1) (d 2) (d 3) (d 4) (d 5) (d 6) (d 7) (d 8) 3 n) ^^^ (-1)) = A4
  generalize (stS ((lsD n d (lsD n d (lsD n d td j xd 1) j xd 2) j xd 3) 0) ((lsD n d (lsD n d (lsD n d td j xd 1) j xd 2) j xd 3) 1) ((lsD n d (lsD n d (lsD n d td j xd 1) j xd 2) j xd 3) 2) ((lsD n d (lsD n d (lsD n d td j xd 1) j xd 2) j xd 3) 3) ((lsD n d (lsD n d (lsD n d td j xd 1) j xd 2) j xd 3) 4) ((lsD n d (lsD n d (lsD n d td j xd 1) j xd 2) j xd 3) 5) ((lsD n d (lsD n d (lsD n d td j xd 1) j xd 2) j xd 3) 6) ((lsD n d (lsD n d (lsD n d td j xd 1) j xd 2) j xd 3) 7) ((lsD n d (lsD n d (lsD n d td j xd 1) j xd 2) j xd 3) 8) 3 n) &&& ((stS (d 0) (d 1) (d 2) (d 3) (d 4) (d 5) (d 6) (d 7) (d 8) 3 n) ^^^ (-1)) = A3
  generalize (stS ((lsD n d (lsD n d td j xd 1) j xd 2) 0) ((lsD n d (lsD n d td j xd 1) j xd 2) 1) ((lsD n d (lsD n d td j xd 1) j xd 2) 2) ((lsD n d (lsD n d td j xd 1) j xd 2) 3) ((lsD n d (lsD n d td j xd 1) j xd 2) 4) ((lsD n d (lsD n d td j xd 1) j xd 2) 5) ((lsD n d (lsD n d td j xd 1) j xd 2) 6) ((lsD n d (lsD n d td j xd 1) j xd 2) 7) ((lsD n d (lsD n d td j xd 1) j xd 2) 8) 3 n) &&& ((stS (d 0) (d 1) (d 2) (d 3) (d 4) (d 5) (d 6) (d 7) (d 8) 3 n) ^^^ (-1)) = A2
  generalize (stS ((lsD n d td j xd 1) 0) ((lsD n d td j xd 1) 1) ((lsD n d td j xd 1) 2) ((lsD n d td j xd 1) 3) ((lsD n d td j xd 1) 4) ((lsD n d td j xd 1) 5) ((lsD n d td j xd 1) 6) ((lsD n d td j xd 1) 7) ((lsD n d td j xd 1) 8) 3 n) &&& ((stS (d 0) (d 1) (d 2) (d 3) (d 4) (d 5) (d 6) (d 7) (d 8) 3 n) ^^^ (-1)) = A1
  by_cases c1 : lg_cmp A1 0 = 0 <;> by_cases c2 : lg_cmp A2 0 = 0 <;> by_cases c3 : lg_cmp A3 0 = 0 <;> by_cases c4 : lg_cmp A4 0 = 0 <;> simp only [c1, c2, c3, c4, ↓reduceIte] <;> decide
theorem P_losing_er {f fA : Nat → Int32} {n : Nat} {d td : Nat → Nat → Int32} (R : RelD f n d) {j : Nat} {xd : Int32} (hj : j < n) (hF : ¬ r_X5_writeFault_in f j xd = 0) : r_X4_losing_er n d td j xd = r_X5_losing_in f fA n j xd ∧ RelD (n_X5_losing_in_1 f fA n j xd) n d := by
  have h32 : j < 32 := by have := R.1.1.2.2; omega
  obtain ⟨e1, e2, e3, e4⟩ := st_no (ix := (D_X0_expect_1 n (D_X0_expect_0 n (cpD d td) 1) 1) 0) (xd := xd) ((R.cp td).1.2.2.1 j h32) (R.1.2.2.2.1 j h32).2 hF
  unfold r_X4_losing_er r_X5_losing_in n_X5_losing_in_1
  rw [if_neg e2, if_neg e2]
  exact ⟨e1, R⟩
/-- does a write fail, whatever the trial holds -/
theorem ls_er {f : Nat → Int32} {n : Nat} {d : Nat → Nat → Int32} (R : RelD f n d) {j : Nat} {xd : Int32} (hj : j < n) :
    (r_X5_writeFault_in f j xd = 0 ∧ ∀ (t : Nat → Nat → Int32) (k : Int32), (r_X4_isError (r_X0_store_in ((D_X0_expect_1 n (D_X0_expect_0 n (cpD d t) k) k) 0) j xd)) = 0) ∨
    (¬ r_X5_writeFault_in f j xd = 0 ∧ ∀ (t : Nat → Nat → Int32) (k : Int32), ¬ (r_X4_isError (r_X0_store_in ((D_X0_expect_1 n (D_X0_expect_0 n (cpD d t) k) k) 0) j xd)) = 0) := by
  by_cases hF : r_X5_writeFault_in f j xd = 0
  · left
    refine ⟨hF, fun t k => ?_⟩
    rcases Rel.write (R.cp t) (xd := xd) hj with ⟨-, -, e3, -⟩ | ⟨e1, -⟩
    · exact e3
    · exact absurd (by rw [hF]; decide) e1
  · right
    refine ⟨hF, fun t k => ?_⟩
    rcases Rel.write (R.cp t) (xd := xd) hj with ⟨e1, -⟩ | ⟨-, -, e3, -⟩
    · exact absurd e1 hF
    · exact e3
/-- a saved state -/
def SlotR (g : Nat → Int32) (v z : Int32) (n : Nat) (e : Nat → Nat → Int32) : Prop := v = z ∧ (z = 0 ∨ z = 1) ∧ (1 ≤ n ∧ n ≤ 32) ∧ (z = 1 → RelD g n e)
theorem SlotR.save {g f : Nat → Int32} {n : Nat} {d e : Nat → Nat → Int32} (R : RelD f n d) (hg : ∀ k, k < 360 → g k = f k) {v : Int32} (hv : v = 1) : SlotR g v 1 n (cpD d e) := ⟨hv, Or.inr rfl, ⟨R.1.1.2.1, R.1.1.2.2⟩, fun _ => (R.cp e).cong hg⟩
theorem SlotR.same {g g' : Nat → Int32} {v v' z : Int32} {n : Nat} {e : Nat → Nat → Int32} (S : SlotR g v z n e) (hv : v' = v) (hg : ∀ k, k < 360 → g' k = g k) : SlotR g' v' z n e := ⟨hv.trans S.1, S.2.1, S.2.2.1, fun q => (S.2.2.2 q).cong hg⟩
theorem P_fault {fP cS cV cF cE : Nat → Int32} {ln : Nat} {le on tw : Int32} (h : PadR fP cS ln) : r_X2_scan cS cV cF cE ln = r_X5_fault fP ln le on tw ∧ n_X2_scan_0_2 cS cV cF cE ln ≤ 80 ∧ n_X2_scan_0_6 cS cV cF cE ln ≤ 40 ∧ ((∀ i, VFp (cV i) (cF i)) → ∀ i, VFp (n_X2_scan_2 cS cV cF cE ln i) (n_X2_scan_3 cS cV cF cE ln i)) := by
  obtain ⟨g1, g2, g3, g4, g5, -⟩ := scan_go h 80 0 0 0 cV cF cE le on tw _ _ rfl (Nat.le_refl _) (by decide) rfl rfl
  refine ⟨?_, g3, g4, g5⟩
  unfold r_X2_scan r_X5_fault n_X5_go_0_0_9 n_X5_go_0_0_8
  rcases g1 with ⟨k1, k2⟩ | ⟨k1, k2⟩
  · rw [if_pos k1, k2, if_neg n1_0, g2]
  · rw [if_neg k1, k2, if_pos nI_0]
theorem P_carry {fP cS cV cF cE fS fB : Nat → Int32} {ln n sp kt : Nat} {le on tw : Int32} {d : Nat → Nat → Int32} {hn : Nat → Nat} {hd : Nat → Nat → Nat → Int32} (h : PadR fP cS ln) (R : RelD fS n d) (H : HR fB hn hd sp kt) (hsp : sp < 7) (hkt : kt ≤ 6) :
    r_X4_carryOut cS cV cF cE ln n d = r_X5_carryOut fS fP ln le on tw n ∧ RelD (n_X5_carryOut_1 fS fP ln le on tw n) n (n_X4_carryOut_8_d cS cV cF cE ln n d) ∧
    HR (n_X5_carryOut_3 fS fB fP kt ln le on tw) (fup hn sp (n_X4_carryOut_9_n cS cV cF cE ln n (hn sp))) (fup hd sp (n_X4_carryOut_9_d cS cV cF cE ln d (hd sp))) (n_X4_carryOut_1_1 sp cS cV cF cE ln n d) (n_X4_carryOut_1_2 kt cS cV cF cE ln n d) ∧
    n_X5_carryOut_0_3 fP kt ln le on tw = n_X4_carryOut_1_2 kt cS cV cF cE ln n d ∧ n_X4_carryOut_1_1 sp cS cV cF cE ln n d < 7 ∧ n_X4_carryOut_1_2 kt cS cV cF cE ln n d ≤ 6 ∧ n_X5_carryOut_0_7 fP ln le on tw = n_X4_carryOut_3_1 cS cV cF cE ln ∧ PadR fP cS (n_X4_carryOut_3_1 cS cV cF cE ln) ∧ (1 ≤ n_X4_carryOut_9_n cS cV cF cE ln n (hn sp) ∨ n_X4_carryOut_9_n cS cV cF cE ln n (hn sp) = hn sp) ∧ (n_X4_carryOut_9_n cS cV cF cE ln n (hn sp) = n ∨ n_X4_carryOut_9_n cS cV cF cE ln n (hn sp) = hn sp) := by
  obtain ⟨g1, g2, g3, g4, g5, g6⟩ := scan_go h 80 0 0 0 cV cF cE le on tw _ _ rfl (Nat.le_refl _) (by decide) rfl rfl
  unfold r_X4_carryOut r_X5_carryOut n_X5_carryOut_1 n_X4_carryOut_8_d n_X5_carryOut_3 n_X4_carryOut_9_n n_X4_carryOut_9_d n_X4_carryOut_1_1 n_X4_carryOut_1_2 n_X5_carryOut_0_3 n_X5_carryOut_0_7 n_X4_carryOut_3_1
  have hR1 := R.1.1.2.1
  rcases g1 with ⟨k1, k2⟩ | ⟨k1, k2⟩
  · have s1 : ¬ r_X2_scan cS cV cF cE ln = -6 := by
      unfold r_X2_scan
      rw [if_pos k1]
      exact nI_nneg (by omega) (by decide)
    have s2 : ¬ (nI (n_X5_go_0_0_9 fP ln le on tw)) = 0 := by
      unfold n_X5_go_0_0_9
      rw [k2]
      exact n1_0
    simp only [if_neg s1, if_neg s2]
    exact ⟨trivial, R, H.spare hsp hkt _ _, trivial, hsp, hkt, trivial, h, Or.inr trivial, Or.inr trivial⟩
  · have s1 : r_X2_scan cS cV cF cE ln = -6 := by
      unfold r_X2_scan
      rw [if_neg k1]
    have s2 : (nI (n_X5_go_0_0_9 fP ln le on tw)) = 0 := by
      unfold n_X5_go_0_0_9
      rw [k2]
      exact nI_0
    simp only [if_pos s1, if_pos s2]
    obtain ⟨-, -, g7⟩ := g6 k1
    obtain ⟨-, j2, j3, j4⟩ := g7 n 0 0 d fS (n_X5_go_0_0_10 fP ln le on tw) (n_X5_go_0_0_11 fP ln le on tw) (n_X5_go_0_0_12 fP ln le on tw) R
    have e : caI n cS cV cF cE ln 40 0 d = caG n (n_X2_scan_0_6 cS cV cF cE ln) (n_X2_scan_2 cS cV cF cE ln) (n_X2_scan_3 cS cV cF cE ln) (n_X2_scan_4 cS cV cF cE ln) (40 - 0) 0 d := caI_eq 40 0 d
    have j2' : (caI n cS cV cF cE ln 40 0 d).1 ≤ 40 := by rw [e]; exact j2
    have j3' : (gdI fP ln n 82 0 1 0 0 0 (n_X5_go_0_0_10 fP ln le on tw) (n_X5_go_0_0_11 fP ln le on tw) (n_X5_go_0_0_12 fP ln le on tw) fS).1 = (caI n cS cV cF cE ln 40 0 d).1 := by
      rw [e]
      exact j3.trans (by rw [Nat.zero_add, Nat.sub_zero]; rfl)
    have er : r_X4_isError (nI ((caI n cS cV cF cE ln 40 0 d).1)) = 0 := er_0 (nI_pos' (by omega))
    obtain ⟨e1, e2⟩ := keep_ok (sp := sp) (kt := kt) er hkt
    rw [e1, e2]
    refine ⟨?_, ?_, H.keep hsp hkt R, rfl, by rw [spN_eq hsp]; omega, knK_le hkt, trivial, ⟨by decide, fun i hi => absurd hi (Nat.not_lt_zero _)⟩, Or.inl hR1, Or.inl trivial⟩
    · unfold r_X5_go_1
      rw [j3']
    · unfold n_X5_go_1_1
      rw [e]
      exact j4
