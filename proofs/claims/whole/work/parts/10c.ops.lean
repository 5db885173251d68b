theorem isR_cong {f f' : Nat → Int32} {sg j : Nat} (h : ∀ i, 8 ≤ i → f' i = f i) : r_X5_reason f' sg j = r_X5_reason f sg j := by
  unfold r_X5_reason r_X5_isWhole
  rw [h (40 + 160 * sg + 5 * j + 0) (by omega), h (40 + 160 * sg + 5 * j + 1) (by omega), h (40 + 160 * sg + 5 * j + 2) (by omega), h (40 + 160 * sg + 5 * j + 3) (by omega), h (40 + 160 * sg + 5 * j + 4) (by omega), h (8 + j) (by omega)]
theorem isB_cong {f f' : Nat → Int32} {sg j : Nat} (h : ∀ i, 8 ≤ i → f' i = f i) : r_X5_isBelieved f' sg j = r_X5_isBelieved f sg j := by
  unfold r_X5_isBelieved
  rw [h (8 + j) (by omega), isR_cong h]
theorem isL_cong {f f' : Nat → Int32} {j : Nat} (h : ∀ i, 8 ≤ i → f' i = f i) : r_X5_isLost f' j = r_X5_isLost f j := by
  unfold r_X5_isLost
  rw [h (8 + j) (by omega), isB_cong h, isB_cong h]
/-- a change of the numbers alone -/
theorem Rel.nums {f f' : Nat → Int32} {n : Nat} {d d' : Nat → Nat → Int32} (R : Rel f n d) (hf : ∀ k, ¬ (1 ≤ k ∧ k < 8) → f' k = f k) (hd : ∀ c, c < 9 → d' c = d c) (h9 : ∀ k, 1 ≤ k → k < 8 → d' 9 k = f' k) (hw : (0 ≤ f' 1 ∧ f' 1 ≤ 4) ∧ (0 ≤ f' 2 ∧ f' 2 ≤ 4)) : Rel f' n d' := by
  obtain ⟨⟨a1, a2, a3⟩, b, c, r, l0, l1, w⟩ := R
  refine ⟨⟨(hf 0 (by omega)).trans a1, a2, a3⟩, h9, fun j hj => ?_, fun j hj => ?_, fun j hj => ?_, fun j hj => ?_, hw⟩
  · rw [hd 0 (by decide), hf _ (by omega)]
    exact c j hj
  · rw [hf _ (by omega)]
    exact r j hj
  · rw [hd 1 (by decide), hd 2 (by decide), hd 3 (by decide), hd 4 (by decide)]
    exact Ls_cong (l0 j hj) (fun i hi => hf _ (by omega)) rfl rfl rfl rfl
  · rw [hd 5 (by decide), hd 6 (by decide), hd 7 (by decide), hd 8 (by decide)]
    exact Ls_cong (l1 j hj) (fun i hi => hf _ (by omega)) rfl rfl rfl rfl
theorem nine {P : Nat → Prop} (h0 : P 0) (h1 : P 1) (h2 : P 2) (h3 : P 3) (h4 : P 4) (h5 : P 5) (h6 : P 6) (h7 : P 7) (h8 : P 8) : ∀ c, c < 9 → P c := by
  intro c hc
  rcases (show c = 0 ∨ c = 1 ∨ c = 2 ∨ c = 3 ∨ c = 4 ∨ c = 5 ∨ c = 6 ∨ c = 7 ∨ c = 8 by omega) with rfl | rfl | rfl | rfl | rfl | rfl | rfl | rfl | rfl <;> assumption
theorem seven {P : Nat → Prop} (h1 : P 1) (h2 : P 2) (h3 : P 3) (h4 : P 4) (h5 : P 5) (h6 : P 6) (h7 : P 7) : ∀ c, 1 ≤ c → c < 8 → P c := by
  intro c h hc
  rcases (show c = 1 ∨ c = 2 ∨ c = 3 ∨ c = 4 ∨ c = 5 ∨ c = 6 ∨ c = 7 by omega) with rfl | rfl | rfl | rfl | rfl | rfl | rfl <;> assumption
theorem Rel.await0 {f : Nat → Int32} {n : Nat} {d : Nat → Nat → Int32} (R : Rel f n d) {x : Int32} (h0 : ¬ x < 0) (h4 : x ≤ 4) : Rel (upd f (1 + 0) x) n (D_X0_expect_0 n d x) := by
  have b := R.2.1
  have w := R.2.2.2.2.2.2
  refine R.nums (fun k hk => pk_un (by omega)) (nine rfl rfl rfl rfl rfl rfl rfl rfl rfl) (seven ?_ ?_ ?_ ?_ ?_ ?_ ?_) ⟨⟨?_, ?_⟩, ⟨?_, ?_⟩⟩
  · show n_X0_expect_0_2_4 (d 9 1) x = _
    unfold n_X0_expect_0_2_4
    rw [if_neg h0, if_pos h4]
    exact pk_us.symm
  all_goals first
    | (show d 9 _ = _; rw [pk_un (by decide)]; exact b _ (by decide) (by decide))
    | (rw [show upd f (1 + 0) x 1 = x from pk_us]; first | exact h4 | exact Int32.not_lt.mp h0)
    | (rw [pk_un (by decide)]; first | exact w.2.1 | exact w.2.2)
theorem Rel.await1 {f : Nat → Int32} {n : Nat} {d : Nat → Nat → Int32} (R : Rel f n d) {x : Int32} (h0 : ¬ x < 0) (h4 : x ≤ 4) : Rel (upd f (1 + 1) x) n (D_X0_expect_1 n d x) := by
  have b := R.2.1
  have w := R.2.2.2.2.2.2
  refine R.nums (fun k hk => pk_un (by omega)) (nine rfl rfl rfl rfl rfl rfl rfl rfl rfl) (seven ?_ ?_ ?_ ?_ ?_ ?_ ?_) ⟨⟨?_, ?_⟩, ⟨?_, ?_⟩⟩
  · show d 9 1 = _
    rw [pk_un (by decide)]
    exact b _ (by decide) (by decide)
  · show n_X0_expect_1_3_4 (d 9 2) x = _
    unfold n_X0_expect_1_3_4
    rw [if_neg h0, if_pos h4]
    exact pk_us.symm
  all_goals first
    | (show d 9 _ = _; rw [pk_un (by decide)]; exact b _ (by decide) (by decide))
    | (rw [show upd f (1 + 1) x 2 = x from pk_us]; first | exact h4 | exact Int32.not_lt.mp h0)
    | (rw [pk_un (by decide)]; first | exact w.1.1 | exact w.1.2)
theorem Rel.reads {f : Nat → Int32} {n : Nat} {d : Nat → Nat → Int32} (R : Rel f n d) {j : Nat} (hj : j < 32) : Rel (n_X5_reads_1 f j) n (D_X0_fetch_in n d j) := by
  have b := R.2.1
  have w := R.2.2.2.2.2.2
  have e1 : r_X5_isBelieved (upd f 4 ((f 4) + 1)) 0 j = r_X5_isBelieved f 0 j := isB_cong (fun i hi => pk_un (by omega))
  have e2 : ∀ z : Int32, r_X5_isLost (upd (upd f 4 ((f 4) + 1)) 5 z) j = r_X5_isLost f j := fun z => isL_cong (fun i hi => by rw [pk_un (by omega), pk_un (by omega)])
  have hw := R.wr hj
  refine R.nums (fun k hk => ?_) (nine rfl rfl rfl rfl rfl rfl rfl rfl rfl) (seven ?_ ?_ ?_ ?_ ?_ ?_ ?_) ?_
  · unfold n_X5_reads_1
    rw [pk_un (by omega), pk_un (by omega), pk_un (by omega)]
  · show d 9 1 = _
    unfold n_X5_reads_1
    rw [pk_un (by decide), pk_un (by decide), pk_un (by decide)]
    exact b 1 (by decide) (by decide)
  · show d 9 2 = _
    unfold n_X5_reads_1
    rw [pk_un (by decide), pk_un (by decide), pk_un (by decide)]
    exact b 2 (by decide) (by decide)
  · show d 9 3 = _
    unfold n_X5_reads_1
    rw [pk_un (by decide), pk_un (by decide), pk_un (by decide)]
    exact b 3 (by decide) (by decide)
  · show (d 9 4) + 1 = _
    unfold n_X5_reads_1
    rw [pk_un (by decide), pk_un (by decide), pk_us, b 4 (by decide) (by decide)]
  · show n_X0_fetch_in_0_6 (d 0) (d 1) (d 2) (d 3) (d 4) (d 9 5) j = _
    unfold n_X5_reads_1 n_X0_fetch_in_0_6
    rw [pk_un (by decide), pk_us, e1, R.bel_d hj, hw, b 5 (by decide) (by decide)]
    by_cases c : f (8 + j) ≤ 0
    · rw [if_pos c, if_pos c, if_pos rfl]
      simp
    · rw [if_neg c, if_neg c, if_neg i10]
      by_cases c2 : r_X5_isBelieved f 0 j = 0
      · rw [if_pos c2, if_pos c2]
      · rw [if_neg c2, if_neg c2]
        simp
  · show n_X0_fetch_in_0_7 (d 0) (d 1) (d 2) (d 3) (d 4) (d 5) (d 6) (d 7) (d 8) (d 9 6) j = _
    unfold n_X5_reads_1 n_X0_fetch_in_0_7
    rw [pk_us, e2, R.bel_d hj, R.bel_m hj, hw, b 6 (by decide) (by decide)]
    unfold r_X5_isLost
    by_cases c : f (8 + j) ≤ 0
    · rw [if_pos c, if_pos c, if_pos rfl, if_pos rfl]
      simp
    · rw [if_neg c, if_neg c, if_neg i10]
      by_cases c2 : r_X5_isBelieved f 0 j = 0
      · rw [if_pos c2, if_pos c2]
        by_cases c3 : r_X5_isBelieved f 1 j = 0
        · rw [if_pos c3, if_pos c3, if_neg i10]
        · rw [if_neg c3, if_neg c3, if_pos rfl]
          simp
      · rw [if_neg c2, if_neg c2, if_pos rfl]
        simp
  · show d 9 7 = _
    unfold n_X5_reads_1
    rw [pk_un (by decide), pk_un (by decide), pk_un (by decide)]
    exact b 7 (by decide) (by decide)
  · unfold n_X5_reads_1
    rw [pk_un (by decide), pk_un (by decide), pk_un (by decide), pk_un (by decide), pk_un (by decide), pk_un (by decide)]
    exact w
