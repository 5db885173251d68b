/-- a side's place in the reference's row, and in the four arrays of a side -/
def Ls (f a r e s : Nat → Int32) (sg j : Nat) : Prop := (f (40 + 160 * sg + 5 * j + 0) = 1 ∧ ¬ r j = 0 ∧ a j = f (40 + 160 * sg + 5 * j + 1) ∧ r j = f (40 + 160 * sg + 5 * j + 2) ∧ e j = f (40 + 160 * sg + 5 * j + 3) ∧ s j = f (40 + 160 * sg + 5 * j + 4)) ∨ (f (40 + 160 * sg + 5 * j + 0) = 0 ∧ r j = 0)
theorem i10 : ¬ (1 : Int32) = 0 := by decide
theorem i01 : ¬ (0 : Int32) = 1 := by decide
theorem Ls_lies {f a r e s : Nat → Int32} {sg j : Nat} (h : Ls f a r e s sg j) : r_X3_lies r j = 0 ↔ f (40 + 160 * sg + 5 * j + 0) = 0 := by
  unfold r_X3_lies
  rcases h with ⟨h1, h2, -⟩ | ⟨h1, h2⟩
  · rw [if_neg h2, h1]
  · rw [if_pos h2, h1]
theorem Ls_whole {f a r e s : Nat → Int32} {sg j : Nat} (h : Ls f a r e s sg j) : r_X3_isWhole a r e s j = r_X5_isWhole f sg j := by
  unfold r_X3_isWhole r_X5_isWhole r_X3_lies
  rcases h with ⟨h1, h2, h3, h4, h5, h6⟩ | ⟨h1, h2⟩
  · rw [if_neg h2, if_neg i10, if_pos h1, h3, h4, h5, h6]
  · rw [if_pos h2, if_pos rfl, if_neg (by rw [h1]; decide)]
theorem Ls_reason {f a r e s : Nat → Int32} {sg j : Nat} {x : Int32} (h : Ls f a r e s sg j) (hx : x = f (8 + j)) : r_X3_reasonAgainst a r e s j x = r_X5_reason f sg j := by
  unfold r_X3_reasonAgainst r_X5_reason r_X5_isWhole r_X3_lies
  rcases h with ⟨h1, h2, h3, h4, h5, h6⟩ | ⟨h1, h2⟩
  · rw [if_neg h2, if_neg i10, if_neg (show ¬ f (40 + 160 * sg + 5 * j + 0) = 0 by rw [h1]; decide), if_pos h1, h3, h4, h5, h6, hx]
    by_cases c : f (40 + 160 * sg + 5 * j + 4) = sumF (f (40 + 160 * sg + 5 * j + 1)) (f (40 + 160 * sg + 5 * j + 2)) (f (40 + 160 * sg + 5 * j + 3))
    · rw [if_pos c, if_pos c, if_neg i10]
    · rw [if_neg c, if_neg c, if_pos rfl]
  · rw [if_pos h2, if_pos rfl, if_pos h1]
theorem Ls_r0 {f a r e s : Nat → Int32} {sg j : Nat} (h : Ls f a r e s sg j) (q : r_X5_reason f sg j = 0) : ¬ f (8 + j) = 0 := by
  unfold r_X5_reason at q
  rcases h with ⟨h1, h2, h3, h4, h5, h6⟩ | ⟨h1, h2⟩
  · rw [if_neg (show ¬ f (40 + 160 * sg + 5 * j + 0) = 0 by rw [h1]; decide)] at q
    split at q
    · exact absurd q (by decide)
    · split at q
      · split at q
        · rename_i c
          intro z
          exact h2 (by rw [h4, c, z])
        · exact absurd q (by decide)
      · exact absurd q (by decide)
  · rw [if_pos h1] at q
    exact absurd q (by decide)
theorem Ls_bel {f a r e s : Nat → Int32} {sg j : Nat} {x : Int32} (h : Ls f a r e s sg j) (hx : x = f (8 + j)) (h0 : 0 ≤ f (8 + j)) : (if r_X3_reasonAgainst a r e s j x = 0 then (1 : Int32) else 0) = r_X5_isBelieved f sg j := by
  unfold r_X5_isBelieved
  rw [Ls_reason h hx]
  by_cases c : f (8 + j) ≤ 0
  · rw [if_pos c, if_neg (fun q => Ls_r0 h q (Int32.le_antisymm c h0))]
  · rw [if_neg c]
theorem Ls_astray {f a r e s : Nat → Int32} {sg j : Nat} (h : Ls f a r e s sg j) : r_X3_isOfOtherAddress a r j = r_X5_isAstray f sg j := by
  unfold r_X3_isOfOtherAddress r_X5_isAstray r_X3_lies
  rcases h with ⟨h1, h2, h3, -⟩ | ⟨h1, h2⟩
  · rw [if_neg h2, if_neg i10, if_pos h1, h3]
  · rw [if_pos h2, if_pos rfl, if_neg (by rw [h1]; decide)]
theorem Ls_cong {f f' a r e s a' r' e' s' : Nat → Int32} {sg j : Nat} (h : Ls f a r e s sg j) (hf : ∀ i, i < 5 → f' (40 + 160 * sg + 5 * j + i) = f (40 + 160 * sg + 5 * j + i)) (ha : a' j = a j) (hr : r' j = r j) (he : e' j = e j) (hs : s' j = s j) : Ls f' a' r' e' s' sg j := by
  unfold Ls
  rw [hf 0 (by decide), hf 1 (by decide), hf 2 (by decide), hf 3 (by decide), hf 4 (by decide), ha, hr, he, hs]
  exact h
/-- the reference's row and a drive's content -/
def Rel (f : Nat → Int32) (n : Nat) (d : Nat → Nat → Int32) : Prop :=
  (f 0 = nI n ∧ 1 ≤ n ∧ n ≤ 32) ∧ (∀ k, 1 ≤ k → k < 8 → d 9 k = f k) ∧ (∀ j, j < 32 → d 0 j = f (8 + j)) ∧ (∀ j, j < 32 → 0 ≤ f (8 + j) ∧ f (8 + j) ≤ 999) ∧ (∀ j, j < 32 → Ls f (d 1) (d 2) (d 3) (d 4) 0 j) ∧ (∀ j, j < 32 → Ls f (d 5) (d 6) (d 7) (d 8) 1 j) ∧ ((0 ≤ f 1 ∧ f 1 ≤ 4) ∧ (0 ≤ f 2 ∧ f 2 ≤ 4))
theorem Rel.cong {f f' : Nat → Int32} {n : Nat} {d d' : Nat → Nat → Int32} (R : Rel f n d) (hf : ∀ k, k < 360 → f' k = f k) (hd : ∀ c, c < 9 → ∀ j, j < 32 → d' c j = d c j) (h9 : ∀ k, 1 ≤ k → k < 8 → d' 9 k = d 9 k) : Rel f' n d' := by
  obtain ⟨⟨a1, a2, a3⟩, b, c, r, l0, l1, w⟩ := R
  refine ⟨⟨(hf 0 (by decide)).trans a1, a2, a3⟩, fun k h1 h2 => ?_, fun j hj => ?_, fun j hj => ?_, fun j hj => ?_, fun j hj => ?_, ?_⟩
  · rw [h9 k h1 h2, hf k (by omega)]
    exact b k h1 h2
  · rw [hd 0 (by decide) j hj, hf _ (by omega)]
    exact c j hj
  · rw [hf _ (by omega)]
    exact r j hj
  · exact Ls_cong (l0 j hj) (fun i hi => hf _ (by omega)) (hd 1 (by decide) j hj) (hd 2 (by decide) j hj) (hd 3 (by decide) j hj) (hd 4 (by decide) j hj)
  · exact Ls_cong (l1 j hj) (fun i hi => hf _ (by omega)) (hd 5 (by decide) j hj) (hd 6 (by decide) j hj) (hd 7 (by decide) j hj) (hd 8 (by decide) j hj)
  · rw [hf 1 (by decide), hf 2 (by decide)]
    exact w
theorem Rel.bel_d {f : Nat → Int32} {n : Nat} {d : Nat → Nat → Int32} (R : Rel f n d) {j : Nat} (hj : j < 32) : r_X0_isBelieved_d (d 0) (d 1) (d 2) (d 3) (d 4) j = r_X5_isBelieved f 0 j := by
  unfold r_X0_isBelieved_d
  exact Ls_bel (R.2.2.2.2.1 j hj) (R.2.2.1 j hj) (R.2.2.2.1 j hj).1
theorem Rel.bel_m {f : Nat → Int32} {n : Nat} {d : Nat → Nat → Int32} (R : Rel f n d) {j : Nat} (hj : j < 32) : r_X0_isBelieved_m (d 0) (d 5) (d 6) (d 7) (d 8) j = r_X5_isBelieved f 1 j := by
  unfold r_X0_isBelieved_m
  exact Ls_bel (R.2.2.2.2.2.1 j hj) (R.2.2.1 j hj) (R.2.2.2.1 j hj).1
theorem Rel.wr {f : Nat → Int32} {n : Nat} {d : Nat → Nat → Int32} (R : Rel f n d) {j : Nat} (hj : j < 32) : r_X0_isWritten (d 0) j = if f (8 + j) ≤ 0 then 0 else 1 := by
  unfold r_X0_isWritten
  rw [R.2.2.1 j hj]
  by_cases c : f (8 + j) ≤ 0
  · rw [if_pos c, if_pos (Int32.le_antisymm c (R.2.2.2.1 j hj).1)]
  · rw [if_neg c, if_neg (fun z => c (by rw [z]; decide))]
theorem Rel.belongs {f : Nat → Int32} {n : Nat} {d : Nat → Nat → Int32} (R : Rel f n d) {j : Nat} (hj : j < 32) {w : Int32} (hw : w = 0 ∨ w = 1 ∨ w = 2 ∨ w = 3 ∨ w = 4 ∨ w = 5) : r_X0_belongs (d 0) (d 1) (d 2) (d 3) (d 4) (d 5) (d 6) (d 7) (d 8) j w = r_X5_isSo f j w := by
  unfold r_X0_belongs r_X5_isSo
  rw [R.bel_d hj, R.bel_m hj, R.wr hj, Ls_astray (R.2.2.2.2.1 j hj), Ls_astray (R.2.2.2.2.2.1 j hj)]
  rcases hw with rfl | rfl | rfl | rfl | rfl | rfl
  · rw [if_pos rfl, if_pos rfl]
  · rw [if_neg (show ¬ (1 : Int32) = 0 by decide), if_pos rfl, if_neg (show ¬ (1 : Int32) = 0 by decide), if_pos rfl]
  · rw [if_neg (show ¬ (2 : Int32) = 0 by decide), if_neg (show ¬ (2 : Int32) = 1 by decide), if_pos rfl, if_neg (show ¬ (2 : Int32) = 0 by decide), if_neg (show ¬ (2 : Int32) = 1 by decide), if_pos rfl]
  · rw [if_neg (show ¬ (3 : Int32) = 0 by decide), if_neg (show ¬ (3 : Int32) = 1 by decide), if_neg (show ¬ (3 : Int32) = 2 by decide), if_pos rfl, if_neg (show ¬ (3 : Int32) = 0 by decide), if_neg (show ¬ (3 : Int32) = 1 by decide), if_neg (show ¬ (3 : Int32) = 2 by decide), if_pos rfl]
    unfold r_X5_isLost
    by_cases c : f (8 + j) ≤ 0
    · rw [if_pos c, if_pos c, if_pos rfl]
    · rw [if_neg c, if_neg c, if_neg i10]
  · rw [if_neg (show ¬ (4 : Int32) = 0 by decide), if_neg (show ¬ (4 : Int32) = 1 by decide), if_neg (show ¬ (4 : Int32) = 2 by decide), if_neg (show ¬ (4 : Int32) = 3 by decide), if_pos rfl, if_neg (show ¬ (4 : Int32) = 0 by decide), if_neg (show ¬ (4 : Int32) = 1 by decide), if_neg (show ¬ (4 : Int32) = 2 by decide), if_neg (show ¬ (4 : Int32) = 3 by decide), if_pos rfl]
    rfl
  · rw [if_neg (show ¬ (5 : Int32) = 0 by decide), if_neg (show ¬ (5 : Int32) = 1 by decide), if_neg (show ¬ (5 : Int32) = 2 by decide), if_neg (show ¬ (5 : Int32) = 3 by decide), if_neg (show ¬ (5 : Int32) = 4 by decide), if_pos rfl, if_neg (show ¬ (5 : Int32) = 0 by decide), if_neg (show ¬ (5 : Int32) = 1 by decide), if_neg (show ¬ (5 : Int32) = 2 by decide), if_neg (show ¬ (5 : Int32) = 3 by decide), if_neg (show ¬ (5 : Int32) = 4 by decide)]
theorem or0 (x : Int64) : x ||| 0 = x := by
  apply Int64.toBitVec_inj.mp
  simp
theorem Rel.places {f : Nat → Int32} {n : Nat} {d : Nat → Nat → Int32} (R : Rel f n d) {w : Int32} (hw : w = 0 ∨ w = 1 ∨ w = 2 ∨ w = 3 ∨ w = 4 ∨ w = 5) : ∀ k, k ≤ 32 → stS (d 0) (d 1) (d 2) (d 3) (d 4) (d 5) (d 6) (d 7) (d 8) w k = plS f w k
  | 0, _ => rfl
  | k + 1, h => by
    show (if (r_X0_belongs (d 0) (d 1) (d 2) (d 3) (d 4) (d 5) (d 6) (d 7) (d 8) k w) = 0 then (stS (d 0) (d 1) (d 2) (d 3) (d 4) (d 5) (d 6) (d 7) (d 8) w k) else ((stS (d 0) (d 1) (d 2) (d 3) (d 4) (d 5) (d 6) (d 7) (d 8) w k) ||| (1 <<< ((nI k).toInt64 &&& 63)))) = ((plS f w k) ||| ((if (r_X5_isSo f k w) = 0 then 0 else (1 <<< ((nI k).toInt64 &&& 63))) : Int64))
    rw [R.belongs (by omega) hw, R.places hw k (by omega)]
    by_cases c : r_X5_isSo f k w = 0
    · rw [if_pos c, if_pos c, or0]
    · rw [if_neg c, if_neg c]
theorem Rel.read {f : Nat → Int32} {n : Nat} {d : Nat → Nat → Int32} (R : Rel f n d) {j : Nat} (hj : j < 32) : r_X0_fetch_in (d 0) (d 1) (d 2) (d 3) (d 4) (d 5) (d 6) (d 7) (d 8) j = r_X5_readable f j := by
  unfold r_X0_fetch_in r_X5_readable r_X0_isWritten r_X3_dataAt
  rw [R.bel_d hj, R.bel_m hj, R.2.2.1 j hj]
  by_cases c : f (8 + j) = 0
  · rw [if_pos c, if_pos c, if_pos rfl]
  · rw [if_neg c, if_neg c, if_neg i10]
    have key : ∀ (sg : Nat) (a r e s : Nat → Int32), Ls f a r e s sg j → ¬ r_X5_isBelieved f sg j = 0 → (if r_X3_lies r j = 0 then (-6) else e j) = f (40 + 160 * sg + 5 * j + 3) := by
      intro sg a r e s h hb
      rcases h with ⟨h1, h2, h3, h4, h5, h6⟩ | ⟨h1, h2⟩
      · rw [if_neg (show ¬ r_X3_lies r j = 0 by unfold r_X3_lies; rw [if_neg h2]; decide), h5]
      · exfalso
        apply hb
        unfold r_X5_isBelieved r_X5_reason
        rw [if_pos h1, if_neg i10]
        split <;> rfl
    by_cases c0 : r_X5_isBelieved f 0 j = 0
    · rw [if_pos c0, if_pos c0]
      by_cases c1 : r_X5_isBelieved f 1 j = 0
      · rw [if_pos c1, if_pos c1]
      · rw [if_neg c1, if_neg c1]
        exact key 1 _ _ _ _ (R.2.2.2.2.2.1 j hj) c1
    · rw [if_neg c0, if_neg c0]
      exact key 0 _ _ _ _ (R.2.2.2.2.1 j hj) c0
