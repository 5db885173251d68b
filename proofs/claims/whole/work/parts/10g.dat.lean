/-- the data in the reference's row are never below zero -/
def Dat (f : Nat → Int32) : Prop := ∀ sg, sg < 2 → ∀ j, j < 32 → 0 ≤ f (40 + 160 * sg + 5 * j + 3)
theorem Dat.cong {f f' : Nat → Int32} (h : Dat f) (hf : ∀ k, 40 ≤ k → k < 360 → f' k = f k) : Dat f' := fun sg hs j hj => by
  rw [hf _ (by omega) (by omega)]
  exact h sg hs j hj
theorem Dat.up {f : Nat → Int32} (h : Dat f) {k : Nat} {x : Int32} (hx : 0 ≤ x) : Dat (upd f k x) := fun sg hs j hj => by
  by_cases c : 40 + 160 * sg + 5 * j + 3 = k
  · rw [c, pk_us]; exact hx
  · rw [pk_un c]; exact h sg hs j hj
theorem Dat.off {f : Nat → Int32} (h : Dat f) {k : Nat} {x : Int32} (hk : ∀ sg, sg < 2 → ∀ j, j < 32 → 40 + 160 * sg + 5 * j + 3 ≠ k) : Dat (upd f k x) := fun sg hs j hj => by
  rw [pk_un (hk sg hs j hj)]; exact h sg hs j hj
theorem Dat.lay {f : Nat → Int32} (h : Dat f) {sg k j : Nat} {xd xs : Int32} (hx : 0 ≤ xd) : Dat (n_X5_lay_1 f sg k j xd xs) := by
  unfold n_X5_lay_1
  refine Dat.off (Dat.up (Dat.off (Dat.off (Dat.off h ?_) ?_) ?_) hx) ?_
  all_goals (intro a _ b _; omega)
theorem rot_pos {xd : Int32} (h0 : ¬ xd < 0) (h1 : xd ≤ 9999) : 0 ≤ (xd + 1) - (xd + 1) / 10000 * 10000 := by
  rw [← rot_eq h0 h1]
  split
  · decide
  · obtain ⟨k, hk, rfl⟩ := nI_of h0
    have k1 : k ≤ 9999 := (nI_leI (a := k) (b := 9999) (by omega) (by omega)).mp h1
    rw [nI_1]
    exact nI_pos' (by omega)
theorem Dat.lyM {S : Nat → Int32} (h : Dat S) {sg j : Nat} {xd xs : Int32} (hs : sg < 2) (h0 : ¬ xd < 0) (h1 : xd ≤ 9999) : Dat (wrM S sg j xd xs) := by
  have h2 : Dat (upd S (1 + sg) 0) := h.off (fun a _ b _ => by omega)
  unfold wrM
  split
  · exact h2
  · split
    · exact h2
    · refine h2.lay ?_
      split
      · exact rot_pos h0 h1
      · exact Int32.not_lt.mp h0
theorem Dat.lyB {S : Nat → Int32} (h : Dat S) {sg j k : Nat} {xd xs : Int32} (hs : sg < 2) (h0 : ¬ xd < 0) (h1 : xd ≤ 9999) : Dat (wrB S sg j k xd xs) := by
  have h2 := h.lyM (j := j) (xs := xs) hs h0 h1
  unfold wrB
  split
  · exact h2.lay (Int32.not_lt.mp h0)
  · split
    · exact h2.lay (Int32.not_lt.mp h0)
    · exact h2
theorem Dat.lyF {f : Nat → Int32} (h : Dat f) {j k : Nat} {xd : Int32} (hj : j < 32) (h0 : ¬ xd < 0) (h1 : xd ≤ 9999) : Dat (wrF f j k xd) := by
  have h2 : Dat (upd (upd f (8 + j) ((f (8 + j)) + 1)) 3 ((f 3) + 1)) := (h.off (fun a _ b _ => by omega)).off (fun a _ b _ => by omega)
  exact (h2.lyB (by decide) h0 h1).lyB (by decide) h0 h1
theorem Dat.mends {f : Nat → Int32} (h : Dat f) {j : Nat} (hj : j < 32) : Dat (n_X5_mends_1 f j) := by
  unfold n_X5_mends_1
  split
  · exact h
  · split
    · refine Dat.off (Dat.off (Dat.up (Dat.off (Dat.off (Dat.off h ?_) ?_) ?_) (h 1 (by decide) j hj)) ?_) ?_
      all_goals (intro a _ b _; omega)
    · refine Dat.off (Dat.off (Dat.up (Dat.off (Dat.off (Dat.off h ?_) ?_) ?_) (h 0 (by decide) j hj)) ?_) ?_
      all_goals (intro a _ b _; omega)
theorem Dat.scrub {f : Nat → Int32} (h : Dat f) : ∀ k, k ≤ 32 → Dat (scI f k)
  | 0, _ => h
  | k + 1, hk => (Dat.scrub h k (by omega)).mends (by omega)
theorem Dat.reads {f : Nat → Int32} (h : Dat f) {j : Nat} : Dat (n_X5_reads_1 f j) := by
  refine h.cong (fun k hk _ => ?_)
  unfold n_X5_reads_1
  rw [pk_un (by omega), pk_un (by omega), pk_un (by omega)]
theorem er_0 {x : Int32} (h : 0 ≤ x) : r_X4_isError x = 0 := by
  unfold r_X4_isError
  have h1 : (-1 : Int32) < x := by rw [Int32.lt_iff_toInt_lt]; rw [Int32.le_iff_toInt_le] at h; exact Int.lt_of_lt_of_le (by decide) h
  by_cases c : x < -5
  · rw [if_pos c]
  · rw [if_neg c, if_pos h1]
theorem er_rd {f : Nat → Int32} (h : Dat f) {j : Nat} (hj : j < 32) : r_X4_isError (r_X5_readable f j) = 0 := by
  unfold r_X5_readable
  split
  · decide
  · split
    · split
      · decide
      · exact er_0 (h 1 (by decide) j hj)
    · exact er_0 (h 0 (by decide) j hj)
/-- copies -/
theorem cpD_at {d z : Nat → Nat → Int32} {c j : Nat} (hc : c < 9) (hj : j < 32) : cpD d z c j = d c j := by
  have key : va_cpy (d c) (z c) 0 0 32 j = d c j := by
    rw [pk_cpy_in (by omega) (by omega), Nat.sub_zero, Nat.zero_add]
  rcases (show c = 0 ∨ c = 1 ∨ c = 2 ∨ c = 3 ∨ c = 4 ∨ c = 5 ∨ c = 6 ∨ c = 7 ∨ c = 8 by omega) with rfl | rfl | rfl | rfl | rfl | rfl | rfl | rfl | rfl <;> exact key
theorem Rel.cp {f : Nat → Int32} {n : Nat} {d : Nat → Nat → Int32} (R : Rel f n d) (z : Nat → Nat → Int32) : Rel f n (cpD d z) := R.cong (fun _ _ => rfl) (fun _ hc _ hj => cpD_at hc hj) (fun _ _ _ => rfl)
theorem cpA_in (f g : Nat → Int32) (a : Nat) : ∀ (N k : Nat), k < N → cpA f g a N (a + k) = g k
  | 0, k, h => absurd h (Nat.not_lt_zero _)
  | N + 1, k, h => by
    show upd (cpA f g a N) (a + N) (g N) (a + k) = g k
    by_cases c : k = N
    · subst c; exact pk_us
    · rw [pk_un (by omega)]; exact cpA_in f g a N k (by omega)
theorem cpA_out (f g : Nat → Int32) (a : Nat) : ∀ (N k : Nat), (k < a ∨ a + N ≤ k) → cpA f g a N k = f k
  | 0, k, h => rfl
  | N + 1, k, h => by
    show upd (cpA f g a N) (a + N) (g N) k = f k
    rw [pk_un (by omega)]; exact cpA_out f g a N k (by omega)
theorem cpB_in (f g : Nat → Int32) (b : Nat) : ∀ (N k : Nat), k < N → cpB f g b N k = g (b + k)
  | 0, k, h => absurd h (Nat.not_lt_zero _)
  | N + 1, k, h => by
    show upd (cpB f g b N) N (g (b + N)) k = g (b + k)
    by_cases c : k = N
    · subst c; exact pk_us
    · rw [pk_un c]; exact cpB_in f g b N k (by omega)
theorem shI_out (f : Nat → Int32) : ∀ (N k : Nat), N ≤ k → shI f N k = f k
  | 0, k, h => rfl
  | N + 1, k, h => by
    show upd (shI f N) N ((shI f N) (360 + N)) k = f k
    rw [pk_un (by omega)]; exact shI_out f N k (by omega)
theorem shI_in (f : Nat → Int32) : ∀ (N k : Nat), k < N → shI f N k = f (360 + k)
  | 0, k, h => absurd h (Nat.not_lt_zero _)
  | N + 1, k, h => by
    show upd (shI f N) N ((shI f N) (360 + N)) k = f (360 + k)
    by_cases c : k = N
    · subst c; rw [pk_us]; exact shI_out f k _ (by omega)
    · rw [pk_un c]; exact shI_in f N k (by omega)
/-- a drive and the reference's row -/
def RelD (f : Nat → Int32) (n : Nat) (d : Nat → Nat → Int32) : Prop := Rel f n d ∧ Dat f
theorem RelD.cong {f f' : Nat → Int32} {n : Nat} {d : Nat → Nat → Int32} (R : RelD f n d) (hf : ∀ k, k < 360 → f' k = f k) : RelD f' n d := ⟨R.1.cong hf (fun _ _ _ _ => rfl) (fun _ _ _ => rfl), R.2.cong (fun k _ h => hf k h)⟩
theorem RelD.cp {f : Nat → Int32} {n : Nat} {d : Nat → Nat → Int32} (R : RelD f n d) (z : Nat → Nat → Int32) : RelD f n (cpD d z) := ⟨R.1.cp z, R.2⟩
def fup {α : Type} (f : Nat → α) (k : Nat) (x : α) : Nat → α := fun q => if q = k then x else f q
theorem fup_s {α : Type} {f : Nat → α} {k : Nat} {x : α} : fup f k x k = x := if_pos rfl
theorem fup_n {α : Type} {f : Nat → α} {k j : Nat} {x : α} (h : j ≠ k) : fup f k x j = f j := if_neg h
/-- where the i-th kept state stands in the ring of rows -/
def HIx (sp kt i : Nat) : Nat := (sp + 7 - kt + i) % 7
def HR (fB : Nat → Int32) (hn : Nat → Nat) (hd : Nat → Nat → Nat → Int32) (sp kt : Nat) : Prop := ∀ i, i < kt → RelD (fun k => fB (360 * i + k)) (hn (HIx sp kt i)) (hd (HIx sp kt i))
def spN (sp : Nat) : Nat := if 6 ≤ (nI sp) then 0 else sp + 1
theorem spN_eq {sp : Nat} (h : sp < 7) : spN sp = (sp + 1) % 7 := by
  unfold spN
  by_cases c : 6 ≤ (nI sp)
  · have := (nI_leI (a := 6) (b := sp) (by omega) (by omega)).mp c
    rw [if_pos c]; omega
  · have : ¬ 6 ≤ sp := fun q => c (nI_le q (by omega))
    rw [if_neg c]; omega
theorem ktN_eq {kt : Nat} (h : kt ≤ 6) : (if 6 ≤ (nI kt) then kt else kt + 1) = knK kt := by
  unfold knK
  by_cases c : 6 ≤ (nI kt)
  · have := (nI_leI (a := 6) (b := kt) (by omega) (by omega)).mp c
    rw [if_pos c, if_neg (by omega)]; omega
  · have : ¬ 6 ≤ kt := fun q => c (nI_le q (by omega))
    rw [if_neg c, if_pos (by omega)]
theorem HR.keep {fB fS : Nat → Int32} {hn : Nat → Nat} {hd : Nat → Nat → Nat → Int32} {sp kt n : Nat} {d z : Nat → Nat → Int32} (h : HR fB hn hd sp kt) (hsp : sp < 7) (hkt : kt ≤ 6) (R : RelD fS n d) : HR (knB fB fS kt) (fup hn sp n) (fup hd sp (cpD d z)) (spN sp) (knK kt) := by
  rw [spN_eq hsp]
  unfold knB knK
  by_cases c : kt < 6
  · rw [if_pos c, if_pos c]
    intro i hi
    by_cases e : i = kt
    · have e2 : HIx ((sp + 1) % 7) (kt + 1) i = sp := by unfold HIx; omega
      rw [e2, fup_s, fup_s, e]
      exact (R.cp z).cong (fun k hk => cpA_in fB fS (360 * kt) 360 k hk)
    · have e2 : HIx ((sp + 1) % 7) (kt + 1) i = HIx sp kt i := by unfold HIx; omega
      have e3 : HIx sp kt i ≠ sp := by unfold HIx; omega
      rw [e2, fup_n e3, fup_n e3]
      exact (h i (by omega)).cong (fun k hk => cpA_out fB fS (360 * kt) 360 _ (by omega))
  · have k6 : kt = 6 := by omega
    subst k6
    rw [if_neg c, if_neg c]
    intro i hi
    by_cases e : i = 5
    · have e2 : HIx ((sp + 1) % 7) 6 i = sp := by unfold HIx; omega
      rw [e2, fup_s, fup_s, e]
      exact (R.cp z).cong (fun k hk => cpA_in (shI fB 1800) fS 1800 360 k hk)
    · have e2 : HIx ((sp + 1) % 7) 6 i = HIx sp 6 (i + 1) := by unfold HIx; omega
      have e3 : HIx sp 6 (i + 1) ≠ sp := by unfold HIx; omega
      rw [e2, fup_n e3, fup_n e3]
      refine (h (i + 1) (by omega)).cong (fun k hk => ?_)
      show cpA (shI fB 1800) fS 1800 360 (360 * i + k) = fB (360 * (i + 1) + k)
      rw [cpA_out _ _ _ _ _ (by omega), shI_in _ _ _ (by omega)]
      exact congrArg fB (by omega)
theorem pvS_eq {sp : Nat} (h : sp < 7) : pvS sp = (sp + 6) % 7 := by
  cases sp with
  | zero => rfl
  | succ q => show q = _; omega
theorem HR.back {fB fS : Nat → Int32} {hn : Nat → Nat} {hd : Nat → Nat → Nat → Int32} {sp kt : Nat} {z : Nat → Nat → Int32} (h : HR fB hn hd sp kt) (hsp : sp < 7) (hk1 : 1 ≤ kt) (hkt : kt ≤ 6) : HR fB hn hd (pvS sp) (kt - 1) ∧ RelD (cpB fS fB (360 * (kt - 1)) 360) (hn (pvS sp)) (cpD (hd (pvS sp)) z) := by
  have e := pvS_eq hsp
  constructor
  · intro i hi
    have e2 : HIx (pvS sp) (kt - 1) i = HIx sp kt i := by rw [e]; unfold HIx; omega
    rw [e2]
    exact h i (by omega)
  · have e2 : HIx sp kt (kt - 1) = pvS sp := by rw [e]; unfold HIx; omega
    have h1 := h (kt - 1) (by omega)
    rw [e2] at h1
    exact (h1.cp z).cong (fun k hk => cpB_in fS fB _ 360 k hk)
