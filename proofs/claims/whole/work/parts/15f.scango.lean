theorem scI0 {cS : Nat → Int32} {ln : Nat} : ∀ (f q p o : Nat) (V F E : Nat → Int32), scI2 cS ln f 0 q p o V F E = (0, q, p, o, V, F, E)
  | 0, _, _, _, _, _, _ => rfl
  | f + 1, q, p, o, V, F, E => by
    rw [scI2_s]
    split
    · rfl
    · rw [if_pos rfl]
theorem go00 {fP : Nat → Int32} {ln : Nat} : ∀ (f q p w : Nat) (e o t : Int32), goI fP ln f 0 q p w e o t = (0, q, p, w, e, o, t)
  | 0, _, _, _, _, _, _ => rfl
  | f + 1, q, p, w, e, o, t => by rw [goI_s, if_pos nI_0]
theorem gd00 {fP vS : Nat → Int32} {ln n : Nat} : ∀ (f m q p w : Nat) (e o t : Int32), gdI fP ln n f m 0 q p w e o t vS = (m, 0, q, p, w, e, o, t, vS)
  | 0, _, _, _, _, _, _, _ => rfl
  | f + 1, m, q, p, w, e, o, t => by rw [gdI_s, if_pos nI_0]
/-- orders carried out one after the other -/
def caG (n O : Nat) (V F E : Nat → Int32) : Nat → Nat → (Nat → Nat → Int32) → (Nat × (Nat → Nat → Int32))
  | 0, q, vd => (q, vd)
  | f + 1, q, vd => (if (nI O) ≤ (nI q) then (q, vd) else (if 40 ≤ (nI q) then (q, vd) else (if (r_X4_isError (r_X4_carryOutOrder n vd (V q) (F q) (E q))) = 0 then (caG n O V F E f (q + 1) (n_X4_carryOutOrder_1_d n vd (V q) (F q) (E q))) else (q, n_X4_carryOutOrder_1_d n vd (V q) (F q) (E q)))))
theorem caG_s (n O : Nat) (V F E : Nat → Int32) (f q : Nat) (vd : Nat → Nat → Int32) : caG n O V F E (f + 1) q vd = (if (nI O) ≤ (nI q) then (q, vd) else (if 40 ≤ (nI q) then (q, vd) else (if (r_X4_isError (r_X4_carryOutOrder n vd (V q) (F q) (E q))) = 0 then (caG n O V F E f (q + 1) (n_X4_carryOutOrder_1_d n vd (V q) (F q) (E q))) else (q, n_X4_carryOutOrder_1_d n vd (V q) (F q) (E q))))) := rfl
theorem caI_eq {n ln : Nat} {cS cV cF cE : Nat → Int32} : ∀ (f q : Nat) (vd : Nat → Nat → Int32), caI n cS cV cF cE ln f q vd = caG n (n_X2_scan_0_6 cS cV cF cE ln) (n_X2_scan_2 cS cV cF cE ln) (n_X2_scan_3 cS cV cF cE ln) (n_X2_scan_4 cS cV cF cE ln) f q vd
  | 0, _, _ => rfl
  | f + 1, q, vd => by
    rw [caI_s, caG_s]
    rw [caI_eq f (q + 1) _]
def VFp (v x : Int32) : Prop := v = 33 ∨ v = 120 → x = 0 ∨ x = 1
theorem OrdR.vf {L xf xs on tw : Int32} (h : OrdR L xf xs on tw) : VFp L xf := by
  intro q
  rcases h with ⟨h1, -⟩ | ⟨h1, -⟩ | ⟨h1, k, -⟩ | ⟨h1, k, -⟩ | h1
  · rw [h1] at q; exact absurd q (by decide)
  · rw [h1] at q; exact absurd q (by decide)
  · exact k
  · exact k
  · rw [h1] at q; exact absurd q (by decide)
/-- the scan of the class beside the going of the reference; and the orders beside the doing -/
theorem scan_go {fP cS : Nat → Int32} {ln : Nat} (h : PadR fP cS ln) : ∀ (f p q q2 : Nat) (V F E : Nat → Int32) (e1 o1 t1 : Int32) (c : Int32 × Nat × Nat × Nat × (Nat → Int32) × (Nat → Int32) × (Nat → Int32)) (g : Nat × Nat × Nat × Nat × Int32 × Int32 × Int32), q + f = 80 → 2 * q ≤ p → p ≤ 80 →
    scI2 cS ln f (r_X2_scanOrder cS ln p q) q (n_X2_scanOrder_0_2 cS ln p) (n_X2_scanOrder_0_6 cS ln p q) (n_X2_scanOrder_2 cS V ln p q) (n_X2_scanOrder_3 cS F ln p q) (n_X2_scanOrder_4 cS E ln p q) = c →
    goI fP ln (f + 2) 1 q2 p 0 e1 o1 t1 = g →
    ((c.1 = 0 ∧ g.2.2.2.1 = 1) ∨ (¬ c.1 = 0 ∧ g.2.2.2.1 = 0)) ∧ c.2.2.1 = g.2.2.1 ∧ c.2.2.1 ≤ 80 ∧ c.2.2.2.1 ≤ 40 ∧ ((∀ i, VFp (V i) (F i)) → ∀ i, VFp (c.2.2.2.2.1 i) (c.2.2.2.2.2.1 i)) ∧
    (¬ c.1 = 0 → q < c.2.2.2.1 ∧ (∀ i, i < q → c.2.2.2.2.1 i = V i ∧ c.2.2.2.2.2.1 i = F i ∧ c.2.2.2.2.2.2 i = E i) ∧
      ∀ (n m q3 : Nat) (vd : Nat → Nat → Int32) (vS : Nat → Int32) (e o t : Int32), RelD vS n vd →
        q ≤ (caG n c.2.2.2.1 c.2.2.2.2.1 c.2.2.2.2.2.1 c.2.2.2.2.2.2 (40 - q) q vd).1 ∧ (caG n c.2.2.2.1 c.2.2.2.2.1 c.2.2.2.2.2.1 c.2.2.2.2.2.2 (40 - q) q vd).1 ≤ 40 ∧
        (gdI fP ln n (f + 2) m 1 q3 p 0 e o t vS).1 = m + ((caG n c.2.2.2.1 c.2.2.2.2.1 c.2.2.2.2.2.1 c.2.2.2.2.2.2 (40 - q) q vd).1 - q) ∧
        RelD (gdI fP ln n (f + 2) m 1 q3 p 0 e o t vS).2.2.2.2.2.2.2.2 n (caG n c.2.2.2.1 c.2.2.2.2.1 c.2.2.2.2.2.1 c.2.2.2.2.2.2 (40 - q) q vd).2) := by
  have hln := h.1
  intro f
  induction f with
  | zero =>
    intro p q q2 V F E e1 o1 t1 c g hq hp hp2
    omega
  | succ f ih =>
    intro p q q2 V F E e1 o1 t1 c g hq hp hp2 hc hg
    have q80 : ¬ 80 ≤ (nI q) := nI_ge (b := 80) (by omega) (by decide)
    rw [scI2_s, if_neg q80] at hc
    rw [show f + 1 + 2 = (f + 2) + 1 from rfl, goI_s, if_neg n1_0] at hg
    rcases ord_eq (V := V) (F := F) (E := E) h hp2 hp with ⟨p', xf, xs, r1, r2, r3, r4, r5, r6, r7, r8, hO, l1, l2⟩ | ⟨r1, r2, r3, r4, r5, r6⟩
    · rw [r1, if_neg i10, r2, r3, r4, r5, r6] at hc
      rw [r8, if_pos nI_0, r7] at hg
      have vq : (∀ i, VFp (V i) (F i)) → ∀ i, VFp (upd V q (n_X5_order_0_10 fP ln p) i) (upd F q xf i) := fun hv i => by
        by_cases k : i = q
        · subst k; rw [pk_us, pk_us]; exact hO.vf
        · rw [pk_un k, pk_un k]; exact hv i
      -- one order carried out
      have one : ∀ (n : Nat) (O : Nat) (V' F' E' : Nat → Int32) (vd : Nat → Nat → Int32) (vS : Nat → Int32), V' q = (n_X5_order_0_10 fP ln p) → F' q = xf → E' q = xs → q < O → O ≤ 40 → RelD vS n vd →
          (caG n O V' F' E' (40 - q) q vd = caG n O V' F' E' (40 - (q + 1)) (q + 1) (n_X4_carryOutOrder_1_d n vd (n_X5_order_0_10 fP ln p) xf xs) ∧ ¬ r_X5_does vS (n_X5_order_0_10 fP ln p) (n_X5_order_0_11 fP ln p 0) (n_X5_order_0_12 fP ln p 0) n = 0 ∧ RelD (n_X5_does_1 vS (n_X5_order_0_10 fP ln p) (n_X5_order_0_11 fP ln p 0) (n_X5_order_0_12 fP ln p 0) n) n (n_X4_carryOutOrder_1_d n vd (n_X5_order_0_10 fP ln p) xf xs)) ∨
          (caG n O V' F' E' (40 - q) q vd = (q, n_X4_carryOutOrder_1_d n vd (n_X5_order_0_10 fP ln p) xf xs) ∧ r_X5_does vS (n_X5_order_0_10 fP ln p) (n_X5_order_0_11 fP ln p 0) (n_X5_order_0_12 fP ln p 0) n = 0 ∧ RelD (n_X5_does_1 vS (n_X5_order_0_10 fP ln p) (n_X5_order_0_11 fP ln p 0) (n_X5_order_0_12 fP ln p 0) n) n (n_X4_carryOutOrder_1_d n vd (n_X5_order_0_10 fP ln p) xf xs)) := by
        intro n O V' F' E' vd vS hV hF hE hO1 hO2 R
        rw [show 40 - q = (40 - (q + 1)) + 1 by omega, caG_s, if_neg (nI_ge hO1 (by omega)), if_neg (show ¬ 40 ≤ (nI q) from nI_ge (b := 40) (by omega) (by decide)), hV, hF, hE]
        rcases does_eq R hO with ⟨d1, d2, d3⟩ | ⟨d1, d2, d3⟩
        · left
          rw [if_pos d1]
          exact ⟨rfl, d2, d3⟩
        · right
          rw [if_neg d1]
          exact ⟨rfl, d2, d3⟩
      rcases Nat.lt_or_ge p' ln with y | y
      · have ny : ¬ (nI ln) ≤ (nI p') := nI_ge y (by omega)
        rw [if_neg ny] at hc hg
        rcases sig_eq h (p := p') (x := 59) (xc := 59) (by omega) (by decide) (by decide) rfl with ⟨s1, s2, s3, s4, s5⟩ | ⟨s1, s2, s3, s4⟩
        · -- a further order
          rw [s1, if_neg i10, s2] at hc
          rw [s4, if_pos nI_0, s3] at hg
          have hc2 : scI2 cS ln f (r_X2_scanOrder cS ln (p' + 1) (q + 1)) (q + 1) (n_X2_scanOrder_0_2 cS ln (p' + 1)) (n_X2_scanOrder_0_6 cS ln (p' + 1) (q + 1)) (n_X2_scanOrder_2 cS (upd V q (n_X5_order_0_10 fP ln p)) ln (p' + 1) (q + 1)) (n_X2_scanOrder_3 cS (upd F q xf) ln (p' + 1) (q + 1)) (n_X2_scanOrder_4 cS (upd E q xs) ln (p' + 1) (q + 1)) = c := by
            rcases ord_eq (V := V) (F := F) (E := E) h (p := p' + 1) (o := q + 1) (by omega) (by omega) with ⟨-, -, -, z, -⟩ | ⟨z, -⟩
            · rw [z, if_neg i10] at hc
              rw [z]; exact hc
            · rw [z, if_pos rfl] at hc
              rw [z]; exact hc
          obtain ⟨g1, g2, g3, g4, g5, g6⟩ := ih (p' + 1) (q + 1) (q2 + 1) (upd V q (n_X5_order_0_10 fP ln p)) (upd F q xf) (upd E q xs) _ _ _ c g (by omega) (by omega) (by omega) hc2 hg
          refine ⟨g1, g2, g3, g4, fun hv => g5 (vq hv), fun hne => ?_⟩
          obtain ⟨k1, k2, k3⟩ := g6 hne
          obtain ⟨a1, a2, a3⟩ := k2 q (by omega)
          rw [pk_us] at a1 a2 a3
          refine ⟨by omega, fun i hi => ?_, fun n m q3 vd vS e o t R => ?_⟩
          · obtain ⟨b1, b2, b3⟩ := k2 i (by omega)
            rw [pk_un (by omega)] at b1 b2 b3
            exact ⟨b1, b2, b3⟩
          · rw [show f + 1 + 2 = (f + 2) + 1 from rfl, gdI_s, if_neg n1_0]
            rcases one n c.2.2.2.1 c.2.2.2.2.1 c.2.2.2.2.2.1 c.2.2.2.2.2.2 vd vS a1 a2 a3 (by omega) g4 R with ⟨w1, w2, w3⟩ | ⟨w1, w2, w3⟩
            · rw [w1, if_neg w2, r8, if_pos nI_0, r7, if_neg ny, s4, if_pos nI_0, s3]
              obtain ⟨j1, j2, j3, j4⟩ := k3 n (m + 1) (q3 + 1) _ _ (n_X5_order_0_10 fP ln p) (n_X5_order_0_11 fP ln p 0) (n_X5_order_0_12 fP ln p 0) w3
              exact ⟨by omega, j2, by omega, j4⟩
            · rw [w1, if_pos w2, gd00]
              exact ⟨Nat.le_refl _, by show q ≤ 40; omega, by show m = m + (q - q); omega, w3⟩
        · -- no semicolon
          rw [s1, if_pos rfl, s2, scI0] at hc
          rw [s4, if_neg n1_0, s3, go00] at hg
          subst hc
          subst hg
          exact ⟨Or.inl ⟨rfl, rfl⟩, rfl, by show p' ≤ 80; omega, by show q + 1 ≤ 40; omega, vq, fun hne => absurd rfl hne⟩
      · have ny : (nI ln) ≤ (nI p') := nI_le y (by omega)
        rw [if_pos ny] at hc hg
        rw [go00] at hg
        subst hc
        subst hg
        refine ⟨Or.inr ⟨i10, rfl⟩, rfl, by show p' ≤ 80; omega, by show q + 1 ≤ 40; omega, vq, fun _ => ⟨Nat.lt_succ_self _, fun i hi => ⟨pk_un (by omega), pk_un (by omega), pk_un (by omega)⟩, fun n m q3 vd vS e o t R => ?_⟩⟩
        rw [show f + 1 + 2 = (f + 2) + 1 from rfl, gdI_s, if_neg n1_0]
        rcases one n (q + 1) (upd V q (n_X5_order_0_10 fP ln p)) (upd F q xf) (upd E q xs) vd vS pk_us pk_us pk_us (Nat.lt_succ_self _) (by omega) R with ⟨w1, w2, w3⟩ | ⟨w1, w2, w3⟩
        · have fin : caG n (q + 1) (upd V q (n_X5_order_0_10 fP ln p)) (upd F q xf) (upd E q xs) (40 - (q + 1)) (q + 1) (n_X4_carryOutOrder_1_d n vd (n_X5_order_0_10 fP ln p) xf xs) = (q + 1, n_X4_carryOutOrder_1_d n vd (n_X5_order_0_10 fP ln p) xf xs) := by
            rcases (show 40 - (q + 1) = 0 ∨ ∃ z, 40 - (q + 1) = z + 1 from (by cases (40 - (q + 1)) with | zero => exact Or.inl rfl | succ z => exact Or.inr ⟨z, rfl⟩)) with e0 | ⟨z, e0⟩
            · rw [e0]; rfl
            · rw [e0, caG_s, if_pos (Int32.le_refl _)]
          show q ≤ (caG n (q + 1) (upd V q (n_X5_order_0_10 fP ln p)) (upd F q xf) (upd E q xs) (40 - q) q vd).1 ∧ (caG n (q + 1) (upd V q (n_X5_order_0_10 fP ln p)) (upd F q xf) (upd E q xs) (40 - q) q vd).1 ≤ 40 ∧ _ = m + ((caG n (q + 1) (upd V q (n_X5_order_0_10 fP ln p)) (upd F q xf) (upd E q xs) (40 - q) q vd).1 - q) ∧ RelD _ n (caG n (q + 1) (upd V q (n_X5_order_0_10 fP ln p)) (upd F q xf) (upd E q xs) (40 - q) q vd).2
          rw [w1, fin, if_neg w2, r8, if_pos nI_0, r7, if_pos ny, gd00]
          exact ⟨by show q ≤ q + 1; omega, by show q + 1 ≤ 40; omega, by show m + 1 = m + (q + 1 - q); omega, w3⟩
        · show q ≤ (caG n (q + 1) (upd V q (n_X5_order_0_10 fP ln p)) (upd F q xf) (upd E q xs) (40 - q) q vd).1 ∧ (caG n (q + 1) (upd V q (n_X5_order_0_10 fP ln p)) (upd F q xf) (upd E q xs) (40 - q) q vd).1 ≤ 40 ∧ _ = m + ((caG n (q + 1) (upd V q (n_X5_order_0_10 fP ln p)) (upd F q xf) (upd E q xs) (40 - q) q vd).1 - q) ∧ RelD _ n (caG n (q + 1) (upd V q (n_X5_order_0_10 fP ln p)) (upd F q xf) (upd E q xs) (40 - q) q vd).2
          rw [w1, if_pos w2, gd00]
          exact ⟨Nat.le_refl _, by show q ≤ 40; omega, by show m = m + (q - q); omega, w3⟩
    · rw [r1, if_pos rfl, r4, r5, r6] at hc
      rw [r3, if_neg n1_0, go00] at hg
      have hp80 := so_po (cS := cS) (po := p) hln hp2
      subst hc
      subst hg
      exact ⟨Or.inl ⟨rfl, rfl⟩, r2, hp80, by show q ≤ 40; omega, fun hv => hv, fun hne => absurd rfl hne⟩
