theorem Met_mono {l : Launch} {y : MethodName} {ws : List Cond} {rm : Room} {Pc Pc2 : Array Value → State → Prop} {Qc Qc2 : Array Value → State → Outcome → State → Prop} {mc ms : Nat} {free free2 : Addr → Prop} (h : Met l y ws rm Pc Qc mc ms free) (hp : ∀ a s, Pc2 a s → Pc a s) (hq : ∀ a s o t, Pc2 a s → Qc a s o t → Qc2 a s o t) (hf : ∀ q, free q → free2 q) : Met l y ws rm Pc2 Qc2 mc ms free2 := by
  intro p e ha hc hk s m args below hfr happ hP hK
  obtain ⟨n, o, h1, h2, h3, hq0, L, hF, hL⟩ := h p e ha hc hk s m args below hfr happ (hp _ _ hP) hK
  exact ⟨n, o, h1, h2, h3, hq _ _ _ _ hP hq0, L, hF, fun q hq => hf _ (hL q hq)⟩
/-- a reader's contract over a wider world -/
theorem Met_wide {l : Launch} {y : MethodName} {ws : List Cond} {rm : Room} {av : List Value} {B B2 : State → Prop} {Qc : Array Value → State → Outcome → State → Prop} {mc ms : Nat} {free : Addr → Prop} (h : Met l y ws rm (va_Pc av B) Qc mc ms free) (hp : ∀ s, B2 s → B s) : Met l y ws rm (va_Pc av B2) Qc mc ms free :=
  Met_mono h (fun a s q => ⟨q.1, hp s q.2⟩) (fun _ _ _ _ _ q => q) (fun _ q => q)
abbrev DvT : Type := Nat → Nat → Int32
/-- the twelve cells of a drive: a: addresses, n: its size, d: contents (0 index, 1 to 4 the disk, 5 to 8 the mirror, 9 numbers) -/
def drW (K : Nat → ClassId) (a : Nat → Nat) (n : Nat) (d : Nat → Nat → Int32) : va_W := [((a 0), .inr (0, [.int (nI n), .ref (a 1), .ref (a 2), .ref (a 3), .int (d 9 3), .int (d 9 4), .int (d 9 5), .int (d 9 6), .int (d 9 7)])), ((a 1), .inl (K 0, 32, .inl (d 0))), ((a 2), .inr (3, [.ref (a 4), .ref (a 5), .ref (a 6), .ref (a 7), .int (d 9 1)])), ((a 3), .inr (3, [.ref (a 8), .ref (a 9), .ref (a 10), .ref (a 11), .int (d 9 2)])), ((a 4), .inl (K 0, 32, .inl (d 1))), ((a 5), .inl (K 0, 32, .inl (d 2))), ((a 6), .inl (K 0, 32, .inl (d 3))), ((a 7), .inl (K 0, 32, .inl (d 4))), ((a 8), .inl (K 0, 32, .inl (d 5))), ((a 9), .inl (K 0, 32, .inl (d 6))), ((a 10), .inl (K 0, 32, .inl (d 7))), ((a 11), .inl (K 0, 32, .inl (d 8)))]
theorem cb_X0_hasPlace_ok (l : Launch) (D : va_G) (K : Nat → ClassId) (a : Nat → Nat) (n : Nat) (d : Nat → Nat → Int32) (j : Nat) (hn1 : 1 ≤ n) (hn : n ≤ 32) (hj : j < n) : Met l yX0_hasPlace wsX0_hasPlace ({ frames := 0, cells := 0, slots := 0, locals := 0 }) (va_Pc [.ref (a 0), .int (nI j)] (fun U => Bd D K U ∧ va_P D vwCl (drW K a n d ++ []) U.heap)) (vp_Si (fun r => r = 1)) 0 0 (fun _ => False) := c_X0_hasPlace_ok l D K (a 0) (a 1) (a 2) (a 3) (a 4) (a 5) (a 6) (a 7) (a 8) (a 9) (a 10) (a 11) n (d 0) (d 1) (d 2) (d 3) (d 4) (d 9 1) (d 5) (d 6) (d 7) (d 8) (d 9 2) (d 9 3) (d 9 4) (d 9 5) (d 9 6) (d 9 7) j hn1 hn hj
theorem cb_X0_hasPlace_no (l : Launch) (D : va_G) (K : Nat → ClassId) (a : Nat → Nat) (n : Nat) (d : Nat → Nat → Int32) (xp : Int32) (hbad : xp < 0 ∨ nI n ≤ xp) : Met l yX0_hasPlace wsX0_hasPlace ({ frames := 0, cells := 0, slots := 0, locals := 0 }) (va_Pc [.ref (a 0), .int xp] (fun U => Bd D K U ∧ va_P D vwCl (drW K a n d ++ []) U.heap)) (vp_Si (fun r => r = 0)) 0 0 (fun _ => False) := c_X0_hasPlace_no l D K (a 0) (a 1) (a 2) (a 3) (a 4) (a 5) (a 6) (a 7) (a 8) (a 9) (a 10) (a 11) n (d 0) (d 1) (d 2) (d 3) (d 4) (d 9 1) (d 5) (d 6) (d 7) (d 8) (d 9 2) (d 9 3) (d 9 4) (d 9 5) (d 9 6) (d 9 7) xp hbad
theorem cb_X0_roundOf (l : Launch) (D : va_G) (K : Nat → ClassId) (a : Nat → Nat) (n : Nat) (d : Nat → Nat → Int32) (j : Nat) (hn1 : 1 ≤ n) (hn : n ≤ 32) (hj : j < n) : Met l yX0_roundOf wsX0_roundOf ({ frames := 1, cells := 0, slots := 0, locals := 21 }) (va_Pc [.ref (a 0), .int (nI j)] (fun U => Bd D K U ∧ va_P D vwCl (drW K a n d ++ []) U.heap)) (vp_Si (fun r => r = ((d 0) j))) 0 0 (fun _ => False) := c_X0_roundOf l D K (a 0) (a 1) (a 2) (a 3) (a 4) (a 5) (a 6) (a 7) (a 8) (a 9) (a 10) (a 11) n (d 0) (d 1) (d 2) (d 3) (d 4) (d 9 1) (d 5) (d 6) (d 7) (d 8) (d 9 2) (d 9 3) (d 9 4) (d 9 5) (d 9 6) (d 9 7) j hn1 hn hj
theorem cb_X0_isWritten (l : Launch) (D : va_G) (K : Nat → ClassId) (a : Nat → Nat) (n : Nat) (d : Nat → Nat → Int32) (j : Nat) (hn1 : 1 ≤ n) (hn : n ≤ 32) (hj : j < n) : Met l yX0_isWritten wsX0_isWritten ({ frames := 2, cells := 0, slots := 0, locals := 42 }) (va_Pc [.ref (a 0), .int (nI j)] (fun U => Bd D K U ∧ va_P D vwCl (drW K a n d ++ []) U.heap)) (vp_Si (fun r => r = (r_X0_isWritten (d 0) j))) 0 0 (fun _ => False) := c_X0_isWritten l D K (a 0) (a 1) (a 2) (a 3) (a 4) (a 5) (a 6) (a 7) (a 8) (a 9) (a 10) (a 11) n (d 0) (d 1) (d 2) (d 3) (d 4) (d 9 1) (d 5) (d 6) (d 7) (d 8) (d 9 2) (d 9 3) (d 9 4) (d 9 5) (d 9 6) (d 9 7) j hn1 hn hj
theorem cb_X0_sideOf_0 (l : Launch) (D : va_G) (K : Nat → ClassId) (a : Nat → Nat) (n : Nat) (d : Nat → Nat → Int32)  : Met l yX0_sideOf wsX0_sideOf ({ frames := 0, cells := 0, slots := 0, locals := 0 }) (va_Pc [.ref (a 0), .int 0] (fun U => Bd D K U ∧ va_P D vwCl (drW K a n d ++ []) U.heap)) (va_Sr (fun (_ : Nat) => True) (fun _ => .ref (a 2))) 0 0 (fun _ => False) := c_X0_sideOf_0 l D K (a 0) (a 1) (a 2) (a 3) (a 4) (a 5) (a 6) (a 7) (a 8) (a 9) (a 10) (a 11) n (d 0) (d 1) (d 2) (d 3) (d 4) (d 9 1) (d 5) (d 6) (d 7) (d 8) (d 9 2) (d 9 3) (d 9 4) (d 9 5) (d 9 6) (d 9 7) 
theorem cb_X0_sideOf_1 (l : Launch) (D : va_G) (K : Nat → ClassId) (a : Nat → Nat) (n : Nat) (d : Nat → Nat → Int32)  : Met l yX0_sideOf wsX0_sideOf ({ frames := 0, cells := 0, slots := 0, locals := 0 }) (va_Pc [.ref (a 0), .int 1] (fun U => Bd D K U ∧ va_P D vwCl (drW K a n d ++ []) U.heap)) (va_Sr (fun (_ : Nat) => True) (fun _ => .ref (a 3))) 0 0 (fun _ => False) := c_X0_sideOf_1 l D K (a 0) (a 1) (a 2) (a 3) (a 4) (a 5) (a 6) (a 7) (a 8) (a 9) (a 10) (a 11) n (d 0) (d 1) (d 2) (d 3) (d 4) (d 9 1) (d 5) (d 6) (d 7) (d 8) (d 9 2) (d 9 3) (d 9 4) (d 9 5) (d 9 6) (d 9 7) 
theorem cb_X0_setOf (l : Launch) (D : va_G) (K : Nat → ClassId) (a : Nat → Nat) (n : Nat) (d : Nat → Nat → Int32) (xw : Int32) (hn1 : 1 ≤ n) (hn : n ≤ 32) : Met l yX0_setOf wsX0_setOf ({ frames := 4, cells := 0, slots := 0, locals := 88 }) (va_Pc [.ref (a 0), .int xw] (fun U => Bd D K U ∧ va_P D vwCl (drW K a n d ++ []) U.heap)) (vp_Sl (fun r => r = (stS (d 0) (d 1) (d 2) (d 3) (d 4) (d 5) (d 6) (d 7) (d 8) xw n))) 0 0 (fun _ => False) := c_X0_setOf l D K (a 0) (a 1) (a 2) (a 3) (a 4) (a 5) (a 6) (a 7) (a 8) (a 9) (a 10) (a 11) n (d 0) (d 1) (d 2) (d 3) (d 4) (d 9 1) (d 5) (d 6) (d 7) (d 8) (d 9 2) (d 9 3) (d 9 4) (d 9 5) (d 9 6) (d 9 7) xw hn1 hn
theorem cb_X0_writtenPlaces (l : Launch) (D : va_G) (K : Nat → ClassId) (a : Nat → Nat) (n : Nat) (d : Nat → Nat → Int32) (hn1 : 1 ≤ n) (hn : n ≤ 32) : Met l yX0_writtenPlaces wsX0_writtenPlaces ({ frames := 5, cells := 0, slots := 0, locals := 112 }) (va_Pc [.ref (a 0)] (fun U => Bd D K U ∧ va_P D vwCl (drW K a n d ++ []) U.heap)) (vp_Si (fun r => r = (bcF (stS (d 0) (d 1) (d 2) (d 3) (d 4) (d 5) (d 6) (d 7) (d 8) 0 n)))) 0 0 (fun _ => False) := c_X0_writtenPlaces l D K (a 0) (a 1) (a 2) (a 3) (a 4) (a 5) (a 6) (a 7) (a 8) (a 9) (a 10) (a 11) n (d 0) (d 1) (d 2) (d 3) (d 4) (d 9 1) (d 5) (d 6) (d 7) (d 8) (d 9 2) (d 9 3) (d 9 4) (d 9 5) (d 9 6) (d 9 7) hn1 hn
def D_X0_store_in (n : Nat) (d : Nat → Nat → Int32) (j : Nat) (xd : Int32) : Nat → Nat → Int32
  | 0 => (n_X0_store_in_1 (d 0) j xd)
  | 1 => (n_X0_store_in_4 n (d 0) (d 1) (d 9 1) j xd)
  | 2 => (n_X0_store_in_5 n (d 0) (d 2) (d 9 1) j xd)
  | 3 => (n_X0_store_in_6 n (d 0) (d 3) (d 9 1) j xd)
  | 4 => (n_X0_store_in_7 n (d 0) (d 4) (d 9 1) j xd)
  | 5 => (n_X0_store_in_8 n (d 0) (d 5) (d 9 2) j xd)
  | 6 => (n_X0_store_in_9 n (d 0) (d 6) (d 9 2) j xd)
  | 7 => (n_X0_store_in_10 n (d 0) (d 7) (d 9 2) j xd)
  | 8 => (n_X0_store_in_11 n (d 0) (d 8) (d 9 2) j xd)
  | 9 => fun i => match i with
    | 1 => (n_X0_store_in_2_4 (d 0) (d 9 1) j xd)
    | 2 => (n_X0_store_in_3_4 (d 0) (d 9 2) j xd)
    | 3 => (n_X0_store_in_0_4 (d 0) (d 9 3) j xd)
    | 4 => (d 9 4)
    | 5 => (d 9 5)
    | 6 => (d 9 6)
    | 7 => (d 9 7)
    | i => d 9 i
  | c => d c
theorem cb_X0_store_in (l : Launch) (D : va_G) (K : Nat → ClassId) (a : Nat → Nat) (n : Nat) (d : Nat → Nat → Int32) (j : Nat) (xd : Int32) (hn1 : 1 ≤ n) (hn : n ≤ 32) (hj : j < n) : Met l yX0_store wsX0_store ({ frames := 2, cells := 0, slots := 0, locals := 51 }) (va_Pc [.ref (a 0), .int (nI j), .int xd] (fun U => Bd D K U ∧ va_P D vwCl (drW K a n d ++ []) U.heap ∧ va_D (fun _ => True) (drW K a n d ++ []))) (va_Qi (fun r (_ : Unit) => r = (r_X0_store_in (d 0) j xd)) (fun _ t => va_P D vwCl (drW K a n (D_X0_store_in n d j xd) ++ []) t.heap) (inW (drW K a n d ++ []))) 0 0 (inW (drW K a n d ++ [])) := c_X0_store_in l D K (a 0) (a 1) (a 2) (a 3) (a 4) (a 5) (a 6) (a 7) (a 8) (a 9) (a 10) (a 11) n (d 0) (d 1) (d 2) (d 3) (d 4) (d 9 1) (d 5) (d 6) (d 7) (d 8) (d 9 2) (d 9 3) (d 9 4) (d 9 5) (d 9 6) (d 9 7) j xd hn1 hn hj
theorem cb_X0_store_no (l : Launch) (D : va_G) (K : Nat → ClassId) (a : Nat → Nat) (n : Nat) (d : Nat → Nat → Int32) (xp : Int32) (xd : Int32) (hbad : xp < 0 ∨ nI n ≤ xp) : Met l yX0_store wsX0_store ({ frames := 1, cells := 0, slots := 0, locals := 21 }) (va_Pc [.ref (a 0), .int xp, .int xd] (fun U => Bd D K U ∧ va_P D vwCl (drW K a n d ++ []) U.heap ∧ va_D (fun _ => True) (drW K a n d ++ []))) (va_Qi (fun r (_ : Unit) => r = (-1)) (fun _ t => va_P D vwCl (drW K a n d ++ []) t.heap) (inW (drW K a n d ++ []))) 0 0 (inW (drW K a n d ++ [])) := c_X0_store_no l D K (a 0) (a 1) (a 2) (a 3) (a 4) (a 5) (a 6) (a 7) (a 8) (a 9) (a 10) (a 11) n (d 0) (d 1) (d 2) (d 3) (d 4) (d 9 1) (d 5) (d 6) (d 7) (d 8) (d 9 2) (d 9 3) (d 9 4) (d 9 5) (d 9 6) (d 9 7) xp xd hbad
def D_X0_expect_0 (n : Nat) (d : Nat → Nat → Int32) (xk : Int32) : Nat → Nat → Int32
  | 0 => (d 0)
  | 1 => (d 1)
  | 2 => (d 2)
  | 3 => (d 3)
  | 4 => (d 4)
  | 5 => (d 5)
  | 6 => (d 6)
  | 7 => (d 7)
  | 8 => (d 8)
  | 9 => fun i => match i with
    | 1 => (n_X0_expect_0_2_4 (d 9 1) xk)
    | 2 => (d 9 2)
    | 3 => (d 9 3)
    | 4 => (d 9 4)
    | 5 => (d 9 5)
    | 6 => (d 9 6)
    | 7 => (d 9 7)
    | i => d 9 i
  | c => d c
theorem cb_X0_expect_0 (l : Launch) (D : va_G) (K : Nat → ClassId) (a : Nat → Nat) (n : Nat) (d : Nat → Nat → Int32) (xk : Int32)  : Met l yX0_expect wsX0_expect ({ frames := 1, cells := 0, slots := 0, locals := 21 }) (va_Pc [.ref (a 0), .int 0, .int xk] (fun U => Bd D K U ∧ va_P D vwCl (drW K a n d ++ []) U.heap ∧ va_D (fun _ => True) (drW K a n d ++ []))) (va_Qi (fun r (_ : Unit) => r = (r_X0_expect_0 (d 9 1) xk)) (fun _ t => va_P D vwCl (drW K a n (D_X0_expect_0 n d xk) ++ []) t.heap) (inW (drW K a n d ++ []))) 0 0 (inW (drW K a n d ++ [])) := c_X0_expect_0 l D K (a 0) (a 1) (a 2) (a 3) (a 4) (a 5) (a 6) (a 7) (a 8) (a 9) (a 10) (a 11) n (d 0) (d 1) (d 2) (d 3) (d 4) (d 9 1) (d 5) (d 6) (d 7) (d 8) (d 9 2) (d 9 3) (d 9 4) (d 9 5) (d 9 6) (d 9 7) xk 
def D_X0_expect_1 (n : Nat) (d : Nat → Nat → Int32) (xk : Int32) : Nat → Nat → Int32
  | 0 => (d 0)
  | 1 => (d 1)
  | 2 => (d 2)
  | 3 => (d 3)
  | 4 => (d 4)
  | 5 => (d 5)
  | 6 => (d 6)
  | 7 => (d 7)
  | 8 => (d 8)
  | 9 => fun i => match i with
    | 1 => (d 9 1)
    | 2 => (n_X0_expect_1_3_4 (d 9 2) xk)
    | 3 => (d 9 3)
    | 4 => (d 9 4)
    | 5 => (d 9 5)
    | 6 => (d 9 6)
    | 7 => (d 9 7)
    | i => d 9 i
  | c => d c
theorem cb_X0_expect_1 (l : Launch) (D : va_G) (K : Nat → ClassId) (a : Nat → Nat) (n : Nat) (d : Nat → Nat → Int32) (xk : Int32)  : Met l yX0_expect wsX0_expect ({ frames := 1, cells := 0, slots := 0, locals := 21 }) (va_Pc [.ref (a 0), .int 1, .int xk] (fun U => Bd D K U ∧ va_P D vwCl (drW K a n d ++ []) U.heap ∧ va_D (fun _ => True) (drW K a n d ++ []))) (va_Qi (fun r (_ : Unit) => r = (r_X0_expect_1 (d 9 2) xk)) (fun _ t => va_P D vwCl (drW K a n (D_X0_expect_1 n d xk) ++ []) t.heap) (inW (drW K a n d ++ []))) 0 0 (inW (drW K a n d ++ [])) := c_X0_expect_1 l D K (a 0) (a 1) (a 2) (a 3) (a 4) (a 5) (a 6) (a 7) (a 8) (a 9) (a 10) (a 11) n (d 0) (d 1) (d 2) (d 3) (d 4) (d 9 1) (d 5) (d 6) (d 7) (d 8) (d 9 2) (d 9 3) (d 9 4) (d 9 5) (d 9 6) (d 9 7) xk 
theorem cb_X0_expect_no (l : Launch) (D : va_G) (K : Nat → ClassId) (a : Nat → Nat) (n : Nat) (d : Nat → Nat → Int32) (xs : Int32) (xk : Int32) (hs0 : ¬ xs = 0) (hs1 : ¬ xs = 1) : Met l yX0_expect wsX0_expect ({ frames := 1, cells := 0, slots := 0, locals := 20 }) (va_Pc [.ref (a 0), .int xs, .int xk] (fun U => Bd D K U ∧ va_P D vwCl (drW K a n d ++ []) U.heap ∧ va_D (fun _ => True) (drW K a n d ++ []))) (va_Qi (fun r (_ : Unit) => r = (-1)) (fun _ t => va_P D vwCl (drW K a n d ++ []) t.heap) (inW (drW K a n d ++ []))) 0 0 (inW (drW K a n d ++ [])) := c_X0_expect_no l D K (a 0) (a 1) (a 2) (a 3) (a 4) (a 5) (a 6) (a 7) (a 8) (a 9) (a 10) (a 11) n (d 0) (d 1) (d 2) (d 3) (d 4) (d 9 1) (d 5) (d 6) (d 7) (d 8) (d 9 2) (d 9 3) (d 9 4) (d 9 5) (d 9 6) (d 9 7) xs xk hs0 hs1
def D_X0_empty_0 (n : Nat) (d : Nat → Nat → Int32) (j : Nat) : Nat → Nat → Int32
  | 0 => (d 0)
  | 1 => (d 1)
  | 2 => (n_X3_take_2 (d 2) j)
  | 3 => (d 3)
  | 4 => (d 4)
  | 5 => (d 5)
  | 6 => (d 6)
  | 7 => (d 7)
  | 8 => (d 8)
  | 9 => fun i => match i with
    | 1 => (d 9 1)
    | 2 => (d 9 2)
    | 3 => (d 9 3)
    | 4 => (d 9 4)
    | 5 => (d 9 5)
    | 6 => (d 9 6)
    | 7 => (d 9 7)
    | i => d 9 i
  | c => d c
theorem cb_X0_empty_0 (l : Launch) (D : va_G) (K : Nat → ClassId) (a : Nat → Nat) (n : Nat) (d : Nat → Nat → Int32) (j : Nat) (hn1 : 1 ≤ n) (hn : n ≤ 32) (hj : j < n) : Met l yX0_empty wsX0_empty ({ frames := 2, cells := 0, slots := 0, locals := 42 }) (va_Pc [.ref (a 0), .int 0, .int (nI j)] (fun U => Bd D K U ∧ va_P D vwCl (drW K a n d ++ []) U.heap ∧ va_D (fun _ => True) (drW K a n d ++ []))) (va_Qi (fun r (_ : Unit) => r = (r_X3_take (d 2) j)) (fun _ t => va_P D vwCl (drW K a n (D_X0_empty_0 n d j) ++ []) t.heap) (inW (drW K a n d ++ []))) 0 0 (inW (drW K a n d ++ [])) := c_X0_empty_0 l D K (a 0) (a 1) (a 2) (a 3) (a 4) (a 5) (a 6) (a 7) (a 8) (a 9) (a 10) (a 11) n (d 0) (d 1) (d 2) (d 3) (d 4) (d 9 1) (d 5) (d 6) (d 7) (d 8) (d 9 2) (d 9 3) (d 9 4) (d 9 5) (d 9 6) (d 9 7) j hn1 hn hj
def D_X0_empty_1 (n : Nat) (d : Nat → Nat → Int32) (j : Nat) : Nat → Nat → Int32
  | 0 => (d 0)
  | 1 => (d 1)
  | 2 => (d 2)
  | 3 => (d 3)
  | 4 => (d 4)
  | 5 => (d 5)
  | 6 => (n_X3_take_2 (d 6) j)
  | 7 => (d 7)
  | 8 => (d 8)
  | 9 => fun i => match i with
    | 1 => (d 9 1)
    | 2 => (d 9 2)
    | 3 => (d 9 3)
    | 4 => (d 9 4)
    | 5 => (d 9 5)
    | 6 => (d 9 6)
    | 7 => (d 9 7)
    | i => d 9 i
  | c => d c
theorem cb_X0_empty_1 (l : Launch) (D : va_G) (K : Nat → ClassId) (a : Nat → Nat) (n : Nat) (d : Nat → Nat → Int32) (j : Nat) (hn1 : 1 ≤ n) (hn : n ≤ 32) (hj : j < n) : Met l yX0_empty wsX0_empty ({ frames := 2, cells := 0, slots := 0, locals := 42 }) (va_Pc [.ref (a 0), .int 1, .int (nI j)] (fun U => Bd D K U ∧ va_P D vwCl (drW K a n d ++ []) U.heap ∧ va_D (fun _ => True) (drW K a n d ++ []))) (va_Qi (fun r (_ : Unit) => r = (r_X3_take (d 6) j)) (fun _ t => va_P D vwCl (drW K a n (D_X0_empty_1 n d j) ++ []) t.heap) (inW (drW K a n d ++ []))) 0 0 (inW (drW K a n d ++ [])) := c_X0_empty_1 l D K (a 0) (a 1) (a 2) (a 3) (a 4) (a 5) (a 6) (a 7) (a 8) (a 9) (a 10) (a 11) n (d 0) (d 1) (d 2) (d 3) (d 4) (d 9 1) (d 5) (d 6) (d 7) (d 8) (d 9 2) (d 9 3) (d 9 4) (d 9 5) (d 9 6) (d 9 7) j hn1 hn hj
theorem cb_X0_empty_0n (l : Launch) (D : va_G) (K : Nat → ClassId) (a : Nat → Nat) (n : Nat) (d : Nat → Nat → Int32) (xp : Int32) (hbad : xp < 0 ∨ nI n ≤ xp) : Met l yX0_empty wsX0_empty ({ frames := 1, cells := 0, slots := 0, locals := 21 }) (va_Pc [.ref (a 0), .int 0, .int xp] (fun U => Bd D K U ∧ va_P D vwCl (drW K a n d ++ []) U.heap ∧ va_D (fun _ => True) (drW K a n d ++ []))) (va_Qi (fun r (_ : Unit) => r = (-1)) (fun _ t => va_P D vwCl (drW K a n d ++ []) t.heap) (inW (drW K a n d ++ []))) 0 0 (inW (drW K a n d ++ [])) := c_X0_empty_0n l D K (a 0) (a 1) (a 2) (a 3) (a 4) (a 5) (a 6) (a 7) (a 8) (a 9) (a 10) (a 11) n (d 0) (d 1) (d 2) (d 3) (d 4) (d 9 1) (d 5) (d 6) (d 7) (d 8) (d 9 2) (d 9 3) (d 9 4) (d 9 5) (d 9 6) (d 9 7) xp hbad
theorem cb_X0_empty_1n (l : Launch) (D : va_G) (K : Nat → ClassId) (a : Nat → Nat) (n : Nat) (d : Nat → Nat → Int32) (xp : Int32) (hbad : xp < 0 ∨ nI n ≤ xp) : Met l yX0_empty wsX0_empty ({ frames := 1, cells := 0, slots := 0, locals := 21 }) (va_Pc [.ref (a 0), .int 1, .int xp] (fun U => Bd D K U ∧ va_P D vwCl (drW K a n d ++ []) U.heap ∧ va_D (fun _ => True) (drW K a n d ++ []))) (va_Qi (fun r (_ : Unit) => r = (-1)) (fun _ t => va_P D vwCl (drW K a n d ++ []) t.heap) (inW (drW K a n d ++ []))) 0 0 (inW (drW K a n d ++ [])) := c_X0_empty_1n l D K (a 0) (a 1) (a 2) (a 3) (a 4) (a 5) (a 6) (a 7) (a 8) (a 9) (a 10) (a 11) n (d 0) (d 1) (d 2) (d 3) (d 4) (d 9 1) (d 5) (d 6) (d 7) (d 8) (d 9 2) (d 9 3) (d 9 4) (d 9 5) (d 9 6) (d 9 7) xp hbad
theorem cb_X0_empty_no (l : Launch) (D : va_G) (K : Nat → ClassId) (a : Nat → Nat) (n : Nat) (d : Nat → Nat → Int32) (xs : Int32) (xp : Int32) (hs0 : ¬ xs = 0) (hs1 : ¬ xs = 1) : Met l yX0_empty wsX0_empty ({ frames := 1, cells := 0, slots := 0, locals := 20 }) (va_Pc [.ref (a 0), .int xs, .int xp] (fun U => Bd D K U ∧ va_P D vwCl (drW K a n d ++ []) U.heap ∧ va_D (fun _ => True) (drW K a n d ++ []))) (va_Qi (fun r (_ : Unit) => r = (-1)) (fun _ t => va_P D vwCl (drW K a n d ++ []) t.heap) (inW (drW K a n d ++ []))) 0 0 (inW (drW K a n d ++ [])) := c_X0_empty_no l D K (a 0) (a 1) (a 2) (a 3) (a 4) (a 5) (a 6) (a 7) (a 8) (a 9) (a 10) (a 11) n (d 0) (d 1) (d 2) (d 3) (d 4) (d 9 1) (d 5) (d 6) (d 7) (d 8) (d 9 2) (d 9 3) (d 9 4) (d 9 5) (d 9 6) (d 9 7) xs xp hs0 hs1
def D_X0_fetch_in (n : Nat) (d : Nat → Nat → Int32) (j : Nat) : Nat → Nat → Int32
  | 0 => (d 0)
  | 1 => (d 1)
  | 2 => (d 2)
  | 3 => (d 3)
  | 4 => (d 4)
  | 5 => (d 5)
  | 6 => (d 6)
  | 7 => (d 7)
  | 8 => (d 8)
  | 9 => fun i => match i with
    | 1 => (d 9 1)
    | 2 => (d 9 2)
    | 3 => (d 9 3)
    | 4 => ((d 9 4) + 1)
    | 5 => (n_X0_fetch_in_0_6 (d 0) (d 1) (d 2) (d 3) (d 4) (d 9 5) j)
    | 6 => (n_X0_fetch_in_0_7 (d 0) (d 1) (d 2) (d 3) (d 4) (d 5) (d 6) (d 7) (d 8) (d 9 6) j)
    | 7 => (d 9 7)
    | i => d 9 i
  | c => d c
theorem cb_X0_fetch_in (l : Launch) (D : va_G) (K : Nat → ClassId) (a : Nat → Nat) (n : Nat) (d : Nat → Nat → Int32) (j : Nat) (hn1 : 1 ≤ n) (hn : n ≤ 32) (hj : j < n) : Met l yX0_fetch wsX0_fetch ({ frames := 3, cells := 0, slots := 0, locals := 66 }) (va_Pc [.ref (a 0), .int (nI j)] (fun U => Bd D K U ∧ va_P D vwCl (drW K a n d ++ []) U.heap ∧ va_D (fun _ => True) (drW K a n d ++ []))) (va_Qi (fun r (_ : Unit) => r = (r_X0_fetch_in (d 0) (d 1) (d 2) (d 3) (d 4) (d 5) (d 6) (d 7) (d 8) j)) (fun _ t => va_P D vwCl (drW K a n (D_X0_fetch_in n d j) ++ []) t.heap) (inW (drW K a n d ++ []))) 0 0 (inW (drW K a n d ++ [])) := c_X0_fetch_in l D K (a 0) (a 1) (a 2) (a 3) (a 4) (a 5) (a 6) (a 7) (a 8) (a 9) (a 10) (a 11) n (d 0) (d 1) (d 2) (d 3) (d 4) (d 9 1) (d 5) (d 6) (d 7) (d 8) (d 9 2) (d 9 3) (d 9 4) (d 9 5) (d 9 6) (d 9 7) j hn1 hn hj
theorem cb_X0_fetch_no (l : Launch) (D : va_G) (K : Nat → ClassId) (a : Nat → Nat) (n : Nat) (d : Nat → Nat → Int32) (xp : Int32) (hbad : xp < 0 ∨ nI n ≤ xp) : Met l yX0_fetch wsX0_fetch ({ frames := 1, cells := 0, slots := 0, locals := 21 }) (va_Pc [.ref (a 0), .int xp] (fun U => Bd D K U ∧ va_P D vwCl (drW K a n d ++ []) U.heap ∧ va_D (fun _ => True) (drW K a n d ++ []))) (va_Qi (fun r (_ : Unit) => r = (-1)) (fun _ t => va_P D vwCl (drW K a n d ++ []) t.heap) (inW (drW K a n d ++ []))) 0 0 (inW (drW K a n d ++ [])) := c_X0_fetch_no l D K (a 0) (a 1) (a 2) (a 3) (a 4) (a 5) (a 6) (a 7) (a 8) (a 9) (a 10) (a 11) n (d 0) (d 1) (d 2) (d 3) (d 4) (d 9 1) (d 5) (d 6) (d 7) (d 8) (d 9 2) (d 9 3) (d 9 4) (d 9 5) (d 9 6) (d 9 7) xp hbad
def D_X0_repair_in (n : Nat) (d : Nat → Nat → Int32) (j : Nat) : Nat → Nat → Int32
  | 0 => (d 0)
  | 1 => (n_X0_repair_in_4 (d 0) (d 1) (d 2) (d 3) (d 4) (d 5) (d 6) (d 7) (d 8) j)
  | 2 => (n_X0_repair_in_5 (d 0) (d 1) (d 2) (d 3) (d 4) (d 5) (d 6) (d 7) (d 8) j)
  | 3 => (n_X0_repair_in_6 (d 0) (d 1) (d 2) (d 3) (d 4) (d 5) (d 6) (d 7) (d 8) j)
  | 4 => (n_X0_repair_in_7 (d 0) (d 1) (d 2) (d 3) (d 4) (d 5) (d 6) (d 7) (d 8) j)
  | 5 => (n_X0_repair_in_8 (d 0) (d 1) (d 2) (d 3) (d 4) (d 5) (d 6) (d 7) (d 8) j)
  | 6 => (n_X0_repair_in_9 (d 0) (d 1) (d 2) (d 3) (d 4) (d 5) (d 6) (d 7) (d 8) j)
  | 7 => (n_X0_repair_in_10 (d 0) (d 1) (d 2) (d 3) (d 4) (d 5) (d 6) (d 7) (d 8) j)
  | 8 => (n_X0_repair_in_11 (d 0) (d 1) (d 2) (d 3) (d 4) (d 5) (d 6) (d 7) (d 8) j)
  | 9 => fun i => match i with
    | 1 => (d 9 1)
    | 2 => (d 9 2)
    | 3 => (d 9 3)
    | 4 => (d 9 4)
    | 5 => (d 9 5)
    | 6 => (d 9 6)
    | 7 => (n_X0_repair_in_0_8 (d 0) (d 1) (d 2) (d 3) (d 4) (d 5) (d 6) (d 7) (d 8) (d 9 7) j)
    | i => d 9 i
  | c => d c
theorem cb_X0_repair_in (l : Launch) (D : va_G) (K : Nat → ClassId) (a : Nat → Nat) (n : Nat) (d : Nat → Nat → Int32) (j : Nat) (hn1 : 1 ≤ n) (hn : n ≤ 32) (hj : j < n) : Met l yX0_repair wsX0_repair ({ frames := 3, cells := 0, slots := 0, locals := 66 }) (va_Pc [.ref (a 0), .int (nI j)] (fun U => Bd D K U ∧ va_P D vwCl (drW K a n d ++ []) U.heap ∧ va_D (fun _ => True) (drW K a n d ++ []))) (va_Qi (fun r (_ : Unit) => r = (r_X0_repair_in (d 0) (d 1) (d 2) (d 3) (d 4) (d 5) (d 6) (d 7) (d 8) j)) (fun _ t => va_P D vwCl (drW K a n (D_X0_repair_in n d j) ++ []) t.heap) (inW (drW K a n d ++ []))) 0 0 (inW (drW K a n d ++ [])) := c_X0_repair_in l D K (a 0) (a 1) (a 2) (a 3) (a 4) (a 5) (a 6) (a 7) (a 8) (a 9) (a 10) (a 11) n (d 0) (d 1) (d 2) (d 3) (d 4) (d 9 1) (d 5) (d 6) (d 7) (d 8) (d 9 2) (d 9 3) (d 9 4) (d 9 5) (d 9 6) (d 9 7) j hn1 hn hj
theorem cb_X0_repair_no (l : Launch) (D : va_G) (K : Nat → ClassId) (a : Nat → Nat) (n : Nat) (d : Nat → Nat → Int32) (xp : Int32) (hbad : xp < 0 ∨ nI n ≤ xp) : Met l yX0_repair wsX0_repair ({ frames := 1, cells := 0, slots := 0, locals := 21 }) (va_Pc [.ref (a 0), .int xp] (fun U => Bd D K U ∧ va_P D vwCl (drW K a n d ++ []) U.heap ∧ va_D (fun _ => True) (drW K a n d ++ []))) (va_Qi (fun r (_ : Unit) => r = (-1)) (fun _ t => va_P D vwCl (drW K a n d ++ []) t.heap) (inW (drW K a n d ++ []))) 0 0 (inW (drW K a n d ++ [])) := c_X0_repair_no l D K (a 0) (a 1) (a 2) (a 3) (a 4) (a 5) (a 6) (a 7) (a 8) (a 9) (a 10) (a 11) n (d 0) (d 1) (d 2) (d 3) (d 4) (d 9 1) (d 5) (d 6) (d 7) (d 8) (d 9 2) (d 9 3) (d 9 4) (d 9 5) (d 9 6) (d 9 7) xp hbad
def D_X0_startAnew_in (n : Nat) (d : Nat → Nat → Int32) (k : Nat) : Nat → Nat → Int32
  | 0 => (fillF (d 0) 0 32)
  | 1 => (d 1)
  | 2 => (fillF (d 2) 0 32)
  | 3 => (d 3)
  | 4 => (d 4)
  | 5 => (d 5)
  | 6 => (fillF (d 6) 0 32)
  | 7 => (d 7)
  | 8 => (d 8)
  | 9 => fun i => match i with
    | 1 => 0
    | 2 => 0
    | 3 => 0
    | 4 => 0
    | 5 => 0
    | 6 => 0
    | 7 => 0
    | i => d 9 i
  | c => d c
theorem cb_X0_startAnew_in (l : Launch) (D : va_G) (K : Nat → ClassId) (a : Nat → Nat) (n : Nat) (d : Nat → Nat → Int32) (k : Nat) (hk1 : 1 ≤ k) (hk : k ≤ 32) : Met l yX0_startAnew wsX0_startAnew ({ frames := 2, cells := 0, slots := 0, locals := 43 }) (va_Pc [.ref (a 0), .int (nI k)] (fun U => Bd D K U ∧ va_P D vwCl (drW K a n d ++ []) U.heap ∧ va_D (fun _ => True) (drW K a n d ++ []))) (va_Qi (fun r (_ : Unit) => r = (nI n)) (fun _ t => va_P D vwCl (drW K a k (D_X0_startAnew_in n d k) ++ []) t.heap) (inW (drW K a n d ++ []))) 0 0 (inW (drW K a n d ++ [])) := c_X0_startAnew_in l D K (a 0) (a 1) (a 2) (a 3) (a 4) (a 5) (a 6) (a 7) (a 8) (a 9) (a 10) (a 11) n (d 0) (d 1) (d 2) (d 3) (d 4) (d 9 1) (d 5) (d 6) (d 7) (d 8) (d 9 2) (d 9 3) (d 9 4) (d 9 5) (d 9 6) (d 9 7) k hk1 hk
theorem cb_X0_startAnew_no (l : Launch) (D : va_G) (K : Nat → ClassId) (a : Nat → Nat) (n : Nat) (d : Nat → Nat → Int32) (xz : Int32) (hbad : xz < 1 ∨ 32 < xz) : Met l yX0_startAnew wsX0_startAnew ({ frames := 0, cells := 0, slots := 0, locals := 0 }) (va_Pc [.ref (a 0), .int xz] (fun U => Bd D K U ∧ va_P D vwCl (drW K a n d ++ []) U.heap ∧ va_D (fun _ => True) (drW K a n d ++ []))) (va_Qi (fun r (_ : Unit) => r = (-2)) (fun _ t => va_P D vwCl (drW K a n d ++ []) t.heap) (inW (drW K a n d ++ []))) 0 0 (inW (drW K a n d ++ [])) := c_X0_startAnew_no l D K (a 0) (a 1) (a 2) (a 3) (a 4) (a 5) (a 6) (a 7) (a 8) (a 9) (a 10) (a 11) n (d 0) (d 1) (d 2) (d 3) (d 4) (d 9 1) (d 5) (d 6) (d 7) (d 8) (d 9 2) (d 9 3) (d 9 4) (d 9 5) (d 9 6) (d 9 7) xz hbad
theorem cb_X0_repairAll (l : Launch) (D : va_G) (K : Nat → ClassId) (a : Nat → Nat) (n : Nat) (d : Nat → Nat → Int32) (hn1 : 1 ≤ n) (hn : n ≤ 32) : Met l yX0_repairAll wsX0_repairAll ({ frames := 4, cells := 0, slots := 0, locals := 88 }) (va_Pc [.ref (a 0)] (fun U => Bd D K U ∧ va_P D vwCl (drW K a n d ++ []) U.heap ∧ va_D (fun _ => True) (drW K a n d ++ []))) (va_Qi (fun r (_ : Unit) => r = (((repN d n) 9 7) - (d 9 7))) (fun _ t => va_P D vwCl (drW K a n (repN d n) ++ []) t.heap) (inW (drW K a n d ++ []))) 0 0 (inW (drW K a n d ++ [])) := c_X0_repairAll l D K a n d hn1 hn
def cpD (d z : Nat → Nat → Int32) : Nat → Nat → Int32
  | 9 => d 9
  | c => va_cpy (d c) (z c) 0 0 32
theorem cb_X0_copyFrom (l : Launch) (D : va_G) (K : Nat → ClassId) (z : Nat → Nat) (zn : Nat) (zd : Nat → Nat → Int32) (a : Nat → Nat) (n : Nat) (d : Nat → Nat → Int32) (hn : zn ≤ 32) (hzn : n ≤ 32) : Met l yX0_copyFrom wsX0_copyFrom ({ frames := 2, cells := 0, slots := 0, locals := 61 }) (va_Pc [.ref (z 0), .ref (a 0)] (fun U => Bd D K U ∧ va_P D vwCl (drW K z zn zd ++ (drW K a n d ++ [])) U.heap ∧ va_D (fun _ => True) (drW K z zn zd ++ (drW K a n d ++ [])))) (va_Qv (fun (_ : Unit) => True) (fun _ t => va_P D vwCl (drW K z n (cpD d zd) ++ (drW K a n d ++ [])) t.heap) (inW (drW K z zn zd ++ (drW K a n d ++ [])))) 0 0 (inW (drW K z zn zd ++ (drW K a n d ++ []))) := c_X0_copyFrom l D K (z 0) (z 1) (z 2) (z 3) (z 4) (z 5) (z 6) (z 7) (z 8) (z 9) (z 10) (z 11) zn (zd 0) (zd 1) (zd 2) (zd 3) (zd 4) (zd 9 1) (zd 5) (zd 6) (zd 7) (zd 8) (zd 9 2) (zd 9 3) (zd 9 4) (zd 9 5) (zd 9 6) (zd 9 7) (a 0) (a 1) (a 2) (a 3) (a 4) (a 5) (a 6) (a 7) (a 8) (a 9) (a 10) (a 11) n (d 0) (d 1) (d 2) (d 3) (d 4) (d 9 1) (d 5) (d 6) (d 7) (d 8) (d 9 2) (d 9 3) (d 9 4) (d 9 5) (d 9 6) (d 9 7) hn hzn
theorem cb_X3_reasonAgainst_d (l : Launch) (D : va_G) (K : Nat → ClassId) (a : Nat → Nat) (n : Nat) (d : Nat → Nat → Int32) (j : Nat) (xr : Int32) (hj : j < 32) : Met l yX3_reasonAgainst wsX3_reasonAgainst ({ frames := 1, cells := 0, slots := 0, locals := 22 }) (va_Pc [.ref (a 2), .int (nI j), .int xr] (fun U => Bd D K U ∧ va_P D vwCl (drW K a n d ++ []) U.heap)) (vp_Si (fun r => r = (r_X3_reasonAgainst (d 1) (d 2) (d 3) (d 4) j xr))) 0 0 (fun _ => False) := by
  have h := c_X3_reasonAgainst l D K (a 2) (a 4) (a 5) (a 6) (a 7) (d 1) (d 2) (d 3) (d 4) (d 9 1) j xr hj
  exact Met_wide h (fun _ q => ⟨q.1, va_P.sub q.2 [2, 4, 5, 6, 7] rfl⟩)
theorem cb_X3_part_d (l : Launch) (D : va_G) (K : Nat → ClassId) (a : Nat → Nat) (n : Nat) (d : Nat → Nat → Int32) (j : Nat) (xw : Int32) (hj : j < 32) : Met l yX3_part wsX3_part ({ frames := 2, cells := 0, slots := 0, locals := 43 }) (va_Pc [.ref (a 2), .int (nI j), .int xw] (fun U => Bd D K U ∧ va_P D vwCl (drW K a n d ++ []) U.heap)) (vp_Si (fun r => r = (r_X3_part (d 1) (d 2) (d 3) (d 4) j xw))) 0 0 (fun _ => False) := by
  have h := c_X3_part l D K (a 2) (a 4) (a 5) (a 6) (a 7) (d 1) (d 2) (d 3) (d 4) (d 9 1) j xw hj
  exact Met_wide h (fun _ q => ⟨q.1, va_P.sub q.2 [2, 4, 5, 6, 7] rfl⟩)
theorem cb_X3_reasonAgainst_m (l : Launch) (D : va_G) (K : Nat → ClassId) (a : Nat → Nat) (n : Nat) (d : Nat → Nat → Int32) (j : Nat) (xr : Int32) (hj : j < 32) : Met l yX3_reasonAgainst wsX3_reasonAgainst ({ frames := 1, cells := 0, slots := 0, locals := 22 }) (va_Pc [.ref (a 3), .int (nI j), .int xr] (fun U => Bd D K U ∧ va_P D vwCl (drW K a n d ++ []) U.heap)) (vp_Si (fun r => r = (r_X3_reasonAgainst (d 5) (d 6) (d 7) (d 8) j xr))) 0 0 (fun _ => False) := by
  have h := c_X3_reasonAgainst l D K (a 3) (a 8) (a 9) (a 10) (a 11) (d 5) (d 6) (d 7) (d 8) (d 9 2) j xr hj
  exact Met_wide h (fun _ q => ⟨q.1, va_P.sub q.2 [3, 8, 9, 10, 11] rfl⟩)
theorem cb_X3_part_m (l : Launch) (D : va_G) (K : Nat → ClassId) (a : Nat → Nat) (n : Nat) (d : Nat → Nat → Int32) (j : Nat) (xw : Int32) (hj : j < 32) : Met l yX3_part wsX3_part ({ frames := 2, cells := 0, slots := 0, locals := 43 }) (va_Pc [.ref (a 3), .int (nI j), .int xw] (fun U => Bd D K U ∧ va_P D vwCl (drW K a n d ++ []) U.heap)) (vp_Si (fun r => r = (r_X3_part (d 5) (d 6) (d 7) (d 8) j xw))) 0 0 (fun _ => False) := by
  have h := c_X3_part l D K (a 3) (a 8) (a 9) (a 10) (a 11) (d 5) (d 6) (d 7) (d 8) (d 9 2) j xw hj
  exact Met_wide h (fun _ q => ⟨q.1, va_P.sub q.2 [3, 8, 9, 10, 11] rfl⟩)
