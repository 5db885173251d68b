theorem tl_ne {x : Int32} (h : 0 < x) : ¬ x.toInt64 = 0 := by
  intro e
  have h1 := congrArg Int64.toInt e
  rw [Int32.toInt_toInt64] at h1
  rw [Int32.lt_iff_toInt_lt, h1] at h
  exact absurd h (by decide)
def fbI (xa : Int32) : Nat → Int64 → Int32 → Nat → (Int64 × Int32 × Nat)
  | 0, dv, ex, q => (dv, ex, q)
  | fu_ + 1, dv, ex, q => (if 32 ≤ (nI q) then (dv, ex, q) else (if 0 ≤ (lg_cmp dv xa.toInt64) then (dv, ex, q) else (fbI xa fu_ (dv <<< ((1 : Int32).toInt64 &&& 63)) (ex + (-1)) (q + 1))))
theorem fbI_s (xa : Int32) (fu_ : Nat) (dv : Int64) (ex : Int32) (q : Nat) : fbI xa (fu_ + 1) dv ex q = (if 32 ≤ (nI q) then (dv, ex, q) else (if 0 ≤ (lg_cmp dv xa.toInt64) then (dv, ex, q) else (fbI xa fu_ (dv <<< ((1 : Int32).toInt64 &&& 63)) (ex + (-1)) (q + 1)))) := rfl
def r_X4_floatBitsOf (xp : Int32) (xa : Int32) : Int32 := (if xp ≤ 0 then 0 else (if 0 < xa then ((((((fbI xa 32 (xp.toInt64) 127 0).2).1) - 1) <<< ((23 : Int32) &&& 31)) + ((if (lg_cmp (2 * ((((fbI xa 32 (xp.toInt64) 127 0).1) <<< ((23 : Int32).toInt64 &&& 63)) - (((fbI xa 32 (xp.toInt64) 127 0).1) <<< ((23 : Int32).toInt64 &&& 63)) / xa.toInt64 * xa.toInt64)) xa.toInt64) ≤ 0 then ((((fbI xa 32 (xp.toInt64) 127 0).1) <<< ((23 : Int32).toInt64 &&& 63)) / xa.toInt64) else (((((fbI xa 32 (xp.toInt64) 127 0).1) <<< ((23 : Int32).toInt64 &&& 63)) / xa.toInt64) + 1)) : Int64).toInt32) else 0))
set_option maxHeartbeats 4000000 in
set_option maxRecDepth 100000 in
theorem c_X4_floatBitsOf (l : Launch) (D : va_G) (K : Nat → ClassId) (xp : Int32) (xa : Int32)  : Met l yX4_floatBitsOf wsX4_floatBitsOf ({ frames := 0, cells := 0, slots := 0, locals := 0 }) (va_Pc [.int xp, .int xa] (fun _ => True)) (vp_Si (fun r => r = (r_X4_floatBitsOf xp xa))) 0 0 (fun _ => False) := by
  refine Met.ofW (cc := cX4_floatBitsOf) (maxL := 7) (ret := (some .int)) (by decide) rfl ?_
  intro p e s m args below meth c s₁ B hml hv
  obtain ⟨rfl, -⟩ := hv
  have hx := B.exec
  have hb := B.bytes
  have hr := B.returns
  have hts := atoms_spec (ws := wsX4_floatBitsOf) B.pre
  have hown : s.vm.findClass RX4 = some m.cls := findClass_of_methodNamed B.named
  have hlocks := B.notSynchronized
  have hl := lv_entry ([.int xp, .int xa]) (n := 7) (Nat.le_of_ble_eq_true rfl)
  rw [lg_entry_eq]
  generalize (lg_sl ([.int xp, .int xa]) ++ List.replicate (7 - (lg_sl ([.int xp, .int xa])).length) Slot.unset).toArray = ls at hl ⊢
  have hl : lv_has ls 7 [(0, .int xp), (1, .int xa)] := hl
  refine lv_iload_n hx hb dX4_floatBitsOf_0 rfl (lv_at hl 0 rfl) ?_
  refine lv_if_le (tgt := 8) hx hb dX4_floatBitsOf_1 (by decide) (fun c_1 => ?_) (fun c_1 => ?_)
  · skip
    refine lv_iconst (v := 0) hx hb dX4_floatBitsOf_8 (by decide) ?_
    exact W.iret hx hb hr (fun t ht hW => ⟨_, rfl, (by unfold r_X4_floatBitsOf; rw [if_pos c_1]), ht⟩) (fun q hq => absurd hq List.not_mem_nil) dX4_floatBitsOf_9
  · skip
    refine lv_iload_n hx hb dX4_floatBitsOf_4 rfl (lv_at hl 1 rfl) ?_
    refine lv_if_gt (tgt := 10) hx hb dX4_floatBitsOf_5 (by decide) (fun c_2 => ?_) (fun c_2 => ?_)
    · skip
      refine lv_iload_n hx hb dX4_floatBitsOf_10 rfl (lv_at hl 0 rfl) ?_
      refine lv_i2l (v := xp.toInt64) hx hb dX4_floatBitsOf_11 rfl ?_
      refine lv_lstore_n (lv' := [(2, .long xp.toInt64), (0, .int xp), (1, .int xa)]) hx hb dX4_floatBitsOf_12 rfl hl (by decide) rfl (fun ls hl => ?_)
      refine lv_bipush (v := 127) hx hb dX4_floatBitsOf_13 (by decide) ?_
      refine lv_istore (lv' := [(4, .int 127), (2, .long xp.toInt64), (0, .int xp), (1, .int xa)]) hx hb dX4_floatBitsOf_15  hl (by decide) rfl (fun ls hl => ?_)
      refine lv_iconst (v := 0) hx hb dX4_floatBitsOf_17 (by decide) ?_
      refine lv_istore (lv' := [(5, .int 0), (4, .int 127), (2, .long xp.toInt64), (0, .int xp), (1, .int xa)]) hx hb dX4_floatBitsOf_18  hl (by decide) rfl (fun ls hl => ?_)
      have L_3 : ∀ (nf : Nat) (dv : Int64) (ex : Int32) (q : Nat), 32 - q < nf → q ≤ 32 → fbI xa (32 - q) dv ex q = (fbI xa 32 (xp.toInt64) 127 0) → ∀ (ls : Array Slot), lv_has ls 7 [(5, .int (nI q)), (4, .int ex), (2, .long dv), (0, .int xp), (1, .int xa)] → W p l e (headSpec wsX4_floatBitsOf ({ frames := 0, cells := 0, slots := 0, locals := 0 })).room s m ([.int xp, .int xa] : List Value).toArray below meth c s.heap [] 0 0 (MQ below (vp_Si (fun r => r = (r_X4_floatBitsOf xp xa))) ([.int xp, .int xa] : List Value).toArray s 0 0 (fun _ => False)) (F0 m 20 ls []) := by
        intro nf
        induction nf with
        | zero =>
          intro dv ex q hm
          exact absurd hm (Nat.not_lt_zero _)
        | succ nf ih =>
          intro dv ex q hm hq hinv ls hl
          refine lv_iload hx hb dX4_floatBitsOf_20 (lv_at hl 0 rfl) ?_
          refine lv_bipush (v := 32) hx hb dX4_floatBitsOf_22 (by decide) ?_
          refine lv_icmp_ge (tgt := 47) hx hb dX4_floatBitsOf_24 (by decide) (fun c_4 => ?_) (fun c_4 => ?_)
          · skip
            have nc_4 := (nI_leI (a := 32) (b := q) (by omega) (by omega)).mp c_4
            have e9 : (dv, ex, q) = (fbI xa 32 (xp.toInt64) 127 0) := by
              rw [← hinv]
              rcases (show 32 - q = 0 ∨ 32 - q = (32 - q - 1) + 1 by omega) with h9 | h9
              · first | (exfalso; omega) | (rw [h9]; rfl)
              · rw [h9, fbI_s, if_pos c_4]
            have f9_dv : ((fbI xa 32 (xp.toInt64) 127 0).1) = dv := by rw [← e9]
            have f9_ex : (((fbI xa 32 (xp.toInt64) 127 0).2).1) = ex := by rw [← e9]
            have f9_q : (((fbI xa 32 (xp.toInt64) 127 0).2).2) = q := by rw [← e9]
            subst f9_dv
            subst f9_ex
            subst f9_q
            refine lv_lload_n hx hb dX4_floatBitsOf_47 rfl (lv_at hl 2 rfl) ?_
            refine lv_bipush (v := 23) hx hb dX4_floatBitsOf_48 (by decide) ?_
            refine lv_lshl (v := (((fbI xa 32 (xp.toInt64) 127 0).1) <<< ((23 : Int32).toInt64 &&& 63))) hx hb dX4_floatBitsOf_50 rfl ?_
            refine lv_lstore_n (lv' := [(2, .long (((fbI xa 32 (xp.toInt64) 127 0).1) <<< ((23 : Int32).toInt64 &&& 63))), (5, .int (nI (((fbI xa 32 (xp.toInt64) 127 0).2).2))), (4, .int (((fbI xa 32 (xp.toInt64) 127 0).2).1)), (0, .int xp), (1, .int xa)]) hx hb dX4_floatBitsOf_51 rfl hl (by decide) rfl (fun ls hl => ?_)
            refine lv_lload_n hx hb dX4_floatBitsOf_52 rfl (lv_at hl 0 rfl) ?_
            refine lv_iload_n hx hb dX4_floatBitsOf_53 rfl (lv_at hl 4 rfl) ?_
            refine lv_i2l (v := xa.toInt64) hx hb dX4_floatBitsOf_54 rfl ?_
            refine lv_ldiv hx hb dX4_floatBitsOf_55 (tl_ne c_2) ?_
            refine lv_lstore (lv' := [(5, .long ((((fbI xa 32 (xp.toInt64) 127 0).1) <<< ((23 : Int32).toInt64 &&& 63)) / xa.toInt64)), (2, .long (((fbI xa 32 (xp.toInt64) 127 0).1) <<< ((23 : Int32).toInt64 &&& 63))), (4, .int (((fbI xa 32 (xp.toInt64) 127 0).2).1)), (0, .int xp), (1, .int xa)]) hx hb dX4_floatBitsOf_56  hl (by decide) rfl (fun ls hl => ?_)
            refine lv_ldc2 (v := 2) hx hb hown (hts _ (List.mem_of_getElem? (i := 1) rfl)) dX4_floatBitsOf_58 ?_
            refine lv_lload_n hx hb dX4_floatBitsOf_61 rfl (lv_at hl 1 rfl) ?_
            refine lv_iload_n hx hb dX4_floatBitsOf_62 rfl (lv_at hl 4 rfl) ?_
            refine lv_i2l (v := xa.toInt64) hx hb dX4_floatBitsOf_63 rfl ?_
            refine lv_lrem hx hb dX4_floatBitsOf_64 (tl_ne c_2) ?_
            refine lv_lmul hx hb dX4_floatBitsOf_65 ?_
            refine lv_iload_n hx hb dX4_floatBitsOf_66 rfl (lv_at hl 4 rfl) ?_
            refine lv_i2l (v := xa.toInt64) hx hb dX4_floatBitsOf_67 rfl ?_
            refine W.lcmp hx hb dX4_floatBitsOf_68 ?_
            have K_7 : ∀ (ls : Array Slot), lv_has ls 7 [(5, .long ((if (lg_cmp (2 * ((((fbI xa 32 (xp.toInt64) 127 0).1) <<< ((23 : Int32).toInt64 &&& 63)) - (((fbI xa 32 (xp.toInt64) 127 0).1) <<< ((23 : Int32).toInt64 &&& 63)) / xa.toInt64 * xa.toInt64)) xa.toInt64) ≤ 0 then ((((fbI xa 32 (xp.toInt64) 127 0).1) <<< ((23 : Int32).toInt64 &&& 63)) / xa.toInt64) else (((((fbI xa 32 (xp.toInt64) 127 0).1) <<< ((23 : Int32).toInt64 &&& 63)) / xa.toInt64) + 1)) : Int64)), (2, .long (((fbI xa 32 (xp.toInt64) 127 0).1) <<< ((23 : Int32).toInt64 &&& 63))), (4, .int (((fbI xa 32 (xp.toInt64) 127 0).2).1)), (0, .int xp), (1, .int xa)] → W p l e (headSpec wsX4_floatBitsOf ({ frames := 0, cells := 0, slots := 0, locals := 0 })).room s m ([.int xp, .int xa] : List Value).toArray below meth c s.heap [] 0 0 (MQ below (vp_Si (fun r => r = (r_X4_floatBitsOf xp xa))) ([.int xp, .int xa] : List Value).toArray s 0 0 (fun _ => False)) (F0 m 78 ls []) := by
              intro ls hl
              refine lv_iload hx hb dX4_floatBitsOf_78 (lv_at hl 2 rfl) ?_
              refine lv_iconst (v := 1) hx hb dX4_floatBitsOf_80 (by decide) ?_
              refine lv_isub hx hb dX4_floatBitsOf_81 ?_
              refine lv_bipush (v := 23) hx hb dX4_floatBitsOf_82 (by decide) ?_
              refine lv_ishl hx hb dX4_floatBitsOf_84 ?_
              refine lv_lload hx hb dX4_floatBitsOf_85 (lv_at hl 0 rfl) ?_
              refine lv_l2i (v := ((if (lg_cmp (2 * ((((fbI xa 32 (xp.toInt64) 127 0).1) <<< ((23 : Int32).toInt64 &&& 63)) - (((fbI xa 32 (xp.toInt64) 127 0).1) <<< ((23 : Int32).toInt64 &&& 63)) / xa.toInt64 * xa.toInt64)) xa.toInt64) ≤ 0 then ((((fbI xa 32 (xp.toInt64) 127 0).1) <<< ((23 : Int32).toInt64 &&& 63)) / xa.toInt64) else (((((fbI xa 32 (xp.toInt64) 127 0).1) <<< ((23 : Int32).toInt64 &&& 63)) / xa.toInt64) + 1)) : Int64).toInt32) hx hb dX4_floatBitsOf_87 rfl ?_
              refine lv_iadd hx hb dX4_floatBitsOf_88 ?_
              exact W.iret hx hb hr (fun t ht hW => ⟨_, rfl, (by unfold r_X4_floatBitsOf; rw [if_neg c_1, if_pos c_2]), ht⟩) (fun q hq => absurd hq List.not_mem_nil) dX4_floatBitsOf_89
            refine lv_if_le (tgt := 78) hx hb dX4_floatBitsOf_69 (by decide) (fun c_5 => ?_) (fun c_5 => ?_)
            · skip
              have e_8 : (((if (lg_cmp (2 * ((((fbI xa 32 (xp.toInt64) 127 0).1) <<< ((23 : Int32).toInt64 &&& 63)) - (((fbI xa 32 (xp.toInt64) 127 0).1) <<< ((23 : Int32).toInt64 &&& 63)) / xa.toInt64 * xa.toInt64)) xa.toInt64) ≤ 0 then ((((fbI xa 32 (xp.toInt64) 127 0).1) <<< ((23 : Int32).toInt64 &&& 63)) / xa.toInt64) else (((((fbI xa 32 (xp.toInt64) 127 0).1) <<< ((23 : Int32).toInt64 &&& 63)) / xa.toInt64) + 1)) : Int64) : Int64) = ((((fbI xa 32 (xp.toInt64) 127 0).1) <<< ((23 : Int32).toInt64 &&& 63)) / xa.toInt64) := by rw [if_pos c_5]
              exact K_7 _ (by rw [e_8]; exact (lv_sub hl [0, 1, 2, 3, 4] rfl))
            · skip
              refine lv_lload hx hb dX4_floatBitsOf_72 (lv_at hl 0 rfl) ?_
              refine lv_lconst (v := 1) hx hb dX4_floatBitsOf_74 (by decide) ?_
              refine lv_ladd hx hb dX4_floatBitsOf_75 ?_
              refine lv_lstore (lv' := [(5, .long (((((fbI xa 32 (xp.toInt64) 127 0).1) <<< ((23 : Int32).toInt64 &&& 63)) / xa.toInt64) + 1)), (2, .long (((fbI xa 32 (xp.toInt64) 127 0).1) <<< ((23 : Int32).toInt64 &&& 63))), (4, .int (((fbI xa 32 (xp.toInt64) 127 0).2).1)), (0, .int xp), (1, .int xa)]) hx hb dX4_floatBitsOf_76  hl (by decide) rfl (fun ls hl => ?_)
              have e_9 : (((if (lg_cmp (2 * ((((fbI xa 32 (xp.toInt64) 127 0).1) <<< ((23 : Int32).toInt64 &&& 63)) - (((fbI xa 32 (xp.toInt64) 127 0).1) <<< ((23 : Int32).toInt64 &&& 63)) / xa.toInt64 * xa.toInt64)) xa.toInt64) ≤ 0 then ((((fbI xa 32 (xp.toInt64) 127 0).1) <<< ((23 : Int32).toInt64 &&& 63)) / xa.toInt64) else (((((fbI xa 32 (xp.toInt64) 127 0).1) <<< ((23 : Int32).toInt64 &&& 63)) / xa.toInt64) + 1)) : Int64) : Int64) = (((((fbI xa 32 (xp.toInt64) 127 0).1) <<< ((23 : Int32).toInt64 &&& 63)) / xa.toInt64) + 1) := by rw [if_neg c_5]
              exact K_7 _ (by rw [e_9]; exact (lv_sub hl [0, 1, 2, 3, 4] rfl))
          · skip
            have nc_4 : ¬ (32 ≤ q) := fun h => c_4 ((nI_leI (a := 32) (b := q) (by omega) (by omega)).mpr h)
            refine lv_lload_n hx hb dX4_floatBitsOf_27 rfl (lv_at hl 2 rfl) ?_
            refine lv_iload_n hx hb dX4_floatBitsOf_28 rfl (lv_at hl 4 rfl) ?_
            refine lv_i2l (v := xa.toInt64) hx hb dX4_floatBitsOf_29 rfl ?_
            refine W.lcmp hx hb dX4_floatBitsOf_30 ?_
            refine lv_if_ge (tgt := 47) hx hb dX4_floatBitsOf_31 (by decide) (fun c_10 => ?_) (fun c_10 => ?_)
            · skip
              have e9 : (dv, ex, q) = (fbI xa 32 (xp.toInt64) 127 0) := by
                rw [← hinv]
                rcases (show 32 - q = 0 ∨ 32 - q = (32 - q - 1) + 1 by omega) with h9 | h9
                · first | (exfalso; omega) | (rw [h9]; rfl)
                · rw [h9, fbI_s, if_neg c_4, if_pos c_10]
              have f9_dv : ((fbI xa 32 (xp.toInt64) 127 0).1) = dv := by rw [← e9]
              have f9_ex : (((fbI xa 32 (xp.toInt64) 127 0).2).1) = ex := by rw [← e9]
              have f9_q : (((fbI xa 32 (xp.toInt64) 127 0).2).2) = q := by rw [← e9]
              subst f9_dv
              subst f9_ex
              subst f9_q
              refine lv_lload_n hx hb dX4_floatBitsOf_47 rfl (lv_at hl 2 rfl) ?_
              refine lv_bipush (v := 23) hx hb dX4_floatBitsOf_48 (by decide) ?_
              refine lv_lshl (v := (((fbI xa 32 (xp.toInt64) 127 0).1) <<< ((23 : Int32).toInt64 &&& 63))) hx hb dX4_floatBitsOf_50 rfl ?_
              refine lv_lstore_n (lv' := [(2, .long (((fbI xa 32 (xp.toInt64) 127 0).1) <<< ((23 : Int32).toInt64 &&& 63))), (5, .int (nI (((fbI xa 32 (xp.toInt64) 127 0).2).2))), (4, .int (((fbI xa 32 (xp.toInt64) 127 0).2).1)), (0, .int xp), (1, .int xa)]) hx hb dX4_floatBitsOf_51 rfl hl (by decide) rfl (fun ls hl => ?_)
              refine lv_lload_n hx hb dX4_floatBitsOf_52 rfl (lv_at hl 0 rfl) ?_
              refine lv_iload_n hx hb dX4_floatBitsOf_53 rfl (lv_at hl 4 rfl) ?_
              refine lv_i2l (v := xa.toInt64) hx hb dX4_floatBitsOf_54 rfl ?_
              refine lv_ldiv hx hb dX4_floatBitsOf_55 (tl_ne c_2) ?_
              refine lv_lstore (lv' := [(5, .long ((((fbI xa 32 (xp.toInt64) 127 0).1) <<< ((23 : Int32).toInt64 &&& 63)) / xa.toInt64)), (2, .long (((fbI xa 32 (xp.toInt64) 127 0).1) <<< ((23 : Int32).toInt64 &&& 63))), (4, .int (((fbI xa 32 (xp.toInt64) 127 0).2).1)), (0, .int xp), (1, .int xa)]) hx hb dX4_floatBitsOf_56  hl (by decide) rfl (fun ls hl => ?_)
              refine lv_ldc2 (v := 2) hx hb hown (hts _ (List.mem_of_getElem? (i := 1) rfl)) dX4_floatBitsOf_58 ?_
              refine lv_lload_n hx hb dX4_floatBitsOf_61 rfl (lv_at hl 1 rfl) ?_
              refine lv_iload_n hx hb dX4_floatBitsOf_62 rfl (lv_at hl 4 rfl) ?_
              refine lv_i2l (v := xa.toInt64) hx hb dX4_floatBitsOf_63 rfl ?_
              refine lv_lrem hx hb dX4_floatBitsOf_64 (tl_ne c_2) ?_
              refine lv_lmul hx hb dX4_floatBitsOf_65 ?_
              refine lv_iload_n hx hb dX4_floatBitsOf_66 rfl (lv_at hl 4 rfl) ?_
              refine lv_i2l (v := xa.toInt64) hx hb dX4_floatBitsOf_67 rfl ?_
              refine W.lcmp hx hb dX4_floatBitsOf_68 ?_
              have K_13 : ∀ (ls : Array Slot), lv_has ls 7 [(5, .long ((if (lg_cmp (2 * ((((fbI xa 32 (xp.toInt64) 127 0).1) <<< ((23 : Int32).toInt64 &&& 63)) - (((fbI xa 32 (xp.toInt64) 127 0).1) <<< ((23 : Int32).toInt64 &&& 63)) / xa.toInt64 * xa.toInt64)) xa.toInt64) ≤ 0 then ((((fbI xa 32 (xp.toInt64) 127 0).1) <<< ((23 : Int32).toInt64 &&& 63)) / xa.toInt64) else (((((fbI xa 32 (xp.toInt64) 127 0).1) <<< ((23 : Int32).toInt64 &&& 63)) / xa.toInt64) + 1)) : Int64)), (2, .long (((fbI xa 32 (xp.toInt64) 127 0).1) <<< ((23 : Int32).toInt64 &&& 63))), (4, .int (((fbI xa 32 (xp.toInt64) 127 0).2).1)), (0, .int xp), (1, .int xa)] → W p l e (headSpec wsX4_floatBitsOf ({ frames := 0, cells := 0, slots := 0, locals := 0 })).room s m ([.int xp, .int xa] : List Value).toArray below meth c s.heap [] 0 0 (MQ below (vp_Si (fun r => r = (r_X4_floatBitsOf xp xa))) ([.int xp, .int xa] : List Value).toArray s 0 0 (fun _ => False)) (F0 m 78 ls []) := by
                intro ls hl
                refine lv_iload hx hb dX4_floatBitsOf_78 (lv_at hl 2 rfl) ?_
                refine lv_iconst (v := 1) hx hb dX4_floatBitsOf_80 (by decide) ?_
                refine lv_isub hx hb dX4_floatBitsOf_81 ?_
                refine lv_bipush (v := 23) hx hb dX4_floatBitsOf_82 (by decide) ?_
                refine lv_ishl hx hb dX4_floatBitsOf_84 ?_
                refine lv_lload hx hb dX4_floatBitsOf_85 (lv_at hl 0 rfl) ?_
                refine lv_l2i (v := ((if (lg_cmp (2 * ((((fbI xa 32 (xp.toInt64) 127 0).1) <<< ((23 : Int32).toInt64 &&& 63)) - (((fbI xa 32 (xp.toInt64) 127 0).1) <<< ((23 : Int32).toInt64 &&& 63)) / xa.toInt64 * xa.toInt64)) xa.toInt64) ≤ 0 then ((((fbI xa 32 (xp.toInt64) 127 0).1) <<< ((23 : Int32).toInt64 &&& 63)) / xa.toInt64) else (((((fbI xa 32 (xp.toInt64) 127 0).1) <<< ((23 : Int32).toInt64 &&& 63)) / xa.toInt64) + 1)) : Int64).toInt32) hx hb dX4_floatBitsOf_87 rfl ?_
                refine lv_iadd hx hb dX4_floatBitsOf_88 ?_
                exact W.iret hx hb hr (fun t ht hW => ⟨_, rfl, (by unfold r_X4_floatBitsOf; rw [if_neg c_1, if_pos c_2]), ht⟩) (fun q hq => absurd hq List.not_mem_nil) dX4_floatBitsOf_89
              refine lv_if_le (tgt := 78) hx hb dX4_floatBitsOf_69 (by decide) (fun c_11 => ?_) (fun c_11 => ?_)
              · skip
                have e_14 : (((if (lg_cmp (2 * ((((fbI xa 32 (xp.toInt64) 127 0).1) <<< ((23 : Int32).toInt64 &&& 63)) - (((fbI xa 32 (xp.toInt64) 127 0).1) <<< ((23 : Int32).toInt64 &&& 63)) / xa.toInt64 * xa.toInt64)) xa.toInt64) ≤ 0 then ((((fbI xa 32 (xp.toInt64) 127 0).1) <<< ((23 : Int32).toInt64 &&& 63)) / xa.toInt64) else (((((fbI xa 32 (xp.toInt64) 127 0).1) <<< ((23 : Int32).toInt64 &&& 63)) / xa.toInt64) + 1)) : Int64) : Int64) = ((((fbI xa 32 (xp.toInt64) 127 0).1) <<< ((23 : Int32).toInt64 &&& 63)) / xa.toInt64) := by rw [if_pos c_11]
                exact K_13 _ (by rw [e_14]; exact (lv_sub hl [0, 1, 2, 3, 4] rfl))
              · skip
                refine lv_lload hx hb dX4_floatBitsOf_72 (lv_at hl 0 rfl) ?_
                refine lv_lconst (v := 1) hx hb dX4_floatBitsOf_74 (by decide) ?_
                refine lv_ladd hx hb dX4_floatBitsOf_75 ?_
                refine lv_lstore (lv' := [(5, .long (((((fbI xa 32 (xp.toInt64) 127 0).1) <<< ((23 : Int32).toInt64 &&& 63)) / xa.toInt64) + 1)), (2, .long (((fbI xa 32 (xp.toInt64) 127 0).1) <<< ((23 : Int32).toInt64 &&& 63))), (4, .int (((fbI xa 32 (xp.toInt64) 127 0).2).1)), (0, .int xp), (1, .int xa)]) hx hb dX4_floatBitsOf_76  hl (by decide) rfl (fun ls hl => ?_)
                have e_15 : (((if (lg_cmp (2 * ((((fbI xa 32 (xp.toInt64) 127 0).1) <<< ((23 : Int32).toInt64 &&& 63)) - (((fbI xa 32 (xp.toInt64) 127 0).1) <<< ((23 : Int32).toInt64 &&& 63)) / xa.toInt64 * xa.toInt64)) xa.toInt64) ≤ 0 then ((((fbI xa 32 (xp.toInt64) 127 0).1) <<< ((23 : Int32).toInt64 &&& 63)) / xa.toInt64) else (((((fbI xa 32 (xp.toInt64) 127 0).1) <<< ((23 : Int32).toInt64 &&& 63)) / xa.toInt64) + 1)) : Int64) : Int64) = (((((fbI xa 32 (xp.toInt64) 127 0).1) <<< ((23 : Int32).toInt64 &&& 63)) / xa.toInt64) + 1) := by rw [if_neg c_11]
                exact K_13 _ (by rw [e_15]; exact (lv_sub hl [0, 1, 2, 3, 4] rfl))
            · skip
              refine lv_lload_n hx hb dX4_floatBitsOf_34 rfl (lv_at hl 2 rfl) ?_
              refine lv_iconst (v := 1) hx hb dX4_floatBitsOf_35 (by decide) ?_
              refine lv_lshl (v := (dv <<< ((1 : Int32).toInt64 &&& 63))) hx hb dX4_floatBitsOf_36 rfl ?_
              refine lv_lstore_n (lv' := [(2, .long (dv <<< ((1 : Int32).toInt64 &&& 63))), (5, .int (nI q)), (4, .int ex), (0, .int xp), (1, .int xa)]) hx hb dX4_floatBitsOf_37 rfl hl (by decide) rfl (fun ls hl => ?_)
              refine lv_iinc (v := (ex + (-1))) (lv' := [(4, .int (ex + (-1))), (2, .long (dv <<< ((1 : Int32).toInt64 &&& 63))), (5, .int (nI q)), (0, .int xp), (1, .int xa)]) hx hb dX4_floatBitsOf_38 hl (k := 2) rfl rfl (by decide) rfl (fun ls hl => ?_)
              refine lv_iinc (v := (nI (q + 1))) (lv' := [(5, .int (nI (q + 1))), (4, .int (ex + (-1))), (2, .long (dv <<< ((1 : Int32).toInt64 &&& 63))), (0, .int xp), (1, .int xa)]) hx hb dX4_floatBitsOf_41 hl (k := 2) rfl (nI_add q 1) (by decide) rfl (fun ls hl => ?_)
              refine lv_goto (tgt := 20) hx hb dX4_floatBitsOf_44 (by decide) ?_
              exact ih (dv <<< ((1 : Int32).toInt64 &&& 63)) (ex + (-1)) (q + 1) (by omega) (by omega) (by rw [← hinv, show 32 - q = (32 - (q + 1)) + 1 by omega, fbI_s, if_neg c_4, if_neg c_10]) _ (lv_sub hl [0, 1, 2, 3, 4] rfl)
      exact L_3 _ (xp.toInt64) 127 0 (Nat.lt_succ_self _) (by omega) rfl ls (lv_sub hl [0, 1, 2, 3, 4] rfl)
    · skip
      refine lv_iconst (v := 0) hx hb dX4_floatBitsOf_8 (by decide) ?_
      exact W.iret hx hb hr (fun t ht hW => ⟨_, rfl, (by unfold r_X4_floatBitsOf; rw [if_neg c_1, if_neg c_2]), ht⟩) (fun q hq => absurd hq List.not_mem_nil) dX4_floatBitsOf_9
def r_X4_share (n : Nat) (d : Nat → Nat → Int32) : Int32 := (if (bcF (stS (d 0) (d 1) (d 2) (d 3) (d 4) (d 5) (d 6) (d 7) (d 8) 0 n)) = 0 then (-6) else (r_X4_floatBitsOf ((bcF (stS (d 0) (d 1) (d 2) (d 3) (d 4) (d 5) (d 6) (d 7) (d 8) 0 n)) - (bcF (stS (d 0) (d 1) (d 2) (d 3) (d 4) (d 5) (d 6) (d 7) (d 8) 3 n))) (bcF (stS (d 0) (d 1) (d 2) (d 3) (d 4) (d 5) (d 6) (d 7) (d 8) 0 n))))
set_option maxHeartbeats 4000000 in
set_option maxRecDepth 100000 in
theorem c_X4_share (l : Launch) (D : va_G) (K : Nat → ClassId) (oX : Nat) (an : Nat → Nat) (at_ : Nat → Nat) (a0 : Nat → Nat) (a1 : Nat → Nat) (z0 : Int32) (z1 : Int32) (oh : Nat) (oP : Nat) (n : Nat) (d : Nat → Nat → Int32) (hn1 : 1 ≤ n) (hn : n ≤ 32) : Met l yX4_share wsX4_share ({ frames := 6, cells := 0, slots := 0, locals := 132 }) (va_Pc [.ref oX] (fun U => Bd D K U ∧ va_P D vwCl ([(oX, .inr (4, [.ref (an 0), .ref (at_ 0), .ref (a0 0), .ref (a1 0), .int z0, .int z1, .ref oh, .ref oP]))] ++ (drW K an n d ++ [])) U.heap)) (vp_Si (fun r => r = (r_X4_share n d))) 0 0 (fun _ => False) := by
  refine Met.ofW (cc := cX4_share) (maxL := 3) (ret := (some .int)) (by decide) rfl ?_
  intro p e s m args below meth c s₁ B hml hv
  obtain ⟨rfl, hbd, hP⟩ := hv
  have hx := B.exec
  have hb := B.bytes
  have hr := B.returns
  have hts := atoms_spec (ws := wsX4_share) B.pre
  have hown : s.vm.findClass RX4 = some m.cls := findClass_of_methodNamed B.named
  have hlocks := B.notSynchronized
  have hK := hbd.2
  have hP : va_P D vwCl ([(oX, .inr (4, [.ref (an 0), .ref (at_ 0), .ref (a0 0), .ref (a1 0), .int z0, .int z1, .ref oh, .ref oP]))] ++ (drW K an n d ++ [])) s.heap := hP
  have hin4 : ∀ w ∈ wsX40, w ∈ wsX4_share := by decide +kernel
  have hl := lv_entry ([.ref oX]) (n := 3) (Nat.le_of_ble_eq_true rfl)
  rw [lg_entry_eq]
  generalize (lg_sl ([.ref oX]) ++ List.replicate (3 - (lg_sl ([.ref oX])).length) Slot.unset).toArray = ls at hl ⊢
  have hl : lv_has ls 3 [(0, .ref oX)] := hl
  refine lv_aload_n hx hb dX4_share_0 rfl (lv_at hl 0 rfl) ?_
  refine va_get (D := D) (ci := 4) (v := .ref (an 0)) (C := RX4) (T := TX4) (N := 8) hx hb hts hin4 hown hK hP 0 rfl rfl 0 (by decide) (hts _ (List.mem_of_getElem? (i := 1) rfl)) (fun _ h9 => h9) rfl dX4_share_1 ?_
  have hPc := hP.sub (ws' := (drW K an n d ++ [])) [1, 2, 3, 4, 5, 6, 7, 8, 9, 10, 11, 12] rfl
  refine vp_callSi (va_Run.run (va_runVN (As := []) (rest := []) ⟨hx, hb, hml, hown, hts⟩ (cb_X0_writtenPlaces l D K an n d hn1 hn) ⟨va_cnB 0 hts gX4_share_X0_writtenPlaces_n136 rfl rfl rfl (hbd.1.nw 32 rfl) (hts _ (List.mem_of_getElem? (i := 3) rfl)) (by decide +kernel) ⟨Nat.le_of_ble_eq_true rfl, Nat.le_of_ble_eq_true rfl⟩, (hts _ (List.mem_of_getElem? (i := 2) rfl)), (hts _ (List.mem_of_getElem? (i := 4) rfl))⟩ (pre_rd hbd hPc (ci := 0) (q0 := 0) rfl rfl) rfl rfl hl.1 rfl (lv_room (Nat.le_of_ble_eq_true rfl)) dX4_share_4 ⟨Nat.zero_le _, Nat.zero_le _⟩)) (fun r_1 hr_1 => ?_)
  refine st1 hr_1 ?_
  refine lv_istore_n (lv' := [(1, .int (bcF (stS (d 0) (d 1) (d 2) (d 3) (d 4) (d 5) (d 6) (d 7) (d 8) 0 n))), (0, .ref oX)]) hx hb dX4_share_7 rfl hl (by decide) rfl (fun ls hl => ?_)
  refine lv_aload_n hx hb dX4_share_8 rfl (lv_at hl 1 rfl) ?_
  refine va_get (D := D) (ci := 4) (v := .ref (an 0)) (C := RX4) (T := TX4) (N := 8) hx hb hts hin4 hown hK hP 0 rfl rfl 0 (by decide) (hts _ (List.mem_of_getElem? (i := 1) rfl)) (fun _ h9 => h9) rfl dX4_share_9 ?_
  refine lv_iconst (v := 3) hx hb dX4_share_12 (by decide) ?_
  have hPc := hP.sub (ws' := (drW K an n d ++ [])) [1, 2, 3, 4, 5, 6, 7, 8, 9, 10, 11, 12] rfl
  refine vp_callSl (va_Run.run (va_runVN (As := [.int 3]) (rest := []) ⟨hx, hb, hml, hown, hts⟩ (cb_X0_setOf l D K an n d 3 hn1 hn) ⟨va_cnB 1 hts gX4_share_X0_setOf_n97 rfl rfl rfl (hbd.1.nw 30 rfl) (hts _ (List.mem_of_getElem? (i := 3) rfl)) (by decide +kernel) ⟨Nat.le_of_ble_eq_true rfl, Nat.le_of_ble_eq_true rfl⟩, (hts _ (List.mem_of_getElem? (i := 7) rfl)), (hts _ (List.mem_of_getElem? (i := 8) rfl))⟩ (pre_rd hbd hPc (ci := 0) (q0 := 0) rfl rfl) rfl rfl hl.1 rfl (lv_room (Nat.le_of_ble_eq_true rfl)) dX4_share_13 ⟨Nat.zero_le _, Nat.zero_le _⟩)) (fun r_2 hr_2 => ?_)
  have yr_2 := hr_2.symm; subst yr_2
  refine vp_callSi (va_Run.run (va_runS (As := [.long (stS (d 0) (d 1) (d 2) (d 3) (d 4) (d 5) (d 6) (d 7) (d 8) 3 n)]) (rest := []) ⟨hx, hb, hml, hown, hts⟩ (c_J13_bitCount l D K (stS (d 0) (d 1) (d 2) (d 3) (d 4) (d 5) (d 6) (d 7) (d 8) 3 n) ) (va_cwS 1 hts gX4_share_J13_bitCount_95d88 rfl rfl rfl (by decide +kernel) ⟨Nat.le_of_ble_eq_true rfl, Nat.le_of_ble_eq_true rfl⟩) pre_s0 rfl rfl hl.1 rfl (lv_room (Nat.le_of_ble_eq_true rfl)) dX4_share_16 ⟨Nat.zero_le _, Nat.zero_le _⟩)) (fun r_3 hr_3 => ?_)
  refine st1 hr_3 ?_
  refine lv_istore_n (lv' := [(2, .int (bcF (stS (d 0) (d 1) (d 2) (d 3) (d 4) (d 5) (d 6) (d 7) (d 8) 3 n))), (1, .int (bcF (stS (d 0) (d 1) (d 2) (d 3) (d 4) (d 5) (d 6) (d 7) (d 8) 0 n))), (0, .ref oX)]) hx hb dX4_share_19 rfl hl (by decide) rfl (fun ls hl => ?_)
  refine lv_iload_n hx hb dX4_share_20 rfl (lv_at hl 1 rfl) ?_
  refine lv_if_ne (tgt := 29) hx hb dX4_share_21 (by decide) (fun c_4 => ?_) (fun c_4 => ?_)
  · skip
    refine lv_iload_n hx hb dX4_share_29 rfl (lv_at hl 1 rfl) ?_
    refine lv_iload_n hx hb dX4_share_30 rfl (lv_at hl 0 rfl) ?_
    refine lv_isub hx hb dX4_share_31 ?_
    refine lv_iload_n hx hb dX4_share_32 rfl (lv_at hl 1 rfl) ?_
    refine vp_callSi (va_Run.run (va_runS (As := [.int ((bcF (stS (d 0) (d 1) (d 2) (d 3) (d 4) (d 5) (d 6) (d 7) (d 8) 0 n)) - (bcF (stS (d 0) (d 1) (d 2) (d 3) (d 4) (d 5) (d 6) (d 7) (d 8) 3 n))), .int (bcF (stS (d 0) (d 1) (d 2) (d 3) (d 4) (d 5) (d 6) (d 7) (d 8) 0 n))]) (rest := []) ⟨hx, hb, hml, hown, hts⟩ (c_X4_floatBitsOf l D K ((bcF (stS (d 0) (d 1) (d 2) (d 3) (d 4) (d 5) (d 6) (d 7) (d 8) 0 n)) - (bcF (stS (d 0) (d 1) (d 2) (d 3) (d 4) (d 5) (d 6) (d 7) (d 8) 3 n))) (bcF (stS (d 0) (d 1) (d 2) (d 3) (d 4) (d 5) (d 6) (d 7) (d 8) 0 n)) ) (va_cwS 2 hts gX4_share_X4_floatBitsOf rfl rfl rfl (by decide +kernel) ⟨Nat.le_of_ble_eq_true rfl, Nat.le_of_ble_eq_true rfl⟩) pre_s0 rfl rfl hl.1 rfl (lv_room (Nat.le_of_ble_eq_true rfl)) dX4_share_33 ⟨Nat.zero_le _, Nat.zero_le _⟩)) (fun r_5 hr_5 => ?_)
    refine st1 hr_5 ?_
    exact W.iret hx hb hr (fun t ht hW => ⟨_, rfl, (by unfold r_X4_share; rw [if_neg c_4]), ht⟩) (fun q hq => absurd hq List.not_mem_nil) dX4_share_36
  · skip
    refine lv_bipush (v := (-6)) hx hb dX4_share_24 (by decide) ?_
    refine lv_goto (tgt := 36) hx hb dX4_share_26 (by decide) ?_
    exact W.iret hx hb hr (fun t ht hW => ⟨_, rfl, (by unfold r_X4_share; rw [if_pos c_4]), ht⟩) (fun q hq => absurd hq List.not_mem_nil) dX4_share_36
/-- the halvings come to an end, and no number on the road is beyond the numbers -/
def boK : Nat → UInt32 → Prop
  | 0, x => 0 ≤ (Op.cmpValue (FP.fcmp x FP.fconst1) CmpOp.g) ∧ vf_n32 (FP.fsub x FP.fconst1) ∧ vf_n32 (FP.fmul (FP.fsub x FP.fconst1) 1258291200)
  | f + 1, x => if 0 ≤ (Op.cmpValue (FP.fcmp x FP.fconst1) CmpOp.g) then vf_n32 (FP.fsub x FP.fconst1) ∧ vf_n32 (FP.fmul (FP.fsub x FP.fconst1) 1258291200) else vf_n32 (FP.fmul x FP.fconst2) ∧ boK f (FP.fmul x FP.fconst2)
theorem boK_in {f : Nat} {x : UInt32} (h : boK f x) (c : ¬ 0 ≤ (Op.cmpValue (FP.fcmp x FP.fconst1) CmpOp.g)) : 1 ≤ f ∧ vf_n32 (FP.fmul x FP.fconst2) ∧ boK (f - 1) (FP.fmul x FP.fconst2) := by
  cases f with
  | zero => exact absurd h.1 c
  | succ f =>
    unfold boK at h
    rw [if_neg c] at h
    exact ⟨Nat.succ_le_succ (Nat.zero_le _), h.1, h.2⟩
theorem boK_out {f : Nat} {x : UInt32} (h : boK f x) (c : 0 ≤ (Op.cmpValue (FP.fcmp x FP.fconst1) CmpOp.g)) : vf_n32 (FP.fsub x FP.fconst1) ∧ vf_n32 (FP.fmul (FP.fsub x FP.fconst1) 1258291200) := by
  cases f with
  | zero => exact h.2
  | succ f =>
    unfold boK at h
    rw [if_pos c] at h
    exact h
def boI  : Nat → Int32 → Nat → UInt32 → (Int32 × Nat × UInt32)
  | 0, pw, q, lf => (pw, q, lf)
  | fu_ + 1, pw, q, lf => (if 0 ≤ (Op.cmpValue (FP.fcmp lf FP.fconst1) CmpOp.g) then (pw, q, lf) else (boI  fu_ (pw + (-1)) (q + 1) (FP.fmul lf FP.fconst2)))
theorem boI_s  (fu_ : Nat) (pw : Int32) (q : Nat) (lf : UInt32) : boI  (fu_ + 1) pw q lf = (if 0 ≤ (Op.cmpValue (FP.fcmp lf FP.fconst1) CmpOp.g) then (pw, q, lf) else (boI  fu_ (pw + (-1)) (q + 1) (FP.fmul lf FP.fconst2))) := rfl
def r_X5_bitsOf (xv : UInt32) : Int32 := (if (Op.cmpValue (FP.fcmp xv FP.fconst0) CmpOp.l) = 0 then 0 else ((((boI  6 127 0 xv).1) * 8388608) + (FP.f2i (FP.fmul (FP.fsub (((boI  6 127 0 xv).2).2) FP.fconst1) 1258291200))))
set_option maxHeartbeats 4000000 in
set_option maxRecDepth 100000 in
theorem c_X5_bitsOf (l : Launch) (D : va_G) (K : Nat → ClassId) (xv : UInt32) (hK0 : ¬ (Op.cmpValue (FP.fcmp xv FP.fconst0) CmpOp.l) = 0 → boK 6 xv) : Met l yX5_bitsOf wsX5_bitsOf ({ frames := 0, cells := 0, slots := 0, locals := 0 }) (va_Pc [.float xv] (fun _ => True)) (vp_Si (fun r => r = (r_X5_bitsOf xv))) 0 0 (fun _ => False) := by
  refine Met.ofW (cc := cX5_bitsOf) (maxL := 3) (ret := (some .int)) (by decide) rfl ?_
  intro p e s m args below meth c s₁ B hml hv
  obtain ⟨rfl, -⟩ := hv
  have hx := B.exec
  have hb := B.bytes
  have hr := B.returns
  have hts := atoms_spec (ws := wsX5_bitsOf) B.pre
  have hown : s.vm.findClass RX5 = some m.cls := findClass_of_methodNamed B.named
  have hlocks := B.notSynchronized
  have hl := lv_entry ([.float xv]) (n := 3) (Nat.le_of_ble_eq_true rfl)
  rw [lg_entry_eq]
  generalize (lg_sl ([.float xv]) ++ List.replicate (3 - (lg_sl ([.float xv])).length) Slot.unset).toArray = ls at hl ⊢
  have hl : lv_has ls 3 [(0, .float xv)] := hl
  refine lv_fload_n hx hb dX5_bitsOf_0 rfl (lv_at hl 0 rfl) ?_
  refine lv_fconst0 hx hb dX5_bitsOf_1 ?_
  refine lv_fcmp hx hb dX5_bitsOf_2 ?_
  refine lv_if_ne (tgt := 8) hx hb dX5_bitsOf_3 (by decide) (fun c_1 => ?_) (fun c_1 => ?_)
  · skip
    refine lv_bipush (v := 127) hx hb dX5_bitsOf_8 (by decide) ?_
    refine lv_istore_n (lv' := [(1, .int 127), (0, .float xv)]) hx hb dX5_bitsOf_10 rfl hl (by decide) rfl (fun ls hl => ?_)
    refine lv_fload_n hx hb dX5_bitsOf_11 rfl (lv_at hl 1 rfl) ?_
    refine lv_fstore_n (lv' := [(2, .float xv), (1, .int 127), (0, .float xv)]) hx hb dX5_bitsOf_12 rfl hl (by decide) rfl (fun ls hl => ?_)
    have L_2 : ∀ (nf : Nat) (pw : Int32) (q : Nat) (lf : UInt32), 6 - q < nf → q ≤ 6 → boK (6 - q) lf → boI  (6 - q) pw q lf = (boI  6 127 0 xv) → ∀ (ls : Array Slot), lv_has ls 3 [(2, .float lf), (1, .int pw), (0, .float xv)] → W p l e (headSpec wsX5_bitsOf ({ frames := 0, cells := 0, slots := 0, locals := 0 })).room s m ([.float xv] : List Value).toArray below meth c s.heap [] 0 0 (MQ below (vp_Si (fun r => r = (r_X5_bitsOf xv))) ([.float xv] : List Value).toArray s 0 0 (fun _ => False)) (F0 m 13 ls []) := by
      intro nf
      induction nf with
      | zero =>
        intro pw q lf hm
        exact absurd hm (Nat.not_lt_zero _)
      | succ nf ih =>
        intro pw q lf hm hq hK hinv ls hl
        refine lv_fload_n hx hb dX5_bitsOf_13 rfl (lv_at hl 0 rfl) ?_
        refine lv_fconst1 hx hb dX5_bitsOf_14 ?_
        refine lv_fcmp hx hb dX5_bitsOf_15 ?_
        refine lv_if_ge (tgt := 29) hx hb dX5_bitsOf_16 (by decide) (fun c_3 => ?_) (fun c_3 => ?_)
        · skip
          have e9 : (pw, q, lf) = (boI  6 127 0 xv) := by
            rw [← hinv]
            rcases (show 6 - q = 0 ∨ 6 - q = (6 - q - 1) + 1 by omega) with h9 | h9
            · first | (exfalso; omega) | (rw [h9]; rfl)
            · rw [h9, boI_s, if_pos c_3]
          have f9_pw : ((boI  6 127 0 xv).1) = pw := by rw [← e9]
          have f9_q : (((boI  6 127 0 xv).2).1) = q := by rw [← e9]
          have f9_lf : (((boI  6 127 0 xv).2).2) = lf := by rw [← e9]
          subst f9_pw
          subst f9_q
          subst f9_lf
          have hko := boK_out hK (by assumption)
          refine lv_iload_n hx hb dX5_bitsOf_29 rfl (lv_at hl 1 rfl) ?_
          refine lv_ldc (v := 8388608) hx hb hown (hts _ (List.mem_of_getElem? (i := 1) rfl)) dX5_bitsOf_30 ?_
          refine lv_imul hx hb dX5_bitsOf_32 ?_
          refine lv_fload_n hx hb dX5_bitsOf_33 rfl (lv_at hl 0 rfl) ?_
          refine lv_fconst1 hx hb dX5_bitsOf_34 ?_
          refine lv_fsub hx hb dX5_bitsOf_35 hko.1 ?_
          refine lv_ldcf (v := 1258291200) hx hb hown (hts _ (List.mem_of_getElem? (i := 2) rfl)) dX5_bitsOf_36 ?_
          refine lv_fmul hx hb dX5_bitsOf_38 hko.2 ?_
          refine lv_f2i hx hb dX5_bitsOf_39 ?_
          refine lv_iadd hx hb dX5_bitsOf_40 ?_
          exact W.iret hx hb hr (fun t ht hW => ⟨_, rfl, (by unfold r_X5_bitsOf; rw [if_neg c_1]), ht⟩) (fun q hq => absurd hq List.not_mem_nil) dX5_bitsOf_41
        · skip
          refine lv_fload_n hx hb dX5_bitsOf_19 rfl (lv_at hl 0 rfl) ?_
          refine lv_fconst2 hx hb dX5_bitsOf_20 ?_
          have hk := boK_in hK c_3
          refine lv_fmul hx hb dX5_bitsOf_21 hk.2.1 ?_
          refine lv_fstore_n (lv' := [(2, .float (FP.fmul lf FP.fconst2)), (1, .int pw), (0, .float xv)]) hx hb dX5_bitsOf_22 rfl hl (by decide) rfl (fun ls hl => ?_)
          refine lv_iinc (v := (pw + (-1))) (lv' := [(1, .int (pw + (-1))), (2, .float (FP.fmul lf FP.fconst2)), (0, .float xv)]) hx hb dX5_bitsOf_23 hl (k := 1) rfl rfl (by decide) rfl (fun ls hl => ?_)
          refine lv_goto (tgt := 13) hx hb dX5_bitsOf_26 (by decide) ?_
          exact ih (pw + (-1)) (q + 1) (FP.fmul lf FP.fconst2) (by omega) (by have := hk.1; omega) (by rw [show 6 - (q + 1) = 6 - q - 1 by omega]; exact hk.2.2) (by rw [← hinv, show 6 - q = (6 - (q + 1)) + 1 by omega, boI_s, if_neg c_3]) _ (lv_sub hl [1, 0, 2] rfl)
    exact L_2 _ 127 0 xv (Nat.lt_succ_self _) (by omega) (hK0 (by assumption)) rfl ls (lv_sub hl [0, 1, 2] rfl)
  · skip
    refine lv_iconst (v := 0) hx hb dX5_bitsOf_6 (by decide) ?_
    exact W.iret hx hb hr (fun t ht hW => ⟨_, rfl, (by unfold r_X5_bitsOf; rw [if_pos c_1]), ht⟩) (fun q hq => absurd hq List.not_mem_nil) dX5_bitsOf_7

def r_X5_share (fS : Nat → Int32) (n : Nat) : Int32 := (if (mnS fS 0 n) = 0 then (-6) else (r_X5_bitsOf (FP.fdiv (FP.i2f ((mnS fS 0 n) - (mnS fS 3 n))) (FP.i2f (mnS fS 0 n)))))
set_option maxHeartbeats 4000000 in
set_option maxRecDepth 100000 in
theorem c_X5_share (l : Launch) (D : va_G) (K : Nat → ClassId) (oM : Nat) (aS : Nat) (aA : Nat) (aB : Nat) (aT : Nat) (aV : Nat) (aP : Nat) (fS : Nat → Int32) (kn : Nat) (ln : Nat) (pl : Int32) (wr : Int32) (le : Int32) (on : Int32) (tw : Int32) (n : Nat) (hs0 : fS 0 = nI n) (hn1 : 1 ≤ n) (hn : n ≤ 32) (hsh : ¬ (mnS fS 0 n) = 0 → vf_n32 (FP.fdiv (FP.i2f ((mnS fS 0 n) - (mnS fS 3 n))) (FP.i2f (mnS fS 0 n))) ∧ (¬ (Op.cmpValue (FP.fcmp (FP.fdiv (FP.i2f ((mnS fS 0 n) - (mnS fS 3 n))) (FP.i2f (mnS fS 0 n))) FP.fconst0) CmpOp.l) = 0 → boK 6 (FP.fdiv (FP.i2f ((mnS fS 0 n) - (mnS fS 3 n))) (FP.i2f (mnS fS 0 n))))) : Met l yX5_share wsX5_share ({ frames := 7, cells := 0, slots := 0, locals := 155 }) (va_Pc [.ref oM] (fun U => Bd D K U ∧ va_P D vwCl [(oM, .inr (5, [.ref aS, .ref aA, .ref aB, .int (nI kn), .ref aT, .ref aV, .ref aP, .int (nI ln), .int pl, .int wr, .int le, .int on, .int tw])), (aS, .inl (K 0, 360, .inl fS))] U.heap)) (vp_Si (fun r => r = (r_X5_share fS n))) 0 0 (fun _ => False) := by
  refine Met.ofW (cc := cX5_share) (maxL := 2) (ret := (some .int)) (by decide) rfl ?_
  intro p e s m args below meth c s₁ B hml hv
  obtain ⟨rfl, hbd, hP⟩ := hv
  have hx := B.exec
  have hb := B.bytes
  have hr := B.returns
  have hts := atoms_spec (ws := wsX5_share) B.pre
  have hown : s.vm.findClass RX5 = some m.cls := findClass_of_methodNamed B.named
  have hlocks := B.notSynchronized
  have hK := hbd.2
  have hP : va_P D vwCl [(oM, .inr (5, [.ref aS, .ref aA, .ref aB, .int (nI kn), .ref aT, .ref aV, .ref aP, .int (nI ln), .int pl, .int wr, .int le, .int on, .int tw])), (aS, .inl (K 0, 360, .inl fS))] s.heap := hP
  have hl := lv_entry ([.ref oM]) (n := 2) (Nat.le_of_ble_eq_true rfl)
  rw [lg_entry_eq]
  generalize (lg_sl ([.ref oM]) ++ List.replicate (2 - (lg_sl ([.ref oM])).length) Slot.unset).toArray = ls at hl ⊢
  have hl : lv_has ls 2 [(0, .ref oM)] := hl
  refine lv_aload_n hx hb dX5_share_0 rfl (lv_at hl 0 rfl) ?_
  refine lv_iconst (v := 0) hx hb dX5_share_1 (by decide) ?_
  have hPc := hP.sub (ws' := [(oM, .inr (5, [.ref aS, .ref aA, .ref aB, .int (nI kn), .ref aT, .ref aV, .ref aP, .int (nI ln), .int pl, .int wr, .int le, .int on, .int tw])), (aS, .inl (K 0, 360, .inl fS))]) [0, 1] rfl
  refine vp_callSi (va_Run.run (va_runV (As := [.int 0]) (rest := []) ⟨hx, hb, hml, hown, hts⟩ (c_X5_many l D K oM aS aA aB aT aV aP fS kn ln pl wr le on tw n 0 hs0 hn1 hn) (cwV 1 hts gX5_share_X5_many rfl rfl rfl (by decide +kernel) ⟨Nat.le_of_ble_eq_true rfl, Nat.le_of_ble_eq_true rfl⟩) (pre_rd hbd hPc (ci := 5) (q0 := 0) rfl rfl) rfl rfl hl.1 rfl (lv_room (Nat.le_of_ble_eq_true rfl)) dX5_share_2 ⟨Nat.zero_le _, Nat.zero_le _⟩)) (fun r_1 hr_1 => ?_)
  refine st1 hr_1 ?_
  refine lv_istore_n (lv' := [(1, .int (mnS fS 0 n)), (0, .ref oM)]) hx hb dX5_share_5 rfl hl (by decide) rfl (fun ls hl => ?_)
  refine lv_iload_n hx hb dX5_share_6 rfl (lv_at hl 0 rfl) ?_
  refine lv_if_ne (tgt := 15) hx hb dX5_share_7 (by decide) (fun c_2 => ?_) (fun c_2 => ?_)
  · skip
    refine lv_iload_n hx hb dX5_share_15 rfl (lv_at hl 0 rfl) ?_
    refine lv_aload_n hx hb dX5_share_16 rfl (lv_at hl 1 rfl) ?_
    refine lv_iconst (v := 3) hx hb dX5_share_17 (by decide) ?_
    have hPc := hP.sub (ws' := [(oM, .inr (5, [.ref aS, .ref aA, .ref aB, .int (nI kn), .ref aT, .ref aV, .ref aP, .int (nI ln), .int pl, .int wr, .int le, .int on, .int tw])), (aS, .inl (K 0, 360, .inl fS))]) [0, 1] rfl
    refine vp_callSi (va_Run.run (va_runV (As := [.int 3]) (rest := [.int (mnS fS 0 n)]) ⟨hx, hb, hml, hown, hts⟩ (c_X5_many l D K oM aS aA aB aT aV aP fS kn ln pl wr le on tw n 3 hs0 hn1 hn) (cwV 1 hts gX5_share_X5_many rfl rfl rfl (by decide +kernel) ⟨Nat.le_of_ble_eq_true rfl, Nat.le_of_ble_eq_true rfl⟩) (pre_rd hbd hPc (ci := 5) (q0 := 0) rfl rfl) rfl rfl hl.1 rfl (lv_room (Nat.le_of_ble_eq_true rfl)) dX5_share_18 ⟨Nat.zero_le _, Nat.zero_le _⟩)) (fun r_3 hr_3 => ?_)
    refine st1 hr_3 ?_
    refine lv_isub hx hb dX5_share_21 ?_
    refine lv_i2f hx hb dX5_share_22 ?_
    refine lv_iload_n hx hb dX5_share_23 rfl (lv_at hl 0 rfl) ?_
    refine lv_i2f hx hb dX5_share_24 ?_
    refine lv_fdiv hx hb dX5_share_25 (hsh c_2).1 ?_
    refine vp_callSi (va_Run.run (va_runS (As := [.float (FP.fdiv (FP.i2f ((mnS fS 0 n) - (mnS fS 3 n))) (FP.i2f (mnS fS 0 n)))]) (rest := []) ⟨hx, hb, hml, hown, hts⟩ (c_X5_bitsOf l D K (FP.fdiv (FP.i2f ((mnS fS 0 n) - (mnS fS 3 n))) (FP.i2f (mnS fS 0 n))) (hsh c_2).2) (va_cwS 1 hts gX5_share_X5_bitsOf rfl rfl rfl (by decide +kernel) ⟨Nat.le_of_ble_eq_true rfl, Nat.le_of_ble_eq_true rfl⟩) pre_s0 rfl rfl hl.1 rfl (lv_room (Nat.le_of_ble_eq_true rfl)) dX5_share_26 ⟨Nat.zero_le _, Nat.zero_le _⟩)) (fun r_4 hr_4 => ?_)
    refine st1 hr_4 ?_
    exact W.iret hx hb hr (fun t ht hW => ⟨_, rfl, (by unfold r_X5_share; rw [if_neg c_2]), ht⟩) (fun q hq => absurd hq List.not_mem_nil) dX5_share_29
  · skip
    refine lv_bipush (v := (-6)) hx hb dX5_share_10 (by decide) ?_
    refine lv_goto (tgt := 29) hx hb dX5_share_12 (by decide) ?_
    exact W.iret hx hb hr (fun t ht hW => ⟨_, rfl, (by unfold r_X5_share; rw [if_pos c_2]), ht⟩) (fun q hq => absurd hq List.not_mem_nil) dX5_share_29
