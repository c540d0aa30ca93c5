/-- the first cell of the class's world -/
theorem CW_at {cy : Nat → ClassId} {x la lv9 ls9 fa xh xs la2 lv92 ls92 fb fw bu ta : Nat} {rc re gb oc oe rs rc2 re2 gb2 oc2 oe2 rs2 rr : Nat → Nat} {ad : Nat → Nat → Nat} {T : LSt} {hz : Nat} {HZ : Nat → LSt} {len : Nat} {tx : Nat → Int} {W : va_W} (hW : CW cy x la lv9 ls9 fa xh xs la2 lv92 ls92 fb fw bu ta rc re gb oc oe rs rc2 re2 gb2 oc2 oe2 rs2 rr ad T hz HZ len tx W) : ∃ fs, W[0]? = some (x, .inr (7, fs)) := by
  obtain ⟨_, _, _, _, _, _, _, _, _, _, _, _, _, _, _, _, _, _, _, _, _, _, _, _, _, _, _, _, _, _, _, _, _, _, _, _, _, _, _, _, _, _, _, _, rfl, -⟩ := hW
  exact ⟨_, rfl⟩

set_option maxRecDepth 100000 in
set_option maxHeartbeats 4000000 in
theorem c_L_remove (l : Launch) (D : va_G) (cy : Nat → ClassId) (x la lv9 ls9 fa xh xs la2 lv92 ls92 fb fw bu ta : Nat) (rc re gb oc oe rs rc2 re2 gb2 oc2 oe2 rs2 rr : Nat → Nat) (ad : Nat → Nat → Nat) (T : LSt) (hz : Nat) (HZ : Nat → LSt) (len : Nat) (tx : Nat → Int) (W : va_W) (hG : gOk T) (hW : CW cy x la lv9 ls9 fa xh xs la2 lv92 ls92 fb fw bu ta rc re gb oc oe rs rc2 re2 gb2 oc2 oe2 rs2 rr ad T hz HZ len tx W) (oa : Nat) (g : Nat → Int64) (p0 : Int) (k : Nat) (hk : p0 = (k : Int) ∧ k < lN9 T) (sz : Nat) : qMet l yL_remove (.codeWith yL_remove cL_remove 4 (some .int) [(0, 9, 12, 13)]) 9 [.ref (x), .int (qI (p0)), .ref (oa)] D cy [W, [(oa, aJ cy 1 (g))]] sz (va_Qi (S := va_W) (fun r u => r = qI 0 ∧ CW cy x la lv9 ls9 fa xh xs la2 lv92 ls92 fb fw bu ta rc re gb oc oe rs rc2 re2 gb2 oc2 oe2 rs2 rr ad (seT (rmC T k)) (min (hz + 1) 8) (pushH T HZ) len tx u) (qB D cy [W, [(oa, aJ cy 1 (g))]] sz (fun u => [u, [(oa, aJ cy 1 (qu g 0 (qI (((fOC (filS T (-1)) k).toNat : Int))).toInt64))]])) (va_A [W, [(oa, aJ cy 1 (g))]].flatten sz)) := by
  refine q_ofMiW (S := va_W) (b1 := fun u => [u, [(oa, aJ cy 1 (qu g 0 (qI (((fOC (filS T (-1)) k).toNat : Int))).toInt64))]]) (post := fun r u => r = qI 0 ∧ CW cy x la lv9 ls9 fa xh xs la2 lv92 ls92 fb fw bu ta rc re gb oc oe rs rc2 re2 gb2 oc2 oe2 rs2 rr ad (seT (rmC T k)) (min (hz + 1) 8) (pushH T HZ) len tx u) (by decide +kernel) (Nat.le_of_ble_eq_true rfl) ?_
  intro p e s m args below meth c Q A hx hb hml hown hg hQ hK hN hD hA H locs ls hP hS hl
  have hown : s.vm.findClass RL = some m.cls := hown
  have hl : lv_has ls 4 [(0, .ref (x)), (1, .int (qI (p0))), (2, .ref (oa))] := hl
  obtain ⟨fs9, hfs9⟩ := CW_at hW
  refine lv_aload_n hx hb dL_remove_0 rfl (lv_at hl 2 rfl) ?_
  refine q_iconst hx hb dL_remove_1 ?_
  refine lv_aload_n hx hb dL_remove_2 rfl (lv_at hl 0 rfl) ?_
  refine lv_iload_n hx hb dL_remove_3 rfl (lv_at hl 1 rfl) ?_
  refine q_backi [0] [1] (br := [[(oa, aJ cy 1 (g))]]) hP hD hS hA (va_runV (As := [.int (qI (p0))]) (rest := [.int (qI (0)), .ref (oa)]) ⟨hx, hb, hml, hown, hg⟩ (c_X7_remove l D cy x la lv9 ls9 fa xh xs la2 lv92 ls92 fb fw bu ta rc re gb oc oe rs rc2 re2 gb2 oc2 oe2 rs2 rr ad T hz HZ len tx _ hG hW p0 k hk _) (cv_L_19 hg rfl rfl ⟨by decide, by decide⟩) ⟨q_blind, va_recv hK (fl_blk hP 0 rfl) (ci := 7) (q0 := 0) rfl hfs9, q_preM _ hK hN hP hD [0] (by decide) rfl⟩ rfl rfl hl.1 rfl (lv_room (Nat.le_of_ble_eq_true rfl)) dL_remove_4 ⟨by decide, by decide⟩) rfl rfl (by decide) (fun r_4 u_4 H locs h_4 hP hD hS => ?_)
  have hP : va_P D vwCl [[(oa, aJ cy 1 (g))], u_4].flatten H := hP
  have hD : va_D A [[(oa, aJ cy 1 (g))], u_4].flatten := hD
  obtain ⟨rfl, h_4⟩ := h_4
  refine lv_i2l hx hb dL_remove_7 rfl ?_
  refine qb_last (j := 0) hx hb hK hP hD hS 0 0 rfl rfl (by omega) dL_remove_8 (fun H locs hP hD hS => ?_)
  have hP : va_P D vwCl [[(oa, aJ cy 1 (qu g 0 ((qI (((fOC (filS T (-1)) k).toNat : Int))).toInt64)))], u_4].flatten H := hP
  have hD : va_D A [[(oa, aJ cy 1 (qu g 0 ((qI (((fOC (filS T (-1)) k).toNat : Int))).toInt64)))], u_4].flatten := hD
  refine lv_goto (tgt := 15) hx hb dL_remove_9 (by decide) ?_
  refine q_iconst hx hb dL_remove_15 ?_
  have hP := fl_sub (bs' := [u_4, [(oa, aJ cy 1 (qu g 0 ((qI (((fOC (filS T (-1)) k).toNat : Int))).toInt64)))]]) hP [1, 0] rfl
  have hD := fl_subD (bs' := [u_4, [(oa, aJ cy 1 (qu g 0 ((qI (((fOC (filS T (-1)) k).toNat : Int))).toInt64)))]]) hD [1, 0] (by decide) rfl
  exact hQ _ _ _ _ _ u_4 ⟨rfl, h_4⟩ hP hD hS dL_remove_16
