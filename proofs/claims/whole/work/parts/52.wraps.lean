/-- the first cell of the class's world -/
theorem CW_at {cy : Nat → ClassId} {x la lv9 ls9 fa xh xs la2 lv92 ls92 fb fw bu ta : Nat} {rc re gb oc oe rs rc2 re2 gb2 oc2 oe2 rs2 rr : Nat → Nat} {ad : Nat → Nat → Nat} {T : LSt} {hz : Nat} {HZ : Nat → LSt} {len : Nat} {tx : Nat → Int} {W : va_W} (hW : CW cy x la lv9 ls9 fa xh xs la2 lv92 ls92 fb fw bu ta rc re gb oc oe rs rc2 re2 gb2 oc2 oe2 rs2 rr ad T hz HZ len tx W) : ∃ fs, W[0]? = some (x, .inr (7, fs)) := by
  obtain ⟨_, _, _, _, _, _, _, _, _, _, _, _, _, _, _, _, _, _, _, _, _, _, _, _, _, _, _, _, _, _, _, _, _, _, _, _, _, _, _, _, _, _, _, _, rfl, -⟩ := hW
  exact ⟨_, rfl⟩

set_option maxRecDepth 100000 in
set_option maxHeartbeats 4000000 in
theorem c_L_remove (l : Launch) (D : va_G) (cy : Nat → ClassId) (x la lv9 ls9 fa xh xs la2 lv92 ls92 fb fw bu ta : Nat) (rc re gb oc oe rs rc2 re2 gb2 oc2 oe2 rs2 rr : Nat → Nat) (ad : Nat → Nat → Nat) (T : LSt) (hz : Nat) (HZ : Nat → LSt) (len : Nat) (tx : Nat → Int) (W : va_W) (hG : gOk T) (hW : CW cy x la lv9 ls9 fa xh xs la2 lv92 ls92 fb fw bu ta rc re gb oc oe rs rc2 re2 gb2 oc2 oe2 rs2 rr ad T hz HZ len tx W) (oa : Nat) (g : Nat → Int64) (p0 : Int) (k : Nat) (hk : p0 = (k : Int) ∧ k < lN9 T) (sz : Nat) : qMet l yL_remove (.codeWith yL_remove cL_remove 4 (some .int) [(0, 9, 12, 13)]) 9 [.ref (x), .int (qI (p0)), .ref (oa)] D cy [W, [(oa, aJ cy 1 (g))]] sz (va_Qi (S := va_W) (fun r u => r = qI 0 ∧ CW cy x la lv9 ls9 fa xh xs la2 lv92 ls92 fb fw bu ta rc re gb oc oe rs rc2 re2 gb2 oc2 oe2 rs2 rr ad (seT (rmC T k)) (min (hz + 1) 8) (pushH T HZ) len tx u) (qB D cy [W, [(oa, aJ cy 1 (g))]] sz (fun u => [u, [(oa, aJ cy 1 (qu g 0 (qI (((fOC (filS T (-1)) k).toNat : Int))).toInt64))]])) (va_A [W, [(oa, aJ cy 1 (g))]].flatten sz)) := by
  refine q_ofMiW (S := va_W) (b1 := fun u => [u, [(oa, aJ cy 1 (qu g 0 (qI (((fOC (filS T (-1)) k).toNat : Int))).toInt64))]]) (post := fun r u => r = qI 0 ∧ CW cy x la lv9 ls9 fa xh xs la2 lv92 ls92 fb fw bu ta rc re gb oc oe rs rc2 re2 gb2 oc2 oe2 rs2 rr ad (seT (rmC T k)) (min (hz + 1) 8) (pushH T HZ) len tx u) (by decide +kernel) (Nat.le_of_ble_eq_true rfl) ?_
  intro p e s m args below meth c Q A hx hb hml hown hg hQ hK hN hD hA H locs ls hP hS hl
  have hown : s.vm.findClass RL = some m.cls := hown
  have hl : lv_has ls 4 [(0, .ref (x)), (1, .int (qI (p0))), (2, .ref (oa))] := hl
  obtain ⟨fs9, hfs9⟩ := CW_at hW
  refine lv_aload_n hx hb dL_remove_0 rfl (lv_at hl 2 rfl) ?_
  refine q_iconst hx hb dL_remove_1 ?_
  refine lv_aload_n hx hb dL_remove_2 rfl (lv_at hl 0 rfl) ?_
  refine lv_iload_n hx hb dL_remove_3 rfl (lv_at hl 1 rfl) ?_
  refine q_backi [0] [1] (br := [[(oa, aJ cy 1 (g))]]) hP hD hS hA (va_runV (As := [.int (qI (p0))]) (rest := [.int (qI (0)), .ref (oa)]) ⟨hx, hb, hml, hown, hg⟩ (c_X7_remove l D cy x la lv9 ls9 fa xh xs la2 lv92 ls92 fb fw bu ta rc re gb oc oe rs rc2 re2 gb2 oc2 oe2 rs2 rr ad T hz HZ len tx _ hG hW p0 k hk _) (cv_L_19 hg rfl rfl ⟨by decide, by decide⟩) ⟨q_blind, va_recv hK (fl_blk hP 0 rfl) (ci := 7) (q0 := 0) rfl hfs9, q_preM _ hK hN hP hD [0] (by decide) rfl⟩ rfl rfl hl.1 rfl (lv_room (Nat.le_of_ble_eq_true rfl)) dL_remove_4 ⟨by decide, by decide⟩) rfl rfl (by decide) (fun r_4 u_4 H locs h_4 hP hD hS => ?_)
  have hP : va_P D vwCl [[(oa, aJ cy 1 (g))], u_4].flatten H := hP
  have hD : va_D A [[(oa, aJ cy 1 (g))], u_4].flatten := hD
  obtain ⟨rfl, h_4⟩ := h_4
  refine lv_i2l hx hb dL_remove_7 rfl ?_
  refine qb_last (j := 0) hx hb hK hP hD hS 0 0 rfl rfl (by omega) dL_remove_8 (fun H locs hP hD hS => ?_)
  have hP : va_P D vwCl [[(oa, aJ cy 1 (qu g 0 ((qI (((fOC (filS T (-1)) k).toNat : Int))).toInt64)))], u_4].flatten H := hP
  have hD : va_D A [[(oa, aJ cy 1 (qu g 0 ((qI (((fOC (filS T (-1)) k).toNat : Int))).toInt64)))], u_4].flatten := hD
  refine lv_goto (tgt := 15) hx hb dL_remove_9 (by decide) ?_
  refine q_iconst hx hb dL_remove_15 ?_
  have hP := fl_sub (bs' := [u_4, [(oa, aJ cy 1 (qu g 0 ((qI (((fOC (filS T (-1)) k).toNat : Int))).toInt64)))]]) hP [1, 0] rfl
  have hD := fl_subD (bs' := [u_4, [(oa, aJ cy 1 (qu g 0 ((qI (((fOC (filS T (-1)) k).toNat : Int))).toInt64)))]]) hD [1, 0] (by decide) rfl
  exact hQ _ _ _ _ _ u_4 ⟨rfl, h_4⟩ hP hD hS dL_remove_16

set_option maxRecDepth 100000 in
set_option maxHeartbeats 4000000 in
theorem c_L_add (l : Launch) (D : va_G) (cy : Nat → ClassId) (x la lv9 ls9 fa xh xs la2 lv92 ls92 fb fw bu ta : Nat) (rc re gb oc oe rs rc2 re2 gb2 oc2 oe2 rs2 rr : Nat → Nat) (ad : Nat → Nat → Nat) (T : LSt) (hz : Nat) (HZ : Nat → LSt) (len : Nat) (tx : Nat → Int) (W : va_W) (hG : gOk T) (hW : CW cy x la lv9 ls9 fa xh xs la2 lv92 ls92 fb fw bu ta rc re gb oc oe rs rc2 re2 gb2 oc2 oe2 rs2 rr ad T hz HZ len tx W) (oa : Nat) (g : Nat → Int64) (p0 p1 p2 p3 p4 : Int) (h0 : 0 ≤ p0 ∧ p0 ≤ 9) (h1 : p1 = -1 ∨ (0 ≤ p1 ∧ p1 ≤ 9 ∧ p1 ≠ p0)) (h2 : 0 ≤ p2 ∧ p2 ≤ 2) (h3 : -2000 ≤ p3 ∧ p3 ≤ 2000) (h4 : 0 ≤ p4 ∧ p4 ≤ 3) (hn : lN9 T < 16) (sz : Nat) : qMet l yL_add (.codeWith yL_add cL_add 8 (some .int) [(0, 16, 19, 13), (0, 16, 23, 15), (0, 16, 27, 17)]) 9 [.ref (x), .int (qI (p0)), .int (qI (p1)), .int (qI (p2)), .int (qI (p3)), .int (qI (p4)), .ref (oa)] D cy [W, [(oa, aJ cy 1 (g))]] sz (va_Qi (S := va_W) (fun r u => r = qI 0 ∧ CW cy x la lv9 ls9 fa xh xs la2 lv92 ls92 fb fw bu ta rc re gb oc oe rs rc2 re2 gb2 oc2 oe2 rs2 rr ad (seT (adC T p0 p1 p2 p3 p4)) (min (hz + 1) 8) (pushH T HZ) len tx u) (qB D cy [W, [(oa, aJ cy 1 (g))]] sz (fun u => [u, [(oa, aJ cy 1 (qu g 0 (qI ((lN9 T : Int))).toInt64))]])) (va_A [W, [(oa, aJ cy 1 (g))]].flatten sz)) := by
  refine q_ofMiW (S := va_W) (b1 := fun u => [u, [(oa, aJ cy 1 (qu g 0 (qI ((lN9 T : Int))).toInt64))]]) (post := fun r u => r = qI 0 ∧ CW cy x la lv9 ls9 fa xh xs la2 lv92 ls92 fb fw bu ta rc re gb oc oe rs rc2 re2 gb2 oc2 oe2 rs2 rr ad (seT (adC T p0 p1 p2 p3 p4)) (min (hz + 1) 8) (pushH T HZ) len tx u) (by decide +kernel) (Nat.le_of_ble_eq_true rfl) ?_
  intro p e s m args below meth c Q A hx hb hml hown hg hQ hK hN hD hA H locs ls hP hS hl
  have hown : s.vm.findClass RL = some m.cls := hown
  have hl : lv_has ls 8 [(0, .ref (x)), (1, .int (qI (p0))), (2, .int (qI (p1))), (3, .int (qI (p2))), (4, .int (qI (p3))), (5, .int (qI (p4))), (6, .ref (oa))] := hl
  obtain ⟨fs9, hfs9⟩ := CW_at hW
  refine lv_aload hx hb dL_add_0 (lv_at hl 6 rfl) ?_
  refine q_iconst hx hb dL_add_2 ?_
  refine lv_aload_n hx hb dL_add_3 rfl (lv_at hl 0 rfl) ?_
  refine lv_iload_n hx hb dL_add_4 rfl (lv_at hl 1 rfl) ?_
  refine lv_iload_n hx hb dL_add_5 rfl (lv_at hl 2 rfl) ?_
  refine lv_iload_n hx hb dL_add_6 rfl (lv_at hl 3 rfl) ?_
  refine lv_iload hx hb dL_add_7 (lv_at hl 4 rfl) ?_
  refine lv_iload hx hb dL_add_9 (lv_at hl 5 rfl) ?_
  refine q_backi [0] [1] (br := [[(oa, aJ cy 1 (g))]]) hP hD hS hA (va_runV (As := [.int (qI (p0)), .int (qI (p1)), .int (qI (p2)), .int (qI (p3)), .int (qI (p4))]) (rest := [.int (qI (0)), .ref (oa)]) ⟨hx, hb, hml, hown, hg⟩ (c_X7_add l D cy x la lv9 ls9 fa xh xs la2 lv92 ls92 fb fw bu ta rc re gb oc oe rs rc2 re2 gb2 oc2 oe2 rs2 rr ad T hz HZ len tx _ hG hW p0 p1 p2 p3 p4 h0 h1 h2 h3 h4 hn _) (cv_L_7 hg rfl rfl ⟨by decide, by decide⟩) ⟨q_blind, va_recv hK (fl_blk hP 0 rfl) (ci := 7) (q0 := 0) rfl hfs9, q_preM _ hK hN hP hD [0] (by decide) rfl⟩ rfl rfl hl.1 rfl (lv_room (Nat.le_of_ble_eq_true rfl)) dL_add_11 ⟨by decide, by decide⟩) rfl rfl (by decide) (fun r_11 u_11 H locs h_11 hP hD hS => ?_)
  have hP : va_P D vwCl [[(oa, aJ cy 1 (g))], u_11].flatten H := hP
  have hD : va_D A [[(oa, aJ cy 1 (g))], u_11].flatten := hD
  obtain ⟨rfl, h_11⟩ := h_11
  refine lv_i2l hx hb dL_add_14 rfl ?_
  refine qb_last (j := 0) hx hb hK hP hD hS 0 0 rfl rfl (by omega) dL_add_15 (fun H locs hP hD hS => ?_)
  have hP : va_P D vwCl [[(oa, aJ cy 1 (qu g 0 ((qI ((lN9 T : Int))).toInt64)))], u_11].flatten H := hP
  have hD : va_D A [[(oa, aJ cy 1 (qu g 0 ((qI ((lN9 T : Int))).toInt64)))], u_11].flatten := hD
  refine lv_goto (tgt := 31) hx hb dL_add_16 (by decide) ?_
  refine q_iconst hx hb dL_add_31 ?_
  have hP := fl_sub (bs' := [u_11, [(oa, aJ cy 1 (qu g 0 ((qI ((lN9 T : Int))).toInt64)))]]) hP [1, 0] rfl
  have hD := fl_subD (bs' := [u_11, [(oa, aJ cy 1 (qu g 0 ((qI ((lN9 T : Int))).toInt64)))]]) hD [1, 0] (by decide) rfl
  exact hQ _ _ _ _ _ u_11 ⟨rfl, h_11⟩ hP hD hS dL_add_32

set_option maxRecDepth 100000 in
set_option maxHeartbeats 4000000 in
theorem c_L_setStrength (l : Launch) (D : va_G) (cy : Nat → ClassId) (x la lv9 ls9 fa xh xs la2 lv92 ls92 fb fw bu ta : Nat) (rc re gb oc oe rs rc2 re2 gb2 oc2 oe2 rs2 rr : Nat → Nat) (ad : Nat → Nat → Nat) (T : LSt) (hz : Nat) (HZ : Nat → LSt) (len : Nat) (tx : Nat → Int) (W : va_W) (hG : gOk T) (hW : CW cy x la lv9 ls9 fa xh xs la2 lv92 ls92 fb fw bu ta rc re gb oc oe rs rc2 re2 gb2 oc2 oe2 rs2 rr ad T hz HZ len tx W) (oa : Nat) (g : Nat → Int64) (p0 p1 : Int) (k : Nat) (hk : p0 = (k : Int) ∧ k < lN9 T) (hz9 : 0 ≤ p1 ∧ p1 ≤ 3) (sz : Nat) : qMet l yL_setStrength (.codeWith yL_setStrength cL_setStrength 5 (some .int) [(0, 10, 13, 13), (0, 10, 17, 15)]) 9 [.ref (x), .int (qI (p0)), .int (qI (p1)), .ref (oa)] D cy [W, [(oa, aJ cy 1 (g))]] sz (va_Qi (S := va_W) (fun r u => r = qI 0 ∧ CW cy x la lv9 ls9 fa xh xs la2 lv92 ls92 fb fw bu ta rc re gb oc oe rs rc2 re2 gb2 oc2 oe2 rs2 rr ad (seT (chC T 4 k p1)) (min (hz + 1) 8) (pushH T HZ) len tx u) (qB D cy [W, [(oa, aJ cy 1 (g))]] sz (fun u => [u, [(oa, aJ cy 1 (qu g 0 (qI (lC T 4 k)).toInt64))]])) (va_A [W, [(oa, aJ cy 1 (g))]].flatten sz)) := by
  refine q_ofMiW (S := va_W) (b1 := fun u => [u, [(oa, aJ cy 1 (qu g 0 (qI (lC T 4 k)).toInt64))]]) (post := fun r u => r = qI 0 ∧ CW cy x la lv9 ls9 fa xh xs la2 lv92 ls92 fb fw bu ta rc re gb oc oe rs rc2 re2 gb2 oc2 oe2 rs2 rr ad (seT (chC T 4 k p1)) (min (hz + 1) 8) (pushH T HZ) len tx u) (by decide +kernel) (Nat.le_of_ble_eq_true rfl) ?_
  intro p e s m args below meth c Q A hx hb hml hown hg hQ hK hN hD hA H locs ls hP hS hl
  have hown : s.vm.findClass RL = some m.cls := hown
  have hl : lv_has ls 5 [(0, .ref (x)), (1, .int (qI (p0))), (2, .int (qI (p1))), (3, .ref (oa))] := hl
  obtain ⟨fs9, hfs9⟩ := CW_at hW
  refine lv_aload_n hx hb dL_setStrength_0 rfl (lv_at hl 3 rfl) ?_
  refine q_iconst hx hb dL_setStrength_1 ?_
  refine lv_aload_n hx hb dL_setStrength_2 rfl (lv_at hl 0 rfl) ?_
  refine lv_iload_n hx hb dL_setStrength_3 rfl (lv_at hl 1 rfl) ?_
  refine lv_iload_n hx hb dL_setStrength_4 rfl (lv_at hl 2 rfl) ?_
  refine q_backi [0] [1] (br := [[(oa, aJ cy 1 (g))]]) hP hD hS hA (va_runV (As := [.int (qI (p0)), .int (qI (p1))]) (rest := [.int (qI (0)), .ref (oa)]) ⟨hx, hb, hml, hown, hg⟩ (c_X7_setStrength l D cy x la lv9 ls9 fa xh xs la2 lv92 ls92 fb fw bu ta rc re gb oc oe rs rc2 re2 gb2 oc2 oe2 rs2 rr ad T hz HZ len tx _ hG hW p0 p1 k hk hz9 _) (cv_L_23 hg rfl rfl ⟨by decide, by decide⟩) ⟨q_blind, va_recv hK (fl_blk hP 0 rfl) (ci := 7) (q0 := 0) rfl hfs9, q_preM _ hK hN hP hD [0] (by decide) rfl⟩ rfl rfl hl.1 rfl (lv_room (Nat.le_of_ble_eq_true rfl)) dL_setStrength_5 ⟨by decide, by decide⟩) rfl rfl (by decide) (fun r_5 u_5 H locs h_5 hP hD hS => ?_)
  have hP : va_P D vwCl [[(oa, aJ cy 1 (g))], u_5].flatten H := hP
  have hD : va_D A [[(oa, aJ cy 1 (g))], u_5].flatten := hD
  obtain ⟨rfl, h_5⟩ := h_5
  refine lv_i2l hx hb dL_setStrength_8 rfl ?_
  refine qb_last (j := 0) hx hb hK hP hD hS 0 0 rfl rfl (by omega) dL_setStrength_9 (fun H locs hP hD hS => ?_)
  have hP : va_P D vwCl [[(oa, aJ cy 1 (qu g 0 ((qI (lC T 4 k)).toInt64)))], u_5].flatten H := hP
  have hD : va_D A [[(oa, aJ cy 1 (qu g 0 ((qI (lC T 4 k)).toInt64)))], u_5].flatten := hD
  refine lv_goto (tgt := 21) hx hb dL_setStrength_10 (by decide) ?_
  refine q_iconst hx hb dL_setStrength_21 ?_
  have hP := fl_sub (bs' := [u_5, [(oa, aJ cy 1 (qu g 0 ((qI (lC T 4 k)).toInt64)))]]) hP [1, 0] rfl
  have hD := fl_subD (bs' := [u_5, [(oa, aJ cy 1 (qu g 0 ((qI (lC T 4 k)).toInt64)))]]) hD [1, 0] (by decide) rfl
  exact hQ _ _ _ _ _ u_5 ⟨rfl, h_5⟩ hP hD hS dL_setStrength_22

set_option maxRecDepth 100000 in
set_option maxHeartbeats 4000000 in
theorem c_L_setNumber (l : Launch) (D : va_G) (cy : Nat → ClassId) (x la lv9 ls9 fa xh xs la2 lv92 ls92 fb fw bu ta : Nat) (rc re gb oc oe rs rc2 re2 gb2 oc2 oe2 rs2 rr : Nat → Nat) (ad : Nat → Nat → Nat) (T : LSt) (hz : Nat) (HZ : Nat → LSt) (len : Nat) (tx : Nat → Int) (W : va_W) (hG : gOk T) (hW : CW cy x la lv9 ls9 fa xh xs la2 lv92 ls92 fb fw bu ta rc re gb oc oe rs rc2 re2 gb2 oc2 oe2 rs2 rr ad T hz HZ len tx W) (oa : Nat) (g : Nat → Int64) (p0 p1 : Int) (k : Nat) (hk : p0 = (k : Int) ∧ k < lN9 T) (hz9 : -2000 ≤ p1 ∧ p1 ≤ 2000) (sz : Nat) : qMet l yL_setNumber (.codeWith yL_setNumber cL_setNumber 5 (some .int) [(0, 10, 13, 13), (0, 10, 17, 15)]) 9 [.ref (x), .int (qI (p0)), .int (qI (p1)), .ref (oa)] D cy [W, [(oa, aJ cy 1 (g))]] sz (va_Qi (S := va_W) (fun r u => r = qI 0 ∧ CW cy x la lv9 ls9 fa xh xs la2 lv92 ls92 fb fw bu ta rc re gb oc oe rs rc2 re2 gb2 oc2 oe2 rs2 rr ad (seT (chC T 3 k p1)) (min (hz + 1) 8) (pushH T HZ) len tx u) (qB D cy [W, [(oa, aJ cy 1 (g))]] sz (fun u => [u, [(oa, aJ cy 1 (qu g 0 (qI (lC T 3 k)).toInt64))]])) (va_A [W, [(oa, aJ cy 1 (g))]].flatten sz)) := by
  refine q_ofMiW (S := va_W) (b1 := fun u => [u, [(oa, aJ cy 1 (qu g 0 (qI (lC T 3 k)).toInt64))]]) (post := fun r u => r = qI 0 ∧ CW cy x la lv9 ls9 fa xh xs la2 lv92 ls92 fb fw bu ta rc re gb oc oe rs rc2 re2 gb2 oc2 oe2 rs2 rr ad (seT (chC T 3 k p1)) (min (hz + 1) 8) (pushH T HZ) len tx u) (by decide +kernel) (Nat.le_of_ble_eq_true rfl) ?_
  intro p e s m args below meth c Q A hx hb hml hown hg hQ hK hN hD hA H locs ls hP hS hl
  have hown : s.vm.findClass RL = some m.cls := hown
  have hl : lv_has ls 5 [(0, .ref (x)), (1, .int (qI (p0))), (2, .int (qI (p1))), (3, .ref (oa))] := hl
  obtain ⟨fs9, hfs9⟩ := CW_at hW
  refine lv_aload_n hx hb dL_setNumber_0 rfl (lv_at hl 3 rfl) ?_
  refine q_iconst hx hb dL_setNumber_1 ?_
  refine lv_aload_n hx hb dL_setNumber_2 rfl (lv_at hl 0 rfl) ?_
  refine lv_iload_n hx hb dL_setNumber_3 rfl (lv_at hl 1 rfl) ?_
  refine lv_iload_n hx hb dL_setNumber_4 rfl (lv_at hl 2 rfl) ?_
  refine q_backi [0] [1] (br := [[(oa, aJ cy 1 (g))]]) hP hD hS hA (va_runV (As := [.int (qI (p0)), .int (qI (p1))]) (rest := [.int (qI (0)), .ref (oa)]) ⟨hx, hb, hml, hown, hg⟩ (c_X7_setNumber l D cy x la lv9 ls9 fa xh xs la2 lv92 ls92 fb fw bu ta rc re gb oc oe rs rc2 re2 gb2 oc2 oe2 rs2 rr ad T hz HZ len tx _ hG hW p0 p1 k hk hz9 _) (cv_L_27 hg rfl rfl ⟨by decide, by decide⟩) ⟨q_blind, va_recv hK (fl_blk hP 0 rfl) (ci := 7) (q0 := 0) rfl hfs9, q_preM _ hK hN hP hD [0] (by decide) rfl⟩ rfl rfl hl.1 rfl (lv_room (Nat.le_of_ble_eq_true rfl)) dL_setNumber_5 ⟨by decide, by decide⟩) rfl rfl (by decide) (fun r_5 u_5 H locs h_5 hP hD hS => ?_)
  have hP : va_P D vwCl [[(oa, aJ cy 1 (g))], u_5].flatten H := hP
  have hD : va_D A [[(oa, aJ cy 1 (g))], u_5].flatten := hD
  obtain ⟨rfl, h_5⟩ := h_5
  refine lv_i2l hx hb dL_setNumber_8 rfl ?_
  refine qb_last (j := 0) hx hb hK hP hD hS 0 0 rfl rfl (by omega) dL_setNumber_9 (fun H locs hP hD hS => ?_)
  have hP : va_P D vwCl [[(oa, aJ cy 1 (qu g 0 ((qI (lC T 3 k)).toInt64)))], u_5].flatten H := hP
  have hD : va_D A [[(oa, aJ cy 1 (qu g 0 ((qI (lC T 3 k)).toInt64)))], u_5].flatten := hD
  refine lv_goto (tgt := 21) hx hb dL_setNumber_10 (by decide) ?_
  refine q_iconst hx hb dL_setNumber_21 ?_
  have hP := fl_sub (bs' := [u_5, [(oa, aJ cy 1 (qu g 0 ((qI (lC T 3 k)).toInt64)))]]) hP [1, 0] rfl
  have hD := fl_subD (bs' := [u_5, [(oa, aJ cy 1 (qu g 0 ((qI (lC T 3 k)).toInt64)))]]) hD [1, 0] (by decide) rfl
  exact hQ _ _ _ _ _ u_5 ⟨rfl, h_5⟩ hP hD hS dL_setNumber_22

set_option maxRecDepth 100000 in
set_option maxHeartbeats 4000000 in
theorem c_L_setStay (l : Launch) (D : va_G) (cy : Nat → ClassId) (x la lv9 ls9 fa xh xs la2 lv92 ls92 fb fw bu ta : Nat) (rc re gb oc oe rs rc2 re2 gb2 oc2 oe2 rs2 rr : Nat → Nat) (ad : Nat → Nat → Nat) (T : LSt) (hz : Nat) (HZ : Nat → LSt) (len : Nat) (tx : Nat → Int) (W : va_W) (hG : gOk T) (hW : CW cy x la lv9 ls9 fa xh xs la2 lv92 ls92 fb fw bu ta rc re gb oc oe rs rc2 re2 gb2 oc2 oe2 rs2 rr ad T hz HZ len tx W) (oa : Nat) (g : Nat → Int64) (p0 p1 : Int) (k : Nat) (hk : p0 = (k : Int) ∧ k < 10) (hz9 : 0 ≤ p1 ∧ p1 ≤ 9) (sz : Nat) : qMet l yL_setStay (.codeWith yL_setStay cL_setStay 5 (some .int) [(0, 10, 13, 13), (0, 10, 17, 15)]) 9 [.ref (x), .int (qI (p0)), .int (qI (p1)), .ref (oa)] D cy [W, [(oa, aJ cy 1 (g))]] sz (va_Qi (S := va_W) (fun r u => r = qI 0 ∧ CW cy x la lv9 ls9 fa xh xs la2 lv92 ls92 fb fw bu ta rc re gb oc oe rs rc2 re2 gb2 oc2 oe2 rs2 rr ad (seT (chT T k p1)) (min (hz + 1) 8) (pushH T HZ) len tx u) (qB D cy [W, [(oa, aJ cy 1 (g))]] sz (fun u => [u, [(oa, aJ cy 1 (qu g 0 (qI (lT T k)).toInt64))]])) (va_A [W, [(oa, aJ cy 1 (g))]].flatten sz)) := by
  refine q_ofMiW (S := va_W) (b1 := fun u => [u, [(oa, aJ cy 1 (qu g 0 (qI (lT T k)).toInt64))]]) (post := fun r u => r = qI 0 ∧ CW cy x la lv9 ls9 fa xh xs la2 lv92 ls92 fb fw bu ta rc re gb oc oe rs rc2 re2 gb2 oc2 oe2 rs2 rr ad (seT (chT T k p1)) (min (hz + 1) 8) (pushH T HZ) len tx u) (by decide +kernel) (Nat.le_of_ble_eq_true rfl) ?_
  intro p e s m args below meth c Q A hx hb hml hown hg hQ hK hN hD hA H locs ls hP hS hl
  have hown : s.vm.findClass RL = some m.cls := hown
  have hl : lv_has ls 5 [(0, .ref (x)), (1, .int (qI (p0))), (2, .int (qI (p1))), (3, .ref (oa))] := hl
  obtain ⟨fs9, hfs9⟩ := CW_at hW
  refine lv_aload_n hx hb dL_setStay_0 rfl (lv_at hl 3 rfl) ?_
  refine q_iconst hx hb dL_setStay_1 ?_
  refine lv_aload_n hx hb dL_setStay_2 rfl (lv_at hl 0 rfl) ?_
  refine lv_iload_n hx hb dL_setStay_3 rfl (lv_at hl 1 rfl) ?_
  refine lv_iload_n hx hb dL_setStay_4 rfl (lv_at hl 2 rfl) ?_
  refine q_backi [0] [1] (br := [[(oa, aJ cy 1 (g))]]) hP hD hS hA (va_runV (As := [.int (qI (p0)), .int (qI (p1))]) (rest := [.int (qI (0)), .ref (oa)]) ⟨hx, hb, hml, hown, hg⟩ (c_X7_setStay l D cy x la lv9 ls9 fa xh xs la2 lv92 ls92 fb fw bu ta rc re gb oc oe rs rc2 re2 gb2 oc2 oe2 rs2 rr ad T hz HZ len tx _ hG hW p0 p1 k hk hz9 _) (cv_L_30 hg rfl rfl ⟨by decide, by decide⟩) ⟨q_blind, va_recv hK (fl_blk hP 0 rfl) (ci := 7) (q0 := 0) rfl hfs9, q_preM _ hK hN hP hD [0] (by decide) rfl⟩ rfl rfl hl.1 rfl (lv_room (Nat.le_of_ble_eq_true rfl)) dL_setStay_5 ⟨by decide, by decide⟩) rfl rfl (by decide) (fun r_5 u_5 H locs h_5 hP hD hS => ?_)
  have hP : va_P D vwCl [[(oa, aJ cy 1 (g))], u_5].flatten H := hP
  have hD : va_D A [[(oa, aJ cy 1 (g))], u_5].flatten := hD
  obtain ⟨rfl, h_5⟩ := h_5
  refine lv_i2l hx hb dL_setStay_8 rfl ?_
  refine qb_last (j := 0) hx hb hK hP hD hS 0 0 rfl rfl (by omega) dL_setStay_9 (fun H locs hP hD hS => ?_)
  have hP : va_P D vwCl [[(oa, aJ cy 1 (qu g 0 ((qI (lT T k)).toInt64)))], u_5].flatten H := hP
  have hD : va_D A [[(oa, aJ cy 1 (qu g 0 ((qI (lT T k)).toInt64)))], u_5].flatten := hD
  refine lv_goto (tgt := 21) hx hb dL_setStay_10 (by decide) ?_
  refine q_iconst hx hb dL_setStay_21 ?_
  have hP := fl_sub (bs' := [u_5, [(oa, aJ cy 1 (qu g 0 ((qI (lT T k)).toInt64)))]]) hP [1, 0] rfl
  have hD := fl_subD (bs' := [u_5, [(oa, aJ cy 1 (qu g 0 ((qI (lT T k)).toInt64)))]]) hD [1, 0] (by decide) rfl
  exact hQ _ _ _ _ _ u_5 ⟨rfl, h_5⟩ hP hD hS dL_setStay_22

set_option maxRecDepth 100000 in
set_option maxHeartbeats 4000000 in
theorem c_L_edit (l : Launch) (D : va_G) (cy : Nat → ClassId) (x la lv9 ls9 fa xh xs la2 lv92 ls92 fb fw bu ta : Nat) (rc re gb oc oe rs rc2 re2 gb2 oc2 oe2 rs2 rr : Nat → Nat) (ad : Nat → Nat → Nat) (T : LSt) (hz : Nat) (HZ : Nat → LSt) (len : Nat) (tx : Nat → Int) (W : va_W) (hG : gOk T) (hW : CW cy x la lv9 ls9 fa xh xs la2 lv92 ls92 fb fw bu ta rc re gb oc oe rs rc2 re2 gb2 oc2 oe2 rs2 rr ad T hz HZ len tx W) (oa : Nat) (g : Nat → Int64) (p0 p1 p2 : Int) (k : Nat) (hk : p0 = (k : Int) ∧ k < 10) (h1 : -1000 ≤ p1 ∧ p1 ≤ 1000) (h2 : 0 ≤ p2 ∧ p2 ≤ 3) (hn : edOf (lE T) p0 (lM T) ≠ -1 ∨ lM T < 3) (sz : Nat) : qMet l yL_edit (.codeWith yL_edit cL_edit 6 (some .int) [(0, 12, 15, 13), (0, 12, 19, 15), (0, 12, 23, 17)]) 9 [.ref (x), .int (qI (p0)), .int (qI (p1)), .int (qI (p2)), .ref (oa)] D cy [W, [(oa, aJ cy 1 (g))]] sz (va_Qi (S := va_W) (fun r u => r = qI 0 ∧ CW cy x la lv9 ls9 fa xh xs la2 lv92 ls92 fb fw bu ta rc re gb oc oe rs rc2 re2 gb2 oc2 oe2 rs2 rr ad (seT (adE T p0 p1 p2)) (min (hz + 1) 8) (pushH T HZ) len tx u) (qB D cy [W, [(oa, aJ cy 1 (g))]] sz (fun u => [u, [(oa, aJ cy 1 (qu g 0 (qI (lV (seT (adE T p0 p1 p2)) k)).toInt64))]])) (va_A [W, [(oa, aJ cy 1 (g))]].flatten sz)) := by
  refine q_ofMiW (S := va_W) (b1 := fun u => [u, [(oa, aJ cy 1 (qu g 0 (qI (lV (seT (adE T p0 p1 p2)) k)).toInt64))]]) (post := fun r u => r = qI 0 ∧ CW cy x la lv9 ls9 fa xh xs la2 lv92 ls92 fb fw bu ta rc re gb oc oe rs rc2 re2 gb2 oc2 oe2 rs2 rr ad (seT (adE T p0 p1 p2)) (min (hz + 1) 8) (pushH T HZ) len tx u) (by decide +kernel) (Nat.le_of_ble_eq_true rfl) ?_
  intro p e s m args below meth c Q A hx hb hml hown hg hQ hK hN hD hA H locs ls hP hS hl
  have hown : s.vm.findClass RL = some m.cls := hown
  have hl : lv_has ls 6 [(0, .ref (x)), (1, .int (qI (p0))), (2, .int (qI (p1))), (3, .int (qI (p2))), (4, .ref (oa))] := hl
  obtain ⟨fs9, hfs9⟩ := CW_at hW
  refine lv_aload hx hb dL_edit_0 (lv_at hl 4 rfl) ?_
  refine q_iconst hx hb dL_edit_2 ?_
  refine lv_aload_n hx hb dL_edit_3 rfl (lv_at hl 0 rfl) ?_
  refine lv_iload_n hx hb dL_edit_4 rfl (lv_at hl 1 rfl) ?_
  refine lv_iload_n hx hb dL_edit_5 rfl (lv_at hl 2 rfl) ?_
  refine lv_iload_n hx hb dL_edit_6 rfl (lv_at hl 3 rfl) ?_
  refine q_backi [0] [1] (br := [[(oa, aJ cy 1 (g))]]) hP hD hS hA (va_runV (As := [.int (qI (p0)), .int (qI (p1)), .int (qI (p2))]) (rest := [.int (qI (0)), .ref (oa)]) ⟨hx, hb, hml, hown, hg⟩ (c_X7_edit l D cy x la lv9 ls9 fa xh xs la2 lv92 ls92 fb fw bu ta rc re gb oc oe rs rc2 re2 gb2 oc2 oe2 rs2 rr ad T hz HZ len tx _ hG hW p0 p1 p2 k hk h1 h2 hn _) (cv_L_33 hg rfl rfl ⟨by decide, by decide⟩) ⟨q_blind, va_recv hK (fl_blk hP 0 rfl) (ci := 7) (q0 := 0) rfl hfs9, q_preM _ hK hN hP hD [0] (by decide) rfl⟩ rfl rfl hl.1 rfl (lv_room (Nat.le_of_ble_eq_true rfl)) dL_edit_7 ⟨by decide, by decide⟩) rfl rfl (by decide) (fun r_7 u_7 H locs h_7 hP hD hS => ?_)
  have hP : va_P D vwCl [[(oa, aJ cy 1 (g))], u_7].flatten H := hP
  have hD : va_D A [[(oa, aJ cy 1 (g))], u_7].flatten := hD
  obtain ⟨rfl, h_7⟩ := h_7
  refine lv_i2l hx hb dL_edit_10 rfl ?_
  refine qb_last (j := 0) hx hb hK hP hD hS 0 0 rfl rfl (by omega) dL_edit_11 (fun H locs hP hD hS => ?_)
  have hP : va_P D vwCl [[(oa, aJ cy 1 (qu g 0 ((qI (lV (seT (adE T p0 p1 p2)) k)).toInt64)))], u_7].flatten H := hP
  have hD : va_D A [[(oa, aJ cy 1 (qu g 0 ((qI (lV (seT (adE T p0 p1 p2)) k)).toInt64)))], u_7].flatten := hD
  refine lv_goto (tgt := 27) hx hb dL_edit_12 (by decide) ?_
  refine q_iconst hx hb dL_edit_27 ?_
  have hP := fl_sub (bs' := [u_7, [(oa, aJ cy 1 (qu g 0 ((qI (lV (seT (adE T p0 p1 p2)) k)).toInt64)))]]) hP [1, 0] rfl
  have hD := fl_subD (bs' := [u_7, [(oa, aJ cy 1 (qu g 0 ((qI (lV (seT (adE T p0 p1 p2)) k)).toInt64)))]]) hD [1, 0] (by decide) rfl
  exact hQ _ _ _ _ _ u_7 ⟨rfl, h_7⟩ hP hD hS dL_edit_28

set_option maxRecDepth 100000 in
set_option maxHeartbeats 4000000 in
theorem c_L_settleFrom (l : Launch) (D : va_G) (cy : Nat → ClassId) (x la lv9 ls9 fa xh xs la2 lv92 ls92 fb fw bu ta : Nat) (rc re gb oc oe rs rc2 re2 gb2 oc2 oe2 rs2 rr : Nat → Nat) (ad : Nat → Nat → Nat) (T : LSt) (hz : Nat) (HZ : Nat → LSt) (len : Nat) (tx : Nat → Int) (W : va_W) (hG : gOk T) (hW : CW cy x la lv9 ls9 fa xh xs la2 lv92 ls92 fb fw bu ta rc re gb oc oe rs rc2 re2 gb2 oc2 oe2 rs2 rr ad T hz HZ len tx W) (oa : Nat) (g : Nat → Int64) (p0 : Int) (h0 : -1000 ≤ p0 ∧ p0 ≤ 1000) (sz : Nat) : qMet l yL_settleFrom (.codeWith yL_settleFrom cL_settleFrom 4 (some .int) [(0, 9, 12, 15)]) 9 [.ref (x), .int (qI (p0)), .ref (oa)] D cy [W, [(oa, aJ cy 1 (g))]] sz (va_Qi (S := va_W) (fun r u => r = qI 0 ∧ CW cy x la lv9 ls9 fa xh xs la2 lv92 ls92 fb fw bu ta rc re gb oc oe rs rc2 re2 gb2 oc2 oe2 rs2 rr ad (seT (frV T p0)) (min (hz + 1) 8) (pushH T HZ) len tx u) (qB D cy [W, [(oa, aJ cy 1 (g))]] sz (fun u => [u, [(oa, aJ cy 1 (qu g 0 (qI (((cnt (fun i => decide (lV (seT (frV T p0)) i ≠ p0)) 10 : Nat) : Int))).toInt64))]])) (va_A [W, [(oa, aJ cy 1 (g))]].flatten sz)) := by
  refine q_ofMiW (S := va_W) (b1 := fun u => [u, [(oa, aJ cy 1 (qu g 0 (qI (((cnt (fun i => decide (lV (seT (frV T p0)) i ≠ p0)) 10 : Nat) : Int))).toInt64))]]) (post := fun r u => r = qI 0 ∧ CW cy x la lv9 ls9 fa xh xs la2 lv92 ls92 fb fw bu ta rc re gb oc oe rs rc2 re2 gb2 oc2 oe2 rs2 rr ad (seT (frV T p0)) (min (hz + 1) 8) (pushH T HZ) len tx u) (by decide +kernel) (Nat.le_of_ble_eq_true rfl) ?_
  intro p e s m args below meth c Q A hx hb hml hown hg hQ hK hN hD hA H locs ls hP hS hl
  have hown : s.vm.findClass RL = some m.cls := hown
  have hl : lv_has ls 4 [(0, .ref (x)), (1, .int (qI (p0))), (2, .ref (oa))] := hl
  obtain ⟨fs9, hfs9⟩ := CW_at hW
  refine lv_aload_n hx hb dL_settleFrom_0 rfl (lv_at hl 2 rfl) ?_
  refine q_iconst hx hb dL_settleFrom_1 ?_
  refine lv_aload_n hx hb dL_settleFrom_2 rfl (lv_at hl 0 rfl) ?_
  refine lv_iload_n hx hb dL_settleFrom_3 rfl (lv_at hl 1 rfl) ?_
  refine q_backi [0] [1] (br := [[(oa, aJ cy 1 (g))]]) hP hD hS hA (va_runV (As := [.int (qI (p0))]) (rest := [.int (qI (0)), .ref (oa)]) ⟨hx, hb, hml, hown, hg⟩ (c_X7_settleFrom l D cy x la lv9 ls9 fa xh xs la2 lv92 ls92 fb fw bu ta rc re gb oc oe rs rc2 re2 gb2 oc2 oe2 rs2 rr ad T hz HZ len tx _ hG hW p0 h0 _) (cv_L_37 hg rfl rfl ⟨by decide, by decide⟩) ⟨q_blind, va_recv hK (fl_blk hP 0 rfl) (ci := 7) (q0 := 0) rfl hfs9, q_preM _ hK hN hP hD [0] (by decide) rfl⟩ rfl rfl hl.1 rfl (lv_room (Nat.le_of_ble_eq_true rfl)) dL_settleFrom_4 ⟨by decide, by decide⟩) rfl rfl (by decide) (fun r_4 u_4 H locs h_4 hP hD hS => ?_)
  have hP : va_P D vwCl [[(oa, aJ cy 1 (g))], u_4].flatten H := hP
  have hD : va_D A [[(oa, aJ cy 1 (g))], u_4].flatten := hD
  obtain ⟨rfl, h_4⟩ := h_4
  refine lv_i2l hx hb dL_settleFrom_7 rfl ?_
  refine qb_last (j := 0) hx hb hK hP hD hS 0 0 rfl rfl (by omega) dL_settleFrom_8 (fun H locs hP hD hS => ?_)
  have hP : va_P D vwCl [[(oa, aJ cy 1 (qu g 0 ((qI (((cnt (fun i => decide (lV (seT (frV T p0)) i ≠ p0)) 10 : Nat) : Int))).toInt64)))], u_4].flatten H := hP
  have hD : va_D A [[(oa, aJ cy 1 (qu g 0 ((qI (((cnt (fun i => decide (lV (seT (frV T p0)) i ≠ p0)) 10 : Nat) : Int))).toInt64)))], u_4].flatten := hD
  refine lv_goto (tgt := 15) hx hb dL_settleFrom_9 (by decide) ?_
  refine q_iconst hx hb dL_settleFrom_15 ?_
  have hP := fl_sub (bs' := [u_4, [(oa, aJ cy 1 (qu g 0 ((qI (((cnt (fun i => decide (lV (seT (frV T p0)) i ≠ p0)) 10 : Nat) : Int))).toInt64)))]]) hP [1, 0] rfl
  have hD := fl_subD (bs' := [u_4, [(oa, aJ cy 1 (qu g 0 ((qI (((cnt (fun i => decide (lV (seT (frV T p0)) i ≠ p0)) 10 : Nat) : Int))).toInt64)))]]) hD [1, 0] (by decide) rfl
  exact hQ _ _ _ _ _ u_4 ⟨rfl, h_4⟩ hP hD hS dL_settleFrom_16

set_option maxRecDepth 100000 in
set_option maxHeartbeats 4000000 in
theorem c_L_append (l : Launch) (D : va_G) (cy : Nat → ClassId) (x la lv9 ls9 fa xh xs la2 lv92 ls92 fb fw bu ta : Nat) (rc re gb oc oe rs rc2 re2 gb2 oc2 oe2 rs2 rr : Nat → Nat) (ad : Nat → Nat → Nat) (T : LSt) (hz : Nat) (HZ : Nat → LSt) (len : Nat) (tx : Nat → Int) (W : va_W) (hG : gOk T) (hW : CW cy x la lv9 ls9 fa xh xs la2 lv92 ls92 fb fw bu ta rc re gb oc oe rs rc2 re2 gb2 oc2 oe2 rs2 rr ad T hz HZ len tx W) (oa : Nat) (g : Nat → Int64) (p0 : Int) (h0 : 33 ≤ p0 ∧ p0 ≤ 126) (hn : len < 60) (sz : Nat) : qMet l yL_append (.codeWith yL_append cL_append 4 (some .int) [(0, 9, 12, 15), (0, 9, 15, 17)]) 9 [.ref (x), .int (qI (p0)), .ref (oa)] D cy [W, [(oa, aJ cy 1 (g))]] sz (va_Qi (S := va_W) (fun r u => r = qI 0 ∧ CW cy x la lv9 ls9 fa xh xs la2 lv92 ls92 fb fw bu ta rc re gb oc oe rs rc2 re2 gb2 oc2 oe2 rs2 rr ad T hz HZ (len + 1) (qu tx len p0) u) (qB D cy [W, [(oa, aJ cy 1 (g))]] sz (fun u => [u, [(oa, aJ cy 1 (qu g 0 (qI (((len + 1 : Nat) : Int))).toInt64))]])) (va_A [W, [(oa, aJ cy 1 (g))]].flatten sz)) := by
  refine q_ofMiW (S := va_W) (b1 := fun u => [u, [(oa, aJ cy 1 (qu g 0 (qI (((len + 1 : Nat) : Int))).toInt64))]]) (post := fun r u => r = qI 0 ∧ CW cy x la lv9 ls9 fa xh xs la2 lv92 ls92 fb fw bu ta rc re gb oc oe rs rc2 re2 gb2 oc2 oe2 rs2 rr ad T hz HZ (len + 1) (qu tx len p0) u) (by decide +kernel) (Nat.le_of_ble_eq_true rfl) ?_
  intro p e s m args below meth c Q A hx hb hml hown hg hQ hK hN hD hA H locs ls hP hS hl
  have hown : s.vm.findClass RL = some m.cls := hown
  have hl : lv_has ls 4 [(0, .ref (x)), (1, .int (qI (p0))), (2, .ref (oa))] := hl
  obtain ⟨fs9, hfs9⟩ := CW_at hW
  refine lv_aload_n hx hb dL_append_0 rfl (lv_at hl 2 rfl) ?_
  refine q_iconst hx hb dL_append_1 ?_
  refine lv_aload_n hx hb dL_append_2 rfl (lv_at hl 0 rfl) ?_
  refine lv_iload_n hx hb dL_append_3 rfl (lv_at hl 1 rfl) ?_
  refine q_backi [0] [1] (br := [[(oa, aJ cy 1 (g))]]) hP hD hS hA (va_runV (As := [.int (qI (p0))]) (rest := [.int (qI (0)), .ref (oa)]) ⟨hx, hb, hml, hown, hg⟩ (c_X7_append l D cy x la lv9 ls9 fa xh xs la2 lv92 ls92 fb fw bu ta rc re gb oc oe rs rc2 re2 gb2 oc2 oe2 rs2 rr ad T hz HZ len tx _ hG hW p0 h0 hn _) (cv_L_40 hg rfl rfl ⟨by decide, by decide⟩) ⟨q_blind, va_recv hK (fl_blk hP 0 rfl) (ci := 7) (q0 := 0) rfl hfs9, q_preM _ hK hN hP hD [0] (by decide) rfl⟩ rfl rfl hl.1 rfl (lv_room (Nat.le_of_ble_eq_true rfl)) dL_append_4 ⟨by decide, by decide⟩) rfl rfl (by decide) (fun r_4 u_4 H locs h_4 hP hD hS => ?_)
  have hP : va_P D vwCl [[(oa, aJ cy 1 (g))], u_4].flatten H := hP
  have hD : va_D A [[(oa, aJ cy 1 (g))], u_4].flatten := hD
  obtain ⟨rfl, h_4⟩ := h_4
  refine lv_i2l hx hb dL_append_7 rfl ?_
  refine qb_last (j := 0) hx hb hK hP hD hS 0 0 rfl rfl (by omega) dL_append_8 (fun H locs hP hD hS => ?_)
  have hP : va_P D vwCl [[(oa, aJ cy 1 (qu g 0 ((qI (((len + 1 : Nat) : Int))).toInt64)))], u_4].flatten H := hP
  have hD : va_D A [[(oa, aJ cy 1 (qu g 0 ((qI (((len + 1 : Nat) : Int))).toInt64)))], u_4].flatten := hD
  refine lv_goto (tgt := 18) hx hb dL_append_9 (by decide) ?_
  refine q_iconst hx hb dL_append_18 ?_
  have hP := fl_sub (bs' := [u_4, [(oa, aJ cy 1 (qu g 0 ((qI (((len + 1 : Nat) : Int))).toInt64)))]]) hP [1, 0] rfl
  have hD := fl_subD (bs' := [u_4, [(oa, aJ cy 1 (qu g 0 ((qI (((len + 1 : Nat) : Int))).toInt64)))]]) hD [1, 0] (by decide) rfl
  exact hQ _ _ _ _ _ u_4 ⟨rfl, h_4⟩ hP hD hS dL_append_19

set_option maxRecDepth 100000 in
set_option maxHeartbeats 4000000 in
theorem c_L_load (l : Launch) (D : va_G) (cy : Nat → ClassId) (x la lv9 ls9 fa xh xs la2 lv92 ls92 fb fw bu ta : Nat) (rc re gb oc oe rs rc2 re2 gb2 oc2 oe2 rs2 rr : Nat → Nat) (ad : Nat → Nat → Nat) (T : LSt) (hz : Nat) (HZ : Nat → LSt) (len : Nat) (tx : Nat → Int) (W : va_W) (hG : gOk T) (hW : CW cy x la lv9 ls9 fa xh xs la2 lv92 ls92 fb fw bu ta rc re gb oc oe rs rc2 re2 gb2 oc2 oe2 rs2 rr ad T hz HZ len tx W) (oa : Nat) (g : Nat → Int64) (hfull : rdFull tx len) (hcap : lN9 T + ldK tx len ≤ 16) (sz : Nat) : qMet l yL_load (.codeWith yL_load cL_load 3 (some .int) [(0, 8, 11, 15), (0, 8, 14, 17)]) 9 [.ref (x), .ref (oa)] D cy [W, [(oa, aJ cy 1 (g))]] sz (va_Qi (S := va_W) (fun r u => r = qI 0 ∧ CW cy x la lv9 ls9 fa xh xs la2 lv92 ls92 fb fw bu ta rc re gb oc oe rs rc2 re2 gb2 oc2 oe2 rs2 rr ad (seT (ldC T (ldG tx len) (ldK tx len))) (min (hz + 1) 8) (pushH T HZ) 0 tx u) (qB D cy [W, [(oa, aJ cy 1 (g))]] sz (fun u => [u, [(oa, aJ cy 1 (qu g 0 (qI (((lN9 T + ldK tx len : Nat) : Int))).toInt64))]])) (va_A [W, [(oa, aJ cy 1 (g))]].flatten sz)) := by
  refine q_ofMiW (S := va_W) (b1 := fun u => [u, [(oa, aJ cy 1 (qu g 0 (qI (((lN9 T + ldK tx len : Nat) : Int))).toInt64))]]) (post := fun r u => r = qI 0 ∧ CW cy x la lv9 ls9 fa xh xs la2 lv92 ls92 fb fw bu ta rc re gb oc oe rs rc2 re2 gb2 oc2 oe2 rs2 rr ad (seT (ldC T (ldG tx len) (ldK tx len))) (min (hz + 1) 8) (pushH T HZ) 0 tx u) (by decide +kernel) (Nat.le_of_ble_eq_true rfl) ?_
  intro p e s m args below meth c Q A hx hb hml hown hg hQ hK hN hD hA H locs ls hP hS hl
  have hown : s.vm.findClass RL = some m.cls := hown
  have hl : lv_has ls 3 [(0, .ref (x)), (1, .ref (oa))] := hl
  obtain ⟨fs9, hfs9⟩ := CW_at hW
  refine lv_aload_n hx hb dL_load_0 rfl (lv_at hl 1 rfl) ?_
  refine q_iconst hx hb dL_load_1 ?_
  refine lv_aload_n hx hb dL_load_2 rfl (lv_at hl 0 rfl) ?_
  refine q_backi [0] [1] (br := [[(oa, aJ cy 1 (g))]]) hP hD hS hA (va_runV (As := []) (rest := [.int (qI (0)), .ref (oa)]) ⟨hx, hb, hml, hown, hg⟩ (c_X7_load l D cy x la lv9 ls9 fa xh xs la2 lv92 ls92 fb fw bu ta rc re gb oc oe rs rc2 re2 gb2 oc2 oe2 rs2 rr ad T hz HZ len tx _ hG hW hfull hcap _) (cv_L_43 hg rfl rfl ⟨by decide, by decide⟩) ⟨q_blind, va_recv hK (fl_blk hP 0 rfl) (ci := 7) (q0 := 0) rfl hfs9, q_preM _ hK hN hP hD [0] (by decide) rfl⟩ rfl rfl hl.1 rfl (lv_room (Nat.le_of_ble_eq_true rfl)) dL_load_3 ⟨by decide, by decide⟩) rfl rfl (by decide) (fun r_3 u_3 H locs h_3 hP hD hS => ?_)
  have hP : va_P D vwCl [[(oa, aJ cy 1 (g))], u_3].flatten H := hP
  have hD : va_D A [[(oa, aJ cy 1 (g))], u_3].flatten := hD
  obtain ⟨rfl, h_3⟩ := h_3
  refine lv_i2l hx hb dL_load_6 rfl ?_
  refine qb_last (j := 0) hx hb hK hP hD hS 0 0 rfl rfl (by omega) dL_load_7 (fun H locs hP hD hS => ?_)
  have hP : va_P D vwCl [[(oa, aJ cy 1 (qu g 0 ((qI (((lN9 T + ldK tx len : Nat) : Int))).toInt64)))], u_3].flatten H := hP
  have hD : va_D A [[(oa, aJ cy 1 (qu g 0 ((qI (((lN9 T + ldK tx len : Nat) : Int))).toInt64)))], u_3].flatten := hD
  refine lv_goto (tgt := 17) hx hb dL_load_8 (by decide) ?_
  refine q_iconst hx hb dL_load_17 ?_
  have hP := fl_sub (bs' := [u_3, [(oa, aJ cy 1 (qu g 0 ((qI (((lN9 T + ldK tx len : Nat) : Int))).toInt64)))]]) hP [1, 0] rfl
  have hD := fl_subD (bs' := [u_3, [(oa, aJ cy 1 (qu g 0 ((qI (((lN9 T + ldK tx len : Nat) : Int))).toInt64)))]]) hD [1, 0] (by decide) rfl
  exact hQ _ _ _ _ _ u_3 ⟨rfl, h_3⟩ hP hD hS dL_load_18

set_option maxRecDepth 100000 in
set_option maxHeartbeats 4000000 in
theorem c_L_undo (l : Launch) (D : va_G) (cy : Nat → ClassId) (x la lv9 ls9 fa xh xs la2 lv92 ls92 fb fw bu ta : Nat) (rc re gb oc oe rs rc2 re2 gb2 oc2 oe2 rs2 rr : Nat → Nat) (ad : Nat → Nat → Nat) (T : LSt) (hz : Nat) (HZ : Nat → LSt) (len : Nat) (tx : Nat → Int) (W : va_W) (hG : gOk T) (hW : CW cy x la lv9 ls9 fa xh xs la2 lv92 ls92 fb fw bu ta rc re gb oc oe rs rc2 re2 gb2 oc2 oe2 rs2 rr ad T hz HZ len tx W) (oa : Nat) (g : Nat → Int64) (hn : 1 ≤ hz) (hGH : gOk (HZ 0)) (sz : Nat) : qMet l yL_undo (.codeWith yL_undo cL_undo 3 (some .int) [(0, 8, 11, 17)]) 9 [.ref (x), .ref (oa)] D cy [W, [(oa, aJ cy 1 (g))]] sz (va_Qi (S := va_W) (fun r u => r = qI 0 ∧ CW cy x la lv9 ls9 fa xh xs la2 lv92 ls92 fb fw bu ta rc re gb oc oe rs rc2 re2 gb2 oc2 oe2 rs2 rr ad (HZ 0) (hz - 1) (fun i => HZ (i + 1)) len tx u) (qB D cy [W, [(oa, aJ cy 1 (g))]] sz (fun u => [u, [(oa, aJ cy 1 (qu g 0 (qI (((hz - 1 : Nat) : Int))).toInt64))]])) (va_A [W, [(oa, aJ cy 1 (g))]].flatten sz)) := by
  refine q_ofMiW (S := va_W) (b1 := fun u => [u, [(oa, aJ cy 1 (qu g 0 (qI (((hz - 1 : Nat) : Int))).toInt64))]]) (post := fun r u => r = qI 0 ∧ CW cy x la lv9 ls9 fa xh xs la2 lv92 ls92 fb fw bu ta rc re gb oc oe rs rc2 re2 gb2 oc2 oe2 rs2 rr ad (HZ 0) (hz - 1) (fun i => HZ (i + 1)) len tx u) (by decide +kernel) (Nat.le_of_ble_eq_true rfl) ?_
  intro p e s m args below meth c Q A hx hb hml hown hg hQ hK hN hD hA H locs ls hP hS hl
  have hown : s.vm.findClass RL = some m.cls := hown
  have hl : lv_has ls 3 [(0, .ref (x)), (1, .ref (oa))] := hl
  obtain ⟨fs9, hfs9⟩ := CW_at hW
  refine lv_aload_n hx hb dL_undo_0 rfl (lv_at hl 1 rfl) ?_
  refine q_iconst hx hb dL_undo_1 ?_
  refine lv_aload_n hx hb dL_undo_2 rfl (lv_at hl 0 rfl) ?_
  refine q_backi [0] [1] (br := [[(oa, aJ cy 1 (g))]]) hP hD hS hA (va_runV (As := []) (rest := [.int (qI (0)), .ref (oa)]) ⟨hx, hb, hml, hown, hg⟩ (c_X7_undo l D cy x la lv9 ls9 fa xh xs la2 lv92 ls92 fb fw bu ta rc re gb oc oe rs rc2 re2 gb2 oc2 oe2 rs2 rr ad T hz HZ len tx _ hG hW hn hGH _) (cv_L_47 hg rfl rfl ⟨by decide, by decide⟩) ⟨q_blind, va_recv hK (fl_blk hP 0 rfl) (ci := 7) (q0 := 0) rfl hfs9, q_preM _ hK hN hP hD [0] (by decide) rfl⟩ rfl rfl hl.1 rfl (lv_room (Nat.le_of_ble_eq_true rfl)) dL_undo_3 ⟨by decide, by decide⟩) rfl rfl (by decide) (fun r_3 u_3 H locs h_3 hP hD hS => ?_)
  have hP : va_P D vwCl [[(oa, aJ cy 1 (g))], u_3].flatten H := hP
  have hD : va_D A [[(oa, aJ cy 1 (g))], u_3].flatten := hD
  obtain ⟨rfl, h_3⟩ := h_3
  refine lv_i2l hx hb dL_undo_6 rfl ?_
  refine qb_last (j := 0) hx hb hK hP hD hS 0 0 rfl rfl (by omega) dL_undo_7 (fun H locs hP hD hS => ?_)
  have hP : va_P D vwCl [[(oa, aJ cy 1 (qu g 0 ((qI (((hz - 1 : Nat) : Int))).toInt64)))], u_3].flatten H := hP
  have hD : va_D A [[(oa, aJ cy 1 (qu g 0 ((qI (((hz - 1 : Nat) : Int))).toInt64)))], u_3].flatten := hD
  refine lv_goto (tgt := 14) hx hb dL_undo_8 (by decide) ?_
  refine q_iconst hx hb dL_undo_14 ?_
  have hP := fl_sub (bs' := [u_3, [(oa, aJ cy 1 (qu g 0 ((qI (((hz - 1 : Nat) : Int))).toInt64)))]]) hP [1, 0] rfl
  have hD := fl_subD (bs' := [u_3, [(oa, aJ cy 1 (qu g 0 ((qI (((hz - 1 : Nat) : Int))).toInt64)))]]) hD [1, 0] (by decide) rfl
  exact hQ _ _ _ _ _ u_3 ⟨rfl, h_3⟩ hP hD hS dL_undo_15

set_option maxRecDepth 100000 in
set_option maxHeartbeats 4000000 in
theorem c_L_place (l : Launch) (D : va_G) (cy : Nat → ClassId) (x la lv9 ls9 fa xh xs la2 lv92 ls92 fb fw bu ta : Nat) (rc re gb oc oe rs rc2 re2 gb2 oc2 oe2 rs2 rr : Nat → Nat) (ad : Nat → Nat → Nat) (T : LSt) (hz : Nat) (HZ : Nat → LSt) (len : Nat) (tx : Nat → Int) (W : va_W) (hG : gOk T) (hW : CW cy x la lv9 ls9 fa xh xs la2 lv92 ls92 fb fw bu ta rc re gb oc oe rs rc2 re2 gb2 oc2 oe2 rs2 rr ad T hz HZ len tx W) (oa : Nat) (g : Nat → Int64) (p0 p1 : Int) (k : Nat) (hk : p0 = (k : Int) ∧ k < 10) (h1 : 0 ≤ p1 ∧ p1 ≤ 5) (sz : Nat) : qMet l yL_place (.codeWith yL_place cL_place 5 (some .int) [(0, 10, 13, 13), (0, 10, 17, 15)]) 9 [.ref (x), .int (qI (p0)), .int (qI (p1)), .ref (oa)] D cy [W, [(oa, aJ cy 1 (g))]] sz (va_Qi (S := va_W) (fun r u => r = qI 0 ∧ CW cy x la lv9 ls9 fa xh xs la2 lv92 ls92 fb fw bu ta rc re gb oc oe rs rc2 re2 gb2 oc2 oe2 rs2 rr ad T hz HZ len tx u) (qB D cy [W, [(oa, aJ cy 1 (g))]] sz (fun u => [u, [(oa, aJ cy 1 (qu g 0 (qI (plT T k p1)).toInt64))]])) (va_A [W, [(oa, aJ cy 1 (g))]].flatten sz)) := by
  refine q_ofMiW (S := va_W) (b1 := fun u => [u, [(oa, aJ cy 1 (qu g 0 (qI (plT T k p1)).toInt64))]]) (post := fun r u => r = qI 0 ∧ CW cy x la lv9 ls9 fa xh xs la2 lv92 ls92 fb fw bu ta rc re gb oc oe rs rc2 re2 gb2 oc2 oe2 rs2 rr ad T hz HZ len tx u) (by decide +kernel) (Nat.le_of_ble_eq_true rfl) ?_
  intro p e s m args below meth c Q A hx hb hml hown hg hQ hK hN hD hA H locs ls hP hS hl
  have hown : s.vm.findClass RL = some m.cls := hown
  have hl : lv_has ls 5 [(0, .ref (x)), (1, .int (qI (p0))), (2, .int (qI (p1))), (3, .ref (oa))] := hl
  obtain ⟨fs9, hfs9⟩ := CW_at hW
  refine lv_aload_n hx hb dL_place_0 rfl (lv_at hl 3 rfl) ?_
  refine q_iconst hx hb dL_place_1 ?_
  refine lv_aload_n hx hb dL_place_2 rfl (lv_at hl 0 rfl) ?_
  refine lv_iload_n hx hb dL_place_3 rfl (lv_at hl 1 rfl) ?_
  refine lv_iload_n hx hb dL_place_4 rfl (lv_at hl 2 rfl) ?_
  refine q_backi [0] [1] (br := [[(oa, aJ cy 1 (g))]]) hP hD hS hA (va_runV (As := [.int (qI (p0)), .int (qI (p1))]) (rest := [.int (qI (0)), .ref (oa)]) ⟨hx, hb, hml, hown, hg⟩ (c_X7_place l D cy x la lv9 ls9 fa xh xs la2 lv92 ls92 fb fw bu ta rc re gb oc oe rs rc2 re2 gb2 oc2 oe2 rs2 rr ad T hz HZ len tx _ hG hW p0 p1 k hk h1 _) (cv_L_50 hg rfl rfl ⟨by decide, by decide⟩) ⟨q_blind, va_recv hK (fl_blk hP 0 rfl) (ci := 7) (q0 := 0) rfl hfs9, q_preM _ hK hN hP hD [0] (by decide) rfl⟩ rfl rfl hl.1 rfl (lv_room (Nat.le_of_ble_eq_true rfl)) dL_place_5 ⟨by decide, by decide⟩) rfl rfl (by decide) (fun r_5 u_5 H locs h_5 hP hD hS => ?_)
  have hP : va_P D vwCl [[(oa, aJ cy 1 (g))], u_5].flatten H := hP
  have hD : va_D A [[(oa, aJ cy 1 (g))], u_5].flatten := hD
  obtain ⟨rfl, h_5⟩ := h_5
  refine lv_i2l hx hb dL_place_8 rfl ?_
  refine qb_last (j := 0) hx hb hK hP hD hS 0 0 rfl rfl (by omega) dL_place_9 (fun H locs hP hD hS => ?_)
  have hP : va_P D vwCl [[(oa, aJ cy 1 (qu g 0 ((qI (plT T k p1)).toInt64)))], u_5].flatten H := hP
  have hD : va_D A [[(oa, aJ cy 1 (qu g 0 ((qI (plT T k p1)).toInt64)))], u_5].flatten := hD
  refine lv_goto (tgt := 21) hx hb dL_place_10 (by decide) ?_
  refine q_iconst hx hb dL_place_21 ?_
  have hP := fl_sub (bs' := [u_5, [(oa, aJ cy 1 (qu g 0 ((qI (plT T k p1)).toInt64)))]]) hP [1, 0] rfl
  have hD := fl_subD (bs' := [u_5, [(oa, aJ cy 1 (qu g 0 ((qI (plT T k p1)).toInt64)))]]) hD [1, 0] (by decide) rfl
  exact hQ _ _ _ _ _ u_5 ⟨rfl, h_5⟩ hP hD hS dL_place_22

set_option maxRecDepth 100000 in
set_option maxHeartbeats 4000000 in
theorem c_L_condition (l : Launch) (D : va_G) (cy : Nat → ClassId) (x la lv9 ls9 fa xh xs la2 lv92 ls92 fb fw bu ta : Nat) (rc re gb oc oe rs rc2 re2 gb2 oc2 oe2 rs2 rr : Nat → Nat) (ad : Nat → Nat → Nat) (T : LSt) (hz : Nat) (HZ : Nat → LSt) (len : Nat) (tx : Nat → Int) (W : va_W) (hG : gOk T) (hW : CW cy x la lv9 ls9 fa xh xs la2 lv92 ls92 fb fw bu ta rc re gb oc oe rs rc2 re2 gb2 oc2 oe2 rs2 rr ad T hz HZ len tx W) (oa : Nat) (g : Nat → Int64) (p0 p1 : Int) (k : Nat) (hk : p0 = (k : Int) ∧ k < lN9 T) (h1 : 0 ≤ p1 ∧ p1 ≤ 9) (sz : Nat) : qMet l yL_condition (.codeWith yL_condition cL_condition 5 (some .int) [(0, 10, 13, 13), (0, 10, 17, 15)]) 9 [.ref (x), .int (qI (p0)), .int (qI (p1)), .ref (oa)] D cy [W, [(oa, aJ cy 1 (g))]] sz (va_Qi (S := va_W) (fun r u => r = qI 0 ∧ CW cy x la lv9 ls9 fa xh xs la2 lv92 ls92 fb fw bu ta rc re gb oc oe rs rc2 re2 gb2 oc2 oe2 rs2 rr ad T hz HZ len tx u) (qB D cy [W, [(oa, aJ cy 1 (g))]] sz (fun u => [u, [(oa, aJ cy 1 (qu g 0 (qI (coT T k p1)).toInt64))]])) (va_A [W, [(oa, aJ cy 1 (g))]].flatten sz)) := by
  refine q_ofMiW (S := va_W) (b1 := fun u => [u, [(oa, aJ cy 1 (qu g 0 (qI (coT T k p1)).toInt64))]]) (post := fun r u => r = qI 0 ∧ CW cy x la lv9 ls9 fa xh xs la2 lv92 ls92 fb fw bu ta rc re gb oc oe rs rc2 re2 gb2 oc2 oe2 rs2 rr ad T hz HZ len tx u) (by decide +kernel) (Nat.le_of_ble_eq_true rfl) ?_
  intro p e s m args below meth c Q A hx hb hml hown hg hQ hK hN hD hA H locs ls hP hS hl
  have hown : s.vm.findClass RL = some m.cls := hown
  have hl : lv_has ls 5 [(0, .ref (x)), (1, .int (qI (p0))), (2, .int (qI (p1))), (3, .ref (oa))] := hl
  obtain ⟨fs9, hfs9⟩ := CW_at hW
  refine lv_aload_n hx hb dL_condition_0 rfl (lv_at hl 3 rfl) ?_
  refine q_iconst hx hb dL_condition_1 ?_
  refine lv_aload_n hx hb dL_condition_2 rfl (lv_at hl 0 rfl) ?_
  refine lv_iload_n hx hb dL_condition_3 rfl (lv_at hl 1 rfl) ?_
  refine lv_iload_n hx hb dL_condition_4 rfl (lv_at hl 2 rfl) ?_
  refine q_backi [0] [1] (br := [[(oa, aJ cy 1 (g))]]) hP hD hS hA (va_runV (As := [.int (qI (p0)), .int (qI (p1))]) (rest := [.int (qI (0)), .ref (oa)]) ⟨hx, hb, hml, hown, hg⟩ (c_X7_condition l D cy x la lv9 ls9 fa xh xs la2 lv92 ls92 fb fw bu ta rc re gb oc oe rs rc2 re2 gb2 oc2 oe2 rs2 rr ad T hz HZ len tx _ hG hW p0 p1 k hk h1 _) (cv_L_53 hg rfl rfl ⟨by decide, by decide⟩) ⟨q_blind, va_recv hK (fl_blk hP 0 rfl) (ci := 7) (q0 := 0) rfl hfs9, q_preM _ hK hN hP hD [0] (by decide) rfl⟩ rfl rfl hl.1 rfl (lv_room (Nat.le_of_ble_eq_true rfl)) dL_condition_5 ⟨by decide, by decide⟩) rfl rfl (by decide) (fun r_5 u_5 H locs h_5 hP hD hS => ?_)
  have hP : va_P D vwCl [[(oa, aJ cy 1 (g))], u_5].flatten H := hP
  have hD : va_D A [[(oa, aJ cy 1 (g))], u_5].flatten := hD
  obtain ⟨rfl, h_5⟩ := h_5
  refine lv_i2l hx hb dL_condition_8 rfl ?_
  refine qb_last (j := 0) hx hb hK hP hD hS 0 0 rfl rfl (by omega) dL_condition_9 (fun H locs hP hD hS => ?_)
  have hP : va_P D vwCl [[(oa, aJ cy 1 (qu g 0 ((qI (coT T k p1)).toInt64)))], u_5].flatten H := hP
  have hD : va_D A [[(oa, aJ cy 1 (qu g 0 ((qI (coT T k p1)).toInt64)))], u_5].flatten := hD
  refine lv_goto (tgt := 21) hx hb dL_condition_10 (by decide) ?_
  refine q_iconst hx hb dL_condition_21 ?_
  have hP := fl_sub (bs' := [u_5, [(oa, aJ cy 1 (qu g 0 ((qI (coT T k p1)).toInt64)))]]) hP [1, 0] rfl
  have hD := fl_subD (bs' := [u_5, [(oa, aJ cy 1 (qu g 0 ((qI (coT T k p1)).toInt64)))]]) hD [1, 0] (by decide) rfl
  exact hQ _ _ _ _ _ u_5 ⟨rfl, h_5⟩ hP hD hS dL_condition_22

set_option maxRecDepth 100000 in
set_option maxHeartbeats 4000000 in
theorem c_L_edited (l : Launch) (D : va_G) (cy : Nat → ClassId) (x la lv9 ls9 fa xh xs la2 lv92 ls92 fb fw bu ta : Nat) (rc re gb oc oe rs rc2 re2 gb2 oc2 oe2 rs2 rr : Nat → Nat) (ad : Nat → Nat → Nat) (T : LSt) (hz : Nat) (HZ : Nat → LSt) (len : Nat) (tx : Nat → Int) (W : va_W) (hG : gOk T) (hW : CW cy x la lv9 ls9 fa xh xs la2 lv92 ls92 fb fw bu ta rc re gb oc oe rs rc2 re2 gb2 oc2 oe2 rs2 rr ad T hz HZ len tx W) (oa : Nat) (g : Nat → Int64) (p0 p1 : Int) (k : Nat) (hk : p0 = (k : Int) ∧ k < lM T) (h1 : 0 ≤ p1 ∧ p1 ≤ 4) (sz : Nat) : qMet l yL_edited (.codeWith yL_edited cL_edited 5 (some .int) [(0, 10, 13, 13), (0, 10, 17, 15)]) 9 [.ref (x), .int (qI (p0)), .int (qI (p1)), .ref (oa)] D cy [W, [(oa, aJ cy 1 (g))]] sz (va_Qi (S := va_W) (fun r u => r = qI 0 ∧ CW cy x la lv9 ls9 fa xh xs la2 lv92 ls92 fb fw bu ta rc re gb oc oe rs rc2 re2 gb2 oc2 oe2 rs2 rr ad T hz HZ len tx u) (qB D cy [W, [(oa, aJ cy 1 (g))]] sz (fun u => [u, [(oa, aJ cy 1 (qu g 0 (qI (edT T k p1)).toInt64))]])) (va_A [W, [(oa, aJ cy 1 (g))]].flatten sz)) := by
  refine q_ofMiW (S := va_W) (b1 := fun u => [u, [(oa, aJ cy 1 (qu g 0 (qI (edT T k p1)).toInt64))]]) (post := fun r u => r = qI 0 ∧ CW cy x la lv9 ls9 fa xh xs la2 lv92 ls92 fb fw bu ta rc re gb oc oe rs rc2 re2 gb2 oc2 oe2 rs2 rr ad T hz HZ len tx u) (by decide +kernel) (Nat.le_of_ble_eq_true rfl) ?_
  intro p e s m args below meth c Q A hx hb hml hown hg hQ hK hN hD hA H locs ls hP hS hl
  have hown : s.vm.findClass RL = some m.cls := hown
  have hl : lv_has ls 5 [(0, .ref (x)), (1, .int (qI (p0))), (2, .int (qI (p1))), (3, .ref (oa))] := hl
  obtain ⟨fs9, hfs9⟩ := CW_at hW
  refine lv_aload_n hx hb dL_edited_0 rfl (lv_at hl 3 rfl) ?_
  refine q_iconst hx hb dL_edited_1 ?_
  refine lv_aload_n hx hb dL_edited_2 rfl (lv_at hl 0 rfl) ?_
  refine lv_iload_n hx hb dL_edited_3 rfl (lv_at hl 1 rfl) ?_
  refine lv_iload_n hx hb dL_edited_4 rfl (lv_at hl 2 rfl) ?_
  refine q_backi [0] [1] (br := [[(oa, aJ cy 1 (g))]]) hP hD hS hA (va_runV (As := [.int (qI (p0)), .int (qI (p1))]) (rest := [.int (qI (0)), .ref (oa)]) ⟨hx, hb, hml, hown, hg⟩ (c_X7_edited l D cy x la lv9 ls9 fa xh xs la2 lv92 ls92 fb fw bu ta rc re gb oc oe rs rc2 re2 gb2 oc2 oe2 rs2 rr ad T hz HZ len tx _ hG hW p0 p1 k hk h1 _) (cv_L_56 hg rfl rfl ⟨by decide, by decide⟩) ⟨q_blind, va_recv hK (fl_blk hP 0 rfl) (ci := 7) (q0 := 0) rfl hfs9, q_preM _ hK hN hP hD [0] (by decide) rfl⟩ rfl rfl hl.1 rfl (lv_room (Nat.le_of_ble_eq_true rfl)) dL_edited_5 ⟨by decide, by decide⟩) rfl rfl (by decide) (fun r_5 u_5 H locs h_5 hP hD hS => ?_)
  have hP : va_P D vwCl [[(oa, aJ cy 1 (g))], u_5].flatten H := hP
  have hD : va_D A [[(oa, aJ cy 1 (g))], u_5].flatten := hD
  obtain ⟨rfl, h_5⟩ := h_5
  refine lv_i2l hx hb dL_edited_8 rfl ?_
  refine qb_last (j := 0) hx hb hK hP hD hS 0 0 rfl rfl (by omega) dL_edited_9 (fun H locs hP hD hS => ?_)
  have hP : va_P D vwCl [[(oa, aJ cy 1 (qu g 0 ((qI (edT T k p1)).toInt64)))], u_5].flatten H := hP
  have hD : va_D A [[(oa, aJ cy 1 (qu g 0 ((qI (edT T k p1)).toInt64)))], u_5].flatten := hD
  refine lv_goto (tgt := 21) hx hb dL_edited_10 (by decide) ?_
  refine q_iconst hx hb dL_edited_21 ?_
  have hP := fl_sub (bs' := [u_5, [(oa, aJ cy 1 (qu g 0 ((qI (edT T k p1)).toInt64)))]]) hP [1, 0] rfl
  have hD := fl_subD (bs' := [u_5, [(oa, aJ cy 1 (qu g 0 ((qI (edT T k p1)).toInt64)))]]) hD [1, 0] (by decide) rfl
  exact hQ _ _ _ _ _ u_5 ⟨rfl, h_5⟩ hP hD hS dL_edited_22

set_option maxRecDepth 100000 in
set_option maxHeartbeats 4000000 in
theorem c_L_widest (l : Launch) (D : va_G) (cy : Nat → ClassId) (x la lv9 ls9 fa xh xs la2 lv92 ls92 fb fw bu ta : Nat) (rc re gb oc oe rs rc2 re2 gb2 oc2 oe2 rs2 rr : Nat → Nat) (ad : Nat → Nat → Nat) (T : LSt) (hz : Nat) (HZ : Nat → LSt) (len : Nat) (tx : Nat → Int) (W : va_W) (hG : gOk T) (hW : CW cy x la lv9 ls9 fa xh xs la2 lv92 ls92 fb fw bu ta rc re gb oc oe rs rc2 re2 gb2 oc2 oe2 rs2 rr ad T hz HZ len tx W) (oa : Nat) (g : Nat → Int64) (p0 p1 : Int) (k j : Nat) (hk : p0 = (k : Int) ∧ k < 10) (hj : p1 = (j : Int) ∧ j < 10) (sz : Nat) : qMet l yL_widest (.codeWith yL_widest cL_widest 5 (some .int) [(0, 10, 13, 13)]) 9 [.ref (x), .int (qI (p0)), .int (qI (p1)), .ref (oa)] D cy [W, [(oa, aJ cy 1 (g))]] sz (va_Qi (S := va_W) (fun r u => r = qI 0 ∧ CW cy x la lv9 ls9 fa xh xs la2 lv92 ls92 fb fw bu ta rc re gb oc oe rs rc2 re2 gb2 oc2 oe2 rs2 rr ad T hz HZ len tx u) (qB D cy [W, [(oa, aJ cy 1 (g))]] sz (fun u => [u, [(oa, aJ cy 1 (qu g 0 (qI (fM (filS T (-1)) k j)).toInt64))]])) (va_A [W, [(oa, aJ cy 1 (g))]].flatten sz)) := by
  refine q_ofMiW (S := va_W) (b1 := fun u => [u, [(oa, aJ cy 1 (qu g 0 (qI (fM (filS T (-1)) k j)).toInt64))]]) (post := fun r u => r = qI 0 ∧ CW cy x la lv9 ls9 fa xh xs la2 lv92 ls92 fb fw bu ta rc re gb oc oe rs rc2 re2 gb2 oc2 oe2 rs2 rr ad T hz HZ len tx u) (by decide +kernel) (Nat.le_of_ble_eq_true rfl) ?_
  intro p e s m args below meth c Q A hx hb hml hown hg hQ hK hN hD hA H locs ls hP hS hl
  have hown : s.vm.findClass RL = some m.cls := hown
  have hl : lv_has ls 5 [(0, .ref (x)), (1, .int (qI (p0))), (2, .int (qI (p1))), (3, .ref (oa))] := hl
  obtain ⟨fs9, hfs9⟩ := CW_at hW
  refine lv_aload_n hx hb dL_widest_0 rfl (lv_at hl 3 rfl) ?_
  refine q_iconst hx hb dL_widest_1 ?_
  refine lv_aload_n hx hb dL_widest_2 rfl (lv_at hl 0 rfl) ?_
  refine lv_iload_n hx hb dL_widest_3 rfl (lv_at hl 1 rfl) ?_
  refine lv_iload_n hx hb dL_widest_4 rfl (lv_at hl 2 rfl) ?_
  refine q_backi [0] [1] (br := [[(oa, aJ cy 1 (g))]]) hP hD hS hA (va_runV (As := [.int (qI (p0)), .int (qI (p1))]) (rest := [.int (qI (0)), .ref (oa)]) ⟨hx, hb, hml, hown, hg⟩ (c_X7_widest l D cy x la lv9 ls9 fa xh xs la2 lv92 ls92 fb fw bu ta rc re gb oc oe rs rc2 re2 gb2 oc2 oe2 rs2 rr ad T hz HZ len tx _ hG hW p0 p1 k j hk hj _) (cv_L_59 hg rfl rfl ⟨by decide, by decide⟩) ⟨q_blind, va_recv hK (fl_blk hP 0 rfl) (ci := 7) (q0 := 0) rfl hfs9, q_preM _ hK hN hP hD [0] (by decide) rfl⟩ rfl rfl hl.1 rfl (lv_room (Nat.le_of_ble_eq_true rfl)) dL_widest_5 ⟨by decide, by decide⟩) rfl rfl (by decide) (fun r_5 u_5 H locs h_5 hP hD hS => ?_)
  have hP : va_P D vwCl [[(oa, aJ cy 1 (g))], u_5].flatten H := hP
  have hD : va_D A [[(oa, aJ cy 1 (g))], u_5].flatten := hD
  obtain ⟨rfl, h_5⟩ := h_5
  refine lv_i2l hx hb dL_widest_8 rfl ?_
  refine qb_last (j := 0) hx hb hK hP hD hS 0 0 rfl rfl (by omega) dL_widest_9 (fun H locs hP hD hS => ?_)
  have hP : va_P D vwCl [[(oa, aJ cy 1 (qu g 0 ((qI (fM (filS T (-1)) k j)).toInt64)))], u_5].flatten H := hP
  have hD : va_D A [[(oa, aJ cy 1 (qu g 0 ((qI (fM (filS T (-1)) k j)).toInt64)))], u_5].flatten := hD
  refine lv_goto (tgt := 17) hx hb dL_widest_10 (by decide) ?_
  refine q_iconst hx hb dL_widest_17 ?_
  have hP := fl_sub (bs' := [u_5, [(oa, aJ cy 1 (qu g 0 ((qI (fM (filS T (-1)) k j)).toInt64)))]]) hP [1, 0] rfl
  have hD := fl_subD (bs' := [u_5, [(oa, aJ cy 1 (qu g 0 ((qI (fM (filS T (-1)) k j)).toInt64)))]]) hD [1, 0] (by decide) rfl
  exact hQ _ _ _ _ _ u_5 ⟨rfl, h_5⟩ hP hD hS dL_widest_18

set_option maxRecDepth 100000 in
set_option maxHeartbeats 4000000 in
theorem c_L_count (l : Launch) (D : va_G) (cy : Nat → ClassId) (x la lv9 ls9 fa xh xs la2 lv92 ls92 fb fw bu ta : Nat) (rc re gb oc oe rs rc2 re2 gb2 oc2 oe2 rs2 rr : Nat → Nat) (ad : Nat → Nat → Nat) (T : LSt) (hz : Nat) (HZ : Nat → LSt) (len : Nat) (tx : Nat → Int) (W : va_W) (hG : gOk T) (hW : CW cy x la lv9 ls9 fa xh xs la2 lv92 ls92 fb fw bu ta rc re gb oc oe rs rc2 re2 gb2 oc2 oe2 rs2 rr ad T hz HZ len tx W) (oa : Nat) (g : Nat → Int64) (p0 : Int) (h0 : 0 ≤ p0 ∧ p0 ≤ 7) (sz : Nat) : qMet l yL_count (.codeWith yL_count cL_count 4 (some .int) [(0, 9, 12, 15)]) 9 [.ref (x), .int (qI (p0)), .ref (oa)] D cy [W, [(oa, aJ cy 1 (g))]] sz (va_Qi (S := va_W) (fun r u => r = qI 0 ∧ CW cy x la lv9 ls9 fa xh xs la2 lv92 ls92 fb fw bu ta rc re gb oc oe rs rc2 re2 gb2 oc2 oe2 rs2 rr ad T hz HZ len tx u) (qB D cy [W, [(oa, aJ cy 1 (g))]] sz (fun u => [u, [(oa, aJ cy 1 (qu g 0 (qI (ctT T hz p0)).toInt64))]])) (va_A [W, [(oa, aJ cy 1 (g))]].flatten sz)) := by
  refine q_ofMiW (S := va_W) (b1 := fun u => [u, [(oa, aJ cy 1 (qu g 0 (qI (ctT T hz p0)).toInt64))]]) (post := fun r u => r = qI 0 ∧ CW cy x la lv9 ls9 fa xh xs la2 lv92 ls92 fb fw bu ta rc re gb oc oe rs rc2 re2 gb2 oc2 oe2 rs2 rr ad T hz HZ len tx u) (by decide +kernel) (Nat.le_of_ble_eq_true rfl) ?_
  intro p e s m args below meth c Q A hx hb hml hown hg hQ hK hN hD hA H locs ls hP hS hl
  have hown : s.vm.findClass RL = some m.cls := hown
  have hl : lv_has ls 4 [(0, .ref (x)), (1, .int (qI (p0))), (2, .ref (oa))] := hl
  obtain ⟨fs9, hfs9⟩ := CW_at hW
  refine lv_aload_n hx hb dL_count_0 rfl (lv_at hl 2 rfl) ?_
  refine q_iconst hx hb dL_count_1 ?_
  refine lv_aload_n hx hb dL_count_2 rfl (lv_at hl 0 rfl) ?_
  refine lv_iload_n hx hb dL_count_3 rfl (lv_at hl 1 rfl) ?_
  refine q_backi [0] [1] (br := [[(oa, aJ cy 1 (g))]]) hP hD hS hA (va_runV (As := [.int (qI (p0))]) (rest := [.int (qI (0)), .ref (oa)]) ⟨hx, hb, hml, hown, hg⟩ (c_X7_count l D cy x la lv9 ls9 fa xh xs la2 lv92 ls92 fb fw bu ta rc re gb oc oe rs rc2 re2 gb2 oc2 oe2 rs2 rr ad T hz HZ len tx _ hG hW p0 h0 _) (cv_L_62 hg rfl rfl ⟨by decide, by decide⟩) ⟨q_blind, va_recv hK (fl_blk hP 0 rfl) (ci := 7) (q0 := 0) rfl hfs9, q_preM _ hK hN hP hD [0] (by decide) rfl⟩ rfl rfl hl.1 rfl (lv_room (Nat.le_of_ble_eq_true rfl)) dL_count_4 ⟨by decide, by decide⟩) rfl rfl (by decide) (fun r_4 u_4 H locs h_4 hP hD hS => ?_)
  have hP : va_P D vwCl [[(oa, aJ cy 1 (g))], u_4].flatten H := hP
  have hD : va_D A [[(oa, aJ cy 1 (g))], u_4].flatten := hD
  obtain ⟨rfl, h_4⟩ := h_4
  refine lv_i2l hx hb dL_count_7 rfl ?_
  refine qb_last (j := 0) hx hb hK hP hD hS 0 0 rfl rfl (by omega) dL_count_8 (fun H locs hP hD hS => ?_)
  have hP : va_P D vwCl [[(oa, aJ cy 1 (qu g 0 ((qI (ctT T hz p0)).toInt64)))], u_4].flatten H := hP
  have hD : va_D A [[(oa, aJ cy 1 (qu g 0 ((qI (ctT T hz p0)).toInt64)))], u_4].flatten := hD
  refine lv_goto (tgt := 15) hx hb dL_count_9 (by decide) ?_
  refine q_iconst hx hb dL_count_15 ?_
  have hP := fl_sub (bs' := [u_4, [(oa, aJ cy 1 (qu g 0 ((qI (ctT T hz p0)).toInt64)))]]) hP [1, 0] rfl
  have hD := fl_subD (bs' := [u_4, [(oa, aJ cy 1 (qu g 0 ((qI (ctT T hz p0)).toInt64)))]]) hD [1, 0] (by decide) rfl
  exact hQ _ _ _ _ _ u_4 ⟨rfl, h_4⟩ hP hD hS dL_count_16

set_option maxRecDepth 100000 in
set_option maxHeartbeats 4000000 in
theorem c_L_ifEdited (l : Launch) (D : va_G) (cy : Nat → ClassId) (x la lv9 ls9 fa xh xs la2 lv92 ls92 fb fw bu ta : Nat) (rc re gb oc oe rs rc2 re2 gb2 oc2 oe2 rs2 rr : Nat → Nat) (ad : Nat → Nat → Nat) (T : LSt) (hz : Nat) (HZ : Nat → LSt) (len : Nat) (tx : Nat → Int) (W : va_W) (hG : gOk T) (hW : CW cy x la lv9 ls9 fa xh xs la2 lv92 ls92 fb fw bu ta rc re gb oc oe rs rc2 re2 gb2 oc2 oe2 rs2 rr ad T hz HZ len tx W) (oa : Nat) (g : Nat → Int64) (p0 p1 p2 p3 : Int) (k j : Nat) (hk : p0 = (k : Int) ∧ k < 10) (h1 : -1000 ≤ p1 ∧ p1 ≤ 1000) (h2 : 0 ≤ p2 ∧ p2 ≤ 3) (hj : p3 = (j : Int) ∧ j < 10) (h3 : lM T ≤ 3) (sz : Nat) : qMet l yL_ifEdited (.codeWith yL_ifEdited cL_ifEdited 7 (some .int) [(0, 14, 17, 13), (0, 14, 21, 15)]) 9 [.ref (x), .int (qI (p0)), .int (qI (p1)), .int (qI (p2)), .int (qI (p3)), .ref (oa)] D cy [W, [(oa, aJ cy 1 (g))]] sz (va_Qi (S := va_W) (fun r u => r = qI 0 ∧ CW cy x la lv9 ls9 fa xh xs la2 lv92 ls92 fb fw bu ta rc re gb oc oe rs rc2 re2 gb2 oc2 oe2 rs2 rr ad T hz HZ len tx u) (qB D cy [W, [(oa, aJ cy 1 (g))]] sz (fun u => [u, [(oa, aJ cy 1 (qu g 0 (qI (lV (seT (adE T p0 p1 p2)) j)).toInt64))]])) (va_A [W, [(oa, aJ cy 1 (g))]].flatten sz)) := by
  refine q_ofMiW (S := va_W) (b1 := fun u => [u, [(oa, aJ cy 1 (qu g 0 (qI (lV (seT (adE T p0 p1 p2)) j)).toInt64))]]) (post := fun r u => r = qI 0 ∧ CW cy x la lv9 ls9 fa xh xs la2 lv92 ls92 fb fw bu ta rc re gb oc oe rs rc2 re2 gb2 oc2 oe2 rs2 rr ad T hz HZ len tx u) (by decide +kernel) (Nat.le_of_ble_eq_true rfl) ?_
  intro p e s m args below meth c Q A hx hb hml hown hg hQ hK hN hD hA H locs ls hP hS hl
  have hown : s.vm.findClass RL = some m.cls := hown
  have hl : lv_has ls 7 [(0, .ref (x)), (1, .int (qI (p0))), (2, .int (qI (p1))), (3, .int (qI (p2))), (4, .int (qI (p3))), (5, .ref (oa))] := hl
  obtain ⟨fs9, hfs9⟩ := CW_at hW
  refine lv_aload hx hb dL_ifEdited_0 (lv_at hl 5 rfl) ?_
  refine q_iconst hx hb dL_ifEdited_2 ?_
  refine lv_aload_n hx hb dL_ifEdited_3 rfl (lv_at hl 0 rfl) ?_
  refine lv_iload_n hx hb dL_ifEdited_4 rfl (lv_at hl 1 rfl) ?_
  refine lv_iload_n hx hb dL_ifEdited_5 rfl (lv_at hl 2 rfl) ?_
  refine lv_iload_n hx hb dL_ifEdited_6 rfl (lv_at hl 3 rfl) ?_
  refine lv_iload hx hb dL_ifEdited_7 (lv_at hl 4 rfl) ?_
  refine q_backi [0] [1] (br := [[(oa, aJ cy 1 (g))]]) hP hD hS hA (va_runV (As := [.int (qI (p0)), .int (qI (p1)), .int (qI (p2)), .int (qI (p3))]) (rest := [.int (qI (0)), .ref (oa)]) ⟨hx, hb, hml, hown, hg⟩ (c_X7_ifEdited l D cy x la lv9 ls9 fa xh xs la2 lv92 ls92 fb fw bu ta rc re gb oc oe rs rc2 re2 gb2 oc2 oe2 rs2 rr ad T hz HZ len tx _ hG hW p0 p1 p2 p3 k j hk h1 h2 hj h3 _) (cv_L_65 hg rfl rfl ⟨by decide, by decide⟩) ⟨q_blind, va_recv hK (fl_blk hP 0 rfl) (ci := 7) (q0 := 0) rfl hfs9, q_preM _ hK hN hP hD [0] (by decide) rfl⟩ rfl rfl hl.1 rfl (lv_room (Nat.le_of_ble_eq_true rfl)) dL_ifEdited_9 ⟨by decide, by decide⟩) rfl rfl (by decide) (fun r_9 u_9 H locs h_9 hP hD hS => ?_)
  have hP : va_P D vwCl [[(oa, aJ cy 1 (g))], u_9].flatten H := hP
  have hD : va_D A [[(oa, aJ cy 1 (g))], u_9].flatten := hD
  obtain ⟨rfl, h_9⟩ := h_9
  refine lv_i2l hx hb dL_ifEdited_12 rfl ?_
  refine qb_last (j := 0) hx hb hK hP hD hS 0 0 rfl rfl (by omega) dL_ifEdited_13 (fun H locs hP hD hS => ?_)
  have hP : va_P D vwCl [[(oa, aJ cy 1 (qu g 0 ((qI (lV (seT (adE T p0 p1 p2)) j)).toInt64)))], u_9].flatten H := hP
  have hD : va_D A [[(oa, aJ cy 1 (qu g 0 ((qI (lV (seT (adE T p0 p1 p2)) j)).toInt64)))], u_9].flatten := hD
  refine lv_goto (tgt := 25) hx hb dL_ifEdited_14 (by decide) ?_
  refine q_iconst hx hb dL_ifEdited_25 ?_
  have hP := fl_sub (bs' := [u_9, [(oa, aJ cy 1 (qu g 0 ((qI (lV (seT (adE T p0 p1 p2)) j)).toInt64)))]]) hP [1, 0] rfl
  have hD := fl_subD (bs' := [u_9, [(oa, aJ cy 1 (qu g 0 ((qI (lV (seT (adE T p0 p1 p2)) j)).toInt64)))]]) hD [1, 0] (by decide) rfl
  exact hQ _ _ _ _ _ u_9 ⟨rfl, h_9⟩ hP hD hS dL_ifEdited_26

set_option maxRecDepth 100000 in
set_option maxHeartbeats 4000000 in
theorem c_L_ifRemoved (l : Launch) (D : va_G) (cy : Nat → ClassId) (x la lv9 ls9 fa xh xs la2 lv92 ls92 fb fw bu ta : Nat) (rc re gb oc oe rs rc2 re2 gb2 oc2 oe2 rs2 rr : Nat → Nat) (ad : Nat → Nat → Nat) (T : LSt) (hz : Nat) (HZ : Nat → LSt) (len : Nat) (tx : Nat → Int) (W : va_W) (hG : gOk T) (hW : CW cy x la lv9 ls9 fa xh xs la2 lv92 ls92 fb fw bu ta rc re gb oc oe rs rc2 re2 gb2 oc2 oe2 rs2 rr ad T hz HZ len tx W) (oa : Nat) (g : Nat → Int64) (p0 : Int) (k : Nat) (hk : p0 = (k : Int) ∧ k < lN9 T) (sz : Nat) : qMet l yL_ifRemoved (.codeWith yL_ifRemoved cL_ifRemoved 4 (some .int) [(0, 9, 12, 13)]) 9 [.ref (x), .int (qI (p0)), .ref (oa)] D cy [W, [(oa, aJ cy 1 (g))]] sz (va_Qi (S := va_W) (fun r u => r = qI 0 ∧ CW cy x la lv9 ls9 fa xh xs la2 lv92 ls92 fb fw bu ta rc re gb oc oe rs rc2 re2 gb2 oc2 oe2 rs2 rr ad T hz HZ len tx u) (qB D cy [W, [(oa, aJ cy 1 (g))]] sz (fun u => [u, [(oa, aJ cy 1 (qu g 0 (qI (rmT T k)).toInt64))]])) (va_A [W, [(oa, aJ cy 1 (g))]].flatten sz)) := by
  refine q_ofMiW (S := va_W) (b1 := fun u => [u, [(oa, aJ cy 1 (qu g 0 (qI (rmT T k)).toInt64))]]) (post := fun r u => r = qI 0 ∧ CW cy x la lv9 ls9 fa xh xs la2 lv92 ls92 fb fw bu ta rc re gb oc oe rs rc2 re2 gb2 oc2 oe2 rs2 rr ad T hz HZ len tx u) (by decide +kernel) (Nat.le_of_ble_eq_true rfl) ?_
  intro p e s m args below meth c Q A hx hb hml hown hg hQ hK hN hD hA H locs ls hP hS hl
  have hown : s.vm.findClass RL = some m.cls := hown
  have hl : lv_has ls 4 [(0, .ref (x)), (1, .int (qI (p0))), (2, .ref (oa))] := hl
  obtain ⟨fs9, hfs9⟩ := CW_at hW
  refine lv_aload_n hx hb dL_ifRemoved_0 rfl (lv_at hl 2 rfl) ?_
  refine q_iconst hx hb dL_ifRemoved_1 ?_
  refine lv_aload_n hx hb dL_ifRemoved_2 rfl (lv_at hl 0 rfl) ?_
  refine lv_iload_n hx hb dL_ifRemoved_3 rfl (lv_at hl 1 rfl) ?_
  refine q_backi [0] [1] (br := [[(oa, aJ cy 1 (g))]]) hP hD hS hA (va_runV (As := [.int (qI (p0))]) (rest := [.int (qI (0)), .ref (oa)]) ⟨hx, hb, hml, hown, hg⟩ (c_X7_ifRemoved l D cy x la lv9 ls9 fa xh xs la2 lv92 ls92 fb fw bu ta rc re gb oc oe rs rc2 re2 gb2 oc2 oe2 rs2 rr ad T hz HZ len tx _ hG hW p0 k hk _) (cv_L_69 hg rfl rfl ⟨by decide, by decide⟩) ⟨q_blind, va_recv hK (fl_blk hP 0 rfl) (ci := 7) (q0 := 0) rfl hfs9, q_preM _ hK hN hP hD [0] (by decide) rfl⟩ rfl rfl hl.1 rfl (lv_room (Nat.le_of_ble_eq_true rfl)) dL_ifRemoved_4 ⟨by decide, by decide⟩) rfl rfl (by decide) (fun r_4 u_4 H locs h_4 hP hD hS => ?_)
  have hP : va_P D vwCl [[(oa, aJ cy 1 (g))], u_4].flatten H := hP
  have hD : va_D A [[(oa, aJ cy 1 (g))], u_4].flatten := hD
  obtain ⟨rfl, h_4⟩ := h_4
  refine lv_i2l hx hb dL_ifRemoved_7 rfl ?_
  refine qb_last (j := 0) hx hb hK hP hD hS 0 0 rfl rfl (by omega) dL_ifRemoved_8 (fun H locs hP hD hS => ?_)
  have hP : va_P D vwCl [[(oa, aJ cy 1 (qu g 0 ((qI (rmT T k)).toInt64)))], u_4].flatten H := hP
  have hD : va_D A [[(oa, aJ cy 1 (qu g 0 ((qI (rmT T k)).toInt64)))], u_4].flatten := hD
  refine lv_goto (tgt := 15) hx hb dL_ifRemoved_9 (by decide) ?_
  refine q_iconst hx hb dL_ifRemoved_15 ?_
  have hP := fl_sub (bs' := [u_4, [(oa, aJ cy 1 (qu g 0 ((qI (rmT T k)).toInt64)))]]) hP [1, 0] rfl
  have hD := fl_subD (bs' := [u_4, [(oa, aJ cy 1 (qu g 0 ((qI (rmT T k)).toInt64)))]]) hD [1, 0] (by decide) rfl
  exact hQ _ _ _ _ _ u_4 ⟨rfl, h_4⟩ hP hD hS dL_ifRemoved_16

set_option maxRecDepth 100000 in
set_option maxHeartbeats 4000000 in
theorem c_L_neededStrength (l : Launch) (D : va_G) (cy : Nat → ClassId) (x la lv9 ls9 fa xh xs la2 lv92 ls92 fb fw bu ta : Nat) (rc re gb oc oe rs rc2 re2 gb2 oc2 oe2 rs2 rr : Nat → Nat) (ad : Nat → Nat → Nat) (T : LSt) (hz : Nat) (HZ : Nat → LSt) (len : Nat) (tx : Nat → Int) (W : va_W) (hG : gOk T) (hW : CW cy x la lv9 ls9 fa xh xs la2 lv92 ls92 fb fw bu ta rc re gb oc oe rs rc2 re2 gb2 oc2 oe2 rs2 rr ad T hz HZ len tx W) (oa : Nat) (g : Nat → Int64) (p0 : Int) (k : Nat) (hk : p0 = (k : Int) ∧ k < lN9 T) (sz : Nat) : qMet l yL_neededStrength (.codeWith yL_neededStrength cL_neededStrength 4 (some .int) [(0, 9, 12, 13)]) 9 [.ref (x), .int (qI (p0)), .ref (oa)] D cy [W, [(oa, aJ cy 1 (g))]] sz (va_Qi (S := va_W) (fun r u => r = qI 0 ∧ CW cy x la lv9 ls9 fa xh xs la2 lv92 ls92 fb fw bu ta rc re gb oc oe rs rc2 re2 gb2 oc2 oe2 rs2 rr ad T hz HZ len tx u) (qB D cy [W, [(oa, aJ cy 1 (g))]] sz (fun u => [u, [(oa, aJ cy 1 (qu g 0 (qI (nsT T k)).toInt64))]])) (va_A [W, [(oa, aJ cy 1 (g))]].flatten sz)) := by
  refine q_ofMiW (S := va_W) (b1 := fun u => [u, [(oa, aJ cy 1 (qu g 0 (qI (nsT T k)).toInt64))]]) (post := fun r u => r = qI 0 ∧ CW cy x la lv9 ls9 fa xh xs la2 lv92 ls92 fb fw bu ta rc re gb oc oe rs rc2 re2 gb2 oc2 oe2 rs2 rr ad T hz HZ len tx u) (by decide +kernel) (Nat.le_of_ble_eq_true rfl) ?_
  intro p e s m args below meth c Q A hx hb hml hown hg hQ hK hN hD hA H locs ls hP hS hl
  have hown : s.vm.findClass RL = some m.cls := hown
  have hl : lv_has ls 4 [(0, .ref (x)), (1, .int (qI (p0))), (2, .ref (oa))] := hl
  obtain ⟨fs9, hfs9⟩ := CW_at hW
  refine lv_aload_n hx hb dL_neededStrength_0 rfl (lv_at hl 2 rfl) ?_
  refine q_iconst hx hb dL_neededStrength_1 ?_
  refine lv_aload_n hx hb dL_neededStrength_2 rfl (lv_at hl 0 rfl) ?_
  refine lv_iload_n hx hb dL_neededStrength_3 rfl (lv_at hl 1 rfl) ?_
  refine q_backi [0] [1] (br := [[(oa, aJ cy 1 (g))]]) hP hD hS hA (va_runV (As := [.int (qI (p0))]) (rest := [.int (qI (0)), .ref (oa)]) ⟨hx, hb, hml, hown, hg⟩ (c_X7_neededStrength l D cy x la lv9 ls9 fa xh xs la2 lv92 ls92 fb fw bu ta rc re gb oc oe rs rc2 re2 gb2 oc2 oe2 rs2 rr ad T hz HZ len tx _ hG hW p0 k hk _) (cv_L_72 hg rfl rfl ⟨by decide, by decide⟩) ⟨q_blind, va_recv hK (fl_blk hP 0 rfl) (ci := 7) (q0 := 0) rfl hfs9, q_preM _ hK hN hP hD [0] (by decide) rfl⟩ rfl rfl hl.1 rfl (lv_room (Nat.le_of_ble_eq_true rfl)) dL_neededStrength_4 ⟨by decide, by decide⟩) rfl rfl (by decide) (fun r_4 u_4 H locs h_4 hP hD hS => ?_)
  have hP : va_P D vwCl [[(oa, aJ cy 1 (g))], u_4].flatten H := hP
  have hD : va_D A [[(oa, aJ cy 1 (g))], u_4].flatten := hD
  obtain ⟨rfl, h_4⟩ := h_4
  refine lv_i2l hx hb dL_neededStrength_7 rfl ?_
  refine qb_last (j := 0) hx hb hK hP hD hS 0 0 rfl rfl (by omega) dL_neededStrength_8 (fun H locs hP hD hS => ?_)
  have hP : va_P D vwCl [[(oa, aJ cy 1 (qu g 0 ((qI (nsT T k)).toInt64)))], u_4].flatten H := hP
  have hD : va_D A [[(oa, aJ cy 1 (qu g 0 ((qI (nsT T k)).toInt64)))], u_4].flatten := hD
  refine lv_goto (tgt := 15) hx hb dL_neededStrength_9 (by decide) ?_
  refine q_iconst hx hb dL_neededStrength_15 ?_
  have hP := fl_sub (bs' := [u_4, [(oa, aJ cy 1 (qu g 0 ((qI (nsT T k)).toInt64)))]]) hP [1, 0] rfl
  have hD := fl_subD (bs' := [u_4, [(oa, aJ cy 1 (qu g 0 ((qI (nsT T k)).toInt64)))]]) hD [1, 0] (by decide) rfl
  exact hQ _ _ _ _ _ u_4 ⟨rfl, h_4⟩ hP hD hS dL_neededStrength_16
