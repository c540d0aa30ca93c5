set_option maxRecDepth 100000 in
set_option maxHeartbeats 4000000 in
theorem c_X0_greatest (l : Launch) (D : va_G) (cy : Nat → ClassId) (r : Nat → Nat) (M : Nat → Nat → Int) (x y : Int) (i j : Nat) (hi : x = (i : Int) ∧ i < 11) (hj : y = (j : Int) ∧ j < 11) : qRd l yX0_greatest (.code yX0_greatest cX0_greatest 3 (some .int)) 1 [.ref (r 0), .int (qI (x)), .int (qI (y))] D cy [qBo cy r (M)] (vp_Si (fun v => v = qI (M i j))) := by
  refine q_ofRi (by decide +kernel) (Nat.le_of_ble_eq_true rfl) ?_
  intro p e s m args below meth c Q hx hb hml hown hg hQ hK hP ls hl
  have hown : s.vm.findClass RX0 = some m.cls := hown
  have hl : lv_has ls 3 [(0, .ref (r 0)), (1, .int (qI (x))), (2, .int (qI (y)))] := hl
  refine lv_aload_n hx hb dX0_greatest_0 rfl (lv_at hl 0 rfl) ?_
  refine gf_X0_11 hx hb hg hown hK (fl_blk hP 0 rfl) 0 rfl rfl dX0_greatest_1 ?_
  refine lv_iload_n hx hb dX0_greatest_4 rfl (lv_at hl 1 rfl) ?_
  refine q_aald (j := i) (v := r (2 + (i))) hx hb hK (fl_blk hP 0 rfl) 1 rfl (by omega) (if_pos (by omega)) dX0_greatest_5 ?_
  refine lv_iload_n hx hb dX0_greatest_6 rfl (lv_at hl 2 rfl) ?_
  refine q_iald (j := j) hx hb hK (fl_blk hP 0 rfl) (2 + (i)) (qBo_row (by omega)) (by omega) dX0_greatest_7 ?_
  exact hQ _ _ _ rfl dX0_greatest_8

set_option maxRecDepth 100000 in
set_option maxHeartbeats 4000000 in
theorem c_X0_least (l : Launch) (D : va_G) (cy : Nat → ClassId) (r : Nat → Nat) (M : Nat → Nat → Int) (x y : Int) (i j : Nat) (hi : x = (i : Int) ∧ i < 11) (hj : y = (j : Int) ∧ j < 11) : qRd l yX0_least (.code yX0_least cX0_least 3 (some .int)) 1 [.ref (r 0), .int (qI (x)), .int (qI (y))] D cy [qBo cy r (M)] (vp_Si (fun v => v = qI (-(M j i)))) := by
  refine q_ofRi (by decide +kernel) (Nat.le_of_ble_eq_true rfl) ?_
  intro p e s m args below meth c Q hx hb hml hown hg hQ hK hP ls hl
  have hown : s.vm.findClass RX0 = some m.cls := hown
  have hl : lv_has ls 3 [(0, .ref (r 0)), (1, .int (qI (x))), (2, .int (qI (y)))] := hl
  refine lv_aload_n hx hb dX0_least_0 rfl (lv_at hl 0 rfl) ?_
  refine gf_X0_11 hx hb hg hown hK (fl_blk hP 0 rfl) 0 rfl rfl dX0_least_1 ?_
  refine lv_iload_n hx hb dX0_least_4 rfl (lv_at hl 2 rfl) ?_
  refine q_aald (j := j) (v := r (2 + (j))) hx hb hK (fl_blk hP 0 rfl) 1 rfl (by omega) (if_pos (by omega)) dX0_least_5 ?_
  refine lv_iload_n hx hb dX0_least_6 rfl (lv_at hl 1 rfl) ?_
  refine q_iald (j := i) hx hb hK (fl_blk hP 0 rfl) (2 + (j)) (qBo_row (by omega)) (by omega) dX0_least_7 ?_
  refine q_ineg hx hb dX0_least_8 ?_
  exact hQ _ _ _ rfl dX0_least_9
