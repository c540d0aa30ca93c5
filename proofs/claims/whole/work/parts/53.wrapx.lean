set_option maxRecDepth 100000 in
set_option maxHeartbeats 4000000 in
theorem c_L_remove_no1 (l : Launch) (hlt9 : l.stackTraces = false) (D : va_G) (cy : Nat → ClassId) (x la lv9 ls9 fa xh xs la2 lv92 ls92 fb fw bu ta : Nat) (rc re gb oc oe rs rc2 re2 gb2 oc2 oe2 rs2 rr : Nat → Nat) (ad : Nat → Nat → Nat) (T : LSt) (hz : Nat) (HZ : Nat → LSt) (len : Nat) (tx : Nat → Int) (W : va_W) (hG : gOk T) (hW : CW cy x la lv9 ls9 fa xh xs la2 lv92 ls92 fb fw bu ta rc re gb oc oe rs rc2 re2 gb2 oc2 oe2 rs2 rr ad T hz HZ len tx W) (oa : Nat) (g : Nat → Int64) (p0 : Int) (r0 : (-2147483648 ≤ p0 ∧ p0 < 2147483648)) (hnx9 : ¬ (0 ≤ p0 ∧ p0 < (lN9 T : Int))) (sz : Nat) : qMx l yL_remove (.codeWith yL_remove cL_remove 4 (some .int) [(0, 9, 12, 13)]) 9 [.ref (x), .int (qI (p0)), .ref (oa)] D cy [W, [(oa, aJ cy 1 (g))]] sz (va_Qi (S := va_W) (fun r u => r = qI 1 ∧ CW cy x la lv9 ls9 fa xh xs la2 lv92 ls92 fb fw bu ta rc re gb oc oe rs rc2 re2 gb2 oc2 oe2 rs2 rr ad T hz HZ len tx u) (qB D cy [W, [(oa, aJ cy 1 (g))]] sz (fun u => [u, [(oa, aJ cy 1 g)]])) (va_A [W, [(oa, aJ cy 1 (g))]].flatten sz)) := by
  refine q_ofMiX (S := va_W) (b1 := fun u => [u, [(oa, aJ cy 1 g)]]) (post := fun r u => r = qI 1 ∧ CW cy x la lv9 ls9 fa xh xs la2 lv92 ls92 fb fw bu ta rc re gb oc oe rs rc2 re2 gb2 oc2 oe2 rs2 rr ad T hz HZ len tx u) (by decide +kernel) (Nat.le_of_ble_eq_true rfl) ?_
  intro p e s m args below meth c Q A hx hb hml hown hg hQ hK hN hD hA hEx9 hNc9 htab H locs ls hP hS hl
  have hown : s.vm.findClass RL = some m.cls := hown
  have hl : lv_has ls 4 [(0, .ref (x)), (1, .int (qI (p0))), (2, .ref (oa))] := hl
  obtain ⟨fs9, hfs9⟩ := CW_at hW
  refine lv_aload_n hx hb dL_remove_0 rfl (lv_at hl 2 rfl) ?_
  refine q_iconst hx hb dL_remove_1 ?_
  refine lv_aload_n hx hb dL_remove_2 rfl (lv_at hl 0 rfl) ?_
  refine lv_iload_n hx hb dL_remove_3 rfl (lv_at hl 1 rfl) ?_
  refine q_thrownW [0] [1] (br := [[(oa, aJ cy 1 g)]]) hP hD hS hA (vx_runV (As := [.int (qI (p0))]) (rest := [.int (qI (0)), .ref (oa)]) ⟨hx, hb, hml, hown, hg⟩ (x_X7_remove_no1 l hlt9 D cy x la lv9 ls9 fa xh xs la2 lv92 ls92 fb fw bu ta rc re gb oc oe rs rc2 re2 gb2 oc2 oe2 rs2 rr ad T hz HZ len tx _ hG hW p0 r0 hnx9 _) (cv_L_19 hg rfl rfl ⟨by decide, by decide⟩) ⟨q_blindX, va_recv hK (fl_blk hP 0 rfl) (ci := 7) (q0 := 0) rfl hfs9, fun U hU hU9 => ⟨rfl, (q_preM [.int (qI (p0))] hK hN hP hD [0] (by decide) rfl U hU hU9).2, hEx9.step hU9 (by rw [hU]; exact hS.2.1) (fl_free hD hS hA [0] rfl)⟩⟩ rfl rfl hl.1 rfl (lv_room (Nat.le_of_ble_eq_true rfl)) dL_remove_4 ⟨by decide, by decide⟩) rfl rfl (by decide) (fun u9 ce q9 H locs h9 hP hD hS hq1 hq2 hq3 => ?_)
  refine vx_catch (name := EI) hown [] ⟨0, 9, 12, 13⟩ [] (htab.trans rfl) (fun z hz9 => nomatch hz9) (by decide) (by decide) (hg _ m_712) (hEx9.2.1.1.use rfl) hq1 hq2 hq3 ?_
  have hP : va_P D vwCl [[(oa, aJ cy 1 (g))], u9].flatten H := hP
  have hD : va_D A [[(oa, aJ cy 1 (g))], u9].flatten := hD
  refine lv_astore_n (lv' := [(3, .ref (q9)), (0, .ref (x)), (1, .int (qI (p0))), (2, .ref (oa))]) hx hb dL_remove_12 rfl hl (by decide) rfl (fun ls hl => ?_)
  refine q_iconst hx hb dL_remove_13 ?_
  have hP := fl_sub (bs' := [u9, [(oa, aJ cy 1 (g))]]) hP [1, 0] rfl
  have hD := fl_subD (bs' := [u9, [(oa, aJ cy 1 (g))]]) hD [1, 0] (by decide) rfl
  exact hQ _ _ _ _ _ u9 ⟨rfl, h9⟩ hP hD hS dL_remove_14

set_option maxRecDepth 100000 in
set_option maxHeartbeats 4000000 in
theorem c_L_add_no1 (l : Launch) (hlt9 : l.stackTraces = false) (D : va_G) (cy : Nat → ClassId) (x la lv9 ls9 fa xh xs la2 lv92 ls92 fb fw bu ta : Nat) (rc re gb oc oe rs rc2 re2 gb2 oc2 oe2 rs2 rr : Nat → Nat) (ad : Nat → Nat → Nat) (T : LSt) (hz : Nat) (HZ : Nat → LSt) (len : Nat) (tx : Nat → Int) (W : va_W) (hG : gOk T) (hW : CW cy x la lv9 ls9 fa xh xs la2 lv92 ls92 fb fw bu ta rc re gb oc oe rs rc2 re2 gb2 oc2 oe2 rs2 rr ad T hz HZ len tx W) (oa : Nat) (g : Nat → Int64) (p0 p1 p2 p3 p4 : Int) (r0 : (-2147483648 ≤ p0 ∧ p0 < 2147483648)) (r1 : (-2147483648 ≤ p1 ∧ p1 < 2147483648)) (r2 : (-2147483648 ≤ p2 ∧ p2 < 2147483648)) (r3 : (-2147483648 ≤ p3 ∧ p3 < 2147483648)) (r4 : (-2147483648 ≤ p4 ∧ p4 < 2147483648)) (hnx9 : ¬ ((0 ≤ p0 ∧ p0 ≤ 9) ∧ (p1 = -1 ∨ (0 ≤ p1 ∧ p1 ≤ 9 ∧ p1 ≠ p0)))) (sz : Nat) : qMx l yL_add (.codeWith yL_add cL_add 8 (some .int) [(0, 16, 19, 13), (0, 16, 23, 15), (0, 16, 27, 17)]) 9 [.ref (x), .int (qI (p0)), .int (qI (p1)), .int (qI (p2)), .int (qI (p3)), .int (qI (p4)), .ref (oa)] D cy [W, [(oa, aJ cy 1 (g))]] sz (va_Qi (S := va_W) (fun r u => r = qI 1 ∧ CW cy x la lv9 ls9 fa xh xs la2 lv92 ls92 fb fw bu ta rc re gb oc oe rs rc2 re2 gb2 oc2 oe2 rs2 rr ad T hz HZ len tx u) (qB D cy [W, [(oa, aJ cy 1 (g))]] sz (fun u => [u, [(oa, aJ cy 1 g)]])) (va_A [W, [(oa, aJ cy 1 (g))]].flatten sz)) := by
  refine q_ofMiX (S := va_W) (b1 := fun u => [u, [(oa, aJ cy 1 g)]]) (post := fun r u => r = qI 1 ∧ CW cy x la lv9 ls9 fa xh xs la2 lv92 ls92 fb fw bu ta rc re gb oc oe rs rc2 re2 gb2 oc2 oe2 rs2 rr ad T hz HZ len tx u) (by decide +kernel) (Nat.le_of_ble_eq_true rfl) ?_
  intro p e s m args below meth c Q A hx hb hml hown hg hQ hK hN hD hA hEx9 hNc9 htab H locs ls hP hS hl
  have hown : s.vm.findClass RL = some m.cls := hown
  have hl : lv_has ls 8 [(0, .ref (x)), (1, .int (qI (p0))), (2, .int (qI (p1))), (3, .int (qI (p2))), (4, .int (qI (p3))), (5, .int (qI (p4))), (6, .ref (oa))] := hl
  obtain ⟨fs9, hfs9⟩ := CW_at hW
  refine lv_aload hx hb dL_add_0 (lv_at hl 6 rfl) ?_
  refine q_iconst hx hb dL_add_2 ?_
  refine lv_aload_n hx hb dL_add_3 rfl (lv_at hl 0 rfl) ?_
  refine lv_iload_n hx hb dL_add_4 rfl (lv_at hl 1 rfl) ?_
  refine lv_iload_n hx hb dL_add_5 rfl (lv_at hl 2 rfl) ?_
  refine lv_iload_n hx hb dL_add_6 rfl (lv_at hl 3 rfl) ?_
  refine lv_iload hx hb dL_add_7 (lv_at hl 4 rfl) ?_
  refine lv_iload hx hb dL_add_9 (lv_at hl 5 rfl) ?_
  refine q_thrownW [0] [1] (br := [[(oa, aJ cy 1 g)]]) hP hD hS hA (vx_runV (As := [.int (qI (p0)), .int (qI (p1)), .int (qI (p2)), .int (qI (p3)), .int (qI (p4))]) (rest := [.int (qI (0)), .ref (oa)]) ⟨hx, hb, hml, hown, hg⟩ (x_X7_add_no1 l hlt9 D cy x la lv9 ls9 fa xh xs la2 lv92 ls92 fb fw bu ta rc re gb oc oe rs rc2 re2 gb2 oc2 oe2 rs2 rr ad T hz HZ len tx _ hG hW p0 p1 p2 p3 p4 r0 r1 r2 r3 r4 hnx9 _) (cv_L_7 hg rfl rfl ⟨by decide, by decide⟩) ⟨q_blindX, va_recv hK (fl_blk hP 0 rfl) (ci := 7) (q0 := 0) rfl hfs9, fun U hU hU9 => ⟨rfl, (q_preM [.int (qI (p0)), .int (qI (p1)), .int (qI (p2)), .int (qI (p3)), .int (qI (p4))] hK hN hP hD [0] (by decide) rfl U hU hU9).2, hEx9.step hU9 (by rw [hU]; exact hS.2.1) (fl_free hD hS hA [0] rfl)⟩⟩ rfl rfl hl.1 rfl (lv_room (Nat.le_of_ble_eq_true rfl)) dL_add_11 ⟨by decide, by decide⟩) rfl rfl (by decide) (fun u9 ce q9 H locs h9 hP hD hS hq1 hq2 hq3 => ?_)
  refine vx_catch (name := EI) hown [] ⟨0, 16, 19, 13⟩ [⟨0, 16, 23, 15⟩, ⟨0, 16, 27, 17⟩] (htab.trans rfl) (fun z hz9 => nomatch hz9) (by decide) (by decide) (hg _ m_712) (hEx9.2.1.1.use rfl) hq1 hq2 hq3 ?_
  have hP : va_P D vwCl [[(oa, aJ cy 1 (g))], u9].flatten H := hP
  have hD : va_D A [[(oa, aJ cy 1 (g))], u9].flatten := hD
  refine lv_astore (lv' := [(7, .ref (q9)), (0, .ref (x)), (1, .int (qI (p0))), (2, .int (qI (p1))), (3, .int (qI (p2))), (4, .int (qI (p3))), (5, .int (qI (p4))), (6, .ref (oa))]) hx hb dL_add_19 hl (by decide) rfl (fun ls hl => ?_)
  refine q_iconst hx hb dL_add_21 ?_
  have hP := fl_sub (bs' := [u9, [(oa, aJ cy 1 (g))]]) hP [1, 0] rfl
  have hD := fl_subD (bs' := [u9, [(oa, aJ cy 1 (g))]]) hD [1, 0] (by decide) rfl
  exact hQ _ _ _ _ _ u9 ⟨rfl, h9⟩ hP hD hS dL_add_22

set_option maxRecDepth 100000 in
set_option maxHeartbeats 4000000 in
theorem c_L_add_no2 (l : Launch) (hlt9 : l.stackTraces = false) (D : va_G) (cy : Nat → ClassId) (x la lv9 ls9 fa xh xs la2 lv92 ls92 fb fw bu ta : Nat) (rc re gb oc oe rs rc2 re2 gb2 oc2 oe2 rs2 rr : Nat → Nat) (ad : Nat → Nat → Nat) (T : LSt) (hz : Nat) (HZ : Nat → LSt) (len : Nat) (tx : Nat → Int) (W : va_W) (hG : gOk T) (hW : CW cy x la lv9 ls9 fa xh xs la2 lv92 ls92 fb fw bu ta rc re gb oc oe rs rc2 re2 gb2 oc2 oe2 rs2 rr ad T hz HZ len tx W) (oa : Nat) (g : Nat → Int64) (p0 p1 p2 p3 p4 : Int) (r0 : (-2147483648 ≤ p0 ∧ p0 < 2147483648)) (r1 : (-2147483648 ≤ p1 ∧ p1 < 2147483648)) (r2 : (-2147483648 ≤ p2 ∧ p2 < 2147483648)) (r3 : (-2147483648 ≤ p3 ∧ p3 < 2147483648)) (r4 : (-2147483648 ≤ p4 ∧ p4 < 2147483648)) (hnx9 : (0 ≤ p0 ∧ p0 ≤ 9) ∧ (p1 = -1 ∨ (0 ≤ p1 ∧ p1 ≤ 9 ∧ p1 ≠ p0))) (hny9 : ¬ ((0 ≤ p2 ∧ p2 ≤ 2) ∧ (-2000 ≤ p3 ∧ p3 ≤ 2000) ∧ (0 ≤ p4 ∧ p4 ≤ 3))) (sz : Nat) : qMx l yL_add (.codeWith yL_add cL_add 8 (some .int) [(0, 16, 19, 13), (0, 16, 23, 15), (0, 16, 27, 17)]) 9 [.ref (x), .int (qI (p0)), .int (qI (p1)), .int (qI (p2)), .int (qI (p3)), .int (qI (p4)), .ref (oa)] D cy [W, [(oa, aJ cy 1 (g))]] sz (va_Qi (S := va_W) (fun r u => r = qI 2 ∧ CW cy x la lv9 ls9 fa xh xs la2 lv92 ls92 fb fw bu ta rc re gb oc oe rs rc2 re2 gb2 oc2 oe2 rs2 rr ad T hz HZ len tx u) (qB D cy [W, [(oa, aJ cy 1 (g))]] sz (fun u => [u, [(oa, aJ cy 1 g)]])) (va_A [W, [(oa, aJ cy 1 (g))]].flatten sz)) := by
  refine q_ofMiX (S := va_W) (b1 := fun u => [u, [(oa, aJ cy 1 g)]]) (post := fun r u => r = qI 2 ∧ CW cy x la lv9 ls9 fa xh xs la2 lv92 ls92 fb fw bu ta rc re gb oc oe rs rc2 re2 gb2 oc2 oe2 rs2 rr ad T hz HZ len tx u) (by decide +kernel) (Nat.le_of_ble_eq_true rfl) ?_
  intro p e s m args below meth c Q A hx hb hml hown hg hQ hK hN hD hA hEx9 hNc9 htab H locs ls hP hS hl
  have hown : s.vm.findClass RL = some m.cls := hown
  have hl : lv_has ls 8 [(0, .ref (x)), (1, .int (qI (p0))), (2, .int (qI (p1))), (3, .int (qI (p2))), (4, .int (qI (p3))), (5, .int (qI (p4))), (6, .ref (oa))] := hl
  obtain ⟨fs9, hfs9⟩ := CW_at hW
  refine lv_aload hx hb dL_add_0 (lv_at hl 6 rfl) ?_
  refine q_iconst hx hb dL_add_2 ?_
  refine lv_aload_n hx hb dL_add_3 rfl (lv_at hl 0 rfl) ?_
  refine lv_iload_n hx hb dL_add_4 rfl (lv_at hl 1 rfl) ?_
  refine lv_iload_n hx hb dL_add_5 rfl (lv_at hl 2 rfl) ?_
  refine lv_iload_n hx hb dL_add_6 rfl (lv_at hl 3 rfl) ?_
  refine lv_iload hx hb dL_add_7 (lv_at hl 4 rfl) ?_
  refine lv_iload hx hb dL_add_9 (lv_at hl 5 rfl) ?_
  refine q_thrownW [0] [1] (br := [[(oa, aJ cy 1 g)]]) hP hD hS hA (vx_runV (As := [.int (qI (p0)), .int (qI (p1)), .int (qI (p2)), .int (qI (p3)), .int (qI (p4))]) (rest := [.int (qI (0)), .ref (oa)]) ⟨hx, hb, hml, hown, hg⟩ (x_X7_add_no2 l hlt9 D cy x la lv9 ls9 fa xh xs la2 lv92 ls92 fb fw bu ta rc re gb oc oe rs rc2 re2 gb2 oc2 oe2 rs2 rr ad T hz HZ len tx _ hG hW p0 p1 p2 p3 p4 r0 r1 r2 r3 r4 hnx9 hny9 _) (cv_L_7 hg rfl rfl ⟨by decide, by decide⟩) ⟨q_blindX, va_recv hK (fl_blk hP 0 rfl) (ci := 7) (q0 := 0) rfl hfs9, fun U hU hU9 => ⟨rfl, (q_preM [.int (qI (p0)), .int (qI (p1)), .int (qI (p2)), .int (qI (p3)), .int (qI (p4))] hK hN hP hD [0] (by decide) rfl U hU hU9).2, hEx9.step hU9 (by rw [hU]; exact hS.2.1) (fl_free hD hS hA [0] rfl)⟩⟩ rfl rfl hl.1 rfl (lv_room (Nat.le_of_ble_eq_true rfl)) dL_add_11 ⟨by decide, by decide⟩) rfl rfl (by decide) (fun u9 ce q9 H locs h9 hP hD hS hq1 hq2 hq3 => ?_)
  have hps : ∀ z ∈ ([⟨0, 16, 19, 13⟩] : List ExceptionTableEntry), covers z 11 = false ∨ (z.catchType ≠ 0 ∧ ∃ nm : String, (Cond.classLink RL z.catchType nm).before args s = true ∧ va_Nc EA nm s) := by
    intro z hz9
    simp only [List.mem_cons, List.not_mem_nil, or_false] at hz9
    rcases hz9 with rfl
    · exact Or.inr ⟨by decide, EI, hg _ m_712, hNc9.1⟩
  refine vx_catch (name := EA) hown [⟨0, 16, 19, 13⟩] ⟨0, 16, 23, 15⟩ [⟨0, 16, 27, 17⟩] (htab.trans rfl) hps (by decide) (by decide) (hg _ m_713) (hEx9.2.1.2.1.use rfl) hq1 hq2 hq3 ?_
  have hP : va_P D vwCl [[(oa, aJ cy 1 (g))], u9].flatten H := hP
  have hD : va_D A [[(oa, aJ cy 1 (g))], u9].flatten := hD
  refine lv_astore (lv' := [(7, .ref (q9)), (0, .ref (x)), (1, .int (qI (p0))), (2, .int (qI (p1))), (3, .int (qI (p2))), (4, .int (qI (p3))), (5, .int (qI (p4))), (6, .ref (oa))]) hx hb dL_add_23 hl (by decide) rfl (fun ls hl => ?_)
  refine q_iconst hx hb dL_add_25 ?_
  have hP := fl_sub (bs' := [u9, [(oa, aJ cy 1 (g))]]) hP [1, 0] rfl
  have hD := fl_subD (bs' := [u9, [(oa, aJ cy 1 (g))]]) hD [1, 0] (by decide) rfl
  exact hQ _ _ _ _ _ u9 ⟨rfl, h9⟩ hP hD hS dL_add_26

set_option maxRecDepth 100000 in
set_option maxHeartbeats 4000000 in
theorem c_L_add_no3 (l : Launch) (hlt9 : l.stackTraces = false) (D : va_G) (cy : Nat → ClassId) (x la lv9 ls9 fa xh xs la2 lv92 ls92 fb fw bu ta : Nat) (rc re gb oc oe rs rc2 re2 gb2 oc2 oe2 rs2 rr : Nat → Nat) (ad : Nat → Nat → Nat) (T : LSt) (hz : Nat) (HZ : Nat → LSt) (len : Nat) (tx : Nat → Int) (W : va_W) (hG : gOk T) (hW : CW cy x la lv9 ls9 fa xh xs la2 lv92 ls92 fb fw bu ta rc re gb oc oe rs rc2 re2 gb2 oc2 oe2 rs2 rr ad T hz HZ len tx W) (oa : Nat) (g : Nat → Int64) (p0 p1 p2 p3 p4 : Int) (r0 : (-2147483648 ≤ p0 ∧ p0 < 2147483648)) (r1 : (-2147483648 ≤ p1 ∧ p1 < 2147483648)) (r2 : (-2147483648 ≤ p2 ∧ p2 < 2147483648)) (r3 : (-2147483648 ≤ p3 ∧ p3 < 2147483648)) (r4 : (-2147483648 ≤ p4 ∧ p4 < 2147483648)) (hnx9 : (0 ≤ p0 ∧ p0 ≤ 9) ∧ (p1 = -1 ∨ (0 ≤ p1 ∧ p1 ≤ 9 ∧ p1 ≠ p0))) (hny9 : (0 ≤ p2 ∧ p2 ≤ 2) ∧ (-2000 ≤ p3 ∧ p3 ≤ 2000) ∧ (0 ≤ p4 ∧ p4 ≤ 3)) (hnz9 : lN9 T = 16) (sz : Nat) : qMx l yL_add (.codeWith yL_add cL_add 8 (some .int) [(0, 16, 19, 13), (0, 16, 23, 15), (0, 16, 27, 17)]) 9 [.ref (x), .int (qI (p0)), .int (qI (p1)), .int (qI (p2)), .int (qI (p3)), .int (qI (p4)), .ref (oa)] D cy [W, [(oa, aJ cy 1 (g))]] sz (va_Qi (S := va_W) (fun r u => r = qI 3 ∧ CW cy x la lv9 ls9 fa xh xs la2 lv92 ls92 fb fw bu ta rc re gb oc oe rs rc2 re2 gb2 oc2 oe2 rs2 rr ad T hz HZ len tx u) (qB D cy [W, [(oa, aJ cy 1 (g))]] sz (fun u => [u, [(oa, aJ cy 1 g)]])) (va_A [W, [(oa, aJ cy 1 (g))]].flatten sz)) := by
  refine q_ofMiX (S := va_W) (b1 := fun u => [u, [(oa, aJ cy 1 g)]]) (post := fun r u => r = qI 3 ∧ CW cy x la lv9 ls9 fa xh xs la2 lv92 ls92 fb fw bu ta rc re gb oc oe rs rc2 re2 gb2 oc2 oe2 rs2 rr ad T hz HZ len tx u) (by decide +kernel) (Nat.le_of_ble_eq_true rfl) ?_
  intro p e s m args below meth c Q A hx hb hml hown hg hQ hK hN hD hA hEx9 hNc9 htab H locs ls hP hS hl
  have hown : s.vm.findClass RL = some m.cls := hown
  have hl : lv_has ls 8 [(0, .ref (x)), (1, .int (qI (p0))), (2, .int (qI (p1))), (3, .int (qI (p2))), (4, .int (qI (p3))), (5, .int (qI (p4))), (6, .ref (oa))] := hl
  obtain ⟨fs9, hfs9⟩ := CW_at hW
  refine lv_aload hx hb dL_add_0 (lv_at hl 6 rfl) ?_
  refine q_iconst hx hb dL_add_2 ?_
  refine lv_aload_n hx hb dL_add_3 rfl (lv_at hl 0 rfl) ?_
  refine lv_iload_n hx hb dL_add_4 rfl (lv_at hl 1 rfl) ?_
  refine lv_iload_n hx hb dL_add_5 rfl (lv_at hl 2 rfl) ?_
  refine lv_iload_n hx hb dL_add_6 rfl (lv_at hl 3 rfl) ?_
  refine lv_iload hx hb dL_add_7 (lv_at hl 4 rfl) ?_
  refine lv_iload hx hb dL_add_9 (lv_at hl 5 rfl) ?_
  refine q_thrownW [0] [1] (br := [[(oa, aJ cy 1 g)]]) hP hD hS hA (vx_runV (As := [.int (qI (p0)), .int (qI (p1)), .int (qI (p2)), .int (qI (p3)), .int (qI (p4))]) (rest := [.int (qI (0)), .ref (oa)]) ⟨hx, hb, hml, hown, hg⟩ (x_X7_add_no3 l hlt9 D cy x la lv9 ls9 fa xh xs la2 lv92 ls92 fb fw bu ta rc re gb oc oe rs rc2 re2 gb2 oc2 oe2 rs2 rr ad T hz HZ len tx _ hG hW p0 p1 p2 p3 p4 r0 r1 r2 r3 r4 hnx9 hny9 hnz9 _) (cv_L_7 hg rfl rfl ⟨by decide, by decide⟩) ⟨q_blindX, va_recv hK (fl_blk hP 0 rfl) (ci := 7) (q0 := 0) rfl hfs9, fun U hU hU9 => ⟨rfl, (q_preM [.int (qI (p0)), .int (qI (p1)), .int (qI (p2)), .int (qI (p3)), .int (qI (p4))] hK hN hP hD [0] (by decide) rfl U hU hU9).2, hEx9.step hU9 (by rw [hU]; exact hS.2.1) (fl_free hD hS hA [0] rfl)⟩⟩ rfl rfl hl.1 rfl (lv_room (Nat.le_of_ble_eq_true rfl)) dL_add_11 ⟨by decide, by decide⟩) rfl rfl (by decide) (fun u9 ce q9 H locs h9 hP hD hS hq1 hq2 hq3 => ?_)
  have hps : ∀ z ∈ ([⟨0, 16, 19, 13⟩, ⟨0, 16, 23, 15⟩] : List ExceptionTableEntry), covers z 11 = false ∨ (z.catchType ≠ 0 ∧ ∃ nm : String, (Cond.classLink RL z.catchType nm).before args s = true ∧ va_Nc ES nm s) := by
    intro z hz9
    simp only [List.mem_cons, List.not_mem_nil, or_false] at hz9
    rcases hz9 with rfl | rfl
    · exact Or.inr ⟨by decide, EI, hg _ m_712, hNc9.2.1⟩
    · exact Or.inr ⟨by decide, EA, hg _ m_713, hNc9.2.2⟩
  refine vx_catch (name := ES) hown [⟨0, 16, 19, 13⟩, ⟨0, 16, 23, 15⟩] ⟨0, 16, 27, 17⟩ [] (htab.trans rfl) hps (by decide) (by decide) (hg _ m_714) (hEx9.2.1.2.2.use rfl) hq1 hq2 hq3 ?_
  have hP : va_P D vwCl [[(oa, aJ cy 1 (g))], u9].flatten H := hP
  have hD : va_D A [[(oa, aJ cy 1 (g))], u9].flatten := hD
  refine lv_astore (lv' := [(7, .ref (q9)), (0, .ref (x)), (1, .int (qI (p0))), (2, .int (qI (p1))), (3, .int (qI (p2))), (4, .int (qI (p3))), (5, .int (qI (p4))), (6, .ref (oa))]) hx hb dL_add_27 hl (by decide) rfl (fun ls hl => ?_)
  refine q_iconst hx hb dL_add_29 ?_
  have hP := fl_sub (bs' := [u9, [(oa, aJ cy 1 (g))]]) hP [1, 0] rfl
  have hD := fl_subD (bs' := [u9, [(oa, aJ cy 1 (g))]]) hD [1, 0] (by decide) rfl
  exact hQ _ _ _ _ _ u9 ⟨rfl, h9⟩ hP hD hS dL_add_30

set_option maxRecDepth 100000 in
set_option maxHeartbeats 4000000 in
theorem c_L_setStrength_no1 (l : Launch) (hlt9 : l.stackTraces = false) (D : va_G) (cy : Nat → ClassId) (x la lv9 ls9 fa xh xs la2 lv92 ls92 fb fw bu ta : Nat) (rc re gb oc oe rs rc2 re2 gb2 oc2 oe2 rs2 rr : Nat → Nat) (ad : Nat → Nat → Nat) (T : LSt) (hz : Nat) (HZ : Nat → LSt) (len : Nat) (tx : Nat → Int) (W : va_W) (hG : gOk T) (hW : CW cy x la lv9 ls9 fa xh xs la2 lv92 ls92 fb fw bu ta rc re gb oc oe rs rc2 re2 gb2 oc2 oe2 rs2 rr ad T hz HZ len tx W) (oa : Nat) (g : Nat → Int64) (p0 p1 : Int) (r0 : (-2147483648 ≤ p0 ∧ p0 < 2147483648)) (r1 : (-2147483648 ≤ p1 ∧ p1 < 2147483648)) (hnx9 : ¬ (0 ≤ p0 ∧ p0 < (lN9 T : Int))) (sz : Nat) : qMx l yL_setStrength (.codeWith yL_setStrength cL_setStrength 5 (some .int) [(0, 10, 13, 13), (0, 10, 17, 15)]) 9 [.ref (x), .int (qI (p0)), .int (qI (p1)), .ref (oa)] D cy [W, [(oa, aJ cy 1 (g))]] sz (va_Qi (S := va_W) (fun r u => r = qI 1 ∧ CW cy x la lv9 ls9 fa xh xs la2 lv92 ls92 fb fw bu ta rc re gb oc oe rs rc2 re2 gb2 oc2 oe2 rs2 rr ad T hz HZ len tx u) (qB D cy [W, [(oa, aJ cy 1 (g))]] sz (fun u => [u, [(oa, aJ cy 1 g)]])) (va_A [W, [(oa, aJ cy 1 (g))]].flatten sz)) := by
  refine q_ofMiX (S := va_W) (b1 := fun u => [u, [(oa, aJ cy 1 g)]]) (post := fun r u => r = qI 1 ∧ CW cy x la lv9 ls9 fa xh xs la2 lv92 ls92 fb fw bu ta rc re gb oc oe rs rc2 re2 gb2 oc2 oe2 rs2 rr ad T hz HZ len tx u) (by decide +kernel) (Nat.le_of_ble_eq_true rfl) ?_
  intro p e s m args below meth c Q A hx hb hml hown hg hQ hK hN hD hA hEx9 hNc9 htab H locs ls hP hS hl
  have hown : s.vm.findClass RL = some m.cls := hown
  have hl : lv_has ls 5 [(0, .ref (x)), (1, .int (qI (p0))), (2, .int (qI (p1))), (3, .ref (oa))] := hl
  obtain ⟨fs9, hfs9⟩ := CW_at hW
  refine lv_aload_n hx hb dL_setStrength_0 rfl (lv_at hl 3 rfl) ?_
  refine q_iconst hx hb dL_setStrength_1 ?_
  refine lv_aload_n hx hb dL_setStrength_2 rfl (lv_at hl 0 rfl) ?_
  refine lv_iload_n hx hb dL_setStrength_3 rfl (lv_at hl 1 rfl) ?_
  refine lv_iload_n hx hb dL_setStrength_4 rfl (lv_at hl 2 rfl) ?_
  refine q_thrownW [0] [1] (br := [[(oa, aJ cy 1 g)]]) hP hD hS hA (vx_runV (As := [.int (qI (p0)), .int (qI (p1))]) (rest := [.int (qI (0)), .ref (oa)]) ⟨hx, hb, hml, hown, hg⟩ (x_X7_setStrength_no1 l hlt9 D cy x la lv9 ls9 fa xh xs la2 lv92 ls92 fb fw bu ta rc re gb oc oe rs rc2 re2 gb2 oc2 oe2 rs2 rr ad T hz HZ len tx _ hG hW p0 p1 r0 r1 hnx9 _) (cv_L_23 hg rfl rfl ⟨by decide, by decide⟩) ⟨q_blindX, va_recv hK (fl_blk hP 0 rfl) (ci := 7) (q0 := 0) rfl hfs9, fun U hU hU9 => ⟨rfl, (q_preM [.int (qI (p0)), .int (qI (p1))] hK hN hP hD [0] (by decide) rfl U hU hU9).2, hEx9.step hU9 (by rw [hU]; exact hS.2.1) (fl_free hD hS hA [0] rfl)⟩⟩ rfl rfl hl.1 rfl (lv_room (Nat.le_of_ble_eq_true rfl)) dL_setStrength_5 ⟨by decide, by decide⟩) rfl rfl (by decide) (fun u9 ce q9 H locs h9 hP hD hS hq1 hq2 hq3 => ?_)
  refine vx_catch (name := EI) hown [] ⟨0, 10, 13, 13⟩ [⟨0, 10, 17, 15⟩] (htab.trans rfl) (fun z hz9 => nomatch hz9) (by decide) (by decide) (hg _ m_712) (hEx9.2.1.1.use rfl) hq1 hq2 hq3 ?_
  have hP : va_P D vwCl [[(oa, aJ cy 1 (g))], u9].flatten H := hP
  have hD : va_D A [[(oa, aJ cy 1 (g))], u9].flatten := hD
  refine lv_astore (lv' := [(4, .ref (q9)), (0, .ref (x)), (1, .int (qI (p0))), (2, .int (qI (p1))), (3, .ref (oa))]) hx hb dL_setStrength_13 hl (by decide) rfl (fun ls hl => ?_)
  refine q_iconst hx hb dL_setStrength_15 ?_
  have hP := fl_sub (bs' := [u9, [(oa, aJ cy 1 (g))]]) hP [1, 0] rfl
  have hD := fl_subD (bs' := [u9, [(oa, aJ cy 1 (g))]]) hD [1, 0] (by decide) rfl
  exact hQ _ _ _ _ _ u9 ⟨rfl, h9⟩ hP hD hS dL_setStrength_16

set_option maxRecDepth 100000 in
set_option maxHeartbeats 4000000 in
theorem c_L_setStrength_no2 (l : Launch) (hlt9 : l.stackTraces = false) (D : va_G) (cy : Nat → ClassId) (x la lv9 ls9 fa xh xs la2 lv92 ls92 fb fw bu ta : Nat) (rc re gb oc oe rs rc2 re2 gb2 oc2 oe2 rs2 rr : Nat → Nat) (ad : Nat → Nat → Nat) (T : LSt) (hz : Nat) (HZ : Nat → LSt) (len : Nat) (tx : Nat → Int) (W : va_W) (hG : gOk T) (hW : CW cy x la lv9 ls9 fa xh xs la2 lv92 ls92 fb fw bu ta rc re gb oc oe rs rc2 re2 gb2 oc2 oe2 rs2 rr ad T hz HZ len tx W) (oa : Nat) (g : Nat → Int64) (p0 p1 : Int) (r0 : (-2147483648 ≤ p0 ∧ p0 < 2147483648)) (r1 : (-2147483648 ≤ p1 ∧ p1 < 2147483648)) (hnx9 : 0 ≤ p0 ∧ p0 < (lN9 T : Int)) (hny9 : ¬ (0 ≤ p1 ∧ p1 ≤ 3)) (sz : Nat) : qMx l yL_setStrength (.codeWith yL_setStrength cL_setStrength 5 (some .int) [(0, 10, 13, 13), (0, 10, 17, 15)]) 9 [.ref (x), .int (qI (p0)), .int (qI (p1)), .ref (oa)] D cy [W, [(oa, aJ cy 1 (g))]] sz (va_Qi (S := va_W) (fun r u => r = qI 2 ∧ CW cy x la lv9 ls9 fa xh xs la2 lv92 ls92 fb fw bu ta rc re gb oc oe rs rc2 re2 gb2 oc2 oe2 rs2 rr ad T hz HZ len tx u) (qB D cy [W, [(oa, aJ cy 1 (g))]] sz (fun u => [u, [(oa, aJ cy 1 g)]])) (va_A [W, [(oa, aJ cy 1 (g))]].flatten sz)) := by
  refine q_ofMiX (S := va_W) (b1 := fun u => [u, [(oa, aJ cy 1 g)]]) (post := fun r u => r = qI 2 ∧ CW cy x la lv9 ls9 fa xh xs la2 lv92 ls92 fb fw bu ta rc re gb oc oe rs rc2 re2 gb2 oc2 oe2 rs2 rr ad T hz HZ len tx u) (by decide +kernel) (Nat.le_of_ble_eq_true rfl) ?_
  intro p e s m args below meth c Q A hx hb hml hown hg hQ hK hN hD hA hEx9 hNc9 htab H locs ls hP hS hl
  have hown : s.vm.findClass RL = some m.cls := hown
  have hl : lv_has ls 5 [(0, .ref (x)), (1, .int (qI (p0))), (2, .int (qI (p1))), (3, .ref (oa))] := hl
  obtain ⟨fs9, hfs9⟩ := CW_at hW
  refine lv_aload_n hx hb dL_setStrength_0 rfl (lv_at hl 3 rfl) ?_
  refine q_iconst hx hb dL_setStrength_1 ?_
  refine lv_aload_n hx hb dL_setStrength_2 rfl (lv_at hl 0 rfl) ?_
  refine lv_iload_n hx hb dL_setStrength_3 rfl (lv_at hl 1 rfl) ?_
  refine lv_iload_n hx hb dL_setStrength_4 rfl (lv_at hl 2 rfl) ?_
  refine q_thrownW [0] [1] (br := [[(oa, aJ cy 1 g)]]) hP hD hS hA (vx_runV (As := [.int (qI (p0)), .int (qI (p1))]) (rest := [.int (qI (0)), .ref (oa)]) ⟨hx, hb, hml, hown, hg⟩ (x_X7_setStrength_no2 l hlt9 D cy x la lv9 ls9 fa xh xs la2 lv92 ls92 fb fw bu ta rc re gb oc oe rs rc2 re2 gb2 oc2 oe2 rs2 rr ad T hz HZ len tx _ hG hW p0 p1 r0 r1 hnx9 hny9 _) (cv_L_23 hg rfl rfl ⟨by decide, by decide⟩) ⟨q_blindX, va_recv hK (fl_blk hP 0 rfl) (ci := 7) (q0 := 0) rfl hfs9, fun U hU hU9 => ⟨rfl, (q_preM [.int (qI (p0)), .int (qI (p1))] hK hN hP hD [0] (by decide) rfl U hU hU9).2, hEx9.step hU9 (by rw [hU]; exact hS.2.1) (fl_free hD hS hA [0] rfl)⟩⟩ rfl rfl hl.1 rfl (lv_room (Nat.le_of_ble_eq_true rfl)) dL_setStrength_5 ⟨by decide, by decide⟩) rfl rfl (by decide) (fun u9 ce q9 H locs h9 hP hD hS hq1 hq2 hq3 => ?_)
  have hps : ∀ z ∈ ([⟨0, 10, 13, 13⟩] : List ExceptionTableEntry), covers z 5 = false ∨ (z.catchType ≠ 0 ∧ ∃ nm : String, (Cond.classLink RL z.catchType nm).before args s = true ∧ va_Nc EA nm s) := by
    intro z hz9
    simp only [List.mem_cons, List.not_mem_nil, or_false] at hz9
    rcases hz9 with rfl
    · exact Or.inr ⟨by decide, EI, hg _ m_712, hNc9.1⟩
  refine vx_catch (name := EA) hown [⟨0, 10, 13, 13⟩] ⟨0, 10, 17, 15⟩ [] (htab.trans rfl) hps (by decide) (by decide) (hg _ m_713) (hEx9.2.1.2.1.use rfl) hq1 hq2 hq3 ?_
  have hP : va_P D vwCl [[(oa, aJ cy 1 (g))], u9].flatten H := hP
  have hD : va_D A [[(oa, aJ cy 1 (g))], u9].flatten := hD
  refine lv_astore (lv' := [(4, .ref (q9)), (0, .ref (x)), (1, .int (qI (p0))), (2, .int (qI (p1))), (3, .ref (oa))]) hx hb dL_setStrength_17 hl (by decide) rfl (fun ls hl => ?_)
  refine q_iconst hx hb dL_setStrength_19 ?_
  have hP := fl_sub (bs' := [u9, [(oa, aJ cy 1 (g))]]) hP [1, 0] rfl
  have hD := fl_subD (bs' := [u9, [(oa, aJ cy 1 (g))]]) hD [1, 0] (by decide) rfl
  exact hQ _ _ _ _ _ u9 ⟨rfl, h9⟩ hP hD hS dL_setStrength_20

set_option maxRecDepth 100000 in
set_option maxHeartbeats 4000000 in
theorem c_L_setNumber_no1 (l : Launch) (hlt9 : l.stackTraces = false) (D : va_G) (cy : Nat → ClassId) (x la lv9 ls9 fa xh xs la2 lv92 ls92 fb fw bu ta : Nat) (rc re gb oc oe rs rc2 re2 gb2 oc2 oe2 rs2 rr : Nat → Nat) (ad : Nat → Nat → Nat) (T : LSt) (hz : Nat) (HZ : Nat → LSt) (len : Nat) (tx : Nat → Int) (W : va_W) (hG : gOk T) (hW : CW cy x la lv9 ls9 fa xh xs la2 lv92 ls92 fb fw bu ta rc re gb oc oe rs rc2 re2 gb2 oc2 oe2 rs2 rr ad T hz HZ len tx W) (oa : Nat) (g : Nat → Int64) (p0 p1 : Int) (r0 : (-2147483648 ≤ p0 ∧ p0 < 2147483648)) (r1 : (-2147483648 ≤ p1 ∧ p1 < 2147483648)) (hnx9 : ¬ (0 ≤ p0 ∧ p0 < (lN9 T : Int))) (sz : Nat) : qMx l yL_setNumber (.codeWith yL_setNumber cL_setNumber 5 (some .int) [(0, 10, 13, 13), (0, 10, 17, 15)]) 9 [.ref (x), .int (qI (p0)), .int (qI (p1)), .ref (oa)] D cy [W, [(oa, aJ cy 1 (g))]] sz (va_Qi (S := va_W) (fun r u => r = qI 1 ∧ CW cy x la lv9 ls9 fa xh xs la2 lv92 ls92 fb fw bu ta rc re gb oc oe rs rc2 re2 gb2 oc2 oe2 rs2 rr ad T hz HZ len tx u) (qB D cy [W, [(oa, aJ cy 1 (g))]] sz (fun u => [u, [(oa, aJ cy 1 g)]])) (va_A [W, [(oa, aJ cy 1 (g))]].flatten sz)) := by
  refine q_ofMiX (S := va_W) (b1 := fun u => [u, [(oa, aJ cy 1 g)]]) (post := fun r u => r = qI 1 ∧ CW cy x la lv9 ls9 fa xh xs la2 lv92 ls92 fb fw bu ta rc re gb oc oe rs rc2 re2 gb2 oc2 oe2 rs2 rr ad T hz HZ len tx u) (by decide +kernel) (Nat.le_of_ble_eq_true rfl) ?_
  intro p e s m args below meth c Q A hx hb hml hown hg hQ hK hN hD hA hEx9 hNc9 htab H locs ls hP hS hl
  have hown : s.vm.findClass RL = some m.cls := hown
  have hl : lv_has ls 5 [(0, .ref (x)), (1, .int (qI (p0))), (2, .int (qI (p1))), (3, .ref (oa))] := hl
  obtain ⟨fs9, hfs9⟩ := CW_at hW
  refine lv_aload_n hx hb dL_setNumber_0 rfl (lv_at hl 3 rfl) ?_
  refine q_iconst hx hb dL_setNumber_1 ?_
  refine lv_aload_n hx hb dL_setNumber_2 rfl (lv_at hl 0 rfl) ?_
  refine lv_iload_n hx hb dL_setNumber_3 rfl (lv_at hl 1 rfl) ?_
  refine lv_iload_n hx hb dL_setNumber_4 rfl (lv_at hl 2 rfl) ?_
  refine q_thrownW [0] [1] (br := [[(oa, aJ cy 1 g)]]) hP hD hS hA (vx_runV (As := [.int (qI (p0)), .int (qI (p1))]) (rest := [.int (qI (0)), .ref (oa)]) ⟨hx, hb, hml, hown, hg⟩ (x_X7_setNumber_no1 l hlt9 D cy x la lv9 ls9 fa xh xs la2 lv92 ls92 fb fw bu ta rc re gb oc oe rs rc2 re2 gb2 oc2 oe2 rs2 rr ad T hz HZ len tx _ hG hW p0 p1 r0 r1 hnx9 _) (cv_L_27 hg rfl rfl ⟨by decide, by decide⟩) ⟨q_blindX, va_recv hK (fl_blk hP 0 rfl) (ci := 7) (q0 := 0) rfl hfs9, fun U hU hU9 => ⟨rfl, (q_preM [.int (qI (p0)), .int (qI (p1))] hK hN hP hD [0] (by decide) rfl U hU hU9).2, hEx9.step hU9 (by rw [hU]; exact hS.2.1) (fl_free hD hS hA [0] rfl)⟩⟩ rfl rfl hl.1 rfl (lv_room (Nat.le_of_ble_eq_true rfl)) dL_setNumber_5 ⟨by decide, by decide⟩) rfl rfl (by decide) (fun u9 ce q9 H locs h9 hP hD hS hq1 hq2 hq3 => ?_)
  refine vx_catch (name := EI) hown [] ⟨0, 10, 13, 13⟩ [⟨0, 10, 17, 15⟩] (htab.trans rfl) (fun z hz9 => nomatch hz9) (by decide) (by decide) (hg _ m_712) (hEx9.2.1.1.use rfl) hq1 hq2 hq3 ?_
  have hP : va_P D vwCl [[(oa, aJ cy 1 (g))], u9].flatten H := hP
  have hD : va_D A [[(oa, aJ cy 1 (g))], u9].flatten := hD
  refine lv_astore (lv' := [(4, .ref (q9)), (0, .ref (x)), (1, .int (qI (p0))), (2, .int (qI (p1))), (3, .ref (oa))]) hx hb dL_setNumber_13 hl (by decide) rfl (fun ls hl => ?_)
  refine q_iconst hx hb dL_setNumber_15 ?_
  have hP := fl_sub (bs' := [u9, [(oa, aJ cy 1 (g))]]) hP [1, 0] rfl
  have hD := fl_subD (bs' := [u9, [(oa, aJ cy 1 (g))]]) hD [1, 0] (by decide) rfl
  exact hQ _ _ _ _ _ u9 ⟨rfl, h9⟩ hP hD hS dL_setNumber_16

set_option maxRecDepth 100000 in
set_option maxHeartbeats 4000000 in
theorem c_L_setNumber_no2 (l : Launch) (hlt9 : l.stackTraces = false) (D : va_G) (cy : Nat → ClassId) (x la lv9 ls9 fa xh xs la2 lv92 ls92 fb fw bu ta : Nat) (rc re gb oc oe rs rc2 re2 gb2 oc2 oe2 rs2 rr : Nat → Nat) (ad : Nat → Nat → Nat) (T : LSt) (hz : Nat) (HZ : Nat → LSt) (len : Nat) (tx : Nat → Int) (W : va_W) (hG : gOk T) (hW : CW cy x la lv9 ls9 fa xh xs la2 lv92 ls92 fb fw bu ta rc re gb oc oe rs rc2 re2 gb2 oc2 oe2 rs2 rr ad T hz HZ len tx W) (oa : Nat) (g : Nat → Int64) (p0 p1 : Int) (r0 : (-2147483648 ≤ p0 ∧ p0 < 2147483648)) (r1 : (-2147483648 ≤ p1 ∧ p1 < 2147483648)) (hnx9 : 0 ≤ p0 ∧ p0 < (lN9 T : Int)) (hny9 : ¬ (-2000 ≤ p1 ∧ p1 ≤ 2000)) (sz : Nat) : qMx l yL_setNumber (.codeWith yL_setNumber cL_setNumber 5 (some .int) [(0, 10, 13, 13), (0, 10, 17, 15)]) 9 [.ref (x), .int (qI (p0)), .int (qI (p1)), .ref (oa)] D cy [W, [(oa, aJ cy 1 (g))]] sz (va_Qi (S := va_W) (fun r u => r = qI 2 ∧ CW cy x la lv9 ls9 fa xh xs la2 lv92 ls92 fb fw bu ta rc re gb oc oe rs rc2 re2 gb2 oc2 oe2 rs2 rr ad T hz HZ len tx u) (qB D cy [W, [(oa, aJ cy 1 (g))]] sz (fun u => [u, [(oa, aJ cy 1 g)]])) (va_A [W, [(oa, aJ cy 1 (g))]].flatten sz)) := by
  refine q_ofMiX (S := va_W) (b1 := fun u => [u, [(oa, aJ cy 1 g)]]) (post := fun r u => r = qI 2 ∧ CW cy x la lv9 ls9 fa xh xs la2 lv92 ls92 fb fw bu ta rc re gb oc oe rs rc2 re2 gb2 oc2 oe2 rs2 rr ad T hz HZ len tx u) (by decide +kernel) (Nat.le_of_ble_eq_true rfl) ?_
  intro p e s m args below meth c Q A hx hb hml hown hg hQ hK hN hD hA hEx9 hNc9 htab H locs ls hP hS hl
  have hown : s.vm.findClass RL = some m.cls := hown
  have hl : lv_has ls 5 [(0, .ref (x)), (1, .int (qI (p0))), (2, .int (qI (p1))), (3, .ref (oa))] := hl
  obtain ⟨fs9, hfs9⟩ := CW_at hW
  refine lv_aload_n hx hb dL_setNumber_0 rfl (lv_at hl 3 rfl) ?_
  refine q_iconst hx hb dL_setNumber_1 ?_
  refine lv_aload_n hx hb dL_setNumber_2 rfl (lv_at hl 0 rfl) ?_
  refine lv_iload_n hx hb dL_setNumber_3 rfl (lv_at hl 1 rfl) ?_
  refine lv_iload_n hx hb dL_setNumber_4 rfl (lv_at hl 2 rfl) ?_
  refine q_thrownW [0] [1] (br := [[(oa, aJ cy 1 g)]]) hP hD hS hA (vx_runV (As := [.int (qI (p0)), .int (qI (p1))]) (rest := [.int (qI (0)), .ref (oa)]) ⟨hx, hb, hml, hown, hg⟩ (x_X7_setNumber_no2 l hlt9 D cy x la lv9 ls9 fa xh xs la2 lv92 ls92 fb fw bu ta rc re gb oc oe rs rc2 re2 gb2 oc2 oe2 rs2 rr ad T hz HZ len tx _ hG hW p0 p1 r0 r1 hnx9 hny9 _) (cv_L_27 hg rfl rfl ⟨by decide, by decide⟩) ⟨q_blindX, va_recv hK (fl_blk hP 0 rfl) (ci := 7) (q0 := 0) rfl hfs9, fun U hU hU9 => ⟨rfl, (q_preM [.int (qI (p0)), .int (qI (p1))] hK hN hP hD [0] (by decide) rfl U hU hU9).2, hEx9.step hU9 (by rw [hU]; exact hS.2.1) (fl_free hD hS hA [0] rfl)⟩⟩ rfl rfl hl.1 rfl (lv_room (Nat.le_of_ble_eq_true rfl)) dL_setNumber_5 ⟨by decide, by decide⟩) rfl rfl (by decide) (fun u9 ce q9 H locs h9 hP hD hS hq1 hq2 hq3 => ?_)
  have hps : ∀ z ∈ ([⟨0, 10, 13, 13⟩] : List ExceptionTableEntry), covers z 5 = false ∨ (z.catchType ≠ 0 ∧ ∃ nm : String, (Cond.classLink RL z.catchType nm).before args s = true ∧ va_Nc EA nm s) := by
    intro z hz9
    simp only [List.mem_cons, List.not_mem_nil, or_false] at hz9
    rcases hz9 with rfl
    · exact Or.inr ⟨by decide, EI, hg _ m_712, hNc9.1⟩
  refine vx_catch (name := EA) hown [⟨0, 10, 13, 13⟩] ⟨0, 10, 17, 15⟩ [] (htab.trans rfl) hps (by decide) (by decide) (hg _ m_713) (hEx9.2.1.2.1.use rfl) hq1 hq2 hq3 ?_
  have hP : va_P D vwCl [[(oa, aJ cy 1 (g))], u9].flatten H := hP
  have hD : va_D A [[(oa, aJ cy 1 (g))], u9].flatten := hD
  refine lv_astore (lv' := [(4, .ref (q9)), (0, .ref (x)), (1, .int (qI (p0))), (2, .int (qI (p1))), (3, .ref (oa))]) hx hb dL_setNumber_17 hl (by decide) rfl (fun ls hl => ?_)
  refine q_iconst hx hb dL_setNumber_19 ?_
  have hP := fl_sub (bs' := [u9, [(oa, aJ cy 1 (g))]]) hP [1, 0] rfl
  have hD := fl_subD (bs' := [u9, [(oa, aJ cy 1 (g))]]) hD [1, 0] (by decide) rfl
  exact hQ _ _ _ _ _ u9 ⟨rfl, h9⟩ hP hD hS dL_setNumber_20

set_option maxRecDepth 100000 in
set_option maxHeartbeats 4000000 in
theorem c_L_setStay_no1 (l : Launch) (hlt9 : l.stackTraces = false) (D : va_G) (cy : Nat → ClassId) (x la lv9 ls9 fa xh xs la2 lv92 ls92 fb fw bu ta : Nat) (rc re gb oc oe rs rc2 re2 gb2 oc2 oe2 rs2 rr : Nat → Nat) (ad : Nat → Nat → Nat) (T : LSt) (hz : Nat) (HZ : Nat → LSt) (len : Nat) (tx : Nat → Int) (W : va_W) (hG : gOk T) (hW : CW cy x la lv9 ls9 fa xh xs la2 lv92 ls92 fb fw bu ta rc re gb oc oe rs rc2 re2 gb2 oc2 oe2 rs2 rr ad T hz HZ len tx W) (oa : Nat) (g : Nat → Int64) (p0 p1 : Int) (r0 : (-2147483648 ≤ p0 ∧ p0 < 2147483648)) (r1 : (-2147483648 ≤ p1 ∧ p1 < 2147483648)) (hnx9 : ¬ (0 ≤ p0 ∧ p0 ≤ 9)) (sz : Nat) : qMx l yL_setStay (.codeWith yL_setStay cL_setStay 5 (some .int) [(0, 10, 13, 13), (0, 10, 17, 15)]) 9 [.ref (x), .int (qI (p0)), .int (qI (p1)), .ref (oa)] D cy [W, [(oa, aJ cy 1 (g))]] sz (va_Qi (S := va_W) (fun r u => r = qI 1 ∧ CW cy x la lv9 ls9 fa xh xs la2 lv92 ls92 fb fw bu ta rc re gb oc oe rs rc2 re2 gb2 oc2 oe2 rs2 rr ad T hz HZ len tx u) (qB D cy [W, [(oa, aJ cy 1 (g))]] sz (fun u => [u, [(oa, aJ cy 1 g)]])) (va_A [W, [(oa, aJ cy 1 (g))]].flatten sz)) := by
  refine q_ofMiX (S := va_W) (b1 := fun u => [u, [(oa, aJ cy 1 g)]]) (post := fun r u => r = qI 1 ∧ CW cy x la lv9 ls9 fa xh xs la2 lv92 ls92 fb fw bu ta rc re gb oc oe rs rc2 re2 gb2 oc2 oe2 rs2 rr ad T hz HZ len tx u) (by decide +kernel) (Nat.le_of_ble_eq_true rfl) ?_
  intro p e s m args below meth c Q A hx hb hml hown hg hQ hK hN hD hA hEx9 hNc9 htab H locs ls hP hS hl
  have hown : s.vm.findClass RL = some m.cls := hown
  have hl : lv_has ls 5 [(0, .ref (x)), (1, .int (qI (p0))), (2, .int (qI (p1))), (3, .ref (oa))] := hl
  obtain ⟨fs9, hfs9⟩ := CW_at hW
  refine lv_aload_n hx hb dL_setStay_0 rfl (lv_at hl 3 rfl) ?_
  refine q_iconst hx hb dL_setStay_1 ?_
  refine lv_aload_n hx hb dL_setStay_2 rfl (lv_at hl 0 rfl) ?_
  refine lv_iload_n hx hb dL_setStay_3 rfl (lv_at hl 1 rfl) ?_
  refine lv_iload_n hx hb dL_setStay_4 rfl (lv_at hl 2 rfl) ?_
  refine q_thrownW [0] [1] (br := [[(oa, aJ cy 1 g)]]) hP hD hS hA (vx_runV (As := [.int (qI (p0)), .int (qI (p1))]) (rest := [.int (qI (0)), .ref (oa)]) ⟨hx, hb, hml, hown, hg⟩ (x_X7_setStay_no1 l hlt9 D cy x la lv9 ls9 fa xh xs la2 lv92 ls92 fb fw bu ta rc re gb oc oe rs rc2 re2 gb2 oc2 oe2 rs2 rr ad T hz HZ len tx _ hG hW p0 p1 r0 r1 hnx9 _) (cv_L_30 hg rfl rfl ⟨by decide, by decide⟩) ⟨q_blindX, va_recv hK (fl_blk hP 0 rfl) (ci := 7) (q0 := 0) rfl hfs9, fun U hU hU9 => ⟨rfl, (q_preM [.int (qI (p0)), .int (qI (p1))] hK hN hP hD [0] (by decide) rfl U hU hU9).2, hEx9.step hU9 (by rw [hU]; exact hS.2.1) (fl_free hD hS hA [0] rfl)⟩⟩ rfl rfl hl.1 rfl (lv_room (Nat.le_of_ble_eq_true rfl)) dL_setStay_5 ⟨by decide, by decide⟩) rfl rfl (by decide) (fun u9 ce q9 H locs h9 hP hD hS hq1 hq2 hq3 => ?_)
  refine vx_catch (name := EI) hown [] ⟨0, 10, 13, 13⟩ [⟨0, 10, 17, 15⟩] (htab.trans rfl) (fun z hz9 => nomatch hz9) (by decide) (by decide) (hg _ m_712) (hEx9.2.1.1.use rfl) hq1 hq2 hq3 ?_
  have hP : va_P D vwCl [[(oa, aJ cy 1 (g))], u9].flatten H := hP
  have hD : va_D A [[(oa, aJ cy 1 (g))], u9].flatten := hD
  refine lv_astore (lv' := [(4, .ref (q9)), (0, .ref (x)), (1, .int (qI (p0))), (2, .int (qI (p1))), (3, .ref (oa))]) hx hb dL_setStay_13 hl (by decide) rfl (fun ls hl => ?_)
  refine q_iconst hx hb dL_setStay_15 ?_
  have hP := fl_sub (bs' := [u9, [(oa, aJ cy 1 (g))]]) hP [1, 0] rfl
  have hD := fl_subD (bs' := [u9, [(oa, aJ cy 1 (g))]]) hD [1, 0] (by decide) rfl
  exact hQ _ _ _ _ _ u9 ⟨rfl, h9⟩ hP hD hS dL_setStay_16

set_option maxRecDepth 100000 in
set_option maxHeartbeats 4000000 in
theorem c_L_setStay_no2 (l : Launch) (hlt9 : l.stackTraces = false) (D : va_G) (cy : Nat → ClassId) (x la lv9 ls9 fa xh xs la2 lv92 ls92 fb fw bu ta : Nat) (rc re gb oc oe rs rc2 re2 gb2 oc2 oe2 rs2 rr : Nat → Nat) (ad : Nat → Nat → Nat) (T : LSt) (hz : Nat) (HZ : Nat → LSt) (len : Nat) (tx : Nat → Int) (W : va_W) (hG : gOk T) (hW : CW cy x la lv9 ls9 fa xh xs la2 lv92 ls92 fb fw bu ta rc re gb oc oe rs rc2 re2 gb2 oc2 oe2 rs2 rr ad T hz HZ len tx W) (oa : Nat) (g : Nat → Int64) (p0 p1 : Int) (r0 : (-2147483648 ≤ p0 ∧ p0 < 2147483648)) (r1 : (-2147483648 ≤ p1 ∧ p1 < 2147483648)) (hnx9 : 0 ≤ p0 ∧ p0 ≤ 9) (hny9 : ¬ (0 ≤ p1 ∧ p1 ≤ 9)) (sz : Nat) : qMx l yL_setStay (.codeWith yL_setStay cL_setStay 5 (some .int) [(0, 10, 13, 13), (0, 10, 17, 15)]) 9 [.ref (x), .int (qI (p0)), .int (qI (p1)), .ref (oa)] D cy [W, [(oa, aJ cy 1 (g))]] sz (va_Qi (S := va_W) (fun r u => r = qI 2 ∧ CW cy x la lv9 ls9 fa xh xs la2 lv92 ls92 fb fw bu ta rc re gb oc oe rs rc2 re2 gb2 oc2 oe2 rs2 rr ad T hz HZ len tx u) (qB D cy [W, [(oa, aJ cy 1 (g))]] sz (fun u => [u, [(oa, aJ cy 1 g)]])) (va_A [W, [(oa, aJ cy 1 (g))]].flatten sz)) := by
  refine q_ofMiX (S := va_W) (b1 := fun u => [u, [(oa, aJ cy 1 g)]]) (post := fun r u => r = qI 2 ∧ CW cy x la lv9 ls9 fa xh xs la2 lv92 ls92 fb fw bu ta rc re gb oc oe rs rc2 re2 gb2 oc2 oe2 rs2 rr ad T hz HZ len tx u) (by decide +kernel) (Nat.le_of_ble_eq_true rfl) ?_
  intro p e s m args below meth c Q A hx hb hml hown hg hQ hK hN hD hA hEx9 hNc9 htab H locs ls hP hS hl
  have hown : s.vm.findClass RL = some m.cls := hown
  have hl : lv_has ls 5 [(0, .ref (x)), (1, .int (qI (p0))), (2, .int (qI (p1))), (3, .ref (oa))] := hl
  obtain ⟨fs9, hfs9⟩ := CW_at hW
  refine lv_aload_n hx hb dL_setStay_0 rfl (lv_at hl 3 rfl) ?_
  refine q_iconst hx hb dL_setStay_1 ?_
  refine lv_aload_n hx hb dL_setStay_2 rfl (lv_at hl 0 rfl) ?_
  refine lv_iload_n hx hb dL_setStay_3 rfl (lv_at hl 1 rfl) ?_
  refine lv_iload_n hx hb dL_setStay_4 rfl (lv_at hl 2 rfl) ?_
  refine q_thrownW [0] [1] (br := [[(oa, aJ cy 1 g)]]) hP hD hS hA (vx_runV (As := [.int (qI (p0)), .int (qI (p1))]) (rest := [.int (qI (0)), .ref (oa)]) ⟨hx, hb, hml, hown, hg⟩ (x_X7_setStay_no2 l hlt9 D cy x la lv9 ls9 fa xh xs la2 lv92 ls92 fb fw bu ta rc re gb oc oe rs rc2 re2 gb2 oc2 oe2 rs2 rr ad T hz HZ len tx _ hG hW p0 p1 r0 r1 hnx9 hny9 _) (cv_L_30 hg rfl rfl ⟨by decide, by decide⟩) ⟨q_blindX, va_recv hK (fl_blk hP 0 rfl) (ci := 7) (q0 := 0) rfl hfs9, fun U hU hU9 => ⟨rfl, (q_preM [.int (qI (p0)), .int (qI (p1))] hK hN hP hD [0] (by decide) rfl U hU hU9).2, hEx9.step hU9 (by rw [hU]; exact hS.2.1) (fl_free hD hS hA [0] rfl)⟩⟩ rfl rfl hl.1 rfl (lv_room (Nat.le_of_ble_eq_true rfl)) dL_setStay_5 ⟨by decide, by decide⟩) rfl rfl (by decide) (fun u9 ce q9 H locs h9 hP hD hS hq1 hq2 hq3 => ?_)
  have hps : ∀ z ∈ ([⟨0, 10, 13, 13⟩] : List ExceptionTableEntry), covers z 5 = false ∨ (z.catchType ≠ 0 ∧ ∃ nm : String, (Cond.classLink RL z.catchType nm).before args s = true ∧ va_Nc EA nm s) := by
    intro z hz9
    simp only [List.mem_cons, List.not_mem_nil, or_false] at hz9
    rcases hz9 with rfl
    · exact Or.inr ⟨by decide, EI, hg _ m_712, hNc9.1⟩
  refine vx_catch (name := EA) hown [⟨0, 10, 13, 13⟩] ⟨0, 10, 17, 15⟩ [] (htab.trans rfl) hps (by decide) (by decide) (hg _ m_713) (hEx9.2.1.2.1.use rfl) hq1 hq2 hq3 ?_
  have hP : va_P D vwCl [[(oa, aJ cy 1 (g))], u9].flatten H := hP
  have hD : va_D A [[(oa, aJ cy 1 (g))], u9].flatten := hD
  refine lv_astore (lv' := [(4, .ref (q9)), (0, .ref (x)), (1, .int (qI (p0))), (2, .int (qI (p1))), (3, .ref (oa))]) hx hb dL_setStay_17 hl (by decide) rfl (fun ls hl => ?_)
  refine q_iconst hx hb dL_setStay_19 ?_
  have hP := fl_sub (bs' := [u9, [(oa, aJ cy 1 (g))]]) hP [1, 0] rfl
  have hD := fl_subD (bs' := [u9, [(oa, aJ cy 1 (g))]]) hD [1, 0] (by decide) rfl
  exact hQ _ _ _ _ _ u9 ⟨rfl, h9⟩ hP hD hS dL_setStay_20

set_option maxRecDepth 100000 in
set_option maxHeartbeats 4000000 in
theorem c_L_edit_no1 (l : Launch) (hlt9 : l.stackTraces = false) (D : va_G) (cy : Nat → ClassId) (x la lv9 ls9 fa xh xs la2 lv92 ls92 fb fw bu ta : Nat) (rc re gb oc oe rs rc2 re2 gb2 oc2 oe2 rs2 rr : Nat → Nat) (ad : Nat → Nat → Nat) (T : LSt) (hz : Nat) (HZ : Nat → LSt) (len : Nat) (tx : Nat → Int) (W : va_W) (hG : gOk T) (hW : CW cy x la lv9 ls9 fa xh xs la2 lv92 ls92 fb fw bu ta rc re gb oc oe rs rc2 re2 gb2 oc2 oe2 rs2 rr ad T hz HZ len tx W) (oa : Nat) (g : Nat → Int64) (p0 p1 p2 : Int) (r0 : (-2147483648 ≤ p0 ∧ p0 < 2147483648)) (r1 : (-2147483648 ≤ p1 ∧ p1 < 2147483648)) (r2 : (-2147483648 ≤ p2 ∧ p2 < 2147483648)) (hnx9 : ¬ (0 ≤ p0 ∧ p0 ≤ 9)) (sz : Nat) : qMx l yL_edit (.codeWith yL_edit cL_edit 6 (some .int) [(0, 12, 15, 13), (0, 12, 19, 15), (0, 12, 23, 17)]) 9 [.ref (x), .int (qI (p0)), .int (qI (p1)), .int (qI (p2)), .ref (oa)] D cy [W, [(oa, aJ cy 1 (g))]] sz (va_Qi (S := va_W) (fun r u => r = qI 1 ∧ CW cy x la lv9 ls9 fa xh xs la2 lv92 ls92 fb fw bu ta rc re gb oc oe rs rc2 re2 gb2 oc2 oe2 rs2 rr ad T hz HZ len tx u) (qB D cy [W, [(oa, aJ cy 1 (g))]] sz (fun u => [u, [(oa, aJ cy 1 g)]])) (va_A [W, [(oa, aJ cy 1 (g))]].flatten sz)) := by
  refine q_ofMiX (S := va_W) (b1 := fun u => [u, [(oa, aJ cy 1 g)]]) (post := fun r u => r = qI 1 ∧ CW cy x la lv9 ls9 fa xh xs la2 lv92 ls92 fb fw bu ta rc re gb oc oe rs rc2 re2 gb2 oc2 oe2 rs2 rr ad T hz HZ len tx u) (by decide +kernel) (Nat.le_of_ble_eq_true rfl) ?_
  intro p e s m args below meth c Q A hx hb hml hown hg hQ hK hN hD hA hEx9 hNc9 htab H locs ls hP hS hl
  have hown : s.vm.findClass RL = some m.cls := hown
  have hl : lv_has ls 6 [(0, .ref (x)), (1, .int (qI (p0))), (2, .int (qI (p1))), (3, .int (qI (p2))), (4, .ref (oa))] := hl
  obtain ⟨fs9, hfs9⟩ := CW_at hW
  refine lv_aload hx hb dL_edit_0 (lv_at hl 4 rfl) ?_
  refine q_iconst hx hb dL_edit_2 ?_
  refine lv_aload_n hx hb dL_edit_3 rfl (lv_at hl 0 rfl) ?_
  refine lv_iload_n hx hb dL_edit_4 rfl (lv_at hl 1 rfl) ?_
  refine lv_iload_n hx hb dL_edit_5 rfl (lv_at hl 2 rfl) ?_
  refine lv_iload_n hx hb dL_edit_6 rfl (lv_at hl 3 rfl) ?_
  refine q_thrownW [0] [1] (br := [[(oa, aJ cy 1 g)]]) hP hD hS hA (vx_runV (As := [.int (qI (p0)), .int (qI (p1)), .int (qI (p2))]) (rest := [.int (qI (0)), .ref (oa)]) ⟨hx, hb, hml, hown, hg⟩ (x_X7_edit_no1 l hlt9 D cy x la lv9 ls9 fa xh xs la2 lv92 ls92 fb fw bu ta rc re gb oc oe rs rc2 re2 gb2 oc2 oe2 rs2 rr ad T hz HZ len tx _ hG hW p0 p1 p2 r0 r1 r2 hnx9 _) (cv_L_33 hg rfl rfl ⟨by decide, by decide⟩) ⟨q_blindX, va_recv hK (fl_blk hP 0 rfl) (ci := 7) (q0 := 0) rfl hfs9, fun U hU hU9 => ⟨rfl, (q_preM [.int (qI (p0)), .int (qI (p1)), .int (qI (p2))] hK hN hP hD [0] (by decide) rfl U hU hU9).2, hEx9.step hU9 (by rw [hU]; exact hS.2.1) (fl_free hD hS hA [0] rfl)⟩⟩ rfl rfl hl.1 rfl (lv_room (Nat.le_of_ble_eq_true rfl)) dL_edit_7 ⟨by decide, by decide⟩) rfl rfl (by decide) (fun u9 ce q9 H locs h9 hP hD hS hq1 hq2 hq3 => ?_)
  refine vx_catch (name := EI) hown [] ⟨0, 12, 15, 13⟩ [⟨0, 12, 19, 15⟩, ⟨0, 12, 23, 17⟩] (htab.trans rfl) (fun z hz9 => nomatch hz9) (by decide) (by decide) (hg _ m_712) (hEx9.2.1.1.use rfl) hq1 hq2 hq3 ?_
  have hP : va_P D vwCl [[(oa, aJ cy 1 (g))], u9].flatten H := hP
  have hD : va_D A [[(oa, aJ cy 1 (g))], u9].flatten := hD
  refine lv_astore (lv' := [(5, .ref (q9)), (0, .ref (x)), (1, .int (qI (p0))), (2, .int (qI (p1))), (3, .int (qI (p2))), (4, .ref (oa))]) hx hb dL_edit_15 hl (by decide) rfl (fun ls hl => ?_)
  refine q_iconst hx hb dL_edit_17 ?_
  have hP := fl_sub (bs' := [u9, [(oa, aJ cy 1 (g))]]) hP [1, 0] rfl
  have hD := fl_subD (bs' := [u9, [(oa, aJ cy 1 (g))]]) hD [1, 0] (by decide) rfl
  exact hQ _ _ _ _ _ u9 ⟨rfl, h9⟩ hP hD hS dL_edit_18

set_option maxRecDepth 100000 in
set_option maxHeartbeats 4000000 in
theorem c_L_edit_no2 (l : Launch) (hlt9 : l.stackTraces = false) (D : va_G) (cy : Nat → ClassId) (x la lv9 ls9 fa xh xs la2 lv92 ls92 fb fw bu ta : Nat) (rc re gb oc oe rs rc2 re2 gb2 oc2 oe2 rs2 rr : Nat → Nat) (ad : Nat → Nat → Nat) (T : LSt) (hz : Nat) (HZ : Nat → LSt) (len : Nat) (tx : Nat → Int) (W : va_W) (hG : gOk T) (hW : CW cy x la lv9 ls9 fa xh xs la2 lv92 ls92 fb fw bu ta rc re gb oc oe rs rc2 re2 gb2 oc2 oe2 rs2 rr ad T hz HZ len tx W) (oa : Nat) (g : Nat → Int64) (p0 p1 p2 : Int) (r0 : (-2147483648 ≤ p0 ∧ p0 < 2147483648)) (r1 : (-2147483648 ≤ p1 ∧ p1 < 2147483648)) (r2 : (-2147483648 ≤ p2 ∧ p2 < 2147483648)) (hnx9 : 0 ≤ p0 ∧ p0 ≤ 9) (hny9 : ¬ ((-1000 ≤ p1 ∧ p1 ≤ 1000) ∧ (0 ≤ p2 ∧ p2 ≤ 3))) (sz : Nat) : qMx l yL_edit (.codeWith yL_edit cL_edit 6 (some .int) [(0, 12, 15, 13), (0, 12, 19, 15), (0, 12, 23, 17)]) 9 [.ref (x), .int (qI (p0)), .int (qI (p1)), .int (qI (p2)), .ref (oa)] D cy [W, [(oa, aJ cy 1 (g))]] sz (va_Qi (S := va_W) (fun r u => r = qI 2 ∧ CW cy x la lv9 ls9 fa xh xs la2 lv92 ls92 fb fw bu ta rc re gb oc oe rs rc2 re2 gb2 oc2 oe2 rs2 rr ad T hz HZ len tx u) (qB D cy [W, [(oa, aJ cy 1 (g))]] sz (fun u => [u, [(oa, aJ cy 1 g)]])) (va_A [W, [(oa, aJ cy 1 (g))]].flatten sz)) := by
  refine q_ofMiX (S := va_W) (b1 := fun u => [u, [(oa, aJ cy 1 g)]]) (post := fun r u => r = qI 2 ∧ CW cy x la lv9 ls9 fa xh xs la2 lv92 ls92 fb fw bu ta rc re gb oc oe rs rc2 re2 gb2 oc2 oe2 rs2 rr ad T hz HZ len tx u) (by decide +kernel) (Nat.le_of_ble_eq_true rfl) ?_
  intro p e s m args below meth c Q A hx hb hml hown hg hQ hK hN hD hA hEx9 hNc9 htab H locs ls hP hS hl
  have hown : s.vm.findClass RL = some m.cls := hown
  have hl : lv_has ls 6 [(0, .ref (x)), (1, .int (qI (p0))), (2, .int (qI (p1))), (3, .int (qI (p2))), (4, .ref (oa))] := hl
  obtain ⟨fs9, hfs9⟩ := CW_at hW
  refine lv_aload hx hb dL_edit_0 (lv_at hl 4 rfl) ?_
  refine q_iconst hx hb dL_edit_2 ?_
  refine lv_aload_n hx hb dL_edit_3 rfl (lv_at hl 0 rfl) ?_
  refine lv_iload_n hx hb dL_edit_4 rfl (lv_at hl 1 rfl) ?_
  refine lv_iload_n hx hb dL_edit_5 rfl (lv_at hl 2 rfl) ?_
  refine lv_iload_n hx hb dL_edit_6 rfl (lv_at hl 3 rfl) ?_
  refine q_thrownW [0] [1] (br := [[(oa, aJ cy 1 g)]]) hP hD hS hA (vx_runV (As := [.int (qI (p0)), .int (qI (p1)), .int (qI (p2))]) (rest := [.int (qI (0)), .ref (oa)]) ⟨hx, hb, hml, hown, hg⟩ (x_X7_edit_no2 l hlt9 D cy x la lv9 ls9 fa xh xs la2 lv92 ls92 fb fw bu ta rc re gb oc oe rs rc2 re2 gb2 oc2 oe2 rs2 rr ad T hz HZ len tx _ hG hW p0 p1 p2 r0 r1 r2 hnx9 hny9 _) (cv_L_33 hg rfl rfl ⟨by decide, by decide⟩) ⟨q_blindX, va_recv hK (fl_blk hP 0 rfl) (ci := 7) (q0 := 0) rfl hfs9, fun U hU hU9 => ⟨rfl, (q_preM [.int (qI (p0)), .int (qI (p1)), .int (qI (p2))] hK hN hP hD [0] (by decide) rfl U hU hU9).2, hEx9.step hU9 (by rw [hU]; exact hS.2.1) (fl_free hD hS hA [0] rfl)⟩⟩ rfl rfl hl.1 rfl (lv_room (Nat.le_of_ble_eq_true rfl)) dL_edit_7 ⟨by decide, by decide⟩) rfl rfl (by decide) (fun u9 ce q9 H locs h9 hP hD hS hq1 hq2 hq3 => ?_)
  have hps : ∀ z ∈ ([⟨0, 12, 15, 13⟩] : List ExceptionTableEntry), covers z 7 = false ∨ (z.catchType ≠ 0 ∧ ∃ nm : String, (Cond.classLink RL z.catchType nm).before args s = true ∧ va_Nc EA nm s) := by
    intro z hz9
    simp only [List.mem_cons, List.not_mem_nil, or_false] at hz9
    rcases hz9 with rfl
    · exact Or.inr ⟨by decide, EI, hg _ m_712, hNc9.1⟩
  refine vx_catch (name := EA) hown [⟨0, 12, 15, 13⟩] ⟨0, 12, 19, 15⟩ [⟨0, 12, 23, 17⟩] (htab.trans rfl) hps (by decide) (by decide) (hg _ m_713) (hEx9.2.1.2.1.use rfl) hq1 hq2 hq3 ?_
  have hP : va_P D vwCl [[(oa, aJ cy 1 (g))], u9].flatten H := hP
  have hD : va_D A [[(oa, aJ cy 1 (g))], u9].flatten := hD
  refine lv_astore (lv' := [(5, .ref (q9)), (0, .ref (x)), (1, .int (qI (p0))), (2, .int (qI (p1))), (3, .int (qI (p2))), (4, .ref (oa))]) hx hb dL_edit_19 hl (by decide) rfl (fun ls hl => ?_)
  refine q_iconst hx hb dL_edit_21 ?_
  have hP := fl_sub (bs' := [u9, [(oa, aJ cy 1 (g))]]) hP [1, 0] rfl
  have hD := fl_subD (bs' := [u9, [(oa, aJ cy 1 (g))]]) hD [1, 0] (by decide) rfl
  exact hQ _ _ _ _ _ u9 ⟨rfl, h9⟩ hP hD hS dL_edit_22

set_option maxRecDepth 100000 in
set_option maxHeartbeats 4000000 in
theorem c_L_edit_no3 (l : Launch) (hlt9 : l.stackTraces = false) (D : va_G) (cy : Nat → ClassId) (x la lv9 ls9 fa xh xs la2 lv92 ls92 fb fw bu ta : Nat) (rc re gb oc oe rs rc2 re2 gb2 oc2 oe2 rs2 rr : Nat → Nat) (ad : Nat → Nat → Nat) (T : LSt) (hz : Nat) (HZ : Nat → LSt) (len : Nat) (tx : Nat → Int) (W : va_W) (hG : gOk T) (hW : CW cy x la lv9 ls9 fa xh xs la2 lv92 ls92 fb fw bu ta rc re gb oc oe rs rc2 re2 gb2 oc2 oe2 rs2 rr ad T hz HZ len tx W) (oa : Nat) (g : Nat → Int64) (p0 p1 p2 : Int) (r0 : (-2147483648 ≤ p0 ∧ p0 < 2147483648)) (r1 : (-2147483648 ≤ p1 ∧ p1 < 2147483648)) (r2 : (-2147483648 ≤ p2 ∧ p2 < 2147483648)) (hnx9 : 0 ≤ p0 ∧ p0 ≤ 9) (hny9 : (-1000 ≤ p1 ∧ p1 ≤ 1000) ∧ (0 ≤ p2 ∧ p2 ≤ 3)) (hnz9 : edOf (lE T) p0 (lM T) = -1 ∧ lM T = 3) (sz : Nat) : qMx l yL_edit (.codeWith yL_edit cL_edit 6 (some .int) [(0, 12, 15, 13), (0, 12, 19, 15), (0, 12, 23, 17)]) 9 [.ref (x), .int (qI (p0)), .int (qI (p1)), .int (qI (p2)), .ref (oa)] D cy [W, [(oa, aJ cy 1 (g))]] sz (va_Qi (S := va_W) (fun r u => r = qI 3 ∧ CW cy x la lv9 ls9 fa xh xs la2 lv92 ls92 fb fw bu ta rc re gb oc oe rs rc2 re2 gb2 oc2 oe2 rs2 rr ad T hz HZ len tx u) (qB D cy [W, [(oa, aJ cy 1 (g))]] sz (fun u => [u, [(oa, aJ cy 1 g)]])) (va_A [W, [(oa, aJ cy 1 (g))]].flatten sz)) := by
  refine q_ofMiX (S := va_W) (b1 := fun u => [u, [(oa, aJ cy 1 g)]]) (post := fun r u => r = qI 3 ∧ CW cy x la lv9 ls9 fa xh xs la2 lv92 ls92 fb fw bu ta rc re gb oc oe rs rc2 re2 gb2 oc2 oe2 rs2 rr ad T hz HZ len tx u) (by decide +kernel) (Nat.le_of_ble_eq_true rfl) ?_
  intro p e s m args below meth c Q A hx hb hml hown hg hQ hK hN hD hA hEx9 hNc9 htab H locs ls hP hS hl
  have hown : s.vm.findClass RL = some m.cls := hown
  have hl : lv_has ls 6 [(0, .ref (x)), (1, .int (qI (p0))), (2, .int (qI (p1))), (3, .int (qI (p2))), (4, .ref (oa))] := hl
  obtain ⟨fs9, hfs9⟩ := CW_at hW
  refine lv_aload hx hb dL_edit_0 (lv_at hl 4 rfl) ?_
  refine q_iconst hx hb dL_edit_2 ?_
  refine lv_aload_n hx hb dL_edit_3 rfl (lv_at hl 0 rfl) ?_
  refine lv_iload_n hx hb dL_edit_4 rfl (lv_at hl 1 rfl) ?_
  refine lv_iload_n hx hb dL_edit_5 rfl (lv_at hl 2 rfl) ?_
  refine lv_iload_n hx hb dL_edit_6 rfl (lv_at hl 3 rfl) ?_
  refine q_thrownW [0] [1] (br := [[(oa, aJ cy 1 g)]]) hP hD hS hA (vx_runV (As := [.int (qI (p0)), .int (qI (p1)), .int (qI (p2))]) (rest := [.int (qI (0)), .ref (oa)]) ⟨hx, hb, hml, hown, hg⟩ (x_X7_edit_no3 l hlt9 D cy x la lv9 ls9 fa xh xs la2 lv92 ls92 fb fw bu ta rc re gb oc oe rs rc2 re2 gb2 oc2 oe2 rs2 rr ad T hz HZ len tx _ hG hW p0 p1 p2 r0 r1 r2 hnx9 hny9 hnz9 _) (cv_L_33 hg rfl rfl ⟨by decide, by decide⟩) ⟨q_blindX, va_recv hK (fl_blk hP 0 rfl) (ci := 7) (q0 := 0) rfl hfs9, fun U hU hU9 => ⟨rfl, (q_preM [.int (qI (p0)), .int (qI (p1)), .int (qI (p2))] hK hN hP hD [0] (by decide) rfl U hU hU9).2, hEx9.step hU9 (by rw [hU]; exact hS.2.1) (fl_free hD hS hA [0] rfl)⟩⟩ rfl rfl hl.1 rfl (lv_room (Nat.le_of_ble_eq_true rfl)) dL_edit_7 ⟨by decide, by decide⟩) rfl rfl (by decide) (fun u9 ce q9 H locs h9 hP hD hS hq1 hq2 hq3 => ?_)
  have hps : ∀ z ∈ ([⟨0, 12, 15, 13⟩, ⟨0, 12, 19, 15⟩] : List ExceptionTableEntry), covers z 7 = false ∨ (z.catchType ≠ 0 ∧ ∃ nm : String, (Cond.classLink RL z.catchType nm).before args s = true ∧ va_Nc ES nm s) := by
    intro z hz9
    simp only [List.mem_cons, List.not_mem_nil, or_false] at hz9
    rcases hz9 with rfl | rfl
    · exact Or.inr ⟨by decide, EI, hg _ m_712, hNc9.2.1⟩
    · exact Or.inr ⟨by decide, EA, hg _ m_713, hNc9.2.2⟩
  refine vx_catch (name := ES) hown [⟨0, 12, 15, 13⟩, ⟨0, 12, 19, 15⟩] ⟨0, 12, 23, 17⟩ [] (htab.trans rfl) hps (by decide) (by decide) (hg _ m_714) (hEx9.2.1.2.2.use rfl) hq1 hq2 hq3 ?_
  have hP : va_P D vwCl [[(oa, aJ cy 1 (g))], u9].flatten H := hP
  have hD : va_D A [[(oa, aJ cy 1 (g))], u9].flatten := hD
  refine lv_astore (lv' := [(5, .ref (q9)), (0, .ref (x)), (1, .int (qI (p0))), (2, .int (qI (p1))), (3, .int (qI (p2))), (4, .ref (oa))]) hx hb dL_edit_23 hl (by decide) rfl (fun ls hl => ?_)
  refine q_iconst hx hb dL_edit_25 ?_
  have hP := fl_sub (bs' := [u9, [(oa, aJ cy 1 (g))]]) hP [1, 0] rfl
  have hD := fl_subD (bs' := [u9, [(oa, aJ cy 1 (g))]]) hD [1, 0] (by decide) rfl
  exact hQ _ _ _ _ _ u9 ⟨rfl, h9⟩ hP hD hS dL_edit_26

set_option maxRecDepth 100000 in
set_option maxHeartbeats 4000000 in
theorem c_L_settleFrom_no2 (l : Launch) (hlt9 : l.stackTraces = false) (D : va_G) (cy : Nat → ClassId) (x la lv9 ls9 fa xh xs la2 lv92 ls92 fb fw bu ta : Nat) (rc re gb oc oe rs rc2 re2 gb2 oc2 oe2 rs2 rr : Nat → Nat) (ad : Nat → Nat → Nat) (T : LSt) (hz : Nat) (HZ : Nat → LSt) (len : Nat) (tx : Nat → Int) (W : va_W) (hG : gOk T) (hW : CW cy x la lv9 ls9 fa xh xs la2 lv92 ls92 fb fw bu ta rc re gb oc oe rs rc2 re2 gb2 oc2 oe2 rs2 rr ad T hz HZ len tx W) (oa : Nat) (g : Nat → Int64) (p0 : Int) (r0 : (-2147483648 ≤ p0 ∧ p0 < 2147483648)) (hnx9 : ¬ (-1000 ≤ p0 ∧ p0 ≤ 1000)) (sz : Nat) : qMx l yL_settleFrom (.codeWith yL_settleFrom cL_settleFrom 4 (some .int) [(0, 9, 12, 15)]) 9 [.ref (x), .int (qI (p0)), .ref (oa)] D cy [W, [(oa, aJ cy 1 (g))]] sz (va_Qi (S := va_W) (fun r u => r = qI 1 ∧ CW cy x la lv9 ls9 fa xh xs la2 lv92 ls92 fb fw bu ta rc re gb oc oe rs rc2 re2 gb2 oc2 oe2 rs2 rr ad T hz HZ len tx u) (qB D cy [W, [(oa, aJ cy 1 (g))]] sz (fun u => [u, [(oa, aJ cy 1 g)]])) (va_A [W, [(oa, aJ cy 1 (g))]].flatten sz)) := by
  refine q_ofMiX (S := va_W) (b1 := fun u => [u, [(oa, aJ cy 1 g)]]) (post := fun r u => r = qI 1 ∧ CW cy x la lv9 ls9 fa xh xs la2 lv92 ls92 fb fw bu ta rc re gb oc oe rs rc2 re2 gb2 oc2 oe2 rs2 rr ad T hz HZ len tx u) (by decide +kernel) (Nat.le_of_ble_eq_true rfl) ?_
  intro p e s m args below meth c Q A hx hb hml hown hg hQ hK hN hD hA hEx9 hNc9 htab H locs ls hP hS hl
  have hown : s.vm.findClass RL = some m.cls := hown
  have hl : lv_has ls 4 [(0, .ref (x)), (1, .int (qI (p0))), (2, .ref (oa))] := hl
  obtain ⟨fs9, hfs9⟩ := CW_at hW
  refine lv_aload_n hx hb dL_settleFrom_0 rfl (lv_at hl 2 rfl) ?_
  refine q_iconst hx hb dL_settleFrom_1 ?_
  refine lv_aload_n hx hb dL_settleFrom_2 rfl (lv_at hl 0 rfl) ?_
  refine lv_iload_n hx hb dL_settleFrom_3 rfl (lv_at hl 1 rfl) ?_
  refine q_thrownW [0] [1] (br := [[(oa, aJ cy 1 g)]]) hP hD hS hA (vx_runV (As := [.int (qI (p0))]) (rest := [.int (qI (0)), .ref (oa)]) ⟨hx, hb, hml, hown, hg⟩ (x_X7_settleFrom_no2 l hlt9 D cy x la lv9 ls9 fa xh xs la2 lv92 ls92 fb fw bu ta rc re gb oc oe rs rc2 re2 gb2 oc2 oe2 rs2 rr ad T hz HZ len tx _ hG hW p0 r0 hnx9 _) (cv_L_37 hg rfl rfl ⟨by decide, by decide⟩) ⟨q_blindX, va_recv hK (fl_blk hP 0 rfl) (ci := 7) (q0 := 0) rfl hfs9, fun U hU hU9 => ⟨rfl, (q_preM [.int (qI (p0))] hK hN hP hD [0] (by decide) rfl U hU hU9).2, hEx9.step hU9 (by rw [hU]; exact hS.2.1) (fl_free hD hS hA [0] rfl)⟩⟩ rfl rfl hl.1 rfl (lv_room (Nat.le_of_ble_eq_true rfl)) dL_settleFrom_4 ⟨by decide, by decide⟩) rfl rfl (by decide) (fun u9 ce q9 H locs h9 hP hD hS hq1 hq2 hq3 => ?_)
  refine vx_catch (name := EA) hown [] ⟨0, 9, 12, 15⟩ [] (htab.trans rfl) (fun z hz9 => nomatch hz9) (by decide) (by decide) (hg _ m_713) (hEx9.2.1.2.1.use rfl) hq1 hq2 hq3 ?_
  have hP : va_P D vwCl [[(oa, aJ cy 1 (g))], u9].flatten H := hP
  have hD : va_D A [[(oa, aJ cy 1 (g))], u9].flatten := hD
  refine lv_astore_n (lv' := [(3, .ref (q9)), (0, .ref (x)), (1, .int (qI (p0))), (2, .ref (oa))]) hx hb dL_settleFrom_12 rfl hl (by decide) rfl (fun ls hl => ?_)
  refine q_iconst hx hb dL_settleFrom_13 ?_
  have hP := fl_sub (bs' := [u9, [(oa, aJ cy 1 (g))]]) hP [1, 0] rfl
  have hD := fl_subD (bs' := [u9, [(oa, aJ cy 1 (g))]]) hD [1, 0] (by decide) rfl
  exact hQ _ _ _ _ _ u9 ⟨rfl, h9⟩ hP hD hS dL_settleFrom_14

set_option maxRecDepth 100000 in
set_option maxHeartbeats 4000000 in
theorem c_L_append_no2 (l : Launch) (hlt9 : l.stackTraces = false) (D : va_G) (cy : Nat → ClassId) (x la lv9 ls9 fa xh xs la2 lv92 ls92 fb fw bu ta : Nat) (rc re gb oc oe rs rc2 re2 gb2 oc2 oe2 rs2 rr : Nat → Nat) (ad : Nat → Nat → Nat) (T : LSt) (hz : Nat) (HZ : Nat → LSt) (len : Nat) (tx : Nat → Int) (W : va_W) (hG : gOk T) (hW : CW cy x la lv9 ls9 fa xh xs la2 lv92 ls92 fb fw bu ta rc re gb oc oe rs rc2 re2 gb2 oc2 oe2 rs2 rr ad T hz HZ len tx W) (oa : Nat) (g : Nat → Int64) (p0 : Int) (r0 : (-2147483648 ≤ p0 ∧ p0 < 2147483648)) (hnx9 : ¬ (33 ≤ p0 ∧ p0 ≤ 126)) (sz : Nat) : qMx l yL_append (.codeWith yL_append cL_append 4 (some .int) [(0, 9, 12, 15), (0, 9, 15, 17)]) 9 [.ref (x), .int (qI (p0)), .ref (oa)] D cy [W, [(oa, aJ cy 1 (g))]] sz (va_Qi (S := va_W) (fun r u => r = qI 1 ∧ CW cy x la lv9 ls9 fa xh xs la2 lv92 ls92 fb fw bu ta rc re gb oc oe rs rc2 re2 gb2 oc2 oe2 rs2 rr ad T hz HZ len tx u) (qB D cy [W, [(oa, aJ cy 1 (g))]] sz (fun u => [u, [(oa, aJ cy 1 g)]])) (va_A [W, [(oa, aJ cy 1 (g))]].flatten sz)) := by
  refine q_ofMiX (S := va_W) (b1 := fun u => [u, [(oa, aJ cy 1 g)]]) (post := fun r u => r = qI 1 ∧ CW cy x la lv9 ls9 fa xh xs la2 lv92 ls92 fb fw bu ta rc re gb oc oe rs rc2 re2 gb2 oc2 oe2 rs2 rr ad T hz HZ len tx u) (by decide +kernel) (Nat.le_of_ble_eq_true rfl) ?_
  intro p e s m args below meth c Q A hx hb hml hown hg hQ hK hN hD hA hEx9 hNc9 htab H locs ls hP hS hl
  have hown : s.vm.findClass RL = some m.cls := hown
  have hl : lv_has ls 4 [(0, .ref (x)), (1, .int (qI (p0))), (2, .ref (oa))] := hl
  obtain ⟨fs9, hfs9⟩ := CW_at hW
  refine lv_aload_n hx hb dL_append_0 rfl (lv_at hl 2 rfl) ?_
  refine q_iconst hx hb dL_append_1 ?_
  refine lv_aload_n hx hb dL_append_2 rfl (lv_at hl 0 rfl) ?_
  refine lv_iload_n hx hb dL_append_3 rfl (lv_at hl 1 rfl) ?_
  refine q_thrownW [0] [1] (br := [[(oa, aJ cy 1 g)]]) hP hD hS hA (vx_runV (As := [.int (qI (p0))]) (rest := [.int (qI (0)), .ref (oa)]) ⟨hx, hb, hml, hown, hg⟩ (x_X7_append_no2 l hlt9 D cy x la lv9 ls9 fa xh xs la2 lv92 ls92 fb fw bu ta rc re gb oc oe rs rc2 re2 gb2 oc2 oe2 rs2 rr ad T hz HZ len tx _ hG hW p0 r0 hnx9 _) (cv_L_40 hg rfl rfl ⟨by decide, by decide⟩) ⟨q_blindX, va_recv hK (fl_blk hP 0 rfl) (ci := 7) (q0 := 0) rfl hfs9, fun U hU hU9 => ⟨rfl, (q_preM [.int (qI (p0))] hK hN hP hD [0] (by decide) rfl U hU hU9).2, hEx9.step hU9 (by rw [hU]; exact hS.2.1) (fl_free hD hS hA [0] rfl)⟩⟩ rfl rfl hl.1 rfl (lv_room (Nat.le_of_ble_eq_true rfl)) dL_append_4 ⟨by decide, by decide⟩) rfl rfl (by decide) (fun u9 ce q9 H locs h9 hP hD hS hq1 hq2 hq3 => ?_)
  refine vx_catch (name := EA) hown [] ⟨0, 9, 12, 15⟩ [⟨0, 9, 15, 17⟩] (htab.trans rfl) (fun z hz9 => nomatch hz9) (by decide) (by decide) (hg _ m_713) (hEx9.2.1.2.1.use rfl) hq1 hq2 hq3 ?_
  have hP : va_P D vwCl [[(oa, aJ cy 1 (g))], u9].flatten H := hP
  have hD : va_D A [[(oa, aJ cy 1 (g))], u9].flatten := hD
  refine lv_astore_n (lv' := [(3, .ref (q9)), (0, .ref (x)), (1, .int (qI (p0))), (2, .ref (oa))]) hx hb dL_append_12 rfl hl (by decide) rfl (fun ls hl => ?_)
  refine q_iconst hx hb dL_append_13 ?_
  have hP := fl_sub (bs' := [u9, [(oa, aJ cy 1 (g))]]) hP [1, 0] rfl
  have hD := fl_subD (bs' := [u9, [(oa, aJ cy 1 (g))]]) hD [1, 0] (by decide) rfl
  exact hQ _ _ _ _ _ u9 ⟨rfl, h9⟩ hP hD hS dL_append_14

set_option maxRecDepth 100000 in
set_option maxHeartbeats 4000000 in
theorem c_L_append_no3 (l : Launch) (hlt9 : l.stackTraces = false) (D : va_G) (cy : Nat → ClassId) (x la lv9 ls9 fa xh xs la2 lv92 ls92 fb fw bu ta : Nat) (rc re gb oc oe rs rc2 re2 gb2 oc2 oe2 rs2 rr : Nat → Nat) (ad : Nat → Nat → Nat) (T : LSt) (hz : Nat) (HZ : Nat → LSt) (len : Nat) (tx : Nat → Int) (W : va_W) (hG : gOk T) (hW : CW cy x la lv9 ls9 fa xh xs la2 lv92 ls92 fb fw bu ta rc re gb oc oe rs rc2 re2 gb2 oc2 oe2 rs2 rr ad T hz HZ len tx W) (oa : Nat) (g : Nat → Int64) (p0 : Int) (r0 : (-2147483648 ≤ p0 ∧ p0 < 2147483648)) (hnx9 : 33 ≤ p0 ∧ p0 ≤ 126) (hny9 : len = 60) (sz : Nat) : qMx l yL_append (.codeWith yL_append cL_append 4 (some .int) [(0, 9, 12, 15), (0, 9, 15, 17)]) 9 [.ref (x), .int (qI (p0)), .ref (oa)] D cy [W, [(oa, aJ cy 1 (g))]] sz (va_Qi (S := va_W) (fun r u => r = qI 2 ∧ CW cy x la lv9 ls9 fa xh xs la2 lv92 ls92 fb fw bu ta rc re gb oc oe rs rc2 re2 gb2 oc2 oe2 rs2 rr ad T hz HZ len tx u) (qB D cy [W, [(oa, aJ cy 1 (g))]] sz (fun u => [u, [(oa, aJ cy 1 g)]])) (va_A [W, [(oa, aJ cy 1 (g))]].flatten sz)) := by
  refine q_ofMiX (S := va_W) (b1 := fun u => [u, [(oa, aJ cy 1 g)]]) (post := fun r u => r = qI 2 ∧ CW cy x la lv9 ls9 fa xh xs la2 lv92 ls92 fb fw bu ta rc re gb oc oe rs rc2 re2 gb2 oc2 oe2 rs2 rr ad T hz HZ len tx u) (by decide +kernel) (Nat.le_of_ble_eq_true rfl) ?_
  intro p e s m args below meth c Q A hx hb hml hown hg hQ hK hN hD hA hEx9 hNc9 htab H locs ls hP hS hl
  have hown : s.vm.findClass RL = some m.cls := hown
  have hl : lv_has ls 4 [(0, .ref (x)), (1, .int (qI (p0))), (2, .ref (oa))] := hl
  obtain ⟨fs9, hfs9⟩ := CW_at hW
  refine lv_aload_n hx hb dL_append_0 rfl (lv_at hl 2 rfl) ?_
  refine q_iconst hx hb dL_append_1 ?_
  refine lv_aload_n hx hb dL_append_2 rfl (lv_at hl 0 rfl) ?_
  refine lv_iload_n hx hb dL_append_3 rfl (lv_at hl 1 rfl) ?_
  refine q_thrownW [0] [1] (br := [[(oa, aJ cy 1 g)]]) hP hD hS hA (vx_runV (As := [.int (qI (p0))]) (rest := [.int (qI (0)), .ref (oa)]) ⟨hx, hb, hml, hown, hg⟩ (x_X7_append_no3 l hlt9 D cy x la lv9 ls9 fa xh xs la2 lv92 ls92 fb fw bu ta rc re gb oc oe rs rc2 re2 gb2 oc2 oe2 rs2 rr ad T hz HZ len tx _ hG hW p0 r0 hnx9 hny9 _) (cv_L_40 hg rfl rfl ⟨by decide, by decide⟩) ⟨q_blindX, va_recv hK (fl_blk hP 0 rfl) (ci := 7) (q0 := 0) rfl hfs9, fun U hU hU9 => ⟨rfl, (q_preM [.int (qI (p0))] hK hN hP hD [0] (by decide) rfl U hU hU9).2, hEx9.step hU9 (by rw [hU]; exact hS.2.1) (fl_free hD hS hA [0] rfl)⟩⟩ rfl rfl hl.1 rfl (lv_room (Nat.le_of_ble_eq_true rfl)) dL_append_4 ⟨by decide, by decide⟩) rfl rfl (by decide) (fun u9 ce q9 H locs h9 hP hD hS hq1 hq2 hq3 => ?_)
  have hps : ∀ z ∈ ([⟨0, 9, 12, 15⟩] : List ExceptionTableEntry), covers z 4 = false ∨ (z.catchType ≠ 0 ∧ ∃ nm : String, (Cond.classLink RL z.catchType nm).before args s = true ∧ va_Nc ES nm s) := by
    intro z hz9
    simp only [List.mem_cons, List.not_mem_nil, or_false] at hz9
    rcases hz9 with rfl
    · exact Or.inr ⟨by decide, EA, hg _ m_713, hNc9.2.2⟩
  refine vx_catch (name := ES) hown [⟨0, 9, 12, 15⟩] ⟨0, 9, 15, 17⟩ [] (htab.trans rfl) hps (by decide) (by decide) (hg _ m_714) (hEx9.2.1.2.2.use rfl) hq1 hq2 hq3 ?_
  have hP : va_P D vwCl [[(oa, aJ cy 1 (g))], u9].flatten H := hP
  have hD : va_D A [[(oa, aJ cy 1 (g))], u9].flatten := hD
  refine lv_astore_n (lv' := [(3, .ref (q9)), (0, .ref (x)), (1, .int (qI (p0))), (2, .ref (oa))]) hx hb dL_append_15 rfl hl (by decide) rfl (fun ls hl => ?_)
  refine q_iconst hx hb dL_append_16 ?_
  have hP := fl_sub (bs' := [u9, [(oa, aJ cy 1 (g))]]) hP [1, 0] rfl
  have hD := fl_subD (bs' := [u9, [(oa, aJ cy 1 (g))]]) hD [1, 0] (by decide) rfl
  exact hQ _ _ _ _ _ u9 ⟨rfl, h9⟩ hP hD hS dL_append_17

set_option maxRecDepth 100000 in
set_option maxHeartbeats 4000000 in
theorem c_L_undo_no3 (l : Launch) (hlt9 : l.stackTraces = false) (D : va_G) (cy : Nat → ClassId) (x la lv9 ls9 fa xh xs la2 lv92 ls92 fb fw bu ta : Nat) (rc re gb oc oe rs rc2 re2 gb2 oc2 oe2 rs2 rr : Nat → Nat) (ad : Nat → Nat → Nat) (T : LSt) (hz : Nat) (HZ : Nat → LSt) (len : Nat) (tx : Nat → Int) (W : va_W) (hG : gOk T) (hW : CW cy x la lv9 ls9 fa xh xs la2 lv92 ls92 fb fw bu ta rc re gb oc oe rs rc2 re2 gb2 oc2 oe2 rs2 rr ad T hz HZ len tx W) (oa : Nat) (g : Nat → Int64) (hnx9 : hz = 0) (sz : Nat) : qMx l yL_undo (.codeWith yL_undo cL_undo 3 (some .int) [(0, 8, 11, 17)]) 9 [.ref (x), .ref (oa)] D cy [W, [(oa, aJ cy 1 (g))]] sz (va_Qi (S := va_W) (fun r u => r = qI 1 ∧ CW cy x la lv9 ls9 fa xh xs la2 lv92 ls92 fb fw bu ta rc re gb oc oe rs rc2 re2 gb2 oc2 oe2 rs2 rr ad T hz HZ len tx u) (qB D cy [W, [(oa, aJ cy 1 (g))]] sz (fun u => [u, [(oa, aJ cy 1 g)]])) (va_A [W, [(oa, aJ cy 1 (g))]].flatten sz)) := by
  refine q_ofMiX (S := va_W) (b1 := fun u => [u, [(oa, aJ cy 1 g)]]) (post := fun r u => r = qI 1 ∧ CW cy x la lv9 ls9 fa xh xs la2 lv92 ls92 fb fw bu ta rc re gb oc oe rs rc2 re2 gb2 oc2 oe2 rs2 rr ad T hz HZ len tx u) (by decide +kernel) (Nat.le_of_ble_eq_true rfl) ?_
  intro p e s m args below meth c Q A hx hb hml hown hg hQ hK hN hD hA hEx9 hNc9 htab H locs ls hP hS hl
  have hown : s.vm.findClass RL = some m.cls := hown
  have hl : lv_has ls 3 [(0, .ref (x)), (1, .ref (oa))] := hl
  obtain ⟨fs9, hfs9⟩ := CW_at hW
  refine lv_aload_n hx hb dL_undo_0 rfl (lv_at hl 1 rfl) ?_
  refine q_iconst hx hb dL_undo_1 ?_
  refine lv_aload_n hx hb dL_undo_2 rfl (lv_at hl 0 rfl) ?_
  refine q_thrownW [0] [1] (br := [[(oa, aJ cy 1 g)]]) hP hD hS hA (vx_runV (As := []) (rest := [.int (qI (0)), .ref (oa)]) ⟨hx, hb, hml, hown, hg⟩ (x_X7_undo_no3 l hlt9 D cy x la lv9 ls9 fa xh xs la2 lv92 ls92 fb fw bu ta rc re gb oc oe rs rc2 re2 gb2 oc2 oe2 rs2 rr ad T hz HZ len tx _ hG hW hnx9 _) (cv_L_47 hg rfl rfl ⟨by decide, by decide⟩) ⟨q_blindX, va_recv hK (fl_blk hP 0 rfl) (ci := 7) (q0 := 0) rfl hfs9, fun U hU hU9 => ⟨rfl, (q_preM [] hK hN hP hD [0] (by decide) rfl U hU hU9).2, hEx9.step hU9 (by rw [hU]; exact hS.2.1) (fl_free hD hS hA [0] rfl)⟩⟩ rfl rfl hl.1 rfl (lv_room (Nat.le_of_ble_eq_true rfl)) dL_undo_3 ⟨by decide, by decide⟩) rfl rfl (by decide) (fun u9 ce q9 H locs h9 hP hD hS hq1 hq2 hq3 => ?_)
  refine vx_catch (name := ES) hown [] ⟨0, 8, 11, 17⟩ [] (htab.trans rfl) (fun z hz9 => nomatch hz9) (by decide) (by decide) (hg _ m_714) (hEx9.2.1.2.2.use rfl) hq1 hq2 hq3 ?_
  have hP : va_P D vwCl [[(oa, aJ cy 1 (g))], u9].flatten H := hP
  have hD : va_D A [[(oa, aJ cy 1 (g))], u9].flatten := hD
  refine lv_astore_n (lv' := [(2, .ref (q9)), (0, .ref (x)), (1, .ref (oa))]) hx hb dL_undo_11 rfl hl (by decide) rfl (fun ls hl => ?_)
  refine q_iconst hx hb dL_undo_12 ?_
  have hP := fl_sub (bs' := [u9, [(oa, aJ cy 1 (g))]]) hP [1, 0] rfl
  have hD := fl_subD (bs' := [u9, [(oa, aJ cy 1 (g))]]) hD [1, 0] (by decide) rfl
  exact hQ _ _ _ _ _ u9 ⟨rfl, h9⟩ hP hD hS dL_undo_13

set_option maxRecDepth 100000 in
set_option maxHeartbeats 4000000 in
theorem c_L_place_no1 (l : Launch) (hlt9 : l.stackTraces = false) (D : va_G) (cy : Nat → ClassId) (x la lv9 ls9 fa xh xs la2 lv92 ls92 fb fw bu ta : Nat) (rc re gb oc oe rs rc2 re2 gb2 oc2 oe2 rs2 rr : Nat → Nat) (ad : Nat → Nat → Nat) (T : LSt) (hz : Nat) (HZ : Nat → LSt) (len : Nat) (tx : Nat → Int) (W : va_W) (hG : gOk T) (hW : CW cy x la lv9 ls9 fa xh xs la2 lv92 ls92 fb fw bu ta rc re gb oc oe rs rc2 re2 gb2 oc2 oe2 rs2 rr ad T hz HZ len tx W) (oa : Nat) (g : Nat → Int64) (p0 p1 : Int) (r0 : (-2147483648 ≤ p0 ∧ p0 < 2147483648)) (r1 : (-2147483648 ≤ p1 ∧ p1 < 2147483648)) (hnx9 : ¬ (0 ≤ p0 ∧ p0 ≤ 9)) (sz : Nat) : qMx l yL_place (.codeWith yL_place cL_place 5 (some .int) [(0, 10, 13, 13), (0, 10, 17, 15)]) 9 [.ref (x), .int (qI (p0)), .int (qI (p1)), .ref (oa)] D cy [W, [(oa, aJ cy 1 (g))]] sz (va_Qi (S := va_W) (fun r u => r = qI 1 ∧ CW cy x la lv9 ls9 fa xh xs la2 lv92 ls92 fb fw bu ta rc re gb oc oe rs rc2 re2 gb2 oc2 oe2 rs2 rr ad T hz HZ len tx u) (qB D cy [W, [(oa, aJ cy 1 (g))]] sz (fun u => [u, [(oa, aJ cy 1 g)]])) (va_A [W, [(oa, aJ cy 1 (g))]].flatten sz)) := by
  refine q_ofMiX (S := va_W) (b1 := fun u => [u, [(oa, aJ cy 1 g)]]) (post := fun r u => r = qI 1 ∧ CW cy x la lv9 ls9 fa xh xs la2 lv92 ls92 fb fw bu ta rc re gb oc oe rs rc2 re2 gb2 oc2 oe2 rs2 rr ad T hz HZ len tx u) (by decide +kernel) (Nat.le_of_ble_eq_true rfl) ?_
  intro p e s m args below meth c Q A hx hb hml hown hg hQ hK hN hD hA hEx9 hNc9 htab H locs ls hP hS hl
  have hown : s.vm.findClass RL = some m.cls := hown
  have hl : lv_has ls 5 [(0, .ref (x)), (1, .int (qI (p0))), (2, .int (qI (p1))), (3, .ref (oa))] := hl
  obtain ⟨fs9, hfs9⟩ := CW_at hW
  refine lv_aload_n hx hb dL_place_0 rfl (lv_at hl 3 rfl) ?_
  refine q_iconst hx hb dL_place_1 ?_
  refine lv_aload_n hx hb dL_place_2 rfl (lv_at hl 0 rfl) ?_
  refine lv_iload_n hx hb dL_place_3 rfl (lv_at hl 1 rfl) ?_
  refine lv_iload_n hx hb dL_place_4 rfl (lv_at hl 2 rfl) ?_
  refine q_thrownW [0] [1] (br := [[(oa, aJ cy 1 g)]]) hP hD hS hA (vx_runV (As := [.int (qI (p0)), .int (qI (p1))]) (rest := [.int (qI (0)), .ref (oa)]) ⟨hx, hb, hml, hown, hg⟩ (x_X7_place_no1 l hlt9 D cy x la lv9 ls9 fa xh xs la2 lv92 ls92 fb fw bu ta rc re gb oc oe rs rc2 re2 gb2 oc2 oe2 rs2 rr ad T hz HZ len tx _ hG hW p0 p1 r0 r1 hnx9 _) (cv_L_50 hg rfl rfl ⟨by decide, by decide⟩) ⟨q_blindX, va_recv hK (fl_blk hP 0 rfl) (ci := 7) (q0 := 0) rfl hfs9, fun U hU hU9 => ⟨rfl, (q_preM [.int (qI (p0)), .int (qI (p1))] hK hN hP hD [0] (by decide) rfl U hU hU9).2, hEx9.step hU9 (by rw [hU]; exact hS.2.1) (fl_free hD hS hA [0] rfl)⟩⟩ rfl rfl hl.1 rfl (lv_room (Nat.le_of_ble_eq_true rfl)) dL_place_5 ⟨by decide, by decide⟩) rfl rfl (by decide) (fun u9 ce q9 H locs h9 hP hD hS hq1 hq2 hq3 => ?_)
  refine vx_catch (name := EI) hown [] ⟨0, 10, 13, 13⟩ [⟨0, 10, 17, 15⟩] (htab.trans rfl) (fun z hz9 => nomatch hz9) (by decide) (by decide) (hg _ m_712) (hEx9.2.1.1.use rfl) hq1 hq2 hq3 ?_
  have hP : va_P D vwCl [[(oa, aJ cy 1 (g))], u9].flatten H := hP
  have hD : va_D A [[(oa, aJ cy 1 (g))], u9].flatten := hD
  refine lv_astore (lv' := [(4, .ref (q9)), (0, .ref (x)), (1, .int (qI (p0))), (2, .int (qI (p1))), (3, .ref (oa))]) hx hb dL_place_13 hl (by decide) rfl (fun ls hl => ?_)
  refine q_iconst hx hb dL_place_15 ?_
  have hP := fl_sub (bs' := [u9, [(oa, aJ cy 1 (g))]]) hP [1, 0] rfl
  have hD := fl_subD (bs' := [u9, [(oa, aJ cy 1 (g))]]) hD [1, 0] (by decide) rfl
  exact hQ _ _ _ _ _ u9 ⟨rfl, h9⟩ hP hD hS dL_place_16

set_option maxRecDepth 100000 in
set_option maxHeartbeats 4000000 in
theorem c_L_place_no2 (l : Launch) (hlt9 : l.stackTraces = false) (D : va_G) (cy : Nat → ClassId) (x la lv9 ls9 fa xh xs la2 lv92 ls92 fb fw bu ta : Nat) (rc re gb oc oe rs rc2 re2 gb2 oc2 oe2 rs2 rr : Nat → Nat) (ad : Nat → Nat → Nat) (T : LSt) (hz : Nat) (HZ : Nat → LSt) (len : Nat) (tx : Nat → Int) (W : va_W) (hG : gOk T) (hW : CW cy x la lv9 ls9 fa xh xs la2 lv92 ls92 fb fw bu ta rc re gb oc oe rs rc2 re2 gb2 oc2 oe2 rs2 rr ad T hz HZ len tx W) (oa : Nat) (g : Nat → Int64) (p0 p1 : Int) (r0 : (-2147483648 ≤ p0 ∧ p0 < 2147483648)) (r1 : (-2147483648 ≤ p1 ∧ p1 < 2147483648)) (hnx9 : 0 ≤ p0 ∧ p0 ≤ 9) (hny9 : ¬ (0 ≤ p1 ∧ p1 ≤ 5)) (sz : Nat) : qMx l yL_place (.codeWith yL_place cL_place 5 (some .int) [(0, 10, 13, 13), (0, 10, 17, 15)]) 9 [.ref (x), .int (qI (p0)), .int (qI (p1)), .ref (oa)] D cy [W, [(oa, aJ cy 1 (g))]] sz (va_Qi (S := va_W) (fun r u => r = qI 2 ∧ CW cy x la lv9 ls9 fa xh xs la2 lv92 ls92 fb fw bu ta rc re gb oc oe rs rc2 re2 gb2 oc2 oe2 rs2 rr ad T hz HZ len tx u) (qB D cy [W, [(oa, aJ cy 1 (g))]] sz (fun u => [u, [(oa, aJ cy 1 g)]])) (va_A [W, [(oa, aJ cy 1 (g))]].flatten sz)) := by
  refine q_ofMiX (S := va_W) (b1 := fun u => [u, [(oa, aJ cy 1 g)]]) (post := fun r u => r = qI 2 ∧ CW cy x la lv9 ls9 fa xh xs la2 lv92 ls92 fb fw bu ta rc re gb oc oe rs rc2 re2 gb2 oc2 oe2 rs2 rr ad T hz HZ len tx u) (by decide +kernel) (Nat.le_of_ble_eq_true rfl) ?_
  intro p e s m args below meth c Q A hx hb hml hown hg hQ hK hN hD hA hEx9 hNc9 htab H locs ls hP hS hl
  have hown : s.vm.findClass RL = some m.cls := hown
  have hl : lv_has ls 5 [(0, .ref (x)), (1, .int (qI (p0))), (2, .int (qI (p1))), (3, .ref (oa))] := hl
  obtain ⟨fs9, hfs9⟩ := CW_at hW
  refine lv_aload_n hx hb dL_place_0 rfl (lv_at hl 3 rfl) ?_
  refine q_iconst hx hb dL_place_1 ?_
  refine lv_aload_n hx hb dL_place_2 rfl (lv_at hl 0 rfl) ?_
  refine lv_iload_n hx hb dL_place_3 rfl (lv_at hl 1 rfl) ?_
  refine lv_iload_n hx hb dL_place_4 rfl (lv_at hl 2 rfl) ?_
  refine q_thrownW [0] [1] (br := [[(oa, aJ cy 1 g)]]) hP hD hS hA (vx_runV (As := [.int (qI (p0)), .int (qI (p1))]) (rest := [.int (qI (0)), .ref (oa)]) ⟨hx, hb, hml, hown, hg⟩ (x_X7_place_no2 l hlt9 D cy x la lv9 ls9 fa xh xs la2 lv92 ls92 fb fw bu ta rc re gb oc oe rs rc2 re2 gb2 oc2 oe2 rs2 rr ad T hz HZ len tx _ hG hW p0 p1 r0 r1 hnx9 hny9 _) (cv_L_50 hg rfl rfl ⟨by decide, by decide⟩) ⟨q_blindX, va_recv hK (fl_blk hP 0 rfl) (ci := 7) (q0 := 0) rfl hfs9, fun U hU hU9 => ⟨rfl, (q_preM [.int (qI (p0)), .int (qI (p1))] hK hN hP hD [0] (by decide) rfl U hU hU9).2, hEx9.step hU9 (by rw [hU]; exact hS.2.1) (fl_free hD hS hA [0] rfl)⟩⟩ rfl rfl hl.1 rfl (lv_room (Nat.le_of_ble_eq_true rfl)) dL_place_5 ⟨by decide, by decide⟩) rfl rfl (by decide) (fun u9 ce q9 H locs h9 hP hD hS hq1 hq2 hq3 => ?_)
  have hps : ∀ z ∈ ([⟨0, 10, 13, 13⟩] : List ExceptionTableEntry), covers z 5 = false ∨ (z.catchType ≠ 0 ∧ ∃ nm : String, (Cond.classLink RL z.catchType nm).before args s = true ∧ va_Nc EA nm s) := by
    intro z hz9
    simp only [List.mem_cons, List.not_mem_nil, or_false] at hz9
    rcases hz9 with rfl
    · exact Or.inr ⟨by decide, EI, hg _ m_712, hNc9.1⟩
  refine vx_catch (name := EA) hown [⟨0, 10, 13, 13⟩] ⟨0, 10, 17, 15⟩ [] (htab.trans rfl) hps (by decide) (by decide) (hg _ m_713) (hEx9.2.1.2.1.use rfl) hq1 hq2 hq3 ?_
  have hP : va_P D vwCl [[(oa, aJ cy 1 (g))], u9].flatten H := hP
  have hD : va_D A [[(oa, aJ cy 1 (g))], u9].flatten := hD
  refine lv_astore (lv' := [(4, .ref (q9)), (0, .ref (x)), (1, .int (qI (p0))), (2, .int (qI (p1))), (3, .ref (oa))]) hx hb dL_place_17 hl (by decide) rfl (fun ls hl => ?_)
  refine q_iconst hx hb dL_place_19 ?_
  have hP := fl_sub (bs' := [u9, [(oa, aJ cy 1 (g))]]) hP [1, 0] rfl
  have hD := fl_subD (bs' := [u9, [(oa, aJ cy 1 (g))]]) hD [1, 0] (by decide) rfl
  exact hQ _ _ _ _ _ u9 ⟨rfl, h9⟩ hP hD hS dL_place_20

set_option maxRecDepth 100000 in
set_option maxHeartbeats 4000000 in
theorem c_L_condition_no1 (l : Launch) (hlt9 : l.stackTraces = false) (D : va_G) (cy : Nat → ClassId) (x la lv9 ls9 fa xh xs la2 lv92 ls92 fb fw bu ta : Nat) (rc re gb oc oe rs rc2 re2 gb2 oc2 oe2 rs2 rr : Nat → Nat) (ad : Nat → Nat → Nat) (T : LSt) (hz : Nat) (HZ : Nat → LSt) (len : Nat) (tx : Nat → Int) (W : va_W) (hG : gOk T) (hW : CW cy x la lv9 ls9 fa xh xs la2 lv92 ls92 fb fw bu ta rc re gb oc oe rs rc2 re2 gb2 oc2 oe2 rs2 rr ad T hz HZ len tx W) (oa : Nat) (g : Nat → Int64) (p0 p1 : Int) (r0 : (-2147483648 ≤ p0 ∧ p0 < 2147483648)) (r1 : (-2147483648 ≤ p1 ∧ p1 < 2147483648)) (hnx9 : ¬ (0 ≤ p0 ∧ p0 < (lN9 T : Int))) (sz : Nat) : qMx l yL_condition (.codeWith yL_condition cL_condition 5 (some .int) [(0, 10, 13, 13), (0, 10, 17, 15)]) 9 [.ref (x), .int (qI (p0)), .int (qI (p1)), .ref (oa)] D cy [W, [(oa, aJ cy 1 (g))]] sz (va_Qi (S := va_W) (fun r u => r = qI 1 ∧ CW cy x la lv9 ls9 fa xh xs la2 lv92 ls92 fb fw bu ta rc re gb oc oe rs rc2 re2 gb2 oc2 oe2 rs2 rr ad T hz HZ len tx u) (qB D cy [W, [(oa, aJ cy 1 (g))]] sz (fun u => [u, [(oa, aJ cy 1 g)]])) (va_A [W, [(oa, aJ cy 1 (g))]].flatten sz)) := by
  refine q_ofMiX (S := va_W) (b1 := fun u => [u, [(oa, aJ cy 1 g)]]) (post := fun r u => r = qI 1 ∧ CW cy x la lv9 ls9 fa xh xs la2 lv92 ls92 fb fw bu ta rc re gb oc oe rs rc2 re2 gb2 oc2 oe2 rs2 rr ad T hz HZ len tx u) (by decide +kernel) (Nat.le_of_ble_eq_true rfl) ?_
  intro p e s m args below meth c Q A hx hb hml hown hg hQ hK hN hD hA hEx9 hNc9 htab H locs ls hP hS hl
  have hown : s.vm.findClass RL = some m.cls := hown
  have hl : lv_has ls 5 [(0, .ref (x)), (1, .int (qI (p0))), (2, .int (qI (p1))), (3, .ref (oa))] := hl
  obtain ⟨fs9, hfs9⟩ := CW_at hW
  refine lv_aload_n hx hb dL_condition_0 rfl (lv_at hl 3 rfl) ?_
  refine q_iconst hx hb dL_condition_1 ?_
  refine lv_aload_n hx hb dL_condition_2 rfl (lv_at hl 0 rfl) ?_
  refine lv_iload_n hx hb dL_condition_3 rfl (lv_at hl 1 rfl) ?_
  refine lv_iload_n hx hb dL_condition_4 rfl (lv_at hl 2 rfl) ?_
  refine q_thrownW [0] [1] (br := [[(oa, aJ cy 1 g)]]) hP hD hS hA (vx_runV (As := [.int (qI (p0)), .int (qI (p1))]) (rest := [.int (qI (0)), .ref (oa)]) ⟨hx, hb, hml, hown, hg⟩ (x_X7_condition_no1 l hlt9 D cy x la lv9 ls9 fa xh xs la2 lv92 ls92 fb fw bu ta rc re gb oc oe rs rc2 re2 gb2 oc2 oe2 rs2 rr ad T hz HZ len tx _ hG hW p0 p1 r0 r1 hnx9 _) (cv_L_53 hg rfl rfl ⟨by decide, by decide⟩) ⟨q_blindX, va_recv hK (fl_blk hP 0 rfl) (ci := 7) (q0 := 0) rfl hfs9, fun U hU hU9 => ⟨rfl, (q_preM [.int (qI (p0)), .int (qI (p1))] hK hN hP hD [0] (by decide) rfl U hU hU9).2, hEx9.step hU9 (by rw [hU]; exact hS.2.1) (fl_free hD hS hA [0] rfl)⟩⟩ rfl rfl hl.1 rfl (lv_room (Nat.le_of_ble_eq_true rfl)) dL_condition_5 ⟨by decide, by decide⟩) rfl rfl (by decide) (fun u9 ce q9 H locs h9 hP hD hS hq1 hq2 hq3 => ?_)
  refine vx_catch (name := EI) hown [] ⟨0, 10, 13, 13⟩ [⟨0, 10, 17, 15⟩] (htab.trans rfl) (fun z hz9 => nomatch hz9) (by decide) (by decide) (hg _ m_712) (hEx9.2.1.1.use rfl) hq1 hq2 hq3 ?_
  have hP : va_P D vwCl [[(oa, aJ cy 1 (g))], u9].flatten H := hP
  have hD : va_D A [[(oa, aJ cy 1 (g))], u9].flatten := hD
  refine lv_astore (lv' := [(4, .ref (q9)), (0, .ref (x)), (1, .int (qI (p0))), (2, .int (qI (p1))), (3, .ref (oa))]) hx hb dL_condition_13 hl (by decide) rfl (fun ls hl => ?_)
  refine q_iconst hx hb dL_condition_15 ?_
  have hP := fl_sub (bs' := [u9, [(oa, aJ cy 1 (g))]]) hP [1, 0] rfl
  have hD := fl_subD (bs' := [u9, [(oa, aJ cy 1 (g))]]) hD [1, 0] (by decide) rfl
  exact hQ _ _ _ _ _ u9 ⟨rfl, h9⟩ hP hD hS dL_condition_16

set_option maxRecDepth 100000 in
set_option maxHeartbeats 4000000 in
theorem c_L_condition_no2 (l : Launch) (hlt9 : l.stackTraces = false) (D : va_G) (cy : Nat → ClassId) (x la lv9 ls9 fa xh xs la2 lv92 ls92 fb fw bu ta : Nat) (rc re gb oc oe rs rc2 re2 gb2 oc2 oe2 rs2 rr : Nat → Nat) (ad : Nat → Nat → Nat) (T : LSt) (hz : Nat) (HZ : Nat → LSt) (len : Nat) (tx : Nat → Int) (W : va_W) (hG : gOk T) (hW : CW cy x la lv9 ls9 fa xh xs la2 lv92 ls92 fb fw bu ta rc re gb oc oe rs rc2 re2 gb2 oc2 oe2 rs2 rr ad T hz HZ len tx W) (oa : Nat) (g : Nat → Int64) (p0 p1 : Int) (r0 : (-2147483648 ≤ p0 ∧ p0 < 2147483648)) (r1 : (-2147483648 ≤ p1 ∧ p1 < 2147483648)) (hnx9 : 0 ≤ p0 ∧ p0 < (lN9 T : Int)) (hny9 : ¬ (0 ≤ p1 ∧ p1 ≤ 9)) (sz : Nat) : qMx l yL_condition (.codeWith yL_condition cL_condition 5 (some .int) [(0, 10, 13, 13), (0, 10, 17, 15)]) 9 [.ref (x), .int (qI (p0)), .int (qI (p1)), .ref (oa)] D cy [W, [(oa, aJ cy 1 (g))]] sz (va_Qi (S := va_W) (fun r u => r = qI 2 ∧ CW cy x la lv9 ls9 fa xh xs la2 lv92 ls92 fb fw bu ta rc re gb oc oe rs rc2 re2 gb2 oc2 oe2 rs2 rr ad T hz HZ len tx u) (qB D cy [W, [(oa, aJ cy 1 (g))]] sz (fun u => [u, [(oa, aJ cy 1 g)]])) (va_A [W, [(oa, aJ cy 1 (g))]].flatten sz)) := by
  refine q_ofMiX (S := va_W) (b1 := fun u => [u, [(oa, aJ cy 1 g)]]) (post := fun r u => r = qI 2 ∧ CW cy x la lv9 ls9 fa xh xs la2 lv92 ls92 fb fw bu ta rc re gb oc oe rs rc2 re2 gb2 oc2 oe2 rs2 rr ad T hz HZ len tx u) (by decide +kernel) (Nat.le_of_ble_eq_true rfl) ?_
  intro p e s m args below meth c Q A hx hb hml hown hg hQ hK hN hD hA hEx9 hNc9 htab H locs ls hP hS hl
  have hown : s.vm.findClass RL = some m.cls := hown
  have hl : lv_has ls 5 [(0, .ref (x)), (1, .int (qI (p0))), (2, .int (qI (p1))), (3, .ref (oa))] := hl
  obtain ⟨fs9, hfs9⟩ := CW_at hW
  refine lv_aload_n hx hb dL_condition_0 rfl (lv_at hl 3 rfl) ?_
  refine q_iconst hx hb dL_condition_1 ?_
  refine lv_aload_n hx hb dL_condition_2 rfl (lv_at hl 0 rfl) ?_
  refine lv_iload_n hx hb dL_condition_3 rfl (lv_at hl 1 rfl) ?_
  refine lv_iload_n hx hb dL_condition_4 rfl (lv_at hl 2 rfl) ?_
  refine q_thrownW [0] [1] (br := [[(oa, aJ cy 1 g)]]) hP hD hS hA (vx_runV (As := [.int (qI (p0)), .int (qI (p1))]) (rest := [.int (qI (0)), .ref (oa)]) ⟨hx, hb, hml, hown, hg⟩ (x_X7_condition_no2 l hlt9 D cy x la lv9 ls9 fa xh xs la2 lv92 ls92 fb fw bu ta rc re gb oc oe rs rc2 re2 gb2 oc2 oe2 rs2 rr ad T hz HZ len tx _ hG hW p0 p1 r0 r1 hnx9 hny9 _) (cv_L_53 hg rfl rfl ⟨by decide, by decide⟩) ⟨q_blindX, va_recv hK (fl_blk hP 0 rfl) (ci := 7) (q0 := 0) rfl hfs9, fun U hU hU9 => ⟨rfl, (q_preM [.int (qI (p0)), .int (qI (p1))] hK hN hP hD [0] (by decide) rfl U hU hU9).2, hEx9.step hU9 (by rw [hU]; exact hS.2.1) (fl_free hD hS hA [0] rfl)⟩⟩ rfl rfl hl.1 rfl (lv_room (Nat.le_of_ble_eq_true rfl)) dL_condition_5 ⟨by decide, by decide⟩) rfl rfl (by decide) (fun u9 ce q9 H locs h9 hP hD hS hq1 hq2 hq3 => ?_)
  have hps : ∀ z ∈ ([⟨0, 10, 13, 13⟩] : List ExceptionTableEntry), covers z 5 = false ∨ (z.catchType ≠ 0 ∧ ∃ nm : String, (Cond.classLink RL z.catchType nm).before args s = true ∧ va_Nc EA nm s) := by
    intro z hz9
    simp only [List.mem_cons, List.not_mem_nil, or_false] at hz9
    rcases hz9 with rfl
    · exact Or.inr ⟨by decide, EI, hg _ m_712, hNc9.1⟩
  refine vx_catch (name := EA) hown [⟨0, 10, 13, 13⟩] ⟨0, 10, 17, 15⟩ [] (htab.trans rfl) hps (by decide) (by decide) (hg _ m_713) (hEx9.2.1.2.1.use rfl) hq1 hq2 hq3 ?_
  have hP : va_P D vwCl [[(oa, aJ cy 1 (g))], u9].flatten H := hP
  have hD : va_D A [[(oa, aJ cy 1 (g))], u9].flatten := hD
  refine lv_astore (lv' := [(4, .ref (q9)), (0, .ref (x)), (1, .int (qI (p0))), (2, .int (qI (p1))), (3, .ref (oa))]) hx hb dL_condition_17 hl (by decide) rfl (fun ls hl => ?_)
  refine q_iconst hx hb dL_condition_19 ?_
  have hP := fl_sub (bs' := [u9, [(oa, aJ cy 1 (g))]]) hP [1, 0] rfl
  have hD := fl_subD (bs' := [u9, [(oa, aJ cy 1 (g))]]) hD [1, 0] (by decide) rfl
  exact hQ _ _ _ _ _ u9 ⟨rfl, h9⟩ hP hD hS dL_condition_20

set_option maxRecDepth 100000 in
set_option maxHeartbeats 4000000 in
theorem c_L_edited_no1 (l : Launch) (hlt9 : l.stackTraces = false) (D : va_G) (cy : Nat → ClassId) (x la lv9 ls9 fa xh xs la2 lv92 ls92 fb fw bu ta : Nat) (rc re gb oc oe rs rc2 re2 gb2 oc2 oe2 rs2 rr : Nat → Nat) (ad : Nat → Nat → Nat) (T : LSt) (hz : Nat) (HZ : Nat → LSt) (len : Nat) (tx : Nat → Int) (W : va_W) (hG : gOk T) (hW : CW cy x la lv9 ls9 fa xh xs la2 lv92 ls92 fb fw bu ta rc re gb oc oe rs rc2 re2 gb2 oc2 oe2 rs2 rr ad T hz HZ len tx W) (oa : Nat) (g : Nat → Int64) (p0 p1 : Int) (r0 : (-2147483648 ≤ p0 ∧ p0 < 2147483648)) (r1 : (-2147483648 ≤ p1 ∧ p1 < 2147483648)) (hnx9 : ¬ (0 ≤ p0 ∧ p0 < (lM T : Int))) (sz : Nat) : qMx l yL_edited (.codeWith yL_edited cL_edited 5 (some .int) [(0, 10, 13, 13), (0, 10, 17, 15)]) 9 [.ref (x), .int (qI (p0)), .int (qI (p1)), .ref (oa)] D cy [W, [(oa, aJ cy 1 (g))]] sz (va_Qi (S := va_W) (fun r u => r = qI 1 ∧ CW cy x la lv9 ls9 fa xh xs la2 lv92 ls92 fb fw bu ta rc re gb oc oe rs rc2 re2 gb2 oc2 oe2 rs2 rr ad T hz HZ len tx u) (qB D cy [W, [(oa, aJ cy 1 (g))]] sz (fun u => [u, [(oa, aJ cy 1 g)]])) (va_A [W, [(oa, aJ cy 1 (g))]].flatten sz)) := by
  refine q_ofMiX (S := va_W) (b1 := fun u => [u, [(oa, aJ cy 1 g)]]) (post := fun r u => r = qI 1 ∧ CW cy x la lv9 ls9 fa xh xs la2 lv92 ls92 fb fw bu ta rc re gb oc oe rs rc2 re2 gb2 oc2 oe2 rs2 rr ad T hz HZ len tx u) (by decide +kernel) (Nat.le_of_ble_eq_true rfl) ?_
  intro p e s m args below meth c Q A hx hb hml hown hg hQ hK hN hD hA hEx9 hNc9 htab H locs ls hP hS hl
  have hown : s.vm.findClass RL = some m.cls := hown
  have hl : lv_has ls 5 [(0, .ref (x)), (1, .int (qI (p0))), (2, .int (qI (p1))), (3, .ref (oa))] := hl
  obtain ⟨fs9, hfs9⟩ := CW_at hW
  refine lv_aload_n hx hb dL_edited_0 rfl (lv_at hl 3 rfl) ?_
  refine q_iconst hx hb dL_edited_1 ?_
  refine lv_aload_n hx hb dL_edited_2 rfl (lv_at hl 0 rfl) ?_
  refine lv_iload_n hx hb dL_edited_3 rfl (lv_at hl 1 rfl) ?_
  refine lv_iload_n hx hb dL_edited_4 rfl (lv_at hl 2 rfl) ?_
  refine q_thrownW [0] [1] (br := [[(oa, aJ cy 1 g)]]) hP hD hS hA (vx_runV (As := [.int (qI (p0)), .int (qI (p1))]) (rest := [.int (qI (0)), .ref (oa)]) ⟨hx, hb, hml, hown, hg⟩ (x_X7_edited_no1 l hlt9 D cy x la lv9 ls9 fa xh xs la2 lv92 ls92 fb fw bu ta rc re gb oc oe rs rc2 re2 gb2 oc2 oe2 rs2 rr ad T hz HZ len tx _ hG hW p0 p1 r0 r1 hnx9 _) (cv_L_56 hg rfl rfl ⟨by decide, by decide⟩) ⟨q_blindX, va_recv hK (fl_blk hP 0 rfl) (ci := 7) (q0 := 0) rfl hfs9, fun U hU hU9 => ⟨rfl, (q_preM [.int (qI (p0)), .int (qI (p1))] hK hN hP hD [0] (by decide) rfl U hU hU9).2, hEx9.step hU9 (by rw [hU]; exact hS.2.1) (fl_free hD hS hA [0] rfl)⟩⟩ rfl rfl hl.1 rfl (lv_room (Nat.le_of_ble_eq_true rfl)) dL_edited_5 ⟨by decide, by decide⟩) rfl rfl (by decide) (fun u9 ce q9 H locs h9 hP hD hS hq1 hq2 hq3 => ?_)
  refine vx_catch (name := EI) hown [] ⟨0, 10, 13, 13⟩ [⟨0, 10, 17, 15⟩] (htab.trans rfl) (fun z hz9 => nomatch hz9) (by decide) (by decide) (hg _ m_712) (hEx9.2.1.1.use rfl) hq1 hq2 hq3 ?_
  have hP : va_P D vwCl [[(oa, aJ cy 1 (g))], u9].flatten H := hP
  have hD : va_D A [[(oa, aJ cy 1 (g))], u9].flatten := hD
  refine lv_astore (lv' := [(4, .ref (q9)), (0, .ref (x)), (1, .int (qI (p0))), (2, .int (qI (p1))), (3, .ref (oa))]) hx hb dL_edited_13 hl (by decide) rfl (fun ls hl => ?_)
  refine q_iconst hx hb dL_edited_15 ?_
  have hP := fl_sub (bs' := [u9, [(oa, aJ cy 1 (g))]]) hP [1, 0] rfl
  have hD := fl_subD (bs' := [u9, [(oa, aJ cy 1 (g))]]) hD [1, 0] (by decide) rfl
  exact hQ _ _ _ _ _ u9 ⟨rfl, h9⟩ hP hD hS dL_edited_16

set_option maxRecDepth 100000 in
set_option maxHeartbeats 4000000 in
theorem c_L_edited_no2 (l : Launch) (hlt9 : l.stackTraces = false) (D : va_G) (cy : Nat → ClassId) (x la lv9 ls9 fa xh xs la2 lv92 ls92 fb fw bu ta : Nat) (rc re gb oc oe rs rc2 re2 gb2 oc2 oe2 rs2 rr : Nat → Nat) (ad : Nat → Nat → Nat) (T : LSt) (hz : Nat) (HZ : Nat → LSt) (len : Nat) (tx : Nat → Int) (W : va_W) (hG : gOk T) (hW : CW cy x la lv9 ls9 fa xh xs la2 lv92 ls92 fb fw bu ta rc re gb oc oe rs rc2 re2 gb2 oc2 oe2 rs2 rr ad T hz HZ len tx W) (oa : Nat) (g : Nat → Int64) (p0 p1 : Int) (r0 : (-2147483648 ≤ p0 ∧ p0 < 2147483648)) (r1 : (-2147483648 ≤ p1 ∧ p1 < 2147483648)) (hnx9 : 0 ≤ p0 ∧ p0 < (lM T : Int)) (hny9 : ¬ (0 ≤ p1 ∧ p1 ≤ 4)) (sz : Nat) : qMx l yL_edited (.codeWith yL_edited cL_edited 5 (some .int) [(0, 10, 13, 13), (0, 10, 17, 15)]) 9 [.ref (x), .int (qI (p0)), .int (qI (p1)), .ref (oa)] D cy [W, [(oa, aJ cy 1 (g))]] sz (va_Qi (S := va_W) (fun r u => r = qI 2 ∧ CW cy x la lv9 ls9 fa xh xs la2 lv92 ls92 fb fw bu ta rc re gb oc oe rs rc2 re2 gb2 oc2 oe2 rs2 rr ad T hz HZ len tx u) (qB D cy [W, [(oa, aJ cy 1 (g))]] sz (fun u => [u, [(oa, aJ cy 1 g)]])) (va_A [W, [(oa, aJ cy 1 (g))]].flatten sz)) := by
  refine q_ofMiX (S := va_W) (b1 := fun u => [u, [(oa, aJ cy 1 g)]]) (post := fun r u => r = qI 2 ∧ CW cy x la lv9 ls9 fa xh xs la2 lv92 ls92 fb fw bu ta rc re gb oc oe rs rc2 re2 gb2 oc2 oe2 rs2 rr ad T hz HZ len tx u) (by decide +kernel) (Nat.le_of_ble_eq_true rfl) ?_
  intro p e s m args below meth c Q A hx hb hml hown hg hQ hK hN hD hA hEx9 hNc9 htab H locs ls hP hS hl
  have hown : s.vm.findClass RL = some m.cls := hown
  have hl : lv_has ls 5 [(0, .ref (x)), (1, .int (qI (p0))), (2, .int (qI (p1))), (3, .ref (oa))] := hl
  obtain ⟨fs9, hfs9⟩ := CW_at hW
  refine lv_aload_n hx hb dL_edited_0 rfl (lv_at hl 3 rfl) ?_
  refine q_iconst hx hb dL_edited_1 ?_
  refine lv_aload_n hx hb dL_edited_2 rfl (lv_at hl 0 rfl) ?_
  refine lv_iload_n hx hb dL_edited_3 rfl (lv_at hl 1 rfl) ?_
  refine lv_iload_n hx hb dL_edited_4 rfl (lv_at hl 2 rfl) ?_
  refine q_thrownW [0] [1] (br := [[(oa, aJ cy 1 g)]]) hP hD hS hA (vx_runV (As := [.int (qI (p0)), .int (qI (p1))]) (rest := [.int (qI (0)), .ref (oa)]) ⟨hx, hb, hml, hown, hg⟩ (x_X7_edited_no2 l hlt9 D cy x la lv9 ls9 fa xh xs la2 lv92 ls92 fb fw bu ta rc re gb oc oe rs rc2 re2 gb2 oc2 oe2 rs2 rr ad T hz HZ len tx _ hG hW p0 p1 r0 r1 hnx9 hny9 _) (cv_L_56 hg rfl rfl ⟨by decide, by decide⟩) ⟨q_blindX, va_recv hK (fl_blk hP 0 rfl) (ci := 7) (q0 := 0) rfl hfs9, fun U hU hU9 => ⟨rfl, (q_preM [.int (qI (p0)), .int (qI (p1))] hK hN hP hD [0] (by decide) rfl U hU hU9).2, hEx9.step hU9 (by rw [hU]; exact hS.2.1) (fl_free hD hS hA [0] rfl)⟩⟩ rfl rfl hl.1 rfl (lv_room (Nat.le_of_ble_eq_true rfl)) dL_edited_5 ⟨by decide, by decide⟩) rfl rfl (by decide) (fun u9 ce q9 H locs h9 hP hD hS hq1 hq2 hq3 => ?_)
  have hps : ∀ z ∈ ([⟨0, 10, 13, 13⟩] : List ExceptionTableEntry), covers z 5 = false ∨ (z.catchType ≠ 0 ∧ ∃ nm : String, (Cond.classLink RL z.catchType nm).before args s = true ∧ va_Nc EA nm s) := by
    intro z hz9
    simp only [List.mem_cons, List.not_mem_nil, or_false] at hz9
    rcases hz9 with rfl
    · exact Or.inr ⟨by decide, EI, hg _ m_712, hNc9.1⟩
  refine vx_catch (name := EA) hown [⟨0, 10, 13, 13⟩] ⟨0, 10, 17, 15⟩ [] (htab.trans rfl) hps (by decide) (by decide) (hg _ m_713) (hEx9.2.1.2.1.use rfl) hq1 hq2 hq3 ?_
  have hP : va_P D vwCl [[(oa, aJ cy 1 (g))], u9].flatten H := hP
  have hD : va_D A [[(oa, aJ cy 1 (g))], u9].flatten := hD
  refine lv_astore (lv' := [(4, .ref (q9)), (0, .ref (x)), (1, .int (qI (p0))), (2, .int (qI (p1))), (3, .ref (oa))]) hx hb dL_edited_17 hl (by decide) rfl (fun ls hl => ?_)
  refine q_iconst hx hb dL_edited_19 ?_
  have hP := fl_sub (bs' := [u9, [(oa, aJ cy 1 (g))]]) hP [1, 0] rfl
  have hD := fl_subD (bs' := [u9, [(oa, aJ cy 1 (g))]]) hD [1, 0] (by decide) rfl
  exact hQ _ _ _ _ _ u9 ⟨rfl, h9⟩ hP hD hS dL_edited_20

set_option maxRecDepth 100000 in
set_option maxHeartbeats 4000000 in
theorem c_L_widest_no1 (l : Launch) (hlt9 : l.stackTraces = false) (D : va_G) (cy : Nat → ClassId) (x la lv9 ls9 fa xh xs la2 lv92 ls92 fb fw bu ta : Nat) (rc re gb oc oe rs rc2 re2 gb2 oc2 oe2 rs2 rr : Nat → Nat) (ad : Nat → Nat → Nat) (T : LSt) (hz : Nat) (HZ : Nat → LSt) (len : Nat) (tx : Nat → Int) (W : va_W) (hG : gOk T) (hW : CW cy x la lv9 ls9 fa xh xs la2 lv92 ls92 fb fw bu ta rc re gb oc oe rs rc2 re2 gb2 oc2 oe2 rs2 rr ad T hz HZ len tx W) (oa : Nat) (g : Nat → Int64) (p0 p1 : Int) (r0 : (-2147483648 ≤ p0 ∧ p0 < 2147483648)) (r1 : (-2147483648 ≤ p1 ∧ p1 < 2147483648)) (hnx9 : ¬ ((0 ≤ p0 ∧ p0 ≤ 9) ∧ (0 ≤ p1 ∧ p1 ≤ 9))) (sz : Nat) : qMx l yL_widest (.codeWith yL_widest cL_widest 5 (some .int) [(0, 10, 13, 13)]) 9 [.ref (x), .int (qI (p0)), .int (qI (p1)), .ref (oa)] D cy [W, [(oa, aJ cy 1 (g))]] sz (va_Qi (S := va_W) (fun r u => r = qI 1 ∧ CW cy x la lv9 ls9 fa xh xs la2 lv92 ls92 fb fw bu ta rc re gb oc oe rs rc2 re2 gb2 oc2 oe2 rs2 rr ad T hz HZ len tx u) (qB D cy [W, [(oa, aJ cy 1 (g))]] sz (fun u => [u, [(oa, aJ cy 1 g)]])) (va_A [W, [(oa, aJ cy 1 (g))]].flatten sz)) := by
  refine q_ofMiX (S := va_W) (b1 := fun u => [u, [(oa, aJ cy 1 g)]]) (post := fun r u => r = qI 1 ∧ CW cy x la lv9 ls9 fa xh xs la2 lv92 ls92 fb fw bu ta rc re gb oc oe rs rc2 re2 gb2 oc2 oe2 rs2 rr ad T hz HZ len tx u) (by decide +kernel) (Nat.le_of_ble_eq_true rfl) ?_
  intro p e s m args below meth c Q A hx hb hml hown hg hQ hK hN hD hA hEx9 hNc9 htab H locs ls hP hS hl
  have hown : s.vm.findClass RL = some m.cls := hown
  have hl : lv_has ls 5 [(0, .ref (x)), (1, .int (qI (p0))), (2, .int (qI (p1))), (3, .ref (oa))] := hl
  obtain ⟨fs9, hfs9⟩ := CW_at hW
  refine lv_aload_n hx hb dL_widest_0 rfl (lv_at hl 3 rfl) ?_
  refine q_iconst hx hb dL_widest_1 ?_
  refine lv_aload_n hx hb dL_widest_2 rfl (lv_at hl 0 rfl) ?_
  refine lv_iload_n hx hb dL_widest_3 rfl (lv_at hl 1 rfl) ?_
  refine lv_iload_n hx hb dL_widest_4 rfl (lv_at hl 2 rfl) ?_
  refine q_thrownW [0] [1] (br := [[(oa, aJ cy 1 g)]]) hP hD hS hA (vx_runV (As := [.int (qI (p0)), .int (qI (p1))]) (rest := [.int (qI (0)), .ref (oa)]) ⟨hx, hb, hml, hown, hg⟩ (x_X7_widest_no1 l hlt9 D cy x la lv9 ls9 fa xh xs la2 lv92 ls92 fb fw bu ta rc re gb oc oe rs rc2 re2 gb2 oc2 oe2 rs2 rr ad T hz HZ len tx _ hG hW p0 p1 r0 r1 hnx9 _) (cv_L_59 hg rfl rfl ⟨by decide, by decide⟩) ⟨q_blindX, va_recv hK (fl_blk hP 0 rfl) (ci := 7) (q0 := 0) rfl hfs9, fun U hU hU9 => ⟨rfl, (q_preM [.int (qI (p0)), .int (qI (p1))] hK hN hP hD [0] (by decide) rfl U hU hU9).2, hEx9.step hU9 (by rw [hU]; exact hS.2.1) (fl_free hD hS hA [0] rfl)⟩⟩ rfl rfl hl.1 rfl (lv_room (Nat.le_of_ble_eq_true rfl)) dL_widest_5 ⟨by decide, by decide⟩) rfl rfl (by decide) (fun u9 ce q9 H locs h9 hP hD hS hq1 hq2 hq3 => ?_)
  refine vx_catch (name := EI) hown [] ⟨0, 10, 13, 13⟩ [] (htab.trans rfl) (fun z hz9 => nomatch hz9) (by decide) (by decide) (hg _ m_712) (hEx9.2.1.1.use rfl) hq1 hq2 hq3 ?_
  have hP : va_P D vwCl [[(oa, aJ cy 1 (g))], u9].flatten H := hP
  have hD : va_D A [[(oa, aJ cy 1 (g))], u9].flatten := hD
  refine lv_astore (lv' := [(4, .ref (q9)), (0, .ref (x)), (1, .int (qI (p0))), (2, .int (qI (p1))), (3, .ref (oa))]) hx hb dL_widest_13 hl (by decide) rfl (fun ls hl => ?_)
  refine q_iconst hx hb dL_widest_15 ?_
  have hP := fl_sub (bs' := [u9, [(oa, aJ cy 1 (g))]]) hP [1, 0] rfl
  have hD := fl_subD (bs' := [u9, [(oa, aJ cy 1 (g))]]) hD [1, 0] (by decide) rfl
  exact hQ _ _ _ _ _ u9 ⟨rfl, h9⟩ hP hD hS dL_widest_16

set_option maxRecDepth 100000 in
set_option maxHeartbeats 4000000 in
theorem c_L_count_no2 (l : Launch) (hlt9 : l.stackTraces = false) (D : va_G) (cy : Nat → ClassId) (x la lv9 ls9 fa xh xs la2 lv92 ls92 fb fw bu ta : Nat) (rc re gb oc oe rs rc2 re2 gb2 oc2 oe2 rs2 rr : Nat → Nat) (ad : Nat → Nat → Nat) (T : LSt) (hz : Nat) (HZ : Nat → LSt) (len : Nat) (tx : Nat → Int) (W : va_W) (hG : gOk T) (hW : CW cy x la lv9 ls9 fa xh xs la2 lv92 ls92 fb fw bu ta rc re gb oc oe rs rc2 re2 gb2 oc2 oe2 rs2 rr ad T hz HZ len tx W) (oa : Nat) (g : Nat → Int64) (p0 : Int) (r0 : (-2147483648 ≤ p0 ∧ p0 < 2147483648)) (hnx9 : ¬ (0 ≤ p0 ∧ p0 ≤ 7)) (sz : Nat) : qMx l yL_count (.codeWith yL_count cL_count 4 (some .int) [(0, 9, 12, 15)]) 9 [.ref (x), .int (qI (p0)), .ref (oa)] D cy [W, [(oa, aJ cy 1 (g))]] sz (va_Qi (S := va_W) (fun r u => r = qI 1 ∧ CW cy x la lv9 ls9 fa xh xs la2 lv92 ls92 fb fw bu ta rc re gb oc oe rs rc2 re2 gb2 oc2 oe2 rs2 rr ad T hz HZ len tx u) (qB D cy [W, [(oa, aJ cy 1 (g))]] sz (fun u => [u, [(oa, aJ cy 1 g)]])) (va_A [W, [(oa, aJ cy 1 (g))]].flatten sz)) := by
  refine q_ofMiX (S := va_W) (b1 := fun u => [u, [(oa, aJ cy 1 g)]]) (post := fun r u => r = qI 1 ∧ CW cy x la lv9 ls9 fa xh xs la2 lv92 ls92 fb fw bu ta rc re gb oc oe rs rc2 re2 gb2 oc2 oe2 rs2 rr ad T hz HZ len tx u) (by decide +kernel) (Nat.le_of_ble_eq_true rfl) ?_
  intro p e s m args below meth c Q A hx hb hml hown hg hQ hK hN hD hA hEx9 hNc9 htab H locs ls hP hS hl
  have hown : s.vm.findClass RL = some m.cls := hown
  have hl : lv_has ls 4 [(0, .ref (x)), (1, .int (qI (p0))), (2, .ref (oa))] := hl
  obtain ⟨fs9, hfs9⟩ := CW_at hW
  refine lv_aload_n hx hb dL_count_0 rfl (lv_at hl 2 rfl) ?_
  refine q_iconst hx hb dL_count_1 ?_
  refine lv_aload_n hx hb dL_count_2 rfl (lv_at hl 0 rfl) ?_
  refine lv_iload_n hx hb dL_count_3 rfl (lv_at hl 1 rfl) ?_
  refine q_thrownW [0] [1] (br := [[(oa, aJ cy 1 g)]]) hP hD hS hA (vx_runV (As := [.int (qI (p0))]) (rest := [.int (qI (0)), .ref (oa)]) ⟨hx, hb, hml, hown, hg⟩ (x_X7_count_no2 l hlt9 D cy x la lv9 ls9 fa xh xs la2 lv92 ls92 fb fw bu ta rc re gb oc oe rs rc2 re2 gb2 oc2 oe2 rs2 rr ad T hz HZ len tx _ hG hW p0 r0 hnx9 _) (cv_L_62 hg rfl rfl ⟨by decide, by decide⟩) ⟨q_blindX, va_recv hK (fl_blk hP 0 rfl) (ci := 7) (q0 := 0) rfl hfs9, fun U hU hU9 => ⟨rfl, (q_preM [.int (qI (p0))] hK hN hP hD [0] (by decide) rfl U hU hU9).2, hEx9.step hU9 (by rw [hU]; exact hS.2.1) (fl_free hD hS hA [0] rfl)⟩⟩ rfl rfl hl.1 rfl (lv_room (Nat.le_of_ble_eq_true rfl)) dL_count_4 ⟨by decide, by decide⟩) rfl rfl (by decide) (fun u9 ce q9 H locs h9 hP hD hS hq1 hq2 hq3 => ?_)
  refine vx_catch (name := EA) hown [] ⟨0, 9, 12, 15⟩ [] (htab.trans rfl) (fun z hz9 => nomatch hz9) (by decide) (by decide) (hg _ m_713) (hEx9.2.1.2.1.use rfl) hq1 hq2 hq3 ?_
  have hP : va_P D vwCl [[(oa, aJ cy 1 (g))], u9].flatten H := hP
  have hD : va_D A [[(oa, aJ cy 1 (g))], u9].flatten := hD
  refine lv_astore_n (lv' := [(3, .ref (q9)), (0, .ref (x)), (1, .int (qI (p0))), (2, .ref (oa))]) hx hb dL_count_12 rfl hl (by decide) rfl (fun ls hl => ?_)
  refine q_iconst hx hb dL_count_13 ?_
  have hP := fl_sub (bs' := [u9, [(oa, aJ cy 1 (g))]]) hP [1, 0] rfl
  have hD := fl_subD (bs' := [u9, [(oa, aJ cy 1 (g))]]) hD [1, 0] (by decide) rfl
  exact hQ _ _ _ _ _ u9 ⟨rfl, h9⟩ hP hD hS dL_count_14

set_option maxRecDepth 100000 in
set_option maxHeartbeats 4000000 in
theorem c_L_ifEdited_no1 (l : Launch) (hlt9 : l.stackTraces = false) (D : va_G) (cy : Nat → ClassId) (x la lv9 ls9 fa xh xs la2 lv92 ls92 fb fw bu ta : Nat) (rc re gb oc oe rs rc2 re2 gb2 oc2 oe2 rs2 rr : Nat → Nat) (ad : Nat → Nat → Nat) (T : LSt) (hz : Nat) (HZ : Nat → LSt) (len : Nat) (tx : Nat → Int) (W : va_W) (hG : gOk T) (hW : CW cy x la lv9 ls9 fa xh xs la2 lv92 ls92 fb fw bu ta rc re gb oc oe rs rc2 re2 gb2 oc2 oe2 rs2 rr ad T hz HZ len tx W) (oa : Nat) (g : Nat → Int64) (p0 p1 p2 p3 : Int) (r0 : (-2147483648 ≤ p0 ∧ p0 < 2147483648)) (r1 : (-2147483648 ≤ p1 ∧ p1 < 2147483648)) (r2 : (-2147483648 ≤ p2 ∧ p2 < 2147483648)) (r3 : (-2147483648 ≤ p3 ∧ p3 < 2147483648)) (hnx9 : ¬ ((0 ≤ p0 ∧ p0 ≤ 9) ∧ (0 ≤ p3 ∧ p3 ≤ 9))) (sz : Nat) : qMx l yL_ifEdited (.codeWith yL_ifEdited cL_ifEdited 7 (some .int) [(0, 14, 17, 13), (0, 14, 21, 15)]) 9 [.ref (x), .int (qI (p0)), .int (qI (p1)), .int (qI (p2)), .int (qI (p3)), .ref (oa)] D cy [W, [(oa, aJ cy 1 (g))]] sz (va_Qi (S := va_W) (fun r u => r = qI 1 ∧ CW cy x la lv9 ls9 fa xh xs la2 lv92 ls92 fb fw bu ta rc re gb oc oe rs rc2 re2 gb2 oc2 oe2 rs2 rr ad T hz HZ len tx u) (qB D cy [W, [(oa, aJ cy 1 (g))]] sz (fun u => [u, [(oa, aJ cy 1 g)]])) (va_A [W, [(oa, aJ cy 1 (g))]].flatten sz)) := by
  refine q_ofMiX (S := va_W) (b1 := fun u => [u, [(oa, aJ cy 1 g)]]) (post := fun r u => r = qI 1 ∧ CW cy x la lv9 ls9 fa xh xs la2 lv92 ls92 fb fw bu ta rc re gb oc oe rs rc2 re2 gb2 oc2 oe2 rs2 rr ad T hz HZ len tx u) (by decide +kernel) (Nat.le_of_ble_eq_true rfl) ?_
  intro p e s m args below meth c Q A hx hb hml hown hg hQ hK hN hD hA hEx9 hNc9 htab H locs ls hP hS hl
  have hown : s.vm.findClass RL = some m.cls := hown
  have hl : lv_has ls 7 [(0, .ref (x)), (1, .int (qI (p0))), (2, .int (qI (p1))), (3, .int (qI (p2))), (4, .int (qI (p3))), (5, .ref (oa))] := hl
  obtain ⟨fs9, hfs9⟩ := CW_at hW
  refine lv_aload hx hb dL_ifEdited_0 (lv_at hl 5 rfl) ?_
  refine q_iconst hx hb dL_ifEdited_2 ?_
  refine lv_aload_n hx hb dL_ifEdited_3 rfl (lv_at hl 0 rfl) ?_
  refine lv_iload_n hx hb dL_ifEdited_4 rfl (lv_at hl 1 rfl) ?_
  refine lv_iload_n hx hb dL_ifEdited_5 rfl (lv_at hl 2 rfl) ?_
  refine lv_iload_n hx hb dL_ifEdited_6 rfl (lv_at hl 3 rfl) ?_
  refine lv_iload hx hb dL_ifEdited_7 (lv_at hl 4 rfl) ?_
  refine q_thrownW [0] [1] (br := [[(oa, aJ cy 1 g)]]) hP hD hS hA (vx_runV (As := [.int (qI (p0)), .int (qI (p1)), .int (qI (p2)), .int (qI (p3))]) (rest := [.int (qI (0)), .ref (oa)]) ⟨hx, hb, hml, hown, hg⟩ (x_X7_ifEdited_no1 l hlt9 D cy x la lv9 ls9 fa xh xs la2 lv92 ls92 fb fw bu ta rc re gb oc oe rs rc2 re2 gb2 oc2 oe2 rs2 rr ad T hz HZ len tx _ hG hW p0 p1 p2 p3 r0 r1 r2 r3 hnx9 _) (cv_L_65 hg rfl rfl ⟨by decide, by decide⟩) ⟨q_blindX, va_recv hK (fl_blk hP 0 rfl) (ci := 7) (q0 := 0) rfl hfs9, fun U hU hU9 => ⟨rfl, (q_preM [.int (qI (p0)), .int (qI (p1)), .int (qI (p2)), .int (qI (p3))] hK hN hP hD [0] (by decide) rfl U hU hU9).2, hEx9.step hU9 (by rw [hU]; exact hS.2.1) (fl_free hD hS hA [0] rfl)⟩⟩ rfl rfl hl.1 rfl (lv_room (Nat.le_of_ble_eq_true rfl)) dL_ifEdited_9 ⟨by decide, by decide⟩) rfl rfl (by decide) (fun u9 ce q9 H locs h9 hP hD hS hq1 hq2 hq3 => ?_)
  refine vx_catch (name := EI) hown [] ⟨0, 14, 17, 13⟩ [⟨0, 14, 21, 15⟩] (htab.trans rfl) (fun z hz9 => nomatch hz9) (by decide) (by decide) (hg _ m_712) (hEx9.2.1.1.use rfl) hq1 hq2 hq3 ?_
  have hP : va_P D vwCl [[(oa, aJ cy 1 (g))], u9].flatten H := hP
  have hD : va_D A [[(oa, aJ cy 1 (g))], u9].flatten := hD
  refine lv_astore (lv' := [(6, .ref (q9)), (0, .ref (x)), (1, .int (qI (p0))), (2, .int (qI (p1))), (3, .int (qI (p2))), (4, .int (qI (p3))), (5, .ref (oa))]) hx hb dL_ifEdited_17 hl (by decide) rfl (fun ls hl => ?_)
  refine q_iconst hx hb dL_ifEdited_19 ?_
  have hP := fl_sub (bs' := [u9, [(oa, aJ cy 1 (g))]]) hP [1, 0] rfl
  have hD := fl_subD (bs' := [u9, [(oa, aJ cy 1 (g))]]) hD [1, 0] (by decide) rfl
  exact hQ _ _ _ _ _ u9 ⟨rfl, h9⟩ hP hD hS dL_ifEdited_20

set_option maxRecDepth 100000 in
set_option maxHeartbeats 4000000 in
theorem c_L_ifEdited_no2 (l : Launch) (hlt9 : l.stackTraces = false) (D : va_G) (cy : Nat → ClassId) (x la lv9 ls9 fa xh xs la2 lv92 ls92 fb fw bu ta : Nat) (rc re gb oc oe rs rc2 re2 gb2 oc2 oe2 rs2 rr : Nat → Nat) (ad : Nat → Nat → Nat) (T : LSt) (hz : Nat) (HZ : Nat → LSt) (len : Nat) (tx : Nat → Int) (W : va_W) (hG : gOk T) (hW : CW cy x la lv9 ls9 fa xh xs la2 lv92 ls92 fb fw bu ta rc re gb oc oe rs rc2 re2 gb2 oc2 oe2 rs2 rr ad T hz HZ len tx W) (oa : Nat) (g : Nat → Int64) (p0 p1 p2 p3 : Int) (r0 : (-2147483648 ≤ p0 ∧ p0 < 2147483648)) (r1 : (-2147483648 ≤ p1 ∧ p1 < 2147483648)) (r2 : (-2147483648 ≤ p2 ∧ p2 < 2147483648)) (r3 : (-2147483648 ≤ p3 ∧ p3 < 2147483648)) (hnx9 : (0 ≤ p0 ∧ p0 ≤ 9) ∧ (0 ≤ p3 ∧ p3 ≤ 9)) (hny9 : ¬ ((-1000 ≤ p1 ∧ p1 ≤ 1000) ∧ (0 ≤ p2 ∧ p2 ≤ 3))) (sz : Nat) : qMx l yL_ifEdited (.codeWith yL_ifEdited cL_ifEdited 7 (some .int) [(0, 14, 17, 13), (0, 14, 21, 15)]) 9 [.ref (x), .int (qI (p0)), .int (qI (p1)), .int (qI (p2)), .int (qI (p3)), .ref (oa)] D cy [W, [(oa, aJ cy 1 (g))]] sz (va_Qi (S := va_W) (fun r u => r = qI 2 ∧ CW cy x la lv9 ls9 fa xh xs la2 lv92 ls92 fb fw bu ta rc re gb oc oe rs rc2 re2 gb2 oc2 oe2 rs2 rr ad T hz HZ len tx u) (qB D cy [W, [(oa, aJ cy 1 (g))]] sz (fun u => [u, [(oa, aJ cy 1 g)]])) (va_A [W, [(oa, aJ cy 1 (g))]].flatten sz)) := by
  refine q_ofMiX (S := va_W) (b1 := fun u => [u, [(oa, aJ cy 1 g)]]) (post := fun r u => r = qI 2 ∧ CW cy x la lv9 ls9 fa xh xs la2 lv92 ls92 fb fw bu ta rc re gb oc oe rs rc2 re2 gb2 oc2 oe2 rs2 rr ad T hz HZ len tx u) (by decide +kernel) (Nat.le_of_ble_eq_true rfl) ?_
  intro p e s m args below meth c Q A hx hb hml hown hg hQ hK hN hD hA hEx9 hNc9 htab H locs ls hP hS hl
  have hown : s.vm.findClass RL = some m.cls := hown
  have hl : lv_has ls 7 [(0, .ref (x)), (1, .int (qI (p0))), (2, .int (qI (p1))), (3, .int (qI (p2))), (4, .int (qI (p3))), (5, .ref (oa))] := hl
  obtain ⟨fs9, hfs9⟩ := CW_at hW
  refine lv_aload hx hb dL_ifEdited_0 (lv_at hl 5 rfl) ?_
  refine q_iconst hx hb dL_ifEdited_2 ?_
  refine lv_aload_n hx hb dL_ifEdited_3 rfl (lv_at hl 0 rfl) ?_
  refine lv_iload_n hx hb dL_ifEdited_4 rfl (lv_at hl 1 rfl) ?_
  refine lv_iload_n hx hb dL_ifEdited_5 rfl (lv_at hl 2 rfl) ?_
  refine lv_iload_n hx hb dL_ifEdited_6 rfl (lv_at hl 3 rfl) ?_
  refine lv_iload hx hb dL_ifEdited_7 (lv_at hl 4 rfl) ?_
  refine q_thrownW [0] [1] (br := [[(oa, aJ cy 1 g)]]) hP hD hS hA (vx_runV (As := [.int (qI (p0)), .int (qI (p1)), .int (qI (p2)), .int (qI (p3))]) (rest := [.int (qI (0)), .ref (oa)]) ⟨hx, hb, hml, hown, hg⟩ (x_X7_ifEdited_no2 l hlt9 D cy x la lv9 ls9 fa xh xs la2 lv92 ls92 fb fw bu ta rc re gb oc oe rs rc2 re2 gb2 oc2 oe2 rs2 rr ad T hz HZ len tx _ hG hW p0 p1 p2 p3 r0 r1 r2 r3 hnx9 hny9 _) (cv_L_65 hg rfl rfl ⟨by decide, by decide⟩) ⟨q_blindX, va_recv hK (fl_blk hP 0 rfl) (ci := 7) (q0 := 0) rfl hfs9, fun U hU hU9 => ⟨rfl, (q_preM [.int (qI (p0)), .int (qI (p1)), .int (qI (p2)), .int (qI (p3))] hK hN hP hD [0] (by decide) rfl U hU hU9).2, hEx9.step hU9 (by rw [hU]; exact hS.2.1) (fl_free hD hS hA [0] rfl)⟩⟩ rfl rfl hl.1 rfl (lv_room (Nat.le_of_ble_eq_true rfl)) dL_ifEdited_9 ⟨by decide, by decide⟩) rfl rfl (by decide) (fun u9 ce q9 H locs h9 hP hD hS hq1 hq2 hq3 => ?_)
  have hps : ∀ z ∈ ([⟨0, 14, 17, 13⟩] : List ExceptionTableEntry), covers z 9 = false ∨ (z.catchType ≠ 0 ∧ ∃ nm : String, (Cond.classLink RL z.catchType nm).before args s = true ∧ va_Nc EA nm s) := by
    intro z hz9
    simp only [List.mem_cons, List.not_mem_nil, or_false] at hz9
    rcases hz9 with rfl
    · exact Or.inr ⟨by decide, EI, hg _ m_712, hNc9.1⟩
  refine vx_catch (name := EA) hown [⟨0, 14, 17, 13⟩] ⟨0, 14, 21, 15⟩ [] (htab.trans rfl) hps (by decide) (by decide) (hg _ m_713) (hEx9.2.1.2.1.use rfl) hq1 hq2 hq3 ?_
  have hP : va_P D vwCl [[(oa, aJ cy 1 (g))], u9].flatten H := hP
  have hD : va_D A [[(oa, aJ cy 1 (g))], u9].flatten := hD
  refine lv_astore (lv' := [(6, .ref (q9)), (0, .ref (x)), (1, .int (qI (p0))), (2, .int (qI (p1))), (3, .int (qI (p2))), (4, .int (qI (p3))), (5, .ref (oa))]) hx hb dL_ifEdited_21 hl (by decide) rfl (fun ls hl => ?_)
  refine q_iconst hx hb dL_ifEdited_23 ?_
  have hP := fl_sub (bs' := [u9, [(oa, aJ cy 1 (g))]]) hP [1, 0] rfl
  have hD := fl_subD (bs' := [u9, [(oa, aJ cy 1 (g))]]) hD [1, 0] (by decide) rfl
  exact hQ _ _ _ _ _ u9 ⟨rfl, h9⟩ hP hD hS dL_ifEdited_24

set_option maxRecDepth 100000 in
set_option maxHeartbeats 4000000 in
theorem c_L_ifRemoved_no1 (l : Launch) (hlt9 : l.stackTraces = false) (D : va_G) (cy : Nat → ClassId) (x la lv9 ls9 fa xh xs la2 lv92 ls92 fb fw bu ta : Nat) (rc re gb oc oe rs rc2 re2 gb2 oc2 oe2 rs2 rr : Nat → Nat) (ad : Nat → Nat → Nat) (T : LSt) (hz : Nat) (HZ : Nat → LSt) (len : Nat) (tx : Nat → Int) (W : va_W) (hG : gOk T) (hW : CW cy x la lv9 ls9 fa xh xs la2 lv92 ls92 fb fw bu ta rc re gb oc oe rs rc2 re2 gb2 oc2 oe2 rs2 rr ad T hz HZ len tx W) (oa : Nat) (g : Nat → Int64) (p0 : Int) (r0 : (-2147483648 ≤ p0 ∧ p0 < 2147483648)) (hnx9 : ¬ (0 ≤ p0 ∧ p0 < (lN9 T : Int))) (sz : Nat) : qMx l yL_ifRemoved (.codeWith yL_ifRemoved cL_ifRemoved 4 (some .int) [(0, 9, 12, 13)]) 9 [.ref (x), .int (qI (p0)), .ref (oa)] D cy [W, [(oa, aJ cy 1 (g))]] sz (va_Qi (S := va_W) (fun r u => r = qI 1 ∧ CW cy x la lv9 ls9 fa xh xs la2 lv92 ls92 fb fw bu ta rc re gb oc oe rs rc2 re2 gb2 oc2 oe2 rs2 rr ad T hz HZ len tx u) (qB D cy [W, [(oa, aJ cy 1 (g))]] sz (fun u => [u, [(oa, aJ cy 1 g)]])) (va_A [W, [(oa, aJ cy 1 (g))]].flatten sz)) := by
  refine q_ofMiX (S := va_W) (b1 := fun u => [u, [(oa, aJ cy 1 g)]]) (post := fun r u => r = qI 1 ∧ CW cy x la lv9 ls9 fa xh xs la2 lv92 ls92 fb fw bu ta rc re gb oc oe rs rc2 re2 gb2 oc2 oe2 rs2 rr ad T hz HZ len tx u) (by decide +kernel) (Nat.le_of_ble_eq_true rfl) ?_
  intro p e s m args below meth c Q A hx hb hml hown hg hQ hK hN hD hA hEx9 hNc9 htab H locs ls hP hS hl
  have hown : s.vm.findClass RL = some m.cls := hown
  have hl : lv_has ls 4 [(0, .ref (x)), (1, .int (qI (p0))), (2, .ref (oa))] := hl
  obtain ⟨fs9, hfs9⟩ := CW_at hW
  refine lv_aload_n hx hb dL_ifRemoved_0 rfl (lv_at hl 2 rfl) ?_
  refine q_iconst hx hb dL_ifRemoved_1 ?_
  refine lv_aload_n hx hb dL_ifRemoved_2 rfl (lv_at hl 0 rfl) ?_
  refine lv_iload_n hx hb dL_ifRemoved_3 rfl (lv_at hl 1 rfl) ?_
  refine q_thrownW [0] [1] (br := [[(oa, aJ cy 1 g)]]) hP hD hS hA (vx_runV (As := [.int (qI (p0))]) (rest := [.int (qI (0)), .ref (oa)]) ⟨hx, hb, hml, hown, hg⟩ (x_X7_ifRemoved_no1 l hlt9 D cy x la lv9 ls9 fa xh xs la2 lv92 ls92 fb fw bu ta rc re gb oc oe rs rc2 re2 gb2 oc2 oe2 rs2 rr ad T hz HZ len tx _ hG hW p0 r0 hnx9 _) (cv_L_69 hg rfl rfl ⟨by decide, by decide⟩) ⟨q_blindX, va_recv hK (fl_blk hP 0 rfl) (ci := 7) (q0 := 0) rfl hfs9, fun U hU hU9 => ⟨rfl, (q_preM [.int (qI (p0))] hK hN hP hD [0] (by decide) rfl U hU hU9).2, hEx9.step hU9 (by rw [hU]; exact hS.2.1) (fl_free hD hS hA [0] rfl)⟩⟩ rfl rfl hl.1 rfl (lv_room (Nat.le_of_ble_eq_true rfl)) dL_ifRemoved_4 ⟨by decide, by decide⟩) rfl rfl (by decide) (fun u9 ce q9 H locs h9 hP hD hS hq1 hq2 hq3 => ?_)
  refine vx_catch (name := EI) hown [] ⟨0, 9, 12, 13⟩ [] (htab.trans rfl) (fun z hz9 => nomatch hz9) (by decide) (by decide) (hg _ m_712) (hEx9.2.1.1.use rfl) hq1 hq2 hq3 ?_
  have hP : va_P D vwCl [[(oa, aJ cy 1 (g))], u9].flatten H := hP
  have hD : va_D A [[(oa, aJ cy 1 (g))], u9].flatten := hD
  refine lv_astore_n (lv' := [(3, .ref (q9)), (0, .ref (x)), (1, .int (qI (p0))), (2, .ref (oa))]) hx hb dL_ifRemoved_12 rfl hl (by decide) rfl (fun ls hl => ?_)
  refine q_iconst hx hb dL_ifRemoved_13 ?_
  have hP := fl_sub (bs' := [u9, [(oa, aJ cy 1 (g))]]) hP [1, 0] rfl
  have hD := fl_subD (bs' := [u9, [(oa, aJ cy 1 (g))]]) hD [1, 0] (by decide) rfl
  exact hQ _ _ _ _ _ u9 ⟨rfl, h9⟩ hP hD hS dL_ifRemoved_14

set_option maxRecDepth 100000 in
set_option maxHeartbeats 4000000 in
theorem c_L_neededStrength_no1 (l : Launch) (hlt9 : l.stackTraces = false) (D : va_G) (cy : Nat → ClassId) (x la lv9 ls9 fa xh xs la2 lv92 ls92 fb fw bu ta : Nat) (rc re gb oc oe rs rc2 re2 gb2 oc2 oe2 rs2 rr : Nat → Nat) (ad : Nat → Nat → Nat) (T : LSt) (hz : Nat) (HZ : Nat → LSt) (len : Nat) (tx : Nat → Int) (W : va_W) (hG : gOk T) (hW : CW cy x la lv9 ls9 fa xh xs la2 lv92 ls92 fb fw bu ta rc re gb oc oe rs rc2 re2 gb2 oc2 oe2 rs2 rr ad T hz HZ len tx W) (oa : Nat) (g : Nat → Int64) (p0 : Int) (r0 : (-2147483648 ≤ p0 ∧ p0 < 2147483648)) (hnx9 : ¬ (0 ≤ p0 ∧ p0 < (lN9 T : Int))) (sz : Nat) : qMx l yL_neededStrength (.codeWith yL_neededStrength cL_neededStrength 4 (some .int) [(0, 9, 12, 13)]) 9 [.ref (x), .int (qI (p0)), .ref (oa)] D cy [W, [(oa, aJ cy 1 (g))]] sz (va_Qi (S := va_W) (fun r u => r = qI 1 ∧ CW cy x la lv9 ls9 fa xh xs la2 lv92 ls92 fb fw bu ta rc re gb oc oe rs rc2 re2 gb2 oc2 oe2 rs2 rr ad T hz HZ len tx u) (qB D cy [W, [(oa, aJ cy 1 (g))]] sz (fun u => [u, [(oa, aJ cy 1 g)]])) (va_A [W, [(oa, aJ cy 1 (g))]].flatten sz)) := by
  refine q_ofMiX (S := va_W) (b1 := fun u => [u, [(oa, aJ cy 1 g)]]) (post := fun r u => r = qI 1 ∧ CW cy x la lv9 ls9 fa xh xs la2 lv92 ls92 fb fw bu ta rc re gb oc oe rs rc2 re2 gb2 oc2 oe2 rs2 rr ad T hz HZ len tx u) (by decide +kernel) (Nat.le_of_ble_eq_true rfl) ?_
  intro p e s m args below meth c Q A hx hb hml hown hg hQ hK hN hD hA hEx9 hNc9 htab H locs ls hP hS hl
  have hown : s.vm.findClass RL = some m.cls := hown
  have hl : lv_has ls 4 [(0, .ref (x)), (1, .int (qI (p0))), (2, .ref (oa))] := hl
  obtain ⟨fs9, hfs9⟩ := CW_at hW
  refine lv_aload_n hx hb dL_neededStrength_0 rfl (lv_at hl 2 rfl) ?_
  refine q_iconst hx hb dL_neededStrength_1 ?_
  refine lv_aload_n hx hb dL_neededStrength_2 rfl (lv_at hl 0 rfl) ?_
  refine lv_iload_n hx hb dL_neededStrength_3 rfl (lv_at hl 1 rfl) ?_
  refine q_thrownW [0] [1] (br := [[(oa, aJ cy 1 g)]]) hP hD hS hA (vx_runV (As := [.int (qI (p0))]) (rest := [.int (qI (0)), .ref (oa)]) ⟨hx, hb, hml, hown, hg⟩ (x_X7_neededStrength_no1 l hlt9 D cy x la lv9 ls9 fa xh xs la2 lv92 ls92 fb fw bu ta rc re gb oc oe rs rc2 re2 gb2 oc2 oe2 rs2 rr ad T hz HZ len tx _ hG hW p0 r0 hnx9 _) (cv_L_72 hg rfl rfl ⟨by decide, by decide⟩) ⟨q_blindX, va_recv hK (fl_blk hP 0 rfl) (ci := 7) (q0 := 0) rfl hfs9, fun U hU hU9 => ⟨rfl, (q_preM [.int (qI (p0))] hK hN hP hD [0] (by decide) rfl U hU hU9).2, hEx9.step hU9 (by rw [hU]; exact hS.2.1) (fl_free hD hS hA [0] rfl)⟩⟩ rfl rfl hl.1 rfl (lv_room (Nat.le_of_ble_eq_true rfl)) dL_neededStrength_4 ⟨by decide, by decide⟩) rfl rfl (by decide) (fun u9 ce q9 H locs h9 hP hD hS hq1 hq2 hq3 => ?_)
  refine vx_catch (name := EI) hown [] ⟨0, 9, 12, 13⟩ [] (htab.trans rfl) (fun z hz9 => nomatch hz9) (by decide) (by decide) (hg _ m_712) (hEx9.2.1.1.use rfl) hq1 hq2 hq3 ?_
  have hP : va_P D vwCl [[(oa, aJ cy 1 (g))], u9].flatten H := hP
  have hD : va_D A [[(oa, aJ cy 1 (g))], u9].flatten := hD
  refine lv_astore_n (lv' := [(3, .ref (q9)), (0, .ref (x)), (1, .int (qI (p0))), (2, .ref (oa))]) hx hb dL_neededStrength_12 rfl hl (by decide) rfl (fun ls hl => ?_)
  refine q_iconst hx hb dL_neededStrength_13 ?_
  have hP := fl_sub (bs' := [u9, [(oa, aJ cy 1 (g))]]) hP [1, 0] rfl
  have hD := fl_subD (bs' := [u9, [(oa, aJ cy 1 (g))]]) hD [1, 0] (by decide) rfl
  exact hQ _ _ _ _ _ u9 ⟨rfl, h9⟩ hP hD hS dL_neededStrength_14

set_option maxRecDepth 100000 in
set_option maxHeartbeats 4000000 in
theorem c_L_load_no2 (l : Launch) (hlt9 : l.stackTraces = false) (D : va_G) (cy : Nat → ClassId) (x la lv9 ls9 fa xh xs la2 lv92 ls92 fb fw bu ta : Nat) (rc re gb oc oe rs rc2 re2 gb2 oc2 oe2 rs2 rr : Nat → Nat) (ad : Nat → Nat → Nat) (T : LSt) (hz : Nat) (HZ : Nat → LSt) (len : Nat) (tx : Nat → Int) (W : va_W) (hG : gOk T) (hW : CW cy x la lv9 ls9 fa xh xs la2 lv92 ls92 fb fw bu ta rc re gb oc oe rs rc2 re2 gb2 oc2 oe2 rs2 rr ad T hz HZ len tx W) (oa : Nat) (g : Nat → Int64) (hnf9 : ¬ rdFull tx len) (sz : Nat) : qMx l yL_load (.codeWith yL_load cL_load 3 (some .int) [(0, 8, 11, 15), (0, 8, 14, 17)]) 9 [.ref (x), .ref (oa)] D cy [W, [(oa, aJ cy 1 (g))]] sz (va_Qi (S := va_W) (fun r u => r = qI 1 ∧ CW cy x la lv9 ls9 fa xh xs la2 lv92 ls92 fb fw bu ta rc re gb oc oe rs rc2 re2 gb2 oc2 oe2 rs2 rr ad T hz HZ len tx u) (qB D cy [W, [(oa, aJ cy 1 (g))]] sz (fun u => [u, [(oa, aJ cy 1 g)]])) (va_A [W, [(oa, aJ cy 1 (g))]].flatten sz)) := by
  refine q_ofMiX (S := va_W) (b1 := fun u => [u, [(oa, aJ cy 1 g)]]) (post := fun r u => r = qI 1 ∧ CW cy x la lv9 ls9 fa xh xs la2 lv92 ls92 fb fw bu ta rc re gb oc oe rs rc2 re2 gb2 oc2 oe2 rs2 rr ad T hz HZ len tx u) (by decide +kernel) (Nat.le_of_ble_eq_true rfl) ?_
  intro p e s m args below meth c Q A hx hb hml hown hg hQ hK hN hD hA hEx9 hNc9 htab H locs ls hP hS hl
  have hown : s.vm.findClass RL = some m.cls := hown
  have hl : lv_has ls 3 [(0, .ref (x)), (1, .ref (oa))] := hl
  obtain ⟨fs9, hfs9⟩ := CW_at hW
  refine lv_aload_n hx hb dL_load_0 rfl (lv_at hl 1 rfl) ?_
  refine q_iconst hx hb dL_load_1 ?_
  refine lv_aload_n hx hb dL_load_2 rfl (lv_at hl 0 rfl) ?_
  refine q_thrownW [0] [1] (br := [[(oa, aJ cy 1 g)]]) hP hD hS hA (vx_runV (As := []) (rest := [.int (qI (0)), .ref (oa)]) ⟨hx, hb, hml, hown, hg⟩ (x_X7_load_no2 l hlt9 D cy x la lv9 ls9 fa xh xs la2 lv92 ls92 fb fw bu ta rc re gb oc oe rs rc2 re2 gb2 oc2 oe2 rs2 rr ad T hz HZ len tx _ hG hW hnf9 _) (cv_L_43 hg rfl rfl ⟨by decide, by decide⟩) ⟨q_blindX, va_recv hK (fl_blk hP 0 rfl) (ci := 7) (q0 := 0) rfl hfs9, fun U hU hU9 => ⟨rfl, (q_preM [] hK hN hP hD [0] (by decide) rfl U hU hU9).2, hEx9.step hU9 (by rw [hU]; exact hS.2.1) (fl_free hD hS hA [0] rfl)⟩⟩ rfl rfl hl.1 rfl (lv_room (Nat.le_of_ble_eq_true rfl)) dL_load_3 ⟨by decide, by decide⟩) rfl rfl (by decide) (fun u9 ce q9 H locs h9 hP hD hS hq1 hq2 hq3 => ?_)
  refine vx_catch (name := EA) hown [] ⟨0, 8, 11, 15⟩ [⟨0, 8, 14, 17⟩] (htab.trans rfl) (fun z hz9 => nomatch hz9) (by decide) (by decide) (hg _ m_713) (hEx9.2.1.2.1.use rfl) hq1 hq2 hq3 ?_
  have hP : va_P D vwCl [[(oa, aJ cy 1 (g))], u9].flatten H := hP
  have hD : va_D A [[(oa, aJ cy 1 (g))], u9].flatten := hD
  refine lv_astore_n (lv' := [(2, .ref (q9)), (0, .ref (x)), (1, .ref (oa))]) hx hb dL_load_11 rfl hl (by decide) rfl (fun ls hl => ?_)
  refine q_iconst hx hb dL_load_12 ?_
  have hP := fl_sub (bs' := [u9, [(oa, aJ cy 1 (g))]]) hP [1, 0] rfl
  have hD := fl_subD (bs' := [u9, [(oa, aJ cy 1 (g))]]) hD [1, 0] (by decide) rfl
  exact hQ _ _ _ _ _ u9 ⟨rfl, h9⟩ hP hD hS dL_load_13

set_option maxRecDepth 100000 in
set_option maxHeartbeats 4000000 in
theorem c_L_load_no3 (l : Launch) (hlt9 : l.stackTraces = false) (D : va_G) (cy : Nat → ClassId) (x la lv9 ls9 fa xh xs la2 lv92 ls92 fb fw bu ta : Nat) (rc re gb oc oe rs rc2 re2 gb2 oc2 oe2 rs2 rr : Nat → Nat) (ad : Nat → Nat → Nat) (T : LSt) (hz : Nat) (HZ : Nat → LSt) (len : Nat) (tx : Nat → Int) (W : va_W) (hG : gOk T) (hW : CW cy x la lv9 ls9 fa xh xs la2 lv92 ls92 fb fw bu ta rc re gb oc oe rs rc2 re2 gb2 oc2 oe2 rs2 rr ad T hz HZ len tx W) (oa : Nat) (g : Nat → Int64) (hfull : rdFull tx len) (hcap : ¬ lN9 T + ldK tx len ≤ 16) (sz : Nat) : qMx l yL_load (.codeWith yL_load cL_load 3 (some .int) [(0, 8, 11, 15), (0, 8, 14, 17)]) 9 [.ref (x), .ref (oa)] D cy [W, [(oa, aJ cy 1 (g))]] sz (va_Qi (S := va_W) (fun r u => r = qI 2 ∧ CW cy x la lv9 ls9 fa xh xs la2 lv92 ls92 fb fw bu ta rc re gb oc oe rs rc2 re2 gb2 oc2 oe2 rs2 rr ad T hz HZ len tx u) (qB D cy [W, [(oa, aJ cy 1 (g))]] sz (fun u => [u, [(oa, aJ cy 1 g)]])) (va_A [W, [(oa, aJ cy 1 (g))]].flatten sz)) := by
  refine q_ofMiX (S := va_W) (b1 := fun u => [u, [(oa, aJ cy 1 g)]]) (post := fun r u => r = qI 2 ∧ CW cy x la lv9 ls9 fa xh xs la2 lv92 ls92 fb fw bu ta rc re gb oc oe rs rc2 re2 gb2 oc2 oe2 rs2 rr ad T hz HZ len tx u) (by decide +kernel) (Nat.le_of_ble_eq_true rfl) ?_
  intro p e s m args below meth c Q A hx hb hml hown hg hQ hK hN hD hA hEx9 hNc9 htab H locs ls hP hS hl
  have hown : s.vm.findClass RL = some m.cls := hown
  have hl : lv_has ls 3 [(0, .ref (x)), (1, .ref (oa))] := hl
  obtain ⟨fs9, hfs9⟩ := CW_at hW
  refine lv_aload_n hx hb dL_load_0 rfl (lv_at hl 1 rfl) ?_
  refine q_iconst hx hb dL_load_1 ?_
  refine lv_aload_n hx hb dL_load_2 rfl (lv_at hl 0 rfl) ?_
  refine q_thrownW [0] [1] (br := [[(oa, aJ cy 1 g)]]) hP hD hS hA (vx_runV (As := []) (rest := [.int (qI (0)), .ref (oa)]) ⟨hx, hb, hml, hown, hg⟩ (x_X7_load_no3 l hlt9 D cy x la lv9 ls9 fa xh xs la2 lv92 ls92 fb fw bu ta rc re gb oc oe rs rc2 re2 gb2 oc2 oe2 rs2 rr ad T hz HZ len tx _ hG hW hfull hcap _) (cv_L_43 hg rfl rfl ⟨by decide, by decide⟩) ⟨q_blindX, va_recv hK (fl_blk hP 0 rfl) (ci := 7) (q0 := 0) rfl hfs9, fun U hU hU9 => ⟨rfl, (q_preM [] hK hN hP hD [0] (by decide) rfl U hU hU9).2, hEx9.step hU9 (by rw [hU]; exact hS.2.1) (fl_free hD hS hA [0] rfl)⟩⟩ rfl rfl hl.1 rfl (lv_room (Nat.le_of_ble_eq_true rfl)) dL_load_3 ⟨by decide, by decide⟩) rfl rfl (by decide) (fun u9 ce q9 H locs h9 hP hD hS hq1 hq2 hq3 => ?_)
  have hps : ∀ z ∈ ([⟨0, 8, 11, 15⟩] : List ExceptionTableEntry), covers z 3 = false ∨ (z.catchType ≠ 0 ∧ ∃ nm : String, (Cond.classLink RL z.catchType nm).before args s = true ∧ va_Nc ES nm s) := by
    intro z hz9
    simp only [List.mem_cons, List.not_mem_nil, or_false] at hz9
    rcases hz9 with rfl
    · exact Or.inr ⟨by decide, EA, hg _ m_713, hNc9.2.2⟩
  refine vx_catch (name := ES) hown [⟨0, 8, 11, 15⟩] ⟨0, 8, 14, 17⟩ [] (htab.trans rfl) hps (by decide) (by decide) (hg _ m_714) (hEx9.2.1.2.2.use rfl) hq1 hq2 hq3 ?_
  have hP : va_P D vwCl [[(oa, aJ cy 1 (g))], u9].flatten H := hP
  have hD : va_D A [[(oa, aJ cy 1 (g))], u9].flatten := hD
  refine lv_astore_n (lv' := [(2, .ref (q9)), (0, .ref (x)), (1, .ref (oa))]) hx hb dL_load_14 rfl hl (by decide) rfl (fun ls hl => ?_)
  refine q_iconst hx hb dL_load_15 ?_
  have hP := fl_sub (bs' := [u9, [(oa, aJ cy 1 (g))]]) hP [1, 0] rfl
  have hD := fl_subD (bs' := [u9, [(oa, aJ cy 1 (g))]]) hD [1, 0] (by decide) rfl
  exact hQ _ _ _ _ _ u9 ⟨rfl, h9⟩ hP hD hS dL_load_16
