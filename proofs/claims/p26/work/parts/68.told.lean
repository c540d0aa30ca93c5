set_option maxRecDepth 100000 in
set_option maxHeartbeats 4000000 in
theorem c_L_told (l : Launch) (D : va_G) (cy : Nat → ClassId) (x la lv9 ls9 fa xh xs la2 lv92 ls92 fb fw bu ta : Nat) (rc re gb oc oe rs rc2 re2 gb2 oc2 oe2 rs2 rr : Nat → Nat) (ad : Nat → Nat → Nat) (T : LSt) (hz : Nat) (HZ : Nat → LSt) (len : Nat) (tx : Nat → Int) (W0 : va_W) (hG : gOk T) (hW : CW cy x la lv9 ls9 fa xh xs la2 lv92 ls92 fb fw bu ta rc re gb oc oe rs rc2 re2 gb2 oc2 oe2 rs2 rr ad T hz HZ len tx W0) (xv xc xe xd : Nat) (va co ed dd : Nat → Int) (hL : lwR T va co ed dd) (hn : lN9 T ≤ 9) (hm3 : lM T ≤ 3) (p1 : Int) (x9 : Nat) (hp1 : p1 = (x9 : Int) ∧ x9 < 2147483648) (sz : Nat) : qCM l yL_told (.code yL_told cL_told 25 (some .boolean)) 8 8565 94394 [.ref (x), .int (qI (p1)), .ref (xv), .ref (xc), .ref (xe), .ref (xd)] D cy [W0, [(xv, aI cy 20 (va))], [(xc, aI cy 45 (co))], [(xe, aI cy 9 (ed))], [(xd, aI cy 2 (dd))]] sz (va_Qi (S := va_W) (fun r u => ∃ b : Bool, r = qz b ∧ (fun b u => b = true ∧ CW cy x la lv9 ls9 fa xh xs la2 lv92 ls92 fb fw bu ta rc re gb oc oe rs rc2 re2 gb2 oc2 oe2 rs2 rr ad T hz HZ len tx u) b u) (qB D cy [W0, [(xv, aI cy 20 (va))], [(xc, aI cy 45 (co))], [(xe, aI cy 9 (ed))], [(xd, aI cy 2 (dd))]] sz (fun u => [u, [(xv, aI cy 20 (va))], [(xc, aI cy 45 (co))], [(xe, aI cy 9 (ed))], [(xd, aI cy 2 (dd))]])) (va_A [W0, [(xv, aI cy 20 (va))], [(xc, aI cy 45 (co))], [(xe, aI cy 9 (ed))], [(xd, aI cy 2 (dd))]].flatten sz)) := by
  refine q_ofKz (S := va_W) (b1 := fun u => [u, [(xv, aI cy 20 (va))], [(xc, aI cy 45 (co))], [(xe, aI cy 9 (ed))], [(xd, aI cy 2 (dd))]]) (post := fun b u => b = true ∧ CW cy x la lv9 ls9 fa xh xs la2 lv92 ls92 fb fw bu ta rc re gb oc oe rs rc2 re2 gb2 oc2 oe2 rs2 rr ad T hz HZ len tx u) (by decide +kernel) (Nat.le_of_ble_eq_true rfl) ?_
  intro p e s m args below meth c Q A hx hb hml hown hg hQ hK hN hD hA H locs ls hP hS hl
  have hown : s.vm.findClass RL = some m.cls := hown
  have hl : lv_has ls 25 [(0, .ref (x)), (1, .int (qI (p1))), (2, .ref (xv)), (3, .ref (xc)), (4, .ref (xe)), (5, .ref (xd))] := hl
  obtain ⟨fsW, hfsW⟩ := CW_at hW
  have gC : qWR (lC T) (lN9 T) := hG.2.2.1.2
  have gE : qWR (lE T) (lM T) := hG.2.2.2.1.2
  have gV : qV (lV T) := hG.1
  have gD := hG.2.2.2.2.2
  have C9 := (fil_ok (but := -1) gE gC (by omega) (by omega)).1
  obtain ⟨hv, ht, hco, hed, hd0, hd1⟩ := hL
  refine q_bipush hx hb dL_told_0 (by decide) ?_
  refine qb_newI (N := 27) hx hb hg hK hP hD hS hA (by omega) (show 0 + 1 ≤ 8565 by omega) (show 0 + 27 ≤ 94394 by omega) dL_told_2 (fun q_2 H hP hD hS => ?_)
  have hP : va_P D vwCl [W0, [(xv, aI cy 20 (va))], [(xc, aI cy 45 (co))], [(xe, aI cy 9 (ed))], [(xd, aI cy 2 (dd))], [(q_2, aI cy 27 (fun _ => 0))]].flatten H := hP
  have hD : va_D A [W0, [(xv, aI cy 20 (va))], [(xc, aI cy 45 (co))], [(xe, aI cy 9 (ed))], [(xd, aI cy 2 (dd))], [(q_2, aI cy 27 (fun _ => 0))]].flatten := hD
  refine lv_astore (lv' := [(6, .ref (q_2)), (0, .ref (x)), (1, .int (qI (p1))), (2, .ref (xv)), (3, .ref (xc)), (4, .ref (xe)), (5, .ref (xd))]) hx hb dL_told_4 hl (by decide) rfl (fun ls hl => ?_)
  refine q_bipush hx hb dL_told_6 (by decide) ?_
  refine qb_newI (N := 8) hx hb hg hK hP hD hS hA (by omega) (show 1 + 1 ≤ 8565 by omega) (show 27 + 8 ≤ 94394 by omega) dL_told_8 (fun q_8 H hP hD hS => ?_)
  have hP : va_P D vwCl [W0, [(xv, aI cy 20 (va))], [(xc, aI cy 45 (co))], [(xe, aI cy 9 (ed))], [(xd, aI cy 2 (dd))], [(q_2, aI cy 27 (fun _ => 0))], [(q_8, aI cy 8 (fun _ => 0))]].flatten H := hP
  have hD : va_D A [W0, [(xv, aI cy 20 (va))], [(xc, aI cy 45 (co))], [(xe, aI cy 9 (ed))], [(xd, aI cy 2 (dd))], [(q_2, aI cy 27 (fun _ => 0))], [(q_8, aI cy 8 (fun _ => 0))]].flatten := hD
  refine lv_astore (lv' := [(7, .ref (q_8)), (6, .ref (q_2)), (0, .ref (x)), (1, .int (qI (p1))), (2, .ref (xv)), (3, .ref (xc)), (4, .ref (xe)), (5, .ref (xd))]) hx hb dL_told_10 hl (by decide) rfl (fun ls hl => ?_)
  refine q_bipush hx hb dL_told_12 (by decide) ?_
  refine qb_newI (N := 27) hx hb hg hK hP hD hS hA (by omega) (show 2 + 1 ≤ 8565 by omega) (show 35 + 27 ≤ 94394 by omega) dL_told_14 (fun q_14 H hP hD hS => ?_)
  have hP : va_P D vwCl [W0, [(xv, aI cy 20 (va))], [(xc, aI cy 45 (co))], [(xe, aI cy 9 (ed))], [(xd, aI cy 2 (dd))], [(q_2, aI cy 27 (fun _ => 0))], [(q_8, aI cy 8 (fun _ => 0))], [(q_14, aI cy 27 (fun _ => 0))]].flatten H := hP
  have hD : va_D A [W0, [(xv, aI cy 20 (va))], [(xc, aI cy 45 (co))], [(xe, aI cy 9 (ed))], [(xd, aI cy 2 (dd))], [(q_2, aI cy 27 (fun _ => 0))], [(q_8, aI cy 8 (fun _ => 0))], [(q_14, aI cy 27 (fun _ => 0))]].flatten := hD
  refine lv_astore (lv' := [(8, .ref (q_14)), (7, .ref (q_8)), (6, .ref (q_2)), (0, .ref (x)), (1, .int (qI (p1))), (2, .ref (xv)), (3, .ref (xc)), (4, .ref (xe)), (5, .ref (xd))]) hx hb dL_told_16 hl (by decide) rfl (fun ls hl => ?_)
  refine q_iconst hx hb dL_told_18 ?_
  refine qb_newI (N := 2) hx hb hg hK hP hD hS hA (by omega) (show 3 + 1 ≤ 8565 by omega) (show 62 + 2 ≤ 94394 by omega) dL_told_19 (fun q_19 H hP hD hS => ?_)
  have hP : va_P D vwCl [W0, [(xv, aI cy 20 (va))], [(xc, aI cy 45 (co))], [(xe, aI cy 9 (ed))], [(xd, aI cy 2 (dd))], [(q_2, aI cy 27 (fun _ => 0))], [(q_8, aI cy 8 (fun _ => 0))], [(q_14, aI cy 27 (fun _ => 0))], [(q_19, aI cy 2 (fun _ => 0))]].flatten H := hP
  have hD : va_D A [W0, [(xv, aI cy 20 (va))], [(xc, aI cy 45 (co))], [(xe, aI cy 9 (ed))], [(xd, aI cy 2 (dd))], [(q_2, aI cy 27 (fun _ => 0))], [(q_8, aI cy 8 (fun _ => 0))], [(q_14, aI cy 27 (fun _ => 0))], [(q_19, aI cy 2 (fun _ => 0))]].flatten := hD
  refine lv_astore (lv' := [(9, .ref (q_19)), (8, .ref (q_14)), (7, .ref (q_8)), (6, .ref (q_2)), (0, .ref (x)), (1, .int (qI (p1))), (2, .ref (xv)), (3, .ref (xc)), (4, .ref (xe)), (5, .ref (xd))]) hx hb dL_told_21 hl (by decide) rfl (fun ls hl => ?_)
  refine q_bipush hx hb dL_told_23 (by decide) ?_
  refine qb_newI (N := 64) hx hb hg hK hP hD hS hA (by omega) (show 4 + 1 ≤ 8565 by omega) (show 64 + 64 ≤ 94394 by omega) dL_told_25 (fun q_25 H hP hD hS => ?_)
  have hP : va_P D vwCl [W0, [(xv, aI cy 20 (va))], [(xc, aI cy 45 (co))], [(xe, aI cy 9 (ed))], [(xd, aI cy 2 (dd))], [(q_2, aI cy 27 (fun _ => 0))], [(q_8, aI cy 8 (fun _ => 0))], [(q_14, aI cy 27 (fun _ => 0))], [(q_19, aI cy 2 (fun _ => 0))], [(q_25, aI cy 64 (fun _ => 0))]].flatten H := hP
  have hD : va_D A [W0, [(xv, aI cy 20 (va))], [(xc, aI cy 45 (co))], [(xe, aI cy 9 (ed))], [(xd, aI cy 2 (dd))], [(q_2, aI cy 27 (fun _ => 0))], [(q_8, aI cy 8 (fun _ => 0))], [(q_14, aI cy 27 (fun _ => 0))], [(q_19, aI cy 2 (fun _ => 0))], [(q_25, aI cy 64 (fun _ => 0))]].flatten := hD
  refine lv_astore (lv' := [(10, .ref (q_25)), (9, .ref (q_19)), (8, .ref (q_14)), (7, .ref (q_8)), (6, .ref (q_2)), (0, .ref (x)), (1, .int (qI (p1))), (2, .ref (xv)), (3, .ref (xc)), (4, .ref (xe)), (5, .ref (xd))]) hx hb dL_told_27 hl (by decide) rfl (fun ls hl => ?_)
  refine q_bipush hx hb dL_told_29 (by decide) ?_
  refine qb_newI (N := 64) hx hb hg hK hP hD hS hA (by omega) (show 5 + 1 ≤ 8565 by omega) (show 128 + 64 ≤ 94394 by omega) dL_told_31 (fun q_31 H hP hD hS => ?_)
  have hP : va_P D vwCl [W0, [(xv, aI cy 20 (va))], [(xc, aI cy 45 (co))], [(xe, aI cy 9 (ed))], [(xd, aI cy 2 (dd))], [(q_2, aI cy 27 (fun _ => 0))], [(q_8, aI cy 8 (fun _ => 0))], [(q_14, aI cy 27 (fun _ => 0))], [(q_19, aI cy 2 (fun _ => 0))], [(q_25, aI cy 64 (fun _ => 0))], [(q_31, aI cy 64 (fun _ => 0))]].flatten H := hP
  have hD : va_D A [W0, [(xv, aI cy 20 (va))], [(xc, aI cy 45 (co))], [(xe, aI cy 9 (ed))], [(xd, aI cy 2 (dd))], [(q_2, aI cy 27 (fun _ => 0))], [(q_8, aI cy 8 (fun _ => 0))], [(q_14, aI cy 27 (fun _ => 0))], [(q_19, aI cy 2 (fun _ => 0))], [(q_25, aI cy 64 (fun _ => 0))], [(q_31, aI cy 64 (fun _ => 0))]].flatten := hD
  refine lv_astore (lv' := [(11, .ref (q_31)), (10, .ref (q_25)), (9, .ref (q_19)), (8, .ref (q_14)), (7, .ref (q_8)), (6, .ref (q_2)), (0, .ref (x)), (1, .int (qI (p1))), (2, .ref (xv)), (3, .ref (xc)), (4, .ref (xe)), (5, .ref (xd))]) hx hb dL_told_33 hl (by decide) rfl (fun ls hl => ?_)
  refine q_bipush hx hb dL_told_35 (by decide) ?_
  refine qb_newI (N := 64) hx hb hg hK hP hD hS hA (by omega) (show 6 + 1 ≤ 8565 by omega) (show 192 + 64 ≤ 94394 by omega) dL_told_37 (fun q_37 H hP hD hS => ?_)
  have hP : va_P D vwCl [W0, [(xv, aI cy 20 (va))], [(xc, aI cy 45 (co))], [(xe, aI cy 9 (ed))], [(xd, aI cy 2 (dd))], [(q_2, aI cy 27 (fun _ => 0))], [(q_8, aI cy 8 (fun _ => 0))], [(q_14, aI cy 27 (fun _ => 0))], [(q_19, aI cy 2 (fun _ => 0))], [(q_25, aI cy 64 (fun _ => 0))], [(q_31, aI cy 64 (fun _ => 0))], [(q_37, aI cy 64 (fun _ => 0))]].flatten H := hP
  have hD : va_D A [W0, [(xv, aI cy 20 (va))], [(xc, aI cy 45 (co))], [(xe, aI cy 9 (ed))], [(xd, aI cy 2 (dd))], [(q_2, aI cy 27 (fun _ => 0))], [(q_8, aI cy 8 (fun _ => 0))], [(q_14, aI cy 27 (fun _ => 0))], [(q_19, aI cy 2 (fun _ => 0))], [(q_25, aI cy 64 (fun _ => 0))], [(q_31, aI cy 64 (fun _ => 0))], [(q_37, aI cy 64 (fun _ => 0))]].flatten := hD
  refine lv_astore (lv' := [(12, .ref (q_37)), (11, .ref (q_31)), (10, .ref (q_25)), (9, .ref (q_19)), (8, .ref (q_14)), (7, .ref (q_8)), (6, .ref (q_2)), (0, .ref (x)), (1, .int (qI (p1))), (2, .ref (xv)), (3, .ref (xc)), (4, .ref (xe)), (5, .ref (xd))]) hx hb dL_told_39 hl (by decide) rfl (fun ls hl => ?_)
  refine q_iconst hx hb dL_told_41 ?_
  refine lv_istore (lv' := [(13, .int (qI (0))), (12, .ref (q_37)), (11, .ref (q_31)), (10, .ref (q_25)), (9, .ref (q_19)), (8, .ref (q_14)), (7, .ref (q_8)), (6, .ref (q_2)), (0, .ref (x)), (1, .int (qI (p1))), (2, .ref (xv)), (3, .ref (xc)), (4, .ref (xe)), (5, .ref (xd))]) hx hb dL_told_42 hl (by decide) rfl (fun ls hl => ?_)
  refine q_iconst hx hb dL_told_44 ?_
  refine lv_istore (lv' := [(14, .int (qI (0))), (13, .int (qI (0))), (12, .ref (q_37)), (11, .ref (q_31)), (10, .ref (q_25)), (9, .ref (q_19)), (8, .ref (q_14)), (7, .ref (q_8)), (6, .ref (q_2)), (0, .ref (x)), (1, .int (qI (p1))), (2, .ref (xv)), (3, .ref (xc)), (4, .ref (xe)), (5, .ref (xd))]) hx hb dL_told_45 hl (by decide) rfl (fun ls hl => ?_)
  refine q_iconst hx hb dL_told_47 ?_
  refine lv_istore (lv' := [(15, .int (qI (0))), (14, .int (qI (0))), (13, .int (qI (0))), (12, .ref (q_37)), (11, .ref (q_31)), (10, .ref (q_25)), (9, .ref (q_19)), (8, .ref (q_14)), (7, .ref (q_8)), (6, .ref (q_2)), (0, .ref (x)), (1, .int (qI (p1))), (2, .ref (xv)), (3, .ref (xc)), (4, .ref (xe)), (5, .ref (xd))]) hx hb dL_told_48 hl (by decide) rfl (fun ls hl => ?_)
  refine q_iconst hx hb dL_told_50 ?_
  refine lv_istore (lv' := [(16, .int (qI (0))), (15, .int (qI (0))), (14, .int (qI (0))), (13, .int (qI (0))), (12, .ref (q_37)), (11, .ref (q_31)), (10, .ref (q_25)), (9, .ref (q_19)), (8, .ref (q_14)), (7, .ref (q_8)), (6, .ref (q_2)), (0, .ref (x)), (1, .int (qI (p1))), (2, .ref (xv)), (3, .ref (xc)), (4, .ref (xe)), (5, .ref (xd))]) hx hb dL_told_51 hl (by decide) rfl (fun ls hl => ?_)
  refine q_iconst hx hb dL_told_53 ?_
  refine lv_istore (lv' := [(17, .int (qI (0))), (16, .int (qI (0))), (15, .int (qI (0))), (14, .int (qI (0))), (13, .int (qI (0))), (12, .ref (q_37)), (11, .ref (q_31)), (10, .ref (q_25)), (9, .ref (q_19)), (8, .ref (q_14)), (7, .ref (q_8)), (6, .ref (q_2)), (0, .ref (x)), (1, .int (qI (p1))), (2, .ref (xv)), (3, .ref (xc)), (4, .ref (xe)), (5, .ref (xd))]) hx hb dL_told_54 hl (by decide) rfl (fun ls hl => ?_)
  refine q_iconst hx hb dL_told_56 ?_
  refine lv_istore (lv' := [(18, .int (qI (0))), (17, .int (qI (0))), (16, .int (qI (0))), (15, .int (qI (0))), (14, .int (qI (0))), (13, .int (qI (0))), (12, .ref (q_37)), (11, .ref (q_31)), (10, .ref (q_25)), (9, .ref (q_19)), (8, .ref (q_14)), (7, .ref (q_8)), (6, .ref (q_2)), (0, .ref (x)), (1, .int (qI (p1))), (2, .ref (xv)), (3, .ref (xc)), (4, .ref (xe)), (5, .ref (xd))]) hx hb dL_told_57 hl (by decide) rfl (fun ls hl => ?_)
  refine q_iconst hx hb dL_told_59 ?_
  refine lv_aload_n hx hb dL_told_60 rfl (lv_at hl 16 rfl) ?_
  refine lv_aload hx hb dL_told_61 (lv_at hl 17 rfl) ?_
  refine lv_aload hx hb dL_told_63 (lv_at hl 18 rfl) ?_
  refine lv_aload hx hb dL_told_65 (lv_at hl 12 rfl) ?_
  refine lv_aload hx hb dL_told_67 (lv_at hl 11 rfl) ?_
  refine lv_aload hx hb dL_told_69 (lv_at hl 9 rfl) ?_
  refine lv_aload hx hb dL_told_71 (lv_at hl 8 rfl) ?_
  refine lv_aload hx hb dL_told_73 (lv_at hl 7 rfl) ?_
  refine lv_aload hx hb dL_told_75 (lv_at hl 6 rfl) ?_
  refine q_backKv (mc := 104) (ms := 1144) [2, 3, 4, 5, 6, 8, 9, 10, 11] [0, 1, 7] (br := [W0, [(xv, aI cy 20 (va))], [(q_14, aI cy 27 (fun _ => 0))]]) hP hD hS hA (va_runS (As := [.int (qI (-1)), .ref (xc), .ref (xe), .ref (xd), .ref (q_2), .ref (q_8), .ref (q_19), .ref (q_25), .ref (q_31), .ref (q_37)]) (rest := []) ⟨hx, hb, hml, hown, hg⟩ (c_L_all l D cy xc xe xd q_2 q_8 q_19 q_25 q_31 q_37 co ed dd (fun _ => 0) (fun _ => 0) ((fun _ => 0), (fun _ => 0), (fun _ => 0), (fun _ => 0)) (lC T) (lN9 T) (lE T) (lM T) gC gE hn (by omega) hco hed ⟨hd0, hd1⟩ 9 ⟨by omega, by omega⟩ (-1) (by omega) _) (cs_L_22 hg rfl rfl ⟨(Nat.le_of_ble_eq_true rfl), (Nat.le_of_ble_eq_true rfl)⟩) ⟨q_blind, q_preM _ hK hN hP hD [2, 3, 4, 5, 6, 8, 9, 10, 11] (by decide) rfl⟩ rfl rfl hl.1 rfl (lv_room (Nat.le_of_ble_eq_true rfl)) dL_told_77 ⟨(show 7 + 104 ≤ 8565 by omega), (show 256 + 1144 ≤ 94394 by omega)⟩) rfl rfl (by decide) (fun u_77 H locs h_77 hP hD hS => ?_)
  have hP : va_P D vwCl [W0, [(xv, aI cy 20 (va))], [(q_14, aI cy 27 (fun _ => 0))], [(xc, aI cy 45 (co))], [(xe, aI cy 9 (ed))], [(xd, aI cy 2 (dd))], [(q_2, aI cy 27 (u_77.1))], [(q_8, aI cy 8 (u_77.2.1))], [(q_19, aI cy 2 (u_77.2.2.1))], [(q_25, aI cy 64 (u_77.2.2.2.1))], [(q_31, aI cy 64 (u_77.2.2.2.2.1))], [(q_37, aI cy 64 (u_77.2.2.2.2.2))]].flatten H := hP
  have hD : va_D A [W0, [(xv, aI cy 20 (va))], [(q_14, aI cy 27 (fun _ => 0))], [(xc, aI cy 45 (co))], [(xe, aI cy 9 (ed))], [(xd, aI cy 2 (dd))], [(q_2, aI cy 27 (u_77.1))], [(q_8, aI cy 8 (u_77.2.1))], [(q_19, aI cy 2 (u_77.2.2.1))], [(q_25, aI cy 64 (u_77.2.2.2.1))], [(q_31, aI cy 64 (u_77.2.2.2.2.1))], [(q_37, aI cy 64 (u_77.2.2.2.2.2))]].flatten := hD
  obtain ⟨hP1, hP2, n, hn1, hn2, hR⟩ := h_77
  refine q_iconst hx hb dL_told_80 ?_
  refine lv_istore (lv' := [(19, .int (qI (0))), (18, .int (qI (0))), (17, .int (qI (0))), (16, .int (qI (0))), (15, .int (qI (0))), (14, .int (qI (0))), (13, .int (qI (0))), (12, .ref (q_37)), (11, .ref (q_31)), (10, .ref (q_25)), (9, .ref (q_19)), (8, .ref (q_14)), (7, .ref (q_8)), (6, .ref (q_2)), (0, .ref (x)), (1, .int (qI (p1))), (2, .ref (xv)), (3, .ref (xc)), (4, .ref (xe)), (5, .ref (xd))]) hx hb dL_told_81 hl (by decide) rfl (fun ls hl => ?_)
  have L_83 : ∀ (n_83 p9 : Nat) (W1 : va_W), p9 ≤ 10 → 10 + 1 ≤ p9 + n_83 → (CW cy x la lv9 ls9 fa xh xs la2 lv92 ls92 fb fw bu ta rc re gb oc oe rs rc2 re2 gb2 oc2 oe2 rs2 rr ad T hz HZ len tx W1) → ∀ (H : Heap) (locs : List Loc) (ls : Array Slot), va_P D vwCl [W1, [(xv, aI cy 20 (va))], [(xc, aI cy 45 (co))], [(xe, aI cy 9 (ed))], [(xd, aI cy 2 (dd))], [(q_2, aI cy 27 (u_77.1))], [(q_8, aI cy 8 (u_77.2.1))], [(q_14, aI cy 27 ((fun _ => 0)))], [(q_19, aI cy 2 (u_77.2.2.1))], [(q_25, aI cy 64 (u_77.2.2.2.1))], [(q_31, aI cy 64 (u_77.2.2.2.2.1))], [(q_37, aI cy 64 (u_77.2.2.2.2.2))]].flatten H → va_D A [W1, [(xv, aI cy 20 (va))], [(xc, aI cy 45 (co))], [(xe, aI cy 9 (ed))], [(xd, aI cy 2 (dd))], [(q_2, aI cy 27 (u_77.1))], [(q_8, aI cy 8 (u_77.2.1))], [(q_14, aI cy 27 ((fun _ => 0)))], [(q_19, aI cy 2 (u_77.2.2.1))], [(q_25, aI cy 64 (u_77.2.2.2.1))], [(q_31, aI cy 64 (u_77.2.2.2.2.1))], [(q_37, aI cy 64 (u_77.2.2.2.2.2))]].flatten → va_S A s.heap H locs → lv_has ls 25 [(0, .ref (x)), (1, .int (qI (p1))), (2, .ref (xv)), (3, .ref (xc)), (4, .ref (xe)), (5, .ref (xd)), (6, .ref (q_2)), (7, .ref (q_8)), (8, .ref (q_14)), (9, .ref (q_19)), (10, .ref (q_25)), (11, .ref (q_31)), (12, .ref (q_37)), (13, .int (qI (0))), (14, .int (qI (0))), (15, .int (qI (sumV (lV T) p9))), (16, .int (qI (((cnt (fixB (lC T) (lN9 T) (lE T) (lM T)) p9 : Nat) : Int)))), (17, .int (qI (widS (lC T) (lN9 T) (lE T) (lM T) p9))), (18, .int (qI (0))), (19, .int (qI (((p9 : Nat) : Int))))] → W p l e (qrc 8 8565 94394) s m args below meth c H locs (111 + 3 * p9) (1400 + 33 * p9) Q (F0 m 83 ls []) := by
    intro n_83
    induction n_83 with
    | zero => intro p9 _ h1 h2; exact absurd h2 (by omega)
    | succ n_83 ih_83 =>
      intro p9 W1 hk_83 hn_83 hW1 H locs ls hP hD hS hl
      obtain ⟨fsW1, hfsW1⟩ := CW_at hW1
      refine lv_iload hx hb dL_told_83 (lv_at hl 19 rfl) ?_
      refine q_bipush hx hb dL_told_85 (by decide) ?_
      refine q_icmp_ge (tgt := 384) hx hb dL_told_87 (by decide) (by omega) (fun c_87 => ?_) (fun c_87 => ?_)
      · skip
        refine q_iconst hx hb dL_told_384 ?_
        refine lv_istore (lv' := [(19, .int (qI (0))), (0, .ref (x)), (1, .int (qI (p1))), (2, .ref (xv)), (3, .ref (xc)), (4, .ref (xe)), (5, .ref (xd)), (6, .ref (q_2)), (7, .ref (q_8)), (8, .ref (q_14)), (9, .ref (q_19)), (10, .ref (q_25)), (11, .ref (q_31)), (12, .ref (q_37)), (13, .int (qI (0))), (14, .int (qI (0))), (15, .int (qI (sumV (lV T) p9))), (16, .int (qI (((cnt (fixB (lC T) (lN9 T) (lE T) (lM T)) p9 : Nat) : Int)))), (17, .int (qI (widS (lC T) (lN9 T) (lE T) (lM T) p9))), (18, .int (qI (0)))]) hx hb dL_told_385 hl (by decide) rfl (fun ls hl => ?_)
        have L_387 : ∀ (n_387 k4 : Nat) (W2 : va_W), k4 ≤ lM T → lM T + 1 ≤ k4 + n_387 → (CW cy x la lv9 ls9 fa xh xs la2 lv92 ls92 fb fw bu ta rc re gb oc oe rs rc2 re2 gb2 oc2 oe2 rs2 rr ad T hz HZ len tx W2) → ∀ (H : Heap) (locs : List Loc) (ls : Array Slot), va_P D vwCl [W2, [(xv, aI cy 20 (va))], [(xc, aI cy 45 (co))], [(xe, aI cy 9 (ed))], [(xd, aI cy 2 (dd))], [(q_2, aI cy 27 (u_77.1))], [(q_8, aI cy 8 (u_77.2.1))], [(q_14, aI cy 27 ((fun _ => 0)))], [(q_19, aI cy 2 (u_77.2.2.1))], [(q_25, aI cy 64 (u_77.2.2.2.1))], [(q_31, aI cy 64 (u_77.2.2.2.2.1))], [(q_37, aI cy 64 (u_77.2.2.2.2.2))]].flatten H → va_D A [W2, [(xv, aI cy 20 (va))], [(xc, aI cy 45 (co))], [(xe, aI cy 9 (ed))], [(xd, aI cy 2 (dd))], [(q_2, aI cy 27 (u_77.1))], [(q_8, aI cy 8 (u_77.2.1))], [(q_14, aI cy 27 ((fun _ => 0)))], [(q_19, aI cy 2 (u_77.2.2.1))], [(q_25, aI cy 64 (u_77.2.2.2.1))], [(q_31, aI cy 64 (u_77.2.2.2.2.1))], [(q_37, aI cy 64 (u_77.2.2.2.2.2))]].flatten → va_S A s.heap H locs → lv_has ls 25 [(0, .ref (x)), (1, .int (qI (p1))), (2, .ref (xv)), (3, .ref (xc)), (4, .ref (xe)), (5, .ref (xd)), (6, .ref (q_2)), (7, .ref (q_8)), (8, .ref (q_14)), (9, .ref (q_19)), (10, .ref (q_25)), (11, .ref (q_31)), (12, .ref (q_37)), (13, .int (qI (0))), (14, .int (qI (0))), (15, .int (qI (sumV (lV T) p9))), (16, .int (qI (((cnt (fixB (lC T) (lN9 T) (lE T) (lM T)) p9 : Nat) : Int)))), (17, .int (qI (widS (lC T) (lN9 T) (lE T) (lM T) p9))), (18, .int (qI (((cnt (fOE (fil (lC T) (lN9 T) (lE T) (lM T) (-1))) k4 : Nat) : Int)))), (19, .int (qI (((k4 : Nat) : Int))))] → W p l e (qrc 8 8565 94394) s m args below meth c H locs (141) (1730) Q (F0 m 387 ls []) := by
          intro n_387
          induction n_387 with
          | zero => intro k4 _ h1 h2; exact absurd h2 (by omega)
          | succ n_387 ih_387 =>
            intro k4 W2 hk_387 hn_387 hW2 H locs ls hP hD hS hl
            obtain ⟨fsW2, hfsW2⟩ := CW_at hW2
            refine lv_iload hx hb dL_told_387 (lv_at hl 19 rfl) ?_
            refine lv_aload hx hb dL_told_389 (lv_at hl 5 rfl) ?_
            refine q_iconst hx hb dL_told_391 ?_
            refine q_iald (j := 1) hx hb hK (fl_blk hP 4 rfl) 0 rfl (by omega) dL_told_392 ?_
            refine q_icmp_ge (tgt := 490) hx hb dL_told_393 (by decide) (by omega) (fun c_393 => ?_) (fun c_393 => ?_)
            · skip
              refine q_iconst hx hb dL_told_490 ?_
              refine lv_istore (lv' := [(19, .int (qI (0))), (0, .ref (x)), (1, .int (qI (p1))), (2, .ref (xv)), (3, .ref (xc)), (4, .ref (xe)), (5, .ref (xd)), (6, .ref (q_2)), (7, .ref (q_8)), (8, .ref (q_14)), (9, .ref (q_19)), (10, .ref (q_25)), (11, .ref (q_31)), (12, .ref (q_37)), (13, .int (qI (0))), (14, .int (qI (0))), (15, .int (qI (sumV (lV T) p9))), (16, .int (qI (((cnt (fixB (lC T) (lN9 T) (lE T) (lM T)) p9 : Nat) : Int)))), (17, .int (qI (widS (lC T) (lN9 T) (lE T) (lM T) p9))), (18, .int (qI (((cnt (fOE (fil (lC T) (lN9 T) (lE T) (lM T) (-1))) k4 : Nat) : Int))))]) hx hb dL_told_491 hl (by decide) rfl (fun ls hl => ?_)
              have L_493 : ∀ (n_493 k5 : Nat) (W4 : va_W) (f8 : Nat → Int) (g8 : Nat → Int) (u8 : L4), k5 ≤ lN9 T → lN9 T + 1 ≤ k5 + n_493 → (CW cy x la lv9 ls9 fa xh xs la2 lv92 ls92 fb fw bu ta rc re gb oc oe rs rc2 re2 gb2 oc2 oe2 rs2 rr ad T hz HZ len tx W4) → ∀ (H : Heap) (locs : List Loc) (ls : Array Slot), va_P D vwCl [W4, [(xv, aI cy 20 (va))], [(xc, aI cy 45 (co))], [(xe, aI cy 9 (ed))], [(xd, aI cy 2 (dd))], [(q_2, aI cy 27 (u_77.1))], [(q_8, aI cy 8 (g8))], [(q_14, aI cy 27 (f8))], [(q_19, aI cy 2 (u8.1))], [(q_25, aI cy 64 (u8.2.1))], [(q_31, aI cy 64 (u8.2.2.1))], [(q_37, aI cy 64 (u8.2.2.2))]].flatten H → va_D A [W4, [(xv, aI cy 20 (va))], [(xc, aI cy 45 (co))], [(xe, aI cy 9 (ed))], [(xd, aI cy 2 (dd))], [(q_2, aI cy 27 (u_77.1))], [(q_8, aI cy 8 (g8))], [(q_14, aI cy 27 (f8))], [(q_19, aI cy 2 (u8.1))], [(q_25, aI cy 64 (u8.2.1))], [(q_31, aI cy 64 (u8.2.2.1))], [(q_37, aI cy 64 (u8.2.2.2))]].flatten → va_S A s.heap H locs → lv_has ls 25 [(0, .ref (x)), (1, .int (qI (p1))), (2, .ref (xv)), (3, .ref (xc)), (4, .ref (xe)), (5, .ref (xd)), (6, .ref (q_2)), (7, .ref (q_8)), (8, .ref (q_14)), (9, .ref (q_19)), (10, .ref (q_25)), (11, .ref (q_31)), (12, .ref (q_37)), (13, .int (qI (((cnt (fOC (fil (lC T) (lN9 T) (lE T) (lM T) (-1))) k5 : Nat) : Int)))), (14, .int (qI (((cnt (hoB (lV T) (lC T)) k5 : Nat) : Int)))), (15, .int (qI (sumV (lV T) p9))), (16, .int (qI (((cnt (fixB (lC T) (lN9 T) (lE T) (lM T)) p9 : Nat) : Int)))), (17, .int (qI (widS (lC T) (lN9 T) (lE T) (lM T) p9))), (18, .int (qI (((cnt (fOE (fil (lC T) (lN9 T) (lE T) (lM T) (-1))) k4 : Nat) : Int)))), (19, .int (qI (((k5 : Nat) : Int))))] → W p l e (qrc 8 8565 94394) s m args below meth c H locs (141 + 936 * k5) (1730 + 10296 * k5) Q (F0 m 493 ls []) := by
                intro n_493
                induction n_493 with
                | zero => intro k5 _ _ _ _ h1 h2; exact absurd h2 (by omega)
                | succ n_493 ih_493 =>
                  intro k5 W4 f8 g8 u8 hk_493 hn_493 hW4 H locs ls hP hD hS hl
                  obtain ⟨fsW4, hfsW4⟩ := CW_at hW4
                  refine lv_iload hx hb dL_told_493 (lv_at hl 19 rfl) ?_
                  refine lv_aload hx hb dL_told_495 (lv_at hl 5 rfl) ?_
                  refine q_iconst hx hb dL_told_497 ?_
                  refine q_iald (j := 0) hx hb hK (fl_blk hP 4 rfl) 0 rfl (by omega) dL_told_498 ?_
                  refine q_icmp_ge (tgt := 811) hx hb dL_told_499 (by decide) (by omega) (fun c_499 => ?_) (fun c_499 => ?_)
                  · skip
                    have wr9 := wid_rng hG 10 (by omega)
                    have fr9 := fr_use (w := (widS (lC T) (lN9 T) (lE T) (lM T) 10).toNat) (by omega)
                    rw [show (((widS (lC T) (lN9 T) (lE T) (lM T) 10).toNat : Nat) : Int) = widS (lC T) (lN9 T) (lE T) (lM T) 10 by omega] at fr9
                    refine lv_aload_n hx hb dL_told_811 rfl (lv_at hl 0 rfl) ?_
                    refine q_backf [0] [1, 2, 3, 4, 5, 6, 7, 8, 9, 10, 11] (br := [[(xv, aI cy 20 (va))], [(xc, aI cy 45 (co))], [(xe, aI cy 9 (ed))], [(xd, aI cy 2 (dd))], [(q_2, aI cy 27 (u_77.1))], [(q_8, aI cy 8 (g8))], [(q_14, aI cy 27 (f8))], [(q_19, aI cy 2 (u8.1))], [(q_25, aI cy 64 (u8.2.1))], [(q_31, aI cy 64 (u8.2.2.1))], [(q_37, aI cy 64 (u8.2.2.2))]]) hP hD hS hA (va_runV (As := []) (rest := []) ⟨hx, hb, hml, hown, hg⟩ (c_X7_freedomW l D cy x la lv9 ls9 fa xh xs la2 lv92 ls92 fb fw bu ta rc re gb oc oe rs rc2 re2 gb2 oc2 oe2 rs2 rr ad T hz HZ len tx _ hG hW4 _) (cv_L_52 hg rfl rfl ⟨(Nat.le_of_ble_eq_true rfl), (Nat.le_of_ble_eq_true rfl)⟩) ⟨q_blind, va_recv hK (fl_blk hP 0 rfl) (ci := 7) (q0 := 0) rfl hfsW4, q_preM _ hK hN hP hD [0] (by decide) rfl⟩ rfl rfl hl.1 rfl (lv_room (Nat.le_of_ble_eq_true rfl)) dL_told_812 ⟨(show 141 + 936 * k5 + 0 ≤ 8565 by omega), (show 1730 + 10296 * k5 + 0 ≤ 94394 by omega)⟩) rfl rfl (by decide) (fun r_812 u_812 H locs h_812 hP hD hS => ?_)
                    have hP : va_P D vwCl [[(xv, aI cy 20 (va))], [(xc, aI cy 45 (co))], [(xe, aI cy 9 (ed))], [(xd, aI cy 2 (dd))], [(q_2, aI cy 27 (u_77.1))], [(q_8, aI cy 8 (g8))], [(q_14, aI cy 27 (f8))], [(q_19, aI cy 2 (u8.1))], [(q_25, aI cy 64 (u8.2.1))], [(q_31, aI cy 64 (u8.2.2.1))], [(q_37, aI cy 64 (u8.2.2.2))], u_812].flatten H := hP
                    have hD : va_D A [[(xv, aI cy 20 (va))], [(xc, aI cy 45 (co))], [(xe, aI cy 9 (ed))], [(xd, aI cy 2 (dd))], [(q_2, aI cy 27 (u_77.1))], [(q_8, aI cy 8 (g8))], [(q_14, aI cy 27 (f8))], [(q_19, aI cy 2 (u8.1))], [(q_25, aI cy 64 (u8.2.1))], [(q_31, aI cy 64 (u8.2.2.1))], [(q_37, aI cy 64 (u8.2.2.2))], u_812].flatten := hD
                    obtain ⟨rfl, h_812⟩ := h_812
                    obtain ⟨fs_812, hfs_812⟩ := CW_at h_812
                    refine lv_fconst1 hx hb dL_told_815 ?_
                    refine q_top (v2 := .float 1065353216) (congrArg Value.float fc1) ?_
                    refine lv_iload hx hb dL_told_816 (lv_at hl 17 rfl) ?_
                    refine q_topZ (y := widS (lC T) (lN9 T) (lE T) (lM T) 10) (by rw [show p9 = 10 by omega]) ?_
                    refine lv_i2f hx hb dL_told_818 ?_
                    refine lv_fmul hx hb dL_told_819 fr9.1 ?_
                    refine q_top (v2 := .float (FP.i2f (qI (widS (lC T) (lN9 T) (lE T) (lM T) 10)))) (congrArg Value.float fr9.2.1) ?_
                    refine lv_ldcf hx hb hown (hg _ m_377) dL_told_820 ?_
                    refine lv_fdiv hx hb dL_told_822 fr9.2.2.1 ?_
                    refine lv_fcmp hx hb dL_told_823 ?_
                    refine q_top (v2 := .int (qI 0)) (congrArg Value.int fr9.2.2.2.2.2.1) ?_
                    refine q_if_eq (tgt := 829) hx hb dL_told_824 (by decide) (by omega) (fun c_824 => ?_) (fun c_824 => ?_)
                    · skip
                      refine lv_aload_n hx hb dL_told_829 rfl (lv_at hl 0 rfl) ?_
                      refine q_iconst hx hb dL_told_830 ?_
                      refine q_backKi (mc := 0) (ms := 0) [11] [0, 1, 2, 3, 4, 5, 6, 7, 8, 9, 10] (br := [[(xv, aI cy 20 (va))], [(xc, aI cy 45 (co))], [(xe, aI cy 9 (ed))], [(xd, aI cy 2 (dd))], [(q_2, aI cy 27 (u_77.1))], [(q_8, aI cy 8 (g8))], [(q_14, aI cy 27 (f8))], [(q_19, aI cy 2 (u8.1))], [(q_25, aI cy 64 (u8.2.1))], [(q_31, aI cy 64 (u8.2.2.1))], [(q_37, aI cy 64 (u8.2.2.2))]]) hP hD hS hA (va_runV (As := [.int (qI (0))]) (rest := []) ⟨hx, hb, hml, hown, hg⟩ (c_X7_count l D cy x la lv9 ls9 fa xh xs la2 lv92 ls92 fb fw bu ta rc re gb oc oe rs rc2 re2 gb2 oc2 oe2 rs2 rr ad T hz HZ len tx _ hG h_812 _ (by omega) _) (cv_L_57 hg rfl rfl ⟨(Nat.le_of_ble_eq_true rfl), (Nat.le_of_ble_eq_true rfl)⟩) ⟨q_blind, va_recv hK (fl_blk hP 11 rfl) (ci := 7) (q0 := 0) rfl hfs_812, q_preM _ hK hN hP hD [11] (by decide) rfl⟩ rfl rfl hl.1 rfl (lv_room (Nat.le_of_ble_eq_true rfl)) dL_told_831 ⟨(show 141 + 936 * k5 + 0 ≤ 8565 by omega), (show 1730 + 10296 * k5 + 0 ≤ 94394 by omega)⟩) rfl rfl (by decide) (fun r_831 u_831 H locs h_831 hP hD hS => ?_)
                      have hP : va_P D vwCl [[(xv, aI cy 20 (va))], [(xc, aI cy 45 (co))], [(xe, aI cy 9 (ed))], [(xd, aI cy 2 (dd))], [(q_2, aI cy 27 (u_77.1))], [(q_8, aI cy 8 (g8))], [(q_14, aI cy 27 (f8))], [(q_19, aI cy 2 (u8.1))], [(q_25, aI cy 64 (u8.2.1))], [(q_31, aI cy 64 (u8.2.2.1))], [(q_37, aI cy 64 (u8.2.2.2))], u_831].flatten H := hP
                      have hD : va_D A [[(xv, aI cy 20 (va))], [(xc, aI cy 45 (co))], [(xe, aI cy 9 (ed))], [(xd, aI cy 2 (dd))], [(q_2, aI cy 27 (u_77.1))], [(q_8, aI cy 8 (g8))], [(q_14, aI cy 27 (f8))], [(q_19, aI cy 2 (u8.1))], [(q_25, aI cy 64 (u8.2.1))], [(q_31, aI cy 64 (u8.2.2.1))], [(q_37, aI cy 64 (u8.2.2.2))], u_831].flatten := hD
                      obtain ⟨rfl, h_831⟩ := h_831
                      obtain ⟨fs_831, hfs_831⟩ := CW_at h_831
                      refine lv_aload hx hb dL_told_834 (lv_at hl 5 rfl) ?_
                      refine q_iconst hx hb dL_told_836 ?_
                      refine q_iald (j := 0) hx hb hK (fl_blk hP 3 rfl) 0 rfl (by omega) dL_told_837 ?_
                      refine q_ne0 (tgt := 909) hx hb dL_told_838 (by decide) ((ct_0 T hz).trans hd0.symm) ?_
                      refine lv_aload_n hx hb dL_told_841 rfl (lv_at hl 0 rfl) ?_
                      refine q_iconst hx hb dL_told_842 ?_
                      refine q_backKi (mc := 0) (ms := 0) [11] [0, 1, 2, 3, 4, 5, 6, 7, 8, 9, 10] (br := [[(xv, aI cy 20 (va))], [(xc, aI cy 45 (co))], [(xe, aI cy 9 (ed))], [(xd, aI cy 2 (dd))], [(q_2, aI cy 27 (u_77.1))], [(q_8, aI cy 8 (g8))], [(q_14, aI cy 27 (f8))], [(q_19, aI cy 2 (u8.1))], [(q_25, aI cy 64 (u8.2.1))], [(q_31, aI cy 64 (u8.2.2.1))], [(q_37, aI cy 64 (u8.2.2.2))]]) hP hD hS hA (va_runV (As := [.int (qI (1))]) (rest := []) ⟨hx, hb, hml, hown, hg⟩ (c_X7_count l D cy x la lv9 ls9 fa xh xs la2 lv92 ls92 fb fw bu ta rc re gb oc oe rs rc2 re2 gb2 oc2 oe2 rs2 rr ad T hz HZ len tx _ hG h_831 _ (by omega) _) (cv_L_57 hg rfl rfl ⟨(Nat.le_of_ble_eq_true rfl), (Nat.le_of_ble_eq_true rfl)⟩) ⟨q_blind, va_recv hK (fl_blk hP 11 rfl) (ci := 7) (q0 := 0) rfl hfs_831, q_preM _ hK hN hP hD [11] (by decide) rfl⟩ rfl rfl hl.1 rfl (lv_room (Nat.le_of_ble_eq_true rfl)) dL_told_843 ⟨(show 141 + 936 * k5 + 0 ≤ 8565 by omega), (show 1730 + 10296 * k5 + 0 ≤ 94394 by omega)⟩) rfl rfl (by decide) (fun r_843 u_843 H locs h_843 hP hD hS => ?_)
                      have hP : va_P D vwCl [[(xv, aI cy 20 (va))], [(xc, aI cy 45 (co))], [(xe, aI cy 9 (ed))], [(xd, aI cy 2 (dd))], [(q_2, aI cy 27 (u_77.1))], [(q_8, aI cy 8 (g8))], [(q_14, aI cy 27 (f8))], [(q_19, aI cy 2 (u8.1))], [(q_25, aI cy 64 (u8.2.1))], [(q_31, aI cy 64 (u8.2.2.1))], [(q_37, aI cy 64 (u8.2.2.2))], u_843].flatten H := hP
                      have hD : va_D A [[(xv, aI cy 20 (va))], [(xc, aI cy 45 (co))], [(xe, aI cy 9 (ed))], [(xd, aI cy 2 (dd))], [(q_2, aI cy 27 (u_77.1))], [(q_8, aI cy 8 (g8))], [(q_14, aI cy 27 (f8))], [(q_19, aI cy 2 (u8.1))], [(q_25, aI cy 64 (u8.2.1))], [(q_31, aI cy 64 (u8.2.2.1))], [(q_37, aI cy 64 (u8.2.2.2))], u_843].flatten := hD
                      obtain ⟨rfl, h_843⟩ := h_843
                      obtain ⟨fs_843, hfs_843⟩ := CW_at h_843
                      refine lv_iload hx hb dL_told_846 (lv_at hl 13 rfl) ?_
                      refine q_ne0 (tgt := 909) hx hb dL_told_848 (by decide) ((ct_1 T hz (by omega)).trans (by rw [show k5 = lN9 T by omega])) ?_
                      refine lv_aload_n hx hb dL_told_851 rfl (lv_at hl 0 rfl) ?_
                      refine q_iconst hx hb dL_told_852 ?_
                      refine q_backKi (mc := 0) (ms := 0) [11] [0, 1, 2, 3, 4, 5, 6, 7, 8, 9, 10] (br := [[(xv, aI cy 20 (va))], [(xc, aI cy 45 (co))], [(xe, aI cy 9 (ed))], [(xd, aI cy 2 (dd))], [(q_2, aI cy 27 (u_77.1))], [(q_8, aI cy 8 (g8))], [(q_14, aI cy 27 (f8))], [(q_19, aI cy 2 (u8.1))], [(q_25, aI cy 64 (u8.2.1))], [(q_31, aI cy 64 (u8.2.2.1))], [(q_37, aI cy 64 (u8.2.2.2))]]) hP hD hS hA (va_runV (As := [.int (qI (2))]) (rest := []) ⟨hx, hb, hml, hown, hg⟩ (c_X7_count l D cy x la lv9 ls9 fa xh xs la2 lv92 ls92 fb fw bu ta rc re gb oc oe rs rc2 re2 gb2 oc2 oe2 rs2 rr ad T hz HZ len tx _ hG h_843 _ (by omega) _) (cv_L_57 hg rfl rfl ⟨(Nat.le_of_ble_eq_true rfl), (Nat.le_of_ble_eq_true rfl)⟩) ⟨q_blind, va_recv hK (fl_blk hP 11 rfl) (ci := 7) (q0 := 0) rfl hfs_843, q_preM _ hK hN hP hD [11] (by decide) rfl⟩ rfl rfl hl.1 rfl (lv_room (Nat.le_of_ble_eq_true rfl)) dL_told_853 ⟨(show 141 + 936 * k5 + 0 ≤ 8565 by omega), (show 1730 + 10296 * k5 + 0 ≤ 94394 by omega)⟩) rfl rfl (by decide) (fun r_853 u_853 H locs h_853 hP hD hS => ?_)
                      have hP : va_P D vwCl [[(xv, aI cy 20 (va))], [(xc, aI cy 45 (co))], [(xe, aI cy 9 (ed))], [(xd, aI cy 2 (dd))], [(q_2, aI cy 27 (u_77.1))], [(q_8, aI cy 8 (g8))], [(q_14, aI cy 27 (f8))], [(q_19, aI cy 2 (u8.1))], [(q_25, aI cy 64 (u8.2.1))], [(q_31, aI cy 64 (u8.2.2.1))], [(q_37, aI cy 64 (u8.2.2.2))], u_853].flatten H := hP
                      have hD : va_D A [[(xv, aI cy 20 (va))], [(xc, aI cy 45 (co))], [(xe, aI cy 9 (ed))], [(xd, aI cy 2 (dd))], [(q_2, aI cy 27 (u_77.1))], [(q_8, aI cy 8 (g8))], [(q_14, aI cy 27 (f8))], [(q_19, aI cy 2 (u8.1))], [(q_25, aI cy 64 (u8.2.1))], [(q_31, aI cy 64 (u8.2.2.1))], [(q_37, aI cy 64 (u8.2.2.2))], u_853].flatten := hD
                      obtain ⟨rfl, h_853⟩ := h_853
                      obtain ⟨fs_853, hfs_853⟩ := CW_at h_853
                      refine lv_aload hx hb dL_told_856 (lv_at hl 5 rfl) ?_
                      refine q_iconst hx hb dL_told_858 ?_
                      refine q_iald (j := 1) hx hb hK (fl_blk hP 3 rfl) 0 rfl (by omega) dL_told_859 ?_
                      refine q_ne0 (tgt := 909) hx hb dL_told_860 (by decide) ((ct_2 T hz).trans hd1.symm) ?_
                      refine lv_aload_n hx hb dL_told_863 rfl (lv_at hl 0 rfl) ?_
                      refine q_iconst hx hb dL_told_864 ?_
                      refine q_backKi (mc := 0) (ms := 0) [11] [0, 1, 2, 3, 4, 5, 6, 7, 8, 9, 10] (br := [[(xv, aI cy 20 (va))], [(xc, aI cy 45 (co))], [(xe, aI cy 9 (ed))], [(xd, aI cy 2 (dd))], [(q_2, aI cy 27 (u_77.1))], [(q_8, aI cy 8 (g8))], [(q_14, aI cy 27 (f8))], [(q_19, aI cy 2 (u8.1))], [(q_25, aI cy 64 (u8.2.1))], [(q_31, aI cy 64 (u8.2.2.1))], [(q_37, aI cy 64 (u8.2.2.2))]]) hP hD hS hA (va_runV (As := [.int (qI (3))]) (rest := []) ⟨hx, hb, hml, hown, hg⟩ (c_X7_count l D cy x la lv9 ls9 fa xh xs la2 lv92 ls92 fb fw bu ta rc re gb oc oe rs rc2 re2 gb2 oc2 oe2 rs2 rr ad T hz HZ len tx _ hG h_853 _ (by omega) _) (cv_L_57 hg rfl rfl ⟨(Nat.le_of_ble_eq_true rfl), (Nat.le_of_ble_eq_true rfl)⟩) ⟨q_blind, va_recv hK (fl_blk hP 11 rfl) (ci := 7) (q0 := 0) rfl hfs_853, q_preM _ hK hN hP hD [11] (by decide) rfl⟩ rfl rfl hl.1 rfl (lv_room (Nat.le_of_ble_eq_true rfl)) dL_told_865 ⟨(show 141 + 936 * k5 + 0 ≤ 8565 by omega), (show 1730 + 10296 * k5 + 0 ≤ 94394 by omega)⟩) rfl rfl (by decide) (fun r_865 u_865 H locs h_865 hP hD hS => ?_)
                      have hP : va_P D vwCl [[(xv, aI cy 20 (va))], [(xc, aI cy 45 (co))], [(xe, aI cy 9 (ed))], [(xd, aI cy 2 (dd))], [(q_2, aI cy 27 (u_77.1))], [(q_8, aI cy 8 (g8))], [(q_14, aI cy 27 (f8))], [(q_19, aI cy 2 (u8.1))], [(q_25, aI cy 64 (u8.2.1))], [(q_31, aI cy 64 (u8.2.2.1))], [(q_37, aI cy 64 (u8.2.2.2))], u_865].flatten H := hP
                      have hD : va_D A [[(xv, aI cy 20 (va))], [(xc, aI cy 45 (co))], [(xe, aI cy 9 (ed))], [(xd, aI cy 2 (dd))], [(q_2, aI cy 27 (u_77.1))], [(q_8, aI cy 8 (g8))], [(q_14, aI cy 27 (f8))], [(q_19, aI cy 2 (u8.1))], [(q_25, aI cy 64 (u8.2.1))], [(q_31, aI cy 64 (u8.2.2.1))], [(q_37, aI cy 64 (u8.2.2.2))], u_865].flatten := hD
                      obtain ⟨rfl, h_865⟩ := h_865
                      obtain ⟨fs_865, hfs_865⟩ := CW_at h_865
                      refine lv_iload hx hb dL_told_868 (lv_at hl 18 rfl) ?_
                      refine q_ne0 (tgt := 909) hx hb dL_told_870 (by decide) ((ct_3 T hz (by omega)).trans (by rw [show k4 = lM T by omega])) ?_
                      refine lv_aload_n hx hb dL_told_873 rfl (lv_at hl 0 rfl) ?_
                      refine q_iconst hx hb dL_told_874 ?_
                      refine q_backKi (mc := 0) (ms := 0) [11] [0, 1, 2, 3, 4, 5, 6, 7, 8, 9, 10] (br := [[(xv, aI cy 20 (va))], [(xc, aI cy 45 (co))], [(xe, aI cy 9 (ed))], [(xd, aI cy 2 (dd))], [(q_2, aI cy 27 (u_77.1))], [(q_8, aI cy 8 (g8))], [(q_14, aI cy 27 (f8))], [(q_19, aI cy 2 (u8.1))], [(q_25, aI cy 64 (u8.2.1))], [(q_31, aI cy 64 (u8.2.2.1))], [(q_37, aI cy 64 (u8.2.2.2))]]) hP hD hS hA (va_runV (As := [.int (qI (5))]) (rest := []) ⟨hx, hb, hml, hown, hg⟩ (c_X7_count l D cy x la lv9 ls9 fa xh xs la2 lv92 ls92 fb fw bu ta rc re gb oc oe rs rc2 re2 gb2 oc2 oe2 rs2 rr ad T hz HZ len tx _ hG h_865 _ (by omega) _) (cv_L_57 hg rfl rfl ⟨(Nat.le_of_ble_eq_true rfl), (Nat.le_of_ble_eq_true rfl)⟩) ⟨q_blind, va_recv hK (fl_blk hP 11 rfl) (ci := 7) (q0 := 0) rfl hfs_865, q_preM _ hK hN hP hD [11] (by decide) rfl⟩ rfl rfl hl.1 rfl (lv_room (Nat.le_of_ble_eq_true rfl)) dL_told_875 ⟨(show 141 + 936 * k5 + 0 ≤ 8565 by omega), (show 1730 + 10296 * k5 + 0 ≤ 94394 by omega)⟩) rfl rfl (by decide) (fun r_875 u_875 H locs h_875 hP hD hS => ?_)
                      have hP : va_P D vwCl [[(xv, aI cy 20 (va))], [(xc, aI cy 45 (co))], [(xe, aI cy 9 (ed))], [(xd, aI cy 2 (dd))], [(q_2, aI cy 27 (u_77.1))], [(q_8, aI cy 8 (g8))], [(q_14, aI cy 27 (f8))], [(q_19, aI cy 2 (u8.1))], [(q_25, aI cy 64 (u8.2.1))], [(q_31, aI cy 64 (u8.2.2.1))], [(q_37, aI cy 64 (u8.2.2.2))], u_875].flatten H := hP
                      have hD : va_D A [[(xv, aI cy 20 (va))], [(xc, aI cy 45 (co))], [(xe, aI cy 9 (ed))], [(xd, aI cy 2 (dd))], [(q_2, aI cy 27 (u_77.1))], [(q_8, aI cy 8 (g8))], [(q_14, aI cy 27 (f8))], [(q_19, aI cy 2 (u8.1))], [(q_25, aI cy 64 (u8.2.1))], [(q_31, aI cy 64 (u8.2.2.1))], [(q_37, aI cy 64 (u8.2.2.2))], u_875].flatten := hD
                      obtain ⟨rfl, h_875⟩ := h_875
                      obtain ⟨fs_875, hfs_875⟩ := CW_at h_875
                      refine lv_iload hx hb dL_told_878 (lv_at hl 16 rfl) ?_
                      refine q_ne0 (tgt := 909) hx hb dL_told_880 (by decide) ((ct_5 T hz).trans (by rw [show p9 = 10 by omega])) ?_
                      refine lv_aload_n hx hb dL_told_883 rfl (lv_at hl 0 rfl) ?_
                      refine q_bipush hx hb dL_told_884 (by decide) ?_
                      refine q_backKi (mc := 0) (ms := 0) [11] [0, 1, 2, 3, 4, 5, 6, 7, 8, 9, 10] (br := [[(xv, aI cy 20 (va))], [(xc, aI cy 45 (co))], [(xe, aI cy 9 (ed))], [(xd, aI cy 2 (dd))], [(q_2, aI cy 27 (u_77.1))], [(q_8, aI cy 8 (g8))], [(q_14, aI cy 27 (f8))], [(q_19, aI cy 2 (u8.1))], [(q_25, aI cy 64 (u8.2.1))], [(q_31, aI cy 64 (u8.2.2.1))], [(q_37, aI cy 64 (u8.2.2.2))]]) hP hD hS hA (va_runV (As := [.int (qI (6))]) (rest := []) ⟨hx, hb, hml, hown, hg⟩ (c_X7_count l D cy x la lv9 ls9 fa xh xs la2 lv92 ls92 fb fw bu ta rc re gb oc oe rs rc2 re2 gb2 oc2 oe2 rs2 rr ad T hz HZ len tx _ hG h_875 _ (by omega) _) (cv_L_57 hg rfl rfl ⟨(Nat.le_of_ble_eq_true rfl), (Nat.le_of_ble_eq_true rfl)⟩) ⟨q_blind, va_recv hK (fl_blk hP 11 rfl) (ci := 7) (q0 := 0) rfl hfs_875, q_preM _ hK hN hP hD [11] (by decide) rfl⟩ rfl rfl hl.1 rfl (lv_room (Nat.le_of_ble_eq_true rfl)) dL_told_886 ⟨(show 141 + 936 * k5 + 0 ≤ 8565 by omega), (show 1730 + 10296 * k5 + 0 ≤ 94394 by omega)⟩) rfl rfl (by decide) (fun r_886 u_886 H locs h_886 hP hD hS => ?_)
                      have hP : va_P D vwCl [[(xv, aI cy 20 (va))], [(xc, aI cy 45 (co))], [(xe, aI cy 9 (ed))], [(xd, aI cy 2 (dd))], [(q_2, aI cy 27 (u_77.1))], [(q_8, aI cy 8 (g8))], [(q_14, aI cy 27 (f8))], [(q_19, aI cy 2 (u8.1))], [(q_25, aI cy 64 (u8.2.1))], [(q_31, aI cy 64 (u8.2.2.1))], [(q_37, aI cy 64 (u8.2.2.2))], u_886].flatten H := hP
                      have hD : va_D A [[(xv, aI cy 20 (va))], [(xc, aI cy 45 (co))], [(xe, aI cy 9 (ed))], [(xd, aI cy 2 (dd))], [(q_2, aI cy 27 (u_77.1))], [(q_8, aI cy 8 (g8))], [(q_14, aI cy 27 (f8))], [(q_19, aI cy 2 (u8.1))], [(q_25, aI cy 64 (u8.2.1))], [(q_31, aI cy 64 (u8.2.2.1))], [(q_37, aI cy 64 (u8.2.2.2))], u_886].flatten := hD
                      obtain ⟨rfl, h_886⟩ := h_886
                      obtain ⟨fs_886, hfs_886⟩ := CW_at h_886
                      refine lv_iload hx hb dL_told_889 (lv_at hl 14 rfl) ?_
                      refine q_ne0 (tgt := 909) hx hb dL_told_891 (by decide) ((ct_6 T hz).trans (by rw [show k5 = lN9 T by omega])) ?_
                      refine lv_aload_n hx hb dL_told_894 rfl (lv_at hl 0 rfl) ?_
                      refine q_bipush hx hb dL_told_895 (by decide) ?_
                      refine q_backKi (mc := 0) (ms := 0) [11] [0, 1, 2, 3, 4, 5, 6, 7, 8, 9, 10] (br := [[(xv, aI cy 20 (va))], [(xc, aI cy 45 (co))], [(xe, aI cy 9 (ed))], [(xd, aI cy 2 (dd))], [(q_2, aI cy 27 (u_77.1))], [(q_8, aI cy 8 (g8))], [(q_14, aI cy 27 (f8))], [(q_19, aI cy 2 (u8.1))], [(q_25, aI cy 64 (u8.2.1))], [(q_31, aI cy 64 (u8.2.2.1))], [(q_37, aI cy 64 (u8.2.2.2))]]) hP hD hS hA (va_runV (As := [.int (qI (7))]) (rest := []) ⟨hx, hb, hml, hown, hg⟩ (c_X7_count l D cy x la lv9 ls9 fa xh xs la2 lv92 ls92 fb fw bu ta rc re gb oc oe rs rc2 re2 gb2 oc2 oe2 rs2 rr ad T hz HZ len tx _ hG h_886 _ (by omega) _) (cv_L_57 hg rfl rfl ⟨(Nat.le_of_ble_eq_true rfl), (Nat.le_of_ble_eq_true rfl)⟩) ⟨q_blind, va_recv hK (fl_blk hP 11 rfl) (ci := 7) (q0 := 0) rfl hfs_886, q_preM _ hK hN hP hD [11] (by decide) rfl⟩ rfl rfl hl.1 rfl (lv_room (Nat.le_of_ble_eq_true rfl)) dL_told_897 ⟨(show 141 + 936 * k5 + 0 ≤ 8565 by omega), (show 1730 + 10296 * k5 + 0 ≤ 94394 by omega)⟩) rfl rfl (by decide) (fun r_897 u_897 H locs h_897 hP hD hS => ?_)
                      have hP : va_P D vwCl [[(xv, aI cy 20 (va))], [(xc, aI cy 45 (co))], [(xe, aI cy 9 (ed))], [(xd, aI cy 2 (dd))], [(q_2, aI cy 27 (u_77.1))], [(q_8, aI cy 8 (g8))], [(q_14, aI cy 27 (f8))], [(q_19, aI cy 2 (u8.1))], [(q_25, aI cy 64 (u8.2.1))], [(q_31, aI cy 64 (u8.2.2.1))], [(q_37, aI cy 64 (u8.2.2.2))], u_897].flatten H := hP
                      have hD : va_D A [[(xv, aI cy 20 (va))], [(xc, aI cy 45 (co))], [(xe, aI cy 9 (ed))], [(xd, aI cy 2 (dd))], [(q_2, aI cy 27 (u_77.1))], [(q_8, aI cy 8 (g8))], [(q_14, aI cy 27 (f8))], [(q_19, aI cy 2 (u8.1))], [(q_25, aI cy 64 (u8.2.1))], [(q_31, aI cy 64 (u8.2.2.1))], [(q_37, aI cy 64 (u8.2.2.2))], u_897].flatten := hD
                      obtain ⟨rfl, h_897⟩ := h_897
                      obtain ⟨fs_897, hfs_897⟩ := CW_at h_897
                      refine lv_iload hx hb dL_told_900 (lv_at hl 15 rfl) ?_
                      refine q_ne0 (tgt := 909) hx hb dL_told_902 (by decide) ((ct_7 T hz).trans (by rw [show p9 = 10 by omega])) ?_
                      refine q_iconst hx hb dL_told_905 ?_
                      refine lv_goto (tgt := 910) hx hb dL_told_906 (by decide) ?_
                      have hP := fl_sub (bs' := [u_897, [(xv, aI cy 20 (va))], [(xc, aI cy 45 (co))], [(xe, aI cy 9 (ed))], [(xd, aI cy 2 (dd))]]) hP [11, 0, 1, 2, 3] rfl
                      have hD := fl_subD (bs' := [u_897, [(xv, aI cy 20 (va))], [(xc, aI cy 45 (co))], [(xe, aI cy 9 (ed))], [(xd, aI cy 2 (dd))]]) hD [11, 0, 1, 2, 3] (by decide) rfl
                      refine W.widen (k := 8565) (n := 94394) (by omega) (by omega) ?_
                      exact hQ _ _ _ _ true u_897 ⟨rfl, h_897⟩ hP hD hS dL_told_910
                    · skip
                      exact absurd c_824 (by decide)
                  · skip
                    refine lv_iload hx hb dL_told_502 (lv_at hl 13 rfl) ?_
                    refine lv_aload hx hb dL_told_504 (lv_at hl 6 rfl) ?_
                    refine q_iconst hx hb dL_told_506 ?_
                    refine lv_iload hx hb dL_told_507 (lv_at hl 19 rfl) ?_
                    refine q_imul hx hb dL_told_509 ?_
                    refine q_iald (j := (3 * k5)) hx hb hK (fl_blk hP 5 rfl) 0 rfl (by omega) dL_told_510 ?_
                    refine q_iadd hx hb dL_told_511 ?_
                    refine q_topZ (y := ((cnt (fOC (fil (lC T) (lN9 T) (lE T) (lM T) (-1))) (k5 + 1) : Nat) : Int)) (cnt_t (hP1 k5 (by omega) (by omega)).1) ?_
                    refine lv_istore (lv' := [(13, .int (qI (((cnt (fOC (fil (lC T) (lN9 T) (lE T) (lM T) (-1))) (k5 + 1) : Nat) : Int)))), (0, .ref (x)), (1, .int (qI (p1))), (2, .ref (xv)), (3, .ref (xc)), (4, .ref (xe)), (5, .ref (xd)), (6, .ref (q_2)), (7, .ref (q_8)), (8, .ref (q_14)), (9, .ref (q_19)), (10, .ref (q_25)), (11, .ref (q_31)), (12, .ref (q_37)), (14, .int (qI (((cnt (hoB (lV T) (lC T)) k5 : Nat) : Int)))), (15, .int (qI (sumV (lV T) p9))), (16, .int (qI (((cnt (fixB (lC T) (lN9 T) (lE T) (lM T)) p9 : Nat) : Int)))), (17, .int (qI (widS (lC T) (lN9 T) (lE T) (lM T) p9))), (18, .int (qI (((cnt (fOE (fil (lC T) (lN9 T) (lE T) (lM T) (-1))) k4 : Nat) : Int)))), (19, .int (qI (((k5 : Nat) : Int))))]) hx hb dL_told_512 hl (by decide) rfl (fun ls hl => ?_)
                    refine lv_iload hx hb dL_told_514 (lv_at hl 14 rfl) ?_
                    have K_531 : ∀ (z5 : Int), ((hoB (lV T) (lC T) k5 = true ∧ z5 = 1) ∨ (hoB (lV T) (lC T) k5 = false ∧ z5 = 0)) → W p l e (qrc 8 8565 94394) s m args below meth c H locs (141 + 936 * k5) (1730 + 10296 * k5) Q (F0 m 531 ls [.int (qI (z5)), .int (qI (((cnt (hoB (lV T) (lC T)) k5 : Nat) : Int)))]) := by
                      intro z5 hz5
                      refine q_iadd hx hb dL_told_531 ?_
                      refine q_topZ (y := ((cnt (hoB (lV T) (lC T)) (k5 + 1) : Nat) : Int)) (cnt_s hz5) ?_
                      refine lv_istore (lv' := [(14, .int (qI (((cnt (hoB (lV T) (lC T)) (k5 + 1) : Nat) : Int)))), (13, .int (qI (((cnt (fOC (fil (lC T) (lN9 T) (lE T) (lM T) (-1))) (k5 + 1) : Nat) : Int)))), (0, .ref (x)), (1, .int (qI (p1))), (2, .ref (xv)), (3, .ref (xc)), (4, .ref (xe)), (5, .ref (xd)), (6, .ref (q_2)), (7, .ref (q_8)), (8, .ref (q_14)), (9, .ref (q_19)), (10, .ref (q_25)), (11, .ref (q_31)), (12, .ref (q_37)), (15, .int (qI (sumV (lV T) p9))), (16, .int (qI (((cnt (fixB (lC T) (lN9 T) (lE T) (lM T)) p9 : Nat) : Int)))), (17, .int (qI (widS (lC T) (lN9 T) (lE T) (lM T) p9))), (18, .int (qI (((cnt (fOE (fil (lC T) (lN9 T) (lE T) (lM T) (-1))) k4 : Nat) : Int)))), (19, .int (qI (((k5 : Nat) : Int))))]) hx hb dL_told_532 hl (by decide) rfl (fun ls hl => ?_)
                      refine q_iconst hx hb dL_told_534 ?_
                      refine lv_istore (lv' := [(20, .int (qI (0))), (14, .int (qI (((cnt (hoB (lV T) (lC T)) (k5 + 1) : Nat) : Int)))), (13, .int (qI (((cnt (fOC (fil (lC T) (lN9 T) (lE T) (lM T) (-1))) (k5 + 1) : Nat) : Int)))), (0, .ref (x)), (1, .int (qI (p1))), (2, .ref (xv)), (3, .ref (xc)), (4, .ref (xe)), (5, .ref (xd)), (6, .ref (q_2)), (7, .ref (q_8)), (8, .ref (q_14)), (9, .ref (q_19)), (10, .ref (q_25)), (11, .ref (q_31)), (12, .ref (q_37)), (15, .int (qI (sumV (lV T) p9))), (16, .int (qI (((cnt (fixB (lC T) (lN9 T) (lE T) (lM T)) p9 : Nat) : Int)))), (17, .int (qI (widS (lC T) (lN9 T) (lE T) (lM T) p9))), (18, .int (qI (((cnt (fOE (fil (lC T) (lN9 T) (lE T) (lM T) (-1))) k4 : Nat) : Int)))), (19, .int (qI (((k5 : Nat) : Int))))]) hx hb dL_told_535 hl (by decide) rfl (fun ls hl => ?_)
                      have L_537 : ∀ (n_537 i5 : Nat) (W5 : va_W), i5 ≤ 5 → 5 + 1 ≤ i5 + n_537 → (CW cy x la lv9 ls9 fa xh xs la2 lv92 ls92 fb fw bu ta rc re gb oc oe rs rc2 re2 gb2 oc2 oe2 rs2 rr ad T hz HZ len tx W5) → ∀ (H : Heap) (locs : List Loc) (ls : Array Slot), va_P D vwCl [W5, [(xv, aI cy 20 (va))], [(xc, aI cy 45 (co))], [(xe, aI cy 9 (ed))], [(xd, aI cy 2 (dd))], [(q_2, aI cy 27 (u_77.1))], [(q_8, aI cy 8 (g8))], [(q_14, aI cy 27 (f8))], [(q_19, aI cy 2 (u8.1))], [(q_25, aI cy 64 (u8.2.1))], [(q_31, aI cy 64 (u8.2.2.1))], [(q_37, aI cy 64 (u8.2.2.2))]].flatten H → va_D A [W5, [(xv, aI cy 20 (va))], [(xc, aI cy 45 (co))], [(xe, aI cy 9 (ed))], [(xd, aI cy 2 (dd))], [(q_2, aI cy 27 (u_77.1))], [(q_8, aI cy 8 (g8))], [(q_14, aI cy 27 (f8))], [(q_19, aI cy 2 (u8.1))], [(q_25, aI cy 64 (u8.2.1))], [(q_31, aI cy 64 (u8.2.2.1))], [(q_37, aI cy 64 (u8.2.2.2))]].flatten → va_S A s.heap H locs → lv_has ls 25 [(0, .ref (x)), (1, .int (qI (p1))), (2, .ref (xv)), (3, .ref (xc)), (4, .ref (xe)), (5, .ref (xd)), (6, .ref (q_2)), (7, .ref (q_8)), (8, .ref (q_14)), (9, .ref (q_19)), (10, .ref (q_25)), (11, .ref (q_31)), (12, .ref (q_37)), (13, .int (qI (((cnt (fOC (fil (lC T) (lN9 T) (lE T) (lM T) (-1))) (k5 + 1) : Nat) : Int)))), (14, .int (qI (((cnt (hoB (lV T) (lC T)) (k5 + 1) : Nat) : Int)))), (15, .int (qI (sumV (lV T) p9))), (16, .int (qI (((cnt (fixB (lC T) (lN9 T) (lE T) (lM T)) p9 : Nat) : Int)))), (17, .int (qI (widS (lC T) (lN9 T) (lE T) (lM T) p9))), (18, .int (qI (((cnt (fOE (fil (lC T) (lN9 T) (lE T) (lM T) (-1))) k4 : Nat) : Int)))), (19, .int (qI (((k5 : Nat) : Int)))), (20, .int (qI (((i5 : Nat) : Int))))] → W p l e (qrc 8 8565 94394) s m args below meth c H locs (141 + 936 * k5) (1730 + 10296 * k5) Q (F0 m 537 ls []) := by
                        intro n_537
                        induction n_537 with
                        | zero => intro i5 _ h1 h2; exact absurd h2 (by omega)
                        | succ n_537 ih_537 =>
                          intro i5 W5 hk_537 hn_537 hW5 H locs ls hP hD hS hl
                          obtain ⟨fsW5, hfsW5⟩ := CW_at hW5
                          refine lv_iload hx hb dL_told_537 (lv_at hl 20 rfl) ?_
                          refine q_iconst hx hb dL_told_539 ?_
                          refine q_icmp_ge (tgt := 594) hx hb dL_told_540 (by decide) (by omega) (fun c_540 => ?_) (fun c_540 => ?_)
                          · skip
                            refine lv_aload_n hx hb dL_told_594 rfl (lv_at hl 0 rfl) ?_
                            refine lv_iload hx hb dL_told_595 (lv_at hl 19 rfl) ?_
                            refine q_iconst hx hb dL_told_597 ?_
                            refine q_backKi (mc := 0) (ms := 0) [0] [1, 2, 3, 4, 5, 6, 7, 8, 9, 10, 11] (br := [[(xv, aI cy 20 (va))], [(xc, aI cy 45 (co))], [(xe, aI cy 9 (ed))], [(xd, aI cy 2 (dd))], [(q_2, aI cy 27 (u_77.1))], [(q_8, aI cy 8 (g8))], [(q_14, aI cy 27 (f8))], [(q_19, aI cy 2 (u8.1))], [(q_25, aI cy 64 (u8.2.1))], [(q_31, aI cy 64 (u8.2.2.1))], [(q_37, aI cy 64 (u8.2.2.2))]]) hP hD hS hA (va_runV (As := [.int (qI (((k5 : Nat) : Int))), .int (qI (5))]) (rest := []) ⟨hx, hb, hml, hown, hg⟩ (c_X7_condition l D cy x la lv9 ls9 fa xh xs la2 lv92 ls92 fb fw bu ta rc re gb oc oe rs rc2 re2 gb2 oc2 oe2 rs2 rr ad T hz HZ len tx _ hG hW5 _ _ k5 (by omega) (by omega) _) (cv_L_49 hg rfl rfl ⟨(Nat.le_of_ble_eq_true rfl), (Nat.le_of_ble_eq_true rfl)⟩) ⟨q_blind, va_recv hK (fl_blk hP 0 rfl) (ci := 7) (q0 := 0) rfl hfsW5, q_preM _ hK hN hP hD [0] (by decide) rfl⟩ rfl rfl hl.1 rfl (lv_room (Nat.le_of_ble_eq_true rfl)) dL_told_598 ⟨(show 141 + 936 * k5 + 0 ≤ 8565 by omega), (show 1730 + 10296 * k5 + 0 ≤ 94394 by omega)⟩) rfl rfl (by decide) (fun r_598 u_598 H locs h_598 hP hD hS => ?_)
                            have hP : va_P D vwCl [[(xv, aI cy 20 (va))], [(xc, aI cy 45 (co))], [(xe, aI cy 9 (ed))], [(xd, aI cy 2 (dd))], [(q_2, aI cy 27 (u_77.1))], [(q_8, aI cy 8 (g8))], [(q_14, aI cy 27 (f8))], [(q_19, aI cy 2 (u8.1))], [(q_25, aI cy 64 (u8.2.1))], [(q_31, aI cy 64 (u8.2.2.1))], [(q_37, aI cy 64 (u8.2.2.2))], u_598].flatten H := hP
                            have hD : va_D A [[(xv, aI cy 20 (va))], [(xc, aI cy 45 (co))], [(xe, aI cy 9 (ed))], [(xd, aI cy 2 (dd))], [(q_2, aI cy 27 (u_77.1))], [(q_8, aI cy 8 (g8))], [(q_14, aI cy 27 (f8))], [(q_19, aI cy 2 (u8.1))], [(q_25, aI cy 64 (u8.2.1))], [(q_31, aI cy 64 (u8.2.2.1))], [(q_37, aI cy 64 (u8.2.2.2))], u_598].flatten := hD
                            obtain ⟨rfl, h_598⟩ := h_598
                            obtain ⟨fs_598, hfs_598⟩ := CW_at h_598
                            refine lv_aload hx hb dL_told_601 (lv_at hl 6 rfl) ?_
                            refine q_iconst hx hb dL_told_603 ?_
                            refine lv_iload hx hb dL_told_604 (lv_at hl 19 rfl) ?_
                            refine q_imul hx hb dL_told_606 ?_
                            refine q_iald (j := (3 * k5)) hx hb hK (fl_blk hP 4 rfl) 0 rfl (by omega) dL_told_607 ?_
                            refine q_ne0 (tgt := 677) hx hb dL_told_608 (by decide) ((cT_5 T k5).trans (hP1 k5 (by omega) (by omega)).1.symm) ?_
                            refine lv_aload_n hx hb dL_told_611 rfl (lv_at hl 0 rfl) ?_
                            refine lv_iload hx hb dL_told_612 (lv_at hl 19 rfl) ?_
                            refine q_bipush hx hb dL_told_614 (by decide) ?_
                            refine q_backKi (mc := 0) (ms := 0) [11] [0, 1, 2, 3, 4, 5, 6, 7, 8, 9, 10] (br := [[(xv, aI cy 20 (va))], [(xc, aI cy 45 (co))], [(xe, aI cy 9 (ed))], [(xd, aI cy 2 (dd))], [(q_2, aI cy 27 (u_77.1))], [(q_8, aI cy 8 (g8))], [(q_14, aI cy 27 (f8))], [(q_19, aI cy 2 (u8.1))], [(q_25, aI cy 64 (u8.2.1))], [(q_31, aI cy 64 (u8.2.2.1))], [(q_37, aI cy 64 (u8.2.2.2))]]) hP hD hS hA (va_runV (As := [.int (qI (((k5 : Nat) : Int))), .int (qI (6))]) (rest := []) ⟨hx, hb, hml, hown, hg⟩ (c_X7_condition l D cy x la lv9 ls9 fa xh xs la2 lv92 ls92 fb fw bu ta rc re gb oc oe rs rc2 re2 gb2 oc2 oe2 rs2 rr ad T hz HZ len tx _ hG h_598 _ _ k5 (by omega) (by omega) _) (cv_L_49 hg rfl rfl ⟨(Nat.le_of_ble_eq_true rfl), (Nat.le_of_ble_eq_true rfl)⟩) ⟨q_blind, va_recv hK (fl_blk hP 11 rfl) (ci := 7) (q0 := 0) rfl hfs_598, q_preM _ hK hN hP hD [11] (by decide) rfl⟩ rfl rfl hl.1 rfl (lv_room (Nat.le_of_ble_eq_true rfl)) dL_told_616 ⟨(show 141 + 936 * k5 + 0 ≤ 8565 by omega), (show 1730 + 10296 * k5 + 0 ≤ 94394 by omega)⟩) rfl rfl (by decide) (fun r_616 u_616 H locs h_616 hP hD hS => ?_)
                            have hP : va_P D vwCl [[(xv, aI cy 20 (va))], [(xc, aI cy 45 (co))], [(xe, aI cy 9 (ed))], [(xd, aI cy 2 (dd))], [(q_2, aI cy 27 (u_77.1))], [(q_8, aI cy 8 (g8))], [(q_14, aI cy 27 (f8))], [(q_19, aI cy 2 (u8.1))], [(q_25, aI cy 64 (u8.2.1))], [(q_31, aI cy 64 (u8.2.2.1))], [(q_37, aI cy 64 (u8.2.2.2))], u_616].flatten H := hP
                            have hD : va_D A [[(xv, aI cy 20 (va))], [(xc, aI cy 45 (co))], [(xe, aI cy 9 (ed))], [(xd, aI cy 2 (dd))], [(q_2, aI cy 27 (u_77.1))], [(q_8, aI cy 8 (g8))], [(q_14, aI cy 27 (f8))], [(q_19, aI cy 2 (u8.1))], [(q_25, aI cy 64 (u8.2.1))], [(q_31, aI cy 64 (u8.2.2.1))], [(q_37, aI cy 64 (u8.2.2.2))], u_616].flatten := hD
                            obtain ⟨rfl, h_616⟩ := h_616
                            obtain ⟨fs_616, hfs_616⟩ := CW_at h_616
                            refine lv_aload hx hb dL_told_619 (lv_at hl 6 rfl) ?_
                            refine q_iconst hx hb dL_told_621 ?_
                            refine lv_iload hx hb dL_told_622 (lv_at hl 19 rfl) ?_
                            refine q_imul hx hb dL_told_624 ?_
                            refine q_iconst hx hb dL_told_625 ?_
                            refine q_iadd hx hb dL_told_626 ?_
                            refine q_iald (j := ((3 * k5) + 1)) hx hb hK (fl_blk hP 4 rfl) 0 rfl (by omega) dL_told_627 ?_
                            refine q_ne0 (tgt := 677) hx hb dL_told_628 (by decide) ((cT_6 T k5).trans (hP1 k5 (by omega) (by omega)).2.1.symm) ?_
                            refine lv_aload_n hx hb dL_told_631 rfl (lv_at hl 0 rfl) ?_
                            refine lv_iload hx hb dL_told_632 (lv_at hl 19 rfl) ?_
                            refine q_bipush hx hb dL_told_634 (by decide) ?_
                            refine q_backKi (mc := 0) (ms := 0) [11] [0, 1, 2, 3, 4, 5, 6, 7, 8, 9, 10] (br := [[(xv, aI cy 20 (va))], [(xc, aI cy 45 (co))], [(xe, aI cy 9 (ed))], [(xd, aI cy 2 (dd))], [(q_2, aI cy 27 (u_77.1))], [(q_8, aI cy 8 (g8))], [(q_14, aI cy 27 (f8))], [(q_19, aI cy 2 (u8.1))], [(q_25, aI cy 64 (u8.2.1))], [(q_31, aI cy 64 (u8.2.2.1))], [(q_37, aI cy 64 (u8.2.2.2))]]) hP hD hS hA (va_runV (As := [.int (qI (((k5 : Nat) : Int))), .int (qI (7))]) (rest := []) ⟨hx, hb, hml, hown, hg⟩ (c_X7_condition l D cy x la lv9 ls9 fa xh xs la2 lv92 ls92 fb fw bu ta rc re gb oc oe rs rc2 re2 gb2 oc2 oe2 rs2 rr ad T hz HZ len tx _ hG h_616 _ _ k5 (by omega) (by omega) _) (cv_L_49 hg rfl rfl ⟨(Nat.le_of_ble_eq_true rfl), (Nat.le_of_ble_eq_true rfl)⟩) ⟨q_blind, va_recv hK (fl_blk hP 11 rfl) (ci := 7) (q0 := 0) rfl hfs_616, q_preM _ hK hN hP hD [11] (by decide) rfl⟩ rfl rfl hl.1 rfl (lv_room (Nat.le_of_ble_eq_true rfl)) dL_told_636 ⟨(show 141 + 936 * k5 + 0 ≤ 8565 by omega), (show 1730 + 10296 * k5 + 0 ≤ 94394 by omega)⟩) rfl rfl (by decide) (fun r_636 u_636 H locs h_636 hP hD hS => ?_)
                            have hP : va_P D vwCl [[(xv, aI cy 20 (va))], [(xc, aI cy 45 (co))], [(xe, aI cy 9 (ed))], [(xd, aI cy 2 (dd))], [(q_2, aI cy 27 (u_77.1))], [(q_8, aI cy 8 (g8))], [(q_14, aI cy 27 (f8))], [(q_19, aI cy 2 (u8.1))], [(q_25, aI cy 64 (u8.2.1))], [(q_31, aI cy 64 (u8.2.2.1))], [(q_37, aI cy 64 (u8.2.2.2))], u_636].flatten H := hP
                            have hD : va_D A [[(xv, aI cy 20 (va))], [(xc, aI cy 45 (co))], [(xe, aI cy 9 (ed))], [(xd, aI cy 2 (dd))], [(q_2, aI cy 27 (u_77.1))], [(q_8, aI cy 8 (g8))], [(q_14, aI cy 27 (f8))], [(q_19, aI cy 2 (u8.1))], [(q_25, aI cy 64 (u8.2.1))], [(q_31, aI cy 64 (u8.2.2.1))], [(q_37, aI cy 64 (u8.2.2.2))], u_636].flatten := hD
                            obtain ⟨rfl, h_636⟩ := h_636
                            obtain ⟨fs_636, hfs_636⟩ := CW_at h_636
                            refine lv_aload hx hb dL_told_639 (lv_at hl 6 rfl) ?_
                            refine q_iconst hx hb dL_told_641 ?_
                            refine lv_iload hx hb dL_told_642 (lv_at hl 19 rfl) ?_
                            refine q_imul hx hb dL_told_644 ?_
                            refine q_iconst hx hb dL_told_645 ?_
                            refine q_iadd hx hb dL_told_646 ?_
                            refine q_iald (j := ((3 * k5) + 2)) hx hb hK (fl_blk hP 4 rfl) 0 rfl (by omega) dL_told_647 ?_
                            refine q_ne0 (tgt := 677) hx hb dL_told_648 (by decide) ((cT_7 T k5).trans (hP1 k5 (by omega) (by omega)).2.2.symm) ?_
                            refine lv_aload_n hx hb dL_told_651 rfl (lv_at hl 0 rfl) ?_
                            refine lv_iload hx hb dL_told_652 (lv_at hl 19 rfl) ?_
                            refine q_bipush hx hb dL_told_654 (by decide) ?_
                            refine q_backKi (mc := 0) (ms := 0) [11] [0, 1, 2, 3, 4, 5, 6, 7, 8, 9, 10] (br := [[(xv, aI cy 20 (va))], [(xc, aI cy 45 (co))], [(xe, aI cy 9 (ed))], [(xd, aI cy 2 (dd))], [(q_2, aI cy 27 (u_77.1))], [(q_8, aI cy 8 (g8))], [(q_14, aI cy 27 (f8))], [(q_19, aI cy 2 (u8.1))], [(q_25, aI cy 64 (u8.2.1))], [(q_31, aI cy 64 (u8.2.2.1))], [(q_37, aI cy 64 (u8.2.2.2))]]) hP hD hS hA (va_runV (As := [.int (qI (((k5 : Nat) : Int))), .int (qI (9))]) (rest := []) ⟨hx, hb, hml, hown, hg⟩ (c_X7_condition l D cy x la lv9 ls9 fa xh xs la2 lv92 ls92 fb fw bu ta rc re gb oc oe rs rc2 re2 gb2 oc2 oe2 rs2 rr ad T hz HZ len tx _ hG h_636 _ _ k5 (by omega) (by omega) _) (cv_L_49 hg rfl rfl ⟨(Nat.le_of_ble_eq_true rfl), (Nat.le_of_ble_eq_true rfl)⟩) ⟨q_blind, va_recv hK (fl_blk hP 11 rfl) (ci := 7) (q0 := 0) rfl hfs_636, q_preM _ hK hN hP hD [11] (by decide) rfl⟩ rfl rfl hl.1 rfl (lv_room (Nat.le_of_ble_eq_true rfl)) dL_told_656 ⟨(show 141 + 936 * k5 + 0 ≤ 8565 by omega), (show 1730 + 10296 * k5 + 0 ≤ 94394 by omega)⟩) rfl rfl (by decide) (fun r_656 u_656 H locs h_656 hP hD hS => ?_)
                            have hP : va_P D vwCl [[(xv, aI cy 20 (va))], [(xc, aI cy 45 (co))], [(xe, aI cy 9 (ed))], [(xd, aI cy 2 (dd))], [(q_2, aI cy 27 (u_77.1))], [(q_8, aI cy 8 (g8))], [(q_14, aI cy 27 (f8))], [(q_19, aI cy 2 (u8.1))], [(q_25, aI cy 64 (u8.2.1))], [(q_31, aI cy 64 (u8.2.2.1))], [(q_37, aI cy 64 (u8.2.2.2))], u_656].flatten H := hP
                            have hD : va_D A [[(xv, aI cy 20 (va))], [(xc, aI cy 45 (co))], [(xe, aI cy 9 (ed))], [(xd, aI cy 2 (dd))], [(q_2, aI cy 27 (u_77.1))], [(q_8, aI cy 8 (g8))], [(q_14, aI cy 27 (f8))], [(q_19, aI cy 2 (u8.1))], [(q_25, aI cy 64 (u8.2.1))], [(q_31, aI cy 64 (u8.2.2.1))], [(q_37, aI cy 64 (u8.2.2.2))], u_656].flatten := hD
                            obtain ⟨rfl, h_656⟩ := h_656
                            obtain ⟨fs_656, hfs_656⟩ := CW_at h_656
                            have K_674 : ∀ (z7 : Int), (coT T k5 9 = z7) → W p l e (qrc 8 8565 94394) s m args below meth c H locs (141 + 936 * k5) (1730 + 10296 * k5) Q (F0 m 674 ls [.int (qI (z7)), .int (qI (coT T k5 (9)))]) := by
                              intro z7 hz7
                              refine q_eq1 (tgt := 679) hx hb dL_told_674 (by decide) hz7 ?_
                              refine q_iconst hx hb dL_told_679 ?_
                              refine q_topZ (y := ((culL T k5 0 : Nat) : Int)) (by rw [culL_0]; rfl) ?_
                              refine lv_istore (lv' := [(20, .int (qI (((culL T k5 0 : Nat) : Int)))), (0, .ref (x)), (1, .int (qI (p1))), (2, .ref (xv)), (3, .ref (xc)), (4, .ref (xe)), (5, .ref (xd)), (6, .ref (q_2)), (7, .ref (q_8)), (8, .ref (q_14)), (9, .ref (q_19)), (10, .ref (q_25)), (11, .ref (q_31)), (12, .ref (q_37)), (13, .int (qI (((cnt (fOC (fil (lC T) (lN9 T) (lE T) (lM T) (-1))) (k5 + 1) : Nat) : Int)))), (14, .int (qI (((cnt (hoB (lV T) (lC T)) (k5 + 1) : Nat) : Int)))), (15, .int (qI (sumV (lV T) p9))), (16, .int (qI (((cnt (fixB (lC T) (lN9 T) (lE T) (lM T)) p9 : Nat) : Int)))), (17, .int (qI (widS (lC T) (lN9 T) (lE T) (lM T) p9))), (18, .int (qI (((cnt (fOE (fil (lC T) (lN9 T) (lE T) (lM T) (-1))) k4 : Nat) : Int)))), (19, .int (qI (((k5 : Nat) : Int))))]) hx hb dL_told_680 hl (by decide) rfl (fun ls hl => ?_)
                              refine q_iconst hx hb dL_told_682 ?_
                              refine lv_istore (lv' := [(21, .int (qI (0))), (20, .int (qI (((culL T k5 0 : Nat) : Int)))), (0, .ref (x)), (1, .int (qI (p1))), (2, .ref (xv)), (3, .ref (xc)), (4, .ref (xe)), (5, .ref (xd)), (6, .ref (q_2)), (7, .ref (q_8)), (8, .ref (q_14)), (9, .ref (q_19)), (10, .ref (q_25)), (11, .ref (q_31)), (12, .ref (q_37)), (13, .int (qI (((cnt (fOC (fil (lC T) (lN9 T) (lE T) (lM T) (-1))) (k5 + 1) : Nat) : Int)))), (14, .int (qI (((cnt (hoB (lV T) (lC T)) (k5 + 1) : Nat) : Int)))), (15, .int (qI (sumV (lV T) p9))), (16, .int (qI (((cnt (fixB (lC T) (lN9 T) (lE T) (lM T)) p9 : Nat) : Int)))), (17, .int (qI (widS (lC T) (lN9 T) (lE T) (lM T) p9))), (18, .int (qI (((cnt (fOE (fil (lC T) (lN9 T) (lE T) (lM T) (-1))) k4 : Nat) : Int)))), (19, .int (qI (((k5 : Nat) : Int))))]) hx hb dL_told_683 hl (by decide) rfl (fun ls hl => ?_)
                              have L_685 : ∀ (n_685 c9 : Nat) (f9 : Nat → Int) (g9 : Nat → Int) (u9 : L4), c9 ≤ lN9 T → lN9 T + 1 ≤ c9 + n_685 → ∀ (H : Heap) (locs : List Loc) (ls : Array Slot), va_P D vwCl [u_656, [(xv, aI cy 20 (va))], [(xc, aI cy 45 (co))], [(xe, aI cy 9 (ed))], [(xd, aI cy 2 (dd))], [(q_2, aI cy 27 (u_77.1))], [(q_8, aI cy 8 (g9))], [(q_14, aI cy 27 (f9))], [(q_19, aI cy 2 (u9.1))], [(q_25, aI cy 64 (u9.2.1))], [(q_31, aI cy 64 (u9.2.2.1))], [(q_37, aI cy 64 (u9.2.2.2))]].flatten H → va_D A [u_656, [(xv, aI cy 20 (va))], [(xc, aI cy 45 (co))], [(xe, aI cy 9 (ed))], [(xd, aI cy 2 (dd))], [(q_2, aI cy 27 (u_77.1))], [(q_8, aI cy 8 (g9))], [(q_14, aI cy 27 (f9))], [(q_19, aI cy 2 (u9.1))], [(q_25, aI cy 64 (u9.2.1))], [(q_31, aI cy 64 (u9.2.2.1))], [(q_37, aI cy 64 (u9.2.2.2))]].flatten → va_S A s.heap H locs → lv_has ls 25 [(0, .ref (x)), (1, .int (qI (p1))), (2, .ref (xv)), (3, .ref (xc)), (4, .ref (xe)), (5, .ref (xd)), (6, .ref (q_2)), (7, .ref (q_8)), (8, .ref (q_14)), (9, .ref (q_19)), (10, .ref (q_25)), (11, .ref (q_31)), (12, .ref (q_37)), (13, .int (qI (((cnt (fOC (fil (lC T) (lN9 T) (lE T) (lM T) (-1))) (k5 + 1) : Nat) : Int)))), (14, .int (qI (((cnt (hoB (lV T) (lC T)) (k5 + 1) : Nat) : Int)))), (15, .int (qI (sumV (lV T) p9))), (16, .int (qI (((cnt (fixB (lC T) (lN9 T) (lE T) (lM T)) p9 : Nat) : Int)))), (17, .int (qI (widS (lC T) (lN9 T) (lE T) (lM T) p9))), (18, .int (qI (((cnt (fOE (fil (lC T) (lN9 T) (lE T) (lM T) (-1))) k4 : Nat) : Int)))), (19, .int (qI (((k5 : Nat) : Int)))), (20, .int (qI (((culL T k5 c9 : Nat) : Int)))), (21, .int (qI (((c9 : Nat) : Int))))] → W p l e (qrc 8 8565 94394) s m args below meth c H locs (141 + 936 * k5 + 104 * c9) (1730 + 10296 * k5 + 1144 * c9) Q (F0 m 685 ls []) := by
                                intro n_685
                                induction n_685 with
                                | zero => intro c9 _ _ _ h1 h2; exact absurd h2 (by omega)
                                | succ n_685 ih_685 =>
                                  intro c9 f9 g9 u9 hk_685 hn_685 H locs ls hP hD hS hl
                                  refine lv_iload hx hb dL_told_685 (lv_at hl 21 rfl) ?_
                                  refine lv_aload hx hb dL_told_687 (lv_at hl 5 rfl) ?_
                                  refine q_iconst hx hb dL_told_689 ?_
                                  refine q_iald (j := 0) hx hb hK (fl_blk hP 4 rfl) 0 rfl (by omega) dL_told_690 ?_
                                  refine q_icmp_ge (tgt := 790) hx hb dL_told_691 (by decide) (by omega) (fun c_691 => ?_) (fun c_691 => ?_)
                                  · skip
                                    refine lv_aload_n hx hb dL_told_790 rfl (lv_at hl 0 rfl) ?_
                                    refine lv_iload hx hb dL_told_791 (lv_at hl 19 rfl) ?_
                                    refine q_bipush hx hb dL_told_793 (by decide) ?_
                                    refine q_backKi (mc := 0) (ms := 0) [0] [1, 2, 3, 4, 5, 6, 7, 8, 9, 10, 11] (br := [[(xv, aI cy 20 (va))], [(xc, aI cy 45 (co))], [(xe, aI cy 9 (ed))], [(xd, aI cy 2 (dd))], [(q_2, aI cy 27 (u_77.1))], [(q_8, aI cy 8 (g9))], [(q_14, aI cy 27 (f9))], [(q_19, aI cy 2 (u9.1))], [(q_25, aI cy 64 (u9.2.1))], [(q_31, aI cy 64 (u9.2.2.1))], [(q_37, aI cy 64 (u9.2.2.2))]]) hP hD hS hA (va_runV (As := [.int (qI (((k5 : Nat) : Int))), .int (qI (8))]) (rest := []) ⟨hx, hb, hml, hown, hg⟩ (c_X7_condition l D cy x la lv9 ls9 fa xh xs la2 lv92 ls92 fb fw bu ta rc re gb oc oe rs rc2 re2 gb2 oc2 oe2 rs2 rr ad T hz HZ len tx _ hG h_656 _ _ k5 (by omega) (by omega) _) (cv_L_49 hg rfl rfl ⟨(Nat.le_of_ble_eq_true rfl), (Nat.le_of_ble_eq_true rfl)⟩) ⟨q_blind, va_recv hK (fl_blk hP 0 rfl) (ci := 7) (q0 := 0) rfl hfs_656, q_preM _ hK hN hP hD [0] (by decide) rfl⟩ rfl rfl hl.1 rfl (lv_room (Nat.le_of_ble_eq_true rfl)) dL_told_795 ⟨(show 141 + 936 * k5 + 104 * c9 + 0 ≤ 8565 by omega), (show 1730 + 10296 * k5 + 1144 * c9 + 0 ≤ 94394 by omega)⟩) rfl rfl (by decide) (fun r_795 u_795 H locs h_795 hP hD hS => ?_)
                                    have hP : va_P D vwCl [[(xv, aI cy 20 (va))], [(xc, aI cy 45 (co))], [(xe, aI cy 9 (ed))], [(xd, aI cy 2 (dd))], [(q_2, aI cy 27 (u_77.1))], [(q_8, aI cy 8 (g9))], [(q_14, aI cy 27 (f9))], [(q_19, aI cy 2 (u9.1))], [(q_25, aI cy 64 (u9.2.1))], [(q_31, aI cy 64 (u9.2.2.1))], [(q_37, aI cy 64 (u9.2.2.2))], u_795].flatten H := hP
                                    have hD : va_D A [[(xv, aI cy 20 (va))], [(xc, aI cy 45 (co))], [(xe, aI cy 9 (ed))], [(xd, aI cy 2 (dd))], [(q_2, aI cy 27 (u_77.1))], [(q_8, aI cy 8 (g9))], [(q_14, aI cy 27 (f9))], [(q_19, aI cy 2 (u9.1))], [(q_25, aI cy 64 (u9.2.1))], [(q_31, aI cy 64 (u9.2.2.1))], [(q_37, aI cy 64 (u9.2.2.2))], u_795].flatten := hD
                                    obtain ⟨rfl, h_795⟩ := h_795
                                    obtain ⟨fs_795, hfs_795⟩ := CW_at h_795
                                    refine lv_iload hx hb dL_told_798 (lv_at hl 20 rfl) ?_
                                    refine q_eq1 (tgt := 805) hx hb dL_told_800 (by decide) (by rw [cT_8]; first | (rw [culL_end (Or.inr (by omega))]) | (rw [culL_end (Or.inl (tn1 (hP1 k5 (by omega) (by omega)).1 c_701))])) ?_
                                    refine q_iinc (k := 19) (lv' := [(19, .int (qI ((((k5 : Nat) : Int)) + (1)))), (0, .ref (x)), (1, .int (qI (p1))), (2, .ref (xv)), (3, .ref (xc)), (4, .ref (xe)), (5, .ref (xd)), (6, .ref (q_2)), (7, .ref (q_8)), (8, .ref (q_14)), (9, .ref (q_19)), (10, .ref (q_25)), (11, .ref (q_31)), (12, .ref (q_37)), (13, .int (qI (((cnt (fOC (fil (lC T) (lN9 T) (lE T) (lM T) (-1))) (k5 + 1) : Nat) : Int)))), (14, .int (qI (((cnt (hoB (lV T) (lC T)) (k5 + 1) : Nat) : Int)))), (15, .int (qI (sumV (lV T) p9))), (16, .int (qI (((cnt (fixB (lC T) (lN9 T) (lE T) (lM T)) p9 : Nat) : Int)))), (17, .int (qI (widS (lC T) (lN9 T) (lE T) (lM T) p9))), (18, .int (qI (((cnt (fOE (fil (lC T) (lN9 T) (lE T) (lM T) (-1))) k4 : Nat) : Int)))), (20, .int (qI (((culL T k5 c9 : Nat) : Int)))), (21, .int (qI (((c9 : Nat) : Int))))]) hx hb dL_told_805 hl rfl (by decide) rfl (fun ls hl => ?_)
                                    refine lv_goto (tgt := 493) hx hb dL_told_808 (by decide) ?_
                                    refine W.widen (k := 141 + 936 * (k5 + 1)) (n := 1730 + 10296 * (k5 + 1)) (by omega) (by omega) ?_
                                    have hP := fl_sub (bs' := [u_795, [(xv, aI cy 20 (va))], [(xc, aI cy 45 (co))], [(xe, aI cy 9 (ed))], [(xd, aI cy 2 (dd))], [(q_2, aI cy 27 (u_77.1))], [(q_8, aI cy 8 (g9))], [(q_14, aI cy 27 (f9))], [(q_19, aI cy 2 (u9.1))], [(q_25, aI cy 64 (u9.2.1))], [(q_31, aI cy 64 (u9.2.2.1))], [(q_37, aI cy 64 (u9.2.2.2))]]) hP [11, 0, 1, 2, 3, 4, 5, 6, 7, 8, 9, 10] rfl
                                    have hD := fl_subD (bs' := [u_795, [(xv, aI cy 20 (va))], [(xc, aI cy 45 (co))], [(xe, aI cy 9 (ed))], [(xd, aI cy 2 (dd))], [(q_2, aI cy 27 (u_77.1))], [(q_8, aI cy 8 (g9))], [(q_14, aI cy 27 (f9))], [(q_19, aI cy 2 (u9.1))], [(q_25, aI cy 64 (u9.2.1))], [(q_31, aI cy 64 (u9.2.2.1))], [(q_37, aI cy 64 (u9.2.2.2))]]) hD [11, 0, 1, 2, 3, 4, 5, 6, 7, 8, 9, 10] (by decide) rfl
                                    exact ih_493 (k5 + 1) (u_795) _ _ _ (by omega) (by omega) h_795 _ _ _ hP hD hS (lv_sub hl [1, 2, 3, 4, 5, 6, 7, 8, 9, 10, 11, 12, 13, 14, 15, 16, 17, 18, 19, 0] rfl)
                                  · skip
                                    have hk5 := hP1 k5 (by omega) (by omega)
                                    have t5 := (fOC (fil (lC T) (lN9 T) (lE T) (lM T) (-1)) k5).toNat_le
                                    have r5 := turn_rng gC gE (by omega) (by omega) (show k5 < lN9 T by omega)
                                    refine lv_aload hx hb dL_told_694 (lv_at hl 6 rfl) ?_
                                    refine q_iconst hx hb dL_told_696 ?_
                                    refine lv_iload hx hb dL_told_697 (lv_at hl 19 rfl) ?_
                                    refine q_imul hx hb dL_told_699 ?_
                                    refine q_iald (j := (3 * k5)) hx hb hK (fl_blk hP 5 rfl) 0 rfl (by omega) dL_told_700 ?_
                                    refine q_if_ne (tgt := 790) hx hb dL_told_701 (by decide) (by omega) (fun c_701 => ?_) (fun c_701 => ?_)
                                    · skip
                                      refine lv_aload_n hx hb dL_told_790 rfl (lv_at hl 0 rfl) ?_
                                      refine lv_iload hx hb dL_told_791 (lv_at hl 19 rfl) ?_
                                      refine q_bipush hx hb dL_told_793 (by decide) ?_
                                      refine q_backKi (mc := 0) (ms := 0) [0] [1, 2, 3, 4, 5, 6, 7, 8, 9, 10, 11] (br := [[(xv, aI cy 20 (va))], [(xc, aI cy 45 (co))], [(xe, aI cy 9 (ed))], [(xd, aI cy 2 (dd))], [(q_2, aI cy 27 (u_77.1))], [(q_8, aI cy 8 (g9))], [(q_14, aI cy 27 (f9))], [(q_19, aI cy 2 (u9.1))], [(q_25, aI cy 64 (u9.2.1))], [(q_31, aI cy 64 (u9.2.2.1))], [(q_37, aI cy 64 (u9.2.2.2))]]) hP hD hS hA (va_runV (As := [.int (qI (((k5 : Nat) : Int))), .int (qI (8))]) (rest := []) ⟨hx, hb, hml, hown, hg⟩ (c_X7_condition l D cy x la lv9 ls9 fa xh xs la2 lv92 ls92 fb fw bu ta rc re gb oc oe rs rc2 re2 gb2 oc2 oe2 rs2 rr ad T hz HZ len tx _ hG h_656 _ _ k5 (by omega) (by omega) _) (cv_L_49 hg rfl rfl ⟨(Nat.le_of_ble_eq_true rfl), (Nat.le_of_ble_eq_true rfl)⟩) ⟨q_blind, va_recv hK (fl_blk hP 0 rfl) (ci := 7) (q0 := 0) rfl hfs_656, q_preM _ hK hN hP hD [0] (by decide) rfl⟩ rfl rfl hl.1 rfl (lv_room (Nat.le_of_ble_eq_true rfl)) dL_told_795 ⟨(show 141 + 936 * k5 + 104 * c9 + 0 ≤ 8565 by omega), (show 1730 + 10296 * k5 + 1144 * c9 + 0 ≤ 94394 by omega)⟩) rfl rfl (by decide) (fun r_795 u_795 H locs h_795 hP hD hS => ?_)
                                      have hP : va_P D vwCl [[(xv, aI cy 20 (va))], [(xc, aI cy 45 (co))], [(xe, aI cy 9 (ed))], [(xd, aI cy 2 (dd))], [(q_2, aI cy 27 (u_77.1))], [(q_8, aI cy 8 (g9))], [(q_14, aI cy 27 (f9))], [(q_19, aI cy 2 (u9.1))], [(q_25, aI cy 64 (u9.2.1))], [(q_31, aI cy 64 (u9.2.2.1))], [(q_37, aI cy 64 (u9.2.2.2))], u_795].flatten H := hP
                                      have hD : va_D A [[(xv, aI cy 20 (va))], [(xc, aI cy 45 (co))], [(xe, aI cy 9 (ed))], [(xd, aI cy 2 (dd))], [(q_2, aI cy 27 (u_77.1))], [(q_8, aI cy 8 (g9))], [(q_14, aI cy 27 (f9))], [(q_19, aI cy 2 (u9.1))], [(q_25, aI cy 64 (u9.2.1))], [(q_31, aI cy 64 (u9.2.2.1))], [(q_37, aI cy 64 (u9.2.2.2))], u_795].flatten := hD
                                      obtain ⟨rfl, h_795⟩ := h_795
                                      obtain ⟨fs_795, hfs_795⟩ := CW_at h_795
                                      refine lv_iload hx hb dL_told_798 (lv_at hl 20 rfl) ?_
                                      refine q_eq1 (tgt := 805) hx hb dL_told_800 (by decide) (by rw [cT_8]; first | (rw [culL_end (Or.inr (by omega))]) | (rw [culL_end (Or.inl (tn1 (hP1 k5 (by omega) (by omega)).1 c_701))])) ?_
                                      refine q_iinc (k := 19) (lv' := [(19, .int (qI ((((k5 : Nat) : Int)) + (1)))), (0, .ref (x)), (1, .int (qI (p1))), (2, .ref (xv)), (3, .ref (xc)), (4, .ref (xe)), (5, .ref (xd)), (6, .ref (q_2)), (7, .ref (q_8)), (8, .ref (q_14)), (9, .ref (q_19)), (10, .ref (q_25)), (11, .ref (q_31)), (12, .ref (q_37)), (13, .int (qI (((cnt (fOC (fil (lC T) (lN9 T) (lE T) (lM T) (-1))) (k5 + 1) : Nat) : Int)))), (14, .int (qI (((cnt (hoB (lV T) (lC T)) (k5 + 1) : Nat) : Int)))), (15, .int (qI (sumV (lV T) p9))), (16, .int (qI (((cnt (fixB (lC T) (lN9 T) (lE T) (lM T)) p9 : Nat) : Int)))), (17, .int (qI (widS (lC T) (lN9 T) (lE T) (lM T) p9))), (18, .int (qI (((cnt (fOE (fil (lC T) (lN9 T) (lE T) (lM T) (-1))) k4 : Nat) : Int)))), (20, .int (qI (((culL T k5 c9 : Nat) : Int)))), (21, .int (qI (((c9 : Nat) : Int))))]) hx hb dL_told_805 hl rfl (by decide) rfl (fun ls hl => ?_)
                                      refine lv_goto (tgt := 493) hx hb dL_told_808 (by decide) ?_
                                      refine W.widen (k := 141 + 936 * (k5 + 1)) (n := 1730 + 10296 * (k5 + 1)) (by omega) (by omega) ?_
                                      have hP := fl_sub (bs' := [u_795, [(xv, aI cy 20 (va))], [(xc, aI cy 45 (co))], [(xe, aI cy 9 (ed))], [(xd, aI cy 2 (dd))], [(q_2, aI cy 27 (u_77.1))], [(q_8, aI cy 8 (g9))], [(q_14, aI cy 27 (f9))], [(q_19, aI cy 2 (u9.1))], [(q_25, aI cy 64 (u9.2.1))], [(q_31, aI cy 64 (u9.2.2.1))], [(q_37, aI cy 64 (u9.2.2.2))]]) hP [11, 0, 1, 2, 3, 4, 5, 6, 7, 8, 9, 10] rfl
                                      have hD := fl_subD (bs' := [u_795, [(xv, aI cy 20 (va))], [(xc, aI cy 45 (co))], [(xe, aI cy 9 (ed))], [(xd, aI cy 2 (dd))], [(q_2, aI cy 27 (u_77.1))], [(q_8, aI cy 8 (g9))], [(q_14, aI cy 27 (f9))], [(q_19, aI cy 2 (u9.1))], [(q_25, aI cy 64 (u9.2.1))], [(q_31, aI cy 64 (u9.2.2.1))], [(q_37, aI cy 64 (u9.2.2.2))]]) hD [11, 0, 1, 2, 3, 4, 5, 6, 7, 8, 9, 10] (by decide) rfl
                                      exact ih_493 (k5 + 1) (u_795) _ _ _ (by omega) (by omega) h_795 _ _ _ hP hD hS (lv_sub hl [1, 2, 3, 4, 5, 6, 7, 8, 9, 10, 11, 12, 13, 14, 15, 16, 17, 18, 19, 0] rfl)
                                    · skip
                                      have hc9 := hP1 c9 (by omega) (by omega)
                                      have t9 := (fOC (fil (lC T) (lN9 T) (lE T) (lM T) (-1)) c9).toNat_le
                                      have r9 := turn_rng gC gE (by omega) (by omega) (show c9 < lN9 T by omega)
                                      refine lv_aload hx hb dL_told_704 (lv_at hl 6 rfl) ?_
                                      refine q_iconst hx hb dL_told_706 ?_
                                      refine lv_iload hx hb dL_told_707 (lv_at hl 21 rfl) ?_
                                      refine q_imul hx hb dL_told_709 ?_
                                      refine q_iald (j := (3 * c9)) hx hb hK (fl_blk hP 5 rfl) 0 rfl (by omega) dL_told_710 ?_
                                      refine q_if_eq (tgt := 784) hx hb dL_told_711 (by decide) (by omega) (fun c_711 => ?_) (fun c_711 => ?_)
                                      · skip
                                        refine q_iinc (k := 21) (lv' := [(21, .int (qI ((((c9 : Nat) : Int)) + (1)))), (0, .ref (x)), (1, .int (qI (p1))), (2, .ref (xv)), (3, .ref (xc)), (4, .ref (xe)), (5, .ref (xd)), (6, .ref (q_2)), (7, .ref (q_8)), (8, .ref (q_14)), (9, .ref (q_19)), (10, .ref (q_25)), (11, .ref (q_31)), (12, .ref (q_37)), (13, .int (qI (((cnt (fOC (fil (lC T) (lN9 T) (lE T) (lM T) (-1))) (k5 + 1) : Nat) : Int)))), (14, .int (qI (((cnt (hoB (lV T) (lC T)) (k5 + 1) : Nat) : Int)))), (15, .int (qI (sumV (lV T) p9))), (16, .int (qI (((cnt (fixB (lC T) (lN9 T) (lE T) (lM T)) p9 : Nat) : Int)))), (17, .int (qI (widS (lC T) (lN9 T) (lE T) (lM T) p9))), (18, .int (qI (((cnt (fOE (fil (lC T) (lN9 T) (lE T) (lM T) (-1))) k4 : Nat) : Int)))), (19, .int (qI (((k5 : Nat) : Int)))), (20, .int (qI (((culL T k5 c9 : Nat) : Int))))]) hx hb dL_told_784 hl rfl (by decide) rfl (fun ls hl => ?_)
                                        refine lv_goto (tgt := 685) hx hb dL_told_787 (by decide) ?_
                                        rw [show culL T k5 c9 = culL T k5 (c9 + 1) from (culL_no (tn0 hk5.1 c_701) (culB_no1 (tn0 hc9.1 c_711)))] at hl
                                        refine W.widen (k := 141 + 936 * k5 + 104 * (c9 + 1)) (n := 1730 + 10296 * k5 + 1144 * (c9 + 1)) (by omega) (by omega) ?_
                                        exact ih_685 (c9 + 1) _ _ _ (by omega) (by omega)  _ _ _ hP hD hS (lv_sub hl [1, 2, 3, 4, 5, 6, 7, 8, 9, 10, 11, 12, 13, 14, 15, 16, 17, 18, 19, 20, 21, 0] rfl)
                                      · skip
                                        refine lv_aload hx hb dL_told_714 (lv_at hl 6 rfl) ?_
                                        refine q_iconst hx hb dL_told_716 ?_
                                        refine lv_iload hx hb dL_told_717 (lv_at hl 21 rfl) ?_
                                        refine q_imul hx hb dL_told_719 ?_
                                        refine q_iconst hx hb dL_told_720 ?_
                                        refine q_iadd hx hb dL_told_721 ?_
                                        refine q_iald (j := ((3 * c9) + 2)) hx hb hK (fl_blk hP 5 rfl) 0 rfl (by omega) dL_told_722 ?_
                                        refine lv_aload hx hb dL_told_723 (lv_at hl 6 rfl) ?_
                                        refine q_iconst hx hb dL_told_725 ?_
                                        refine lv_iload hx hb dL_told_726 (lv_at hl 19 rfl) ?_
                                        refine q_imul hx hb dL_told_728 ?_
                                        refine q_iconst hx hb dL_told_729 ?_
                                        refine q_iadd hx hb dL_told_730 ?_
                                        refine q_iald (j := ((3 * k5) + 2)) hx hb hK (fl_blk hP 5 rfl) 0 rfl (by omega) dL_told_731 ?_
                                        refine q_icmp_le (tgt := 738) hx hb dL_told_732 (by decide) (by omega) (fun c_732 => ?_) (fun c_732 => ?_)
                                        · skip
                                          refine lv_iload hx hb dL_told_738 (lv_at hl 21 rfl) ?_
                                          refine lv_aload_n hx hb dL_told_740 rfl (lv_at hl 3 rfl) ?_
                                          refine lv_aload hx hb dL_told_741 (lv_at hl 4 rfl) ?_
                                          refine lv_aload hx hb dL_told_743 (lv_at hl 5 rfl) ?_
                                          refine lv_aload hx hb dL_told_745 (lv_at hl 8 rfl) ?_
                                          refine lv_aload hx hb dL_told_747 (lv_at hl 7 rfl) ?_
                                          refine lv_aload hx hb dL_told_749 (lv_at hl 9 rfl) ?_
                                          refine lv_aload hx hb dL_told_751 (lv_at hl 10 rfl) ?_
                                          refine lv_aload hx hb dL_told_753 (lv_at hl 11 rfl) ?_
                                          refine lv_aload hx hb dL_told_755 (lv_at hl 12 rfl) ?_
                                          refine q_backKv (mc := 104) (ms := 1144) [2, 3, 4, 7, 6, 8, 9, 10, 11] [0, 1, 5] (br := [u_656, [(xv, aI cy 20 (va))], [(q_2, aI cy 27 (u_77.1))]]) hP hD hS hA (va_runS (As := [.int (qI (((c9 : Nat) : Int))), .ref (xc), .ref (xe), .ref (xd), .ref (q_14), .ref (q_8), .ref (q_19), .ref (q_25), .ref (q_31), .ref (q_37)]) (rest := []) ⟨hx, hb, hml, hown, hg⟩ (c_L_all l D cy xc xe xd q_14 q_8 q_19 q_25 q_31 q_37 co ed dd f9 g9 (u9.1, u9.2.1, u9.2.2.1, u9.2.2.2) (lC T) (lN9 T) (lE T) (lM T) gC gE hn (by omega) hco hed ⟨hd0, hd1⟩ 9 ⟨by omega, by omega⟩ ((c9 : Nat) : Int) (by omega) _) (cs_L_22 hg rfl rfl ⟨(Nat.le_of_ble_eq_true rfl), (Nat.le_of_ble_eq_true rfl)⟩) ⟨q_blind, q_preM _ hK hN hP hD [2, 3, 4, 7, 6, 8, 9, 10, 11] (by decide) rfl⟩ rfl rfl hl.1 rfl (lv_room (Nat.le_of_ble_eq_true rfl)) dL_told_757 ⟨(show 141 + 936 * k5 + 104 * c9 + 104 ≤ 8565 by omega), (show 1730 + 10296 * k5 + 1144 * c9 + 1144 ≤ 94394 by omega)⟩) rfl rfl (by decide) (fun u_757 H locs h_757 hP hD hS => ?_)
                                          have hP : va_P D vwCl [u_656, [(xv, aI cy 20 (va))], [(q_2, aI cy 27 (u_77.1))], [(xc, aI cy 45 (co))], [(xe, aI cy 9 (ed))], [(xd, aI cy 2 (dd))], [(q_14, aI cy 27 (u_757.1))], [(q_8, aI cy 8 (u_757.2.1))], [(q_19, aI cy 2 (u_757.2.2.1))], [(q_25, aI cy 64 (u_757.2.2.2.1))], [(q_31, aI cy 64 (u_757.2.2.2.2.1))], [(q_37, aI cy 64 (u_757.2.2.2.2.2))]].flatten H := hP
                                          have hD : va_D A [u_656, [(xv, aI cy 20 (va))], [(q_2, aI cy 27 (u_77.1))], [(xc, aI cy 45 (co))], [(xe, aI cy 9 (ed))], [(xd, aI cy 2 (dd))], [(q_14, aI cy 27 (u_757.1))], [(q_8, aI cy 8 (u_757.2.1))], [(q_19, aI cy 2 (u_757.2.2.1))], [(q_25, aI cy 64 (u_757.2.2.2.1))], [(q_31, aI cy 64 (u_757.2.2.2.2.1))], [(q_37, aI cy 64 (u_757.2.2.2.2.2))]].flatten := hD
                                          have hcb := culB_is gC (by omega) (by omega) (tn0 hk5.1 c_701) (tn1 hc9.1 c_711) (by omega)
                                          have hf2 := (h_757.1 k5 (by omega) (by omega)).1
                                          have t8 := (fOC (fil (lC T) (lN9 T) (lE T) (lM T) (c9 : Int)) k5).toNat_le
                                          refine lv_iload hx hb dL_told_760 (lv_at hl 20 rfl) ?_
                                          have K_781 : ∀ (z8 : Nat), ((culB (lC T) (lN9 T) (lE T) (lM T) k5 c9 = true ∧ z8 = 2 ^ c9) ∨ (culB (lC T) (lN9 T) (lE T) (lM T) k5 c9 = false ∧ z8 = 0)) → W p l e (qrc 8 8565 94394) s m args below meth c H locs (141 + 936 * k5 + 104 * c9 + 104) (1730 + 10296 * k5 + 1144 * c9 + 1144) Q (F0 m 781 ls [.int (qI (((z8 : Nat) : Int))), .int (qI (((culL T k5 c9 : Nat) : Int)))]) := by
                                            intro z8 hz8
                                            have lt9 := culL_lt (T := T) (k := k5) (n := c9) (by omega)
                                            refine q_ior (F := culL T k5 c9) (k := z8) hx hb (by omega) dL_told_781 ?_
                                            refine q_topZ (y := ((culL T k5 (c9 + 1) : Nat) : Int)) (by rw [culL_s (tn0 hk5.1 c_701) hz8]) ?_
                                            refine lv_istore (lv' := [(20, .int (qI (((culL T k5 (c9 + 1) : Nat) : Int)))), (0, .ref (x)), (1, .int (qI (p1))), (2, .ref (xv)), (3, .ref (xc)), (4, .ref (xe)), (5, .ref (xd)), (6, .ref (q_2)), (7, .ref (q_8)), (8, .ref (q_14)), (9, .ref (q_19)), (10, .ref (q_25)), (11, .ref (q_31)), (12, .ref (q_37)), (13, .int (qI (((cnt (fOC (fil (lC T) (lN9 T) (lE T) (lM T) (-1))) (k5 + 1) : Nat) : Int)))), (14, .int (qI (((cnt (hoB (lV T) (lC T)) (k5 + 1) : Nat) : Int)))), (15, .int (qI (sumV (lV T) p9))), (16, .int (qI (((cnt (fixB (lC T) (lN9 T) (lE T) (lM T)) p9 : Nat) : Int)))), (17, .int (qI (widS (lC T) (lN9 T) (lE T) (lM T) p9))), (18, .int (qI (((cnt (fOE (fil (lC T) (lN9 T) (lE T) (lM T) (-1))) k4 : Nat) : Int)))), (19, .int (qI (((k5 : Nat) : Int)))), (21, .int (qI (((c9 : Nat) : Int))))]) hx hb dL_told_782 hl (by decide) rfl (fun ls hl => ?_)
                                            refine q_iinc (k := 21) (lv' := [(21, .int (qI ((((c9 : Nat) : Int)) + (1)))), (20, .int (qI (((culL T k5 (c9 + 1) : Nat) : Int)))), (0, .ref (x)), (1, .int (qI (p1))), (2, .ref (xv)), (3, .ref (xc)), (4, .ref (xe)), (5, .ref (xd)), (6, .ref (q_2)), (7, .ref (q_8)), (8, .ref (q_14)), (9, .ref (q_19)), (10, .ref (q_25)), (11, .ref (q_31)), (12, .ref (q_37)), (13, .int (qI (((cnt (fOC (fil (lC T) (lN9 T) (lE T) (lM T) (-1))) (k5 + 1) : Nat) : Int)))), (14, .int (qI (((cnt (hoB (lV T) (lC T)) (k5 + 1) : Nat) : Int)))), (15, .int (qI (sumV (lV T) p9))), (16, .int (qI (((cnt (fixB (lC T) (lN9 T) (lE T) (lM T)) p9 : Nat) : Int)))), (17, .int (qI (widS (lC T) (lN9 T) (lE T) (lM T) p9))), (18, .int (qI (((cnt (fOE (fil (lC T) (lN9 T) (lE T) (lM T) (-1))) k4 : Nat) : Int)))), (19, .int (qI (((k5 : Nat) : Int))))]) hx hb dL_told_784 hl rfl (by decide) rfl (fun ls hl => ?_)
                                            refine lv_goto (tgt := 685) hx hb dL_told_787 (by decide) ?_
                                            refine W.widen (k := 141 + 936 * k5 + 104 * (c9 + 1)) (n := 1730 + 10296 * k5 + 1144 * (c9 + 1)) (by omega) (by omega) ?_
                                            have hP := fl_sub (bs' := [u_656, [(xv, aI cy 20 (va))], [(xc, aI cy 45 (co))], [(xe, aI cy 9 (ed))], [(xd, aI cy 2 (dd))], [(q_2, aI cy 27 (u_77.1))], [(q_8, aI cy 8 (u_757.2.1))], [(q_14, aI cy 27 (u_757.1))], [(q_19, aI cy 2 (u_757.2.2.1))], [(q_25, aI cy 64 (u_757.2.2.2.1))], [(q_31, aI cy 64 (u_757.2.2.2.2.1))], [(q_37, aI cy 64 (u_757.2.2.2.2.2))]]) hP [0, 1, 3, 4, 5, 2, 7, 6, 8, 9, 10, 11] rfl
                                            have hD := fl_subD (bs' := [u_656, [(xv, aI cy 20 (va))], [(xc, aI cy 45 (co))], [(xe, aI cy 9 (ed))], [(xd, aI cy 2 (dd))], [(q_2, aI cy 27 (u_77.1))], [(q_8, aI cy 8 (u_757.2.1))], [(q_14, aI cy 27 (u_757.1))], [(q_19, aI cy 2 (u_757.2.2.1))], [(q_25, aI cy 64 (u_757.2.2.2.1))], [(q_31, aI cy 64 (u_757.2.2.2.2.1))], [(q_37, aI cy 64 (u_757.2.2.2.2.2))]]) hD [0, 1, 3, 4, 5, 2, 7, 6, 8, 9, 10, 11] (by decide) rfl
                                            exact ih_685 (c9 + 1) _ _ _ (by omega) (by omega)  _ _ _ hP hD hS (lv_sub hl [2, 3, 4, 5, 6, 7, 8, 9, 10, 11, 12, 13, 14, 15, 16, 17, 18, 19, 20, 21, 1, 0] rfl)
                                          refine lv_aload hx hb dL_told_762 (lv_at hl 8 rfl) ?_
                                          refine q_iconst hx hb dL_told_764 ?_
                                          refine lv_iload hx hb dL_told_765 (lv_at hl 19 rfl) ?_
                                          refine q_imul hx hb dL_told_767 ?_
                                          refine q_iald (j := (3 * k5)) hx hb hK (fl_blk hP 6 rfl) 0 rfl (by omega) dL_told_768 ?_
                                          refine q_iconst hx hb dL_told_769 ?_
                                          refine q_icmp_ne (tgt := 780) hx hb dL_told_770 (by decide) (by omega) (fun c_770 => ?_) (fun c_770 => ?_)
                                          · skip
                                            refine q_iconst hx hb dL_told_780 ?_
                                            exact K_781 0 (Or.inr ⟨hcb.1.trans (tn0 hf2 (by omega)), rfl⟩)
                                          · skip
                                            refine q_iconst hx hb dL_told_773 ?_
                                            refine lv_iload hx hb dL_told_774 (lv_at hl 21 rfl) ?_
                                            refine q_ishl (F := 1) (k := c9) hx hb (by omega) (by have h16 : 2 ^ c9 ≤ 2 ^ 16 := Nat.pow_le_pow_right (by decide) (by omega); omega) dL_told_776 ?_
                                            refine lv_goto (tgt := 781) hx hb dL_told_777 (by decide) ?_
                                            exact K_781 (1 * 2 ^ c9) (Or.inl ⟨hcb.1.trans (tn1 hf2 (by omega)), Nat.one_mul _⟩)
                                        · skip
                                          refine lv_goto (tgt := 784) hx hb dL_told_735 (by decide) ?_
                                          refine q_iinc (k := 21) (lv' := [(21, .int (qI ((((c9 : Nat) : Int)) + (1)))), (0, .ref (x)), (1, .int (qI (p1))), (2, .ref (xv)), (3, .ref (xc)), (4, .ref (xe)), (5, .ref (xd)), (6, .ref (q_2)), (7, .ref (q_8)), (8, .ref (q_14)), (9, .ref (q_19)), (10, .ref (q_25)), (11, .ref (q_31)), (12, .ref (q_37)), (13, .int (qI (((cnt (fOC (fil (lC T) (lN9 T) (lE T) (lM T) (-1))) (k5 + 1) : Nat) : Int)))), (14, .int (qI (((cnt (hoB (lV T) (lC T)) (k5 + 1) : Nat) : Int)))), (15, .int (qI (sumV (lV T) p9))), (16, .int (qI (((cnt (fixB (lC T) (lN9 T) (lE T) (lM T)) p9 : Nat) : Int)))), (17, .int (qI (widS (lC T) (lN9 T) (lE T) (lM T) p9))), (18, .int (qI (((cnt (fOE (fil (lC T) (lN9 T) (lE T) (lM T) (-1))) k4 : Nat) : Int)))), (19, .int (qI (((k5 : Nat) : Int)))), (20, .int (qI (((culL T k5 c9 : Nat) : Int))))]) hx hb dL_told_784 hl rfl (by decide) rfl (fun ls hl => ?_)
                                          refine lv_goto (tgt := 685) hx hb dL_told_787 (by decide) ?_
                                          rw [show culL T k5 c9 = culL T k5 (c9 + 1) from (culL_no (tn0 hk5.1 c_701) (culB_no2 (by omega)))] at hl
                                          refine W.widen (k := 141 + 936 * k5 + 104 * (c9 + 1)) (n := 1730 + 10296 * k5 + 1144 * (c9 + 1)) (by omega) (by omega) ?_
                                          exact ih_685 (c9 + 1) _ _ _ (by omega) (by omega)  _ _ _ hP hD hS (lv_sub hl [1, 2, 3, 4, 5, 6, 7, 8, 9, 10, 11, 12, 13, 14, 15, 16, 17, 18, 19, 20, 21, 0] rfl)
                              refine W.widen (k := 141 + 936 * k5 + 104 * 0) (n := 1730 + 10296 * k5 + 1144 * 0) (by omega) (by omega) ?_
                              have hP := fl_sub (bs' := [u_656, [(xv, aI cy 20 (va))], [(xc, aI cy 45 (co))], [(xe, aI cy 9 (ed))], [(xd, aI cy 2 (dd))], [(q_2, aI cy 27 (u_77.1))], [(q_8, aI cy 8 (g8))], [(q_14, aI cy 27 (f8))], [(q_19, aI cy 2 (u8.1))], [(q_25, aI cy 64 (u8.2.1))], [(q_31, aI cy 64 (u8.2.2.1))], [(q_37, aI cy 64 (u8.2.2.2))]]) hP [11, 0, 1, 2, 3, 4, 5, 6, 7, 8, 9, 10] rfl
                              have hD := fl_subD (bs' := [u_656, [(xv, aI cy 20 (va))], [(xc, aI cy 45 (co))], [(xe, aI cy 9 (ed))], [(xd, aI cy 2 (dd))], [(q_2, aI cy 27 (u_77.1))], [(q_8, aI cy 8 (g8))], [(q_14, aI cy 27 (f8))], [(q_19, aI cy 2 (u8.1))], [(q_25, aI cy 64 (u8.2.1))], [(q_31, aI cy 64 (u8.2.2.1))], [(q_37, aI cy 64 (u8.2.2.2))]]) hD [11, 0, 1, 2, 3, 4, 5, 6, 7, 8, 9, 10] (by decide) rfl
                              exact L_685 (lN9 T + 1) (0) (f8) (g8) (u8) (by omega) (by omega)  _ _ _ hP hD hS (lv_sub hl [2, 3, 4, 5, 6, 7, 8, 9, 10, 11, 12, 13, 14, 15, 16, 17, 18, 19, 20, 21, 1, 0] rfl)
                            refine lv_iload hx hb dL_told_659 (lv_at hl 19 rfl) ?_
                            refine lv_aload_n hx hb dL_told_661 rfl (lv_at hl 2 rfl) ?_
                            refine lv_aload_n hx hb dL_told_662 rfl (lv_at hl 3 rfl) ?_
                            refine q_readz (va_runS (As := [.int (qI (((k5 : Nat) : Int))), .ref (xv), .ref (xc)]) (rest := [.int (qI (coT T k5 (9)))]) ⟨hx, hb, hml, hown, hg⟩ (c_L_holds l D cy xv xc va co (lV T) (lC T) (lN9 T) gC hn hco hv gV k5 _ (by omega)) (cs_L_45 hg rfl rfl ⟨(Nat.le_of_ble_eq_true rfl), (Nat.le_of_ble_eq_true rfl)⟩) ⟨q_blind0, q_preR _ hK hN hP [0, 1] rfl⟩ rfl rfl hl.1 rfl (lv_room (Nat.le_of_ble_eq_true rfl)) dL_told_663 ⟨(show 141 + 936 * k5 + 0 ≤ 8565 by omega), (show 1730 + 10296 * k5 + 0 ≤ 94394 by omega)⟩) (fun b_663 h_663 => ?_)
                            refine q_ifz_eq (tgt := 673) hx hb dL_told_666 (by decide) (fun c_666 => ?_) (fun c_666 => ?_)
                            · skip
                              refine q_iconst hx hb dL_told_673 ?_
                              exact K_674 (0) (by rw [cT_9, ← h_663, c_666]; rfl)
                            · skip
                              refine q_iconst hx hb dL_told_669 ?_
                              refine lv_goto (tgt := 674) hx hb dL_told_670 (by decide) ?_
                              exact K_674 (1) (by rw [cT_9, ← h_663, c_666]; rfl)
                          · skip
                            refine lv_aload_n hx hb dL_told_543 rfl (lv_at hl 0 rfl) ?_
                            refine lv_iload hx hb dL_told_544 (lv_at hl 19 rfl) ?_
                            refine lv_iload hx hb dL_told_546 (lv_at hl 20 rfl) ?_
                            refine q_backKi (mc := 0) (ms := 0) [0] [1, 2, 3, 4, 5, 6, 7, 8, 9, 10, 11] (br := [[(xv, aI cy 20 (va))], [(xc, aI cy 45 (co))], [(xe, aI cy 9 (ed))], [(xd, aI cy 2 (dd))], [(q_2, aI cy 27 (u_77.1))], [(q_8, aI cy 8 (g8))], [(q_14, aI cy 27 (f8))], [(q_19, aI cy 2 (u8.1))], [(q_25, aI cy 64 (u8.2.1))], [(q_31, aI cy 64 (u8.2.2.1))], [(q_37, aI cy 64 (u8.2.2.2))]]) hP hD hS hA (va_runV (As := [.int (qI (((k5 : Nat) : Int))), .int (qI (((i5 : Nat) : Int)))]) (rest := []) ⟨hx, hb, hml, hown, hg⟩ (c_X7_condition l D cy x la lv9 ls9 fa xh xs la2 lv92 ls92 fb fw bu ta rc re gb oc oe rs rc2 re2 gb2 oc2 oe2 rs2 rr ad T hz HZ len tx _ hG hW5 _ _ k5 (by omega) (by omega) _) (cv_L_49 hg rfl rfl ⟨(Nat.le_of_ble_eq_true rfl), (Nat.le_of_ble_eq_true rfl)⟩) ⟨q_blind, va_recv hK (fl_blk hP 0 rfl) (ci := 7) (q0 := 0) rfl hfsW5, q_preM _ hK hN hP hD [0] (by decide) rfl⟩ rfl rfl hl.1 rfl (lv_room (Nat.le_of_ble_eq_true rfl)) dL_told_548 ⟨(show 141 + 936 * k5 + 0 ≤ 8565 by omega), (show 1730 + 10296 * k5 + 0 ≤ 94394 by omega)⟩) rfl rfl (by decide) (fun r_548 u_548 H locs h_548 hP hD hS => ?_)
                            have hP : va_P D vwCl [[(xv, aI cy 20 (va))], [(xc, aI cy 45 (co))], [(xe, aI cy 9 (ed))], [(xd, aI cy 2 (dd))], [(q_2, aI cy 27 (u_77.1))], [(q_8, aI cy 8 (g8))], [(q_14, aI cy 27 (f8))], [(q_19, aI cy 2 (u8.1))], [(q_25, aI cy 64 (u8.2.1))], [(q_31, aI cy 64 (u8.2.2.1))], [(q_37, aI cy 64 (u8.2.2.2))], u_548].flatten H := hP
                            have hD : va_D A [[(xv, aI cy 20 (va))], [(xc, aI cy 45 (co))], [(xe, aI cy 9 (ed))], [(xd, aI cy 2 (dd))], [(q_2, aI cy 27 (u_77.1))], [(q_8, aI cy 8 (g8))], [(q_14, aI cy 27 (f8))], [(q_19, aI cy 2 (u8.1))], [(q_25, aI cy 64 (u8.2.1))], [(q_31, aI cy 64 (u8.2.2.1))], [(q_37, aI cy 64 (u8.2.2.2))], u_548].flatten := hD
                            obtain ⟨rfl, h_548⟩ := h_548
                            obtain ⟨fs_548, hfs_548⟩ := CW_at h_548
                            have hq := hco k5 (by omega)
                            have gq := gC k5 (by omega)
                            have ho9 := oN_or (lC T 1 k5) (by omega)
                            have K_583 : ∀ (z6 : Int), (coT T k5 ((i5 : Nat) : Int) = z6) → W p l e (qrc 8 8565 94394) s m args below meth c H locs (141 + 936 * k5) (1730 + 10296 * k5) Q (F0 m 583 ls [.int (qI (z6)), .int (qI (coT T k5 (((i5 : Nat) : Int))))]) := by
                              intro z6 hz6
                              refine q_eq1 (tgt := 588) hx hb dL_told_583 (by decide) hz6 ?_
                              refine q_iinc (k := 20) (lv' := [(20, .int (qI ((((i5 : Nat) : Int)) + (1)))), (0, .ref (x)), (1, .int (qI (p1))), (2, .ref (xv)), (3, .ref (xc)), (4, .ref (xe)), (5, .ref (xd)), (6, .ref (q_2)), (7, .ref (q_8)), (8, .ref (q_14)), (9, .ref (q_19)), (10, .ref (q_25)), (11, .ref (q_31)), (12, .ref (q_37)), (13, .int (qI (((cnt (fOC (fil (lC T) (lN9 T) (lE T) (lM T) (-1))) (k5 + 1) : Nat) : Int)))), (14, .int (qI (((cnt (hoB (lV T) (lC T)) (k5 + 1) : Nat) : Int)))), (15, .int (qI (sumV (lV T) p9))), (16, .int (qI (((cnt (fixB (lC T) (lN9 T) (lE T) (lM T)) p9 : Nat) : Int)))), (17, .int (qI (widS (lC T) (lN9 T) (lE T) (lM T) p9))), (18, .int (qI (((cnt (fOE (fil (lC T) (lN9 T) (lE T) (lM T) (-1))) k4 : Nat) : Int)))), (19, .int (qI (((k5 : Nat) : Int))))]) hx hb dL_told_588 hl rfl (by decide) rfl (fun ls hl => ?_)
                              refine lv_goto (tgt := 537) hx hb dL_told_591 (by decide) ?_
                              have hP := fl_sub (bs' := [u_548, [(xv, aI cy 20 (va))], [(xc, aI cy 45 (co))], [(xe, aI cy 9 (ed))], [(xd, aI cy 2 (dd))], [(q_2, aI cy 27 (u_77.1))], [(q_8, aI cy 8 (g8))], [(q_14, aI cy 27 (f8))], [(q_19, aI cy 2 (u8.1))], [(q_25, aI cy 64 (u8.2.1))], [(q_31, aI cy 64 (u8.2.2.1))], [(q_37, aI cy 64 (u8.2.2.2))]]) hP [11, 0, 1, 2, 3, 4, 5, 6, 7, 8, 9, 10] rfl
                              have hD := fl_subD (bs' := [u_548, [(xv, aI cy 20 (va))], [(xc, aI cy 45 (co))], [(xe, aI cy 9 (ed))], [(xd, aI cy 2 (dd))], [(q_2, aI cy 27 (u_77.1))], [(q_8, aI cy 8 (g8))], [(q_14, aI cy 27 (f8))], [(q_19, aI cy 2 (u8.1))], [(q_25, aI cy 64 (u8.2.1))], [(q_31, aI cy 64 (u8.2.2.1))], [(q_37, aI cy 64 (u8.2.2.2))]]) hD [11, 0, 1, 2, 3, 4, 5, 6, 7, 8, 9, 10] (by decide) rfl
                              exact ih_537 (i5 + 1) (u_548) (by omega) (by omega) h_548 _ _ _ hP hD hS (lv_sub hl [1, 2, 3, 4, 5, 6, 7, 8, 9, 10, 11, 12, 13, 14, 15, 16, 17, 18, 19, 20, 0] rfl)
                            have hq := hco k5 (by omega)
                            have gq := gC k5 (by omega)
                            have ho9 := oN_or (lC T 1 k5) (by omega)
                            refine lv_iload hx hb dL_told_551 (lv_at hl 20 rfl) ?_
                            refine q_iconst hx hb dL_told_553 ?_
                            refine q_icmp_ne (tgt := 574) hx hb dL_told_554 (by decide) (by omega) (fun c_554 => ?_) (fun c_554 => ?_)
                            · skip
                              refine lv_aload_n hx hb dL_told_574 rfl (lv_at hl 3 rfl) ?_
                              refine q_iconst hx hb dL_told_575 ?_
                              refine lv_iload hx hb dL_told_576 (lv_at hl 19 rfl) ?_
                              refine q_imul hx hb dL_told_578 ?_
                              refine lv_iload hx hb dL_told_579 (lv_at hl 20 rfl) ?_
                              refine q_iadd hx hb dL_told_581 ?_
                              refine q_iald (j := ((5 * k5) + i5)) hx hb hK (fl_blk hP 1 rfl) 0 rfl (by omega) dL_told_582 ?_
                              exact K_583 (co ((5 * k5) + i5)) (by rw [cT_i hco (by omega) (by omega)]; first | (rw [if_neg (by omega)]) | (rw [if_pos (by omega), show 5 * k5 + i5 = 5 * k5 + 1 by omega]; omega))
                            · skip
                              refine lv_aload_n hx hb dL_told_557 rfl (lv_at hl 3 rfl) ?_
                              refine q_iconst hx hb dL_told_558 ?_
                              refine lv_iload hx hb dL_told_559 (lv_at hl 19 rfl) ?_
                              refine q_imul hx hb dL_told_561 ?_
                              refine q_iconst hx hb dL_told_562 ?_
                              refine q_iadd hx hb dL_told_563 ?_
                              refine q_iald (j := ((5 * k5) + 1)) hx hb hK (fl_blk hP 1 rfl) 0 rfl (by omega) dL_told_564 ?_
                              refine q_bipush hx hb dL_told_565 (by decide) ?_
                              refine q_icmp_ne (tgt := 574) hx hb dL_told_567 (by decide) (by omega) (fun c_567 => ?_) (fun c_567 => ?_)
                              · skip
                                refine lv_aload_n hx hb dL_told_574 rfl (lv_at hl 3 rfl) ?_
                                refine q_iconst hx hb dL_told_575 ?_
                                refine lv_iload hx hb dL_told_576 (lv_at hl 19 rfl) ?_
                                refine q_imul hx hb dL_told_578 ?_
                                refine lv_iload hx hb dL_told_579 (lv_at hl 20 rfl) ?_
                                refine q_iadd hx hb dL_told_581 ?_
                                refine q_iald (j := ((5 * k5) + i5)) hx hb hK (fl_blk hP 1 rfl) 0 rfl (by omega) dL_told_582 ?_
                                exact K_583 (co ((5 * k5) + i5)) (by rw [cT_i hco (by omega) (by omega)]; first | (rw [if_neg (by omega)]) | (rw [if_pos (by omega), show 5 * k5 + i5 = 5 * k5 + 1 by omega]; omega))
                              · skip
                                refine q_iconst hx hb dL_told_570 ?_
                                refine lv_goto (tgt := 583) hx hb dL_told_571 (by decide) ?_
                                exact K_583 (-1) (by rw [cT_i hco (by omega) (by omega), if_pos (by omega)]; omega)
                      exact L_537 (5 + 1) (0) (W4) (by omega) (by omega) hW4 _ _ _ hP hD hS (lv_sub hl [3, 4, 5, 6, 7, 8, 9, 10, 11, 12, 13, 14, 15, 2, 1, 16, 17, 18, 19, 20, 0] rfl)
                    refine lv_iload hx hb dL_told_516 (lv_at hl 19 rfl) ?_
                    refine lv_aload_n hx hb dL_told_518 rfl (lv_at hl 3 rfl) ?_
                    refine lv_aload_n hx hb dL_told_519 rfl (lv_at hl 4 rfl) ?_
                    refine q_readz (va_runS (As := [.int (qI (((k5 : Nat) : Int))), .ref (xv), .ref (xc)]) (rest := [.int (qI (((cnt (hoB (lV T) (lC T)) k5 : Nat) : Int)))]) ⟨hx, hb, hml, hown, hg⟩ (c_L_holds l D cy xv xc va co (lV T) (lC T) (lN9 T) gC hn hco hv gV k5 _ (by omega)) (cs_L_45 hg rfl rfl ⟨(Nat.le_of_ble_eq_true rfl), (Nat.le_of_ble_eq_true rfl)⟩) ⟨q_blind0, q_preR _ hK hN hP [1, 2] rfl⟩ rfl rfl hl.1 rfl (lv_room (Nat.le_of_ble_eq_true rfl)) dL_told_520 ⟨(show 141 + 936 * k5 + 0 ≤ 8565 by omega), (show 1730 + 10296 * k5 + 0 ≤ 94394 by omega)⟩) (fun b_520 h_520 => ?_)
                    refine q_ifz_eq (tgt := 530) hx hb dL_told_523 (by decide) (fun c_523 => ?_) (fun c_523 => ?_)
                    · skip
                      refine q_iconst hx hb dL_told_530 ?_
                      exact K_531 (0) (Or.inr ⟨h_520.symm.trans c_523, rfl⟩)
                    · skip
                      refine q_iconst hx hb dL_told_526 ?_
                      refine lv_goto (tgt := 531) hx hb dL_told_527 (by decide) ?_
                      exact K_531 (1) (Or.inl ⟨h_520.symm.trans c_523, rfl⟩)
              refine W.widen (k := 141 + 936 * 0) (n := 1730 + 10296 * 0) (by omega) (by omega) ?_
              exact L_493 (lN9 T + 1) (0) (W2) (fun _ => 0) (u_77.2.1) (u_77.2.2) (by omega) (by omega) hW2 _ _ _ hP hD hS (lv_sub hl [1, 2, 3, 4, 5, 6, 7, 8, 9, 10, 11, 12, 13, 14, 15, 16, 17, 18, 19, 0] rfl)
            · skip
              refine lv_iload hx hb dL_told_396 (lv_at hl 18 rfl) ?_
              refine lv_aload hx hb dL_told_398 (lv_at hl 7 rfl) ?_
              refine q_iconst hx hb dL_told_400 ?_
              refine lv_iload hx hb dL_told_401 (lv_at hl 19 rfl) ?_
              refine q_imul hx hb dL_told_403 ?_
              refine q_iald (j := (2 * k4)) hx hb hK (fl_blk hP 6 rfl) 0 rfl (by omega) dL_told_404 ?_
              refine q_iadd hx hb dL_told_405 ?_
              refine q_topZ (y := ((cnt (fOE (fil (lC T) (lN9 T) (lE T) (lM T) (-1))) (k4 + 1) : Nat) : Int)) (cnt_t (hP2 k4 (by omega)).1) ?_
              refine lv_istore (lv' := [(18, .int (qI (((cnt (fOE (fil (lC T) (lN9 T) (lE T) (lM T) (-1))) (k4 + 1) : Nat) : Int)))), (0, .ref (x)), (1, .int (qI (p1))), (2, .ref (xv)), (3, .ref (xc)), (4, .ref (xe)), (5, .ref (xd)), (6, .ref (q_2)), (7, .ref (q_8)), (8, .ref (q_14)), (9, .ref (q_19)), (10, .ref (q_25)), (11, .ref (q_31)), (12, .ref (q_37)), (13, .int (qI (0))), (14, .int (qI (0))), (15, .int (qI (sumV (lV T) p9))), (16, .int (qI (((cnt (fixB (lC T) (lN9 T) (lE T) (lM T)) p9 : Nat) : Int)))), (17, .int (qI (widS (lC T) (lN9 T) (lE T) (lM T) p9))), (19, .int (qI (((k4 : Nat) : Int))))]) hx hb dL_told_406 hl (by decide) rfl (fun ls hl => ?_)
              refine q_iconst hx hb dL_told_408 ?_
              refine lv_istore (lv' := [(20, .int (qI (0))), (18, .int (qI (((cnt (fOE (fil (lC T) (lN9 T) (lE T) (lM T) (-1))) (k4 + 1) : Nat) : Int)))), (0, .ref (x)), (1, .int (qI (p1))), (2, .ref (xv)), (3, .ref (xc)), (4, .ref (xe)), (5, .ref (xd)), (6, .ref (q_2)), (7, .ref (q_8)), (8, .ref (q_14)), (9, .ref (q_19)), (10, .ref (q_25)), (11, .ref (q_31)), (12, .ref (q_37)), (13, .int (qI (0))), (14, .int (qI (0))), (15, .int (qI (sumV (lV T) p9))), (16, .int (qI (((cnt (fixB (lC T) (lN9 T) (lE T) (lM T)) p9 : Nat) : Int)))), (17, .int (qI (widS (lC T) (lN9 T) (lE T) (lM T) p9))), (19, .int (qI (((k4 : Nat) : Int))))]) hx hb dL_told_409 hl (by decide) rfl (fun ls hl => ?_)
              have L_411 : ∀ (n_411 i9 : Nat) (W3 : va_W), i9 ≤ 3 → 3 + 1 ≤ i9 + n_411 → (CW cy x la lv9 ls9 fa xh xs la2 lv92 ls92 fb fw bu ta rc re gb oc oe rs rc2 re2 gb2 oc2 oe2 rs2 rr ad T hz HZ len tx W3) → ∀ (H : Heap) (locs : List Loc) (ls : Array Slot), va_P D vwCl [W3, [(xv, aI cy 20 (va))], [(xc, aI cy 45 (co))], [(xe, aI cy 9 (ed))], [(xd, aI cy 2 (dd))], [(q_2, aI cy 27 (u_77.1))], [(q_8, aI cy 8 (u_77.2.1))], [(q_14, aI cy 27 ((fun _ => 0)))], [(q_19, aI cy 2 (u_77.2.2.1))], [(q_25, aI cy 64 (u_77.2.2.2.1))], [(q_31, aI cy 64 (u_77.2.2.2.2.1))], [(q_37, aI cy 64 (u_77.2.2.2.2.2))]].flatten H → va_D A [W3, [(xv, aI cy 20 (va))], [(xc, aI cy 45 (co))], [(xe, aI cy 9 (ed))], [(xd, aI cy 2 (dd))], [(q_2, aI cy 27 (u_77.1))], [(q_8, aI cy 8 (u_77.2.1))], [(q_14, aI cy 27 ((fun _ => 0)))], [(q_19, aI cy 2 (u_77.2.2.1))], [(q_25, aI cy 64 (u_77.2.2.2.1))], [(q_31, aI cy 64 (u_77.2.2.2.2.1))], [(q_37, aI cy 64 (u_77.2.2.2.2.2))]].flatten → va_S A s.heap H locs → lv_has ls 25 [(0, .ref (x)), (1, .int (qI (p1))), (2, .ref (xv)), (3, .ref (xc)), (4, .ref (xe)), (5, .ref (xd)), (6, .ref (q_2)), (7, .ref (q_8)), (8, .ref (q_14)), (9, .ref (q_19)), (10, .ref (q_25)), (11, .ref (q_31)), (12, .ref (q_37)), (13, .int (qI (0))), (14, .int (qI (0))), (15, .int (qI (sumV (lV T) p9))), (16, .int (qI (((cnt (fixB (lC T) (lN9 T) (lE T) (lM T)) p9 : Nat) : Int)))), (17, .int (qI (widS (lC T) (lN9 T) (lE T) (lM T) p9))), (18, .int (qI (((cnt (fOE (fil (lC T) (lN9 T) (lE T) (lM T) (-1))) (k4 + 1) : Nat) : Int)))), (19, .int (qI (((k4 : Nat) : Int)))), (20, .int (qI (((i9 : Nat) : Int))))] → W p l e (qrc 8 8565 94394) s m args below meth c H locs (141) (1730) Q (F0 m 411 ls []) := by
                intro n_411
                induction n_411 with
                | zero => intro i9 _ h1 h2; exact absurd h2 (by omega)
                | succ n_411 ih_411 =>
                  intro i9 W3 hk_411 hn_411 hW3 H locs ls hP hD hS hl
                  obtain ⟨fsW3, hfsW3⟩ := CW_at hW3
                  refine lv_iload hx hb dL_told_411 (lv_at hl 20 rfl) ?_
                  refine q_iconst hx hb dL_told_413 ?_
                  refine q_icmp_ge (tgt := 446) hx hb dL_told_414 (by decide) (by omega) (fun c_414 => ?_) (fun c_414 => ?_)
                  · skip
                    refine lv_aload_n hx hb dL_told_446 rfl (lv_at hl 0 rfl) ?_
                    refine lv_iload hx hb dL_told_447 (lv_at hl 19 rfl) ?_
                    refine q_iconst hx hb dL_told_449 ?_
                    refine q_backKi (mc := 0) (ms := 0) [0] [1, 2, 3, 4, 5, 6, 7, 8, 9, 10, 11] (br := [[(xv, aI cy 20 (va))], [(xc, aI cy 45 (co))], [(xe, aI cy 9 (ed))], [(xd, aI cy 2 (dd))], [(q_2, aI cy 27 (u_77.1))], [(q_8, aI cy 8 (u_77.2.1))], [(q_14, aI cy 27 ((fun _ => 0)))], [(q_19, aI cy 2 (u_77.2.2.1))], [(q_25, aI cy 64 (u_77.2.2.2.1))], [(q_31, aI cy 64 (u_77.2.2.2.2.1))], [(q_37, aI cy 64 (u_77.2.2.2.2.2))]]) hP hD hS hA (va_runV (As := [.int (qI (((k4 : Nat) : Int))), .int (qI (3))]) (rest := []) ⟨hx, hb, hml, hown, hg⟩ (c_X7_edited l D cy x la lv9 ls9 fa xh xs la2 lv92 ls92 fb fw bu ta rc re gb oc oe rs rc2 re2 gb2 oc2 oe2 rs2 rr ad T hz HZ len tx _ hG hW3 _ _ k4 (by omega) (by omega) _) (cv_L_42 hg rfl rfl ⟨(Nat.le_of_ble_eq_true rfl), (Nat.le_of_ble_eq_true rfl)⟩) ⟨q_blind, va_recv hK (fl_blk hP 0 rfl) (ci := 7) (q0 := 0) rfl hfsW3, q_preM _ hK hN hP hD [0] (by decide) rfl⟩ rfl rfl hl.1 rfl (lv_room (Nat.le_of_ble_eq_true rfl)) dL_told_450 ⟨(show 141 + 0 ≤ 8565 by omega), (show 1730 + 0 ≤ 94394 by omega)⟩) rfl rfl (by decide) (fun r_450 u_450 H locs h_450 hP hD hS => ?_)
                    have hP : va_P D vwCl [[(xv, aI cy 20 (va))], [(xc, aI cy 45 (co))], [(xe, aI cy 9 (ed))], [(xd, aI cy 2 (dd))], [(q_2, aI cy 27 (u_77.1))], [(q_8, aI cy 8 (u_77.2.1))], [(q_14, aI cy 27 ((fun _ => 0)))], [(q_19, aI cy 2 (u_77.2.2.1))], [(q_25, aI cy 64 (u_77.2.2.2.1))], [(q_31, aI cy 64 (u_77.2.2.2.2.1))], [(q_37, aI cy 64 (u_77.2.2.2.2.2))], u_450].flatten H := hP
                    have hD : va_D A [[(xv, aI cy 20 (va))], [(xc, aI cy 45 (co))], [(xe, aI cy 9 (ed))], [(xd, aI cy 2 (dd))], [(q_2, aI cy 27 (u_77.1))], [(q_8, aI cy 8 (u_77.2.1))], [(q_14, aI cy 27 ((fun _ => 0)))], [(q_19, aI cy 2 (u_77.2.2.1))], [(q_25, aI cy 64 (u_77.2.2.2.1))], [(q_31, aI cy 64 (u_77.2.2.2.2.1))], [(q_37, aI cy 64 (u_77.2.2.2.2.2))], u_450].flatten := hD
                    obtain ⟨rfl, h_450⟩ := h_450
                    obtain ⟨fs_450, hfs_450⟩ := CW_at h_450
                    refine lv_aload hx hb dL_told_453 (lv_at hl 7 rfl) ?_
                    refine q_iconst hx hb dL_told_455 ?_
                    refine lv_iload hx hb dL_told_456 (lv_at hl 19 rfl) ?_
                    refine q_imul hx hb dL_told_458 ?_
                    refine q_iald (j := (2 * k4)) hx hb hK (fl_blk hP 5 rfl) 0 rfl (by omega) dL_told_459 ?_
                    refine q_ne0 (tgt := 482) hx hb dL_told_460 (by decide) ((ed_3 T k4).trans (hP2 k4 (by omega)).1.symm) ?_
                    refine lv_aload_n hx hb dL_told_463 rfl (lv_at hl 0 rfl) ?_
                    refine lv_iload hx hb dL_told_464 (lv_at hl 19 rfl) ?_
                    refine q_iconst hx hb dL_told_466 ?_
                    refine q_backKi (mc := 0) (ms := 0) [11] [0, 1, 2, 3, 4, 5, 6, 7, 8, 9, 10] (br := [[(xv, aI cy 20 (va))], [(xc, aI cy 45 (co))], [(xe, aI cy 9 (ed))], [(xd, aI cy 2 (dd))], [(q_2, aI cy 27 (u_77.1))], [(q_8, aI cy 8 (u_77.2.1))], [(q_14, aI cy 27 ((fun _ => 0)))], [(q_19, aI cy 2 (u_77.2.2.1))], [(q_25, aI cy 64 (u_77.2.2.2.1))], [(q_31, aI cy 64 (u_77.2.2.2.2.1))], [(q_37, aI cy 64 (u_77.2.2.2.2.2))]]) hP hD hS hA (va_runV (As := [.int (qI (((k4 : Nat) : Int))), .int (qI (4))]) (rest := []) ⟨hx, hb, hml, hown, hg⟩ (c_X7_edited l D cy x la lv9 ls9 fa xh xs la2 lv92 ls92 fb fw bu ta rc re gb oc oe rs rc2 re2 gb2 oc2 oe2 rs2 rr ad T hz HZ len tx _ hG h_450 _ _ k4 (by omega) (by omega) _) (cv_L_42 hg rfl rfl ⟨(Nat.le_of_ble_eq_true rfl), (Nat.le_of_ble_eq_true rfl)⟩) ⟨q_blind, va_recv hK (fl_blk hP 11 rfl) (ci := 7) (q0 := 0) rfl hfs_450, q_preM _ hK hN hP hD [11] (by decide) rfl⟩ rfl rfl hl.1 rfl (lv_room (Nat.le_of_ble_eq_true rfl)) dL_told_467 ⟨(show 141 + 0 ≤ 8565 by omega), (show 1730 + 0 ≤ 94394 by omega)⟩) rfl rfl (by decide) (fun r_467 u_467 H locs h_467 hP hD hS => ?_)
                    have hP : va_P D vwCl [[(xv, aI cy 20 (va))], [(xc, aI cy 45 (co))], [(xe, aI cy 9 (ed))], [(xd, aI cy 2 (dd))], [(q_2, aI cy 27 (u_77.1))], [(q_8, aI cy 8 (u_77.2.1))], [(q_14, aI cy 27 ((fun _ => 0)))], [(q_19, aI cy 2 (u_77.2.2.1))], [(q_25, aI cy 64 (u_77.2.2.2.1))], [(q_31, aI cy 64 (u_77.2.2.2.2.1))], [(q_37, aI cy 64 (u_77.2.2.2.2.2))], u_467].flatten H := hP
                    have hD : va_D A [[(xv, aI cy 20 (va))], [(xc, aI cy 45 (co))], [(xe, aI cy 9 (ed))], [(xd, aI cy 2 (dd))], [(q_2, aI cy 27 (u_77.1))], [(q_8, aI cy 8 (u_77.2.1))], [(q_14, aI cy 27 ((fun _ => 0)))], [(q_19, aI cy 2 (u_77.2.2.1))], [(q_25, aI cy 64 (u_77.2.2.2.1))], [(q_31, aI cy 64 (u_77.2.2.2.2.1))], [(q_37, aI cy 64 (u_77.2.2.2.2.2))], u_467].flatten := hD
                    obtain ⟨rfl, h_467⟩ := h_467
                    obtain ⟨fs_467, hfs_467⟩ := CW_at h_467
                    refine lv_aload hx hb dL_told_470 (lv_at hl 7 rfl) ?_
                    refine q_iconst hx hb dL_told_472 ?_
                    refine lv_iload hx hb dL_told_473 (lv_at hl 19 rfl) ?_
                    refine q_imul hx hb dL_told_475 ?_
                    refine q_iconst hx hb dL_told_476 ?_
                    refine q_iadd hx hb dL_told_477 ?_
                    refine q_iald (j := ((2 * k4) + 1)) hx hb hK (fl_blk hP 5 rfl) 0 rfl (by omega) dL_told_478 ?_
                    refine q_eq1 (tgt := 484) hx hb dL_told_479 (by decide) ((ed_4 T k4).trans (hP2 k4 (by omega)).2.symm) ?_
                    refine q_iinc (k := 19) (lv' := [(19, .int (qI ((((k4 : Nat) : Int)) + (1)))), (0, .ref (x)), (1, .int (qI (p1))), (2, .ref (xv)), (3, .ref (xc)), (4, .ref (xe)), (5, .ref (xd)), (6, .ref (q_2)), (7, .ref (q_8)), (8, .ref (q_14)), (9, .ref (q_19)), (10, .ref (q_25)), (11, .ref (q_31)), (12, .ref (q_37)), (13, .int (qI (0))), (14, .int (qI (0))), (15, .int (qI (sumV (lV T) p9))), (16, .int (qI (((cnt (fixB (lC T) (lN9 T) (lE T) (lM T)) p9 : Nat) : Int)))), (17, .int (qI (widS (lC T) (lN9 T) (lE T) (lM T) p9))), (18, .int (qI (((cnt (fOE (fil (lC T) (lN9 T) (lE T) (lM T) (-1))) (k4 + 1) : Nat) : Int)))), (20, .int (qI (((i9 : Nat) : Int))))]) hx hb dL_told_484 hl rfl (by decide) rfl (fun ls hl => ?_)
                    refine lv_goto (tgt := 387) hx hb dL_told_487 (by decide) ?_
                    have hP := fl_sub (bs' := [u_467, [(xv, aI cy 20 (va))], [(xc, aI cy 45 (co))], [(xe, aI cy 9 (ed))], [(xd, aI cy 2 (dd))], [(q_2, aI cy 27 (u_77.1))], [(q_8, aI cy 8 (u_77.2.1))], [(q_14, aI cy 27 ((fun _ => 0)))], [(q_19, aI cy 2 (u_77.2.2.1))], [(q_25, aI cy 64 (u_77.2.2.2.1))], [(q_31, aI cy 64 (u_77.2.2.2.2.1))], [(q_37, aI cy 64 (u_77.2.2.2.2.2))]]) hP [11, 0, 1, 2, 3, 4, 5, 6, 7, 8, 9, 10] rfl
                    have hD := fl_subD (bs' := [u_467, [(xv, aI cy 20 (va))], [(xc, aI cy 45 (co))], [(xe, aI cy 9 (ed))], [(xd, aI cy 2 (dd))], [(q_2, aI cy 27 (u_77.1))], [(q_8, aI cy 8 (u_77.2.1))], [(q_14, aI cy 27 ((fun _ => 0)))], [(q_19, aI cy 2 (u_77.2.2.1))], [(q_25, aI cy 64 (u_77.2.2.2.1))], [(q_31, aI cy 64 (u_77.2.2.2.2.1))], [(q_37, aI cy 64 (u_77.2.2.2.2.2))]]) hD [11, 0, 1, 2, 3, 4, 5, 6, 7, 8, 9, 10] (by decide) rfl
                    exact ih_387 (k4 + 1) (u_467) (by omega) (by omega) h_467 _ _ _ hP hD hS (lv_sub hl [1, 2, 3, 4, 5, 6, 7, 8, 9, 10, 11, 12, 13, 14, 15, 16, 17, 18, 19, 0] rfl)
                  · skip
                    refine lv_aload_n hx hb dL_told_417 rfl (lv_at hl 0 rfl) ?_
                    refine lv_iload hx hb dL_told_418 (lv_at hl 19 rfl) ?_
                    refine lv_iload hx hb dL_told_420 (lv_at hl 20 rfl) ?_
                    refine q_backKi (mc := 0) (ms := 0) [0] [1, 2, 3, 4, 5, 6, 7, 8, 9, 10, 11] (br := [[(xv, aI cy 20 (va))], [(xc, aI cy 45 (co))], [(xe, aI cy 9 (ed))], [(xd, aI cy 2 (dd))], [(q_2, aI cy 27 (u_77.1))], [(q_8, aI cy 8 (u_77.2.1))], [(q_14, aI cy 27 ((fun _ => 0)))], [(q_19, aI cy 2 (u_77.2.2.1))], [(q_25, aI cy 64 (u_77.2.2.2.1))], [(q_31, aI cy 64 (u_77.2.2.2.2.1))], [(q_37, aI cy 64 (u_77.2.2.2.2.2))]]) hP hD hS hA (va_runV (As := [.int (qI (((k4 : Nat) : Int))), .int (qI (((i9 : Nat) : Int)))]) (rest := []) ⟨hx, hb, hml, hown, hg⟩ (c_X7_edited l D cy x la lv9 ls9 fa xh xs la2 lv92 ls92 fb fw bu ta rc re gb oc oe rs rc2 re2 gb2 oc2 oe2 rs2 rr ad T hz HZ len tx _ hG hW3 _ _ k4 (by omega) (by omega) _) (cv_L_42 hg rfl rfl ⟨(Nat.le_of_ble_eq_true rfl), (Nat.le_of_ble_eq_true rfl)⟩) ⟨q_blind, va_recv hK (fl_blk hP 0 rfl) (ci := 7) (q0 := 0) rfl hfsW3, q_preM _ hK hN hP hD [0] (by decide) rfl⟩ rfl rfl hl.1 rfl (lv_room (Nat.le_of_ble_eq_true rfl)) dL_told_422 ⟨(show 141 + 0 ≤ 8565 by omega), (show 1730 + 0 ≤ 94394 by omega)⟩) rfl rfl (by decide) (fun r_422 u_422 H locs h_422 hP hD hS => ?_)
                    have hP : va_P D vwCl [[(xv, aI cy 20 (va))], [(xc, aI cy 45 (co))], [(xe, aI cy 9 (ed))], [(xd, aI cy 2 (dd))], [(q_2, aI cy 27 (u_77.1))], [(q_8, aI cy 8 (u_77.2.1))], [(q_14, aI cy 27 ((fun _ => 0)))], [(q_19, aI cy 2 (u_77.2.2.1))], [(q_25, aI cy 64 (u_77.2.2.2.1))], [(q_31, aI cy 64 (u_77.2.2.2.2.1))], [(q_37, aI cy 64 (u_77.2.2.2.2.2))], u_422].flatten H := hP
                    have hD : va_D A [[(xv, aI cy 20 (va))], [(xc, aI cy 45 (co))], [(xe, aI cy 9 (ed))], [(xd, aI cy 2 (dd))], [(q_2, aI cy 27 (u_77.1))], [(q_8, aI cy 8 (u_77.2.1))], [(q_14, aI cy 27 ((fun _ => 0)))], [(q_19, aI cy 2 (u_77.2.2.1))], [(q_25, aI cy 64 (u_77.2.2.2.1))], [(q_31, aI cy 64 (u_77.2.2.2.2.1))], [(q_37, aI cy 64 (u_77.2.2.2.2.2))], u_422].flatten := hD
                    obtain ⟨rfl, h_422⟩ := h_422
                    obtain ⟨fs_422, hfs_422⟩ := CW_at h_422
                    refine lv_aload hx hb dL_told_425 (lv_at hl 4 rfl) ?_
                    refine q_iconst hx hb dL_told_427 ?_
                    refine lv_iload hx hb dL_told_428 (lv_at hl 19 rfl) ?_
                    refine q_imul hx hb dL_told_430 ?_
                    refine lv_iload hx hb dL_told_431 (lv_at hl 20 rfl) ?_
                    refine q_iadd hx hb dL_told_433 ?_
                    refine q_iald (j := ((3 * k4) + i9)) hx hb hK (fl_blk hP 2 rfl) 0 rfl (by omega) dL_told_434 ?_
                    refine q_eq1 (tgt := 440) hx hb dL_told_435 (by decide) (ed_i hed (by omega) (by omega)) ?_
                    refine q_iinc (k := 20) (lv' := [(20, .int (qI ((((i9 : Nat) : Int)) + (1)))), (0, .ref (x)), (1, .int (qI (p1))), (2, .ref (xv)), (3, .ref (xc)), (4, .ref (xe)), (5, .ref (xd)), (6, .ref (q_2)), (7, .ref (q_8)), (8, .ref (q_14)), (9, .ref (q_19)), (10, .ref (q_25)), (11, .ref (q_31)), (12, .ref (q_37)), (13, .int (qI (0))), (14, .int (qI (0))), (15, .int (qI (sumV (lV T) p9))), (16, .int (qI (((cnt (fixB (lC T) (lN9 T) (lE T) (lM T)) p9 : Nat) : Int)))), (17, .int (qI (widS (lC T) (lN9 T) (lE T) (lM T) p9))), (18, .int (qI (((cnt (fOE (fil (lC T) (lN9 T) (lE T) (lM T) (-1))) (k4 + 1) : Nat) : Int)))), (19, .int (qI (((k4 : Nat) : Int))))]) hx hb dL_told_440 hl rfl (by decide) rfl (fun ls hl => ?_)
                    refine lv_goto (tgt := 411) hx hb dL_told_443 (by decide) ?_
                    have hP := fl_sub (bs' := [u_422, [(xv, aI cy 20 (va))], [(xc, aI cy 45 (co))], [(xe, aI cy 9 (ed))], [(xd, aI cy 2 (dd))], [(q_2, aI cy 27 (u_77.1))], [(q_8, aI cy 8 (u_77.2.1))], [(q_14, aI cy 27 ((fun _ => 0)))], [(q_19, aI cy 2 (u_77.2.2.1))], [(q_25, aI cy 64 (u_77.2.2.2.1))], [(q_31, aI cy 64 (u_77.2.2.2.2.1))], [(q_37, aI cy 64 (u_77.2.2.2.2.2))]]) hP [11, 0, 1, 2, 3, 4, 5, 6, 7, 8, 9, 10] rfl
                    have hD := fl_subD (bs' := [u_422, [(xv, aI cy 20 (va))], [(xc, aI cy 45 (co))], [(xe, aI cy 9 (ed))], [(xd, aI cy 2 (dd))], [(q_2, aI cy 27 (u_77.1))], [(q_8, aI cy 8 (u_77.2.1))], [(q_14, aI cy 27 ((fun _ => 0)))], [(q_19, aI cy 2 (u_77.2.2.1))], [(q_25, aI cy 64 (u_77.2.2.2.1))], [(q_31, aI cy 64 (u_77.2.2.2.2.1))], [(q_37, aI cy 64 (u_77.2.2.2.2.2))]]) hD [11, 0, 1, 2, 3, 4, 5, 6, 7, 8, 9, 10] (by decide) rfl
                    exact ih_411 (i9 + 1) (u_422) (by omega) (by omega) h_422 _ _ _ hP hD hS (lv_sub hl [1, 2, 3, 4, 5, 6, 7, 8, 9, 10, 11, 12, 13, 14, 15, 16, 17, 18, 19, 20, 0] rfl)
              exact L_411 (3 + 1) (0) (W2) (by omega) (by omega) hW2 _ _ _ hP hD hS (lv_sub hl [2, 3, 4, 5, 6, 7, 8, 9, 10, 11, 12, 13, 14, 15, 16, 17, 18, 19, 1, 20, 0] rfl)
        refine W.widen (k := 141) (n := 1730) (by omega) (by omega) ?_
        exact L_387 (lM T + 1) (0) (W1) (by omega) (by omega) hW1 _ _ _ hP hD hS (lv_sub hl [1, 2, 3, 4, 5, 6, 7, 8, 9, 10, 11, 12, 13, 14, 15, 16, 17, 18, 19, 0] rfl)
      · skip
        have b1 := C9.2.2 p9 10 (by omega) (by decide)
        have b2 := C9.2.2 10 p9 (by decide) (by omega)
        refine lv_iload hx hb dL_told_90 (lv_at hl 19 rfl) ?_
        refine q_bipush hx hb dL_told_92 (by decide) ?_
        refine lv_aload hx hb dL_told_94 (lv_at hl 9 rfl) ?_
        refine lv_aload hx hb dL_told_96 (lv_at hl 10 rfl) ?_
        refine lv_aload hx hb dL_told_98 (lv_at hl 11 rfl) ?_
        refine lv_aload hx hb dL_told_100 (lv_at hl 12 rfl) ?_
        refine q_backKi (mc := 1) (ms := 11) [8, 9, 10, 11] [0, 1, 2, 3, 4, 5, 6, 7] (br := [W1, [(xv, aI cy 20 (va))], [(xc, aI cy 45 (co))], [(xe, aI cy 9 (ed))], [(xd, aI cy 2 (dd))], [(q_2, aI cy 27 (u_77.1))], [(q_8, aI cy 8 (u_77.2.1))], [(q_14, aI cy 27 ((fun _ => 0)))]]) hP hD hS hA (va_runS (As := [.int (qI (((p9 : Nat) : Int))), .int (qI (10)), .ref (q_19), .ref (q_25), .ref (q_31), .ref (q_37)]) (rest := []) ⟨hx, hb, hml, hown, hg⟩ (c_L_most l D cy q_19 q_25 q_31 q_37 u_77.2.2.1 u_77.2.2.2.1 u_77.2.2.2.2.1 u_77.2.2.2.2.2 n (fM (fil (lC T) (lN9 T) (lE T) (lM T) (-1))) ⟨hn1, by omega⟩ hR _ _ p9 10 (by omega) (by omega) _) (cs_L_8 hg rfl rfl ⟨(Nat.le_of_ble_eq_true rfl), (Nat.le_of_ble_eq_true rfl)⟩) ⟨q_blind, q_preM _ hK hN hP hD [8, 9, 10, 11] (by decide) rfl⟩ rfl rfl hl.1 rfl (lv_room (Nat.le_of_ble_eq_true rfl)) dL_told_102 ⟨(show 111 + 3 * p9 + 1 ≤ 8565 by omega), (show 1400 + 33 * p9 + 11 ≤ 94394 by omega)⟩) rfl rfl (by decide) (fun r_102 u_102 H locs h_102 hP hD hS => ?_)
        have hP : va_P D vwCl [W1, [(xv, aI cy 20 (va))], [(xc, aI cy 45 (co))], [(xe, aI cy 9 (ed))], [(xd, aI cy 2 (dd))], [(q_2, aI cy 27 (u_77.1))], [(q_8, aI cy 8 (u_77.2.1))], [(q_14, aI cy 27 ((fun _ => 0)))], [(q_19, aI cy 2 (u_77.2.2.1))], [(q_25, aI cy 64 (u_77.2.2.2.1))], [(q_31, aI cy 64 (u_77.2.2.2.2.1))], [(q_37, aI cy 64 (u_77.2.2.2.2.2))]].flatten H := hP
        have hD : va_D A [W1, [(xv, aI cy 20 (va))], [(xc, aI cy 45 (co))], [(xe, aI cy 9 (ed))], [(xd, aI cy 2 (dd))], [(q_2, aI cy 27 (u_77.1))], [(q_8, aI cy 8 (u_77.2.1))], [(q_14, aI cy 27 ((fun _ => 0)))], [(q_19, aI cy 2 (u_77.2.2.1))], [(q_25, aI cy 64 (u_77.2.2.2.1))], [(q_31, aI cy 64 (u_77.2.2.2.2.1))], [(q_37, aI cy 64 (u_77.2.2.2.2.2))]].flatten := hD
        subst h_102
        refine lv_istore (lv' := [(20, .int (qI ((fM (fil (lC T) (lN9 T) (lE T) (lM T) (-1))) p9 10))), (0, .ref (x)), (1, .int (qI (p1))), (2, .ref (xv)), (3, .ref (xc)), (4, .ref (xe)), (5, .ref (xd)), (6, .ref (q_2)), (7, .ref (q_8)), (8, .ref (q_14)), (9, .ref (q_19)), (10, .ref (q_25)), (11, .ref (q_31)), (12, .ref (q_37)), (13, .int (qI (0))), (14, .int (qI (0))), (15, .int (qI (sumV (lV T) p9))), (16, .int (qI (((cnt (fixB (lC T) (lN9 T) (lE T) (lM T)) p9 : Nat) : Int)))), (17, .int (qI (widS (lC T) (lN9 T) (lE T) (lM T) p9))), (18, .int (qI (0))), (19, .int (qI (((p9 : Nat) : Int))))]) hx hb dL_told_105 hl (by decide) rfl (fun ls hl => ?_)
        refine q_bipush hx hb dL_told_107 (by decide) ?_
        refine lv_iload hx hb dL_told_109 (lv_at hl 20 rfl) ?_
        refine lv_aload hx hb dL_told_111 (lv_at hl 10 rfl) ?_
        refine lv_aload hx hb dL_told_113 (lv_at hl 11 rfl) ?_
        refine lv_aload hx hb dL_told_115 (lv_at hl 12 rfl) ?_
        refine lv_aload hx hb dL_told_117 (lv_at hl 13 rfl) ?_
        refine q_backKi (mc := 1) (ms := 11) [8, 9, 10, 11] [0, 1, 2, 3, 4, 5, 6, 7] (br := [W1, [(xv, aI cy 20 (va))], [(xc, aI cy 45 (co))], [(xe, aI cy 9 (ed))], [(xd, aI cy 2 (dd))], [(q_2, aI cy 27 (u_77.1))], [(q_8, aI cy 8 (u_77.2.1))], [(q_14, aI cy 27 ((fun _ => 0)))]]) hP hD hS hA (va_runS (As := [.int (qI (10)), .int (qI (((p9 : Nat) : Int))), .ref (q_19), .ref (q_25), .ref (q_31), .ref (q_37)]) (rest := []) ⟨hx, hb, hml, hown, hg⟩ (c_L_most l D cy q_19 q_25 q_31 q_37 u_77.2.2.1 u_77.2.2.2.1 u_77.2.2.2.2.1 u_77.2.2.2.2.2 n (fM (fil (lC T) (lN9 T) (lE T) (lM T) (-1))) ⟨hn1, by omega⟩ hR _ _ 10 p9 (by omega) (by omega) _) (cs_L_8 hg rfl rfl ⟨(Nat.le_of_ble_eq_true rfl), (Nat.le_of_ble_eq_true rfl)⟩) ⟨q_blind, q_preM _ hK hN hP hD [8, 9, 10, 11] (by decide) rfl⟩ rfl rfl hl.1 rfl (lv_room (Nat.le_of_ble_eq_true rfl)) dL_told_119 ⟨(show 111 + 3 * p9 + 1 + 1 ≤ 8565 by omega), (show 1400 + 33 * p9 + 11 + 11 ≤ 94394 by omega)⟩) rfl rfl (by decide) (fun r_119 u_119 H locs h_119 hP hD hS => ?_)
        have hP : va_P D vwCl [W1, [(xv, aI cy 20 (va))], [(xc, aI cy 45 (co))], [(xe, aI cy 9 (ed))], [(xd, aI cy 2 (dd))], [(q_2, aI cy 27 (u_77.1))], [(q_8, aI cy 8 (u_77.2.1))], [(q_14, aI cy 27 ((fun _ => 0)))], [(q_19, aI cy 2 (u_77.2.2.1))], [(q_25, aI cy 64 (u_77.2.2.2.1))], [(q_31, aI cy 64 (u_77.2.2.2.2.1))], [(q_37, aI cy 64 (u_77.2.2.2.2.2))]].flatten H := hP
        have hD : va_D A [W1, [(xv, aI cy 20 (va))], [(xc, aI cy 45 (co))], [(xe, aI cy 9 (ed))], [(xd, aI cy 2 (dd))], [(q_2, aI cy 27 (u_77.1))], [(q_8, aI cy 8 (u_77.2.1))], [(q_14, aI cy 27 ((fun _ => 0)))], [(q_19, aI cy 2 (u_77.2.2.1))], [(q_25, aI cy 64 (u_77.2.2.2.1))], [(q_31, aI cy 64 (u_77.2.2.2.2.1))], [(q_37, aI cy 64 (u_77.2.2.2.2.2))]].flatten := hD
        subst h_119
        refine q_ineg hx hb dL_told_122 ?_
        refine lv_istore (lv' := [(21, .int (qI (-((fM (fil (lC T) (lN9 T) (lE T) (lM T) (-1))) 10 p9)))), (20, .int (qI ((fM (fil (lC T) (lN9 T) (lE T) (lM T) (-1))) p9 10))), (0, .ref (x)), (1, .int (qI (p1))), (2, .ref (xv)), (3, .ref (xc)), (4, .ref (xe)), (5, .ref (xd)), (6, .ref (q_2)), (7, .ref (q_8)), (8, .ref (q_14)), (9, .ref (q_19)), (10, .ref (q_25)), (11, .ref (q_31)), (12, .ref (q_37)), (13, .int (qI (0))), (14, .int (qI (0))), (15, .int (qI (sumV (lV T) p9))), (16, .int (qI (((cnt (fixB (lC T) (lN9 T) (lE T) (lM T)) p9 : Nat) : Int)))), (17, .int (qI (widS (lC T) (lN9 T) (lE T) (lM T) p9))), (18, .int (qI (0))), (19, .int (qI (((p9 : Nat) : Int))))]) hx hb dL_told_123 hl (by decide) rfl (fun ls hl => ?_)
        refine q_iconst hx hb dL_told_125 ?_
        refine lv_istore (lv' := [(22, .int (qI (0))), (21, .int (qI (-((fM (fil (lC T) (lN9 T) (lE T) (lM T) (-1))) 10 p9)))), (20, .int (qI ((fM (fil (lC T) (lN9 T) (lE T) (lM T) (-1))) p9 10))), (0, .ref (x)), (1, .int (qI (p1))), (2, .ref (xv)), (3, .ref (xc)), (4, .ref (xe)), (5, .ref (xd)), (6, .ref (q_2)), (7, .ref (q_8)), (8, .ref (q_14)), (9, .ref (q_19)), (10, .ref (q_25)), (11, .ref (q_31)), (12, .ref (q_37)), (13, .int (qI (0))), (14, .int (qI (0))), (15, .int (qI (sumV (lV T) p9))), (16, .int (qI (((cnt (fixB (lC T) (lN9 T) (lE T) (lM T)) p9 : Nat) : Int)))), (17, .int (qI (widS (lC T) (lN9 T) (lE T) (lM T) p9))), (18, .int (qI (0))), (19, .int (qI (((p9 : Nat) : Int))))]) hx hb dL_told_126 hl (by decide) rfl (fun ls hl => ?_)
        refine q_iconst hx hb dL_told_128 ?_
        refine lv_istore (lv' := [(23, .int (qI (-1))), (22, .int (qI (0))), (21, .int (qI (-((fM (fil (lC T) (lN9 T) (lE T) (lM T) (-1))) 10 p9)))), (20, .int (qI ((fM (fil (lC T) (lN9 T) (lE T) (lM T) (-1))) p9 10))), (0, .ref (x)), (1, .int (qI (p1))), (2, .ref (xv)), (3, .ref (xc)), (4, .ref (xe)), (5, .ref (xd)), (6, .ref (q_2)), (7, .ref (q_8)), (8, .ref (q_14)), (9, .ref (q_19)), (10, .ref (q_25)), (11, .ref (q_31)), (12, .ref (q_37)), (13, .int (qI (0))), (14, .int (qI (0))), (15, .int (qI (sumV (lV T) p9))), (16, .int (qI (((cnt (fixB (lC T) (lN9 T) (lE T) (lM T)) p9 : Nat) : Int)))), (17, .int (qI (widS (lC T) (lN9 T) (lE T) (lM T) p9))), (18, .int (qI (0))), (19, .int (qI (((p9 : Nat) : Int))))]) hx hb dL_told_129 hl (by decide) rfl (fun ls hl => ?_)
        refine q_iconst hx hb dL_told_131 ?_
        refine lv_istore (lv' := [(24, .int (qI (0))), (23, .int (qI (-1))), (22, .int (qI (0))), (21, .int (qI (-((fM (fil (lC T) (lN9 T) (lE T) (lM T) (-1))) 10 p9)))), (20, .int (qI ((fM (fil (lC T) (lN9 T) (lE T) (lM T) (-1))) p9 10))), (0, .ref (x)), (1, .int (qI (p1))), (2, .ref (xv)), (3, .ref (xc)), (4, .ref (xe)), (5, .ref (xd)), (6, .ref (q_2)), (7, .ref (q_8)), (8, .ref (q_14)), (9, .ref (q_19)), (10, .ref (q_25)), (11, .ref (q_31)), (12, .ref (q_37)), (13, .int (qI (0))), (14, .int (qI (0))), (15, .int (qI (sumV (lV T) p9))), (16, .int (qI (((cnt (fixB (lC T) (lN9 T) (lE T) (lM T)) p9 : Nat) : Int)))), (17, .int (qI (widS (lC T) (lN9 T) (lE T) (lM T) p9))), (18, .int (qI (0))), (19, .int (qI (((p9 : Nat) : Int))))]) hx hb dL_told_132 hl (by decide) rfl (fun ls hl => ?_)
        have L_134 : ∀ (n_134 k1 : Nat), k1 ≤ lN9 T → lN9 T + 1 ≤ k1 + n_134 → ∀ (H : Heap) (locs : List Loc) (ls : Array Slot), va_P D vwCl [W1, [(xv, aI cy 20 (va))], [(xc, aI cy 45 (co))], [(xe, aI cy 9 (ed))], [(xd, aI cy 2 (dd))], [(q_2, aI cy 27 (u_77.1))], [(q_8, aI cy 8 (u_77.2.1))], [(q_14, aI cy 27 ((fun _ => 0)))], [(q_19, aI cy 2 (u_77.2.2.1))], [(q_25, aI cy 64 (u_77.2.2.2.1))], [(q_31, aI cy 64 (u_77.2.2.2.2.1))], [(q_37, aI cy 64 (u_77.2.2.2.2.2))]].flatten H → va_D A [W1, [(xv, aI cy 20 (va))], [(xc, aI cy 45 (co))], [(xe, aI cy 9 (ed))], [(xd, aI cy 2 (dd))], [(q_2, aI cy 27 (u_77.1))], [(q_8, aI cy 8 (u_77.2.1))], [(q_14, aI cy 27 ((fun _ => 0)))], [(q_19, aI cy 2 (u_77.2.2.1))], [(q_25, aI cy 64 (u_77.2.2.2.1))], [(q_31, aI cy 64 (u_77.2.2.2.2.1))], [(q_37, aI cy 64 (u_77.2.2.2.2.2))]].flatten → va_S A s.heap H locs → lv_has ls 25 [(0, .ref (x)), (1, .int (qI (p1))), (2, .ref (xv)), (3, .ref (xc)), (4, .ref (xe)), (5, .ref (xd)), (6, .ref (q_2)), (7, .ref (q_8)), (8, .ref (q_14)), (9, .ref (q_19)), (10, .ref (q_25)), (11, .ref (q_31)), (12, .ref (q_37)), (13, .int (qI (0))), (14, .int (qI (0))), (15, .int (qI (sumV (lV T) p9))), (16, .int (qI (((cnt (fixB (lC T) (lN9 T) (lE T) (lM T)) p9 : Nat) : Int)))), (17, .int (qI (widS (lC T) (lN9 T) (lE T) (lM T) p9))), (18, .int (qI (0))), (19, .int (qI (((p9 : Nat) : Int)))), (20, .int (qI ((fM (fil (lC T) (lN9 T) (lE T) (lM T) (-1))) p9 10))), (21, .int (qI (-((fM (fil (lC T) (lN9 T) (lE T) (lM T) (-1))) 10 p9)))), (22, .int (qI (((cnt (wiB T p9) k1 : Nat) : Int)))), (23, .int (qI (-1))), (24, .int (qI (((k1 : Nat) : Int))))] → W p l e (qrc 8 8565 94394) s m args below meth c H locs (111 + 3 * p9 + 1 + 1) (1400 + 33 * p9 + 11 + 11) Q (F0 m 134 ls []) := by
          intro n_134
          induction n_134 with
          | zero => intro k1 h1 h2; exact absurd h2 (by omega)
          | succ n_134 ih_134 =>
            intro k1 hk_134 hn_134 H locs ls hP hD hS hl
            refine lv_iload hx hb dL_told_134 (lv_at hl 24 rfl) ?_
            refine lv_aload hx hb dL_told_136 (lv_at hl 5 rfl) ?_
            refine q_iconst hx hb dL_told_138 ?_
            refine q_iald (j := 0) hx hb hK (fl_blk hP 4 rfl) 0 rfl (by omega) dL_told_139 ?_
            refine q_icmp_ge (tgt := 183) hx hb dL_told_140 (by decide) (by omega) (fun c_140 => ?_) (fun c_140 => ?_)
            · skip
              refine q_iconst hx hb dL_told_183 ?_
              refine lv_istore (lv' := [(24, .int (qI (0))), (0, .ref (x)), (1, .int (qI (p1))), (2, .ref (xv)), (3, .ref (xc)), (4, .ref (xe)), (5, .ref (xd)), (6, .ref (q_2)), (7, .ref (q_8)), (8, .ref (q_14)), (9, .ref (q_19)), (10, .ref (q_25)), (11, .ref (q_31)), (12, .ref (q_37)), (13, .int (qI (0))), (14, .int (qI (0))), (15, .int (qI (sumV (lV T) p9))), (16, .int (qI (((cnt (fixB (lC T) (lN9 T) (lE T) (lM T)) p9 : Nat) : Int)))), (17, .int (qI (widS (lC T) (lN9 T) (lE T) (lM T) p9))), (18, .int (qI (0))), (19, .int (qI (((p9 : Nat) : Int)))), (20, .int (qI ((fM (fil (lC T) (lN9 T) (lE T) (lM T) (-1))) p9 10))), (21, .int (qI (-((fM (fil (lC T) (lN9 T) (lE T) (lM T) (-1))) 10 p9)))), (22, .int (qI (((cnt (wiB T p9) k1 : Nat) : Int)))), (23, .int (qI (-1)))]) hx hb dL_told_184 hl (by decide) rfl (fun ls hl => ?_)
              have L_186 : ∀ (n_186 k2 : Nat), k2 ≤ lM T → lM T + 1 ≤ k2 + n_186 → ∀ (H : Heap) (locs : List Loc) (ls : Array Slot), va_P D vwCl [W1, [(xv, aI cy 20 (va))], [(xc, aI cy 45 (co))], [(xe, aI cy 9 (ed))], [(xd, aI cy 2 (dd))], [(q_2, aI cy 27 (u_77.1))], [(q_8, aI cy 8 (u_77.2.1))], [(q_14, aI cy 27 ((fun _ => 0)))], [(q_19, aI cy 2 (u_77.2.2.1))], [(q_25, aI cy 64 (u_77.2.2.2.1))], [(q_31, aI cy 64 (u_77.2.2.2.2.1))], [(q_37, aI cy 64 (u_77.2.2.2.2.2))]].flatten H → va_D A [W1, [(xv, aI cy 20 (va))], [(xc, aI cy 45 (co))], [(xe, aI cy 9 (ed))], [(xd, aI cy 2 (dd))], [(q_2, aI cy 27 (u_77.1))], [(q_8, aI cy 8 (u_77.2.1))], [(q_14, aI cy 27 ((fun _ => 0)))], [(q_19, aI cy 2 (u_77.2.2.1))], [(q_25, aI cy 64 (u_77.2.2.2.1))], [(q_31, aI cy 64 (u_77.2.2.2.2.1))], [(q_37, aI cy 64 (u_77.2.2.2.2.2))]].flatten → va_S A s.heap H locs → lv_has ls 25 [(0, .ref (x)), (1, .int (qI (p1))), (2, .ref (xv)), (3, .ref (xc)), (4, .ref (xe)), (5, .ref (xd)), (6, .ref (q_2)), (7, .ref (q_8)), (8, .ref (q_14)), (9, .ref (q_19)), (10, .ref (q_25)), (11, .ref (q_31)), (12, .ref (q_37)), (13, .int (qI (0))), (14, .int (qI (0))), (15, .int (qI (sumV (lV T) p9))), (16, .int (qI (((cnt (fixB (lC T) (lN9 T) (lE T) (lM T)) p9 : Nat) : Int)))), (17, .int (qI (widS (lC T) (lN9 T) (lE T) (lM T) p9))), (18, .int (qI (0))), (19, .int (qI (((p9 : Nat) : Int)))), (20, .int (qI ((fM (fil (lC T) (lN9 T) (lE T) (lM T) (-1))) p9 10))), (21, .int (qI (-((fM (fil (lC T) (lN9 T) (lE T) (lM T) (-1))) 10 p9)))), (22, .int (qI (((cnt (wiB T p9) k1 : Nat) : Int)))), (23, .int (qI (edOf (lE T) (p9 : Int) k2))), (24, .int (qI (((k2 : Nat) : Int))))] → W p l e (qrc 8 8565 94394) s m args below meth c H locs (111 + 3 * p9 + 1 + 1) (1400 + 33 * p9 + 11 + 11) Q (F0 m 186 ls []) := by
                intro n_186
                induction n_186 with
                | zero => intro k2 h1 h2; exact absurd h2 (by omega)
                | succ n_186 ih_186 =>
                  intro k2 hk_186 hn_186 H locs ls hP hD hS hl
                  refine lv_iload hx hb dL_told_186 (lv_at hl 24 rfl) ?_
                  refine lv_aload hx hb dL_told_188 (lv_at hl 5 rfl) ?_
                  refine q_iconst hx hb dL_told_190 ?_
                  refine q_iald (j := 1) hx hb hK (fl_blk hP 4 rfl) 0 rfl (by omega) dL_told_191 ?_
                  refine q_icmp_ge (tgt := 222) hx hb dL_told_192 (by decide) (by omega) (fun c_192 => ?_) (fun c_192 => ?_)
                  · skip
                    refine lv_aload_n hx hb dL_told_222 rfl (lv_at hl 0 rfl) ?_
                    refine lv_iload hx hb dL_told_223 (lv_at hl 19 rfl) ?_
                    refine q_iconst hx hb dL_told_225 ?_
                    refine q_backKi (mc := 0) (ms := 0) [0] [1, 2, 3, 4, 5, 6, 7, 8, 9, 10, 11] (br := [[(xv, aI cy 20 (va))], [(xc, aI cy 45 (co))], [(xe, aI cy 9 (ed))], [(xd, aI cy 2 (dd))], [(q_2, aI cy 27 (u_77.1))], [(q_8, aI cy 8 (u_77.2.1))], [(q_14, aI cy 27 ((fun _ => 0)))], [(q_19, aI cy 2 (u_77.2.2.1))], [(q_25, aI cy 64 (u_77.2.2.2.1))], [(q_31, aI cy 64 (u_77.2.2.2.2.1))], [(q_37, aI cy 64 (u_77.2.2.2.2.2))]]) hP hD hS hA (va_runV (As := [.int (qI (((p9 : Nat) : Int))), .int (qI (0))]) (rest := []) ⟨hx, hb, hml, hown, hg⟩ (c_X7_place l D cy x la lv9 ls9 fa xh xs la2 lv92 ls92 fb fw bu ta rc re gb oc oe rs rc2 re2 gb2 oc2 oe2 rs2 rr ad T hz HZ len tx _ hG hW1 _ _ p9 (by omega) (by omega) _) (cv_L_30 hg rfl rfl ⟨(Nat.le_of_ble_eq_true rfl), (Nat.le_of_ble_eq_true rfl)⟩) ⟨q_blind, va_recv hK (fl_blk hP 0 rfl) (ci := 7) (q0 := 0) rfl hfsW1, q_preM _ hK hN hP hD [0] (by decide) rfl⟩ rfl rfl hl.1 rfl (lv_room (Nat.le_of_ble_eq_true rfl)) dL_told_226 ⟨(show 111 + 3 * p9 + 1 + 1 + 0 ≤ 8565 by omega), (show 1400 + 33 * p9 + 11 + 11 + 0 ≤ 94394 by omega)⟩) rfl rfl (by decide) (fun r_226 u_226 H locs h_226 hP hD hS => ?_)
                    have hP : va_P D vwCl [[(xv, aI cy 20 (va))], [(xc, aI cy 45 (co))], [(xe, aI cy 9 (ed))], [(xd, aI cy 2 (dd))], [(q_2, aI cy 27 (u_77.1))], [(q_8, aI cy 8 (u_77.2.1))], [(q_14, aI cy 27 ((fun _ => 0)))], [(q_19, aI cy 2 (u_77.2.2.1))], [(q_25, aI cy 64 (u_77.2.2.2.1))], [(q_31, aI cy 64 (u_77.2.2.2.2.1))], [(q_37, aI cy 64 (u_77.2.2.2.2.2))], u_226].flatten H := hP
                    have hD : va_D A [[(xv, aI cy 20 (va))], [(xc, aI cy 45 (co))], [(xe, aI cy 9 (ed))], [(xd, aI cy 2 (dd))], [(q_2, aI cy 27 (u_77.1))], [(q_8, aI cy 8 (u_77.2.1))], [(q_14, aI cy 27 ((fun _ => 0)))], [(q_19, aI cy 2 (u_77.2.2.1))], [(q_25, aI cy 64 (u_77.2.2.2.1))], [(q_31, aI cy 64 (u_77.2.2.2.2.1))], [(q_37, aI cy 64 (u_77.2.2.2.2.2))], u_226].flatten := hD
                    obtain ⟨rfl, h_226⟩ := h_226
                    obtain ⟨fs_226, hfs_226⟩ := CW_at h_226
                    refine lv_aload_n hx hb dL_told_229 rfl (lv_at hl 2 rfl) ?_
                    refine lv_iload hx hb dL_told_230 (lv_at hl 19 rfl) ?_
                    refine q_iald (j := p9) hx hb hK (fl_blk hP 0 rfl) 0 rfl (by omega) dL_told_232 ?_
                    refine q_ne0 (tgt := 301) hx hb dL_told_233 (by decide) ((pl_0 T p9).trans (hv p9 (by omega)).symm) ?_
                    refine lv_aload_n hx hb dL_told_236 rfl (lv_at hl 0 rfl) ?_
                    refine lv_iload hx hb dL_told_237 (lv_at hl 19 rfl) ?_
                    refine q_iconst hx hb dL_told_239 ?_
                    refine q_backKi (mc := 0) (ms := 0) [11] [0, 1, 2, 3, 4, 5, 6, 7, 8, 9, 10] (br := [[(xv, aI cy 20 (va))], [(xc, aI cy 45 (co))], [(xe, aI cy 9 (ed))], [(xd, aI cy 2 (dd))], [(q_2, aI cy 27 (u_77.1))], [(q_8, aI cy 8 (u_77.2.1))], [(q_14, aI cy 27 ((fun _ => 0)))], [(q_19, aI cy 2 (u_77.2.2.1))], [(q_25, aI cy 64 (u_77.2.2.2.1))], [(q_31, aI cy 64 (u_77.2.2.2.2.1))], [(q_37, aI cy 64 (u_77.2.2.2.2.2))]]) hP hD hS hA (va_runV (As := [.int (qI (((p9 : Nat) : Int))), .int (qI (1))]) (rest := []) ⟨hx, hb, hml, hown, hg⟩ (c_X7_place l D cy x la lv9 ls9 fa xh xs la2 lv92 ls92 fb fw bu ta rc re gb oc oe rs rc2 re2 gb2 oc2 oe2 rs2 rr ad T hz HZ len tx _ hG h_226 _ _ p9 (by omega) (by omega) _) (cv_L_30 hg rfl rfl ⟨(Nat.le_of_ble_eq_true rfl), (Nat.le_of_ble_eq_true rfl)⟩) ⟨q_blind, va_recv hK (fl_blk hP 11 rfl) (ci := 7) (q0 := 0) rfl hfs_226, q_preM _ hK hN hP hD [11] (by decide) rfl⟩ rfl rfl hl.1 rfl (lv_room (Nat.le_of_ble_eq_true rfl)) dL_told_240 ⟨(show 111 + 3 * p9 + 1 + 1 + 0 ≤ 8565 by omega), (show 1400 + 33 * p9 + 11 + 11 + 0 ≤ 94394 by omega)⟩) rfl rfl (by decide) (fun r_240 u_240 H locs h_240 hP hD hS => ?_)
                    have hP : va_P D vwCl [[(xv, aI cy 20 (va))], [(xc, aI cy 45 (co))], [(xe, aI cy 9 (ed))], [(xd, aI cy 2 (dd))], [(q_2, aI cy 27 (u_77.1))], [(q_8, aI cy 8 (u_77.2.1))], [(q_14, aI cy 27 ((fun _ => 0)))], [(q_19, aI cy 2 (u_77.2.2.1))], [(q_25, aI cy 64 (u_77.2.2.2.1))], [(q_31, aI cy 64 (u_77.2.2.2.2.1))], [(q_37, aI cy 64 (u_77.2.2.2.2.2))], u_240].flatten H := hP
                    have hD : va_D A [[(xv, aI cy 20 (va))], [(xc, aI cy 45 (co))], [(xe, aI cy 9 (ed))], [(xd, aI cy 2 (dd))], [(q_2, aI cy 27 (u_77.1))], [(q_8, aI cy 8 (u_77.2.1))], [(q_14, aI cy 27 ((fun _ => 0)))], [(q_19, aI cy 2 (u_77.2.2.1))], [(q_25, aI cy 64 (u_77.2.2.2.1))], [(q_31, aI cy 64 (u_77.2.2.2.2.1))], [(q_37, aI cy 64 (u_77.2.2.2.2.2))], u_240].flatten := hD
                    obtain ⟨rfl, h_240⟩ := h_240
                    obtain ⟨fs_240, hfs_240⟩ := CW_at h_240
                    refine lv_aload_n hx hb dL_told_243 rfl (lv_at hl 2 rfl) ?_
                    refine q_bipush hx hb dL_told_244 (by decide) ?_
                    refine lv_iload hx hb dL_told_246 (lv_at hl 19 rfl) ?_
                    refine q_iadd hx hb dL_told_248 ?_
                    refine q_iald (j := (10 + p9)) hx hb hK (fl_blk hP 0 rfl) 0 rfl (by omega) dL_told_249 ?_
                    refine q_ne0 (tgt := 301) hx hb dL_told_250 (by decide) ((pl_1 T p9).trans (ht p9 (by omega)).symm) ?_
                    refine lv_aload_n hx hb dL_told_253 rfl (lv_at hl 0 rfl) ?_
                    refine lv_iload hx hb dL_told_254 (lv_at hl 19 rfl) ?_
                    refine q_iconst hx hb dL_told_256 ?_
                    refine q_backKi (mc := 0) (ms := 0) [11] [0, 1, 2, 3, 4, 5, 6, 7, 8, 9, 10] (br := [[(xv, aI cy 20 (va))], [(xc, aI cy 45 (co))], [(xe, aI cy 9 (ed))], [(xd, aI cy 2 (dd))], [(q_2, aI cy 27 (u_77.1))], [(q_8, aI cy 8 (u_77.2.1))], [(q_14, aI cy 27 ((fun _ => 0)))], [(q_19, aI cy 2 (u_77.2.2.1))], [(q_25, aI cy 64 (u_77.2.2.2.1))], [(q_31, aI cy 64 (u_77.2.2.2.2.1))], [(q_37, aI cy 64 (u_77.2.2.2.2.2))]]) hP hD hS hA (va_runV (As := [.int (qI (((p9 : Nat) : Int))), .int (qI (2))]) (rest := []) ⟨hx, hb, hml, hown, hg⟩ (c_X7_place l D cy x la lv9 ls9 fa xh xs la2 lv92 ls92 fb fw bu ta rc re gb oc oe rs rc2 re2 gb2 oc2 oe2 rs2 rr ad T hz HZ len tx _ hG h_240 _ _ p9 (by omega) (by omega) _) (cv_L_30 hg rfl rfl ⟨(Nat.le_of_ble_eq_true rfl), (Nat.le_of_ble_eq_true rfl)⟩) ⟨q_blind, va_recv hK (fl_blk hP 11 rfl) (ci := 7) (q0 := 0) rfl hfs_240, q_preM _ hK hN hP hD [11] (by decide) rfl⟩ rfl rfl hl.1 rfl (lv_room (Nat.le_of_ble_eq_true rfl)) dL_told_257 ⟨(show 111 + 3 * p9 + 1 + 1 + 0 ≤ 8565 by omega), (show 1400 + 33 * p9 + 11 + 11 + 0 ≤ 94394 by omega)⟩) rfl rfl (by decide) (fun r_257 u_257 H locs h_257 hP hD hS => ?_)
                    have hP : va_P D vwCl [[(xv, aI cy 20 (va))], [(xc, aI cy 45 (co))], [(xe, aI cy 9 (ed))], [(xd, aI cy 2 (dd))], [(q_2, aI cy 27 (u_77.1))], [(q_8, aI cy 8 (u_77.2.1))], [(q_14, aI cy 27 ((fun _ => 0)))], [(q_19, aI cy 2 (u_77.2.2.1))], [(q_25, aI cy 64 (u_77.2.2.2.1))], [(q_31, aI cy 64 (u_77.2.2.2.2.1))], [(q_37, aI cy 64 (u_77.2.2.2.2.2))], u_257].flatten H := hP
                    have hD : va_D A [[(xv, aI cy 20 (va))], [(xc, aI cy 45 (co))], [(xe, aI cy 9 (ed))], [(xd, aI cy 2 (dd))], [(q_2, aI cy 27 (u_77.1))], [(q_8, aI cy 8 (u_77.2.1))], [(q_14, aI cy 27 ((fun _ => 0)))], [(q_19, aI cy 2 (u_77.2.2.1))], [(q_25, aI cy 64 (u_77.2.2.2.1))], [(q_31, aI cy 64 (u_77.2.2.2.2.1))], [(q_37, aI cy 64 (u_77.2.2.2.2.2))], u_257].flatten := hD
                    obtain ⟨rfl, h_257⟩ := h_257
                    obtain ⟨fs_257, hfs_257⟩ := CW_at h_257
                    refine lv_iload hx hb dL_told_260 (lv_at hl 21 rfl) ?_
                    refine q_ne0 (tgt := 301) hx hb dL_told_262 (by decide) (pl_2 T p9) ?_
                    refine lv_aload_n hx hb dL_told_265 rfl (lv_at hl 0 rfl) ?_
                    refine lv_iload hx hb dL_told_266 (lv_at hl 19 rfl) ?_
                    refine q_iconst hx hb dL_told_268 ?_
                    refine q_backKi (mc := 0) (ms := 0) [11] [0, 1, 2, 3, 4, 5, 6, 7, 8, 9, 10] (br := [[(xv, aI cy 20 (va))], [(xc, aI cy 45 (co))], [(xe, aI cy 9 (ed))], [(xd, aI cy 2 (dd))], [(q_2, aI cy 27 (u_77.1))], [(q_8, aI cy 8 (u_77.2.1))], [(q_14, aI cy 27 ((fun _ => 0)))], [(q_19, aI cy 2 (u_77.2.2.1))], [(q_25, aI cy 64 (u_77.2.2.2.1))], [(q_31, aI cy 64 (u_77.2.2.2.2.1))], [(q_37, aI cy 64 (u_77.2.2.2.2.2))]]) hP hD hS hA (va_runV (As := [.int (qI (((p9 : Nat) : Int))), .int (qI (3))]) (rest := []) ⟨hx, hb, hml, hown, hg⟩ (c_X7_place l D cy x la lv9 ls9 fa xh xs la2 lv92 ls92 fb fw bu ta rc re gb oc oe rs rc2 re2 gb2 oc2 oe2 rs2 rr ad T hz HZ len tx _ hG h_257 _ _ p9 (by omega) (by omega) _) (cv_L_30 hg rfl rfl ⟨(Nat.le_of_ble_eq_true rfl), (Nat.le_of_ble_eq_true rfl)⟩) ⟨q_blind, va_recv hK (fl_blk hP 11 rfl) (ci := 7) (q0 := 0) rfl hfs_257, q_preM _ hK hN hP hD [11] (by decide) rfl⟩ rfl rfl hl.1 rfl (lv_room (Nat.le_of_ble_eq_true rfl)) dL_told_269 ⟨(show 111 + 3 * p9 + 1 + 1 + 0 ≤ 8565 by omega), (show 1400 + 33 * p9 + 11 + 11 + 0 ≤ 94394 by omega)⟩) rfl rfl (by decide) (fun r_269 u_269 H locs h_269 hP hD hS => ?_)
                    have hP : va_P D vwCl [[(xv, aI cy 20 (va))], [(xc, aI cy 45 (co))], [(xe, aI cy 9 (ed))], [(xd, aI cy 2 (dd))], [(q_2, aI cy 27 (u_77.1))], [(q_8, aI cy 8 (u_77.2.1))], [(q_14, aI cy 27 ((fun _ => 0)))], [(q_19, aI cy 2 (u_77.2.2.1))], [(q_25, aI cy 64 (u_77.2.2.2.1))], [(q_31, aI cy 64 (u_77.2.2.2.2.1))], [(q_37, aI cy 64 (u_77.2.2.2.2.2))], u_269].flatten H := hP
                    have hD : va_D A [[(xv, aI cy 20 (va))], [(xc, aI cy 45 (co))], [(xe, aI cy 9 (ed))], [(xd, aI cy 2 (dd))], [(q_2, aI cy 27 (u_77.1))], [(q_8, aI cy 8 (u_77.2.1))], [(q_14, aI cy 27 ((fun _ => 0)))], [(q_19, aI cy 2 (u_77.2.2.1))], [(q_25, aI cy 64 (u_77.2.2.2.1))], [(q_31, aI cy 64 (u_77.2.2.2.2.1))], [(q_37, aI cy 64 (u_77.2.2.2.2.2))], u_269].flatten := hD
                    obtain ⟨rfl, h_269⟩ := h_269
                    obtain ⟨fs_269, hfs_269⟩ := CW_at h_269
                    refine lv_iload hx hb dL_told_272 (lv_at hl 20 rfl) ?_
                    refine q_ne0 (tgt := 301) hx hb dL_told_274 (by decide) (pl_3 T p9) ?_
                    refine lv_aload_n hx hb dL_told_277 rfl (lv_at hl 0 rfl) ?_
                    refine lv_iload hx hb dL_told_278 (lv_at hl 19 rfl) ?_
                    refine q_iconst hx hb dL_told_280 ?_
                    refine q_backKi (mc := 0) (ms := 0) [11] [0, 1, 2, 3, 4, 5, 6, 7, 8, 9, 10] (br := [[(xv, aI cy 20 (va))], [(xc, aI cy 45 (co))], [(xe, aI cy 9 (ed))], [(xd, aI cy 2 (dd))], [(q_2, aI cy 27 (u_77.1))], [(q_8, aI cy 8 (u_77.2.1))], [(q_14, aI cy 27 ((fun _ => 0)))], [(q_19, aI cy 2 (u_77.2.2.1))], [(q_25, aI cy 64 (u_77.2.2.2.1))], [(q_31, aI cy 64 (u_77.2.2.2.2.1))], [(q_37, aI cy 64 (u_77.2.2.2.2.2))]]) hP hD hS hA (va_runV (As := [.int (qI (((p9 : Nat) : Int))), .int (qI (4))]) (rest := []) ⟨hx, hb, hml, hown, hg⟩ (c_X7_place l D cy x la lv9 ls9 fa xh xs la2 lv92 ls92 fb fw bu ta rc re gb oc oe rs rc2 re2 gb2 oc2 oe2 rs2 rr ad T hz HZ len tx _ hG h_269 _ _ p9 (by omega) (by omega) _) (cv_L_30 hg rfl rfl ⟨(Nat.le_of_ble_eq_true rfl), (Nat.le_of_ble_eq_true rfl)⟩) ⟨q_blind, va_recv hK (fl_blk hP 11 rfl) (ci := 7) (q0 := 0) rfl hfs_269, q_preM _ hK hN hP hD [11] (by decide) rfl⟩ rfl rfl hl.1 rfl (lv_room (Nat.le_of_ble_eq_true rfl)) dL_told_281 ⟨(show 111 + 3 * p9 + 1 + 1 + 0 ≤ 8565 by omega), (show 1400 + 33 * p9 + 11 + 11 + 0 ≤ 94394 by omega)⟩) rfl rfl (by decide) (fun r_281 u_281 H locs h_281 hP hD hS => ?_)
                    have hP : va_P D vwCl [[(xv, aI cy 20 (va))], [(xc, aI cy 45 (co))], [(xe, aI cy 9 (ed))], [(xd, aI cy 2 (dd))], [(q_2, aI cy 27 (u_77.1))], [(q_8, aI cy 8 (u_77.2.1))], [(q_14, aI cy 27 ((fun _ => 0)))], [(q_19, aI cy 2 (u_77.2.2.1))], [(q_25, aI cy 64 (u_77.2.2.2.1))], [(q_31, aI cy 64 (u_77.2.2.2.2.1))], [(q_37, aI cy 64 (u_77.2.2.2.2.2))], u_281].flatten H := hP
                    have hD : va_D A [[(xv, aI cy 20 (va))], [(xc, aI cy 45 (co))], [(xe, aI cy 9 (ed))], [(xd, aI cy 2 (dd))], [(q_2, aI cy 27 (u_77.1))], [(q_8, aI cy 8 (u_77.2.1))], [(q_14, aI cy 27 ((fun _ => 0)))], [(q_19, aI cy 2 (u_77.2.2.1))], [(q_25, aI cy 64 (u_77.2.2.2.1))], [(q_31, aI cy 64 (u_77.2.2.2.2.1))], [(q_37, aI cy 64 (u_77.2.2.2.2.2))], u_281].flatten := hD
                    obtain ⟨rfl, h_281⟩ := h_281
                    obtain ⟨fs_281, hfs_281⟩ := CW_at h_281
                    refine lv_iload hx hb dL_told_284 (lv_at hl 22 rfl) ?_
                    refine q_ne0 (tgt := 301) hx hb dL_told_286 (by decide) ((pl_4 T p9).trans (by rw [show k1 = lN9 T by omega])) ?_
                    refine lv_aload_n hx hb dL_told_289 rfl (lv_at hl 0 rfl) ?_
                    refine lv_iload hx hb dL_told_290 (lv_at hl 19 rfl) ?_
                    refine q_iconst hx hb dL_told_292 ?_
                    refine q_backKi (mc := 0) (ms := 0) [11] [0, 1, 2, 3, 4, 5, 6, 7, 8, 9, 10] (br := [[(xv, aI cy 20 (va))], [(xc, aI cy 45 (co))], [(xe, aI cy 9 (ed))], [(xd, aI cy 2 (dd))], [(q_2, aI cy 27 (u_77.1))], [(q_8, aI cy 8 (u_77.2.1))], [(q_14, aI cy 27 ((fun _ => 0)))], [(q_19, aI cy 2 (u_77.2.2.1))], [(q_25, aI cy 64 (u_77.2.2.2.1))], [(q_31, aI cy 64 (u_77.2.2.2.2.1))], [(q_37, aI cy 64 (u_77.2.2.2.2.2))]]) hP hD hS hA (va_runV (As := [.int (qI (((p9 : Nat) : Int))), .int (qI (5))]) (rest := []) ⟨hx, hb, hml, hown, hg⟩ (c_X7_place l D cy x la lv9 ls9 fa xh xs la2 lv92 ls92 fb fw bu ta rc re gb oc oe rs rc2 re2 gb2 oc2 oe2 rs2 rr ad T hz HZ len tx _ hG h_281 _ _ p9 (by omega) (by omega) _) (cv_L_30 hg rfl rfl ⟨(Nat.le_of_ble_eq_true rfl), (Nat.le_of_ble_eq_true rfl)⟩) ⟨q_blind, va_recv hK (fl_blk hP 11 rfl) (ci := 7) (q0 := 0) rfl hfs_281, q_preM _ hK hN hP hD [11] (by decide) rfl⟩ rfl rfl hl.1 rfl (lv_room (Nat.le_of_ble_eq_true rfl)) dL_told_293 ⟨(show 111 + 3 * p9 + 1 + 1 + 0 ≤ 8565 by omega), (show 1400 + 33 * p9 + 11 + 11 + 0 ≤ 94394 by omega)⟩) rfl rfl (by decide) (fun r_293 u_293 H locs h_293 hP hD hS => ?_)
                    have hP : va_P D vwCl [[(xv, aI cy 20 (va))], [(xc, aI cy 45 (co))], [(xe, aI cy 9 (ed))], [(xd, aI cy 2 (dd))], [(q_2, aI cy 27 (u_77.1))], [(q_8, aI cy 8 (u_77.2.1))], [(q_14, aI cy 27 ((fun _ => 0)))], [(q_19, aI cy 2 (u_77.2.2.1))], [(q_25, aI cy 64 (u_77.2.2.2.1))], [(q_31, aI cy 64 (u_77.2.2.2.2.1))], [(q_37, aI cy 64 (u_77.2.2.2.2.2))], u_293].flatten H := hP
                    have hD : va_D A [[(xv, aI cy 20 (va))], [(xc, aI cy 45 (co))], [(xe, aI cy 9 (ed))], [(xd, aI cy 2 (dd))], [(q_2, aI cy 27 (u_77.1))], [(q_8, aI cy 8 (u_77.2.1))], [(q_14, aI cy 27 ((fun _ => 0)))], [(q_19, aI cy 2 (u_77.2.2.1))], [(q_25, aI cy 64 (u_77.2.2.2.1))], [(q_31, aI cy 64 (u_77.2.2.2.2.1))], [(q_37, aI cy 64 (u_77.2.2.2.2.2))], u_293].flatten := hD
                    obtain ⟨rfl, h_293⟩ := h_293
                    obtain ⟨fs_293, hfs_293⟩ := CW_at h_293
                    refine lv_iload hx hb dL_told_296 (lv_at hl 23 rfl) ?_
                    refine q_eq1 (tgt := 303) hx hb dL_told_298 (by decide) ((pl_5 T p9).trans (by rw [show k2 = lM T by omega])) ?_
                    refine lv_iload hx hb dL_told_303 (lv_at hl 15 rfl) ?_
                    refine lv_aload_n hx hb dL_told_305 rfl (lv_at hl 2 rfl) ?_
                    refine lv_iload hx hb dL_told_306 (lv_at hl 19 rfl) ?_
                    refine q_iald (j := p9) hx hb hK (fl_blk hP 0 rfl) 0 rfl (by omega) dL_told_308 ?_
                    refine q_iadd hx hb dL_told_309 ?_
                    refine q_topZ (y := sumV (lV T) (p9 + 1)) (by rw [hv p9 (by omega)]; rfl) ?_
                    refine lv_istore (lv' := [(15, .int (qI (sumV (lV T) (p9 + 1)))), (0, .ref (x)), (1, .int (qI (p1))), (2, .ref (xv)), (3, .ref (xc)), (4, .ref (xe)), (5, .ref (xd)), (6, .ref (q_2)), (7, .ref (q_8)), (8, .ref (q_14)), (9, .ref (q_19)), (10, .ref (q_25)), (11, .ref (q_31)), (12, .ref (q_37)), (13, .int (qI (0))), (14, .int (qI (0))), (16, .int (qI (((cnt (fixB (lC T) (lN9 T) (lE T) (lM T)) p9 : Nat) : Int)))), (17, .int (qI (widS (lC T) (lN9 T) (lE T) (lM T) p9))), (18, .int (qI (0))), (19, .int (qI (((p9 : Nat) : Int)))), (20, .int (qI ((fM (fil (lC T) (lN9 T) (lE T) (lM T) (-1))) p9 10))), (21, .int (qI (-((fM (fil (lC T) (lN9 T) (lE T) (lM T) (-1))) 10 p9)))), (22, .int (qI (((cnt (wiB T p9) k1 : Nat) : Int)))), (23, .int (qI (edOf (lE T) (p9 : Int) k2))), (24, .int (qI (((k2 : Nat) : Int))))]) hx hb dL_told_310 hl (by decide) rfl (fun ls hl => ?_)
                    refine lv_iload hx hb dL_told_312 (lv_at hl 16 rfl) ?_
                    have K_326 : ∀ (z3 : Int), ((fixB (lC T) (lN9 T) (lE T) (lM T) p9 = true ∧ z3 = 1) ∨ (fixB (lC T) (lN9 T) (lE T) (lM T) p9 = false ∧ z3 = 0)) → W p l e (qrc 8 8565 94394) s m args below meth c H locs (111 + 3 * p9 + 1 + 1) (1400 + 33 * p9 + 11 + 11) Q (F0 m 326 ls [.int (qI (z3)), .int (qI (((cnt (fixB (lC T) (lN9 T) (lE T) (lM T)) p9 : Nat) : Int)))]) := by
                      intro z3 hz3
                      refine q_iadd hx hb dL_told_326 ?_
                      refine q_topZ (y := ((cnt (fixB (lC T) (lN9 T) (lE T) (lM T)) (p9 + 1) : Nat) : Int)) (cnt_s hz3) ?_
                      refine lv_istore (lv' := [(16, .int (qI (((cnt (fixB (lC T) (lN9 T) (lE T) (lM T)) (p9 + 1) : Nat) : Int)))), (15, .int (qI (sumV (lV T) (p9 + 1)))), (0, .ref (x)), (1, .int (qI (p1))), (2, .ref (xv)), (3, .ref (xc)), (4, .ref (xe)), (5, .ref (xd)), (6, .ref (q_2)), (7, .ref (q_8)), (8, .ref (q_14)), (9, .ref (q_19)), (10, .ref (q_25)), (11, .ref (q_31)), (12, .ref (q_37)), (13, .int (qI (0))), (14, .int (qI (0))), (17, .int (qI (widS (lC T) (lN9 T) (lE T) (lM T) p9))), (18, .int (qI (0))), (19, .int (qI (((p9 : Nat) : Int)))), (20, .int (qI ((fM (fil (lC T) (lN9 T) (lE T) (lM T) (-1))) p9 10))), (21, .int (qI (-((fM (fil (lC T) (lN9 T) (lE T) (lM T) (-1))) 10 p9)))), (22, .int (qI (((cnt (wiB T p9) k1 : Nat) : Int)))), (23, .int (qI (edOf (lE T) (p9 : Int) k2))), (24, .int (qI (((k2 : Nat) : Int))))]) hx hb dL_told_327 hl (by decide) rfl (fun ls hl => ?_)
                      refine lv_iload hx hb dL_told_329 (lv_at hl 17 rfl) ?_
                      refine lv_iload hx hb dL_told_331 (lv_at hl 20 rfl) ?_
                      refine lv_iload hx hb dL_told_333 (lv_at hl 21 rfl) ?_
                      refine q_isub hx hb dL_told_335 ?_
                      refine q_iadd hx hb dL_told_336 ?_
                      refine q_topZ (y := widS (lC T) (lN9 T) (lE T) (lM T) (p9 + 1)) rfl ?_
                      refine lv_istore (lv' := [(17, .int (qI (widS (lC T) (lN9 T) (lE T) (lM T) (p9 + 1)))), (16, .int (qI (((cnt (fixB (lC T) (lN9 T) (lE T) (lM T)) (p9 + 1) : Nat) : Int)))), (15, .int (qI (sumV (lV T) (p9 + 1)))), (0, .ref (x)), (1, .int (qI (p1))), (2, .ref (xv)), (3, .ref (xc)), (4, .ref (xe)), (5, .ref (xd)), (6, .ref (q_2)), (7, .ref (q_8)), (8, .ref (q_14)), (9, .ref (q_19)), (10, .ref (q_25)), (11, .ref (q_31)), (12, .ref (q_37)), (13, .int (qI (0))), (14, .int (qI (0))), (18, .int (qI (0))), (19, .int (qI (((p9 : Nat) : Int)))), (20, .int (qI ((fM (fil (lC T) (lN9 T) (lE T) (lM T) (-1))) p9 10))), (21, .int (qI (-((fM (fil (lC T) (lN9 T) (lE T) (lM T) (-1))) 10 p9)))), (22, .int (qI (((cnt (wiB T p9) k1 : Nat) : Int)))), (23, .int (qI (edOf (lE T) (p9 : Int) k2))), (24, .int (qI (((k2 : Nat) : Int))))]) hx hb dL_told_337 hl (by decide) rfl (fun ls hl => ?_)
                      refine lv_iload_n hx hb dL_told_339 rfl (lv_at hl 4 rfl) ?_
                      refine lv_iload hx hb dL_told_340 (lv_at hl 19 rfl) ?_
                      refine q_ishr (F := x9) (k := p9) hx hb (by omega) dL_told_342 ?_
                      refine q_bipush hx hb dL_told_343 (by decide) ?_
                      have hs9 : x9 / 2 ^ p9 ≤ x9 := Nat.div_le_self _ _
                      refine q_readi (va_runS (As := [.int (qI ((((x9) / 2 ^ (p9) : Nat) : Int))), .int (qI (10))]) (rest := []) ⟨hx, hb, hml, hown, hg⟩ (c_L_at l D cy _ _ ((x9) / 2 ^ (p9)) 10 (by omega) (by omega)) (cs_L_36 hg rfl rfl ⟨(Nat.le_of_ble_eq_true rfl), (Nat.le_of_ble_eq_true rfl)⟩) ⟨q_blind0, q_preR _ hK hN hP [] rfl⟩ rfl rfl hl.1 rfl (lv_room (Nat.le_of_ble_eq_true rfl)) dL_told_345 ⟨(show 111 + 3 * p9 + 1 + 1 + 0 ≤ 8565 by omega), (show 1400 + 33 * p9 + 11 + 11 + 0 ≤ 94394 by omega)⟩) (fun r_345 h_345 => ?_)
                      subst h_345
                      obtain ⟨q9, hq9, hq8⟩ : ∃ q9 : Nat, q9 < 10 ∧ q9 = ((x9) / 2 ^ (p9)) / 2 % 10 := ⟨_, Nat.mod_lt _ (by decide), rfl⟩
                      refine q_topZ (y := ((q9 : Nat) : Int)) (by rw [hq8]) ?_
                      refine lv_istore (lv' := [(24, .int (qI (((q9 : Nat) : Int)))), (17, .int (qI (widS (lC T) (lN9 T) (lE T) (lM T) (p9 + 1)))), (16, .int (qI (((cnt (fixB (lC T) (lN9 T) (lE T) (lM T)) (p9 + 1) : Nat) : Int)))), (15, .int (qI (sumV (lV T) (p9 + 1)))), (0, .ref (x)), (1, .int (qI (p1))), (2, .ref (xv)), (3, .ref (xc)), (4, .ref (xe)), (5, .ref (xd)), (6, .ref (q_2)), (7, .ref (q_8)), (8, .ref (q_14)), (9, .ref (q_19)), (10, .ref (q_25)), (11, .ref (q_31)), (12, .ref (q_37)), (13, .int (qI (0))), (14, .int (qI (0))), (18, .int (qI (0))), (19, .int (qI (((p9 : Nat) : Int)))), (20, .int (qI ((fM (fil (lC T) (lN9 T) (lE T) (lM T) (-1))) p9 10))), (21, .int (qI (-((fM (fil (lC T) (lN9 T) (lE T) (lM T) (-1))) 10 p9)))), (22, .int (qI (((cnt (wiB T p9) k1 : Nat) : Int)))), (23, .int (qI (edOf (lE T) (p9 : Int) k2)))]) hx hb dL_told_348 hl (by decide) rfl (fun ls hl => ?_)
                      refine lv_aload_n hx hb dL_told_350 rfl (lv_at hl 4 rfl) ?_
                      refine lv_iload hx hb dL_told_351 (lv_at hl 20 rfl) ?_
                      refine lv_iload hx hb dL_told_353 (lv_at hl 0 rfl) ?_
                      refine q_backKi (mc := 0) (ms := 0) [11] [0, 1, 2, 3, 4, 5, 6, 7, 8, 9, 10] (br := [[(xv, aI cy 20 (va))], [(xc, aI cy 45 (co))], [(xe, aI cy 9 (ed))], [(xd, aI cy 2 (dd))], [(q_2, aI cy 27 (u_77.1))], [(q_8, aI cy 8 (u_77.2.1))], [(q_14, aI cy 27 ((fun _ => 0)))], [(q_19, aI cy 2 (u_77.2.2.1))], [(q_25, aI cy 64 (u_77.2.2.2.1))], [(q_31, aI cy 64 (u_77.2.2.2.2.1))], [(q_37, aI cy 64 (u_77.2.2.2.2.2))]]) hP hD hS hA (va_runV (As := [.int (qI (((p9 : Nat) : Int))), .int (qI (((q9 : Nat) : Int)))]) (rest := []) ⟨hx, hb, hml, hown, hg⟩ (c_X7_widest l D cy x la lv9 ls9 fa xh xs la2 lv92 ls92 fb fw bu ta rc re gb oc oe rs rc2 re2 gb2 oc2 oe2 rs2 rr ad T hz HZ len tx _ hG h_293 _ _ p9 q9 (by omega) (by omega) _) (cv_L_39 hg rfl rfl ⟨(Nat.le_of_ble_eq_true rfl), (Nat.le_of_ble_eq_true rfl)⟩) ⟨q_blind, va_recv hK (fl_blk hP 11 rfl) (ci := 7) (q0 := 0) rfl hfs_293, q_preM _ hK hN hP hD [11] (by decide) rfl⟩ rfl rfl hl.1 rfl (lv_room (Nat.le_of_ble_eq_true rfl)) dL_told_355 ⟨(show 111 + 3 * p9 + 1 + 1 + 0 ≤ 8565 by omega), (show 1400 + 33 * p9 + 11 + 11 + 0 ≤ 94394 by omega)⟩) rfl rfl (by decide) (fun r_355 u_355 H locs h_355 hP hD hS => ?_)
                      have hP : va_P D vwCl [[(xv, aI cy 20 (va))], [(xc, aI cy 45 (co))], [(xe, aI cy 9 (ed))], [(xd, aI cy 2 (dd))], [(q_2, aI cy 27 (u_77.1))], [(q_8, aI cy 8 (u_77.2.1))], [(q_14, aI cy 27 ((fun _ => 0)))], [(q_19, aI cy 2 (u_77.2.2.1))], [(q_25, aI cy 64 (u_77.2.2.2.1))], [(q_31, aI cy 64 (u_77.2.2.2.2.1))], [(q_37, aI cy 64 (u_77.2.2.2.2.2))], u_355].flatten H := hP
                      have hD : va_D A [[(xv, aI cy 20 (va))], [(xc, aI cy 45 (co))], [(xe, aI cy 9 (ed))], [(xd, aI cy 2 (dd))], [(q_2, aI cy 27 (u_77.1))], [(q_8, aI cy 8 (u_77.2.1))], [(q_14, aI cy 27 ((fun _ => 0)))], [(q_19, aI cy 2 (u_77.2.2.1))], [(q_25, aI cy 64 (u_77.2.2.2.1))], [(q_31, aI cy 64 (u_77.2.2.2.2.1))], [(q_37, aI cy 64 (u_77.2.2.2.2.2))], u_355].flatten := hD
                      obtain ⟨rfl, h_355⟩ := h_355
                      obtain ⟨fs_355, hfs_355⟩ := CW_at h_355
                      refine lv_iload hx hb dL_told_358 (lv_at hl 20 rfl) ?_
                      refine lv_iload hx hb dL_told_360 (lv_at hl 0 rfl) ?_
                      refine lv_aload hx hb dL_told_362 (lv_at hl 13 rfl) ?_
                      refine lv_aload hx hb dL_told_364 (lv_at hl 14 rfl) ?_
                      refine lv_aload hx hb dL_told_366 (lv_at hl 15 rfl) ?_
                      refine lv_aload hx hb dL_told_368 (lv_at hl 16 rfl) ?_
                      refine q_backKi (mc := 1) (ms := 11) [7, 8, 9, 10] [0, 1, 2, 3, 4, 5, 6, 11] (br := [[(xv, aI cy 20 (va))], [(xc, aI cy 45 (co))], [(xe, aI cy 9 (ed))], [(xd, aI cy 2 (dd))], [(q_2, aI cy 27 (u_77.1))], [(q_8, aI cy 8 (u_77.2.1))], [(q_14, aI cy 27 ((fun _ => 0)))], u_355]) hP hD hS hA (va_runS (As := [.int (qI (((p9 : Nat) : Int))), .int (qI (((q9 : Nat) : Int))), .ref (q_19), .ref (q_25), .ref (q_31), .ref (q_37)]) (rest := [.int (qI ((fM (fil (lC T) (lN9 T) (lE T) (lM T) (-1))) p9 q9))]) ⟨hx, hb, hml, hown, hg⟩ (c_L_most l D cy q_19 q_25 q_31 q_37 u_77.2.2.1 u_77.2.2.2.1 u_77.2.2.2.2.1 u_77.2.2.2.2.2 n (fM (fil (lC T) (lN9 T) (lE T) (lM T) (-1))) ⟨hn1, by omega⟩ hR _ _ p9 q9 (by omega) (by omega) _) (cs_L_8 hg rfl rfl ⟨(Nat.le_of_ble_eq_true rfl), (Nat.le_of_ble_eq_true rfl)⟩) ⟨q_blind, q_preM _ hK hN hP hD [7, 8, 9, 10] (by decide) rfl⟩ rfl rfl hl.1 rfl (lv_room (Nat.le_of_ble_eq_true rfl)) dL_told_370 ⟨(show 111 + 3 * p9 + 1 + 1 + 1 ≤ 8565 by omega), (show 1400 + 33 * p9 + 11 + 11 + 11 ≤ 94394 by omega)⟩) rfl rfl (by decide) (fun r_370 u_370 H locs h_370 hP hD hS => ?_)
                      have hP : va_P D vwCl [[(xv, aI cy 20 (va))], [(xc, aI cy 45 (co))], [(xe, aI cy 9 (ed))], [(xd, aI cy 2 (dd))], [(q_2, aI cy 27 (u_77.1))], [(q_8, aI cy 8 (u_77.2.1))], [(q_14, aI cy 27 ((fun _ => 0)))], u_355, [(q_19, aI cy 2 (u_77.2.2.1))], [(q_25, aI cy 64 (u_77.2.2.2.1))], [(q_31, aI cy 64 (u_77.2.2.2.2.1))], [(q_37, aI cy 64 (u_77.2.2.2.2.2))]].flatten H := hP
                      have hD : va_D A [[(xv, aI cy 20 (va))], [(xc, aI cy 45 (co))], [(xe, aI cy 9 (ed))], [(xd, aI cy 2 (dd))], [(q_2, aI cy 27 (u_77.1))], [(q_8, aI cy 8 (u_77.2.1))], [(q_14, aI cy 27 ((fun _ => 0)))], u_355, [(q_19, aI cy 2 (u_77.2.2.1))], [(q_25, aI cy 64 (u_77.2.2.2.1))], [(q_31, aI cy 64 (u_77.2.2.2.2.1))], [(q_37, aI cy 64 (u_77.2.2.2.2.2))]].flatten := hD
                      subst h_370
                      refine q_eq1 (tgt := 378) hx hb dL_told_373 (by decide) rfl ?_
                      refine q_iinc (k := 20) (lv' := [(19, .int (qI ((((p9 : Nat) : Int)) + (1)))), (24, .int (qI (((q9 : Nat) : Int)))), (17, .int (qI (widS (lC T) (lN9 T) (lE T) (lM T) (p9 + 1)))), (16, .int (qI (((cnt (fixB (lC T) (lN9 T) (lE T) (lM T)) (p9 + 1) : Nat) : Int)))), (15, .int (qI (sumV (lV T) (p9 + 1)))), (0, .ref (x)), (1, .int (qI (p1))), (2, .ref (xv)), (3, .ref (xc)), (4, .ref (xe)), (5, .ref (xd)), (6, .ref (q_2)), (7, .ref (q_8)), (8, .ref (q_14)), (9, .ref (q_19)), (10, .ref (q_25)), (11, .ref (q_31)), (12, .ref (q_37)), (13, .int (qI (0))), (14, .int (qI (0))), (18, .int (qI (0))), (20, .int (qI ((fM (fil (lC T) (lN9 T) (lE T) (lM T) (-1))) p9 10))), (21, .int (qI (-((fM (fil (lC T) (lN9 T) (lE T) (lM T) (-1))) 10 p9)))), (22, .int (qI (((cnt (wiB T p9) k1 : Nat) : Int)))), (23, .int (qI (edOf (lE T) (p9 : Int) k2)))]) hx hb dL_told_378 hl rfl (by decide) rfl (fun ls hl => ?_)
                      refine lv_goto (tgt := 83) hx hb dL_told_381 (by decide) ?_
                      refine W.widen (k := 111 + 3 * (p9 + 1)) (n := 1400 + 33 * (p9 + 1)) (by omega) (by omega) ?_
                      have hP := fl_sub (bs' := [u_355, [(xv, aI cy 20 (va))], [(xc, aI cy 45 (co))], [(xe, aI cy 9 (ed))], [(xd, aI cy 2 (dd))], [(q_2, aI cy 27 (u_77.1))], [(q_8, aI cy 8 (u_77.2.1))], [(q_14, aI cy 27 ((fun _ => 0)))], [(q_19, aI cy 2 (u_77.2.2.1))], [(q_25, aI cy 64 (u_77.2.2.2.1))], [(q_31, aI cy 64 (u_77.2.2.2.2.1))], [(q_37, aI cy 64 (u_77.2.2.2.2.2))]]) hP [7, 0, 1, 2, 3, 4, 5, 6, 8, 9, 10, 11] rfl
                      have hD := fl_subD (bs' := [u_355, [(xv, aI cy 20 (va))], [(xc, aI cy 45 (co))], [(xe, aI cy 9 (ed))], [(xd, aI cy 2 (dd))], [(q_2, aI cy 27 (u_77.1))], [(q_8, aI cy 8 (u_77.2.1))], [(q_14, aI cy 27 ((fun _ => 0)))], [(q_19, aI cy 2 (u_77.2.2.1))], [(q_25, aI cy 64 (u_77.2.2.2.1))], [(q_31, aI cy 64 (u_77.2.2.2.2.1))], [(q_37, aI cy 64 (u_77.2.2.2.2.2))]]) hD [7, 0, 1, 2, 3, 4, 5, 6, 8, 9, 10, 11] (by decide) rfl
                      exact ih_83 (p9 + 1) (u_355) (by omega) (by omega) h_355 _ _ _ hP hD hS (lv_sub hl [5, 6, 7, 8, 9, 10, 11, 12, 13, 14, 15, 16, 17, 18, 19, 4, 3, 2, 20, 0] rfl)
                    refine lv_iload hx hb dL_told_314 (lv_at hl 20 rfl) ?_
                    refine lv_iload hx hb dL_told_316 (lv_at hl 21 rfl) ?_
                    refine q_icmp_ne (tgt := 325) hx hb dL_told_318 (by decide) (by omega) (fun c_318 => ?_) (fun c_318 => ?_)
                    · skip
                      refine q_iconst hx hb dL_told_325 ?_
                      exact K_326 (0) (Or.inr ⟨decide_eq_false (by omega), rfl⟩)
                    · skip
                      refine q_iconst hx hb dL_told_321 ?_
                      refine lv_goto (tgt := 326) hx hb dL_told_322 (by decide) ?_
                      exact K_326 (1) (Or.inl ⟨decide_eq_true (by omega), rfl⟩)
                  · skip
                    have hq2 := hed k2 (by omega)
                    have gq2 := gE k2 (by omega)
                    have K_214 : ∀ (z2 : Int), (z2 = edOf (lE T) (p9 : Int) (k2 + 1)) → W p l e (qrc 8 8565 94394) s m args below meth c H locs (111 + 3 * p9 + 1 + 1) (1400 + 33 * p9 + 11 + 11) Q (F0 m 214 ls [.int (qI (z2))]) := by
                      intro z2 hz2
                      refine q_topZ (y := edOf (lE T) (p9 : Int) (k2 + 1)) hz2 ?_
                      refine lv_istore (lv' := [(23, .int (qI (edOf (lE T) (p9 : Int) (k2 + 1)))), (0, .ref (x)), (1, .int (qI (p1))), (2, .ref (xv)), (3, .ref (xc)), (4, .ref (xe)), (5, .ref (xd)), (6, .ref (q_2)), (7, .ref (q_8)), (8, .ref (q_14)), (9, .ref (q_19)), (10, .ref (q_25)), (11, .ref (q_31)), (12, .ref (q_37)), (13, .int (qI (0))), (14, .int (qI (0))), (15, .int (qI (sumV (lV T) p9))), (16, .int (qI (((cnt (fixB (lC T) (lN9 T) (lE T) (lM T)) p9 : Nat) : Int)))), (17, .int (qI (widS (lC T) (lN9 T) (lE T) (lM T) p9))), (18, .int (qI (0))), (19, .int (qI (((p9 : Nat) : Int)))), (20, .int (qI ((fM (fil (lC T) (lN9 T) (lE T) (lM T) (-1))) p9 10))), (21, .int (qI (-((fM (fil (lC T) (lN9 T) (lE T) (lM T) (-1))) 10 p9)))), (22, .int (qI (((cnt (wiB T p9) k1 : Nat) : Int)))), (24, .int (qI (((k2 : Nat) : Int))))]) hx hb dL_told_214 hl (by decide) rfl (fun ls hl => ?_)
                      refine q_iinc (k := 24) (lv' := [(24, .int (qI ((((k2 : Nat) : Int)) + (1)))), (23, .int (qI (edOf (lE T) (p9 : Int) (k2 + 1)))), (0, .ref (x)), (1, .int (qI (p1))), (2, .ref (xv)), (3, .ref (xc)), (4, .ref (xe)), (5, .ref (xd)), (6, .ref (q_2)), (7, .ref (q_8)), (8, .ref (q_14)), (9, .ref (q_19)), (10, .ref (q_25)), (11, .ref (q_31)), (12, .ref (q_37)), (13, .int (qI (0))), (14, .int (qI (0))), (15, .int (qI (sumV (lV T) p9))), (16, .int (qI (((cnt (fixB (lC T) (lN9 T) (lE T) (lM T)) p9 : Nat) : Int)))), (17, .int (qI (widS (lC T) (lN9 T) (lE T) (lM T) p9))), (18, .int (qI (0))), (19, .int (qI (((p9 : Nat) : Int)))), (20, .int (qI ((fM (fil (lC T) (lN9 T) (lE T) (lM T) (-1))) p9 10))), (21, .int (qI (-((fM (fil (lC T) (lN9 T) (lE T) (lM T) (-1))) 10 p9)))), (22, .int (qI (((cnt (wiB T p9) k1 : Nat) : Int))))]) hx hb dL_told_216 hl rfl (by decide) rfl (fun ls hl => ?_)
                      refine lv_goto (tgt := 186) hx hb dL_told_219 (by decide) ?_
                      exact ih_186 (k2 + 1)  (by omega) (by omega)  _ _ _ hP hD hS (lv_sub hl [2, 3, 4, 5, 6, 7, 8, 9, 10, 11, 12, 13, 14, 15, 16, 17, 18, 19, 20, 21, 22, 23, 24, 1, 0] rfl)
                    have hq2 := hed k2 (by omega)
                    have gq2 := gE k2 (by omega)
                    refine lv_aload hx hb dL_told_195 (lv_at hl 4 rfl) ?_
                    refine q_iconst hx hb dL_told_197 ?_
                    refine lv_iload hx hb dL_told_198 (lv_at hl 24 rfl) ?_
                    refine q_imul hx hb dL_told_200 ?_
                    refine q_iald (j := (3 * k2)) hx hb hK (fl_blk hP 3 rfl) 0 rfl (by omega) dL_told_201 ?_
                    refine lv_iload hx hb dL_told_202 (lv_at hl 19 rfl) ?_
                    refine q_icmp_ne (tgt := 212) hx hb dL_told_204 (by decide) (by omega) (fun c_204 => ?_) (fun c_204 => ?_)
                    · skip
                      refine lv_iload hx hb dL_told_212 (lv_at hl 23 rfl) ?_
                      exact K_214 (edOf (lE T) (p9 : Int) k2) (ed_s2 (by omega))
                    · skip
                      refine lv_iload hx hb dL_told_207 (lv_at hl 24 rfl) ?_
                      refine lv_goto (tgt := 214) hx hb dL_told_209 (by decide) ?_
                      exact K_214 (((k2 : Nat) : Int)) (ed_s1 (by omega) gD (by omega))
              exact L_186 (lM T + 1) (0)  (by omega) (by omega)  _ _ _ hP hD hS (lv_sub hl [1, 2, 3, 4, 5, 6, 7, 8, 9, 10, 11, 12, 13, 14, 15, 16, 17, 18, 19, 20, 21, 22, 23, 24, 0] rfl)
            · skip
              have hq := hco k1 (by omega)
              have gq := gC k1 (by omega)
              have ho9 := oN_or (lC T 1 k1) (by omega)
              refine lv_iload hx hb dL_told_143 (lv_at hl 22 rfl) ?_
              have K_174 : ∀ (z1 : Int), ((wiB T p9 k1 = true ∧ z1 = 1) ∨ (wiB T p9 k1 = false ∧ z1 = 0)) → W p l e (qrc 8 8565 94394) s m args below meth c H locs (111 + 3 * p9 + 1 + 1) (1400 + 33 * p9 + 11 + 11) Q (F0 m 174 ls [.int (qI (z1)), .int (qI (((cnt (wiB T p9) k1 : Nat) : Int)))]) := by
                intro z1 hz1
                refine q_iadd hx hb dL_told_174 ?_
                refine q_topZ (y := ((cnt (wiB T p9) (k1 + 1) : Nat) : Int)) (cnt_s hz1) ?_
                refine lv_istore (lv' := [(22, .int (qI (((cnt (wiB T p9) (k1 + 1) : Nat) : Int)))), (0, .ref (x)), (1, .int (qI (p1))), (2, .ref (xv)), (3, .ref (xc)), (4, .ref (xe)), (5, .ref (xd)), (6, .ref (q_2)), (7, .ref (q_8)), (8, .ref (q_14)), (9, .ref (q_19)), (10, .ref (q_25)), (11, .ref (q_31)), (12, .ref (q_37)), (13, .int (qI (0))), (14, .int (qI (0))), (15, .int (qI (sumV (lV T) p9))), (16, .int (qI (((cnt (fixB (lC T) (lN9 T) (lE T) (lM T)) p9 : Nat) : Int)))), (17, .int (qI (widS (lC T) (lN9 T) (lE T) (lM T) p9))), (18, .int (qI (0))), (19, .int (qI (((p9 : Nat) : Int)))), (20, .int (qI ((fM (fil (lC T) (lN9 T) (lE T) (lM T) (-1))) p9 10))), (21, .int (qI (-((fM (fil (lC T) (lN9 T) (lE T) (lM T) (-1))) 10 p9)))), (23, .int (qI (-1))), (24, .int (qI (((k1 : Nat) : Int))))]) hx hb dL_told_175 hl (by decide) rfl (fun ls hl => ?_)
                refine q_iinc (k := 24) (lv' := [(24, .int (qI ((((k1 : Nat) : Int)) + (1)))), (22, .int (qI (((cnt (wiB T p9) (k1 + 1) : Nat) : Int)))), (0, .ref (x)), (1, .int (qI (p1))), (2, .ref (xv)), (3, .ref (xc)), (4, .ref (xe)), (5, .ref (xd)), (6, .ref (q_2)), (7, .ref (q_8)), (8, .ref (q_14)), (9, .ref (q_19)), (10, .ref (q_25)), (11, .ref (q_31)), (12, .ref (q_37)), (13, .int (qI (0))), (14, .int (qI (0))), (15, .int (qI (sumV (lV T) p9))), (16, .int (qI (((cnt (fixB (lC T) (lN9 T) (lE T) (lM T)) p9 : Nat) : Int)))), (17, .int (qI (widS (lC T) (lN9 T) (lE T) (lM T) p9))), (18, .int (qI (0))), (19, .int (qI (((p9 : Nat) : Int)))), (20, .int (qI ((fM (fil (lC T) (lN9 T) (lE T) (lM T) (-1))) p9 10))), (21, .int (qI (-((fM (fil (lC T) (lN9 T) (lE T) (lM T) (-1))) 10 p9)))), (23, .int (qI (-1)))]) hx hb dL_told_177 hl rfl (by decide) rfl (fun ls hl => ?_)
                refine lv_goto (tgt := 134) hx hb dL_told_180 (by decide) ?_
                exact ih_134 (k1 + 1)  (by omega) (by omega)  _ _ _ hP hD hS (lv_sub hl [2, 3, 4, 5, 6, 7, 8, 9, 10, 11, 12, 13, 14, 15, 16, 17, 18, 19, 20, 21, 22, 23, 1, 24, 0] rfl)
              refine lv_aload_n hx hb dL_told_145 rfl (lv_at hl 3 rfl) ?_
              refine q_iconst hx hb dL_told_146 ?_
              refine lv_iload hx hb dL_told_147 (lv_at hl 24 rfl) ?_
              refine q_imul hx hb dL_told_149 ?_
              refine q_iald (j := (5 * k1)) hx hb hK (fl_blk hP 2 rfl) 0 rfl (by omega) dL_told_150 ?_
              refine lv_iload hx hb dL_told_151 (lv_at hl 19 rfl) ?_
              refine q_icmp_eq (tgt := 169) hx hb dL_told_153 (by decide) (by omega) (fun c_153 => ?_) (fun c_153 => ?_)
              · skip
                refine q_iconst hx hb dL_told_169 ?_
                refine lv_goto (tgt := 174) hx hb dL_told_170 (by decide) ?_
                exact K_174 (1) (Or.inl ⟨decide_eq_true (by omega), rfl⟩)
              · skip
                refine lv_aload_n hx hb dL_told_156 rfl (lv_at hl 3 rfl) ?_
                refine q_iconst hx hb dL_told_157 ?_
                refine lv_iload hx hb dL_told_158 (lv_at hl 24 rfl) ?_
                refine q_imul hx hb dL_told_160 ?_
                refine q_iconst hx hb dL_told_161 ?_
                refine q_iadd hx hb dL_told_162 ?_
                refine q_iald (j := ((5 * k1) + 1)) hx hb hK (fl_blk hP 2 rfl) 0 rfl (by omega) dL_told_163 ?_
                refine lv_iload hx hb dL_told_164 (lv_at hl 19 rfl) ?_
                refine q_icmp_ne (tgt := 173) hx hb dL_told_166 (by decide) (by omega) (fun c_166 => ?_) (fun c_166 => ?_)
                · skip
                  refine q_iconst hx hb dL_told_173 ?_
                  exact K_174 (0) (Or.inr ⟨decide_eq_false (by omega), rfl⟩)
                · skip
                  refine q_iconst hx hb dL_told_169 ?_
                  refine lv_goto (tgt := 174) hx hb dL_told_170 (by decide) ?_
                  exact K_174 (1) (Or.inl ⟨decide_eq_true (by omega), rfl⟩)
        exact L_134 (lN9 T + 1) (0)  (by omega) (by omega)  _ _ _ hP hD hS (lv_sub hl [5, 6, 7, 8, 9, 10, 11, 12, 13, 14, 15, 16, 17, 18, 19, 20, 21, 22, 23, 24, 4, 3, 2, 1, 0] rfl)
  refine W.widen (k := 111 + 3 * 0) (n := 1400 + 33 * 0) (by omega) (by omega) ?_
  have hP := fl_sub (bs' := [W0, [(xv, aI cy 20 (va))], [(xc, aI cy 45 (co))], [(xe, aI cy 9 (ed))], [(xd, aI cy 2 (dd))], [(q_2, aI cy 27 (u_77.1))], [(q_8, aI cy 8 (u_77.2.1))], [(q_14, aI cy 27 (fun _ => 0))], [(q_19, aI cy 2 (u_77.2.2.1))], [(q_25, aI cy 64 (u_77.2.2.2.1))], [(q_31, aI cy 64 (u_77.2.2.2.2.1))], [(q_37, aI cy 64 (u_77.2.2.2.2.2))]]) hP [0, 1, 3, 4, 5, 6, 7, 2, 8, 9, 10, 11] rfl
  have hD := fl_subD (bs' := [W0, [(xv, aI cy 20 (va))], [(xc, aI cy 45 (co))], [(xe, aI cy 9 (ed))], [(xd, aI cy 2 (dd))], [(q_2, aI cy 27 (u_77.1))], [(q_8, aI cy 8 (u_77.2.1))], [(q_14, aI cy 27 (fun _ => 0))], [(q_19, aI cy 2 (u_77.2.2.1))], [(q_25, aI cy 64 (u_77.2.2.2.1))], [(q_31, aI cy 64 (u_77.2.2.2.2.1))], [(q_37, aI cy 64 (u_77.2.2.2.2.2))]]) hD [0, 1, 3, 4, 5, 6, 7, 2, 8, 9, 10, 11] (by decide) rfl
  exact L_83 (10 + 1) (0) (W0) (by omega) (by omega) hW _ _ _ hP hD hS (lv_sub hl [14, 15, 16, 17, 18, 19, 13, 12, 11, 10, 9, 8, 7, 6, 5, 4, 3, 2, 1, 0] rfl)
