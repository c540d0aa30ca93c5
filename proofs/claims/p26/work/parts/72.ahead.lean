set_option maxRecDepth 100000 in
set_option maxHeartbeats 4000000 in
theorem c_L_ahead (l : Launch) (D : va_G) (cy : Nat → ClassId) (x la lv9 ls9 fa xh xs la2 lv92 ls92 fb fw bu ta : Nat) (rc re gb oc oe rs rc2 re2 gb2 oc2 oe2 rs2 rr : Nat → Nat) (ad : Nat → Nat → Nat) (T : LSt) (hz : Nat) (HZ : Nat → LSt) (len : Nat) (tx : Nat → Int) (W0 : va_W) (hG : gOk T) (hW : CW cy x la lv9 ls9 fa xh xs la2 lv92 ls92 fb fw bu ta rc re gb oc oe rs rc2 re2 gb2 oc2 oe2 rs2 rr ad T hz HZ len tx W0) (xv xc xe xd : Nat) (va co ed dd : Nat → Int) (hL : lwR T va co ed dd) (hn : lN9 T ≤ 9) (hm3 : lM T ≤ 3) (p1 p2 : Int) (x9 y9 : Nat) (hp1 : p1 = (x9 : Int) ∧ x9 < 2147483648) (hp2 : p2 = (y9 : Int) ∧ y9 < 2147483648) (sz : Nat) : qCM l yL_ahead (.code yL_ahead cL_ahead 25 (some .boolean)) 9 835 9362 [.ref (x), .int (qI (p1)), .int (qI (p2)), .ref (xv), .ref (xc), .ref (xe), .ref (xd)] D cy [W0, [(xv, aI cy 20 (va))], [(xc, aI cy 45 (co))], [(xe, aI cy 9 (ed))], [(xd, aI cy 2 (dd))]] sz (va_Qi (S := va_W) (fun r u => ∃ b : Bool, r = qz b ∧ (fun b u => b = true ∧ CW cy x la lv9 ls9 fa xh xs la2 lv92 ls92 fb fw bu ta rc re gb oc oe rs rc2 re2 gb2 oc2 oe2 rs2 rr ad T hz HZ len tx u) b u) (qB D cy [W0, [(xv, aI cy 20 (va))], [(xc, aI cy 45 (co))], [(xe, aI cy 9 (ed))], [(xd, aI cy 2 (dd))]] sz (fun u => [u, [(xv, aI cy 20 (va))], [(xc, aI cy 45 (co))], [(xe, aI cy 9 (ed))], [(xd, aI cy 2 (dd))]])) (va_A [W0, [(xv, aI cy 20 (va))], [(xc, aI cy 45 (co))], [(xe, aI cy 9 (ed))], [(xd, aI cy 2 (dd))]].flatten sz)) := by
  refine q_ofKz (S := va_W) (b1 := fun u => [u, [(xv, aI cy 20 (va))], [(xc, aI cy 45 (co))], [(xe, aI cy 9 (ed))], [(xd, aI cy 2 (dd))]]) (post := fun b u => b = true ∧ CW cy x la lv9 ls9 fa xh xs la2 lv92 ls92 fb fw bu ta rc re gb oc oe rs rc2 re2 gb2 oc2 oe2 rs2 rr ad T hz HZ len tx u) (by decide +kernel) (Nat.le_of_ble_eq_true rfl) ?_
  intro p e s m args below meth c Q A hx hb hml hown hg hQ hK hN hD hA H locs ls hP hS hl
  have hown : s.vm.findClass RL = some m.cls := hown
  have hl : lv_has ls 25 [(0, .ref (x)), (1, .int (qI (p1))), (2, .int (qI (p2))), (3, .ref (xv)), (4, .ref (xc)), (5, .ref (xe)), (6, .ref (xd))] := hl
  obtain ⟨fsW, hfsW⟩ := CW_at hW
  have gC : qWR (lC T) (lN9 T) := hG.2.2.1.2
  have gE : qWR (lE T) (lM T) := hG.2.2.2.1.2
  have gV : qV (lV T) := hG.1
  have gT := hG.2.1
  have gD := hG.2.2.2.2.2
  have hL0 := hL
  obtain ⟨hv, ht, hco, hed, hd0, hd1⟩ := hL
  have hx4 := Nat.div_le_self x9 (2 ^ 4)
  have hx7 := Nat.div_le_self x9 (2 ^ 7)
  have hy8 := Nat.div_le_self y9 (2 ^ 8)
  refine q_bipush hx hb dL_ahead_0 (by decide) ?_
  refine qb_newI (N := 20) hx hb hg hK hP hD hS hA (by omega) (show 0 + 1 ≤ 835 by omega) (show 0 + 20 ≤ 9362 by omega) dL_ahead_2 (fun q_2 H hP hD hS => ?_)
  have hP : va_P D vwCl [W0, [(xv, aI cy 20 (va))], [(xc, aI cy 45 (co))], [(xe, aI cy 9 (ed))], [(xd, aI cy 2 (dd))], [(q_2, aI cy 20 (fun _ => 0))]].flatten H := hP
  have hD : va_D A [W0, [(xv, aI cy 20 (va))], [(xc, aI cy 45 (co))], [(xe, aI cy 9 (ed))], [(xd, aI cy 2 (dd))], [(q_2, aI cy 20 (fun _ => 0))]].flatten := hD
  refine lv_astore (lv' := [(7, .ref (q_2)), (0, .ref (x)), (1, .int (qI (p1))), (2, .int (qI (p2))), (3, .ref (xv)), (4, .ref (xc)), (5, .ref (xe)), (6, .ref (xd))]) hx hb dL_ahead_4 hl (by decide) rfl (fun ls hl => ?_)
  refine q_bipush hx hb dL_ahead_6 (by decide) ?_
  refine qb_newI (N := 12) hx hb hg hK hP hD hS hA (by omega) (show 1 + 1 ≤ 835 by omega) (show 20 + 12 ≤ 9362 by omega) dL_ahead_8 (fun q_8 H hP hD hS => ?_)
  have hP : va_P D vwCl [W0, [(xv, aI cy 20 (va))], [(xc, aI cy 45 (co))], [(xe, aI cy 9 (ed))], [(xd, aI cy 2 (dd))], [(q_2, aI cy 20 (fun _ => 0))], [(q_8, aI cy 12 (fun _ => 0))]].flatten H := hP
  have hD : va_D A [W0, [(xv, aI cy 20 (va))], [(xc, aI cy 45 (co))], [(xe, aI cy 9 (ed))], [(xd, aI cy 2 (dd))], [(q_2, aI cy 20 (fun _ => 0))], [(q_8, aI cy 12 (fun _ => 0))]].flatten := hD
  refine lv_astore (lv' := [(8, .ref (q_8)), (7, .ref (q_2)), (0, .ref (x)), (1, .int (qI (p1))), (2, .int (qI (p2))), (3, .ref (xv)), (4, .ref (xc)), (5, .ref (xe)), (6, .ref (xd))]) hx hb dL_ahead_10 hl (by decide) rfl (fun ls hl => ?_)
  refine q_iconst hx hb dL_ahead_12 ?_
  refine qb_newI (N := 2) hx hb hg hK hP hD hS hA (by omega) (show 2 + 1 ≤ 835 by omega) (show 32 + 2 ≤ 9362 by omega) dL_ahead_13 (fun q_13 H hP hD hS => ?_)
  have hP : va_P D vwCl [W0, [(xv, aI cy 20 (va))], [(xc, aI cy 45 (co))], [(xe, aI cy 9 (ed))], [(xd, aI cy 2 (dd))], [(q_2, aI cy 20 (fun _ => 0))], [(q_8, aI cy 12 (fun _ => 0))], [(q_13, aI cy 2 (fun _ => 0))]].flatten H := hP
  have hD : va_D A [W0, [(xv, aI cy 20 (va))], [(xc, aI cy 45 (co))], [(xe, aI cy 9 (ed))], [(xd, aI cy 2 (dd))], [(q_2, aI cy 20 (fun _ => 0))], [(q_8, aI cy 12 (fun _ => 0))], [(q_13, aI cy 2 (fun _ => 0))]].flatten := hD
  refine lv_astore (lv' := [(9, .ref (q_13)), (8, .ref (q_8)), (7, .ref (q_2)), (0, .ref (x)), (1, .int (qI (p1))), (2, .int (qI (p2))), (3, .ref (xv)), (4, .ref (xc)), (5, .ref (xe)), (6, .ref (xd))]) hx hb dL_ahead_15 hl (by decide) rfl (fun ls hl => ?_)
  refine q_bipush hx hb dL_ahead_17 (by decide) ?_
  refine qb_newI (N := 27) hx hb hg hK hP hD hS hA (by omega) (show 3 + 1 ≤ 835 by omega) (show 34 + 27 ≤ 9362 by omega) dL_ahead_19 (fun q_19 H hP hD hS => ?_)
  have hP : va_P D vwCl [W0, [(xv, aI cy 20 (va))], [(xc, aI cy 45 (co))], [(xe, aI cy 9 (ed))], [(xd, aI cy 2 (dd))], [(q_2, aI cy 20 (fun _ => 0))], [(q_8, aI cy 12 (fun _ => 0))], [(q_13, aI cy 2 (fun _ => 0))], [(q_19, aI cy 27 (fun _ => 0))]].flatten H := hP
  have hD : va_D A [W0, [(xv, aI cy 20 (va))], [(xc, aI cy 45 (co))], [(xe, aI cy 9 (ed))], [(xd, aI cy 2 (dd))], [(q_2, aI cy 20 (fun _ => 0))], [(q_8, aI cy 12 (fun _ => 0))], [(q_13, aI cy 2 (fun _ => 0))], [(q_19, aI cy 27 (fun _ => 0))]].flatten := hD
  refine lv_astore (lv' := [(10, .ref (q_19)), (9, .ref (q_13)), (8, .ref (q_8)), (7, .ref (q_2)), (0, .ref (x)), (1, .int (qI (p1))), (2, .int (qI (p2))), (3, .ref (xv)), (4, .ref (xc)), (5, .ref (xe)), (6, .ref (xd))]) hx hb dL_ahead_21 hl (by decide) rfl (fun ls hl => ?_)
  refine q_bipush hx hb dL_ahead_23 (by decide) ?_
  refine qb_newI (N := 8) hx hb hg hK hP hD hS hA (by omega) (show 4 + 1 ≤ 835 by omega) (show 61 + 8 ≤ 9362 by omega) dL_ahead_25 (fun q_25 H hP hD hS => ?_)
  have hP : va_P D vwCl [W0, [(xv, aI cy 20 (va))], [(xc, aI cy 45 (co))], [(xe, aI cy 9 (ed))], [(xd, aI cy 2 (dd))], [(q_2, aI cy 20 (fun _ => 0))], [(q_8, aI cy 12 (fun _ => 0))], [(q_13, aI cy 2 (fun _ => 0))], [(q_19, aI cy 27 (fun _ => 0))], [(q_25, aI cy 8 (fun _ => 0))]].flatten H := hP
  have hD : va_D A [W0, [(xv, aI cy 20 (va))], [(xc, aI cy 45 (co))], [(xe, aI cy 9 (ed))], [(xd, aI cy 2 (dd))], [(q_2, aI cy 20 (fun _ => 0))], [(q_8, aI cy 12 (fun _ => 0))], [(q_13, aI cy 2 (fun _ => 0))], [(q_19, aI cy 27 (fun _ => 0))], [(q_25, aI cy 8 (fun _ => 0))]].flatten := hD
  refine lv_astore (lv' := [(11, .ref (q_25)), (10, .ref (q_19)), (9, .ref (q_13)), (8, .ref (q_8)), (7, .ref (q_2)), (0, .ref (x)), (1, .int (qI (p1))), (2, .int (qI (p2))), (3, .ref (xv)), (4, .ref (xc)), (5, .ref (xe)), (6, .ref (xd))]) hx hb dL_ahead_27 hl (by decide) rfl (fun ls hl => ?_)
  refine q_iconst hx hb dL_ahead_29 ?_
  refine qb_newI (N := 2) hx hb hg hK hP hD hS hA (by omega) (show 5 + 1 ≤ 835 by omega) (show 69 + 2 ≤ 9362 by omega) dL_ahead_30 (fun q_30 H hP hD hS => ?_)
  have hP : va_P D vwCl [W0, [(xv, aI cy 20 (va))], [(xc, aI cy 45 (co))], [(xe, aI cy 9 (ed))], [(xd, aI cy 2 (dd))], [(q_2, aI cy 20 (fun _ => 0))], [(q_8, aI cy 12 (fun _ => 0))], [(q_13, aI cy 2 (fun _ => 0))], [(q_19, aI cy 27 (fun _ => 0))], [(q_25, aI cy 8 (fun _ => 0))], [(q_30, aI cy 2 (fun _ => 0))]].flatten H := hP
  have hD : va_D A [W0, [(xv, aI cy 20 (va))], [(xc, aI cy 45 (co))], [(xe, aI cy 9 (ed))], [(xd, aI cy 2 (dd))], [(q_2, aI cy 20 (fun _ => 0))], [(q_8, aI cy 12 (fun _ => 0))], [(q_13, aI cy 2 (fun _ => 0))], [(q_19, aI cy 27 (fun _ => 0))], [(q_25, aI cy 8 (fun _ => 0))], [(q_30, aI cy 2 (fun _ => 0))]].flatten := hD
  refine lv_astore (lv' := [(12, .ref (q_30)), (11, .ref (q_25)), (10, .ref (q_19)), (9, .ref (q_13)), (8, .ref (q_8)), (7, .ref (q_2)), (0, .ref (x)), (1, .int (qI (p1))), (2, .int (qI (p2))), (3, .ref (xv)), (4, .ref (xc)), (5, .ref (xe)), (6, .ref (xd))]) hx hb dL_ahead_32 hl (by decide) rfl (fun ls hl => ?_)
  refine q_bipush hx hb dL_ahead_34 (by decide) ?_
  refine qb_newI (N := 64) hx hb hg hK hP hD hS hA (by omega) (show 6 + 1 ≤ 835 by omega) (show 71 + 64 ≤ 9362 by omega) dL_ahead_36 (fun q_36 H hP hD hS => ?_)
  have hP : va_P D vwCl [W0, [(xv, aI cy 20 (va))], [(xc, aI cy 45 (co))], [(xe, aI cy 9 (ed))], [(xd, aI cy 2 (dd))], [(q_2, aI cy 20 (fun _ => 0))], [(q_8, aI cy 12 (fun _ => 0))], [(q_13, aI cy 2 (fun _ => 0))], [(q_19, aI cy 27 (fun _ => 0))], [(q_25, aI cy 8 (fun _ => 0))], [(q_30, aI cy 2 (fun _ => 0))], [(q_36, aI cy 64 (fun _ => 0))]].flatten H := hP
  have hD : va_D A [W0, [(xv, aI cy 20 (va))], [(xc, aI cy 45 (co))], [(xe, aI cy 9 (ed))], [(xd, aI cy 2 (dd))], [(q_2, aI cy 20 (fun _ => 0))], [(q_8, aI cy 12 (fun _ => 0))], [(q_13, aI cy 2 (fun _ => 0))], [(q_19, aI cy 27 (fun _ => 0))], [(q_25, aI cy 8 (fun _ => 0))], [(q_30, aI cy 2 (fun _ => 0))], [(q_36, aI cy 64 (fun _ => 0))]].flatten := hD
  refine lv_astore (lv' := [(13, .ref (q_36)), (12, .ref (q_30)), (11, .ref (q_25)), (10, .ref (q_19)), (9, .ref (q_13)), (8, .ref (q_8)), (7, .ref (q_2)), (0, .ref (x)), (1, .int (qI (p1))), (2, .int (qI (p2))), (3, .ref (xv)), (4, .ref (xc)), (5, .ref (xe)), (6, .ref (xd))]) hx hb dL_ahead_38 hl (by decide) rfl (fun ls hl => ?_)
  refine q_bipush hx hb dL_ahead_40 (by decide) ?_
  refine qb_newI (N := 64) hx hb hg hK hP hD hS hA (by omega) (show 7 + 1 ≤ 835 by omega) (show 135 + 64 ≤ 9362 by omega) dL_ahead_42 (fun q_42 H hP hD hS => ?_)
  have hP : va_P D vwCl [W0, [(xv, aI cy 20 (va))], [(xc, aI cy 45 (co))], [(xe, aI cy 9 (ed))], [(xd, aI cy 2 (dd))], [(q_2, aI cy 20 (fun _ => 0))], [(q_8, aI cy 12 (fun _ => 0))], [(q_13, aI cy 2 (fun _ => 0))], [(q_19, aI cy 27 (fun _ => 0))], [(q_25, aI cy 8 (fun _ => 0))], [(q_30, aI cy 2 (fun _ => 0))], [(q_36, aI cy 64 (fun _ => 0))], [(q_42, aI cy 64 (fun _ => 0))]].flatten H := hP
  have hD : va_D A [W0, [(xv, aI cy 20 (va))], [(xc, aI cy 45 (co))], [(xe, aI cy 9 (ed))], [(xd, aI cy 2 (dd))], [(q_2, aI cy 20 (fun _ => 0))], [(q_8, aI cy 12 (fun _ => 0))], [(q_13, aI cy 2 (fun _ => 0))], [(q_19, aI cy 27 (fun _ => 0))], [(q_25, aI cy 8 (fun _ => 0))], [(q_30, aI cy 2 (fun _ => 0))], [(q_36, aI cy 64 (fun _ => 0))], [(q_42, aI cy 64 (fun _ => 0))]].flatten := hD
  refine lv_astore (lv' := [(14, .ref (q_42)), (13, .ref (q_36)), (12, .ref (q_30)), (11, .ref (q_25)), (10, .ref (q_19)), (9, .ref (q_13)), (8, .ref (q_8)), (7, .ref (q_2)), (0, .ref (x)), (1, .int (qI (p1))), (2, .int (qI (p2))), (3, .ref (xv)), (4, .ref (xc)), (5, .ref (xe)), (6, .ref (xd))]) hx hb dL_ahead_44 hl (by decide) rfl (fun ls hl => ?_)
  refine q_bipush hx hb dL_ahead_46 (by decide) ?_
  refine qb_newI (N := 64) hx hb hg hK hP hD hS hA (by omega) (show 8 + 1 ≤ 835 by omega) (show 199 + 64 ≤ 9362 by omega) dL_ahead_48 (fun q_48 H hP hD hS => ?_)
  have hP : va_P D vwCl [W0, [(xv, aI cy 20 (va))], [(xc, aI cy 45 (co))], [(xe, aI cy 9 (ed))], [(xd, aI cy 2 (dd))], [(q_2, aI cy 20 (fun _ => 0))], [(q_8, aI cy 12 (fun _ => 0))], [(q_13, aI cy 2 (fun _ => 0))], [(q_19, aI cy 27 (fun _ => 0))], [(q_25, aI cy 8 (fun _ => 0))], [(q_30, aI cy 2 (fun _ => 0))], [(q_36, aI cy 64 (fun _ => 0))], [(q_42, aI cy 64 (fun _ => 0))], [(q_48, aI cy 64 (fun _ => 0))]].flatten H := hP
  have hD : va_D A [W0, [(xv, aI cy 20 (va))], [(xc, aI cy 45 (co))], [(xe, aI cy 9 (ed))], [(xd, aI cy 2 (dd))], [(q_2, aI cy 20 (fun _ => 0))], [(q_8, aI cy 12 (fun _ => 0))], [(q_13, aI cy 2 (fun _ => 0))], [(q_19, aI cy 27 (fun _ => 0))], [(q_25, aI cy 8 (fun _ => 0))], [(q_30, aI cy 2 (fun _ => 0))], [(q_36, aI cy 64 (fun _ => 0))], [(q_42, aI cy 64 (fun _ => 0))], [(q_48, aI cy 64 (fun _ => 0))]].flatten := hD
  refine lv_astore (lv' := [(15, .ref (q_48)), (14, .ref (q_42)), (13, .ref (q_36)), (12, .ref (q_30)), (11, .ref (q_25)), (10, .ref (q_19)), (9, .ref (q_13)), (8, .ref (q_8)), (7, .ref (q_2)), (0, .ref (x)), (1, .int (qI (p1))), (2, .int (qI (p2))), (3, .ref (xv)), (4, .ref (xc)), (5, .ref (xe)), (6, .ref (xd))]) hx hb dL_ahead_50 hl (by decide) rfl (fun ls hl => ?_)
  refine q_iconst hx hb dL_ahead_52 ?_
  refine lv_istore (lv' := [(16, .int (qI (0))), (15, .ref (q_48)), (14, .ref (q_42)), (13, .ref (q_36)), (12, .ref (q_30)), (11, .ref (q_25)), (10, .ref (q_19)), (9, .ref (q_13)), (8, .ref (q_8)), (7, .ref (q_2)), (0, .ref (x)), (1, .int (qI (p1))), (2, .int (qI (p2))), (3, .ref (xv)), (4, .ref (xc)), (5, .ref (xe)), (6, .ref (xd))]) hx hb dL_ahead_53 hl (by decide) rfl (fun ls hl => ?_)
  have L_55 : ∀ (n_55 k1 : Nat) (v3 : Nat → Int), k1 ≤ 20 → 20 + 1 ≤ k1 + n_55 → (∀ q, q < k1 → v3 q = va q) → ∀ (H : Heap) (locs : List Loc) (ls : Array Slot), va_P D vwCl [W0, [(xv, aI cy 20 (va))], [(xc, aI cy 45 (co))], [(xe, aI cy 9 (ed))], [(xd, aI cy 2 (dd))], [(q_2, aI cy 20 (v3))], [(q_8, aI cy 12 (fun _ => 0))], [(q_13, aI cy 2 (fun _ => 0))], [(q_19, aI cy 27 (fun _ => 0))], [(q_25, aI cy 8 (fun _ => 0))], [(q_30, aI cy 2 (fun _ => 0))], [(q_36, aI cy 64 (fun _ => 0))], [(q_42, aI cy 64 (fun _ => 0))], [(q_48, aI cy 64 (fun _ => 0))]].flatten H → va_D A [W0, [(xv, aI cy 20 (va))], [(xc, aI cy 45 (co))], [(xe, aI cy 9 (ed))], [(xd, aI cy 2 (dd))], [(q_2, aI cy 20 (v3))], [(q_8, aI cy 12 (fun _ => 0))], [(q_13, aI cy 2 (fun _ => 0))], [(q_19, aI cy 27 (fun _ => 0))], [(q_25, aI cy 8 (fun _ => 0))], [(q_30, aI cy 2 (fun _ => 0))], [(q_36, aI cy 64 (fun _ => 0))], [(q_42, aI cy 64 (fun _ => 0))], [(q_48, aI cy 64 (fun _ => 0))]].flatten → va_S A s.heap H locs → lv_has ls 25 [(0, .ref (x)), (1, .int (qI (p1))), (2, .int (qI (p2))), (3, .ref (xv)), (4, .ref (xc)), (5, .ref (xe)), (6, .ref (xd)), (7, .ref (q_2)), (8, .ref (q_8)), (9, .ref (q_13)), (10, .ref (q_19)), (11, .ref (q_25)), (12, .ref (q_30)), (13, .ref (q_36)), (14, .ref (q_42)), (15, .ref (q_48)), (16, .int (qI (((k1 : Nat) : Int))))] → W p l e (qrc 9 835 9362) s m args below meth c H locs (9) (263) Q (F0 m 55 ls []) := by
    intro n_55
    induction n_55 with
    | zero => intro k1 _ h1 h2; exact absurd h2 (by omega)
    | succ n_55 ih_55 =>
      intro k1 v3 hk_55 hn_55 hv3 H locs ls hP hD hS hl
      refine lv_iload hx hb dL_ahead_55 (lv_at hl 16 rfl) ?_
      refine q_bipush hx hb dL_ahead_57 (by decide) ?_
      refine q_icmp_ge (tgt := 77) hx hb dL_ahead_59 (by decide) (by omega) (fun c_59 => ?_) (fun c_59 => ?_)
      · skip
        refine q_iconst hx hb dL_ahead_77 ?_
        refine lv_istore (lv' := [(16, .int (qI (0))), (0, .ref (x)), (1, .int (qI (p1))), (2, .int (qI (p2))), (3, .ref (xv)), (4, .ref (xc)), (5, .ref (xe)), (6, .ref (xd)), (7, .ref (q_2)), (8, .ref (q_8)), (9, .ref (q_13)), (10, .ref (q_19)), (11, .ref (q_25)), (12, .ref (q_30)), (13, .ref (q_36)), (14, .ref (q_42)), (15, .ref (q_48))]) hx hb dL_ahead_78 hl (by decide) rfl (fun ls hl => ?_)
        have L_80 : ∀ (n_80 k2 : Nat) (e3 : Nat → Int), k2 ≤ 9 → 9 + 1 ≤ k2 + n_80 → (∀ q, q < k2 → e3 q = ed q) → ∀ (H : Heap) (locs : List Loc) (ls : Array Slot), va_P D vwCl [W0, [(xv, aI cy 20 (va))], [(xc, aI cy 45 (co))], [(xe, aI cy 9 (ed))], [(xd, aI cy 2 (dd))], [(q_2, aI cy 20 (v3))], [(q_8, aI cy 12 (e3))], [(q_13, aI cy 2 (fun _ => 0))], [(q_19, aI cy 27 (fun _ => 0))], [(q_25, aI cy 8 (fun _ => 0))], [(q_30, aI cy 2 (fun _ => 0))], [(q_36, aI cy 64 (fun _ => 0))], [(q_42, aI cy 64 (fun _ => 0))], [(q_48, aI cy 64 (fun _ => 0))]].flatten H → va_D A [W0, [(xv, aI cy 20 (va))], [(xc, aI cy 45 (co))], [(xe, aI cy 9 (ed))], [(xd, aI cy 2 (dd))], [(q_2, aI cy 20 (v3))], [(q_8, aI cy 12 (e3))], [(q_13, aI cy 2 (fun _ => 0))], [(q_19, aI cy 27 (fun _ => 0))], [(q_25, aI cy 8 (fun _ => 0))], [(q_30, aI cy 2 (fun _ => 0))], [(q_36, aI cy 64 (fun _ => 0))], [(q_42, aI cy 64 (fun _ => 0))], [(q_48, aI cy 64 (fun _ => 0))]].flatten → va_S A s.heap H locs → lv_has ls 25 [(0, .ref (x)), (1, .int (qI (p1))), (2, .int (qI (p2))), (3, .ref (xv)), (4, .ref (xc)), (5, .ref (xe)), (6, .ref (xd)), (7, .ref (q_2)), (8, .ref (q_8)), (9, .ref (q_13)), (10, .ref (q_19)), (11, .ref (q_25)), (12, .ref (q_30)), (13, .ref (q_36)), (14, .ref (q_42)), (15, .ref (q_48)), (16, .int (qI (((k2 : Nat) : Int))))] → W p l e (qrc 9 835 9362) s m args below meth c H locs (9) (263) Q (F0 m 80 ls []) := by
          intro n_80
          induction n_80 with
          | zero => intro k2 _ h1 h2; exact absurd h2 (by omega)
          | succ n_80 ih_80 =>
            intro k2 e3 hk_80 hn_80 he3 H locs ls hP hD hS hl
            refine lv_iload hx hb dL_ahead_80 (lv_at hl 16 rfl) ?_
            refine q_bipush hx hb dL_ahead_82 (by decide) ?_
            refine q_icmp_ge (tgt := 103) hx hb dL_ahead_84 (by decide) (by omega) (fun c_84 => ?_) (fun c_84 => ?_)
            · skip
              refine lv_aload hx hb dL_ahead_103 (lv_at hl 9 rfl) ?_
              refine q_iconst hx hb dL_ahead_105 ?_
              refine lv_aload hx hb dL_ahead_106 (lv_at hl 6 rfl) ?_
              refine q_iconst hx hb dL_ahead_108 ?_
              refine q_iald (j := 0) hx hb hK (fl_blk hP 4 rfl) 0 rfl (by omega) dL_ahead_109 ?_
              refine qb_iast (j := 0) hx hb hK hP hD hS 7 0 rfl rfl (by omega) dL_ahead_110 (fun H locs hP hD hS => ?_)
              have hP : va_P D vwCl [W0, [(xv, aI cy 20 (va))], [(xc, aI cy 45 (co))], [(xe, aI cy 9 (ed))], [(xd, aI cy 2 (dd))], [(q_2, aI cy 20 (v3))], [(q_8, aI cy 12 (e3))], [(q_13, aI cy 2 (qu (fun _ => 0) 0 (dd 0)))], [(q_19, aI cy 27 (fun _ => 0))], [(q_25, aI cy 8 (fun _ => 0))], [(q_30, aI cy 2 (fun _ => 0))], [(q_36, aI cy 64 (fun _ => 0))], [(q_42, aI cy 64 (fun _ => 0))], [(q_48, aI cy 64 (fun _ => 0))]].flatten H := hP
              have hD : va_D A [W0, [(xv, aI cy 20 (va))], [(xc, aI cy 45 (co))], [(xe, aI cy 9 (ed))], [(xd, aI cy 2 (dd))], [(q_2, aI cy 20 (v3))], [(q_8, aI cy 12 (e3))], [(q_13, aI cy 2 (qu (fun _ => 0) 0 (dd 0)))], [(q_19, aI cy 27 (fun _ => 0))], [(q_25, aI cy 8 (fun _ => 0))], [(q_30, aI cy 2 (fun _ => 0))], [(q_36, aI cy 64 (fun _ => 0))], [(q_42, aI cy 64 (fun _ => 0))], [(q_48, aI cy 64 (fun _ => 0))]].flatten := hD
              refine lv_aload hx hb dL_ahead_111 (lv_at hl 9 rfl) ?_
              refine q_iconst hx hb dL_ahead_113 ?_
              refine lv_aload hx hb dL_ahead_114 (lv_at hl 6 rfl) ?_
              refine q_iconst hx hb dL_ahead_116 ?_
              refine q_iald (j := 1) hx hb hK (fl_blk hP 4 rfl) 0 rfl (by omega) dL_ahead_117 ?_
              refine qb_iast (j := 1) hx hb hK hP hD hS 7 0 rfl rfl (by omega) dL_ahead_118 (fun H locs hP hD hS => ?_)
              have hP : va_P D vwCl [W0, [(xv, aI cy 20 (va))], [(xc, aI cy 45 (co))], [(xe, aI cy 9 (ed))], [(xd, aI cy 2 (dd))], [(q_2, aI cy 20 (v3))], [(q_8, aI cy 12 (e3))], [(q_13, aI cy 2 (qu (qu (fun _ => 0) 0 (dd 0)) 1 (dd 1)))], [(q_19, aI cy 27 (fun _ => 0))], [(q_25, aI cy 8 (fun _ => 0))], [(q_30, aI cy 2 (fun _ => 0))], [(q_36, aI cy 64 (fun _ => 0))], [(q_42, aI cy 64 (fun _ => 0))], [(q_48, aI cy 64 (fun _ => 0))]].flatten H := hP
              have hD : va_D A [W0, [(xv, aI cy 20 (va))], [(xc, aI cy 45 (co))], [(xe, aI cy 9 (ed))], [(xd, aI cy 2 (dd))], [(q_2, aI cy 20 (v3))], [(q_8, aI cy 12 (e3))], [(q_13, aI cy 2 (qu (qu (fun _ => 0) 0 (dd 0)) 1 (dd 1)))], [(q_19, aI cy 27 (fun _ => 0))], [(q_25, aI cy 8 (fun _ => 0))], [(q_30, aI cy 2 (fun _ => 0))], [(q_36, aI cy 64 (fun _ => 0))], [(q_42, aI cy 64 (fun _ => 0))], [(q_48, aI cy 64 (fun _ => 0))]].flatten := hD
              have hd9 : (qu (qu (fun _ => 0) 0 (dd 0)) 1 (dd 1)) 0 = dd 0 ∧ (qu (qu (fun _ => 0) 0 (dd 0)) 1 (dd 1)) 1 = dd 1 := ⟨(by rw [qu_n _ _ (show (0 : Nat) ≠ 1 by decide), qu_s]), qu_s _ _ _⟩
              obtain ⟨d7, hd7⟩ : ∃ d7 : Nat → Int, d7 = (qu (qu (fun _ => 0) 0 (dd 0)) 1 (dd 1)) := ⟨_, rfl⟩
              rw [← hd7] at hd9 hP hD
              have hP : va_P D vwCl [W0, [(xv, aI cy 20 (va))], [(xc, aI cy 45 (co))], [(xe, aI cy 9 (ed))], [(xd, aI cy 2 (dd))], [(q_2, aI cy 20 (v3))], [(q_8, aI cy 12 (e3))], [(q_13, aI cy 2 (d7))], [(q_19, aI cy 27 (fun _ => 0))], [(q_25, aI cy 8 (fun _ => 0))], [(q_30, aI cy 2 (fun _ => 0))], [(q_36, aI cy 64 (fun _ => 0))], [(q_42, aI cy 64 (fun _ => 0))], [(q_48, aI cy 64 (fun _ => 0))]].flatten H := hP
              have hD : va_D A [W0, [(xv, aI cy 20 (va))], [(xc, aI cy 45 (co))], [(xe, aI cy 9 (ed))], [(xd, aI cy 2 (dd))], [(q_2, aI cy 20 (v3))], [(q_8, aI cy 12 (e3))], [(q_13, aI cy 2 (d7))], [(q_19, aI cy 27 (fun _ => 0))], [(q_25, aI cy 8 (fun _ => 0))], [(q_30, aI cy 2 (fun _ => 0))], [(q_36, aI cy 64 (fun _ => 0))], [(q_42, aI cy 64 (fun _ => 0))], [(q_48, aI cy 64 (fun _ => 0))]].flatten := hD
              refine lv_iload_n hx hb dL_ahead_119 rfl (lv_at hl 1 rfl) ?_
              refine q_iconst hx hb dL_ahead_120 ?_
              refine q_readi (va_runS (As := [.int (qI (p1)), .int (qI (5))]) (rest := []) ⟨hx, hb, hml, hown, hg⟩ (c_L_at l D cy _ _ x9 5 (by omega) (by omega)) (cs_L_36 hg rfl rfl ⟨(Nat.le_of_ble_eq_true rfl), (Nat.le_of_ble_eq_true rfl)⟩) ⟨q_blind0, q_preR _ hK hN hP [] rfl⟩ rfl rfl hl.1 rfl (lv_room (Nat.le_of_ble_eq_true rfl)) dL_ahead_121 ⟨(show 9 + 0 ≤ 835 by omega), (show 263 + 0 ≤ 9362 by omega)⟩) (fun r_121 h_121 => ?_)
              subst h_121
              obtain ⟨l9, hl99, hl98⟩ : ∃ l9 : Nat, l9 < 5 ∧ l9 = x9 / 2 % 5 := ⟨_, Nat.mod_lt _ (by decide), rfl⟩
              refine q_topZ (y := ((l9 : Nat) : Int)) (by rw [hl98]) ?_
              refine lv_istore (lv' := [(16, .int (qI (((l9 : Nat) : Int)))), (0, .ref (x)), (1, .int (qI (p1))), (2, .int (qI (p2))), (3, .ref (xv)), (4, .ref (xc)), (5, .ref (xe)), (6, .ref (xd)), (7, .ref (q_2)), (8, .ref (q_8)), (9, .ref (q_13)), (10, .ref (q_19)), (11, .ref (q_25)), (12, .ref (q_30)), (13, .ref (q_36)), (14, .ref (q_42)), (15, .ref (q_48))]) hx hb dL_ahead_124 hl (by decide) rfl (fun ls hl => ?_)
              refine lv_iload_n hx hb dL_ahead_126 rfl (lv_at hl 3 rfl) ?_
              refine q_sipush hx hb dL_ahead_127 (by decide) ?_
              refine q_readi (va_runS (As := [.int (qI (p2)), .int (qI (161))]) (rest := []) ⟨hx, hb, hml, hown, hg⟩ (c_L_at l D cy _ _ y9 161 (by omega) (by omega)) (cs_L_36 hg rfl rfl ⟨(Nat.le_of_ble_eq_true rfl), (Nat.le_of_ble_eq_true rfl)⟩) ⟨q_blind0, q_preR _ hK hN hP [] rfl⟩ rfl rfl hl.1 rfl (lv_room (Nat.le_of_ble_eq_true rfl)) dL_ahead_130 ⟨(show 9 + 0 ≤ 835 by omega), (show 263 + 0 ≤ 9362 by omega)⟩) (fun r_130 h_130 => ?_)
              subst h_130
              refine q_bipush hx hb dL_ahead_133 (by decide) ?_
              refine q_isub hx hb dL_ahead_135 ?_
              obtain ⟨w9, hw99, hw98⟩ : ∃ w9 : Int, (-80 ≤ w9 ∧ w9 ≤ 80) ∧ w9 = (((y9 / 2 % 161 : Nat) : Int)) - (80) := ⟨_, by omega, rfl⟩
              refine q_topZ (y := w9) (by rw [hw98]) ?_
              refine lv_istore (lv' := [(17, .int (qI (w9))), (16, .int (qI (((l9 : Nat) : Int)))), (0, .ref (x)), (1, .int (qI (p1))), (2, .int (qI (p2))), (3, .ref (xv)), (4, .ref (xc)), (5, .ref (xe)), (6, .ref (xd)), (7, .ref (q_2)), (8, .ref (q_8)), (9, .ref (q_13)), (10, .ref (q_19)), (11, .ref (q_25)), (12, .ref (q_30)), (13, .ref (q_36)), (14, .ref (q_42)), (15, .ref (q_48))]) hx hb dL_ahead_136 hl (by decide) rfl (fun ls hl => ?_)
              refine lv_iload_n hx hb dL_ahead_138 rfl (lv_at hl 3 rfl) ?_
              refine q_iconst hx hb dL_ahead_139 ?_
              refine q_ishr (F := x9) (k := 4) hx hb (by omega) dL_ahead_140 ?_
              refine q_iconst hx hb dL_ahead_141 ?_
              refine q_readi (va_runS (As := [.int (qI ((((x9) / 2 ^ (4) : Nat) : Int))), .int (qI (4))]) (rest := []) ⟨hx, hb, hml, hown, hg⟩ (c_L_at l D cy _ _ ((x9) / 2 ^ (4)) 4 (by omega) (by omega)) (cs_L_36 hg rfl rfl ⟨(Nat.le_of_ble_eq_true rfl), (Nat.le_of_ble_eq_true rfl)⟩) ⟨q_blind0, q_preR _ hK hN hP [] rfl⟩ rfl rfl hl.1 rfl (lv_room (Nat.le_of_ble_eq_true rfl)) dL_ahead_142 ⟨(show 9 + 0 ≤ 835 by omega), (show 263 + 0 ≤ 9362 by omega)⟩) (fun r_142 h_142 => ?_)
              subst h_142
              obtain ⟨s9, hs99, hs98⟩ : ∃ s9 : Nat, s9 < 4 ∧ s9 = ((x9) / 2 ^ (4)) / 2 % 4 := ⟨_, Nat.mod_lt _ (by decide), rfl⟩
              refine q_topZ (y := ((s9 : Nat) : Int)) (by rw [hs98]) ?_
              refine lv_istore (lv' := [(18, .int (qI (((s9 : Nat) : Int)))), (17, .int (qI (w9))), (16, .int (qI (((l9 : Nat) : Int)))), (0, .ref (x)), (1, .int (qI (p1))), (2, .int (qI (p2))), (3, .ref (xv)), (4, .ref (xc)), (5, .ref (xe)), (6, .ref (xd)), (7, .ref (q_2)), (8, .ref (q_8)), (9, .ref (q_13)), (10, .ref (q_19)), (11, .ref (q_25)), (12, .ref (q_30)), (13, .ref (q_36)), (14, .ref (q_42)), (15, .ref (q_48))]) hx hb dL_ahead_145 hl (by decide) rfl (fun ls hl => ?_)
              refine lv_iload_n hx hb dL_ahead_147 rfl (lv_at hl 5 rfl) ?_
              refine q_bipush hx hb dL_ahead_148 (by decide) ?_
              refine q_ishr (F := y9) (k := 8) hx hb (by omega) dL_ahead_150 ?_
              refine q_bipush hx hb dL_ahead_151 (by decide) ?_
              refine q_readi (va_runS (As := [.int (qI ((((y9) / 2 ^ (8) : Nat) : Int))), .int (qI (6))]) (rest := []) ⟨hx, hb, hml, hown, hg⟩ (c_L_at l D cy _ _ ((y9) / 2 ^ (8)) 6 (by omega) (by omega)) (cs_L_36 hg rfl rfl ⟨(Nat.le_of_ble_eq_true rfl), (Nat.le_of_ble_eq_true rfl)⟩) ⟨q_blind0, q_preR _ hK hN hP [] rfl⟩ rfl rfl hl.1 rfl (lv_room (Nat.le_of_ble_eq_true rfl)) dL_ahead_153 ⟨(show 9 + 0 ≤ 835 by omega), (show 263 + 0 ≤ 9362 by omega)⟩) (fun r_153 h_153 => ?_)
              subst h_153
              obtain ⟨q9, hq99, hq98⟩ : ∃ q9 : Nat, q9 < 6 ∧ q9 = ((y9) / 2 ^ (8)) / 2 % 6 := ⟨_, Nat.mod_lt _ (by decide), rfl⟩
              refine q_topZ (y := ((q9 : Nat) : Int)) (by rw [hq98]) ?_
              refine lv_istore (lv' := [(19, .int (qI (((q9 : Nat) : Int)))), (18, .int (qI (((s9 : Nat) : Int)))), (17, .int (qI (w9))), (16, .int (qI (((l9 : Nat) : Int)))), (0, .ref (x)), (1, .int (qI (p1))), (2, .int (qI (p2))), (3, .ref (xv)), (4, .ref (xc)), (5, .ref (xe)), (6, .ref (xd)), (7, .ref (q_2)), (8, .ref (q_8)), (9, .ref (q_13)), (10, .ref (q_19)), (11, .ref (q_25)), (12, .ref (q_30)), (13, .ref (q_36)), (14, .ref (q_42)), (15, .ref (q_48))]) hx hb dL_ahead_156 hl (by decide) rfl (fun ls hl => ?_)
              have hed2 : rE (lE T) (lM T) e3 := fun k hk => by
                have q := hed k hk
                rw [he3 _ (by omega), he3 _ (by omega), he3 _ (by omega)]
                exact q
              have hd2 : d7 1 = (lM T : Int) := hd9.2.trans hd1
              have hL3 : lwR T v3 co e3 d7 := ⟨fun i hi => (hv3 i (by omega)).trans (hv i hi), fun i hi => (hv3 (10 + i) (by omega)).trans (ht i hi), hco, hed2, hd9.1.trans hd0, hd2⟩
              have hwf : wfN (lE T) (lM T) (l9 : Int) ≤ lM T + 1 := by
                unfold wfN
                split <;> omega
              refine lv_iload hx hb dL_ahead_158 (lv_at hl 3 rfl) ?_
              refine lv_iload hx hb dL_ahead_160 (lv_at hl 2 rfl) ?_
              refine lv_iload hx hb dL_ahead_162 (lv_at hl 1 rfl) ?_
              refine lv_aload hx hb dL_ahead_164 (lv_at hl 12 rfl) ?_
              refine lv_aload hx hb dL_ahead_166 (lv_at hl 13 rfl) ?_
              refine q_backKv (mc := 0) (ms := 0) [6, 7] [0, 1, 2, 3, 4, 5, 8, 9, 10, 11, 12, 13] (br := [W0, [(xv, aI cy 20 (va))], [(xc, aI cy 45 (co))], [(xe, aI cy 9 (ed))], [(xd, aI cy 2 (dd))], [(q_2, aI cy 20 (v3))], [(q_19, aI cy 27 (fun _ => 0))], [(q_25, aI cy 8 (fun _ => 0))], [(q_30, aI cy 2 (fun _ => 0))], [(q_36, aI cy 64 (fun _ => 0))], [(q_42, aI cy 64 (fun _ => 0))], [(q_48, aI cy 64 (fun _ => 0))]]) hP hD hS hA (va_runS (As := [.int (qI (((l9 : Nat) : Int))), .int (qI (w9)), .int (qI (((s9 : Nat) : Int))), .ref (q_8), .ref (q_13)]) (rest := []) ⟨hx, hb, hml, hown, hg⟩ (c_L_lay l D cy q_8 q_13 e3 d7 (lE T) (lM T) hed2 hd2 12 _ _ _ (by omega) gE ⟨by omega, by omega⟩ _) (cs_L_61 hg rfl rfl ⟨(Nat.le_of_ble_eq_true rfl), (Nat.le_of_ble_eq_true rfl)⟩) ⟨q_blind, q_preM _ hK hN hP hD [6, 7] (by decide) rfl⟩ rfl rfl hl.1 rfl (lv_room (Nat.le_of_ble_eq_true rfl)) dL_ahead_168 ⟨(show 9 + 0 ≤ 835 by omega), (show 263 + 0 ≤ 9362 by omega)⟩) rfl rfl (by decide) (fun u_168 H locs h_168 hP hD hS => ?_)
              have hP : va_P D vwCl [W0, [(xv, aI cy 20 (va))], [(xc, aI cy 45 (co))], [(xe, aI cy 9 (ed))], [(xd, aI cy 2 (dd))], [(q_2, aI cy 20 (v3))], [(q_19, aI cy 27 (fun _ => 0))], [(q_25, aI cy 8 (fun _ => 0))], [(q_30, aI cy 2 (fun _ => 0))], [(q_36, aI cy 64 (fun _ => 0))], [(q_42, aI cy 64 (fun _ => 0))], [(q_48, aI cy 64 (fun _ => 0))], [(q_8, aI cy 12 (u_168.1))], [(q_13, aI cy 2 (u_168.2))]].flatten H := hP
              have hD : va_D A [W0, [(xv, aI cy 20 (va))], [(xc, aI cy 45 (co))], [(xe, aI cy 9 (ed))], [(xd, aI cy 2 (dd))], [(q_2, aI cy 20 (v3))], [(q_19, aI cy 27 (fun _ => 0))], [(q_25, aI cy 8 (fun _ => 0))], [(q_30, aI cy 2 (fun _ => 0))], [(q_36, aI cy 64 (fun _ => 0))], [(q_42, aI cy 64 (fun _ => 0))], [(q_48, aI cy 64 (fun _ => 0))], [(q_8, aI cy 12 (u_168.1))], [(q_13, aI cy 2 (u_168.2))]].flatten := hD
              obtain ⟨T1, hT1⟩ : ∃ T1 : LSt, T1 = adE T (l9 : Int) w9 (s9 : Int) := ⟨_, rfl⟩
              have hG1 : gOk T1 := by rw [hT1]; exact adE_ok hG (by omega) (by omega) (by omega) (by omega)
              have hL1 : lwR T1 v3 co u_168.1 u_168.2 := by rw [hT1]; exact lw_lay hL3 h_168
              have hn1 : lN9 T1 ≤ 9 := by rw [hT1]; show lN9 T ≤ 9; exact hn
              have hm1 : lM T1 ≤ 4 := by rw [hT1]; show wfN (lE T) (lM T) (l9 : Int) ≤ 4; omega
              refine lv_aload hx hb dL_ahead_171 (lv_at hl 11 rfl) ?_
              refine lv_aload hx hb dL_ahead_173 (lv_at hl 8 rfl) ?_
              refine lv_aload hx hb dL_ahead_175 (lv_at hl 12 rfl) ?_
              refine lv_aload hx hb dL_ahead_177 (lv_at hl 13 rfl) ?_
              refine lv_aload hx hb dL_ahead_179 (lv_at hl 16 rfl) ?_
              refine lv_aload hx hb dL_ahead_181 (lv_at hl 17 rfl) ?_
              refine lv_aload hx hb dL_ahead_183 (lv_at hl 18 rfl) ?_
              refine lv_aload hx hb dL_ahead_185 (lv_at hl 19 rfl) ?_
              refine q_backKv (mc := 306) (ms := 3379) [5, 2, 12, 13, 8, 9, 10, 11] [0, 1, 3, 4, 6, 7] (br := [W0, [(xv, aI cy 20 (va))], [(xe, aI cy 9 (ed))], [(xd, aI cy 2 (dd))], [(q_19, aI cy 27 (fun _ => 0))], [(q_25, aI cy 8 (fun _ => 0))]]) hP hD hS hA (va_runS (As := [.ref (q_2), .ref (xc), .ref (q_8), .ref (q_13), .ref (q_30), .ref (q_36), .ref (q_42), .ref (q_48)]) (rest := []) ⟨hx, hb, hml, hown, hg⟩ (c_L_settle l D cy q_2 xc q_8 q_13 q_30 q_36 q_42 q_48 v3 co u_168.1 u_168.2 ((fun _ => 0), (fun _ => 0), (fun _ => 0), (fun _ => 0)) (lC T1) (lN9 T1) (lE T1) (lM T1) hG1.2.2.1.2 hG1.2.2.2.1.2 hn1 hm1 hL1.2.2.1 hL1.2.2.2.1 hL1.2.2.2.2 12 ⟨by omega, by omega⟩ (lV T1) (lT T1) hL1.1 hL1.2.1 hG1.1 hG1.2.1 _) (cs_L_65 hg rfl rfl ⟨(Nat.le_of_ble_eq_true rfl), (Nat.le_of_ble_eq_true rfl)⟩) ⟨q_blind, q_preM _ hK hN hP hD [5, 2, 12, 13, 8, 9, 10, 11] (by decide) rfl⟩ rfl rfl hl.1 rfl (lv_room (Nat.le_of_ble_eq_true rfl)) dL_ahead_187 ⟨(show 9 + 306 ≤ 835 by omega), (show 263 + 3379 ≤ 9362 by omega)⟩) rfl rfl (by decide) (fun u_187 H locs h_187 hP hD hS => ?_)
              have hP : va_P D vwCl [W0, [(xv, aI cy 20 (va))], [(xe, aI cy 9 (ed))], [(xd, aI cy 2 (dd))], [(q_19, aI cy 27 (fun _ => 0))], [(q_25, aI cy 8 (fun _ => 0))], [(q_2, aI cy 20 (u_187.1))], [(xc, aI cy 45 (co))], [(q_8, aI cy 12 (u_168.1))], [(q_13, aI cy 2 (u_168.2))], [(q_30, aI cy 2 (u_187.2.1))], [(q_36, aI cy 64 (u_187.2.2.1))], [(q_42, aI cy 64 (u_187.2.2.2.1))], [(q_48, aI cy 64 (u_187.2.2.2.2))]].flatten H := hP
              have hD : va_D A [W0, [(xv, aI cy 20 (va))], [(xe, aI cy 9 (ed))], [(xd, aI cy 2 (dd))], [(q_19, aI cy 27 (fun _ => 0))], [(q_25, aI cy 8 (fun _ => 0))], [(q_2, aI cy 20 (u_187.1))], [(xc, aI cy 45 (co))], [(q_8, aI cy 12 (u_168.1))], [(q_13, aI cy 2 (u_168.2))], [(q_30, aI cy 2 (u_187.2.1))], [(q_36, aI cy 64 (u_187.2.2.1))], [(q_42, aI cy 64 (u_187.2.2.2.1))], [(q_48, aI cy 64 (u_187.2.2.2.2))]].flatten := hD
              have hL2 : lwR (seT T1) u_187.1 co u_168.1 u_168.2 := lw_set hL1 h_187
              refine lv_aload_n hx hb dL_ahead_190 rfl (lv_at hl 4 rfl) ?_
              refine lv_iload hx hb dL_ahead_191 (lv_at hl 3 rfl) ?_
              refine lv_iload hx hb dL_ahead_193 (lv_at hl 2 rfl) ?_
              refine lv_iload hx hb dL_ahead_195 (lv_at hl 1 rfl) ?_
              refine lv_iload hx hb dL_ahead_197 (lv_at hl 0 rfl) ?_
              refine q_backKi (mc := 0) (ms := 0) [0] [1, 2, 3, 4, 5, 6, 7, 8, 9, 10, 11, 12, 13] (br := [[(xv, aI cy 20 (va))], [(xe, aI cy 9 (ed))], [(xd, aI cy 2 (dd))], [(q_19, aI cy 27 (fun _ => 0))], [(q_25, aI cy 8 (fun _ => 0))], [(q_2, aI cy 20 (u_187.1))], [(xc, aI cy 45 (co))], [(q_8, aI cy 12 (u_168.1))], [(q_13, aI cy 2 (u_168.2))], [(q_30, aI cy 2 (u_187.2.1))], [(q_36, aI cy 64 (u_187.2.2.1))], [(q_42, aI cy 64 (u_187.2.2.2.1))], [(q_48, aI cy 64 (u_187.2.2.2.2))]]) hP hD hS hA (va_runV (As := [.int (qI (((l9 : Nat) : Int))), .int (qI (w9)), .int (qI (((s9 : Nat) : Int))), .int (qI (((q9 : Nat) : Int)))]) (rest := []) ⟨hx, hb, hml, hown, hg⟩ (c_X7_ifEdited l D cy x la lv9 ls9 fa xh xs la2 lv92 ls92 fb fw bu ta rc re gb oc oe rs rc2 re2 gb2 oc2 oe2 rs2 rr ad T hz HZ len tx _ hG hW _ _ _ _ l9 q9 (by omega) (by omega) (by omega) (by omega) hm3 _) (cv_L_69 hg rfl rfl ⟨(Nat.le_of_ble_eq_true rfl), (Nat.le_of_ble_eq_true rfl)⟩) ⟨q_blind, va_recv hK (fl_blk hP 0 rfl) (ci := 7) (q0 := 0) rfl hfsW, q_preM _ hK hN hP hD [0] (by decide) rfl⟩ rfl rfl hl.1 rfl (lv_room (Nat.le_of_ble_eq_true rfl)) dL_ahead_199 ⟨(show 315 + 0 ≤ 835 by omega), (show 3642 + 0 ≤ 9362 by omega)⟩) rfl rfl (by decide) (fun r_199 u_199 H locs h_199 hP hD hS => ?_)
              have hP : va_P D vwCl [[(xv, aI cy 20 (va))], [(xe, aI cy 9 (ed))], [(xd, aI cy 2 (dd))], [(q_19, aI cy 27 (fun _ => 0))], [(q_25, aI cy 8 (fun _ => 0))], [(q_2, aI cy 20 (u_187.1))], [(xc, aI cy 45 (co))], [(q_8, aI cy 12 (u_168.1))], [(q_13, aI cy 2 (u_168.2))], [(q_30, aI cy 2 (u_187.2.1))], [(q_36, aI cy 64 (u_187.2.2.1))], [(q_42, aI cy 64 (u_187.2.2.2.1))], [(q_48, aI cy 64 (u_187.2.2.2.2))], u_199].flatten H := hP
              have hD : va_D A [[(xv, aI cy 20 (va))], [(xe, aI cy 9 (ed))], [(xd, aI cy 2 (dd))], [(q_19, aI cy 27 (fun _ => 0))], [(q_25, aI cy 8 (fun _ => 0))], [(q_2, aI cy 20 (u_187.1))], [(xc, aI cy 45 (co))], [(q_8, aI cy 12 (u_168.1))], [(q_13, aI cy 2 (u_168.2))], [(q_30, aI cy 2 (u_187.2.1))], [(q_36, aI cy 64 (u_187.2.2.1))], [(q_42, aI cy 64 (u_187.2.2.2.1))], [(q_48, aI cy 64 (u_187.2.2.2.2))], u_199].flatten := hD
              obtain ⟨rfl, h_199⟩ := h_199
              obtain ⟨fs_199, hfs_199⟩ := CW_at h_199
              refine lv_aload hx hb dL_ahead_202 (lv_at hl 11 rfl) ?_
              refine lv_iload hx hb dL_ahead_204 (lv_at hl 0 rfl) ?_
              refine q_iald (j := q9) hx hb hK (fl_blk hP 5 rfl) 0 rfl (by omega) dL_ahead_206 ?_
              refine q_ne0 (tgt := 224) hx hb dL_ahead_207 (by decide) (by rw [← hT1]; exact (hL2.1 q9 (by omega)).symm) ?_
              refine lv_aload_n hx hb dL_ahead_210 rfl (lv_at hl 4 rfl) ?_
              refine lv_iload hx hb dL_ahead_211 (lv_at hl 0 rfl) ?_
              refine q_iconst hx hb dL_ahead_213 ?_
              refine q_backKi (mc := 0) (ms := 0) [13] [0, 1, 2, 3, 4, 5, 6, 7, 8, 9, 10, 11, 12] (br := [[(xv, aI cy 20 (va))], [(xe, aI cy 9 (ed))], [(xd, aI cy 2 (dd))], [(q_19, aI cy 27 (fun _ => 0))], [(q_25, aI cy 8 (fun _ => 0))], [(q_2, aI cy 20 (u_187.1))], [(xc, aI cy 45 (co))], [(q_8, aI cy 12 (u_168.1))], [(q_13, aI cy 2 (u_168.2))], [(q_30, aI cy 2 (u_187.2.1))], [(q_36, aI cy 64 (u_187.2.2.1))], [(q_42, aI cy 64 (u_187.2.2.2.1))], [(q_48, aI cy 64 (u_187.2.2.2.2))]]) hP hD hS hA (va_runV (As := [.int (qI (((q9 : Nat) : Int))), .int (qI (0))]) (rest := []) ⟨hx, hb, hml, hown, hg⟩ (c_X7_place l D cy x la lv9 ls9 fa xh xs la2 lv92 ls92 fb fw bu ta rc re gb oc oe rs rc2 re2 gb2 oc2 oe2 rs2 rr ad T hz HZ len tx _ hG h_199 _ _ q9 (by omega) (by omega) _) (cv_L_30 hg rfl rfl ⟨(Nat.le_of_ble_eq_true rfl), (Nat.le_of_ble_eq_true rfl)⟩) ⟨q_blind, va_recv hK (fl_blk hP 13 rfl) (ci := 7) (q0 := 0) rfl hfs_199, q_preM _ hK hN hP hD [13] (by decide) rfl⟩ rfl rfl hl.1 rfl (lv_room (Nat.le_of_ble_eq_true rfl)) dL_ahead_214 ⟨(show 315 + 0 ≤ 835 by omega), (show 3642 + 0 ≤ 9362 by omega)⟩) rfl rfl (by decide) (fun r_214 u_214 H locs h_214 hP hD hS => ?_)
              have hP : va_P D vwCl [[(xv, aI cy 20 (va))], [(xe, aI cy 9 (ed))], [(xd, aI cy 2 (dd))], [(q_19, aI cy 27 (fun _ => 0))], [(q_25, aI cy 8 (fun _ => 0))], [(q_2, aI cy 20 (u_187.1))], [(xc, aI cy 45 (co))], [(q_8, aI cy 12 (u_168.1))], [(q_13, aI cy 2 (u_168.2))], [(q_30, aI cy 2 (u_187.2.1))], [(q_36, aI cy 64 (u_187.2.2.1))], [(q_42, aI cy 64 (u_187.2.2.2.1))], [(q_48, aI cy 64 (u_187.2.2.2.2))], u_214].flatten H := hP
              have hD : va_D A [[(xv, aI cy 20 (va))], [(xe, aI cy 9 (ed))], [(xd, aI cy 2 (dd))], [(q_19, aI cy 27 (fun _ => 0))], [(q_25, aI cy 8 (fun _ => 0))], [(q_2, aI cy 20 (u_187.1))], [(xc, aI cy 45 (co))], [(q_8, aI cy 12 (u_168.1))], [(q_13, aI cy 2 (u_168.2))], [(q_30, aI cy 2 (u_187.2.1))], [(q_36, aI cy 64 (u_187.2.2.1))], [(q_42, aI cy 64 (u_187.2.2.2.1))], [(q_48, aI cy 64 (u_187.2.2.2.2))], u_214].flatten := hD
              obtain ⟨rfl, h_214⟩ := h_214
              obtain ⟨fs_214, hfs_214⟩ := CW_at h_214
              refine lv_aload_n hx hb dL_ahead_217 rfl (lv_at hl 7 rfl) ?_
              refine lv_iload hx hb dL_ahead_218 (lv_at hl 0 rfl) ?_
              refine q_iald (j := q9) hx hb hK (fl_blk hP 0 rfl) 0 rfl (by omega) dL_ahead_220 ?_
              refine q_eq1 (tgt := 226) hx hb dL_ahead_221 (by decide) ((pl_0 T q9).trans (hv q9 (by omega)).symm) ?_
              refine lv_aload hx hb dL_ahead_226 (lv_at hl 10 rfl) ?_
              refine q_iconst hx hb dL_ahead_228 ?_
              refine q_iald (j := 0) hx hb hK (fl_blk hP 2 rfl) 0 rfl (by omega) dL_ahead_229 ?_
              refine q_if_ne (tgt := 235) hx hb dL_ahead_230 (by decide) (by omega) (fun c_230 => ?_) (fun c_230 => ?_)
              · skip
                have hn0 : 0 < lN9 T := by omega
                refine lv_iload_n hx hb dL_ahead_235 rfl (lv_at hl 5 rfl) ?_
                refine q_bipush hx hb dL_ahead_236 (by decide) ?_
                refine q_ishr (F := x9) (k := 7) hx hb (by omega) dL_ahead_238 ?_
                refine lv_aload hx hb dL_ahead_239 (lv_at hl 10 rfl) ?_
                refine q_iconst hx hb dL_ahead_241 ?_
                refine q_iald (j := 0) hx hb hK (fl_blk hP 2 rfl) 0 rfl (by omega) dL_ahead_242 ?_
                refine q_readi (va_runS (As := [.int (qI ((((x9) / 2 ^ (7) : Nat) : Int))), .int (qI (dd 0))]) (rest := []) ⟨hx, hb, hml, hown, hg⟩ (c_L_at l D cy _ _ ((x9) / 2 ^ (7)) (lN9 T) (by omega) (by omega)) (cs_L_36 hg rfl rfl ⟨(Nat.le_of_ble_eq_true rfl), (Nat.le_of_ble_eq_true rfl)⟩) ⟨q_blind0, q_preR _ hK hN hP [] rfl⟩ rfl rfl hl.1 rfl (lv_room (Nat.le_of_ble_eq_true rfl)) dL_ahead_243 ⟨(show 315 + 0 ≤ 835 by omega), (show 3642 + 0 ≤ 9362 by omega)⟩) (fun r_243 h_243 => ?_)
                subst h_243
                obtain ⟨k9, hk99, hk98⟩ : ∃ k9 : Nat, k9 < lN9 T ∧ k9 = ((x9) / 2 ^ (7)) / 2 % (lN9 T) := ⟨_, Nat.mod_lt _ hn0, rfl⟩
                refine q_topZ (y := ((k9 : Nat) : Int)) (by rw [hk98]) ?_
                refine lv_istore (lv' := [(20, .int (qI (((k9 : Nat) : Int)))), (19, .int (qI (((q9 : Nat) : Int)))), (18, .int (qI (((s9 : Nat) : Int)))), (17, .int (qI (w9))), (16, .int (qI (((l9 : Nat) : Int)))), (0, .ref (x)), (1, .int (qI (p1))), (2, .int (qI (p2))), (3, .ref (xv)), (4, .ref (xc)), (5, .ref (xe)), (6, .ref (xd)), (7, .ref (q_2)), (8, .ref (q_8)), (9, .ref (q_13)), (10, .ref (q_19)), (11, .ref (q_25)), (12, .ref (q_30)), (13, .ref (q_36)), (14, .ref (q_42)), (15, .ref (q_48))]) hx hb dL_ahead_246 hl (by decide) rfl (fun ls hl => ?_)
                refine lv_iload hx hb dL_ahead_248 (lv_at hl 0 rfl) ?_
                refine lv_aload hx hb dL_ahead_250 (lv_at hl 9 rfl) ?_
                refine lv_aload hx hb dL_ahead_252 (lv_at hl 10 rfl) ?_
                refine lv_aload hx hb dL_ahead_254 (lv_at hl 11 rfl) ?_
                refine lv_aload hx hb dL_ahead_256 (lv_at hl 15 rfl) ?_
                refine lv_aload hx hb dL_ahead_258 (lv_at hl 16 rfl) ?_
                refine lv_aload hx hb dL_ahead_260 (lv_at hl 17 rfl) ?_
                refine lv_aload hx hb dL_ahead_262 (lv_at hl 18 rfl) ?_
                refine lv_aload hx hb dL_ahead_264 (lv_at hl 19 rfl) ?_
                refine lv_aload hx hb dL_ahead_266 (lv_at hl 20 rfl) ?_
                refine q_backKv (mc := 104) (ms := 1144) [6, 1, 2, 3, 4, 9, 10, 11, 12] [0, 5, 7, 8, 13] (br := [[(xv, aI cy 20 (va))], [(q_2, aI cy 20 (u_187.1))], [(q_8, aI cy 12 (u_168.1))], [(q_13, aI cy 2 (u_168.2))], u_214]) hP hD hS hA (va_runS (As := [.int (qI (((k9 : Nat) : Int))), .ref (xc), .ref (xe), .ref (xd), .ref (q_19), .ref (q_25), .ref (q_30), .ref (q_36), .ref (q_42), .ref (q_48)]) (rest := []) ⟨hx, hb, hml, hown, hg⟩ (c_L_all l D cy xc xe xd q_19 q_25 q_30 q_36 q_42 q_48 co ed dd (fun _ => 0) (fun _ => 0) (u_187.2.1, u_187.2.2.1, u_187.2.2.2.1, u_187.2.2.2.2) (lC T) (lN9 T) (lE T) (lM T) gC gE hn (by omega) hco hed ⟨hd0, hd1⟩ 9 ⟨by omega, by omega⟩ ((k9 : Nat) : Int) (by omega) _) (cs_L_22 hg rfl rfl ⟨(Nat.le_of_ble_eq_true rfl), (Nat.le_of_ble_eq_true rfl)⟩) ⟨q_blind, q_preM _ hK hN hP hD [6, 1, 2, 3, 4, 9, 10, 11, 12] (by decide) rfl⟩ rfl rfl hl.1 rfl (lv_room (Nat.le_of_ble_eq_true rfl)) dL_ahead_268 ⟨(show 315 + 104 ≤ 835 by omega), (show 3642 + 1144 ≤ 9362 by omega)⟩) rfl rfl (by decide) (fun u_268 H locs h_268 hP hD hS => ?_)
                have hP : va_P D vwCl [[(xv, aI cy 20 (va))], [(q_2, aI cy 20 (u_187.1))], [(q_8, aI cy 12 (u_168.1))], [(q_13, aI cy 2 (u_168.2))], u_214, [(xc, aI cy 45 (co))], [(xe, aI cy 9 (ed))], [(xd, aI cy 2 (dd))], [(q_19, aI cy 27 (u_268.1))], [(q_25, aI cy 8 (u_268.2.1))], [(q_30, aI cy 2 (u_268.2.2.1))], [(q_36, aI cy 64 (u_268.2.2.2.1))], [(q_42, aI cy 64 (u_268.2.2.2.2.1))], [(q_48, aI cy 64 (u_268.2.2.2.2.2))]].flatten H := hP
                have hD : va_D A [[(xv, aI cy 20 (va))], [(q_2, aI cy 20 (u_187.1))], [(q_8, aI cy 12 (u_168.1))], [(q_13, aI cy 2 (u_168.2))], u_214, [(xc, aI cy 45 (co))], [(xe, aI cy 9 (ed))], [(xd, aI cy 2 (dd))], [(q_19, aI cy 27 (u_268.1))], [(q_25, aI cy 8 (u_268.2.1))], [(q_30, aI cy 2 (u_268.2.2.1))], [(q_36, aI cy 64 (u_268.2.2.2.1))], [(q_42, aI cy 64 (u_268.2.2.2.2.1))], [(q_48, aI cy 64 (u_268.2.2.2.2.2))]].flatten := hD
                refine q_iconst hx hb dL_ahead_271 ?_
                refine lv_istore (lv' := [(21, .int (qI (0))), (20, .int (qI (((k9 : Nat) : Int)))), (19, .int (qI (((q9 : Nat) : Int)))), (18, .int (qI (((s9 : Nat) : Int)))), (17, .int (qI (w9))), (16, .int (qI (((l9 : Nat) : Int)))), (0, .ref (x)), (1, .int (qI (p1))), (2, .int (qI (p2))), (3, .ref (xv)), (4, .ref (xc)), (5, .ref (xe)), (6, .ref (xd)), (7, .ref (q_2)), (8, .ref (q_8)), (9, .ref (q_13)), (10, .ref (q_19)), (11, .ref (q_25)), (12, .ref (q_30)), (13, .ref (q_36)), (14, .ref (q_42)), (15, .ref (q_48))]) hx hb dL_ahead_272 hl (by decide) rfl (fun ls hl => ?_)
                refine q_iconst hx hb dL_ahead_274 ?_
                refine lv_istore (lv' := [(22, .int (qI (0))), (21, .int (qI (0))), (20, .int (qI (((k9 : Nat) : Int)))), (19, .int (qI (((q9 : Nat) : Int)))), (18, .int (qI (((s9 : Nat) : Int)))), (17, .int (qI (w9))), (16, .int (qI (((l9 : Nat) : Int)))), (0, .ref (x)), (1, .int (qI (p1))), (2, .int (qI (p2))), (3, .ref (xv)), (4, .ref (xc)), (5, .ref (xe)), (6, .ref (xd)), (7, .ref (q_2)), (8, .ref (q_8)), (9, .ref (q_13)), (10, .ref (q_19)), (11, .ref (q_25)), (12, .ref (q_30)), (13, .ref (q_36)), (14, .ref (q_42)), (15, .ref (q_48))]) hx hb dL_ahead_275 hl (by decide) rfl (fun ls hl => ?_)
                have L_277 : ∀ (n_277 c9 : Nat), c9 ≤ lN9 T → lN9 T + 1 ≤ c9 + n_277 → ∀ (H : Heap) (locs : List Loc) (ls : Array Slot), va_P D vwCl [[(xv, aI cy 20 (va))], [(q_2, aI cy 20 (u_187.1))], [(q_8, aI cy 12 (u_168.1))], [(q_13, aI cy 2 (u_168.2))], u_214, [(xc, aI cy 45 (co))], [(xe, aI cy 9 (ed))], [(xd, aI cy 2 (dd))], [(q_19, aI cy 27 (u_268.1))], [(q_25, aI cy 8 (u_268.2.1))], [(q_30, aI cy 2 (u_268.2.2.1))], [(q_36, aI cy 64 (u_268.2.2.2.1))], [(q_42, aI cy 64 (u_268.2.2.2.2.1))], [(q_48, aI cy 64 (u_268.2.2.2.2.2))]].flatten H → va_D A [[(xv, aI cy 20 (va))], [(q_2, aI cy 20 (u_187.1))], [(q_8, aI cy 12 (u_168.1))], [(q_13, aI cy 2 (u_168.2))], u_214, [(xc, aI cy 45 (co))], [(xe, aI cy 9 (ed))], [(xd, aI cy 2 (dd))], [(q_19, aI cy 27 (u_268.1))], [(q_25, aI cy 8 (u_268.2.1))], [(q_30, aI cy 2 (u_268.2.2.1))], [(q_36, aI cy 64 (u_268.2.2.2.1))], [(q_42, aI cy 64 (u_268.2.2.2.2.1))], [(q_48, aI cy 64 (u_268.2.2.2.2.2))]].flatten → va_S A s.heap H locs → lv_has ls 25 [(0, .ref (x)), (1, .int (qI (p1))), (2, .int (qI (p2))), (3, .ref (xv)), (4, .ref (xc)), (5, .ref (xe)), (6, .ref (xd)), (7, .ref (q_2)), (8, .ref (q_8)), (9, .ref (q_13)), (10, .ref (q_19)), (11, .ref (q_25)), (12, .ref (q_30)), (13, .ref (q_36)), (14, .ref (q_42)), (15, .ref (q_48)), (16, .int (qI (((l9 : Nat) : Int)))), (17, .int (qI (w9))), (18, .int (qI (((s9 : Nat) : Int)))), (19, .int (qI (((q9 : Nat) : Int)))), (20, .int (qI (((k9 : Nat) : Int)))), (21, .int (qI (((cnt (fOC (fil (lC T) (lN9 T) (lE T) (lM T) (k9 : Int))) c9 : Nat) : Int)))), (22, .int (qI (((c9 : Nat) : Int))))] → W p l e (qrc 9 835 9362) s m args below meth c H locs (419) (4786) Q (F0 m 277 ls []) := by
                  intro n_277
                  induction n_277 with
                  | zero => intro c9 h1 h2; exact absurd h2 (by omega)
                  | succ n_277 ih_277 =>
                    intro c9 hk_277 hn_277 H locs ls hP hD hS hl
                    refine lv_iload hx hb dL_ahead_277 (lv_at hl 22 rfl) ?_
                    refine lv_aload hx hb dL_ahead_279 (lv_at hl 6 rfl) ?_
                    refine q_iconst hx hb dL_ahead_281 ?_
                    refine q_iald (j := 0) hx hb hK (fl_blk hP 7 rfl) 0 rfl (by omega) dL_ahead_282 ?_
                    refine q_icmp_ge (tgt := 315) hx hb dL_ahead_283 (by decide) (by omega) (fun c_283 => ?_) (fun c_283 => ?_)
                    · skip
                      refine lv_aload hx hb dL_ahead_315 (lv_at hl 4 rfl) ?_
                      refine q_iconst hx hb dL_ahead_317 ?_
                      refine lv_iload hx hb dL_ahead_318 (lv_at hl 20 rfl) ?_
                      refine q_imul hx hb dL_ahead_320 ?_
                      refine q_iconst hx hb dL_ahead_321 ?_
                      refine q_iadd hx hb dL_ahead_322 ?_
                      refine q_iald (j := ((5 * k9) + 4)) hx hb hK (fl_blk hP 5 rfl) 0 rfl (by omega) dL_ahead_323 ?_
                      refine lv_istore (lv' := [(22, .int (qI (co ((5 * k9) + 4)))), (0, .ref (x)), (1, .int (qI (p1))), (2, .int (qI (p2))), (3, .ref (xv)), (4, .ref (xc)), (5, .ref (xe)), (6, .ref (xd)), (7, .ref (q_2)), (8, .ref (q_8)), (9, .ref (q_13)), (10, .ref (q_19)), (11, .ref (q_25)), (12, .ref (q_30)), (13, .ref (q_36)), (14, .ref (q_42)), (15, .ref (q_48)), (16, .int (qI (((l9 : Nat) : Int)))), (17, .int (qI (w9))), (18, .int (qI (((s9 : Nat) : Int)))), (19, .int (qI (((q9 : Nat) : Int)))), (20, .int (qI (((k9 : Nat) : Int)))), (21, .int (qI (((cnt (fOC (fil (lC T) (lN9 T) (lE T) (lM T) (k9 : Int))) c9 : Nat) : Int))))]) hx hb dL_ahead_324 hl (by decide) rfl (fun ls hl => ?_)
                      refine q_iconst hx hb dL_ahead_326 ?_
                      refine lv_istore (lv' := [(23, .int (qI (-1))), (22, .int (qI (co ((5 * k9) + 4)))), (0, .ref (x)), (1, .int (qI (p1))), (2, .int (qI (p2))), (3, .ref (xv)), (4, .ref (xc)), (5, .ref (xe)), (6, .ref (xd)), (7, .ref (q_2)), (8, .ref (q_8)), (9, .ref (q_13)), (10, .ref (q_19)), (11, .ref (q_25)), (12, .ref (q_30)), (13, .ref (q_36)), (14, .ref (q_42)), (15, .ref (q_48)), (16, .int (qI (((l9 : Nat) : Int)))), (17, .int (qI (w9))), (18, .int (qI (((s9 : Nat) : Int)))), (19, .int (qI (((q9 : Nat) : Int)))), (20, .int (qI (((k9 : Nat) : Int)))), (21, .int (qI (((cnt (fOC (fil (lC T) (lN9 T) (lE T) (lM T) (k9 : Int))) c9 : Nat) : Int))))]) hx hb dL_ahead_327 hl (by decide) rfl (fun ls hl => ?_)
                      refine q_iconst hx hb dL_ahead_329 ?_
                      refine lv_istore (lv' := [(24, .int (qI (3))), (23, .int (qI (-1))), (22, .int (qI (co ((5 * k9) + 4)))), (0, .ref (x)), (1, .int (qI (p1))), (2, .int (qI (p2))), (3, .ref (xv)), (4, .ref (xc)), (5, .ref (xe)), (6, .ref (xd)), (7, .ref (q_2)), (8, .ref (q_8)), (9, .ref (q_13)), (10, .ref (q_19)), (11, .ref (q_25)), (12, .ref (q_30)), (13, .ref (q_36)), (14, .ref (q_42)), (15, .ref (q_48)), (16, .int (qI (((l9 : Nat) : Int)))), (17, .int (qI (w9))), (18, .int (qI (((s9 : Nat) : Int)))), (19, .int (qI (((q9 : Nat) : Int)))), (20, .int (qI (((k9 : Nat) : Int)))), (21, .int (qI (((cnt (fOC (fil (lC T) (lN9 T) (lE T) (lM T) (k9 : Int))) c9 : Nat) : Int))))]) hx hb dL_ahead_330 hl (by decide) rfl (fun ls hl => ?_)
                      have L_332 : ∀ (n_332 j : Nat) (x3 : Int) (c4 : Nat → Int) (f4 : Nat → Int) (g4 : Nat → Int) (u4 : L4), j ≤ 4 → 4 + 1 ≤ j + n_332 → (x3 = 3 - (j : Int)) → (∀ q, q ≠ 5 * k9 + 4 → c4 q = co q) → ∀ (H : Heap) (locs : List Loc) (ls : Array Slot), va_P D vwCl [[(xv, aI cy 20 (va))], [(q_2, aI cy 20 (u_187.1))], [(q_8, aI cy 12 (u_168.1))], [(q_13, aI cy 2 (u_168.2))], u_214, [(xc, aI cy 45 (c4))], [(xe, aI cy 9 (ed))], [(xd, aI cy 2 (dd))], [(q_19, aI cy 27 (f4))], [(q_25, aI cy 8 (g4))], [(q_30, aI cy 2 (u4.1))], [(q_36, aI cy 64 (u4.2.1))], [(q_42, aI cy 64 (u4.2.2.1))], [(q_48, aI cy 64 (u4.2.2.2))]].flatten H → va_D A [[(xv, aI cy 20 (va))], [(q_2, aI cy 20 (u_187.1))], [(q_8, aI cy 12 (u_168.1))], [(q_13, aI cy 2 (u_168.2))], u_214, [(xc, aI cy 45 (c4))], [(xe, aI cy 9 (ed))], [(xd, aI cy 2 (dd))], [(q_19, aI cy 27 (f4))], [(q_25, aI cy 8 (g4))], [(q_30, aI cy 2 (u4.1))], [(q_36, aI cy 64 (u4.2.1))], [(q_42, aI cy 64 (u4.2.2.1))], [(q_48, aI cy 64 (u4.2.2.2))]].flatten → va_S A s.heap H locs → lv_has ls 25 [(0, .ref (x)), (1, .int (qI (p1))), (2, .int (qI (p2))), (3, .ref (xv)), (4, .ref (xc)), (5, .ref (xe)), (6, .ref (xd)), (7, .ref (q_2)), (8, .ref (q_8)), (9, .ref (q_13)), (10, .ref (q_19)), (11, .ref (q_25)), (12, .ref (q_30)), (13, .ref (q_36)), (14, .ref (q_42)), (15, .ref (q_48)), (16, .int (qI (((l9 : Nat) : Int)))), (17, .int (qI (w9))), (18, .int (qI (((s9 : Nat) : Int)))), (19, .int (qI (((q9 : Nat) : Int)))), (20, .int (qI (((k9 : Nat) : Int)))), (21, .int (qI (((cnt (fOC (fil (lC T) (lN9 T) (lE T) (lM T) (k9 : Int))) c9 : Nat) : Int)))), (22, .int (qI (co ((5 * k9) + 4)))), (23, .int (qI (nsL T k9 j))), (24, .int (qI (x3)))] → W p l e (qrc 9 835 9362) s m args below meth c H locs (419 + 104 * j) (4786 + 1144 * j) Q (F0 m 332 ls []) := by
                        intro n_332
                        induction n_332 with
                        | zero => intro j _ _ _ _ _ h1 h2; exact absurd h2 (by omega)
                        | succ n_332 ih_332 =>
                          intro j x3 c4 f4 g4 u4 hk_332 hn_332 hx3 hc4 H locs ls hP hD hS hl
                          have rn9 := nsL_rng T k9 j (by omega)
                          refine lv_iload hx hb dL_ahead_332 (lv_at hl 24 rfl) ?_
                          refine q_if_lt (tgt := 396) hx hb dL_ahead_334 (by decide) (by omega) (fun c_334 => ?_) (fun c_334 => ?_)
                          · skip
                            refine lv_aload hx hb dL_ahead_396 (lv_at hl 4 rfl) ?_
                            refine q_iconst hx hb dL_ahead_398 ?_
                            refine lv_iload hx hb dL_ahead_399 (lv_at hl 20 rfl) ?_
                            refine q_imul hx hb dL_ahead_401 ?_
                            refine q_iconst hx hb dL_ahead_402 ?_
                            refine q_iadd hx hb dL_ahead_403 ?_
                            refine lv_iload hx hb dL_ahead_404 (lv_at hl 22 rfl) ?_
                            refine qb_iast (j := ((5 * k9) + 4)) hx hb hK hP hD hS 5 0 rfl rfl (by omega) dL_ahead_406 (fun H locs hP hD hS => ?_)
                            have hP : va_P D vwCl [[(xv, aI cy 20 (va))], [(q_2, aI cy 20 (u_187.1))], [(q_8, aI cy 12 (u_168.1))], [(q_13, aI cy 2 (u_168.2))], u_214, [(xc, aI cy 45 (qu c4 ((5 * k9) + 4) (co ((5 * k9) + 4))))], [(xe, aI cy 9 (ed))], [(xd, aI cy 2 (dd))], [(q_19, aI cy 27 (f4))], [(q_25, aI cy 8 (g4))], [(q_30, aI cy 2 (u4.1))], [(q_36, aI cy 64 (u4.2.1))], [(q_42, aI cy 64 (u4.2.2.1))], [(q_48, aI cy 64 (u4.2.2.2))]].flatten H := hP
                            have hD : va_D A [[(xv, aI cy 20 (va))], [(q_2, aI cy 20 (u_187.1))], [(q_8, aI cy 12 (u_168.1))], [(q_13, aI cy 2 (u_168.2))], u_214, [(xc, aI cy 45 (qu c4 ((5 * k9) + 4) (co ((5 * k9) + 4))))], [(xe, aI cy 9 (ed))], [(xd, aI cy 2 (dd))], [(q_19, aI cy 27 (f4))], [(q_25, aI cy 8 (g4))], [(q_30, aI cy 2 (u4.1))], [(q_36, aI cy 64 (u4.2.1))], [(q_42, aI cy 64 (u4.2.2.1))], [(q_48, aI cy 64 (u4.2.2.2))]].flatten := hD
                            have e5 : qu c4 (5 * k9 + 4) (co (5 * k9 + 4)) = co := co_back hc4
                            rw [e5] at hP hD
                            have hP : va_P D vwCl [[(xv, aI cy 20 (va))], [(q_2, aI cy 20 (u_187.1))], [(q_8, aI cy 12 (u_168.1))], [(q_13, aI cy 2 (u_168.2))], u_214, [(xc, aI cy 45 (co))], [(xe, aI cy 9 (ed))], [(xd, aI cy 2 (dd))], [(q_19, aI cy 27 (f4))], [(q_25, aI cy 8 (g4))], [(q_30, aI cy 2 (u4.1))], [(q_36, aI cy 64 (u4.2.1))], [(q_42, aI cy 64 (u4.2.2.1))], [(q_48, aI cy 64 (u4.2.2.2))]].flatten H := hP
                            have hD : va_D A [[(xv, aI cy 20 (va))], [(q_2, aI cy 20 (u_187.1))], [(q_8, aI cy 12 (u_168.1))], [(q_13, aI cy 2 (u_168.2))], u_214, [(xc, aI cy 45 (co))], [(xe, aI cy 9 (ed))], [(xd, aI cy 2 (dd))], [(q_19, aI cy 27 (f4))], [(q_25, aI cy 8 (g4))], [(q_30, aI cy 2 (u4.1))], [(q_36, aI cy 64 (u4.2.1))], [(q_42, aI cy 64 (u4.2.2.1))], [(q_48, aI cy 64 (u4.2.2.2))]].flatten := hD
                            refine lv_aload_n hx hb dL_ahead_407 rfl (lv_at hl 0 rfl) ?_
                            refine lv_iload hx hb dL_ahead_408 (lv_at hl 20 rfl) ?_
                            refine q_backKi (mc := 0) (ms := 0) [4] [0, 1, 2, 3, 5, 6, 7, 8, 9, 10, 11, 12, 13] (br := [[(xv, aI cy 20 (va))], [(q_2, aI cy 20 (u_187.1))], [(q_8, aI cy 12 (u_168.1))], [(q_13, aI cy 2 (u_168.2))], [(xc, aI cy 45 (co))], [(xe, aI cy 9 (ed))], [(xd, aI cy 2 (dd))], [(q_19, aI cy 27 (f4))], [(q_25, aI cy 8 (g4))], [(q_30, aI cy 2 (u4.1))], [(q_36, aI cy 64 (u4.2.1))], [(q_42, aI cy 64 (u4.2.2.1))], [(q_48, aI cy 64 (u4.2.2.2))]]) hP hD hS hA (va_runV (As := [.int (qI (((k9 : Nat) : Int)))]) (rest := []) ⟨hx, hb, hml, hown, hg⟩ (c_X7_ifRemoved l D cy x la lv9 ls9 fa xh xs la2 lv92 ls92 fb fw bu ta rc re gb oc oe rs rc2 re2 gb2 oc2 oe2 rs2 rr ad T hz HZ len tx _ hG h_214 _ k9 (by omega) _) (cv_L_73 hg rfl rfl ⟨(Nat.le_of_ble_eq_true rfl), (Nat.le_of_ble_eq_true rfl)⟩) ⟨q_blind, va_recv hK (fl_blk hP 4 rfl) (ci := 7) (q0 := 0) rfl hfs_214, q_preM _ hK hN hP hD [4] (by decide) rfl⟩ rfl rfl hl.1 rfl (lv_room (Nat.le_of_ble_eq_true rfl)) dL_ahead_410 ⟨(show 419 + 104 * j + 0 ≤ 835 by omega), (show 4786 + 1144 * j + 0 ≤ 9362 by omega)⟩) rfl rfl (by decide) (fun r_410 u_410 H locs h_410 hP hD hS => ?_)
                            have hP : va_P D vwCl [[(xv, aI cy 20 (va))], [(q_2, aI cy 20 (u_187.1))], [(q_8, aI cy 12 (u_168.1))], [(q_13, aI cy 2 (u_168.2))], [(xc, aI cy 45 (co))], [(xe, aI cy 9 (ed))], [(xd, aI cy 2 (dd))], [(q_19, aI cy 27 (f4))], [(q_25, aI cy 8 (g4))], [(q_30, aI cy 2 (u4.1))], [(q_36, aI cy 64 (u4.2.1))], [(q_42, aI cy 64 (u4.2.2.1))], [(q_48, aI cy 64 (u4.2.2.2))], u_410].flatten H := hP
                            have hD : va_D A [[(xv, aI cy 20 (va))], [(q_2, aI cy 20 (u_187.1))], [(q_8, aI cy 12 (u_168.1))], [(q_13, aI cy 2 (u_168.2))], [(xc, aI cy 45 (co))], [(xe, aI cy 9 (ed))], [(xd, aI cy 2 (dd))], [(q_19, aI cy 27 (f4))], [(q_25, aI cy 8 (g4))], [(q_30, aI cy 2 (u4.1))], [(q_36, aI cy 64 (u4.2.1))], [(q_42, aI cy 64 (u4.2.2.1))], [(q_48, aI cy 64 (u4.2.2.2))], u_410].flatten := hD
                            obtain ⟨rfl, h_410⟩ := h_410
                            obtain ⟨fs_410, hfs_410⟩ := CW_at h_410
                            refine lv_iload hx hb dL_ahead_413 (lv_at hl 21 rfl) ?_
                            refine q_ne0 (tgt := 433) hx hb dL_ahead_415 (by decide) ((rm_16 T k9 (by omega)).trans (by rw [show c9 = lN9 T by omega])) ?_
                            refine lv_aload_n hx hb dL_ahead_418 rfl (lv_at hl 0 rfl) ?_
                            refine lv_iload hx hb dL_ahead_419 (lv_at hl 20 rfl) ?_
                            refine q_backKi (mc := 0) (ms := 0) [13] [0, 1, 2, 3, 4, 5, 6, 7, 8, 9, 10, 11, 12] (br := [[(xv, aI cy 20 (va))], [(q_2, aI cy 20 (u_187.1))], [(q_8, aI cy 12 (u_168.1))], [(q_13, aI cy 2 (u_168.2))], [(xc, aI cy 45 (co))], [(xe, aI cy 9 (ed))], [(xd, aI cy 2 (dd))], [(q_19, aI cy 27 (f4))], [(q_25, aI cy 8 (g4))], [(q_30, aI cy 2 (u4.1))], [(q_36, aI cy 64 (u4.2.1))], [(q_42, aI cy 64 (u4.2.2.1))], [(q_48, aI cy 64 (u4.2.2.2))]]) hP hD hS hA (va_runV (As := [.int (qI (((k9 : Nat) : Int)))]) (rest := []) ⟨hx, hb, hml, hown, hg⟩ (c_X7_neededStrength l D cy x la lv9 ls9 fa xh xs la2 lv92 ls92 fb fw bu ta rc re gb oc oe rs rc2 re2 gb2 oc2 oe2 rs2 rr ad T hz HZ len tx _ hG h_410 _ k9 (by omega) _) (cv_L_76 hg rfl rfl ⟨(Nat.le_of_ble_eq_true rfl), (Nat.le_of_ble_eq_true rfl)⟩) ⟨q_blind, va_recv hK (fl_blk hP 13 rfl) (ci := 7) (q0 := 0) rfl hfs_410, q_preM _ hK hN hP hD [13] (by decide) rfl⟩ rfl rfl hl.1 rfl (lv_room (Nat.le_of_ble_eq_true rfl)) dL_ahead_421 ⟨(show 419 + 104 * j + 0 ≤ 835 by omega), (show 4786 + 1144 * j + 0 ≤ 9362 by omega)⟩) rfl rfl (by decide) (fun r_421 u_421 H locs h_421 hP hD hS => ?_)
                            have hP : va_P D vwCl [[(xv, aI cy 20 (va))], [(q_2, aI cy 20 (u_187.1))], [(q_8, aI cy 12 (u_168.1))], [(q_13, aI cy 2 (u_168.2))], [(xc, aI cy 45 (co))], [(xe, aI cy 9 (ed))], [(xd, aI cy 2 (dd))], [(q_19, aI cy 27 (f4))], [(q_25, aI cy 8 (g4))], [(q_30, aI cy 2 (u4.1))], [(q_36, aI cy 64 (u4.2.1))], [(q_42, aI cy 64 (u4.2.2.1))], [(q_48, aI cy 64 (u4.2.2.2))], u_421].flatten H := hP
                            have hD : va_D A [[(xv, aI cy 20 (va))], [(q_2, aI cy 20 (u_187.1))], [(q_8, aI cy 12 (u_168.1))], [(q_13, aI cy 2 (u_168.2))], [(xc, aI cy 45 (co))], [(xe, aI cy 9 (ed))], [(xd, aI cy 2 (dd))], [(q_19, aI cy 27 (f4))], [(q_25, aI cy 8 (g4))], [(q_30, aI cy 2 (u4.1))], [(q_36, aI cy 64 (u4.2.1))], [(q_42, aI cy 64 (u4.2.2.1))], [(q_48, aI cy 64 (u4.2.2.2))], u_421].flatten := hD
                            obtain ⟨rfl, h_421⟩ := h_421
                            obtain ⟨fs_421, hfs_421⟩ := CW_at h_421
                            refine lv_iload hx hb dL_ahead_424 (lv_at hl 23 rfl) ?_
                            refine q_ne0 (tgt := 433) hx hb dL_ahead_426 (by decide) ((ns_4 T k9).trans (by rw [show j = 4 by omega])) ?_
                            refine q_iconst hx hb dL_ahead_429 ?_
                            refine lv_goto (tgt := 434) hx hb dL_ahead_430 (by decide) ?_
                            have hP := fl_sub (bs' := [u_421, [(xv, aI cy 20 (va))], [(xc, aI cy 45 (co))], [(xe, aI cy 9 (ed))], [(xd, aI cy 2 (dd))]]) hP [13, 0, 4, 5, 6] rfl
                            have hD := fl_subD (bs' := [u_421, [(xv, aI cy 20 (va))], [(xc, aI cy 45 (co))], [(xe, aI cy 9 (ed))], [(xd, aI cy 2 (dd))]]) hD [13, 0, 4, 5, 6] (by decide) rfl
                            refine W.widen (k := 835) (n := 9362) (by omega) (by omega) ?_
                            exact hQ _ _ _ _ true u_421 ⟨rfl, h_421⟩ hP hD hS dL_ahead_434
                          · skip
                            refine lv_aload hx hb dL_ahead_337 (lv_at hl 4 rfl) ?_
                            refine q_iconst hx hb dL_ahead_339 ?_
                            refine lv_iload hx hb dL_ahead_340 (lv_at hl 20 rfl) ?_
                            refine q_imul hx hb dL_ahead_342 ?_
                            refine q_iconst hx hb dL_ahead_343 ?_
                            refine q_iadd hx hb dL_ahead_344 ?_
                            refine lv_iload hx hb dL_ahead_345 (lv_at hl 24 rfl) ?_
                            refine qb_iast (j := ((5 * k9) + 4)) hx hb hK hP hD hS 5 0 rfl rfl (by omega) dL_ahead_347 (fun H locs hP hD hS => ?_)
                            have hP : va_P D vwCl [[(xv, aI cy 20 (va))], [(q_2, aI cy 20 (u_187.1))], [(q_8, aI cy 12 (u_168.1))], [(q_13, aI cy 2 (u_168.2))], u_214, [(xc, aI cy 45 (qu c4 ((5 * k9) + 4) (x3)))], [(xe, aI cy 9 (ed))], [(xd, aI cy 2 (dd))], [(q_19, aI cy 27 (f4))], [(q_25, aI cy 8 (g4))], [(q_30, aI cy 2 (u4.1))], [(q_36, aI cy 64 (u4.2.1))], [(q_42, aI cy 64 (u4.2.2.1))], [(q_48, aI cy 64 (u4.2.2.2))]].flatten H := hP
                            have hD : va_D A [[(xv, aI cy 20 (va))], [(q_2, aI cy 20 (u_187.1))], [(q_8, aI cy 12 (u_168.1))], [(q_13, aI cy 2 (u_168.2))], u_214, [(xc, aI cy 45 (qu c4 ((5 * k9) + 4) (x3)))], [(xe, aI cy 9 (ed))], [(xd, aI cy 2 (dd))], [(q_19, aI cy 27 (f4))], [(q_25, aI cy 8 (g4))], [(q_30, aI cy 2 (u4.1))], [(q_36, aI cy 64 (u4.2.1))], [(q_42, aI cy 64 (u4.2.2.1))], [(q_48, aI cy 64 (u4.2.2.2))]].flatten := hD
                            have hCj : qWR (stW (lC T) k9 (3 - (j : Int))) (lN9 T) := qWR_stW gC (by omega)
                            have hcj : rC (stW (lC T) k9 (3 - (j : Int))) (lN9 T) (qu c4 (5 * k9 + 4) x3) := by
                              rw [hx3]
                              exact rC_st hco hc4
                            refine q_iconst hx hb dL_ahead_348 ?_
                            refine lv_aload hx hb dL_ahead_349 (lv_at hl 4 rfl) ?_
                            refine lv_aload hx hb dL_ahead_351 (lv_at hl 5 rfl) ?_
                            refine lv_aload hx hb dL_ahead_353 (lv_at hl 6 rfl) ?_
                            refine lv_aload hx hb dL_ahead_355 (lv_at hl 10 rfl) ?_
                            refine lv_aload hx hb dL_ahead_357 (lv_at hl 11 rfl) ?_
                            refine lv_aload hx hb dL_ahead_359 (lv_at hl 12 rfl) ?_
                            refine lv_aload hx hb dL_ahead_361 (lv_at hl 13 rfl) ?_
                            refine lv_aload hx hb dL_ahead_363 (lv_at hl 14 rfl) ?_
                            refine lv_aload hx hb dL_ahead_365 (lv_at hl 15 rfl) ?_
                            refine q_backKv (mc := 104) (ms := 1144) [5, 6, 7, 8, 9, 10, 11, 12, 13] [0, 1, 2, 3, 4] (br := [[(xv, aI cy 20 (va))], [(q_2, aI cy 20 (u_187.1))], [(q_8, aI cy 12 (u_168.1))], [(q_13, aI cy 2 (u_168.2))], u_214]) hP hD hS hA (va_runS (As := [.int (qI (-1)), .ref (xc), .ref (xe), .ref (xd), .ref (q_19), .ref (q_25), .ref (q_30), .ref (q_36), .ref (q_42), .ref (q_48)]) (rest := []) ⟨hx, hb, hml, hown, hg⟩ (c_L_all l D cy xc xe xd q_19 q_25 q_30 q_36 q_42 q_48 (qu c4 ((5 * k9) + 4) (x3)) ed dd f4 g4 (u4.1, u4.2.1, u4.2.2.1, u4.2.2.2) (stW (lC T) k9 (3 - (j : Int))) (lN9 T) (lE T) (lM T) hCj gE hn (by omega) hcj hed ⟨hd0, hd1⟩ 9 ⟨by omega, by omega⟩ (-1) (by omega) _) (cs_L_22 hg rfl rfl ⟨(Nat.le_of_ble_eq_true rfl), (Nat.le_of_ble_eq_true rfl)⟩) ⟨q_blind, q_preM _ hK hN hP hD [5, 6, 7, 8, 9, 10, 11, 12, 13] (by decide) rfl⟩ rfl rfl hl.1 rfl (lv_room (Nat.le_of_ble_eq_true rfl)) dL_ahead_367 ⟨(show 419 + 104 * j + 104 ≤ 835 by omega), (show 4786 + 1144 * j + 1144 ≤ 9362 by omega)⟩) rfl rfl (by decide) (fun u_367 H locs h_367 hP hD hS => ?_)
                            have hP : va_P D vwCl [[(xv, aI cy 20 (va))], [(q_2, aI cy 20 (u_187.1))], [(q_8, aI cy 12 (u_168.1))], [(q_13, aI cy 2 (u_168.2))], u_214, [(xc, aI cy 45 (qu c4 ((5 * k9) + 4) (x3)))], [(xe, aI cy 9 (ed))], [(xd, aI cy 2 (dd))], [(q_19, aI cy 27 (u_367.1))], [(q_25, aI cy 8 (u_367.2.1))], [(q_30, aI cy 2 (u_367.2.2.1))], [(q_36, aI cy 64 (u_367.2.2.2.1))], [(q_42, aI cy 64 (u_367.2.2.2.2.1))], [(q_48, aI cy 64 (u_367.2.2.2.2.2))]].flatten H := hP
                            have hD : va_D A [[(xv, aI cy 20 (va))], [(q_2, aI cy 20 (u_187.1))], [(q_8, aI cy 12 (u_168.1))], [(q_13, aI cy 2 (u_168.2))], u_214, [(xc, aI cy 45 (qu c4 ((5 * k9) + 4) (x3)))], [(xe, aI cy 9 (ed))], [(xd, aI cy 2 (dd))], [(q_19, aI cy 27 (u_367.1))], [(q_25, aI cy 8 (u_367.2.1))], [(q_30, aI cy 2 (u_367.2.2.1))], [(q_36, aI cy 64 (u_367.2.2.2.1))], [(q_42, aI cy 64 (u_367.2.2.2.2.1))], [(q_48, aI cy 64 (u_367.2.2.2.2.2))]].flatten := hD
                            have t3 := (okS (lC T) (lN9 T) (lE T) (lM T) k9 (3 - (j : Int))).toNat_le
                            have f3 : u_367.1 (3 * k9) = ((okS (lC T) (lN9 T) (lE T) (lM T) k9 (3 - (j : Int))).toNat : Int) := (h_367.1 k9 (by omega) (by omega)).1
                            have K_388 : ∀ (z4 : Int), (z4 = nsL T k9 (j + 1)) → W p l e (qrc 9 835 9362) s m args below meth c H locs (419 + 104 * j + 104) (4786 + 1144 * j + 1144) Q (F0 m 388 ls [.int (qI (z4))]) := by
                              intro z4 hz4
                              refine q_topZ (y := nsL T k9 (j + 1)) hz4 ?_
                              refine lv_istore (lv' := [(23, .int (qI (nsL T k9 (j + 1)))), (0, .ref (x)), (1, .int (qI (p1))), (2, .int (qI (p2))), (3, .ref (xv)), (4, .ref (xc)), (5, .ref (xe)), (6, .ref (xd)), (7, .ref (q_2)), (8, .ref (q_8)), (9, .ref (q_13)), (10, .ref (q_19)), (11, .ref (q_25)), (12, .ref (q_30)), (13, .ref (q_36)), (14, .ref (q_42)), (15, .ref (q_48)), (16, .int (qI (((l9 : Nat) : Int)))), (17, .int (qI (w9))), (18, .int (qI (((s9 : Nat) : Int)))), (19, .int (qI (((q9 : Nat) : Int)))), (20, .int (qI (((k9 : Nat) : Int)))), (21, .int (qI (((cnt (fOC (fil (lC T) (lN9 T) (lE T) (lM T) (k9 : Int))) c9 : Nat) : Int)))), (22, .int (qI (co ((5 * k9) + 4)))), (24, .int (qI (x3)))]) hx hb dL_ahead_388 hl (by decide) rfl (fun ls hl => ?_)
                              refine q_iinc (k := 24) (lv' := [(24, .int (qI ((x3) + (-1)))), (23, .int (qI (nsL T k9 (j + 1)))), (0, .ref (x)), (1, .int (qI (p1))), (2, .int (qI (p2))), (3, .ref (xv)), (4, .ref (xc)), (5, .ref (xe)), (6, .ref (xd)), (7, .ref (q_2)), (8, .ref (q_8)), (9, .ref (q_13)), (10, .ref (q_19)), (11, .ref (q_25)), (12, .ref (q_30)), (13, .ref (q_36)), (14, .ref (q_42)), (15, .ref (q_48)), (16, .int (qI (((l9 : Nat) : Int)))), (17, .int (qI (w9))), (18, .int (qI (((s9 : Nat) : Int)))), (19, .int (qI (((q9 : Nat) : Int)))), (20, .int (qI (((k9 : Nat) : Int)))), (21, .int (qI (((cnt (fOC (fil (lC T) (lN9 T) (lE T) (lM T) (k9 : Int))) c9 : Nat) : Int)))), (22, .int (qI (co ((5 * k9) + 4))))]) hx hb dL_ahead_390 hl rfl (by decide) rfl (fun ls hl => ?_)
                              refine lv_goto (tgt := 332) hx hb dL_ahead_393 (by decide) ?_
                              refine W.widen (k := 419 + 104 * (j + 1)) (n := 4786 + 1144 * (j + 1)) (by omega) (by omega) ?_
                              exact ih_332 (j + 1) _ ((qu c4 ((5 * k9) + 4) (x3))) (u_367.1) (u_367.2.1) (u_367.2.2) (by omega) (by omega) (by omega) (fun q hq => (qu_n _ _ hq).trans (hc4 q hq)) _ _ _ hP hD hS (lv_sub hl [2, 3, 4, 5, 6, 7, 8, 9, 10, 11, 12, 13, 14, 15, 16, 17, 18, 19, 20, 21, 22, 23, 24, 1, 0] rfl)
                            have t3 := (okS (lC T) (lN9 T) (lE T) (lM T) k9 (3 - (j : Int))).toNat_le
                            have f3 : u_367.1 (3 * k9) = ((okS (lC T) (lN9 T) (lE T) (lM T) k9 (3 - (j : Int))).toNat : Int) := (h_367.1 k9 (by omega) (by omega)).1
                            refine lv_aload hx hb dL_ahead_370 (lv_at hl 10 rfl) ?_
                            refine q_iconst hx hb dL_ahead_372 ?_
                            refine lv_iload hx hb dL_ahead_373 (lv_at hl 20 rfl) ?_
                            refine q_imul hx hb dL_ahead_375 ?_
                            refine q_iald (j := (3 * k9)) hx hb hK (fl_blk hP 8 rfl) 0 rfl (by omega) dL_ahead_376 ?_
                            refine q_iconst hx hb dL_ahead_377 ?_
                            refine q_icmp_ne (tgt := 386) hx hb dL_ahead_378 (by decide) (by omega) (fun c_378 => ?_) (fun c_378 => ?_)
                            · skip
                              refine lv_iload hx hb dL_ahead_386 (lv_at hl 23 rfl) ?_
                              exact K_388 (nsL T k9 j) (nsL_s (h_367.1 k9 (by omega) (by omega)).1 (by omega))
                            · skip
                              refine lv_iload hx hb dL_ahead_381 (lv_at hl 24 rfl) ?_
                              refine lv_goto (tgt := 388) hx hb dL_ahead_383 (by decide) ?_
                              exact K_388 (x3) (nsL_s (h_367.1 k9 (by omega) (by omega)).1 (by omega))
                      refine W.widen (k := 419 + 104 * 0) (n := 4786 + 1144 * 0) (by omega) (by omega) ?_
                      exact L_332 (4 + 1) (0) (3) (co) (u_268.1) (u_268.2.1) (u_268.2.2) (by omega) (by omega) (by omega) (fun _ _ => rfl) _ _ _ hP hD hS (lv_sub hl [3, 4, 5, 6, 7, 8, 9, 10, 11, 12, 13, 14, 15, 16, 17, 18, 19, 20, 21, 22, 23, 24, 2, 1, 0] rfl)
                    · skip
                      refine lv_iload hx hb dL_ahead_286 (lv_at hl 21 rfl) ?_
                      have K_306 : ∀ (z1 : Int), (z1 = ((fOC (fil (lC T) (lN9 T) (lE T) (lM T) (k9 : Int)) c9).toNat : Int)) → W p l e (qrc 9 835 9362) s m args below meth c H locs (419) (4786) Q (F0 m 306 ls [.int (qI (z1)), .int (qI (((cnt (fOC (fil (lC T) (lN9 T) (lE T) (lM T) (k9 : Int))) c9 : Nat) : Int)))]) := by
                        intro z1 hz1
                        refine q_iadd hx hb dL_ahead_306 ?_
                        refine q_topZ (y := ((cnt (fOC (fil (lC T) (lN9 T) (lE T) (lM T) (k9 : Int))) (c9 + 1) : Nat) : Int)) (cnt_t hz1) ?_
                        refine lv_istore (lv' := [(21, .int (qI (((cnt (fOC (fil (lC T) (lN9 T) (lE T) (lM T) (k9 : Int))) (c9 + 1) : Nat) : Int)))), (0, .ref (x)), (1, .int (qI (p1))), (2, .int (qI (p2))), (3, .ref (xv)), (4, .ref (xc)), (5, .ref (xe)), (6, .ref (xd)), (7, .ref (q_2)), (8, .ref (q_8)), (9, .ref (q_13)), (10, .ref (q_19)), (11, .ref (q_25)), (12, .ref (q_30)), (13, .ref (q_36)), (14, .ref (q_42)), (15, .ref (q_48)), (16, .int (qI (((l9 : Nat) : Int)))), (17, .int (qI (w9))), (18, .int (qI (((s9 : Nat) : Int)))), (19, .int (qI (((q9 : Nat) : Int)))), (20, .int (qI (((k9 : Nat) : Int)))), (22, .int (qI (((c9 : Nat) : Int))))]) hx hb dL_ahead_307 hl (by decide) rfl (fun ls hl => ?_)
                        refine q_iinc (k := 22) (lv' := [(22, .int (qI ((((c9 : Nat) : Int)) + (1)))), (21, .int (qI (((cnt (fOC (fil (lC T) (lN9 T) (lE T) (lM T) (k9 : Int))) (c9 + 1) : Nat) : Int)))), (0, .ref (x)), (1, .int (qI (p1))), (2, .int (qI (p2))), (3, .ref (xv)), (4, .ref (xc)), (5, .ref (xe)), (6, .ref (xd)), (7, .ref (q_2)), (8, .ref (q_8)), (9, .ref (q_13)), (10, .ref (q_19)), (11, .ref (q_25)), (12, .ref (q_30)), (13, .ref (q_36)), (14, .ref (q_42)), (15, .ref (q_48)), (16, .int (qI (((l9 : Nat) : Int)))), (17, .int (qI (w9))), (18, .int (qI (((s9 : Nat) : Int)))), (19, .int (qI (((q9 : Nat) : Int)))), (20, .int (qI (((k9 : Nat) : Int))))]) hx hb dL_ahead_309 hl rfl (by decide) rfl (fun ls hl => ?_)
                        refine lv_goto (tgt := 277) hx hb dL_ahead_312 (by decide) ?_
                        exact ih_277 (c9 + 1)  (by omega) (by omega)  _ _ _ hP hD hS (lv_sub hl [2, 3, 4, 5, 6, 7, 8, 9, 10, 11, 12, 13, 14, 15, 16, 17, 18, 19, 20, 21, 22, 1, 0] rfl)
                      refine lv_iload hx hb dL_ahead_288 (lv_at hl 22 rfl) ?_
                      refine lv_iload hx hb dL_ahead_290 (lv_at hl 20 rfl) ?_
                      refine q_icmp_eq (tgt := 305) hx hb dL_ahead_292 (by decide) (by omega) (fun c_292 => ?_) (fun c_292 => ?_)
                      · skip
                        refine q_iconst hx hb dL_ahead_305 ?_
                        exact K_306 0 (by rw [show c9 = k9 by omega, fil_outC (Or.inr rfl)]; rfl)
                      · skip
                        refine lv_aload hx hb dL_ahead_295 (lv_at hl 10 rfl) ?_
                        refine q_iconst hx hb dL_ahead_297 ?_
                        refine lv_iload hx hb dL_ahead_298 (lv_at hl 22 rfl) ?_
                        refine q_imul hx hb dL_ahead_300 ?_
                        refine q_iald (j := (3 * c9)) hx hb hK (fl_blk hP 8 rfl) 0 rfl (by omega) dL_ahead_301 ?_
                        refine lv_goto (tgt := 306) hx hb dL_ahead_302 (by decide) ?_
                        exact K_306 (u_268.1 (3 * c9)) ((h_268.1 c9 (by omega) (by omega)).1)
                exact L_277 (lN9 T + 1) (0)  (by omega) (by omega)  _ _ _ hP hD hS (lv_sub hl [7, 8, 9, 10, 11, 12, 13, 14, 15, 16, 17, 18, 19, 20, 21, 22, 6, 5, 4, 3, 2, 1, 0] rfl)
              · skip
                refine q_iconst hx hb dL_ahead_233 ?_
                have hP := fl_sub (bs' := [u_214, [(xv, aI cy 20 (va))], [(xc, aI cy 45 (co))], [(xe, aI cy 9 (ed))], [(xd, aI cy 2 (dd))]]) hP [13, 0, 6, 1, 2] rfl
                have hD := fl_subD (bs' := [u_214, [(xv, aI cy 20 (va))], [(xc, aI cy 45 (co))], [(xe, aI cy 9 (ed))], [(xd, aI cy 2 (dd))]]) hD [13, 0, 6, 1, 2] (by decide) rfl
                refine W.widen (k := 835) (n := 9362) (by omega) (by omega) ?_
                exact hQ _ _ _ _ true u_214 ⟨rfl, h_214⟩ hP hD hS dL_ahead_234
            · skip
              refine lv_aload hx hb dL_ahead_87 (lv_at hl 8 rfl) ?_
              refine lv_iload hx hb dL_ahead_89 (lv_at hl 16 rfl) ?_
              refine lv_aload hx hb dL_ahead_91 (lv_at hl 5 rfl) ?_
              refine lv_iload hx hb dL_ahead_93 (lv_at hl 16 rfl) ?_
              refine q_iald (j := k2) hx hb hK (fl_blk hP 3 rfl) 0 rfl (by omega) dL_ahead_95 ?_
              refine qb_iast (j := k2) hx hb hK hP hD hS 6 0 rfl rfl (by omega) dL_ahead_96 (fun H locs hP hD hS => ?_)
              have hP : va_P D vwCl [W0, [(xv, aI cy 20 (va))], [(xc, aI cy 45 (co))], [(xe, aI cy 9 (ed))], [(xd, aI cy 2 (dd))], [(q_2, aI cy 20 (v3))], [(q_8, aI cy 12 (qu e3 k2 (ed k2)))], [(q_13, aI cy 2 (fun _ => 0))], [(q_19, aI cy 27 (fun _ => 0))], [(q_25, aI cy 8 (fun _ => 0))], [(q_30, aI cy 2 (fun _ => 0))], [(q_36, aI cy 64 (fun _ => 0))], [(q_42, aI cy 64 (fun _ => 0))], [(q_48, aI cy 64 (fun _ => 0))]].flatten H := hP
              have hD : va_D A [W0, [(xv, aI cy 20 (va))], [(xc, aI cy 45 (co))], [(xe, aI cy 9 (ed))], [(xd, aI cy 2 (dd))], [(q_2, aI cy 20 (v3))], [(q_8, aI cy 12 (qu e3 k2 (ed k2)))], [(q_13, aI cy 2 (fun _ => 0))], [(q_19, aI cy 27 (fun _ => 0))], [(q_25, aI cy 8 (fun _ => 0))], [(q_30, aI cy 2 (fun _ => 0))], [(q_36, aI cy 64 (fun _ => 0))], [(q_42, aI cy 64 (fun _ => 0))], [(q_48, aI cy 64 (fun _ => 0))]].flatten := hD
              refine q_iinc (k := 16) (lv' := [(16, .int (qI ((((k2 : Nat) : Int)) + (1)))), (0, .ref (x)), (1, .int (qI (p1))), (2, .int (qI (p2))), (3, .ref (xv)), (4, .ref (xc)), (5, .ref (xe)), (6, .ref (xd)), (7, .ref (q_2)), (8, .ref (q_8)), (9, .ref (q_13)), (10, .ref (q_19)), (11, .ref (q_25)), (12, .ref (q_30)), (13, .ref (q_36)), (14, .ref (q_42)), (15, .ref (q_48))]) hx hb dL_ahead_97 hl rfl (by decide) rfl (fun ls hl => ?_)
              refine lv_goto (tgt := 80) hx hb dL_ahead_100 (by decide) ?_
              exact ih_80 (k2 + 1) _ (by omega) (by omega) (fun q hq => if e : q = k2 then (by rw [e, qu_s]) else (by rw [qu_n _ _ e]; exact he3 q (by omega))) _ _ _ hP hD hS (lv_sub hl [1, 2, 3, 4, 5, 6, 7, 8, 9, 10, 11, 12, 13, 14, 15, 16, 0] rfl)
        exact L_80 (9 + 1) (0) (fun _ => 0) (by omega) (by omega) (fun q hq => absurd hq (Nat.not_lt_zero q)) _ _ _ hP hD hS (lv_sub hl [1, 2, 3, 4, 5, 6, 7, 8, 9, 10, 11, 12, 13, 14, 15, 16, 0] rfl)
      · skip
        refine lv_aload hx hb dL_ahead_62 (lv_at hl 7 rfl) ?_
        refine lv_iload hx hb dL_ahead_64 (lv_at hl 16 rfl) ?_
        refine lv_aload_n hx hb dL_ahead_66 rfl (lv_at hl 3 rfl) ?_
        refine lv_iload hx hb dL_ahead_67 (lv_at hl 16 rfl) ?_
        refine q_iald (j := k1) hx hb hK (fl_blk hP 1 rfl) 0 rfl (by omega) dL_ahead_69 ?_
        refine qb_iast (j := k1) hx hb hK hP hD hS 5 0 rfl rfl (by omega) dL_ahead_70 (fun H locs hP hD hS => ?_)
        have hP : va_P D vwCl [W0, [(xv, aI cy 20 (va))], [(xc, aI cy 45 (co))], [(xe, aI cy 9 (ed))], [(xd, aI cy 2 (dd))], [(q_2, aI cy 20 (qu v3 k1 (va k1)))], [(q_8, aI cy 12 (fun _ => 0))], [(q_13, aI cy 2 (fun _ => 0))], [(q_19, aI cy 27 (fun _ => 0))], [(q_25, aI cy 8 (fun _ => 0))], [(q_30, aI cy 2 (fun _ => 0))], [(q_36, aI cy 64 (fun _ => 0))], [(q_42, aI cy 64 (fun _ => 0))], [(q_48, aI cy 64 (fun _ => 0))]].flatten H := hP
        have hD : va_D A [W0, [(xv, aI cy 20 (va))], [(xc, aI cy 45 (co))], [(xe, aI cy 9 (ed))], [(xd, aI cy 2 (dd))], [(q_2, aI cy 20 (qu v3 k1 (va k1)))], [(q_8, aI cy 12 (fun _ => 0))], [(q_13, aI cy 2 (fun _ => 0))], [(q_19, aI cy 27 (fun _ => 0))], [(q_25, aI cy 8 (fun _ => 0))], [(q_30, aI cy 2 (fun _ => 0))], [(q_36, aI cy 64 (fun _ => 0))], [(q_42, aI cy 64 (fun _ => 0))], [(q_48, aI cy 64 (fun _ => 0))]].flatten := hD
        refine q_iinc (k := 16) (lv' := [(16, .int (qI ((((k1 : Nat) : Int)) + (1)))), (0, .ref (x)), (1, .int (qI (p1))), (2, .int (qI (p2))), (3, .ref (xv)), (4, .ref (xc)), (5, .ref (xe)), (6, .ref (xd)), (7, .ref (q_2)), (8, .ref (q_8)), (9, .ref (q_13)), (10, .ref (q_19)), (11, .ref (q_25)), (12, .ref (q_30)), (13, .ref (q_36)), (14, .ref (q_42)), (15, .ref (q_48))]) hx hb dL_ahead_71 hl rfl (by decide) rfl (fun ls hl => ?_)
        refine lv_goto (tgt := 55) hx hb dL_ahead_74 (by decide) ?_
        exact ih_55 (k1 + 1) _ (by omega) (by omega) (fun q hq => if e : q = k1 then (by rw [e, qu_s]) else (by rw [qu_n _ _ e]; exact hv3 q (by omega))) _ _ _ hP hD hS (lv_sub hl [1, 2, 3, 4, 5, 6, 7, 8, 9, 10, 11, 12, 13, 14, 15, 16, 0] rfl)
  exact L_55 (20 + 1) (0) (fun _ => 0) (by omega) (by omega) (fun q hq => absurd hq (Nat.not_lt_zero q)) _ _ _ hP hD hS (lv_sub hl [10, 11, 12, 13, 14, 15, 16, 9, 8, 7, 6, 5, 4, 3, 2, 1, 0] rfl)
