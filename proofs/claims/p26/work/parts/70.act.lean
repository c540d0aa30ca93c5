theorem edOf_up {E : Nat → Nat → Int} {x : Int} {k : Nat} (h : edOf E x k ≠ -1) : edOf E x (k + 1) ≠ -1 := by
  simp only [edOf]
  rw [if_pos h]
  exact h
theorem edOf_hit {E : Nat → Nat → Int} {x : Int} {k : Nat} (h : E 0 k = x) : edOf E x (k + 1) ≠ -1 := by
  simp only [edOf]
  by_cases e : edOf E x k = -1
  · rw [if_neg (by rw [e]; decide), if_pos h]
    omega
  · rw [if_pos e]
    exact e

set_option maxRecDepth 100000 in
set_option maxHeartbeats 4000000 in
theorem c_L_act (l : Launch) (D : va_G) (cy : Nat → ClassId) (x la lv9 ls9 fa xh xs la2 lv92 ls92 fb fw bu ta : Nat) (rc re gb oc oe rs rc2 re2 gb2 oc2 oe2 rs2 rr : Nat → Nat) (ad : Nat → Nat → Nat) (T : LSt) (hz : Nat) (HZ : Nat → LSt) (len : Nat) (tx : Nat → Int) (W0 : va_W) (hG : gOk T) (hW : CW cy x la lv9 ls9 fa xh xs la2 lv92 ls92 fb fw bu ta rc re gb oc oe rs rc2 re2 gb2 oc2 oe2 rs2 rr ad T hz HZ len tx W0) (xv xc xe xd am aa ab an : Nat) (va co ed dd : Nat → Int) (u : L4) (hL : lwR T va co ed dd) (hn : lN9 T ≤ 9) (hm3 : lM T ≤ 3) (p1 p2 p3 : Int) (a9 x9 y9 : Nat) (hp1 : p1 = (a9 : Int) ∧ a9 < 100) (hp2 : p2 = (x9 : Int) ∧ x9 < 2147483648) (hp3 : p3 = (y9 : Int) ∧ y9 < 2147483648) (sz : Nat) : qCM l yL_act (.code yL_act cL_act 18 (some .boolean)) 9 412 4558 [.ref (x), .int (qI (p1)), .int (qI (p2)), .int (qI (p3)), .ref (xv), .ref (xc), .ref (xe), .ref (xd), .ref (am), .ref (aa), .ref (ab), .ref (an)] D cy [W0, [(xv, aI cy 20 (va))], [(xc, aI cy 45 (co))], [(xe, aI cy 9 (ed))], [(xd, aI cy 2 (dd))], [(am, aI cy 2 (u.1))], [(aa, aI cy 64 (u.2.1))], [(ab, aI cy 64 (u.2.2.1))], [(an, aI cy 64 (u.2.2.2))]] sz (va_Qi (S := va_W × (Nat → Int) × (Nat → Int) × (Nat → Int) × (Nat → Int) × L4) (fun r u => ∃ b : Bool, r = qz b ∧ (fun b z => b = true ∧ ∃ (T2 : LSt) (hz2 : Nat) (HZ2 : Nat → LSt), CW cy x la lv9 ls9 fa xh xs la2 lv92 ls92 fb fw bu ta rc re gb oc oe rs rc2 re2 gb2 oc2 oe2 rs2 rr ad T2 hz2 HZ2 len tx z.1 ∧ lwO T2 z.2.1 z.2.2.1 z.2.2.2.1 z.2.2.2.2.1 ∧ (1 ≤ hz → 1 ≤ hz2) ∧ (a9 < 5 → lN9 T < 9 → 1 ≤ hz2)) b u) (qB D cy [W0, [(xv, aI cy 20 (va))], [(xc, aI cy 45 (co))], [(xe, aI cy 9 (ed))], [(xd, aI cy 2 (dd))], [(am, aI cy 2 (u.1))], [(aa, aI cy 64 (u.2.1))], [(ab, aI cy 64 (u.2.2.1))], [(an, aI cy 64 (u.2.2.2))]] sz (fun z => [z.1, [(xv, aI cy 20 (z.2.1))], [(xc, aI cy 45 (z.2.2.1))], [(xe, aI cy 9 (z.2.2.2.1))], [(xd, aI cy 2 (z.2.2.2.2.1))], [(am, aI cy 2 (z.2.2.2.2.2.1))], [(aa, aI cy 64 (z.2.2.2.2.2.2.1))], [(ab, aI cy 64 (z.2.2.2.2.2.2.2.1))], [(an, aI cy 64 (z.2.2.2.2.2.2.2.2))]])) (va_A [W0, [(xv, aI cy 20 (va))], [(xc, aI cy 45 (co))], [(xe, aI cy 9 (ed))], [(xd, aI cy 2 (dd))], [(am, aI cy 2 (u.1))], [(aa, aI cy 64 (u.2.1))], [(ab, aI cy 64 (u.2.2.1))], [(an, aI cy 64 (u.2.2.2))]].flatten sz)) := by
  refine q_ofKz (S := va_W × (Nat → Int) × (Nat → Int) × (Nat → Int) × (Nat → Int) × L4) (b1 := fun z => [z.1, [(xv, aI cy 20 (z.2.1))], [(xc, aI cy 45 (z.2.2.1))], [(xe, aI cy 9 (z.2.2.2.1))], [(xd, aI cy 2 (z.2.2.2.2.1))], [(am, aI cy 2 (z.2.2.2.2.2.1))], [(aa, aI cy 64 (z.2.2.2.2.2.2.1))], [(ab, aI cy 64 (z.2.2.2.2.2.2.2.1))], [(an, aI cy 64 (z.2.2.2.2.2.2.2.2))]]) (post := fun b z => b = true ∧ ∃ (T2 : LSt) (hz2 : Nat) (HZ2 : Nat → LSt), CW cy x la lv9 ls9 fa xh xs la2 lv92 ls92 fb fw bu ta rc re gb oc oe rs rc2 re2 gb2 oc2 oe2 rs2 rr ad T2 hz2 HZ2 len tx z.1 ∧ lwO T2 z.2.1 z.2.2.1 z.2.2.2.1 z.2.2.2.2.1 ∧ (1 ≤ hz → 1 ≤ hz2) ∧ (a9 < 5 → lN9 T < 9 → 1 ≤ hz2)) (by decide +kernel) (Nat.le_of_ble_eq_true rfl) ?_
  intro p e s m args below meth c Q A hx hb hml hown hg hQ hK hN hD hA H locs ls hP hS hl
  have hown : s.vm.findClass RL = some m.cls := hown
  have hl : lv_has ls 18 [(0, .ref (x)), (1, .int (qI (p1))), (2, .int (qI (p2))), (3, .int (qI (p3))), (4, .ref (xv)), (5, .ref (xc)), (6, .ref (xe)), (7, .ref (xd)), (8, .ref (am)), (9, .ref (aa)), (10, .ref (ab)), (11, .ref (an))] := hl
  obtain ⟨fsW, hfsW⟩ := CW_at hW
  have gC : qWR (lC T) (lN9 T) := hG.2.2.1.2
  have gE : qWR (lE T) (lM T) := hG.2.2.2.1.2
  have gV : qV (lV T) := hG.1
  have gT := hG.2.1
  have gD := hG.2.2.2.2.2
  have hL0 := hL
  obtain ⟨hv, ht, hco, hed, hd0, hd1⟩ := hL
  have hx11 := Nat.div_le_self x9 (2 ^ 11)
  have hx3 := Nat.div_le_self x9 (2 ^ 3)
  have hx4 := Nat.div_le_self x9 (2 ^ 4)
  have hx7 := Nat.div_le_self x9 (2 ^ 7)
  have hy99 := Nat.div_le_self y9 (2 ^ 9)
  have K_43 : ∀ (nb : Int), (-1000 ≤ nb ∧ nb ≤ 1000) → W p l e (qrc 9 412 4558) s m args below meth c H locs (0) (0) Q (F0 m 43 ls [.int (qI (nb))]) := by
    intro nb hnb
    refine lv_istore (lv' := [(12, .int (qI (nb))), (0, .ref (x)), (1, .int (qI (p1))), (2, .int (qI (p2))), (3, .int (qI (p3))), (4, .ref (xv)), (5, .ref (xc)), (6, .ref (xe)), (7, .ref (xd)), (8, .ref (am)), (9, .ref (aa)), (10, .ref (ab)), (11, .ref (an))]) hx hb dL_act_43 hl (by decide) rfl (fun ls hl => ?_)
    have K_63 : W p l e (qrc 9 412 4558) s m args below meth c H locs (0) (0) Q (F0 m 63 ls []) := by
      refine lv_aload hx hb dL_act_63 (lv_at hl 8 rfl) ?_
      refine q_iconst hx hb dL_act_65 ?_
      refine q_iald (j := 0) hx hb hK (fl_blk hP 4 rfl) 0 rfl (by omega) dL_act_66 ?_
      refine q_bipush hx hb dL_act_67 (by decide) ?_
      refine q_icmp_ne (tgt := 74) hx hb dL_act_69 (by decide) (by omega) (fun c_69 => ?_) (fun c_69 => ?_)
      · skip
        refine q_iconst hx hb dL_act_74 ?_
        refine lv_aload hx hb dL_act_75 (lv_at hl 8 rfl) ?_
        refine q_iconst hx hb dL_act_77 ?_
        refine q_iald (j := 0) hx hb hK (fl_blk hP 4 rfl) 0 rfl (by omega) dL_act_78 ?_
        refine q_imul hx hb dL_act_79 ?_
        refine q_topZ (y := ((5 * lN9 T : Nat) : Int)) (by omega) ?_
        refine lv_istore (lv' := [(13, .int (qI (((5 * lN9 T : Nat) : Int)))), (12, .int (qI (nb))), (0, .ref (x)), (1, .int (qI (p1))), (2, .int (qI (p2))), (3, .int (qI (p3))), (4, .ref (xv)), (5, .ref (xc)), (6, .ref (xe)), (7, .ref (xd)), (8, .ref (am)), (9, .ref (aa)), (10, .ref (ab)), (11, .ref (an))]) hx hb dL_act_80 hl (by decide) rfl (fun ls hl => ?_)
        refine lv_aload hx hb dL_act_82 (lv_at hl 7 rfl) ?_
        refine lv_iload hx hb dL_act_84 (lv_at hl 0 rfl) ?_
        refine lv_iload_n hx hb dL_act_86 rfl (lv_at hl 4 rfl) ?_
        refine q_iconst hx hb dL_act_87 ?_
        refine q_readi (va_runS (As := [.int (qI (p2)), .int (qI (5))]) (rest := [.int (qI (((5 * lN9 T : Nat) : Int))), .ref (xc)]) ⟨hx, hb, hml, hown, hg⟩ (c_L_at l D cy _ _ x9 5 (by omega) (by omega)) (cs_L_36 hg rfl rfl ⟨(Nat.le_of_ble_eq_true rfl), (Nat.le_of_ble_eq_true rfl)⟩) ⟨q_blind0, q_preR _ hK hN hP [] rfl⟩ rfl rfl hl.1 rfl (lv_room (Nat.le_of_ble_eq_true rfl)) dL_act_88 ⟨(show 0 + 0 ≤ 412 by omega), (show 0 + 0 ≤ 4558 by omega)⟩) (fun r_88 h_88 => ?_)
        subst h_88
        obtain ⟨l9, hl99, hl98⟩ : ∃ l9 : Nat, l9 < 5 ∧ l9 = x9 / 2 % 5 := ⟨_, Nat.mod_lt _ (by decide), rfl⟩
        refine q_topZ (y := ((l9 : Nat) : Int)) (by rw [hl98]) ?_
        refine qb_iast (j := 5 * lN9 T) hx hb hK hP hD hS 2 0 rfl rfl (by omega) dL_act_91 (fun H locs hP hD hS => ?_)
        have hP : va_P D vwCl [W0, [(xv, aI cy 20 (va))], [(xc, aI cy 45 (qu co (5 * lN9 T) (((l9 : Nat) : Int))))], [(xe, aI cy 9 (ed))], [(xd, aI cy 2 (dd))], [(am, aI cy 2 (u.1))], [(aa, aI cy 64 (u.2.1))], [(ab, aI cy 64 (u.2.2.1))], [(an, aI cy 64 (u.2.2.2))]].flatten H := hP
        have hD : va_D A [W0, [(xv, aI cy 20 (va))], [(xc, aI cy 45 (qu co (5 * lN9 T) (((l9 : Nat) : Int))))], [(xe, aI cy 9 (ed))], [(xd, aI cy 2 (dd))], [(am, aI cy 2 (u.1))], [(aa, aI cy 64 (u.2.1))], [(ab, aI cy 64 (u.2.2.1))], [(an, aI cy 64 (u.2.2.2))]].flatten := hD
        refine lv_aload hx hb dL_act_92 (lv_at hl 7 rfl) ?_
        refine lv_iload hx hb dL_act_94 (lv_at hl 0 rfl) ?_
        refine q_iconst hx hb dL_act_96 ?_
        refine q_iadd hx hb dL_act_97 ?_
        have K_130 : ∀ (r0 : Int), (r0 = 10 ∨ (0 ≤ r0 ∧ r0 < 5 ∧ r0 ≠ (l9 : Int))) → W p l e (qrc 9 412 4558) s m args below meth c H locs (0) (0) Q (F0 m 130 ls [.int (qI (r0)), .int (qI ((((5 * lN9 T : Nat) : Int)) + (1))), .ref (xc)]) := by
          intro r0 hr0
          refine qb_iast (j := (5 * lN9 T + 1)) hx hb hK hP hD hS 2 0 rfl rfl (by omega) dL_act_130 (fun H locs hP hD hS => ?_)
          have hP : va_P D vwCl [W0, [(xv, aI cy 20 (va))], [(xc, aI cy 45 (qu (qu co (5 * lN9 T) (((l9 : Nat) : Int))) (5 * lN9 T + 1) (r0)))], [(xe, aI cy 9 (ed))], [(xd, aI cy 2 (dd))], [(am, aI cy 2 (u.1))], [(aa, aI cy 64 (u.2.1))], [(ab, aI cy 64 (u.2.2.1))], [(an, aI cy 64 (u.2.2.2))]].flatten H := hP
          have hD : va_D A [W0, [(xv, aI cy 20 (va))], [(xc, aI cy 45 (qu (qu co (5 * lN9 T) (((l9 : Nat) : Int))) (5 * lN9 T + 1) (r0)))], [(xe, aI cy 9 (ed))], [(xd, aI cy 2 (dd))], [(am, aI cy 2 (u.1))], [(aa, aI cy 64 (u.2.1))], [(ab, aI cy 64 (u.2.2.1))], [(an, aI cy 64 (u.2.2.2))]].flatten := hD
          refine lv_aload hx hb dL_act_131 (lv_at hl 7 rfl) ?_
          refine lv_iload hx hb dL_act_133 (lv_at hl 0 rfl) ?_
          refine q_iconst hx hb dL_act_135 ?_
          refine q_iadd hx hb dL_act_136 ?_
          refine lv_iload_n hx hb dL_act_137 rfl (lv_at hl 4 rfl) ?_
          refine q_bipush hx hb dL_act_138 (by decide) ?_
          refine q_ishr (F := x9) (k := 7) hx hb (by omega) dL_act_140 ?_
          refine q_iconst hx hb dL_act_141 ?_
          refine q_readi (va_runS (As := [.int (qI ((((x9) / 2 ^ (7) : Nat) : Int))), .int (qI (3))]) (rest := [.int (qI ((((5 * lN9 T : Nat) : Int)) + (2))), .ref (xc)]) ⟨hx, hb, hml, hown, hg⟩ (c_L_at l D cy _ _ ((x9) / 2 ^ (7)) 3 (by omega) (by omega)) (cs_L_36 hg rfl rfl ⟨(Nat.le_of_ble_eq_true rfl), (Nat.le_of_ble_eq_true rfl)⟩) ⟨q_blind0, q_preR _ hK hN hP [] rfl⟩ rfl rfl hl.1 rfl (lv_room (Nat.le_of_ble_eq_true rfl)) dL_act_142 ⟨(show 0 + 0 ≤ 412 by omega), (show 0 + 0 ≤ 4558 by omega)⟩) (fun r_142 h_142 => ?_)
          subst h_142
          obtain ⟨s9, hs99, hs98⟩ : ∃ s9 : Nat, s9 < 3 ∧ s9 = ((x9) / 2 ^ (7)) / 2 % 3 := ⟨_, Nat.mod_lt _ (by decide), rfl⟩
          refine q_topZ (y := ((s9 : Nat) : Int)) (by rw [hs98]) ?_
          refine qb_iast (j := (5 * lN9 T + 2)) hx hb hK hP hD hS 2 0 rfl rfl (by omega) dL_act_145 (fun H locs hP hD hS => ?_)
          have hP : va_P D vwCl [W0, [(xv, aI cy 20 (va))], [(xc, aI cy 45 (qu (qu (qu co (5 * lN9 T) (((l9 : Nat) : Int))) (5 * lN9 T + 1) (r0)) (5 * lN9 T + 2) (((s9 : Nat) : Int))))], [(xe, aI cy 9 (ed))], [(xd, aI cy 2 (dd))], [(am, aI cy 2 (u.1))], [(aa, aI cy 64 (u.2.1))], [(ab, aI cy 64 (u.2.2.1))], [(an, aI cy 64 (u.2.2.2))]].flatten H := hP
          have hD : va_D A [W0, [(xv, aI cy 20 (va))], [(xc, aI cy 45 (qu (qu (qu co (5 * lN9 T) (((l9 : Nat) : Int))) (5 * lN9 T + 1) (r0)) (5 * lN9 T + 2) (((s9 : Nat) : Int))))], [(xe, aI cy 9 (ed))], [(xd, aI cy 2 (dd))], [(am, aI cy 2 (u.1))], [(aa, aI cy 64 (u.2.1))], [(ab, aI cy 64 (u.2.2.1))], [(an, aI cy 64 (u.2.2.2))]].flatten := hD
          refine lv_aload hx hb dL_act_146 (lv_at hl 7 rfl) ?_
          refine lv_iload hx hb dL_act_148 (lv_at hl 0 rfl) ?_
          refine q_iconst hx hb dL_act_150 ?_
          refine q_iadd hx hb dL_act_151 ?_
          refine lv_iload hx hb dL_act_152 (lv_at hl 1 rfl) ?_
          refine qb_iast (j := (5 * lN9 T + 3)) hx hb hK hP hD hS 2 0 rfl rfl (by omega) dL_act_154 (fun H locs hP hD hS => ?_)
          have hP : va_P D vwCl [W0, [(xv, aI cy 20 (va))], [(xc, aI cy 45 (qu (qu (qu (qu co (5 * lN9 T) (((l9 : Nat) : Int))) (5 * lN9 T + 1) (r0)) (5 * lN9 T + 2) (((s9 : Nat) : Int))) (5 * lN9 T + 3) (nb)))], [(xe, aI cy 9 (ed))], [(xd, aI cy 2 (dd))], [(am, aI cy 2 (u.1))], [(aa, aI cy 64 (u.2.1))], [(ab, aI cy 64 (u.2.2.1))], [(an, aI cy 64 (u.2.2.2))]].flatten H := hP
          have hD : va_D A [W0, [(xv, aI cy 20 (va))], [(xc, aI cy 45 (qu (qu (qu (qu co (5 * lN9 T) (((l9 : Nat) : Int))) (5 * lN9 T + 1) (r0)) (5 * lN9 T + 2) (((s9 : Nat) : Int))) (5 * lN9 T + 3) (nb)))], [(xe, aI cy 9 (ed))], [(xd, aI cy 2 (dd))], [(am, aI cy 2 (u.1))], [(aa, aI cy 64 (u.2.1))], [(ab, aI cy 64 (u.2.2.1))], [(an, aI cy 64 (u.2.2.2))]].flatten := hD
          refine lv_aload hx hb dL_act_155 (lv_at hl 7 rfl) ?_
          refine lv_iload hx hb dL_act_157 (lv_at hl 0 rfl) ?_
          refine q_iconst hx hb dL_act_159 ?_
          refine q_iadd hx hb dL_act_160 ?_
          refine lv_iload_n hx hb dL_act_161 rfl (lv_at hl 5 rfl) ?_
          refine q_bipush hx hb dL_act_162 (by decide) ?_
          refine q_ishr (F := y9) (k := 9) hx hb (by omega) dL_act_164 ?_
          refine q_iconst hx hb dL_act_165 ?_
          refine q_readi (va_runS (As := [.int (qI ((((y9) / 2 ^ (9) : Nat) : Int))), .int (qI (4))]) (rest := [.int (qI ((((5 * lN9 T : Nat) : Int)) + (4))), .ref (xc)]) ⟨hx, hb, hml, hown, hg⟩ (c_L_at l D cy _ _ ((y9) / 2 ^ (9)) 4 (by omega) (by omega)) (cs_L_36 hg rfl rfl ⟨(Nat.le_of_ble_eq_true rfl), (Nat.le_of_ble_eq_true rfl)⟩) ⟨q_blind0, q_preR _ hK hN hP [] rfl⟩ rfl rfl hl.1 rfl (lv_room (Nat.le_of_ble_eq_true rfl)) dL_act_166 ⟨(show 0 + 0 ≤ 412 by omega), (show 0 + 0 ≤ 4558 by omega)⟩) (fun r_166 h_166 => ?_)
          subst h_166
          obtain ⟨t9, ht99, ht98⟩ : ∃ t9 : Nat, t9 < 4 ∧ t9 = ((y9) / 2 ^ (9)) / 2 % 4 := ⟨_, Nat.mod_lt _ (by decide), rfl⟩
          refine q_topZ (y := ((t9 : Nat) : Int)) (by rw [ht98]) ?_
          refine qb_iast (j := (5 * lN9 T + 4)) hx hb hK hP hD hS 2 0 rfl rfl (by omega) dL_act_169 (fun H locs hP hD hS => ?_)
          have hP : va_P D vwCl [W0, [(xv, aI cy 20 (va))], [(xc, aI cy 45 (qu (qu (qu (qu (qu co (5 * lN9 T) (((l9 : Nat) : Int))) (5 * lN9 T + 1) (r0)) (5 * lN9 T + 2) (((s9 : Nat) : Int))) (5 * lN9 T + 3) (nb)) (5 * lN9 T + 4) (((t9 : Nat) : Int))))], [(xe, aI cy 9 (ed))], [(xd, aI cy 2 (dd))], [(am, aI cy 2 (u.1))], [(aa, aI cy 64 (u.2.1))], [(ab, aI cy 64 (u.2.2.1))], [(an, aI cy 64 (u.2.2.2))]].flatten H := hP
          have hD : va_D A [W0, [(xv, aI cy 20 (va))], [(xc, aI cy 45 (qu (qu (qu (qu (qu co (5 * lN9 T) (((l9 : Nat) : Int))) (5 * lN9 T + 1) (r0)) (5 * lN9 T + 2) (((s9 : Nat) : Int))) (5 * lN9 T + 3) (nb)) (5 * lN9 T + 4) (((t9 : Nat) : Int))))], [(xe, aI cy 9 (ed))], [(xd, aI cy 2 (dd))], [(am, aI cy 2 (u.1))], [(aa, aI cy 64 (u.2.1))], [(ab, aI cy 64 (u.2.2.1))], [(an, aI cy 64 (u.2.2.2))]].flatten := hD
          have hq5 := qu5 co (5 * lN9 T) (l9 : Int) r0 (s9 : Int) nb (t9 : Int)
          obtain ⟨c1, hc1⟩ : ∃ c1 : Nat → Int, c1 = (qu (qu (qu (qu (qu co (5 * lN9 T) (((l9 : Nat) : Int))) (5 * lN9 T + 1) (r0)) (5 * lN9 T + 2) (((s9 : Nat) : Int))) (5 * lN9 T + 3) (nb)) (5 * lN9 T + 4) (((t9 : Nat) : Int))) := ⟨_, rfl⟩
          rw [← hc1] at hq5 hP hD
          have hP : va_P D vwCl [W0, [(xv, aI cy 20 (va))], [(xc, aI cy 45 (c1))], [(xe, aI cy 9 (ed))], [(xd, aI cy 2 (dd))], [(am, aI cy 2 (u.1))], [(aa, aI cy 64 (u.2.1))], [(ab, aI cy 64 (u.2.2.1))], [(an, aI cy 64 (u.2.2.2))]].flatten H := hP
          have hD : va_D A [W0, [(xv, aI cy 20 (va))], [(xc, aI cy 45 (c1))], [(xe, aI cy 9 (ed))], [(xd, aI cy 2 (dd))], [(am, aI cy 2 (u.1))], [(aa, aI cy 64 (u.2.1))], [(ab, aI cy 64 (u.2.2.1))], [(an, aI cy 64 (u.2.2.2))]].flatten := hD
          refine lv_aload hx hb dL_act_170 (lv_at hl 9 rfl) ?_
          refine q_iconst hx hb dL_act_172 ?_
          refine lv_dup2_11 hx hb dL_act_173 rfl rfl ?_
          refine q_iald (j := 0) hx hb hK (fl_blk hP 4 rfl) 0 rfl (by omega) dL_act_174 ?_
          refine q_iconst hx hb dL_act_175 ?_
          refine q_iadd hx hb dL_act_176 ?_
          refine qb_iast (j := 0) hx hb hK hP hD hS 4 0 rfl rfl (by omega) dL_act_177 (fun H locs hP hD hS => ?_)
          have hP : va_P D vwCl [W0, [(xv, aI cy 20 (va))], [(xc, aI cy 45 (c1))], [(xe, aI cy 9 (ed))], [(xd, aI cy 2 (qu dd 0 ((dd 0) + (1))))], [(am, aI cy 2 (u.1))], [(aa, aI cy 64 (u.2.1))], [(ab, aI cy 64 (u.2.2.1))], [(an, aI cy 64 (u.2.2.2))]].flatten H := hP
          have hD : va_D A [W0, [(xv, aI cy 20 (va))], [(xc, aI cy 45 (c1))], [(xe, aI cy 9 (ed))], [(xd, aI cy 2 (qu dd 0 ((dd 0) + (1))))], [(am, aI cy 2 (u.1))], [(aa, aI cy 64 (u.2.1))], [(ab, aI cy 64 (u.2.2.1))], [(an, aI cy 64 (u.2.2.2))]].flatten := hD
          have hd9 : (qu dd 0 ((dd 0) + (1))) 0 = (lN9 T : Int) + 1 ∧ (qu dd 0 ((dd 0) + (1))) 1 = dd 1 := ⟨(by rw [qu_s]; omega), qu_n _ _ (show (1 : Nat) ≠ 0 by decide)⟩
          obtain ⟨d1, hd1⟩ : ∃ d1 : Nat → Int, d1 = (qu dd 0 ((dd 0) + (1))) := ⟨_, rfl⟩
          rw [← hd1] at hd9 hP hD
          have hP : va_P D vwCl [W0, [(xv, aI cy 20 (va))], [(xc, aI cy 45 (c1))], [(xe, aI cy 9 (ed))], [(xd, aI cy 2 (d1))], [(am, aI cy 2 (u.1))], [(aa, aI cy 64 (u.2.1))], [(ab, aI cy 64 (u.2.2.1))], [(an, aI cy 64 (u.2.2.2))]].flatten H := hP
          have hD : va_D A [W0, [(xv, aI cy 20 (va))], [(xc, aI cy 45 (c1))], [(xe, aI cy 9 (ed))], [(xd, aI cy 2 (d1))], [(am, aI cy 2 (u.1))], [(aa, aI cy 64 (u.2.1))], [(ab, aI cy 64 (u.2.2.1))], [(an, aI cy 64 (u.2.2.2))]].flatten := hD
          obtain ⟨r9, hr9⟩ : ∃ r9 : Int, (r0 = 10 ∧ r9 = -1) ∨ (r0 ≠ 10 ∧ r9 = r0) := by
            by_cases e : r0 = 10
            · exact ⟨-1, Or.inl ⟨e, rfl⟩⟩
            · exact ⟨r0, Or.inr ⟨e, rfl⟩⟩
          have hrr : r0 = (oN r9 : Int) := by
            have := oN_or r9 (by omega)
            omega
          obtain ⟨T1, hT1⟩ : ∃ T1 : LSt, T1 = adC T (l9 : Int) r9 (s9 : Int) nb (t9 : Int) := ⟨_, rfl⟩
          have hG1 : gOk T1 := by rw [hT1]; exact adC_ok hG (by omega) (by omega)
          have hL1 : lwR T1 va c1 ed d1 := by rw [hT1]; exact lw_add hL0 hrr hq5 hd9
          have hn1 : lN9 T1 ≤ 9 := by rw [hT1]; show lN9 T + 1 ≤ 9; omega
          have hm1 : lM T1 ≤ 3 := by rw [hT1]; show lM T ≤ 3; exact hm3
          refine lv_aload hx hb dL_act_178 (lv_at hl 6 rfl) ?_
          refine lv_aload hx hb dL_act_180 (lv_at hl 7 rfl) ?_
          refine lv_aload hx hb dL_act_182 (lv_at hl 8 rfl) ?_
          refine lv_aload hx hb dL_act_184 (lv_at hl 9 rfl) ?_
          refine lv_aload hx hb dL_act_186 (lv_at hl 10 rfl) ?_
          refine lv_aload hx hb dL_act_188 (lv_at hl 11 rfl) ?_
          refine lv_aload hx hb dL_act_190 (lv_at hl 12 rfl) ?_
          refine lv_aload hx hb dL_act_192 (lv_at hl 13 rfl) ?_
          refine q_backKv (mc := 306) (ms := 3379) [1, 2, 3, 4, 5, 6, 7, 8] [0] (br := [W0]) hP hD hS hA (va_runS (As := [.ref (xv), .ref (xc), .ref (xe), .ref (xd), .ref (am), .ref (aa), .ref (ab), .ref (an)]) (rest := []) ⟨hx, hb, hml, hown, hg⟩ (c_L_settle l D cy xv xc xe xd am aa ab an va c1 ed d1 (u.1, u.2.1, u.2.2.1, u.2.2.2) (lC T1) (lN9 T1) (lE T1) (lM T1) hG1.2.2.1.2 hG1.2.2.2.1.2 hn1 (by omega) hL1.2.2.1 hL1.2.2.2.1 hL1.2.2.2.2 9 ⟨by omega, by omega⟩ (lV T1) (lT T1) hL1.1 hL1.2.1 hG1.1 hG1.2.1 _) (cs_L_65 hg rfl rfl ⟨(Nat.le_of_ble_eq_true rfl), (Nat.le_of_ble_eq_true rfl)⟩) ⟨q_blind, q_preM _ hK hN hP hD [1, 2, 3, 4, 5, 6, 7, 8] (by decide) rfl⟩ rfl rfl hl.1 rfl (lv_room (Nat.le_of_ble_eq_true rfl)) dL_act_194 ⟨(show 0 + 306 ≤ 412 by omega), (show 0 + 3379 ≤ 4558 by omega)⟩) rfl rfl (by decide) (fun u_194 H locs h_194 hP hD hS => ?_)
          have hP : va_P D vwCl [W0, [(xv, aI cy 20 (u_194.1))], [(xc, aI cy 45 (c1))], [(xe, aI cy 9 (ed))], [(xd, aI cy 2 (d1))], [(am, aI cy 2 (u_194.2.1))], [(aa, aI cy 64 (u_194.2.2.1))], [(ab, aI cy 64 (u_194.2.2.2.1))], [(an, aI cy 64 (u_194.2.2.2.2))]].flatten H := hP
          have hD : va_D A [W0, [(xv, aI cy 20 (u_194.1))], [(xc, aI cy 45 (c1))], [(xe, aI cy 9 (ed))], [(xd, aI cy 2 (d1))], [(am, aI cy 2 (u_194.2.1))], [(aa, aI cy 64 (u_194.2.2.1))], [(ab, aI cy 64 (u_194.2.2.2.1))], [(an, aI cy 64 (u_194.2.2.2.2))]].flatten := hD
          have hL2 : lwR (seT T1) u_194.1 c1 ed d1 := lw_set hL1 h_194
          refine lv_aload_n hx hb dL_act_197 rfl (lv_at hl 2 rfl) ?_
          refine lv_aload hx hb dL_act_198 (lv_at hl 7 rfl) ?_
          refine lv_iload hx hb dL_act_200 (lv_at hl 0 rfl) ?_
          refine q_iald (j := 5 * lN9 T) hx hb hK (fl_blk hP 2 rfl) 0 rfl (by omega) dL_act_202 ?_
          refine q_topZ (y := ((l9 : Nat) : Int)) hq5.1 ?_
          refine lv_aload hx hb dL_act_203 (lv_at hl 7 rfl) ?_
          have K_226 : ∀ (z4 : Int), (z4 = r9) → W p l e (qrc 9 412 4558) s m args below meth c H locs (306) (3379) Q (F0 m 226 ls [.int (qI (z4)), .int (qI (((l9 : Nat) : Int))), .ref (x)]) := by
            intro z4 hz4
            refine q_topZ (y := r9) hz4 ?_
            refine lv_aload hx hb dL_act_226 (lv_at hl 7 rfl) ?_
            refine lv_iload hx hb dL_act_228 (lv_at hl 0 rfl) ?_
            refine q_iconst hx hb dL_act_230 ?_
            refine q_iadd hx hb dL_act_231 ?_
            refine q_iald (j := (5 * lN9 T + 2)) hx hb hK (fl_blk hP 2 rfl) 0 rfl (by omega) dL_act_232 ?_
            refine q_topZ (y := ((s9 : Nat) : Int)) hq5.2.2.1 ?_
            refine lv_iload hx hb dL_act_233 (lv_at hl 1 rfl) ?_
            refine lv_aload hx hb dL_act_235 (lv_at hl 7 rfl) ?_
            refine lv_iload hx hb dL_act_237 (lv_at hl 0 rfl) ?_
            refine q_iconst hx hb dL_act_239 ?_
            refine q_iadd hx hb dL_act_240 ?_
            refine q_iald (j := (5 * lN9 T + 4)) hx hb hK (fl_blk hP 2 rfl) 0 rfl (by omega) dL_act_241 ?_
            refine q_topZ (y := ((t9 : Nat) : Int)) hq5.2.2.2.2.1 ?_
            refine q_backKi (mc := 0) (ms := 0) [0] [1, 2, 3, 4, 5, 6, 7, 8] (br := [[(xv, aI cy 20 (u_194.1))], [(xc, aI cy 45 (c1))], [(xe, aI cy 9 (ed))], [(xd, aI cy 2 (d1))], [(am, aI cy 2 (u_194.2.1))], [(aa, aI cy 64 (u_194.2.2.1))], [(ab, aI cy 64 (u_194.2.2.2.1))], [(an, aI cy 64 (u_194.2.2.2.2))]]) hP hD hS hA (va_runV (As := [.int (qI (((l9 : Nat) : Int))), .int (qI (r9)), .int (qI (((s9 : Nat) : Int))), .int (qI (nb)), .int (qI (((t9 : Nat) : Int)))]) (rest := []) ⟨hx, hb, hml, hown, hg⟩ (c_X7_add l D cy x la lv9 ls9 fa xh xs la2 lv92 ls92 fb fw bu ta rc re gb oc oe rs rc2 re2 gb2 oc2 oe2 rs2 rr ad T hz HZ len tx _ hG hW _ _ _ _ _ (by omega) (by omega) (by omega) (by omega) (by omega) (by omega) _) (cv_L_79 hg rfl rfl ⟨(Nat.le_of_ble_eq_true rfl), (Nat.le_of_ble_eq_true rfl)⟩) ⟨q_blind, va_recv hK (fl_blk hP 0 rfl) (ci := 7) (q0 := 0) rfl hfsW, q_preM _ hK hN hP hD [0] (by decide) rfl⟩ rfl rfl hl.1 rfl (lv_room (Nat.le_of_ble_eq_true rfl)) dL_act_242 ⟨(show 306 + 0 ≤ 412 by omega), (show 3379 + 0 ≤ 4558 by omega)⟩) rfl rfl (by decide) (fun r_242 u_242 H locs h_242 hP hD hS => ?_)
            have hP : va_P D vwCl [[(xv, aI cy 20 (u_194.1))], [(xc, aI cy 45 (c1))], [(xe, aI cy 9 (ed))], [(xd, aI cy 2 (d1))], [(am, aI cy 2 (u_194.2.1))], [(aa, aI cy 64 (u_194.2.2.1))], [(ab, aI cy 64 (u_194.2.2.2.1))], [(an, aI cy 64 (u_194.2.2.2.2))], u_242].flatten H := hP
            have hD : va_D A [[(xv, aI cy 20 (u_194.1))], [(xc, aI cy 45 (c1))], [(xe, aI cy 9 (ed))], [(xd, aI cy 2 (d1))], [(am, aI cy 2 (u_194.2.1))], [(aa, aI cy 64 (u_194.2.2.1))], [(ab, aI cy 64 (u_194.2.2.2.1))], [(an, aI cy 64 (u_194.2.2.2.2))], u_242].flatten := hD
            obtain ⟨rfl, h_242⟩ := h_242
            rw [← hT1] at h_242
            refine lv_aload hx hb dL_act_245 (lv_at hl 9 rfl) ?_
            refine q_iconst hx hb dL_act_247 ?_
            refine q_iald (j := 0) hx hb hK (fl_blk hP 3 rfl) 0 rfl (by omega) dL_act_248 ?_
            refine q_iconst hx hb dL_act_249 ?_
            refine q_isub hx hb dL_act_250 ?_
            refine q_ne0 (tgt := 258) hx hb dL_act_251 (by decide) (by omega) ?_
            refine q_iconst hx hb dL_act_254 ?_
            refine lv_goto (tgt := 259) hx hb dL_act_255 (by decide) ?_
            have hP := fl_sub (bs' := [u_242, [(xv, aI cy 20 (u_194.1))], [(xc, aI cy 45 (c1))], [(xe, aI cy 9 (ed))], [(xd, aI cy 2 (d1))], [(am, aI cy 2 (u_194.2.1))], [(aa, aI cy 64 (u_194.2.2.1))], [(ab, aI cy 64 (u_194.2.2.2.1))], [(an, aI cy 64 (u_194.2.2.2.2))]]) hP [8, 0, 1, 2, 3, 4, 5, 6, 7] rfl
            have hD := fl_subD (bs' := [u_242, [(xv, aI cy 20 (u_194.1))], [(xc, aI cy 45 (c1))], [(xe, aI cy 9 (ed))], [(xd, aI cy 2 (d1))], [(am, aI cy 2 (u_194.2.1))], [(aa, aI cy 64 (u_194.2.2.1))], [(ab, aI cy 64 (u_194.2.2.2.1))], [(an, aI cy 64 (u_194.2.2.2.2))]]) hD [8, 0, 1, 2, 3, 4, 5, 6, 7] (by decide) rfl
            refine W.widen (k := 412) (n := 4558) (by omega) (by omega) ?_
            exact hQ _ _ _ _ true (u_242, u_194.1, c1, ed, d1, (u_194.2.1, u_194.2.2.1, u_194.2.2.2.1, u_194.2.2.2.2)) ⟨rfl, seT T1, min (hz + 1) 8, pushH T HZ, h_242, ⟨seT_gOk hG1, hn1, hm1, hL2⟩, fun _ => by omega, fun _ _ => by omega⟩ hP hD hS dL_act_259
          refine lv_iload hx hb dL_act_205 (lv_at hl 0 rfl) ?_
          refine q_iconst hx hb dL_act_207 ?_
          refine q_iadd hx hb dL_act_208 ?_
          refine q_iald (j := (5 * lN9 T + 1)) hx hb hK (fl_blk hP 2 rfl) 0 rfl (by omega) dL_act_209 ?_
          refine q_topZ (y := r0) hq5.2.1 ?_
          refine q_bipush hx hb dL_act_210 (by decide) ?_
          refine q_icmp_ne (tgt := 219) hx hb dL_act_212 (by decide) (by omega) (fun c_212 => ?_) (fun c_212 => ?_)
          · skip
            refine lv_aload hx hb dL_act_219 (lv_at hl 7 rfl) ?_
            refine lv_iload hx hb dL_act_221 (lv_at hl 0 rfl) ?_
            refine q_iconst hx hb dL_act_223 ?_
            refine q_iadd hx hb dL_act_224 ?_
            refine q_iald (j := (5 * lN9 T + 1)) hx hb hK (fl_blk hP 2 rfl) 0 rfl (by omega) dL_act_225 ?_
            exact K_226 (c1 (5 * lN9 T + 1)) (by omega)
          · skip
            refine q_iconst hx hb dL_act_215 ?_
            refine lv_goto (tgt := 226) hx hb dL_act_216 (by decide) ?_
            exact K_226 (-1) (by omega)
        refine lv_iload_n hx hb dL_act_98 rfl (lv_at hl 4 rfl) ?_
        refine q_iconst hx hb dL_act_99 ?_
        refine q_ishr (F := x9) (k := 3) hx hb (by omega) dL_act_100 ?_
        refine q_iconst hx hb dL_act_101 ?_
        refine q_readi (va_runS (As := [.int (qI ((((x9) / 2 ^ (3) : Nat) : Int))), .int (qI (3))]) (rest := [.int (qI ((((5 * lN9 T : Nat) : Int)) + (1))), .ref (xc)]) ⟨hx, hb, hml, hown, hg⟩ (c_L_at l D cy _ _ ((x9) / 2 ^ (3)) 3 (by omega) (by omega)) (cs_L_36 hg rfl rfl ⟨(Nat.le_of_ble_eq_true rfl), (Nat.le_of_ble_eq_true rfl)⟩) ⟨q_blind0, q_preR _ hK hN hP [] rfl⟩ rfl rfl hl.1 rfl (lv_room (Nat.le_of_ble_eq_true rfl)) dL_act_102 ⟨(show 0 + 0 ≤ 412 by omega), (show 0 + 0 ≤ 4558 by omega)⟩) (fun r_102 h_102 => ?_)
        subst h_102
        refine q_if_ne (tgt := 113) hx hb dL_act_105 (by decide) (by omega) (fun c_105 => ?_) (fun c_105 => ?_)
        · skip
          refine lv_aload hx hb dL_act_113 (lv_at hl 7 rfl) ?_
          refine lv_iload hx hb dL_act_115 (lv_at hl 0 rfl) ?_
          refine q_iald (j := 5 * lN9 T) hx hb hK (fl_blk hP 2 rfl) 0 rfl (by omega) dL_act_117 ?_
          refine q_topZ (y := ((l9 : Nat) : Int)) (qu_s _ _ _) ?_
          refine q_iconst hx hb dL_act_118 ?_
          refine q_iadd hx hb dL_act_119 ?_
          refine lv_iload_n hx hb dL_act_120 rfl (lv_at hl 4 rfl) ?_
          refine q_iconst hx hb dL_act_121 ?_
          refine q_ishr (F := x9) (k := 4) hx hb (by omega) dL_act_122 ?_
          refine q_iconst hx hb dL_act_123 ?_
          refine q_readi (va_runS (As := [.int (qI ((((x9) / 2 ^ (4) : Nat) : Int))), .int (qI (4))]) (rest := [.int (qI ((((l9 : Nat) : Int)) + (1))), .int (qI ((((5 * lN9 T : Nat) : Int)) + (1))), .ref (xc)]) ⟨hx, hb, hml, hown, hg⟩ (c_L_at l D cy _ _ ((x9) / 2 ^ (4)) 4 (by omega) (by omega)) (cs_L_36 hg rfl rfl ⟨(Nat.le_of_ble_eq_true rfl), (Nat.le_of_ble_eq_true rfl)⟩) ⟨q_blind0, q_preR _ hK hN hP [] rfl⟩ rfl rfl hl.1 rfl (lv_room (Nat.le_of_ble_eq_true rfl)) dL_act_124 ⟨(show 0 + 0 ≤ 412 by omega), (show 0 + 0 ≤ 4558 by omega)⟩) (fun r_124 h_124 => ?_)
          subst h_124
          obtain ⟨z5, hz59, hz58⟩ : ∃ z5 : Nat, z5 < 4 ∧ z5 = ((x9) / 2 ^ (4)) / 2 % 4 := ⟨_, Nat.mod_lt _ (by decide), rfl⟩
          refine q_topZ (y := ((z5 : Nat) : Int)) (by rw [hz58]) ?_
          refine q_iadd hx hb dL_act_127 ?_
          refine q_iconst hx hb dL_act_128 ?_
          refine q_irem (F := ((l9 + 1) + z5)) (k := 5) hx hb (by omega) dL_act_129 ?_
          exact K_130 ((((((l9 + 1) + z5)) % (5) : Nat) : Int)) (by omega)
        · skip
          refine q_bipush hx hb dL_act_108 (by decide) ?_
          refine lv_goto (tgt := 130) hx hb dL_act_110 (by decide) ?_
          exact K_130 (10) (by omega)
      · skip
        refine q_iconst hx hb dL_act_72 ?_
        refine W.widen (k := 412) (n := 4558) (by omega) (by omega) ?_
        exact hQ _ _ _ _ true (W0, va, co, ed, dd, (u.1, u.2.1, u.2.2.1, u.2.2.2)) ⟨rfl, T, hz, HZ, hW, ⟨hG, hn, hm3, hL0⟩, fun h => h, fun _ _ => by omega⟩ hP hD hS dL_act_73
    have K_260 : (5 ≤ a9) → (a9 < 8 → 0 < lN9 T) → W p l e (qrc 9 412 4558) s m args below meth c H locs (0) (0) Q (F0 m 260 ls []) := by
      intro ha5 ha8
      refine lv_iload_n hx hb dL_act_260 rfl (lv_at hl 2 rfl) ?_
      refine q_bipush hx hb dL_act_261 (by decide) ?_
      refine q_icmp_ge (tgt := 517) hx hb dL_act_263 (by decide) (by omega) (fun c_263 => ?_) (fun c_263 => ?_)
      · skip
        refine lv_iload_n hx hb dL_act_517 rfl (lv_at hl 2 rfl) ?_
        refine q_bipush hx hb dL_act_518 (by decide) ?_
        refine q_icmp_ge (tgt := 672) hx hb dL_act_520 (by decide) (by omega) (fun c_520 => ?_) (fun c_520 => ?_)
        · skip
          refine lv_iload_n hx hb dL_act_672 rfl (lv_at hl 2 rfl) ?_
          refine q_bipush hx hb dL_act_673 (by decide) ?_
          refine q_icmp_ne (tgt := 704) hx hb dL_act_675 (by decide) (by omega) (fun c_675 => ?_) (fun c_675 => ?_)
          · skip
            refine lv_iload_n hx hb dL_act_704 rfl (lv_at hl 2 rfl) ?_
            refine q_bipush hx hb dL_act_705 (by decide) ?_
            refine q_icmp_ne (tgt := 786) hx hb dL_act_707 (by decide) (by omega) (fun c_707 => ?_) (fun c_707 => ?_)
            · skip
              refine lv_iload_n hx hb dL_act_786 rfl (lv_at hl 4 rfl) ?_
              refine q_sipush hx hb dL_act_787 (by decide) ?_
              refine q_readi (va_runS (As := [.int (qI (p3)), .int (qI (201))]) (rest := []) ⟨hx, hb, hml, hown, hg⟩ (c_L_at l D cy _ _ y9 201 (by omega) (by omega)) (cs_L_36 hg rfl rfl ⟨(Nat.le_of_ble_eq_true rfl), (Nat.le_of_ble_eq_true rfl)⟩) ⟨q_blind0, q_preR _ hK hN hP [] rfl⟩ rfl rfl hl.1 rfl (lv_room (Nat.le_of_ble_eq_true rfl)) dL_act_790 ⟨(show 0 + 0 ≤ 412 by omega), (show 0 + 0 ≤ 4558 by omega)⟩) (fun r_790 h_790 => ?_)
              subst h_790
              refine q_bipush hx hb dL_act_793 (by decide) ?_
              refine q_isub hx hb dL_act_795 ?_
              obtain ⟨w9, hw99, hw98⟩ : ∃ w9 : Int, (-100 ≤ w9 ∧ w9 ≤ 100) ∧ w9 = (((y9 / 2 % 201 : Nat) : Int)) - (100) := ⟨_, by omega, rfl⟩
              refine q_topZ (y := w9) (by rw [hw98]) ?_
              refine lv_istore (lv' := [(13, .int (qI (w9))), (12, .int (qI (nb))), (0, .ref (x)), (1, .int (qI (p1))), (2, .int (qI (p2))), (3, .int (qI (p3))), (4, .ref (xv)), (5, .ref (xc)), (6, .ref (xe)), (7, .ref (xd)), (8, .ref (am)), (9, .ref (aa)), (10, .ref (ab)), (11, .ref (an))]) hx hb dL_act_796 hl (by decide) rfl (fun ls hl => ?_)
              refine q_iconst hx hb dL_act_798 ?_
              refine lv_istore (lv' := [(14, .int (qI (0))), (13, .int (qI (w9))), (12, .int (qI (nb))), (0, .ref (x)), (1, .int (qI (p1))), (2, .int (qI (p2))), (3, .int (qI (p3))), (4, .ref (xv)), (5, .ref (xc)), (6, .ref (xe)), (7, .ref (xd)), (8, .ref (am)), (9, .ref (aa)), (10, .ref (ab)), (11, .ref (an))]) hx hb dL_act_799 hl (by decide) rfl (fun ls hl => ?_)
              refine q_iconst hx hb dL_act_801 ?_
              refine lv_istore (lv' := [(15, .int (qI (0))), (14, .int (qI (0))), (13, .int (qI (w9))), (12, .int (qI (nb))), (0, .ref (x)), (1, .int (qI (p1))), (2, .int (qI (p2))), (3, .int (qI (p3))), (4, .ref (xv)), (5, .ref (xc)), (6, .ref (xe)), (7, .ref (xd)), (8, .ref (am)), (9, .ref (aa)), (10, .ref (ab)), (11, .ref (an))]) hx hb dL_act_802 hl (by decide) rfl (fun ls hl => ?_)
              have L_804 : ∀ (n_804 k7 : Nat) (w3 : Nat → Int), k7 ≤ 10 → 10 + 1 ≤ k7 + n_804 → ((∀ i, i < k7 → w3 i = w9) ∧ ∀ i, 10 ≤ i → w3 i = va i) → ∀ (H : Heap) (locs : List Loc) (ls : Array Slot), va_P D vwCl [W0, [(xv, aI cy 20 (w3))], [(xc, aI cy 45 (co))], [(xe, aI cy 9 (ed))], [(xd, aI cy 2 (dd))], [(am, aI cy 2 (u.1))], [(aa, aI cy 64 (u.2.1))], [(ab, aI cy 64 (u.2.2.1))], [(an, aI cy 64 (u.2.2.2))]].flatten H → va_D A [W0, [(xv, aI cy 20 (w3))], [(xc, aI cy 45 (co))], [(xe, aI cy 9 (ed))], [(xd, aI cy 2 (dd))], [(am, aI cy 2 (u.1))], [(aa, aI cy 64 (u.2.1))], [(ab, aI cy 64 (u.2.2.1))], [(an, aI cy 64 (u.2.2.2))]].flatten → va_S A s.heap H locs → lv_has ls 18 [(0, .ref (x)), (1, .int (qI (p1))), (2, .int (qI (p2))), (3, .int (qI (p3))), (4, .ref (xv)), (5, .ref (xc)), (6, .ref (xe)), (7, .ref (xd)), (8, .ref (am)), (9, .ref (aa)), (10, .ref (ab)), (11, .ref (an)), (12, .int (qI (nb))), (13, .int (qI (w9))), (14, .int (qI (0))), (15, .int (qI (((k7 : Nat) : Int))))] → W p l e (qrc 9 412 4558) s m args below meth c H locs (0) (0) Q (F0 m 804 ls []) := by
                intro n_804
                induction n_804 with
                | zero => intro k7 _ h1 h2; exact absurd h2 (by omega)
                | succ n_804 ih_804 =>
                  intro k7 w3 hk_804 hn_804 hw3 H locs ls hP hD hS hl
                  refine lv_iload hx hb dL_act_804 (lv_at hl 15 rfl) ?_
                  refine q_bipush hx hb dL_act_806 (by decide) ?_
                  refine q_icmp_ge (tgt := 824) hx hb dL_act_808 (by decide) (by omega) (fun c_808 => ?_) (fun c_808 => ?_)
                  · skip
                    obtain ⟨T1, hT1⟩ : ∃ T1 : LSt, T1 = frV T w9 := ⟨_, rfl⟩
                    have hG1 : gOk T1 := by rw [hT1]; exact frV_ok hG (by omega)
                    have hL1 : lwR T1 w3 co ed dd := by rw [hT1]; exact lw_frv hL0 (fun i hi => hw3.1 i (by omega)) hw3.2
                    have hn1 : lN9 T1 ≤ 9 := by rw [hT1]; show lN9 T ≤ 9; exact hn
                    have hm1 : lM T1 ≤ 3 := by rw [hT1]; show lM T ≤ 3; exact hm3
                    refine lv_aload hx hb dL_act_824 (lv_at hl 4 rfl) ?_
                    refine lv_aload hx hb dL_act_826 (lv_at hl 5 rfl) ?_
                    refine lv_aload hx hb dL_act_828 (lv_at hl 6 rfl) ?_
                    refine lv_aload hx hb dL_act_830 (lv_at hl 7 rfl) ?_
                    refine lv_aload hx hb dL_act_832 (lv_at hl 8 rfl) ?_
                    refine lv_aload hx hb dL_act_834 (lv_at hl 9 rfl) ?_
                    refine lv_aload hx hb dL_act_836 (lv_at hl 10 rfl) ?_
                    refine lv_aload hx hb dL_act_838 (lv_at hl 11 rfl) ?_
                    refine q_backKv (mc := 306) (ms := 3379) [1, 2, 3, 4, 5, 6, 7, 8] [0] (br := [W0]) hP hD hS hA (va_runS (As := [.ref (xv), .ref (xc), .ref (xe), .ref (xd), .ref (am), .ref (aa), .ref (ab), .ref (an)]) (rest := []) ⟨hx, hb, hml, hown, hg⟩ (c_L_settle l D cy xv xc xe xd am aa ab an w3 co ed dd (u.1, u.2.1, u.2.2.1, u.2.2.2) (lC T1) (lN9 T1) (lE T1) (lM T1) hG1.2.2.1.2 hG1.2.2.2.1.2 hn1 (by omega) hL1.2.2.1 hL1.2.2.2.1 hL1.2.2.2.2 9 ⟨by omega, by omega⟩ (lV T1) (lT T1) hL1.1 hL1.2.1 hG1.1 hG1.2.1 _) (cs_L_65 hg rfl rfl ⟨(Nat.le_of_ble_eq_true rfl), (Nat.le_of_ble_eq_true rfl)⟩) ⟨q_blind, q_preM _ hK hN hP hD [1, 2, 3, 4, 5, 6, 7, 8] (by decide) rfl⟩ rfl rfl hl.1 rfl (lv_room (Nat.le_of_ble_eq_true rfl)) dL_act_840 ⟨(show 0 + 306 ≤ 412 by omega), (show 0 + 3379 ≤ 4558 by omega)⟩) rfl rfl (by decide) (fun u_840 H locs h_840 hP hD hS => ?_)
                    have hP : va_P D vwCl [W0, [(xv, aI cy 20 (u_840.1))], [(xc, aI cy 45 (co))], [(xe, aI cy 9 (ed))], [(xd, aI cy 2 (dd))], [(am, aI cy 2 (u_840.2.1))], [(aa, aI cy 64 (u_840.2.2.1))], [(ab, aI cy 64 (u_840.2.2.2.1))], [(an, aI cy 64 (u_840.2.2.2.2))]].flatten H := hP
                    have hD : va_D A [W0, [(xv, aI cy 20 (u_840.1))], [(xc, aI cy 45 (co))], [(xe, aI cy 9 (ed))], [(xd, aI cy 2 (dd))], [(am, aI cy 2 (u_840.2.1))], [(aa, aI cy 64 (u_840.2.2.1))], [(ab, aI cy 64 (u_840.2.2.2.1))], [(an, aI cy 64 (u_840.2.2.2.2))]].flatten := hD
                    have hL2 : lwR (seT T1) u_840.1 co ed dd := lw_set hL1 h_840
                    refine q_iconst hx hb dL_act_843 ?_
                    refine lv_istore (lv' := [(15, .int (qI (0))), (0, .ref (x)), (1, .int (qI (p1))), (2, .int (qI (p2))), (3, .int (qI (p3))), (4, .ref (xv)), (5, .ref (xc)), (6, .ref (xe)), (7, .ref (xd)), (8, .ref (am)), (9, .ref (aa)), (10, .ref (ab)), (11, .ref (an)), (12, .int (qI (nb))), (13, .int (qI (w9))), (14, .int (qI (0)))]) hx hb dL_act_844 hl (by decide) rfl (fun ls hl => ?_)
                    have L_846 : ∀ (n_846 k8 : Nat), k8 ≤ 10 → 10 + 1 ≤ k8 + n_846 → ∀ (H : Heap) (locs : List Loc) (ls : Array Slot), va_P D vwCl [W0, [(xv, aI cy 20 (u_840.1))], [(xc, aI cy 45 (co))], [(xe, aI cy 9 (ed))], [(xd, aI cy 2 (dd))], [(am, aI cy 2 (u_840.2.1))], [(aa, aI cy 64 (u_840.2.2.1))], [(ab, aI cy 64 (u_840.2.2.2.1))], [(an, aI cy 64 (u_840.2.2.2.2))]].flatten H → va_D A [W0, [(xv, aI cy 20 (u_840.1))], [(xc, aI cy 45 (co))], [(xe, aI cy 9 (ed))], [(xd, aI cy 2 (dd))], [(am, aI cy 2 (u_840.2.1))], [(aa, aI cy 64 (u_840.2.2.1))], [(ab, aI cy 64 (u_840.2.2.2.1))], [(an, aI cy 64 (u_840.2.2.2.2))]].flatten → va_S A s.heap H locs → lv_has ls 18 [(0, .ref (x)), (1, .int (qI (p1))), (2, .int (qI (p2))), (3, .int (qI (p3))), (4, .ref (xv)), (5, .ref (xc)), (6, .ref (xe)), (7, .ref (xd)), (8, .ref (am)), (9, .ref (aa)), (10, .ref (ab)), (11, .ref (an)), (12, .int (qI (nb))), (13, .int (qI (w9))), (14, .int (qI (((cnt (sfB T1 w9) k8 : Nat) : Int)))), (15, .int (qI (((k8 : Nat) : Int))))] → W p l e (qrc 9 412 4558) s m args below meth c H locs (306) (3379) Q (F0 m 846 ls []) := by
                      intro n_846
                      induction n_846 with
                      | zero => intro k8 h1 h2; exact absurd h2 (by omega)
                      | succ n_846 ih_846 =>
                        intro k8 hk_846 hn_846 H locs ls hP hD hS hl
                        refine lv_iload hx hb dL_act_846 (lv_at hl 15 rfl) ?_
                        refine q_bipush hx hb dL_act_848 (by decide) ?_
                        refine q_icmp_ge (tgt := 879) hx hb dL_act_850 (by decide) (by omega) (fun c_850 => ?_) (fun c_850 => ?_)
                        · skip
                          refine lv_aload_n hx hb dL_act_879 rfl (lv_at hl 0 rfl) ?_
                          refine lv_iload hx hb dL_act_880 (lv_at hl 13 rfl) ?_
                          refine q_backKi (mc := 0) (ms := 0) [0] [1, 2, 3, 4, 5, 6, 7, 8] (br := [[(xv, aI cy 20 (u_840.1))], [(xc, aI cy 45 (co))], [(xe, aI cy 9 (ed))], [(xd, aI cy 2 (dd))], [(am, aI cy 2 (u_840.2.1))], [(aa, aI cy 64 (u_840.2.2.1))], [(ab, aI cy 64 (u_840.2.2.2.1))], [(an, aI cy 64 (u_840.2.2.2.2))]]) hP hD hS hA (va_runV (As := [.int (qI (w9))]) (rest := []) ⟨hx, hb, hml, hown, hg⟩ (c_X7_settleFrom l D cy x la lv9 ls9 fa xh xs la2 lv92 ls92 fb fw bu ta rc re gb oc oe rs rc2 re2 gb2 oc2 oe2 rs2 rr ad T hz HZ len tx _ hG hW _ (by omega) _) (cv_L_103 hg rfl rfl ⟨(Nat.le_of_ble_eq_true rfl), (Nat.le_of_ble_eq_true rfl)⟩) ⟨q_blind, va_recv hK (fl_blk hP 0 rfl) (ci := 7) (q0 := 0) rfl hfsW, q_preM _ hK hN hP hD [0] (by decide) rfl⟩ rfl rfl hl.1 rfl (lv_room (Nat.le_of_ble_eq_true rfl)) dL_act_882 ⟨(show 306 + 0 ≤ 412 by omega), (show 3379 + 0 ≤ 4558 by omega)⟩) rfl rfl (by decide) (fun r_882 u_882 H locs h_882 hP hD hS => ?_)
                          have hP : va_P D vwCl [[(xv, aI cy 20 (u_840.1))], [(xc, aI cy 45 (co))], [(xe, aI cy 9 (ed))], [(xd, aI cy 2 (dd))], [(am, aI cy 2 (u_840.2.1))], [(aa, aI cy 64 (u_840.2.2.1))], [(ab, aI cy 64 (u_840.2.2.2.1))], [(an, aI cy 64 (u_840.2.2.2.2))], u_882].flatten H := hP
                          have hD : va_D A [[(xv, aI cy 20 (u_840.1))], [(xc, aI cy 45 (co))], [(xe, aI cy 9 (ed))], [(xd, aI cy 2 (dd))], [(am, aI cy 2 (u_840.2.1))], [(aa, aI cy 64 (u_840.2.2.1))], [(ab, aI cy 64 (u_840.2.2.2.1))], [(an, aI cy 64 (u_840.2.2.2.2))], u_882].flatten := hD
                          obtain ⟨rfl, h_882⟩ := h_882
                          rw [← hT1] at h_882
                          refine lv_iload hx hb dL_act_885 (lv_at hl 14 rfl) ?_
                          refine q_ne0 (tgt := 894) hx hb dL_act_887 (by decide) (by rw [hT1, show k8 = 10 by omega]; first | done | rfl) ?_
                          refine q_iconst hx hb dL_act_890 ?_
                          refine lv_goto (tgt := 895) hx hb dL_act_891 (by decide) ?_
                          have hP := fl_sub (bs' := [u_882, [(xv, aI cy 20 (u_840.1))], [(xc, aI cy 45 (co))], [(xe, aI cy 9 (ed))], [(xd, aI cy 2 (dd))], [(am, aI cy 2 (u_840.2.1))], [(aa, aI cy 64 (u_840.2.2.1))], [(ab, aI cy 64 (u_840.2.2.2.1))], [(an, aI cy 64 (u_840.2.2.2.2))]]) hP [8, 0, 1, 2, 3, 4, 5, 6, 7] rfl
                          have hD := fl_subD (bs' := [u_882, [(xv, aI cy 20 (u_840.1))], [(xc, aI cy 45 (co))], [(xe, aI cy 9 (ed))], [(xd, aI cy 2 (dd))], [(am, aI cy 2 (u_840.2.1))], [(aa, aI cy 64 (u_840.2.2.1))], [(ab, aI cy 64 (u_840.2.2.2.1))], [(an, aI cy 64 (u_840.2.2.2.2))]]) hD [8, 0, 1, 2, 3, 4, 5, 6, 7] (by decide) rfl
                          refine W.widen (k := 412) (n := 4558) (by omega) (by omega) ?_
                          exact hQ _ _ _ _ true (u_882, u_840.1, co, ed, dd, (u_840.2.1, u_840.2.2.1, u_840.2.2.2.1, u_840.2.2.2.2)) ⟨rfl, seT T1, min (hz + 1) 8, pushH T HZ, h_882, ⟨seT_gOk hG1, hn1, hm1, hL2⟩, fun _ => by omega, fun _ _ => by omega⟩ hP hD hS dL_act_895
                        · skip
                          refine lv_iload hx hb dL_act_853 (lv_at hl 14 rfl) ?_
                          have hz0 := hL2.1 k8 (by omega)
                          have hz1 := (seT_gOk hG1).1 k8 (by omega)
                          have K_870 : ∀ (z9 : Int), ((sfB T1 w9 k8 = true ∧ z9 = 1) ∨ (sfB T1 w9 k8 = false ∧ z9 = 0)) → W p l e (qrc 9 412 4558) s m args below meth c H locs (306) (3379) Q (F0 m 870 ls [.int (qI (z9)), .int (qI (((cnt (sfB T1 w9) k8 : Nat) : Int)))]) := by
                            intro z9 hz9
                            refine q_iadd hx hb dL_act_870 ?_
                            refine q_topZ (y := ((cnt (sfB T1 w9) (k8 + 1) : Nat) : Int)) (cnt_s hz9) ?_
                            refine lv_istore (lv' := [(14, .int (qI (((cnt (sfB T1 w9) (k8 + 1) : Nat) : Int)))), (0, .ref (x)), (1, .int (qI (p1))), (2, .int (qI (p2))), (3, .int (qI (p3))), (4, .ref (xv)), (5, .ref (xc)), (6, .ref (xe)), (7, .ref (xd)), (8, .ref (am)), (9, .ref (aa)), (10, .ref (ab)), (11, .ref (an)), (12, .int (qI (nb))), (13, .int (qI (w9))), (15, .int (qI (((k8 : Nat) : Int))))]) hx hb dL_act_871 hl (by decide) rfl (fun ls hl => ?_)
                            refine q_iinc (k := 15) (lv' := [(15, .int (qI ((((k8 : Nat) : Int)) + (1)))), (14, .int (qI (((cnt (sfB T1 w9) (k8 + 1) : Nat) : Int)))), (0, .ref (x)), (1, .int (qI (p1))), (2, .int (qI (p2))), (3, .int (qI (p3))), (4, .ref (xv)), (5, .ref (xc)), (6, .ref (xe)), (7, .ref (xd)), (8, .ref (am)), (9, .ref (aa)), (10, .ref (ab)), (11, .ref (an)), (12, .int (qI (nb))), (13, .int (qI (w9)))]) hx hb dL_act_873 hl rfl (by decide) rfl (fun ls hl => ?_)
                            refine lv_goto (tgt := 846) hx hb dL_act_876 (by decide) ?_
                            exact ih_846 (k8 + 1)  (by omega) (by omega)  _ _ _ hP hD hS (lv_sub hl [2, 3, 4, 5, 6, 7, 8, 9, 10, 11, 12, 13, 14, 15, 1, 0] rfl)
                          have hz0 := hL2.1 k8 (by omega)
                          have hz1 := (seT_gOk hG1).1 k8 (by omega)
                          refine lv_aload hx hb dL_act_855 (lv_at hl 4 rfl) ?_
                          refine lv_iload hx hb dL_act_857 (lv_at hl 15 rfl) ?_
                          refine q_iald (j := k8) hx hb hK (fl_blk hP 1 rfl) 0 rfl (by omega) dL_act_859 ?_
                          refine lv_iload hx hb dL_act_860 (lv_at hl 13 rfl) ?_
                          refine q_icmp_eq (tgt := 869) hx hb dL_act_862 (by decide) (by omega) (fun c_862 => ?_) (fun c_862 => ?_)
                          · skip
                            refine q_iconst hx hb dL_act_869 ?_
                            exact K_870 (0) (Or.inr ⟨decide_eq_false (by omega), rfl⟩)
                          · skip
                            refine q_iconst hx hb dL_act_865 ?_
                            refine lv_goto (tgt := 870) hx hb dL_act_866 (by decide) ?_
                            exact K_870 (1) (Or.inl ⟨decide_eq_true (by omega), rfl⟩)
                    exact L_846 (10 + 1) (0)  (by omega) (by omega)  _ _ _ hP hD hS (lv_sub hl [1, 2, 3, 4, 5, 6, 7, 8, 9, 10, 11, 12, 13, 14, 15, 0] rfl)
                  · skip
                    refine lv_aload hx hb dL_act_811 (lv_at hl 4 rfl) ?_
                    refine lv_iload hx hb dL_act_813 (lv_at hl 15 rfl) ?_
                    refine lv_iload hx hb dL_act_815 (lv_at hl 13 rfl) ?_
                    refine qb_iast (j := k7) hx hb hK hP hD hS 1 0 rfl rfl (by omega) dL_act_817 (fun H locs hP hD hS => ?_)
                    have hP : va_P D vwCl [W0, [(xv, aI cy 20 (qu w3 k7 (w9)))], [(xc, aI cy 45 (co))], [(xe, aI cy 9 (ed))], [(xd, aI cy 2 (dd))], [(am, aI cy 2 (u.1))], [(aa, aI cy 64 (u.2.1))], [(ab, aI cy 64 (u.2.2.1))], [(an, aI cy 64 (u.2.2.2))]].flatten H := hP
                    have hD : va_D A [W0, [(xv, aI cy 20 (qu w3 k7 (w9)))], [(xc, aI cy 45 (co))], [(xe, aI cy 9 (ed))], [(xd, aI cy 2 (dd))], [(am, aI cy 2 (u.1))], [(aa, aI cy 64 (u.2.1))], [(ab, aI cy 64 (u.2.2.1))], [(an, aI cy 64 (u.2.2.2))]].flatten := hD
                    refine q_iinc (k := 15) (lv' := [(15, .int (qI ((((k7 : Nat) : Int)) + (1)))), (0, .ref (x)), (1, .int (qI (p1))), (2, .int (qI (p2))), (3, .int (qI (p3))), (4, .ref (xv)), (5, .ref (xc)), (6, .ref (xe)), (7, .ref (xd)), (8, .ref (am)), (9, .ref (aa)), (10, .ref (ab)), (11, .ref (an)), (12, .int (qI (nb))), (13, .int (qI (w9))), (14, .int (qI (0)))]) hx hb dL_act_818 hl rfl (by decide) rfl (fun ls hl => ?_)
                    refine lv_goto (tgt := 804) hx hb dL_act_821 (by decide) ?_
                    exact ih_804 (k7 + 1) _ (by omega) (by omega) ⟨fun i hi => if e : i = k7 then (by rw [e, qu_s]) else (by rw [qu_n _ _ e]; exact hw3.1 i (by omega)), fun i hi => (by rw [qu_n _ _ (by omega)]; exact hw3.2 i hi)⟩ _ _ _ hP hD hS (lv_sub hl [1, 2, 3, 4, 5, 6, 7, 8, 9, 10, 11, 12, 13, 14, 15, 0] rfl)
              exact L_804 (10 + 1) (0) (va) (by omega) (by omega) ⟨fun i hi => absurd hi (Nat.not_lt_zero i), fun _ _ => rfl⟩ _ _ _ hP hD hS (lv_sub hl [4, 5, 6, 7, 8, 9, 10, 11, 12, 13, 14, 15, 3, 2, 1, 0] rfl)
            · skip
              refine lv_iload_n hx hb dL_act_710 rfl (lv_at hl 3 rfl) ?_
              refine q_bipush hx hb dL_act_711 (by decide) ?_
              refine q_readi (va_runS (As := [.int (qI (p2)), .int (qI (10))]) (rest := []) ⟨hx, hb, hml, hown, hg⟩ (c_L_at l D cy _ _ x9 10 (by omega) (by omega)) (cs_L_36 hg rfl rfl ⟨(Nat.le_of_ble_eq_true rfl), (Nat.le_of_ble_eq_true rfl)⟩) ⟨q_blind0, q_preR _ hK hN hP [] rfl⟩ rfl rfl hl.1 rfl (lv_room (Nat.le_of_ble_eq_true rfl)) dL_act_713 ⟨(show 0 + 0 ≤ 412 by omega), (show 0 + 0 ≤ 4558 by omega)⟩) (fun r_713 h_713 => ?_)
              subst h_713
              obtain ⟨q9, hq99, hq98⟩ : ∃ q9 : Nat, q9 < 10 ∧ q9 = x9 / 2 % 10 := ⟨_, Nat.mod_lt _ (by decide), rfl⟩
              refine q_topZ (y := ((q9 : Nat) : Int)) (by rw [hq98]) ?_
              refine lv_istore (lv' := [(13, .int (qI (((q9 : Nat) : Int)))), (12, .int (qI (nb))), (0, .ref (x)), (1, .int (qI (p1))), (2, .int (qI (p2))), (3, .int (qI (p3))), (4, .ref (xv)), (5, .ref (xc)), (6, .ref (xe)), (7, .ref (xd)), (8, .ref (am)), (9, .ref (aa)), (10, .ref (ab)), (11, .ref (an))]) hx hb dL_act_716 hl (by decide) rfl (fun ls hl => ?_)
              refine lv_aload hx hb dL_act_718 (lv_at hl 6 rfl) ?_
              refine q_bipush hx hb dL_act_720 (by decide) ?_
              refine lv_iload hx hb dL_act_722 (lv_at hl 0 rfl) ?_
              refine q_iadd hx hb dL_act_724 ?_
              refine q_iald (j := (10 + q9)) hx hb hK (fl_blk hP 1 rfl) 0 rfl (by omega) dL_act_725 ?_
              refine lv_istore (lv' := [(14, .int (qI (va (10 + q9)))), (13, .int (qI (((q9 : Nat) : Int)))), (12, .int (qI (nb))), (0, .ref (x)), (1, .int (qI (p1))), (2, .int (qI (p2))), (3, .int (qI (p3))), (4, .ref (xv)), (5, .ref (xc)), (6, .ref (xe)), (7, .ref (xd)), (8, .ref (am)), (9, .ref (aa)), (10, .ref (ab)), (11, .ref (an))]) hx hb dL_act_726 hl (by decide) rfl (fun ls hl => ?_)
              refine lv_aload hx hb dL_act_728 (lv_at hl 7 rfl) ?_
              refine q_bipush hx hb dL_act_730 (by decide) ?_
              refine lv_iload hx hb dL_act_732 (lv_at hl 1 rfl) ?_
              refine q_iadd hx hb dL_act_734 ?_
              refine lv_iload_n hx hb dL_act_735 rfl (lv_at hl 6 rfl) ?_
              refine q_bipush hx hb dL_act_736 (by decide) ?_
              refine q_readi (va_runS (As := [.int (qI (p3)), .int (qI (10))]) (rest := [.int (qI ((10) + (((q9 : Nat) : Int)))), .ref (xv)]) ⟨hx, hb, hml, hown, hg⟩ (c_L_at l D cy _ _ y9 10 (by omega) (by omega)) (cs_L_36 hg rfl rfl ⟨(Nat.le_of_ble_eq_true rfl), (Nat.le_of_ble_eq_true rfl)⟩) ⟨q_blind0, q_preR _ hK hN hP [] rfl⟩ rfl rfl hl.1 rfl (lv_room (Nat.le_of_ble_eq_true rfl)) dL_act_738 ⟨(show 0 + 0 ≤ 412 by omega), (show 0 + 0 ≤ 4558 by omega)⟩) (fun r_738 h_738 => ?_)
              subst h_738
              obtain ⟨t9, ht99, ht98⟩ : ∃ t9 : Nat, t9 < 10 ∧ t9 = y9 / 2 % 10 := ⟨_, Nat.mod_lt _ (by decide), rfl⟩
              refine q_topZ (y := ((t9 : Nat) : Int)) (by rw [ht98]) ?_
              refine qb_iast (j := (10 + q9)) hx hb hK hP hD hS 1 0 rfl rfl (by omega) dL_act_741 (fun H locs hP hD hS => ?_)
              have hP : va_P D vwCl [W0, [(xv, aI cy 20 (qu va (10 + q9) (((t9 : Nat) : Int))))], [(xc, aI cy 45 (co))], [(xe, aI cy 9 (ed))], [(xd, aI cy 2 (dd))], [(am, aI cy 2 (u.1))], [(aa, aI cy 64 (u.2.1))], [(ab, aI cy 64 (u.2.2.1))], [(an, aI cy 64 (u.2.2.2))]].flatten H := hP
              have hD : va_D A [W0, [(xv, aI cy 20 (qu va (10 + q9) (((t9 : Nat) : Int))))], [(xc, aI cy 45 (co))], [(xe, aI cy 9 (ed))], [(xd, aI cy 2 (dd))], [(am, aI cy 2 (u.1))], [(aa, aI cy 64 (u.2.1))], [(ab, aI cy 64 (u.2.2.1))], [(an, aI cy 64 (u.2.2.2))]].flatten := hD
              obtain ⟨v1, hv1⟩ : ∃ v1 : Nat → Int, v1 = (qu va (10 + q9) (((t9 : Nat) : Int))) := ⟨_, rfl⟩
              rw [← hv1] at  hP hD
              have hP : va_P D vwCl [W0, [(xv, aI cy 20 (v1))], [(xc, aI cy 45 (co))], [(xe, aI cy 9 (ed))], [(xd, aI cy 2 (dd))], [(am, aI cy 2 (u.1))], [(aa, aI cy 64 (u.2.1))], [(ab, aI cy 64 (u.2.2.1))], [(an, aI cy 64 (u.2.2.2))]].flatten H := hP
              have hD : va_D A [W0, [(xv, aI cy 20 (v1))], [(xc, aI cy 45 (co))], [(xe, aI cy 9 (ed))], [(xd, aI cy 2 (dd))], [(am, aI cy 2 (u.1))], [(aa, aI cy 64 (u.2.1))], [(ab, aI cy 64 (u.2.2.1))], [(an, aI cy 64 (u.2.2.2))]].flatten := hD
              obtain ⟨T1, hT1⟩ : ∃ T1 : LSt, T1 = chT T q9 (t9 : Int) := ⟨_, rfl⟩
              have hG1 : gOk T1 := by rw [hT1]; exact chT_ok hG q9 (by omega)
              have hL1 : lwR T1 v1 co ed dd := by rw [hT1, hv1]; exact lw_sty hL0
              have hn1 : lN9 T1 ≤ 9 := by rw [hT1]; show lN9 T ≤ 9; exact hn
              have hm1 : lM T1 ≤ 3 := by rw [hT1]; show lM T ≤ 3; exact hm3
              refine lv_aload hx hb dL_act_742 (lv_at hl 7 rfl) ?_
              refine lv_aload hx hb dL_act_744 (lv_at hl 8 rfl) ?_
              refine lv_aload hx hb dL_act_746 (lv_at hl 9 rfl) ?_
              refine lv_aload hx hb dL_act_748 (lv_at hl 10 rfl) ?_
              refine lv_aload hx hb dL_act_750 (lv_at hl 11 rfl) ?_
              refine lv_aload hx hb dL_act_752 (lv_at hl 12 rfl) ?_
              refine lv_aload hx hb dL_act_754 (lv_at hl 13 rfl) ?_
              refine lv_aload hx hb dL_act_756 (lv_at hl 14 rfl) ?_
              refine q_backKv (mc := 306) (ms := 3379) [1, 2, 3, 4, 5, 6, 7, 8] [0] (br := [W0]) hP hD hS hA (va_runS (As := [.ref (xv), .ref (xc), .ref (xe), .ref (xd), .ref (am), .ref (aa), .ref (ab), .ref (an)]) (rest := []) ⟨hx, hb, hml, hown, hg⟩ (c_L_settle l D cy xv xc xe xd am aa ab an v1 co ed dd (u.1, u.2.1, u.2.2.1, u.2.2.2) (lC T1) (lN9 T1) (lE T1) (lM T1) hG1.2.2.1.2 hG1.2.2.2.1.2 hn1 (by omega) hL1.2.2.1 hL1.2.2.2.1 hL1.2.2.2.2 9 ⟨by omega, by omega⟩ (lV T1) (lT T1) hL1.1 hL1.2.1 hG1.1 hG1.2.1 _) (cs_L_65 hg rfl rfl ⟨(Nat.le_of_ble_eq_true rfl), (Nat.le_of_ble_eq_true rfl)⟩) ⟨q_blind, q_preM _ hK hN hP hD [1, 2, 3, 4, 5, 6, 7, 8] (by decide) rfl⟩ rfl rfl hl.1 rfl (lv_room (Nat.le_of_ble_eq_true rfl)) dL_act_758 ⟨(show 0 + 306 ≤ 412 by omega), (show 0 + 3379 ≤ 4558 by omega)⟩) rfl rfl (by decide) (fun u_758 H locs h_758 hP hD hS => ?_)
              have hP : va_P D vwCl [W0, [(xv, aI cy 20 (u_758.1))], [(xc, aI cy 45 (co))], [(xe, aI cy 9 (ed))], [(xd, aI cy 2 (dd))], [(am, aI cy 2 (u_758.2.1))], [(aa, aI cy 64 (u_758.2.2.1))], [(ab, aI cy 64 (u_758.2.2.2.1))], [(an, aI cy 64 (u_758.2.2.2.2))]].flatten H := hP
              have hD : va_D A [W0, [(xv, aI cy 20 (u_758.1))], [(xc, aI cy 45 (co))], [(xe, aI cy 9 (ed))], [(xd, aI cy 2 (dd))], [(am, aI cy 2 (u_758.2.1))], [(aa, aI cy 64 (u_758.2.2.1))], [(ab, aI cy 64 (u_758.2.2.2.1))], [(an, aI cy 64 (u_758.2.2.2.2))]].flatten := hD
              have hL2 : lwR (seT T1) u_758.1 co ed dd := lw_set hL1 h_758
              refine lv_aload_n hx hb dL_act_761 rfl (lv_at hl 3 rfl) ?_
              refine lv_iload hx hb dL_act_762 (lv_at hl 1 rfl) ?_
              refine lv_aload hx hb dL_act_764 (lv_at hl 7 rfl) ?_
              refine q_bipush hx hb dL_act_766 (by decide) ?_
              refine lv_iload hx hb dL_act_768 (lv_at hl 1 rfl) ?_
              refine q_iadd hx hb dL_act_770 ?_
              refine q_iald (j := (10 + q9)) hx hb hK (fl_blk hP 1 rfl) 0 rfl (by omega) dL_act_771 ?_
              refine q_topZ (y := ((t9 : Nat) : Int)) (by rw [hL2.2.1 q9 (by omega), hT1]; exact qu_s _ _ _) ?_
              refine q_backKi (mc := 0) (ms := 0) [0] [1, 2, 3, 4, 5, 6, 7, 8] (br := [[(xv, aI cy 20 (u_758.1))], [(xc, aI cy 45 (co))], [(xe, aI cy 9 (ed))], [(xd, aI cy 2 (dd))], [(am, aI cy 2 (u_758.2.1))], [(aa, aI cy 64 (u_758.2.2.1))], [(ab, aI cy 64 (u_758.2.2.2.1))], [(an, aI cy 64 (u_758.2.2.2.2))]]) hP hD hS hA (va_runV (As := [.int (qI (((q9 : Nat) : Int))), .int (qI (((t9 : Nat) : Int)))]) (rest := []) ⟨hx, hb, hml, hown, hg⟩ (c_X7_setStay l D cy x la lv9 ls9 fa xh xs la2 lv92 ls92 fb fw bu ta rc re gb oc oe rs rc2 re2 gb2 oc2 oe2 rs2 rr ad T hz HZ len tx _ hG hW _ _ q9 (by omega) (by omega) _) (cv_L_100 hg rfl rfl ⟨(Nat.le_of_ble_eq_true rfl), (Nat.le_of_ble_eq_true rfl)⟩) ⟨q_blind, va_recv hK (fl_blk hP 0 rfl) (ci := 7) (q0 := 0) rfl hfsW, q_preM _ hK hN hP hD [0] (by decide) rfl⟩ rfl rfl hl.1 rfl (lv_room (Nat.le_of_ble_eq_true rfl)) dL_act_772 ⟨(show 306 + 0 ≤ 412 by omega), (show 3379 + 0 ≤ 4558 by omega)⟩) rfl rfl (by decide) (fun r_772 u_772 H locs h_772 hP hD hS => ?_)
              have hP : va_P D vwCl [[(xv, aI cy 20 (u_758.1))], [(xc, aI cy 45 (co))], [(xe, aI cy 9 (ed))], [(xd, aI cy 2 (dd))], [(am, aI cy 2 (u_758.2.1))], [(aa, aI cy 64 (u_758.2.2.1))], [(ab, aI cy 64 (u_758.2.2.2.1))], [(an, aI cy 64 (u_758.2.2.2.2))], u_772].flatten H := hP
              have hD : va_D A [[(xv, aI cy 20 (u_758.1))], [(xc, aI cy 45 (co))], [(xe, aI cy 9 (ed))], [(xd, aI cy 2 (dd))], [(am, aI cy 2 (u_758.2.1))], [(aa, aI cy 64 (u_758.2.2.1))], [(ab, aI cy 64 (u_758.2.2.2.1))], [(an, aI cy 64 (u_758.2.2.2.2))], u_772].flatten := hD
              obtain ⟨rfl, h_772⟩ := h_772
              rw [← hT1] at h_772
              refine lv_iload hx hb dL_act_775 (lv_at hl 0 rfl) ?_
              refine q_ne0 (tgt := 784) hx hb dL_act_777 (by decide) (ht q9 (by omega)).symm ?_
              refine q_iconst hx hb dL_act_780 ?_
              refine lv_goto (tgt := 785) hx hb dL_act_781 (by decide) ?_
              have hP := fl_sub (bs' := [u_772, [(xv, aI cy 20 (u_758.1))], [(xc, aI cy 45 (co))], [(xe, aI cy 9 (ed))], [(xd, aI cy 2 (dd))], [(am, aI cy 2 (u_758.2.1))], [(aa, aI cy 64 (u_758.2.2.1))], [(ab, aI cy 64 (u_758.2.2.2.1))], [(an, aI cy 64 (u_758.2.2.2.2))]]) hP [8, 0, 1, 2, 3, 4, 5, 6, 7] rfl
              have hD := fl_subD (bs' := [u_772, [(xv, aI cy 20 (u_758.1))], [(xc, aI cy 45 (co))], [(xe, aI cy 9 (ed))], [(xd, aI cy 2 (dd))], [(am, aI cy 2 (u_758.2.1))], [(aa, aI cy 64 (u_758.2.2.1))], [(ab, aI cy 64 (u_758.2.2.2.1))], [(an, aI cy 64 (u_758.2.2.2.2))]]) hD [8, 0, 1, 2, 3, 4, 5, 6, 7] (by decide) rfl
              refine W.widen (k := 412) (n := 4558) (by omega) (by omega) ?_
              exact hQ _ _ _ _ true (u_772, u_758.1, co, ed, dd, (u_758.2.1, u_758.2.2.1, u_758.2.2.2.1, u_758.2.2.2.2)) ⟨rfl, seT T1, min (hz + 1) 8, pushH T HZ, h_772, ⟨seT_gOk hG1, hn1, hm1, hL2⟩, fun _ => by omega, fun _ _ => by omega⟩ hP hD hS dL_act_785
          · skip
            refine lv_aload hx hb dL_act_678 (lv_at hl 8 rfl) ?_
            refine q_iconst hx hb dL_act_680 ?_
            refine q_iald (j := 1) hx hb hK (fl_blk hP 4 rfl) 0 rfl (by omega) dL_act_681 ?_
            refine lv_istore (lv' := [(13, .int (qI (dd 1))), (12, .int (qI (nb))), (0, .ref (x)), (1, .int (qI (p1))), (2, .int (qI (p2))), (3, .int (qI (p3))), (4, .ref (xv)), (5, .ref (xc)), (6, .ref (xe)), (7, .ref (xd)), (8, .ref (am)), (9, .ref (aa)), (10, .ref (ab)), (11, .ref (an))]) hx hb dL_act_682 hl (by decide) rfl (fun ls hl => ?_)
            refine lv_aload hx hb dL_act_684 (lv_at hl 9 rfl) ?_
            refine q_iconst hx hb dL_act_686 ?_
            refine q_iconst hx hb dL_act_687 ?_
            refine qb_iast (j := 1) hx hb hK hP hD hS 4 0 rfl rfl (by omega) dL_act_688 (fun H locs hP hD hS => ?_)
            have hP : va_P D vwCl [W0, [(xv, aI cy 20 (va))], [(xc, aI cy 45 (co))], [(xe, aI cy 9 (ed))], [(xd, aI cy 2 (qu dd 1 (0)))], [(am, aI cy 2 (u.1))], [(aa, aI cy 64 (u.2.1))], [(ab, aI cy 64 (u.2.2.1))], [(an, aI cy 64 (u.2.2.2))]].flatten H := hP
            have hD : va_D A [W0, [(xv, aI cy 20 (va))], [(xc, aI cy 45 (co))], [(xe, aI cy 9 (ed))], [(xd, aI cy 2 (qu dd 1 (0)))], [(am, aI cy 2 (u.1))], [(aa, aI cy 64 (u.2.1))], [(ab, aI cy 64 (u.2.2.1))], [(an, aI cy 64 (u.2.2.2))]].flatten := hD
            have hd9 : (qu dd 1 (0)) 0 = dd 0 ∧ (qu dd 1 (0)) 1 = 0 := ⟨qu_n _ _ (show (0 : Nat) ≠ 1 by decide), qu_s _ _ _⟩
            obtain ⟨d8, hd8⟩ : ∃ d8 : Nat → Int, d8 = (qu dd 1 (0)) := ⟨_, rfl⟩
            rw [← hd8] at hd9 hP hD
            have hP : va_P D vwCl [W0, [(xv, aI cy 20 (va))], [(xc, aI cy 45 (co))], [(xe, aI cy 9 (ed))], [(xd, aI cy 2 (d8))], [(am, aI cy 2 (u.1))], [(aa, aI cy 64 (u.2.1))], [(ab, aI cy 64 (u.2.2.1))], [(an, aI cy 64 (u.2.2.2))]].flatten H := hP
            have hD : va_D A [W0, [(xv, aI cy 20 (va))], [(xc, aI cy 45 (co))], [(xe, aI cy 9 (ed))], [(xd, aI cy 2 (d8))], [(am, aI cy 2 (u.1))], [(aa, aI cy 64 (u.2.1))], [(ab, aI cy 64 (u.2.2.1))], [(an, aI cy 64 (u.2.2.2))]].flatten := hD
            obtain ⟨T1, hT1⟩ : ∃ T1 : LSt, T1 = enE T := ⟨_, rfl⟩
            have hG1 : gOk T1 := by rw [hT1]; exact enE_ok hG
            have hL1 : lwR T1 va co ed d8 := by rw [hT1]; exact lw_end hL0 hd9
            have hn1 : lN9 T1 ≤ 9 := by rw [hT1]; show lN9 T ≤ 9; exact hn
            have hm1 : lM T1 ≤ 3 := by rw [hT1]; exact Nat.zero_le 3
            refine lv_aload_n hx hb dL_act_689 rfl (lv_at hl 2 rfl) ?_
            refine q_backKi (mc := 0) (ms := 0) [0] [1, 2, 3, 4, 5, 6, 7, 8] (br := [[(xv, aI cy 20 (va))], [(xc, aI cy 45 (co))], [(xe, aI cy 9 (ed))], [(xd, aI cy 2 (d8))], [(am, aI cy 2 (u.1))], [(aa, aI cy 64 (u.2.1))], [(ab, aI cy 64 (u.2.2.1))], [(an, aI cy 64 (u.2.2.2))]]) hP hD hS hA (va_runV (As := []) (rest := []) ⟨hx, hb, hml, hown, hg⟩ (c_X7_endEdits l D cy x la lv9 ls9 fa xh xs la2 lv92 ls92 fb fw bu ta rc re gb oc oe rs rc2 re2 gb2 oc2 oe2 rs2 rr ad T hz HZ len tx _ hG hW  _) (cv_L_96 hg rfl rfl ⟨(Nat.le_of_ble_eq_true rfl), (Nat.le_of_ble_eq_true rfl)⟩) ⟨q_blind, va_recv hK (fl_blk hP 0 rfl) (ci := 7) (q0 := 0) rfl hfsW, q_preM _ hK hN hP hD [0] (by decide) rfl⟩ rfl rfl hl.1 rfl (lv_room (Nat.le_of_ble_eq_true rfl)) dL_act_690 ⟨(show 0 + 0 ≤ 412 by omega), (show 0 + 0 ≤ 4558 by omega)⟩) rfl rfl (by decide) (fun r_690 u_690 H locs h_690 hP hD hS => ?_)
            have hP : va_P D vwCl [[(xv, aI cy 20 (va))], [(xc, aI cy 45 (co))], [(xe, aI cy 9 (ed))], [(xd, aI cy 2 (d8))], [(am, aI cy 2 (u.1))], [(aa, aI cy 64 (u.2.1))], [(ab, aI cy 64 (u.2.2.1))], [(an, aI cy 64 (u.2.2.2))], u_690].flatten H := hP
            have hD : va_D A [[(xv, aI cy 20 (va))], [(xc, aI cy 45 (co))], [(xe, aI cy 9 (ed))], [(xd, aI cy 2 (d8))], [(am, aI cy 2 (u.1))], [(aa, aI cy 64 (u.2.1))], [(ab, aI cy 64 (u.2.2.1))], [(an, aI cy 64 (u.2.2.2))], u_690].flatten := hD
            obtain ⟨rfl, h_690⟩ := h_690
            rw [← hT1] at h_690
            refine lv_iload hx hb dL_act_693 (lv_at hl 0 rfl) ?_
            refine q_ne0 (tgt := 702) hx hb dL_act_695 (by decide) hd1.symm ?_
            refine q_iconst hx hb dL_act_698 ?_
            refine lv_goto (tgt := 703) hx hb dL_act_699 (by decide) ?_
            have hP := fl_sub (bs' := [u_690, [(xv, aI cy 20 (va))], [(xc, aI cy 45 (co))], [(xe, aI cy 9 (ed))], [(xd, aI cy 2 (d8))], [(am, aI cy 2 (u.1))], [(aa, aI cy 64 (u.2.1))], [(ab, aI cy 64 (u.2.2.1))], [(an, aI cy 64 (u.2.2.2))]]) hP [8, 0, 1, 2, 3, 4, 5, 6, 7] rfl
            have hD := fl_subD (bs' := [u_690, [(xv, aI cy 20 (va))], [(xc, aI cy 45 (co))], [(xe, aI cy 9 (ed))], [(xd, aI cy 2 (d8))], [(am, aI cy 2 (u.1))], [(aa, aI cy 64 (u.2.1))], [(ab, aI cy 64 (u.2.2.1))], [(an, aI cy 64 (u.2.2.2))]]) hD [8, 0, 1, 2, 3, 4, 5, 6, 7] (by decide) rfl
            refine W.widen (k := 412) (n := 4558) (by omega) (by omega) ?_
            exact hQ _ _ _ _ true (u_690, va, co, ed, d8, (u.1, u.2.1, u.2.2.1, u.2.2.2)) ⟨rfl, T1, min (hz + 1) 8, pushH T HZ, h_690, ⟨hG1, hn1, hm1, hL1⟩, fun _ => by omega, fun _ _ => by omega⟩ hP hD hS dL_act_703
        · skip
          refine lv_iload_n hx hb dL_act_523 rfl (lv_at hl 3 rfl) ?_
          refine q_iconst hx hb dL_act_524 ?_
          refine q_readi (va_runS (As := [.int (qI (p2)), .int (qI (5))]) (rest := []) ⟨hx, hb, hml, hown, hg⟩ (c_L_at l D cy _ _ x9 5 (by omega) (by omega)) (cs_L_36 hg rfl rfl ⟨(Nat.le_of_ble_eq_true rfl), (Nat.le_of_ble_eq_true rfl)⟩) ⟨q_blind0, q_preR _ hK hN hP [] rfl⟩ rfl rfl hl.1 rfl (lv_room (Nat.le_of_ble_eq_true rfl)) dL_act_525 ⟨(show 0 + 0 ≤ 412 by omega), (show 0 + 0 ≤ 4558 by omega)⟩) (fun r_525 h_525 => ?_)
          subst h_525
          obtain ⟨l9, hl99, hl98⟩ : ∃ l9 : Nat, l9 < 5 ∧ l9 = x9 / 2 % 5 := ⟨_, Nat.mod_lt _ (by decide), rfl⟩
          refine q_topZ (y := ((l9 : Nat) : Int)) (by rw [hl98]) ?_
          refine lv_istore (lv' := [(13, .int (qI (((l9 : Nat) : Int)))), (12, .int (qI (nb))), (0, .ref (x)), (1, .int (qI (p1))), (2, .int (qI (p2))), (3, .int (qI (p3))), (4, .ref (xv)), (5, .ref (xc)), (6, .ref (xe)), (7, .ref (xd)), (8, .ref (am)), (9, .ref (aa)), (10, .ref (ab)), (11, .ref (an))]) hx hb dL_act_528 hl (by decide) rfl (fun ls hl => ?_)
          have K_543 : ∀ (i0 : Int), ((i0 = 1 ∧ lM T < 3) ∨ (i0 = 0 ∧ 3 ≤ lM T)) → W p l e (qrc 9 412 4558) s m args below meth c H locs (0) (0) Q (F0 m 543 ls [.int (qI (i0))]) := by
            intro i0 hi0
            refine lv_istore (lv' := [(14, .int (qI (i0))), (13, .int (qI (((l9 : Nat) : Int)))), (12, .int (qI (nb))), (0, .ref (x)), (1, .int (qI (p1))), (2, .int (qI (p2))), (3, .int (qI (p3))), (4, .ref (xv)), (5, .ref (xc)), (6, .ref (xe)), (7, .ref (xd)), (8, .ref (am)), (9, .ref (aa)), (10, .ref (ab)), (11, .ref (an))]) hx hb dL_act_543 hl (by decide) rfl (fun ls hl => ?_)
            refine q_iconst hx hb dL_act_545 ?_
            refine lv_istore (lv' := [(15, .int (qI (0))), (14, .int (qI (i0))), (13, .int (qI (((l9 : Nat) : Int)))), (12, .int (qI (nb))), (0, .ref (x)), (1, .int (qI (p1))), (2, .int (qI (p2))), (3, .int (qI (p3))), (4, .ref (xv)), (5, .ref (xc)), (6, .ref (xe)), (7, .ref (xd)), (8, .ref (am)), (9, .ref (aa)), (10, .ref (ab)), (11, .ref (an))]) hx hb dL_act_546 hl (by decide) rfl (fun ls hl => ?_)
            have L_548 : ∀ (n_548 k6 : Nat) (i4 : Int), k6 ≤ lM T → lM T + 1 ≤ k6 + n_548 → ((i4 = 1 ∧ (lM T < 3 ∨ edOf (lE T) (l9 : Int) k6 ≠ -1)) ∨ (i4 = 0 ∧ 3 ≤ lM T ∧ edOf (lE T) (l9 : Int) k6 = -1)) → ∀ (H : Heap) (locs : List Loc) (ls : Array Slot), va_P D vwCl [W0, [(xv, aI cy 20 (va))], [(xc, aI cy 45 (co))], [(xe, aI cy 9 (ed))], [(xd, aI cy 2 (dd))], [(am, aI cy 2 (u.1))], [(aa, aI cy 64 (u.2.1))], [(ab, aI cy 64 (u.2.2.1))], [(an, aI cy 64 (u.2.2.2))]].flatten H → va_D A [W0, [(xv, aI cy 20 (va))], [(xc, aI cy 45 (co))], [(xe, aI cy 9 (ed))], [(xd, aI cy 2 (dd))], [(am, aI cy 2 (u.1))], [(aa, aI cy 64 (u.2.1))], [(ab, aI cy 64 (u.2.2.1))], [(an, aI cy 64 (u.2.2.2))]].flatten → va_S A s.heap H locs → lv_has ls 18 [(0, .ref (x)), (1, .int (qI (p1))), (2, .int (qI (p2))), (3, .int (qI (p3))), (4, .ref (xv)), (5, .ref (xc)), (6, .ref (xe)), (7, .ref (xd)), (8, .ref (am)), (9, .ref (aa)), (10, .ref (ab)), (11, .ref (an)), (12, .int (qI (nb))), (13, .int (qI (((l9 : Nat) : Int)))), (14, .int (qI (i4))), (15, .int (qI (((k6 : Nat) : Int))))] → W p l e (qrc 9 412 4558) s m args below meth c H locs (0) (0) Q (F0 m 548 ls []) := by
              intro n_548
              induction n_548 with
              | zero => intro k6 _ h1 h2; exact absurd h2 (by omega)
              | succ n_548 ih_548 =>
                intro k6 i4 hk_548 hn_548 hi4 H locs ls hP hD hS hl
                refine lv_iload hx hb dL_act_548 (lv_at hl 15 rfl) ?_
                refine lv_aload hx hb dL_act_550 (lv_at hl 7 rfl) ?_
                refine q_iconst hx hb dL_act_552 ?_
                refine q_iald (j := 1) hx hb hK (fl_blk hP 4 rfl) 0 rfl (by omega) dL_act_553 ?_
                refine q_icmp_ge (tgt := 587) hx hb dL_act_554 (by decide) (by omega) (fun c_554 => ?_) (fun c_554 => ?_)
                · skip
                  refine lv_iload hx hb dL_act_587 (lv_at hl 14 rfl) ?_
                  refine q_if_ne (tgt := 594) hx hb dL_act_589 (by decide) (by omega) (fun c_589 => ?_) (fun c_589 => ?_)
                  · skip
                    have hed9 : edOf (lE T) (l9 : Int) (lM T) ≠ -1 ∨ lM T < 3 := by
                      rw [show k6 = lM T by omega] at hi4
                      omega
                    refine lv_iload_n hx hb dL_act_594 rfl (lv_at hl 3 rfl) ?_
                    refine q_sipush hx hb dL_act_595 (by decide) ?_
                    refine q_readi (va_runS (As := [.int (qI (p3)), .int (qI (201))]) (rest := []) ⟨hx, hb, hml, hown, hg⟩ (c_L_at l D cy _ _ y9 201 (by omega) (by omega)) (cs_L_36 hg rfl rfl ⟨(Nat.le_of_ble_eq_true rfl), (Nat.le_of_ble_eq_true rfl)⟩) ⟨q_blind0, q_preR _ hK hN hP [] rfl⟩ rfl rfl hl.1 rfl (lv_room (Nat.le_of_ble_eq_true rfl)) dL_act_598 ⟨(show 0 + 0 ≤ 412 by omega), (show 0 + 0 ≤ 4558 by omega)⟩) (fun r_598 h_598 => ?_)
                    subst h_598
                    refine q_bipush hx hb dL_act_601 (by decide) ?_
                    refine q_isub hx hb dL_act_603 ?_
                    obtain ⟨w9, hw99, hw98⟩ : ∃ w9 : Int, (-100 ≤ w9 ∧ w9 ≤ 100) ∧ w9 = (((y9 / 2 % 201 : Nat) : Int)) - (100) := ⟨_, by omega, rfl⟩
                    refine q_topZ (y := w9) (by rw [hw98]) ?_
                    refine lv_istore (lv' := [(15, .int (qI (w9))), (0, .ref (x)), (1, .int (qI (p1))), (2, .int (qI (p2))), (3, .int (qI (p3))), (4, .ref (xv)), (5, .ref (xc)), (6, .ref (xe)), (7, .ref (xd)), (8, .ref (am)), (9, .ref (aa)), (10, .ref (ab)), (11, .ref (an)), (12, .int (qI (nb))), (13, .int (qI (((l9 : Nat) : Int)))), (14, .int (qI (i4)))]) hx hb dL_act_604 hl (by decide) rfl (fun ls hl => ?_)
                    have hwf : wfN (lE T) (lM T) (l9 : Int) ≤ 3 := adE3 (w := 0) (s := 0) hed9 hm3
                    refine lv_iload hx hb dL_act_606 (lv_at hl 14 rfl) ?_
                    refine lv_iload hx hb dL_act_608 (lv_at hl 0 rfl) ?_
                    refine lv_iload_n hx hb dL_act_610 rfl (lv_at hl 3 rfl) ?_
                    refine q_iconst hx hb dL_act_611 ?_
                    refine q_ishr (F := x9) (k := 3) hx hb (by omega) dL_act_612 ?_
                    refine q_iconst hx hb dL_act_613 ?_
                    refine q_readi (va_runS (As := [.int (qI ((((x9) / 2 ^ (3) : Nat) : Int))), .int (qI (4))]) (rest := [.int (qI (w9)), .int (qI (((l9 : Nat) : Int)))]) ⟨hx, hb, hml, hown, hg⟩ (c_L_at l D cy _ _ ((x9) / 2 ^ (3)) 4 (by omega) (by omega)) (cs_L_36 hg rfl rfl ⟨(Nat.le_of_ble_eq_true rfl), (Nat.le_of_ble_eq_true rfl)⟩) ⟨q_blind0, q_preR _ hK hN hP [] rfl⟩ rfl rfl hl.1 rfl (lv_room (Nat.le_of_ble_eq_true rfl)) dL_act_614 ⟨(show 0 + 0 ≤ 412 by omega), (show 0 + 0 ≤ 4558 by omega)⟩) (fun r_614 h_614 => ?_)
                    subst h_614
                    obtain ⟨s9, hs99, hs98⟩ : ∃ s9 : Nat, s9 < 4 ∧ s9 = ((x9) / 2 ^ (3)) / 2 % 4 := ⟨_, Nat.mod_lt _ (by decide), rfl⟩
                    refine q_topZ (y := ((s9 : Nat) : Int)) (by rw [hs98]) ?_
                    refine lv_aload hx hb dL_act_617 (lv_at hl 7 rfl) ?_
                    refine lv_aload hx hb dL_act_619 (lv_at hl 8 rfl) ?_
                    refine q_backKv (mc := 0) (ms := 0) [3, 4] [0, 1, 2, 5, 6, 7, 8] (br := [W0, [(xv, aI cy 20 (va))], [(xc, aI cy 45 (co))], [(am, aI cy 2 (u.1))], [(aa, aI cy 64 (u.2.1))], [(ab, aI cy 64 (u.2.2.1))], [(an, aI cy 64 (u.2.2.2))]]) hP hD hS hA (va_runS (As := [.int (qI (((l9 : Nat) : Int))), .int (qI (w9)), .int (qI (((s9 : Nat) : Int))), .ref (xe), .ref (xd)]) (rest := []) ⟨hx, hb, hml, hown, hg⟩ (c_L_lay l D cy xe xd ed dd (lE T) (lM T) hed hd1 9 _ _ _ (by omega) gE ⟨by omega, by omega⟩ _) (cs_L_61 hg rfl rfl ⟨(Nat.le_of_ble_eq_true rfl), (Nat.le_of_ble_eq_true rfl)⟩) ⟨q_blind, q_preM _ hK hN hP hD [3, 4] (by decide) rfl⟩ rfl rfl hl.1 rfl (lv_room (Nat.le_of_ble_eq_true rfl)) dL_act_621 ⟨(show 0 + 0 ≤ 412 by omega), (show 0 + 0 ≤ 4558 by omega)⟩) rfl rfl (by decide) (fun u_621 H locs h_621 hP hD hS => ?_)
                    have hP : va_P D vwCl [W0, [(xv, aI cy 20 (va))], [(xc, aI cy 45 (co))], [(am, aI cy 2 (u.1))], [(aa, aI cy 64 (u.2.1))], [(ab, aI cy 64 (u.2.2.1))], [(an, aI cy 64 (u.2.2.2))], [(xe, aI cy 9 (u_621.1))], [(xd, aI cy 2 (u_621.2))]].flatten H := hP
                    have hD : va_D A [W0, [(xv, aI cy 20 (va))], [(xc, aI cy 45 (co))], [(am, aI cy 2 (u.1))], [(aa, aI cy 64 (u.2.1))], [(ab, aI cy 64 (u.2.2.1))], [(an, aI cy 64 (u.2.2.2))], [(xe, aI cy 9 (u_621.1))], [(xd, aI cy 2 (u_621.2))]].flatten := hD
                    obtain ⟨T1, hT1⟩ : ∃ T1 : LSt, T1 = adE T (l9 : Int) w9 (s9 : Int) := ⟨_, rfl⟩
                    have hG1 : gOk T1 := by rw [hT1]; exact adE_ok hG (by omega) (by omega) (by omega) (by omega)
                    have hL1 : lwR T1 va co u_621.1 u_621.2 := by rw [hT1]; exact lw_lay hL0 h_621
                    have hn1 : lN9 T1 ≤ 9 := by rw [hT1]; show lN9 T ≤ 9; exact hn
                    have hm1 : lM T1 ≤ 3 := by rw [hT1]; exact adE3 hed9 hm3
                    refine lv_aload hx hb dL_act_624 (lv_at hl 5 rfl) ?_
                    refine lv_aload hx hb dL_act_626 (lv_at hl 6 rfl) ?_
                    refine lv_aload hx hb dL_act_628 (lv_at hl 7 rfl) ?_
                    refine lv_aload hx hb dL_act_630 (lv_at hl 8 rfl) ?_
                    refine lv_aload hx hb dL_act_632 (lv_at hl 9 rfl) ?_
                    refine lv_aload hx hb dL_act_634 (lv_at hl 10 rfl) ?_
                    refine lv_aload hx hb dL_act_636 (lv_at hl 11 rfl) ?_
                    refine lv_aload hx hb dL_act_638 (lv_at hl 12 rfl) ?_
                    refine q_backKv (mc := 306) (ms := 3379) [1, 2, 7, 8, 3, 4, 5, 6] [0] (br := [W0]) hP hD hS hA (va_runS (As := [.ref (xv), .ref (xc), .ref (xe), .ref (xd), .ref (am), .ref (aa), .ref (ab), .ref (an)]) (rest := []) ⟨hx, hb, hml, hown, hg⟩ (c_L_settle l D cy xv xc xe xd am aa ab an va co u_621.1 u_621.2 (u.1, u.2.1, u.2.2.1, u.2.2.2) (lC T1) (lN9 T1) (lE T1) (lM T1) hG1.2.2.1.2 hG1.2.2.2.1.2 hn1 (by omega) hL1.2.2.1 hL1.2.2.2.1 hL1.2.2.2.2 9 ⟨by omega, by omega⟩ (lV T1) (lT T1) hL1.1 hL1.2.1 hG1.1 hG1.2.1 _) (cs_L_65 hg rfl rfl ⟨(Nat.le_of_ble_eq_true rfl), (Nat.le_of_ble_eq_true rfl)⟩) ⟨q_blind, q_preM _ hK hN hP hD [1, 2, 7, 8, 3, 4, 5, 6] (by decide) rfl⟩ rfl rfl hl.1 rfl (lv_room (Nat.le_of_ble_eq_true rfl)) dL_act_640 ⟨(show 0 + 306 ≤ 412 by omega), (show 0 + 3379 ≤ 4558 by omega)⟩) rfl rfl (by decide) (fun u_640 H locs h_640 hP hD hS => ?_)
                    have hP : va_P D vwCl [W0, [(xv, aI cy 20 (u_640.1))], [(xc, aI cy 45 (co))], [(xe, aI cy 9 (u_621.1))], [(xd, aI cy 2 (u_621.2))], [(am, aI cy 2 (u_640.2.1))], [(aa, aI cy 64 (u_640.2.2.1))], [(ab, aI cy 64 (u_640.2.2.2.1))], [(an, aI cy 64 (u_640.2.2.2.2))]].flatten H := hP
                    have hD : va_D A [W0, [(xv, aI cy 20 (u_640.1))], [(xc, aI cy 45 (co))], [(xe, aI cy 9 (u_621.1))], [(xd, aI cy 2 (u_621.2))], [(am, aI cy 2 (u_640.2.1))], [(aa, aI cy 64 (u_640.2.2.1))], [(ab, aI cy 64 (u_640.2.2.2.1))], [(an, aI cy 64 (u_640.2.2.2.2))]].flatten := hD
                    have hL2 : lwR (seT T1) u_640.1 co u_621.1 u_621.2 := lw_set hL1 h_640
                    refine lv_aload_n hx hb dL_act_643 rfl (lv_at hl 1 rfl) ?_
                    refine lv_iload hx hb dL_act_644 (lv_at hl 14 rfl) ?_
                    refine lv_iload hx hb dL_act_646 (lv_at hl 0 rfl) ?_
                    refine lv_iload_n hx hb dL_act_648 rfl (lv_at hl 3 rfl) ?_
                    refine q_iconst hx hb dL_act_649 ?_
                    refine q_ishr (F := x9) (k := 3) hx hb (by omega) dL_act_650 ?_
                    refine q_iconst hx hb dL_act_651 ?_
                    refine q_readi (va_runS (As := [.int (qI ((((x9) / 2 ^ (3) : Nat) : Int))), .int (qI (4))]) (rest := [.int (qI (w9)), .int (qI (((l9 : Nat) : Int))), .ref (x)]) ⟨hx, hb, hml, hown, hg⟩ (c_L_at l D cy _ _ ((x9) / 2 ^ (3)) 4 (by omega) (by omega)) (cs_L_36 hg rfl rfl ⟨(Nat.le_of_ble_eq_true rfl), (Nat.le_of_ble_eq_true rfl)⟩) ⟨q_blind0, q_preR _ hK hN hP [] rfl⟩ rfl rfl hl.1 rfl (lv_room (Nat.le_of_ble_eq_true rfl)) dL_act_652 ⟨(show 306 + 0 ≤ 412 by omega), (show 3379 + 0 ≤ 4558 by omega)⟩) (fun r_652 h_652 => ?_)
                    subst h_652
                    refine q_topZ (y := ((s9 : Nat) : Int)) (by rw [hs98]) ?_
                    refine q_backKi (mc := 0) (ms := 0) [0] [1, 2, 3, 4, 5, 6, 7, 8] (br := [[(xv, aI cy 20 (u_640.1))], [(xc, aI cy 45 (co))], [(xe, aI cy 9 (u_621.1))], [(xd, aI cy 2 (u_621.2))], [(am, aI cy 2 (u_640.2.1))], [(aa, aI cy 64 (u_640.2.2.1))], [(ab, aI cy 64 (u_640.2.2.2.1))], [(an, aI cy 64 (u_640.2.2.2.2))]]) hP hD hS hA (va_runV (As := [.int (qI (((l9 : Nat) : Int))), .int (qI (w9)), .int (qI (((s9 : Nat) : Int)))]) (rest := []) ⟨hx, hb, hml, hown, hg⟩ (c_X7_edit l D cy x la lv9 ls9 fa xh xs la2 lv92 ls92 fb fw bu ta rc re gb oc oe rs rc2 re2 gb2 oc2 oe2 rs2 rr ad T hz HZ len tx _ hG hW _ _ _ l9 (by omega) (by omega) (by omega) hed9 _) (cv_L_92 hg rfl rfl ⟨(Nat.le_of_ble_eq_true rfl), (Nat.le_of_ble_eq_true rfl)⟩) ⟨q_blind, va_recv hK (fl_blk hP 0 rfl) (ci := 7) (q0 := 0) rfl hfsW, q_preM _ hK hN hP hD [0] (by decide) rfl⟩ rfl rfl hl.1 rfl (lv_room (Nat.le_of_ble_eq_true rfl)) dL_act_655 ⟨(show 306 + 0 ≤ 412 by omega), (show 3379 + 0 ≤ 4558 by omega)⟩) rfl rfl (by decide) (fun r_655 u_655 H locs h_655 hP hD hS => ?_)
                    have hP : va_P D vwCl [[(xv, aI cy 20 (u_640.1))], [(xc, aI cy 45 (co))], [(xe, aI cy 9 (u_621.1))], [(xd, aI cy 2 (u_621.2))], [(am, aI cy 2 (u_640.2.1))], [(aa, aI cy 64 (u_640.2.2.1))], [(ab, aI cy 64 (u_640.2.2.2.1))], [(an, aI cy 64 (u_640.2.2.2.2))], u_655].flatten H := hP
                    have hD : va_D A [[(xv, aI cy 20 (u_640.1))], [(xc, aI cy 45 (co))], [(xe, aI cy 9 (u_621.1))], [(xd, aI cy 2 (u_621.2))], [(am, aI cy 2 (u_640.2.1))], [(aa, aI cy 64 (u_640.2.2.1))], [(ab, aI cy 64 (u_640.2.2.2.1))], [(an, aI cy 64 (u_640.2.2.2.2))], u_655].flatten := hD
                    obtain ⟨rfl, h_655⟩ := h_655
                    rw [← hT1] at h_655
                    refine lv_aload hx hb dL_act_658 (lv_at hl 5 rfl) ?_
                    refine lv_iload hx hb dL_act_660 (lv_at hl 14 rfl) ?_
                    refine q_iald (j := l9) hx hb hK (fl_blk hP 0 rfl) 0 rfl (by omega) dL_act_662 ?_
                    refine q_ne0 (tgt := 670) hx hb dL_act_663 (by decide) (by rw [← hT1]; exact (hL2.1 l9 (by omega)).symm) ?_
                    refine q_iconst hx hb dL_act_666 ?_
                    refine lv_goto (tgt := 671) hx hb dL_act_667 (by decide) ?_
                    have hP := fl_sub (bs' := [u_655, [(xv, aI cy 20 (u_640.1))], [(xc, aI cy 45 (co))], [(xe, aI cy 9 (u_621.1))], [(xd, aI cy 2 (u_621.2))], [(am, aI cy 2 (u_640.2.1))], [(aa, aI cy 64 (u_640.2.2.1))], [(ab, aI cy 64 (u_640.2.2.2.1))], [(an, aI cy 64 (u_640.2.2.2.2))]]) hP [8, 0, 1, 2, 3, 4, 5, 6, 7] rfl
                    have hD := fl_subD (bs' := [u_655, [(xv, aI cy 20 (u_640.1))], [(xc, aI cy 45 (co))], [(xe, aI cy 9 (u_621.1))], [(xd, aI cy 2 (u_621.2))], [(am, aI cy 2 (u_640.2.1))], [(aa, aI cy 64 (u_640.2.2.1))], [(ab, aI cy 64 (u_640.2.2.2.1))], [(an, aI cy 64 (u_640.2.2.2.2))]]) hD [8, 0, 1, 2, 3, 4, 5, 6, 7] (by decide) rfl
                    refine W.widen (k := 412) (n := 4558) (by omega) (by omega) ?_
                    exact hQ _ _ _ _ true (u_655, u_640.1, co, u_621.1, u_621.2, (u_640.2.1, u_640.2.2.1, u_640.2.2.2.1, u_640.2.2.2.2)) ⟨rfl, seT T1, min (hz + 1) 8, pushH T HZ, h_655, ⟨seT_gOk hG1, hn1, hm1, hL2⟩, fun _ => by omega, fun _ _ => by omega⟩ hP hD hS dL_act_671
                  · skip
                    refine q_iconst hx hb dL_act_592 ?_
                    refine W.widen (k := 412) (n := 4558) (by omega) (by omega) ?_
                    exact hQ _ _ _ _ true (W0, va, co, ed, dd, (u.1, u.2.1, u.2.2.1, u.2.2.2)) ⟨rfl, T, hz, HZ, hW, ⟨hG, hn, hm3, hL0⟩, fun h => h, fun _ _ => by omega⟩ hP hD hS dL_act_593
                · skip
                  have hq6 := hed k6 (by omega)
                  have gq6 := gE k6 (by omega)
                  have em : edOf (lE T) (l9 : Int) k6 ≠ -1 → edOf (lE T) (l9 : Int) (k6 + 1) ≠ -1 := edOf_up
                  have ea : lE T 0 k6 = (l9 : Int) → edOf (lE T) (l9 : Int) (k6 + 1) ≠ -1 := edOf_hit
                  have es : edOf (lE T) (l9 : Int) k6 = -1 → lE T 0 k6 ≠ (l9 : Int) → edOf (lE T) (l9 : Int) (k6 + 1) = -1 := fun a b => edOf_step a b
                  have K_579 : ∀ (i7 : Int), ((i7 = 1 ∧ (lM T < 3 ∨ edOf (lE T) (l9 : Int) (k6 + 1) ≠ -1)) ∨ (i7 = 0 ∧ 3 ≤ lM T ∧ edOf (lE T) (l9 : Int) (k6 + 1) = -1)) → W p l e (qrc 9 412 4558) s m args below meth c H locs (0) (0) Q (F0 m 579 ls [.int (qI (i7))]) := by
                    intro i7 hi7
                    refine lv_istore (lv' := [(14, .int (qI (i7))), (0, .ref (x)), (1, .int (qI (p1))), (2, .int (qI (p2))), (3, .int (qI (p3))), (4, .ref (xv)), (5, .ref (xc)), (6, .ref (xe)), (7, .ref (xd)), (8, .ref (am)), (9, .ref (aa)), (10, .ref (ab)), (11, .ref (an)), (12, .int (qI (nb))), (13, .int (qI (((l9 : Nat) : Int)))), (15, .int (qI (((k6 : Nat) : Int))))]) hx hb dL_act_579 hl (by decide) rfl (fun ls hl => ?_)
                    refine q_iinc (k := 15) (lv' := [(15, .int (qI ((((k6 : Nat) : Int)) + (1)))), (14, .int (qI (i7))), (0, .ref (x)), (1, .int (qI (p1))), (2, .int (qI (p2))), (3, .int (qI (p3))), (4, .ref (xv)), (5, .ref (xc)), (6, .ref (xe)), (7, .ref (xd)), (8, .ref (am)), (9, .ref (aa)), (10, .ref (ab)), (11, .ref (an)), (12, .int (qI (nb))), (13, .int (qI (((l9 : Nat) : Int))))]) hx hb dL_act_581 hl rfl (by decide) rfl (fun ls hl => ?_)
                    refine lv_goto (tgt := 548) hx hb dL_act_584 (by decide) ?_
                    exact ih_548 (k6 + 1) _ (by omega) (by omega) hi7 _ _ _ hP hD hS (lv_sub hl [2, 3, 4, 5, 6, 7, 8, 9, 10, 11, 12, 13, 14, 15, 1, 0] rfl)
                  have hq6 := hed k6 (by omega)
                  have gq6 := gE k6 (by omega)
                  have em : edOf (lE T) (l9 : Int) k6 ≠ -1 → edOf (lE T) (l9 : Int) (k6 + 1) ≠ -1 := edOf_up
                  have ea : lE T 0 k6 = (l9 : Int) → edOf (lE T) (l9 : Int) (k6 + 1) ≠ -1 := edOf_hit
                  have es : edOf (lE T) (l9 : Int) k6 = -1 → lE T 0 k6 ≠ (l9 : Int) → edOf (lE T) (l9 : Int) (k6 + 1) = -1 := fun a b => edOf_step a b
                  refine lv_iload hx hb dL_act_557 (lv_at hl 14 rfl) ?_
                  refine q_if_ne (tgt := 574) hx hb dL_act_559 (by decide) (by omega) (fun c_559 => ?_) (fun c_559 => ?_)
                  · skip
                    refine q_iconst hx hb dL_act_574 ?_
                    refine lv_goto (tgt := 579) hx hb dL_act_575 (by decide) ?_
                    exact K_579 (1) (by omega)
                  · skip
                    refine lv_aload hx hb dL_act_562 (lv_at hl 6 rfl) ?_
                    refine q_iconst hx hb dL_act_564 ?_
                    refine lv_iload hx hb dL_act_565 (lv_at hl 15 rfl) ?_
                    refine q_imul hx hb dL_act_567 ?_
                    refine q_iald (j := (3 * k6)) hx hb hK (fl_blk hP 3 rfl) 0 rfl (by omega) dL_act_568 ?_
                    refine lv_iload hx hb dL_act_569 (lv_at hl 13 rfl) ?_
                    refine q_icmp_ne (tgt := 578) hx hb dL_act_571 (by decide) (by omega) (fun c_571 => ?_) (fun c_571 => ?_)
                    · skip
                      refine q_iconst hx hb dL_act_578 ?_
                      exact K_579 (0) (by omega)
                    · skip
                      refine q_iconst hx hb dL_act_574 ?_
                      refine lv_goto (tgt := 579) hx hb dL_act_575 (by decide) ?_
                      exact K_579 (1) (by omega)
            exact L_548 (lM T + 1) (0) (i0) (by omega) (by omega) (by have e : edOf (lE T) (l9 : Int) 0 = -1 := rfl; omega) _ _ _ hP hD hS (lv_sub hl [4, 5, 6, 7, 8, 9, 10, 11, 12, 13, 14, 15, 3, 2, 1, 0] rfl)
          refine lv_aload hx hb dL_act_530 (lv_at hl 9 rfl) ?_
          refine q_iconst hx hb dL_act_532 ?_
          refine q_iald (j := 1) hx hb hK (fl_blk hP 4 rfl) 0 rfl (by omega) dL_act_533 ?_
          refine q_iconst hx hb dL_act_534 ?_
          refine q_icmp_ge (tgt := 542) hx hb dL_act_535 (by decide) (by omega) (fun c_535 => ?_) (fun c_535 => ?_)
          · skip
            refine q_iconst hx hb dL_act_542 ?_
            exact K_543 (0) (by omega)
          · skip
            refine q_iconst hx hb dL_act_538 ?_
            refine lv_goto (tgt := 543) hx hb dL_act_539 (by decide) ?_
            exact K_543 (1) (by omega)
      · skip
        have hn0 : 0 < lN9 T := ha8 (by omega)
        refine lv_iload_n hx hb dL_act_266 rfl (lv_at hl 3 rfl) ?_
        refine lv_aload hx hb dL_act_267 (lv_at hl 8 rfl) ?_
        refine q_iconst hx hb dL_act_269 ?_
        refine q_iald (j := 0) hx hb hK (fl_blk hP 4 rfl) 0 rfl (by omega) dL_act_270 ?_
        refine q_readi (va_runS (As := [.int (qI (p2)), .int (qI (dd 0))]) (rest := []) ⟨hx, hb, hml, hown, hg⟩ (c_L_at l D cy _ _ x9 (lN9 T) (by omega) (by omega)) (cs_L_36 hg rfl rfl ⟨(Nat.le_of_ble_eq_true rfl), (Nat.le_of_ble_eq_true rfl)⟩) ⟨q_blind0, q_preR _ hK hN hP [] rfl⟩ rfl rfl hl.1 rfl (lv_room (Nat.le_of_ble_eq_true rfl)) dL_act_271 ⟨(show 0 + 0 ≤ 412 by omega), (show 0 + 0 ≤ 4558 by omega)⟩) (fun r_271 h_271 => ?_)
        subst h_271
        obtain ⟨k9, hk99, hk98⟩ : ∃ k9 : Nat, k9 < lN9 T ∧ k9 = x9 / 2 % (lN9 T) := ⟨_, Nat.mod_lt _ hn0, rfl⟩
        refine q_topZ (y := ((k9 : Nat) : Int)) (by rw [hk98]) ?_
        refine lv_istore (lv' := [(13, .int (qI (((k9 : Nat) : Int)))), (12, .int (qI (nb))), (0, .ref (x)), (1, .int (qI (p1))), (2, .int (qI (p2))), (3, .int (qI (p3))), (4, .ref (xv)), (5, .ref (xc)), (6, .ref (xe)), (7, .ref (xd)), (8, .ref (am)), (9, .ref (aa)), (10, .ref (ab)), (11, .ref (an))]) hx hb dL_act_274 hl (by decide) rfl (fun ls hl => ?_)
        refine q_bipush hx hb dL_act_276 (by decide) ?_
        refine qb_newI (N := 27) hx hb hg hK hP hD hS hA (by omega) (show 0 + 1 ≤ 412 by omega) (show 0 + 27 ≤ 4558 by omega) dL_act_278 (fun q_278 H hP hD hS => ?_)
        have hP : va_P D vwCl [W0, [(xv, aI cy 20 (va))], [(xc, aI cy 45 (co))], [(xe, aI cy 9 (ed))], [(xd, aI cy 2 (dd))], [(am, aI cy 2 (u.1))], [(aa, aI cy 64 (u.2.1))], [(ab, aI cy 64 (u.2.2.1))], [(an, aI cy 64 (u.2.2.2))], [(q_278, aI cy 27 (fun _ => 0))]].flatten H := hP
        have hD : va_D A [W0, [(xv, aI cy 20 (va))], [(xc, aI cy 45 (co))], [(xe, aI cy 9 (ed))], [(xd, aI cy 2 (dd))], [(am, aI cy 2 (u.1))], [(aa, aI cy 64 (u.2.1))], [(ab, aI cy 64 (u.2.2.1))], [(an, aI cy 64 (u.2.2.2))], [(q_278, aI cy 27 (fun _ => 0))]].flatten := hD
        refine lv_astore (lv' := [(14, .ref (q_278)), (13, .int (qI (((k9 : Nat) : Int)))), (12, .int (qI (nb))), (0, .ref (x)), (1, .int (qI (p1))), (2, .int (qI (p2))), (3, .int (qI (p3))), (4, .ref (xv)), (5, .ref (xc)), (6, .ref (xe)), (7, .ref (xd)), (8, .ref (am)), (9, .ref (aa)), (10, .ref (ab)), (11, .ref (an))]) hx hb dL_act_280 hl (by decide) rfl (fun ls hl => ?_)
        refine q_bipush hx hb dL_act_282 (by decide) ?_
        refine qb_newI (N := 8) hx hb hg hK hP hD hS hA (by omega) (show 1 + 1 ≤ 412 by omega) (show 27 + 8 ≤ 4558 by omega) dL_act_284 (fun q_284 H hP hD hS => ?_)
        have hP : va_P D vwCl [W0, [(xv, aI cy 20 (va))], [(xc, aI cy 45 (co))], [(xe, aI cy 9 (ed))], [(xd, aI cy 2 (dd))], [(am, aI cy 2 (u.1))], [(aa, aI cy 64 (u.2.1))], [(ab, aI cy 64 (u.2.2.1))], [(an, aI cy 64 (u.2.2.2))], [(q_278, aI cy 27 (fun _ => 0))], [(q_284, aI cy 8 (fun _ => 0))]].flatten H := hP
        have hD : va_D A [W0, [(xv, aI cy 20 (va))], [(xc, aI cy 45 (co))], [(xe, aI cy 9 (ed))], [(xd, aI cy 2 (dd))], [(am, aI cy 2 (u.1))], [(aa, aI cy 64 (u.2.1))], [(ab, aI cy 64 (u.2.2.1))], [(an, aI cy 64 (u.2.2.2))], [(q_278, aI cy 27 (fun _ => 0))], [(q_284, aI cy 8 (fun _ => 0))]].flatten := hD
        refine lv_astore (lv' := [(15, .ref (q_284)), (14, .ref (q_278)), (13, .int (qI (((k9 : Nat) : Int)))), (12, .int (qI (nb))), (0, .ref (x)), (1, .int (qI (p1))), (2, .int (qI (p2))), (3, .int (qI (p3))), (4, .ref (xv)), (5, .ref (xc)), (6, .ref (xe)), (7, .ref (xd)), (8, .ref (am)), (9, .ref (aa)), (10, .ref (ab)), (11, .ref (an))]) hx hb dL_act_286 hl (by decide) rfl (fun ls hl => ?_)
        refine lv_iload_n hx hb dL_act_288 rfl (lv_at hl 5 rfl) ?_
        refine q_iconst hx hb dL_act_289 ?_
        refine q_icmp_ne (tgt := 403) hx hb dL_act_290 (by decide) (by omega) (fun c_290 => ?_) (fun c_290 => ?_)
        · skip
          have hq := hco k9 (by omega)
          rcases (show p1 = 6 ∨ p1 = 7 by omega) with e9 | e9
          · subst e9
            have hl : lv_has ls 18 [(15, .ref (q_284)), (14, .ref (q_278)), (13, .int (qI (((k9 : Nat) : Int)))), (12, .int (qI (nb))), (0, .ref (x)), (1, .int (qI (6))), (2, .int (qI (p2))), (3, .int (qI (p3))), (4, .ref (xv)), (5, .ref (xc)), (6, .ref (xe)), (7, .ref (xd)), (8, .ref (am)), (9, .ref (aa)), (10, .ref (ab)), (11, .ref (an))] := hl
            refine lv_iload_n hx hb dL_act_403 rfl (lv_at hl 5 rfl) ?_
            refine q_bipush hx hb dL_act_404 (by decide) ?_
            refine q_icmp_ne (tgt := 413) hx hb dL_act_406 (by decide) (by omega) (fun c_406 => ?_) (fun c_406 => ?_)
            · skip
              exact absurd c_406 (by decide)
            · skip
              refine q_iconst hx hb dL_act_409 ?_
              refine lv_goto (tgt := 414) hx hb dL_act_410 (by decide) ?_
              refine lv_istore (lv' := [(17, .int (qI (3))), (15, .ref (q_284)), (14, .ref (q_278)), (13, .int (qI (((k9 : Nat) : Int)))), (12, .int (qI (nb))), (0, .ref (x)), (1, .int (qI (6))), (2, .int (qI (p2))), (3, .int (qI (p3))), (4, .ref (xv)), (5, .ref (xc)), (6, .ref (xe)), (7, .ref (xd)), (8, .ref (am)), (9, .ref (aa)), (10, .ref (ab)), (11, .ref (an))]) hx hb dL_act_414 hl (by decide) rfl (fun ls hl => ?_)
              refine lv_aload hx hb dL_act_416 (lv_at hl 10 rfl) ?_
              refine q_iconst hx hb dL_act_418 ?_
              refine lv_iload hx hb dL_act_419 (lv_at hl 3 rfl) ?_
              refine q_imul hx hb dL_act_421 ?_
              refine lv_iload hx hb dL_act_422 (lv_at hl 0 rfl) ?_
              refine q_iadd hx hb dL_act_424 ?_
              refine q_iald (j := ((5 * k9) + 3)) hx hb hK (fl_blk hP 2 rfl) 0 rfl (by omega) dL_act_425 ?_
              refine lv_istore (lv' := [(16, .int (qI (co ((5 * k9) + 3)))), (17, .int (qI (3))), (15, .ref (q_284)), (14, .ref (q_278)), (13, .int (qI (((k9 : Nat) : Int)))), (12, .int (qI (nb))), (0, .ref (x)), (1, .int (qI (6))), (2, .int (qI (p2))), (3, .int (qI (p3))), (4, .ref (xv)), (5, .ref (xc)), (6, .ref (xe)), (7, .ref (xd)), (8, .ref (am)), (9, .ref (aa)), (10, .ref (ab)), (11, .ref (an))]) hx hb dL_act_426 hl (by decide) rfl (fun ls hl => ?_)
              refine lv_aload hx hb dL_act_428 (lv_at hl 11 rfl) ?_
              refine q_iconst hx hb dL_act_430 ?_
              refine lv_iload hx hb dL_act_431 (lv_at hl 4 rfl) ?_
              refine q_imul hx hb dL_act_433 ?_
              refine lv_iload hx hb dL_act_434 (lv_at hl 1 rfl) ?_
              refine q_iadd hx hb dL_act_436 ?_
              refine lv_iload_n hx hb dL_act_437 rfl (lv_at hl 7 rfl) ?_
              refine q_bipush hx hb dL_act_438 (by decide) ?_
              refine q_icmp_ne (tgt := 448) hx hb dL_act_440 (by decide) (by omega) (fun c_440 => ?_) (fun c_440 => ?_)
              · skip
                exact absurd c_440 (by decide)
              · skip
                refine lv_iload hx hb dL_act_443 (lv_at hl 5 rfl) ?_
                refine lv_goto (tgt := 453) hx hb dL_act_445 (by decide) ?_
                refine qb_iast (j := ((5 * k9) + 3)) hx hb hK hP hD hS 2 0 rfl rfl (by omega) dL_act_453 (fun H locs hP hD hS => ?_)
                have hP : va_P D vwCl [W0, [(xv, aI cy 20 (va))], [(xc, aI cy 45 (qu co ((5 * k9) + 3) (nb)))], [(xe, aI cy 9 (ed))], [(xd, aI cy 2 (dd))], [(am, aI cy 2 (u.1))], [(aa, aI cy 64 (u.2.1))], [(ab, aI cy 64 (u.2.2.1))], [(an, aI cy 64 (u.2.2.2))], [(q_278, aI cy 27 (fun _ => 0))], [(q_284, aI cy 8 (fun _ => 0))]].flatten H := hP
                have hD : va_D A [W0, [(xv, aI cy 20 (va))], [(xc, aI cy 45 (qu co ((5 * k9) + 3) (nb)))], [(xe, aI cy 9 (ed))], [(xd, aI cy 2 (dd))], [(am, aI cy 2 (u.1))], [(aa, aI cy 64 (u.2.1))], [(ab, aI cy 64 (u.2.2.1))], [(an, aI cy 64 (u.2.2.2))], [(q_278, aI cy 27 (fun _ => 0))], [(q_284, aI cy 8 (fun _ => 0))]].flatten := hD
                obtain ⟨c1, hc1⟩ : ∃ c1 : Nat → Int, c1 = (qu co ((5 * k9) + 3) (nb)) := ⟨_, rfl⟩
                rw [← hc1] at  hP hD
                have hP : va_P D vwCl [W0, [(xv, aI cy 20 (va))], [(xc, aI cy 45 (c1))], [(xe, aI cy 9 (ed))], [(xd, aI cy 2 (dd))], [(am, aI cy 2 (u.1))], [(aa, aI cy 64 (u.2.1))], [(ab, aI cy 64 (u.2.2.1))], [(an, aI cy 64 (u.2.2.2))], [(q_278, aI cy 27 (fun _ => 0))], [(q_284, aI cy 8 (fun _ => 0))]].flatten H := hP
                have hD : va_D A [W0, [(xv, aI cy 20 (va))], [(xc, aI cy 45 (c1))], [(xe, aI cy 9 (ed))], [(xd, aI cy 2 (dd))], [(am, aI cy 2 (u.1))], [(aa, aI cy 64 (u.2.1))], [(ab, aI cy 64 (u.2.2.1))], [(an, aI cy 64 (u.2.2.2))], [(q_278, aI cy 27 (fun _ => 0))], [(q_284, aI cy 8 (fun _ => 0))]].flatten := hD
                obtain ⟨T1, hT1⟩ : ∃ T1 : LSt, T1 = chC T 3 k9 nb := ⟨_, rfl⟩
                have hG1 : gOk T1 := by rw [hT1]; exact chC3_ok hG k9 (by omega)
                have hL1 : lwR T1 va c1 ed dd := by rw [hT1, hc1]; exact lw_num hL0
                have hn1 : lN9 T1 ≤ 9 := by rw [hT1]; show lN9 T ≤ 9; exact hn
                have hm1 : lM T1 ≤ 3 := by rw [hT1]; show lM T ≤ 3; exact hm3
                refine lv_aload hx hb dL_act_454 (lv_at hl 10 rfl) ?_
                refine lv_aload hx hb dL_act_456 (lv_at hl 11 rfl) ?_
                refine lv_aload hx hb dL_act_458 (lv_at hl 12 rfl) ?_
                refine lv_aload hx hb dL_act_460 (lv_at hl 13 rfl) ?_
                refine lv_aload hx hb dL_act_462 (lv_at hl 14 rfl) ?_
                refine lv_aload hx hb dL_act_464 (lv_at hl 15 rfl) ?_
                refine lv_aload hx hb dL_act_466 (lv_at hl 16 rfl) ?_
                refine lv_aload hx hb dL_act_468 (lv_at hl 17 rfl) ?_
                refine q_backKv (mc := 306) (ms := 3379) [1, 2, 3, 4, 5, 6, 7, 8] [0, 9, 10] (br := [W0, [(q_278, aI cy 27 (fun _ => 0))], [(q_284, aI cy 8 (fun _ => 0))]]) hP hD hS hA (va_runS (As := [.ref (xv), .ref (xc), .ref (xe), .ref (xd), .ref (am), .ref (aa), .ref (ab), .ref (an)]) (rest := []) ⟨hx, hb, hml, hown, hg⟩ (c_L_settle l D cy xv xc xe xd am aa ab an va c1 ed dd (u.1, u.2.1, u.2.2.1, u.2.2.2) (lC T1) (lN9 T1) (lE T1) (lM T1) hG1.2.2.1.2 hG1.2.2.2.1.2 hn1 (by omega) hL1.2.2.1 hL1.2.2.2.1 hL1.2.2.2.2 9 ⟨by omega, by omega⟩ (lV T1) (lT T1) hL1.1 hL1.2.1 hG1.1 hG1.2.1 _) (cs_L_65 hg rfl rfl ⟨(Nat.le_of_ble_eq_true rfl), (Nat.le_of_ble_eq_true rfl)⟩) ⟨q_blind, q_preM _ hK hN hP hD [1, 2, 3, 4, 5, 6, 7, 8] (by decide) rfl⟩ rfl rfl hl.1 rfl (lv_room (Nat.le_of_ble_eq_true rfl)) dL_act_470 ⟨(show 2 + 306 ≤ 412 by omega), (show 35 + 3379 ≤ 4558 by omega)⟩) rfl rfl (by decide) (fun u_470 H locs h_470 hP hD hS => ?_)
                have hP : va_P D vwCl [W0, [(q_278, aI cy 27 (fun _ => 0))], [(q_284, aI cy 8 (fun _ => 0))], [(xv, aI cy 20 (u_470.1))], [(xc, aI cy 45 (c1))], [(xe, aI cy 9 (ed))], [(xd, aI cy 2 (dd))], [(am, aI cy 2 (u_470.2.1))], [(aa, aI cy 64 (u_470.2.2.1))], [(ab, aI cy 64 (u_470.2.2.2.1))], [(an, aI cy 64 (u_470.2.2.2.2))]].flatten H := hP
                have hD : va_D A [W0, [(q_278, aI cy 27 (fun _ => 0))], [(q_284, aI cy 8 (fun _ => 0))], [(xv, aI cy 20 (u_470.1))], [(xc, aI cy 45 (c1))], [(xe, aI cy 9 (ed))], [(xd, aI cy 2 (dd))], [(am, aI cy 2 (u_470.2.1))], [(aa, aI cy 64 (u_470.2.2.1))], [(ab, aI cy 64 (u_470.2.2.2.1))], [(an, aI cy 64 (u_470.2.2.2.2))]].flatten := hD
                have hL2 : lwR (seT T1) u_470.1 c1 ed dd := lw_set hL1 h_470
                refine lv_iload_n hx hb dL_act_473 rfl (lv_at hl 7 rfl) ?_
                refine q_bipush hx hb dL_act_474 (by decide) ?_
                refine q_icmp_ne (tgt := 490) hx hb dL_act_476 (by decide) (by omega) (fun c_476 => ?_) (fun c_476 => ?_)
                · skip
                  exact absurd c_476 (by decide)
                · skip
                  refine lv_aload_n hx hb dL_act_479 rfl (lv_at hl 6 rfl) ?_
                  refine lv_iload hx hb dL_act_480 (lv_at hl 4 rfl) ?_
                  refine lv_iload hx hb dL_act_482 (lv_at hl 5 rfl) ?_
                  refine q_backKi (mc := 0) (ms := 0) [0] [1, 2, 3, 4, 5, 6, 7, 8, 9, 10] (br := [[(q_278, aI cy 27 (fun _ => 0))], [(q_284, aI cy 8 (fun _ => 0))], [(xv, aI cy 20 (u_470.1))], [(xc, aI cy 45 (c1))], [(xe, aI cy 9 (ed))], [(xd, aI cy 2 (dd))], [(am, aI cy 2 (u_470.2.1))], [(aa, aI cy 64 (u_470.2.2.1))], [(ab, aI cy 64 (u_470.2.2.2.1))], [(an, aI cy 64 (u_470.2.2.2.2))]]) hP hD hS hA (va_runV (As := [.int (qI (((k9 : Nat) : Int))), .int (qI (nb))]) (rest := []) ⟨hx, hb, hml, hown, hg⟩ (c_X7_setNumber l D cy x la lv9 ls9 fa xh xs la2 lv92 ls92 fb fw bu ta rc re gb oc oe rs rc2 re2 gb2 oc2 oe2 rs2 rr ad T hz HZ len tx _ hG hW _ _ k9 (by omega) (by omega) _) (cv_L_86 hg rfl rfl ⟨(Nat.le_of_ble_eq_true rfl), (Nat.le_of_ble_eq_true rfl)⟩) ⟨q_blind, va_recv hK (fl_blk hP 0 rfl) (ci := 7) (q0 := 0) rfl hfsW, q_preM _ hK hN hP hD [0] (by decide) rfl⟩ rfl rfl hl.1 rfl (lv_room (Nat.le_of_ble_eq_true rfl)) dL_act_484 ⟨(show 308 + 0 ≤ 412 by omega), (show 3414 + 0 ≤ 4558 by omega)⟩) rfl rfl (by decide) (fun r_484 u_484 H locs h_484 hP hD hS => ?_)
                  have hP : va_P D vwCl [[(q_278, aI cy 27 (fun _ => 0))], [(q_284, aI cy 8 (fun _ => 0))], [(xv, aI cy 20 (u_470.1))], [(xc, aI cy 45 (c1))], [(xe, aI cy 9 (ed))], [(xd, aI cy 2 (dd))], [(am, aI cy 2 (u_470.2.1))], [(aa, aI cy 64 (u_470.2.2.1))], [(ab, aI cy 64 (u_470.2.2.2.1))], [(an, aI cy 64 (u_470.2.2.2.2))], u_484].flatten H := hP
                  have hD : va_D A [[(q_278, aI cy 27 (fun _ => 0))], [(q_284, aI cy 8 (fun _ => 0))], [(xv, aI cy 20 (u_470.1))], [(xc, aI cy 45 (c1))], [(xe, aI cy 9 (ed))], [(xd, aI cy 2 (dd))], [(am, aI cy 2 (u_470.2.1))], [(aa, aI cy 64 (u_470.2.2.1))], [(ab, aI cy 64 (u_470.2.2.2.1))], [(an, aI cy 64 (u_470.2.2.2.2))], u_484].flatten := hD
                  obtain ⟨rfl, h_484⟩ := h_484
                  rw [← hT1] at h_484
                  refine lv_goto (tgt := 506) hx hb dL_act_487 (by decide) ?_
                  refine lv_iload hx hb dL_act_506 (lv_at hl 0 rfl) ?_
                  refine q_ne0 (tgt := 515) hx hb dL_act_508 (by decide) hq.2.2.2.1.symm ?_
                  refine q_iconst hx hb dL_act_511 ?_
                  refine lv_goto (tgt := 516) hx hb dL_act_512 (by decide) ?_
                  have hP := fl_sub (bs' := [u_484, [(xv, aI cy 20 (u_470.1))], [(xc, aI cy 45 (c1))], [(xe, aI cy 9 (ed))], [(xd, aI cy 2 (dd))], [(am, aI cy 2 (u_470.2.1))], [(aa, aI cy 64 (u_470.2.2.1))], [(ab, aI cy 64 (u_470.2.2.2.1))], [(an, aI cy 64 (u_470.2.2.2.2))]]) hP [10, 2, 3, 4, 5, 6, 7, 8, 9] rfl
                  have hD := fl_subD (bs' := [u_484, [(xv, aI cy 20 (u_470.1))], [(xc, aI cy 45 (c1))], [(xe, aI cy 9 (ed))], [(xd, aI cy 2 (dd))], [(am, aI cy 2 (u_470.2.1))], [(aa, aI cy 64 (u_470.2.2.1))], [(ab, aI cy 64 (u_470.2.2.2.1))], [(an, aI cy 64 (u_470.2.2.2.2))]]) hD [10, 2, 3, 4, 5, 6, 7, 8, 9] (by decide) rfl
                  refine W.widen (k := 412) (n := 4558) (by omega) (by omega) ?_
                  exact hQ _ _ _ _ true (u_484, u_470.1, c1, ed, dd, (u_470.2.1, u_470.2.2.1, u_470.2.2.2.1, u_470.2.2.2.2)) ⟨rfl, seT T1, min (hz + 1) 8, pushH T HZ, h_484, ⟨seT_gOk hG1, hn1, hm1, hL2⟩, fun _ => by omega, fun _ _ => by omega⟩ hP hD hS dL_act_516
          · subst e9
            have hl : lv_has ls 18 [(15, .ref (q_284)), (14, .ref (q_278)), (13, .int (qI (((k9 : Nat) : Int)))), (12, .int (qI (nb))), (0, .ref (x)), (1, .int (qI (7))), (2, .int (qI (p2))), (3, .int (qI (p3))), (4, .ref (xv)), (5, .ref (xc)), (6, .ref (xe)), (7, .ref (xd)), (8, .ref (am)), (9, .ref (aa)), (10, .ref (ab)), (11, .ref (an))] := hl
            refine lv_iload_n hx hb dL_act_403 rfl (lv_at hl 5 rfl) ?_
            refine q_bipush hx hb dL_act_404 (by decide) ?_
            refine q_icmp_ne (tgt := 413) hx hb dL_act_406 (by decide) (by omega) (fun c_406 => ?_) (fun c_406 => ?_)
            · skip
              refine q_iconst hx hb dL_act_413 ?_
              refine lv_istore (lv' := [(17, .int (qI (4))), (15, .ref (q_284)), (14, .ref (q_278)), (13, .int (qI (((k9 : Nat) : Int)))), (12, .int (qI (nb))), (0, .ref (x)), (1, .int (qI (7))), (2, .int (qI (p2))), (3, .int (qI (p3))), (4, .ref (xv)), (5, .ref (xc)), (6, .ref (xe)), (7, .ref (xd)), (8, .ref (am)), (9, .ref (aa)), (10, .ref (ab)), (11, .ref (an))]) hx hb dL_act_414 hl (by decide) rfl (fun ls hl => ?_)
              refine lv_aload hx hb dL_act_416 (lv_at hl 10 rfl) ?_
              refine q_iconst hx hb dL_act_418 ?_
              refine lv_iload hx hb dL_act_419 (lv_at hl 3 rfl) ?_
              refine q_imul hx hb dL_act_421 ?_
              refine lv_iload hx hb dL_act_422 (lv_at hl 0 rfl) ?_
              refine q_iadd hx hb dL_act_424 ?_
              refine q_iald (j := ((5 * k9) + 4)) hx hb hK (fl_blk hP 2 rfl) 0 rfl (by omega) dL_act_425 ?_
              refine lv_istore (lv' := [(16, .int (qI (co ((5 * k9) + 4)))), (17, .int (qI (4))), (15, .ref (q_284)), (14, .ref (q_278)), (13, .int (qI (((k9 : Nat) : Int)))), (12, .int (qI (nb))), (0, .ref (x)), (1, .int (qI (7))), (2, .int (qI (p2))), (3, .int (qI (p3))), (4, .ref (xv)), (5, .ref (xc)), (6, .ref (xe)), (7, .ref (xd)), (8, .ref (am)), (9, .ref (aa)), (10, .ref (ab)), (11, .ref (an))]) hx hb dL_act_426 hl (by decide) rfl (fun ls hl => ?_)
              refine lv_aload hx hb dL_act_428 (lv_at hl 11 rfl) ?_
              refine q_iconst hx hb dL_act_430 ?_
              refine lv_iload hx hb dL_act_431 (lv_at hl 4 rfl) ?_
              refine q_imul hx hb dL_act_433 ?_
              refine lv_iload hx hb dL_act_434 (lv_at hl 1 rfl) ?_
              refine q_iadd hx hb dL_act_436 ?_
              refine lv_iload_n hx hb dL_act_437 rfl (lv_at hl 7 rfl) ?_
              refine q_bipush hx hb dL_act_438 (by decide) ?_
              refine q_icmp_ne (tgt := 448) hx hb dL_act_440 (by decide) (by omega) (fun c_440 => ?_) (fun c_440 => ?_)
              · skip
                refine lv_iload_n hx hb dL_act_448 rfl (lv_at hl 9 rfl) ?_
                refine q_iconst hx hb dL_act_449 ?_
                refine q_readi (va_runS (As := [.int (qI (p3)), .int (qI (4))]) (rest := [.int (qI (((5) * (((k9 : Nat) : Int))) + (4))), .ref (xc)]) ⟨hx, hb, hml, hown, hg⟩ (c_L_at l D cy _ _ y9 4 (by omega) (by omega)) (cs_L_36 hg rfl rfl ⟨(Nat.le_of_ble_eq_true rfl), (Nat.le_of_ble_eq_true rfl)⟩) ⟨q_blind0, q_preR _ hK hN hP [] rfl⟩ rfl rfl hl.1 rfl (lv_room (Nat.le_of_ble_eq_true rfl)) dL_act_450 ⟨(show 2 + 0 ≤ 412 by omega), (show 35 + 0 ≤ 4558 by omega)⟩) (fun r_450 h_450 => ?_)
                subst h_450
                obtain ⟨t9, ht99, ht98⟩ : ∃ t9 : Nat, t9 < 4 ∧ t9 = y9 / 2 % 4 := ⟨_, Nat.mod_lt _ (by decide), rfl⟩
                refine q_topZ (y := ((t9 : Nat) : Int)) (by rw [ht98]) ?_
                refine qb_iast (j := ((5 * k9) + 4)) hx hb hK hP hD hS 2 0 rfl rfl (by omega) dL_act_453 (fun H locs hP hD hS => ?_)
                have hP : va_P D vwCl [W0, [(xv, aI cy 20 (va))], [(xc, aI cy 45 (qu co ((5 * k9) + 4) (((t9 : Nat) : Int))))], [(xe, aI cy 9 (ed))], [(xd, aI cy 2 (dd))], [(am, aI cy 2 (u.1))], [(aa, aI cy 64 (u.2.1))], [(ab, aI cy 64 (u.2.2.1))], [(an, aI cy 64 (u.2.2.2))], [(q_278, aI cy 27 (fun _ => 0))], [(q_284, aI cy 8 (fun _ => 0))]].flatten H := hP
                have hD : va_D A [W0, [(xv, aI cy 20 (va))], [(xc, aI cy 45 (qu co ((5 * k9) + 4) (((t9 : Nat) : Int))))], [(xe, aI cy 9 (ed))], [(xd, aI cy 2 (dd))], [(am, aI cy 2 (u.1))], [(aa, aI cy 64 (u.2.1))], [(ab, aI cy 64 (u.2.2.1))], [(an, aI cy 64 (u.2.2.2))], [(q_278, aI cy 27 (fun _ => 0))], [(q_284, aI cy 8 (fun _ => 0))]].flatten := hD
                obtain ⟨c1, hc1⟩ : ∃ c1 : Nat → Int, c1 = (qu co ((5 * k9) + 4) (((t9 : Nat) : Int))) := ⟨_, rfl⟩
                rw [← hc1] at  hP hD
                have hP : va_P D vwCl [W0, [(xv, aI cy 20 (va))], [(xc, aI cy 45 (c1))], [(xe, aI cy 9 (ed))], [(xd, aI cy 2 (dd))], [(am, aI cy 2 (u.1))], [(aa, aI cy 64 (u.2.1))], [(ab, aI cy 64 (u.2.2.1))], [(an, aI cy 64 (u.2.2.2))], [(q_278, aI cy 27 (fun _ => 0))], [(q_284, aI cy 8 (fun _ => 0))]].flatten H := hP
                have hD : va_D A [W0, [(xv, aI cy 20 (va))], [(xc, aI cy 45 (c1))], [(xe, aI cy 9 (ed))], [(xd, aI cy 2 (dd))], [(am, aI cy 2 (u.1))], [(aa, aI cy 64 (u.2.1))], [(ab, aI cy 64 (u.2.2.1))], [(an, aI cy 64 (u.2.2.2))], [(q_278, aI cy 27 (fun _ => 0))], [(q_284, aI cy 8 (fun _ => 0))]].flatten := hD
                have hq4 : c1 (5 * k9 + 4) = (t9 : Int) := by rw [hc1, qu_s]
                obtain ⟨T1, hT1⟩ : ∃ T1 : LSt, T1 = chC T 4 k9 (t9 : Int) := ⟨_, rfl⟩
                have hG1 : gOk T1 := by rw [hT1]; exact chC4_ok hG k9 (by omega)
                have hL1 : lwR T1 va c1 ed dd := by rw [hT1, hc1]; exact lw_str9 hL0
                have hn1 : lN9 T1 ≤ 9 := by rw [hT1]; show lN9 T ≤ 9; exact hn
                have hm1 : lM T1 ≤ 3 := by rw [hT1]; show lM T ≤ 3; exact hm3
                refine lv_aload hx hb dL_act_454 (lv_at hl 10 rfl) ?_
                refine lv_aload hx hb dL_act_456 (lv_at hl 11 rfl) ?_
                refine lv_aload hx hb dL_act_458 (lv_at hl 12 rfl) ?_
                refine lv_aload hx hb dL_act_460 (lv_at hl 13 rfl) ?_
                refine lv_aload hx hb dL_act_462 (lv_at hl 14 rfl) ?_
                refine lv_aload hx hb dL_act_464 (lv_at hl 15 rfl) ?_
                refine lv_aload hx hb dL_act_466 (lv_at hl 16 rfl) ?_
                refine lv_aload hx hb dL_act_468 (lv_at hl 17 rfl) ?_
                refine q_backKv (mc := 306) (ms := 3379) [1, 2, 3, 4, 5, 6, 7, 8] [0, 9, 10] (br := [W0, [(q_278, aI cy 27 (fun _ => 0))], [(q_284, aI cy 8 (fun _ => 0))]]) hP hD hS hA (va_runS (As := [.ref (xv), .ref (xc), .ref (xe), .ref (xd), .ref (am), .ref (aa), .ref (ab), .ref (an)]) (rest := []) ⟨hx, hb, hml, hown, hg⟩ (c_L_settle l D cy xv xc xe xd am aa ab an va c1 ed dd (u.1, u.2.1, u.2.2.1, u.2.2.2) (lC T1) (lN9 T1) (lE T1) (lM T1) hG1.2.2.1.2 hG1.2.2.2.1.2 hn1 (by omega) hL1.2.2.1 hL1.2.2.2.1 hL1.2.2.2.2 9 ⟨by omega, by omega⟩ (lV T1) (lT T1) hL1.1 hL1.2.1 hG1.1 hG1.2.1 _) (cs_L_65 hg rfl rfl ⟨(Nat.le_of_ble_eq_true rfl), (Nat.le_of_ble_eq_true rfl)⟩) ⟨q_blind, q_preM _ hK hN hP hD [1, 2, 3, 4, 5, 6, 7, 8] (by decide) rfl⟩ rfl rfl hl.1 rfl (lv_room (Nat.le_of_ble_eq_true rfl)) dL_act_470 ⟨(show 2 + 306 ≤ 412 by omega), (show 35 + 3379 ≤ 4558 by omega)⟩) rfl rfl (by decide) (fun u_470 H locs h_470 hP hD hS => ?_)
                have hP : va_P D vwCl [W0, [(q_278, aI cy 27 (fun _ => 0))], [(q_284, aI cy 8 (fun _ => 0))], [(xv, aI cy 20 (u_470.1))], [(xc, aI cy 45 (c1))], [(xe, aI cy 9 (ed))], [(xd, aI cy 2 (dd))], [(am, aI cy 2 (u_470.2.1))], [(aa, aI cy 64 (u_470.2.2.1))], [(ab, aI cy 64 (u_470.2.2.2.1))], [(an, aI cy 64 (u_470.2.2.2.2))]].flatten H := hP
                have hD : va_D A [W0, [(q_278, aI cy 27 (fun _ => 0))], [(q_284, aI cy 8 (fun _ => 0))], [(xv, aI cy 20 (u_470.1))], [(xc, aI cy 45 (c1))], [(xe, aI cy 9 (ed))], [(xd, aI cy 2 (dd))], [(am, aI cy 2 (u_470.2.1))], [(aa, aI cy 64 (u_470.2.2.1))], [(ab, aI cy 64 (u_470.2.2.2.1))], [(an, aI cy 64 (u_470.2.2.2.2))]].flatten := hD
                have hL2 : lwR (seT T1) u_470.1 c1 ed dd := lw_set hL1 h_470
                refine lv_iload_n hx hb dL_act_473 rfl (lv_at hl 7 rfl) ?_
                refine q_bipush hx hb dL_act_474 (by decide) ?_
                refine q_icmp_ne (tgt := 490) hx hb dL_act_476 (by decide) (by omega) (fun c_476 => ?_) (fun c_476 => ?_)
                · skip
                  refine lv_aload_n hx hb dL_act_490 rfl (lv_at hl 6 rfl) ?_
                  refine lv_iload hx hb dL_act_491 (lv_at hl 4 rfl) ?_
                  refine lv_aload hx hb dL_act_493 (lv_at hl 11 rfl) ?_
                  refine q_iconst hx hb dL_act_495 ?_
                  refine lv_iload hx hb dL_act_496 (lv_at hl 4 rfl) ?_
                  refine q_imul hx hb dL_act_498 ?_
                  refine lv_iload hx hb dL_act_499 (lv_at hl 1 rfl) ?_
                  refine q_iadd hx hb dL_act_501 ?_
                  refine q_iald (j := ((5 * k9) + 4)) hx hb hK (fl_blk hP 4 rfl) 0 rfl (by omega) dL_act_502 ?_
                  refine q_topZ (y := ((t9 : Nat) : Int)) hq4 ?_
                  refine q_backKi (mc := 0) (ms := 0) [0] [1, 2, 3, 4, 5, 6, 7, 8, 9, 10] (br := [[(q_278, aI cy 27 (fun _ => 0))], [(q_284, aI cy 8 (fun _ => 0))], [(xv, aI cy 20 (u_470.1))], [(xc, aI cy 45 (c1))], [(xe, aI cy 9 (ed))], [(xd, aI cy 2 (dd))], [(am, aI cy 2 (u_470.2.1))], [(aa, aI cy 64 (u_470.2.2.1))], [(ab, aI cy 64 (u_470.2.2.2.1))], [(an, aI cy 64 (u_470.2.2.2.2))]]) hP hD hS hA (va_runV (As := [.int (qI (((k9 : Nat) : Int))), .int (qI (((t9 : Nat) : Int)))]) (rest := []) ⟨hx, hb, hml, hown, hg⟩ (c_X7_setStrength l D cy x la lv9 ls9 fa xh xs la2 lv92 ls92 fb fw bu ta rc re gb oc oe rs rc2 re2 gb2 oc2 oe2 rs2 rr ad T hz HZ len tx _ hG hW _ _ k9 (by omega) (by omega) _) (cv_L_89 hg rfl rfl ⟨(Nat.le_of_ble_eq_true rfl), (Nat.le_of_ble_eq_true rfl)⟩) ⟨q_blind, va_recv hK (fl_blk hP 0 rfl) (ci := 7) (q0 := 0) rfl hfsW, q_preM _ hK hN hP hD [0] (by decide) rfl⟩ rfl rfl hl.1 rfl (lv_room (Nat.le_of_ble_eq_true rfl)) dL_act_503 ⟨(show 308 + 0 ≤ 412 by omega), (show 3414 + 0 ≤ 4558 by omega)⟩) rfl rfl (by decide) (fun r_503 u_503 H locs h_503 hP hD hS => ?_)
                  have hP : va_P D vwCl [[(q_278, aI cy 27 (fun _ => 0))], [(q_284, aI cy 8 (fun _ => 0))], [(xv, aI cy 20 (u_470.1))], [(xc, aI cy 45 (c1))], [(xe, aI cy 9 (ed))], [(xd, aI cy 2 (dd))], [(am, aI cy 2 (u_470.2.1))], [(aa, aI cy 64 (u_470.2.2.1))], [(ab, aI cy 64 (u_470.2.2.2.1))], [(an, aI cy 64 (u_470.2.2.2.2))], u_503].flatten H := hP
                  have hD : va_D A [[(q_278, aI cy 27 (fun _ => 0))], [(q_284, aI cy 8 (fun _ => 0))], [(xv, aI cy 20 (u_470.1))], [(xc, aI cy 45 (c1))], [(xe, aI cy 9 (ed))], [(xd, aI cy 2 (dd))], [(am, aI cy 2 (u_470.2.1))], [(aa, aI cy 64 (u_470.2.2.1))], [(ab, aI cy 64 (u_470.2.2.2.1))], [(an, aI cy 64 (u_470.2.2.2.2))], u_503].flatten := hD
                  obtain ⟨rfl, h_503⟩ := h_503
                  rw [← hT1] at h_503
                  refine lv_iload hx hb dL_act_506 (lv_at hl 0 rfl) ?_
                  refine q_ne0 (tgt := 515) hx hb dL_act_508 (by decide) hq.2.2.2.2.symm ?_
                  refine q_iconst hx hb dL_act_511 ?_
                  refine lv_goto (tgt := 516) hx hb dL_act_512 (by decide) ?_
                  have hP := fl_sub (bs' := [u_503, [(xv, aI cy 20 (u_470.1))], [(xc, aI cy 45 (c1))], [(xe, aI cy 9 (ed))], [(xd, aI cy 2 (dd))], [(am, aI cy 2 (u_470.2.1))], [(aa, aI cy 64 (u_470.2.2.1))], [(ab, aI cy 64 (u_470.2.2.2.1))], [(an, aI cy 64 (u_470.2.2.2.2))]]) hP [10, 2, 3, 4, 5, 6, 7, 8, 9] rfl
                  have hD := fl_subD (bs' := [u_503, [(xv, aI cy 20 (u_470.1))], [(xc, aI cy 45 (c1))], [(xe, aI cy 9 (ed))], [(xd, aI cy 2 (dd))], [(am, aI cy 2 (u_470.2.1))], [(aa, aI cy 64 (u_470.2.2.1))], [(ab, aI cy 64 (u_470.2.2.2.1))], [(an, aI cy 64 (u_470.2.2.2.2))]]) hD [10, 2, 3, 4, 5, 6, 7, 8, 9] (by decide) rfl
                  refine W.widen (k := 412) (n := 4558) (by omega) (by omega) ?_
                  exact hQ _ _ _ _ true (u_503, u_470.1, c1, ed, dd, (u_470.2.1, u_470.2.2.1, u_470.2.2.2.1, u_470.2.2.2.2)) ⟨rfl, seT T1, min (hz + 1) 8, pushH T HZ, h_503, ⟨seT_gOk hG1, hn1, hm1, hL2⟩, fun _ => by omega, fun _ _ => by omega⟩ hP hD hS dL_act_516
                · skip
                  exact absurd c_476 (by decide)
              · skip
                exact absurd c_440 (by decide)
            · skip
              exact absurd c_406 (by decide)
        · skip
          refine q_iconst hx hb dL_act_293 ?_
          refine lv_aload hx hb dL_act_294 (lv_at hl 9 rfl) ?_
          refine lv_aload hx hb dL_act_296 (lv_at hl 10 rfl) ?_
          refine lv_aload hx hb dL_act_298 (lv_at hl 11 rfl) ?_
          refine lv_aload hx hb dL_act_300 (lv_at hl 1 rfl) ?_
          refine lv_aload hx hb dL_act_302 (lv_at hl 0 rfl) ?_
          refine lv_aload hx hb dL_act_304 (lv_at hl 12 rfl) ?_
          refine lv_aload hx hb dL_act_306 (lv_at hl 13 rfl) ?_
          refine lv_aload hx hb dL_act_308 (lv_at hl 14 rfl) ?_
          refine lv_aload hx hb dL_act_310 (lv_at hl 15 rfl) ?_
          refine q_backKv (mc := 104) (ms := 1144) [2, 3, 4, 9, 10, 5, 6, 7, 8] [0, 1] (br := [W0, [(xv, aI cy 20 (va))]]) hP hD hS hA (va_runS (As := [.int (qI (-1)), .ref (xc), .ref (xe), .ref (xd), .ref (q_278), .ref (q_284), .ref (am), .ref (aa), .ref (ab), .ref (an)]) (rest := []) ⟨hx, hb, hml, hown, hg⟩ (c_L_all l D cy xc xe xd q_278 q_284 am aa ab an co ed dd (fun _ => 0) (fun _ => 0) (u.1, u.2.1, u.2.2.1, u.2.2.2) (lC T) (lN9 T) (lE T) (lM T) gC gE hn (by omega) hco hed ⟨hd0, hd1⟩ 9 ⟨by omega, by omega⟩ (-1) (by omega) _) (cs_L_22 hg rfl rfl ⟨(Nat.le_of_ble_eq_true rfl), (Nat.le_of_ble_eq_true rfl)⟩) ⟨q_blind, q_preM _ hK hN hP hD [2, 3, 4, 9, 10, 5, 6, 7, 8] (by decide) rfl⟩ rfl rfl hl.1 rfl (lv_room (Nat.le_of_ble_eq_true rfl)) dL_act_312 ⟨(show 2 + 104 ≤ 412 by omega), (show 35 + 1144 ≤ 4558 by omega)⟩) rfl rfl (by decide) (fun u_312 H locs h_312 hP hD hS => ?_)
          have hP : va_P D vwCl [W0, [(xv, aI cy 20 (va))], [(xc, aI cy 45 (co))], [(xe, aI cy 9 (ed))], [(xd, aI cy 2 (dd))], [(q_278, aI cy 27 (u_312.1))], [(q_284, aI cy 8 (u_312.2.1))], [(am, aI cy 2 (u_312.2.2.1))], [(aa, aI cy 64 (u_312.2.2.2.1))], [(ab, aI cy 64 (u_312.2.2.2.2.1))], [(an, aI cy 64 (u_312.2.2.2.2.2))]].flatten H := hP
          have hD : va_D A [W0, [(xv, aI cy 20 (va))], [(xc, aI cy 45 (co))], [(xe, aI cy 9 (ed))], [(xd, aI cy 2 (dd))], [(q_278, aI cy 27 (u_312.1))], [(q_284, aI cy 8 (u_312.2.1))], [(am, aI cy 2 (u_312.2.2.1))], [(aa, aI cy 64 (u_312.2.2.2.1))], [(ab, aI cy 64 (u_312.2.2.2.2.1))], [(an, aI cy 64 (u_312.2.2.2.2.2))]].flatten := hD
          refine lv_aload hx hb dL_act_315 (lv_at hl 1 rfl) ?_
          refine q_iconst hx hb dL_act_317 ?_
          refine lv_iload hx hb dL_act_318 (lv_at hl 2 rfl) ?_
          refine q_imul hx hb dL_act_320 ?_
          refine q_iald (j := (3 * k9)) hx hb hK (fl_blk hP 5 rfl) 0 rfl (by omega) dL_act_321 ?_
          refine lv_istore (lv' := [(16, .int (qI (u_312.1 (3 * k9)))), (15, .ref (q_284)), (14, .ref (q_278)), (13, .int (qI (((k9 : Nat) : Int)))), (12, .int (qI (nb))), (0, .ref (x)), (1, .int (qI (p1))), (2, .int (qI (p2))), (3, .int (qI (p3))), (4, .ref (xv)), (5, .ref (xc)), (6, .ref (xe)), (7, .ref (xd)), (8, .ref (am)), (9, .ref (aa)), (10, .ref (ab)), (11, .ref (an))]) hx hb dL_act_322 hl (by decide) rfl (fun ls hl => ?_)
          refine lv_aload hx hb dL_act_324 (lv_at hl 12 rfl) ?_
          refine q_iconst hx hb dL_act_326 ?_
          refine lv_dup2_11 hx hb dL_act_327 rfl rfl ?_
          refine q_iald (j := 0) hx hb hK (fl_blk hP 4 rfl) 0 rfl (by omega) dL_act_328 ?_
          refine q_iconst hx hb dL_act_329 ?_
          refine q_isub hx hb dL_act_330 ?_
          refine qb_iast (j := 0) hx hb hK hP hD hS 4 0 rfl rfl (by omega) dL_act_331 (fun H locs hP hD hS => ?_)
          have hP : va_P D vwCl [W0, [(xv, aI cy 20 (va))], [(xc, aI cy 45 (co))], [(xe, aI cy 9 (ed))], [(xd, aI cy 2 (qu dd 0 ((dd 0) - (1))))], [(q_278, aI cy 27 (u_312.1))], [(q_284, aI cy 8 (u_312.2.1))], [(am, aI cy 2 (u_312.2.2.1))], [(aa, aI cy 64 (u_312.2.2.2.1))], [(ab, aI cy 64 (u_312.2.2.2.2.1))], [(an, aI cy 64 (u_312.2.2.2.2.2))]].flatten H := hP
          have hD : va_D A [W0, [(xv, aI cy 20 (va))], [(xc, aI cy 45 (co))], [(xe, aI cy 9 (ed))], [(xd, aI cy 2 (qu dd 0 ((dd 0) - (1))))], [(q_278, aI cy 27 (u_312.1))], [(q_284, aI cy 8 (u_312.2.1))], [(am, aI cy 2 (u_312.2.2.1))], [(aa, aI cy 64 (u_312.2.2.2.1))], [(ab, aI cy 64 (u_312.2.2.2.2.1))], [(an, aI cy 64 (u_312.2.2.2.2.2))]].flatten := hD
          have hd9 : (qu dd 0 ((dd 0) - (1))) 0 = (lN9 T : Int) - 1 ∧ (qu dd 0 ((dd 0) - (1))) 1 = dd 1 := ⟨(by rw [qu_s]; omega), qu_n _ _ (show (1 : Nat) ≠ 0 by decide)⟩
          obtain ⟨d1, hd1⟩ : ∃ d1 : Nat → Int, d1 = (qu dd 0 ((dd 0) - (1))) := ⟨_, rfl⟩
          rw [← hd1] at hd9 hP hD
          have hP : va_P D vwCl [W0, [(xv, aI cy 20 (va))], [(xc, aI cy 45 (co))], [(xe, aI cy 9 (ed))], [(xd, aI cy 2 (d1))], [(q_278, aI cy 27 (u_312.1))], [(q_284, aI cy 8 (u_312.2.1))], [(am, aI cy 2 (u_312.2.2.1))], [(aa, aI cy 64 (u_312.2.2.2.1))], [(ab, aI cy 64 (u_312.2.2.2.2.1))], [(an, aI cy 64 (u_312.2.2.2.2.2))]].flatten H := hP
          have hD : va_D A [W0, [(xv, aI cy 20 (va))], [(xc, aI cy 45 (co))], [(xe, aI cy 9 (ed))], [(xd, aI cy 2 (d1))], [(q_278, aI cy 27 (u_312.1))], [(q_284, aI cy 8 (u_312.2.1))], [(am, aI cy 2 (u_312.2.2.1))], [(aa, aI cy 64 (u_312.2.2.2.1))], [(ab, aI cy 64 (u_312.2.2.2.2.1))], [(an, aI cy 64 (u_312.2.2.2.2.2))]].flatten := hD
          refine q_iconst hx hb dL_act_332 ?_
          refine lv_iload hx hb dL_act_333 (lv_at hl 3 rfl) ?_
          refine q_imul hx hb dL_act_335 ?_
          refine lv_istore (lv' := [(17, .int (qI ((5) * (((k9 : Nat) : Int))))), (16, .int (qI (u_312.1 (3 * k9)))), (15, .ref (q_284)), (14, .ref (q_278)), (13, .int (qI (((k9 : Nat) : Int)))), (12, .int (qI (nb))), (0, .ref (x)), (1, .int (qI (p1))), (2, .int (qI (p2))), (3, .int (qI (p3))), (4, .ref (xv)), (5, .ref (xc)), (6, .ref (xe)), (7, .ref (xd)), (8, .ref (am)), (9, .ref (aa)), (10, .ref (ab)), (11, .ref (an))]) hx hb dL_act_336 hl (by decide) rfl (fun ls hl => ?_)
          have L_338 : ∀ (n_338 i1 : Nat) (c2 : Nat → Int), i1 ≤ 5 * (lN9 T - 1 - k9) → 5 * (lN9 T - 1 - k9) + 1 ≤ i1 + n_338 → (∀ q, c2 q = if 5 * k9 ≤ q ∧ q < 5 * k9 + i1 then co (q + 5) else co q) → ∀ (H : Heap) (locs : List Loc) (ls : Array Slot), va_P D vwCl [W0, [(xv, aI cy 20 (va))], [(xc, aI cy 45 (c2))], [(xe, aI cy 9 (ed))], [(xd, aI cy 2 (d1))], [(q_278, aI cy 27 (u_312.1))], [(q_284, aI cy 8 (u_312.2.1))], [(am, aI cy 2 (u_312.2.2.1))], [(aa, aI cy 64 (u_312.2.2.2.1))], [(ab, aI cy 64 (u_312.2.2.2.2.1))], [(an, aI cy 64 (u_312.2.2.2.2.2))]].flatten H → va_D A [W0, [(xv, aI cy 20 (va))], [(xc, aI cy 45 (c2))], [(xe, aI cy 9 (ed))], [(xd, aI cy 2 (d1))], [(q_278, aI cy 27 (u_312.1))], [(q_284, aI cy 8 (u_312.2.1))], [(am, aI cy 2 (u_312.2.2.1))], [(aa, aI cy 64 (u_312.2.2.2.1))], [(ab, aI cy 64 (u_312.2.2.2.2.1))], [(an, aI cy 64 (u_312.2.2.2.2.2))]].flatten → va_S A s.heap H locs → lv_has ls 18 [(0, .ref (x)), (1, .int (qI (p1))), (2, .int (qI (p2))), (3, .int (qI (p3))), (4, .ref (xv)), (5, .ref (xc)), (6, .ref (xe)), (7, .ref (xd)), (8, .ref (am)), (9, .ref (aa)), (10, .ref (ab)), (11, .ref (an)), (12, .int (qI (nb))), (13, .int (qI (((k9 : Nat) : Int)))), (14, .ref (q_278)), (15, .ref (q_284)), (16, .int (qI (u_312.1 (3 * k9)))), (17, .int (qI (((5 * k9 + i1 : Nat) : Int))))] → W p l e (qrc 9 412 4558) s m args below meth c H locs (106) (1179) Q (F0 m 338 ls []) := by
            intro n_338
            induction n_338 with
            | zero => intro i1 _ h1 h2; exact absurd h2 (by omega)
            | succ n_338 ih_338 =>
              intro i1 c2 hk_338 hn_338 hc2 H locs ls hP hD hS hl
              refine lv_iload hx hb dL_act_338 (lv_at hl 17 rfl) ?_
              refine q_iconst hx hb dL_act_340 ?_
              refine lv_aload hx hb dL_act_341 (lv_at hl 7 rfl) ?_
              refine q_iconst hx hb dL_act_343 ?_
              refine q_iald (j := 0) hx hb hK (fl_blk hP 4 rfl) 0 rfl (by omega) dL_act_344 ?_
              refine q_imul hx hb dL_act_345 ?_
              refine q_icmp_ge (tgt := 367) hx hb dL_act_346 (by decide) (by omega) (fun c_346 => ?_) (fun c_346 => ?_)
              · skip
                obtain ⟨T1, hT1⟩ : ∃ T1 : LSt, T1 = rmC T k9 := ⟨_, rfl⟩
                have hG1 : gOk T1 := by rw [hT1]; exact rmC_ok hG k9
                have hL1 : lwR T1 va c2 ed d1 := by rw [hT1]; exact lw_rm hL0 (by omega) (by omega) hc2 hd9
                have hn1 : lN9 T1 ≤ 9 := by rw [hT1]; show lN9 T - 1 ≤ 9; omega
                have hm1 : lM T1 ≤ 3 := by rw [hT1]; show lM T ≤ 3; exact hm3
                refine lv_aload hx hb dL_act_367 (lv_at hl 4 rfl) ?_
                refine lv_aload hx hb dL_act_369 (lv_at hl 5 rfl) ?_
                refine lv_aload hx hb dL_act_371 (lv_at hl 6 rfl) ?_
                refine lv_aload hx hb dL_act_373 (lv_at hl 7 rfl) ?_
                refine lv_aload hx hb dL_act_375 (lv_at hl 8 rfl) ?_
                refine lv_aload hx hb dL_act_377 (lv_at hl 9 rfl) ?_
                refine lv_aload hx hb dL_act_379 (lv_at hl 10 rfl) ?_
                refine lv_aload hx hb dL_act_381 (lv_at hl 11 rfl) ?_
                refine q_backKv (mc := 306) (ms := 3379) [1, 2, 3, 4, 7, 8, 9, 10] [0, 5, 6] (br := [W0, [(q_278, aI cy 27 (u_312.1))], [(q_284, aI cy 8 (u_312.2.1))]]) hP hD hS hA (va_runS (As := [.ref (xv), .ref (xc), .ref (xe), .ref (xd), .ref (am), .ref (aa), .ref (ab), .ref (an)]) (rest := []) ⟨hx, hb, hml, hown, hg⟩ (c_L_settle l D cy xv xc xe xd am aa ab an va c2 ed d1 (u_312.2.2.1, u_312.2.2.2.1, u_312.2.2.2.2.1, u_312.2.2.2.2.2) (lC T1) (lN9 T1) (lE T1) (lM T1) hG1.2.2.1.2 hG1.2.2.2.1.2 hn1 (by omega) hL1.2.2.1 hL1.2.2.2.1 hL1.2.2.2.2 9 ⟨by omega, by omega⟩ (lV T1) (lT T1) hL1.1 hL1.2.1 hG1.1 hG1.2.1 _) (cs_L_65 hg rfl rfl ⟨(Nat.le_of_ble_eq_true rfl), (Nat.le_of_ble_eq_true rfl)⟩) ⟨q_blind, q_preM _ hK hN hP hD [1, 2, 3, 4, 7, 8, 9, 10] (by decide) rfl⟩ rfl rfl hl.1 rfl (lv_room (Nat.le_of_ble_eq_true rfl)) dL_act_383 ⟨(show 106 + 306 ≤ 412 by omega), (show 1179 + 3379 ≤ 4558 by omega)⟩) rfl rfl (by decide) (fun u_383 H locs h_383 hP hD hS => ?_)
                have hP : va_P D vwCl [W0, [(q_278, aI cy 27 (u_312.1))], [(q_284, aI cy 8 (u_312.2.1))], [(xv, aI cy 20 (u_383.1))], [(xc, aI cy 45 (c2))], [(xe, aI cy 9 (ed))], [(xd, aI cy 2 (d1))], [(am, aI cy 2 (u_383.2.1))], [(aa, aI cy 64 (u_383.2.2.1))], [(ab, aI cy 64 (u_383.2.2.2.1))], [(an, aI cy 64 (u_383.2.2.2.2))]].flatten H := hP
                have hD : va_D A [W0, [(q_278, aI cy 27 (u_312.1))], [(q_284, aI cy 8 (u_312.2.1))], [(xv, aI cy 20 (u_383.1))], [(xc, aI cy 45 (c2))], [(xe, aI cy 9 (ed))], [(xd, aI cy 2 (d1))], [(am, aI cy 2 (u_383.2.1))], [(aa, aI cy 64 (u_383.2.2.1))], [(ab, aI cy 64 (u_383.2.2.2.1))], [(an, aI cy 64 (u_383.2.2.2.2))]].flatten := hD
                have hL2 : lwR (seT T1) u_383.1 c2 ed d1 := lw_set hL1 h_383
                refine lv_aload_n hx hb dL_act_386 rfl (lv_at hl 0 rfl) ?_
                refine lv_iload hx hb dL_act_387 (lv_at hl 13 rfl) ?_
                refine q_backKi (mc := 0) (ms := 0) [0] [1, 2, 3, 4, 5, 6, 7, 8, 9, 10] (br := [[(q_278, aI cy 27 (u_312.1))], [(q_284, aI cy 8 (u_312.2.1))], [(xv, aI cy 20 (u_383.1))], [(xc, aI cy 45 (c2))], [(xe, aI cy 9 (ed))], [(xd, aI cy 2 (d1))], [(am, aI cy 2 (u_383.2.1))], [(aa, aI cy 64 (u_383.2.2.1))], [(ab, aI cy 64 (u_383.2.2.2.1))], [(an, aI cy 64 (u_383.2.2.2.2))]]) hP hD hS hA (va_runV (As := [.int (qI (((k9 : Nat) : Int)))]) (rest := []) ⟨hx, hb, hml, hown, hg⟩ (c_X7_remove l D cy x la lv9 ls9 fa xh xs la2 lv92 ls92 fb fw bu ta rc re gb oc oe rs rc2 re2 gb2 oc2 oe2 rs2 rr ad T hz HZ len tx _ hG hW _ k9 (by omega) _) (cv_L_83 hg rfl rfl ⟨(Nat.le_of_ble_eq_true rfl), (Nat.le_of_ble_eq_true rfl)⟩) ⟨q_blind, va_recv hK (fl_blk hP 0 rfl) (ci := 7) (q0 := 0) rfl hfsW, q_preM _ hK hN hP hD [0] (by decide) rfl⟩ rfl rfl hl.1 rfl (lv_room (Nat.le_of_ble_eq_true rfl)) dL_act_389 ⟨(show 412 + 0 ≤ 412 by omega), (show 4558 + 0 ≤ 4558 by omega)⟩) rfl rfl (by decide) (fun r_389 u_389 H locs h_389 hP hD hS => ?_)
                have hP : va_P D vwCl [[(q_278, aI cy 27 (u_312.1))], [(q_284, aI cy 8 (u_312.2.1))], [(xv, aI cy 20 (u_383.1))], [(xc, aI cy 45 (c2))], [(xe, aI cy 9 (ed))], [(xd, aI cy 2 (d1))], [(am, aI cy 2 (u_383.2.1))], [(aa, aI cy 64 (u_383.2.2.1))], [(ab, aI cy 64 (u_383.2.2.2.1))], [(an, aI cy 64 (u_383.2.2.2.2))], u_389].flatten H := hP
                have hD : va_D A [[(q_278, aI cy 27 (u_312.1))], [(q_284, aI cy 8 (u_312.2.1))], [(xv, aI cy 20 (u_383.1))], [(xc, aI cy 45 (c2))], [(xe, aI cy 9 (ed))], [(xd, aI cy 2 (d1))], [(am, aI cy 2 (u_383.2.1))], [(aa, aI cy 64 (u_383.2.2.1))], [(ab, aI cy 64 (u_383.2.2.2.1))], [(an, aI cy 64 (u_383.2.2.2.2))], u_389].flatten := hD
                obtain ⟨rfl, h_389⟩ := h_389
                rw [← hT1] at h_389
                refine lv_iload hx hb dL_act_392 (lv_at hl 16 rfl) ?_
                refine q_ne0 (tgt := 401) hx hb dL_act_394 (by decide) ((h_312.1 k9 (by omega) (by omega)).1.symm) ?_
                refine q_iconst hx hb dL_act_397 ?_
                refine lv_goto (tgt := 402) hx hb dL_act_398 (by decide) ?_
                have hP := fl_sub (bs' := [u_389, [(xv, aI cy 20 (u_383.1))], [(xc, aI cy 45 (c2))], [(xe, aI cy 9 (ed))], [(xd, aI cy 2 (d1))], [(am, aI cy 2 (u_383.2.1))], [(aa, aI cy 64 (u_383.2.2.1))], [(ab, aI cy 64 (u_383.2.2.2.1))], [(an, aI cy 64 (u_383.2.2.2.2))]]) hP [10, 2, 3, 4, 5, 6, 7, 8, 9] rfl
                have hD := fl_subD (bs' := [u_389, [(xv, aI cy 20 (u_383.1))], [(xc, aI cy 45 (c2))], [(xe, aI cy 9 (ed))], [(xd, aI cy 2 (d1))], [(am, aI cy 2 (u_383.2.1))], [(aa, aI cy 64 (u_383.2.2.1))], [(ab, aI cy 64 (u_383.2.2.2.1))], [(an, aI cy 64 (u_383.2.2.2.2))]]) hD [10, 2, 3, 4, 5, 6, 7, 8, 9] (by decide) rfl
                exact hQ _ _ _ _ true (u_389, u_383.1, c2, ed, d1, (u_383.2.1, u_383.2.2.1, u_383.2.2.2.1, u_383.2.2.2.2)) ⟨rfl, seT T1, min (hz + 1) 8, pushH T HZ, h_389, ⟨seT_gOk hG1, hn1, hm1, hL2⟩, fun _ => by omega, fun _ _ => by omega⟩ hP hD hS dL_act_402
              · skip
                refine lv_aload hx hb dL_act_349 (lv_at hl 5 rfl) ?_
                refine lv_iload hx hb dL_act_351 (lv_at hl 17 rfl) ?_
                refine lv_aload hx hb dL_act_353 (lv_at hl 5 rfl) ?_
                refine lv_iload hx hb dL_act_355 (lv_at hl 17 rfl) ?_
                refine q_iconst hx hb dL_act_357 ?_
                refine q_iadd hx hb dL_act_358 ?_
                refine q_iald (j := (5 * k9 + i1 + 5)) hx hb hK (fl_blk hP 2 rfl) 0 rfl (by omega) dL_act_359 ?_
                refine qb_iast (j := 5 * k9 + i1) hx hb hK hP hD hS 2 0 rfl rfl (by omega) dL_act_360 (fun H locs hP hD hS => ?_)
                have hP : va_P D vwCl [W0, [(xv, aI cy 20 (va))], [(xc, aI cy 45 (qu c2 (5 * k9 + i1) (c2 (5 * k9 + i1 + 5))))], [(xe, aI cy 9 (ed))], [(xd, aI cy 2 (d1))], [(q_278, aI cy 27 (u_312.1))], [(q_284, aI cy 8 (u_312.2.1))], [(am, aI cy 2 (u_312.2.2.1))], [(aa, aI cy 64 (u_312.2.2.2.1))], [(ab, aI cy 64 (u_312.2.2.2.2.1))], [(an, aI cy 64 (u_312.2.2.2.2.2))]].flatten H := hP
                have hD : va_D A [W0, [(xv, aI cy 20 (va))], [(xc, aI cy 45 (qu c2 (5 * k9 + i1) (c2 (5 * k9 + i1 + 5))))], [(xe, aI cy 9 (ed))], [(xd, aI cy 2 (d1))], [(q_278, aI cy 27 (u_312.1))], [(q_284, aI cy 8 (u_312.2.1))], [(am, aI cy 2 (u_312.2.2.1))], [(aa, aI cy 64 (u_312.2.2.2.1))], [(ab, aI cy 64 (u_312.2.2.2.2.1))], [(an, aI cy 64 (u_312.2.2.2.2.2))]].flatten := hD
                refine q_iinc (k := 17) (lv' := [(17, .int (qI ((((5 * k9 + i1 : Nat) : Int)) + (1)))), (0, .ref (x)), (1, .int (qI (p1))), (2, .int (qI (p2))), (3, .int (qI (p3))), (4, .ref (xv)), (5, .ref (xc)), (6, .ref (xe)), (7, .ref (xd)), (8, .ref (am)), (9, .ref (aa)), (10, .ref (ab)), (11, .ref (an)), (12, .int (qI (nb))), (13, .int (qI (((k9 : Nat) : Int)))), (14, .ref (q_278)), (15, .ref (q_284)), (16, .int (qI (u_312.1 (3 * k9))))]) hx hb dL_act_361 hl rfl (by decide) rfl (fun ls hl => ?_)
                refine lv_goto (tgt := 338) hx hb dL_act_364 (by decide) ?_
                rw [show ((5 * k9 + i1 : Nat) : Int) + (1) = ((5 * k9 + (i1 + 1) : Nat) : Int) by omega] at hl
                exact ih_338 (i1 + 1) _ (by omega) (by omega) (rm_step hc2) _ _ _ hP hD hS (lv_sub hl [1, 2, 3, 4, 5, 6, 7, 8, 9, 10, 11, 12, 13, 14, 15, 16, 17, 0] rfl)
          exact L_338 (5 * (lN9 T - 1 - k9) + 1) (0) (co) (by omega) (by omega) (fun q => by rw [if_neg (by omega)]) _ _ _ hP hD hS (lv_sub hl [6, 7, 8, 9, 10, 11, 12, 13, 14, 15, 16, 17, 5, 4, 3, 2, 1, 0] rfl)
    refine lv_iload_n hx hb dL_act_45 rfl (lv_at hl 2 rfl) ?_
    refine q_iconst hx hb dL_act_46 ?_
    refine q_icmp_lt (tgt := 63) hx hb dL_act_47 (by decide) (by omega) (fun c_47 => ?_) (fun c_47 => ?_)
    · skip
      exact K_63 
    · skip
      refine lv_iload_n hx hb dL_act_50 rfl (lv_at hl 2 rfl) ?_
      refine q_bipush hx hb dL_act_51 (by decide) ?_
      refine q_icmp_ge (tgt := 260) hx hb dL_act_53 (by decide) (by omega) (fun c_53 => ?_) (fun c_53 => ?_)
      · skip
        exact K_260 (by omega) (by omega)
      · skip
        refine lv_aload hx hb dL_act_56 (lv_at hl 8 rfl) ?_
        refine q_iconst hx hb dL_act_58 ?_
        refine q_iald (j := 0) hx hb hK (fl_blk hP 4 rfl) 0 rfl (by omega) dL_act_59 ?_
        refine q_if_ne (tgt := 260) hx hb dL_act_60 (by decide) (by omega) (fun c_60 => ?_) (fun c_60 => ?_)
        · skip
          exact K_260 (by omega) (by omega)
        · skip
          exact K_63 
  refine lv_iload_n hx hb dL_act_0 rfl (lv_at hl 3 rfl) ?_
  refine lv_iload_n hx hb dL_act_1 rfl (lv_at hl 2 rfl) ?_
  refine q_bipush hx hb dL_act_2 (by decide) ?_
  refine q_ishr (F := x9) (k := 11) hx hb (by omega) dL_act_4 ?_
  refine q_iconst hx hb dL_act_5 ?_
  refine q_readi (va_runS (As := [.int (qI ((((x9) / 2 ^ (11) : Nat) : Int))), .int (qI (3))]) (rest := [.int (qI (p3))]) ⟨hx, hb, hml, hown, hg⟩ (c_L_at l D cy _ _ ((x9) / 2 ^ (11)) 3 (by omega) (by omega)) (cs_L_36 hg rfl rfl ⟨(Nat.le_of_ble_eq_true rfl), (Nat.le_of_ble_eq_true rfl)⟩) ⟨q_blind0, q_preR _ hK hN hP [] rfl⟩ rfl rfl hl.1 rfl (lv_room (Nat.le_of_ble_eq_true rfl)) dL_act_6 ⟨(show 0 + 0 ≤ 412 by omega), (show 0 + 0 ≤ 4558 by omega)⟩) (fun r_6 h_6 => ?_)
  subst h_6
  refine q_if_ne (tgt := 18) hx hb dL_act_9 (by decide) (by omega) (fun c_9 => ?_) (fun c_9 => ?_)
  · skip
    refine q_bipush hx hb dL_act_18 (by decide) ?_
    refine q_readi (va_runS (As := [.int (qI (p3)), .int (qI (121))]) (rest := []) ⟨hx, hb, hml, hown, hg⟩ (c_L_at l D cy _ _ y9 121 (by omega) (by omega)) (cs_L_36 hg rfl rfl ⟨(Nat.le_of_ble_eq_true rfl), (Nat.le_of_ble_eq_true rfl)⟩) ⟨q_blind0, q_preR _ hK hN hP [] rfl⟩ rfl rfl hl.1 rfl (lv_room (Nat.le_of_ble_eq_true rfl)) dL_act_20 ⟨(show 0 + 0 ≤ 412 by omega), (show 0 + 0 ≤ 4558 by omega)⟩) (fun r_20 h_20 => ?_)
    subst h_20
    refine lv_iload_n hx hb dL_act_23 rfl (lv_at hl 2 rfl) ?_
    refine q_bipush hx hb dL_act_24 (by decide) ?_
    refine q_ishr (F := x9) (k := 11) hx hb (by omega) dL_act_26 ?_
    refine q_iconst hx hb dL_act_27 ?_
    refine q_readi (va_runS (As := [.int (qI ((((x9) / 2 ^ (11) : Nat) : Int))), .int (qI (3))]) (rest := [.int (qI (((y9 / 2 % 121 : Nat) : Int)))]) ⟨hx, hb, hml, hown, hg⟩ (c_L_at l D cy _ _ ((x9) / 2 ^ (11)) 3 (by omega) (by omega)) (cs_L_36 hg rfl rfl ⟨(Nat.le_of_ble_eq_true rfl), (Nat.le_of_ble_eq_true rfl)⟩) ⟨q_blind0, q_preR _ hK hN hP [] rfl⟩ rfl rfl hl.1 rfl (lv_room (Nat.le_of_ble_eq_true rfl)) dL_act_28 ⟨(show 0 + 0 ≤ 412 by omega), (show 0 + 0 ≤ 4558 by omega)⟩) (fun r_28 h_28 => ?_)
    subst h_28
    refine q_if_ne (tgt := 40) hx hb dL_act_31 (by decide) (by omega) (fun c_31 => ?_) (fun c_31 => ?_)
    · skip
      refine q_bipush hx hb dL_act_40 (by decide) ?_
      refine q_isub hx hb dL_act_42 ?_
      exact K_43 ((((y9 / 2 % 121 : Nat) : Int)) - (60)) (by omega)
    · skip
      refine q_sipush hx hb dL_act_34 (by decide) ?_
      refine lv_goto (tgt := 42) hx hb dL_act_37 (by decide) ?_
      refine q_isub hx hb dL_act_42 ?_
      exact K_43 ((((y9 / 2 % 121 : Nat) : Int)) - (1000)) (by omega)
  · skip
    refine q_sipush hx hb dL_act_12 (by decide) ?_
    refine lv_goto (tgt := 20) hx hb dL_act_15 (by decide) ?_
    refine q_readi (va_runS (As := [.int (qI (p3)), .int (qI (2001))]) (rest := []) ⟨hx, hb, hml, hown, hg⟩ (c_L_at l D cy _ _ y9 2001 (by omega) (by omega)) (cs_L_36 hg rfl rfl ⟨(Nat.le_of_ble_eq_true rfl), (Nat.le_of_ble_eq_true rfl)⟩) ⟨q_blind0, q_preR _ hK hN hP [] rfl⟩ rfl rfl hl.1 rfl (lv_room (Nat.le_of_ble_eq_true rfl)) dL_act_20 ⟨(show 0 + 0 ≤ 412 by omega), (show 0 + 0 ≤ 4558 by omega)⟩) (fun r_20 h_20 => ?_)
    subst h_20
    refine lv_iload_n hx hb dL_act_23 rfl (lv_at hl 2 rfl) ?_
    refine q_bipush hx hb dL_act_24 (by decide) ?_
    refine q_ishr (F := x9) (k := 11) hx hb (by omega) dL_act_26 ?_
    refine q_iconst hx hb dL_act_27 ?_
    refine q_readi (va_runS (As := [.int (qI ((((x9) / 2 ^ (11) : Nat) : Int))), .int (qI (3))]) (rest := [.int (qI (((y9 / 2 % 2001 : Nat) : Int)))]) ⟨hx, hb, hml, hown, hg⟩ (c_L_at l D cy _ _ ((x9) / 2 ^ (11)) 3 (by omega) (by omega)) (cs_L_36 hg rfl rfl ⟨(Nat.le_of_ble_eq_true rfl), (Nat.le_of_ble_eq_true rfl)⟩) ⟨q_blind0, q_preR _ hK hN hP [] rfl⟩ rfl rfl hl.1 rfl (lv_room (Nat.le_of_ble_eq_true rfl)) dL_act_28 ⟨(show 0 + 0 ≤ 412 by omega), (show 0 + 0 ≤ 4558 by omega)⟩) (fun r_28 h_28 => ?_)
    subst h_28
    refine q_if_ne (tgt := 40) hx hb dL_act_31 (by decide) (by omega) (fun c_31 => ?_) (fun c_31 => ?_)
    · skip
      refine q_bipush hx hb dL_act_40 (by decide) ?_
      refine q_isub hx hb dL_act_42 ?_
      exact K_43 ((((y9 / 2 % 2001 : Nat) : Int)) - (60)) (by omega)
    · skip
      refine q_sipush hx hb dL_act_34 (by decide) ?_
      refine lv_goto (tgt := 42) hx hb dL_act_37 (by decide) ?_
      refine q_isub hx hb dL_act_42 ?_
      exact K_43 ((((y9 / 2 % 2001 : Nat) : Int)) - (1000)) (by omega)
