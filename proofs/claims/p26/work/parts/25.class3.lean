set_option maxRecDepth 100000 in
set_option maxHeartbeats 4000000 in
theorem c_X7_placeProperty (l : Launch) (D : va_G) (cy : Nat → ClassId) (x la lv9 ls9 fa xh xs la2 lv92 ls92 fb fw bu ta : Nat) (rc re gb oc oe rs rc2 re2 gb2 oc2 oe2 rs2 rr : Nat → Nat) (ad : Nat → Nat → Nat) (kw : Bool) (len : Int) (v st : Nat → Int) (C : Nat → Nat → Int) (nc : Nat) (E : Nat → Nat → Int) (ne : Nat) (tt : Int) (M : Nat → Nat → Int) (FC : Nat) (mgC tnC : Nat → Int) (FE : Nat) (mgE tnE : Nat → Int) (hF : fCan C nc E ne (-1) M FC mgC tnC FE mgE) (hE : qWR E ne) (hC : qWR C nc) (he : ne ≤ 16) (hc : nc ≤ 16) (hV : qV v) (hst : ∀ i, i < 10 → 0 ≤ st i ∧ st i ≤ 9) (z9 w9 : Int) (k : Nat) (hk : z9 = (k : Int) ∧ k < 10) (hw9 : 0 ≤ w9 ∧ w9 ≤ 5) : qRd l yX7_placeProperty (.code yX7_placeProperty cX7_placeProperty 3 (some .int)) 2 [.ref (x), .int (qI (z9)), .int (qI (w9))] D cy [[(x, .inr (7, [.ref (la), .ref (fa), .ref (xh), .ref (la2), .ref (fb), .ref (fw), .int (qz (kw)), .ref (bu), .int (qI (len)), .ref (ta)]))], [(la, .inr (3, [.ref (lv9), .ref (ls9), .ref (rc 0), .ref (re 0)]))], [(lv9, aI cy 10 (v))], [(ls9, aI cy 10 (st))], qRu cy rc (C) (((nc : Nat) : Int)), qRu cy re (E) (((ne : Nat) : Int)), [(fa, .inr (1, [.ref (gb 0), .ref (oc 0), .ref (oe 0), .ref (rs 0), .int (qI (tt))]))], qBo cy gb (M)] (vp_Si (fun r => r = qI (plA v st C nc E ne k w9))) := by
  refine q_ofRi (by decide +kernel) (Nat.le_of_ble_eq_true rfl) ?_
  intro p e s m args below meth c Q hx hb hml hown hg hQ hK hN hP ls hl
  have hown : s.vm.findClass RX7 = some m.cls := hown
  have hl : lv_has ls 3 [(0, .ref (x)), (1, .int (qI (z9))), (2, .int (qI (w9)))] := hl
  have hk1 := hk.1
  have hk2 := hk.2
  refine lv_iload_n hx hb dX7_placeProperty_0 rfl (lv_at hl 2 rfl) ?_
  rcases (show w9 = 0 ∨ w9 = 1 ∨ w9 = 2 ∨ w9 = 3 ∨ w9 = 4 ∨ (w9 < 0 ∨ 4 < w9) by omega) with c_1 | c_1 | c_1 | c_1 | c_1 | c_1
  · refine q_tableIn (off := 35) (tgt := 36) hx hb (0) c_1 dX7_placeProperty_1 (by decide) ?_
    refine lv_aload_n hx hb dX7_placeProperty_36 rfl (lv_at hl 0 rfl) ?_
    refine gf_X7_12 hx hb hg hown hK (fl_blk hP 0 rfl) 0 rfl rfl dX7_placeProperty_37 ?_
    refine gf_X7_138 hx hb hg hown hK (fl_blk hP 1 rfl) 0 rfl rfl dX7_placeProperty_40 ?_
    refine lv_iload_n hx hb dX7_placeProperty_43 rfl (lv_at hl 1 rfl) ?_
    refine q_iald (j := k) hx hb hK (fl_blk hP 2 rfl) 0 rfl (by omega) dX7_placeProperty_44 ?_
    exact hQ _ _ _ (congrArg qI (by rw [show w9 = 0 by omega]; rfl)) dX7_placeProperty_45
  · refine q_tableIn (off := 45) (tgt := 46) hx hb (1) c_1 dX7_placeProperty_1 (by decide) ?_
    refine lv_aload_n hx hb dX7_placeProperty_46 rfl (lv_at hl 0 rfl) ?_
    refine gf_X7_12 hx hb hg hown hK (fl_blk hP 0 rfl) 0 rfl rfl dX7_placeProperty_47 ?_
    refine gf_X7_122 hx hb hg hown hK (fl_blk hP 1 rfl) 0 rfl rfl dX7_placeProperty_50 ?_
    refine lv_iload_n hx hb dX7_placeProperty_53 rfl (lv_at hl 1 rfl) ?_
    refine q_iald (j := k) hx hb hK (fl_blk hP 3 rfl) 0 rfl (by omega) dX7_placeProperty_54 ?_
    exact hQ _ _ _ (congrArg qI (by rw [show w9 = 1 by omega]; rfl)) dX7_placeProperty_55
  · refine q_tableIn (off := 55) (tgt := 56) hx hb (2) c_1 dX7_placeProperty_1 (by decide) ?_
    refine lv_aload_n hx hb dX7_placeProperty_56 rfl (lv_at hl 0 rfl) ?_
    refine gf_X7_19 hx hb hg hown hK (fl_blk hP 0 rfl) 0 rfl rfl dX7_placeProperty_57 ?_
    refine gf_X7_182 hx hb hg hown hK (fl_blk hP 6 rfl) 0 rfl rfl dX7_placeProperty_60 ?_
    refine lv_iload_n hx hb dX7_placeProperty_63 rfl (lv_at hl 1 rfl) ?_
    refine q_bipush hx hb dX7_placeProperty_64 (by decide) ?_
    refine q_readi (va_runV (As := [.int (qI (z9)), .int (qI (10))]) (rest := []) ⟨hx, hb, hml, hown, hg⟩ (c_X0_least l D cy (gb) (M) _ _ k 10 (by omega) (by omega)) (cv_X7_276 hg rfl rfl ⟨by decide, by decide⟩) ⟨q_blind0, va_recv hK (fl_blk hP 7 rfl) (ci := 0) (q0 := 0) rfl rfl, q_preR _ hK hN hP [7] rfl⟩ rfl rfl hl.1 rfl (lv_room (Nat.le_of_ble_eq_true rfl)) dX7_placeProperty_66 ⟨by decide, by decide⟩) (fun r_66 h_66 => ?_)
    subst h_66
    exact hQ _ _ _ (congrArg qI (by rw [show w9 = 2 by omega]; rw [hF.1 10 k (by omega) (by omega)]; rfl)) dX7_placeProperty_69
  · refine q_tableIn (off := 69) (tgt := 70) hx hb (3) c_1 dX7_placeProperty_1 (by decide) ?_
    refine lv_aload_n hx hb dX7_placeProperty_70 rfl (lv_at hl 0 rfl) ?_
    refine gf_X7_19 hx hb hg hown hK (fl_blk hP 0 rfl) 0 rfl rfl dX7_placeProperty_71 ?_
    refine gf_X7_182 hx hb hg hown hK (fl_blk hP 6 rfl) 0 rfl rfl dX7_placeProperty_74 ?_
    refine lv_iload_n hx hb dX7_placeProperty_77 rfl (lv_at hl 1 rfl) ?_
    refine q_bipush hx hb dX7_placeProperty_78 (by decide) ?_
    refine q_readi (va_runV (As := [.int (qI (z9)), .int (qI (10))]) (rest := []) ⟨hx, hb, hml, hown, hg⟩ (c_X0_greatest l D cy (gb) (M) _ _ k 10 (by omega) (by omega)) (cv_X7_186 hg rfl rfl ⟨by decide, by decide⟩) ⟨q_blind0, va_recv hK (fl_blk hP 7 rfl) (ci := 0) (q0 := 0) rfl rfl, q_preR _ hK hN hP [7] rfl⟩ rfl rfl hl.1 rfl (lv_room (Nat.le_of_ble_eq_true rfl)) dX7_placeProperty_80 ⟨by decide, by decide⟩) (fun r_80 h_80 => ?_)
    subst h_80
    exact hQ _ _ _ (congrArg qI (by rw [show w9 = 3 by omega]; rw [hF.1 k 10 (by omega) (by omega)]; rfl)) dX7_placeProperty_83
  · refine q_tableIn (off := 83) (tgt := 84) hx hb (4) c_1 dX7_placeProperty_1 (by decide) ?_
    refine lv_aload_n hx hb dX7_placeProperty_84 rfl (lv_at hl 0 rfl) ?_
    refine gf_X7_12 hx hb hg hown hK (fl_blk hP 0 rfl) 0 rfl rfl dX7_placeProperty_85 ?_
    refine gf_X7_71 hx hb hg hown hK (fl_blk hP 1 rfl) 0 rfl rfl dX7_placeProperty_88 ?_
    refine lv_iload_n hx hb dX7_placeProperty_91 rfl (lv_at hl 1 rfl) ?_
    refine q_readi (va_runV (As := [.int (qI (z9))]) (rest := []) ⟨hx, hb, hml, hown, hg⟩ (c_X5_rowsWith l D cy (rc) (C) nc _ (by omega) hc hC) (cv_X7_279 hg rfl rfl ⟨by decide, by decide⟩) ⟨q_blind0, va_recv hK (fl_blk hP 4 rfl) (ci := 5) (q0 := 0) rfl rfl, q_preR _ hK hN hP [4] rfl⟩ rfl rfl hl.1 rfl (lv_room (Nat.le_of_ble_eq_true rfl)) dX7_placeProperty_92 ⟨by decide, by decide⟩) (fun r_92 h_92 => ?_)
    subst h_92
    exact hQ _ _ _ (congrArg qI (by rw [show w9 = 4 by omega]; rw [hk.1]; rfl)) dX7_placeProperty_95
  · refine q_tableOut (tgt := 96) hx hb dX7_placeProperty_1 (by decide) (by omega) ?_
    refine lv_aload_n hx hb dX7_placeProperty_96 rfl (lv_at hl 0 rfl) ?_
    refine gf_X7_12 hx hb hg hown hK (fl_blk hP 0 rfl) 0 rfl rfl dX7_placeProperty_97 ?_
    refine lv_iload_n hx hb dX7_placeProperty_100 rfl (lv_at hl 1 rfl) ?_
    refine q_readi (va_runV (As := [.int (qI (z9))]) (rest := []) ⟨hx, hb, hml, hown, hg⟩ (c_X3_editOf l D cy la lv9 ls9 rc re E ne _ (by omega) he hE) (cv_X7_128 hg rfl rfl ⟨by decide, by decide⟩) ⟨q_blind0, va_recv hK (fl_blk hP 1 rfl) (ci := 3) (q0 := 0) rfl rfl, q_preR _ hK hN hP [1, 5] rfl⟩ rfl rfl hl.1 rfl (lv_room (Nat.le_of_ble_eq_true rfl)) dX7_placeProperty_101 ⟨by decide, by decide⟩) (fun r_101 h_101 => ?_)
    subst h_101
    exact hQ _ _ _ (congrArg qI (by rw [show w9 = 5 by omega]; rw [hk.1]; rfl)) dX7_placeProperty_104

set_option maxRecDepth 100000 in
set_option maxHeartbeats 4000000 in
theorem c_X7_conditionProperty (l : Launch) (D : va_G) (cy : Nat → ClassId) (x la lv9 ls9 fa xh xs la2 lv92 ls92 fb fw bu ta : Nat) (rc re gb oc oe rs rc2 re2 gb2 oc2 oe2 rs2 rr : Nat → Nat) (ad : Nat → Nat → Nat) (kw : Bool) (len : Int) (v st : Nat → Int) (C : Nat → Nat → Int) (nc : Nat) (E : Nat → Nat → Int) (ne : Nat) (tt : Int) (M : Nat → Nat → Int) (FC : Nat) (mgC tnC : Nat → Int) (FE : Nat) (mgE tnE : Nat → Int) (hF : fCan C nc E ne (-1) M FC mgC tnC FE mgE) (hE : qWR E ne) (hC : qWR C nc) (he : ne ≤ 16) (hc : nc ≤ 16) (hV : qV v) (hst : ∀ i, i < 10 → 0 ≤ st i ∧ st i ≤ 9) (w9 : Int) (wo : Nat → Int) (hwo : w9 = 8 → kWo C nc E ne wo nc) (z9 : Int) (k : Nat) (hk : z9 = (k : Int) ∧ k < nc) (hw9 : 0 ≤ w9 ∧ w9 ≤ 9) : qRd l yX7_conditionProperty (.code yX7_conditionProperty cX7_conditionProperty 3 (some .int)) 3 [.ref (x), .int (qI (z9)), .int (qI (w9))] D cy [[(x, .inr (7, [.ref (la), .ref (fa), .ref (xh), .ref (la2), .ref (fb), .ref (fw), .int (qz (kw)), .ref (bu), .int (qI (len)), .ref (ta)]))], [(la, .inr (3, [.ref (lv9), .ref (ls9), .ref (rc 0), .ref (re 0)]))], [(lv9, aI cy 10 (v))], qRu cy rc (C) (((nc : Nat) : Int)), [(fa, .inr (1, [.ref (gb 0), .ref (oc 0), .ref (oe 0), .ref (rs 0), .int (qI (tt))]))], qOu cy oc (((FC : Nat) : Int)) (mgC) (tnC), [(fw, aI cy 16 (wo))]] (vp_Si (fun r => r = qI (coA v C nc E ne k w9))) := by
  refine q_ofRi (by decide +kernel) (Nat.le_of_ble_eq_true rfl) ?_
  intro p e s m args below meth c Q hx hb hml hown hg hQ hK hN hP ls hl
  have hown : s.vm.findClass RX7 = some m.cls := hown
  have hl : lv_has ls 3 [(0, .ref (x)), (1, .int (qI (z9))), (2, .int (qI (w9)))] := hl
  have hk1 := hk.1
  have hk2 := hk.2
  refine lv_iload_n hx hb dX7_conditionProperty_0 rfl (lv_at hl 2 rfl) ?_
  rcases (show w9 = 0 ∨ w9 = 1 ∨ w9 = 2 ∨ w9 = 3 ∨ w9 = 4 ∨ w9 = 5 ∨ w9 = 6 ∨ w9 = 7 ∨ w9 = 8 ∨ (w9 < 0 ∨ 8 < w9) by omega) with c_1 | c_1 | c_1 | c_1 | c_1 | c_1 | c_1 | c_1 | c_1 | c_1
  · refine q_tableIn (off := 51) (tgt := 52) hx hb (0) c_1 dX7_conditionProperty_1 (by decide) ?_
    refine lv_aload_n hx hb dX7_conditionProperty_52 rfl (lv_at hl 0 rfl) ?_
    refine gf_X7_12 hx hb hg hown hK (fl_blk hP 0 rfl) 0 rfl rfl dX7_conditionProperty_53 ?_
    refine gf_X7_71 hx hb hg hown hK (fl_blk hP 1 rfl) 0 rfl rfl dX7_conditionProperty_56 ?_
    refine gf_X7_282 hx hb hg hown hK (fl_blk hP 3 rfl) 0 rfl rfl dX7_conditionProperty_59 ?_
    refine lv_iload_n hx hb dX7_conditionProperty_62 rfl (lv_at hl 1 rfl) ?_
    refine q_iald (j := k) hx hb hK (fl_blk hP 3 rfl) 1 rfl (by omega) dX7_conditionProperty_63 ?_
    exact hQ _ _ _ (congrArg qI (by rw [show w9 = 0 by omega]; rfl)) dX7_conditionProperty_64
  · refine q_tableIn (off := 64) (tgt := 65) hx hb (1) c_1 dX7_conditionProperty_1 (by decide) ?_
    refine lv_aload_n hx hb dX7_conditionProperty_65 rfl (lv_at hl 0 rfl) ?_
    refine gf_X7_12 hx hb hg hown hK (fl_blk hP 0 rfl) 0 rfl rfl dX7_conditionProperty_66 ?_
    refine gf_X7_71 hx hb hg hown hK (fl_blk hP 1 rfl) 0 rfl rfl dX7_conditionProperty_69 ?_
    refine gf_X7_285 hx hb hg hown hK (fl_blk hP 3 rfl) 0 rfl rfl dX7_conditionProperty_72 ?_
    refine lv_iload_n hx hb dX7_conditionProperty_75 rfl (lv_at hl 1 rfl) ?_
    refine q_iald (j := k) hx hb hK (fl_blk hP 3 rfl) 2 rfl (by omega) dX7_conditionProperty_76 ?_
    exact hQ _ _ _ (congrArg qI (by rw [show w9 = 1 by omega]; rfl)) dX7_conditionProperty_77
  · refine q_tableIn (off := 77) (tgt := 78) hx hb (2) c_1 dX7_conditionProperty_1 (by decide) ?_
    refine lv_aload_n hx hb dX7_conditionProperty_78 rfl (lv_at hl 0 rfl) ?_
    refine gf_X7_12 hx hb hg hown hK (fl_blk hP 0 rfl) 0 rfl rfl dX7_conditionProperty_79 ?_
    refine gf_X7_71 hx hb hg hown hK (fl_blk hP 1 rfl) 0 rfl rfl dX7_conditionProperty_82 ?_
    refine gf_X7_288 hx hb hg hown hK (fl_blk hP 3 rfl) 0 rfl rfl dX7_conditionProperty_85 ?_
    refine lv_iload_n hx hb dX7_conditionProperty_88 rfl (lv_at hl 1 rfl) ?_
    refine q_iald (j := k) hx hb hK (fl_blk hP 3 rfl) 3 rfl (by omega) dX7_conditionProperty_89 ?_
    exact hQ _ _ _ (congrArg qI (by rw [show w9 = 2 by omega]; rfl)) dX7_conditionProperty_90
  · refine q_tableIn (off := 90) (tgt := 91) hx hb (3) c_1 dX7_conditionProperty_1 (by decide) ?_
    refine lv_aload_n hx hb dX7_conditionProperty_91 rfl (lv_at hl 0 rfl) ?_
    refine gf_X7_12 hx hb hg hown hK (fl_blk hP 0 rfl) 0 rfl rfl dX7_conditionProperty_92 ?_
    refine gf_X7_71 hx hb hg hown hK (fl_blk hP 1 rfl) 0 rfl rfl dX7_conditionProperty_95 ?_
    refine gf_X7_119 hx hb hg hown hK (fl_blk hP 3 rfl) 0 rfl rfl dX7_conditionProperty_98 ?_
    refine lv_iload_n hx hb dX7_conditionProperty_101 rfl (lv_at hl 1 rfl) ?_
    refine q_iald (j := k) hx hb hK (fl_blk hP 3 rfl) 4 rfl (by omega) dX7_conditionProperty_102 ?_
    exact hQ _ _ _ (congrArg qI (by rw [show w9 = 3 by omega]; rfl)) dX7_conditionProperty_103
  · refine q_tableIn (off := 103) (tgt := 104) hx hb (4) c_1 dX7_conditionProperty_1 (by decide) ?_
    refine lv_aload_n hx hb dX7_conditionProperty_104 rfl (lv_at hl 0 rfl) ?_
    refine gf_X7_12 hx hb hg hown hK (fl_blk hP 0 rfl) 0 rfl rfl dX7_conditionProperty_105 ?_
    refine gf_X7_71 hx hb hg hown hK (fl_blk hP 1 rfl) 0 rfl rfl dX7_conditionProperty_108 ?_
    refine gf_X7_112 hx hb hg hown hK (fl_blk hP 3 rfl) 0 rfl rfl dX7_conditionProperty_111 ?_
    refine lv_iload_n hx hb dX7_conditionProperty_114 rfl (lv_at hl 1 rfl) ?_
    refine q_iald (j := k) hx hb hK (fl_blk hP 3 rfl) 5 rfl (by omega) dX7_conditionProperty_115 ?_
    exact hQ _ _ _ (congrArg qI (by rw [show w9 = 4 by omega]; rfl)) dX7_conditionProperty_116
  · refine q_tableIn (off := 116) (tgt := 117) hx hb (5) c_1 dX7_conditionProperty_1 (by decide) ?_
    refine lv_aload_n hx hb dX7_conditionProperty_117 rfl (lv_at hl 0 rfl) ?_
    refine gf_X7_19 hx hb hg hown hK (fl_blk hP 0 rfl) 0 rfl rfl dX7_conditionProperty_118 ?_
    refine gf_X7_98 hx hb hg hown hK (fl_blk hP 4 rfl) 0 rfl rfl dX7_conditionProperty_121 ?_
    refine lv_iload_n hx hb dX7_conditionProperty_124 rfl (lv_at hl 1 rfl) ?_
    refine q_readi (va_runV (As := [.int (qI (z9))]) (rest := []) ⟨hx, hb, hml, hown, hg⟩ (c_X4_filledOneO l D cy oc FC (mgC) (tnC) hF.2.1.1 _ k (by omega)) (cv_X7_102 hg rfl rfl ⟨by decide, by decide⟩) ⟨q_blind0, va_recv hK (fl_blk hP 5 rfl) (ci := 4) (q0 := 0) rfl rfl, q_preR _ hK hN hP [5] rfl⟩ rfl rfl hl.1 rfl (lv_room (Nat.le_of_ble_eq_true rfl)) dX7_conditionProperty_125 ⟨by decide, by decide⟩) (fun r_125 h_125 => ?_)
    subst h_125
    exact hQ _ _ _ (congrArg qI (by rw [show w9 = 5 by omega]; show ((FC.testBit k).toNat : Int) = _; rw [hF.2.1.2 k]; rfl)) dX7_conditionProperty_128
  · refine q_tableIn (off := 128) (tgt := 129) hx hb (6) c_1 dX7_conditionProperty_1 (by decide) ?_
    refine lv_aload_n hx hb dX7_conditionProperty_129 rfl (lv_at hl 0 rfl) ?_
    refine gf_X7_19 hx hb hg hown hK (fl_blk hP 0 rfl) 0 rfl rfl dX7_conditionProperty_130 ?_
    refine gf_X7_98 hx hb hg hown hK (fl_blk hP 4 rfl) 0 rfl rfl dX7_conditionProperty_133 ?_
    refine gf_X7_291 hx hb hg hown hK (fl_blk hP 5 rfl) 0 rfl rfl dX7_conditionProperty_136 ?_
    refine lv_iload_n hx hb dX7_conditionProperty_139 rfl (lv_at hl 1 rfl) ?_
    refine q_iald (j := k) hx hb hK (fl_blk hP 5 rfl) 1 rfl (by omega) dX7_conditionProperty_140 ?_
    exact hQ _ _ _ (congrArg qI (by rw [show w9 = 6 by omega]; exact (hF.2.2.1 k hk2 (by omega)).1)) dX7_conditionProperty_141
  · refine q_tableIn (off := 141) (tgt := 142) hx hb (7) c_1 dX7_conditionProperty_1 (by decide) ?_
    refine lv_aload_n hx hb dX7_conditionProperty_142 rfl (lv_at hl 0 rfl) ?_
    refine gf_X7_19 hx hb hg hown hK (fl_blk hP 0 rfl) 0 rfl rfl dX7_conditionProperty_143 ?_
    refine gf_X7_98 hx hb hg hown hK (fl_blk hP 4 rfl) 0 rfl rfl dX7_conditionProperty_146 ?_
    refine gf_X7_294 hx hb hg hown hK (fl_blk hP 5 rfl) 0 rfl rfl dX7_conditionProperty_149 ?_
    refine lv_iload_n hx hb dX7_conditionProperty_152 rfl (lv_at hl 1 rfl) ?_
    refine q_iald (j := k) hx hb hK (fl_blk hP 5 rfl) 2 rfl (by omega) dX7_conditionProperty_153 ?_
    exact hQ _ _ _ (congrArg qI (by rw [show w9 = 7 by omega]; exact (hF.2.2.1 k hk2 (by omega)).2)) dX7_conditionProperty_154
  · refine q_tableIn (off := 154) (tgt := 155) hx hb (8) c_1 dX7_conditionProperty_1 (by decide) ?_
    refine lv_aload_n hx hb dX7_conditionProperty_155 rfl (lv_at hl 0 rfl) ?_
    refine lv_iload_n hx hb dX7_conditionProperty_156 rfl (lv_at hl 1 rfl) ?_
    refine q_readi (va_runV (As := [.int (qI (z9))]) (rest := []) ⟨hx, hb, hml, hown, hg⟩ (c_X7_culpritsOf l D cy x la lv9 ls9 fa xh xs la2 lv92 ls92 fb fw bu ta rc re gb oc oe rs rc2 re2 gb2 oc2 oe2 rs2 rr ad (kw) (len) v st C nc E ne tt M FC mgC tnC FE mgE tnE hF hE hC he hc wo (hwo (by omega)) _ k (by omega)) (cv_X7_297 hg rfl rfl ⟨by decide, by decide⟩) ⟨q_blind0, va_recv hK (fl_blk hP 0 rfl) (ci := 7) (q0 := 0) rfl rfl, q_preR _ hK hN hP [0, 4, 5, 1, 3, 6] rfl⟩ rfl rfl hl.1 rfl (lv_room (Nat.le_of_ble_eq_true rfl)) dX7_conditionProperty_157 ⟨by decide, by decide⟩) (fun r_157 h_157 => ?_)
    subst h_157
    exact hQ _ _ _ (congrArg qI (by rw [show w9 = 8 by omega]; rfl)) dX7_conditionProperty_160
  · refine q_tableOut (tgt := 161) hx hb dX7_conditionProperty_1 (by decide) (by omega) ?_
    refine lv_aload_n hx hb dX7_conditionProperty_161 rfl (lv_at hl 0 rfl) ?_
    refine gf_X7_12 hx hb hg hown hK (fl_blk hP 0 rfl) 0 rfl rfl dX7_conditionProperty_162 ?_
    refine lv_iload_n hx hb dX7_conditionProperty_165 rfl (lv_at hl 1 rfl) ?_
    refine q_readz (va_runV (As := [.int (qI (z9))]) (rest := []) ⟨hx, hb, hml, hown, hg⟩ (c_X3_holds l D cy la lv9 ls9 rc re v C nc hV hC hc _ k (by omega)) (cv_X7_300 hg rfl rfl ⟨by decide, by decide⟩) ⟨q_blind0, va_recv hK (fl_blk hP 1 rfl) (ci := 3) (q0 := 0) rfl rfl, q_preR _ hK hN hP [1, 2, 3] rfl⟩ rfl rfl hl.1 rfl (lv_room (Nat.le_of_ble_eq_true rfl)) dX7_conditionProperty_166 ⟨by decide, by decide⟩) (fun b_166 h_166 => ?_)
    refine q_ifz_eq (tgt := 176) hx hb dX7_conditionProperty_169 (by decide) (fun c_169 => ?_) (fun c_169 => ?_)
    · skip
      have g_169 := mt (h_166).mpr (by rw [c_169]; decide)
      refine q_iconst hx hb dX7_conditionProperty_176 ?_
      exact hQ _ _ _ (congrArg qI (by rw [show w9 = 9 by omega]; show _ = ((hoB v C k).toNat : Int); rw [show hoB v C k = false from Bool.eq_false_iff.mpr (fun q => g_169 (chB_iff.mp q))]; rfl)) dX7_conditionProperty_177
    · skip
      have g_169 := (h_166).mp c_169
      refine q_iconst hx hb dX7_conditionProperty_172 ?_
      refine lv_goto (tgt := 177) hx hb dX7_conditionProperty_173 (by decide) ?_
      exact hQ _ _ _ (congrArg qI (by rw [show w9 = 9 by omega]; show _ = ((hoB v C k).toNat : Int); rw [show hoB v C k = true from chB_iff.mpr g_169]; rfl)) dX7_conditionProperty_177

set_option maxRecDepth 100000 in
set_option maxHeartbeats 4000000 in
theorem c_X7_editProperty (l : Launch) (D : va_G) (cy : Nat → ClassId) (x la lv9 ls9 fa xh xs la2 lv92 ls92 fb fw bu ta : Nat) (rc re gb oc oe rs rc2 re2 gb2 oc2 oe2 rs2 rr : Nat → Nat) (ad : Nat → Nat → Nat) (kw : Bool) (len : Int) (v st : Nat → Int) (C : Nat → Nat → Int) (nc : Nat) (E : Nat → Nat → Int) (ne : Nat) (tt : Int) (M : Nat → Nat → Int) (FC : Nat) (mgC tnC : Nat → Int) (FE : Nat) (mgE tnE : Nat → Int) (hF : fCan C nc E ne (-1) M FC mgC tnC FE mgE) (hE : qWR E ne) (hC : qWR C nc) (he : ne ≤ 16) (hc : nc ≤ 16) (z9 w9 : Int) (k : Nat) (hk : z9 = (k : Int) ∧ k < ne) (hw9 : 0 ≤ w9 ∧ w9 ≤ 4) : qRd l yX7_editProperty (.code yX7_editProperty cX7_editProperty 3 (some .int)) 2 [.ref (x), .int (qI (z9)), .int (qI (w9))] D cy [[(x, .inr (7, [.ref (la), .ref (fa), .ref (xh), .ref (la2), .ref (fb), .ref (fw), .int (qz (kw)), .ref (bu), .int (qI (len)), .ref (ta)]))], [(la, .inr (3, [.ref (lv9), .ref (ls9), .ref (rc 0), .ref (re 0)]))], qRu cy re (E) (((ne : Nat) : Int)), [(fa, .inr (1, [.ref (gb 0), .ref (oc 0), .ref (oe 0), .ref (rs 0), .int (qI (tt))]))], qOu cy oe (((FE : Nat) : Int)) (mgE) (tnE)] (vp_Si (fun r => r = qI (edA C nc E ne k w9))) := by
  refine q_ofRi (by decide +kernel) (Nat.le_of_ble_eq_true rfl) ?_
  intro p e s m args below meth c Q hx hb hml hown hg hQ hK hN hP ls hl
  have hown : s.vm.findClass RX7 = some m.cls := hown
  have hl : lv_has ls 3 [(0, .ref (x)), (1, .int (qI (z9))), (2, .int (qI (w9)))] := hl
  have hk1 := hk.1
  have hk2 := hk.2
  refine lv_iload_n hx hb dX7_editProperty_0 rfl (lv_at hl 2 rfl) ?_
  rcases (show w9 = 0 ∨ w9 = 1 ∨ w9 = 2 ∨ w9 = 3 ∨ (w9 < 0 ∨ 3 < w9) by omega) with c_1 | c_1 | c_1 | c_1 | c_1
  · refine q_tableIn (off := 31) (tgt := 32) hx hb (0) c_1 dX7_editProperty_1 (by decide) ?_
    refine lv_aload_n hx hb dX7_editProperty_32 rfl (lv_at hl 0 rfl) ?_
    refine gf_X7_12 hx hb hg hown hK (fl_blk hP 0 rfl) 0 rfl rfl dX7_editProperty_33 ?_
    refine gf_X7_131 hx hb hg hown hK (fl_blk hP 1 rfl) 0 rfl rfl dX7_editProperty_36 ?_
    refine gf_X7_282 hx hb hg hown hK (fl_blk hP 2 rfl) 0 rfl rfl dX7_editProperty_39 ?_
    refine lv_iload_n hx hb dX7_editProperty_42 rfl (lv_at hl 1 rfl) ?_
    refine q_iald (j := k) hx hb hK (fl_blk hP 2 rfl) 1 rfl (by omega) dX7_editProperty_43 ?_
    exact hQ _ _ _ (congrArg qI (by rw [show w9 = 0 by omega]; rfl)) dX7_editProperty_44
  · refine q_tableIn (off := 44) (tgt := 45) hx hb (1) c_1 dX7_editProperty_1 (by decide) ?_
    refine lv_aload_n hx hb dX7_editProperty_45 rfl (lv_at hl 0 rfl) ?_
    refine gf_X7_12 hx hb hg hown hK (fl_blk hP 0 rfl) 0 rfl rfl dX7_editProperty_46 ?_
    refine gf_X7_131 hx hb hg hown hK (fl_blk hP 1 rfl) 0 rfl rfl dX7_editProperty_49 ?_
    refine gf_X7_119 hx hb hg hown hK (fl_blk hP 2 rfl) 0 rfl rfl dX7_editProperty_52 ?_
    refine lv_iload_n hx hb dX7_editProperty_55 rfl (lv_at hl 1 rfl) ?_
    refine q_iald (j := k) hx hb hK (fl_blk hP 2 rfl) 4 rfl (by omega) dX7_editProperty_56 ?_
    exact hQ _ _ _ (congrArg qI (by rw [show w9 = 1 by omega]; rfl)) dX7_editProperty_57
  · refine q_tableIn (off := 57) (tgt := 58) hx hb (2) c_1 dX7_editProperty_1 (by decide) ?_
    refine lv_aload_n hx hb dX7_editProperty_58 rfl (lv_at hl 0 rfl) ?_
    refine gf_X7_12 hx hb hg hown hK (fl_blk hP 0 rfl) 0 rfl rfl dX7_editProperty_59 ?_
    refine gf_X7_131 hx hb hg hown hK (fl_blk hP 1 rfl) 0 rfl rfl dX7_editProperty_62 ?_
    refine gf_X7_112 hx hb hg hown hK (fl_blk hP 2 rfl) 0 rfl rfl dX7_editProperty_65 ?_
    refine lv_iload_n hx hb dX7_editProperty_68 rfl (lv_at hl 1 rfl) ?_
    refine q_iald (j := k) hx hb hK (fl_blk hP 2 rfl) 5 rfl (by omega) dX7_editProperty_69 ?_
    exact hQ _ _ _ (congrArg qI (by rw [show w9 = 2 by omega]; rfl)) dX7_editProperty_70
  · refine q_tableIn (off := 70) (tgt := 71) hx hb (3) c_1 dX7_editProperty_1 (by decide) ?_
    refine lv_aload_n hx hb dX7_editProperty_71 rfl (lv_at hl 0 rfl) ?_
    refine gf_X7_19 hx hb hg hown hK (fl_blk hP 0 rfl) 0 rfl rfl dX7_editProperty_72 ?_
    refine gf_X7_303 hx hb hg hown hK (fl_blk hP 3 rfl) 0 rfl rfl dX7_editProperty_75 ?_
    refine lv_iload_n hx hb dX7_editProperty_78 rfl (lv_at hl 1 rfl) ?_
    refine q_readi (va_runV (As := [.int (qI (z9))]) (rest := []) ⟨hx, hb, hml, hown, hg⟩ (c_X4_filledOneO l D cy oe FE (mgE) (tnE) hF.2.2.2.1.1 _ k (by omega)) (cv_X7_102 hg rfl rfl ⟨by decide, by decide⟩) ⟨q_blind0, va_recv hK (fl_blk hP 4 rfl) (ci := 4) (q0 := 0) rfl rfl, q_preR _ hK hN hP [4] rfl⟩ rfl rfl hl.1 rfl (lv_room (Nat.le_of_ble_eq_true rfl)) dX7_editProperty_79 ⟨by decide, by decide⟩) (fun r_79 h_79 => ?_)
    subst h_79
    exact hQ _ _ _ (congrArg qI (by rw [show w9 = 3 by omega]; show ((FE.testBit k).toNat : Int) = _; rw [hF.2.2.2.1.2 k]; rfl)) dX7_editProperty_82
  · refine q_tableOut (tgt := 83) hx hb dX7_editProperty_1 (by decide) (by omega) ?_
    refine lv_aload_n hx hb dX7_editProperty_83 rfl (lv_at hl 0 rfl) ?_
    refine gf_X7_19 hx hb hg hown hK (fl_blk hP 0 rfl) 0 rfl rfl dX7_editProperty_84 ?_
    refine gf_X7_303 hx hb hg hown hK (fl_blk hP 3 rfl) 0 rfl rfl dX7_editProperty_87 ?_
    refine gf_X7_291 hx hb hg hown hK (fl_blk hP 4 rfl) 0 rfl rfl dX7_editProperty_90 ?_
    refine lv_iload_n hx hb dX7_editProperty_93 rfl (lv_at hl 1 rfl) ?_
    refine q_iald (j := k) hx hb hK (fl_blk hP 4 rfl) 1 rfl (by omega) dX7_editProperty_94 ?_
    exact hQ _ _ _ (congrArg qI (by rw [show w9 = 4 by omega]; exact hF.2.2.2.2 k hk2)) dX7_editProperty_95

theorem qHi_obj {cy : Nat → ClassId} {h hs : Nat} {ad : Nat → Nat → Nat} {nx hz : Nat} {Z : Nat → LSt} : (qHi cy h hs ad nx hz Z)[0]? = some (h, .inr (2, [.ref hs, .int (qI (nx : Int)), .int (qI (hz : Int))])) := rfl

set_option maxRecDepth 100000 in
set_option maxHeartbeats 4000000 in
theorem c_X7_countOf (l : Launch) (D : va_G) (cy : Nat → ClassId) (x la lv9 ls9 fa xh xs la2 lv92 ls92 fb fw bu ta : Nat) (rc re gb oc oe rs rc2 re2 gb2 oc2 oe2 rs2 rr : Nat → Nat) (ad : Nat → Nat → Nat) (kw : Bool) (len : Int) (v st : Nat → Int) (C : Nat → Nat → Int) (nc : Nat) (E : Nat → Nat → Int) (ne : Nat) (tt : Int) (M : Nat → Nat → Int) (FC : Nat) (mgC tnC : Nat → Int) (FE : Nat) (mgE tnE : Nat → Int) (hF : fCan C nc E ne (-1) M FC mgC tnC FE mgE) (hE : qWR E ne) (hC : qWR C nc) (he : ne ≤ 16) (hc : nc ≤ 16) (hV : qV v) (hst : ∀ i, i < 10 → 0 ≤ st i ∧ st i ≤ 9) (nx hz : Nat) (Z : Nat → LSt) (w9 : Int) (hw9 : 0 ≤ w9 ∧ w9 ≤ 7) : qRd l yX7_countOf (.code yX7_countOf cX7_countOf 2 (some .int)) 4 [.ref (x), .int (qI (w9))] D cy [[(x, .inr (7, [.ref (la), .ref (fa), .ref (xh), .ref (la2), .ref (fb), .ref (fw), .int (qz (kw)), .ref (bu), .int (qI (len)), .ref (ta)]))], [(la, .inr (3, [.ref (lv9), .ref (ls9), .ref (rc 0), .ref (re 0)]))], [(lv9, aI cy 10 (v))], qRu cy rc (C) (((nc : Nat) : Int)), qRu cy re (E) (((ne : Nat) : Int)), [(fa, .inr (1, [.ref (gb 0), .ref (oc 0), .ref (oe 0), .ref (rs 0), .int (qI (tt))]))], qBo cy gb (M), qOu cy oc (((FC : Nat) : Int)) (mgC) (tnC), qOu cy oe (((FE : Nat) : Int)) (mgE) (tnE), qHi cy xh xs ad nx hz Z] (vp_Si (fun r => r = qI (ctA v C nc E ne hz w9))) := by
  refine q_ofRi (by decide +kernel) (Nat.le_of_ble_eq_true rfl) ?_
  intro p e s m args below meth c Q hx hb hml hown hg hQ hK hN hP ls hl
  have hown : s.vm.findClass RX7 = some m.cls := hown
  have hl : lv_has ls 2 [(0, .ref (x)), (1, .int (qI (w9)))] := hl
  refine lv_iload_n hx hb dX7_countOf_0 rfl (lv_at hl 1 rfl) ?_
  rcases (show w9 = 0 ∨ w9 = 1 ∨ w9 = 2 ∨ w9 = 3 ∨ w9 = 4 ∨ w9 = 5 ∨ w9 = 6 ∨ (w9 < 0 ∨ 6 < w9) by omega) with c_1 | c_1 | c_1 | c_1 | c_1 | c_1 | c_1 | c_1
  · refine q_tableIn (off := 43) (tgt := 44) hx hb (0) c_1 dX7_countOf_1 (by decide) ?_
    refine lv_aload_n hx hb dX7_countOf_44 rfl (lv_at hl 0 rfl) ?_
    refine gf_X7_12 hx hb hg hown hK (fl_blk hP 0 rfl) 0 rfl rfl dX7_countOf_45 ?_
    refine gf_X7_71 hx hb hg hown hK (fl_blk hP 1 rfl) 0 rfl rfl dX7_countOf_48 ?_
    refine gf_X7_75 hx hb hg hown hK (fl_blk hP 3 rfl) 0 rfl rfl dX7_countOf_51 ?_
    exact hQ _ _ _ (congrArg qI (by rw [show w9 = 0 by omega]; rfl)) dX7_countOf_54
  · refine q_tableIn (off := 54) (tgt := 55) hx hb (1) c_1 dX7_countOf_1 (by decide) ?_
    refine lv_aload_n hx hb dX7_countOf_55 rfl (lv_at hl 0 rfl) ?_
    refine gf_X7_19 hx hb hg hown hK (fl_blk hP 0 rfl) 0 rfl rfl dX7_countOf_56 ?_
    refine gf_X7_98 hx hb hg hown hK (fl_blk hP 5 rfl) 0 rfl rfl dX7_countOf_59 ?_
    refine gf_X7_267 hx hb hg hown hK (fl_blk hP 7 rfl) 0 rfl rfl dX7_countOf_62 ?_
    refine q_readi (va_runS (As := [.int (qI (((FC : Nat) : Int)))]) (rest := []) ⟨hx, hb, hml, hown, hg⟩ (c_J6_bitCount_0f7a4 l D cy _ FC (by omega) hF.2.1.1) (cs_X7_204 hg rfl rfl ⟨by decide, by decide⟩) ⟨q_blind0, q_preR _ hK hN hP [] rfl⟩ rfl rfl hl.1 rfl (lv_room (Nat.le_of_ble_eq_true rfl)) dX7_countOf_65 ⟨by decide, by decide⟩) (fun r_65 h_65 => ?_)
    subst h_65
    exact hQ _ _ _ (congrArg qI (by rw [show w9 = 1 by omega]; show (cnt FC.testBit 16 : Int) = _; rw [funext hF.2.1.2]; rfl)) dX7_countOf_68
  · refine q_tableIn (off := 68) (tgt := 69) hx hb (2) c_1 dX7_countOf_1 (by decide) ?_
    refine lv_aload_n hx hb dX7_countOf_69 rfl (lv_at hl 0 rfl) ?_
    refine gf_X7_12 hx hb hg hown hK (fl_blk hP 0 rfl) 0 rfl rfl dX7_countOf_70 ?_
    refine gf_X7_131 hx hb hg hown hK (fl_blk hP 1 rfl) 0 rfl rfl dX7_countOf_73 ?_
    refine gf_X7_75 hx hb hg hown hK (fl_blk hP 4 rfl) 0 rfl rfl dX7_countOf_76 ?_
    exact hQ _ _ _ (congrArg qI (by rw [show w9 = 2 by omega]; rfl)) dX7_countOf_79
  · refine q_tableIn (off := 79) (tgt := 80) hx hb (3) c_1 dX7_countOf_1 (by decide) ?_
    refine lv_aload_n hx hb dX7_countOf_80 rfl (lv_at hl 0 rfl) ?_
    refine gf_X7_19 hx hb hg hown hK (fl_blk hP 0 rfl) 0 rfl rfl dX7_countOf_81 ?_
    refine gf_X7_303 hx hb hg hown hK (fl_blk hP 5 rfl) 0 rfl rfl dX7_countOf_84 ?_
    refine gf_X7_267 hx hb hg hown hK (fl_blk hP 8 rfl) 0 rfl rfl dX7_countOf_87 ?_
    refine q_readi (va_runS (As := [.int (qI (((FE : Nat) : Int)))]) (rest := []) ⟨hx, hb, hml, hown, hg⟩ (c_J6_bitCount_0f7a4 l D cy _ FE (by omega) hF.2.2.2.1.1) (cs_X7_204 hg rfl rfl ⟨by decide, by decide⟩) ⟨q_blind0, q_preR _ hK hN hP [] rfl⟩ rfl rfl hl.1 rfl (lv_room (Nat.le_of_ble_eq_true rfl)) dX7_countOf_90 ⟨by decide, by decide⟩) (fun r_90 h_90 => ?_)
    subst h_90
    exact hQ _ _ _ (congrArg qI (by rw [show w9 = 3 by omega]; show (cnt FE.testBit 16 : Int) = _; rw [funext hF.2.2.2.1.2]; rfl)) dX7_countOf_93
  · refine q_tableIn (off := 93) (tgt := 94) hx hb (4) c_1 dX7_countOf_1 (by decide) ?_
    refine lv_aload_n hx hb dX7_countOf_94 rfl (lv_at hl 0 rfl) ?_
    refine gf_X7_26 hx hb hg hown hK (fl_blk hP 0 rfl) 0 rfl rfl dX7_countOf_95 ?_
    refine gf_X7_165 hx hb hg hown hK (fl_blk hP 9 rfl) 0 rfl rfl dX7_countOf_98 ?_
    exact hQ _ _ _ (congrArg qI (by rw [show w9 = 4 by omega]; rfl)) dX7_countOf_101
  · refine q_tableIn (off := 101) (tgt := 102) hx hb (5) c_1 dX7_countOf_1 (by decide) ?_
    refine lv_aload_n hx hb dX7_countOf_102 rfl (lv_at hl 0 rfl) ?_
    refine q_readi (va_runV (As := []) (rest := []) ⟨hx, hb, hml, hown, hg⟩ (c_X7_fixedPlaces l D cy x la lv9 ls9 fa xh xs la2 lv92 ls92 fb fw bu ta rc re gb oc oe rs rc2 re2 gb2 oc2 oe2 rs2 rr ad (kw) (len) v st C nc E ne tt M FC mgC tnC FE mgE tnE hF hE hC he hc) (cv_X7_306 hg rfl rfl ⟨by decide, by decide⟩) ⟨q_blind0, va_recv hK (fl_blk hP 0 rfl) (ci := 7) (q0 := 0) rfl rfl, q_preR _ hK hN hP [0, 5, 6] rfl⟩ rfl rfl hl.1 rfl (lv_room (Nat.le_of_ble_eq_true rfl)) dX7_countOf_103 ⟨by decide, by decide⟩) (fun r_103 h_103 => ?_)
    subst h_103
    exact hQ _ _ _ (congrArg qI (by rw [show w9 = 5 by omega]; rfl)) dX7_countOf_106
  · refine q_tableIn (off := 106) (tgt := 107) hx hb (6) c_1 dX7_countOf_1 (by decide) ?_
    refine lv_aload_n hx hb dX7_countOf_107 rfl (lv_at hl 0 rfl) ?_
    refine q_readi (va_runV (As := []) (rest := []) ⟨hx, hb, hml, hown, hg⟩ (c_X7_conditionsThatHold l D cy x la lv9 ls9 fa xh xs la2 lv92 ls92 fb fw bu ta rc re gb oc oe rs rc2 re2 gb2 oc2 oe2 rs2 rr ad (kw) (len) v st C nc E ne hE hC he hc hV) (cv_X7_309 hg rfl rfl ⟨by decide, by decide⟩) ⟨q_blind0, va_recv hK (fl_blk hP 0 rfl) (ci := 7) (q0 := 0) rfl rfl, q_preR _ hK hN hP [0, 1, 2, 3] rfl⟩ rfl rfl hl.1 rfl (lv_room (Nat.le_of_ble_eq_true rfl)) dX7_countOf_108 ⟨by decide, by decide⟩) (fun r_108 h_108 => ?_)
    subst h_108
    exact hQ _ _ _ (congrArg qI (by rw [show w9 = 6 by omega]; rfl)) dX7_countOf_111
  · refine q_tableOut (tgt := 112) hx hb dX7_countOf_1 (by decide) (by omega) ?_
    refine lv_aload_n hx hb dX7_countOf_112 rfl (lv_at hl 0 rfl) ?_
    refine q_readi (va_runV (As := []) (rest := []) ⟨hx, hb, hml, hown, hg⟩ (c_X7_sumOfValues l D cy x la lv9 ls9 fa xh xs la2 lv92 ls92 fb fw bu ta rc re gb oc oe rs rc2 re2 gb2 oc2 oe2 rs2 rr ad (kw) (len) v st C nc E ne hV) (cv_X7_312 hg rfl rfl ⟨by decide, by decide⟩) ⟨q_blind0, va_recv hK (fl_blk hP 0 rfl) (ci := 7) (q0 := 0) rfl rfl, q_preR _ hK hN hP [0, 1, 2] rfl⟩ rfl rfl hl.1 rfl (lv_room (Nat.le_of_ble_eq_true rfl)) dX7_countOf_113 ⟨by decide, by decide⟩) (fun r_113 h_113 => ?_)
    subst h_113
    exact hQ _ _ _ (congrArg qI (by rw [show w9 = 7 by omega]; rfl)) dX7_countOf_116

theorem stW_cong {C C1 : Nat → Nat → Int} {k nc : Nat} {s : Int} (h : ∀ f i, f < 5 → i < nc → (f ≠ 4 ∨ i ≠ k) → C1 f i = C f i) : ∀ f i, f < 5 → i < nc → qu C1 4 (qu (C1 4) k s) f i = stW C k s f i := by
  intro f i hf hi
  unfold stW
  by_cases e : f = 4
  · subst e
    rw [qu_s, qu_s]
    by_cases e2 : i = k
    · subst e2
      rw [qu_s, qu_s]
    · rw [qu_n _ _ e2, qu_n _ _ e2]
      exact h 4 i hf hi (Or.inr e2)
  · rw [qu_n _ _ e, qu_n _ _ e]
    exact h f i hf hi (Or.inl e)
theorem stW_keep {C C1 : Nat → Nat → Int} {k nc : Nat} {s : Int} (h : ∀ f i, f < 5 → i < nc → (f ≠ 4 ∨ i ≠ k) → C1 f i = C f i) : ∀ f i, f < 5 → i < nc → (f ≠ 4 ∨ i ≠ k) → qu C1 4 (qu (C1 4) k s) f i = C f i := by
  intro f i hf hi hfi
  by_cases e : f = 4
  · subst e
    rw [qu_s, qu_n _ _ (by omega)]
    exact h 4 i hf hi hfi
  · rw [qu_n _ _ e]
    exact h f i hf hi hfi
theorem qWR_cong {C C1 : Nat → Nat → Int} {n : Nat} (h : ∀ f i, f < 5 → i < n → C1 f i = C f i) (hW : qWR C n) : qWR C1 n := by
  intro i hi
  have := hW i hi
  rw [h 0 i (by decide) hi, h 1 i (by decide) hi, h 2 i (by decide) hi, h 3 i (by decide) hi, h 4 i (by decide) hi]
  exact this
theorem qWR_stW {C : Nat → Nat → Int} {n k : Nat} {s : Int} (hW : qWR C n) (hs : 0 ≤ s ∧ s ≤ 3) : qWR (stW C k s) n := by
  intro i hi
  have h := hW i hi
  unfold stW
  rw [qu_n _ _ (by decide), qu_n _ _ (by decide), qu_n _ _ (by decide), qu_n _ _ (by decide), qu_s]
  refine ⟨h.1, h.2.1, h.2.2.1, h.2.2.2.1, ?_, h.2.2.2.2.2⟩
  by_cases e : i = k
  · subst e
    rw [qu_s]
    exact hs
  · rw [qu_n _ _ e]
    exact h.2.2.2.2.1
theorem nsA_at {C : Nat → Nat → Int} {nc : Nat} {E : Nat → Nat → Int} {ne k : Nat} : ∀ {j : Nat}, j < 4 → (∀ i : Nat, i < j → okS C nc E ne k (i : Int) = false) → okS C nc E ne k (j : Int) = true → nsA C nc E ne k = (j : Int)
  | 0, _, _, ht => by unfold nsA; rw [if_pos (show okS C nc E ne k 0 = true from ht)]; rfl
  | 1, _, h, ht => by unfold nsA; rw [if_neg (by rw [show okS C nc E ne k 0 = false from h 0 (by decide)]; decide), if_pos (show okS C nc E ne k 1 = true from ht)]; rfl
  | 2, _, h, ht => by unfold nsA; rw [if_neg (by rw [show okS C nc E ne k 0 = false from h 0 (by decide)]; decide), if_neg (by rw [show okS C nc E ne k 1 = false from h 1 (by decide)]; decide), if_pos (show okS C nc E ne k 2 = true from ht)]; rfl
  | 3, _, h, ht => by unfold nsA; rw [if_neg (by rw [show okS C nc E ne k 0 = false from h 0 (by decide)]; decide), if_neg (by rw [show okS C nc E ne k 1 = false from h 1 (by decide)]; decide), if_neg (by rw [show okS C nc E ne k 2 = false from h 2 (by decide)]; decide), if_pos (show okS C nc E ne k 3 = true from ht)]; rfl
  | j + 4, hj, _, _ => by omega
theorem nsA_no {C : Nat → Nat → Int} {nc : Nat} {E : Nat → Nat → Int} {ne k : Nat} (h : ∀ i : Nat, i < 4 → okS C nc E ne k (i : Int) = false) : nsA C nc E ne k = -1 := by
  unfold nsA
  rw [if_neg (by rw [show okS C nc E ne k 0 = false from h 0 (by decide)]; decide), if_neg (by rw [show okS C nc E ne k 1 = false from h 1 (by decide)]; decide), if_neg (by rw [show okS C nc E ne k 2 = false from h 2 (by decide)]; decide), if_neg (by rw [show okS C nc E ne k 3 = false from h 3 (by decide)]; decide)]
theorem lt_step {p : Nat → Bool} {j : Nat} (h : ∀ i, i < j → p i = false) (hj : p j = false) : ∀ i, i < j + 1 → p i = false := fun i hi => by
  by_cases e : i = j
  · subst e; exact hj
  · exact h i (by omega)

set_option maxRecDepth 100000 in
set_option maxHeartbeats 4000000 in
theorem c_X7_leastFillingStrength (l : Launch) (D : va_G) (cy : Nat → ClassId) (x la lv9 ls9 fa xh xs la2 lv92 ls92 fb fw bu ta : Nat) (rc re gb oc oe rs rc2 re2 gb2 oc2 oe2 rs2 rr : Nat → Nat) (ad : Nat → Nat → Nat) (kw : Bool) (len : Int) (v st : Nat → Int) (C : Nat → Nat → Int) (nc : Nat) (E : Nat → Nat → Int) (ne : Nat) (hE : qWR E ne) (hC : qWR C nc) (he : ne ≤ 16) (hc : nc ≤ 16) (v2 st2 : Nat → Int) (C2 : Nat → Nat → Int) (n2 : Int) (E2 : Nat → Nat → Int) (m2 : Int) (t1 : Int) (M1 : Nat → Nat → Int) (F1 : Int) (g1 q1 : Nat → Int) (G1 : Int) (e1 y1 : Nat → Int) (z9 : Int) (k : Nat) (hk : z9 = (k : Int) ∧ k < nc) (sz : Nat) : qMet l yX7_leastFillingStrength (.code yX7_leastFillingStrength cX7_leastFillingStrength 3 (some .int)) 5 [.ref (x), .int (qI (z9))] D cy [[(x, .inr (7, [.ref (la), .ref (fa), .ref (xh), .ref (la2), .ref (fb), .ref (fw), .int (qz (kw)), .ref (bu), .int (qI (len)), .ref (ta)]))], [(la, .inr (3, [.ref (lv9), .ref (ls9), .ref (rc 0), .ref (re 0)]))], [(lv9, aI cy 10 (v))], [(ls9, aI cy 10 (st))], qRu cy rc (C) (((nc : Nat) : Int)), qRu cy re (E) (((ne : Nat) : Int)), [(la2, .inr (3, [.ref (lv92), .ref (ls92), .ref (rc2 0), .ref (re2 0)]))], [(lv92, aI cy 10 (v2))], [(ls92, aI cy 10 (st2))], qRu cy rc2 (C2) (n2), qRu cy re2 (E2) (m2), [(fb, .inr (1, [.ref (gb2 0), .ref (oc2 0), .ref (oe2 0), .ref (rs2 0), .int (qI (t1))]))], qBo cy gb2 (M1), qOu cy oc2 (F1) (g1) (q1), qOu cy oe2 (G1) (e1) (y1)] sz (va_Qi (S := (Nat → Int) × (Nat → Int) × (Nat → Nat → Int) × (Int) × (Nat → Nat → Int) × (Int) × (Int) × (Nat → Nat → Int) × (Int) × (Nat → Int) × (Nat → Int) × (Int) × (Nat → Int) × (Nat → Int)) (fun r u => r = qI (nsA C nc E ne k)) (qB D cy [[(x, .inr (7, [.ref (la), .ref (fa), .ref (xh), .ref (la2), .ref (fb), .ref (fw), .int (qz (kw)), .ref (bu), .int (qI (len)), .ref (ta)]))], [(la, .inr (3, [.ref (lv9), .ref (ls9), .ref (rc 0), .ref (re 0)]))], [(lv9, aI cy 10 (v))], [(ls9, aI cy 10 (st))], qRu cy rc (C) (((nc : Nat) : Int)), qRu cy re (E) (((ne : Nat) : Int)), [(la2, .inr (3, [.ref (lv92), .ref (ls92), .ref (rc2 0), .ref (re2 0)]))], [(lv92, aI cy 10 (v2))], [(ls92, aI cy 10 (st2))], qRu cy rc2 (C2) (n2), qRu cy re2 (E2) (m2), [(fb, .inr (1, [.ref (gb2 0), .ref (oc2 0), .ref (oe2 0), .ref (rs2 0), .int (qI (t1))]))], qBo cy gb2 (M1), qOu cy oc2 (F1) (g1) (q1), qOu cy oe2 (G1) (e1) (y1)] sz (fun u => [[(x, .inr (7, [.ref (la), .ref (fa), .ref (xh), .ref (la2), .ref (fb), .ref (fw), .int (qz (kw)), .ref (bu), .int (qI (len)), .ref (ta)]))], [(la, .inr (3, [.ref (lv9), .ref (ls9), .ref (rc 0), .ref (re 0)]))], [(lv9, aI cy 10 (v))], [(ls9, aI cy 10 (st))], qRu cy rc (C) (((nc : Nat) : Int)), qRu cy re (E) (((ne : Nat) : Int)), [(la2, .inr (3, [.ref (lv92), .ref (ls92), .ref (rc2 0), .ref (re2 0)]))], [(lv92, aI cy 10 (u.1))], [(ls92, aI cy 10 (u.2.1))], qRu cy rc2 (u.2.2.1) (u.2.2.2.1 : Int), qRu cy re2 (u.2.2.2.2.1) (u.2.2.2.2.2.1 : Int), [(fb, .inr (1, [.ref (gb2 0), .ref (oc2 0), .ref (oe2 0), .ref (rs2 0), .int (qI (u.2.2.2.2.2.2.1))]))], qBo cy gb2 (u.2.2.2.2.2.2.2.1), qOu cy oc2 (u.2.2.2.2.2.2.2.2.1 : Int) (u.2.2.2.2.2.2.2.2.2.1) (u.2.2.2.2.2.2.2.2.2.2.1), qOu cy oe2 (u.2.2.2.2.2.2.2.2.2.2.2.1 : Int) (u.2.2.2.2.2.2.2.2.2.2.2.2.1) (u.2.2.2.2.2.2.2.2.2.2.2.2.2)])) (va_A [[(x, .inr (7, [.ref (la), .ref (fa), .ref (xh), .ref (la2), .ref (fb), .ref (fw), .int (qz (kw)), .ref (bu), .int (qI (len)), .ref (ta)]))], [(la, .inr (3, [.ref (lv9), .ref (ls9), .ref (rc 0), .ref (re 0)]))], [(lv9, aI cy 10 (v))], [(ls9, aI cy 10 (st))], qRu cy rc (C) (((nc : Nat) : Int)), qRu cy re (E) (((ne : Nat) : Int)), [(la2, .inr (3, [.ref (lv92), .ref (ls92), .ref (rc2 0), .ref (re2 0)]))], [(lv92, aI cy 10 (v2))], [(ls92, aI cy 10 (st2))], qRu cy rc2 (C2) (n2), qRu cy re2 (E2) (m2), [(fb, .inr (1, [.ref (gb2 0), .ref (oc2 0), .ref (oe2 0), .ref (rs2 0), .int (qI (t1))]))], qBo cy gb2 (M1), qOu cy oc2 (F1) (g1) (q1), qOu cy oe2 (G1) (e1) (y1)].flatten sz)) := by
  refine q_ofMi (S := (Nat → Int) × (Nat → Int) × (Nat → Nat → Int) × (Int) × (Nat → Nat → Int) × (Int) × (Int) × (Nat → Nat → Int) × (Int) × (Nat → Int) × (Nat → Int) × (Int) × (Nat → Int) × (Nat → Int)) (b1 := fun u => [[(x, .inr (7, [.ref (la), .ref (fa), .ref (xh), .ref (la2), .ref (fb), .ref (fw), .int (qz (kw)), .ref (bu), .int (qI (len)), .ref (ta)]))], [(la, .inr (3, [.ref (lv9), .ref (ls9), .ref (rc 0), .ref (re 0)]))], [(lv9, aI cy 10 (v))], [(ls9, aI cy 10 (st))], qRu cy rc (C) (((nc : Nat) : Int)), qRu cy re (E) (((ne : Nat) : Int)), [(la2, .inr (3, [.ref (lv92), .ref (ls92), .ref (rc2 0), .ref (re2 0)]))], [(lv92, aI cy 10 (u.1))], [(ls92, aI cy 10 (u.2.1))], qRu cy rc2 (u.2.2.1) (u.2.2.2.1 : Int), qRu cy re2 (u.2.2.2.2.1) (u.2.2.2.2.2.1 : Int), [(fb, .inr (1, [.ref (gb2 0), .ref (oc2 0), .ref (oe2 0), .ref (rs2 0), .int (qI (u.2.2.2.2.2.2.1))]))], qBo cy gb2 (u.2.2.2.2.2.2.2.1), qOu cy oc2 (u.2.2.2.2.2.2.2.2.1 : Int) (u.2.2.2.2.2.2.2.2.2.1) (u.2.2.2.2.2.2.2.2.2.2.1), qOu cy oe2 (u.2.2.2.2.2.2.2.2.2.2.2.1 : Int) (u.2.2.2.2.2.2.2.2.2.2.2.2.1) (u.2.2.2.2.2.2.2.2.2.2.2.2.2)]) (post := fun r u => r = qI (nsA C nc E ne k)) (by decide +kernel) (Nat.le_of_ble_eq_true rfl) ?_
  intro p e s m args below meth c Q A hx hb hml hown hg hQ hK hN hD hA H locs ls hP hS hl
  have hown : s.vm.findClass RX7 = some m.cls := hown
  have hl : lv_has ls 3 [(0, .ref (x)), (1, .int (qI (z9)))] := hl
  have hk1 := hk.1
  have hk2 := hk.2
  refine lv_aload_n hx hb dX7_leastFillingStrength_0 rfl (lv_at hl 0 rfl) ?_
  refine gf_X7_30 hx hb hg hown hK (fl_blk hP 0 rfl) 0 rfl rfl dX7_leastFillingStrength_1 ?_
  refine lv_aload_n hx hb dX7_leastFillingStrength_4 rfl (lv_at hl 0 rfl) ?_
  refine gf_X7_12 hx hb hg hown hK (fl_blk hP 0 rfl) 0 rfl rfl dX7_leastFillingStrength_5 ?_
  refine q_backv [6, 7, 8, 9, 10, 1, 2, 3, 4, 5] [0, 11, 12, 13, 14] (br := [[(x, .inr (7, [.ref (la), .ref (fa), .ref (xh), .ref (la2), .ref (fb), .ref (fw), .int (qz (kw)), .ref (bu), .int (qI (len)), .ref (ta)]))], [(fb, .inr (1, [.ref (gb2 0), .ref (oc2 0), .ref (oe2 0), .ref (rs2 0), .int (qI (t1))]))], qBo cy gb2 (M1), qOu cy oc2 (F1) (g1) (q1), qOu cy oe2 (G1) (e1) (y1)]) hP hD hS hA (va_runV (As := [.ref (la)]) (rest := []) ⟨hx, hb, hml, hown, hg⟩ (c_X3_copyFrom l D cy la2 lv92 ls92 rc2 re2 (v2) (st2) (C2) (n2) (E2) (m2) la lv9 ls9 rc re v st C nc E ne hc he _) (cv_X7_194 hg rfl rfl ⟨by decide, by decide⟩) ⟨q_blind, va_recv hK (fl_blk hP 6 rfl) (ci := 3) (q0 := 0) rfl rfl, q_preM _ hK hN hP hD [6, 7, 8, 9, 10, 1, 2, 3, 4, 5] (by decide) rfl⟩ rfl rfl hl.1 rfl (lv_room (Nat.le_of_ble_eq_true rfl)) dX7_leastFillingStrength_8 ⟨by decide, by decide⟩) rfl rfl (by decide) (fun u_8 H locs h_8 hP hD hS => ?_)
  have hP : va_P D vwCl [[(x, .inr (7, [.ref (la), .ref (fa), .ref (xh), .ref (la2), .ref (fb), .ref (fw), .int (qz (kw)), .ref (bu), .int (qI (len)), .ref (ta)]))], [(fb, .inr (1, [.ref (gb2 0), .ref (oc2 0), .ref (oe2 0), .ref (rs2 0), .int (qI (t1))]))], qBo cy gb2 (M1), qOu cy oc2 (F1) (g1) (q1), qOu cy oe2 (G1) (e1) (y1), [(la2, .inr (3, [.ref (lv92), .ref (ls92), .ref (rc2 0), .ref (re2 0)]))], [(lv92, aI cy 10 (u_8.1))], [(ls92, aI cy 10 (u_8.2.1))], qRu cy rc2 (u_8.2.2.1) (((nc : Nat) : Int)), qRu cy re2 (u_8.2.2.2.2.1) (((ne : Nat) : Int)), [(la, .inr (3, [.ref (lv9), .ref (ls9), .ref (rc 0), .ref (re 0)]))], [(lv9, aI cy 10 (v))], [(ls9, aI cy 10 (st))], qRu cy rc (C) (((nc : Nat) : Int)), qRu cy re (E) (((ne : Nat) : Int))].flatten H := hP
  have hD : va_D A [[(x, .inr (7, [.ref (la), .ref (fa), .ref (xh), .ref (la2), .ref (fb), .ref (fw), .int (qz (kw)), .ref (bu), .int (qI (len)), .ref (ta)]))], [(fb, .inr (1, [.ref (gb2 0), .ref (oc2 0), .ref (oe2 0), .ref (rs2 0), .int (qI (t1))]))], qBo cy gb2 (M1), qOu cy oc2 (F1) (g1) (q1), qOu cy oe2 (G1) (e1) (y1), [(la2, .inr (3, [.ref (lv92), .ref (ls92), .ref (rc2 0), .ref (re2 0)]))], [(lv92, aI cy 10 (u_8.1))], [(ls92, aI cy 10 (u_8.2.1))], qRu cy rc2 (u_8.2.2.1) (((nc : Nat) : Int)), qRu cy re2 (u_8.2.2.2.2.1) (((ne : Nat) : Int)), [(la, .inr (3, [.ref (lv9), .ref (ls9), .ref (rc 0), .ref (re 0)]))], [(lv9, aI cy 10 (v))], [(ls9, aI cy 10 (st))], qRu cy rc (C) (((nc : Nat) : Int)), qRu cy re (E) (((ne : Nat) : Int))].flatten := hD
  refine q_iconst hx hb dX7_leastFillingStrength_11 ?_
  refine lv_istore_n (lv' := [(2, .int (qI (0))), (0, .ref (x)), (1, .int (qI (z9)))]) hx hb dX7_leastFillingStrength_12 rfl hl (by decide) rfl (fun ls hl => ?_)
  have L_13 : ∀ (n_13 j : Nat) (w1 : Nat → Int) (w2 : Nat → Int) (C1 : Nat → Nat → Int) (E1 : Nat → Nat → Int) (t19 : Int) (M19 : Nat → Nat → Int) (F19 : Int) (g19 : Nat → Int) (q19 : Nat → Int) (G19 : Int) (e19 : Nat → Int) (y19 : Nat → Int), j ≤ 4 → 4 + 1 ≤ j + n_13 → (∀ f i, f < 5 → i < ne → E1 f i = E f i) → (∀ f i, f < 5 → i < nc → (f ≠ 4 ∨ i ≠ k) → C1 f i = C f i) → (∀ i : Nat, i < j → okS C nc E ne k (i : Int) = false) → ∀ (H : Heap) (locs : List Loc) (ls : Array Slot), va_P D vwCl [[(x, .inr (7, [.ref (la), .ref (fa), .ref (xh), .ref (la2), .ref (fb), .ref (fw), .int (qz (kw)), .ref (bu), .int (qI (len)), .ref (ta)]))], [(la, .inr (3, [.ref (lv9), .ref (ls9), .ref (rc 0), .ref (re 0)]))], [(lv9, aI cy 10 (v))], [(ls9, aI cy 10 (st))], qRu cy rc (C) (((nc : Nat) : Int)), qRu cy re (E) (((ne : Nat) : Int)), [(la2, .inr (3, [.ref (lv92), .ref (ls92), .ref (rc2 0), .ref (re2 0)]))], [(lv92, aI cy 10 (w1))], [(ls92, aI cy 10 (w2))], qRu cy rc2 (C1) (((nc : Nat) : Int)), qRu cy re2 (E1) (((ne : Nat) : Int)), [(fb, .inr (1, [.ref (gb2 0), .ref (oc2 0), .ref (oe2 0), .ref (rs2 0), .int (qI (t19))]))], qBo cy gb2 (M19), qOu cy oc2 (F19) (g19) (q19), qOu cy oe2 (G19) (e19) (y19)].flatten H → va_D A [[(x, .inr (7, [.ref (la), .ref (fa), .ref (xh), .ref (la2), .ref (fb), .ref (fw), .int (qz (kw)), .ref (bu), .int (qI (len)), .ref (ta)]))], [(la, .inr (3, [.ref (lv9), .ref (ls9), .ref (rc 0), .ref (re 0)]))], [(lv9, aI cy 10 (v))], [(ls9, aI cy 10 (st))], qRu cy rc (C) (((nc : Nat) : Int)), qRu cy re (E) (((ne : Nat) : Int)), [(la2, .inr (3, [.ref (lv92), .ref (ls92), .ref (rc2 0), .ref (re2 0)]))], [(lv92, aI cy 10 (w1))], [(ls92, aI cy 10 (w2))], qRu cy rc2 (C1) (((nc : Nat) : Int)), qRu cy re2 (E1) (((ne : Nat) : Int)), [(fb, .inr (1, [.ref (gb2 0), .ref (oc2 0), .ref (oe2 0), .ref (rs2 0), .int (qI (t19))]))], qBo cy gb2 (M19), qOu cy oc2 (F19) (g19) (q19), qOu cy oe2 (G19) (e19) (y19)].flatten → va_S A s.heap H locs → lv_has ls 3 [(0, .ref (x)), (1, .int (qI (z9))), (2, .int (qI (((j : Nat) : Int))))] → W p l e (qrm 5) s m args below meth c H locs 0 0 Q (F0 m 13 ls []) := by
    intro n_13
    induction n_13 with
    | zero => intro j _ _ _ _ _ _ _ _ _ _ _ _ h1 h2; exact absurd h2 (by omega)
    | succ n_13 ih_13 =>
      intro j w1 w2 C1 E1 t19 M19 F19 g19 q19 G19 e19 y19 hk_13 hn_13 hE1 hC1 hns H locs ls hP hD hS hl
      refine lv_iload_n hx hb dX7_leastFillingStrength_13 rfl (lv_at hl 2 rfl) ?_
      refine q_iconst hx hb dX7_leastFillingStrength_14 ?_
      refine q_icmp_gt (tgt := 66) hx hb dX7_leastFillingStrength_15 (by decide) (by omega) (fun c_15 => ?_) (fun c_15 => ?_)
      · skip
        refine q_iconst hx hb dX7_leastFillingStrength_66 ?_
        exact hQ _ _ _ _ _ (w1, w2, C1, ((nc : Nat) : Int), E1, ((ne : Nat) : Int), t19, M19, F19, g19, q19, G19, e19, y19) (congrArg qI (nsA_no (fun i hi => hns i (by omega))).symm) hP hD hS dX7_leastFillingStrength_67
      · skip
        refine lv_aload_n hx hb dX7_leastFillingStrength_18 rfl (lv_at hl 0 rfl) ?_
        refine gf_X7_30 hx hb hg hown hK (fl_blk hP 0 rfl) 0 rfl rfl dX7_leastFillingStrength_19 ?_
        refine gf_X7_71 hx hb hg hown hK (fl_blk hP 6 rfl) 0 rfl rfl dX7_leastFillingStrength_22 ?_
        refine gf_X7_112 hx hb hg hown hK (fl_blk hP 9 rfl) 0 rfl rfl dX7_leastFillingStrength_25 ?_
        refine lv_iload_n hx hb dX7_leastFillingStrength_28 rfl (lv_at hl 1 rfl) ?_
        refine lv_iload_n hx hb dX7_leastFillingStrength_29 rfl (lv_at hl 2 rfl) ?_
        refine qb_iast (j := k) hx hb hK hP hD hS 9 5 rfl rfl (by omega) dX7_leastFillingStrength_30 (fun H locs hP hD hS => ?_)
        have hP : va_P D vwCl [[(x, .inr (7, [.ref (la), .ref (fa), .ref (xh), .ref (la2), .ref (fb), .ref (fw), .int (qz (kw)), .ref (bu), .int (qI (len)), .ref (ta)]))], [(la, .inr (3, [.ref (lv9), .ref (ls9), .ref (rc 0), .ref (re 0)]))], [(lv9, aI cy 10 (v))], [(ls9, aI cy 10 (st))], qRu cy rc (C) (((nc : Nat) : Int)), qRu cy re (E) (((ne : Nat) : Int)), [(la2, .inr (3, [.ref (lv92), .ref (ls92), .ref (rc2 0), .ref (re2 0)]))], [(lv92, aI cy 10 (w1))], [(ls92, aI cy 10 (w2))], qRu cy rc2 (qu (C1) 4 (qu (C1 4) k (((j : Nat) : Int)))) (((nc : Nat) : Int)), qRu cy re2 (E1) (((ne : Nat) : Int)), [(fb, .inr (1, [.ref (gb2 0), .ref (oc2 0), .ref (oe2 0), .ref (rs2 0), .int (qI (t19))]))], qBo cy gb2 (M19), qOu cy oc2 (F19) (g19) (q19), qOu cy oe2 (G19) (e19) (y19)].flatten H := hP
        have hD : va_D A [[(x, .inr (7, [.ref (la), .ref (fa), .ref (xh), .ref (la2), .ref (fb), .ref (fw), .int (qz (kw)), .ref (bu), .int (qI (len)), .ref (ta)]))], [(la, .inr (3, [.ref (lv9), .ref (ls9), .ref (rc 0), .ref (re 0)]))], [(lv9, aI cy 10 (v))], [(ls9, aI cy 10 (st))], qRu cy rc (C) (((nc : Nat) : Int)), qRu cy re (E) (((ne : Nat) : Int)), [(la2, .inr (3, [.ref (lv92), .ref (ls92), .ref (rc2 0), .ref (re2 0)]))], [(lv92, aI cy 10 (w1))], [(ls92, aI cy 10 (w2))], qRu cy rc2 (qu (C1) 4 (qu (C1 4) k (((j : Nat) : Int)))) (((nc : Nat) : Int)), qRu cy re2 (E1) (((ne : Nat) : Int)), [(fb, .inr (1, [.ref (gb2 0), .ref (oc2 0), .ref (oe2 0), .ref (rs2 0), .int (qI (t19))]))], qBo cy gb2 (M19), qOu cy oc2 (F19) (g19) (q19), qOu cy oe2 (G19) (e19) (y19)].flatten := hD
        refine lv_aload_n hx hb dX7_leastFillingStrength_31 rfl (lv_at hl 0 rfl) ?_
        refine gf_X7_33 hx hb hg hown hK (fl_blk hP 0 rfl) 0 rfl rfl dX7_leastFillingStrength_32 ?_
        refine lv_aload_n hx hb dX7_leastFillingStrength_35 rfl (lv_at hl 0 rfl) ?_
        refine gf_X7_30 hx hb hg hown hK (fl_blk hP 0 rfl) 0 rfl rfl dX7_leastFillingStrength_36 ?_
        refine q_iconst hx hb dX7_leastFillingStrength_39 ?_
        have hE2 : qWR E1 ne := qWR_cong hE1 hE
        have hC2 : qWR (qu C1 4 (qu (C1 4) k ((j : Nat) : Int))) nc := qWR_cong (stW_cong hC1) (qWR_stW hC (by omega))
        refine q_backv [11, 12, 13, 14, 6, 9, 10] [0, 1, 2, 3, 4, 5, 7, 8] (br := [[(x, .inr (7, [.ref (la), .ref (fa), .ref (xh), .ref (la2), .ref (fb), .ref (fw), .int (qz (kw)), .ref (bu), .int (qI (len)), .ref (ta)]))], [(la, .inr (3, [.ref (lv9), .ref (ls9), .ref (rc 0), .ref (re 0)]))], [(lv9, aI cy 10 (v))], [(ls9, aI cy 10 (st))], qRu cy rc (C) (((nc : Nat) : Int)), qRu cy re (E) (((ne : Nat) : Int)), [(lv92, aI cy 10 (w1))], [(ls92, aI cy 10 (w2))]]) hP hD hS hA (va_runV (As := [.ref (la2), .int (qI (-1))]) (rest := []) ⟨hx, hb, hml, hown, hg⟩ (c_X1_fill l D cy fb gb2 oc2 oe2 (rs2 0) (t19) (M19) (F19) (g19) (q19) (G19) (e19) (y19) la2 lv92 ls92 rc2 re2 (qu (C1) 4 (qu (C1 4) k (((j : Nat) : Int)))) nc (E1) ne (-1) (by omega) hE2 hC2 he hc _) (cv_X7_197 hg rfl rfl ⟨by decide, by decide⟩) ⟨q_blind, va_recv hK (fl_blk hP 11 rfl) (ci := 1) (q0 := 0) rfl rfl, q_preM _ hK hN hP hD [11, 12, 13, 14, 6, 9, 10] (by decide) rfl⟩ rfl rfl hl.1 rfl (lv_room (Nat.le_of_ble_eq_true rfl)) dX7_leastFillingStrength_40 ⟨by decide, by decide⟩) rfl rfl (by decide) (fun u_40 H locs h_40 hP hD hS => ?_)
        have hP : va_P D vwCl [[(x, .inr (7, [.ref (la), .ref (fa), .ref (xh), .ref (la2), .ref (fb), .ref (fw), .int (qz (kw)), .ref (bu), .int (qI (len)), .ref (ta)]))], [(la, .inr (3, [.ref (lv9), .ref (ls9), .ref (rc 0), .ref (re 0)]))], [(lv9, aI cy 10 (v))], [(ls9, aI cy 10 (st))], qRu cy rc (C) (((nc : Nat) : Int)), qRu cy re (E) (((ne : Nat) : Int)), [(lv92, aI cy 10 (w1))], [(ls92, aI cy 10 (w2))], [(fb, .inr (1, [.ref (gb2 0), .ref (oc2 0), .ref (oe2 0), .ref (rs2 0), .int (qI (u_40.2.1))]))], qBo cy gb2 (u_40.1), qOu cy oc2 (u_40.2.2.1 : Int) (u_40.2.2.2.1) (u_40.2.2.2.2.1), qOu cy oe2 (u_40.2.2.2.2.2.1 : Int) (u_40.2.2.2.2.2.2.1) (u_40.2.2.2.2.2.2.2), [(la2, .inr (3, [.ref (lv92), .ref (ls92), .ref (rc2 0), .ref (re2 0)]))], qRu cy rc2 (qu (C1) 4 (qu (C1 4) k (((j : Nat) : Int)))) (((nc : Nat) : Int)), qRu cy re2 (E1) (((ne : Nat) : Int))].flatten H := hP
        have hD : va_D A [[(x, .inr (7, [.ref (la), .ref (fa), .ref (xh), .ref (la2), .ref (fb), .ref (fw), .int (qz (kw)), .ref (bu), .int (qI (len)), .ref (ta)]))], [(la, .inr (3, [.ref (lv9), .ref (ls9), .ref (rc 0), .ref (re 0)]))], [(lv9, aI cy 10 (v))], [(ls9, aI cy 10 (st))], qRu cy rc (C) (((nc : Nat) : Int)), qRu cy re (E) (((ne : Nat) : Int)), [(lv92, aI cy 10 (w1))], [(ls92, aI cy 10 (w2))], [(fb, .inr (1, [.ref (gb2 0), .ref (oc2 0), .ref (oe2 0), .ref (rs2 0), .int (qI (u_40.2.1))]))], qBo cy gb2 (u_40.1), qOu cy oc2 (u_40.2.2.1 : Int) (u_40.2.2.2.1) (u_40.2.2.2.2.1), qOu cy oe2 (u_40.2.2.2.2.2.1 : Int) (u_40.2.2.2.2.2.2.1) (u_40.2.2.2.2.2.2.2), [(la2, .inr (3, [.ref (lv92), .ref (ls92), .ref (rc2 0), .ref (re2 0)]))], qRu cy rc2 (qu (C1) 4 (qu (C1 4) k (((j : Nat) : Int)))) (((nc : Nat) : Int)), qRu cy re2 (E1) (((ne : Nat) : Int))].flatten := hD
        have h9 := fRel.can hE2 hC2 he hc h_40
        have ok9 : okS C nc E ne k ((j : Nat) : Int) = u_40.2.2.1.testBit k := by unfold okS; rw [h9.2.1.2 k, fil_cong hE1 (stW_cong hC1) (-1)]
        refine lv_aload_n hx hb dX7_leastFillingStrength_43 rfl (lv_at hl 0 rfl) ?_
        refine gf_X7_33 hx hb hg hown hK (fl_blk hP 0 rfl) 0 rfl rfl dX7_leastFillingStrength_44 ?_
        refine gf_X7_98 hx hb hg hown hK (fl_blk hP 8 rfl) 0 rfl rfl dX7_leastFillingStrength_47 ?_
        refine lv_iload_n hx hb dX7_leastFillingStrength_50 rfl (lv_at hl 1 rfl) ?_
        refine q_readi (va_runV (As := [.int (qI (z9))]) (rest := []) ⟨hx, hb, hml, hown, hg⟩ (c_X4_filledOneO l D cy oc2 u_40.2.2.1 (u_40.2.2.2.1) (u_40.2.2.2.2.1) h9.2.1.1 _ k (by omega)) (cv_X7_102 hg rfl rfl ⟨by decide, by decide⟩) ⟨q_blind0, va_recv hK (fl_blk hP 10 rfl) (ci := 4) (q0 := 0) rfl rfl, q_preR _ hK hN hP [10] rfl⟩ rfl rfl hl.1 rfl (lv_room (Nat.le_of_ble_eq_true rfl)) dX7_leastFillingStrength_51 ⟨by decide, by decide⟩) (fun r_51 h_51 => ?_)
        subst h_51
        have z1 : ((u_40.2.2.1.testBit k).toNat) < 2 := by cases u_40.2.2.1.testBit k <;> decide
        refine q_iconst hx hb dX7_leastFillingStrength_54 ?_
        refine q_icmp_ne (tgt := 60) hx hb dX7_leastFillingStrength_55 (by decide) (by omega) (fun c_55 => ?_) (fun c_55 => ?_)
        · skip
          refine q_iinc (k := 2) (lv' := [(2, .int (qI ((((j : Nat) : Int)) + (1)))), (0, .ref (x)), (1, .int (qI (z9)))]) hx hb dX7_leastFillingStrength_60 hl rfl (by decide) rfl (fun ls hl => ?_)
          refine lv_goto (tgt := 13) hx hb dX7_leastFillingStrength_63 (by decide) ?_
          have hP := fl_sub (bs' := [[(x, .inr (7, [.ref (la), .ref (fa), .ref (xh), .ref (la2), .ref (fb), .ref (fw), .int (qz (kw)), .ref (bu), .int (qI (len)), .ref (ta)]))], [(la, .inr (3, [.ref (lv9), .ref (ls9), .ref (rc 0), .ref (re 0)]))], [(lv9, aI cy 10 (v))], [(ls9, aI cy 10 (st))], qRu cy rc (C) (((nc : Nat) : Int)), qRu cy re (E) (((ne : Nat) : Int)), [(la2, .inr (3, [.ref (lv92), .ref (ls92), .ref (rc2 0), .ref (re2 0)]))], [(lv92, aI cy 10 (w1))], [(ls92, aI cy 10 (w2))], qRu cy rc2 (qu (C1) 4 (qu (C1 4) k (((j : Nat) : Int)))) (((nc : Nat) : Int)), qRu cy re2 (E1) (((ne : Nat) : Int)), [(fb, .inr (1, [.ref (gb2 0), .ref (oc2 0), .ref (oe2 0), .ref (rs2 0), .int (qI (u_40.2.1))]))], qBo cy gb2 (u_40.1), qOu cy oc2 (u_40.2.2.1 : Int) (u_40.2.2.2.1) (u_40.2.2.2.2.1), qOu cy oe2 (u_40.2.2.2.2.2.1 : Int) (u_40.2.2.2.2.2.2.1) (u_40.2.2.2.2.2.2.2)]) hP [0, 1, 2, 3, 4, 5, 12, 6, 7, 13, 14, 8, 9, 10, 11] rfl
          have hD := fl_subD (bs' := [[(x, .inr (7, [.ref (la), .ref (fa), .ref (xh), .ref (la2), .ref (fb), .ref (fw), .int (qz (kw)), .ref (bu), .int (qI (len)), .ref (ta)]))], [(la, .inr (3, [.ref (lv9), .ref (ls9), .ref (rc 0), .ref (re 0)]))], [(lv9, aI cy 10 (v))], [(ls9, aI cy 10 (st))], qRu cy rc (C) (((nc : Nat) : Int)), qRu cy re (E) (((ne : Nat) : Int)), [(la2, .inr (3, [.ref (lv92), .ref (ls92), .ref (rc2 0), .ref (re2 0)]))], [(lv92, aI cy 10 (w1))], [(ls92, aI cy 10 (w2))], qRu cy rc2 (qu (C1) 4 (qu (C1 4) k (((j : Nat) : Int)))) (((nc : Nat) : Int)), qRu cy re2 (E1) (((ne : Nat) : Int)), [(fb, .inr (1, [.ref (gb2 0), .ref (oc2 0), .ref (oe2 0), .ref (rs2 0), .int (qI (u_40.2.1))]))], qBo cy gb2 (u_40.1), qOu cy oc2 (u_40.2.2.1 : Int) (u_40.2.2.2.1) (u_40.2.2.2.2.1), qOu cy oe2 (u_40.2.2.2.2.2.1 : Int) (u_40.2.2.2.2.2.2.1) (u_40.2.2.2.2.2.2.2)]) hD [0, 1, 2, 3, 4, 5, 12, 6, 7, 13, 14, 8, 9, 10, 11] (by decide) rfl
          exact ih_13 (j + 1) _ _ _ _ _ _ _ _ _ _ _ _ (by omega) (by omega) hE1 (stW_keep hC1) (lt_step (p := fun i : Nat => okS C nc E ne k (i : Int)) hns (ok9.trans (tN0 c_55))) _ _ _ hP hD hS (lv_sub hl [1, 2, 0] rfl)
        · skip
          refine lv_iload_n hx hb dX7_leastFillingStrength_58 rfl (lv_at hl 2 rfl) ?_
          have hP := fl_sub (bs' := [[(x, .inr (7, [.ref (la), .ref (fa), .ref (xh), .ref (la2), .ref (fb), .ref (fw), .int (qz (kw)), .ref (bu), .int (qI (len)), .ref (ta)]))], [(la, .inr (3, [.ref (lv9), .ref (ls9), .ref (rc 0), .ref (re 0)]))], [(lv9, aI cy 10 (v))], [(ls9, aI cy 10 (st))], qRu cy rc (C) (((nc : Nat) : Int)), qRu cy re (E) (((ne : Nat) : Int)), [(la2, .inr (3, [.ref (lv92), .ref (ls92), .ref (rc2 0), .ref (re2 0)]))], [(lv92, aI cy 10 (w1))], [(ls92, aI cy 10 (w2))], qRu cy rc2 (qu (C1) 4 (qu (C1 4) k (((j : Nat) : Int)))) (((nc : Nat) : Int)), qRu cy re2 (E1) (((ne : Nat) : Int)), [(fb, .inr (1, [.ref (gb2 0), .ref (oc2 0), .ref (oe2 0), .ref (rs2 0), .int (qI (u_40.2.1))]))], qBo cy gb2 (u_40.1), qOu cy oc2 (u_40.2.2.1 : Int) (u_40.2.2.2.1) (u_40.2.2.2.2.1), qOu cy oe2 (u_40.2.2.2.2.2.1 : Int) (u_40.2.2.2.2.2.2.1) (u_40.2.2.2.2.2.2.2)]) hP [0, 1, 2, 3, 4, 5, 12, 6, 7, 13, 14, 8, 9, 10, 11] rfl
          have hD := fl_subD (bs' := [[(x, .inr (7, [.ref (la), .ref (fa), .ref (xh), .ref (la2), .ref (fb), .ref (fw), .int (qz (kw)), .ref (bu), .int (qI (len)), .ref (ta)]))], [(la, .inr (3, [.ref (lv9), .ref (ls9), .ref (rc 0), .ref (re 0)]))], [(lv9, aI cy 10 (v))], [(ls9, aI cy 10 (st))], qRu cy rc (C) (((nc : Nat) : Int)), qRu cy re (E) (((ne : Nat) : Int)), [(la2, .inr (3, [.ref (lv92), .ref (ls92), .ref (rc2 0), .ref (re2 0)]))], [(lv92, aI cy 10 (w1))], [(ls92, aI cy 10 (w2))], qRu cy rc2 (qu (C1) 4 (qu (C1 4) k (((j : Nat) : Int)))) (((nc : Nat) : Int)), qRu cy re2 (E1) (((ne : Nat) : Int)), [(fb, .inr (1, [.ref (gb2 0), .ref (oc2 0), .ref (oe2 0), .ref (rs2 0), .int (qI (u_40.2.1))]))], qBo cy gb2 (u_40.1), qOu cy oc2 (u_40.2.2.1 : Int) (u_40.2.2.2.1) (u_40.2.2.2.2.1), qOu cy oe2 (u_40.2.2.2.2.2.1 : Int) (u_40.2.2.2.2.2.2.1) (u_40.2.2.2.2.2.2.2)]) hD [0, 1, 2, 3, 4, 5, 12, 6, 7, 13, 14, 8, 9, 10, 11] (by decide) rfl
          exact hQ _ _ _ _ _ (w1, w2, qu C1 4 (qu (C1 4) k ((j : Nat) : Int)), (((nc : Nat) : Int)), E1, (((ne : Nat) : Int)), u_40.2.1, u_40.1, (u_40.2.2.1 : Int), u_40.2.2.2.1, u_40.2.2.2.2.1, (u_40.2.2.2.2.2.1 : Int), u_40.2.2.2.2.2.2.1, u_40.2.2.2.2.2.2.2) (congrArg qI (nsA_at (by omega) hns (ok9.trans (tN1 c_55))).symm) hP hD hS dX7_leastFillingStrength_59
  have hP := fl_sub (bs' := [[(x, .inr (7, [.ref (la), .ref (fa), .ref (xh), .ref (la2), .ref (fb), .ref (fw), .int (qz (kw)), .ref (bu), .int (qI (len)), .ref (ta)]))], [(la, .inr (3, [.ref (lv9), .ref (ls9), .ref (rc 0), .ref (re 0)]))], [(lv9, aI cy 10 (v))], [(ls9, aI cy 10 (st))], qRu cy rc (C) (((nc : Nat) : Int)), qRu cy re (E) (((ne : Nat) : Int)), [(la2, .inr (3, [.ref (lv92), .ref (ls92), .ref (rc2 0), .ref (re2 0)]))], [(lv92, aI cy 10 (u_8.1))], [(ls92, aI cy 10 (u_8.2.1))], qRu cy rc2 (u_8.2.2.1) (((nc : Nat) : Int)), qRu cy re2 (u_8.2.2.2.2.1) (((ne : Nat) : Int)), [(fb, .inr (1, [.ref (gb2 0), .ref (oc2 0), .ref (oe2 0), .ref (rs2 0), .int (qI (t1))]))], qBo cy gb2 (M1), qOu cy oc2 (F1) (g1) (q1), qOu cy oe2 (G1) (e1) (y1)]) hP [0, 10, 11, 12, 13, 14, 5, 6, 7, 8, 9, 1, 2, 3, 4] rfl
  have hD := fl_subD (bs' := [[(x, .inr (7, [.ref (la), .ref (fa), .ref (xh), .ref (la2), .ref (fb), .ref (fw), .int (qz (kw)), .ref (bu), .int (qI (len)), .ref (ta)]))], [(la, .inr (3, [.ref (lv9), .ref (ls9), .ref (rc 0), .ref (re 0)]))], [(lv9, aI cy 10 (v))], [(ls9, aI cy 10 (st))], qRu cy rc (C) (((nc : Nat) : Int)), qRu cy re (E) (((ne : Nat) : Int)), [(la2, .inr (3, [.ref (lv92), .ref (ls92), .ref (rc2 0), .ref (re2 0)]))], [(lv92, aI cy 10 (u_8.1))], [(ls92, aI cy 10 (u_8.2.1))], qRu cy rc2 (u_8.2.2.1) (((nc : Nat) : Int)), qRu cy re2 (u_8.2.2.2.2.1) (((ne : Nat) : Int)), [(fb, .inr (1, [.ref (gb2 0), .ref (oc2 0), .ref (oe2 0), .ref (rs2 0), .int (qI (t1))]))], qBo cy gb2 (M1), qOu cy oc2 (F1) (g1) (q1), qOu cy oe2 (G1) (e1) (y1)]) hD [0, 10, 11, 12, 13, 14, 5, 6, 7, 8, 9, 1, 2, 3, 4] (by decide) rfl
  exact L_13 (4 + 1) (0) _ _ _ _ _ _ _ _ _ _ _ _ (by omega) (by omega) h_8.1.2.2.2.2.2 (fun f i hf hi _ => h_8.1.2.2.2.1 f i hf hi) (fun i hi => absurd hi (Nat.not_lt_zero i)) _ _ _ hP hD hS (lv_sub hl [1, 2, 0] rfl)

set_option maxRecDepth 100000 in
set_option maxHeartbeats 4000000 in
theorem c_X7_freedom (l : Launch) (D : va_G) (cy : Nat → ClassId) (x la lv9 ls9 fa xh xs la2 lv92 ls92 fb fw bu ta : Nat) (rc re gb oc oe rs rc2 re2 gb2 oc2 oe2 rs2 rr : Nat → Nat) (ad : Nat → Nat → Nat) (kw : Bool) (len : Int) (v st : Nat → Int) (C : Nat → Nat → Int) (nc : Nat) (E : Nat → Nat → Int) (ne : Nat) (tt : Int) (M : Nat → Nat → Int) (FC : Nat) (mgC tnC : Nat → Int) (FE : Nat) (mgE tnE : Nat → Int) (hF : fCan C nc E ne (-1) M FC mgC tnC FE mgE) (hE : qWR E ne) (hC : qWR C nc) (he : ne ≤ 16) (hc : nc ≤ 16) : qRd l yX7_freedom (.code yX7_freedom cX7_freedom 3 (some .float)) 3 [.ref (x)] D cy [[(x, .inr (7, [.ref (la), .ref (fa), .ref (xh), .ref (la2), .ref (fb), .ref (fw), .int (qz (kw)), .ref (bu), .int (qI (len)), .ref (ta)]))], [(fa, .inr (1, [.ref (gb 0), .ref (oc 0), .ref (oe 0), .ref (rs 0), .int (qI (tt))]))], qBo cy gb (M)] (vp_Sf (fun r => r = frW (widS C nc E ne 10) ∧ 0 ≤ widS C nc E ne 10 ∧ widS C nc E ne 10 ≤ 20000)) := by
  refine q_ofRf (by decide +kernel) (Nat.le_of_ble_eq_true rfl) ?_
  intro p e s m args below meth c Q hx hb hml hown hg hQ hK hN hP ls hl
  have hown : s.vm.findClass RX7 = some m.cls := hown
  have hl : lv_has ls 3 [(0, .ref (x))] := hl
  refine q_iconst hx hb dX7_freedom_0 ?_
  refine lv_istore_n (lv' := [(1, .int (qI (0))), (0, .ref (x))]) hx hb dX7_freedom_1 rfl hl (by decide) rfl (fun ls hl => ?_)
  refine q_iconst hx hb dX7_freedom_2 ?_
  refine lv_istore_n (lv' := [(2, .int (qI (0))), (1, .int (qI (0))), (0, .ref (x))]) hx hb dX7_freedom_3 rfl hl (by decide) rfl (fun ls hl => ?_)
  have L_4 : ∀ (n_4 k : Nat) (y : Int), k ≤ 10 → 10 + 1 ≤ k + n_4 → (y = widS C nc E ne k) → (0 ≤ y ∧ y ≤ 2000 * k) → ∀ (ls : Array Slot), lv_has ls 3 [(0, .ref (x)), (1, .int (qI (y))), (2, .int (qI (((k : Nat) : Int))))] → W p l e (qrm 3) s m args below meth c s.heap [] 0 0 Q (F0 m 4 ls []) := by
    intro n_4
    induction n_4 with
    | zero => intro k _ h1 h2; exact absurd h2 (by omega)
    | succ n_4 ih_4 =>
      intro k y hk_4 hn_4 hy hy2 ls hl
      refine lv_iload_n hx hb dX7_freedom_4 rfl (lv_at hl 2 rfl) ?_
      refine q_bipush hx hb dX7_freedom_5 (by decide) ?_
      refine q_icmp_ge (tgt := 30) hx hb dX7_freedom_7 (by decide) (by omega) (fun c_7 => ?_) (fun c_7 => ?_)
      · skip
        have e9 : k = 10 := by omega
        subst e9
        have f9 := fr_use (w := y.toNat) (by omega)
        rw [show ((y.toNat : Nat) : Int) = y by omega] at f9
        refine lv_iload_n hx hb dX7_freedom_30 rfl (lv_at hl 1 rfl) ?_
        refine lv_i2f hx hb dX7_freedom_31 ?_
        refine lv_ldcf hx hb hown (hg _ m_352) dX7_freedom_32 ?_
        refine lv_fdiv hx hb dX7_freedom_34 f9.2.2.1 ?_
        exact hQ _ _ _ ⟨by rw [← hy]; rfl, by omega, by omega⟩ dX7_freedom_35
      · skip
        have e1 := hF.1 k 10 (by omega) (by omega)
        have e2 := hF.1 10 k (by omega) (by omega)
        have cl := (fil_ok (but := -1) hE hC he hc).1
        have b1 := cl.2.2 k 10 (by omega) (by omega)
        have b2 := cl.2.2 10 k (by omega) (by omega)
        have b3 := cl.1 k k 10 (by omega) (by omega) (by omega)
        have b4 := cl.2.1 k (by omega)
        rw [← e1] at b1 b3
        rw [← e2] at b2 b3
        refine lv_iload_n hx hb dX7_freedom_10 rfl (lv_at hl 1 rfl) ?_
        refine lv_aload_n hx hb dX7_freedom_11 rfl (lv_at hl 0 rfl) ?_
        refine gf_X7_19 hx hb hg hown hK (fl_blk hP 0 rfl) 0 rfl rfl dX7_freedom_12 ?_
        refine gf_X7_182 hx hb hg hown hK (fl_blk hP 1 rfl) 0 rfl rfl dX7_freedom_15 ?_
        refine lv_iload_n hx hb dX7_freedom_18 rfl (lv_at hl 2 rfl) ?_
        refine q_readi (va_runV (As := [.int (qI (((k : Nat) : Int)))]) (rest := [.int (qI (y))]) ⟨hx, hb, hml, hown, hg⟩ (c_X0_width l D cy (gb) (M) _ k (by omega)) (cv_X7_212 hg rfl rfl ⟨by decide, by decide⟩) ⟨q_blind0, va_recv hK (fl_blk hP 2 rfl) (ci := 0) (q0 := 0) rfl rfl, q_preR _ hK hN hP [2] rfl⟩ rfl rfl hl.1 rfl (lv_room (Nat.le_of_ble_eq_true rfl)) dX7_freedom_19 ⟨by decide, by decide⟩) (fun r_19 h_19 => ?_)
        subst h_19
        refine q_iadd hx hb dX7_freedom_22 ?_
        refine lv_istore_n (lv' := [(1, .int (qI ((y) + (M k 10 - (-(M 10 k)))))), (0, .ref (x)), (2, .int (qI (((k : Nat) : Int))))]) hx hb dX7_freedom_23 rfl hl (by decide) rfl (fun ls hl => ?_)
        refine q_iinc (k := 2) (lv' := [(2, .int (qI ((((k : Nat) : Int)) + (1)))), (1, .int (qI ((y) + (M k 10 - (-(M 10 k)))))), (0, .ref (x))]) hx hb dX7_freedom_24 hl rfl (by decide) rfl (fun ls hl => ?_)
        refine lv_goto (tgt := 4) hx hb dX7_freedom_27 (by decide) ?_
        exact ih_4 (k + 1) _ (by omega) (by omega) (by show _ = widS C nc E ne k + _; rw [← hy, ← e1, ← e2]) (by omega) _ (lv_sub hl [2, 1, 0] rfl)
  exact L_4 (10 + 1) (0) (0) (by omega) (by omega) rfl (by omega) _ (lv_sub hl [2, 1, 0] rfl)
