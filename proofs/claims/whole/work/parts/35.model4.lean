set_option maxRecDepth 100000 in
set_option maxHeartbeats 4000000 in
theorem c_X8_placeNow (l : Launch) (D : va_G) (cy : Nat → ClassId) (mo mz msv mtx mmo mif mmg mtn mie mme mrd mas : Nat) (th sv ml tu : Int) (fi : Bool) (ro sp it : Int) (bl : Bool) (hh : Int64) (z : Nat → Int) (nc ne : Nat) (g : Nat → Int) (isF : Nat → Bool) (mg tn : Nat → Int) (isE : Nat → Bool) (mE : Nat → Int) (hnc : z 20 = (nc : Int)) (hne : z 101 = (ne : Int)) (hc : nc ≤ 16) (he : ne ≤ 4) (hC : qWR (zC z) nc) (hE : qWR (zE z) ne) (hD : ∀ i j, i < ne → j < ne → zE z 0 i = zE z 0 j → i = j) (hM : mCan z nc ne (-1) g isF mg tn isE mE) (x9 w9 : Int) (k : Nat) (hk : x9 = (k : Int) ∧ k < 10) (hw9 : 0 ≤ w9 ∧ w9 ≤ 5) : qRd l yX8_placeNow (.code yX8_placeNow cX8_placeNow 3 (some .int)) 3 [.ref (mo), .int (qI (x9)), .int (qI (w9))] D cy [[(mo, .inr (8, [.int (qI (th)), .ref (mz), .int (qI (sv)), .ref (msv), .int (qI (ml)), .ref (mtx), .ref (mmo), .int (qI (tu)), .ref (mif), .ref (mmg), .ref (mtn), .ref (mie), .ref (mme), .int (qz (fi)), .int (qI (ro)), .int (qI (sp)), .int (qI (it)), .int (qz (bl)), .ref (mrd), .ref (mas), .long (hh)]))], [(mz, aI cy 115 (z))], [(mmo, aI cy 121 (g))]] (vp_Si (fun r => r = qI (plA z (fun i => z (10 + i)) (zC z) nc (zE z) ne k w9))) := by
  refine q_ofRi (by decide +kernel) (Nat.le_of_ble_eq_true rfl) ?_
  intro p e s m args below meth c Q hx hb hml hown hg hQ hK hN hP ls hl
  have hown : s.vm.findClass RX8 = some m.cls := hown
  have hl : lv_has ls 3 [(0, .ref (mo)), (1, .int (qI (x9))), (2, .int (qI (w9)))] := hl
  refine lv_iload_n hx hb dX8_placeNow_0 rfl (lv_at hl 2 rfl) ?_
  rcases (show w9 = 0 ∨ w9 = 1 ∨ w9 = 2 ∨ w9 = 3 ∨ w9 = 4 ∨ (w9 < 0 ∨ 4 < w9) by omega) with c_1 | c_1 | c_1 | c_1 | c_1 | c_1
  · refine q_tableIn (off := 35) (tgt := 36) hx hb (0) c_1 dX8_placeNow_1 (by decide) ?_
    refine lv_aload_n hx hb dX8_placeNow_36 rfl (lv_at hl 0 rfl) ?_
    refine gf_X8_7 hx hb hg hown hK (fl_blk hP 0 rfl) 0 rfl rfl dX8_placeNow_37 ?_
    refine lv_iload_n hx hb dX8_placeNow_40 rfl (lv_at hl 1 rfl) ?_
    refine q_iald (j := k) hx hb hK (fl_blk hP 1 rfl) 0 rfl (by omega) dX8_placeNow_41 ?_
    exact hQ _ _ _ (congrArg qI (by rw [show w9 = 0 by omega]; rfl)) dX8_placeNow_42
  · refine q_tableIn (off := 42) (tgt := 43) hx hb (1) c_1 dX8_placeNow_1 (by decide) ?_
    refine lv_aload_n hx hb dX8_placeNow_43 rfl (lv_at hl 0 rfl) ?_
    refine gf_X8_7 hx hb hg hown hK (fl_blk hP 0 rfl) 0 rfl rfl dX8_placeNow_44 ?_
    refine q_bipush hx hb dX8_placeNow_47 (by decide) ?_
    refine lv_iload_n hx hb dX8_placeNow_49 rfl (lv_at hl 1 rfl) ?_
    refine q_iadd hx hb dX8_placeNow_50 ?_
    refine q_iald (j := (10 + k)) hx hb hK (fl_blk hP 1 rfl) 0 rfl (by omega) dX8_placeNow_51 ?_
    exact hQ _ _ _ (congrArg qI (by rw [show w9 = 1 by omega]; rfl)) dX8_placeNow_52
  · refine q_tableIn (off := 52) (tgt := 53) hx hb (2) c_1 dX8_placeNow_1 (by decide) ?_
    refine lv_aload_n hx hb dX8_placeNow_53 rfl (lv_at hl 0 rfl) ?_
    refine lv_iload_n hx hb dX8_placeNow_54 rfl (lv_at hl 1 rfl) ?_
    refine q_readi (va_runV (As := [.int (qI (x9))]) (rest := []) ⟨hx, hb, hml, hown, hg⟩ (c_X8_least l D cy mo mz msv mtx mmo mif mmg mtn mie mme mrd mas (th) (sv) (ml) (tu) (fi) (ro) (sp) (it) (bl) (hh) (g) _ k (by omega)) (cv_X8_81 hg rfl rfl ⟨by decide, by decide⟩) ⟨q_blind0, va_recv hK (fl_blk hP 0 rfl) (ci := 8) (q0 := 0) rfl rfl, q_preR _ hK hN hP [0, 2] rfl⟩ rfl rfl hl.1 rfl (lv_room (Nat.le_of_ble_eq_true rfl)) dX8_placeNow_55 ⟨by decide, by decide⟩) (fun r_55 h_55 => ?_)
    subst h_55
    exact hQ _ _ _ (congrArg qI (by rw [show w9 = 2 by omega]; rw [hM.1 10 k (by omega) (by omega)]; rfl)) dX8_placeNow_58
  · refine q_tableIn (off := 58) (tgt := 59) hx hb (3) c_1 dX8_placeNow_1 (by decide) ?_
    refine lv_aload_n hx hb dX8_placeNow_59 rfl (lv_at hl 0 rfl) ?_
    refine lv_iload_n hx hb dX8_placeNow_60 rfl (lv_at hl 1 rfl) ?_
    refine q_readi (va_runV (As := [.int (qI (x9))]) (rest := []) ⟨hx, hb, hml, hown, hg⟩ (c_X8_greatest l D cy mo mz msv mtx mmo mif mmg mtn mie mme mrd mas (th) (sv) (ml) (tu) (fi) (ro) (sp) (it) (bl) (hh) (g) _ k (by omega)) (cv_X8_85 hg rfl rfl ⟨by decide, by decide⟩) ⟨q_blind0, va_recv hK (fl_blk hP 0 rfl) (ci := 8) (q0 := 0) rfl rfl, q_preR _ hK hN hP [0, 2] rfl⟩ rfl rfl hl.1 rfl (lv_room (Nat.le_of_ble_eq_true rfl)) dX8_placeNow_61 ⟨by decide, by decide⟩) (fun r_61 h_61 => ?_)
    subst h_61
    exact hQ _ _ _ (congrArg qI (by rw [show w9 = 3 by omega]; rw [hM.1 k 10 (by omega) (by omega)]; rfl)) dX8_placeNow_64
  · refine q_tableIn (off := 64) (tgt := 65) hx hb (4) c_1 dX8_placeNow_1 (by decide) ?_
    refine lv_aload_n hx hb dX8_placeNow_65 rfl (lv_at hl 0 rfl) ?_
    refine lv_iload_n hx hb dX8_placeNow_66 rfl (lv_at hl 1 rfl) ?_
    refine q_readi (va_runV (As := [.int (qI (x9))]) (rest := []) ⟨hx, hb, hml, hown, hg⟩ (c_X8_withPlace l D cy mo mz msv mtx mmo mif mmg mtn mie mme mrd mas (th) (sv) (ml) (tu) (fi) (ro) (sp) (it) (bl) (hh) z nc ne hnc hne hc he hC hE _ (by omega)) (cv_X8_170 hg rfl rfl ⟨by decide, by decide⟩) ⟨q_blind0, va_recv hK (fl_blk hP 0 rfl) (ci := 8) (q0 := 0) rfl rfl, q_preR _ hK hN hP [0, 1] rfl⟩ rfl rfl hl.1 rfl (lv_room (Nat.le_of_ble_eq_true rfl)) dX8_placeNow_67 ⟨by decide, by decide⟩) (fun r_67 h_67 => ?_)
    subst h_67
    exact hQ _ _ _ (congrArg qI (by rw [show w9 = 4 by omega]; rw [hk.1]; rfl)) dX8_placeNow_70
  · refine q_tableOut (tgt := 71) hx hb dX8_placeNow_1 (by decide) (by omega) ?_
    refine lv_aload_n hx hb dX8_placeNow_71 rfl (lv_at hl 0 rfl) ?_
    refine lv_iload_n hx hb dX8_placeNow_72 rfl (lv_at hl 1 rfl) ?_
    refine q_readi (va_runV (As := [.int (qI (x9))]) (rest := []) ⟨hx, hb, hml, hown, hg⟩ (c_X8_editOf l D cy mo mz msv mtx mmo mif mmg mtn mie mme mrd mas (th) (sv) (ml) (tu) (fi) (ro) (sp) (it) (bl) (hh) z nc ne hnc hne hc he hC hE hD _ (by omega)) (cv_X8_120 hg rfl rfl ⟨by decide, by decide⟩) ⟨q_blind0, va_recv hK (fl_blk hP 0 rfl) (ci := 8) (q0 := 0) rfl rfl, q_preR _ hK hN hP [0, 1] rfl⟩ rfl rfl hl.1 rfl (lv_room (Nat.le_of_ble_eq_true rfl)) dX8_placeNow_73 ⟨by decide, by decide⟩) (fun r_73 h_73 => ?_)
    subst h_73
    exact hQ _ _ _ (congrArg qI (by rw [show w9 = 5 by omega]; rw [hk.1]; rfl)) dX8_placeNow_76

set_option maxRecDepth 100000 in
set_option maxHeartbeats 4000000 in
theorem c_X8_conditionNow (l : Launch) (D : va_G) (cy : Nat → ClassId) (mo mz msv mtx mmo mif mmg mtn mie mme mrd mas : Nat) (th sv ml tu : Int) (fi : Bool) (ro sp it : Int) (bl : Bool) (hh : Int64) (z : Nat → Int) (nc ne : Nat) (g : Nat → Int) (isF : Nat → Bool) (mg tn : Nat → Int) (isE : Nat → Bool) (mE : Nat → Int) (hnc : z 20 = (nc : Int)) (hne : z 101 = (ne : Int)) (hc : nc ≤ 16) (he : ne ≤ 4) (hC : qWR (zC z) nc) (hE : qWR (zE z) ne) (hV : qV z) (hM : mCan z nc ne (-1) g isF mg tn isE mE) (x9 w9 : Int) (k : Nat) (hk : x9 = (k : Int) ∧ k < nc) (hw9 : 0 ≤ w9 ∧ w9 ≤ 9) (sz : Nat) : qMet l yX8_conditionNow (.code yX8_conditionNow cX8_conditionNow 3 (some .int)) 6 [.ref (mo), .int (qI (x9)), .int (qI (w9))] D cy [[(mo, .inr (8, [.int (qI (th)), .ref (mz), .int (qI (sv)), .ref (msv), .int (qI (ml)), .ref (mtx), .ref (mmo), .int (qI (tu)), .ref (mif), .ref (mmg), .ref (mtn), .ref (mie), .ref (mme), .int (qz (fi)), .int (qI (ro)), .int (qI (sp)), .int (qI (it)), .int (qz (bl)), .ref (mrd), .ref (mas), .long (hh)]))], [(mz, aI cy 115 (z))], [(mmo, aI cy 121 (g))], [(mif, aZ cy 16 (isF))], [(mmg, aI cy 16 (mg))], [(mtn, aI cy 16 (tn))], [(mie, aZ cy 4 (isE))], [(mme, aI cy 4 (mE))]] sz (va_Qi (S := (Nat → Int) × Int × (Nat → Bool) × (Nat → Int) × (Nat → Int) × (Nat → Bool) × (Nat → Int) × Bool × Int) (fun r u => r = qI (coA z (zC z) nc (zE z) ne k w9) ∧ mCan z nc ne (-1) u.1 u.2.2.1 u.2.2.2.1 u.2.2.2.2.1 u.2.2.2.2.2.1 u.2.2.2.2.2.2.1) (qB D cy [[(mo, .inr (8, [.int (qI (th)), .ref (mz), .int (qI (sv)), .ref (msv), .int (qI (ml)), .ref (mtx), .ref (mmo), .int (qI (tu)), .ref (mif), .ref (mmg), .ref (mtn), .ref (mie), .ref (mme), .int (qz (fi)), .int (qI (ro)), .int (qI (sp)), .int (qI (it)), .int (qz (bl)), .ref (mrd), .ref (mas), .long (hh)]))], [(mz, aI cy 115 (z))], [(mmo, aI cy 121 (g))], [(mif, aZ cy 16 (isF))], [(mmg, aI cy 16 (mg))], [(mtn, aI cy 16 (tn))], [(mie, aZ cy 4 (isE))], [(mme, aI cy 4 (mE))]] sz (fun u => [[(mo, .inr (8, [.int (qI (th)), .ref (mz), .int (qI (sv)), .ref (msv), .int (qI (ml)), .ref (mtx), .ref (mmo), .int (qI (u.2.1)), .ref (mif), .ref (mmg), .ref (mtn), .ref (mie), .ref (mme), .int (qz (u.2.2.2.2.2.2.2.1)), .int (qI (u.2.2.2.2.2.2.2.2)), .int (qI (sp)), .int (qI (it)), .int (qz (bl)), .ref (mrd), .ref (mas), .long (hh)]))], [(mz, aI cy 115 (z))], [(mmo, aI cy 121 (u.1))], [(mif, aZ cy 16 (u.2.2.1))], [(mmg, aI cy 16 (u.2.2.2.1))], [(mtn, aI cy 16 (u.2.2.2.2.1))], [(mie, aZ cy 4 (u.2.2.2.2.2.1))], [(mme, aI cy 4 (u.2.2.2.2.2.2.1))]])) (va_A [[(mo, .inr (8, [.int (qI (th)), .ref (mz), .int (qI (sv)), .ref (msv), .int (qI (ml)), .ref (mtx), .ref (mmo), .int (qI (tu)), .ref (mif), .ref (mmg), .ref (mtn), .ref (mie), .ref (mme), .int (qz (fi)), .int (qI (ro)), .int (qI (sp)), .int (qI (it)), .int (qz (bl)), .ref (mrd), .ref (mas), .long (hh)]))], [(mz, aI cy 115 (z))], [(mmo, aI cy 121 (g))], [(mif, aZ cy 16 (isF))], [(mmg, aI cy 16 (mg))], [(mtn, aI cy 16 (tn))], [(mie, aZ cy 4 (isE))], [(mme, aI cy 4 (mE))]].flatten sz)) := by
  refine q_ofMi (S := (Nat → Int) × Int × (Nat → Bool) × (Nat → Int) × (Nat → Int) × (Nat → Bool) × (Nat → Int) × Bool × Int) (b1 := fun u => [[(mo, .inr (8, [.int (qI (th)), .ref (mz), .int (qI (sv)), .ref (msv), .int (qI (ml)), .ref (mtx), .ref (mmo), .int (qI (u.2.1)), .ref (mif), .ref (mmg), .ref (mtn), .ref (mie), .ref (mme), .int (qz (u.2.2.2.2.2.2.2.1)), .int (qI (u.2.2.2.2.2.2.2.2)), .int (qI (sp)), .int (qI (it)), .int (qz (bl)), .ref (mrd), .ref (mas), .long (hh)]))], [(mz, aI cy 115 (z))], [(mmo, aI cy 121 (u.1))], [(mif, aZ cy 16 (u.2.2.1))], [(mmg, aI cy 16 (u.2.2.2.1))], [(mtn, aI cy 16 (u.2.2.2.2.1))], [(mie, aZ cy 4 (u.2.2.2.2.2.1))], [(mme, aI cy 4 (u.2.2.2.2.2.2.1))]]) (post := fun r u => r = qI (coA z (zC z) nc (zE z) ne k w9) ∧ mCan z nc ne (-1) u.1 u.2.2.1 u.2.2.2.1 u.2.2.2.2.1 u.2.2.2.2.2.1 u.2.2.2.2.2.2.1) (by decide +kernel) (Nat.le_of_ble_eq_true rfl) ?_
  intro p e s m args below meth c Q A hx hb hml hown hg hQ hK hN hD hA H locs ls hP hS hl
  have hown : s.vm.findClass RX8 = some m.cls := hown
  have hl : lv_has ls 3 [(0, .ref (mo)), (1, .int (qI (x9))), (2, .int (qI (w9)))] := hl
  have hk1 := hk.1
  have hk2 := hk.2
  refine lv_iload_n hx hb dX8_conditionNow_0 rfl (lv_at hl 2 rfl) ?_
  rcases (show w9 = 5 ∨ w9 = 6 ∨ w9 = 7 ∨ w9 = 8 ∨ w9 = 9 ∨ (w9 < 5 ∨ 9 < w9) by omega) with c_1 | c_1 | c_1 | c_1 | c_1 | c_1
  · refine q_tableIn (off := 35) (tgt := 36) hx hb (5) c_1 dX8_conditionNow_1 (by decide) ?_
    refine lv_aload_n hx hb dX8_conditionNow_36 rfl (lv_at hl 0 rfl) ?_
    refine gf_X8_22 hx hb hg hown hK (fl_blk hP 0 rfl) 0 rfl rfl dX8_conditionNow_37 ?_
    refine lv_iload_n hx hb dX8_conditionNow_40 rfl (lv_at hl 1 rfl) ?_
    refine q_zald (j := k) hx hb hK (fl_blk hP 3 rfl) 0 rfl (by omega) dX8_conditionNow_41 ?_
    refine q_ifz_eq (tgt := 49) hx hb dX8_conditionNow_42 (by decide) (fun c_42 => ?_) (fun c_42 => ?_)
    · skip
      refine q_iconst hx hb dX8_conditionNow_49 ?_
      exact hQ _ _ _ _ _ (g, tu, isF, mg, tn, isE, mE, fi, ro) ⟨congrArg qI (by rw [show w9 = 5 by omega]; show _ = ((fOC (fil (zC z) nc (zE z) ne (-1)) k).toNat : Int); rw [← (hM.2.1 k hk2 (by omega)).1, c_42]; rfl), hM⟩ hP hD hS dX8_conditionNow_50
    · skip
      refine q_iconst hx hb dX8_conditionNow_45 ?_
      refine lv_goto (tgt := 50) hx hb dX8_conditionNow_46 (by decide) ?_
      exact hQ _ _ _ _ _ (g, tu, isF, mg, tn, isE, mE, fi, ro) ⟨congrArg qI (by rw [show w9 = 5 by omega]; show _ = ((fOC (fil (zC z) nc (zE z) ne (-1)) k).toNat : Int); rw [← (hM.2.1 k hk2 (by omega)).1, c_42]; rfl), hM⟩ hP hD hS dX8_conditionNow_50
  · refine q_tableIn (off := 50) (tgt := 51) hx hb (6) c_1 dX8_conditionNow_1 (by decide) ?_
    refine lv_aload_n hx hb dX8_conditionNow_51 rfl (lv_at hl 0 rfl) ?_
    refine gf_X8_26 hx hb hg hown hK (fl_blk hP 0 rfl) 0 rfl rfl dX8_conditionNow_52 ?_
    refine lv_iload_n hx hb dX8_conditionNow_55 rfl (lv_at hl 1 rfl) ?_
    refine q_iald (j := k) hx hb hK (fl_blk hP 4 rfl) 0 rfl (by omega) dX8_conditionNow_56 ?_
    exact hQ _ _ _ _ _ (g, tu, isF, mg, tn, isE, mE, fi, ro) ⟨congrArg qI (by rw [show w9 = 6 by omega]; exact (hM.2.1 k hk2 (by omega)).2.1), hM⟩ hP hD hS dX8_conditionNow_57
  · refine q_tableIn (off := 57) (tgt := 58) hx hb (7) c_1 dX8_conditionNow_1 (by decide) ?_
    refine lv_aload_n hx hb dX8_conditionNow_58 rfl (lv_at hl 0 rfl) ?_
    refine gf_X8_29 hx hb hg hown hK (fl_blk hP 0 rfl) 0 rfl rfl dX8_conditionNow_59 ?_
    refine lv_iload_n hx hb dX8_conditionNow_62 rfl (lv_at hl 1 rfl) ?_
    refine q_iald (j := k) hx hb hK (fl_blk hP 5 rfl) 0 rfl (by omega) dX8_conditionNow_63 ?_
    exact hQ _ _ _ _ _ (g, tu, isF, mg, tn, isE, mE, fi, ro) ⟨congrArg qI (by rw [show w9 = 7 by omega]; exact (hM.2.1 k hk2 (by omega)).2.2), hM⟩ hP hD hS dX8_conditionNow_64
  · refine q_tableIn (off := 64) (tgt := 65) hx hb (8) c_1 dX8_conditionNow_1 (by decide) ?_
    refine lv_aload_n hx hb dX8_conditionNow_65 rfl (lv_at hl 0 rfl) ?_
    refine lv_iload_n hx hb dX8_conditionNow_66 rfl (lv_at hl 1 rfl) ?_
    refine q_backi [0, 1, 2, 3, 4, 5, 6, 7] [] (br := []) hP hD hS hA (va_runV (As := [.int (qI (x9))]) (rest := []) ⟨hx, hb, hml, hown, hg⟩ (c_X8_culprits l D cy mo mz msv mtx mmo mif mmg mtn mie mme mrd mas (th) (sv) (ml) (tu) (fi) (ro) (sp) (it) (bl) (hh) z nc ne (g) (isF) (mg) (tn) (isE) (mE) hnc hne hc he hC hE hM _ k (by omega) _) (cv_X8_176 hg rfl rfl ⟨by decide, by decide⟩) ⟨q_blind, va_recv hK (fl_blk hP 0 rfl) (ci := 8) (q0 := 0) rfl rfl, q_preM _ hK hN hP hD [0, 1, 2, 3, 4, 5, 6, 7] (by decide) rfl⟩ rfl rfl hl.1 rfl (lv_room (Nat.le_of_ble_eq_true rfl)) dX8_conditionNow_67 ⟨by decide, by decide⟩) rfl rfl (by decide) (fun r_67 u_67 H locs h_67 hP hD hS => ?_)
    have hP : va_P D vwCl [[(mo, .inr (8, [.int (qI (th)), .ref (mz), .int (qI (sv)), .ref (msv), .int (qI (ml)), .ref (mtx), .ref (mmo), .int (qI (u_67.2.1)), .ref (mif), .ref (mmg), .ref (mtn), .ref (mie), .ref (mme), .int (qz (u_67.2.2.2.2.2.2.2.1)), .int (qI (u_67.2.2.2.2.2.2.2.2)), .int (qI (sp)), .int (qI (it)), .int (qz (bl)), .ref (mrd), .ref (mas), .long (hh)]))], [(mz, aI cy 115 (z))], [(mmo, aI cy 121 (u_67.1))], [(mif, aZ cy 16 (u_67.2.2.1))], [(mmg, aI cy 16 (u_67.2.2.2.1))], [(mtn, aI cy 16 (u_67.2.2.2.2.1))], [(mie, aZ cy 4 (u_67.2.2.2.2.2.1))], [(mme, aI cy 4 (u_67.2.2.2.2.2.2.1))]].flatten H := hP
    have hD : va_D A [[(mo, .inr (8, [.int (qI (th)), .ref (mz), .int (qI (sv)), .ref (msv), .int (qI (ml)), .ref (mtx), .ref (mmo), .int (qI (u_67.2.1)), .ref (mif), .ref (mmg), .ref (mtn), .ref (mie), .ref (mme), .int (qz (u_67.2.2.2.2.2.2.2.1)), .int (qI (u_67.2.2.2.2.2.2.2.2)), .int (qI (sp)), .int (qI (it)), .int (qz (bl)), .ref (mrd), .ref (mas), .long (hh)]))], [(mz, aI cy 115 (z))], [(mmo, aI cy 121 (u_67.1))], [(mif, aZ cy 16 (u_67.2.2.1))], [(mmg, aI cy 16 (u_67.2.2.2.1))], [(mtn, aI cy 16 (u_67.2.2.2.2.1))], [(mie, aZ cy 4 (u_67.2.2.2.2.2.1))], [(mme, aI cy 4 (u_67.2.2.2.2.2.2.1))]].flatten := hD
    obtain ⟨rfl, h_67⟩ := h_67
    exact hQ _ _ _ _ _ u_67 ⟨congrArg qI (by rw [show w9 = 8 by omega]; rfl), h_67⟩ hP hD hS dX8_conditionNow_70
  · refine q_tableIn (off := 70) (tgt := 71) hx hb (9) c_1 dX8_conditionNow_1 (by decide) ?_
    refine lv_aload_n hx hb dX8_conditionNow_71 rfl (lv_at hl 0 rfl) ?_
    refine lv_iload_n hx hb dX8_conditionNow_72 rfl (lv_at hl 1 rfl) ?_
    refine q_readz (va_runV (As := [.int (qI (x9))]) (rest := []) ⟨hx, hb, hml, hown, hg⟩ (c_X8_holds l D cy mo mz msv mtx mmo mif mmg mtn mie mme mrd mas (th) (sv) (ml) (tu) (fi) (ro) (sp) (it) (bl) (hh) (z) nc ne hnc hne hc he hC hE hV _ k (by omega)) (cv_X8_179 hg rfl rfl ⟨by decide, by decide⟩) ⟨q_blind0, va_recv hK (fl_blk hP 0 rfl) (ci := 8) (q0 := 0) rfl rfl, q_preR _ hK hN hP [0, 1] rfl⟩ rfl rfl hl.1 rfl (lv_room (Nat.le_of_ble_eq_true rfl)) dX8_conditionNow_73 ⟨by decide, by decide⟩) (fun b_73 h_73 => ?_)
    refine q_ifz_eq (tgt := 83) hx hb dX8_conditionNow_76 (by decide) (fun c_76 => ?_) (fun c_76 => ?_)
    · skip
      have g_76 := mt (h_73).mpr (by rw [c_76]; decide)
      refine q_iconst hx hb dX8_conditionNow_83 ?_
      exact hQ _ _ _ _ _ (g, tu, isF, mg, tn, isE, mE, fi, ro) ⟨congrArg qI (by rw [show w9 = 9 by omega]; show _ = ((hoB z (zC z) k).toNat : Int); rw [Bool.eq_false_iff.mpr g_76]; rfl), hM⟩ hP hD hS dX8_conditionNow_84
    · skip
      have g_76 := (h_73).mp c_76
      refine q_iconst hx hb dX8_conditionNow_79 ?_
      refine lv_goto (tgt := 84) hx hb dX8_conditionNow_80 (by decide) ?_
      exact hQ _ _ _ _ _ (g, tu, isF, mg, tn, isE, mE, fi, ro) ⟨congrArg qI (by rw [show w9 = 9 by omega]; show _ = ((hoB z (zC z) k).toNat : Int); rw [g_76]; rfl), hM⟩ hP hD hS dX8_conditionNow_84
  · refine q_tableOut (tgt := 85) hx hb dX8_conditionNow_1 (by decide) (by omega) ?_
    refine lv_aload_n hx hb dX8_conditionNow_85 rfl (lv_at hl 0 rfl) ?_
    refine lv_iload_n hx hb dX8_conditionNow_86 rfl (lv_at hl 1 rfl) ?_
    refine lv_iload_n hx hb dX8_conditionNow_87 rfl (lv_at hl 2 rfl) ?_
    refine q_readi (va_runV (As := [.int (qI (x9)), .int (qI (w9))]) (rest := []) ⟨hx, hb, hml, hown, hg⟩ (c_X8_of l D cy mo mz msv mtx mmo mif mmg mtn mie mme mrd mas (th) (sv) (ml) (tu) (fi) (ro) (sp) (it) (bl) (hh) (z) _ _ k w9.toNat (by omega) (by omega)) (cv_X8_74 hg rfl rfl ⟨by decide, by decide⟩) ⟨q_blind0, va_recv hK (fl_blk hP 0 rfl) (ci := 8) (q0 := 0) rfl rfl, q_preR _ hK hN hP [0, 1] rfl⟩ rfl rfl hl.1 rfl (lv_room (Nat.le_of_ble_eq_true rfl)) dX8_conditionNow_88 ⟨by decide, by decide⟩) (fun r_88 h_88 => ?_)
    subst h_88
    exact hQ _ _ _ _ _ (g, tu, isF, mg, tn, isE, mE, fi, ro) ⟨congrArg qI (by rcases (show w9 = 0 ∨ w9 = 1 ∨ w9 = 2 ∨ w9 = 3 ∨ w9 = 4 by omega) with e | e | e | e | e <;> subst e <;> rfl), hM⟩ hP hD hS dX8_conditionNow_91

set_option maxRecDepth 100000 in
set_option maxHeartbeats 4000000 in
theorem c_X8_editedNow (l : Launch) (D : va_G) (cy : Nat → ClassId) (mo mz msv mtx mmo mif mmg mtn mie mme mrd mas : Nat) (th sv ml tu : Int) (fi : Bool) (ro sp it : Int) (bl : Bool) (hh : Int64) (z : Nat → Int) (nc ne : Nat) (g : Nat → Int) (isF : Nat → Bool) (mg tn : Nat → Int) (isE : Nat → Bool) (mE : Nat → Int) (hnc : z 20 = (nc : Int)) (hne : z 101 = (ne : Int)) (hc : nc ≤ 16) (he : ne ≤ 4) (hC : qWR (zC z) nc) (hE : qWR (zE z) ne) (hM : mCan z nc ne (-1) g isF mg tn isE mE) (x9 w9 : Int) (k : Nat) (hk : x9 = (k : Int) ∧ k < ne) (hw9 : 0 ≤ w9 ∧ w9 ≤ 4) : qRd l yX8_editedNow (.code yX8_editedNow cX8_editedNow 3 (some .int)) 2 [.ref (mo), .int (qI (x9)), .int (qI (w9))] D cy [[(mo, .inr (8, [.int (qI (th)), .ref (mz), .int (qI (sv)), .ref (msv), .int (qI (ml)), .ref (mtx), .ref (mmo), .int (qI (tu)), .ref (mif), .ref (mmg), .ref (mtn), .ref (mie), .ref (mme), .int (qz (fi)), .int (qI (ro)), .int (qI (sp)), .int (qI (it)), .int (qz (bl)), .ref (mrd), .ref (mas), .long (hh)]))], [(mz, aI cy 115 (z))], [(mie, aZ cy 4 (isE))], [(mme, aI cy 4 (mE))]] (vp_Si (fun r => r = qI (edA (zC z) nc (zE z) ne k w9))) := by
  refine q_ofRi (by decide +kernel) (Nat.le_of_ble_eq_true rfl) ?_
  intro p e s m args below meth c Q hx hb hml hown hg hQ hK hN hP ls hl
  have hown : s.vm.findClass RX8 = some m.cls := hown
  have hl : lv_has ls 3 [(0, .ref (mo)), (1, .int (qI (x9))), (2, .int (qI (w9)))] := hl
  have hk1 := hk.1
  have hk2 := hk.2
  refine lv_iload_n hx hb dX8_editedNow_0 rfl (lv_at hl 2 rfl) ?_
  refine q_iconst hx hb dX8_editedNow_1 ?_
  refine q_icmp_ge (tgt := 14) hx hb dX8_editedNow_2 (by decide) (by omega) (fun c_2 => ?_) (fun c_2 => ?_)
  · skip
    refine lv_iload_n hx hb dX8_editedNow_14 rfl (lv_at hl 2 rfl) ?_
    refine q_iconst hx hb dX8_editedNow_15 ?_
    refine q_icmp_ne (tgt := 36) hx hb dX8_editedNow_16 (by decide) (by omega) (fun c_16 => ?_) (fun c_16 => ?_)
    · skip
      refine lv_aload_n hx hb dX8_editedNow_36 rfl (lv_at hl 0 rfl) ?_
      refine gf_X8_35 hx hb hg hown hK (fl_blk hP 0 rfl) 0 rfl rfl dX8_editedNow_37 ?_
      refine lv_iload_n hx hb dX8_editedNow_40 rfl (lv_at hl 1 rfl) ?_
      refine q_iald (j := k) hx hb hK (fl_blk hP 3 rfl) 0 rfl (by omega) dX8_editedNow_41 ?_
      exact hQ _ _ _ (congrArg qI (by rw [show w9 = 4 by omega]; exact (hM.2.2 k hk2).2)) dX8_editedNow_42
    · skip
      refine lv_aload_n hx hb dX8_editedNow_19 rfl (lv_at hl 0 rfl) ?_
      refine gf_X8_32 hx hb hg hown hK (fl_blk hP 0 rfl) 0 rfl rfl dX8_editedNow_20 ?_
      refine lv_iload_n hx hb dX8_editedNow_23 rfl (lv_at hl 1 rfl) ?_
      refine q_zald (j := k) hx hb hK (fl_blk hP 2 rfl) 0 rfl (by omega) dX8_editedNow_24 ?_
      refine q_ifz_eq (tgt := 32) hx hb dX8_editedNow_25 (by decide) (fun c_25 => ?_) (fun c_25 => ?_)
      · skip
        refine q_iconst hx hb dX8_editedNow_32 ?_
        refine lv_goto (tgt := 42) hx hb dX8_editedNow_33 (by decide) ?_
        exact hQ _ _ _ (congrArg qI (by rw [show w9 = 3 by omega]; show _ = ((fOE (fil (zC z) nc (zE z) ne (-1)) k).toNat : Int); rw [← (hM.2.2 k hk2).1, c_25]; rfl)) dX8_editedNow_42
      · skip
        refine q_iconst hx hb dX8_editedNow_28 ?_
        refine lv_goto (tgt := 42) hx hb dX8_editedNow_29 (by decide) ?_
        exact hQ _ _ _ (congrArg qI (by rw [show w9 = 3 by omega]; show _ = ((fOE (fil (zC z) nc (zE z) ne (-1)) k).toNat : Int); rw [← (hM.2.2 k hk2).1, c_25]; rfl)) dX8_editedNow_42
  · skip
    refine lv_aload_n hx hb dX8_editedNow_5 rfl (lv_at hl 0 rfl) ?_
    refine lv_iload_n hx hb dX8_editedNow_6 rfl (lv_at hl 1 rfl) ?_
    refine lv_iload_n hx hb dX8_editedNow_7 rfl (lv_at hl 2 rfl) ?_
    refine q_readi (va_runV (As := [.int (qI (x9)), .int (qI (w9))]) (rest := []) ⟨hx, hb, hml, hown, hg⟩ (c_X8_ofEdit l D cy mo mz msv mtx mmo mif mmg mtn mie mme mrd mas (th) (sv) (ml) (tu) (fi) (ro) (sp) (it) (bl) (hh) (z) _ _ k w9.toNat (by omega) (by omega)) (cv_X8_66 hg rfl rfl ⟨by decide, by decide⟩) ⟨q_blind0, va_recv hK (fl_blk hP 0 rfl) (ci := 8) (q0 := 0) rfl rfl, q_preR _ hK hN hP [0, 1] rfl⟩ rfl rfl hl.1 rfl (lv_room (Nat.le_of_ble_eq_true rfl)) dX8_editedNow_8 ⟨by decide, by decide⟩) (fun r_8 h_8 => ?_)
    subst h_8
    refine lv_goto (tgt := 42) hx hb dX8_editedNow_11 (by decide) ?_
    exact hQ _ _ _ (congrArg qI (by rcases (show w9 = 0 ∨ w9 = 1 ∨ w9 = 2 by omega) with e | e | e <;> subst e <;> rfl)) dX8_editedNow_42

theorem cnt_fm {z : Nat → Int} {nc ne : Nat} {but : Int} {g : Nat → Int} {isF : Nat → Bool} {mg tn : Nat → Int} {isE : Nat → Bool} {mE : Nat → Int} (hM : mCan z nc ne but g isF mg tn isE mE) (hc : nc ≤ 16) : cnt (fun i => decide ((i : Int) ≠ but) && isF i) nc = cnt (fOC (fil (zC z) nc (zE z) ne but)) 16 := by
  rw [cnt_far (p := fOC (fil (zC z) nc (zE z) ne but)) (n := nc) (fun i hi => fil_outC (Or.inl hi)) 16 hc]
  refine cnt_ext nc (fun i hi => ?_)
  by_cases e : (i : Int) = but
  · rw [decide_eq_false (fun q => q e), fil_outC (Or.inr e)]
    rfl
  · rw [decide_eq_true e, (hM.2.1 i hi e).1]
    rfl
theorem cnt_fe {z : Nat → Int} {nc ne : Nat} {but : Int} {g : Nat → Int} {isF : Nat → Bool} {mg tn : Nat → Int} {isE : Nat → Bool} {mE : Nat → Int} (hM : mCan z nc ne but g isF mg tn isE mE) (he : ne ≤ 4) : cnt isE ne = cnt (fOE (fil (zC z) nc (zE z) ne but)) 16 := by
  rw [cnt_far (p := fOE (fil (zC z) nc (zE z) ne but)) (n := ne) (fun i hi => fil_outE hi) 16 (by omega)]
  exact cnt_ext ne (fun i hi => (hM.2.2 i hi).1)

set_option maxRecDepth 100000 in
set_option maxHeartbeats 4000000 in
theorem c_X8_counted (l : Launch) (D : va_G) (cy : Nat → ClassId) (mo mz msv mtx mmo mif mmg mtn mie mme mrd mas : Nat) (th sv ml tu : Int) (fi : Bool) (ro sp it : Int) (bl : Bool) (hh : Int64) (z : Nat → Int) (nc ne : Nat) (g : Nat → Int) (isF : Nat → Bool) (mg tn : Nat → Int) (isE : Nat → Bool) (mE : Nat → Int) (hnc : z 20 = (nc : Int)) (hne : z 101 = (ne : Int)) (hc : nc ≤ 16) (he : ne ≤ 4) (hC : qWR (zC z) nc) (hE : qWR (zE z) ne) (hV : qV z) (hM : mCan z nc ne (-1) g isF mg tn isE mE) (hz : Nat) (hsv : sv = (hz : Int)) (w9 : Int) (hw9 : 0 ≤ w9 ∧ w9 ≤ 7) : qRd l yX8_counted (.code yX8_counted cX8_counted 2 (some .int)) 4 [.ref (mo), .int (qI (w9))] D cy [[(mo, .inr (8, [.int (qI (th)), .ref (mz), .int (qI (sv)), .ref (msv), .int (qI (ml)), .ref (mtx), .ref (mmo), .int (qI (tu)), .ref (mif), .ref (mmg), .ref (mtn), .ref (mie), .ref (mme), .int (qz (fi)), .int (qI (ro)), .int (qI (sp)), .int (qI (it)), .int (qz (bl)), .ref (mrd), .ref (mas), .long (hh)]))], [(mz, aI cy 115 (z))], [(mmo, aI cy 121 (g))], [(mif, aZ cy 16 (isF))], [(mie, aZ cy 4 (isE))]] (vp_Si (fun r => r = qI (ctA z (zC z) nc (zE z) ne hz w9))) := by
  refine q_ofRi (by decide +kernel) (Nat.le_of_ble_eq_true rfl) ?_
  intro p e s m args below meth c Q hx hb hml hown hg hQ hK hN hP ls hl
  have hown : s.vm.findClass RX8 = some m.cls := hown
  have hl : lv_has ls 2 [(0, .ref (mo)), (1, .int (qI (w9)))] := hl
  refine lv_iload_n hx hb dX8_counted_0 rfl (lv_at hl 1 rfl) ?_
  rcases (show w9 = 0 ∨ w9 = 1 ∨ w9 = 2 ∨ w9 = 3 ∨ w9 = 4 ∨ w9 = 5 ∨ w9 = 6 ∨ (w9 < 0 ∨ 6 < w9) by omega) with c_1 | c_1 | c_1 | c_1 | c_1 | c_1 | c_1 | c_1
  · refine q_tableIn (off := 43) (tgt := 44) hx hb (0) c_1 dX8_counted_1 (by decide) ?_
    refine lv_aload_n hx hb dX8_counted_44 rfl (lv_at hl 0 rfl) ?_
    refine gf_X8_7 hx hb hg hown hK (fl_blk hP 0 rfl) 0 rfl rfl dX8_counted_45 ?_
    refine q_bipush hx hb dX8_counted_48 (by decide) ?_
    refine q_iald (j := 20) hx hb hK (fl_blk hP 1 rfl) 0 rfl (by omega) dX8_counted_50 ?_
    exact hQ _ _ _ (congrArg qI (by rw [show w9 = 0 by omega]; show _ = (nc : Int); exact hnc)) dX8_counted_51
  · refine q_tableIn (off := 51) (tgt := 52) hx hb (1) c_1 dX8_counted_1 (by decide) ?_
    refine lv_aload_n hx hb dX8_counted_52 rfl (lv_at hl 0 rfl) ?_
    refine q_iconst hx hb dX8_counted_53 ?_
    refine q_readi (va_runV (As := [.int (qI (-1))]) (rest := []) ⟨hx, hb, hml, hown, hg⟩ (c_X8_filledMany l D cy mo mz msv mtx mmo mif mmg mtn mie mme mrd mas (th) (sv) (ml) (tu) (fi) (ro) (sp) (it) (bl) (hh) z nc ne hnc hc (isF) (-1) (by omega)) (cv_X8_188 hg rfl rfl ⟨by decide, by decide⟩) ⟨q_blind0, va_recv hK (fl_blk hP 0 rfl) (ci := 8) (q0 := 0) rfl rfl, q_preR _ hK hN hP [0, 1, 3] rfl⟩ rfl rfl hl.1 rfl (lv_room (Nat.le_of_ble_eq_true rfl)) dX8_counted_54 ⟨by decide, by decide⟩) (fun r_54 h_54 => ?_)
    subst h_54
    exact hQ _ _ _ (congrArg qI (by rw [show w9 = 1 by omega]; show _ = ((cnt _ 16 : Nat) : Int); rw [cnt_fm hM hc])) dX8_counted_57
  · refine q_tableIn (off := 57) (tgt := 58) hx hb (2) c_1 dX8_counted_1 (by decide) ?_
    refine lv_aload_n hx hb dX8_counted_58 rfl (lv_at hl 0 rfl) ?_
    refine gf_X8_7 hx hb hg hown hK (fl_blk hP 0 rfl) 0 rfl rfl dX8_counted_59 ?_
    refine q_bipush hx hb dX8_counted_62 (by decide) ?_
    refine q_iald (j := 101) hx hb hK (fl_blk hP 1 rfl) 0 rfl (by omega) dX8_counted_64 ?_
    exact hQ _ _ _ (congrArg qI (by rw [show w9 = 2 by omega]; show _ = (ne : Int); exact hne)) dX8_counted_65
  · refine q_tableIn (off := 65) (tgt := 66) hx hb (3) c_1 dX8_counted_1 (by decide) ?_
    refine lv_aload_n hx hb dX8_counted_66 rfl (lv_at hl 0 rfl) ?_
    refine q_readi (va_runV (As := []) (rest := []) ⟨hx, hb, hml, hown, hg⟩ (c_X8_filledEdits l D cy mo mz msv mtx mmo mif mmg mtn mie mme mrd mas (th) (sv) (ml) (tu) (fi) (ro) (sp) (it) (bl) (hh) z nc ne hne he (isE)) (cv_X8_191 hg rfl rfl ⟨by decide, by decide⟩) ⟨q_blind0, va_recv hK (fl_blk hP 0 rfl) (ci := 8) (q0 := 0) rfl rfl, q_preR _ hK hN hP [0, 1, 4] rfl⟩ rfl rfl hl.1 rfl (lv_room (Nat.le_of_ble_eq_true rfl)) dX8_counted_67 ⟨by decide, by decide⟩) (fun r_67 h_67 => ?_)
    subst h_67
    exact hQ _ _ _ (congrArg qI (by rw [show w9 = 3 by omega]; show _ = ((cnt _ 16 : Nat) : Int); rw [cnt_fe hM he])) dX8_counted_70
  · refine q_tableIn (off := 70) (tgt := 71) hx hb (4) c_1 dX8_counted_1 (by decide) ?_
    refine lv_aload_n hx hb dX8_counted_71 rfl (lv_at hl 0 rfl) ?_
    refine gf_X8_88 hx hb hg hown hK (fl_blk hP 0 rfl) 0 rfl rfl dX8_counted_72 ?_
    exact hQ _ _ _ (congrArg qI (by rw [show w9 = 4 by omega]; exact hsv)) dX8_counted_75
  · refine q_tableIn (off := 75) (tgt := 76) hx hb (5) c_1 dX8_counted_1 (by decide) ?_
    refine lv_aload_n hx hb dX8_counted_76 rfl (lv_at hl 0 rfl) ?_
    refine q_readi (va_runV (As := []) (rest := []) ⟨hx, hb, hml, hown, hg⟩ (c_X8_fixed l D cy mo mz msv mtx mmo mif mmg mtn mie mme mrd mas (th) (sv) (ml) (tu) (fi) (ro) (sp) (it) (bl) (hh) (g) (qEq.cl hM.1.symm (fil_ok (but := -1) hE hC (by omega : ne ≤ 16) hc).1)) (cv_X8_194 hg rfl rfl ⟨by decide, by decide⟩) ⟨q_blind0, va_recv hK (fl_blk hP 0 rfl) (ci := 8) (q0 := 0) rfl rfl, q_preR _ hK hN hP [0, 2] rfl⟩ rfl rfl hl.1 rfl (lv_room (Nat.le_of_ble_eq_true rfl)) dX8_counted_77 ⟨by decide, by decide⟩) (fun r_77 h_77 => ?_)
    subst h_77
    exact hQ _ _ _ (congrArg qI (by rw [show w9 = 5 by omega]; show _ = ((cnt (fixB (zC z) nc (zE z) ne) 10 : Nat) : Int); rw [cnt_ext (p := fun p => decide (-(mM g 10 p) = mM g p 10)) (q := fixB (zC z) nc (zE z) ne) 10 (fun p hp => by unfold fixB; rw [hM.1 10 p (by omega) (by omega), hM.1 p 10 (by omega) (by omega)]; exact decide_eq_decide.mpr (by omega))])) dX8_counted_80
  · refine q_tableIn (off := 80) (tgt := 81) hx hb (6) c_1 dX8_counted_1 (by decide) ?_
    refine lv_aload_n hx hb dX8_counted_81 rfl (lv_at hl 0 rfl) ?_
    refine q_readi (va_runV (As := []) (rest := []) ⟨hx, hb, hml, hown, hg⟩ (c_X8_holding l D cy mo mz msv mtx mmo mif mmg mtn mie mme mrd mas (th) (sv) (ml) (tu) (fi) (ro) (sp) (it) (bl) (hh) z nc ne hnc hne hc he hC hE hV) (cv_X8_197 hg rfl rfl ⟨by decide, by decide⟩) ⟨q_blind0, va_recv hK (fl_blk hP 0 rfl) (ci := 8) (q0 := 0) rfl rfl, q_preR _ hK hN hP [0, 1] rfl⟩ rfl rfl hl.1 rfl (lv_room (Nat.le_of_ble_eq_true rfl)) dX8_counted_82 ⟨by decide, by decide⟩) (fun r_82 h_82 => ?_)
    subst h_82
    exact hQ _ _ _ (congrArg qI (by rw [show w9 = 6 by omega]; rfl)) dX8_counted_85
  · refine q_tableOut (tgt := 86) hx hb dX8_counted_1 (by decide) (by omega) ?_
    refine lv_aload_n hx hb dX8_counted_86 rfl (lv_at hl 0 rfl) ?_
    refine q_readi (va_runV (As := []) (rest := []) ⟨hx, hb, hml, hown, hg⟩ (c_X8_values l D cy mo mz msv mtx mmo mif mmg mtn mie mme mrd mas (th) (sv) (ml) (tu) (fi) (ro) (sp) (it) (bl) (hh) z hV) (cv_X8_200 hg rfl rfl ⟨by decide, by decide⟩) ⟨q_blind0, va_recv hK (fl_blk hP 0 rfl) (ci := 8) (q0 := 0) rfl rfl, q_preR _ hK hN hP [0, 1] rfl⟩ rfl rfl hl.1 rfl (lv_room (Nat.le_of_ble_eq_true rfl)) dX8_counted_87 ⟨by decide, by decide⟩) (fun r_87 h_87 => ?_)
    subst h_87
    exact hQ _ _ _ (congrArg qI (by rw [show w9 = 7 by omega]; rfl)) dX8_counted_90

set_option maxRecDepth 100000 in
set_option maxHeartbeats 4000000 in
theorem c_X8_freedomNow (l : Launch) (D : va_G) (cy : Nat → ClassId) (mo mz msv mtx mmo mif mmg mtn mie mme mrd mas : Nat) (th sv ml tu : Int) (fi : Bool) (ro sp it : Int) (bl : Bool) (hh : Int64) (z : Nat → Int) (nc ne : Nat) (g : Nat → Int) (isF : Nat → Bool) (mg tn : Nat → Int) (isE : Nat → Bool) (mE : Nat → Int) (hnc : z 20 = (nc : Int)) (hne : z 101 = (ne : Int)) (hc : nc ≤ 16) (he : ne ≤ 4) (hC : qWR (zC z) nc) (hE : qWR (zE z) ne) (hM : mCan z nc ne (-1) g isF mg tn isE mE) : qRd l yX8_freedomNow (.code yX8_freedomNow cX8_freedomNow 3 (some .float)) 2 [.ref (mo)] D cy [[(mo, .inr (8, [.int (qI (th)), .ref (mz), .int (qI (sv)), .ref (msv), .int (qI (ml)), .ref (mtx), .ref (mmo), .int (qI (tu)), .ref (mif), .ref (mmg), .ref (mtn), .ref (mie), .ref (mme), .int (qz (fi)), .int (qI (ro)), .int (qI (sp)), .int (qI (it)), .int (qz (bl)), .ref (mrd), .ref (mas), .long (hh)]))], [(mmo, aI cy 121 (g))]] (vp_Sf (fun r => r = frW (widS (zC z) nc (zE z) ne 10) ∧ 0 ≤ widS (zC z) nc (zE z) ne 10 ∧ widS (zC z) nc (zE z) ne 10 ≤ 20000)) := by
  refine q_ofRf (by decide +kernel) (Nat.le_of_ble_eq_true rfl) ?_
  intro p e s m args below meth c Q hx hb hml hown hg hQ hK hN hP ls hl
  have hown : s.vm.findClass RX8 = some m.cls := hown
  have hl : lv_has ls 3 [(0, .ref (mo))] := hl
  refine q_iconst hx hb dX8_freedomNow_0 ?_
  refine lv_istore_n (lv' := [(1, .int (qI (0))), (0, .ref (mo))]) hx hb dX8_freedomNow_1 rfl hl (by decide) rfl (fun ls hl => ?_)
  refine q_iconst hx hb dX8_freedomNow_2 ?_
  refine lv_istore_n (lv' := [(2, .int (qI (0))), (1, .int (qI (0))), (0, .ref (mo))]) hx hb dX8_freedomNow_3 rfl hl (by decide) rfl (fun ls hl => ?_)
  have L_4 : ∀ (n_4 k : Nat) (y : Int), k ≤ 10 → 10 + 1 ≤ k + n_4 → (y = widS (zC z) nc (zE z) ne k) → (0 ≤ y ∧ y ≤ 2000 * k) → ∀ (ls : Array Slot), lv_has ls 3 [(0, .ref (mo)), (1, .int (qI (y))), (2, .int (qI (((k : Nat) : Int))))] → W p l e (qrm 2) s m args below meth c s.heap [] 0 0 Q (F0 m 4 ls []) := by
    intro n_4
    induction n_4 with
    | zero => intro k _ h1 h2; exact absurd h2 (by omega)
    | succ n_4 ih_4 =>
      intro k y hk_4 hn_4 hy hy2 ls hl
      refine lv_iload_n hx hb dX8_freedomNow_4 rfl (lv_at hl 2 rfl) ?_
      refine q_bipush hx hb dX8_freedomNow_5 (by decide) ?_
      refine q_icmp_ge (tgt := 30) hx hb dX8_freedomNow_7 (by decide) (by omega) (fun c_7 => ?_) (fun c_7 => ?_)
      · skip
        have e9 : k = 10 := by omega
        subst e9
        have f9 := fr_use (w := y.toNat) (by omega)
        rw [show ((y.toNat : Nat) : Int) = y by omega] at f9
        refine lv_fconst1 hx hb dX8_freedomNow_30 ?_
        refine q_top (v2 := .float 1065353216) (congrArg Value.float fc1) ?_
        refine lv_iload_n hx hb dX8_freedomNow_31 rfl (lv_at hl 1 rfl) ?_
        refine lv_i2f hx hb dX8_freedomNow_32 ?_
        refine lv_fmul hx hb dX8_freedomNow_33 f9.1 ?_
        refine lv_ldcf hx hb hown (hg _ m_680) dX8_freedomNow_34 ?_
        refine lv_fdiv hx hb dX8_freedomNow_36 (by rw [f9.2.1]; exact f9.2.2.1) ?_
        exact hQ _ _ _ ⟨by rw [← hy, f9.2.1]; rfl, by omega, by omega⟩ dX8_freedomNow_37
      · skip
        have e1 := hM.1 k 10 (by omega) (by omega)
        have e2 := hM.1 10 k (by omega) (by omega)
        have cl := (fil_ok (but := -1) hE hC (by omega : ne ≤ 16) hc).1
        have b1 := cl.2.2 k 10 (by omega) (by omega)
        have b2 := cl.2.2 10 k (by omega) (by omega)
        have b3 := cl.1 k k 10 (by omega) (by omega) (by omega)
        have b4 := cl.2.1 k (by omega)
        rw [← e1] at b1 b3
        rw [← e2] at b2 b3
        refine lv_iload_n hx hb dX8_freedomNow_10 rfl (lv_at hl 1 rfl) ?_
        refine lv_aload_n hx hb dX8_freedomNow_11 rfl (lv_at hl 0 rfl) ?_
        refine lv_iload_n hx hb dX8_freedomNow_12 rfl (lv_at hl 2 rfl) ?_
        refine q_readi (va_runV (As := [.int (qI (((k : Nat) : Int)))]) (rest := [.int (qI (y))]) ⟨hx, hb, hml, hown, hg⟩ (c_X8_greatest l D cy mo mz msv mtx mmo mif mmg mtn mie mme mrd mas (th) (sv) (ml) (tu) (fi) (ro) (sp) (it) (bl) (hh) (g) _ k (by omega)) (cv_X8_85 hg rfl rfl ⟨by decide, by decide⟩) ⟨q_blind0, va_recv hK (fl_blk hP 0 rfl) (ci := 8) (q0 := 0) rfl rfl, q_preR _ hK hN hP [0, 1] rfl⟩ rfl rfl hl.1 rfl (lv_room (Nat.le_of_ble_eq_true rfl)) dX8_freedomNow_13 ⟨by decide, by decide⟩) (fun r_13 h_13 => ?_)
        subst h_13
        refine lv_aload_n hx hb dX8_freedomNow_16 rfl (lv_at hl 0 rfl) ?_
        refine lv_iload_n hx hb dX8_freedomNow_17 rfl (lv_at hl 2 rfl) ?_
        refine q_readi (va_runV (As := [.int (qI (((k : Nat) : Int)))]) (rest := [.int (qI (mM g k 10)), .int (qI (y))]) ⟨hx, hb, hml, hown, hg⟩ (c_X8_least l D cy mo mz msv mtx mmo mif mmg mtn mie mme mrd mas (th) (sv) (ml) (tu) (fi) (ro) (sp) (it) (bl) (hh) (g) _ k (by omega)) (cv_X8_81 hg rfl rfl ⟨by decide, by decide⟩) ⟨q_blind0, va_recv hK (fl_blk hP 0 rfl) (ci := 8) (q0 := 0) rfl rfl, q_preR _ hK hN hP [0, 1] rfl⟩ rfl rfl hl.1 rfl (lv_room (Nat.le_of_ble_eq_true rfl)) dX8_freedomNow_18 ⟨by decide, by decide⟩) (fun r_18 h_18 => ?_)
        subst h_18
        refine q_isub hx hb dX8_freedomNow_21 ?_
        refine q_iadd hx hb dX8_freedomNow_22 ?_
        refine lv_istore_n (lv' := [(1, .int (qI ((y) + ((mM g k 10) - (-(mM g 10 k)))))), (0, .ref (mo)), (2, .int (qI (((k : Nat) : Int))))]) hx hb dX8_freedomNow_23 rfl hl (by decide) rfl (fun ls hl => ?_)
        refine q_iinc (k := 2) (lv' := [(2, .int (qI ((((k : Nat) : Int)) + (1)))), (1, .int (qI ((y) + ((mM g k 10) - (-(mM g 10 k)))))), (0, .ref (mo))]) hx hb dX8_freedomNow_24 hl rfl (by decide) rfl (fun ls hl => ?_)
        refine lv_goto (tgt := 4) hx hb dX8_freedomNow_27 (by decide) ?_
        exact ih_4 (k + 1) _ (by omega) (by omega) (by show _ = widS (zC z) nc (zE z) ne k + _; rw [← hy, ← e1, ← e2]) (by omega) _ (lv_sub hl [2, 1, 0] rfl)
  exact L_4 (10 + 1) (0) (0) (by omega) (by omega) rfl (by omega) _ (lv_sub hl [2, 1, 0] rfl)

set_option maxRecDepth 100000 in
set_option maxHeartbeats 4000000 in
theorem c_X8_removedAnswer (l : Launch) (D : va_G) (cy : Nat → ClassId) (mo mz msv mtx mmo mif mmg mtn mie mme mrd mas : Nat) (th sv ml tu : Int) (fi : Bool) (ro sp it : Int) (bl : Bool) (hh : Int64) (z : Nat → Int) (nc ne : Nat) (g : Nat → Int) (isF : Nat → Bool) (mg tn : Nat → Int) (isE : Nat → Bool) (mE : Nat → Int) (hnc : z 20 = (nc : Int)) (hne : z 101 = (ne : Int)) (hc : nc ≤ 16) (he : ne ≤ 4) (hC : qWR (zC z) nc) (hE : qWR (zE z) ne) (k : Nat) (hk2 : k < nc) (sz : Nat) : qMet l yX8_removedAnswer (.code yX8_removedAnswer cX8_removedAnswer 2 (some .int)) 5 [.ref (mo), .int (qI (((k : Nat) : Int)))] D cy [[(mo, .inr (8, [.int (qI (th)), .ref (mz), .int (qI (sv)), .ref (msv), .int (qI (ml)), .ref (mtx), .ref (mmo), .int (qI (tu)), .ref (mif), .ref (mmg), .ref (mtn), .ref (mie), .ref (mme), .int (qz (fi)), .int (qI (ro)), .int (qI (sp)), .int (qI (it)), .int (qz (bl)), .ref (mrd), .ref (mas), .long (hh)]))], [(mz, aI cy 115 (z))], [(mmo, aI cy 121 (g))], [(mif, aZ cy 16 (isF))], [(mmg, aI cy 16 (mg))], [(mtn, aI cy 16 (tn))], [(mie, aZ cy 4 (isE))], [(mme, aI cy 4 (mE))]] sz (va_Qi (S := (Nat → Int) × Int × (Nat → Bool) × (Nat → Int) × (Nat → Int) × (Nat → Bool) × (Nat → Int) × Bool × Int) (fun r u => r = qI (rmA (zC z) nc (zE z) ne k) ∧ mCan z nc ne (k : Int) u.1 u.2.2.1 u.2.2.2.1 u.2.2.2.2.1 u.2.2.2.2.2.1 u.2.2.2.2.2.2.1) (qB D cy [[(mo, .inr (8, [.int (qI (th)), .ref (mz), .int (qI (sv)), .ref (msv), .int (qI (ml)), .ref (mtx), .ref (mmo), .int (qI (tu)), .ref (mif), .ref (mmg), .ref (mtn), .ref (mie), .ref (mme), .int (qz (fi)), .int (qI (ro)), .int (qI (sp)), .int (qI (it)), .int (qz (bl)), .ref (mrd), .ref (mas), .long (hh)]))], [(mz, aI cy 115 (z))], [(mmo, aI cy 121 (g))], [(mif, aZ cy 16 (isF))], [(mmg, aI cy 16 (mg))], [(mtn, aI cy 16 (tn))], [(mie, aZ cy 4 (isE))], [(mme, aI cy 4 (mE))]] sz (fun u => [[(mo, .inr (8, [.int (qI (th)), .ref (mz), .int (qI (sv)), .ref (msv), .int (qI (ml)), .ref (mtx), .ref (mmo), .int (qI (u.2.1)), .ref (mif), .ref (mmg), .ref (mtn), .ref (mie), .ref (mme), .int (qz (u.2.2.2.2.2.2.2.1)), .int (qI (u.2.2.2.2.2.2.2.2)), .int (qI (sp)), .int (qI (it)), .int (qz (bl)), .ref (mrd), .ref (mas), .long (hh)]))], [(mz, aI cy 115 (z))], [(mmo, aI cy 121 (u.1))], [(mif, aZ cy 16 (u.2.2.1))], [(mmg, aI cy 16 (u.2.2.2.1))], [(mtn, aI cy 16 (u.2.2.2.2.1))], [(mie, aZ cy 4 (u.2.2.2.2.2.1))], [(mme, aI cy 4 (u.2.2.2.2.2.2.1))]])) (va_A [[(mo, .inr (8, [.int (qI (th)), .ref (mz), .int (qI (sv)), .ref (msv), .int (qI (ml)), .ref (mtx), .ref (mmo), .int (qI (tu)), .ref (mif), .ref (mmg), .ref (mtn), .ref (mie), .ref (mme), .int (qz (fi)), .int (qI (ro)), .int (qI (sp)), .int (qI (it)), .int (qz (bl)), .ref (mrd), .ref (mas), .long (hh)]))], [(mz, aI cy 115 (z))], [(mmo, aI cy 121 (g))], [(mif, aZ cy 16 (isF))], [(mmg, aI cy 16 (mg))], [(mtn, aI cy 16 (tn))], [(mie, aZ cy 4 (isE))], [(mme, aI cy 4 (mE))]].flatten sz)) := by
  refine q_ofMi (S := (Nat → Int) × Int × (Nat → Bool) × (Nat → Int) × (Nat → Int) × (Nat → Bool) × (Nat → Int) × Bool × Int) (b1 := fun u => [[(mo, .inr (8, [.int (qI (th)), .ref (mz), .int (qI (sv)), .ref (msv), .int (qI (ml)), .ref (mtx), .ref (mmo), .int (qI (u.2.1)), .ref (mif), .ref (mmg), .ref (mtn), .ref (mie), .ref (mme), .int (qz (u.2.2.2.2.2.2.2.1)), .int (qI (u.2.2.2.2.2.2.2.2)), .int (qI (sp)), .int (qI (it)), .int (qz (bl)), .ref (mrd), .ref (mas), .long (hh)]))], [(mz, aI cy 115 (z))], [(mmo, aI cy 121 (u.1))], [(mif, aZ cy 16 (u.2.2.1))], [(mmg, aI cy 16 (u.2.2.2.1))], [(mtn, aI cy 16 (u.2.2.2.2.1))], [(mie, aZ cy 4 (u.2.2.2.2.2.1))], [(mme, aI cy 4 (u.2.2.2.2.2.2.1))]]) (post := fun r u => r = qI (rmA (zC z) nc (zE z) ne k) ∧ mCan z nc ne (k : Int) u.1 u.2.2.1 u.2.2.2.1 u.2.2.2.2.1 u.2.2.2.2.2.1 u.2.2.2.2.2.2.1) (by decide +kernel) (Nat.le_of_ble_eq_true rfl) ?_
  intro p e s m args below meth c Q A hx hb hml hown hg hQ hK hN hD hA H locs ls hP hS hl
  have hown : s.vm.findClass RX8 = some m.cls := hown
  have hl : lv_has ls 2 [(0, .ref (mo)), (1, .int (qI (((k : Nat) : Int))))] := hl
  refine lv_aload_n hx hb dX8_removedAnswer_0 rfl (lv_at hl 0 rfl) ?_
  refine lv_iload_n hx hb dX8_removedAnswer_1 rfl (lv_at hl 1 rfl) ?_
  refine q_backv [0, 1, 2, 3, 4, 5, 6, 7] [] (br := []) hP hD hS hA (va_runV (As := [.int (qI (((k : Nat) : Int)))]) (rest := []) ⟨hx, hb, hml, hown, hg⟩ (c_X8_fill l D cy mo mz msv mtx mmo mif mmg mtn mie mme mrd mas (th) (sv) (ml) (tu) (fi) (ro) (sp) (it) (bl) (hh) (z) nc ne (g) (isF) (mg) (tn) (isE) (mE) hnc hne hc he hC hE (((k : Nat) : Int)) (by omega) _) (cv_X8_77 hg rfl rfl ⟨by decide, by decide⟩) ⟨q_blind, va_recv hK (fl_blk hP 0 rfl) (ci := 8) (q0 := 0) rfl rfl, q_preM _ hK hN hP hD [0, 1, 2, 3, 4, 5, 6, 7] (by decide) rfl⟩ rfl rfl hl.1 rfl (lv_room (Nat.le_of_ble_eq_true rfl)) dX8_removedAnswer_2 ⟨by decide, by decide⟩) rfl rfl (by decide) (fun u_2 H locs h_2 hP hD hS => ?_)
  have hP : va_P D vwCl [[(mo, .inr (8, [.int (qI (th)), .ref (mz), .int (qI (sv)), .ref (msv), .int (qI (ml)), .ref (mtx), .ref (mmo), .int (qI (u_2.2.1)), .ref (mif), .ref (mmg), .ref (mtn), .ref (mie), .ref (mme), .int (qz (u_2.2.2.2.2.2.2.2.1)), .int (qI (u_2.2.2.2.2.2.2.2.2)), .int (qI (sp)), .int (qI (it)), .int (qz (bl)), .ref (mrd), .ref (mas), .long (hh)]))], [(mz, aI cy 115 (z))], [(mmo, aI cy 121 (u_2.1))], [(mif, aZ cy 16 (u_2.2.2.1))], [(mmg, aI cy 16 (u_2.2.2.2.1))], [(mtn, aI cy 16 (u_2.2.2.2.2.1))], [(mie, aZ cy 4 (u_2.2.2.2.2.2.1))], [(mme, aI cy 4 (u_2.2.2.2.2.2.2.1))]].flatten H := hP
  have hD : va_D A [[(mo, .inr (8, [.int (qI (th)), .ref (mz), .int (qI (sv)), .ref (msv), .int (qI (ml)), .ref (mtx), .ref (mmo), .int (qI (u_2.2.1)), .ref (mif), .ref (mmg), .ref (mtn), .ref (mie), .ref (mme), .int (qz (u_2.2.2.2.2.2.2.2.1)), .int (qI (u_2.2.2.2.2.2.2.2.2)), .int (qI (sp)), .int (qI (it)), .int (qz (bl)), .ref (mrd), .ref (mas), .long (hh)]))], [(mz, aI cy 115 (z))], [(mmo, aI cy 121 (u_2.1))], [(mif, aZ cy 16 (u_2.2.2.1))], [(mmg, aI cy 16 (u_2.2.2.2.1))], [(mtn, aI cy 16 (u_2.2.2.2.2.1))], [(mie, aZ cy 4 (u_2.2.2.2.2.2.1))], [(mme, aI cy 4 (u_2.2.2.2.2.2.2.1))]].flatten := hD
  refine lv_aload_n hx hb dX8_removedAnswer_5 rfl (lv_at hl 0 rfl) ?_
  refine lv_iload_n hx hb dX8_removedAnswer_6 rfl (lv_at hl 1 rfl) ?_
  refine q_readi (va_runV (As := [.int (qI (((k : Nat) : Int)))]) (rest := []) ⟨hx, hb, hml, hown, hg⟩ (c_X8_filledMany l D cy mo mz msv mtx mmo mif mmg mtn mie mme mrd mas (th) (sv) (ml) (u_2.2.1) (u_2.2.2.2.2.2.2.2.1) (u_2.2.2.2.2.2.2.2.2) (sp) (it) (bl) (hh) z nc ne hnc hc (u_2.2.2.1) (((k : Nat) : Int)) (by omega)) (cv_X8_188 hg rfl rfl ⟨by decide, by decide⟩) ⟨q_blind0, va_recv hK (fl_blk hP 0 rfl) (ci := 8) (q0 := 0) rfl rfl, q_preR _ hK hN hP [0, 1, 3] rfl⟩ rfl rfl hl.1 rfl (lv_room (Nat.le_of_ble_eq_true rfl)) dX8_removedAnswer_7 ⟨by decide, by decide⟩) (fun r_7 h_7 => ?_)
  subst h_7
  exact hQ _ _ _ _ _ u_2 ⟨congrArg (fun n : Nat => qI (n : Int)) (cnt_fm h_2 hc), h_2⟩ hP hD hS dX8_removedAnswer_10

theorem zC_stW {z z1 : Nat → Int} {k nc : Nat} (hk : k < nc) (hc : nc ≤ 16) (h : ∀ m, m ≠ 21 + 5 * k + 4 → z1 m = z m) (s : Int) : ∀ f i, f < 5 → i < nc → zC (qu z1 (21 + 5 * k + 4) s) f i = stW (zC z) k s f i := by
  intro f i hf hi
  unfold zC stW
  by_cases e : f = 4 ∧ i = k
  · obtain ⟨rfl, rfl⟩ := e
    rw [qu_s, qu_s, qu_s]
  · rw [qu_n _ _ (by omega), h _ (by omega)]
    by_cases e2 : f = 4
    · subst e2
      rw [qu_s, qu_n _ _ (by omega)]
    · rw [qu_n _ _ e2]
theorem zE_stW {z z1 : Nat → Int} {k nc ne : Nat} (hk : k < nc) (hc : nc ≤ 16) (h : ∀ m, m ≠ 21 + 5 * k + 4 → z1 m = z m) (s : Int) : ∀ f i, f < 5 → i < ne → zE (qu z1 (21 + 5 * k + 4) s) f i = zE z f i := by
  intro f i hf hi
  unfold zE
  rw [qu_n _ _ (by omega), qu_n _ _ (by omega), qu_n _ _ (by omega), h _ (by omega), h _ (by omega), h _ (by omega)]
/-- the least of the strengths from above that fills -/
def nsD (C : Nat → Nat → Int) (nc : Nat) (E : Nat → Nat → Int) (ne k : Nat) : Nat → Int
  | 0 => -1
  | j + 1 => if okS C nc E ne k (3 - j) = true then 3 - j else nsD C nc E ne k j
theorem nsD_up {C : Nat → Nat → Int} {nc : Nat} {E : Nat → Nat → Int} {ne k j : Nat} (h : okS C nc E ne k (3 - (j : Int)) = true) : 3 - (j : Int) = nsD C nc E ne k (j + 1) := by simp only [nsD]; rw [if_pos h]
theorem nsD_no {C : Nat → Nat → Int} {nc : Nat} {E : Nat → Nat → Int} {ne k j : Nat} (h : okS C nc E ne k (3 - (j : Int)) = false) : nsD C nc E ne k j = nsD C nc E ne k (j + 1) := by simp only [nsD]; rw [if_neg (by rw [h]; decide)]
theorem nsD_4 {C : Nat → Nat → Int} {nc : Nat} {E : Nat → Nat → Int} {ne k : Nat} : nsD C nc E ne k 4 = nsA C nc E ne k := by
  simp only [nsD, nsA]
  rfl
theorem okS_z {z z1 : Nat → Int} {k nc ne : Nat} (hk : k < nc) (hc : nc ≤ 16) (h : ∀ m, m ≠ 21 + 5 * k + 4 → z1 m = z m) (s : Int) : fOC (fil (zC (qu z1 (21 + 5 * k + 4) s)) nc (zE (qu z1 (21 + 5 * k + 4) s)) ne (-1)) k = okS (zC z) nc (zE z) ne k s := by
  unfold okS
  rw [fil_cong (zE_stW (ne := ne) hk hc h s) (zC_stW hk hc h s) (-1)]
theorem qu_keep {z z1 : Nat → Int} {p : Nat} {s : Int} (h : ∀ m, m ≠ p → z1 m = z m) : ∀ m, m ≠ p → qu z1 p s m = z m := fun m hm => by rw [qu_n _ _ hm]; exact h m hm
theorem qu_back {z z1 : Nat → Int} {p : Nat} (h : ∀ m, m ≠ p → z1 m = z m) : qu z1 p (z p) = z := by
  funext m
  by_cases e : m = p
  · subst e
    exact qu_s _ _ _
  · rw [qu_n _ _ e]
    exact h m e

set_option maxRecDepth 100000 in
set_option maxHeartbeats 4000000 in
theorem c_X8_strengthAnswer (l : Launch) (D : va_G) (cy : Nat → ClassId) (mo mz msv mtx mmo mif mmg mtn mie mme mrd mas : Nat) (th sv ml tu : Int) (fi : Bool) (ro sp it : Int) (bl : Bool) (hh : Int64) (z : Nat → Int) (nc ne : Nat) (g : Nat → Int) (isF : Nat → Bool) (mg tn : Nat → Int) (isE : Nat → Bool) (mE : Nat → Int) (hnc : z 20 = (nc : Int)) (hne : z 101 = (ne : Int)) (hc : nc ≤ 16) (he : ne ≤ 4) (hC : qWR (zC z) nc) (hE : qWR (zE z) ne) (k : Nat) (hk2 : k < nc) (sz : Nat) : qMet l yX8_strengthAnswer (.code yX8_strengthAnswer cX8_strengthAnswer 6 (some .int)) 5 [.ref (mo), .int (qI (((k : Nat) : Int)))] D cy [[(mo, .inr (8, [.int (qI (th)), .ref (mz), .int (qI (sv)), .ref (msv), .int (qI (ml)), .ref (mtx), .ref (mmo), .int (qI (tu)), .ref (mif), .ref (mmg), .ref (mtn), .ref (mie), .ref (mme), .int (qz (fi)), .int (qI (ro)), .int (qI (sp)), .int (qI (it)), .int (qz (bl)), .ref (mrd), .ref (mas), .long (hh)]))], [(mz, aI cy 115 (z))], [(mmo, aI cy 121 (g))], [(mif, aZ cy 16 (isF))], [(mmg, aI cy 16 (mg))], [(mtn, aI cy 16 (tn))], [(mie, aZ cy 4 (isE))], [(mme, aI cy 4 (mE))]] sz (va_Qi (S := (Nat → Int) × Int × (Nat → Bool) × (Nat → Int) × (Nat → Int) × (Nat → Bool) × (Nat → Int) × Bool × Int) (fun r _ => r = qI (nsA (zC z) nc (zE z) ne k)) (qB D cy [[(mo, .inr (8, [.int (qI (th)), .ref (mz), .int (qI (sv)), .ref (msv), .int (qI (ml)), .ref (mtx), .ref (mmo), .int (qI (tu)), .ref (mif), .ref (mmg), .ref (mtn), .ref (mie), .ref (mme), .int (qz (fi)), .int (qI (ro)), .int (qI (sp)), .int (qI (it)), .int (qz (bl)), .ref (mrd), .ref (mas), .long (hh)]))], [(mz, aI cy 115 (z))], [(mmo, aI cy 121 (g))], [(mif, aZ cy 16 (isF))], [(mmg, aI cy 16 (mg))], [(mtn, aI cy 16 (tn))], [(mie, aZ cy 4 (isE))], [(mme, aI cy 4 (mE))]] sz (fun u => [[(mo, .inr (8, [.int (qI (th)), .ref (mz), .int (qI (sv)), .ref (msv), .int (qI (ml)), .ref (mtx), .ref (mmo), .int (qI (u.2.1)), .ref (mif), .ref (mmg), .ref (mtn), .ref (mie), .ref (mme), .int (qz (u.2.2.2.2.2.2.2.1)), .int (qI (u.2.2.2.2.2.2.2.2)), .int (qI (sp)), .int (qI (it)), .int (qz (bl)), .ref (mrd), .ref (mas), .long (hh)]))], [(mz, aI cy 115 (z))], [(mmo, aI cy 121 (u.1))], [(mif, aZ cy 16 (u.2.2.1))], [(mmg, aI cy 16 (u.2.2.2.1))], [(mtn, aI cy 16 (u.2.2.2.2.1))], [(mie, aZ cy 4 (u.2.2.2.2.2.1))], [(mme, aI cy 4 (u.2.2.2.2.2.2.1))]])) (va_A [[(mo, .inr (8, [.int (qI (th)), .ref (mz), .int (qI (sv)), .ref (msv), .int (qI (ml)), .ref (mtx), .ref (mmo), .int (qI (tu)), .ref (mif), .ref (mmg), .ref (mtn), .ref (mie), .ref (mme), .int (qz (fi)), .int (qI (ro)), .int (qI (sp)), .int (qI (it)), .int (qz (bl)), .ref (mrd), .ref (mas), .long (hh)]))], [(mz, aI cy 115 (z))], [(mmo, aI cy 121 (g))], [(mif, aZ cy 16 (isF))], [(mmg, aI cy 16 (mg))], [(mtn, aI cy 16 (tn))], [(mie, aZ cy 4 (isE))], [(mme, aI cy 4 (mE))]].flatten sz)) := by
  refine q_ofMi (S := (Nat → Int) × Int × (Nat → Bool) × (Nat → Int) × (Nat → Int) × (Nat → Bool) × (Nat → Int) × Bool × Int) (b1 := fun u => [[(mo, .inr (8, [.int (qI (th)), .ref (mz), .int (qI (sv)), .ref (msv), .int (qI (ml)), .ref (mtx), .ref (mmo), .int (qI (u.2.1)), .ref (mif), .ref (mmg), .ref (mtn), .ref (mie), .ref (mme), .int (qz (u.2.2.2.2.2.2.2.1)), .int (qI (u.2.2.2.2.2.2.2.2)), .int (qI (sp)), .int (qI (it)), .int (qz (bl)), .ref (mrd), .ref (mas), .long (hh)]))], [(mz, aI cy 115 (z))], [(mmo, aI cy 121 (u.1))], [(mif, aZ cy 16 (u.2.2.1))], [(mmg, aI cy 16 (u.2.2.2.1))], [(mtn, aI cy 16 (u.2.2.2.2.1))], [(mie, aZ cy 4 (u.2.2.2.2.2.1))], [(mme, aI cy 4 (u.2.2.2.2.2.2.1))]]) (post := fun r _ => r = qI (nsA (zC z) nc (zE z) ne k)) (by decide +kernel) (Nat.le_of_ble_eq_true rfl) ?_
  intro p e s m args below meth c Q A hx hb hml hown hg hQ hK hN hD hA H locs ls hP hS hl
  have hown : s.vm.findClass RX8 = some m.cls := hown
  have hl : lv_has ls 6 [(0, .ref (mo)), (1, .int (qI (((k : Nat) : Int))))] := hl
  refine q_bipush hx hb dX8_strengthAnswer_0 (by decide) ?_
  refine q_iconst hx hb dX8_strengthAnswer_2 ?_
  refine lv_iload_n hx hb dX8_strengthAnswer_3 rfl (lv_at hl 1 rfl) ?_
  refine q_imul hx hb dX8_strengthAnswer_4 ?_
  refine q_iadd hx hb dX8_strengthAnswer_5 ?_
  refine q_iconst hx hb dX8_strengthAnswer_6 ?_
  refine q_iadd hx hb dX8_strengthAnswer_7 ?_
  refine q_topZ (y := ((21 + 5 * k + 4 : Nat) : Int)) (by omega) ?_
  refine lv_istore_n (lv' := [(2, .int (qI (((21 + 5 * k + 4 : Nat) : Int)))), (0, .ref (mo)), (1, .int (qI (((k : Nat) : Int))))]) hx hb dX8_strengthAnswer_8 rfl hl (by decide) rfl (fun ls hl => ?_)
  refine lv_aload_n hx hb dX8_strengthAnswer_9 rfl (lv_at hl 1 rfl) ?_
  refine gf_X8_7 hx hb hg hown hK (fl_blk hP 0 rfl) 0 rfl rfl dX8_strengthAnswer_10 ?_
  refine lv_iload_n hx hb dX8_strengthAnswer_13 rfl (lv_at hl 0 rfl) ?_
  refine q_iald (j := 21 + 5 * k + 4) hx hb hK (fl_blk hP 1 rfl) 0 rfl (by omega) dX8_strengthAnswer_14 ?_
  refine lv_istore_n (lv' := [(3, .int (qI (z (21 + 5 * k + 4)))), (2, .int (qI (((21 + 5 * k + 4 : Nat) : Int)))), (0, .ref (mo)), (1, .int (qI (((k : Nat) : Int))))]) hx hb dX8_strengthAnswer_15 rfl hl (by decide) rfl (fun ls hl => ?_)
  refine q_iconst hx hb dX8_strengthAnswer_16 ?_
  refine lv_istore (lv' := [(4, .int (qI (-1))), (3, .int (qI (z (21 + 5 * k + 4)))), (2, .int (qI (((21 + 5 * k + 4 : Nat) : Int)))), (0, .ref (mo)), (1, .int (qI (((k : Nat) : Int))))]) hx hb dX8_strengthAnswer_17 hl (by decide) rfl (fun ls hl => ?_)
  refine q_iconst hx hb dX8_strengthAnswer_19 ?_
  refine lv_istore (lv' := [(5, .int (qI (3))), (4, .int (qI (-1))), (3, .int (qI (z (21 + 5 * k + 4)))), (2, .int (qI (((21 + 5 * k + 4 : Nat) : Int)))), (0, .ref (mo)), (1, .int (qI (((k : Nat) : Int))))]) hx hb dX8_strengthAnswer_20 hl (by decide) rfl (fun ls hl => ?_)
  have L_22 : ∀ (n_22 j : Nat) (x5 : Int) (y : Int) (z1 : Nat → Int) (t1 : Int) (g1 : Nat → Int) (isF1 : Nat → Bool) (mg1 : Nat → Int) (tn1 : Nat → Int) (isE1 : Nat → Bool) (mE1 : Nat → Int) (fi1 : Bool) (ro1 : Int), j ≤ 4 → 4 + 1 ≤ j + n_22 → (x5 = 3 - (j : Int)) → (∀ m, m ≠ 21 + 5 * k + 4 → z1 m = z m) → (y = nsD (zC z) nc (zE z) ne k j) → (-1 ≤ y ∧ y ≤ 3) → ∀ (H : Heap) (locs : List Loc) (ls : Array Slot), va_P D vwCl [[(mo, .inr (8, [.int (qI (th)), .ref (mz), .int (qI (sv)), .ref (msv), .int (qI (ml)), .ref (mtx), .ref (mmo), .int (qI (t1)), .ref (mif), .ref (mmg), .ref (mtn), .ref (mie), .ref (mme), .int (qz (fi1)), .int (qI (ro1)), .int (qI (sp)), .int (qI (it)), .int (qz (bl)), .ref (mrd), .ref (mas), .long (hh)]))], [(mz, aI cy 115 (z1))], [(mmo, aI cy 121 (g1))], [(mif, aZ cy 16 (isF1))], [(mmg, aI cy 16 (mg1))], [(mtn, aI cy 16 (tn1))], [(mie, aZ cy 4 (isE1))], [(mme, aI cy 4 (mE1))]].flatten H → va_D A [[(mo, .inr (8, [.int (qI (th)), .ref (mz), .int (qI (sv)), .ref (msv), .int (qI (ml)), .ref (mtx), .ref (mmo), .int (qI (t1)), .ref (mif), .ref (mmg), .ref (mtn), .ref (mie), .ref (mme), .int (qz (fi1)), .int (qI (ro1)), .int (qI (sp)), .int (qI (it)), .int (qz (bl)), .ref (mrd), .ref (mas), .long (hh)]))], [(mz, aI cy 115 (z1))], [(mmo, aI cy 121 (g1))], [(mif, aZ cy 16 (isF1))], [(mmg, aI cy 16 (mg1))], [(mtn, aI cy 16 (tn1))], [(mie, aZ cy 4 (isE1))], [(mme, aI cy 4 (mE1))]].flatten → va_S A s.heap H locs → lv_has ls 6 [(0, .ref (mo)), (1, .int (qI (((k : Nat) : Int)))), (2, .int (qI (((21 + 5 * k + 4 : Nat) : Int)))), (3, .int (qI (z (21 + 5 * k + 4)))), (4, .int (qI (y))), (5, .int (qI (x5)))] → W p l e (qrm 5) s m args below meth c H locs 0 0 Q (F0 m 22 ls []) := by
    intro n_22
    induction n_22 with
    | zero => intro j _ _ _ _ _ _ _ _ _ _ _ _ h1 h2; exact absurd h2 (by omega)
    | succ n_22 ih_22 =>
      intro j x5 y z1 t1 g1 isF1 mg1 tn1 isE1 mE1 fi1 ro1 hk_22 hn_22 hx5 hz1 hy hy2 H locs ls hP hD hS hl
      refine lv_iload hx hb dX8_strengthAnswer_22 (lv_at hl 5 rfl) ?_
      refine q_if_lt (tgt := 64) hx hb dX8_strengthAnswer_24 (by decide) (by omega) (fun c_24 => ?_) (fun c_24 => ?_)
      · skip
        refine lv_aload_n hx hb dX8_strengthAnswer_64 rfl (lv_at hl 0 rfl) ?_
        refine gf_X8_7 hx hb hg hown hK (fl_blk hP 0 rfl) 0 rfl rfl dX8_strengthAnswer_65 ?_
        refine lv_iload_n hx hb dX8_strengthAnswer_68 rfl (lv_at hl 2 rfl) ?_
        refine lv_iload_n hx hb dX8_strengthAnswer_69 rfl (lv_at hl 3 rfl) ?_
        refine qb_iast (j := 21 + 5 * k + 4) hx hb hK hP hD hS 1 0 rfl rfl (by omega) dX8_strengthAnswer_70 (fun H locs hP hD hS => ?_)
        have hP : va_P D vwCl [[(mo, .inr (8, [.int (qI (th)), .ref (mz), .int (qI (sv)), .ref (msv), .int (qI (ml)), .ref (mtx), .ref (mmo), .int (qI (t1)), .ref (mif), .ref (mmg), .ref (mtn), .ref (mie), .ref (mme), .int (qz (fi1)), .int (qI (ro1)), .int (qI (sp)), .int (qI (it)), .int (qz (bl)), .ref (mrd), .ref (mas), .long (hh)]))], [(mz, aI cy 115 (qu z1 (21 + 5 * k + 4) (z (21 + 5 * k + 4))))], [(mmo, aI cy 121 (g1))], [(mif, aZ cy 16 (isF1))], [(mmg, aI cy 16 (mg1))], [(mtn, aI cy 16 (tn1))], [(mie, aZ cy 4 (isE1))], [(mme, aI cy 4 (mE1))]].flatten H := hP
        have hD : va_D A [[(mo, .inr (8, [.int (qI (th)), .ref (mz), .int (qI (sv)), .ref (msv), .int (qI (ml)), .ref (mtx), .ref (mmo), .int (qI (t1)), .ref (mif), .ref (mmg), .ref (mtn), .ref (mie), .ref (mme), .int (qz (fi1)), .int (qI (ro1)), .int (qI (sp)), .int (qI (it)), .int (qz (bl)), .ref (mrd), .ref (mas), .long (hh)]))], [(mz, aI cy 115 (qu z1 (21 + 5 * k + 4) (z (21 + 5 * k + 4))))], [(mmo, aI cy 121 (g1))], [(mif, aZ cy 16 (isF1))], [(mmg, aI cy 16 (mg1))], [(mtn, aI cy 16 (tn1))], [(mie, aZ cy 4 (isE1))], [(mme, aI cy 4 (mE1))]].flatten := hD
        refine lv_iload hx hb dX8_strengthAnswer_71 (lv_at hl 4 rfl) ?_
        have e9 : j = 4 := by omega
        subst e9
        rw [qu_back hz1] at hP hD
        exact hQ _ _ _ _ _ (g1, t1, isF1, mg1, tn1, isE1, mE1, fi1, ro1) (by rw [hy, nsD_4]) hP hD hS dX8_strengthAnswer_73
      · skip
        refine lv_aload_n hx hb dX8_strengthAnswer_27 rfl (lv_at hl 0 rfl) ?_
        refine gf_X8_7 hx hb hg hown hK (fl_blk hP 0 rfl) 0 rfl rfl dX8_strengthAnswer_28 ?_
        refine lv_iload_n hx hb dX8_strengthAnswer_31 rfl (lv_at hl 2 rfl) ?_
        refine lv_iload hx hb dX8_strengthAnswer_32 (lv_at hl 5 rfl) ?_
        refine qb_iast (j := 21 + 5 * k + 4) hx hb hK hP hD hS 1 0 rfl rfl (by omega) dX8_strengthAnswer_34 (fun H locs hP hD hS => ?_)
        have hP : va_P D vwCl [[(mo, .inr (8, [.int (qI (th)), .ref (mz), .int (qI (sv)), .ref (msv), .int (qI (ml)), .ref (mtx), .ref (mmo), .int (qI (t1)), .ref (mif), .ref (mmg), .ref (mtn), .ref (mie), .ref (mme), .int (qz (fi1)), .int (qI (ro1)), .int (qI (sp)), .int (qI (it)), .int (qz (bl)), .ref (mrd), .ref (mas), .long (hh)]))], [(mz, aI cy 115 (qu z1 (21 + 5 * k + 4) (x5)))], [(mmo, aI cy 121 (g1))], [(mif, aZ cy 16 (isF1))], [(mmg, aI cy 16 (mg1))], [(mtn, aI cy 16 (tn1))], [(mie, aZ cy 4 (isE1))], [(mme, aI cy 4 (mE1))]].flatten H := hP
        have hD : va_D A [[(mo, .inr (8, [.int (qI (th)), .ref (mz), .int (qI (sv)), .ref (msv), .int (qI (ml)), .ref (mtx), .ref (mmo), .int (qI (t1)), .ref (mif), .ref (mmg), .ref (mtn), .ref (mie), .ref (mme), .int (qz (fi1)), .int (qI (ro1)), .int (qI (sp)), .int (qI (it)), .int (qz (bl)), .ref (mrd), .ref (mas), .long (hh)]))], [(mz, aI cy 115 (qu z1 (21 + 5 * k + 4) (x5)))], [(mmo, aI cy 121 (g1))], [(mif, aZ cy 16 (isF1))], [(mmg, aI cy 16 (mg1))], [(mtn, aI cy 16 (tn1))], [(mie, aZ cy 4 (isE1))], [(mme, aI cy 4 (mE1))]].flatten := hD
        refine lv_aload_n hx hb dX8_strengthAnswer_35 rfl (lv_at hl 0 rfl) ?_
        refine q_iconst hx hb dX8_strengthAnswer_36 ?_
        refine q_backv [0, 1, 2, 3, 4, 5, 6, 7] [] (br := []) hP hD hS hA (va_runV (As := [.int (qI (-1))]) (rest := []) ⟨hx, hb, hml, hown, hg⟩ (c_X8_fill l D cy mo mz msv mtx mmo mif mmg mtn mie mme mrd mas (th) (sv) (ml) (t1) (fi1) (ro1) (sp) (it) (bl) (hh) (qu z1 (21 + 5 * k + 4) (x5)) nc ne (g1) (isF1) (mg1) (tn1) (isE1) (mE1) (by rw [qu_n _ _ (by omega), hz1 _ (by omega)]; exact hnc) (by rw [qu_n _ _ (by omega), hz1 _ (by omega)]; exact hne) hc he (qWR_cong (zC_stW hk2 hc hz1 x5) (qWR_stW hC (by omega))) (qWR_cong (zE_stW hk2 hc hz1 x5) hE) (-1) (by omega) _) (cv_X8_77 hg rfl rfl ⟨by decide, by decide⟩) ⟨q_blind, va_recv hK (fl_blk hP 0 rfl) (ci := 8) (q0 := 0) rfl rfl, q_preM _ hK hN hP hD [0, 1, 2, 3, 4, 5, 6, 7] (by decide) rfl⟩ rfl rfl hl.1 rfl (lv_room (Nat.le_of_ble_eq_true rfl)) dX8_strengthAnswer_37 ⟨by decide, by decide⟩) rfl rfl (by decide) (fun u_37 H locs h_37 hP hD hS => ?_)
        have hP : va_P D vwCl [[(mo, .inr (8, [.int (qI (th)), .ref (mz), .int (qI (sv)), .ref (msv), .int (qI (ml)), .ref (mtx), .ref (mmo), .int (qI (u_37.2.1)), .ref (mif), .ref (mmg), .ref (mtn), .ref (mie), .ref (mme), .int (qz (u_37.2.2.2.2.2.2.2.1)), .int (qI (u_37.2.2.2.2.2.2.2.2)), .int (qI (sp)), .int (qI (it)), .int (qz (bl)), .ref (mrd), .ref (mas), .long (hh)]))], [(mz, aI cy 115 (qu z1 (21 + 5 * k + 4) (x5)))], [(mmo, aI cy 121 (u_37.1))], [(mif, aZ cy 16 (u_37.2.2.1))], [(mmg, aI cy 16 (u_37.2.2.2.1))], [(mtn, aI cy 16 (u_37.2.2.2.2.1))], [(mie, aZ cy 4 (u_37.2.2.2.2.2.1))], [(mme, aI cy 4 (u_37.2.2.2.2.2.2.1))]].flatten H := hP
        have hD : va_D A [[(mo, .inr (8, [.int (qI (th)), .ref (mz), .int (qI (sv)), .ref (msv), .int (qI (ml)), .ref (mtx), .ref (mmo), .int (qI (u_37.2.1)), .ref (mif), .ref (mmg), .ref (mtn), .ref (mie), .ref (mme), .int (qz (u_37.2.2.2.2.2.2.2.1)), .int (qI (u_37.2.2.2.2.2.2.2.2)), .int (qI (sp)), .int (qI (it)), .int (qz (bl)), .ref (mrd), .ref (mas), .long (hh)]))], [(mz, aI cy 115 (qu z1 (21 + 5 * k + 4) (x5)))], [(mmo, aI cy 121 (u_37.1))], [(mif, aZ cy 16 (u_37.2.2.1))], [(mmg, aI cy 16 (u_37.2.2.2.1))], [(mtn, aI cy 16 (u_37.2.2.2.2.1))], [(mie, aZ cy 4 (u_37.2.2.2.2.2.1))], [(mme, aI cy 4 (u_37.2.2.2.2.2.2.1))]].flatten := hD
        refine lv_aload_n hx hb dX8_strengthAnswer_40 rfl (lv_at hl 0 rfl) ?_
        refine gf_X8_22 hx hb hg hown hK (fl_blk hP 0 rfl) 0 rfl rfl dX8_strengthAnswer_41 ?_
        refine lv_iload_n hx hb dX8_strengthAnswer_44 rfl (lv_at hl 1 rfl) ?_
        refine q_zald (j := k) hx hb hK (fl_blk hP 3 rfl) 0 rfl (by omega) dX8_strengthAnswer_45 ?_
        refine q_ifz_eq (tgt := 54) hx hb dX8_strengthAnswer_46 (by decide) (fun c_46 => ?_) (fun c_46 => ?_)
        · skip
          refine lv_iload hx hb dX8_strengthAnswer_54 (lv_at hl 4 rfl) ?_
          refine lv_istore (lv' := [(4, .int (qI (y))), (0, .ref (mo)), (1, .int (qI (((k : Nat) : Int)))), (2, .int (qI (((21 + 5 * k + 4 : Nat) : Int)))), (3, .int (qI (z (21 + 5 * k + 4)))), (5, .int (qI (x5)))]) hx hb dX8_strengthAnswer_56 hl (by decide) rfl (fun ls hl => ?_)
          refine q_iinc (k := 5) (lv' := [(5, .int (qI ((x5) + (-1)))), (4, .int (qI (y))), (0, .ref (mo)), (1, .int (qI (((k : Nat) : Int)))), (2, .int (qI (((21 + 5 * k + 4 : Nat) : Int)))), (3, .int (qI (z (21 + 5 * k + 4))))]) hx hb dX8_strengthAnswer_58 hl rfl (by decide) rfl (fun ls hl => ?_)
          refine lv_goto (tgt := 22) hx hb dX8_strengthAnswer_61 (by decide) ?_
          exact ih_22 (j + 1) _ (y) _ _ _ _ _ _ _ _ _ _ (by omega) (by omega) (by omega) (qu_keep hz1) (hy.trans (nsD_no (by rw [← hx5]; exact (okS_z hk2 hc hz1 x5).symm.trans ((h_37.2.1 k hk2 (by omega)).1.symm.trans c_46)))) (by omega) _ _ _ hP hD hS (lv_sub hl [2, 3, 4, 5, 1, 0] rfl)
        · skip
          refine lv_iload hx hb dX8_strengthAnswer_49 (lv_at hl 5 rfl) ?_
          refine lv_goto (tgt := 56) hx hb dX8_strengthAnswer_51 (by decide) ?_
          refine lv_istore (lv' := [(4, .int (qI (x5))), (0, .ref (mo)), (1, .int (qI (((k : Nat) : Int)))), (2, .int (qI (((21 + 5 * k + 4 : Nat) : Int)))), (3, .int (qI (z (21 + 5 * k + 4)))), (5, .int (qI (x5)))]) hx hb dX8_strengthAnswer_56 hl (by decide) rfl (fun ls hl => ?_)
          refine q_iinc (k := 5) (lv' := [(5, .int (qI ((x5) + (-1)))), (4, .int (qI (x5))), (0, .ref (mo)), (1, .int (qI (((k : Nat) : Int)))), (2, .int (qI (((21 + 5 * k + 4 : Nat) : Int)))), (3, .int (qI (z (21 + 5 * k + 4))))]) hx hb dX8_strengthAnswer_58 hl rfl (by decide) rfl (fun ls hl => ?_)
          refine lv_goto (tgt := 22) hx hb dX8_strengthAnswer_61 (by decide) ?_
          exact ih_22 (j + 1) _ (x5) _ _ _ _ _ _ _ _ _ _ (by omega) (by omega) (by omega) (qu_keep hz1) (hx5.trans (nsD_up (by rw [← hx5]; exact (okS_z hk2 hc hz1 x5).symm.trans ((h_37.2.1 k hk2 (by omega)).1.symm.trans c_46)))) (by omega) _ _ _ hP hD hS (lv_sub hl [2, 3, 4, 5, 1, 0] rfl)
  exact L_22 (4 + 1) (0) _ (-1) _ _ _ _ _ _ _ _ _ _ (by omega) (by omega) (by omega) (fun m _ => rfl) rfl (by omega) _ _ _ hP hD hS (lv_sub hl [4, 5, 3, 2, 1, 0] rfl)

set_option maxRecDepth 100000 in
set_option maxHeartbeats 4000000 in
theorem c_X8_mix (l : Launch) (D : va_G) (cy : Nat → ClassId) (mo mz msv mtx mmo mif mmg mtn mie mme mrd mas : Nat) (th sv ml tu : Int) (fi : Bool) (ro sp it : Int) (bl : Bool) (hh : Int64) (v9 : Int64) (sz : Nat) : qMet l yX8_mix (.code yX8_mix cX8_mix 3 none) 1 [.ref (mo), .long (v9)] D cy [[(mo, .inr (8, [.int (qI (th)), .ref (mz), .int (qI (sv)), .ref (msv), .int (qI (ml)), .ref (mtx), .ref (mmo), .int (qI (tu)), .ref (mif), .ref (mmg), .ref (mtn), .ref (mie), .ref (mme), .int (qz (fi)), .int (qI (ro)), .int (qI (sp)), .int (qI (it)), .int (qz (bl)), .ref (mrd), .ref (mas), .long (hh)]))]] sz (va_Qv (S := Unit) (fun _ => True) (qB D cy [[(mo, .inr (8, [.int (qI (th)), .ref (mz), .int (qI (sv)), .ref (msv), .int (qI (ml)), .ref (mtx), .ref (mmo), .int (qI (tu)), .ref (mif), .ref (mmg), .ref (mtn), .ref (mie), .ref (mme), .int (qz (fi)), .int (qI (ro)), .int (qI (sp)), .int (qI (it)), .int (qz (bl)), .ref (mrd), .ref (mas), .long (hh)]))]] sz (fun _ => [[(mo, .inr (8, [.int (qI (th)), .ref (mz), .int (qI (sv)), .ref (msv), .int (qI (ml)), .ref (mtx), .ref (mmo), .int (qI (tu)), .ref (mif), .ref (mmg), .ref (mtn), .ref (mie), .ref (mme), .int (qz (fi)), .int (qI (ro)), .int (qI (sp)), .int (qI (it)), .int (qz (bl)), .ref (mrd), .ref (mas), .long (31 * hh + v9)]))]])) (va_A [[(mo, .inr (8, [.int (qI (th)), .ref (mz), .int (qI (sv)), .ref (msv), .int (qI (ml)), .ref (mtx), .ref (mmo), .int (qI (tu)), .ref (mif), .ref (mmg), .ref (mtn), .ref (mie), .ref (mme), .int (qz (fi)), .int (qI (ro)), .int (qI (sp)), .int (qI (it)), .int (qz (bl)), .ref (mrd), .ref (mas), .long (hh)]))]].flatten sz)) := by
  refine q_ofMv (S := Unit) (b1 := fun _ => [[(mo, .inr (8, [.int (qI (th)), .ref (mz), .int (qI (sv)), .ref (msv), .int (qI (ml)), .ref (mtx), .ref (mmo), .int (qI (tu)), .ref (mif), .ref (mmg), .ref (mtn), .ref (mie), .ref (mme), .int (qz (fi)), .int (qI (ro)), .int (qI (sp)), .int (qI (it)), .int (qz (bl)), .ref (mrd), .ref (mas), .long (31 * hh + v9)]))]]) (post := fun _ => True) (by decide +kernel) (Nat.le_of_ble_eq_true rfl) ?_
  intro p e s m args below meth c Q A hx hb hml hown hg hQ hK hN hD hA H locs ls hP hS hl
  have hown : s.vm.findClass RX8 = some m.cls := hown
  have hl : lv_has ls 3 [(0, .ref (mo)), (1, .long (v9))] := hl
  refine lv_aload_n hx hb dX8_mix_0 rfl (lv_at hl 0 rfl) ?_
  refine lv_ldc2 hx hb hown (hg _ m_686) dX8_mix_1 ?_
  refine lv_aload_n hx hb dX8_mix_4 rfl (lv_at hl 0 rfl) ?_
  refine gf_X8_223 hx hb hg hown hK (fl_blk hP 0 rfl) 0 rfl rfl dX8_mix_5 ?_
  refine lv_lmul hx hb dX8_mix_8 ?_
  refine lv_lload_n hx hb dX8_mix_9 rfl (lv_at hl 1 rfl) ?_
  refine lv_ladd hx hb dX8_mix_10 ?_
  refine pf_X8_223 hx hb hg hown hK hP hD hS 0 0 rfl rfl rfl rfl (Nat.le_of_ble_eq_true rfl) dX8_mix_11 (fun H locs hP hD hS => ?_)
  have hP : va_P D vwCl [[(mo, .inr (8, [.int (qI (th)), .ref (mz), .int (qI (sv)), .ref (msv), .int (qI (ml)), .ref (mtx), .ref (mmo), .int (qI (tu)), .ref (mif), .ref (mmg), .ref (mtn), .ref (mie), .ref (mme), .int (qz (fi)), .int (qI (ro)), .int (qI (sp)), .int (qI (it)), .int (qz (bl)), .ref (mrd), .ref (mas), .long (((31) * (hh)) + (v9))]))]].flatten H := hP
  have hD : va_D A [[(mo, .inr (8, [.int (qI (th)), .ref (mz), .int (qI (sv)), .ref (msv), .int (qI (ml)), .ref (mtx), .ref (mmo), .int (qI (tu)), .ref (mif), .ref (mmg), .ref (mtn), .ref (mie), .ref (mme), .int (qz (fi)), .int (qI (ro)), .int (qI (sp)), .int (qI (it)), .int (qz (bl)), .ref (mrd), .ref (mas), .long (((31) * (hh)) + (v9))]))]].flatten := hD
  exact hQ _ _ _ _ () trivial hP hD hS dX8_mix_14
