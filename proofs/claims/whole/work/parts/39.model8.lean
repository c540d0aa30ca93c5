set_option maxRecDepth 100000 in
set_option maxHeartbeats 4000000 in
theorem c_X8_thrown0 (l : Launch) (D : va_G) (cy : Nat → ClassId) (mo mz msv mtx mmo mif mmg mtn mie mme mrd mas : Nat) (th sv ml tu : Int) (fi : Bool) (ro sp it : Int) (bl : Bool) (hh : Int64) : qRd l yX8_thrown (.code yX8_thrown cX8_thrown 1 (some .int)) 1 [.ref (mo)] D cy [[(mo, .inr (8, [.int (qI (th)), .ref (mz), .int (qI (sv)), .ref (msv), .int (qI (ml)), .ref (mtx), .ref (mmo), .int (qI (tu)), .ref (mif), .ref (mmg), .ref (mtn), .ref (mie), .ref (mme), .int (qz (fi)), .int (qI (ro)), .int (qI (sp)), .int (qI (it)), .int (qz (bl)), .ref (mrd), .ref (mas), .long (hh)]))]] (vp_Si (fun r => r = qI th)) := by
  refine q_ofRi (by decide +kernel) (Nat.le_of_ble_eq_true rfl) ?_
  intro p e s m args below meth c Q hx hb hml hown hg hQ hK hN hP ls hl
  have hown : s.vm.findClass RX8 = some m.cls := hown
  have hl : lv_has ls 1 [(0, .ref (mo))] := hl
  refine lv_aload_n hx hb dX8_thrown_0 rfl (lv_at hl 0 rfl) ?_
  refine gf_X8_44 hx hb hg hown hK (fl_blk hP 0 rfl) 0 rfl rfl dX8_thrown_1 ?_
  exact hQ _ _ _ rfl dX8_thrown_4

set_option maxRecDepth 100000 in
set_option maxHeartbeats 4000000 in
theorem c_X8_thrown (l : Launch) (D : va_G) (cy : Nat → ClassId) (mo mz msv mtx mmo mif mmg mtn mie mme mrd mas : Nat) (T : LSt) (hz : Nat) (HZ : Nat → LSt) (len : Nat) (tx : Nat → Int) (th : Int) (W : va_W) (hG : gOk T) (hW : MW cy mo mz msv mtx mmo mif mmg mtn mie mme mrd mas T hz HZ len tx th W)  (sz : Nat) : qMet l yX8_thrown (.code yX8_thrown cX8_thrown 1 (some .int)) 8 [.ref (mo)] D cy [W] sz (va_Qi (S := va_W) (fun r u => r = qI (th) ∧ MW cy mo mz msv mtx mmo mif mmg mtn mie mme mrd mas T hz HZ len tx th u) (qB D cy [W] sz (fun u => [u])) (va_A [W].flatten sz)) := by
  refine q_ofMi (S := va_W) (b1 := fun u => [u]) (post := fun r u => r = qI (th) ∧ MW cy mo mz msv mtx mmo mif mmg mtn mie mme mrd mas T hz HZ len tx th u) (by decide +kernel) (Nat.le_of_ble_eq_true rfl) ?_
  intro p e s m args below meth c Q A hx hb hml hown hg hQ hK hN hD hA H locs ls hP hS hl
  have hown : s.vm.findClass RX8 = some m.cls := hown
  have hl : lv_has ls 1 [(0, .ref (mo))] := hl
  have hW0 := hW
  obtain ⟨tu, fi, ro, sp, it, bl, hh, z, sd, bf, g, isF, mg, tn, isE, mE, rd, as9, rfl, ⟨hL, hz20, hz101⟩, ⟨hhz, hHZ⟩, hln, hbf, htx⟩ := hW
  obtain ⟨gV, gT, gC, gE, gI, gD⟩ := hG.eq hL
  obtain ⟨nc, hnc⟩ : ∃ nc : Nat, z 20 = (nc : Int) := ⟨(z 20).toNat, by omega⟩
  obtain ⟨ne, hne⟩ : ∃ ne : Nat, z 101 = (ne : Int) := ⟨(z 101).toNat, by omega⟩
  have e20 : (z 20).toNat = nc := by omega
  have e101 : (z 101).toNat = ne := by omega
  have hV : qV z := gV
  have hst : ∀ i, i < 10 → 0 ≤ z (10 + i) ∧ z (10 + i) ≤ 9 := gT
  have hc : nc ≤ 16 := e20 ▸ (gC.1 : (z 20).toNat ≤ 16)
  have hC : qWR (zC z) nc := e20 ▸ (gC.2 : qWR (zC z) (z 20).toNat)
  have he : ne ≤ 4 := e101 ▸ (gE.1 : (z 101).toNat ≤ 4)
  have hE : qWR (zE z) ne := e101 ▸ (gE.2 : qWR (zE z) (z 101).toNat)
  have hD9 : ∀ i j, i < ne → j < ne → zE z 0 i = zE z 0 j → i = j := e101 ▸ (gD : ∀ i j, i < (z 101).toNat → j < (z 101).toNat → zE z 0 i = zE z 0 j → i = j)
  have hL2 : LEq (z, (fun i => z (10 + i)), zC z, nc, zE z, ne) T := by rw [← e20, ← e101]; exact hL
  have en : nc = lN9 T := hL2.2.2.1
  have em : ne = lM T := hL2.2.2.2.2.1
  rw [fl_open] at hP hD
  have hP : va_P D vwCl [[(mo, .inr (8, [.int (qI (th)), .ref (mz), .int (qI (((hz : Nat) : Int))), .ref (msv), .int (qI (((len : Nat) : Int))), .ref (mtx), .ref (mmo), .int (qI (tu)), .ref (mif), .ref (mmg), .ref (mtn), .ref (mie), .ref (mme), .int (qz (fi)), .int (qI (ro)), .int (qI (sp)), .int (qI (it)), .int (qz (bl)), .ref (mrd), .ref (mas), .long (hh)]))], [(mz, aI cy 115 (z))], [(msv, aI cy 920 (sd))], [(mtx, aI cy 60 (bf))], [(mmo, aI cy 121 (g))], [(mif, aZ cy 16 (isF))], [(mmg, aI cy 16 (mg))], [(mtn, aI cy 16 (tn))], [(mie, aZ cy 4 (isE))], [(mme, aI cy 4 (mE))], [(mrd, aI cy 100 (rd))], [(mas, aI cy 115 (as9))]].flatten H := hP
  have hD : va_D A [[(mo, .inr (8, [.int (qI (th)), .ref (mz), .int (qI (((hz : Nat) : Int))), .ref (msv), .int (qI (((len : Nat) : Int))), .ref (mtx), .ref (mmo), .int (qI (tu)), .ref (mif), .ref (mmg), .ref (mtn), .ref (mie), .ref (mme), .int (qz (fi)), .int (qI (ro)), .int (qI (sp)), .int (qI (it)), .int (qz (bl)), .ref (mrd), .ref (mas), .long (hh)]))], [(mz, aI cy 115 (z))], [(msv, aI cy 920 (sd))], [(mtx, aI cy 60 (bf))], [(mmo, aI cy 121 (g))], [(mif, aZ cy 16 (isF))], [(mmg, aI cy 16 (mg))], [(mtn, aI cy 16 (tn))], [(mie, aZ cy 4 (isE))], [(mme, aI cy 4 (mE))], [(mrd, aI cy 100 (rd))], [(mas, aI cy 115 (as9))]].flatten := hD
  refine lv_aload_n hx hb dX8_thrown_0 rfl (lv_at hl 0 rfl) ?_
  refine gf_X8_44 hx hb hg hown hK (fl_blk hP 0 rfl) 0 rfl rfl dX8_thrown_1 ?_
  have hP : va_P D vwCl [(mdB cy mo mz msv mtx mmo mif mmg mtn mie mme mrd mas (th) (hz) (len) (tu) (fi) (ro) (sp) (it) (bl) (hh) (z) (sd) (bf) (g) (isF) (mg) (tn) (isE) (mE) (rd) (as9)).flatten].flatten H := by rw [fl_open]; exact hP
  have hD : va_D A [(mdB cy mo mz msv mtx mmo mif mmg mtn mie mme mrd mas (th) (hz) (len) (tu) (fi) (ro) (sp) (it) (bl) (hh) (z) (sd) (bf) (g) (isF) (mg) (tn) (isE) (mE) (rd) (as9)).flatten].flatten := by rw [fl_open]; exact hD
  exact hQ _ _ _ _ _ ((mdB cy mo mz msv mtx mmo mif mmg mtn mie mme mrd mas (th) (hz) (len) (tu) (fi) (ro) (sp) (it) (bl) (hh) (z) (sd) (bf) (g) (isF) (mg) (tn) (isE) (mE) (rd) (as9)).flatten) ⟨rfl, hW0⟩ hP hD hS dX8_thrown_4

set_option maxRecDepth 100000 in
set_option maxHeartbeats 4000000 in
theorem c_X8_place (l : Launch) (D : va_G) (cy : Nat → ClassId) (mo mz msv mtx mmo mif mmg mtn mie mme mrd mas : Nat) (T : LSt) (hz : Nat) (HZ : Nat → LSt) (len : Nat) (tx : Nat → Int) (th : Int) (W : va_W) (hG : gOk T) (hW : MW cy mo mz msv mtx mmo mif mmg mtn mie mme mrd mas T hz HZ len tx th W) (p0 p1 : Int) (k : Nat) (hk : p0 = (k : Int) ∧ k < 10) (h1 : 0 ≤ p1 ∧ p1 ≤ 5) (sz : Nat) : qMet l yX8_place (.code yX8_place cX8_place 3 (some .int)) 8 [.ref (mo), .int (qI (p0)), .int (qI (p1))] D cy [W] sz (va_Qi (S := va_W) (fun r u => r = qI (plT T k p1) ∧ MW cy mo mz msv mtx mmo mif mmg mtn mie mme mrd mas T hz HZ len tx 0 u) (qB D cy [W] sz (fun u => [u])) (va_A [W].flatten sz)) := by
  refine q_ofMi (S := va_W) (b1 := fun u => [u]) (post := fun r u => r = qI (plT T k p1) ∧ MW cy mo mz msv mtx mmo mif mmg mtn mie mme mrd mas T hz HZ len tx 0 u) (by decide +kernel) (Nat.le_of_ble_eq_true rfl) ?_
  intro p e s m args below meth c Q A hx hb hml hown hg hQ hK hN hD hA H locs ls hP hS hl
  have hown : s.vm.findClass RX8 = some m.cls := hown
  have hl : lv_has ls 3 [(0, .ref (mo)), (1, .int (qI (p0))), (2, .int (qI (p1)))] := hl
  have hW0 := hW
  obtain ⟨tu, fi, ro, sp, it, bl, hh, z, sd, bf, g, isF, mg, tn, isE, mE, rd, as9, rfl, ⟨hL, hz20, hz101⟩, ⟨hhz, hHZ⟩, hln, hbf, htx⟩ := hW
  obtain ⟨gV, gT, gC, gE, gI, gD⟩ := hG.eq hL
  obtain ⟨nc, hnc⟩ : ∃ nc : Nat, z 20 = (nc : Int) := ⟨(z 20).toNat, by omega⟩
  obtain ⟨ne, hne⟩ : ∃ ne : Nat, z 101 = (ne : Int) := ⟨(z 101).toNat, by omega⟩
  have e20 : (z 20).toNat = nc := by omega
  have e101 : (z 101).toNat = ne := by omega
  have hV : qV z := gV
  have hst : ∀ i, i < 10 → 0 ≤ z (10 + i) ∧ z (10 + i) ≤ 9 := gT
  have hc : nc ≤ 16 := e20 ▸ (gC.1 : (z 20).toNat ≤ 16)
  have hC : qWR (zC z) nc := e20 ▸ (gC.2 : qWR (zC z) (z 20).toNat)
  have he : ne ≤ 4 := e101 ▸ (gE.1 : (z 101).toNat ≤ 4)
  have hE : qWR (zE z) ne := e101 ▸ (gE.2 : qWR (zE z) (z 101).toNat)
  have hD9 : ∀ i j, i < ne → j < ne → zE z 0 i = zE z 0 j → i = j := e101 ▸ (gD : ∀ i j, i < (z 101).toNat → j < (z 101).toNat → zE z 0 i = zE z 0 j → i = j)
  have hL2 : LEq (z, (fun i => z (10 + i)), zC z, nc, zE z, ne) T := by rw [← e20, ← e101]; exact hL
  have en : nc = lN9 T := hL2.2.2.1
  have em : ne = lM T := hL2.2.2.2.2.1
  rw [fl_open] at hP hD
  have hP : va_P D vwCl [[(mo, .inr (8, [.int (qI (th)), .ref (mz), .int (qI (((hz : Nat) : Int))), .ref (msv), .int (qI (((len : Nat) : Int))), .ref (mtx), .ref (mmo), .int (qI (tu)), .ref (mif), .ref (mmg), .ref (mtn), .ref (mie), .ref (mme), .int (qz (fi)), .int (qI (ro)), .int (qI (sp)), .int (qI (it)), .int (qz (bl)), .ref (mrd), .ref (mas), .long (hh)]))], [(mz, aI cy 115 (z))], [(msv, aI cy 920 (sd))], [(mtx, aI cy 60 (bf))], [(mmo, aI cy 121 (g))], [(mif, aZ cy 16 (isF))], [(mmg, aI cy 16 (mg))], [(mtn, aI cy 16 (tn))], [(mie, aZ cy 4 (isE))], [(mme, aI cy 4 (mE))], [(mrd, aI cy 100 (rd))], [(mas, aI cy 115 (as9))]].flatten H := hP
  have hD : va_D A [[(mo, .inr (8, [.int (qI (th)), .ref (mz), .int (qI (((hz : Nat) : Int))), .ref (msv), .int (qI (((len : Nat) : Int))), .ref (mtx), .ref (mmo), .int (qI (tu)), .ref (mif), .ref (mmg), .ref (mtn), .ref (mie), .ref (mme), .int (qz (fi)), .int (qI (ro)), .int (qI (sp)), .int (qI (it)), .int (qz (bl)), .ref (mrd), .ref (mas), .long (hh)]))], [(mz, aI cy 115 (z))], [(msv, aI cy 920 (sd))], [(mtx, aI cy 60 (bf))], [(mmo, aI cy 121 (g))], [(mif, aZ cy 16 (isF))], [(mmg, aI cy 16 (mg))], [(mtn, aI cy 16 (tn))], [(mie, aZ cy 4 (isE))], [(mme, aI cy 4 (mE))], [(mrd, aI cy 100 (rd))], [(mas, aI cy 115 (as9))]].flatten := hD
  refine lv_aload_n hx hb dX8_place_0 rfl (lv_at hl 0 rfl) ?_
  refine lv_iload_n hx hb dX8_place_1 rfl (lv_at hl 1 rfl) ?_
  refine q_readz (va_runS (As := [.int (qI (p0))]) (rest := [.ref (mo)]) ⟨hx, hb, hml, hown, hg⟩ (c_X8_isPlace l D cy _ (by omega)) (cs_X8_94 hg rfl rfl ⟨by decide, by decide⟩) ⟨q_blind0, q_preR _ hK hN hP [] rfl⟩ rfl rfl hl.1 rfl (lv_room (Nat.le_of_ble_eq_true rfl)) dX8_place_2 ⟨by decide, by decide⟩) (fun b_2 h_2 => ?_)
  refine q_ifz_ne (tgt := 12) hx hb dX8_place_5 (by decide) (fun c_5 => ?_) (fun c_5 => ?_)
  · skip
    have g_5 := (h_2).mp c_5
    refine lv_iload_n hx hb dX8_place_12 rfl (lv_at hl 2 rfl) ?_
    refine q_iconst hx hb dX8_place_13 ?_
    refine q_iconst hx hb dX8_place_14 ?_
    refine q_readz (va_runS (As := [.int (qI (p1)), .int (qI (0)), .int (qI (5))]) (rest := [.ref (mo)]) ⟨hx, hb, hml, hown, hg⟩ (c_X8_within l D cy _ _ _ (by omega)) (cs_X8_48 hg rfl rfl ⟨by decide, by decide⟩) ⟨q_blind0, q_preR _ hK hN hP [] rfl⟩ rfl rfl hl.1 rfl (lv_room (Nat.le_of_ble_eq_true rfl)) dX8_place_15 ⟨by decide, by decide⟩) (fun b_15 h_15 => ?_)
    refine q_ifz_eq (tgt := 25) hx hb dX8_place_18 (by decide) (fun c_18 => ?_) (fun c_18 => ?_)
    · skip
      have g_18 := mt (h_15).mpr (by rw [c_18]; decide)
      exfalso; omega
    · skip
      have g_18 := (h_15).mp c_18
      refine q_iconst hx hb dX8_place_21 ?_
      refine lv_goto (tgt := 26) hx hb dX8_place_22 (by decide) ?_
      refine pf_X8_44 hx hb hg hown hK hP hD hS 0 0 rfl rfl rfl rfl (Nat.le_of_ble_eq_true rfl) dX8_place_26 (fun H locs hP hD hS => ?_)
      have hP : va_P D vwCl [[(mo, .inr (8, [.int (qI (0)), .ref (mz), .int (qI (((hz : Nat) : Int))), .ref (msv), .int (qI (((len : Nat) : Int))), .ref (mtx), .ref (mmo), .int (qI (tu)), .ref (mif), .ref (mmg), .ref (mtn), .ref (mie), .ref (mme), .int (qz (fi)), .int (qI (ro)), .int (qI (sp)), .int (qI (it)), .int (qz (bl)), .ref (mrd), .ref (mas), .long (hh)]))], [(mz, aI cy 115 (z))], [(msv, aI cy 920 (sd))], [(mtx, aI cy 60 (bf))], [(mmo, aI cy 121 (g))], [(mif, aZ cy 16 (isF))], [(mmg, aI cy 16 (mg))], [(mtn, aI cy 16 (tn))], [(mie, aZ cy 4 (isE))], [(mme, aI cy 4 (mE))], [(mrd, aI cy 100 (rd))], [(mas, aI cy 115 (as9))]].flatten H := hP
      have hD : va_D A [[(mo, .inr (8, [.int (qI (0)), .ref (mz), .int (qI (((hz : Nat) : Int))), .ref (msv), .int (qI (((len : Nat) : Int))), .ref (mtx), .ref (mmo), .int (qI (tu)), .ref (mif), .ref (mmg), .ref (mtn), .ref (mie), .ref (mme), .int (qz (fi)), .int (qI (ro)), .int (qI (sp)), .int (qI (it)), .int (qz (bl)), .ref (mrd), .ref (mas), .long (hh)]))], [(mz, aI cy 115 (z))], [(msv, aI cy 920 (sd))], [(mtx, aI cy 60 (bf))], [(mmo, aI cy 121 (g))], [(mif, aZ cy 16 (isF))], [(mmg, aI cy 16 (mg))], [(mtn, aI cy 16 (tn))], [(mie, aZ cy 4 (isE))], [(mme, aI cy 4 (mE))], [(mrd, aI cy 100 (rd))], [(mas, aI cy 115 (as9))]].flatten := hD
      refine lv_aload_n hx hb dX8_place_29 rfl (lv_at hl 0 rfl) ?_
      refine gf_X8_44 hx hb hg hown hK (fl_blk hP 0 rfl) 0 rfl rfl dX8_place_30 ?_
      refine q_if_le (tgt := 38) hx hb dX8_place_33 (by decide) (by omega) (fun c_33 => ?_) (fun c_33 => ?_)
      · skip
        refine lv_aload_n hx hb dX8_place_38 rfl (lv_at hl 0 rfl) ?_
        refine q_iconst hx hb dX8_place_39 ?_
        refine q_backv [0, 1, 4, 5, 6, 7, 8, 9] [2, 3, 10, 11] (br := [[(msv, aI cy 920 (sd))], [(mtx, aI cy 60 (bf))], [(mrd, aI cy 100 (rd))], [(mas, aI cy 115 (as9))]]) hP hD hS hA (va_runV (As := [.int (qI (-1))]) (rest := []) ⟨hx, hb, hml, hown, hg⟩ (c_X8_fill l D cy mo mz msv mtx mmo mif mmg mtn mie mme mrd mas (0) (((hz : Nat) : Int)) (((len : Nat) : Int)) (tu) (fi) (ro) (sp) (it) (bl) (hh) (z) nc ne (g) (isF) (mg) (tn) (isE) (mE) hnc hne hc he hC hE (-1) (by omega) _) (cv_X8_77 hg rfl rfl ⟨by decide, by decide⟩) ⟨q_blind, va_recv hK (fl_blk hP 0 rfl) (ci := 8) (q0 := 0) rfl rfl, q_preM _ hK hN hP hD [0, 1, 4, 5, 6, 7, 8, 9] (by decide) rfl⟩ rfl rfl hl.1 rfl (lv_room (Nat.le_of_ble_eq_true rfl)) dX8_place_40 ⟨by decide, by decide⟩) rfl rfl (by decide) (fun u_40 H locs h_40 hP hD hS => ?_)
        have hP : va_P D vwCl [[(msv, aI cy 920 (sd))], [(mtx, aI cy 60 (bf))], [(mrd, aI cy 100 (rd))], [(mas, aI cy 115 (as9))], [(mo, .inr (8, [.int (qI (0)), .ref (mz), .int (qI (((hz : Nat) : Int))), .ref (msv), .int (qI (((len : Nat) : Int))), .ref (mtx), .ref (mmo), .int (qI (u_40.2.1)), .ref (mif), .ref (mmg), .ref (mtn), .ref (mie), .ref (mme), .int (qz (u_40.2.2.2.2.2.2.2.1)), .int (qI (u_40.2.2.2.2.2.2.2.2)), .int (qI (sp)), .int (qI (it)), .int (qz (bl)), .ref (mrd), .ref (mas), .long (hh)]))], [(mz, aI cy 115 (z))], [(mmo, aI cy 121 (u_40.1))], [(mif, aZ cy 16 (u_40.2.2.1))], [(mmg, aI cy 16 (u_40.2.2.2.1))], [(mtn, aI cy 16 (u_40.2.2.2.2.1))], [(mie, aZ cy 4 (u_40.2.2.2.2.2.1))], [(mme, aI cy 4 (u_40.2.2.2.2.2.2.1))]].flatten H := hP
        have hD : va_D A [[(msv, aI cy 920 (sd))], [(mtx, aI cy 60 (bf))], [(mrd, aI cy 100 (rd))], [(mas, aI cy 115 (as9))], [(mo, .inr (8, [.int (qI (0)), .ref (mz), .int (qI (((hz : Nat) : Int))), .ref (msv), .int (qI (((len : Nat) : Int))), .ref (mtx), .ref (mmo), .int (qI (u_40.2.1)), .ref (mif), .ref (mmg), .ref (mtn), .ref (mie), .ref (mme), .int (qz (u_40.2.2.2.2.2.2.2.1)), .int (qI (u_40.2.2.2.2.2.2.2.2)), .int (qI (sp)), .int (qI (it)), .int (qz (bl)), .ref (mrd), .ref (mas), .long (hh)]))], [(mz, aI cy 115 (z))], [(mmo, aI cy 121 (u_40.1))], [(mif, aZ cy 16 (u_40.2.2.1))], [(mmg, aI cy 16 (u_40.2.2.2.1))], [(mtn, aI cy 16 (u_40.2.2.2.2.1))], [(mie, aZ cy 4 (u_40.2.2.2.2.2.1))], [(mme, aI cy 4 (u_40.2.2.2.2.2.2.1))]].flatten := hD
        refine lv_aload_n hx hb dX8_place_43 rfl (lv_at hl 0 rfl) ?_
        refine lv_iload_n hx hb dX8_place_44 rfl (lv_at hl 1 rfl) ?_
        refine lv_iload_n hx hb dX8_place_45 rfl (lv_at hl 2 rfl) ?_
        refine q_readi (va_runV (As := [.int (qI (p0)), .int (qI (p1))]) (rest := []) ⟨hx, hb, hml, hown, hg⟩ (c_X8_placeNow l D cy mo mz msv mtx mmo mif mmg mtn mie mme mrd mas (0) (((hz : Nat) : Int)) (((len : Nat) : Int)) (u_40.2.1) (u_40.2.2.2.2.2.2.2.1) (u_40.2.2.2.2.2.2.2.2) (sp) (it) (bl) (hh) z nc ne (u_40.1) (u_40.2.2.1) (u_40.2.2.2.1) (u_40.2.2.2.2.1) (u_40.2.2.2.2.2.1) (u_40.2.2.2.2.2.2.1) hnc hne hc he hC hE hD9 h_40 _ (p1) k (by omega) (by omega)) (cv_X8_173 hg rfl rfl ⟨by decide, by decide⟩) ⟨q_blind0, va_recv hK (fl_blk hP 4 rfl) (ci := 8) (q0 := 0) rfl rfl, q_preR _ hK hN hP [4, 5, 6] rfl⟩ rfl rfl hl.1 rfl (lv_room (Nat.le_of_ble_eq_true rfl)) dX8_place_46 ⟨by decide, by decide⟩) (fun r_46 h_46 => ?_)
        subst h_46
        have hP := fl_sub (bs' := [[(mo, .inr (8, [.int (qI (0)), .ref (mz), .int (qI (((hz : Nat) : Int))), .ref (msv), .int (qI (((len : Nat) : Int))), .ref (mtx), .ref (mmo), .int (qI (u_40.2.1)), .ref (mif), .ref (mmg), .ref (mtn), .ref (mie), .ref (mme), .int (qz (u_40.2.2.2.2.2.2.2.1)), .int (qI (u_40.2.2.2.2.2.2.2.2)), .int (qI (sp)), .int (qI (it)), .int (qz (bl)), .ref (mrd), .ref (mas), .long (hh)]))], [(mz, aI cy 115 (z))], [(msv, aI cy 920 (sd))], [(mtx, aI cy 60 (bf))], [(mmo, aI cy 121 (u_40.1))], [(mif, aZ cy 16 (u_40.2.2.1))], [(mmg, aI cy 16 (u_40.2.2.2.1))], [(mtn, aI cy 16 (u_40.2.2.2.2.1))], [(mie, aZ cy 4 (u_40.2.2.2.2.2.1))], [(mme, aI cy 4 (u_40.2.2.2.2.2.2.1))], [(mrd, aI cy 100 (rd))], [(mas, aI cy 115 (as9))]]) hP [4, 5, 0, 1, 6, 7, 8, 9, 10, 11, 2, 3] rfl
        have hD := fl_subD (bs' := [[(mo, .inr (8, [.int (qI (0)), .ref (mz), .int (qI (((hz : Nat) : Int))), .ref (msv), .int (qI (((len : Nat) : Int))), .ref (mtx), .ref (mmo), .int (qI (u_40.2.1)), .ref (mif), .ref (mmg), .ref (mtn), .ref (mie), .ref (mme), .int (qz (u_40.2.2.2.2.2.2.2.1)), .int (qI (u_40.2.2.2.2.2.2.2.2)), .int (qI (sp)), .int (qI (it)), .int (qz (bl)), .ref (mrd), .ref (mas), .long (hh)]))], [(mz, aI cy 115 (z))], [(msv, aI cy 920 (sd))], [(mtx, aI cy 60 (bf))], [(mmo, aI cy 121 (u_40.1))], [(mif, aZ cy 16 (u_40.2.2.1))], [(mmg, aI cy 16 (u_40.2.2.2.1))], [(mtn, aI cy 16 (u_40.2.2.2.2.1))], [(mie, aZ cy 4 (u_40.2.2.2.2.2.1))], [(mme, aI cy 4 (u_40.2.2.2.2.2.2.1))], [(mrd, aI cy 100 (rd))], [(mas, aI cy 115 (as9))]]) hD [4, 5, 0, 1, 6, 7, 8, 9, 10, 11, 2, 3] (by decide) rfl
        have hP : va_P D vwCl [(mdB cy mo mz msv mtx mmo mif mmg mtn mie mme mrd mas (0) (hz) (len) (u_40.2.1) (u_40.2.2.2.2.2.2.2.1) (u_40.2.2.2.2.2.2.2.2) (sp) (it) (bl) (hh) (z) (sd) (bf) (u_40.1) (u_40.2.2.1) (u_40.2.2.2.1) (u_40.2.2.2.2.1) (u_40.2.2.2.2.2.1) (u_40.2.2.2.2.2.2.1) (rd) (as9)).flatten].flatten H := by rw [fl_open]; exact hP
        have hD : va_D A [(mdB cy mo mz msv mtx mmo mif mmg mtn mie mme mrd mas (0) (hz) (len) (u_40.2.1) (u_40.2.2.2.2.2.2.2.1) (u_40.2.2.2.2.2.2.2.2) (sp) (it) (bl) (hh) (z) (sd) (bf) (u_40.1) (u_40.2.2.1) (u_40.2.2.2.1) (u_40.2.2.2.2.1) (u_40.2.2.2.2.2.1) (u_40.2.2.2.2.2.2.1) (rd) (as9)).flatten].flatten := by rw [fl_open]; exact hD
        exact hQ _ _ _ _ _ ((mdB cy mo mz msv mtx mmo mif mmg mtn mie mme mrd mas (0) (hz) (len) (u_40.2.1) (u_40.2.2.2.2.2.2.2.1) (u_40.2.2.2.2.2.2.2.2) (sp) (it) (bl) (hh) (z) (sd) (bf) (u_40.1) (u_40.2.2.1) (u_40.2.2.2.1) (u_40.2.2.2.2.1) (u_40.2.2.2.2.2.1) (u_40.2.2.2.2.2.2.1) (rd) (as9)).flatten) ⟨by rw [← plT_eq hL2 (by omega) p1], ⟨(u_40.2.1), (u_40.2.2.2.2.2.2.2.1), (u_40.2.2.2.2.2.2.2.2), (sp), (it), (bl), (hh), (z), (sd), (bf), (u_40.1), (u_40.2.2.1), (u_40.2.2.2.1), (u_40.2.2.2.2.1), (u_40.2.2.2.2.2.1), (u_40.2.2.2.2.2.2.1), (rd), (as9), rfl, ⟨hL, hz20, hz101⟩, ⟨hhz, hHZ⟩, hln, hbf, htx⟩⟩ hP hD hS dX8_place_49
      · skip
        exact absurd c_33 (by decide)
  · skip
    have g_5 := mt (h_2).mpr (by rw [c_5]; decide)
    exfalso; omega

set_option maxRecDepth 100000 in
set_option maxHeartbeats 4000000 in
theorem c_X8_place_no1 (l : Launch) (D : va_G) (cy : Nat → ClassId) (mo mz msv mtx mmo mif mmg mtn mie mme mrd mas : Nat) (T : LSt) (hz : Nat) (HZ : Nat → LSt) (len : Nat) (tx : Nat → Int) (th : Int) (W : va_W) (hG : gOk T) (hW : MW cy mo mz msv mtx mmo mif mmg mtn mie mme mrd mas T hz HZ len tx th W) (p0 p1 : Int) (r0 : (-2147483648 ≤ p0 ∧ p0 < 2147483648)) (r1 : (-2147483648 ≤ p1 ∧ p1 < 2147483648)) (hx : ¬ (0 ≤ p0 ∧ p0 ≤ 9)) (sz : Nat) : qMet l yX8_place (.code yX8_place cX8_place 3 (some .int)) 8 [.ref (mo), .int (qI (p0)), .int (qI (p1))] D cy [W] sz (va_Qi (S := va_W) (fun r u => MW cy mo mz msv mtx mmo mif mmg mtn mie mme mrd mas T hz HZ len tx 1 u) (qB D cy [W] sz (fun u => [u])) (va_A [W].flatten sz)) := by
  refine q_ofMi (S := va_W) (b1 := fun u => [u]) (post := fun r u => MW cy mo mz msv mtx mmo mif mmg mtn mie mme mrd mas T hz HZ len tx 1 u) (by decide +kernel) (Nat.le_of_ble_eq_true rfl) ?_
  intro p e s m args below meth c Q A hx hb hml hown hg hQ hK hN hD hA H locs ls hP hS hl
  have hown : s.vm.findClass RX8 = some m.cls := hown
  have hl : lv_has ls 3 [(0, .ref (mo)), (1, .int (qI (p0))), (2, .int (qI (p1)))] := hl
  have hW0 := hW
  obtain ⟨tu, fi, ro, sp, it, bl, hh, z, sd, bf, g, isF, mg, tn, isE, mE, rd, as9, rfl, ⟨hL, hz20, hz101⟩, ⟨hhz, hHZ⟩, hln, hbf, htx⟩ := hW
  obtain ⟨gV, gT, gC, gE, gI, gD⟩ := hG.eq hL
  obtain ⟨nc, hnc⟩ : ∃ nc : Nat, z 20 = (nc : Int) := ⟨(z 20).toNat, by omega⟩
  obtain ⟨ne, hne⟩ : ∃ ne : Nat, z 101 = (ne : Int) := ⟨(z 101).toNat, by omega⟩
  have e20 : (z 20).toNat = nc := by omega
  have e101 : (z 101).toNat = ne := by omega
  have hV : qV z := gV
  have hst : ∀ i, i < 10 → 0 ≤ z (10 + i) ∧ z (10 + i) ≤ 9 := gT
  have hc : nc ≤ 16 := e20 ▸ (gC.1 : (z 20).toNat ≤ 16)
  have hC : qWR (zC z) nc := e20 ▸ (gC.2 : qWR (zC z) (z 20).toNat)
  have he : ne ≤ 4 := e101 ▸ (gE.1 : (z 101).toNat ≤ 4)
  have hE : qWR (zE z) ne := e101 ▸ (gE.2 : qWR (zE z) (z 101).toNat)
  have hD9 : ∀ i j, i < ne → j < ne → zE z 0 i = zE z 0 j → i = j := e101 ▸ (gD : ∀ i j, i < (z 101).toNat → j < (z 101).toNat → zE z 0 i = zE z 0 j → i = j)
  have hL2 : LEq (z, (fun i => z (10 + i)), zC z, nc, zE z, ne) T := by rw [← e20, ← e101]; exact hL
  have en : nc = lN9 T := hL2.2.2.1
  have em : ne = lM T := hL2.2.2.2.2.1
  rw [fl_open] at hP hD
  have hP : va_P D vwCl [[(mo, .inr (8, [.int (qI (th)), .ref (mz), .int (qI (((hz : Nat) : Int))), .ref (msv), .int (qI (((len : Nat) : Int))), .ref (mtx), .ref (mmo), .int (qI (tu)), .ref (mif), .ref (mmg), .ref (mtn), .ref (mie), .ref (mme), .int (qz (fi)), .int (qI (ro)), .int (qI (sp)), .int (qI (it)), .int (qz (bl)), .ref (mrd), .ref (mas), .long (hh)]))], [(mz, aI cy 115 (z))], [(msv, aI cy 920 (sd))], [(mtx, aI cy 60 (bf))], [(mmo, aI cy 121 (g))], [(mif, aZ cy 16 (isF))], [(mmg, aI cy 16 (mg))], [(mtn, aI cy 16 (tn))], [(mie, aZ cy 4 (isE))], [(mme, aI cy 4 (mE))], [(mrd, aI cy 100 (rd))], [(mas, aI cy 115 (as9))]].flatten H := hP
  have hD : va_D A [[(mo, .inr (8, [.int (qI (th)), .ref (mz), .int (qI (((hz : Nat) : Int))), .ref (msv), .int (qI (((len : Nat) : Int))), .ref (mtx), .ref (mmo), .int (qI (tu)), .ref (mif), .ref (mmg), .ref (mtn), .ref (mie), .ref (mme), .int (qz (fi)), .int (qI (ro)), .int (qI (sp)), .int (qI (it)), .int (qz (bl)), .ref (mrd), .ref (mas), .long (hh)]))], [(mz, aI cy 115 (z))], [(msv, aI cy 920 (sd))], [(mtx, aI cy 60 (bf))], [(mmo, aI cy 121 (g))], [(mif, aZ cy 16 (isF))], [(mmg, aI cy 16 (mg))], [(mtn, aI cy 16 (tn))], [(mie, aZ cy 4 (isE))], [(mme, aI cy 4 (mE))], [(mrd, aI cy 100 (rd))], [(mas, aI cy 115 (as9))]].flatten := hD
  refine lv_aload_n hx hb dX8_place_0 rfl (lv_at hl 0 rfl) ?_
  refine lv_iload_n hx hb dX8_place_1 rfl (lv_at hl 1 rfl) ?_
  refine q_readz (va_runS (As := [.int (qI (p0))]) (rest := [.ref (mo)]) ⟨hx, hb, hml, hown, hg⟩ (c_X8_isPlace l D cy _ (by omega)) (cs_X8_94 hg rfl rfl ⟨by decide, by decide⟩) ⟨q_blind0, q_preR _ hK hN hP [] rfl⟩ rfl rfl hl.1 rfl (lv_room (Nat.le_of_ble_eq_true rfl)) dX8_place_2 ⟨by decide, by decide⟩) (fun b_2 h_2 => ?_)
  refine q_ifz_ne (tgt := 12) hx hb dX8_place_5 (by decide) (fun c_5 => ?_) (fun c_5 => ?_)
  · skip
    have g_5 := (h_2).mp c_5
    exfalso; omega
  · skip
    have g_5 := mt (h_2).mpr (by rw [c_5]; decide)
    refine q_iconst hx hb dX8_place_8 ?_
    refine lv_goto (tgt := 26) hx hb dX8_place_9 (by decide) ?_
    refine pf_X8_44 hx hb hg hown hK hP hD hS 0 0 rfl rfl rfl rfl (Nat.le_of_ble_eq_true rfl) dX8_place_26 (fun H locs hP hD hS => ?_)
    have hP : va_P D vwCl [[(mo, .inr (8, [.int (qI (1)), .ref (mz), .int (qI (((hz : Nat) : Int))), .ref (msv), .int (qI (((len : Nat) : Int))), .ref (mtx), .ref (mmo), .int (qI (tu)), .ref (mif), .ref (mmg), .ref (mtn), .ref (mie), .ref (mme), .int (qz (fi)), .int (qI (ro)), .int (qI (sp)), .int (qI (it)), .int (qz (bl)), .ref (mrd), .ref (mas), .long (hh)]))], [(mz, aI cy 115 (z))], [(msv, aI cy 920 (sd))], [(mtx, aI cy 60 (bf))], [(mmo, aI cy 121 (g))], [(mif, aZ cy 16 (isF))], [(mmg, aI cy 16 (mg))], [(mtn, aI cy 16 (tn))], [(mie, aZ cy 4 (isE))], [(mme, aI cy 4 (mE))], [(mrd, aI cy 100 (rd))], [(mas, aI cy 115 (as9))]].flatten H := hP
    have hD : va_D A [[(mo, .inr (8, [.int (qI (1)), .ref (mz), .int (qI (((hz : Nat) : Int))), .ref (msv), .int (qI (((len : Nat) : Int))), .ref (mtx), .ref (mmo), .int (qI (tu)), .ref (mif), .ref (mmg), .ref (mtn), .ref (mie), .ref (mme), .int (qz (fi)), .int (qI (ro)), .int (qI (sp)), .int (qI (it)), .int (qz (bl)), .ref (mrd), .ref (mas), .long (hh)]))], [(mz, aI cy 115 (z))], [(msv, aI cy 920 (sd))], [(mtx, aI cy 60 (bf))], [(mmo, aI cy 121 (g))], [(mif, aZ cy 16 (isF))], [(mmg, aI cy 16 (mg))], [(mtn, aI cy 16 (tn))], [(mie, aZ cy 4 (isE))], [(mme, aI cy 4 (mE))], [(mrd, aI cy 100 (rd))], [(mas, aI cy 115 (as9))]].flatten := hD
    refine lv_aload_n hx hb dX8_place_29 rfl (lv_at hl 0 rfl) ?_
    refine gf_X8_44 hx hb hg hown hK (fl_blk hP 0 rfl) 0 rfl rfl dX8_place_30 ?_
    refine q_if_le (tgt := 38) hx hb dX8_place_33 (by decide) (by omega) (fun c_33 => ?_) (fun c_33 => ?_)
    · skip
      exact absurd c_33 (by decide)
    · skip
      refine q_iconst hx hb dX8_place_36 ?_
      have hP : va_P D vwCl [(mdB cy mo mz msv mtx mmo mif mmg mtn mie mme mrd mas (1) (hz) (len) (tu) (fi) (ro) (sp) (it) (bl) (hh) (z) (sd) (bf) (g) (isF) (mg) (tn) (isE) (mE) (rd) (as9)).flatten].flatten H := by rw [fl_open]; exact hP
      have hD : va_D A [(mdB cy mo mz msv mtx mmo mif mmg mtn mie mme mrd mas (1) (hz) (len) (tu) (fi) (ro) (sp) (it) (bl) (hh) (z) (sd) (bf) (g) (isF) (mg) (tn) (isE) (mE) (rd) (as9)).flatten].flatten := by rw [fl_open]; exact hD
      exact hQ _ _ _ _ _ ((mdB cy mo mz msv mtx mmo mif mmg mtn mie mme mrd mas (1) (hz) (len) (tu) (fi) (ro) (sp) (it) (bl) (hh) (z) (sd) (bf) (g) (isF) (mg) (tn) (isE) (mE) (rd) (as9)).flatten) ⟨(tu), (fi), (ro), (sp), (it), (bl), (hh), (z), (sd), (bf), (g), (isF), (mg), (tn), (isE), (mE), (rd), (as9), rfl, ⟨hL, hz20, hz101⟩, ⟨hhz, hHZ⟩, hln, hbf, htx⟩ hP hD hS dX8_place_37

set_option maxRecDepth 100000 in
set_option maxHeartbeats 4000000 in
theorem c_X8_place_no2 (l : Launch) (D : va_G) (cy : Nat → ClassId) (mo mz msv mtx mmo mif mmg mtn mie mme mrd mas : Nat) (T : LSt) (hz : Nat) (HZ : Nat → LSt) (len : Nat) (tx : Nat → Int) (th : Int) (W : va_W) (hG : gOk T) (hW : MW cy mo mz msv mtx mmo mif mmg mtn mie mme mrd mas T hz HZ len tx th W) (p0 p1 : Int) (r0 : (-2147483648 ≤ p0 ∧ p0 < 2147483648)) (r1 : (-2147483648 ≤ p1 ∧ p1 < 2147483648)) (hx : 0 ≤ p0 ∧ p0 ≤ 9) (hy : ¬ (0 ≤ p1 ∧ p1 ≤ 5)) (sz : Nat) : qMet l yX8_place (.code yX8_place cX8_place 3 (some .int)) 8 [.ref (mo), .int (qI (p0)), .int (qI (p1))] D cy [W] sz (va_Qi (S := va_W) (fun r u => MW cy mo mz msv mtx mmo mif mmg mtn mie mme mrd mas T hz HZ len tx 2 u) (qB D cy [W] sz (fun u => [u])) (va_A [W].flatten sz)) := by
  refine q_ofMi (S := va_W) (b1 := fun u => [u]) (post := fun r u => MW cy mo mz msv mtx mmo mif mmg mtn mie mme mrd mas T hz HZ len tx 2 u) (by decide +kernel) (Nat.le_of_ble_eq_true rfl) ?_
  intro p e s m args below meth c Q A hx hb hml hown hg hQ hK hN hD hA H locs ls hP hS hl
  have hown : s.vm.findClass RX8 = some m.cls := hown
  have hl : lv_has ls 3 [(0, .ref (mo)), (1, .int (qI (p0))), (2, .int (qI (p1)))] := hl
  have hW0 := hW
  obtain ⟨tu, fi, ro, sp, it, bl, hh, z, sd, bf, g, isF, mg, tn, isE, mE, rd, as9, rfl, ⟨hL, hz20, hz101⟩, ⟨hhz, hHZ⟩, hln, hbf, htx⟩ := hW
  obtain ⟨gV, gT, gC, gE, gI, gD⟩ := hG.eq hL
  obtain ⟨nc, hnc⟩ : ∃ nc : Nat, z 20 = (nc : Int) := ⟨(z 20).toNat, by omega⟩
  obtain ⟨ne, hne⟩ : ∃ ne : Nat, z 101 = (ne : Int) := ⟨(z 101).toNat, by omega⟩
  have e20 : (z 20).toNat = nc := by omega
  have e101 : (z 101).toNat = ne := by omega
  have hV : qV z := gV
  have hst : ∀ i, i < 10 → 0 ≤ z (10 + i) ∧ z (10 + i) ≤ 9 := gT
  have hc : nc ≤ 16 := e20 ▸ (gC.1 : (z 20).toNat ≤ 16)
  have hC : qWR (zC z) nc := e20 ▸ (gC.2 : qWR (zC z) (z 20).toNat)
  have he : ne ≤ 4 := e101 ▸ (gE.1 : (z 101).toNat ≤ 4)
  have hE : qWR (zE z) ne := e101 ▸ (gE.2 : qWR (zE z) (z 101).toNat)
  have hD9 : ∀ i j, i < ne → j < ne → zE z 0 i = zE z 0 j → i = j := e101 ▸ (gD : ∀ i j, i < (z 101).toNat → j < (z 101).toNat → zE z 0 i = zE z 0 j → i = j)
  have hL2 : LEq (z, (fun i => z (10 + i)), zC z, nc, zE z, ne) T := by rw [← e20, ← e101]; exact hL
  have en : nc = lN9 T := hL2.2.2.1
  have em : ne = lM T := hL2.2.2.2.2.1
  rw [fl_open] at hP hD
  have hP : va_P D vwCl [[(mo, .inr (8, [.int (qI (th)), .ref (mz), .int (qI (((hz : Nat) : Int))), .ref (msv), .int (qI (((len : Nat) : Int))), .ref (mtx), .ref (mmo), .int (qI (tu)), .ref (mif), .ref (mmg), .ref (mtn), .ref (mie), .ref (mme), .int (qz (fi)), .int (qI (ro)), .int (qI (sp)), .int (qI (it)), .int (qz (bl)), .ref (mrd), .ref (mas), .long (hh)]))], [(mz, aI cy 115 (z))], [(msv, aI cy 920 (sd))], [(mtx, aI cy 60 (bf))], [(mmo, aI cy 121 (g))], [(mif, aZ cy 16 (isF))], [(mmg, aI cy 16 (mg))], [(mtn, aI cy 16 (tn))], [(mie, aZ cy 4 (isE))], [(mme, aI cy 4 (mE))], [(mrd, aI cy 100 (rd))], [(mas, aI cy 115 (as9))]].flatten H := hP
  have hD : va_D A [[(mo, .inr (8, [.int (qI (th)), .ref (mz), .int (qI (((hz : Nat) : Int))), .ref (msv), .int (qI (((len : Nat) : Int))), .ref (mtx), .ref (mmo), .int (qI (tu)), .ref (mif), .ref (mmg), .ref (mtn), .ref (mie), .ref (mme), .int (qz (fi)), .int (qI (ro)), .int (qI (sp)), .int (qI (it)), .int (qz (bl)), .ref (mrd), .ref (mas), .long (hh)]))], [(mz, aI cy 115 (z))], [(msv, aI cy 920 (sd))], [(mtx, aI cy 60 (bf))], [(mmo, aI cy 121 (g))], [(mif, aZ cy 16 (isF))], [(mmg, aI cy 16 (mg))], [(mtn, aI cy 16 (tn))], [(mie, aZ cy 4 (isE))], [(mme, aI cy 4 (mE))], [(mrd, aI cy 100 (rd))], [(mas, aI cy 115 (as9))]].flatten := hD
  refine lv_aload_n hx hb dX8_place_0 rfl (lv_at hl 0 rfl) ?_
  refine lv_iload_n hx hb dX8_place_1 rfl (lv_at hl 1 rfl) ?_
  refine q_readz (va_runS (As := [.int (qI (p0))]) (rest := [.ref (mo)]) ⟨hx, hb, hml, hown, hg⟩ (c_X8_isPlace l D cy _ (by omega)) (cs_X8_94 hg rfl rfl ⟨by decide, by decide⟩) ⟨q_blind0, q_preR _ hK hN hP [] rfl⟩ rfl rfl hl.1 rfl (lv_room (Nat.le_of_ble_eq_true rfl)) dX8_place_2 ⟨by decide, by decide⟩) (fun b_2 h_2 => ?_)
  refine q_ifz_ne (tgt := 12) hx hb dX8_place_5 (by decide) (fun c_5 => ?_) (fun c_5 => ?_)
  · skip
    have g_5 := (h_2).mp c_5
    refine lv_iload_n hx hb dX8_place_12 rfl (lv_at hl 2 rfl) ?_
    refine q_iconst hx hb dX8_place_13 ?_
    refine q_iconst hx hb dX8_place_14 ?_
    refine q_readz (va_runS (As := [.int (qI (p1)), .int (qI (0)), .int (qI (5))]) (rest := [.ref (mo)]) ⟨hx, hb, hml, hown, hg⟩ (c_X8_within l D cy _ _ _ (by omega)) (cs_X8_48 hg rfl rfl ⟨by decide, by decide⟩) ⟨q_blind0, q_preR _ hK hN hP [] rfl⟩ rfl rfl hl.1 rfl (lv_room (Nat.le_of_ble_eq_true rfl)) dX8_place_15 ⟨by decide, by decide⟩) (fun b_15 h_15 => ?_)
    refine q_ifz_eq (tgt := 25) hx hb dX8_place_18 (by decide) (fun c_18 => ?_) (fun c_18 => ?_)
    · skip
      have g_18 := mt (h_15).mpr (by rw [c_18]; decide)
      refine q_iconst hx hb dX8_place_25 ?_
      refine pf_X8_44 hx hb hg hown hK hP hD hS 0 0 rfl rfl rfl rfl (Nat.le_of_ble_eq_true rfl) dX8_place_26 (fun H locs hP hD hS => ?_)
      have hP : va_P D vwCl [[(mo, .inr (8, [.int (qI (2)), .ref (mz), .int (qI (((hz : Nat) : Int))), .ref (msv), .int (qI (((len : Nat) : Int))), .ref (mtx), .ref (mmo), .int (qI (tu)), .ref (mif), .ref (mmg), .ref (mtn), .ref (mie), .ref (mme), .int (qz (fi)), .int (qI (ro)), .int (qI (sp)), .int (qI (it)), .int (qz (bl)), .ref (mrd), .ref (mas), .long (hh)]))], [(mz, aI cy 115 (z))], [(msv, aI cy 920 (sd))], [(mtx, aI cy 60 (bf))], [(mmo, aI cy 121 (g))], [(mif, aZ cy 16 (isF))], [(mmg, aI cy 16 (mg))], [(mtn, aI cy 16 (tn))], [(mie, aZ cy 4 (isE))], [(mme, aI cy 4 (mE))], [(mrd, aI cy 100 (rd))], [(mas, aI cy 115 (as9))]].flatten H := hP
      have hD : va_D A [[(mo, .inr (8, [.int (qI (2)), .ref (mz), .int (qI (((hz : Nat) : Int))), .ref (msv), .int (qI (((len : Nat) : Int))), .ref (mtx), .ref (mmo), .int (qI (tu)), .ref (mif), .ref (mmg), .ref (mtn), .ref (mie), .ref (mme), .int (qz (fi)), .int (qI (ro)), .int (qI (sp)), .int (qI (it)), .int (qz (bl)), .ref (mrd), .ref (mas), .long (hh)]))], [(mz, aI cy 115 (z))], [(msv, aI cy 920 (sd))], [(mtx, aI cy 60 (bf))], [(mmo, aI cy 121 (g))], [(mif, aZ cy 16 (isF))], [(mmg, aI cy 16 (mg))], [(mtn, aI cy 16 (tn))], [(mie, aZ cy 4 (isE))], [(mme, aI cy 4 (mE))], [(mrd, aI cy 100 (rd))], [(mas, aI cy 115 (as9))]].flatten := hD
      refine lv_aload_n hx hb dX8_place_29 rfl (lv_at hl 0 rfl) ?_
      refine gf_X8_44 hx hb hg hown hK (fl_blk hP 0 rfl) 0 rfl rfl dX8_place_30 ?_
      refine q_if_le (tgt := 38) hx hb dX8_place_33 (by decide) (by omega) (fun c_33 => ?_) (fun c_33 => ?_)
      · skip
        exact absurd c_33 (by decide)
      · skip
        refine q_iconst hx hb dX8_place_36 ?_
        have hP : va_P D vwCl [(mdB cy mo mz msv mtx mmo mif mmg mtn mie mme mrd mas (2) (hz) (len) (tu) (fi) (ro) (sp) (it) (bl) (hh) (z) (sd) (bf) (g) (isF) (mg) (tn) (isE) (mE) (rd) (as9)).flatten].flatten H := by rw [fl_open]; exact hP
        have hD : va_D A [(mdB cy mo mz msv mtx mmo mif mmg mtn mie mme mrd mas (2) (hz) (len) (tu) (fi) (ro) (sp) (it) (bl) (hh) (z) (sd) (bf) (g) (isF) (mg) (tn) (isE) (mE) (rd) (as9)).flatten].flatten := by rw [fl_open]; exact hD
        exact hQ _ _ _ _ _ ((mdB cy mo mz msv mtx mmo mif mmg mtn mie mme mrd mas (2) (hz) (len) (tu) (fi) (ro) (sp) (it) (bl) (hh) (z) (sd) (bf) (g) (isF) (mg) (tn) (isE) (mE) (rd) (as9)).flatten) ⟨(tu), (fi), (ro), (sp), (it), (bl), (hh), (z), (sd), (bf), (g), (isF), (mg), (tn), (isE), (mE), (rd), (as9), rfl, ⟨hL, hz20, hz101⟩, ⟨hhz, hHZ⟩, hln, hbf, htx⟩ hP hD hS dX8_place_37
    · skip
      have g_18 := (h_15).mp c_18
      exfalso; omega
  · skip
    have g_5 := mt (h_2).mpr (by rw [c_5]; decide)
    exfalso; omega

set_option maxRecDepth 100000 in
set_option maxHeartbeats 4000000 in
theorem c_X8_condition (l : Launch) (D : va_G) (cy : Nat → ClassId) (mo mz msv mtx mmo mif mmg mtn mie mme mrd mas : Nat) (T : LSt) (hz : Nat) (HZ : Nat → LSt) (len : Nat) (tx : Nat → Int) (th : Int) (W : va_W) (hG : gOk T) (hW : MW cy mo mz msv mtx mmo mif mmg mtn mie mme mrd mas T hz HZ len tx th W) (p0 p1 : Int) (k : Nat) (hk : p0 = (k : Int) ∧ k < lN9 T) (h1 : 0 ≤ p1 ∧ p1 ≤ 9) (sz : Nat) : qMet l yX8_condition (.code yX8_condition cX8_condition 3 (some .int)) 8 [.ref (mo), .int (qI (p0)), .int (qI (p1))] D cy [W] sz (va_Qi (S := va_W) (fun r u => r = qI (coT T k p1) ∧ MW cy mo mz msv mtx mmo mif mmg mtn mie mme mrd mas T hz HZ len tx 0 u) (qB D cy [W] sz (fun u => [u])) (va_A [W].flatten sz)) := by
  refine q_ofMi (S := va_W) (b1 := fun u => [u]) (post := fun r u => r = qI (coT T k p1) ∧ MW cy mo mz msv mtx mmo mif mmg mtn mie mme mrd mas T hz HZ len tx 0 u) (by decide +kernel) (Nat.le_of_ble_eq_true rfl) ?_
  intro p e s m args below meth c Q A hx hb hml hown hg hQ hK hN hD hA H locs ls hP hS hl
  have hown : s.vm.findClass RX8 = some m.cls := hown
  have hl : lv_has ls 3 [(0, .ref (mo)), (1, .int (qI (p0))), (2, .int (qI (p1)))] := hl
  have hW0 := hW
  obtain ⟨tu, fi, ro, sp, it, bl, hh, z, sd, bf, g, isF, mg, tn, isE, mE, rd, as9, rfl, ⟨hL, hz20, hz101⟩, ⟨hhz, hHZ⟩, hln, hbf, htx⟩ := hW
  obtain ⟨gV, gT, gC, gE, gI, gD⟩ := hG.eq hL
  obtain ⟨nc, hnc⟩ : ∃ nc : Nat, z 20 = (nc : Int) := ⟨(z 20).toNat, by omega⟩
  obtain ⟨ne, hne⟩ : ∃ ne : Nat, z 101 = (ne : Int) := ⟨(z 101).toNat, by omega⟩
  have e20 : (z 20).toNat = nc := by omega
  have e101 : (z 101).toNat = ne := by omega
  have hV : qV z := gV
  have hst : ∀ i, i < 10 → 0 ≤ z (10 + i) ∧ z (10 + i) ≤ 9 := gT
  have hc : nc ≤ 16 := e20 ▸ (gC.1 : (z 20).toNat ≤ 16)
  have hC : qWR (zC z) nc := e20 ▸ (gC.2 : qWR (zC z) (z 20).toNat)
  have he : ne ≤ 4 := e101 ▸ (gE.1 : (z 101).toNat ≤ 4)
  have hE : qWR (zE z) ne := e101 ▸ (gE.2 : qWR (zE z) (z 101).toNat)
  have hD9 : ∀ i j, i < ne → j < ne → zE z 0 i = zE z 0 j → i = j := e101 ▸ (gD : ∀ i j, i < (z 101).toNat → j < (z 101).toNat → zE z 0 i = zE z 0 j → i = j)
  have hL2 : LEq (z, (fun i => z (10 + i)), zC z, nc, zE z, ne) T := by rw [← e20, ← e101]; exact hL
  have en : nc = lN9 T := hL2.2.2.1
  have em : ne = lM T := hL2.2.2.2.2.1
  rw [fl_open] at hP hD
  have hP : va_P D vwCl [[(mo, .inr (8, [.int (qI (th)), .ref (mz), .int (qI (((hz : Nat) : Int))), .ref (msv), .int (qI (((len : Nat) : Int))), .ref (mtx), .ref (mmo), .int (qI (tu)), .ref (mif), .ref (mmg), .ref (mtn), .ref (mie), .ref (mme), .int (qz (fi)), .int (qI (ro)), .int (qI (sp)), .int (qI (it)), .int (qz (bl)), .ref (mrd), .ref (mas), .long (hh)]))], [(mz, aI cy 115 (z))], [(msv, aI cy 920 (sd))], [(mtx, aI cy 60 (bf))], [(mmo, aI cy 121 (g))], [(mif, aZ cy 16 (isF))], [(mmg, aI cy 16 (mg))], [(mtn, aI cy 16 (tn))], [(mie, aZ cy 4 (isE))], [(mme, aI cy 4 (mE))], [(mrd, aI cy 100 (rd))], [(mas, aI cy 115 (as9))]].flatten H := hP
  have hD : va_D A [[(mo, .inr (8, [.int (qI (th)), .ref (mz), .int (qI (((hz : Nat) : Int))), .ref (msv), .int (qI (((len : Nat) : Int))), .ref (mtx), .ref (mmo), .int (qI (tu)), .ref (mif), .ref (mmg), .ref (mtn), .ref (mie), .ref (mme), .int (qz (fi)), .int (qI (ro)), .int (qI (sp)), .int (qI (it)), .int (qz (bl)), .ref (mrd), .ref (mas), .long (hh)]))], [(mz, aI cy 115 (z))], [(msv, aI cy 920 (sd))], [(mtx, aI cy 60 (bf))], [(mmo, aI cy 121 (g))], [(mif, aZ cy 16 (isF))], [(mmg, aI cy 16 (mg))], [(mtn, aI cy 16 (tn))], [(mie, aZ cy 4 (isE))], [(mme, aI cy 4 (mE))], [(mrd, aI cy 100 (rd))], [(mas, aI cy 115 (as9))]].flatten := hD
  refine lv_aload_n hx hb dX8_condition_0 rfl (lv_at hl 0 rfl) ?_
  refine lv_aload_n hx hb dX8_condition_1 rfl (lv_at hl 0 rfl) ?_
  refine lv_iload_n hx hb dX8_condition_2 rfl (lv_at hl 1 rfl) ?_
  refine q_readz (va_runV (As := [.int (qI (p0))]) (rest := [.ref (mo)]) ⟨hx, hb, hml, hown, hg⟩ (c_X8_isCondition l D cy mo mz msv mtx mmo mif mmg mtn mie mme mrd mas (th) (((hz : Nat) : Int)) (((len : Nat) : Int)) (tu) (fi) (ro) (sp) (it) (bl) (hh) (z) nc _ (by omega) hnc hc) (cv_X8_114 hg rfl rfl ⟨by decide, by decide⟩) ⟨q_blind0, va_recv hK (fl_blk hP 0 rfl) (ci := 8) (q0 := 0) rfl rfl, q_preR _ hK hN hP [0, 1] rfl⟩ rfl rfl hl.1 rfl (lv_room (Nat.le_of_ble_eq_true rfl)) dX8_condition_3 ⟨by decide, by decide⟩) (fun b_3 h_3 => ?_)
  refine q_ifz_ne (tgt := 13) hx hb dX8_condition_6 (by decide) (fun c_6 => ?_) (fun c_6 => ?_)
  · skip
    have g_6 := (h_3).mp c_6
    refine lv_iload_n hx hb dX8_condition_13 rfl (lv_at hl 2 rfl) ?_
    refine q_iconst hx hb dX8_condition_14 ?_
    refine q_bipush hx hb dX8_condition_15 (by decide) ?_
    refine q_readz (va_runS (As := [.int (qI (p1)), .int (qI (0)), .int (qI (9))]) (rest := [.ref (mo)]) ⟨hx, hb, hml, hown, hg⟩ (c_X8_within l D cy _ _ _ (by omega)) (cs_X8_48 hg rfl rfl ⟨by decide, by decide⟩) ⟨q_blind0, q_preR _ hK hN hP [] rfl⟩ rfl rfl hl.1 rfl (lv_room (Nat.le_of_ble_eq_true rfl)) dX8_condition_17 ⟨by decide, by decide⟩) (fun b_17 h_17 => ?_)
    refine q_ifz_eq (tgt := 27) hx hb dX8_condition_20 (by decide) (fun c_20 => ?_) (fun c_20 => ?_)
    · skip
      have g_20 := mt (h_17).mpr (by rw [c_20]; decide)
      exfalso; omega
    · skip
      have g_20 := (h_17).mp c_20
      refine q_iconst hx hb dX8_condition_23 ?_
      refine lv_goto (tgt := 28) hx hb dX8_condition_24 (by decide) ?_
      refine pf_X8_44 hx hb hg hown hK hP hD hS 0 0 rfl rfl rfl rfl (Nat.le_of_ble_eq_true rfl) dX8_condition_28 (fun H locs hP hD hS => ?_)
      have hP : va_P D vwCl [[(mo, .inr (8, [.int (qI (0)), .ref (mz), .int (qI (((hz : Nat) : Int))), .ref (msv), .int (qI (((len : Nat) : Int))), .ref (mtx), .ref (mmo), .int (qI (tu)), .ref (mif), .ref (mmg), .ref (mtn), .ref (mie), .ref (mme), .int (qz (fi)), .int (qI (ro)), .int (qI (sp)), .int (qI (it)), .int (qz (bl)), .ref (mrd), .ref (mas), .long (hh)]))], [(mz, aI cy 115 (z))], [(msv, aI cy 920 (sd))], [(mtx, aI cy 60 (bf))], [(mmo, aI cy 121 (g))], [(mif, aZ cy 16 (isF))], [(mmg, aI cy 16 (mg))], [(mtn, aI cy 16 (tn))], [(mie, aZ cy 4 (isE))], [(mme, aI cy 4 (mE))], [(mrd, aI cy 100 (rd))], [(mas, aI cy 115 (as9))]].flatten H := hP
      have hD : va_D A [[(mo, .inr (8, [.int (qI (0)), .ref (mz), .int (qI (((hz : Nat) : Int))), .ref (msv), .int (qI (((len : Nat) : Int))), .ref (mtx), .ref (mmo), .int (qI (tu)), .ref (mif), .ref (mmg), .ref (mtn), .ref (mie), .ref (mme), .int (qz (fi)), .int (qI (ro)), .int (qI (sp)), .int (qI (it)), .int (qz (bl)), .ref (mrd), .ref (mas), .long (hh)]))], [(mz, aI cy 115 (z))], [(msv, aI cy 920 (sd))], [(mtx, aI cy 60 (bf))], [(mmo, aI cy 121 (g))], [(mif, aZ cy 16 (isF))], [(mmg, aI cy 16 (mg))], [(mtn, aI cy 16 (tn))], [(mie, aZ cy 4 (isE))], [(mme, aI cy 4 (mE))], [(mrd, aI cy 100 (rd))], [(mas, aI cy 115 (as9))]].flatten := hD
      refine lv_aload_n hx hb dX8_condition_31 rfl (lv_at hl 0 rfl) ?_
      refine gf_X8_44 hx hb hg hown hK (fl_blk hP 0 rfl) 0 rfl rfl dX8_condition_32 ?_
      refine q_if_le (tgt := 40) hx hb dX8_condition_35 (by decide) (by omega) (fun c_35 => ?_) (fun c_35 => ?_)
      · skip
        refine lv_aload_n hx hb dX8_condition_40 rfl (lv_at hl 0 rfl) ?_
        refine q_iconst hx hb dX8_condition_41 ?_
        refine q_backv [0, 1, 4, 5, 6, 7, 8, 9] [2, 3, 10, 11] (br := [[(msv, aI cy 920 (sd))], [(mtx, aI cy 60 (bf))], [(mrd, aI cy 100 (rd))], [(mas, aI cy 115 (as9))]]) hP hD hS hA (va_runV (As := [.int (qI (-1))]) (rest := []) ⟨hx, hb, hml, hown, hg⟩ (c_X8_fill l D cy mo mz msv mtx mmo mif mmg mtn mie mme mrd mas (0) (((hz : Nat) : Int)) (((len : Nat) : Int)) (tu) (fi) (ro) (sp) (it) (bl) (hh) (z) nc ne (g) (isF) (mg) (tn) (isE) (mE) hnc hne hc he hC hE (-1) (by omega) _) (cv_X8_77 hg rfl rfl ⟨by decide, by decide⟩) ⟨q_blind, va_recv hK (fl_blk hP 0 rfl) (ci := 8) (q0 := 0) rfl rfl, q_preM _ hK hN hP hD [0, 1, 4, 5, 6, 7, 8, 9] (by decide) rfl⟩ rfl rfl hl.1 rfl (lv_room (Nat.le_of_ble_eq_true rfl)) dX8_condition_42 ⟨by decide, by decide⟩) rfl rfl (by decide) (fun u_42 H locs h_42 hP hD hS => ?_)
        have hP : va_P D vwCl [[(msv, aI cy 920 (sd))], [(mtx, aI cy 60 (bf))], [(mrd, aI cy 100 (rd))], [(mas, aI cy 115 (as9))], [(mo, .inr (8, [.int (qI (0)), .ref (mz), .int (qI (((hz : Nat) : Int))), .ref (msv), .int (qI (((len : Nat) : Int))), .ref (mtx), .ref (mmo), .int (qI (u_42.2.1)), .ref (mif), .ref (mmg), .ref (mtn), .ref (mie), .ref (mme), .int (qz (u_42.2.2.2.2.2.2.2.1)), .int (qI (u_42.2.2.2.2.2.2.2.2)), .int (qI (sp)), .int (qI (it)), .int (qz (bl)), .ref (mrd), .ref (mas), .long (hh)]))], [(mz, aI cy 115 (z))], [(mmo, aI cy 121 (u_42.1))], [(mif, aZ cy 16 (u_42.2.2.1))], [(mmg, aI cy 16 (u_42.2.2.2.1))], [(mtn, aI cy 16 (u_42.2.2.2.2.1))], [(mie, aZ cy 4 (u_42.2.2.2.2.2.1))], [(mme, aI cy 4 (u_42.2.2.2.2.2.2.1))]].flatten H := hP
        have hD : va_D A [[(msv, aI cy 920 (sd))], [(mtx, aI cy 60 (bf))], [(mrd, aI cy 100 (rd))], [(mas, aI cy 115 (as9))], [(mo, .inr (8, [.int (qI (0)), .ref (mz), .int (qI (((hz : Nat) : Int))), .ref (msv), .int (qI (((len : Nat) : Int))), .ref (mtx), .ref (mmo), .int (qI (u_42.2.1)), .ref (mif), .ref (mmg), .ref (mtn), .ref (mie), .ref (mme), .int (qz (u_42.2.2.2.2.2.2.2.1)), .int (qI (u_42.2.2.2.2.2.2.2.2)), .int (qI (sp)), .int (qI (it)), .int (qz (bl)), .ref (mrd), .ref (mas), .long (hh)]))], [(mz, aI cy 115 (z))], [(mmo, aI cy 121 (u_42.1))], [(mif, aZ cy 16 (u_42.2.2.1))], [(mmg, aI cy 16 (u_42.2.2.2.1))], [(mtn, aI cy 16 (u_42.2.2.2.2.1))], [(mie, aZ cy 4 (u_42.2.2.2.2.2.1))], [(mme, aI cy 4 (u_42.2.2.2.2.2.2.1))]].flatten := hD
        refine lv_aload_n hx hb dX8_condition_45 rfl (lv_at hl 0 rfl) ?_
        refine lv_iload_n hx hb dX8_condition_46 rfl (lv_at hl 1 rfl) ?_
        refine lv_iload_n hx hb dX8_condition_47 rfl (lv_at hl 2 rfl) ?_
        refine q_backi [4, 5, 6, 7, 8, 9, 10, 11] [0, 1, 2, 3] (br := [[(msv, aI cy 920 (sd))], [(mtx, aI cy 60 (bf))], [(mrd, aI cy 100 (rd))], [(mas, aI cy 115 (as9))]]) hP hD hS hA (va_runV (As := [.int (qI (p0)), .int (qI (p1))]) (rest := []) ⟨hx, hb, hml, hown, hg⟩ (c_X8_conditionNow l D cy mo mz msv mtx mmo mif mmg mtn mie mme mrd mas (0) (((hz : Nat) : Int)) (((len : Nat) : Int)) (u_42.2.1) (u_42.2.2.2.2.2.2.2.1) (u_42.2.2.2.2.2.2.2.2) (sp) (it) (bl) (hh) z nc ne (u_42.1) (u_42.2.2.1) (u_42.2.2.2.1) (u_42.2.2.2.2.1) (u_42.2.2.2.2.2.1) (u_42.2.2.2.2.2.2.1) hnc hne hc he hC hE hV h_42 _ (p1) k (by omega) (by omega) _) (cv_X8_182 hg rfl rfl ⟨by decide, by decide⟩) ⟨q_blind, va_recv hK (fl_blk hP 4 rfl) (ci := 8) (q0 := 0) rfl rfl, q_preM _ hK hN hP hD [4, 5, 6, 7, 8, 9, 10, 11] (by decide) rfl⟩ rfl rfl hl.1 rfl (lv_room (Nat.le_of_ble_eq_true rfl)) dX8_condition_48 ⟨by decide, by decide⟩) rfl rfl (by decide) (fun r_48 u_48 H locs h_48 hP hD hS => ?_)
        have hP : va_P D vwCl [[(msv, aI cy 920 (sd))], [(mtx, aI cy 60 (bf))], [(mrd, aI cy 100 (rd))], [(mas, aI cy 115 (as9))], [(mo, .inr (8, [.int (qI (0)), .ref (mz), .int (qI (((hz : Nat) : Int))), .ref (msv), .int (qI (((len : Nat) : Int))), .ref (mtx), .ref (mmo), .int (qI (u_48.2.1)), .ref (mif), .ref (mmg), .ref (mtn), .ref (mie), .ref (mme), .int (qz (u_48.2.2.2.2.2.2.2.1)), .int (qI (u_48.2.2.2.2.2.2.2.2)), .int (qI (sp)), .int (qI (it)), .int (qz (bl)), .ref (mrd), .ref (mas), .long (hh)]))], [(mz, aI cy 115 (z))], [(mmo, aI cy 121 (u_48.1))], [(mif, aZ cy 16 (u_48.2.2.1))], [(mmg, aI cy 16 (u_48.2.2.2.1))], [(mtn, aI cy 16 (u_48.2.2.2.2.1))], [(mie, aZ cy 4 (u_48.2.2.2.2.2.1))], [(mme, aI cy 4 (u_48.2.2.2.2.2.2.1))]].flatten H := hP
        have hD : va_D A [[(msv, aI cy 920 (sd))], [(mtx, aI cy 60 (bf))], [(mrd, aI cy 100 (rd))], [(mas, aI cy 115 (as9))], [(mo, .inr (8, [.int (qI (0)), .ref (mz), .int (qI (((hz : Nat) : Int))), .ref (msv), .int (qI (((len : Nat) : Int))), .ref (mtx), .ref (mmo), .int (qI (u_48.2.1)), .ref (mif), .ref (mmg), .ref (mtn), .ref (mie), .ref (mme), .int (qz (u_48.2.2.2.2.2.2.2.1)), .int (qI (u_48.2.2.2.2.2.2.2.2)), .int (qI (sp)), .int (qI (it)), .int (qz (bl)), .ref (mrd), .ref (mas), .long (hh)]))], [(mz, aI cy 115 (z))], [(mmo, aI cy 121 (u_48.1))], [(mif, aZ cy 16 (u_48.2.2.1))], [(mmg, aI cy 16 (u_48.2.2.2.1))], [(mtn, aI cy 16 (u_48.2.2.2.2.1))], [(mie, aZ cy 4 (u_48.2.2.2.2.2.1))], [(mme, aI cy 4 (u_48.2.2.2.2.2.2.1))]].flatten := hD
        obtain ⟨rfl, h_48⟩ := h_48
        have hP := fl_sub (bs' := [[(mo, .inr (8, [.int (qI (0)), .ref (mz), .int (qI (((hz : Nat) : Int))), .ref (msv), .int (qI (((len : Nat) : Int))), .ref (mtx), .ref (mmo), .int (qI (u_48.2.1)), .ref (mif), .ref (mmg), .ref (mtn), .ref (mie), .ref (mme), .int (qz (u_48.2.2.2.2.2.2.2.1)), .int (qI (u_48.2.2.2.2.2.2.2.2)), .int (qI (sp)), .int (qI (it)), .int (qz (bl)), .ref (mrd), .ref (mas), .long (hh)]))], [(mz, aI cy 115 (z))], [(msv, aI cy 920 (sd))], [(mtx, aI cy 60 (bf))], [(mmo, aI cy 121 (u_48.1))], [(mif, aZ cy 16 (u_48.2.2.1))], [(mmg, aI cy 16 (u_48.2.2.2.1))], [(mtn, aI cy 16 (u_48.2.2.2.2.1))], [(mie, aZ cy 4 (u_48.2.2.2.2.2.1))], [(mme, aI cy 4 (u_48.2.2.2.2.2.2.1))], [(mrd, aI cy 100 (rd))], [(mas, aI cy 115 (as9))]]) hP [4, 5, 0, 1, 6, 7, 8, 9, 10, 11, 2, 3] rfl
        have hD := fl_subD (bs' := [[(mo, .inr (8, [.int (qI (0)), .ref (mz), .int (qI (((hz : Nat) : Int))), .ref (msv), .int (qI (((len : Nat) : Int))), .ref (mtx), .ref (mmo), .int (qI (u_48.2.1)), .ref (mif), .ref (mmg), .ref (mtn), .ref (mie), .ref (mme), .int (qz (u_48.2.2.2.2.2.2.2.1)), .int (qI (u_48.2.2.2.2.2.2.2.2)), .int (qI (sp)), .int (qI (it)), .int (qz (bl)), .ref (mrd), .ref (mas), .long (hh)]))], [(mz, aI cy 115 (z))], [(msv, aI cy 920 (sd))], [(mtx, aI cy 60 (bf))], [(mmo, aI cy 121 (u_48.1))], [(mif, aZ cy 16 (u_48.2.2.1))], [(mmg, aI cy 16 (u_48.2.2.2.1))], [(mtn, aI cy 16 (u_48.2.2.2.2.1))], [(mie, aZ cy 4 (u_48.2.2.2.2.2.1))], [(mme, aI cy 4 (u_48.2.2.2.2.2.2.1))], [(mrd, aI cy 100 (rd))], [(mas, aI cy 115 (as9))]]) hD [4, 5, 0, 1, 6, 7, 8, 9, 10, 11, 2, 3] (by decide) rfl
        have hP : va_P D vwCl [(mdB cy mo mz msv mtx mmo mif mmg mtn mie mme mrd mas (0) (hz) (len) (u_48.2.1) (u_48.2.2.2.2.2.2.2.1) (u_48.2.2.2.2.2.2.2.2) (sp) (it) (bl) (hh) (z) (sd) (bf) (u_48.1) (u_48.2.2.1) (u_48.2.2.2.1) (u_48.2.2.2.2.1) (u_48.2.2.2.2.2.1) (u_48.2.2.2.2.2.2.1) (rd) (as9)).flatten].flatten H := by rw [fl_open]; exact hP
        have hD : va_D A [(mdB cy mo mz msv mtx mmo mif mmg mtn mie mme mrd mas (0) (hz) (len) (u_48.2.1) (u_48.2.2.2.2.2.2.2.1) (u_48.2.2.2.2.2.2.2.2) (sp) (it) (bl) (hh) (z) (sd) (bf) (u_48.1) (u_48.2.2.1) (u_48.2.2.2.1) (u_48.2.2.2.2.1) (u_48.2.2.2.2.2.1) (u_48.2.2.2.2.2.2.1) (rd) (as9)).flatten].flatten := by rw [fl_open]; exact hD
        exact hQ _ _ _ _ _ ((mdB cy mo mz msv mtx mmo mif mmg mtn mie mme mrd mas (0) (hz) (len) (u_48.2.1) (u_48.2.2.2.2.2.2.2.1) (u_48.2.2.2.2.2.2.2.2) (sp) (it) (bl) (hh) (z) (sd) (bf) (u_48.1) (u_48.2.2.1) (u_48.2.2.2.1) (u_48.2.2.2.2.1) (u_48.2.2.2.2.2.1) (u_48.2.2.2.2.2.2.1) (rd) (as9)).flatten) ⟨by rw [← coT_eq hL2 hG (by omega) p1], ⟨(u_48.2.1), (u_48.2.2.2.2.2.2.2.1), (u_48.2.2.2.2.2.2.2.2), (sp), (it), (bl), (hh), (z), (sd), (bf), (u_48.1), (u_48.2.2.1), (u_48.2.2.2.1), (u_48.2.2.2.2.1), (u_48.2.2.2.2.2.1), (u_48.2.2.2.2.2.2.1), (rd), (as9), rfl, ⟨hL, hz20, hz101⟩, ⟨hhz, hHZ⟩, hln, hbf, htx⟩⟩ hP hD hS dX8_condition_51
      · skip
        exact absurd c_35 (by decide)
  · skip
    have g_6 := mt (h_3).mpr (by rw [c_6]; decide)
    exfalso; omega

set_option maxRecDepth 100000 in
set_option maxHeartbeats 4000000 in
theorem c_X8_condition_no1 (l : Launch) (D : va_G) (cy : Nat → ClassId) (mo mz msv mtx mmo mif mmg mtn mie mme mrd mas : Nat) (T : LSt) (hz : Nat) (HZ : Nat → LSt) (len : Nat) (tx : Nat → Int) (th : Int) (W : va_W) (hG : gOk T) (hW : MW cy mo mz msv mtx mmo mif mmg mtn mie mme mrd mas T hz HZ len tx th W) (p0 p1 : Int) (r0 : (-2147483648 ≤ p0 ∧ p0 < 2147483648)) (r1 : (-2147483648 ≤ p1 ∧ p1 < 2147483648)) (hx : ¬ (0 ≤ p0 ∧ p0 < (lN9 T : Int))) (sz : Nat) : qMet l yX8_condition (.code yX8_condition cX8_condition 3 (some .int)) 8 [.ref (mo), .int (qI (p0)), .int (qI (p1))] D cy [W] sz (va_Qi (S := va_W) (fun r u => MW cy mo mz msv mtx mmo mif mmg mtn mie mme mrd mas T hz HZ len tx 1 u) (qB D cy [W] sz (fun u => [u])) (va_A [W].flatten sz)) := by
  refine q_ofMi (S := va_W) (b1 := fun u => [u]) (post := fun r u => MW cy mo mz msv mtx mmo mif mmg mtn mie mme mrd mas T hz HZ len tx 1 u) (by decide +kernel) (Nat.le_of_ble_eq_true rfl) ?_
  intro p e s m args below meth c Q A hx hb hml hown hg hQ hK hN hD hA H locs ls hP hS hl
  have hown : s.vm.findClass RX8 = some m.cls := hown
  have hl : lv_has ls 3 [(0, .ref (mo)), (1, .int (qI (p0))), (2, .int (qI (p1)))] := hl
  have hW0 := hW
  obtain ⟨tu, fi, ro, sp, it, bl, hh, z, sd, bf, g, isF, mg, tn, isE, mE, rd, as9, rfl, ⟨hL, hz20, hz101⟩, ⟨hhz, hHZ⟩, hln, hbf, htx⟩ := hW
  obtain ⟨gV, gT, gC, gE, gI, gD⟩ := hG.eq hL
  obtain ⟨nc, hnc⟩ : ∃ nc : Nat, z 20 = (nc : Int) := ⟨(z 20).toNat, by omega⟩
  obtain ⟨ne, hne⟩ : ∃ ne : Nat, z 101 = (ne : Int) := ⟨(z 101).toNat, by omega⟩
  have e20 : (z 20).toNat = nc := by omega
  have e101 : (z 101).toNat = ne := by omega
  have hV : qV z := gV
  have hst : ∀ i, i < 10 → 0 ≤ z (10 + i) ∧ z (10 + i) ≤ 9 := gT
  have hc : nc ≤ 16 := e20 ▸ (gC.1 : (z 20).toNat ≤ 16)
  have hC : qWR (zC z) nc := e20 ▸ (gC.2 : qWR (zC z) (z 20).toNat)
  have he : ne ≤ 4 := e101 ▸ (gE.1 : (z 101).toNat ≤ 4)
  have hE : qWR (zE z) ne := e101 ▸ (gE.2 : qWR (zE z) (z 101).toNat)
  have hD9 : ∀ i j, i < ne → j < ne → zE z 0 i = zE z 0 j → i = j := e101 ▸ (gD : ∀ i j, i < (z 101).toNat → j < (z 101).toNat → zE z 0 i = zE z 0 j → i = j)
  have hL2 : LEq (z, (fun i => z (10 + i)), zC z, nc, zE z, ne) T := by rw [← e20, ← e101]; exact hL
  have en : nc = lN9 T := hL2.2.2.1
  have em : ne = lM T := hL2.2.2.2.2.1
  rw [fl_open] at hP hD
  have hP : va_P D vwCl [[(mo, .inr (8, [.int (qI (th)), .ref (mz), .int (qI (((hz : Nat) : Int))), .ref (msv), .int (qI (((len : Nat) : Int))), .ref (mtx), .ref (mmo), .int (qI (tu)), .ref (mif), .ref (mmg), .ref (mtn), .ref (mie), .ref (mme), .int (qz (fi)), .int (qI (ro)), .int (qI (sp)), .int (qI (it)), .int (qz (bl)), .ref (mrd), .ref (mas), .long (hh)]))], [(mz, aI cy 115 (z))], [(msv, aI cy 920 (sd))], [(mtx, aI cy 60 (bf))], [(mmo, aI cy 121 (g))], [(mif, aZ cy 16 (isF))], [(mmg, aI cy 16 (mg))], [(mtn, aI cy 16 (tn))], [(mie, aZ cy 4 (isE))], [(mme, aI cy 4 (mE))], [(mrd, aI cy 100 (rd))], [(mas, aI cy 115 (as9))]].flatten H := hP
  have hD : va_D A [[(mo, .inr (8, [.int (qI (th)), .ref (mz), .int (qI (((hz : Nat) : Int))), .ref (msv), .int (qI (((len : Nat) : Int))), .ref (mtx), .ref (mmo), .int (qI (tu)), .ref (mif), .ref (mmg), .ref (mtn), .ref (mie), .ref (mme), .int (qz (fi)), .int (qI (ro)), .int (qI (sp)), .int (qI (it)), .int (qz (bl)), .ref (mrd), .ref (mas), .long (hh)]))], [(mz, aI cy 115 (z))], [(msv, aI cy 920 (sd))], [(mtx, aI cy 60 (bf))], [(mmo, aI cy 121 (g))], [(mif, aZ cy 16 (isF))], [(mmg, aI cy 16 (mg))], [(mtn, aI cy 16 (tn))], [(mie, aZ cy 4 (isE))], [(mme, aI cy 4 (mE))], [(mrd, aI cy 100 (rd))], [(mas, aI cy 115 (as9))]].flatten := hD
  refine lv_aload_n hx hb dX8_condition_0 rfl (lv_at hl 0 rfl) ?_
  refine lv_aload_n hx hb dX8_condition_1 rfl (lv_at hl 0 rfl) ?_
  refine lv_iload_n hx hb dX8_condition_2 rfl (lv_at hl 1 rfl) ?_
  refine q_readz (va_runV (As := [.int (qI (p0))]) (rest := [.ref (mo)]) ⟨hx, hb, hml, hown, hg⟩ (c_X8_isCondition l D cy mo mz msv mtx mmo mif mmg mtn mie mme mrd mas (th) (((hz : Nat) : Int)) (((len : Nat) : Int)) (tu) (fi) (ro) (sp) (it) (bl) (hh) (z) nc _ (by omega) hnc hc) (cv_X8_114 hg rfl rfl ⟨by decide, by decide⟩) ⟨q_blind0, va_recv hK (fl_blk hP 0 rfl) (ci := 8) (q0 := 0) rfl rfl, q_preR _ hK hN hP [0, 1] rfl⟩ rfl rfl hl.1 rfl (lv_room (Nat.le_of_ble_eq_true rfl)) dX8_condition_3 ⟨by decide, by decide⟩) (fun b_3 h_3 => ?_)
  refine q_ifz_ne (tgt := 13) hx hb dX8_condition_6 (by decide) (fun c_6 => ?_) (fun c_6 => ?_)
  · skip
    have g_6 := (h_3).mp c_6
    exfalso; omega
  · skip
    have g_6 := mt (h_3).mpr (by rw [c_6]; decide)
    refine q_iconst hx hb dX8_condition_9 ?_
    refine lv_goto (tgt := 28) hx hb dX8_condition_10 (by decide) ?_
    refine pf_X8_44 hx hb hg hown hK hP hD hS 0 0 rfl rfl rfl rfl (Nat.le_of_ble_eq_true rfl) dX8_condition_28 (fun H locs hP hD hS => ?_)
    have hP : va_P D vwCl [[(mo, .inr (8, [.int (qI (1)), .ref (mz), .int (qI (((hz : Nat) : Int))), .ref (msv), .int (qI (((len : Nat) : Int))), .ref (mtx), .ref (mmo), .int (qI (tu)), .ref (mif), .ref (mmg), .ref (mtn), .ref (mie), .ref (mme), .int (qz (fi)), .int (qI (ro)), .int (qI (sp)), .int (qI (it)), .int (qz (bl)), .ref (mrd), .ref (mas), .long (hh)]))], [(mz, aI cy 115 (z))], [(msv, aI cy 920 (sd))], [(mtx, aI cy 60 (bf))], [(mmo, aI cy 121 (g))], [(mif, aZ cy 16 (isF))], [(mmg, aI cy 16 (mg))], [(mtn, aI cy 16 (tn))], [(mie, aZ cy 4 (isE))], [(mme, aI cy 4 (mE))], [(mrd, aI cy 100 (rd))], [(mas, aI cy 115 (as9))]].flatten H := hP
    have hD : va_D A [[(mo, .inr (8, [.int (qI (1)), .ref (mz), .int (qI (((hz : Nat) : Int))), .ref (msv), .int (qI (((len : Nat) : Int))), .ref (mtx), .ref (mmo), .int (qI (tu)), .ref (mif), .ref (mmg), .ref (mtn), .ref (mie), .ref (mme), .int (qz (fi)), .int (qI (ro)), .int (qI (sp)), .int (qI (it)), .int (qz (bl)), .ref (mrd), .ref (mas), .long (hh)]))], [(mz, aI cy 115 (z))], [(msv, aI cy 920 (sd))], [(mtx, aI cy 60 (bf))], [(mmo, aI cy 121 (g))], [(mif, aZ cy 16 (isF))], [(mmg, aI cy 16 (mg))], [(mtn, aI cy 16 (tn))], [(mie, aZ cy 4 (isE))], [(mme, aI cy 4 (mE))], [(mrd, aI cy 100 (rd))], [(mas, aI cy 115 (as9))]].flatten := hD
    refine lv_aload_n hx hb dX8_condition_31 rfl (lv_at hl 0 rfl) ?_
    refine gf_X8_44 hx hb hg hown hK (fl_blk hP 0 rfl) 0 rfl rfl dX8_condition_32 ?_
    refine q_if_le (tgt := 40) hx hb dX8_condition_35 (by decide) (by omega) (fun c_35 => ?_) (fun c_35 => ?_)
    · skip
      exact absurd c_35 (by decide)
    · skip
      refine q_iconst hx hb dX8_condition_38 ?_
      have hP : va_P D vwCl [(mdB cy mo mz msv mtx mmo mif mmg mtn mie mme mrd mas (1) (hz) (len) (tu) (fi) (ro) (sp) (it) (bl) (hh) (z) (sd) (bf) (g) (isF) (mg) (tn) (isE) (mE) (rd) (as9)).flatten].flatten H := by rw [fl_open]; exact hP
      have hD : va_D A [(mdB cy mo mz msv mtx mmo mif mmg mtn mie mme mrd mas (1) (hz) (len) (tu) (fi) (ro) (sp) (it) (bl) (hh) (z) (sd) (bf) (g) (isF) (mg) (tn) (isE) (mE) (rd) (as9)).flatten].flatten := by rw [fl_open]; exact hD
      exact hQ _ _ _ _ _ ((mdB cy mo mz msv mtx mmo mif mmg mtn mie mme mrd mas (1) (hz) (len) (tu) (fi) (ro) (sp) (it) (bl) (hh) (z) (sd) (bf) (g) (isF) (mg) (tn) (isE) (mE) (rd) (as9)).flatten) ⟨(tu), (fi), (ro), (sp), (it), (bl), (hh), (z), (sd), (bf), (g), (isF), (mg), (tn), (isE), (mE), (rd), (as9), rfl, ⟨hL, hz20, hz101⟩, ⟨hhz, hHZ⟩, hln, hbf, htx⟩ hP hD hS dX8_condition_39

set_option maxRecDepth 100000 in
set_option maxHeartbeats 4000000 in
theorem c_X8_condition_no2 (l : Launch) (D : va_G) (cy : Nat → ClassId) (mo mz msv mtx mmo mif mmg mtn mie mme mrd mas : Nat) (T : LSt) (hz : Nat) (HZ : Nat → LSt) (len : Nat) (tx : Nat → Int) (th : Int) (W : va_W) (hG : gOk T) (hW : MW cy mo mz msv mtx mmo mif mmg mtn mie mme mrd mas T hz HZ len tx th W) (p0 p1 : Int) (r0 : (-2147483648 ≤ p0 ∧ p0 < 2147483648)) (r1 : (-2147483648 ≤ p1 ∧ p1 < 2147483648)) (hx : 0 ≤ p0 ∧ p0 < (lN9 T : Int)) (hy : ¬ (0 ≤ p1 ∧ p1 ≤ 9)) (sz : Nat) : qMet l yX8_condition (.code yX8_condition cX8_condition 3 (some .int)) 8 [.ref (mo), .int (qI (p0)), .int (qI (p1))] D cy [W] sz (va_Qi (S := va_W) (fun r u => MW cy mo mz msv mtx mmo mif mmg mtn mie mme mrd mas T hz HZ len tx 2 u) (qB D cy [W] sz (fun u => [u])) (va_A [W].flatten sz)) := by
  refine q_ofMi (S := va_W) (b1 := fun u => [u]) (post := fun r u => MW cy mo mz msv mtx mmo mif mmg mtn mie mme mrd mas T hz HZ len tx 2 u) (by decide +kernel) (Nat.le_of_ble_eq_true rfl) ?_
  intro p e s m args below meth c Q A hx hb hml hown hg hQ hK hN hD hA H locs ls hP hS hl
  have hown : s.vm.findClass RX8 = some m.cls := hown
  have hl : lv_has ls 3 [(0, .ref (mo)), (1, .int (qI (p0))), (2, .int (qI (p1)))] := hl
  have hW0 := hW
  obtain ⟨tu, fi, ro, sp, it, bl, hh, z, sd, bf, g, isF, mg, tn, isE, mE, rd, as9, rfl, ⟨hL, hz20, hz101⟩, ⟨hhz, hHZ⟩, hln, hbf, htx⟩ := hW
  obtain ⟨gV, gT, gC, gE, gI, gD⟩ := hG.eq hL
  obtain ⟨nc, hnc⟩ : ∃ nc : Nat, z 20 = (nc : Int) := ⟨(z 20).toNat, by omega⟩
  obtain ⟨ne, hne⟩ : ∃ ne : Nat, z 101 = (ne : Int) := ⟨(z 101).toNat, by omega⟩
  have e20 : (z 20).toNat = nc := by omega
  have e101 : (z 101).toNat = ne := by omega
  have hV : qV z := gV
  have hst : ∀ i, i < 10 → 0 ≤ z (10 + i) ∧ z (10 + i) ≤ 9 := gT
  have hc : nc ≤ 16 := e20 ▸ (gC.1 : (z 20).toNat ≤ 16)
  have hC : qWR (zC z) nc := e20 ▸ (gC.2 : qWR (zC z) (z 20).toNat)
  have he : ne ≤ 4 := e101 ▸ (gE.1 : (z 101).toNat ≤ 4)
  have hE : qWR (zE z) ne := e101 ▸ (gE.2 : qWR (zE z) (z 101).toNat)
  have hD9 : ∀ i j, i < ne → j < ne → zE z 0 i = zE z 0 j → i = j := e101 ▸ (gD : ∀ i j, i < (z 101).toNat → j < (z 101).toNat → zE z 0 i = zE z 0 j → i = j)
  have hL2 : LEq (z, (fun i => z (10 + i)), zC z, nc, zE z, ne) T := by rw [← e20, ← e101]; exact hL
  have en : nc = lN9 T := hL2.2.2.1
  have em : ne = lM T := hL2.2.2.2.2.1
  rw [fl_open] at hP hD
  have hP : va_P D vwCl [[(mo, .inr (8, [.int (qI (th)), .ref (mz), .int (qI (((hz : Nat) : Int))), .ref (msv), .int (qI (((len : Nat) : Int))), .ref (mtx), .ref (mmo), .int (qI (tu)), .ref (mif), .ref (mmg), .ref (mtn), .ref (mie), .ref (mme), .int (qz (fi)), .int (qI (ro)), .int (qI (sp)), .int (qI (it)), .int (qz (bl)), .ref (mrd), .ref (mas), .long (hh)]))], [(mz, aI cy 115 (z))], [(msv, aI cy 920 (sd))], [(mtx, aI cy 60 (bf))], [(mmo, aI cy 121 (g))], [(mif, aZ cy 16 (isF))], [(mmg, aI cy 16 (mg))], [(mtn, aI cy 16 (tn))], [(mie, aZ cy 4 (isE))], [(mme, aI cy 4 (mE))], [(mrd, aI cy 100 (rd))], [(mas, aI cy 115 (as9))]].flatten H := hP
  have hD : va_D A [[(mo, .inr (8, [.int (qI (th)), .ref (mz), .int (qI (((hz : Nat) : Int))), .ref (msv), .int (qI (((len : Nat) : Int))), .ref (mtx), .ref (mmo), .int (qI (tu)), .ref (mif), .ref (mmg), .ref (mtn), .ref (mie), .ref (mme), .int (qz (fi)), .int (qI (ro)), .int (qI (sp)), .int (qI (it)), .int (qz (bl)), .ref (mrd), .ref (mas), .long (hh)]))], [(mz, aI cy 115 (z))], [(msv, aI cy 920 (sd))], [(mtx, aI cy 60 (bf))], [(mmo, aI cy 121 (g))], [(mif, aZ cy 16 (isF))], [(mmg, aI cy 16 (mg))], [(mtn, aI cy 16 (tn))], [(mie, aZ cy 4 (isE))], [(mme, aI cy 4 (mE))], [(mrd, aI cy 100 (rd))], [(mas, aI cy 115 (as9))]].flatten := hD
  refine lv_aload_n hx hb dX8_condition_0 rfl (lv_at hl 0 rfl) ?_
  refine lv_aload_n hx hb dX8_condition_1 rfl (lv_at hl 0 rfl) ?_
  refine lv_iload_n hx hb dX8_condition_2 rfl (lv_at hl 1 rfl) ?_
  refine q_readz (va_runV (As := [.int (qI (p0))]) (rest := [.ref (mo)]) ⟨hx, hb, hml, hown, hg⟩ (c_X8_isCondition l D cy mo mz msv mtx mmo mif mmg mtn mie mme mrd mas (th) (((hz : Nat) : Int)) (((len : Nat) : Int)) (tu) (fi) (ro) (sp) (it) (bl) (hh) (z) nc _ (by omega) hnc hc) (cv_X8_114 hg rfl rfl ⟨by decide, by decide⟩) ⟨q_blind0, va_recv hK (fl_blk hP 0 rfl) (ci := 8) (q0 := 0) rfl rfl, q_preR _ hK hN hP [0, 1] rfl⟩ rfl rfl hl.1 rfl (lv_room (Nat.le_of_ble_eq_true rfl)) dX8_condition_3 ⟨by decide, by decide⟩) (fun b_3 h_3 => ?_)
  refine q_ifz_ne (tgt := 13) hx hb dX8_condition_6 (by decide) (fun c_6 => ?_) (fun c_6 => ?_)
  · skip
    have g_6 := (h_3).mp c_6
    refine lv_iload_n hx hb dX8_condition_13 rfl (lv_at hl 2 rfl) ?_
    refine q_iconst hx hb dX8_condition_14 ?_
    refine q_bipush hx hb dX8_condition_15 (by decide) ?_
    refine q_readz (va_runS (As := [.int (qI (p1)), .int (qI (0)), .int (qI (9))]) (rest := [.ref (mo)]) ⟨hx, hb, hml, hown, hg⟩ (c_X8_within l D cy _ _ _ (by omega)) (cs_X8_48 hg rfl rfl ⟨by decide, by decide⟩) ⟨q_blind0, q_preR _ hK hN hP [] rfl⟩ rfl rfl hl.1 rfl (lv_room (Nat.le_of_ble_eq_true rfl)) dX8_condition_17 ⟨by decide, by decide⟩) (fun b_17 h_17 => ?_)
    refine q_ifz_eq (tgt := 27) hx hb dX8_condition_20 (by decide) (fun c_20 => ?_) (fun c_20 => ?_)
    · skip
      have g_20 := mt (h_17).mpr (by rw [c_20]; decide)
      refine q_iconst hx hb dX8_condition_27 ?_
      refine pf_X8_44 hx hb hg hown hK hP hD hS 0 0 rfl rfl rfl rfl (Nat.le_of_ble_eq_true rfl) dX8_condition_28 (fun H locs hP hD hS => ?_)
      have hP : va_P D vwCl [[(mo, .inr (8, [.int (qI (2)), .ref (mz), .int (qI (((hz : Nat) : Int))), .ref (msv), .int (qI (((len : Nat) : Int))), .ref (mtx), .ref (mmo), .int (qI (tu)), .ref (mif), .ref (mmg), .ref (mtn), .ref (mie), .ref (mme), .int (qz (fi)), .int (qI (ro)), .int (qI (sp)), .int (qI (it)), .int (qz (bl)), .ref (mrd), .ref (mas), .long (hh)]))], [(mz, aI cy 115 (z))], [(msv, aI cy 920 (sd))], [(mtx, aI cy 60 (bf))], [(mmo, aI cy 121 (g))], [(mif, aZ cy 16 (isF))], [(mmg, aI cy 16 (mg))], [(mtn, aI cy 16 (tn))], [(mie, aZ cy 4 (isE))], [(mme, aI cy 4 (mE))], [(mrd, aI cy 100 (rd))], [(mas, aI cy 115 (as9))]].flatten H := hP
      have hD : va_D A [[(mo, .inr (8, [.int (qI (2)), .ref (mz), .int (qI (((hz : Nat) : Int))), .ref (msv), .int (qI (((len : Nat) : Int))), .ref (mtx), .ref (mmo), .int (qI (tu)), .ref (mif), .ref (mmg), .ref (mtn), .ref (mie), .ref (mme), .int (qz (fi)), .int (qI (ro)), .int (qI (sp)), .int (qI (it)), .int (qz (bl)), .ref (mrd), .ref (mas), .long (hh)]))], [(mz, aI cy 115 (z))], [(msv, aI cy 920 (sd))], [(mtx, aI cy 60 (bf))], [(mmo, aI cy 121 (g))], [(mif, aZ cy 16 (isF))], [(mmg, aI cy 16 (mg))], [(mtn, aI cy 16 (tn))], [(mie, aZ cy 4 (isE))], [(mme, aI cy 4 (mE))], [(mrd, aI cy 100 (rd))], [(mas, aI cy 115 (as9))]].flatten := hD
      refine lv_aload_n hx hb dX8_condition_31 rfl (lv_at hl 0 rfl) ?_
      refine gf_X8_44 hx hb hg hown hK (fl_blk hP 0 rfl) 0 rfl rfl dX8_condition_32 ?_
      refine q_if_le (tgt := 40) hx hb dX8_condition_35 (by decide) (by omega) (fun c_35 => ?_) (fun c_35 => ?_)
      · skip
        exact absurd c_35 (by decide)
      · skip
        refine q_iconst hx hb dX8_condition_38 ?_
        have hP : va_P D vwCl [(mdB cy mo mz msv mtx mmo mif mmg mtn mie mme mrd mas (2) (hz) (len) (tu) (fi) (ro) (sp) (it) (bl) (hh) (z) (sd) (bf) (g) (isF) (mg) (tn) (isE) (mE) (rd) (as9)).flatten].flatten H := by rw [fl_open]; exact hP
        have hD : va_D A [(mdB cy mo mz msv mtx mmo mif mmg mtn mie mme mrd mas (2) (hz) (len) (tu) (fi) (ro) (sp) (it) (bl) (hh) (z) (sd) (bf) (g) (isF) (mg) (tn) (isE) (mE) (rd) (as9)).flatten].flatten := by rw [fl_open]; exact hD
        exact hQ _ _ _ _ _ ((mdB cy mo mz msv mtx mmo mif mmg mtn mie mme mrd mas (2) (hz) (len) (tu) (fi) (ro) (sp) (it) (bl) (hh) (z) (sd) (bf) (g) (isF) (mg) (tn) (isE) (mE) (rd) (as9)).flatten) ⟨(tu), (fi), (ro), (sp), (it), (bl), (hh), (z), (sd), (bf), (g), (isF), (mg), (tn), (isE), (mE), (rd), (as9), rfl, ⟨hL, hz20, hz101⟩, ⟨hhz, hHZ⟩, hln, hbf, htx⟩ hP hD hS dX8_condition_39
    · skip
      have g_20 := (h_17).mp c_20
      exfalso; omega
  · skip
    have g_6 := mt (h_3).mpr (by rw [c_6]; decide)
    exfalso; omega

set_option maxRecDepth 100000 in
set_option maxHeartbeats 4000000 in
theorem c_X8_edited (l : Launch) (D : va_G) (cy : Nat → ClassId) (mo mz msv mtx mmo mif mmg mtn mie mme mrd mas : Nat) (T : LSt) (hz : Nat) (HZ : Nat → LSt) (len : Nat) (tx : Nat → Int) (th : Int) (W : va_W) (hG : gOk T) (hW : MW cy mo mz msv mtx mmo mif mmg mtn mie mme mrd mas T hz HZ len tx th W) (p0 p1 : Int) (k : Nat) (hk : p0 = (k : Int) ∧ k < lM T) (h1 : 0 ≤ p1 ∧ p1 ≤ 4) (sz : Nat) : qMet l yX8_edited (.code yX8_edited cX8_edited 3 (some .int)) 8 [.ref (mo), .int (qI (p0)), .int (qI (p1))] D cy [W] sz (va_Qi (S := va_W) (fun r u => r = qI (edT T k p1) ∧ MW cy mo mz msv mtx mmo mif mmg mtn mie mme mrd mas T hz HZ len tx 0 u) (qB D cy [W] sz (fun u => [u])) (va_A [W].flatten sz)) := by
  refine q_ofMi (S := va_W) (b1 := fun u => [u]) (post := fun r u => r = qI (edT T k p1) ∧ MW cy mo mz msv mtx mmo mif mmg mtn mie mme mrd mas T hz HZ len tx 0 u) (by decide +kernel) (Nat.le_of_ble_eq_true rfl) ?_
  intro p e s m args below meth c Q A hx hb hml hown hg hQ hK hN hD hA H locs ls hP hS hl
  have hown : s.vm.findClass RX8 = some m.cls := hown
  have hl : lv_has ls 3 [(0, .ref (mo)), (1, .int (qI (p0))), (2, .int (qI (p1)))] := hl
  have hW0 := hW
  obtain ⟨tu, fi, ro, sp, it, bl, hh, z, sd, bf, g, isF, mg, tn, isE, mE, rd, as9, rfl, ⟨hL, hz20, hz101⟩, ⟨hhz, hHZ⟩, hln, hbf, htx⟩ := hW
  obtain ⟨gV, gT, gC, gE, gI, gD⟩ := hG.eq hL
  obtain ⟨nc, hnc⟩ : ∃ nc : Nat, z 20 = (nc : Int) := ⟨(z 20).toNat, by omega⟩
  obtain ⟨ne, hne⟩ : ∃ ne : Nat, z 101 = (ne : Int) := ⟨(z 101).toNat, by omega⟩
  have e20 : (z 20).toNat = nc := by omega
  have e101 : (z 101).toNat = ne := by omega
  have hV : qV z := gV
  have hst : ∀ i, i < 10 → 0 ≤ z (10 + i) ∧ z (10 + i) ≤ 9 := gT
  have hc : nc ≤ 16 := e20 ▸ (gC.1 : (z 20).toNat ≤ 16)
  have hC : qWR (zC z) nc := e20 ▸ (gC.2 : qWR (zC z) (z 20).toNat)
  have he : ne ≤ 4 := e101 ▸ (gE.1 : (z 101).toNat ≤ 4)
  have hE : qWR (zE z) ne := e101 ▸ (gE.2 : qWR (zE z) (z 101).toNat)
  have hD9 : ∀ i j, i < ne → j < ne → zE z 0 i = zE z 0 j → i = j := e101 ▸ (gD : ∀ i j, i < (z 101).toNat → j < (z 101).toNat → zE z 0 i = zE z 0 j → i = j)
  have hL2 : LEq (z, (fun i => z (10 + i)), zC z, nc, zE z, ne) T := by rw [← e20, ← e101]; exact hL
  have en : nc = lN9 T := hL2.2.2.1
  have em : ne = lM T := hL2.2.2.2.2.1
  rw [fl_open] at hP hD
  have hP : va_P D vwCl [[(mo, .inr (8, [.int (qI (th)), .ref (mz), .int (qI (((hz : Nat) : Int))), .ref (msv), .int (qI (((len : Nat) : Int))), .ref (mtx), .ref (mmo), .int (qI (tu)), .ref (mif), .ref (mmg), .ref (mtn), .ref (mie), .ref (mme), .int (qz (fi)), .int (qI (ro)), .int (qI (sp)), .int (qI (it)), .int (qz (bl)), .ref (mrd), .ref (mas), .long (hh)]))], [(mz, aI cy 115 (z))], [(msv, aI cy 920 (sd))], [(mtx, aI cy 60 (bf))], [(mmo, aI cy 121 (g))], [(mif, aZ cy 16 (isF))], [(mmg, aI cy 16 (mg))], [(mtn, aI cy 16 (tn))], [(mie, aZ cy 4 (isE))], [(mme, aI cy 4 (mE))], [(mrd, aI cy 100 (rd))], [(mas, aI cy 115 (as9))]].flatten H := hP
  have hD : va_D A [[(mo, .inr (8, [.int (qI (th)), .ref (mz), .int (qI (((hz : Nat) : Int))), .ref (msv), .int (qI (((len : Nat) : Int))), .ref (mtx), .ref (mmo), .int (qI (tu)), .ref (mif), .ref (mmg), .ref (mtn), .ref (mie), .ref (mme), .int (qz (fi)), .int (qI (ro)), .int (qI (sp)), .int (qI (it)), .int (qz (bl)), .ref (mrd), .ref (mas), .long (hh)]))], [(mz, aI cy 115 (z))], [(msv, aI cy 920 (sd))], [(mtx, aI cy 60 (bf))], [(mmo, aI cy 121 (g))], [(mif, aZ cy 16 (isF))], [(mmg, aI cy 16 (mg))], [(mtn, aI cy 16 (tn))], [(mie, aZ cy 4 (isE))], [(mme, aI cy 4 (mE))], [(mrd, aI cy 100 (rd))], [(mas, aI cy 115 (as9))]].flatten := hD
  refine lv_aload_n hx hb dX8_edited_0 rfl (lv_at hl 0 rfl) ?_
  refine lv_iload_n hx hb dX8_edited_1 rfl (lv_at hl 1 rfl) ?_
  refine q_iconst hx hb dX8_edited_2 ?_
  refine lv_aload_n hx hb dX8_edited_3 rfl (lv_at hl 0 rfl) ?_
  refine gf_X8_7 hx hb hg hown hK (fl_blk hP 0 rfl) 0 rfl rfl dX8_edited_4 ?_
  refine q_bipush hx hb dX8_edited_7 (by decide) ?_
  refine q_iald (j := 101) hx hb hK (fl_blk hP 1 rfl) 0 rfl (by omega) dX8_edited_9 ?_
  refine q_iconst hx hb dX8_edited_10 ?_
  refine q_isub hx hb dX8_edited_11 ?_
  refine q_readz (va_runS (As := [.int (qI (p0)), .int (qI (0)), .int (qI ((z 101) - (1)))]) (rest := [.ref (mo)]) ⟨hx, hb, hml, hown, hg⟩ (c_X8_within l D cy _ _ _ (by omega)) (cs_X8_48 hg rfl rfl ⟨by decide, by decide⟩) ⟨q_blind0, q_preR _ hK hN hP [] rfl⟩ rfl rfl hl.1 rfl (lv_room (Nat.le_of_ble_eq_true rfl)) dX8_edited_12 ⟨by decide, by decide⟩) (fun b_12 h_12 => ?_)
  refine q_ifz_ne (tgt := 22) hx hb dX8_edited_15 (by decide) (fun c_15 => ?_) (fun c_15 => ?_)
  · skip
    have g_15 := (h_12).mp c_15
    refine lv_iload_n hx hb dX8_edited_22 rfl (lv_at hl 2 rfl) ?_
    refine q_iconst hx hb dX8_edited_23 ?_
    refine q_iconst hx hb dX8_edited_24 ?_
    refine q_readz (va_runS (As := [.int (qI (p1)), .int (qI (0)), .int (qI (4))]) (rest := [.ref (mo)]) ⟨hx, hb, hml, hown, hg⟩ (c_X8_within l D cy _ _ _ (by omega)) (cs_X8_48 hg rfl rfl ⟨by decide, by decide⟩) ⟨q_blind0, q_preR _ hK hN hP [] rfl⟩ rfl rfl hl.1 rfl (lv_room (Nat.le_of_ble_eq_true rfl)) dX8_edited_25 ⟨by decide, by decide⟩) (fun b_25 h_25 => ?_)
    refine q_ifz_eq (tgt := 35) hx hb dX8_edited_28 (by decide) (fun c_28 => ?_) (fun c_28 => ?_)
    · skip
      have g_28 := mt (h_25).mpr (by rw [c_28]; decide)
      exfalso; omega
    · skip
      have g_28 := (h_25).mp c_28
      refine q_iconst hx hb dX8_edited_31 ?_
      refine lv_goto (tgt := 36) hx hb dX8_edited_32 (by decide) ?_
      refine pf_X8_44 hx hb hg hown hK hP hD hS 0 0 rfl rfl rfl rfl (Nat.le_of_ble_eq_true rfl) dX8_edited_36 (fun H locs hP hD hS => ?_)
      have hP : va_P D vwCl [[(mo, .inr (8, [.int (qI (0)), .ref (mz), .int (qI (((hz : Nat) : Int))), .ref (msv), .int (qI (((len : Nat) : Int))), .ref (mtx), .ref (mmo), .int (qI (tu)), .ref (mif), .ref (mmg), .ref (mtn), .ref (mie), .ref (mme), .int (qz (fi)), .int (qI (ro)), .int (qI (sp)), .int (qI (it)), .int (qz (bl)), .ref (mrd), .ref (mas), .long (hh)]))], [(mz, aI cy 115 (z))], [(msv, aI cy 920 (sd))], [(mtx, aI cy 60 (bf))], [(mmo, aI cy 121 (g))], [(mif, aZ cy 16 (isF))], [(mmg, aI cy 16 (mg))], [(mtn, aI cy 16 (tn))], [(mie, aZ cy 4 (isE))], [(mme, aI cy 4 (mE))], [(mrd, aI cy 100 (rd))], [(mas, aI cy 115 (as9))]].flatten H := hP
      have hD : va_D A [[(mo, .inr (8, [.int (qI (0)), .ref (mz), .int (qI (((hz : Nat) : Int))), .ref (msv), .int (qI (((len : Nat) : Int))), .ref (mtx), .ref (mmo), .int (qI (tu)), .ref (mif), .ref (mmg), .ref (mtn), .ref (mie), .ref (mme), .int (qz (fi)), .int (qI (ro)), .int (qI (sp)), .int (qI (it)), .int (qz (bl)), .ref (mrd), .ref (mas), .long (hh)]))], [(mz, aI cy 115 (z))], [(msv, aI cy 920 (sd))], [(mtx, aI cy 60 (bf))], [(mmo, aI cy 121 (g))], [(mif, aZ cy 16 (isF))], [(mmg, aI cy 16 (mg))], [(mtn, aI cy 16 (tn))], [(mie, aZ cy 4 (isE))], [(mme, aI cy 4 (mE))], [(mrd, aI cy 100 (rd))], [(mas, aI cy 115 (as9))]].flatten := hD
      refine lv_aload_n hx hb dX8_edited_39 rfl (lv_at hl 0 rfl) ?_
      refine gf_X8_44 hx hb hg hown hK (fl_blk hP 0 rfl) 0 rfl rfl dX8_edited_40 ?_
      refine q_if_le (tgt := 48) hx hb dX8_edited_43 (by decide) (by omega) (fun c_43 => ?_) (fun c_43 => ?_)
      · skip
        refine lv_aload_n hx hb dX8_edited_48 rfl (lv_at hl 0 rfl) ?_
        refine q_iconst hx hb dX8_edited_49 ?_
        refine q_backv [0, 1, 4, 5, 6, 7, 8, 9] [2, 3, 10, 11] (br := [[(msv, aI cy 920 (sd))], [(mtx, aI cy 60 (bf))], [(mrd, aI cy 100 (rd))], [(mas, aI cy 115 (as9))]]) hP hD hS hA (va_runV (As := [.int (qI (-1))]) (rest := []) ⟨hx, hb, hml, hown, hg⟩ (c_X8_fill l D cy mo mz msv mtx mmo mif mmg mtn mie mme mrd mas (0) (((hz : Nat) : Int)) (((len : Nat) : Int)) (tu) (fi) (ro) (sp) (it) (bl) (hh) (z) nc ne (g) (isF) (mg) (tn) (isE) (mE) hnc hne hc he hC hE (-1) (by omega) _) (cv_X8_77 hg rfl rfl ⟨by decide, by decide⟩) ⟨q_blind, va_recv hK (fl_blk hP 0 rfl) (ci := 8) (q0 := 0) rfl rfl, q_preM _ hK hN hP hD [0, 1, 4, 5, 6, 7, 8, 9] (by decide) rfl⟩ rfl rfl hl.1 rfl (lv_room (Nat.le_of_ble_eq_true rfl)) dX8_edited_50 ⟨by decide, by decide⟩) rfl rfl (by decide) (fun u_50 H locs h_50 hP hD hS => ?_)
        have hP : va_P D vwCl [[(msv, aI cy 920 (sd))], [(mtx, aI cy 60 (bf))], [(mrd, aI cy 100 (rd))], [(mas, aI cy 115 (as9))], [(mo, .inr (8, [.int (qI (0)), .ref (mz), .int (qI (((hz : Nat) : Int))), .ref (msv), .int (qI (((len : Nat) : Int))), .ref (mtx), .ref (mmo), .int (qI (u_50.2.1)), .ref (mif), .ref (mmg), .ref (mtn), .ref (mie), .ref (mme), .int (qz (u_50.2.2.2.2.2.2.2.1)), .int (qI (u_50.2.2.2.2.2.2.2.2)), .int (qI (sp)), .int (qI (it)), .int (qz (bl)), .ref (mrd), .ref (mas), .long (hh)]))], [(mz, aI cy 115 (z))], [(mmo, aI cy 121 (u_50.1))], [(mif, aZ cy 16 (u_50.2.2.1))], [(mmg, aI cy 16 (u_50.2.2.2.1))], [(mtn, aI cy 16 (u_50.2.2.2.2.1))], [(mie, aZ cy 4 (u_50.2.2.2.2.2.1))], [(mme, aI cy 4 (u_50.2.2.2.2.2.2.1))]].flatten H := hP
        have hD : va_D A [[(msv, aI cy 920 (sd))], [(mtx, aI cy 60 (bf))], [(mrd, aI cy 100 (rd))], [(mas, aI cy 115 (as9))], [(mo, .inr (8, [.int (qI (0)), .ref (mz), .int (qI (((hz : Nat) : Int))), .ref (msv), .int (qI (((len : Nat) : Int))), .ref (mtx), .ref (mmo), .int (qI (u_50.2.1)), .ref (mif), .ref (mmg), .ref (mtn), .ref (mie), .ref (mme), .int (qz (u_50.2.2.2.2.2.2.2.1)), .int (qI (u_50.2.2.2.2.2.2.2.2)), .int (qI (sp)), .int (qI (it)), .int (qz (bl)), .ref (mrd), .ref (mas), .long (hh)]))], [(mz, aI cy 115 (z))], [(mmo, aI cy 121 (u_50.1))], [(mif, aZ cy 16 (u_50.2.2.1))], [(mmg, aI cy 16 (u_50.2.2.2.1))], [(mtn, aI cy 16 (u_50.2.2.2.2.1))], [(mie, aZ cy 4 (u_50.2.2.2.2.2.1))], [(mme, aI cy 4 (u_50.2.2.2.2.2.2.1))]].flatten := hD
        refine lv_aload_n hx hb dX8_edited_53 rfl (lv_at hl 0 rfl) ?_
        refine lv_iload_n hx hb dX8_edited_54 rfl (lv_at hl 1 rfl) ?_
        refine lv_iload_n hx hb dX8_edited_55 rfl (lv_at hl 2 rfl) ?_
        refine q_readi (va_runV (As := [.int (qI (p0)), .int (qI (p1))]) (rest := []) ⟨hx, hb, hml, hown, hg⟩ (c_X8_editedNow l D cy mo mz msv mtx mmo mif mmg mtn mie mme mrd mas (0) (((hz : Nat) : Int)) (((len : Nat) : Int)) (u_50.2.1) (u_50.2.2.2.2.2.2.2.1) (u_50.2.2.2.2.2.2.2.2) (sp) (it) (bl) (hh) z nc ne (u_50.1) (u_50.2.2.1) (u_50.2.2.2.1) (u_50.2.2.2.2.1) (u_50.2.2.2.2.2.1) (u_50.2.2.2.2.2.2.1) hnc hne hc he hC hE h_50 _ (p1) k (by omega) (by omega)) (cv_X8_185 hg rfl rfl ⟨by decide, by decide⟩) ⟨q_blind0, va_recv hK (fl_blk hP 4 rfl) (ci := 8) (q0 := 0) rfl rfl, q_preR _ hK hN hP [4, 5, 10, 11] rfl⟩ rfl rfl hl.1 rfl (lv_room (Nat.le_of_ble_eq_true rfl)) dX8_edited_56 ⟨by decide, by decide⟩) (fun r_56 h_56 => ?_)
        subst h_56
        have hP := fl_sub (bs' := [[(mo, .inr (8, [.int (qI (0)), .ref (mz), .int (qI (((hz : Nat) : Int))), .ref (msv), .int (qI (((len : Nat) : Int))), .ref (mtx), .ref (mmo), .int (qI (u_50.2.1)), .ref (mif), .ref (mmg), .ref (mtn), .ref (mie), .ref (mme), .int (qz (u_50.2.2.2.2.2.2.2.1)), .int (qI (u_50.2.2.2.2.2.2.2.2)), .int (qI (sp)), .int (qI (it)), .int (qz (bl)), .ref (mrd), .ref (mas), .long (hh)]))], [(mz, aI cy 115 (z))], [(msv, aI cy 920 (sd))], [(mtx, aI cy 60 (bf))], [(mmo, aI cy 121 (u_50.1))], [(mif, aZ cy 16 (u_50.2.2.1))], [(mmg, aI cy 16 (u_50.2.2.2.1))], [(mtn, aI cy 16 (u_50.2.2.2.2.1))], [(mie, aZ cy 4 (u_50.2.2.2.2.2.1))], [(mme, aI cy 4 (u_50.2.2.2.2.2.2.1))], [(mrd, aI cy 100 (rd))], [(mas, aI cy 115 (as9))]]) hP [4, 5, 0, 1, 6, 7, 8, 9, 10, 11, 2, 3] rfl
        have hD := fl_subD (bs' := [[(mo, .inr (8, [.int (qI (0)), .ref (mz), .int (qI (((hz : Nat) : Int))), .ref (msv), .int (qI (((len : Nat) : Int))), .ref (mtx), .ref (mmo), .int (qI (u_50.2.1)), .ref (mif), .ref (mmg), .ref (mtn), .ref (mie), .ref (mme), .int (qz (u_50.2.2.2.2.2.2.2.1)), .int (qI (u_50.2.2.2.2.2.2.2.2)), .int (qI (sp)), .int (qI (it)), .int (qz (bl)), .ref (mrd), .ref (mas), .long (hh)]))], [(mz, aI cy 115 (z))], [(msv, aI cy 920 (sd))], [(mtx, aI cy 60 (bf))], [(mmo, aI cy 121 (u_50.1))], [(mif, aZ cy 16 (u_50.2.2.1))], [(mmg, aI cy 16 (u_50.2.2.2.1))], [(mtn, aI cy 16 (u_50.2.2.2.2.1))], [(mie, aZ cy 4 (u_50.2.2.2.2.2.1))], [(mme, aI cy 4 (u_50.2.2.2.2.2.2.1))], [(mrd, aI cy 100 (rd))], [(mas, aI cy 115 (as9))]]) hD [4, 5, 0, 1, 6, 7, 8, 9, 10, 11, 2, 3] (by decide) rfl
        have hP : va_P D vwCl [(mdB cy mo mz msv mtx mmo mif mmg mtn mie mme mrd mas (0) (hz) (len) (u_50.2.1) (u_50.2.2.2.2.2.2.2.1) (u_50.2.2.2.2.2.2.2.2) (sp) (it) (bl) (hh) (z) (sd) (bf) (u_50.1) (u_50.2.2.1) (u_50.2.2.2.1) (u_50.2.2.2.2.1) (u_50.2.2.2.2.2.1) (u_50.2.2.2.2.2.2.1) (rd) (as9)).flatten].flatten H := by rw [fl_open]; exact hP
        have hD : va_D A [(mdB cy mo mz msv mtx mmo mif mmg mtn mie mme mrd mas (0) (hz) (len) (u_50.2.1) (u_50.2.2.2.2.2.2.2.1) (u_50.2.2.2.2.2.2.2.2) (sp) (it) (bl) (hh) (z) (sd) (bf) (u_50.1) (u_50.2.2.1) (u_50.2.2.2.1) (u_50.2.2.2.2.1) (u_50.2.2.2.2.2.1) (u_50.2.2.2.2.2.2.1) (rd) (as9)).flatten].flatten := by rw [fl_open]; exact hD
        exact hQ _ _ _ _ _ ((mdB cy mo mz msv mtx mmo mif mmg mtn mie mme mrd mas (0) (hz) (len) (u_50.2.1) (u_50.2.2.2.2.2.2.2.1) (u_50.2.2.2.2.2.2.2.2) (sp) (it) (bl) (hh) (z) (sd) (bf) (u_50.1) (u_50.2.2.1) (u_50.2.2.2.1) (u_50.2.2.2.2.1) (u_50.2.2.2.2.2.1) (u_50.2.2.2.2.2.2.1) (rd) (as9)).flatten) ⟨by rw [← edT_eq hL2 (by omega) p1], ⟨(u_50.2.1), (u_50.2.2.2.2.2.2.2.1), (u_50.2.2.2.2.2.2.2.2), (sp), (it), (bl), (hh), (z), (sd), (bf), (u_50.1), (u_50.2.2.1), (u_50.2.2.2.1), (u_50.2.2.2.2.1), (u_50.2.2.2.2.2.1), (u_50.2.2.2.2.2.2.1), (rd), (as9), rfl, ⟨hL, hz20, hz101⟩, ⟨hhz, hHZ⟩, hln, hbf, htx⟩⟩ hP hD hS dX8_edited_59
      · skip
        exact absurd c_43 (by decide)
  · skip
    have g_15 := mt (h_12).mpr (by rw [c_15]; decide)
    exfalso; omega

set_option maxRecDepth 100000 in
set_option maxHeartbeats 4000000 in
theorem c_X8_edited_no1 (l : Launch) (D : va_G) (cy : Nat → ClassId) (mo mz msv mtx mmo mif mmg mtn mie mme mrd mas : Nat) (T : LSt) (hz : Nat) (HZ : Nat → LSt) (len : Nat) (tx : Nat → Int) (th : Int) (W : va_W) (hG : gOk T) (hW : MW cy mo mz msv mtx mmo mif mmg mtn mie mme mrd mas T hz HZ len tx th W) (p0 p1 : Int) (r0 : (-2147483648 ≤ p0 ∧ p0 < 2147483648)) (r1 : (-2147483648 ≤ p1 ∧ p1 < 2147483648)) (hx : ¬ (0 ≤ p0 ∧ p0 < (lM T : Int))) (sz : Nat) : qMet l yX8_edited (.code yX8_edited cX8_edited 3 (some .int)) 8 [.ref (mo), .int (qI (p0)), .int (qI (p1))] D cy [W] sz (va_Qi (S := va_W) (fun r u => MW cy mo mz msv mtx mmo mif mmg mtn mie mme mrd mas T hz HZ len tx 1 u) (qB D cy [W] sz (fun u => [u])) (va_A [W].flatten sz)) := by
  refine q_ofMi (S := va_W) (b1 := fun u => [u]) (post := fun r u => MW cy mo mz msv mtx mmo mif mmg mtn mie mme mrd mas T hz HZ len tx 1 u) (by decide +kernel) (Nat.le_of_ble_eq_true rfl) ?_
  intro p e s m args below meth c Q A hx hb hml hown hg hQ hK hN hD hA H locs ls hP hS hl
  have hown : s.vm.findClass RX8 = some m.cls := hown
  have hl : lv_has ls 3 [(0, .ref (mo)), (1, .int (qI (p0))), (2, .int (qI (p1)))] := hl
  have hW0 := hW
  obtain ⟨tu, fi, ro, sp, it, bl, hh, z, sd, bf, g, isF, mg, tn, isE, mE, rd, as9, rfl, ⟨hL, hz20, hz101⟩, ⟨hhz, hHZ⟩, hln, hbf, htx⟩ := hW
  obtain ⟨gV, gT, gC, gE, gI, gD⟩ := hG.eq hL
  obtain ⟨nc, hnc⟩ : ∃ nc : Nat, z 20 = (nc : Int) := ⟨(z 20).toNat, by omega⟩
  obtain ⟨ne, hne⟩ : ∃ ne : Nat, z 101 = (ne : Int) := ⟨(z 101).toNat, by omega⟩
  have e20 : (z 20).toNat = nc := by omega
  have e101 : (z 101).toNat = ne := by omega
  have hV : qV z := gV
  have hst : ∀ i, i < 10 → 0 ≤ z (10 + i) ∧ z (10 + i) ≤ 9 := gT
  have hc : nc ≤ 16 := e20 ▸ (gC.1 : (z 20).toNat ≤ 16)
  have hC : qWR (zC z) nc := e20 ▸ (gC.2 : qWR (zC z) (z 20).toNat)
  have he : ne ≤ 4 := e101 ▸ (gE.1 : (z 101).toNat ≤ 4)
  have hE : qWR (zE z) ne := e101 ▸ (gE.2 : qWR (zE z) (z 101).toNat)
  have hD9 : ∀ i j, i < ne → j < ne → zE z 0 i = zE z 0 j → i = j := e101 ▸ (gD : ∀ i j, i < (z 101).toNat → j < (z 101).toNat → zE z 0 i = zE z 0 j → i = j)
  have hL2 : LEq (z, (fun i => z (10 + i)), zC z, nc, zE z, ne) T := by rw [← e20, ← e101]; exact hL
  have en : nc = lN9 T := hL2.2.2.1
  have em : ne = lM T := hL2.2.2.2.2.1
  rw [fl_open] at hP hD
  have hP : va_P D vwCl [[(mo, .inr (8, [.int (qI (th)), .ref (mz), .int (qI (((hz : Nat) : Int))), .ref (msv), .int (qI (((len : Nat) : Int))), .ref (mtx), .ref (mmo), .int (qI (tu)), .ref (mif), .ref (mmg), .ref (mtn), .ref (mie), .ref (mme), .int (qz (fi)), .int (qI (ro)), .int (qI (sp)), .int (qI (it)), .int (qz (bl)), .ref (mrd), .ref (mas), .long (hh)]))], [(mz, aI cy 115 (z))], [(msv, aI cy 920 (sd))], [(mtx, aI cy 60 (bf))], [(mmo, aI cy 121 (g))], [(mif, aZ cy 16 (isF))], [(mmg, aI cy 16 (mg))], [(mtn, aI cy 16 (tn))], [(mie, aZ cy 4 (isE))], [(mme, aI cy 4 (mE))], [(mrd, aI cy 100 (rd))], [(mas, aI cy 115 (as9))]].flatten H := hP
  have hD : va_D A [[(mo, .inr (8, [.int (qI (th)), .ref (mz), .int (qI (((hz : Nat) : Int))), .ref (msv), .int (qI (((len : Nat) : Int))), .ref (mtx), .ref (mmo), .int (qI (tu)), .ref (mif), .ref (mmg), .ref (mtn), .ref (mie), .ref (mme), .int (qz (fi)), .int (qI (ro)), .int (qI (sp)), .int (qI (it)), .int (qz (bl)), .ref (mrd), .ref (mas), .long (hh)]))], [(mz, aI cy 115 (z))], [(msv, aI cy 920 (sd))], [(mtx, aI cy 60 (bf))], [(mmo, aI cy 121 (g))], [(mif, aZ cy 16 (isF))], [(mmg, aI cy 16 (mg))], [(mtn, aI cy 16 (tn))], [(mie, aZ cy 4 (isE))], [(mme, aI cy 4 (mE))], [(mrd, aI cy 100 (rd))], [(mas, aI cy 115 (as9))]].flatten := hD
  refine lv_aload_n hx hb dX8_edited_0 rfl (lv_at hl 0 rfl) ?_
  refine lv_iload_n hx hb dX8_edited_1 rfl (lv_at hl 1 rfl) ?_
  refine q_iconst hx hb dX8_edited_2 ?_
  refine lv_aload_n hx hb dX8_edited_3 rfl (lv_at hl 0 rfl) ?_
  refine gf_X8_7 hx hb hg hown hK (fl_blk hP 0 rfl) 0 rfl rfl dX8_edited_4 ?_
  refine q_bipush hx hb dX8_edited_7 (by decide) ?_
  refine q_iald (j := 101) hx hb hK (fl_blk hP 1 rfl) 0 rfl (by omega) dX8_edited_9 ?_
  refine q_iconst hx hb dX8_edited_10 ?_
  refine q_isub hx hb dX8_edited_11 ?_
  refine q_readz (va_runS (As := [.int (qI (p0)), .int (qI (0)), .int (qI ((z 101) - (1)))]) (rest := [.ref (mo)]) ⟨hx, hb, hml, hown, hg⟩ (c_X8_within l D cy _ _ _ (by omega)) (cs_X8_48 hg rfl rfl ⟨by decide, by decide⟩) ⟨q_blind0, q_preR _ hK hN hP [] rfl⟩ rfl rfl hl.1 rfl (lv_room (Nat.le_of_ble_eq_true rfl)) dX8_edited_12 ⟨by decide, by decide⟩) (fun b_12 h_12 => ?_)
  refine q_ifz_ne (tgt := 22) hx hb dX8_edited_15 (by decide) (fun c_15 => ?_) (fun c_15 => ?_)
  · skip
    have g_15 := (h_12).mp c_15
    exfalso; omega
  · skip
    have g_15 := mt (h_12).mpr (by rw [c_15]; decide)
    refine q_iconst hx hb dX8_edited_18 ?_
    refine lv_goto (tgt := 36) hx hb dX8_edited_19 (by decide) ?_
    refine pf_X8_44 hx hb hg hown hK hP hD hS 0 0 rfl rfl rfl rfl (Nat.le_of_ble_eq_true rfl) dX8_edited_36 (fun H locs hP hD hS => ?_)
    have hP : va_P D vwCl [[(mo, .inr (8, [.int (qI (1)), .ref (mz), .int (qI (((hz : Nat) : Int))), .ref (msv), .int (qI (((len : Nat) : Int))), .ref (mtx), .ref (mmo), .int (qI (tu)), .ref (mif), .ref (mmg), .ref (mtn), .ref (mie), .ref (mme), .int (qz (fi)), .int (qI (ro)), .int (qI (sp)), .int (qI (it)), .int (qz (bl)), .ref (mrd), .ref (mas), .long (hh)]))], [(mz, aI cy 115 (z))], [(msv, aI cy 920 (sd))], [(mtx, aI cy 60 (bf))], [(mmo, aI cy 121 (g))], [(mif, aZ cy 16 (isF))], [(mmg, aI cy 16 (mg))], [(mtn, aI cy 16 (tn))], [(mie, aZ cy 4 (isE))], [(mme, aI cy 4 (mE))], [(mrd, aI cy 100 (rd))], [(mas, aI cy 115 (as9))]].flatten H := hP
    have hD : va_D A [[(mo, .inr (8, [.int (qI (1)), .ref (mz), .int (qI (((hz : Nat) : Int))), .ref (msv), .int (qI (((len : Nat) : Int))), .ref (mtx), .ref (mmo), .int (qI (tu)), .ref (mif), .ref (mmg), .ref (mtn), .ref (mie), .ref (mme), .int (qz (fi)), .int (qI (ro)), .int (qI (sp)), .int (qI (it)), .int (qz (bl)), .ref (mrd), .ref (mas), .long (hh)]))], [(mz, aI cy 115 (z))], [(msv, aI cy 920 (sd))], [(mtx, aI cy 60 (bf))], [(mmo, aI cy 121 (g))], [(mif, aZ cy 16 (isF))], [(mmg, aI cy 16 (mg))], [(mtn, aI cy 16 (tn))], [(mie, aZ cy 4 (isE))], [(mme, aI cy 4 (mE))], [(mrd, aI cy 100 (rd))], [(mas, aI cy 115 (as9))]].flatten := hD
    refine lv_aload_n hx hb dX8_edited_39 rfl (lv_at hl 0 rfl) ?_
    refine gf_X8_44 hx hb hg hown hK (fl_blk hP 0 rfl) 0 rfl rfl dX8_edited_40 ?_
    refine q_if_le (tgt := 48) hx hb dX8_edited_43 (by decide) (by omega) (fun c_43 => ?_) (fun c_43 => ?_)
    · skip
      exact absurd c_43 (by decide)
    · skip
      refine q_iconst hx hb dX8_edited_46 ?_
      have hP : va_P D vwCl [(mdB cy mo mz msv mtx mmo mif mmg mtn mie mme mrd mas (1) (hz) (len) (tu) (fi) (ro) (sp) (it) (bl) (hh) (z) (sd) (bf) (g) (isF) (mg) (tn) (isE) (mE) (rd) (as9)).flatten].flatten H := by rw [fl_open]; exact hP
      have hD : va_D A [(mdB cy mo mz msv mtx mmo mif mmg mtn mie mme mrd mas (1) (hz) (len) (tu) (fi) (ro) (sp) (it) (bl) (hh) (z) (sd) (bf) (g) (isF) (mg) (tn) (isE) (mE) (rd) (as9)).flatten].flatten := by rw [fl_open]; exact hD
      exact hQ _ _ _ _ _ ((mdB cy mo mz msv mtx mmo mif mmg mtn mie mme mrd mas (1) (hz) (len) (tu) (fi) (ro) (sp) (it) (bl) (hh) (z) (sd) (bf) (g) (isF) (mg) (tn) (isE) (mE) (rd) (as9)).flatten) ⟨(tu), (fi), (ro), (sp), (it), (bl), (hh), (z), (sd), (bf), (g), (isF), (mg), (tn), (isE), (mE), (rd), (as9), rfl, ⟨hL, hz20, hz101⟩, ⟨hhz, hHZ⟩, hln, hbf, htx⟩ hP hD hS dX8_edited_47

set_option maxRecDepth 100000 in
set_option maxHeartbeats 4000000 in
theorem c_X8_edited_no2 (l : Launch) (D : va_G) (cy : Nat → ClassId) (mo mz msv mtx mmo mif mmg mtn mie mme mrd mas : Nat) (T : LSt) (hz : Nat) (HZ : Nat → LSt) (len : Nat) (tx : Nat → Int) (th : Int) (W : va_W) (hG : gOk T) (hW : MW cy mo mz msv mtx mmo mif mmg mtn mie mme mrd mas T hz HZ len tx th W) (p0 p1 : Int) (r0 : (-2147483648 ≤ p0 ∧ p0 < 2147483648)) (r1 : (-2147483648 ≤ p1 ∧ p1 < 2147483648)) (hx : 0 ≤ p0 ∧ p0 < (lM T : Int)) (hy : ¬ (0 ≤ p1 ∧ p1 ≤ 4)) (sz : Nat) : qMet l yX8_edited (.code yX8_edited cX8_edited 3 (some .int)) 8 [.ref (mo), .int (qI (p0)), .int (qI (p1))] D cy [W] sz (va_Qi (S := va_W) (fun r u => MW cy mo mz msv mtx mmo mif mmg mtn mie mme mrd mas T hz HZ len tx 2 u) (qB D cy [W] sz (fun u => [u])) (va_A [W].flatten sz)) := by
  refine q_ofMi (S := va_W) (b1 := fun u => [u]) (post := fun r u => MW cy mo mz msv mtx mmo mif mmg mtn mie mme mrd mas T hz HZ len tx 2 u) (by decide +kernel) (Nat.le_of_ble_eq_true rfl) ?_
  intro p e s m args below meth c Q A hx hb hml hown hg hQ hK hN hD hA H locs ls hP hS hl
  have hown : s.vm.findClass RX8 = some m.cls := hown
  have hl : lv_has ls 3 [(0, .ref (mo)), (1, .int (qI (p0))), (2, .int (qI (p1)))] := hl
  have hW0 := hW
  obtain ⟨tu, fi, ro, sp, it, bl, hh, z, sd, bf, g, isF, mg, tn, isE, mE, rd, as9, rfl, ⟨hL, hz20, hz101⟩, ⟨hhz, hHZ⟩, hln, hbf, htx⟩ := hW
  obtain ⟨gV, gT, gC, gE, gI, gD⟩ := hG.eq hL
  obtain ⟨nc, hnc⟩ : ∃ nc : Nat, z 20 = (nc : Int) := ⟨(z 20).toNat, by omega⟩
  obtain ⟨ne, hne⟩ : ∃ ne : Nat, z 101 = (ne : Int) := ⟨(z 101).toNat, by omega⟩
  have e20 : (z 20).toNat = nc := by omega
  have e101 : (z 101).toNat = ne := by omega
  have hV : qV z := gV
  have hst : ∀ i, i < 10 → 0 ≤ z (10 + i) ∧ z (10 + i) ≤ 9 := gT
  have hc : nc ≤ 16 := e20 ▸ (gC.1 : (z 20).toNat ≤ 16)
  have hC : qWR (zC z) nc := e20 ▸ (gC.2 : qWR (zC z) (z 20).toNat)
  have he : ne ≤ 4 := e101 ▸ (gE.1 : (z 101).toNat ≤ 4)
  have hE : qWR (zE z) ne := e101 ▸ (gE.2 : qWR (zE z) (z 101).toNat)
  have hD9 : ∀ i j, i < ne → j < ne → zE z 0 i = zE z 0 j → i = j := e101 ▸ (gD : ∀ i j, i < (z 101).toNat → j < (z 101).toNat → zE z 0 i = zE z 0 j → i = j)
  have hL2 : LEq (z, (fun i => z (10 + i)), zC z, nc, zE z, ne) T := by rw [← e20, ← e101]; exact hL
  have en : nc = lN9 T := hL2.2.2.1
  have em : ne = lM T := hL2.2.2.2.2.1
  rw [fl_open] at hP hD
  have hP : va_P D vwCl [[(mo, .inr (8, [.int (qI (th)), .ref (mz), .int (qI (((hz : Nat) : Int))), .ref (msv), .int (qI (((len : Nat) : Int))), .ref (mtx), .ref (mmo), .int (qI (tu)), .ref (mif), .ref (mmg), .ref (mtn), .ref (mie), .ref (mme), .int (qz (fi)), .int (qI (ro)), .int (qI (sp)), .int (qI (it)), .int (qz (bl)), .ref (mrd), .ref (mas), .long (hh)]))], [(mz, aI cy 115 (z))], [(msv, aI cy 920 (sd))], [(mtx, aI cy 60 (bf))], [(mmo, aI cy 121 (g))], [(mif, aZ cy 16 (isF))], [(mmg, aI cy 16 (mg))], [(mtn, aI cy 16 (tn))], [(mie, aZ cy 4 (isE))], [(mme, aI cy 4 (mE))], [(mrd, aI cy 100 (rd))], [(mas, aI cy 115 (as9))]].flatten H := hP
  have hD : va_D A [[(mo, .inr (8, [.int (qI (th)), .ref (mz), .int (qI (((hz : Nat) : Int))), .ref (msv), .int (qI (((len : Nat) : Int))), .ref (mtx), .ref (mmo), .int (qI (tu)), .ref (mif), .ref (mmg), .ref (mtn), .ref (mie), .ref (mme), .int (qz (fi)), .int (qI (ro)), .int (qI (sp)), .int (qI (it)), .int (qz (bl)), .ref (mrd), .ref (mas), .long (hh)]))], [(mz, aI cy 115 (z))], [(msv, aI cy 920 (sd))], [(mtx, aI cy 60 (bf))], [(mmo, aI cy 121 (g))], [(mif, aZ cy 16 (isF))], [(mmg, aI cy 16 (mg))], [(mtn, aI cy 16 (tn))], [(mie, aZ cy 4 (isE))], [(mme, aI cy 4 (mE))], [(mrd, aI cy 100 (rd))], [(mas, aI cy 115 (as9))]].flatten := hD
  refine lv_aload_n hx hb dX8_edited_0 rfl (lv_at hl 0 rfl) ?_
  refine lv_iload_n hx hb dX8_edited_1 rfl (lv_at hl 1 rfl) ?_
  refine q_iconst hx hb dX8_edited_2 ?_
  refine lv_aload_n hx hb dX8_edited_3 rfl (lv_at hl 0 rfl) ?_
  refine gf_X8_7 hx hb hg hown hK (fl_blk hP 0 rfl) 0 rfl rfl dX8_edited_4 ?_
  refine q_bipush hx hb dX8_edited_7 (by decide) ?_
  refine q_iald (j := 101) hx hb hK (fl_blk hP 1 rfl) 0 rfl (by omega) dX8_edited_9 ?_
  refine q_iconst hx hb dX8_edited_10 ?_
  refine q_isub hx hb dX8_edited_11 ?_
  refine q_readz (va_runS (As := [.int (qI (p0)), .int (qI (0)), .int (qI ((z 101) - (1)))]) (rest := [.ref (mo)]) ⟨hx, hb, hml, hown, hg⟩ (c_X8_within l D cy _ _ _ (by omega)) (cs_X8_48 hg rfl rfl ⟨by decide, by decide⟩) ⟨q_blind0, q_preR _ hK hN hP [] rfl⟩ rfl rfl hl.1 rfl (lv_room (Nat.le_of_ble_eq_true rfl)) dX8_edited_12 ⟨by decide, by decide⟩) (fun b_12 h_12 => ?_)
  refine q_ifz_ne (tgt := 22) hx hb dX8_edited_15 (by decide) (fun c_15 => ?_) (fun c_15 => ?_)
  · skip
    have g_15 := (h_12).mp c_15
    refine lv_iload_n hx hb dX8_edited_22 rfl (lv_at hl 2 rfl) ?_
    refine q_iconst hx hb dX8_edited_23 ?_
    refine q_iconst hx hb dX8_edited_24 ?_
    refine q_readz (va_runS (As := [.int (qI (p1)), .int (qI (0)), .int (qI (4))]) (rest := [.ref (mo)]) ⟨hx, hb, hml, hown, hg⟩ (c_X8_within l D cy _ _ _ (by omega)) (cs_X8_48 hg rfl rfl ⟨by decide, by decide⟩) ⟨q_blind0, q_preR _ hK hN hP [] rfl⟩ rfl rfl hl.1 rfl (lv_room (Nat.le_of_ble_eq_true rfl)) dX8_edited_25 ⟨by decide, by decide⟩) (fun b_25 h_25 => ?_)
    refine q_ifz_eq (tgt := 35) hx hb dX8_edited_28 (by decide) (fun c_28 => ?_) (fun c_28 => ?_)
    · skip
      have g_28 := mt (h_25).mpr (by rw [c_28]; decide)
      refine q_iconst hx hb dX8_edited_35 ?_
      refine pf_X8_44 hx hb hg hown hK hP hD hS 0 0 rfl rfl rfl rfl (Nat.le_of_ble_eq_true rfl) dX8_edited_36 (fun H locs hP hD hS => ?_)
      have hP : va_P D vwCl [[(mo, .inr (8, [.int (qI (2)), .ref (mz), .int (qI (((hz : Nat) : Int))), .ref (msv), .int (qI (((len : Nat) : Int))), .ref (mtx), .ref (mmo), .int (qI (tu)), .ref (mif), .ref (mmg), .ref (mtn), .ref (mie), .ref (mme), .int (qz (fi)), .int (qI (ro)), .int (qI (sp)), .int (qI (it)), .int (qz (bl)), .ref (mrd), .ref (mas), .long (hh)]))], [(mz, aI cy 115 (z))], [(msv, aI cy 920 (sd))], [(mtx, aI cy 60 (bf))], [(mmo, aI cy 121 (g))], [(mif, aZ cy 16 (isF))], [(mmg, aI cy 16 (mg))], [(mtn, aI cy 16 (tn))], [(mie, aZ cy 4 (isE))], [(mme, aI cy 4 (mE))], [(mrd, aI cy 100 (rd))], [(mas, aI cy 115 (as9))]].flatten H := hP
      have hD : va_D A [[(mo, .inr (8, [.int (qI (2)), .ref (mz), .int (qI (((hz : Nat) : Int))), .ref (msv), .int (qI (((len : Nat) : Int))), .ref (mtx), .ref (mmo), .int (qI (tu)), .ref (mif), .ref (mmg), .ref (mtn), .ref (mie), .ref (mme), .int (qz (fi)), .int (qI (ro)), .int (qI (sp)), .int (qI (it)), .int (qz (bl)), .ref (mrd), .ref (mas), .long (hh)]))], [(mz, aI cy 115 (z))], [(msv, aI cy 920 (sd))], [(mtx, aI cy 60 (bf))], [(mmo, aI cy 121 (g))], [(mif, aZ cy 16 (isF))], [(mmg, aI cy 16 (mg))], [(mtn, aI cy 16 (tn))], [(mie, aZ cy 4 (isE))], [(mme, aI cy 4 (mE))], [(mrd, aI cy 100 (rd))], [(mas, aI cy 115 (as9))]].flatten := hD
      refine lv_aload_n hx hb dX8_edited_39 rfl (lv_at hl 0 rfl) ?_
      refine gf_X8_44 hx hb hg hown hK (fl_blk hP 0 rfl) 0 rfl rfl dX8_edited_40 ?_
      refine q_if_le (tgt := 48) hx hb dX8_edited_43 (by decide) (by omega) (fun c_43 => ?_) (fun c_43 => ?_)
      · skip
        exact absurd c_43 (by decide)
      · skip
        refine q_iconst hx hb dX8_edited_46 ?_
        have hP : va_P D vwCl [(mdB cy mo mz msv mtx mmo mif mmg mtn mie mme mrd mas (2) (hz) (len) (tu) (fi) (ro) (sp) (it) (bl) (hh) (z) (sd) (bf) (g) (isF) (mg) (tn) (isE) (mE) (rd) (as9)).flatten].flatten H := by rw [fl_open]; exact hP
        have hD : va_D A [(mdB cy mo mz msv mtx mmo mif mmg mtn mie mme mrd mas (2) (hz) (len) (tu) (fi) (ro) (sp) (it) (bl) (hh) (z) (sd) (bf) (g) (isF) (mg) (tn) (isE) (mE) (rd) (as9)).flatten].flatten := by rw [fl_open]; exact hD
        exact hQ _ _ _ _ _ ((mdB cy mo mz msv mtx mmo mif mmg mtn mie mme mrd mas (2) (hz) (len) (tu) (fi) (ro) (sp) (it) (bl) (hh) (z) (sd) (bf) (g) (isF) (mg) (tn) (isE) (mE) (rd) (as9)).flatten) ⟨(tu), (fi), (ro), (sp), (it), (bl), (hh), (z), (sd), (bf), (g), (isF), (mg), (tn), (isE), (mE), (rd), (as9), rfl, ⟨hL, hz20, hz101⟩, ⟨hhz, hHZ⟩, hln, hbf, htx⟩ hP hD hS dX8_edited_47
    · skip
      have g_28 := (h_25).mp c_28
      exfalso; omega
  · skip
    have g_15 := mt (h_12).mpr (by rw [c_15]; decide)
    exfalso; omega

set_option maxRecDepth 100000 in
set_option maxHeartbeats 4000000 in
theorem c_X8_widest (l : Launch) (D : va_G) (cy : Nat → ClassId) (mo mz msv mtx mmo mif mmg mtn mie mme mrd mas : Nat) (T : LSt) (hz : Nat) (HZ : Nat → LSt) (len : Nat) (tx : Nat → Int) (th : Int) (W : va_W) (hG : gOk T) (hW : MW cy mo mz msv mtx mmo mif mmg mtn mie mme mrd mas T hz HZ len tx th W) (p0 p1 : Int) (k j : Nat) (hk : p0 = (k : Int) ∧ k < 10) (hj : p1 = (j : Int) ∧ j < 10) (sz : Nat) : qMet l yX8_widest (.code yX8_widest cX8_widest 3 (some .int)) 8 [.ref (mo), .int (qI (p0)), .int (qI (p1))] D cy [W] sz (va_Qi (S := va_W) (fun r u => r = qI (fM (filS T (-1)) k j) ∧ MW cy mo mz msv mtx mmo mif mmg mtn mie mme mrd mas T hz HZ len tx 0 u) (qB D cy [W] sz (fun u => [u])) (va_A [W].flatten sz)) := by
  refine q_ofMi (S := va_W) (b1 := fun u => [u]) (post := fun r u => r = qI (fM (filS T (-1)) k j) ∧ MW cy mo mz msv mtx mmo mif mmg mtn mie mme mrd mas T hz HZ len tx 0 u) (by decide +kernel) (Nat.le_of_ble_eq_true rfl) ?_
  intro p e s m args below meth c Q A hx hb hml hown hg hQ hK hN hD hA H locs ls hP hS hl
  have hown : s.vm.findClass RX8 = some m.cls := hown
  have hl : lv_has ls 3 [(0, .ref (mo)), (1, .int (qI (p0))), (2, .int (qI (p1)))] := hl
  have hW0 := hW
  obtain ⟨tu, fi, ro, sp, it, bl, hh, z, sd, bf, g, isF, mg, tn, isE, mE, rd, as9, rfl, ⟨hL, hz20, hz101⟩, ⟨hhz, hHZ⟩, hln, hbf, htx⟩ := hW
  obtain ⟨gV, gT, gC, gE, gI, gD⟩ := hG.eq hL
  obtain ⟨nc, hnc⟩ : ∃ nc : Nat, z 20 = (nc : Int) := ⟨(z 20).toNat, by omega⟩
  obtain ⟨ne, hne⟩ : ∃ ne : Nat, z 101 = (ne : Int) := ⟨(z 101).toNat, by omega⟩
  have e20 : (z 20).toNat = nc := by omega
  have e101 : (z 101).toNat = ne := by omega
  have hV : qV z := gV
  have hst : ∀ i, i < 10 → 0 ≤ z (10 + i) ∧ z (10 + i) ≤ 9 := gT
  have hc : nc ≤ 16 := e20 ▸ (gC.1 : (z 20).toNat ≤ 16)
  have hC : qWR (zC z) nc := e20 ▸ (gC.2 : qWR (zC z) (z 20).toNat)
  have he : ne ≤ 4 := e101 ▸ (gE.1 : (z 101).toNat ≤ 4)
  have hE : qWR (zE z) ne := e101 ▸ (gE.2 : qWR (zE z) (z 101).toNat)
  have hD9 : ∀ i j, i < ne → j < ne → zE z 0 i = zE z 0 j → i = j := e101 ▸ (gD : ∀ i j, i < (z 101).toNat → j < (z 101).toNat → zE z 0 i = zE z 0 j → i = j)
  have hL2 : LEq (z, (fun i => z (10 + i)), zC z, nc, zE z, ne) T := by rw [← e20, ← e101]; exact hL
  have en : nc = lN9 T := hL2.2.2.1
  have em : ne = lM T := hL2.2.2.2.2.1
  rw [fl_open] at hP hD
  have hP : va_P D vwCl [[(mo, .inr (8, [.int (qI (th)), .ref (mz), .int (qI (((hz : Nat) : Int))), .ref (msv), .int (qI (((len : Nat) : Int))), .ref (mtx), .ref (mmo), .int (qI (tu)), .ref (mif), .ref (mmg), .ref (mtn), .ref (mie), .ref (mme), .int (qz (fi)), .int (qI (ro)), .int (qI (sp)), .int (qI (it)), .int (qz (bl)), .ref (mrd), .ref (mas), .long (hh)]))], [(mz, aI cy 115 (z))], [(msv, aI cy 920 (sd))], [(mtx, aI cy 60 (bf))], [(mmo, aI cy 121 (g))], [(mif, aZ cy 16 (isF))], [(mmg, aI cy 16 (mg))], [(mtn, aI cy 16 (tn))], [(mie, aZ cy 4 (isE))], [(mme, aI cy 4 (mE))], [(mrd, aI cy 100 (rd))], [(mas, aI cy 115 (as9))]].flatten H := hP
  have hD : va_D A [[(mo, .inr (8, [.int (qI (th)), .ref (mz), .int (qI (((hz : Nat) : Int))), .ref (msv), .int (qI (((len : Nat) : Int))), .ref (mtx), .ref (mmo), .int (qI (tu)), .ref (mif), .ref (mmg), .ref (mtn), .ref (mie), .ref (mme), .int (qz (fi)), .int (qI (ro)), .int (qI (sp)), .int (qI (it)), .int (qz (bl)), .ref (mrd), .ref (mas), .long (hh)]))], [(mz, aI cy 115 (z))], [(msv, aI cy 920 (sd))], [(mtx, aI cy 60 (bf))], [(mmo, aI cy 121 (g))], [(mif, aZ cy 16 (isF))], [(mmg, aI cy 16 (mg))], [(mtn, aI cy 16 (tn))], [(mie, aZ cy 4 (isE))], [(mme, aI cy 4 (mE))], [(mrd, aI cy 100 (rd))], [(mas, aI cy 115 (as9))]].flatten := hD
  refine lv_aload_n hx hb dX8_widest_0 rfl (lv_at hl 0 rfl) ?_
  refine lv_iload_n hx hb dX8_widest_1 rfl (lv_at hl 1 rfl) ?_
  refine q_readz (va_runS (As := [.int (qI (p0))]) (rest := [.ref (mo)]) ⟨hx, hb, hml, hown, hg⟩ (c_X8_isPlace l D cy _ (by omega)) (cs_X8_94 hg rfl rfl ⟨by decide, by decide⟩) ⟨q_blind0, q_preR _ hK hN hP [] rfl⟩ rfl rfl hl.1 rfl (lv_room (Nat.le_of_ble_eq_true rfl)) dX8_widest_2 ⟨by decide, by decide⟩) (fun b_2 h_2 => ?_)
  refine q_ifz_eq (tgt := 19) hx hb dX8_widest_5 (by decide) (fun c_5 => ?_) (fun c_5 => ?_)
  · skip
    have g_5 := mt (h_2).mpr (by rw [c_5]; decide)
    exfalso; omega
  · skip
    have g_5 := (h_2).mp c_5
    refine lv_iload_n hx hb dX8_widest_8 rfl (lv_at hl 2 rfl) ?_
    refine q_readz (va_runS (As := [.int (qI (p1))]) (rest := [.ref (mo)]) ⟨hx, hb, hml, hown, hg⟩ (c_X8_isPlace l D cy _ (by omega)) (cs_X8_94 hg rfl rfl ⟨by decide, by decide⟩) ⟨q_blind0, q_preR _ hK hN hP [] rfl⟩ rfl rfl hl.1 rfl (lv_room (Nat.le_of_ble_eq_true rfl)) dX8_widest_9 ⟨by decide, by decide⟩) (fun b_9 h_9 => ?_)
    refine q_ifz_eq (tgt := 19) hx hb dX8_widest_12 (by decide) (fun c_12 => ?_) (fun c_12 => ?_)
    · skip
      have g_12 := mt (h_9).mpr (by rw [c_12]; decide)
      exfalso; omega
    · skip
      have g_12 := (h_9).mp c_12
      refine q_iconst hx hb dX8_widest_15 ?_
      refine lv_goto (tgt := 20) hx hb dX8_widest_16 (by decide) ?_
      refine pf_X8_44 hx hb hg hown hK hP hD hS 0 0 rfl rfl rfl rfl (Nat.le_of_ble_eq_true rfl) dX8_widest_20 (fun H locs hP hD hS => ?_)
      have hP : va_P D vwCl [[(mo, .inr (8, [.int (qI (0)), .ref (mz), .int (qI (((hz : Nat) : Int))), .ref (msv), .int (qI (((len : Nat) : Int))), .ref (mtx), .ref (mmo), .int (qI (tu)), .ref (mif), .ref (mmg), .ref (mtn), .ref (mie), .ref (mme), .int (qz (fi)), .int (qI (ro)), .int (qI (sp)), .int (qI (it)), .int (qz (bl)), .ref (mrd), .ref (mas), .long (hh)]))], [(mz, aI cy 115 (z))], [(msv, aI cy 920 (sd))], [(mtx, aI cy 60 (bf))], [(mmo, aI cy 121 (g))], [(mif, aZ cy 16 (isF))], [(mmg, aI cy 16 (mg))], [(mtn, aI cy 16 (tn))], [(mie, aZ cy 4 (isE))], [(mme, aI cy 4 (mE))], [(mrd, aI cy 100 (rd))], [(mas, aI cy 115 (as9))]].flatten H := hP
      have hD : va_D A [[(mo, .inr (8, [.int (qI (0)), .ref (mz), .int (qI (((hz : Nat) : Int))), .ref (msv), .int (qI (((len : Nat) : Int))), .ref (mtx), .ref (mmo), .int (qI (tu)), .ref (mif), .ref (mmg), .ref (mtn), .ref (mie), .ref (mme), .int (qz (fi)), .int (qI (ro)), .int (qI (sp)), .int (qI (it)), .int (qz (bl)), .ref (mrd), .ref (mas), .long (hh)]))], [(mz, aI cy 115 (z))], [(msv, aI cy 920 (sd))], [(mtx, aI cy 60 (bf))], [(mmo, aI cy 121 (g))], [(mif, aZ cy 16 (isF))], [(mmg, aI cy 16 (mg))], [(mtn, aI cy 16 (tn))], [(mie, aZ cy 4 (isE))], [(mme, aI cy 4 (mE))], [(mrd, aI cy 100 (rd))], [(mas, aI cy 115 (as9))]].flatten := hD
      refine lv_aload_n hx hb dX8_widest_23 rfl (lv_at hl 0 rfl) ?_
      refine gf_X8_44 hx hb hg hown hK (fl_blk hP 0 rfl) 0 rfl rfl dX8_widest_24 ?_
      refine q_if_le (tgt := 32) hx hb dX8_widest_27 (by decide) (by omega) (fun c_27 => ?_) (fun c_27 => ?_)
      · skip
        refine lv_aload_n hx hb dX8_widest_32 rfl (lv_at hl 0 rfl) ?_
        refine q_iconst hx hb dX8_widest_33 ?_
        refine q_backv [0, 1, 4, 5, 6, 7, 8, 9] [2, 3, 10, 11] (br := [[(msv, aI cy 920 (sd))], [(mtx, aI cy 60 (bf))], [(mrd, aI cy 100 (rd))], [(mas, aI cy 115 (as9))]]) hP hD hS hA (va_runV (As := [.int (qI (-1))]) (rest := []) ⟨hx, hb, hml, hown, hg⟩ (c_X8_fill l D cy mo mz msv mtx mmo mif mmg mtn mie mme mrd mas (0) (((hz : Nat) : Int)) (((len : Nat) : Int)) (tu) (fi) (ro) (sp) (it) (bl) (hh) (z) nc ne (g) (isF) (mg) (tn) (isE) (mE) hnc hne hc he hC hE (-1) (by omega) _) (cv_X8_77 hg rfl rfl ⟨by decide, by decide⟩) ⟨q_blind, va_recv hK (fl_blk hP 0 rfl) (ci := 8) (q0 := 0) rfl rfl, q_preM _ hK hN hP hD [0, 1, 4, 5, 6, 7, 8, 9] (by decide) rfl⟩ rfl rfl hl.1 rfl (lv_room (Nat.le_of_ble_eq_true rfl)) dX8_widest_34 ⟨by decide, by decide⟩) rfl rfl (by decide) (fun u_34 H locs h_34 hP hD hS => ?_)
        have hP : va_P D vwCl [[(msv, aI cy 920 (sd))], [(mtx, aI cy 60 (bf))], [(mrd, aI cy 100 (rd))], [(mas, aI cy 115 (as9))], [(mo, .inr (8, [.int (qI (0)), .ref (mz), .int (qI (((hz : Nat) : Int))), .ref (msv), .int (qI (((len : Nat) : Int))), .ref (mtx), .ref (mmo), .int (qI (u_34.2.1)), .ref (mif), .ref (mmg), .ref (mtn), .ref (mie), .ref (mme), .int (qz (u_34.2.2.2.2.2.2.2.1)), .int (qI (u_34.2.2.2.2.2.2.2.2)), .int (qI (sp)), .int (qI (it)), .int (qz (bl)), .ref (mrd), .ref (mas), .long (hh)]))], [(mz, aI cy 115 (z))], [(mmo, aI cy 121 (u_34.1))], [(mif, aZ cy 16 (u_34.2.2.1))], [(mmg, aI cy 16 (u_34.2.2.2.1))], [(mtn, aI cy 16 (u_34.2.2.2.2.1))], [(mie, aZ cy 4 (u_34.2.2.2.2.2.1))], [(mme, aI cy 4 (u_34.2.2.2.2.2.2.1))]].flatten H := hP
        have hD : va_D A [[(msv, aI cy 920 (sd))], [(mtx, aI cy 60 (bf))], [(mrd, aI cy 100 (rd))], [(mas, aI cy 115 (as9))], [(mo, .inr (8, [.int (qI (0)), .ref (mz), .int (qI (((hz : Nat) : Int))), .ref (msv), .int (qI (((len : Nat) : Int))), .ref (mtx), .ref (mmo), .int (qI (u_34.2.1)), .ref (mif), .ref (mmg), .ref (mtn), .ref (mie), .ref (mme), .int (qz (u_34.2.2.2.2.2.2.2.1)), .int (qI (u_34.2.2.2.2.2.2.2.2)), .int (qI (sp)), .int (qI (it)), .int (qz (bl)), .ref (mrd), .ref (mas), .long (hh)]))], [(mz, aI cy 115 (z))], [(mmo, aI cy 121 (u_34.1))], [(mif, aZ cy 16 (u_34.2.2.1))], [(mmg, aI cy 16 (u_34.2.2.2.1))], [(mtn, aI cy 16 (u_34.2.2.2.2.1))], [(mie, aZ cy 4 (u_34.2.2.2.2.2.1))], [(mme, aI cy 4 (u_34.2.2.2.2.2.2.1))]].flatten := hD
        refine lv_aload_n hx hb dX8_widest_37 rfl (lv_at hl 0 rfl) ?_
        refine gf_X8_19 hx hb hg hown hK (fl_blk hP 4 rfl) 0 rfl rfl dX8_widest_38 ?_
        refine q_bipush hx hb dX8_widest_41 (by decide) ?_
        refine lv_iload_n hx hb dX8_widest_43 rfl (lv_at hl 1 rfl) ?_
        refine q_imul hx hb dX8_widest_44 ?_
        refine lv_iload_n hx hb dX8_widest_45 rfl (lv_at hl 2 rfl) ?_
        refine q_iadd hx hb dX8_widest_46 ?_
        refine q_iald (j := ((11 * k) + j)) hx hb hK (fl_blk hP 6 rfl) 0 rfl (by omega) dX8_widest_47 ?_
        have hP := fl_sub (bs' := [[(mo, .inr (8, [.int (qI (0)), .ref (mz), .int (qI (((hz : Nat) : Int))), .ref (msv), .int (qI (((len : Nat) : Int))), .ref (mtx), .ref (mmo), .int (qI (u_34.2.1)), .ref (mif), .ref (mmg), .ref (mtn), .ref (mie), .ref (mme), .int (qz (u_34.2.2.2.2.2.2.2.1)), .int (qI (u_34.2.2.2.2.2.2.2.2)), .int (qI (sp)), .int (qI (it)), .int (qz (bl)), .ref (mrd), .ref (mas), .long (hh)]))], [(mz, aI cy 115 (z))], [(msv, aI cy 920 (sd))], [(mtx, aI cy 60 (bf))], [(mmo, aI cy 121 (u_34.1))], [(mif, aZ cy 16 (u_34.2.2.1))], [(mmg, aI cy 16 (u_34.2.2.2.1))], [(mtn, aI cy 16 (u_34.2.2.2.2.1))], [(mie, aZ cy 4 (u_34.2.2.2.2.2.1))], [(mme, aI cy 4 (u_34.2.2.2.2.2.2.1))], [(mrd, aI cy 100 (rd))], [(mas, aI cy 115 (as9))]]) hP [4, 5, 0, 1, 6, 7, 8, 9, 10, 11, 2, 3] rfl
        have hD := fl_subD (bs' := [[(mo, .inr (8, [.int (qI (0)), .ref (mz), .int (qI (((hz : Nat) : Int))), .ref (msv), .int (qI (((len : Nat) : Int))), .ref (mtx), .ref (mmo), .int (qI (u_34.2.1)), .ref (mif), .ref (mmg), .ref (mtn), .ref (mie), .ref (mme), .int (qz (u_34.2.2.2.2.2.2.2.1)), .int (qI (u_34.2.2.2.2.2.2.2.2)), .int (qI (sp)), .int (qI (it)), .int (qz (bl)), .ref (mrd), .ref (mas), .long (hh)]))], [(mz, aI cy 115 (z))], [(msv, aI cy 920 (sd))], [(mtx, aI cy 60 (bf))], [(mmo, aI cy 121 (u_34.1))], [(mif, aZ cy 16 (u_34.2.2.1))], [(mmg, aI cy 16 (u_34.2.2.2.1))], [(mtn, aI cy 16 (u_34.2.2.2.2.1))], [(mie, aZ cy 4 (u_34.2.2.2.2.2.1))], [(mme, aI cy 4 (u_34.2.2.2.2.2.2.1))], [(mrd, aI cy 100 (rd))], [(mas, aI cy 115 (as9))]]) hD [4, 5, 0, 1, 6, 7, 8, 9, 10, 11, 2, 3] (by decide) rfl
        have hP : va_P D vwCl [(mdB cy mo mz msv mtx mmo mif mmg mtn mie mme mrd mas (0) (hz) (len) (u_34.2.1) (u_34.2.2.2.2.2.2.2.1) (u_34.2.2.2.2.2.2.2.2) (sp) (it) (bl) (hh) (z) (sd) (bf) (u_34.1) (u_34.2.2.1) (u_34.2.2.2.1) (u_34.2.2.2.2.1) (u_34.2.2.2.2.2.1) (u_34.2.2.2.2.2.2.1) (rd) (as9)).flatten].flatten H := by rw [fl_open]; exact hP
        have hD : va_D A [(mdB cy mo mz msv mtx mmo mif mmg mtn mie mme mrd mas (0) (hz) (len) (u_34.2.1) (u_34.2.2.2.2.2.2.2.1) (u_34.2.2.2.2.2.2.2.2) (sp) (it) (bl) (hh) (z) (sd) (bf) (u_34.1) (u_34.2.2.1) (u_34.2.2.2.1) (u_34.2.2.2.2.1) (u_34.2.2.2.2.2.1) (u_34.2.2.2.2.2.2.1) (rd) (as9)).flatten].flatten := by rw [fl_open]; exact hD
        exact hQ _ _ _ _ _ ((mdB cy mo mz msv mtx mmo mif mmg mtn mie mme mrd mas (0) (hz) (len) (u_34.2.1) (u_34.2.2.2.2.2.2.2.1) (u_34.2.2.2.2.2.2.2.2) (sp) (it) (bl) (hh) (z) (sd) (bf) (u_34.1) (u_34.2.2.1) (u_34.2.2.2.1) (u_34.2.2.2.2.1) (u_34.2.2.2.2.2.1) (u_34.2.2.2.2.2.2.1) (rd) (as9)).flatten) ⟨by rw [← filS_eq hL2 (-1)]; exact congrArg qI (h_34.1 k j (by omega) (by omega)), ⟨(u_34.2.1), (u_34.2.2.2.2.2.2.2.1), (u_34.2.2.2.2.2.2.2.2), (sp), (it), (bl), (hh), (z), (sd), (bf), (u_34.1), (u_34.2.2.1), (u_34.2.2.2.1), (u_34.2.2.2.2.1), (u_34.2.2.2.2.2.1), (u_34.2.2.2.2.2.2.1), (rd), (as9), rfl, ⟨hL, hz20, hz101⟩, ⟨hhz, hHZ⟩, hln, hbf, htx⟩⟩ hP hD hS dX8_widest_48
      · skip
        exact absurd c_27 (by decide)

set_option maxRecDepth 100000 in
set_option maxHeartbeats 4000000 in
theorem c_X8_widest_no1 (l : Launch) (D : va_G) (cy : Nat → ClassId) (mo mz msv mtx mmo mif mmg mtn mie mme mrd mas : Nat) (T : LSt) (hz : Nat) (HZ : Nat → LSt) (len : Nat) (tx : Nat → Int) (th : Int) (W : va_W) (hG : gOk T) (hW : MW cy mo mz msv mtx mmo mif mmg mtn mie mme mrd mas T hz HZ len tx th W) (p0 p1 : Int) (r0 : (-2147483648 ≤ p0 ∧ p0 < 2147483648)) (r1 : (-2147483648 ≤ p1 ∧ p1 < 2147483648)) (hx : ¬ ((0 ≤ p0 ∧ p0 ≤ 9) ∧ (0 ≤ p1 ∧ p1 ≤ 9))) (sz : Nat) : qMet l yX8_widest (.code yX8_widest cX8_widest 3 (some .int)) 8 [.ref (mo), .int (qI (p0)), .int (qI (p1))] D cy [W] sz (va_Qi (S := va_W) (fun r u => MW cy mo mz msv mtx mmo mif mmg mtn mie mme mrd mas T hz HZ len tx 1 u) (qB D cy [W] sz (fun u => [u])) (va_A [W].flatten sz)) := by
  refine q_ofMi (S := va_W) (b1 := fun u => [u]) (post := fun r u => MW cy mo mz msv mtx mmo mif mmg mtn mie mme mrd mas T hz HZ len tx 1 u) (by decide +kernel) (Nat.le_of_ble_eq_true rfl) ?_
  intro p e s m args below meth c Q A hx hb hml hown hg hQ hK hN hD hA H locs ls hP hS hl
  have hown : s.vm.findClass RX8 = some m.cls := hown
  have hl : lv_has ls 3 [(0, .ref (mo)), (1, .int (qI (p0))), (2, .int (qI (p1)))] := hl
  have hW0 := hW
  obtain ⟨tu, fi, ro, sp, it, bl, hh, z, sd, bf, g, isF, mg, tn, isE, mE, rd, as9, rfl, ⟨hL, hz20, hz101⟩, ⟨hhz, hHZ⟩, hln, hbf, htx⟩ := hW
  obtain ⟨gV, gT, gC, gE, gI, gD⟩ := hG.eq hL
  obtain ⟨nc, hnc⟩ : ∃ nc : Nat, z 20 = (nc : Int) := ⟨(z 20).toNat, by omega⟩
  obtain ⟨ne, hne⟩ : ∃ ne : Nat, z 101 = (ne : Int) := ⟨(z 101).toNat, by omega⟩
  have e20 : (z 20).toNat = nc := by omega
  have e101 : (z 101).toNat = ne := by omega
  have hV : qV z := gV
  have hst : ∀ i, i < 10 → 0 ≤ z (10 + i) ∧ z (10 + i) ≤ 9 := gT
  have hc : nc ≤ 16 := e20 ▸ (gC.1 : (z 20).toNat ≤ 16)
  have hC : qWR (zC z) nc := e20 ▸ (gC.2 : qWR (zC z) (z 20).toNat)
  have he : ne ≤ 4 := e101 ▸ (gE.1 : (z 101).toNat ≤ 4)
  have hE : qWR (zE z) ne := e101 ▸ (gE.2 : qWR (zE z) (z 101).toNat)
  have hD9 : ∀ i j, i < ne → j < ne → zE z 0 i = zE z 0 j → i = j := e101 ▸ (gD : ∀ i j, i < (z 101).toNat → j < (z 101).toNat → zE z 0 i = zE z 0 j → i = j)
  have hL2 : LEq (z, (fun i => z (10 + i)), zC z, nc, zE z, ne) T := by rw [← e20, ← e101]; exact hL
  have en : nc = lN9 T := hL2.2.2.1
  have em : ne = lM T := hL2.2.2.2.2.1
  rw [fl_open] at hP hD
  have hP : va_P D vwCl [[(mo, .inr (8, [.int (qI (th)), .ref (mz), .int (qI (((hz : Nat) : Int))), .ref (msv), .int (qI (((len : Nat) : Int))), .ref (mtx), .ref (mmo), .int (qI (tu)), .ref (mif), .ref (mmg), .ref (mtn), .ref (mie), .ref (mme), .int (qz (fi)), .int (qI (ro)), .int (qI (sp)), .int (qI (it)), .int (qz (bl)), .ref (mrd), .ref (mas), .long (hh)]))], [(mz, aI cy 115 (z))], [(msv, aI cy 920 (sd))], [(mtx, aI cy 60 (bf))], [(mmo, aI cy 121 (g))], [(mif, aZ cy 16 (isF))], [(mmg, aI cy 16 (mg))], [(mtn, aI cy 16 (tn))], [(mie, aZ cy 4 (isE))], [(mme, aI cy 4 (mE))], [(mrd, aI cy 100 (rd))], [(mas, aI cy 115 (as9))]].flatten H := hP
  have hD : va_D A [[(mo, .inr (8, [.int (qI (th)), .ref (mz), .int (qI (((hz : Nat) : Int))), .ref (msv), .int (qI (((len : Nat) : Int))), .ref (mtx), .ref (mmo), .int (qI (tu)), .ref (mif), .ref (mmg), .ref (mtn), .ref (mie), .ref (mme), .int (qz (fi)), .int (qI (ro)), .int (qI (sp)), .int (qI (it)), .int (qz (bl)), .ref (mrd), .ref (mas), .long (hh)]))], [(mz, aI cy 115 (z))], [(msv, aI cy 920 (sd))], [(mtx, aI cy 60 (bf))], [(mmo, aI cy 121 (g))], [(mif, aZ cy 16 (isF))], [(mmg, aI cy 16 (mg))], [(mtn, aI cy 16 (tn))], [(mie, aZ cy 4 (isE))], [(mme, aI cy 4 (mE))], [(mrd, aI cy 100 (rd))], [(mas, aI cy 115 (as9))]].flatten := hD
  refine lv_aload_n hx hb dX8_widest_0 rfl (lv_at hl 0 rfl) ?_
  refine lv_iload_n hx hb dX8_widest_1 rfl (lv_at hl 1 rfl) ?_
  refine q_readz (va_runS (As := [.int (qI (p0))]) (rest := [.ref (mo)]) ⟨hx, hb, hml, hown, hg⟩ (c_X8_isPlace l D cy _ (by omega)) (cs_X8_94 hg rfl rfl ⟨by decide, by decide⟩) ⟨q_blind0, q_preR _ hK hN hP [] rfl⟩ rfl rfl hl.1 rfl (lv_room (Nat.le_of_ble_eq_true rfl)) dX8_widest_2 ⟨by decide, by decide⟩) (fun b_2 h_2 => ?_)
  refine q_ifz_eq (tgt := 19) hx hb dX8_widest_5 (by decide) (fun c_5 => ?_) (fun c_5 => ?_)
  · skip
    have g_5 := mt (h_2).mpr (by rw [c_5]; decide)
    refine q_iconst hx hb dX8_widest_19 ?_
    refine pf_X8_44 hx hb hg hown hK hP hD hS 0 0 rfl rfl rfl rfl (Nat.le_of_ble_eq_true rfl) dX8_widest_20 (fun H locs hP hD hS => ?_)
    have hP : va_P D vwCl [[(mo, .inr (8, [.int (qI (1)), .ref (mz), .int (qI (((hz : Nat) : Int))), .ref (msv), .int (qI (((len : Nat) : Int))), .ref (mtx), .ref (mmo), .int (qI (tu)), .ref (mif), .ref (mmg), .ref (mtn), .ref (mie), .ref (mme), .int (qz (fi)), .int (qI (ro)), .int (qI (sp)), .int (qI (it)), .int (qz (bl)), .ref (mrd), .ref (mas), .long (hh)]))], [(mz, aI cy 115 (z))], [(msv, aI cy 920 (sd))], [(mtx, aI cy 60 (bf))], [(mmo, aI cy 121 (g))], [(mif, aZ cy 16 (isF))], [(mmg, aI cy 16 (mg))], [(mtn, aI cy 16 (tn))], [(mie, aZ cy 4 (isE))], [(mme, aI cy 4 (mE))], [(mrd, aI cy 100 (rd))], [(mas, aI cy 115 (as9))]].flatten H := hP
    have hD : va_D A [[(mo, .inr (8, [.int (qI (1)), .ref (mz), .int (qI (((hz : Nat) : Int))), .ref (msv), .int (qI (((len : Nat) : Int))), .ref (mtx), .ref (mmo), .int (qI (tu)), .ref (mif), .ref (mmg), .ref (mtn), .ref (mie), .ref (mme), .int (qz (fi)), .int (qI (ro)), .int (qI (sp)), .int (qI (it)), .int (qz (bl)), .ref (mrd), .ref (mas), .long (hh)]))], [(mz, aI cy 115 (z))], [(msv, aI cy 920 (sd))], [(mtx, aI cy 60 (bf))], [(mmo, aI cy 121 (g))], [(mif, aZ cy 16 (isF))], [(mmg, aI cy 16 (mg))], [(mtn, aI cy 16 (tn))], [(mie, aZ cy 4 (isE))], [(mme, aI cy 4 (mE))], [(mrd, aI cy 100 (rd))], [(mas, aI cy 115 (as9))]].flatten := hD
    refine lv_aload_n hx hb dX8_widest_23 rfl (lv_at hl 0 rfl) ?_
    refine gf_X8_44 hx hb hg hown hK (fl_blk hP 0 rfl) 0 rfl rfl dX8_widest_24 ?_
    refine q_if_le (tgt := 32) hx hb dX8_widest_27 (by decide) (by omega) (fun c_27 => ?_) (fun c_27 => ?_)
    · skip
      exact absurd c_27 (by decide)
    · skip
      refine q_iconst hx hb dX8_widest_30 ?_
      have hP : va_P D vwCl [(mdB cy mo mz msv mtx mmo mif mmg mtn mie mme mrd mas (1) (hz) (len) (tu) (fi) (ro) (sp) (it) (bl) (hh) (z) (sd) (bf) (g) (isF) (mg) (tn) (isE) (mE) (rd) (as9)).flatten].flatten H := by rw [fl_open]; exact hP
      have hD : va_D A [(mdB cy mo mz msv mtx mmo mif mmg mtn mie mme mrd mas (1) (hz) (len) (tu) (fi) (ro) (sp) (it) (bl) (hh) (z) (sd) (bf) (g) (isF) (mg) (tn) (isE) (mE) (rd) (as9)).flatten].flatten := by rw [fl_open]; exact hD
      exact hQ _ _ _ _ _ ((mdB cy mo mz msv mtx mmo mif mmg mtn mie mme mrd mas (1) (hz) (len) (tu) (fi) (ro) (sp) (it) (bl) (hh) (z) (sd) (bf) (g) (isF) (mg) (tn) (isE) (mE) (rd) (as9)).flatten) ⟨(tu), (fi), (ro), (sp), (it), (bl), (hh), (z), (sd), (bf), (g), (isF), (mg), (tn), (isE), (mE), (rd), (as9), rfl, ⟨hL, hz20, hz101⟩, ⟨hhz, hHZ⟩, hln, hbf, htx⟩ hP hD hS dX8_widest_31
  · skip
    have g_5 := (h_2).mp c_5
    refine lv_iload_n hx hb dX8_widest_8 rfl (lv_at hl 2 rfl) ?_
    refine q_readz (va_runS (As := [.int (qI (p1))]) (rest := [.ref (mo)]) ⟨hx, hb, hml, hown, hg⟩ (c_X8_isPlace l D cy _ (by omega)) (cs_X8_94 hg rfl rfl ⟨by decide, by decide⟩) ⟨q_blind0, q_preR _ hK hN hP [] rfl⟩ rfl rfl hl.1 rfl (lv_room (Nat.le_of_ble_eq_true rfl)) dX8_widest_9 ⟨by decide, by decide⟩) (fun b_9 h_9 => ?_)
    refine q_ifz_eq (tgt := 19) hx hb dX8_widest_12 (by decide) (fun c_12 => ?_) (fun c_12 => ?_)
    · skip
      have g_12 := mt (h_9).mpr (by rw [c_12]; decide)
      refine q_iconst hx hb dX8_widest_19 ?_
      refine pf_X8_44 hx hb hg hown hK hP hD hS 0 0 rfl rfl rfl rfl (Nat.le_of_ble_eq_true rfl) dX8_widest_20 (fun H locs hP hD hS => ?_)
      have hP : va_P D vwCl [[(mo, .inr (8, [.int (qI (1)), .ref (mz), .int (qI (((hz : Nat) : Int))), .ref (msv), .int (qI (((len : Nat) : Int))), .ref (mtx), .ref (mmo), .int (qI (tu)), .ref (mif), .ref (mmg), .ref (mtn), .ref (mie), .ref (mme), .int (qz (fi)), .int (qI (ro)), .int (qI (sp)), .int (qI (it)), .int (qz (bl)), .ref (mrd), .ref (mas), .long (hh)]))], [(mz, aI cy 115 (z))], [(msv, aI cy 920 (sd))], [(mtx, aI cy 60 (bf))], [(mmo, aI cy 121 (g))], [(mif, aZ cy 16 (isF))], [(mmg, aI cy 16 (mg))], [(mtn, aI cy 16 (tn))], [(mie, aZ cy 4 (isE))], [(mme, aI cy 4 (mE))], [(mrd, aI cy 100 (rd))], [(mas, aI cy 115 (as9))]].flatten H := hP
      have hD : va_D A [[(mo, .inr (8, [.int (qI (1)), .ref (mz), .int (qI (((hz : Nat) : Int))), .ref (msv), .int (qI (((len : Nat) : Int))), .ref (mtx), .ref (mmo), .int (qI (tu)), .ref (mif), .ref (mmg), .ref (mtn), .ref (mie), .ref (mme), .int (qz (fi)), .int (qI (ro)), .int (qI (sp)), .int (qI (it)), .int (qz (bl)), .ref (mrd), .ref (mas), .long (hh)]))], [(mz, aI cy 115 (z))], [(msv, aI cy 920 (sd))], [(mtx, aI cy 60 (bf))], [(mmo, aI cy 121 (g))], [(mif, aZ cy 16 (isF))], [(mmg, aI cy 16 (mg))], [(mtn, aI cy 16 (tn))], [(mie, aZ cy 4 (isE))], [(mme, aI cy 4 (mE))], [(mrd, aI cy 100 (rd))], [(mas, aI cy 115 (as9))]].flatten := hD
      refine lv_aload_n hx hb dX8_widest_23 rfl (lv_at hl 0 rfl) ?_
      refine gf_X8_44 hx hb hg hown hK (fl_blk hP 0 rfl) 0 rfl rfl dX8_widest_24 ?_
      refine q_if_le (tgt := 32) hx hb dX8_widest_27 (by decide) (by omega) (fun c_27 => ?_) (fun c_27 => ?_)
      · skip
        exact absurd c_27 (by decide)
      · skip
        refine q_iconst hx hb dX8_widest_30 ?_
        have hP : va_P D vwCl [(mdB cy mo mz msv mtx mmo mif mmg mtn mie mme mrd mas (1) (hz) (len) (tu) (fi) (ro) (sp) (it) (bl) (hh) (z) (sd) (bf) (g) (isF) (mg) (tn) (isE) (mE) (rd) (as9)).flatten].flatten H := by rw [fl_open]; exact hP
        have hD : va_D A [(mdB cy mo mz msv mtx mmo mif mmg mtn mie mme mrd mas (1) (hz) (len) (tu) (fi) (ro) (sp) (it) (bl) (hh) (z) (sd) (bf) (g) (isF) (mg) (tn) (isE) (mE) (rd) (as9)).flatten].flatten := by rw [fl_open]; exact hD
        exact hQ _ _ _ _ _ ((mdB cy mo mz msv mtx mmo mif mmg mtn mie mme mrd mas (1) (hz) (len) (tu) (fi) (ro) (sp) (it) (bl) (hh) (z) (sd) (bf) (g) (isF) (mg) (tn) (isE) (mE) (rd) (as9)).flatten) ⟨(tu), (fi), (ro), (sp), (it), (bl), (hh), (z), (sd), (bf), (g), (isF), (mg), (tn), (isE), (mE), (rd), (as9), rfl, ⟨hL, hz20, hz101⟩, ⟨hhz, hHZ⟩, hln, hbf, htx⟩ hP hD hS dX8_widest_31
    · skip
      have g_12 := (h_9).mp c_12
      exfalso; omega

set_option maxRecDepth 100000 in
set_option maxHeartbeats 4000000 in
theorem c_X8_count (l : Launch) (D : va_G) (cy : Nat → ClassId) (mo mz msv mtx mmo mif mmg mtn mie mme mrd mas : Nat) (T : LSt) (hz : Nat) (HZ : Nat → LSt) (len : Nat) (tx : Nat → Int) (th : Int) (W : va_W) (hG : gOk T) (hW : MW cy mo mz msv mtx mmo mif mmg mtn mie mme mrd mas T hz HZ len tx th W) (p0 : Int) (h0 : 0 ≤ p0 ∧ p0 ≤ 7) (sz : Nat) : qMet l yX8_count (.code yX8_count cX8_count 2 (some .int)) 8 [.ref (mo), .int (qI (p0))] D cy [W] sz (va_Qi (S := va_W) (fun r u => r = qI (ctT T hz p0) ∧ MW cy mo mz msv mtx mmo mif mmg mtn mie mme mrd mas T hz HZ len tx 0 u) (qB D cy [W] sz (fun u => [u])) (va_A [W].flatten sz)) := by
  refine q_ofMi (S := va_W) (b1 := fun u => [u]) (post := fun r u => r = qI (ctT T hz p0) ∧ MW cy mo mz msv mtx mmo mif mmg mtn mie mme mrd mas T hz HZ len tx 0 u) (by decide +kernel) (Nat.le_of_ble_eq_true rfl) ?_
  intro p e s m args below meth c Q A hx hb hml hown hg hQ hK hN hD hA H locs ls hP hS hl
  have hown : s.vm.findClass RX8 = some m.cls := hown
  have hl : lv_has ls 2 [(0, .ref (mo)), (1, .int (qI (p0)))] := hl
  have hW0 := hW
  obtain ⟨tu, fi, ro, sp, it, bl, hh, z, sd, bf, g, isF, mg, tn, isE, mE, rd, as9, rfl, ⟨hL, hz20, hz101⟩, ⟨hhz, hHZ⟩, hln, hbf, htx⟩ := hW
  obtain ⟨gV, gT, gC, gE, gI, gD⟩ := hG.eq hL
  obtain ⟨nc, hnc⟩ : ∃ nc : Nat, z 20 = (nc : Int) := ⟨(z 20).toNat, by omega⟩
  obtain ⟨ne, hne⟩ : ∃ ne : Nat, z 101 = (ne : Int) := ⟨(z 101).toNat, by omega⟩
  have e20 : (z 20).toNat = nc := by omega
  have e101 : (z 101).toNat = ne := by omega
  have hV : qV z := gV
  have hst : ∀ i, i < 10 → 0 ≤ z (10 + i) ∧ z (10 + i) ≤ 9 := gT
  have hc : nc ≤ 16 := e20 ▸ (gC.1 : (z 20).toNat ≤ 16)
  have hC : qWR (zC z) nc := e20 ▸ (gC.2 : qWR (zC z) (z 20).toNat)
  have he : ne ≤ 4 := e101 ▸ (gE.1 : (z 101).toNat ≤ 4)
  have hE : qWR (zE z) ne := e101 ▸ (gE.2 : qWR (zE z) (z 101).toNat)
  have hD9 : ∀ i j, i < ne → j < ne → zE z 0 i = zE z 0 j → i = j := e101 ▸ (gD : ∀ i j, i < (z 101).toNat → j < (z 101).toNat → zE z 0 i = zE z 0 j → i = j)
  have hL2 : LEq (z, (fun i => z (10 + i)), zC z, nc, zE z, ne) T := by rw [← e20, ← e101]; exact hL
  have en : nc = lN9 T := hL2.2.2.1
  have em : ne = lM T := hL2.2.2.2.2.1
  rw [fl_open] at hP hD
  have hP : va_P D vwCl [[(mo, .inr (8, [.int (qI (th)), .ref (mz), .int (qI (((hz : Nat) : Int))), .ref (msv), .int (qI (((len : Nat) : Int))), .ref (mtx), .ref (mmo), .int (qI (tu)), .ref (mif), .ref (mmg), .ref (mtn), .ref (mie), .ref (mme), .int (qz (fi)), .int (qI (ro)), .int (qI (sp)), .int (qI (it)), .int (qz (bl)), .ref (mrd), .ref (mas), .long (hh)]))], [(mz, aI cy 115 (z))], [(msv, aI cy 920 (sd))], [(mtx, aI cy 60 (bf))], [(mmo, aI cy 121 (g))], [(mif, aZ cy 16 (isF))], [(mmg, aI cy 16 (mg))], [(mtn, aI cy 16 (tn))], [(mie, aZ cy 4 (isE))], [(mme, aI cy 4 (mE))], [(mrd, aI cy 100 (rd))], [(mas, aI cy 115 (as9))]].flatten H := hP
  have hD : va_D A [[(mo, .inr (8, [.int (qI (th)), .ref (mz), .int (qI (((hz : Nat) : Int))), .ref (msv), .int (qI (((len : Nat) : Int))), .ref (mtx), .ref (mmo), .int (qI (tu)), .ref (mif), .ref (mmg), .ref (mtn), .ref (mie), .ref (mme), .int (qz (fi)), .int (qI (ro)), .int (qI (sp)), .int (qI (it)), .int (qz (bl)), .ref (mrd), .ref (mas), .long (hh)]))], [(mz, aI cy 115 (z))], [(msv, aI cy 920 (sd))], [(mtx, aI cy 60 (bf))], [(mmo, aI cy 121 (g))], [(mif, aZ cy 16 (isF))], [(mmg, aI cy 16 (mg))], [(mtn, aI cy 16 (tn))], [(mie, aZ cy 4 (isE))], [(mme, aI cy 4 (mE))], [(mrd, aI cy 100 (rd))], [(mas, aI cy 115 (as9))]].flatten := hD
  refine lv_aload_n hx hb dX8_count_0 rfl (lv_at hl 0 rfl) ?_
  refine lv_iload_n hx hb dX8_count_1 rfl (lv_at hl 1 rfl) ?_
  refine q_iconst hx hb dX8_count_2 ?_
  refine q_bipush hx hb dX8_count_3 (by decide) ?_
  refine q_readz (va_runS (As := [.int (qI (p0)), .int (qI (0)), .int (qI (7))]) (rest := [.ref (mo)]) ⟨hx, hb, hml, hown, hg⟩ (c_X8_within l D cy _ _ _ (by omega)) (cs_X8_48 hg rfl rfl ⟨by decide, by decide⟩) ⟨q_blind0, q_preR _ hK hN hP [] rfl⟩ rfl rfl hl.1 rfl (lv_room (Nat.le_of_ble_eq_true rfl)) dX8_count_5 ⟨by decide, by decide⟩) (fun b_5 h_5 => ?_)
  refine q_ifz_eq (tgt := 15) hx hb dX8_count_8 (by decide) (fun c_8 => ?_) (fun c_8 => ?_)
  · skip
    have g_8 := mt (h_5).mpr (by rw [c_8]; decide)
    exfalso; omega
  · skip
    have g_8 := (h_5).mp c_8
    refine q_iconst hx hb dX8_count_11 ?_
    refine lv_goto (tgt := 16) hx hb dX8_count_12 (by decide) ?_
    refine pf_X8_44 hx hb hg hown hK hP hD hS 0 0 rfl rfl rfl rfl (Nat.le_of_ble_eq_true rfl) dX8_count_16 (fun H locs hP hD hS => ?_)
    have hP : va_P D vwCl [[(mo, .inr (8, [.int (qI (0)), .ref (mz), .int (qI (((hz : Nat) : Int))), .ref (msv), .int (qI (((len : Nat) : Int))), .ref (mtx), .ref (mmo), .int (qI (tu)), .ref (mif), .ref (mmg), .ref (mtn), .ref (mie), .ref (mme), .int (qz (fi)), .int (qI (ro)), .int (qI (sp)), .int (qI (it)), .int (qz (bl)), .ref (mrd), .ref (mas), .long (hh)]))], [(mz, aI cy 115 (z))], [(msv, aI cy 920 (sd))], [(mtx, aI cy 60 (bf))], [(mmo, aI cy 121 (g))], [(mif, aZ cy 16 (isF))], [(mmg, aI cy 16 (mg))], [(mtn, aI cy 16 (tn))], [(mie, aZ cy 4 (isE))], [(mme, aI cy 4 (mE))], [(mrd, aI cy 100 (rd))], [(mas, aI cy 115 (as9))]].flatten H := hP
    have hD : va_D A [[(mo, .inr (8, [.int (qI (0)), .ref (mz), .int (qI (((hz : Nat) : Int))), .ref (msv), .int (qI (((len : Nat) : Int))), .ref (mtx), .ref (mmo), .int (qI (tu)), .ref (mif), .ref (mmg), .ref (mtn), .ref (mie), .ref (mme), .int (qz (fi)), .int (qI (ro)), .int (qI (sp)), .int (qI (it)), .int (qz (bl)), .ref (mrd), .ref (mas), .long (hh)]))], [(mz, aI cy 115 (z))], [(msv, aI cy 920 (sd))], [(mtx, aI cy 60 (bf))], [(mmo, aI cy 121 (g))], [(mif, aZ cy 16 (isF))], [(mmg, aI cy 16 (mg))], [(mtn, aI cy 16 (tn))], [(mie, aZ cy 4 (isE))], [(mme, aI cy 4 (mE))], [(mrd, aI cy 100 (rd))], [(mas, aI cy 115 (as9))]].flatten := hD
    refine lv_aload_n hx hb dX8_count_19 rfl (lv_at hl 0 rfl) ?_
    refine gf_X8_44 hx hb hg hown hK (fl_blk hP 0 rfl) 0 rfl rfl dX8_count_20 ?_
    refine q_if_le (tgt := 28) hx hb dX8_count_23 (by decide) (by omega) (fun c_23 => ?_) (fun c_23 => ?_)
    · skip
      refine lv_aload_n hx hb dX8_count_28 rfl (lv_at hl 0 rfl) ?_
      refine q_iconst hx hb dX8_count_29 ?_
      refine q_backv [0, 1, 4, 5, 6, 7, 8, 9] [2, 3, 10, 11] (br := [[(msv, aI cy 920 (sd))], [(mtx, aI cy 60 (bf))], [(mrd, aI cy 100 (rd))], [(mas, aI cy 115 (as9))]]) hP hD hS hA (va_runV (As := [.int (qI (-1))]) (rest := []) ⟨hx, hb, hml, hown, hg⟩ (c_X8_fill l D cy mo mz msv mtx mmo mif mmg mtn mie mme mrd mas (0) (((hz : Nat) : Int)) (((len : Nat) : Int)) (tu) (fi) (ro) (sp) (it) (bl) (hh) (z) nc ne (g) (isF) (mg) (tn) (isE) (mE) hnc hne hc he hC hE (-1) (by omega) _) (cv_X8_77 hg rfl rfl ⟨by decide, by decide⟩) ⟨q_blind, va_recv hK (fl_blk hP 0 rfl) (ci := 8) (q0 := 0) rfl rfl, q_preM _ hK hN hP hD [0, 1, 4, 5, 6, 7, 8, 9] (by decide) rfl⟩ rfl rfl hl.1 rfl (lv_room (Nat.le_of_ble_eq_true rfl)) dX8_count_30 ⟨by decide, by decide⟩) rfl rfl (by decide) (fun u_30 H locs h_30 hP hD hS => ?_)
      have hP : va_P D vwCl [[(msv, aI cy 920 (sd))], [(mtx, aI cy 60 (bf))], [(mrd, aI cy 100 (rd))], [(mas, aI cy 115 (as9))], [(mo, .inr (8, [.int (qI (0)), .ref (mz), .int (qI (((hz : Nat) : Int))), .ref (msv), .int (qI (((len : Nat) : Int))), .ref (mtx), .ref (mmo), .int (qI (u_30.2.1)), .ref (mif), .ref (mmg), .ref (mtn), .ref (mie), .ref (mme), .int (qz (u_30.2.2.2.2.2.2.2.1)), .int (qI (u_30.2.2.2.2.2.2.2.2)), .int (qI (sp)), .int (qI (it)), .int (qz (bl)), .ref (mrd), .ref (mas), .long (hh)]))], [(mz, aI cy 115 (z))], [(mmo, aI cy 121 (u_30.1))], [(mif, aZ cy 16 (u_30.2.2.1))], [(mmg, aI cy 16 (u_30.2.2.2.1))], [(mtn, aI cy 16 (u_30.2.2.2.2.1))], [(mie, aZ cy 4 (u_30.2.2.2.2.2.1))], [(mme, aI cy 4 (u_30.2.2.2.2.2.2.1))]].flatten H := hP
      have hD : va_D A [[(msv, aI cy 920 (sd))], [(mtx, aI cy 60 (bf))], [(mrd, aI cy 100 (rd))], [(mas, aI cy 115 (as9))], [(mo, .inr (8, [.int (qI (0)), .ref (mz), .int (qI (((hz : Nat) : Int))), .ref (msv), .int (qI (((len : Nat) : Int))), .ref (mtx), .ref (mmo), .int (qI (u_30.2.1)), .ref (mif), .ref (mmg), .ref (mtn), .ref (mie), .ref (mme), .int (qz (u_30.2.2.2.2.2.2.2.1)), .int (qI (u_30.2.2.2.2.2.2.2.2)), .int (qI (sp)), .int (qI (it)), .int (qz (bl)), .ref (mrd), .ref (mas), .long (hh)]))], [(mz, aI cy 115 (z))], [(mmo, aI cy 121 (u_30.1))], [(mif, aZ cy 16 (u_30.2.2.1))], [(mmg, aI cy 16 (u_30.2.2.2.1))], [(mtn, aI cy 16 (u_30.2.2.2.2.1))], [(mie, aZ cy 4 (u_30.2.2.2.2.2.1))], [(mme, aI cy 4 (u_30.2.2.2.2.2.2.1))]].flatten := hD
      refine lv_aload_n hx hb dX8_count_33 rfl (lv_at hl 0 rfl) ?_
      refine lv_iload_n hx hb dX8_count_34 rfl (lv_at hl 1 rfl) ?_
      refine q_readi (va_runV (As := [.int (qI (p0))]) (rest := []) ⟨hx, hb, hml, hown, hg⟩ (c_X8_counted l D cy mo mz msv mtx mmo mif mmg mtn mie mme mrd mas (0) (((hz : Nat) : Int)) (((len : Nat) : Int)) (u_30.2.1) (u_30.2.2.2.2.2.2.2.1) (u_30.2.2.2.2.2.2.2.2) (sp) (it) (bl) (hh) z nc ne (u_30.1) (u_30.2.2.1) (u_30.2.2.2.1) (u_30.2.2.2.2.1) (u_30.2.2.2.2.2.1) (u_30.2.2.2.2.2.2.1) hnc hne hc he hC hE hV h_30 hz rfl (p0) (by omega)) (cv_X8_203 hg rfl rfl ⟨by decide, by decide⟩) ⟨q_blind0, va_recv hK (fl_blk hP 4 rfl) (ci := 8) (q0 := 0) rfl rfl, q_preR _ hK hN hP [4, 5, 6, 7, 10] rfl⟩ rfl rfl hl.1 rfl (lv_room (Nat.le_of_ble_eq_true rfl)) dX8_count_35 ⟨by decide, by decide⟩) (fun r_35 h_35 => ?_)
      subst h_35
      have hP := fl_sub (bs' := [[(mo, .inr (8, [.int (qI (0)), .ref (mz), .int (qI (((hz : Nat) : Int))), .ref (msv), .int (qI (((len : Nat) : Int))), .ref (mtx), .ref (mmo), .int (qI (u_30.2.1)), .ref (mif), .ref (mmg), .ref (mtn), .ref (mie), .ref (mme), .int (qz (u_30.2.2.2.2.2.2.2.1)), .int (qI (u_30.2.2.2.2.2.2.2.2)), .int (qI (sp)), .int (qI (it)), .int (qz (bl)), .ref (mrd), .ref (mas), .long (hh)]))], [(mz, aI cy 115 (z))], [(msv, aI cy 920 (sd))], [(mtx, aI cy 60 (bf))], [(mmo, aI cy 121 (u_30.1))], [(mif, aZ cy 16 (u_30.2.2.1))], [(mmg, aI cy 16 (u_30.2.2.2.1))], [(mtn, aI cy 16 (u_30.2.2.2.2.1))], [(mie, aZ cy 4 (u_30.2.2.2.2.2.1))], [(mme, aI cy 4 (u_30.2.2.2.2.2.2.1))], [(mrd, aI cy 100 (rd))], [(mas, aI cy 115 (as9))]]) hP [4, 5, 0, 1, 6, 7, 8, 9, 10, 11, 2, 3] rfl
      have hD := fl_subD (bs' := [[(mo, .inr (8, [.int (qI (0)), .ref (mz), .int (qI (((hz : Nat) : Int))), .ref (msv), .int (qI (((len : Nat) : Int))), .ref (mtx), .ref (mmo), .int (qI (u_30.2.1)), .ref (mif), .ref (mmg), .ref (mtn), .ref (mie), .ref (mme), .int (qz (u_30.2.2.2.2.2.2.2.1)), .int (qI (u_30.2.2.2.2.2.2.2.2)), .int (qI (sp)), .int (qI (it)), .int (qz (bl)), .ref (mrd), .ref (mas), .long (hh)]))], [(mz, aI cy 115 (z))], [(msv, aI cy 920 (sd))], [(mtx, aI cy 60 (bf))], [(mmo, aI cy 121 (u_30.1))], [(mif, aZ cy 16 (u_30.2.2.1))], [(mmg, aI cy 16 (u_30.2.2.2.1))], [(mtn, aI cy 16 (u_30.2.2.2.2.1))], [(mie, aZ cy 4 (u_30.2.2.2.2.2.1))], [(mme, aI cy 4 (u_30.2.2.2.2.2.2.1))], [(mrd, aI cy 100 (rd))], [(mas, aI cy 115 (as9))]]) hD [4, 5, 0, 1, 6, 7, 8, 9, 10, 11, 2, 3] (by decide) rfl
      have hP : va_P D vwCl [(mdB cy mo mz msv mtx mmo mif mmg mtn mie mme mrd mas (0) (hz) (len) (u_30.2.1) (u_30.2.2.2.2.2.2.2.1) (u_30.2.2.2.2.2.2.2.2) (sp) (it) (bl) (hh) (z) (sd) (bf) (u_30.1) (u_30.2.2.1) (u_30.2.2.2.1) (u_30.2.2.2.2.1) (u_30.2.2.2.2.2.1) (u_30.2.2.2.2.2.2.1) (rd) (as9)).flatten].flatten H := by rw [fl_open]; exact hP
      have hD : va_D A [(mdB cy mo mz msv mtx mmo mif mmg mtn mie mme mrd mas (0) (hz) (len) (u_30.2.1) (u_30.2.2.2.2.2.2.2.1) (u_30.2.2.2.2.2.2.2.2) (sp) (it) (bl) (hh) (z) (sd) (bf) (u_30.1) (u_30.2.2.1) (u_30.2.2.2.1) (u_30.2.2.2.2.1) (u_30.2.2.2.2.2.1) (u_30.2.2.2.2.2.2.1) (rd) (as9)).flatten].flatten := by rw [fl_open]; exact hD
      exact hQ _ _ _ _ _ ((mdB cy mo mz msv mtx mmo mif mmg mtn mie mme mrd mas (0) (hz) (len) (u_30.2.1) (u_30.2.2.2.2.2.2.2.1) (u_30.2.2.2.2.2.2.2.2) (sp) (it) (bl) (hh) (z) (sd) (bf) (u_30.1) (u_30.2.2.1) (u_30.2.2.2.1) (u_30.2.2.2.2.1) (u_30.2.2.2.2.2.1) (u_30.2.2.2.2.2.2.1) (rd) (as9)).flatten) ⟨by rw [← ctT_eq hL2 hG hz p0], ⟨(u_30.2.1), (u_30.2.2.2.2.2.2.2.1), (u_30.2.2.2.2.2.2.2.2), (sp), (it), (bl), (hh), (z), (sd), (bf), (u_30.1), (u_30.2.2.1), (u_30.2.2.2.1), (u_30.2.2.2.2.1), (u_30.2.2.2.2.2.1), (u_30.2.2.2.2.2.2.1), (rd), (as9), rfl, ⟨hL, hz20, hz101⟩, ⟨hhz, hHZ⟩, hln, hbf, htx⟩⟩ hP hD hS dX8_count_38
    · skip
      exact absurd c_23 (by decide)

set_option maxRecDepth 100000 in
set_option maxHeartbeats 4000000 in
theorem c_X8_count_no1 (l : Launch) (D : va_G) (cy : Nat → ClassId) (mo mz msv mtx mmo mif mmg mtn mie mme mrd mas : Nat) (T : LSt) (hz : Nat) (HZ : Nat → LSt) (len : Nat) (tx : Nat → Int) (th : Int) (W : va_W) (hG : gOk T) (hW : MW cy mo mz msv mtx mmo mif mmg mtn mie mme mrd mas T hz HZ len tx th W) (p0 : Int) (r0 : (-2147483648 ≤ p0 ∧ p0 < 2147483648)) (hx : ¬ (0 ≤ p0 ∧ p0 ≤ 7)) (sz : Nat) : qMet l yX8_count (.code yX8_count cX8_count 2 (some .int)) 8 [.ref (mo), .int (qI (p0))] D cy [W] sz (va_Qi (S := va_W) (fun r u => MW cy mo mz msv mtx mmo mif mmg mtn mie mme mrd mas T hz HZ len tx 1 u) (qB D cy [W] sz (fun u => [u])) (va_A [W].flatten sz)) := by
  refine q_ofMi (S := va_W) (b1 := fun u => [u]) (post := fun r u => MW cy mo mz msv mtx mmo mif mmg mtn mie mme mrd mas T hz HZ len tx 1 u) (by decide +kernel) (Nat.le_of_ble_eq_true rfl) ?_
  intro p e s m args below meth c Q A hx hb hml hown hg hQ hK hN hD hA H locs ls hP hS hl
  have hown : s.vm.findClass RX8 = some m.cls := hown
  have hl : lv_has ls 2 [(0, .ref (mo)), (1, .int (qI (p0)))] := hl
  have hW0 := hW
  obtain ⟨tu, fi, ro, sp, it, bl, hh, z, sd, bf, g, isF, mg, tn, isE, mE, rd, as9, rfl, ⟨hL, hz20, hz101⟩, ⟨hhz, hHZ⟩, hln, hbf, htx⟩ := hW
  obtain ⟨gV, gT, gC, gE, gI, gD⟩ := hG.eq hL
  obtain ⟨nc, hnc⟩ : ∃ nc : Nat, z 20 = (nc : Int) := ⟨(z 20).toNat, by omega⟩
  obtain ⟨ne, hne⟩ : ∃ ne : Nat, z 101 = (ne : Int) := ⟨(z 101).toNat, by omega⟩
  have e20 : (z 20).toNat = nc := by omega
  have e101 : (z 101).toNat = ne := by omega
  have hV : qV z := gV
  have hst : ∀ i, i < 10 → 0 ≤ z (10 + i) ∧ z (10 + i) ≤ 9 := gT
  have hc : nc ≤ 16 := e20 ▸ (gC.1 : (z 20).toNat ≤ 16)
  have hC : qWR (zC z) nc := e20 ▸ (gC.2 : qWR (zC z) (z 20).toNat)
  have he : ne ≤ 4 := e101 ▸ (gE.1 : (z 101).toNat ≤ 4)
  have hE : qWR (zE z) ne := e101 ▸ (gE.2 : qWR (zE z) (z 101).toNat)
  have hD9 : ∀ i j, i < ne → j < ne → zE z 0 i = zE z 0 j → i = j := e101 ▸ (gD : ∀ i j, i < (z 101).toNat → j < (z 101).toNat → zE z 0 i = zE z 0 j → i = j)
  have hL2 : LEq (z, (fun i => z (10 + i)), zC z, nc, zE z, ne) T := by rw [← e20, ← e101]; exact hL
  have en : nc = lN9 T := hL2.2.2.1
  have em : ne = lM T := hL2.2.2.2.2.1
  rw [fl_open] at hP hD
  have hP : va_P D vwCl [[(mo, .inr (8, [.int (qI (th)), .ref (mz), .int (qI (((hz : Nat) : Int))), .ref (msv), .int (qI (((len : Nat) : Int))), .ref (mtx), .ref (mmo), .int (qI (tu)), .ref (mif), .ref (mmg), .ref (mtn), .ref (mie), .ref (mme), .int (qz (fi)), .int (qI (ro)), .int (qI (sp)), .int (qI (it)), .int (qz (bl)), .ref (mrd), .ref (mas), .long (hh)]))], [(mz, aI cy 115 (z))], [(msv, aI cy 920 (sd))], [(mtx, aI cy 60 (bf))], [(mmo, aI cy 121 (g))], [(mif, aZ cy 16 (isF))], [(mmg, aI cy 16 (mg))], [(mtn, aI cy 16 (tn))], [(mie, aZ cy 4 (isE))], [(mme, aI cy 4 (mE))], [(mrd, aI cy 100 (rd))], [(mas, aI cy 115 (as9))]].flatten H := hP
  have hD : va_D A [[(mo, .inr (8, [.int (qI (th)), .ref (mz), .int (qI (((hz : Nat) : Int))), .ref (msv), .int (qI (((len : Nat) : Int))), .ref (mtx), .ref (mmo), .int (qI (tu)), .ref (mif), .ref (mmg), .ref (mtn), .ref (mie), .ref (mme), .int (qz (fi)), .int (qI (ro)), .int (qI (sp)), .int (qI (it)), .int (qz (bl)), .ref (mrd), .ref (mas), .long (hh)]))], [(mz, aI cy 115 (z))], [(msv, aI cy 920 (sd))], [(mtx, aI cy 60 (bf))], [(mmo, aI cy 121 (g))], [(mif, aZ cy 16 (isF))], [(mmg, aI cy 16 (mg))], [(mtn, aI cy 16 (tn))], [(mie, aZ cy 4 (isE))], [(mme, aI cy 4 (mE))], [(mrd, aI cy 100 (rd))], [(mas, aI cy 115 (as9))]].flatten := hD
  refine lv_aload_n hx hb dX8_count_0 rfl (lv_at hl 0 rfl) ?_
  refine lv_iload_n hx hb dX8_count_1 rfl (lv_at hl 1 rfl) ?_
  refine q_iconst hx hb dX8_count_2 ?_
  refine q_bipush hx hb dX8_count_3 (by decide) ?_
  refine q_readz (va_runS (As := [.int (qI (p0)), .int (qI (0)), .int (qI (7))]) (rest := [.ref (mo)]) ⟨hx, hb, hml, hown, hg⟩ (c_X8_within l D cy _ _ _ (by omega)) (cs_X8_48 hg rfl rfl ⟨by decide, by decide⟩) ⟨q_blind0, q_preR _ hK hN hP [] rfl⟩ rfl rfl hl.1 rfl (lv_room (Nat.le_of_ble_eq_true rfl)) dX8_count_5 ⟨by decide, by decide⟩) (fun b_5 h_5 => ?_)
  refine q_ifz_eq (tgt := 15) hx hb dX8_count_8 (by decide) (fun c_8 => ?_) (fun c_8 => ?_)
  · skip
    have g_8 := mt (h_5).mpr (by rw [c_8]; decide)
    refine q_iconst hx hb dX8_count_15 ?_
    refine pf_X8_44 hx hb hg hown hK hP hD hS 0 0 rfl rfl rfl rfl (Nat.le_of_ble_eq_true rfl) dX8_count_16 (fun H locs hP hD hS => ?_)
    have hP : va_P D vwCl [[(mo, .inr (8, [.int (qI (1)), .ref (mz), .int (qI (((hz : Nat) : Int))), .ref (msv), .int (qI (((len : Nat) : Int))), .ref (mtx), .ref (mmo), .int (qI (tu)), .ref (mif), .ref (mmg), .ref (mtn), .ref (mie), .ref (mme), .int (qz (fi)), .int (qI (ro)), .int (qI (sp)), .int (qI (it)), .int (qz (bl)), .ref (mrd), .ref (mas), .long (hh)]))], [(mz, aI cy 115 (z))], [(msv, aI cy 920 (sd))], [(mtx, aI cy 60 (bf))], [(mmo, aI cy 121 (g))], [(mif, aZ cy 16 (isF))], [(mmg, aI cy 16 (mg))], [(mtn, aI cy 16 (tn))], [(mie, aZ cy 4 (isE))], [(mme, aI cy 4 (mE))], [(mrd, aI cy 100 (rd))], [(mas, aI cy 115 (as9))]].flatten H := hP
    have hD : va_D A [[(mo, .inr (8, [.int (qI (1)), .ref (mz), .int (qI (((hz : Nat) : Int))), .ref (msv), .int (qI (((len : Nat) : Int))), .ref (mtx), .ref (mmo), .int (qI (tu)), .ref (mif), .ref (mmg), .ref (mtn), .ref (mie), .ref (mme), .int (qz (fi)), .int (qI (ro)), .int (qI (sp)), .int (qI (it)), .int (qz (bl)), .ref (mrd), .ref (mas), .long (hh)]))], [(mz, aI cy 115 (z))], [(msv, aI cy 920 (sd))], [(mtx, aI cy 60 (bf))], [(mmo, aI cy 121 (g))], [(mif, aZ cy 16 (isF))], [(mmg, aI cy 16 (mg))], [(mtn, aI cy 16 (tn))], [(mie, aZ cy 4 (isE))], [(mme, aI cy 4 (mE))], [(mrd, aI cy 100 (rd))], [(mas, aI cy 115 (as9))]].flatten := hD
    refine lv_aload_n hx hb dX8_count_19 rfl (lv_at hl 0 rfl) ?_
    refine gf_X8_44 hx hb hg hown hK (fl_blk hP 0 rfl) 0 rfl rfl dX8_count_20 ?_
    refine q_if_le (tgt := 28) hx hb dX8_count_23 (by decide) (by omega) (fun c_23 => ?_) (fun c_23 => ?_)
    · skip
      exact absurd c_23 (by decide)
    · skip
      refine q_iconst hx hb dX8_count_26 ?_
      have hP : va_P D vwCl [(mdB cy mo mz msv mtx mmo mif mmg mtn mie mme mrd mas (1) (hz) (len) (tu) (fi) (ro) (sp) (it) (bl) (hh) (z) (sd) (bf) (g) (isF) (mg) (tn) (isE) (mE) (rd) (as9)).flatten].flatten H := by rw [fl_open]; exact hP
      have hD : va_D A [(mdB cy mo mz msv mtx mmo mif mmg mtn mie mme mrd mas (1) (hz) (len) (tu) (fi) (ro) (sp) (it) (bl) (hh) (z) (sd) (bf) (g) (isF) (mg) (tn) (isE) (mE) (rd) (as9)).flatten].flatten := by rw [fl_open]; exact hD
      exact hQ _ _ _ _ _ ((mdB cy mo mz msv mtx mmo mif mmg mtn mie mme mrd mas (1) (hz) (len) (tu) (fi) (ro) (sp) (it) (bl) (hh) (z) (sd) (bf) (g) (isF) (mg) (tn) (isE) (mE) (rd) (as9)).flatten) ⟨(tu), (fi), (ro), (sp), (it), (bl), (hh), (z), (sd), (bf), (g), (isF), (mg), (tn), (isE), (mE), (rd), (as9), rfl, ⟨hL, hz20, hz101⟩, ⟨hhz, hHZ⟩, hln, hbf, htx⟩ hP hD hS dX8_count_27
  · skip
    have g_8 := (h_5).mp c_8
    exfalso; omega

set_option maxRecDepth 100000 in
set_option maxHeartbeats 4000000 in
theorem c_X8_ifRemoved (l : Launch) (D : va_G) (cy : Nat → ClassId) (mo mz msv mtx mmo mif mmg mtn mie mme mrd mas : Nat) (T : LSt) (hz : Nat) (HZ : Nat → LSt) (len : Nat) (tx : Nat → Int) (th : Int) (W : va_W) (hG : gOk T) (hW : MW cy mo mz msv mtx mmo mif mmg mtn mie mme mrd mas T hz HZ len tx th W) (p0 : Int) (k : Nat) (hk : p0 = (k : Int) ∧ k < lN9 T) (sz : Nat) : qMet l yX8_ifRemoved (.code yX8_ifRemoved cX8_ifRemoved 2 (some .int)) 8 [.ref (mo), .int (qI (p0))] D cy [W] sz (va_Qi (S := va_W) (fun r u => r = qI (rmT T k) ∧ MW cy mo mz msv mtx mmo mif mmg mtn mie mme mrd mas T hz HZ len tx 0 u) (qB D cy [W] sz (fun u => [u])) (va_A [W].flatten sz)) := by
  refine q_ofMi (S := va_W) (b1 := fun u => [u]) (post := fun r u => r = qI (rmT T k) ∧ MW cy mo mz msv mtx mmo mif mmg mtn mie mme mrd mas T hz HZ len tx 0 u) (by decide +kernel) (Nat.le_of_ble_eq_true rfl) ?_
  intro p e s m args below meth c Q A hx hb hml hown hg hQ hK hN hD hA H locs ls hP hS hl
  have hown : s.vm.findClass RX8 = some m.cls := hown
  have hl : lv_has ls 2 [(0, .ref (mo)), (1, .int (qI (p0)))] := hl
  have hW0 := hW
  obtain ⟨tu, fi, ro, sp, it, bl, hh, z, sd, bf, g, isF, mg, tn, isE, mE, rd, as9, rfl, ⟨hL, hz20, hz101⟩, ⟨hhz, hHZ⟩, hln, hbf, htx⟩ := hW
  obtain ⟨gV, gT, gC, gE, gI, gD⟩ := hG.eq hL
  obtain ⟨nc, hnc⟩ : ∃ nc : Nat, z 20 = (nc : Int) := ⟨(z 20).toNat, by omega⟩
  obtain ⟨ne, hne⟩ : ∃ ne : Nat, z 101 = (ne : Int) := ⟨(z 101).toNat, by omega⟩
  have e20 : (z 20).toNat = nc := by omega
  have e101 : (z 101).toNat = ne := by omega
  have hV : qV z := gV
  have hst : ∀ i, i < 10 → 0 ≤ z (10 + i) ∧ z (10 + i) ≤ 9 := gT
  have hc : nc ≤ 16 := e20 ▸ (gC.1 : (z 20).toNat ≤ 16)
  have hC : qWR (zC z) nc := e20 ▸ (gC.2 : qWR (zC z) (z 20).toNat)
  have he : ne ≤ 4 := e101 ▸ (gE.1 : (z 101).toNat ≤ 4)
  have hE : qWR (zE z) ne := e101 ▸ (gE.2 : qWR (zE z) (z 101).toNat)
  have hD9 : ∀ i j, i < ne → j < ne → zE z 0 i = zE z 0 j → i = j := e101 ▸ (gD : ∀ i j, i < (z 101).toNat → j < (z 101).toNat → zE z 0 i = zE z 0 j → i = j)
  have hL2 : LEq (z, (fun i => z (10 + i)), zC z, nc, zE z, ne) T := by rw [← e20, ← e101]; exact hL
  have en : nc = lN9 T := hL2.2.2.1
  have em : ne = lM T := hL2.2.2.2.2.1
  rw [fl_open] at hP hD
  have hP : va_P D vwCl [[(mo, .inr (8, [.int (qI (th)), .ref (mz), .int (qI (((hz : Nat) : Int))), .ref (msv), .int (qI (((len : Nat) : Int))), .ref (mtx), .ref (mmo), .int (qI (tu)), .ref (mif), .ref (mmg), .ref (mtn), .ref (mie), .ref (mme), .int (qz (fi)), .int (qI (ro)), .int (qI (sp)), .int (qI (it)), .int (qz (bl)), .ref (mrd), .ref (mas), .long (hh)]))], [(mz, aI cy 115 (z))], [(msv, aI cy 920 (sd))], [(mtx, aI cy 60 (bf))], [(mmo, aI cy 121 (g))], [(mif, aZ cy 16 (isF))], [(mmg, aI cy 16 (mg))], [(mtn, aI cy 16 (tn))], [(mie, aZ cy 4 (isE))], [(mme, aI cy 4 (mE))], [(mrd, aI cy 100 (rd))], [(mas, aI cy 115 (as9))]].flatten H := hP
  have hD : va_D A [[(mo, .inr (8, [.int (qI (th)), .ref (mz), .int (qI (((hz : Nat) : Int))), .ref (msv), .int (qI (((len : Nat) : Int))), .ref (mtx), .ref (mmo), .int (qI (tu)), .ref (mif), .ref (mmg), .ref (mtn), .ref (mie), .ref (mme), .int (qz (fi)), .int (qI (ro)), .int (qI (sp)), .int (qI (it)), .int (qz (bl)), .ref (mrd), .ref (mas), .long (hh)]))], [(mz, aI cy 115 (z))], [(msv, aI cy 920 (sd))], [(mtx, aI cy 60 (bf))], [(mmo, aI cy 121 (g))], [(mif, aZ cy 16 (isF))], [(mmg, aI cy 16 (mg))], [(mtn, aI cy 16 (tn))], [(mie, aZ cy 4 (isE))], [(mme, aI cy 4 (mE))], [(mrd, aI cy 100 (rd))], [(mas, aI cy 115 (as9))]].flatten := hD
  refine lv_aload_n hx hb dX8_ifRemoved_0 rfl (lv_at hl 0 rfl) ?_
  refine lv_aload_n hx hb dX8_ifRemoved_1 rfl (lv_at hl 0 rfl) ?_
  refine lv_iload_n hx hb dX8_ifRemoved_2 rfl (lv_at hl 1 rfl) ?_
  refine q_readz (va_runV (As := [.int (qI (p0))]) (rest := [.ref (mo)]) ⟨hx, hb, hml, hown, hg⟩ (c_X8_isCondition l D cy mo mz msv mtx mmo mif mmg mtn mie mme mrd mas (th) (((hz : Nat) : Int)) (((len : Nat) : Int)) (tu) (fi) (ro) (sp) (it) (bl) (hh) (z) nc _ (by omega) hnc hc) (cv_X8_114 hg rfl rfl ⟨by decide, by decide⟩) ⟨q_blind0, va_recv hK (fl_blk hP 0 rfl) (ci := 8) (q0 := 0) rfl rfl, q_preR _ hK hN hP [0, 1] rfl⟩ rfl rfl hl.1 rfl (lv_room (Nat.le_of_ble_eq_true rfl)) dX8_ifRemoved_3 ⟨by decide, by decide⟩) (fun b_3 h_3 => ?_)
  refine q_ifz_eq (tgt := 13) hx hb dX8_ifRemoved_6 (by decide) (fun c_6 => ?_) (fun c_6 => ?_)
  · skip
    have g_6 := mt (h_3).mpr (by rw [c_6]; decide)
    exfalso; omega
  · skip
    have g_6 := (h_3).mp c_6
    refine q_iconst hx hb dX8_ifRemoved_9 ?_
    refine lv_goto (tgt := 14) hx hb dX8_ifRemoved_10 (by decide) ?_
    refine pf_X8_44 hx hb hg hown hK hP hD hS 0 0 rfl rfl rfl rfl (Nat.le_of_ble_eq_true rfl) dX8_ifRemoved_14 (fun H locs hP hD hS => ?_)
    have hP : va_P D vwCl [[(mo, .inr (8, [.int (qI (0)), .ref (mz), .int (qI (((hz : Nat) : Int))), .ref (msv), .int (qI (((len : Nat) : Int))), .ref (mtx), .ref (mmo), .int (qI (tu)), .ref (mif), .ref (mmg), .ref (mtn), .ref (mie), .ref (mme), .int (qz (fi)), .int (qI (ro)), .int (qI (sp)), .int (qI (it)), .int (qz (bl)), .ref (mrd), .ref (mas), .long (hh)]))], [(mz, aI cy 115 (z))], [(msv, aI cy 920 (sd))], [(mtx, aI cy 60 (bf))], [(mmo, aI cy 121 (g))], [(mif, aZ cy 16 (isF))], [(mmg, aI cy 16 (mg))], [(mtn, aI cy 16 (tn))], [(mie, aZ cy 4 (isE))], [(mme, aI cy 4 (mE))], [(mrd, aI cy 100 (rd))], [(mas, aI cy 115 (as9))]].flatten H := hP
    have hD : va_D A [[(mo, .inr (8, [.int (qI (0)), .ref (mz), .int (qI (((hz : Nat) : Int))), .ref (msv), .int (qI (((len : Nat) : Int))), .ref (mtx), .ref (mmo), .int (qI (tu)), .ref (mif), .ref (mmg), .ref (mtn), .ref (mie), .ref (mme), .int (qz (fi)), .int (qI (ro)), .int (qI (sp)), .int (qI (it)), .int (qz (bl)), .ref (mrd), .ref (mas), .long (hh)]))], [(mz, aI cy 115 (z))], [(msv, aI cy 920 (sd))], [(mtx, aI cy 60 (bf))], [(mmo, aI cy 121 (g))], [(mif, aZ cy 16 (isF))], [(mmg, aI cy 16 (mg))], [(mtn, aI cy 16 (tn))], [(mie, aZ cy 4 (isE))], [(mme, aI cy 4 (mE))], [(mrd, aI cy 100 (rd))], [(mas, aI cy 115 (as9))]].flatten := hD
    refine lv_aload_n hx hb dX8_ifRemoved_17 rfl (lv_at hl 0 rfl) ?_
    refine gf_X8_44 hx hb hg hown hK (fl_blk hP 0 rfl) 0 rfl rfl dX8_ifRemoved_18 ?_
    refine q_if_le (tgt := 28) hx hb dX8_ifRemoved_21 (by decide) (by omega) (fun c_21 => ?_) (fun c_21 => ?_)
    · skip
      refine lv_aload_n hx hb dX8_ifRemoved_28 rfl (lv_at hl 0 rfl) ?_
      refine lv_iload_n hx hb dX8_ifRemoved_29 rfl (lv_at hl 1 rfl) ?_
      refine q_topZ (y := ((k : Nat) : Int)) (by omega) ?_
      refine q_backi [0, 1, 4, 5, 6, 7, 8, 9] [2, 3, 10, 11] (br := [[(msv, aI cy 920 (sd))], [(mtx, aI cy 60 (bf))], [(mrd, aI cy 100 (rd))], [(mas, aI cy 115 (as9))]]) hP hD hS hA (va_runV (As := [.int (qI (((k : Nat) : Int)))]) (rest := []) ⟨hx, hb, hml, hown, hg⟩ (c_X8_removedAnswer l D cy mo mz msv mtx mmo mif mmg mtn mie mme mrd mas (0) (((hz : Nat) : Int)) (((len : Nat) : Int)) (tu) (fi) (ro) (sp) (it) (bl) (hh) z nc ne (g) (isF) (mg) (tn) (isE) (mE) hnc hne hc he hC hE k (by omega) _) (cv_X8_210 hg rfl rfl ⟨by decide, by decide⟩) ⟨q_blind, va_recv hK (fl_blk hP 0 rfl) (ci := 8) (q0 := 0) rfl rfl, q_preM _ hK hN hP hD [0, 1, 4, 5, 6, 7, 8, 9] (by decide) rfl⟩ rfl rfl hl.1 rfl (lv_room (Nat.le_of_ble_eq_true rfl)) dX8_ifRemoved_30 ⟨by decide, by decide⟩) rfl rfl (by decide) (fun r_30 u_30 H locs h_30 hP hD hS => ?_)
      have hP : va_P D vwCl [[(msv, aI cy 920 (sd))], [(mtx, aI cy 60 (bf))], [(mrd, aI cy 100 (rd))], [(mas, aI cy 115 (as9))], [(mo, .inr (8, [.int (qI (0)), .ref (mz), .int (qI (((hz : Nat) : Int))), .ref (msv), .int (qI (((len : Nat) : Int))), .ref (mtx), .ref (mmo), .int (qI (u_30.2.1)), .ref (mif), .ref (mmg), .ref (mtn), .ref (mie), .ref (mme), .int (qz (u_30.2.2.2.2.2.2.2.1)), .int (qI (u_30.2.2.2.2.2.2.2.2)), .int (qI (sp)), .int (qI (it)), .int (qz (bl)), .ref (mrd), .ref (mas), .long (hh)]))], [(mz, aI cy 115 (z))], [(mmo, aI cy 121 (u_30.1))], [(mif, aZ cy 16 (u_30.2.2.1))], [(mmg, aI cy 16 (u_30.2.2.2.1))], [(mtn, aI cy 16 (u_30.2.2.2.2.1))], [(mie, aZ cy 4 (u_30.2.2.2.2.2.1))], [(mme, aI cy 4 (u_30.2.2.2.2.2.2.1))]].flatten H := hP
      have hD : va_D A [[(msv, aI cy 920 (sd))], [(mtx, aI cy 60 (bf))], [(mrd, aI cy 100 (rd))], [(mas, aI cy 115 (as9))], [(mo, .inr (8, [.int (qI (0)), .ref (mz), .int (qI (((hz : Nat) : Int))), .ref (msv), .int (qI (((len : Nat) : Int))), .ref (mtx), .ref (mmo), .int (qI (u_30.2.1)), .ref (mif), .ref (mmg), .ref (mtn), .ref (mie), .ref (mme), .int (qz (u_30.2.2.2.2.2.2.2.1)), .int (qI (u_30.2.2.2.2.2.2.2.2)), .int (qI (sp)), .int (qI (it)), .int (qz (bl)), .ref (mrd), .ref (mas), .long (hh)]))], [(mz, aI cy 115 (z))], [(mmo, aI cy 121 (u_30.1))], [(mif, aZ cy 16 (u_30.2.2.1))], [(mmg, aI cy 16 (u_30.2.2.2.1))], [(mtn, aI cy 16 (u_30.2.2.2.2.1))], [(mie, aZ cy 4 (u_30.2.2.2.2.2.1))], [(mme, aI cy 4 (u_30.2.2.2.2.2.2.1))]].flatten := hD
      obtain ⟨rfl, h_30⟩ := h_30
      have hP := fl_sub (bs' := [[(mo, .inr (8, [.int (qI (0)), .ref (mz), .int (qI (((hz : Nat) : Int))), .ref (msv), .int (qI (((len : Nat) : Int))), .ref (mtx), .ref (mmo), .int (qI (u_30.2.1)), .ref (mif), .ref (mmg), .ref (mtn), .ref (mie), .ref (mme), .int (qz (u_30.2.2.2.2.2.2.2.1)), .int (qI (u_30.2.2.2.2.2.2.2.2)), .int (qI (sp)), .int (qI (it)), .int (qz (bl)), .ref (mrd), .ref (mas), .long (hh)]))], [(mz, aI cy 115 (z))], [(msv, aI cy 920 (sd))], [(mtx, aI cy 60 (bf))], [(mmo, aI cy 121 (u_30.1))], [(mif, aZ cy 16 (u_30.2.2.1))], [(mmg, aI cy 16 (u_30.2.2.2.1))], [(mtn, aI cy 16 (u_30.2.2.2.2.1))], [(mie, aZ cy 4 (u_30.2.2.2.2.2.1))], [(mme, aI cy 4 (u_30.2.2.2.2.2.2.1))], [(mrd, aI cy 100 (rd))], [(mas, aI cy 115 (as9))]]) hP [4, 5, 0, 1, 6, 7, 8, 9, 10, 11, 2, 3] rfl
      have hD := fl_subD (bs' := [[(mo, .inr (8, [.int (qI (0)), .ref (mz), .int (qI (((hz : Nat) : Int))), .ref (msv), .int (qI (((len : Nat) : Int))), .ref (mtx), .ref (mmo), .int (qI (u_30.2.1)), .ref (mif), .ref (mmg), .ref (mtn), .ref (mie), .ref (mme), .int (qz (u_30.2.2.2.2.2.2.2.1)), .int (qI (u_30.2.2.2.2.2.2.2.2)), .int (qI (sp)), .int (qI (it)), .int (qz (bl)), .ref (mrd), .ref (mas), .long (hh)]))], [(mz, aI cy 115 (z))], [(msv, aI cy 920 (sd))], [(mtx, aI cy 60 (bf))], [(mmo, aI cy 121 (u_30.1))], [(mif, aZ cy 16 (u_30.2.2.1))], [(mmg, aI cy 16 (u_30.2.2.2.1))], [(mtn, aI cy 16 (u_30.2.2.2.2.1))], [(mie, aZ cy 4 (u_30.2.2.2.2.2.1))], [(mme, aI cy 4 (u_30.2.2.2.2.2.2.1))], [(mrd, aI cy 100 (rd))], [(mas, aI cy 115 (as9))]]) hD [4, 5, 0, 1, 6, 7, 8, 9, 10, 11, 2, 3] (by decide) rfl
      have hP : va_P D vwCl [(mdB cy mo mz msv mtx mmo mif mmg mtn mie mme mrd mas (0) (hz) (len) (u_30.2.1) (u_30.2.2.2.2.2.2.2.1) (u_30.2.2.2.2.2.2.2.2) (sp) (it) (bl) (hh) (z) (sd) (bf) (u_30.1) (u_30.2.2.1) (u_30.2.2.2.1) (u_30.2.2.2.2.1) (u_30.2.2.2.2.2.1) (u_30.2.2.2.2.2.2.1) (rd) (as9)).flatten].flatten H := by rw [fl_open]; exact hP
      have hD : va_D A [(mdB cy mo mz msv mtx mmo mif mmg mtn mie mme mrd mas (0) (hz) (len) (u_30.2.1) (u_30.2.2.2.2.2.2.2.1) (u_30.2.2.2.2.2.2.2.2) (sp) (it) (bl) (hh) (z) (sd) (bf) (u_30.1) (u_30.2.2.1) (u_30.2.2.2.1) (u_30.2.2.2.2.1) (u_30.2.2.2.2.2.1) (u_30.2.2.2.2.2.2.1) (rd) (as9)).flatten].flatten := by rw [fl_open]; exact hD
      exact hQ _ _ _ _ _ ((mdB cy mo mz msv mtx mmo mif mmg mtn mie mme mrd mas (0) (hz) (len) (u_30.2.1) (u_30.2.2.2.2.2.2.2.1) (u_30.2.2.2.2.2.2.2.2) (sp) (it) (bl) (hh) (z) (sd) (bf) (u_30.1) (u_30.2.2.1) (u_30.2.2.2.1) (u_30.2.2.2.2.1) (u_30.2.2.2.2.2.1) (u_30.2.2.2.2.2.2.1) (rd) (as9)).flatten) ⟨by rw [← rmT_eq hL2 k], ⟨(u_30.2.1), (u_30.2.2.2.2.2.2.2.1), (u_30.2.2.2.2.2.2.2.2), (sp), (it), (bl), (hh), (z), (sd), (bf), (u_30.1), (u_30.2.2.1), (u_30.2.2.2.1), (u_30.2.2.2.2.1), (u_30.2.2.2.2.2.1), (u_30.2.2.2.2.2.2.1), (rd), (as9), rfl, ⟨hL, hz20, hz101⟩, ⟨hhz, hHZ⟩, hln, hbf, htx⟩⟩ hP hD hS dX8_ifRemoved_33
    · skip
      exact absurd c_21 (by decide)

set_option maxRecDepth 100000 in
set_option maxHeartbeats 4000000 in
theorem c_X8_ifRemoved_no1 (l : Launch) (D : va_G) (cy : Nat → ClassId) (mo mz msv mtx mmo mif mmg mtn mie mme mrd mas : Nat) (T : LSt) (hz : Nat) (HZ : Nat → LSt) (len : Nat) (tx : Nat → Int) (th : Int) (W : va_W) (hG : gOk T) (hW : MW cy mo mz msv mtx mmo mif mmg mtn mie mme mrd mas T hz HZ len tx th W) (p0 : Int) (r0 : (-2147483648 ≤ p0 ∧ p0 < 2147483648)) (hx : ¬ (0 ≤ p0 ∧ p0 < (lN9 T : Int))) (sz : Nat) : qMet l yX8_ifRemoved (.code yX8_ifRemoved cX8_ifRemoved 2 (some .int)) 8 [.ref (mo), .int (qI (p0))] D cy [W] sz (va_Qi (S := va_W) (fun r u => MW cy mo mz msv mtx mmo mif mmg mtn mie mme mrd mas T hz HZ len tx 1 u) (qB D cy [W] sz (fun u => [u])) (va_A [W].flatten sz)) := by
  refine q_ofMi (S := va_W) (b1 := fun u => [u]) (post := fun r u => MW cy mo mz msv mtx mmo mif mmg mtn mie mme mrd mas T hz HZ len tx 1 u) (by decide +kernel) (Nat.le_of_ble_eq_true rfl) ?_
  intro p e s m args below meth c Q A hx hb hml hown hg hQ hK hN hD hA H locs ls hP hS hl
  have hown : s.vm.findClass RX8 = some m.cls := hown
  have hl : lv_has ls 2 [(0, .ref (mo)), (1, .int (qI (p0)))] := hl
  have hW0 := hW
  obtain ⟨tu, fi, ro, sp, it, bl, hh, z, sd, bf, g, isF, mg, tn, isE, mE, rd, as9, rfl, ⟨hL, hz20, hz101⟩, ⟨hhz, hHZ⟩, hln, hbf, htx⟩ := hW
  obtain ⟨gV, gT, gC, gE, gI, gD⟩ := hG.eq hL
  obtain ⟨nc, hnc⟩ : ∃ nc : Nat, z 20 = (nc : Int) := ⟨(z 20).toNat, by omega⟩
  obtain ⟨ne, hne⟩ : ∃ ne : Nat, z 101 = (ne : Int) := ⟨(z 101).toNat, by omega⟩
  have e20 : (z 20).toNat = nc := by omega
  have e101 : (z 101).toNat = ne := by omega
  have hV : qV z := gV
  have hst : ∀ i, i < 10 → 0 ≤ z (10 + i) ∧ z (10 + i) ≤ 9 := gT
  have hc : nc ≤ 16 := e20 ▸ (gC.1 : (z 20).toNat ≤ 16)
  have hC : qWR (zC z) nc := e20 ▸ (gC.2 : qWR (zC z) (z 20).toNat)
  have he : ne ≤ 4 := e101 ▸ (gE.1 : (z 101).toNat ≤ 4)
  have hE : qWR (zE z) ne := e101 ▸ (gE.2 : qWR (zE z) (z 101).toNat)
  have hD9 : ∀ i j, i < ne → j < ne → zE z 0 i = zE z 0 j → i = j := e101 ▸ (gD : ∀ i j, i < (z 101).toNat → j < (z 101).toNat → zE z 0 i = zE z 0 j → i = j)
  have hL2 : LEq (z, (fun i => z (10 + i)), zC z, nc, zE z, ne) T := by rw [← e20, ← e101]; exact hL
  have en : nc = lN9 T := hL2.2.2.1
  have em : ne = lM T := hL2.2.2.2.2.1
  rw [fl_open] at hP hD
  have hP : va_P D vwCl [[(mo, .inr (8, [.int (qI (th)), .ref (mz), .int (qI (((hz : Nat) : Int))), .ref (msv), .int (qI (((len : Nat) : Int))), .ref (mtx), .ref (mmo), .int (qI (tu)), .ref (mif), .ref (mmg), .ref (mtn), .ref (mie), .ref (mme), .int (qz (fi)), .int (qI (ro)), .int (qI (sp)), .int (qI (it)), .int (qz (bl)), .ref (mrd), .ref (mas), .long (hh)]))], [(mz, aI cy 115 (z))], [(msv, aI cy 920 (sd))], [(mtx, aI cy 60 (bf))], [(mmo, aI cy 121 (g))], [(mif, aZ cy 16 (isF))], [(mmg, aI cy 16 (mg))], [(mtn, aI cy 16 (tn))], [(mie, aZ cy 4 (isE))], [(mme, aI cy 4 (mE))], [(mrd, aI cy 100 (rd))], [(mas, aI cy 115 (as9))]].flatten H := hP
  have hD : va_D A [[(mo, .inr (8, [.int (qI (th)), .ref (mz), .int (qI (((hz : Nat) : Int))), .ref (msv), .int (qI (((len : Nat) : Int))), .ref (mtx), .ref (mmo), .int (qI (tu)), .ref (mif), .ref (mmg), .ref (mtn), .ref (mie), .ref (mme), .int (qz (fi)), .int (qI (ro)), .int (qI (sp)), .int (qI (it)), .int (qz (bl)), .ref (mrd), .ref (mas), .long (hh)]))], [(mz, aI cy 115 (z))], [(msv, aI cy 920 (sd))], [(mtx, aI cy 60 (bf))], [(mmo, aI cy 121 (g))], [(mif, aZ cy 16 (isF))], [(mmg, aI cy 16 (mg))], [(mtn, aI cy 16 (tn))], [(mie, aZ cy 4 (isE))], [(mme, aI cy 4 (mE))], [(mrd, aI cy 100 (rd))], [(mas, aI cy 115 (as9))]].flatten := hD
  refine lv_aload_n hx hb dX8_ifRemoved_0 rfl (lv_at hl 0 rfl) ?_
  refine lv_aload_n hx hb dX8_ifRemoved_1 rfl (lv_at hl 0 rfl) ?_
  refine lv_iload_n hx hb dX8_ifRemoved_2 rfl (lv_at hl 1 rfl) ?_
  refine q_readz (va_runV (As := [.int (qI (p0))]) (rest := [.ref (mo)]) ⟨hx, hb, hml, hown, hg⟩ (c_X8_isCondition l D cy mo mz msv mtx mmo mif mmg mtn mie mme mrd mas (th) (((hz : Nat) : Int)) (((len : Nat) : Int)) (tu) (fi) (ro) (sp) (it) (bl) (hh) (z) nc _ (by omega) hnc hc) (cv_X8_114 hg rfl rfl ⟨by decide, by decide⟩) ⟨q_blind0, va_recv hK (fl_blk hP 0 rfl) (ci := 8) (q0 := 0) rfl rfl, q_preR _ hK hN hP [0, 1] rfl⟩ rfl rfl hl.1 rfl (lv_room (Nat.le_of_ble_eq_true rfl)) dX8_ifRemoved_3 ⟨by decide, by decide⟩) (fun b_3 h_3 => ?_)
  refine q_ifz_eq (tgt := 13) hx hb dX8_ifRemoved_6 (by decide) (fun c_6 => ?_) (fun c_6 => ?_)
  · skip
    have g_6 := mt (h_3).mpr (by rw [c_6]; decide)
    refine q_iconst hx hb dX8_ifRemoved_13 ?_
    refine pf_X8_44 hx hb hg hown hK hP hD hS 0 0 rfl rfl rfl rfl (Nat.le_of_ble_eq_true rfl) dX8_ifRemoved_14 (fun H locs hP hD hS => ?_)
    have hP : va_P D vwCl [[(mo, .inr (8, [.int (qI (1)), .ref (mz), .int (qI (((hz : Nat) : Int))), .ref (msv), .int (qI (((len : Nat) : Int))), .ref (mtx), .ref (mmo), .int (qI (tu)), .ref (mif), .ref (mmg), .ref (mtn), .ref (mie), .ref (mme), .int (qz (fi)), .int (qI (ro)), .int (qI (sp)), .int (qI (it)), .int (qz (bl)), .ref (mrd), .ref (mas), .long (hh)]))], [(mz, aI cy 115 (z))], [(msv, aI cy 920 (sd))], [(mtx, aI cy 60 (bf))], [(mmo, aI cy 121 (g))], [(mif, aZ cy 16 (isF))], [(mmg, aI cy 16 (mg))], [(mtn, aI cy 16 (tn))], [(mie, aZ cy 4 (isE))], [(mme, aI cy 4 (mE))], [(mrd, aI cy 100 (rd))], [(mas, aI cy 115 (as9))]].flatten H := hP
    have hD : va_D A [[(mo, .inr (8, [.int (qI (1)), .ref (mz), .int (qI (((hz : Nat) : Int))), .ref (msv), .int (qI (((len : Nat) : Int))), .ref (mtx), .ref (mmo), .int (qI (tu)), .ref (mif), .ref (mmg), .ref (mtn), .ref (mie), .ref (mme), .int (qz (fi)), .int (qI (ro)), .int (qI (sp)), .int (qI (it)), .int (qz (bl)), .ref (mrd), .ref (mas), .long (hh)]))], [(mz, aI cy 115 (z))], [(msv, aI cy 920 (sd))], [(mtx, aI cy 60 (bf))], [(mmo, aI cy 121 (g))], [(mif, aZ cy 16 (isF))], [(mmg, aI cy 16 (mg))], [(mtn, aI cy 16 (tn))], [(mie, aZ cy 4 (isE))], [(mme, aI cy 4 (mE))], [(mrd, aI cy 100 (rd))], [(mas, aI cy 115 (as9))]].flatten := hD
    refine lv_aload_n hx hb dX8_ifRemoved_17 rfl (lv_at hl 0 rfl) ?_
    refine gf_X8_44 hx hb hg hown hK (fl_blk hP 0 rfl) 0 rfl rfl dX8_ifRemoved_18 ?_
    refine q_if_le (tgt := 28) hx hb dX8_ifRemoved_21 (by decide) (by omega) (fun c_21 => ?_) (fun c_21 => ?_)
    · skip
      exact absurd c_21 (by decide)
    · skip
      refine q_iconst hx hb dX8_ifRemoved_24 ?_
      refine lv_goto (tgt := 33) hx hb dX8_ifRemoved_25 (by decide) ?_
      have hP : va_P D vwCl [(mdB cy mo mz msv mtx mmo mif mmg mtn mie mme mrd mas (1) (hz) (len) (tu) (fi) (ro) (sp) (it) (bl) (hh) (z) (sd) (bf) (g) (isF) (mg) (tn) (isE) (mE) (rd) (as9)).flatten].flatten H := by rw [fl_open]; exact hP
      have hD : va_D A [(mdB cy mo mz msv mtx mmo mif mmg mtn mie mme mrd mas (1) (hz) (len) (tu) (fi) (ro) (sp) (it) (bl) (hh) (z) (sd) (bf) (g) (isF) (mg) (tn) (isE) (mE) (rd) (as9)).flatten].flatten := by rw [fl_open]; exact hD
      exact hQ _ _ _ _ _ ((mdB cy mo mz msv mtx mmo mif mmg mtn mie mme mrd mas (1) (hz) (len) (tu) (fi) (ro) (sp) (it) (bl) (hh) (z) (sd) (bf) (g) (isF) (mg) (tn) (isE) (mE) (rd) (as9)).flatten) ⟨(tu), (fi), (ro), (sp), (it), (bl), (hh), (z), (sd), (bf), (g), (isF), (mg), (tn), (isE), (mE), (rd), (as9), rfl, ⟨hL, hz20, hz101⟩, ⟨hhz, hHZ⟩, hln, hbf, htx⟩ hP hD hS dX8_ifRemoved_33
  · skip
    have g_6 := (h_3).mp c_6
    exfalso; omega

set_option maxRecDepth 100000 in
set_option maxHeartbeats 4000000 in
theorem c_X8_neededStrength (l : Launch) (D : va_G) (cy : Nat → ClassId) (mo mz msv mtx mmo mif mmg mtn mie mme mrd mas : Nat) (T : LSt) (hz : Nat) (HZ : Nat → LSt) (len : Nat) (tx : Nat → Int) (th : Int) (W : va_W) (hG : gOk T) (hW : MW cy mo mz msv mtx mmo mif mmg mtn mie mme mrd mas T hz HZ len tx th W) (p0 : Int) (k : Nat) (hk : p0 = (k : Int) ∧ k < lN9 T) (sz : Nat) : qMet l yX8_neededStrength (.code yX8_neededStrength cX8_neededStrength 2 (some .int)) 8 [.ref (mo), .int (qI (p0))] D cy [W] sz (va_Qi (S := va_W) (fun r u => r = qI (nsT T k) ∧ MW cy mo mz msv mtx mmo mif mmg mtn mie mme mrd mas T hz HZ len tx 0 u) (qB D cy [W] sz (fun u => [u])) (va_A [W].flatten sz)) := by
  refine q_ofMi (S := va_W) (b1 := fun u => [u]) (post := fun r u => r = qI (nsT T k) ∧ MW cy mo mz msv mtx mmo mif mmg mtn mie mme mrd mas T hz HZ len tx 0 u) (by decide +kernel) (Nat.le_of_ble_eq_true rfl) ?_
  intro p e s m args below meth c Q A hx hb hml hown hg hQ hK hN hD hA H locs ls hP hS hl
  have hown : s.vm.findClass RX8 = some m.cls := hown
  have hl : lv_has ls 2 [(0, .ref (mo)), (1, .int (qI (p0)))] := hl
  have hW0 := hW
  obtain ⟨tu, fi, ro, sp, it, bl, hh, z, sd, bf, g, isF, mg, tn, isE, mE, rd, as9, rfl, ⟨hL, hz20, hz101⟩, ⟨hhz, hHZ⟩, hln, hbf, htx⟩ := hW
  obtain ⟨gV, gT, gC, gE, gI, gD⟩ := hG.eq hL
  obtain ⟨nc, hnc⟩ : ∃ nc : Nat, z 20 = (nc : Int) := ⟨(z 20).toNat, by omega⟩
  obtain ⟨ne, hne⟩ : ∃ ne : Nat, z 101 = (ne : Int) := ⟨(z 101).toNat, by omega⟩
  have e20 : (z 20).toNat = nc := by omega
  have e101 : (z 101).toNat = ne := by omega
  have hV : qV z := gV
  have hst : ∀ i, i < 10 → 0 ≤ z (10 + i) ∧ z (10 + i) ≤ 9 := gT
  have hc : nc ≤ 16 := e20 ▸ (gC.1 : (z 20).toNat ≤ 16)
  have hC : qWR (zC z) nc := e20 ▸ (gC.2 : qWR (zC z) (z 20).toNat)
  have he : ne ≤ 4 := e101 ▸ (gE.1 : (z 101).toNat ≤ 4)
  have hE : qWR (zE z) ne := e101 ▸ (gE.2 : qWR (zE z) (z 101).toNat)
  have hD9 : ∀ i j, i < ne → j < ne → zE z 0 i = zE z 0 j → i = j := e101 ▸ (gD : ∀ i j, i < (z 101).toNat → j < (z 101).toNat → zE z 0 i = zE z 0 j → i = j)
  have hL2 : LEq (z, (fun i => z (10 + i)), zC z, nc, zE z, ne) T := by rw [← e20, ← e101]; exact hL
  have en : nc = lN9 T := hL2.2.2.1
  have em : ne = lM T := hL2.2.2.2.2.1
  rw [fl_open] at hP hD
  have hP : va_P D vwCl [[(mo, .inr (8, [.int (qI (th)), .ref (mz), .int (qI (((hz : Nat) : Int))), .ref (msv), .int (qI (((len : Nat) : Int))), .ref (mtx), .ref (mmo), .int (qI (tu)), .ref (mif), .ref (mmg), .ref (mtn), .ref (mie), .ref (mme), .int (qz (fi)), .int (qI (ro)), .int (qI (sp)), .int (qI (it)), .int (qz (bl)), .ref (mrd), .ref (mas), .long (hh)]))], [(mz, aI cy 115 (z))], [(msv, aI cy 920 (sd))], [(mtx, aI cy 60 (bf))], [(mmo, aI cy 121 (g))], [(mif, aZ cy 16 (isF))], [(mmg, aI cy 16 (mg))], [(mtn, aI cy 16 (tn))], [(mie, aZ cy 4 (isE))], [(mme, aI cy 4 (mE))], [(mrd, aI cy 100 (rd))], [(mas, aI cy 115 (as9))]].flatten H := hP
  have hD : va_D A [[(mo, .inr (8, [.int (qI (th)), .ref (mz), .int (qI (((hz : Nat) : Int))), .ref (msv), .int (qI (((len : Nat) : Int))), .ref (mtx), .ref (mmo), .int (qI (tu)), .ref (mif), .ref (mmg), .ref (mtn), .ref (mie), .ref (mme), .int (qz (fi)), .int (qI (ro)), .int (qI (sp)), .int (qI (it)), .int (qz (bl)), .ref (mrd), .ref (mas), .long (hh)]))], [(mz, aI cy 115 (z))], [(msv, aI cy 920 (sd))], [(mtx, aI cy 60 (bf))], [(mmo, aI cy 121 (g))], [(mif, aZ cy 16 (isF))], [(mmg, aI cy 16 (mg))], [(mtn, aI cy 16 (tn))], [(mie, aZ cy 4 (isE))], [(mme, aI cy 4 (mE))], [(mrd, aI cy 100 (rd))], [(mas, aI cy 115 (as9))]].flatten := hD
  refine lv_aload_n hx hb dX8_neededStrength_0 rfl (lv_at hl 0 rfl) ?_
  refine lv_aload_n hx hb dX8_neededStrength_1 rfl (lv_at hl 0 rfl) ?_
  refine lv_iload_n hx hb dX8_neededStrength_2 rfl (lv_at hl 1 rfl) ?_
  refine q_readz (va_runV (As := [.int (qI (p0))]) (rest := [.ref (mo)]) ⟨hx, hb, hml, hown, hg⟩ (c_X8_isCondition l D cy mo mz msv mtx mmo mif mmg mtn mie mme mrd mas (th) (((hz : Nat) : Int)) (((len : Nat) : Int)) (tu) (fi) (ro) (sp) (it) (bl) (hh) (z) nc _ (by omega) hnc hc) (cv_X8_114 hg rfl rfl ⟨by decide, by decide⟩) ⟨q_blind0, va_recv hK (fl_blk hP 0 rfl) (ci := 8) (q0 := 0) rfl rfl, q_preR _ hK hN hP [0, 1] rfl⟩ rfl rfl hl.1 rfl (lv_room (Nat.le_of_ble_eq_true rfl)) dX8_neededStrength_3 ⟨by decide, by decide⟩) (fun b_3 h_3 => ?_)
  refine q_ifz_eq (tgt := 13) hx hb dX8_neededStrength_6 (by decide) (fun c_6 => ?_) (fun c_6 => ?_)
  · skip
    have g_6 := mt (h_3).mpr (by rw [c_6]; decide)
    exfalso; omega
  · skip
    have g_6 := (h_3).mp c_6
    refine q_iconst hx hb dX8_neededStrength_9 ?_
    refine lv_goto (tgt := 14) hx hb dX8_neededStrength_10 (by decide) ?_
    refine pf_X8_44 hx hb hg hown hK hP hD hS 0 0 rfl rfl rfl rfl (Nat.le_of_ble_eq_true rfl) dX8_neededStrength_14 (fun H locs hP hD hS => ?_)
    have hP : va_P D vwCl [[(mo, .inr (8, [.int (qI (0)), .ref (mz), .int (qI (((hz : Nat) : Int))), .ref (msv), .int (qI (((len : Nat) : Int))), .ref (mtx), .ref (mmo), .int (qI (tu)), .ref (mif), .ref (mmg), .ref (mtn), .ref (mie), .ref (mme), .int (qz (fi)), .int (qI (ro)), .int (qI (sp)), .int (qI (it)), .int (qz (bl)), .ref (mrd), .ref (mas), .long (hh)]))], [(mz, aI cy 115 (z))], [(msv, aI cy 920 (sd))], [(mtx, aI cy 60 (bf))], [(mmo, aI cy 121 (g))], [(mif, aZ cy 16 (isF))], [(mmg, aI cy 16 (mg))], [(mtn, aI cy 16 (tn))], [(mie, aZ cy 4 (isE))], [(mme, aI cy 4 (mE))], [(mrd, aI cy 100 (rd))], [(mas, aI cy 115 (as9))]].flatten H := hP
    have hD : va_D A [[(mo, .inr (8, [.int (qI (0)), .ref (mz), .int (qI (((hz : Nat) : Int))), .ref (msv), .int (qI (((len : Nat) : Int))), .ref (mtx), .ref (mmo), .int (qI (tu)), .ref (mif), .ref (mmg), .ref (mtn), .ref (mie), .ref (mme), .int (qz (fi)), .int (qI (ro)), .int (qI (sp)), .int (qI (it)), .int (qz (bl)), .ref (mrd), .ref (mas), .long (hh)]))], [(mz, aI cy 115 (z))], [(msv, aI cy 920 (sd))], [(mtx, aI cy 60 (bf))], [(mmo, aI cy 121 (g))], [(mif, aZ cy 16 (isF))], [(mmg, aI cy 16 (mg))], [(mtn, aI cy 16 (tn))], [(mie, aZ cy 4 (isE))], [(mme, aI cy 4 (mE))], [(mrd, aI cy 100 (rd))], [(mas, aI cy 115 (as9))]].flatten := hD
    refine lv_aload_n hx hb dX8_neededStrength_17 rfl (lv_at hl 0 rfl) ?_
    refine gf_X8_44 hx hb hg hown hK (fl_blk hP 0 rfl) 0 rfl rfl dX8_neededStrength_18 ?_
    refine q_if_le (tgt := 28) hx hb dX8_neededStrength_21 (by decide) (by omega) (fun c_21 => ?_) (fun c_21 => ?_)
    · skip
      refine lv_aload_n hx hb dX8_neededStrength_28 rfl (lv_at hl 0 rfl) ?_
      refine lv_iload_n hx hb dX8_neededStrength_29 rfl (lv_at hl 1 rfl) ?_
      refine q_topZ (y := ((k : Nat) : Int)) (by omega) ?_
      refine q_backi [0, 1, 4, 5, 6, 7, 8, 9] [2, 3, 10, 11] (br := [[(msv, aI cy 920 (sd))], [(mtx, aI cy 60 (bf))], [(mrd, aI cy 100 (rd))], [(mas, aI cy 115 (as9))]]) hP hD hS hA (va_runV (As := [.int (qI (((k : Nat) : Int)))]) (rest := []) ⟨hx, hb, hml, hown, hg⟩ (c_X8_strengthAnswer l D cy mo mz msv mtx mmo mif mmg mtn mie mme mrd mas (0) (((hz : Nat) : Int)) (((len : Nat) : Int)) (tu) (fi) (ro) (sp) (it) (bl) (hh) z nc ne (g) (isF) (mg) (tn) (isE) (mE) hnc hne hc he hC hE k (by omega) _) (cv_X8_213 hg rfl rfl ⟨by decide, by decide⟩) ⟨q_blind, va_recv hK (fl_blk hP 0 rfl) (ci := 8) (q0 := 0) rfl rfl, q_preM _ hK hN hP hD [0, 1, 4, 5, 6, 7, 8, 9] (by decide) rfl⟩ rfl rfl hl.1 rfl (lv_room (Nat.le_of_ble_eq_true rfl)) dX8_neededStrength_30 ⟨by decide, by decide⟩) rfl rfl (by decide) (fun r_30 u_30 H locs h_30 hP hD hS => ?_)
      have hP : va_P D vwCl [[(msv, aI cy 920 (sd))], [(mtx, aI cy 60 (bf))], [(mrd, aI cy 100 (rd))], [(mas, aI cy 115 (as9))], [(mo, .inr (8, [.int (qI (0)), .ref (mz), .int (qI (((hz : Nat) : Int))), .ref (msv), .int (qI (((len : Nat) : Int))), .ref (mtx), .ref (mmo), .int (qI (u_30.2.1)), .ref (mif), .ref (mmg), .ref (mtn), .ref (mie), .ref (mme), .int (qz (u_30.2.2.2.2.2.2.2.1)), .int (qI (u_30.2.2.2.2.2.2.2.2)), .int (qI (sp)), .int (qI (it)), .int (qz (bl)), .ref (mrd), .ref (mas), .long (hh)]))], [(mz, aI cy 115 (z))], [(mmo, aI cy 121 (u_30.1))], [(mif, aZ cy 16 (u_30.2.2.1))], [(mmg, aI cy 16 (u_30.2.2.2.1))], [(mtn, aI cy 16 (u_30.2.2.2.2.1))], [(mie, aZ cy 4 (u_30.2.2.2.2.2.1))], [(mme, aI cy 4 (u_30.2.2.2.2.2.2.1))]].flatten H := hP
      have hD : va_D A [[(msv, aI cy 920 (sd))], [(mtx, aI cy 60 (bf))], [(mrd, aI cy 100 (rd))], [(mas, aI cy 115 (as9))], [(mo, .inr (8, [.int (qI (0)), .ref (mz), .int (qI (((hz : Nat) : Int))), .ref (msv), .int (qI (((len : Nat) : Int))), .ref (mtx), .ref (mmo), .int (qI (u_30.2.1)), .ref (mif), .ref (mmg), .ref (mtn), .ref (mie), .ref (mme), .int (qz (u_30.2.2.2.2.2.2.2.1)), .int (qI (u_30.2.2.2.2.2.2.2.2)), .int (qI (sp)), .int (qI (it)), .int (qz (bl)), .ref (mrd), .ref (mas), .long (hh)]))], [(mz, aI cy 115 (z))], [(mmo, aI cy 121 (u_30.1))], [(mif, aZ cy 16 (u_30.2.2.1))], [(mmg, aI cy 16 (u_30.2.2.2.1))], [(mtn, aI cy 16 (u_30.2.2.2.2.1))], [(mie, aZ cy 4 (u_30.2.2.2.2.2.1))], [(mme, aI cy 4 (u_30.2.2.2.2.2.2.1))]].flatten := hD
      subst h_30
      have hP := fl_sub (bs' := [[(mo, .inr (8, [.int (qI (0)), .ref (mz), .int (qI (((hz : Nat) : Int))), .ref (msv), .int (qI (((len : Nat) : Int))), .ref (mtx), .ref (mmo), .int (qI (u_30.2.1)), .ref (mif), .ref (mmg), .ref (mtn), .ref (mie), .ref (mme), .int (qz (u_30.2.2.2.2.2.2.2.1)), .int (qI (u_30.2.2.2.2.2.2.2.2)), .int (qI (sp)), .int (qI (it)), .int (qz (bl)), .ref (mrd), .ref (mas), .long (hh)]))], [(mz, aI cy 115 (z))], [(msv, aI cy 920 (sd))], [(mtx, aI cy 60 (bf))], [(mmo, aI cy 121 (u_30.1))], [(mif, aZ cy 16 (u_30.2.2.1))], [(mmg, aI cy 16 (u_30.2.2.2.1))], [(mtn, aI cy 16 (u_30.2.2.2.2.1))], [(mie, aZ cy 4 (u_30.2.2.2.2.2.1))], [(mme, aI cy 4 (u_30.2.2.2.2.2.2.1))], [(mrd, aI cy 100 (rd))], [(mas, aI cy 115 (as9))]]) hP [4, 5, 0, 1, 6, 7, 8, 9, 10, 11, 2, 3] rfl
      have hD := fl_subD (bs' := [[(mo, .inr (8, [.int (qI (0)), .ref (mz), .int (qI (((hz : Nat) : Int))), .ref (msv), .int (qI (((len : Nat) : Int))), .ref (mtx), .ref (mmo), .int (qI (u_30.2.1)), .ref (mif), .ref (mmg), .ref (mtn), .ref (mie), .ref (mme), .int (qz (u_30.2.2.2.2.2.2.2.1)), .int (qI (u_30.2.2.2.2.2.2.2.2)), .int (qI (sp)), .int (qI (it)), .int (qz (bl)), .ref (mrd), .ref (mas), .long (hh)]))], [(mz, aI cy 115 (z))], [(msv, aI cy 920 (sd))], [(mtx, aI cy 60 (bf))], [(mmo, aI cy 121 (u_30.1))], [(mif, aZ cy 16 (u_30.2.2.1))], [(mmg, aI cy 16 (u_30.2.2.2.1))], [(mtn, aI cy 16 (u_30.2.2.2.2.1))], [(mie, aZ cy 4 (u_30.2.2.2.2.2.1))], [(mme, aI cy 4 (u_30.2.2.2.2.2.2.1))], [(mrd, aI cy 100 (rd))], [(mas, aI cy 115 (as9))]]) hD [4, 5, 0, 1, 6, 7, 8, 9, 10, 11, 2, 3] (by decide) rfl
      have hP : va_P D vwCl [(mdB cy mo mz msv mtx mmo mif mmg mtn mie mme mrd mas (0) (hz) (len) (u_30.2.1) (u_30.2.2.2.2.2.2.2.1) (u_30.2.2.2.2.2.2.2.2) (sp) (it) (bl) (hh) (z) (sd) (bf) (u_30.1) (u_30.2.2.1) (u_30.2.2.2.1) (u_30.2.2.2.2.1) (u_30.2.2.2.2.2.1) (u_30.2.2.2.2.2.2.1) (rd) (as9)).flatten].flatten H := by rw [fl_open]; exact hP
      have hD : va_D A [(mdB cy mo mz msv mtx mmo mif mmg mtn mie mme mrd mas (0) (hz) (len) (u_30.2.1) (u_30.2.2.2.2.2.2.2.1) (u_30.2.2.2.2.2.2.2.2) (sp) (it) (bl) (hh) (z) (sd) (bf) (u_30.1) (u_30.2.2.1) (u_30.2.2.2.1) (u_30.2.2.2.2.1) (u_30.2.2.2.2.2.1) (u_30.2.2.2.2.2.2.1) (rd) (as9)).flatten].flatten := by rw [fl_open]; exact hD
      exact hQ _ _ _ _ _ ((mdB cy mo mz msv mtx mmo mif mmg mtn mie mme mrd mas (0) (hz) (len) (u_30.2.1) (u_30.2.2.2.2.2.2.2.1) (u_30.2.2.2.2.2.2.2.2) (sp) (it) (bl) (hh) (z) (sd) (bf) (u_30.1) (u_30.2.2.1) (u_30.2.2.2.1) (u_30.2.2.2.2.1) (u_30.2.2.2.2.2.1) (u_30.2.2.2.2.2.2.1) (rd) (as9)).flatten) ⟨by rw [← nsT_eq hL2 k], ⟨(u_30.2.1), (u_30.2.2.2.2.2.2.2.1), (u_30.2.2.2.2.2.2.2.2), (sp), (it), (bl), (hh), (z), (sd), (bf), (u_30.1), (u_30.2.2.1), (u_30.2.2.2.1), (u_30.2.2.2.2.1), (u_30.2.2.2.2.2.1), (u_30.2.2.2.2.2.2.1), (rd), (as9), rfl, ⟨hL, hz20, hz101⟩, ⟨hhz, hHZ⟩, hln, hbf, htx⟩⟩ hP hD hS dX8_neededStrength_33
    · skip
      exact absurd c_21 (by decide)

set_option maxRecDepth 100000 in
set_option maxHeartbeats 4000000 in
theorem c_X8_neededStrength_no1 (l : Launch) (D : va_G) (cy : Nat → ClassId) (mo mz msv mtx mmo mif mmg mtn mie mme mrd mas : Nat) (T : LSt) (hz : Nat) (HZ : Nat → LSt) (len : Nat) (tx : Nat → Int) (th : Int) (W : va_W) (hG : gOk T) (hW : MW cy mo mz msv mtx mmo mif mmg mtn mie mme mrd mas T hz HZ len tx th W) (p0 : Int) (r0 : (-2147483648 ≤ p0 ∧ p0 < 2147483648)) (hx : ¬ (0 ≤ p0 ∧ p0 < (lN9 T : Int))) (sz : Nat) : qMet l yX8_neededStrength (.code yX8_neededStrength cX8_neededStrength 2 (some .int)) 8 [.ref (mo), .int (qI (p0))] D cy [W] sz (va_Qi (S := va_W) (fun r u => MW cy mo mz msv mtx mmo mif mmg mtn mie mme mrd mas T hz HZ len tx 1 u) (qB D cy [W] sz (fun u => [u])) (va_A [W].flatten sz)) := by
  refine q_ofMi (S := va_W) (b1 := fun u => [u]) (post := fun r u => MW cy mo mz msv mtx mmo mif mmg mtn mie mme mrd mas T hz HZ len tx 1 u) (by decide +kernel) (Nat.le_of_ble_eq_true rfl) ?_
  intro p e s m args below meth c Q A hx hb hml hown hg hQ hK hN hD hA H locs ls hP hS hl
  have hown : s.vm.findClass RX8 = some m.cls := hown
  have hl : lv_has ls 2 [(0, .ref (mo)), (1, .int (qI (p0)))] := hl
  have hW0 := hW
  obtain ⟨tu, fi, ro, sp, it, bl, hh, z, sd, bf, g, isF, mg, tn, isE, mE, rd, as9, rfl, ⟨hL, hz20, hz101⟩, ⟨hhz, hHZ⟩, hln, hbf, htx⟩ := hW
  obtain ⟨gV, gT, gC, gE, gI, gD⟩ := hG.eq hL
  obtain ⟨nc, hnc⟩ : ∃ nc : Nat, z 20 = (nc : Int) := ⟨(z 20).toNat, by omega⟩
  obtain ⟨ne, hne⟩ : ∃ ne : Nat, z 101 = (ne : Int) := ⟨(z 101).toNat, by omega⟩
  have e20 : (z 20).toNat = nc := by omega
  have e101 : (z 101).toNat = ne := by omega
  have hV : qV z := gV
  have hst : ∀ i, i < 10 → 0 ≤ z (10 + i) ∧ z (10 + i) ≤ 9 := gT
  have hc : nc ≤ 16 := e20 ▸ (gC.1 : (z 20).toNat ≤ 16)
  have hC : qWR (zC z) nc := e20 ▸ (gC.2 : qWR (zC z) (z 20).toNat)
  have he : ne ≤ 4 := e101 ▸ (gE.1 : (z 101).toNat ≤ 4)
  have hE : qWR (zE z) ne := e101 ▸ (gE.2 : qWR (zE z) (z 101).toNat)
  have hD9 : ∀ i j, i < ne → j < ne → zE z 0 i = zE z 0 j → i = j := e101 ▸ (gD : ∀ i j, i < (z 101).toNat → j < (z 101).toNat → zE z 0 i = zE z 0 j → i = j)
  have hL2 : LEq (z, (fun i => z (10 + i)), zC z, nc, zE z, ne) T := by rw [← e20, ← e101]; exact hL
  have en : nc = lN9 T := hL2.2.2.1
  have em : ne = lM T := hL2.2.2.2.2.1
  rw [fl_open] at hP hD
  have hP : va_P D vwCl [[(mo, .inr (8, [.int (qI (th)), .ref (mz), .int (qI (((hz : Nat) : Int))), .ref (msv), .int (qI (((len : Nat) : Int))), .ref (mtx), .ref (mmo), .int (qI (tu)), .ref (mif), .ref (mmg), .ref (mtn), .ref (mie), .ref (mme), .int (qz (fi)), .int (qI (ro)), .int (qI (sp)), .int (qI (it)), .int (qz (bl)), .ref (mrd), .ref (mas), .long (hh)]))], [(mz, aI cy 115 (z))], [(msv, aI cy 920 (sd))], [(mtx, aI cy 60 (bf))], [(mmo, aI cy 121 (g))], [(mif, aZ cy 16 (isF))], [(mmg, aI cy 16 (mg))], [(mtn, aI cy 16 (tn))], [(mie, aZ cy 4 (isE))], [(mme, aI cy 4 (mE))], [(mrd, aI cy 100 (rd))], [(mas, aI cy 115 (as9))]].flatten H := hP
  have hD : va_D A [[(mo, .inr (8, [.int (qI (th)), .ref (mz), .int (qI (((hz : Nat) : Int))), .ref (msv), .int (qI (((len : Nat) : Int))), .ref (mtx), .ref (mmo), .int (qI (tu)), .ref (mif), .ref (mmg), .ref (mtn), .ref (mie), .ref (mme), .int (qz (fi)), .int (qI (ro)), .int (qI (sp)), .int (qI (it)), .int (qz (bl)), .ref (mrd), .ref (mas), .long (hh)]))], [(mz, aI cy 115 (z))], [(msv, aI cy 920 (sd))], [(mtx, aI cy 60 (bf))], [(mmo, aI cy 121 (g))], [(mif, aZ cy 16 (isF))], [(mmg, aI cy 16 (mg))], [(mtn, aI cy 16 (tn))], [(mie, aZ cy 4 (isE))], [(mme, aI cy 4 (mE))], [(mrd, aI cy 100 (rd))], [(mas, aI cy 115 (as9))]].flatten := hD
  refine lv_aload_n hx hb dX8_neededStrength_0 rfl (lv_at hl 0 rfl) ?_
  refine lv_aload_n hx hb dX8_neededStrength_1 rfl (lv_at hl 0 rfl) ?_
  refine lv_iload_n hx hb dX8_neededStrength_2 rfl (lv_at hl 1 rfl) ?_
  refine q_readz (va_runV (As := [.int (qI (p0))]) (rest := [.ref (mo)]) ⟨hx, hb, hml, hown, hg⟩ (c_X8_isCondition l D cy mo mz msv mtx mmo mif mmg mtn mie mme mrd mas (th) (((hz : Nat) : Int)) (((len : Nat) : Int)) (tu) (fi) (ro) (sp) (it) (bl) (hh) (z) nc _ (by omega) hnc hc) (cv_X8_114 hg rfl rfl ⟨by decide, by decide⟩) ⟨q_blind0, va_recv hK (fl_blk hP 0 rfl) (ci := 8) (q0 := 0) rfl rfl, q_preR _ hK hN hP [0, 1] rfl⟩ rfl rfl hl.1 rfl (lv_room (Nat.le_of_ble_eq_true rfl)) dX8_neededStrength_3 ⟨by decide, by decide⟩) (fun b_3 h_3 => ?_)
  refine q_ifz_eq (tgt := 13) hx hb dX8_neededStrength_6 (by decide) (fun c_6 => ?_) (fun c_6 => ?_)
  · skip
    have g_6 := mt (h_3).mpr (by rw [c_6]; decide)
    refine q_iconst hx hb dX8_neededStrength_13 ?_
    refine pf_X8_44 hx hb hg hown hK hP hD hS 0 0 rfl rfl rfl rfl (Nat.le_of_ble_eq_true rfl) dX8_neededStrength_14 (fun H locs hP hD hS => ?_)
    have hP : va_P D vwCl [[(mo, .inr (8, [.int (qI (1)), .ref (mz), .int (qI (((hz : Nat) : Int))), .ref (msv), .int (qI (((len : Nat) : Int))), .ref (mtx), .ref (mmo), .int (qI (tu)), .ref (mif), .ref (mmg), .ref (mtn), .ref (mie), .ref (mme), .int (qz (fi)), .int (qI (ro)), .int (qI (sp)), .int (qI (it)), .int (qz (bl)), .ref (mrd), .ref (mas), .long (hh)]))], [(mz, aI cy 115 (z))], [(msv, aI cy 920 (sd))], [(mtx, aI cy 60 (bf))], [(mmo, aI cy 121 (g))], [(mif, aZ cy 16 (isF))], [(mmg, aI cy 16 (mg))], [(mtn, aI cy 16 (tn))], [(mie, aZ cy 4 (isE))], [(mme, aI cy 4 (mE))], [(mrd, aI cy 100 (rd))], [(mas, aI cy 115 (as9))]].flatten H := hP
    have hD : va_D A [[(mo, .inr (8, [.int (qI (1)), .ref (mz), .int (qI (((hz : Nat) : Int))), .ref (msv), .int (qI (((len : Nat) : Int))), .ref (mtx), .ref (mmo), .int (qI (tu)), .ref (mif), .ref (mmg), .ref (mtn), .ref (mie), .ref (mme), .int (qz (fi)), .int (qI (ro)), .int (qI (sp)), .int (qI (it)), .int (qz (bl)), .ref (mrd), .ref (mas), .long (hh)]))], [(mz, aI cy 115 (z))], [(msv, aI cy 920 (sd))], [(mtx, aI cy 60 (bf))], [(mmo, aI cy 121 (g))], [(mif, aZ cy 16 (isF))], [(mmg, aI cy 16 (mg))], [(mtn, aI cy 16 (tn))], [(mie, aZ cy 4 (isE))], [(mme, aI cy 4 (mE))], [(mrd, aI cy 100 (rd))], [(mas, aI cy 115 (as9))]].flatten := hD
    refine lv_aload_n hx hb dX8_neededStrength_17 rfl (lv_at hl 0 rfl) ?_
    refine gf_X8_44 hx hb hg hown hK (fl_blk hP 0 rfl) 0 rfl rfl dX8_neededStrength_18 ?_
    refine q_if_le (tgt := 28) hx hb dX8_neededStrength_21 (by decide) (by omega) (fun c_21 => ?_) (fun c_21 => ?_)
    · skip
      exact absurd c_21 (by decide)
    · skip
      refine q_iconst hx hb dX8_neededStrength_24 ?_
      refine lv_goto (tgt := 33) hx hb dX8_neededStrength_25 (by decide) ?_
      have hP : va_P D vwCl [(mdB cy mo mz msv mtx mmo mif mmg mtn mie mme mrd mas (1) (hz) (len) (tu) (fi) (ro) (sp) (it) (bl) (hh) (z) (sd) (bf) (g) (isF) (mg) (tn) (isE) (mE) (rd) (as9)).flatten].flatten H := by rw [fl_open]; exact hP
      have hD : va_D A [(mdB cy mo mz msv mtx mmo mif mmg mtn mie mme mrd mas (1) (hz) (len) (tu) (fi) (ro) (sp) (it) (bl) (hh) (z) (sd) (bf) (g) (isF) (mg) (tn) (isE) (mE) (rd) (as9)).flatten].flatten := by rw [fl_open]; exact hD
      exact hQ _ _ _ _ _ ((mdB cy mo mz msv mtx mmo mif mmg mtn mie mme mrd mas (1) (hz) (len) (tu) (fi) (ro) (sp) (it) (bl) (hh) (z) (sd) (bf) (g) (isF) (mg) (tn) (isE) (mE) (rd) (as9)).flatten) ⟨(tu), (fi), (ro), (sp), (it), (bl), (hh), (z), (sd), (bf), (g), (isF), (mg), (tn), (isE), (mE), (rd), (as9), rfl, ⟨hL, hz20, hz101⟩, ⟨hhz, hHZ⟩, hln, hbf, htx⟩ hP hD hS dX8_neededStrength_33
  · skip
    have g_6 := (h_3).mp c_6
    exfalso; omega

set_option maxRecDepth 100000 in
set_option maxHeartbeats 4000000 in
theorem c_X8_append (l : Launch) (D : va_G) (cy : Nat → ClassId) (mo mz msv mtx mmo mif mmg mtn mie mme mrd mas : Nat) (T : LSt) (hz : Nat) (HZ : Nat → LSt) (len : Nat) (tx : Nat → Int) (th : Int) (W : va_W) (hG : gOk T) (hW : MW cy mo mz msv mtx mmo mif mmg mtn mie mme mrd mas T hz HZ len tx th W) (p0 : Int) (h0 : 33 ≤ p0 ∧ p0 ≤ 126) (hn : len < 60) (sz : Nat) : qMet l yX8_append (.code yX8_append cX8_append 2 (some .int)) 8 [.ref (mo), .int (qI (p0))] D cy [W] sz (va_Qi (S := va_W) (fun r u => r = qI (((len + 1 : Nat) : Int)) ∧ MW cy mo mz msv mtx mmo mif mmg mtn mie mme mrd mas T hz HZ (len + 1) (qu tx len p0) 0 u) (qB D cy [W] sz (fun u => [u])) (va_A [W].flatten sz)) := by
  refine q_ofMi (S := va_W) (b1 := fun u => [u]) (post := fun r u => r = qI (((len + 1 : Nat) : Int)) ∧ MW cy mo mz msv mtx mmo mif mmg mtn mie mme mrd mas T hz HZ (len + 1) (qu tx len p0) 0 u) (by decide +kernel) (Nat.le_of_ble_eq_true rfl) ?_
  intro p e s m args below meth c Q A hx hb hml hown hg hQ hK hN hD hA H locs ls hP hS hl
  have hown : s.vm.findClass RX8 = some m.cls := hown
  have hl : lv_has ls 2 [(0, .ref (mo)), (1, .int (qI (p0)))] := hl
  have hW0 := hW
  obtain ⟨tu, fi, ro, sp, it, bl, hh, z, sd, bf, g, isF, mg, tn, isE, mE, rd, as9, rfl, ⟨hL, hz20, hz101⟩, ⟨hhz, hHZ⟩, hln, hbf, htx⟩ := hW
  obtain ⟨gV, gT, gC, gE, gI, gD⟩ := hG.eq hL
  obtain ⟨nc, hnc⟩ : ∃ nc : Nat, z 20 = (nc : Int) := ⟨(z 20).toNat, by omega⟩
  obtain ⟨ne, hne⟩ : ∃ ne : Nat, z 101 = (ne : Int) := ⟨(z 101).toNat, by omega⟩
  have e20 : (z 20).toNat = nc := by omega
  have e101 : (z 101).toNat = ne := by omega
  have hV : qV z := gV
  have hst : ∀ i, i < 10 → 0 ≤ z (10 + i) ∧ z (10 + i) ≤ 9 := gT
  have hc : nc ≤ 16 := e20 ▸ (gC.1 : (z 20).toNat ≤ 16)
  have hC : qWR (zC z) nc := e20 ▸ (gC.2 : qWR (zC z) (z 20).toNat)
  have he : ne ≤ 4 := e101 ▸ (gE.1 : (z 101).toNat ≤ 4)
  have hE : qWR (zE z) ne := e101 ▸ (gE.2 : qWR (zE z) (z 101).toNat)
  have hD9 : ∀ i j, i < ne → j < ne → zE z 0 i = zE z 0 j → i = j := e101 ▸ (gD : ∀ i j, i < (z 101).toNat → j < (z 101).toNat → zE z 0 i = zE z 0 j → i = j)
  have hL2 : LEq (z, (fun i => z (10 + i)), zC z, nc, zE z, ne) T := by rw [← e20, ← e101]; exact hL
  have en : nc = lN9 T := hL2.2.2.1
  have em : ne = lM T := hL2.2.2.2.2.1
  rw [fl_open] at hP hD
  have hP : va_P D vwCl [[(mo, .inr (8, [.int (qI (th)), .ref (mz), .int (qI (((hz : Nat) : Int))), .ref (msv), .int (qI (((len : Nat) : Int))), .ref (mtx), .ref (mmo), .int (qI (tu)), .ref (mif), .ref (mmg), .ref (mtn), .ref (mie), .ref (mme), .int (qz (fi)), .int (qI (ro)), .int (qI (sp)), .int (qI (it)), .int (qz (bl)), .ref (mrd), .ref (mas), .long (hh)]))], [(mz, aI cy 115 (z))], [(msv, aI cy 920 (sd))], [(mtx, aI cy 60 (bf))], [(mmo, aI cy 121 (g))], [(mif, aZ cy 16 (isF))], [(mmg, aI cy 16 (mg))], [(mtn, aI cy 16 (tn))], [(mie, aZ cy 4 (isE))], [(mme, aI cy 4 (mE))], [(mrd, aI cy 100 (rd))], [(mas, aI cy 115 (as9))]].flatten H := hP
  have hD : va_D A [[(mo, .inr (8, [.int (qI (th)), .ref (mz), .int (qI (((hz : Nat) : Int))), .ref (msv), .int (qI (((len : Nat) : Int))), .ref (mtx), .ref (mmo), .int (qI (tu)), .ref (mif), .ref (mmg), .ref (mtn), .ref (mie), .ref (mme), .int (qz (fi)), .int (qI (ro)), .int (qI (sp)), .int (qI (it)), .int (qz (bl)), .ref (mrd), .ref (mas), .long (hh)]))], [(mz, aI cy 115 (z))], [(msv, aI cy 920 (sd))], [(mtx, aI cy 60 (bf))], [(mmo, aI cy 121 (g))], [(mif, aZ cy 16 (isF))], [(mmg, aI cy 16 (mg))], [(mtn, aI cy 16 (tn))], [(mie, aZ cy 4 (isE))], [(mme, aI cy 4 (mE))], [(mrd, aI cy 100 (rd))], [(mas, aI cy 115 (as9))]].flatten := hD
  refine lv_aload_n hx hb dX8_append_0 rfl (lv_at hl 0 rfl) ?_
  refine lv_iload_n hx hb dX8_append_1 rfl (lv_at hl 1 rfl) ?_
  refine q_bipush hx hb dX8_append_2 (by decide) ?_
  refine q_bipush hx hb dX8_append_4 (by decide) ?_
  refine q_readz (va_runS (As := [.int (qI (p0)), .int (qI (33)), .int (qI (126))]) (rest := [.ref (mo)]) ⟨hx, hb, hml, hown, hg⟩ (c_X8_within l D cy _ _ _ (by omega)) (cs_X8_48 hg rfl rfl ⟨by decide, by decide⟩) ⟨q_blind0, q_preR _ hK hN hP [] rfl⟩ rfl rfl hl.1 rfl (lv_room (Nat.le_of_ble_eq_true rfl)) dX8_append_6 ⟨by decide, by decide⟩) (fun b_6 h_6 => ?_)
  refine q_ifz_ne (tgt := 16) hx hb dX8_append_9 (by decide) (fun c_9 => ?_) (fun c_9 => ?_)
  · skip
    have g_9 := (h_6).mp c_9
    refine lv_aload_n hx hb dX8_append_16 rfl (lv_at hl 0 rfl) ?_
    refine gf_X8_129 hx hb hg hown hK (fl_blk hP 0 rfl) 0 rfl rfl dX8_append_17 ?_
    refine q_bipush hx hb dX8_append_20 (by decide) ?_
    refine q_icmp_ne (tgt := 29) hx hb dX8_append_22 (by decide) (by omega) (fun c_22 => ?_) (fun c_22 => ?_)
    · skip
      refine q_iconst hx hb dX8_append_29 ?_
      refine pf_X8_44 hx hb hg hown hK hP hD hS 0 0 rfl rfl rfl rfl (Nat.le_of_ble_eq_true rfl) dX8_append_30 (fun H locs hP hD hS => ?_)
      have hP : va_P D vwCl [[(mo, .inr (8, [.int (qI (0)), .ref (mz), .int (qI (((hz : Nat) : Int))), .ref (msv), .int (qI (((len : Nat) : Int))), .ref (mtx), .ref (mmo), .int (qI (tu)), .ref (mif), .ref (mmg), .ref (mtn), .ref (mie), .ref (mme), .int (qz (fi)), .int (qI (ro)), .int (qI (sp)), .int (qI (it)), .int (qz (bl)), .ref (mrd), .ref (mas), .long (hh)]))], [(mz, aI cy 115 (z))], [(msv, aI cy 920 (sd))], [(mtx, aI cy 60 (bf))], [(mmo, aI cy 121 (g))], [(mif, aZ cy 16 (isF))], [(mmg, aI cy 16 (mg))], [(mtn, aI cy 16 (tn))], [(mie, aZ cy 4 (isE))], [(mme, aI cy 4 (mE))], [(mrd, aI cy 100 (rd))], [(mas, aI cy 115 (as9))]].flatten H := hP
      have hD : va_D A [[(mo, .inr (8, [.int (qI (0)), .ref (mz), .int (qI (((hz : Nat) : Int))), .ref (msv), .int (qI (((len : Nat) : Int))), .ref (mtx), .ref (mmo), .int (qI (tu)), .ref (mif), .ref (mmg), .ref (mtn), .ref (mie), .ref (mme), .int (qz (fi)), .int (qI (ro)), .int (qI (sp)), .int (qI (it)), .int (qz (bl)), .ref (mrd), .ref (mas), .long (hh)]))], [(mz, aI cy 115 (z))], [(msv, aI cy 920 (sd))], [(mtx, aI cy 60 (bf))], [(mmo, aI cy 121 (g))], [(mif, aZ cy 16 (isF))], [(mmg, aI cy 16 (mg))], [(mtn, aI cy 16 (tn))], [(mie, aZ cy 4 (isE))], [(mme, aI cy 4 (mE))], [(mrd, aI cy 100 (rd))], [(mas, aI cy 115 (as9))]].flatten := hD
      refine lv_aload_n hx hb dX8_append_33 rfl (lv_at hl 0 rfl) ?_
      refine gf_X8_44 hx hb hg hown hK (fl_blk hP 0 rfl) 0 rfl rfl dX8_append_34 ?_
      refine q_if_le (tgt := 42) hx hb dX8_append_37 (by decide) (by omega) (fun c_37 => ?_) (fun c_37 => ?_)
      · skip
        refine lv_aload_n hx hb dX8_append_42 rfl (lv_at hl 0 rfl) ?_
        refine gf_X8_16 hx hb hg hown hK (fl_blk hP 0 rfl) 0 rfl rfl dX8_append_43 ?_
        refine lv_aload_n hx hb dX8_append_46 rfl (lv_at hl 0 rfl) ?_
        refine gf_X8_129 hx hb hg hown hK (fl_blk hP 0 rfl) 0 rfl rfl dX8_append_47 ?_
        refine lv_iload_n hx hb dX8_append_50 rfl (lv_at hl 1 rfl) ?_
        refine qb_iast (j := len) hx hb hK hP hD hS 3 0 rfl rfl (by omega) dX8_append_51 (fun H locs hP hD hS => ?_)
        have hP : va_P D vwCl [[(mo, .inr (8, [.int (qI (0)), .ref (mz), .int (qI (((hz : Nat) : Int))), .ref (msv), .int (qI (((len : Nat) : Int))), .ref (mtx), .ref (mmo), .int (qI (tu)), .ref (mif), .ref (mmg), .ref (mtn), .ref (mie), .ref (mme), .int (qz (fi)), .int (qI (ro)), .int (qI (sp)), .int (qI (it)), .int (qz (bl)), .ref (mrd), .ref (mas), .long (hh)]))], [(mz, aI cy 115 (z))], [(msv, aI cy 920 (sd))], [(mtx, aI cy 60 (qu bf len (p0)))], [(mmo, aI cy 121 (g))], [(mif, aZ cy 16 (isF))], [(mmg, aI cy 16 (mg))], [(mtn, aI cy 16 (tn))], [(mie, aZ cy 4 (isE))], [(mme, aI cy 4 (mE))], [(mrd, aI cy 100 (rd))], [(mas, aI cy 115 (as9))]].flatten H := hP
        have hD : va_D A [[(mo, .inr (8, [.int (qI (0)), .ref (mz), .int (qI (((hz : Nat) : Int))), .ref (msv), .int (qI (((len : Nat) : Int))), .ref (mtx), .ref (mmo), .int (qI (tu)), .ref (mif), .ref (mmg), .ref (mtn), .ref (mie), .ref (mme), .int (qz (fi)), .int (qI (ro)), .int (qI (sp)), .int (qI (it)), .int (qz (bl)), .ref (mrd), .ref (mas), .long (hh)]))], [(mz, aI cy 115 (z))], [(msv, aI cy 920 (sd))], [(mtx, aI cy 60 (qu bf len (p0)))], [(mmo, aI cy 121 (g))], [(mif, aZ cy 16 (isF))], [(mmg, aI cy 16 (mg))], [(mtn, aI cy 16 (tn))], [(mie, aZ cy 4 (isE))], [(mme, aI cy 4 (mE))], [(mrd, aI cy 100 (rd))], [(mas, aI cy 115 (as9))]].flatten := hD
        refine lv_aload_n hx hb dX8_append_52 rfl (lv_at hl 0 rfl) ?_
        refine lv_dup hx hb dX8_append_53 rfl ?_
        refine gf_X8_129 hx hb hg hown hK (fl_blk hP 0 rfl) 0 rfl rfl dX8_append_54 ?_
        refine q_iconst hx hb dX8_append_57 ?_
        refine q_iadd hx hb dX8_append_58 ?_
        refine pf_X8_129 hx hb hg hown hK hP hD hS 0 0 rfl rfl rfl rfl (Nat.le_of_ble_eq_true rfl) dX8_append_59 (fun H locs hP hD hS => ?_)
        have hP : va_P D vwCl [[(mo, .inr (8, [.int (qI (0)), .ref (mz), .int (qI (((hz : Nat) : Int))), .ref (msv), .int (qI ((((len : Nat) : Int)) + (1))), .ref (mtx), .ref (mmo), .int (qI (tu)), .ref (mif), .ref (mmg), .ref (mtn), .ref (mie), .ref (mme), .int (qz (fi)), .int (qI (ro)), .int (qI (sp)), .int (qI (it)), .int (qz (bl)), .ref (mrd), .ref (mas), .long (hh)]))], [(mz, aI cy 115 (z))], [(msv, aI cy 920 (sd))], [(mtx, aI cy 60 (qu bf len (p0)))], [(mmo, aI cy 121 (g))], [(mif, aZ cy 16 (isF))], [(mmg, aI cy 16 (mg))], [(mtn, aI cy 16 (tn))], [(mie, aZ cy 4 (isE))], [(mme, aI cy 4 (mE))], [(mrd, aI cy 100 (rd))], [(mas, aI cy 115 (as9))]].flatten H := hP
        have hD : va_D A [[(mo, .inr (8, [.int (qI (0)), .ref (mz), .int (qI (((hz : Nat) : Int))), .ref (msv), .int (qI ((((len : Nat) : Int)) + (1))), .ref (mtx), .ref (mmo), .int (qI (tu)), .ref (mif), .ref (mmg), .ref (mtn), .ref (mie), .ref (mme), .int (qz (fi)), .int (qI (ro)), .int (qI (sp)), .int (qI (it)), .int (qz (bl)), .ref (mrd), .ref (mas), .long (hh)]))], [(mz, aI cy 115 (z))], [(msv, aI cy 920 (sd))], [(mtx, aI cy 60 (qu bf len (p0)))], [(mmo, aI cy 121 (g))], [(mif, aZ cy 16 (isF))], [(mmg, aI cy 16 (mg))], [(mtn, aI cy 16 (tn))], [(mie, aZ cy 4 (isE))], [(mme, aI cy 4 (mE))], [(mrd, aI cy 100 (rd))], [(mas, aI cy 115 (as9))]].flatten := hD
        refine lv_aload_n hx hb dX8_append_62 rfl (lv_at hl 0 rfl) ?_
        refine gf_X8_129 hx hb hg hown hK (fl_blk hP 0 rfl) 0 rfl rfl dX8_append_63 ?_
        have hP : va_P D vwCl [(mdB cy mo mz msv mtx mmo mif mmg mtn mie mme mrd mas (0) (hz) ((len + 1)) (tu) (fi) (ro) (sp) (it) (bl) (hh) (z) (sd) (qu bf len (p0)) (g) (isF) (mg) (tn) (isE) (mE) (rd) (as9)).flatten].flatten H := by rw [fl_open]; exact hP
        have hD : va_D A [(mdB cy mo mz msv mtx mmo mif mmg mtn mie mme mrd mas (0) (hz) ((len + 1)) (tu) (fi) (ro) (sp) (it) (bl) (hh) (z) (sd) (qu bf len (p0)) (g) (isF) (mg) (tn) (isE) (mE) (rd) (as9)).flatten].flatten := by rw [fl_open]; exact hD
        exact hQ _ _ _ _ _ ((mdB cy mo mz msv mtx mmo mif mmg mtn mie mme mrd mas (0) (hz) ((len + 1)) (tu) (fi) (ro) (sp) (it) (bl) (hh) (z) (sd) (qu bf len (p0)) (g) (isF) (mg) (tn) (isE) (mE) (rd) (as9)).flatten) ⟨rfl, ⟨(tu), (fi), (ro), (sp), (it), (bl), (hh), (z), (sd), (qu bf len (p0)), (g), (isF), (mg), (tn), (isE), (mE), (rd), (as9), rfl, ⟨hL, hz20, hz101⟩, ⟨hhz, hHZ⟩, by omega, buf_app hbf, buf_rng h0 htx⟩⟩ hP hD hS dX8_append_66
      · skip
        exact absurd c_37 (by decide)
    · skip
      exfalso; omega
  · skip
    have g_9 := mt (h_6).mpr (by rw [c_9]; decide)
    exfalso; omega

set_option maxRecDepth 100000 in
set_option maxHeartbeats 4000000 in
theorem c_X8_append_no1 (l : Launch) (D : va_G) (cy : Nat → ClassId) (mo mz msv mtx mmo mif mmg mtn mie mme mrd mas : Nat) (T : LSt) (hz : Nat) (HZ : Nat → LSt) (len : Nat) (tx : Nat → Int) (th : Int) (W : va_W) (hG : gOk T) (hW : MW cy mo mz msv mtx mmo mif mmg mtn mie mme mrd mas T hz HZ len tx th W) (p0 : Int) (r0 : (-2147483648 ≤ p0 ∧ p0 < 2147483648)) (hx : ¬ (33 ≤ p0 ∧ p0 ≤ 126)) (sz : Nat) : qMet l yX8_append (.code yX8_append cX8_append 2 (some .int)) 8 [.ref (mo), .int (qI (p0))] D cy [W] sz (va_Qi (S := va_W) (fun r u => MW cy mo mz msv mtx mmo mif mmg mtn mie mme mrd mas T hz HZ len tx 1 u) (qB D cy [W] sz (fun u => [u])) (va_A [W].flatten sz)) := by
  refine q_ofMi (S := va_W) (b1 := fun u => [u]) (post := fun r u => MW cy mo mz msv mtx mmo mif mmg mtn mie mme mrd mas T hz HZ len tx 1 u) (by decide +kernel) (Nat.le_of_ble_eq_true rfl) ?_
  intro p e s m args below meth c Q A hx hb hml hown hg hQ hK hN hD hA H locs ls hP hS hl
  have hown : s.vm.findClass RX8 = some m.cls := hown
  have hl : lv_has ls 2 [(0, .ref (mo)), (1, .int (qI (p0)))] := hl
  have hW0 := hW
  obtain ⟨tu, fi, ro, sp, it, bl, hh, z, sd, bf, g, isF, mg, tn, isE, mE, rd, as9, rfl, ⟨hL, hz20, hz101⟩, ⟨hhz, hHZ⟩, hln, hbf, htx⟩ := hW
  obtain ⟨gV, gT, gC, gE, gI, gD⟩ := hG.eq hL
  obtain ⟨nc, hnc⟩ : ∃ nc : Nat, z 20 = (nc : Int) := ⟨(z 20).toNat, by omega⟩
  obtain ⟨ne, hne⟩ : ∃ ne : Nat, z 101 = (ne : Int) := ⟨(z 101).toNat, by omega⟩
  have e20 : (z 20).toNat = nc := by omega
  have e101 : (z 101).toNat = ne := by omega
  have hV : qV z := gV
  have hst : ∀ i, i < 10 → 0 ≤ z (10 + i) ∧ z (10 + i) ≤ 9 := gT
  have hc : nc ≤ 16 := e20 ▸ (gC.1 : (z 20).toNat ≤ 16)
  have hC : qWR (zC z) nc := e20 ▸ (gC.2 : qWR (zC z) (z 20).toNat)
  have he : ne ≤ 4 := e101 ▸ (gE.1 : (z 101).toNat ≤ 4)
  have hE : qWR (zE z) ne := e101 ▸ (gE.2 : qWR (zE z) (z 101).toNat)
  have hD9 : ∀ i j, i < ne → j < ne → zE z 0 i = zE z 0 j → i = j := e101 ▸ (gD : ∀ i j, i < (z 101).toNat → j < (z 101).toNat → zE z 0 i = zE z 0 j → i = j)
  have hL2 : LEq (z, (fun i => z (10 + i)), zC z, nc, zE z, ne) T := by rw [← e20, ← e101]; exact hL
  have en : nc = lN9 T := hL2.2.2.1
  have em : ne = lM T := hL2.2.2.2.2.1
  rw [fl_open] at hP hD
  have hP : va_P D vwCl [[(mo, .inr (8, [.int (qI (th)), .ref (mz), .int (qI (((hz : Nat) : Int))), .ref (msv), .int (qI (((len : Nat) : Int))), .ref (mtx), .ref (mmo), .int (qI (tu)), .ref (mif), .ref (mmg), .ref (mtn), .ref (mie), .ref (mme), .int (qz (fi)), .int (qI (ro)), .int (qI (sp)), .int (qI (it)), .int (qz (bl)), .ref (mrd), .ref (mas), .long (hh)]))], [(mz, aI cy 115 (z))], [(msv, aI cy 920 (sd))], [(mtx, aI cy 60 (bf))], [(mmo, aI cy 121 (g))], [(mif, aZ cy 16 (isF))], [(mmg, aI cy 16 (mg))], [(mtn, aI cy 16 (tn))], [(mie, aZ cy 4 (isE))], [(mme, aI cy 4 (mE))], [(mrd, aI cy 100 (rd))], [(mas, aI cy 115 (as9))]].flatten H := hP
  have hD : va_D A [[(mo, .inr (8, [.int (qI (th)), .ref (mz), .int (qI (((hz : Nat) : Int))), .ref (msv), .int (qI (((len : Nat) : Int))), .ref (mtx), .ref (mmo), .int (qI (tu)), .ref (mif), .ref (mmg), .ref (mtn), .ref (mie), .ref (mme), .int (qz (fi)), .int (qI (ro)), .int (qI (sp)), .int (qI (it)), .int (qz (bl)), .ref (mrd), .ref (mas), .long (hh)]))], [(mz, aI cy 115 (z))], [(msv, aI cy 920 (sd))], [(mtx, aI cy 60 (bf))], [(mmo, aI cy 121 (g))], [(mif, aZ cy 16 (isF))], [(mmg, aI cy 16 (mg))], [(mtn, aI cy 16 (tn))], [(mie, aZ cy 4 (isE))], [(mme, aI cy 4 (mE))], [(mrd, aI cy 100 (rd))], [(mas, aI cy 115 (as9))]].flatten := hD
  refine lv_aload_n hx hb dX8_append_0 rfl (lv_at hl 0 rfl) ?_
  refine lv_iload_n hx hb dX8_append_1 rfl (lv_at hl 1 rfl) ?_
  refine q_bipush hx hb dX8_append_2 (by decide) ?_
  refine q_bipush hx hb dX8_append_4 (by decide) ?_
  refine q_readz (va_runS (As := [.int (qI (p0)), .int (qI (33)), .int (qI (126))]) (rest := [.ref (mo)]) ⟨hx, hb, hml, hown, hg⟩ (c_X8_within l D cy _ _ _ (by omega)) (cs_X8_48 hg rfl rfl ⟨by decide, by decide⟩) ⟨q_blind0, q_preR _ hK hN hP [] rfl⟩ rfl rfl hl.1 rfl (lv_room (Nat.le_of_ble_eq_true rfl)) dX8_append_6 ⟨by decide, by decide⟩) (fun b_6 h_6 => ?_)
  refine q_ifz_ne (tgt := 16) hx hb dX8_append_9 (by decide) (fun c_9 => ?_) (fun c_9 => ?_)
  · skip
    have g_9 := (h_6).mp c_9
    exfalso; omega
  · skip
    have g_9 := mt (h_6).mpr (by rw [c_9]; decide)
    refine q_iconst hx hb dX8_append_12 ?_
    refine lv_goto (tgt := 30) hx hb dX8_append_13 (by decide) ?_
    refine pf_X8_44 hx hb hg hown hK hP hD hS 0 0 rfl rfl rfl rfl (Nat.le_of_ble_eq_true rfl) dX8_append_30 (fun H locs hP hD hS => ?_)
    have hP : va_P D vwCl [[(mo, .inr (8, [.int (qI (1)), .ref (mz), .int (qI (((hz : Nat) : Int))), .ref (msv), .int (qI (((len : Nat) : Int))), .ref (mtx), .ref (mmo), .int (qI (tu)), .ref (mif), .ref (mmg), .ref (mtn), .ref (mie), .ref (mme), .int (qz (fi)), .int (qI (ro)), .int (qI (sp)), .int (qI (it)), .int (qz (bl)), .ref (mrd), .ref (mas), .long (hh)]))], [(mz, aI cy 115 (z))], [(msv, aI cy 920 (sd))], [(mtx, aI cy 60 (bf))], [(mmo, aI cy 121 (g))], [(mif, aZ cy 16 (isF))], [(mmg, aI cy 16 (mg))], [(mtn, aI cy 16 (tn))], [(mie, aZ cy 4 (isE))], [(mme, aI cy 4 (mE))], [(mrd, aI cy 100 (rd))], [(mas, aI cy 115 (as9))]].flatten H := hP
    have hD : va_D A [[(mo, .inr (8, [.int (qI (1)), .ref (mz), .int (qI (((hz : Nat) : Int))), .ref (msv), .int (qI (((len : Nat) : Int))), .ref (mtx), .ref (mmo), .int (qI (tu)), .ref (mif), .ref (mmg), .ref (mtn), .ref (mie), .ref (mme), .int (qz (fi)), .int (qI (ro)), .int (qI (sp)), .int (qI (it)), .int (qz (bl)), .ref (mrd), .ref (mas), .long (hh)]))], [(mz, aI cy 115 (z))], [(msv, aI cy 920 (sd))], [(mtx, aI cy 60 (bf))], [(mmo, aI cy 121 (g))], [(mif, aZ cy 16 (isF))], [(mmg, aI cy 16 (mg))], [(mtn, aI cy 16 (tn))], [(mie, aZ cy 4 (isE))], [(mme, aI cy 4 (mE))], [(mrd, aI cy 100 (rd))], [(mas, aI cy 115 (as9))]].flatten := hD
    refine lv_aload_n hx hb dX8_append_33 rfl (lv_at hl 0 rfl) ?_
    refine gf_X8_44 hx hb hg hown hK (fl_blk hP 0 rfl) 0 rfl rfl dX8_append_34 ?_
    refine q_if_le (tgt := 42) hx hb dX8_append_37 (by decide) (by omega) (fun c_37 => ?_) (fun c_37 => ?_)
    · skip
      exact absurd c_37 (by decide)
    · skip
      refine q_iconst hx hb dX8_append_40 ?_
      have hP : va_P D vwCl [(mdB cy mo mz msv mtx mmo mif mmg mtn mie mme mrd mas (1) (hz) (len) (tu) (fi) (ro) (sp) (it) (bl) (hh) (z) (sd) (bf) (g) (isF) (mg) (tn) (isE) (mE) (rd) (as9)).flatten].flatten H := by rw [fl_open]; exact hP
      have hD : va_D A [(mdB cy mo mz msv mtx mmo mif mmg mtn mie mme mrd mas (1) (hz) (len) (tu) (fi) (ro) (sp) (it) (bl) (hh) (z) (sd) (bf) (g) (isF) (mg) (tn) (isE) (mE) (rd) (as9)).flatten].flatten := by rw [fl_open]; exact hD
      exact hQ _ _ _ _ _ ((mdB cy mo mz msv mtx mmo mif mmg mtn mie mme mrd mas (1) (hz) (len) (tu) (fi) (ro) (sp) (it) (bl) (hh) (z) (sd) (bf) (g) (isF) (mg) (tn) (isE) (mE) (rd) (as9)).flatten) ⟨(tu), (fi), (ro), (sp), (it), (bl), (hh), (z), (sd), (bf), (g), (isF), (mg), (tn), (isE), (mE), (rd), (as9), rfl, ⟨hL, hz20, hz101⟩, ⟨hhz, hHZ⟩, hln, hbf, htx⟩ hP hD hS dX8_append_41

set_option maxRecDepth 100000 in
set_option maxHeartbeats 4000000 in
theorem c_X8_append_no2 (l : Launch) (D : va_G) (cy : Nat → ClassId) (mo mz msv mtx mmo mif mmg mtn mie mme mrd mas : Nat) (T : LSt) (hz : Nat) (HZ : Nat → LSt) (len : Nat) (tx : Nat → Int) (th : Int) (W : va_W) (hG : gOk T) (hW : MW cy mo mz msv mtx mmo mif mmg mtn mie mme mrd mas T hz HZ len tx th W) (p0 : Int) (r0 : (-2147483648 ≤ p0 ∧ p0 < 2147483648)) (hx : 33 ≤ p0 ∧ p0 ≤ 126) (hn : len = 60) (sz : Nat) : qMet l yX8_append (.code yX8_append cX8_append 2 (some .int)) 8 [.ref (mo), .int (qI (p0))] D cy [W] sz (va_Qi (S := va_W) (fun r u => MW cy mo mz msv mtx mmo mif mmg mtn mie mme mrd mas T hz HZ len tx 2 u) (qB D cy [W] sz (fun u => [u])) (va_A [W].flatten sz)) := by
  refine q_ofMi (S := va_W) (b1 := fun u => [u]) (post := fun r u => MW cy mo mz msv mtx mmo mif mmg mtn mie mme mrd mas T hz HZ len tx 2 u) (by decide +kernel) (Nat.le_of_ble_eq_true rfl) ?_
  intro p e s m args below meth c Q A hx hb hml hown hg hQ hK hN hD hA H locs ls hP hS hl
  have hown : s.vm.findClass RX8 = some m.cls := hown
  have hl : lv_has ls 2 [(0, .ref (mo)), (1, .int (qI (p0)))] := hl
  have hW0 := hW
  obtain ⟨tu, fi, ro, sp, it, bl, hh, z, sd, bf, g, isF, mg, tn, isE, mE, rd, as9, rfl, ⟨hL, hz20, hz101⟩, ⟨hhz, hHZ⟩, hln, hbf, htx⟩ := hW
  obtain ⟨gV, gT, gC, gE, gI, gD⟩ := hG.eq hL
  obtain ⟨nc, hnc⟩ : ∃ nc : Nat, z 20 = (nc : Int) := ⟨(z 20).toNat, by omega⟩
  obtain ⟨ne, hne⟩ : ∃ ne : Nat, z 101 = (ne : Int) := ⟨(z 101).toNat, by omega⟩
  have e20 : (z 20).toNat = nc := by omega
  have e101 : (z 101).toNat = ne := by omega
  have hV : qV z := gV
  have hst : ∀ i, i < 10 → 0 ≤ z (10 + i) ∧ z (10 + i) ≤ 9 := gT
  have hc : nc ≤ 16 := e20 ▸ (gC.1 : (z 20).toNat ≤ 16)
  have hC : qWR (zC z) nc := e20 ▸ (gC.2 : qWR (zC z) (z 20).toNat)
  have he : ne ≤ 4 := e101 ▸ (gE.1 : (z 101).toNat ≤ 4)
  have hE : qWR (zE z) ne := e101 ▸ (gE.2 : qWR (zE z) (z 101).toNat)
  have hD9 : ∀ i j, i < ne → j < ne → zE z 0 i = zE z 0 j → i = j := e101 ▸ (gD : ∀ i j, i < (z 101).toNat → j < (z 101).toNat → zE z 0 i = zE z 0 j → i = j)
  have hL2 : LEq (z, (fun i => z (10 + i)), zC z, nc, zE z, ne) T := by rw [← e20, ← e101]; exact hL
  have en : nc = lN9 T := hL2.2.2.1
  have em : ne = lM T := hL2.2.2.2.2.1
  rw [fl_open] at hP hD
  have hP : va_P D vwCl [[(mo, .inr (8, [.int (qI (th)), .ref (mz), .int (qI (((hz : Nat) : Int))), .ref (msv), .int (qI (((len : Nat) : Int))), .ref (mtx), .ref (mmo), .int (qI (tu)), .ref (mif), .ref (mmg), .ref (mtn), .ref (mie), .ref (mme), .int (qz (fi)), .int (qI (ro)), .int (qI (sp)), .int (qI (it)), .int (qz (bl)), .ref (mrd), .ref (mas), .long (hh)]))], [(mz, aI cy 115 (z))], [(msv, aI cy 920 (sd))], [(mtx, aI cy 60 (bf))], [(mmo, aI cy 121 (g))], [(mif, aZ cy 16 (isF))], [(mmg, aI cy 16 (mg))], [(mtn, aI cy 16 (tn))], [(mie, aZ cy 4 (isE))], [(mme, aI cy 4 (mE))], [(mrd, aI cy 100 (rd))], [(mas, aI cy 115 (as9))]].flatten H := hP
  have hD : va_D A [[(mo, .inr (8, [.int (qI (th)), .ref (mz), .int (qI (((hz : Nat) : Int))), .ref (msv), .int (qI (((len : Nat) : Int))), .ref (mtx), .ref (mmo), .int (qI (tu)), .ref (mif), .ref (mmg), .ref (mtn), .ref (mie), .ref (mme), .int (qz (fi)), .int (qI (ro)), .int (qI (sp)), .int (qI (it)), .int (qz (bl)), .ref (mrd), .ref (mas), .long (hh)]))], [(mz, aI cy 115 (z))], [(msv, aI cy 920 (sd))], [(mtx, aI cy 60 (bf))], [(mmo, aI cy 121 (g))], [(mif, aZ cy 16 (isF))], [(mmg, aI cy 16 (mg))], [(mtn, aI cy 16 (tn))], [(mie, aZ cy 4 (isE))], [(mme, aI cy 4 (mE))], [(mrd, aI cy 100 (rd))], [(mas, aI cy 115 (as9))]].flatten := hD
  refine lv_aload_n hx hb dX8_append_0 rfl (lv_at hl 0 rfl) ?_
  refine lv_iload_n hx hb dX8_append_1 rfl (lv_at hl 1 rfl) ?_
  refine q_bipush hx hb dX8_append_2 (by decide) ?_
  refine q_bipush hx hb dX8_append_4 (by decide) ?_
  refine q_readz (va_runS (As := [.int (qI (p0)), .int (qI (33)), .int (qI (126))]) (rest := [.ref (mo)]) ⟨hx, hb, hml, hown, hg⟩ (c_X8_within l D cy _ _ _ (by omega)) (cs_X8_48 hg rfl rfl ⟨by decide, by decide⟩) ⟨q_blind0, q_preR _ hK hN hP [] rfl⟩ rfl rfl hl.1 rfl (lv_room (Nat.le_of_ble_eq_true rfl)) dX8_append_6 ⟨by decide, by decide⟩) (fun b_6 h_6 => ?_)
  refine q_ifz_ne (tgt := 16) hx hb dX8_append_9 (by decide) (fun c_9 => ?_) (fun c_9 => ?_)
  · skip
    have g_9 := (h_6).mp c_9
    refine lv_aload_n hx hb dX8_append_16 rfl (lv_at hl 0 rfl) ?_
    refine gf_X8_129 hx hb hg hown hK (fl_blk hP 0 rfl) 0 rfl rfl dX8_append_17 ?_
    refine q_bipush hx hb dX8_append_20 (by decide) ?_
    refine q_icmp_ne (tgt := 29) hx hb dX8_append_22 (by decide) (by omega) (fun c_22 => ?_) (fun c_22 => ?_)
    · skip
      exfalso; omega
    · skip
      refine q_iconst hx hb dX8_append_25 ?_
      refine lv_goto (tgt := 30) hx hb dX8_append_26 (by decide) ?_
      refine pf_X8_44 hx hb hg hown hK hP hD hS 0 0 rfl rfl rfl rfl (Nat.le_of_ble_eq_true rfl) dX8_append_30 (fun H locs hP hD hS => ?_)
      have hP : va_P D vwCl [[(mo, .inr (8, [.int (qI (2)), .ref (mz), .int (qI (((hz : Nat) : Int))), .ref (msv), .int (qI (((len : Nat) : Int))), .ref (mtx), .ref (mmo), .int (qI (tu)), .ref (mif), .ref (mmg), .ref (mtn), .ref (mie), .ref (mme), .int (qz (fi)), .int (qI (ro)), .int (qI (sp)), .int (qI (it)), .int (qz (bl)), .ref (mrd), .ref (mas), .long (hh)]))], [(mz, aI cy 115 (z))], [(msv, aI cy 920 (sd))], [(mtx, aI cy 60 (bf))], [(mmo, aI cy 121 (g))], [(mif, aZ cy 16 (isF))], [(mmg, aI cy 16 (mg))], [(mtn, aI cy 16 (tn))], [(mie, aZ cy 4 (isE))], [(mme, aI cy 4 (mE))], [(mrd, aI cy 100 (rd))], [(mas, aI cy 115 (as9))]].flatten H := hP
      have hD : va_D A [[(mo, .inr (8, [.int (qI (2)), .ref (mz), .int (qI (((hz : Nat) : Int))), .ref (msv), .int (qI (((len : Nat) : Int))), .ref (mtx), .ref (mmo), .int (qI (tu)), .ref (mif), .ref (mmg), .ref (mtn), .ref (mie), .ref (mme), .int (qz (fi)), .int (qI (ro)), .int (qI (sp)), .int (qI (it)), .int (qz (bl)), .ref (mrd), .ref (mas), .long (hh)]))], [(mz, aI cy 115 (z))], [(msv, aI cy 920 (sd))], [(mtx, aI cy 60 (bf))], [(mmo, aI cy 121 (g))], [(mif, aZ cy 16 (isF))], [(mmg, aI cy 16 (mg))], [(mtn, aI cy 16 (tn))], [(mie, aZ cy 4 (isE))], [(mme, aI cy 4 (mE))], [(mrd, aI cy 100 (rd))], [(mas, aI cy 115 (as9))]].flatten := hD
      refine lv_aload_n hx hb dX8_append_33 rfl (lv_at hl 0 rfl) ?_
      refine gf_X8_44 hx hb hg hown hK (fl_blk hP 0 rfl) 0 rfl rfl dX8_append_34 ?_
      refine q_if_le (tgt := 42) hx hb dX8_append_37 (by decide) (by omega) (fun c_37 => ?_) (fun c_37 => ?_)
      · skip
        exact absurd c_37 (by decide)
      · skip
        refine q_iconst hx hb dX8_append_40 ?_
        have hP : va_P D vwCl [(mdB cy mo mz msv mtx mmo mif mmg mtn mie mme mrd mas (2) (hz) (len) (tu) (fi) (ro) (sp) (it) (bl) (hh) (z) (sd) (bf) (g) (isF) (mg) (tn) (isE) (mE) (rd) (as9)).flatten].flatten H := by rw [fl_open]; exact hP
        have hD : va_D A [(mdB cy mo mz msv mtx mmo mif mmg mtn mie mme mrd mas (2) (hz) (len) (tu) (fi) (ro) (sp) (it) (bl) (hh) (z) (sd) (bf) (g) (isF) (mg) (tn) (isE) (mE) (rd) (as9)).flatten].flatten := by rw [fl_open]; exact hD
        exact hQ _ _ _ _ _ ((mdB cy mo mz msv mtx mmo mif mmg mtn mie mme mrd mas (2) (hz) (len) (tu) (fi) (ro) (sp) (it) (bl) (hh) (z) (sd) (bf) (g) (isF) (mg) (tn) (isE) (mE) (rd) (as9)).flatten) ⟨(tu), (fi), (ro), (sp), (it), (bl), (hh), (z), (sd), (bf), (g), (isF), (mg), (tn), (isE), (mE), (rd), (as9), rfl, ⟨hL, hz20, hz101⟩, ⟨hhz, hHZ⟩, hln, hbf, htx⟩ hP hD hS dX8_append_41
  · skip
    have g_9 := mt (h_6).mpr (by rw [c_9]; decide)
    exfalso; omega

set_option maxRecDepth 100000 in
set_option maxHeartbeats 4000000 in
theorem c_X8_clearBuffer (l : Launch) (D : va_G) (cy : Nat → ClassId) (mo mz msv mtx mmo mif mmg mtn mie mme mrd mas : Nat) (T : LSt) (hz : Nat) (HZ : Nat → LSt) (len : Nat) (tx : Nat → Int) (th : Int) (W : va_W) (hG : gOk T) (hW : MW cy mo mz msv mtx mmo mif mmg mtn mie mme mrd mas T hz HZ len tx th W)  (sz : Nat) : qMet l yX8_clearBuffer (.code yX8_clearBuffer cX8_clearBuffer 2 (some .int)) 8 [.ref (mo)] D cy [W] sz (va_Qi (S := va_W) (fun r u => r = qI ((len : Int)) ∧ MW cy mo mz msv mtx mmo mif mmg mtn mie mme mrd mas T hz HZ 0 tx 0 u) (qB D cy [W] sz (fun u => [u])) (va_A [W].flatten sz)) := by
  refine q_ofMi (S := va_W) (b1 := fun u => [u]) (post := fun r u => r = qI ((len : Int)) ∧ MW cy mo mz msv mtx mmo mif mmg mtn mie mme mrd mas T hz HZ 0 tx 0 u) (by decide +kernel) (Nat.le_of_ble_eq_true rfl) ?_
  intro p e s m args below meth c Q A hx hb hml hown hg hQ hK hN hD hA H locs ls hP hS hl
  have hown : s.vm.findClass RX8 = some m.cls := hown
  have hl : lv_has ls 2 [(0, .ref (mo))] := hl
  have hW0 := hW
  obtain ⟨tu, fi, ro, sp, it, bl, hh, z, sd, bf, g, isF, mg, tn, isE, mE, rd, as9, rfl, ⟨hL, hz20, hz101⟩, ⟨hhz, hHZ⟩, hln, hbf, htx⟩ := hW
  obtain ⟨gV, gT, gC, gE, gI, gD⟩ := hG.eq hL
  obtain ⟨nc, hnc⟩ : ∃ nc : Nat, z 20 = (nc : Int) := ⟨(z 20).toNat, by omega⟩
  obtain ⟨ne, hne⟩ : ∃ ne : Nat, z 101 = (ne : Int) := ⟨(z 101).toNat, by omega⟩
  have e20 : (z 20).toNat = nc := by omega
  have e101 : (z 101).toNat = ne := by omega
  have hV : qV z := gV
  have hst : ∀ i, i < 10 → 0 ≤ z (10 + i) ∧ z (10 + i) ≤ 9 := gT
  have hc : nc ≤ 16 := e20 ▸ (gC.1 : (z 20).toNat ≤ 16)
  have hC : qWR (zC z) nc := e20 ▸ (gC.2 : qWR (zC z) (z 20).toNat)
  have he : ne ≤ 4 := e101 ▸ (gE.1 : (z 101).toNat ≤ 4)
  have hE : qWR (zE z) ne := e101 ▸ (gE.2 : qWR (zE z) (z 101).toNat)
  have hD9 : ∀ i j, i < ne → j < ne → zE z 0 i = zE z 0 j → i = j := e101 ▸ (gD : ∀ i j, i < (z 101).toNat → j < (z 101).toNat → zE z 0 i = zE z 0 j → i = j)
  have hL2 : LEq (z, (fun i => z (10 + i)), zC z, nc, zE z, ne) T := by rw [← e20, ← e101]; exact hL
  have en : nc = lN9 T := hL2.2.2.1
  have em : ne = lM T := hL2.2.2.2.2.1
  rw [fl_open] at hP hD
  have hP : va_P D vwCl [[(mo, .inr (8, [.int (qI (th)), .ref (mz), .int (qI (((hz : Nat) : Int))), .ref (msv), .int (qI (((len : Nat) : Int))), .ref (mtx), .ref (mmo), .int (qI (tu)), .ref (mif), .ref (mmg), .ref (mtn), .ref (mie), .ref (mme), .int (qz (fi)), .int (qI (ro)), .int (qI (sp)), .int (qI (it)), .int (qz (bl)), .ref (mrd), .ref (mas), .long (hh)]))], [(mz, aI cy 115 (z))], [(msv, aI cy 920 (sd))], [(mtx, aI cy 60 (bf))], [(mmo, aI cy 121 (g))], [(mif, aZ cy 16 (isF))], [(mmg, aI cy 16 (mg))], [(mtn, aI cy 16 (tn))], [(mie, aZ cy 4 (isE))], [(mme, aI cy 4 (mE))], [(mrd, aI cy 100 (rd))], [(mas, aI cy 115 (as9))]].flatten H := hP
  have hD : va_D A [[(mo, .inr (8, [.int (qI (th)), .ref (mz), .int (qI (((hz : Nat) : Int))), .ref (msv), .int (qI (((len : Nat) : Int))), .ref (mtx), .ref (mmo), .int (qI (tu)), .ref (mif), .ref (mmg), .ref (mtn), .ref (mie), .ref (mme), .int (qz (fi)), .int (qI (ro)), .int (qI (sp)), .int (qI (it)), .int (qz (bl)), .ref (mrd), .ref (mas), .long (hh)]))], [(mz, aI cy 115 (z))], [(msv, aI cy 920 (sd))], [(mtx, aI cy 60 (bf))], [(mmo, aI cy 121 (g))], [(mif, aZ cy 16 (isF))], [(mmg, aI cy 16 (mg))], [(mtn, aI cy 16 (tn))], [(mie, aZ cy 4 (isE))], [(mme, aI cy 4 (mE))], [(mrd, aI cy 100 (rd))], [(mas, aI cy 115 (as9))]].flatten := hD
  refine lv_aload_n hx hb dX8_clearBuffer_0 rfl (lv_at hl 0 rfl) ?_
  refine q_iconst hx hb dX8_clearBuffer_1 ?_
  refine pf_X8_44 hx hb hg hown hK hP hD hS 0 0 rfl rfl rfl rfl (Nat.le_of_ble_eq_true rfl) dX8_clearBuffer_2 (fun H locs hP hD hS => ?_)
  have hP : va_P D vwCl [[(mo, .inr (8, [.int (qI (0)), .ref (mz), .int (qI (((hz : Nat) : Int))), .ref (msv), .int (qI (((len : Nat) : Int))), .ref (mtx), .ref (mmo), .int (qI (tu)), .ref (mif), .ref (mmg), .ref (mtn), .ref (mie), .ref (mme), .int (qz (fi)), .int (qI (ro)), .int (qI (sp)), .int (qI (it)), .int (qz (bl)), .ref (mrd), .ref (mas), .long (hh)]))], [(mz, aI cy 115 (z))], [(msv, aI cy 920 (sd))], [(mtx, aI cy 60 (bf))], [(mmo, aI cy 121 (g))], [(mif, aZ cy 16 (isF))], [(mmg, aI cy 16 (mg))], [(mtn, aI cy 16 (tn))], [(mie, aZ cy 4 (isE))], [(mme, aI cy 4 (mE))], [(mrd, aI cy 100 (rd))], [(mas, aI cy 115 (as9))]].flatten H := hP
  have hD : va_D A [[(mo, .inr (8, [.int (qI (0)), .ref (mz), .int (qI (((hz : Nat) : Int))), .ref (msv), .int (qI (((len : Nat) : Int))), .ref (mtx), .ref (mmo), .int (qI (tu)), .ref (mif), .ref (mmg), .ref (mtn), .ref (mie), .ref (mme), .int (qz (fi)), .int (qI (ro)), .int (qI (sp)), .int (qI (it)), .int (qz (bl)), .ref (mrd), .ref (mas), .long (hh)]))], [(mz, aI cy 115 (z))], [(msv, aI cy 920 (sd))], [(mtx, aI cy 60 (bf))], [(mmo, aI cy 121 (g))], [(mif, aZ cy 16 (isF))], [(mmg, aI cy 16 (mg))], [(mtn, aI cy 16 (tn))], [(mie, aZ cy 4 (isE))], [(mme, aI cy 4 (mE))], [(mrd, aI cy 100 (rd))], [(mas, aI cy 115 (as9))]].flatten := hD
  refine lv_aload_n hx hb dX8_clearBuffer_5 rfl (lv_at hl 0 rfl) ?_
  refine gf_X8_129 hx hb hg hown hK (fl_blk hP 0 rfl) 0 rfl rfl dX8_clearBuffer_6 ?_
  refine lv_istore_n (lv' := [(1, .int (qI (((len : Nat) : Int)))), (0, .ref (mo))]) hx hb dX8_clearBuffer_9 rfl hl (by decide) rfl (fun ls hl => ?_)
  refine lv_aload_n hx hb dX8_clearBuffer_10 rfl (lv_at hl 1 rfl) ?_
  refine q_iconst hx hb dX8_clearBuffer_11 ?_
  refine pf_X8_129 hx hb hg hown hK hP hD hS 0 0 rfl rfl rfl rfl (Nat.le_of_ble_eq_true rfl) dX8_clearBuffer_12 (fun H locs hP hD hS => ?_)
  have hP : va_P D vwCl [[(mo, .inr (8, [.int (qI (0)), .ref (mz), .int (qI (((hz : Nat) : Int))), .ref (msv), .int (qI (((0 : Nat) : Int))), .ref (mtx), .ref (mmo), .int (qI (tu)), .ref (mif), .ref (mmg), .ref (mtn), .ref (mie), .ref (mme), .int (qz (fi)), .int (qI (ro)), .int (qI (sp)), .int (qI (it)), .int (qz (bl)), .ref (mrd), .ref (mas), .long (hh)]))], [(mz, aI cy 115 (z))], [(msv, aI cy 920 (sd))], [(mtx, aI cy 60 (bf))], [(mmo, aI cy 121 (g))], [(mif, aZ cy 16 (isF))], [(mmg, aI cy 16 (mg))], [(mtn, aI cy 16 (tn))], [(mie, aZ cy 4 (isE))], [(mme, aI cy 4 (mE))], [(mrd, aI cy 100 (rd))], [(mas, aI cy 115 (as9))]].flatten H := hP
  have hD : va_D A [[(mo, .inr (8, [.int (qI (0)), .ref (mz), .int (qI (((hz : Nat) : Int))), .ref (msv), .int (qI (((0 : Nat) : Int))), .ref (mtx), .ref (mmo), .int (qI (tu)), .ref (mif), .ref (mmg), .ref (mtn), .ref (mie), .ref (mme), .int (qz (fi)), .int (qI (ro)), .int (qI (sp)), .int (qI (it)), .int (qz (bl)), .ref (mrd), .ref (mas), .long (hh)]))], [(mz, aI cy 115 (z))], [(msv, aI cy 920 (sd))], [(mtx, aI cy 60 (bf))], [(mmo, aI cy 121 (g))], [(mif, aZ cy 16 (isF))], [(mmg, aI cy 16 (mg))], [(mtn, aI cy 16 (tn))], [(mie, aZ cy 4 (isE))], [(mme, aI cy 4 (mE))], [(mrd, aI cy 100 (rd))], [(mas, aI cy 115 (as9))]].flatten := hD
  refine lv_iload_n hx hb dX8_clearBuffer_15 rfl (lv_at hl 0 rfl) ?_
  have hP : va_P D vwCl [(mdB cy mo mz msv mtx mmo mif mmg mtn mie mme mrd mas (0) (hz) (0) (tu) (fi) (ro) (sp) (it) (bl) (hh) (z) (sd) (bf) (g) (isF) (mg) (tn) (isE) (mE) (rd) (as9)).flatten].flatten H := by rw [fl_open]; exact hP
  have hD : va_D A [(mdB cy mo mz msv mtx mmo mif mmg mtn mie mme mrd mas (0) (hz) (0) (tu) (fi) (ro) (sp) (it) (bl) (hh) (z) (sd) (bf) (g) (isF) (mg) (tn) (isE) (mE) (rd) (as9)).flatten].flatten := by rw [fl_open]; exact hD
  exact hQ _ _ _ _ _ ((mdB cy mo mz msv mtx mmo mif mmg mtn mie mme mrd mas (0) (hz) (0) (tu) (fi) (ro) (sp) (it) (bl) (hh) (z) (sd) (bf) (g) (isF) (mg) (tn) (isE) (mE) (rd) (as9)).flatten) ⟨rfl, ⟨(tu), (fi), (ro), (sp), (it), (bl), (hh), (z), (sd), (bf), (g), (isF), (mg), (tn), (isE), (mE), (rd), (as9), rfl, ⟨hL, hz20, hz101⟩, ⟨hhz, hHZ⟩, by omega, (fun i hi => absurd hi (Nat.not_lt_zero i)), (fun i hi => absurd hi (Nat.not_lt_zero i))⟩⟩ hP hD hS dX8_clearBuffer_16
