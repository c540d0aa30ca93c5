theorem rm_step {z z1 : Nat → Int} {nc k j : Nat} (hc : nc ≤ 16) (hk : k < nc) (hj : j < 5 * (nc - 1 - k)) (h : ∀ m, z1 m = if m = 20 then (nc : Int) - 1 else if 21 + 5 * k ≤ m ∧ m < 21 + 5 * k + j then z (m + 5) else z m) : ∀ m, qu z1 (21 + 5 * k + j) (z1 (21 + 5 * k + j + 5)) m = if m = 20 then (nc : Int) - 1 else if 21 + 5 * k ≤ m ∧ m < 21 + 5 * k + (j + 1) then z (m + 5) else z m := by
  intro m
  by_cases e : m = 21 + 5 * k + j
  · subst e
    rw [qu_s, h, if_neg (by omega), if_neg (by omega), if_neg (by omega), if_pos (by omega)]
  · rw [qu_n _ _ e, h m]
    by_cases e2 : m = 20
    · rw [if_pos e2, if_pos e2]
    · rw [if_neg e2, if_neg e2]
      by_cases e3 : 21 + 5 * k ≤ m ∧ m < 21 + 5 * k + j
      · rw [if_pos e3, if_pos (by omega)]
      · rw [if_neg e3, if_neg (by omega)]
theorem rm_at {z z1 : Nat → Int} {nc k : Nat} (hc : nc ≤ 16) (hk : k < nc) (hnc : z 20 = (nc : Int)) (h : ∀ m, z1 m = if m = 20 then (nc : Int) - 1 else if 21 + 5 * k ≤ m ∧ m < 21 + 5 * k + 5 * (nc - 1 - k) then z (m + 5) else z m) : LEq (zS z1) (rmC (zS z) k) := by
  have e20 : (z 20).toNat = nc := by omega
  have far : ∀ m, m < 20 ∨ 101 ≤ m → z1 m = z m := fun m hm => by rw [h m, if_neg (by omega), if_neg (by omega)]
  refine ⟨fun i hi => far i (by omega), fun i hi => far _ (by omega), ?_, fun f i hf hi => ?_, ?_, fun f i hf hi => ?_⟩
  · show (z1 20).toNat = (z 20).toNat - 1
    rw [h 20, if_pos rfl, e20]
    omega
  · have hi : i < (z 20).toNat - 1 := hi
    rw [e20] at hi
    show z1 (21 + 5 * i + f) = if i < k then zC z f i else zC z f (i + 1)
    rw [h, if_neg (by omega)]
    by_cases e : i < k
    · rw [if_pos e, if_neg (by omega)]
      rfl
    · rw [if_neg e, if_pos (by omega)]
      show z _ = z _
      congr 1
      omega
  · show (z1 101).toNat = (z 101).toNat
    rw [far 101 (by omega)]
  · have hi : i < (z 101).toNat := hi
    show row5 _ _ _ _ _ f = row5 _ _ _ _ _ f
    have h4 : i < 16 ∨ 16 ≤ i := by omega
    rw [far _ (by omega), far _ (by omega), far _ (by omega)]

set_option maxRecDepth 100000 in
set_option maxHeartbeats 4000000 in
theorem c_X8_remove (l : Launch) (D : va_G) (cy : Nat → ClassId) (mo mz msv mtx mmo mif mmg mtn mie mme mrd mas : Nat) (T : LSt) (hz : Nat) (HZ : Nat → LSt) (len : Nat) (tx : Nat → Int) (th : Int) (W : va_W) (hG : gOk T) (hW : MW cy mo mz msv mtx mmo mif mmg mtn mie mme mrd mas T hz HZ len tx th W) (p0 : Int) (k : Nat) (hk : p0 = (k : Int) ∧ k < lN9 T) (sz : Nat) : qMet l yX8_remove (.code yX8_remove cX8_remove 4 (some .int)) 8 [.ref (mo), .int (qI (p0))] D cy [W] sz (va_Qi (S := va_W) (fun r u => r = qI (((fOC (filS T (-1)) k).toNat : Int)) ∧ MW cy mo mz msv mtx mmo mif mmg mtn mie mme mrd mas (seT (rmC T k)) (min (hz + 1) 8) (pushH T HZ) len tx 0 u) (qB D cy [W] sz (fun u => [u])) (va_A [W].flatten sz)) := by
  refine q_ofMi (S := va_W) (b1 := fun u => [u]) (post := fun r u => r = qI (((fOC (filS T (-1)) k).toNat : Int)) ∧ MW cy mo mz msv mtx mmo mif mmg mtn mie mme mrd mas (seT (rmC T k)) (min (hz + 1) 8) (pushH T HZ) len tx 0 u) (by decide +kernel) (Nat.le_of_ble_eq_true rfl) ?_
  intro p e s m args below meth c Q A hx hb hml hown hg hQ hK hN hD hA H locs ls hP hS hl
  have hown : s.vm.findClass RX8 = some m.cls := hown
  have hl : lv_has ls 4 [(0, .ref (mo)), (1, .int (qI (p0)))] := hl
  have hW0 := hW
  obtain ⟨tu, fi, ro, sp, it, bl, hh, z, sd, bf, g, isF, mg, tn, isE, mE, rd, as9, rfl, ⟨hL, hz20, hz101⟩, ⟨hhz, hHZ⟩, hln, hbf, htx⟩ := hW
  obtain ⟨gV, gT, gC, gE, gI, gD⟩ := hG.eq hL
  obtain ⟨nc, hnc⟩ : ∃ nc : Nat, z 20 = (nc : Int) := ⟨(z 20).toNat, by omega⟩
  obtain ⟨ne, hne⟩ : ∃ ne : Nat, z 101 = (ne : Int) := ⟨(z 101).toNat, by omega⟩
  have e20 : (z 20).toNat = nc := by omega
  have e101 : (z 101).toNat = ne := by omega
  have hV : qV z := gV
  have hst : ∀ i, i < 10 → 0 ≤ z (10 + i) ∧ z (10 + i) ≤ 9 := gT
  have hc : nc ≤ 16 := e20 ▸ (gC.1 : (z 20).toNat ≤ 16)
  have hC : qWR (zC z) nc := e20 ▸ (gC.2 : qWR (zC z) (z 20).toNat)
  have he : ne ≤ 4 := e101 ▸ (gE.1 : (z 101).toNat ≤ 4)
  have hE : qWR (zE z) ne := e101 ▸ (gE.2 : qWR (zE z) (z 101).toNat)
  have hD9 : ∀ i j, i < ne → j < ne → zE z 0 i = zE z 0 j → i = j := e101 ▸ (gD : ∀ i j, i < (z 101).toNat → j < (z 101).toNat → zE z 0 i = zE z 0 j → i = j)
  have hL2 : LEq (z, (fun i => z (10 + i)), zC z, nc, zE z, ne) T := by rw [← e20, ← e101]; exact hL
  have en : nc = lN9 T := hL2.2.2.1
  have em : ne = lM T := hL2.2.2.2.2.1
  rw [fl_open] at hP hD
  have hP : va_P D vwCl [[(mo, .inr (8, [.int (qI (th)), .ref (mz), .int (qI (((hz : Nat) : Int))), .ref (msv), .int (qI (((len : Nat) : Int))), .ref (mtx), .ref (mmo), .int (qI (tu)), .ref (mif), .ref (mmg), .ref (mtn), .ref (mie), .ref (mme), .int (qz (fi)), .int (qI (ro)), .int (qI (sp)), .int (qI (it)), .int (qz (bl)), .ref (mrd), .ref (mas), .long (hh)]))], [(mz, aI cy 115 (z))], [(msv, aI cy 920 (sd))], [(mtx, aI cy 60 (bf))], [(mmo, aI cy 121 (g))], [(mif, aZ cy 16 (isF))], [(mmg, aI cy 16 (mg))], [(mtn, aI cy 16 (tn))], [(mie, aZ cy 4 (isE))], [(mme, aI cy 4 (mE))], [(mrd, aI cy 100 (rd))], [(mas, aI cy 115 (as9))]].flatten H := hP
  have hD : va_D A [[(mo, .inr (8, [.int (qI (th)), .ref (mz), .int (qI (((hz : Nat) : Int))), .ref (msv), .int (qI (((len : Nat) : Int))), .ref (mtx), .ref (mmo), .int (qI (tu)), .ref (mif), .ref (mmg), .ref (mtn), .ref (mie), .ref (mme), .int (qz (fi)), .int (qI (ro)), .int (qI (sp)), .int (qI (it)), .int (qz (bl)), .ref (mrd), .ref (mas), .long (hh)]))], [(mz, aI cy 115 (z))], [(msv, aI cy 920 (sd))], [(mtx, aI cy 60 (bf))], [(mmo, aI cy 121 (g))], [(mif, aZ cy 16 (isF))], [(mmg, aI cy 16 (mg))], [(mtn, aI cy 16 (tn))], [(mie, aZ cy 4 (isE))], [(mme, aI cy 4 (mE))], [(mrd, aI cy 100 (rd))], [(mas, aI cy 115 (as9))]].flatten := hD
  refine lv_aload_n hx hb dX8_remove_0 rfl (lv_at hl 0 rfl) ?_
  refine lv_aload_n hx hb dX8_remove_1 rfl (lv_at hl 0 rfl) ?_
  refine lv_iload_n hx hb dX8_remove_2 rfl (lv_at hl 1 rfl) ?_
  refine q_readz (va_runV (As := [.int (qI (p0))]) (rest := [.ref (mo)]) ⟨hx, hb, hml, hown, hg⟩ (c_X8_isCondition l D cy mo mz msv mtx mmo mif mmg mtn mie mme mrd mas (th) (((hz : Nat) : Int)) (((len : Nat) : Int)) (tu) (fi) (ro) (sp) (it) (bl) (hh) (z) nc _ (by omega) hnc hc) (cv_X8_114 hg rfl rfl ⟨by decide, by decide⟩) ⟨q_blind0, va_recv hK (fl_blk hP 0 rfl) (ci := 8) (q0 := 0) rfl rfl, q_preR _ hK hN hP [0, 1] rfl⟩ rfl rfl hl.1 rfl (lv_room (Nat.le_of_ble_eq_true rfl)) dX8_remove_3 ⟨by decide, by decide⟩) (fun b_3 h_3 => ?_)
  refine q_ifz_eq (tgt := 13) hx hb dX8_remove_6 (by decide) (fun c_6 => ?_) (fun c_6 => ?_)
  · skip
    have g_6 := mt (h_3).mpr (by rw [c_6]; decide)
    exfalso; omega
  · skip
    have g_6 := (h_3).mp c_6
    refine q_iconst hx hb dX8_remove_9 ?_
    refine lv_goto (tgt := 14) hx hb dX8_remove_10 (by decide) ?_
    refine pf_X8_44 hx hb hg hown hK hP hD hS 0 0 rfl rfl rfl rfl (Nat.le_of_ble_eq_true rfl) dX8_remove_14 (fun H locs hP hD hS => ?_)
    have hP : va_P D vwCl [[(mo, .inr (8, [.int (qI (0)), .ref (mz), .int (qI (((hz : Nat) : Int))), .ref (msv), .int (qI (((len : Nat) : Int))), .ref (mtx), .ref (mmo), .int (qI (tu)), .ref (mif), .ref (mmg), .ref (mtn), .ref (mie), .ref (mme), .int (qz (fi)), .int (qI (ro)), .int (qI (sp)), .int (qI (it)), .int (qz (bl)), .ref (mrd), .ref (mas), .long (hh)]))], [(mz, aI cy 115 (z))], [(msv, aI cy 920 (sd))], [(mtx, aI cy 60 (bf))], [(mmo, aI cy 121 (g))], [(mif, aZ cy 16 (isF))], [(mmg, aI cy 16 (mg))], [(mtn, aI cy 16 (tn))], [(mie, aZ cy 4 (isE))], [(mme, aI cy 4 (mE))], [(mrd, aI cy 100 (rd))], [(mas, aI cy 115 (as9))]].flatten H := hP
    have hD : va_D A [[(mo, .inr (8, [.int (qI (0)), .ref (mz), .int (qI (((hz : Nat) : Int))), .ref (msv), .int (qI (((len : Nat) : Int))), .ref (mtx), .ref (mmo), .int (qI (tu)), .ref (mif), .ref (mmg), .ref (mtn), .ref (mie), .ref (mme), .int (qz (fi)), .int (qI (ro)), .int (qI (sp)), .int (qI (it)), .int (qz (bl)), .ref (mrd), .ref (mas), .long (hh)]))], [(mz, aI cy 115 (z))], [(msv, aI cy 920 (sd))], [(mtx, aI cy 60 (bf))], [(mmo, aI cy 121 (g))], [(mif, aZ cy 16 (isF))], [(mmg, aI cy 16 (mg))], [(mtn, aI cy 16 (tn))], [(mie, aZ cy 4 (isE))], [(mme, aI cy 4 (mE))], [(mrd, aI cy 100 (rd))], [(mas, aI cy 115 (as9))]].flatten := hD
    refine lv_aload_n hx hb dX8_remove_17 rfl (lv_at hl 0 rfl) ?_
    refine gf_X8_44 hx hb hg hown hK (fl_blk hP 0 rfl) 0 rfl rfl dX8_remove_18 ?_
    refine q_if_le (tgt := 26) hx hb dX8_remove_21 (by decide) (by omega) (fun c_21 => ?_) (fun c_21 => ?_)
    · skip
      refine lv_aload_n hx hb dX8_remove_26 rfl (lv_at hl 0 rfl) ?_
      refine q_backv [0, 1, 2] [3, 4, 5, 6, 7, 8, 9, 10, 11] (br := [[(mtx, aI cy 60 (bf))], [(mmo, aI cy 121 (g))], [(mif, aZ cy 16 (isF))], [(mmg, aI cy 16 (mg))], [(mtn, aI cy 16 (tn))], [(mie, aZ cy 4 (isE))], [(mme, aI cy 4 (mE))], [(mrd, aI cy 100 (rd))], [(mas, aI cy 115 (as9))]]) hP hD hS hA (va_runV (As := []) (rest := []) ⟨hx, hb, hml, hown, hg⟩ (c_X8_save l D cy mo mz msv mtx mmo mif mmg mtn mie mme mrd mas (0) (((len : Nat) : Int)) (tu) (fi) (ro) (sp) (it) (bl) (hh) hz (z) (sd) hhz _) (cv_X8_104 hg rfl rfl ⟨by decide, by decide⟩) ⟨q_blind, va_recv hK (fl_blk hP 0 rfl) (ci := 8) (q0 := 0) rfl rfl, q_preM _ hK hN hP hD [0, 1, 2] (by decide) rfl⟩ rfl rfl hl.1 rfl (lv_room (Nat.le_of_ble_eq_true rfl)) dX8_remove_27 ⟨by decide, by decide⟩) rfl rfl (by decide) (fun u_27 H locs h_27 hP hD hS => ?_)
      have hP : va_P D vwCl [[(mtx, aI cy 60 (bf))], [(mmo, aI cy 121 (g))], [(mif, aZ cy 16 (isF))], [(mmg, aI cy 16 (mg))], [(mtn, aI cy 16 (tn))], [(mie, aZ cy 4 (isE))], [(mme, aI cy 4 (mE))], [(mrd, aI cy 100 (rd))], [(mas, aI cy 115 (as9))], [(mo, .inr (8, [.int (qI (0)), .ref (mz), .int (qI (((min (hz + 1) 8 : Nat) : Int))), .ref (msv), .int (qI (((len : Nat) : Int))), .ref (mtx), .ref (mmo), .int (qI (tu)), .ref (mif), .ref (mmg), .ref (mtn), .ref (mie), .ref (mme), .int (qz (fi)), .int (qI (ro)), .int (qI (sp)), .int (qI (it)), .int (qz (bl)), .ref (mrd), .ref (mas), .long (hh)]))], [(mz, aI cy 115 (z))], [(msv, aI cy 920 (u_27))]].flatten H := hP
      have hD : va_D A [[(mtx, aI cy 60 (bf))], [(mmo, aI cy 121 (g))], [(mif, aZ cy 16 (isF))], [(mmg, aI cy 16 (mg))], [(mtn, aI cy 16 (tn))], [(mie, aZ cy 4 (isE))], [(mme, aI cy 4 (mE))], [(mrd, aI cy 100 (rd))], [(mas, aI cy 115 (as9))], [(mo, .inr (8, [.int (qI (0)), .ref (mz), .int (qI (((min (hz + 1) 8 : Nat) : Int))), .ref (msv), .int (qI (((len : Nat) : Int))), .ref (mtx), .ref (mmo), .int (qI (tu)), .ref (mif), .ref (mmg), .ref (mtn), .ref (mie), .ref (mme), .int (qz (fi)), .int (qI (ro)), .int (qI (sp)), .int (qI (it)), .int (qz (bl)), .ref (mrd), .ref (mas), .long (hh)]))], [(mz, aI cy 115 (z))], [(msv, aI cy 920 (u_27))]].flatten := hD
      refine lv_aload_n hx hb dX8_remove_30 rfl (lv_at hl 0 rfl) ?_
      refine q_iconst hx hb dX8_remove_31 ?_
      refine q_backv [9, 10, 1, 2, 3, 4, 5, 6] [0, 7, 8, 11] (br := [[(mtx, aI cy 60 (bf))], [(mrd, aI cy 100 (rd))], [(mas, aI cy 115 (as9))], [(msv, aI cy 920 (u_27))]]) hP hD hS hA (va_runV (As := [.int (qI (-1))]) (rest := []) ⟨hx, hb, hml, hown, hg⟩ (c_X8_fill l D cy mo mz msv mtx mmo mif mmg mtn mie mme mrd mas (0) (((min (hz + 1) 8 : Nat) : Int)) (((len : Nat) : Int)) (tu) (fi) (ro) (sp) (it) (bl) (hh) (z) nc ne (g) (isF) (mg) (tn) (isE) (mE) hnc hne hc he hC hE (-1) (by omega) _) (cv_X8_77 hg rfl rfl ⟨by decide, by decide⟩) ⟨q_blind, va_recv hK (fl_blk hP 9 rfl) (ci := 8) (q0 := 0) rfl rfl, q_preM _ hK hN hP hD [9, 10, 1, 2, 3, 4, 5, 6] (by decide) rfl⟩ rfl rfl hl.1 rfl (lv_room (Nat.le_of_ble_eq_true rfl)) dX8_remove_32 ⟨by decide, by decide⟩) rfl rfl (by decide) (fun u_32 H locs h_32 hP hD hS => ?_)
      have hP : va_P D vwCl [[(mtx, aI cy 60 (bf))], [(mrd, aI cy 100 (rd))], [(mas, aI cy 115 (as9))], [(msv, aI cy 920 (u_27))], [(mo, .inr (8, [.int (qI (0)), .ref (mz), .int (qI (((min (hz + 1) 8 : Nat) : Int))), .ref (msv), .int (qI (((len : Nat) : Int))), .ref (mtx), .ref (mmo), .int (qI (u_32.2.1)), .ref (mif), .ref (mmg), .ref (mtn), .ref (mie), .ref (mme), .int (qz (u_32.2.2.2.2.2.2.2.1)), .int (qI (u_32.2.2.2.2.2.2.2.2)), .int (qI (sp)), .int (qI (it)), .int (qz (bl)), .ref (mrd), .ref (mas), .long (hh)]))], [(mz, aI cy 115 (z))], [(mmo, aI cy 121 (u_32.1))], [(mif, aZ cy 16 (u_32.2.2.1))], [(mmg, aI cy 16 (u_32.2.2.2.1))], [(mtn, aI cy 16 (u_32.2.2.2.2.1))], [(mie, aZ cy 4 (u_32.2.2.2.2.2.1))], [(mme, aI cy 4 (u_32.2.2.2.2.2.2.1))]].flatten H := hP
      have hD : va_D A [[(mtx, aI cy 60 (bf))], [(mrd, aI cy 100 (rd))], [(mas, aI cy 115 (as9))], [(msv, aI cy 920 (u_27))], [(mo, .inr (8, [.int (qI (0)), .ref (mz), .int (qI (((min (hz + 1) 8 : Nat) : Int))), .ref (msv), .int (qI (((len : Nat) : Int))), .ref (mtx), .ref (mmo), .int (qI (u_32.2.1)), .ref (mif), .ref (mmg), .ref (mtn), .ref (mie), .ref (mme), .int (qz (u_32.2.2.2.2.2.2.2.1)), .int (qI (u_32.2.2.2.2.2.2.2.2)), .int (qI (sp)), .int (qI (it)), .int (qz (bl)), .ref (mrd), .ref (mas), .long (hh)]))], [(mz, aI cy 115 (z))], [(mmo, aI cy 121 (u_32.1))], [(mif, aZ cy 16 (u_32.2.2.1))], [(mmg, aI cy 16 (u_32.2.2.2.1))], [(mtn, aI cy 16 (u_32.2.2.2.2.1))], [(mie, aZ cy 4 (u_32.2.2.2.2.2.1))], [(mme, aI cy 4 (u_32.2.2.2.2.2.2.1))]].flatten := hD
      refine lv_aload_n hx hb dX8_remove_35 rfl (lv_at hl 0 rfl) ?_
      refine gf_X8_22 hx hb hg hown hK (fl_blk hP 4 rfl) 0 rfl rfl dX8_remove_36 ?_
      refine lv_iload_n hx hb dX8_remove_39 rfl (lv_at hl 1 rfl) ?_
      refine q_zald (j := k) hx hb hK (fl_blk hP 7 rfl) 0 rfl (by omega) dX8_remove_40 ?_
      refine q_ifz_eq (tgt := 48) hx hb dX8_remove_41 (by decide) (fun c_41 => ?_) (fun c_41 => ?_)
      · skip
        refine q_iconst hx hb dX8_remove_48 ?_
        refine lv_istore_n (lv' := [(2, .int (qI (0))), (0, .ref (mo)), (1, .int (qI (p0)))]) hx hb dX8_remove_49 rfl hl (by decide) rfl (fun ls hl => ?_)
        refine lv_aload_n hx hb dX8_remove_50 rfl (lv_at hl 1 rfl) ?_
        refine gf_X8_7 hx hb hg hown hK (fl_blk hP 4 rfl) 0 rfl rfl dX8_remove_51 ?_
        refine q_bipush hx hb dX8_remove_54 (by decide) ?_
        refine lv_dup2_11 hx hb dX8_remove_56 rfl rfl ?_
        refine q_iald (j := 20) hx hb hK (fl_blk hP 5 rfl) 0 rfl (by omega) dX8_remove_57 ?_
        refine q_topZ (y := ((nc : Nat) : Int)) hnc ?_
        refine q_iconst hx hb dX8_remove_58 ?_
        refine q_isub hx hb dX8_remove_59 ?_
        refine qb_iast (j := 20) hx hb hK hP hD hS 5 0 rfl rfl (by omega) dX8_remove_60 (fun H locs hP hD hS => ?_)
        have hP : va_P D vwCl [[(mtx, aI cy 60 (bf))], [(mrd, aI cy 100 (rd))], [(mas, aI cy 115 (as9))], [(msv, aI cy 920 (u_27))], [(mo, .inr (8, [.int (qI (0)), .ref (mz), .int (qI (((min (hz + 1) 8 : Nat) : Int))), .ref (msv), .int (qI (((len : Nat) : Int))), .ref (mtx), .ref (mmo), .int (qI (u_32.2.1)), .ref (mif), .ref (mmg), .ref (mtn), .ref (mie), .ref (mme), .int (qz (u_32.2.2.2.2.2.2.2.1)), .int (qI (u_32.2.2.2.2.2.2.2.2)), .int (qI (sp)), .int (qI (it)), .int (qz (bl)), .ref (mrd), .ref (mas), .long (hh)]))], [(mz, aI cy 115 (qu z 20 ((((nc : Nat) : Int)) - (1))))], [(mmo, aI cy 121 (u_32.1))], [(mif, aZ cy 16 (u_32.2.2.1))], [(mmg, aI cy 16 (u_32.2.2.2.1))], [(mtn, aI cy 16 (u_32.2.2.2.2.1))], [(mie, aZ cy 4 (u_32.2.2.2.2.2.1))], [(mme, aI cy 4 (u_32.2.2.2.2.2.2.1))]].flatten H := hP
        have hD : va_D A [[(mtx, aI cy 60 (bf))], [(mrd, aI cy 100 (rd))], [(mas, aI cy 115 (as9))], [(msv, aI cy 920 (u_27))], [(mo, .inr (8, [.int (qI (0)), .ref (mz), .int (qI (((min (hz + 1) 8 : Nat) : Int))), .ref (msv), .int (qI (((len : Nat) : Int))), .ref (mtx), .ref (mmo), .int (qI (u_32.2.1)), .ref (mif), .ref (mmg), .ref (mtn), .ref (mie), .ref (mme), .int (qz (u_32.2.2.2.2.2.2.2.1)), .int (qI (u_32.2.2.2.2.2.2.2.2)), .int (qI (sp)), .int (qI (it)), .int (qz (bl)), .ref (mrd), .ref (mas), .long (hh)]))], [(mz, aI cy 115 (qu z 20 ((((nc : Nat) : Int)) - (1))))], [(mmo, aI cy 121 (u_32.1))], [(mif, aZ cy 16 (u_32.2.2.1))], [(mmg, aI cy 16 (u_32.2.2.2.1))], [(mtn, aI cy 16 (u_32.2.2.2.2.1))], [(mie, aZ cy 4 (u_32.2.2.2.2.2.1))], [(mme, aI cy 4 (u_32.2.2.2.2.2.2.1))]].flatten := hD
        refine q_bipush hx hb dX8_remove_61 (by decide) ?_
        refine q_iconst hx hb dX8_remove_63 ?_
        refine lv_iload_n hx hb dX8_remove_64 rfl (lv_at hl 2 rfl) ?_
        refine q_imul hx hb dX8_remove_65 ?_
        refine q_iadd hx hb dX8_remove_66 ?_
        refine q_topZ (y := ((21 + 5 * k + 0 : Nat) : Int)) (by omega) ?_
        refine lv_istore_n (lv' := [(3, .int (qI (((21 + 5 * k + 0 : Nat) : Int)))), (2, .int (qI (0))), (0, .ref (mo)), (1, .int (qI (p0)))]) hx hb dX8_remove_67 rfl hl (by decide) rfl (fun ls hl => ?_)
        have L_68 : ∀ (n_68 j : Nat) (z1 : Nat → Int), j ≤ (5 * (nc - 1 - k)) → (5 * (nc - 1 - k)) + 1 ≤ j + n_68 → (∀ m, z1 m = if m = 20 then (nc : Int) - 1 else if 21 + 5 * k ≤ m ∧ m < 21 + 5 * k + j then z (m + 5) else z m) → ∀ (H : Heap) (locs : List Loc) (ls : Array Slot), va_P D vwCl [[(mtx, aI cy 60 (bf))], [(mrd, aI cy 100 (rd))], [(mas, aI cy 115 (as9))], [(msv, aI cy 920 (u_27))], [(mo, .inr (8, [.int (qI (0)), .ref (mz), .int (qI (((min (hz + 1) 8 : Nat) : Int))), .ref (msv), .int (qI (((len : Nat) : Int))), .ref (mtx), .ref (mmo), .int (qI (u_32.2.1)), .ref (mif), .ref (mmg), .ref (mtn), .ref (mie), .ref (mme), .int (qz (u_32.2.2.2.2.2.2.2.1)), .int (qI (u_32.2.2.2.2.2.2.2.2)), .int (qI (sp)), .int (qI (it)), .int (qz (bl)), .ref (mrd), .ref (mas), .long (hh)]))], [(mz, aI cy 115 (z1))], [(mmo, aI cy 121 (u_32.1))], [(mif, aZ cy 16 (u_32.2.2.1))], [(mmg, aI cy 16 (u_32.2.2.2.1))], [(mtn, aI cy 16 (u_32.2.2.2.2.1))], [(mie, aZ cy 4 (u_32.2.2.2.2.2.1))], [(mme, aI cy 4 (u_32.2.2.2.2.2.2.1))]].flatten H → va_D A [[(mtx, aI cy 60 (bf))], [(mrd, aI cy 100 (rd))], [(mas, aI cy 115 (as9))], [(msv, aI cy 920 (u_27))], [(mo, .inr (8, [.int (qI (0)), .ref (mz), .int (qI (((min (hz + 1) 8 : Nat) : Int))), .ref (msv), .int (qI (((len : Nat) : Int))), .ref (mtx), .ref (mmo), .int (qI (u_32.2.1)), .ref (mif), .ref (mmg), .ref (mtn), .ref (mie), .ref (mme), .int (qz (u_32.2.2.2.2.2.2.2.1)), .int (qI (u_32.2.2.2.2.2.2.2.2)), .int (qI (sp)), .int (qI (it)), .int (qz (bl)), .ref (mrd), .ref (mas), .long (hh)]))], [(mz, aI cy 115 (z1))], [(mmo, aI cy 121 (u_32.1))], [(mif, aZ cy 16 (u_32.2.2.1))], [(mmg, aI cy 16 (u_32.2.2.2.1))], [(mtn, aI cy 16 (u_32.2.2.2.2.1))], [(mie, aZ cy 4 (u_32.2.2.2.2.2.1))], [(mme, aI cy 4 (u_32.2.2.2.2.2.2.1))]].flatten → va_S A s.heap H locs → lv_has ls 4 [(0, .ref (mo)), (1, .int (qI (p0))), (2, .int (qI (0))), (3, .int (qI (((21 + 5 * k + j : Nat) : Int))))] → W p l e (qrm 8) s m args below meth c H locs 0 0 Q (F0 m 68 ls []) := by
          intro n_68
          induction n_68 with
          | zero => intro j _ h1 h2; exact absurd h2 (by omega)
          | succ n_68 ih_68 =>
            intro j z1 hk_68 hn_68 hz1 H locs ls hP hD hS hl
            have z20 : z1 20 = (nc : Int) - 1 := by rw [hz1, if_pos rfl]
            refine lv_iload_n hx hb dX8_remove_68 rfl (lv_at hl 3 rfl) ?_
            refine q_bipush hx hb dX8_remove_69 (by decide) ?_
            refine q_iconst hx hb dX8_remove_71 ?_
            refine lv_aload_n hx hb dX8_remove_72 rfl (lv_at hl 0 rfl) ?_
            refine gf_X8_7 hx hb hg hown hK (fl_blk hP 4 rfl) 0 rfl rfl dX8_remove_73 ?_
            refine q_bipush hx hb dX8_remove_76 (by decide) ?_
            refine q_iald (j := 20) hx hb hK (fl_blk hP 5 rfl) 0 rfl (by omega) dX8_remove_78 ?_
            refine q_imul hx hb dX8_remove_79 ?_
            refine q_iadd hx hb dX8_remove_80 ?_
            refine q_icmp_ge (tgt := 104) hx hb dX8_remove_81 (by decide) (by omega) (fun c_81 => ?_) (fun c_81 => ?_)
            · skip
              have j9 : j = 5 * (nc - 1 - k) := by omega
              subst j9
              have hS0 : LEq (zS (z1)) (rmC T k) := LEq.tr (rm_at hc (by omega) hnc hz1) (rmC_eq hL k)
              have gS0 := (rmC_ok hG k).eq hS0
              obtain ⟨n0, hn0⟩ : ∃ n0 : Nat, (z1) 20 = (n0 : Int) := ⟨((z1) 20).toNat, by have q := z20; omega⟩
              obtain ⟨m0, hm0⟩ : ∃ m0 : Nat, (z1) 101 = (m0 : Int) := ⟨((z1) 101).toNat, by have q := (show z1 101 = z 101 by rw [hz1, if_neg (by decide), if_neg (by omega)]); omega⟩
              have n20 : ((z1) 20).toNat = n0 := by omega
              have n101 : ((z1) 101).toNat = m0 := by omega
              have hV0 : qV (z1) := gS0.1
              have hst0 : ∀ i, i < 10 → 0 ≤ (z1) (10 + i) ∧ (z1) (10 + i) ≤ 9 := gS0.2.1
              have hc0 : n0 ≤ 16 := n20 ▸ (gS0.2.2.1.1 : ((z1) 20).toNat ≤ 16)
              have hC0 : qWR (zC (z1)) n0 := n20 ▸ (gS0.2.2.1.2 : qWR (zC (z1)) ((z1) 20).toNat)
              have he0 : m0 ≤ 4 := n101 ▸ (gS0.2.2.2.1.1 : ((z1) 101).toNat ≤ 4)
              have hE0 : qWR (zE (z1)) m0 := n101 ▸ (gS0.2.2.2.1.2 : qWR (zE (z1)) ((z1) 101).toNat)
              refine lv_aload_n hx hb dX8_remove_104 rfl (lv_at hl 0 rfl) ?_
              refine q_backv [4, 5, 6, 7, 8, 9, 10, 11] [0, 1, 2, 3] (br := [[(mtx, aI cy 60 (bf))], [(mrd, aI cy 100 (rd))], [(mas, aI cy 115 (as9))], [(msv, aI cy 920 (u_27))]]) hP hD hS hA (va_runV (As := []) (rest := []) ⟨hx, hb, hml, hown, hg⟩ (c_X8_settle l D cy mo mz msv mtx mmo mif mmg mtn mie mme mrd mas (0) (((min (hz + 1) 8 : Nat) : Int)) (((len : Nat) : Int)) (u_32.2.1) (u_32.2.2.2.2.2.2.2.1) (u_32.2.2.2.2.2.2.2.2) (sp) (it) (bl) (hh) (z1) n0 m0 (u_32.1) (u_32.2.2.1) (u_32.2.2.2.1) (u_32.2.2.2.2.1) (u_32.2.2.2.2.2.1) (u_32.2.2.2.2.2.2.1) hn0 hm0 hc0 he0 hC0 hE0 hV0 hst0 _) (cv_X8_111 hg rfl rfl ⟨by decide, by decide⟩) ⟨q_blind, va_recv hK (fl_blk hP 4 rfl) (ci := 8) (q0 := 0) rfl rfl, q_preM _ hK hN hP hD [4, 5, 6, 7, 8, 9, 10, 11] (by decide) rfl⟩ rfl rfl hl.1 rfl (lv_room (Nat.le_of_ble_eq_true rfl)) dX8_remove_105 ⟨by decide, by decide⟩) rfl rfl (by decide) (fun u_105 H locs h_105 hP hD hS => ?_)
              have hP : va_P D vwCl [[(mtx, aI cy 60 (bf))], [(mrd, aI cy 100 (rd))], [(mas, aI cy 115 (as9))], [(msv, aI cy 920 (u_27))], [(mo, .inr (8, [.int (qI (0)), .ref (mz), .int (qI (((min (hz + 1) 8 : Nat) : Int))), .ref (msv), .int (qI (((len : Nat) : Int))), .ref (mtx), .ref (mmo), .int (qI (u_105.2.2.2.1)), .ref (mif), .ref (mmg), .ref (mtn), .ref (mie), .ref (mme), .int (qz (u_105.2.2.2.2.2.2.2.2.2.1)), .int (qI (u_105.2.2.2.2.2.2.2.2.2.2)), .int (qI (sp)), .int (qI (it)), .int (qz (bl)), .ref (mrd), .ref (mas), .long (hh)]))], [(mz, aI cy 115 (u_105.1))], [(mmo, aI cy 121 (u_105.2.1))], [(mif, aZ cy 16 (u_105.2.2.2.2.1))], [(mmg, aI cy 16 (u_105.2.2.2.2.2.1))], [(mtn, aI cy 16 (u_105.2.2.2.2.2.2.1))], [(mie, aZ cy 4 (u_105.2.2.2.2.2.2.2.1))], [(mme, aI cy 4 (u_105.2.2.2.2.2.2.2.2.1))]].flatten H := hP
              have hD : va_D A [[(mtx, aI cy 60 (bf))], [(mrd, aI cy 100 (rd))], [(mas, aI cy 115 (as9))], [(msv, aI cy 920 (u_27))], [(mo, .inr (8, [.int (qI (0)), .ref (mz), .int (qI (((min (hz + 1) 8 : Nat) : Int))), .ref (msv), .int (qI (((len : Nat) : Int))), .ref (mtx), .ref (mmo), .int (qI (u_105.2.2.2.1)), .ref (mif), .ref (mmg), .ref (mtn), .ref (mie), .ref (mme), .int (qz (u_105.2.2.2.2.2.2.2.2.2.1)), .int (qI (u_105.2.2.2.2.2.2.2.2.2.2)), .int (qI (sp)), .int (qI (it)), .int (qz (bl)), .ref (mrd), .ref (mas), .long (hh)]))], [(mz, aI cy 115 (u_105.1))], [(mmo, aI cy 121 (u_105.2.1))], [(mif, aZ cy 16 (u_105.2.2.2.2.1))], [(mmg, aI cy 16 (u_105.2.2.2.2.2.1))], [(mtn, aI cy 16 (u_105.2.2.2.2.2.2.1))], [(mie, aZ cy 4 (u_105.2.2.2.2.2.2.2.1))], [(mme, aI cy 4 (u_105.2.2.2.2.2.2.2.2.1))]].flatten := hD
              refine lv_iload_n hx hb dX8_remove_108 rfl (lv_at hl 2 rfl) ?_
              have hP := fl_sub (bs' := [[(mo, .inr (8, [.int (qI (0)), .ref (mz), .int (qI (((min (hz + 1) 8 : Nat) : Int))), .ref (msv), .int (qI (((len : Nat) : Int))), .ref (mtx), .ref (mmo), .int (qI (u_105.2.2.2.1)), .ref (mif), .ref (mmg), .ref (mtn), .ref (mie), .ref (mme), .int (qz (u_105.2.2.2.2.2.2.2.2.2.1)), .int (qI (u_105.2.2.2.2.2.2.2.2.2.2)), .int (qI (sp)), .int (qI (it)), .int (qz (bl)), .ref (mrd), .ref (mas), .long (hh)]))], [(mz, aI cy 115 (u_105.1))], [(msv, aI cy 920 (u_27))], [(mtx, aI cy 60 (bf))], [(mmo, aI cy 121 (u_105.2.1))], [(mif, aZ cy 16 (u_105.2.2.2.2.1))], [(mmg, aI cy 16 (u_105.2.2.2.2.2.1))], [(mtn, aI cy 16 (u_105.2.2.2.2.2.2.1))], [(mie, aZ cy 4 (u_105.2.2.2.2.2.2.2.1))], [(mme, aI cy 4 (u_105.2.2.2.2.2.2.2.2.1))], [(mrd, aI cy 100 (rd))], [(mas, aI cy 115 (as9))]]) hP [4, 5, 3, 0, 6, 7, 8, 9, 10, 11, 1, 2] rfl
              have hD := fl_subD (bs' := [[(mo, .inr (8, [.int (qI (0)), .ref (mz), .int (qI (((min (hz + 1) 8 : Nat) : Int))), .ref (msv), .int (qI (((len : Nat) : Int))), .ref (mtx), .ref (mmo), .int (qI (u_105.2.2.2.1)), .ref (mif), .ref (mmg), .ref (mtn), .ref (mie), .ref (mme), .int (qz (u_105.2.2.2.2.2.2.2.2.2.1)), .int (qI (u_105.2.2.2.2.2.2.2.2.2.2)), .int (qI (sp)), .int (qI (it)), .int (qz (bl)), .ref (mrd), .ref (mas), .long (hh)]))], [(mz, aI cy 115 (u_105.1))], [(msv, aI cy 920 (u_27))], [(mtx, aI cy 60 (bf))], [(mmo, aI cy 121 (u_105.2.1))], [(mif, aZ cy 16 (u_105.2.2.2.2.1))], [(mmg, aI cy 16 (u_105.2.2.2.2.2.1))], [(mtn, aI cy 16 (u_105.2.2.2.2.2.2.1))], [(mie, aZ cy 4 (u_105.2.2.2.2.2.2.2.1))], [(mme, aI cy 4 (u_105.2.2.2.2.2.2.2.2.1))], [(mrd, aI cy 100 (rd))], [(mas, aI cy 115 (as9))]]) hD [4, 5, 3, 0, 6, 7, 8, 9, 10, 11, 1, 2] (by decide) rfl
              have hP : va_P D vwCl [(mdB cy mo mz msv mtx mmo mif mmg mtn mie mme mrd mas (0) ((min (hz + 1) 8)) (len) (u_105.2.2.2.1) (u_105.2.2.2.2.2.2.2.2.2.1) (u_105.2.2.2.2.2.2.2.2.2.2) (sp) (it) (bl) (hh) (u_105.1) (u_27) (bf) (u_105.2.1) (u_105.2.2.2.2.1) (u_105.2.2.2.2.2.1) (u_105.2.2.2.2.2.2.1) (u_105.2.2.2.2.2.2.2.1) (u_105.2.2.2.2.2.2.2.2.1) (rd) (as9)).flatten].flatten H := by rw [fl_open]; exact hP
              have hD : va_D A [(mdB cy mo mz msv mtx mmo mif mmg mtn mie mme mrd mas (0) ((min (hz + 1) 8)) (len) (u_105.2.2.2.1) (u_105.2.2.2.2.2.2.2.2.2.1) (u_105.2.2.2.2.2.2.2.2.2.2) (sp) (it) (bl) (hh) (u_105.1) (u_27) (bf) (u_105.2.1) (u_105.2.2.2.2.1) (u_105.2.2.2.2.2.1) (u_105.2.2.2.2.2.2.1) (u_105.2.2.2.2.2.2.2.1) (u_105.2.2.2.2.2.2.2.2.1) (rd) (as9)).flatten].flatten := by rw [fl_open]; exact hD
              exact hQ _ _ _ _ _ ((mdB cy mo mz msv mtx mmo mif mmg mtn mie mme mrd mas (0) ((min (hz + 1) 8)) (len) (u_105.2.2.2.1) (u_105.2.2.2.2.2.2.2.2.2.1) (u_105.2.2.2.2.2.2.2.2.2.2) (sp) (it) (bl) (hh) (u_105.1) (u_27) (bf) (u_105.2.1) (u_105.2.2.2.2.1) (u_105.2.2.2.2.2.1) (u_105.2.2.2.2.2.2.1) (u_105.2.2.2.2.2.2.2.1) (u_105.2.2.2.2.2.2.2.2.1) (rd) (as9)).flatten) ⟨by rw [← congrArg (fun F : FS => ((fOC F k).toNat : Int)) (filS_eq hL2 (-1)), show fOC (filS (z, (fun i => z (10 + i)), zC z, nc, zE z, ne) (-1)) k = false from (h_32.2.1 k (by omega) (by omega)).1.symm.trans c_41]; rfl, ⟨(u_105.2.2.2.1), (u_105.2.2.2.2.2.2.2.2.2.1), (u_105.2.2.2.2.2.2.2.2.2.2), (sp), (it), (bl), (hh), (u_105.1), (u_27), (bf), (u_105.2.1), (u_105.2.2.2.2.1), (u_105.2.2.2.2.2.1), (u_105.2.2.2.2.2.2.1), (u_105.2.2.2.2.2.2.2.1), (u_105.2.2.2.2.2.2.2.2.1), (rd), (as9), rfl, mset_fin hS0 n20 n101 hn0 hm0 hc0 he0 h_105.1, ⟨by omega, mh_push hhz h_27 ⟨hL, hz20, hz101, by omega, by omega⟩ hHZ⟩, hln, hbf, htx⟩⟩ hP hD hS dX8_remove_109
            · skip
              refine lv_aload_n hx hb dX8_remove_84 rfl (lv_at hl 0 rfl) ?_
              refine gf_X8_7 hx hb hg hown hK (fl_blk hP 4 rfl) 0 rfl rfl dX8_remove_85 ?_
              refine lv_iload_n hx hb dX8_remove_88 rfl (lv_at hl 3 rfl) ?_
              refine lv_aload_n hx hb dX8_remove_89 rfl (lv_at hl 0 rfl) ?_
              refine gf_X8_7 hx hb hg hown hK (fl_blk hP 4 rfl) 0 rfl rfl dX8_remove_90 ?_
              refine lv_iload_n hx hb dX8_remove_93 rfl (lv_at hl 3 rfl) ?_
              refine q_iconst hx hb dX8_remove_94 ?_
              refine q_iadd hx hb dX8_remove_95 ?_
              refine q_iald (j := (21 + 5 * k + j + 5)) hx hb hK (fl_blk hP 5 rfl) 0 rfl (by omega) dX8_remove_96 ?_
              refine qb_iast (j := 21 + 5 * k + j) hx hb hK hP hD hS 5 0 rfl rfl (by omega) dX8_remove_97 (fun H locs hP hD hS => ?_)
              have hP : va_P D vwCl [[(mtx, aI cy 60 (bf))], [(mrd, aI cy 100 (rd))], [(mas, aI cy 115 (as9))], [(msv, aI cy 920 (u_27))], [(mo, .inr (8, [.int (qI (0)), .ref (mz), .int (qI (((min (hz + 1) 8 : Nat) : Int))), .ref (msv), .int (qI (((len : Nat) : Int))), .ref (mtx), .ref (mmo), .int (qI (u_32.2.1)), .ref (mif), .ref (mmg), .ref (mtn), .ref (mie), .ref (mme), .int (qz (u_32.2.2.2.2.2.2.2.1)), .int (qI (u_32.2.2.2.2.2.2.2.2)), .int (qI (sp)), .int (qI (it)), .int (qz (bl)), .ref (mrd), .ref (mas), .long (hh)]))], [(mz, aI cy 115 (qu z1 (21 + 5 * k + j) (z1 (21 + 5 * k + j + 5))))], [(mmo, aI cy 121 (u_32.1))], [(mif, aZ cy 16 (u_32.2.2.1))], [(mmg, aI cy 16 (u_32.2.2.2.1))], [(mtn, aI cy 16 (u_32.2.2.2.2.1))], [(mie, aZ cy 4 (u_32.2.2.2.2.2.1))], [(mme, aI cy 4 (u_32.2.2.2.2.2.2.1))]].flatten H := hP
              have hD : va_D A [[(mtx, aI cy 60 (bf))], [(mrd, aI cy 100 (rd))], [(mas, aI cy 115 (as9))], [(msv, aI cy 920 (u_27))], [(mo, .inr (8, [.int (qI (0)), .ref (mz), .int (qI (((min (hz + 1) 8 : Nat) : Int))), .ref (msv), .int (qI (((len : Nat) : Int))), .ref (mtx), .ref (mmo), .int (qI (u_32.2.1)), .ref (mif), .ref (mmg), .ref (mtn), .ref (mie), .ref (mme), .int (qz (u_32.2.2.2.2.2.2.2.1)), .int (qI (u_32.2.2.2.2.2.2.2.2)), .int (qI (sp)), .int (qI (it)), .int (qz (bl)), .ref (mrd), .ref (mas), .long (hh)]))], [(mz, aI cy 115 (qu z1 (21 + 5 * k + j) (z1 (21 + 5 * k + j + 5))))], [(mmo, aI cy 121 (u_32.1))], [(mif, aZ cy 16 (u_32.2.2.1))], [(mmg, aI cy 16 (u_32.2.2.2.1))], [(mtn, aI cy 16 (u_32.2.2.2.2.1))], [(mie, aZ cy 4 (u_32.2.2.2.2.2.1))], [(mme, aI cy 4 (u_32.2.2.2.2.2.2.1))]].flatten := hD
              refine q_iinc (k := 3) (lv' := [(3, .int (qI ((((21 + 5 * k + j : Nat) : Int)) + (1)))), (0, .ref (mo)), (1, .int (qI (p0))), (2, .int (qI (0)))]) hx hb dX8_remove_98 hl rfl (by decide) rfl (fun ls hl => ?_)
              refine lv_goto (tgt := 68) hx hb dX8_remove_101 (by decide) ?_
              exact ih_68 (j + 1) _ (by omega) (by omega) (rm_step hc (by omega) (by omega) hz1) _ _ _ hP hD hS (lv_sub hl [1, 2, 3, 0] rfl)
        exact L_68 ((5 * (nc - 1 - k)) + 1) (0) _ (by omega) (by omega) (fun m => by by_cases e : m = 20; subst e; rw [qu_s, if_pos rfl]; rw [qu_n _ _ e, if_neg e, if_neg (by omega)]) _ _ _ hP hD hS (lv_sub hl [2, 3, 1, 0] rfl)
      · skip
        refine q_iconst hx hb dX8_remove_44 ?_
        refine lv_goto (tgt := 49) hx hb dX8_remove_45 (by decide) ?_
        refine lv_istore_n (lv' := [(2, .int (qI (1))), (0, .ref (mo)), (1, .int (qI (p0)))]) hx hb dX8_remove_49 rfl hl (by decide) rfl (fun ls hl => ?_)
        refine lv_aload_n hx hb dX8_remove_50 rfl (lv_at hl 1 rfl) ?_
        refine gf_X8_7 hx hb hg hown hK (fl_blk hP 4 rfl) 0 rfl rfl dX8_remove_51 ?_
        refine q_bipush hx hb dX8_remove_54 (by decide) ?_
        refine lv_dup2_11 hx hb dX8_remove_56 rfl rfl ?_
        refine q_iald (j := 20) hx hb hK (fl_blk hP 5 rfl) 0 rfl (by omega) dX8_remove_57 ?_
        refine q_topZ (y := ((nc : Nat) : Int)) hnc ?_
        refine q_iconst hx hb dX8_remove_58 ?_
        refine q_isub hx hb dX8_remove_59 ?_
        refine qb_iast (j := 20) hx hb hK hP hD hS 5 0 rfl rfl (by omega) dX8_remove_60 (fun H locs hP hD hS => ?_)
        have hP : va_P D vwCl [[(mtx, aI cy 60 (bf))], [(mrd, aI cy 100 (rd))], [(mas, aI cy 115 (as9))], [(msv, aI cy 920 (u_27))], [(mo, .inr (8, [.int (qI (0)), .ref (mz), .int (qI (((min (hz + 1) 8 : Nat) : Int))), .ref (msv), .int (qI (((len : Nat) : Int))), .ref (mtx), .ref (mmo), .int (qI (u_32.2.1)), .ref (mif), .ref (mmg), .ref (mtn), .ref (mie), .ref (mme), .int (qz (u_32.2.2.2.2.2.2.2.1)), .int (qI (u_32.2.2.2.2.2.2.2.2)), .int (qI (sp)), .int (qI (it)), .int (qz (bl)), .ref (mrd), .ref (mas), .long (hh)]))], [(mz, aI cy 115 (qu z 20 ((((nc : Nat) : Int)) - (1))))], [(mmo, aI cy 121 (u_32.1))], [(mif, aZ cy 16 (u_32.2.2.1))], [(mmg, aI cy 16 (u_32.2.2.2.1))], [(mtn, aI cy 16 (u_32.2.2.2.2.1))], [(mie, aZ cy 4 (u_32.2.2.2.2.2.1))], [(mme, aI cy 4 (u_32.2.2.2.2.2.2.1))]].flatten H := hP
        have hD : va_D A [[(mtx, aI cy 60 (bf))], [(mrd, aI cy 100 (rd))], [(mas, aI cy 115 (as9))], [(msv, aI cy 920 (u_27))], [(mo, .inr (8, [.int (qI (0)), .ref (mz), .int (qI (((min (hz + 1) 8 : Nat) : Int))), .ref (msv), .int (qI (((len : Nat) : Int))), .ref (mtx), .ref (mmo), .int (qI (u_32.2.1)), .ref (mif), .ref (mmg), .ref (mtn), .ref (mie), .ref (mme), .int (qz (u_32.2.2.2.2.2.2.2.1)), .int (qI (u_32.2.2.2.2.2.2.2.2)), .int (qI (sp)), .int (qI (it)), .int (qz (bl)), .ref (mrd), .ref (mas), .long (hh)]))], [(mz, aI cy 115 (qu z 20 ((((nc : Nat) : Int)) - (1))))], [(mmo, aI cy 121 (u_32.1))], [(mif, aZ cy 16 (u_32.2.2.1))], [(mmg, aI cy 16 (u_32.2.2.2.1))], [(mtn, aI cy 16 (u_32.2.2.2.2.1))], [(mie, aZ cy 4 (u_32.2.2.2.2.2.1))], [(mme, aI cy 4 (u_32.2.2.2.2.2.2.1))]].flatten := hD
        refine q_bipush hx hb dX8_remove_61 (by decide) ?_
        refine q_iconst hx hb dX8_remove_63 ?_
        refine lv_iload_n hx hb dX8_remove_64 rfl (lv_at hl 2 rfl) ?_
        refine q_imul hx hb dX8_remove_65 ?_
        refine q_iadd hx hb dX8_remove_66 ?_
        refine q_topZ (y := ((21 + 5 * k + 0 : Nat) : Int)) (by omega) ?_
        refine lv_istore_n (lv' := [(3, .int (qI (((21 + 5 * k + 0 : Nat) : Int)))), (2, .int (qI (1))), (0, .ref (mo)), (1, .int (qI (p0)))]) hx hb dX8_remove_67 rfl hl (by decide) rfl (fun ls hl => ?_)
        have L_68 : ∀ (n_68 j : Nat) (z1 : Nat → Int), j ≤ (5 * (nc - 1 - k)) → (5 * (nc - 1 - k)) + 1 ≤ j + n_68 → (∀ m, z1 m = if m = 20 then (nc : Int) - 1 else if 21 + 5 * k ≤ m ∧ m < 21 + 5 * k + j then z (m + 5) else z m) → ∀ (H : Heap) (locs : List Loc) (ls : Array Slot), va_P D vwCl [[(mtx, aI cy 60 (bf))], [(mrd, aI cy 100 (rd))], [(mas, aI cy 115 (as9))], [(msv, aI cy 920 (u_27))], [(mo, .inr (8, [.int (qI (0)), .ref (mz), .int (qI (((min (hz + 1) 8 : Nat) : Int))), .ref (msv), .int (qI (((len : Nat) : Int))), .ref (mtx), .ref (mmo), .int (qI (u_32.2.1)), .ref (mif), .ref (mmg), .ref (mtn), .ref (mie), .ref (mme), .int (qz (u_32.2.2.2.2.2.2.2.1)), .int (qI (u_32.2.2.2.2.2.2.2.2)), .int (qI (sp)), .int (qI (it)), .int (qz (bl)), .ref (mrd), .ref (mas), .long (hh)]))], [(mz, aI cy 115 (z1))], [(mmo, aI cy 121 (u_32.1))], [(mif, aZ cy 16 (u_32.2.2.1))], [(mmg, aI cy 16 (u_32.2.2.2.1))], [(mtn, aI cy 16 (u_32.2.2.2.2.1))], [(mie, aZ cy 4 (u_32.2.2.2.2.2.1))], [(mme, aI cy 4 (u_32.2.2.2.2.2.2.1))]].flatten H → va_D A [[(mtx, aI cy 60 (bf))], [(mrd, aI cy 100 (rd))], [(mas, aI cy 115 (as9))], [(msv, aI cy 920 (u_27))], [(mo, .inr (8, [.int (qI (0)), .ref (mz), .int (qI (((min (hz + 1) 8 : Nat) : Int))), .ref (msv), .int (qI (((len : Nat) : Int))), .ref (mtx), .ref (mmo), .int (qI (u_32.2.1)), .ref (mif), .ref (mmg), .ref (mtn), .ref (mie), .ref (mme), .int (qz (u_32.2.2.2.2.2.2.2.1)), .int (qI (u_32.2.2.2.2.2.2.2.2)), .int (qI (sp)), .int (qI (it)), .int (qz (bl)), .ref (mrd), .ref (mas), .long (hh)]))], [(mz, aI cy 115 (z1))], [(mmo, aI cy 121 (u_32.1))], [(mif, aZ cy 16 (u_32.2.2.1))], [(mmg, aI cy 16 (u_32.2.2.2.1))], [(mtn, aI cy 16 (u_32.2.2.2.2.1))], [(mie, aZ cy 4 (u_32.2.2.2.2.2.1))], [(mme, aI cy 4 (u_32.2.2.2.2.2.2.1))]].flatten → va_S A s.heap H locs → lv_has ls 4 [(0, .ref (mo)), (1, .int (qI (p0))), (2, .int (qI (1))), (3, .int (qI (((21 + 5 * k + j : Nat) : Int))))] → W p l e (qrm 8) s m args below meth c H locs 0 0 Q (F0 m 68 ls []) := by
          intro n_68
          induction n_68 with
          | zero => intro j _ h1 h2; exact absurd h2 (by omega)
          | succ n_68 ih_68 =>
            intro j z1 hk_68 hn_68 hz1 H locs ls hP hD hS hl
            have z20 : z1 20 = (nc : Int) - 1 := by rw [hz1, if_pos rfl]
            refine lv_iload_n hx hb dX8_remove_68 rfl (lv_at hl 3 rfl) ?_
            refine q_bipush hx hb dX8_remove_69 (by decide) ?_
            refine q_iconst hx hb dX8_remove_71 ?_
            refine lv_aload_n hx hb dX8_remove_72 rfl (lv_at hl 0 rfl) ?_
            refine gf_X8_7 hx hb hg hown hK (fl_blk hP 4 rfl) 0 rfl rfl dX8_remove_73 ?_
            refine q_bipush hx hb dX8_remove_76 (by decide) ?_
            refine q_iald (j := 20) hx hb hK (fl_blk hP 5 rfl) 0 rfl (by omega) dX8_remove_78 ?_
            refine q_imul hx hb dX8_remove_79 ?_
            refine q_iadd hx hb dX8_remove_80 ?_
            refine q_icmp_ge (tgt := 104) hx hb dX8_remove_81 (by decide) (by omega) (fun c_81 => ?_) (fun c_81 => ?_)
            · skip
              have j9 : j = 5 * (nc - 1 - k) := by omega
              subst j9
              have hS0 : LEq (zS (z1)) (rmC T k) := LEq.tr (rm_at hc (by omega) hnc hz1) (rmC_eq hL k)
              have gS0 := (rmC_ok hG k).eq hS0
              obtain ⟨n0, hn0⟩ : ∃ n0 : Nat, (z1) 20 = (n0 : Int) := ⟨((z1) 20).toNat, by have q := z20; omega⟩
              obtain ⟨m0, hm0⟩ : ∃ m0 : Nat, (z1) 101 = (m0 : Int) := ⟨((z1) 101).toNat, by have q := (show z1 101 = z 101 by rw [hz1, if_neg (by decide), if_neg (by omega)]); omega⟩
              have n20 : ((z1) 20).toNat = n0 := by omega
              have n101 : ((z1) 101).toNat = m0 := by omega
              have hV0 : qV (z1) := gS0.1
              have hst0 : ∀ i, i < 10 → 0 ≤ (z1) (10 + i) ∧ (z1) (10 + i) ≤ 9 := gS0.2.1
              have hc0 : n0 ≤ 16 := n20 ▸ (gS0.2.2.1.1 : ((z1) 20).toNat ≤ 16)
              have hC0 : qWR (zC (z1)) n0 := n20 ▸ (gS0.2.2.1.2 : qWR (zC (z1)) ((z1) 20).toNat)
              have he0 : m0 ≤ 4 := n101 ▸ (gS0.2.2.2.1.1 : ((z1) 101).toNat ≤ 4)
              have hE0 : qWR (zE (z1)) m0 := n101 ▸ (gS0.2.2.2.1.2 : qWR (zE (z1)) ((z1) 101).toNat)
              refine lv_aload_n hx hb dX8_remove_104 rfl (lv_at hl 0 rfl) ?_
              refine q_backv [4, 5, 6, 7, 8, 9, 10, 11] [0, 1, 2, 3] (br := [[(mtx, aI cy 60 (bf))], [(mrd, aI cy 100 (rd))], [(mas, aI cy 115 (as9))], [(msv, aI cy 920 (u_27))]]) hP hD hS hA (va_runV (As := []) (rest := []) ⟨hx, hb, hml, hown, hg⟩ (c_X8_settle l D cy mo mz msv mtx mmo mif mmg mtn mie mme mrd mas (0) (((min (hz + 1) 8 : Nat) : Int)) (((len : Nat) : Int)) (u_32.2.1) (u_32.2.2.2.2.2.2.2.1) (u_32.2.2.2.2.2.2.2.2) (sp) (it) (bl) (hh) (z1) n0 m0 (u_32.1) (u_32.2.2.1) (u_32.2.2.2.1) (u_32.2.2.2.2.1) (u_32.2.2.2.2.2.1) (u_32.2.2.2.2.2.2.1) hn0 hm0 hc0 he0 hC0 hE0 hV0 hst0 _) (cv_X8_111 hg rfl rfl ⟨by decide, by decide⟩) ⟨q_blind, va_recv hK (fl_blk hP 4 rfl) (ci := 8) (q0 := 0) rfl rfl, q_preM _ hK hN hP hD [4, 5, 6, 7, 8, 9, 10, 11] (by decide) rfl⟩ rfl rfl hl.1 rfl (lv_room (Nat.le_of_ble_eq_true rfl)) dX8_remove_105 ⟨by decide, by decide⟩) rfl rfl (by decide) (fun u_105 H locs h_105 hP hD hS => ?_)
              have hP : va_P D vwCl [[(mtx, aI cy 60 (bf))], [(mrd, aI cy 100 (rd))], [(mas, aI cy 115 (as9))], [(msv, aI cy 920 (u_27))], [(mo, .inr (8, [.int (qI (0)), .ref (mz), .int (qI (((min (hz + 1) 8 : Nat) : Int))), .ref (msv), .int (qI (((len : Nat) : Int))), .ref (mtx), .ref (mmo), .int (qI (u_105.2.2.2.1)), .ref (mif), .ref (mmg), .ref (mtn), .ref (mie), .ref (mme), .int (qz (u_105.2.2.2.2.2.2.2.2.2.1)), .int (qI (u_105.2.2.2.2.2.2.2.2.2.2)), .int (qI (sp)), .int (qI (it)), .int (qz (bl)), .ref (mrd), .ref (mas), .long (hh)]))], [(mz, aI cy 115 (u_105.1))], [(mmo, aI cy 121 (u_105.2.1))], [(mif, aZ cy 16 (u_105.2.2.2.2.1))], [(mmg, aI cy 16 (u_105.2.2.2.2.2.1))], [(mtn, aI cy 16 (u_105.2.2.2.2.2.2.1))], [(mie, aZ cy 4 (u_105.2.2.2.2.2.2.2.1))], [(mme, aI cy 4 (u_105.2.2.2.2.2.2.2.2.1))]].flatten H := hP
              have hD : va_D A [[(mtx, aI cy 60 (bf))], [(mrd, aI cy 100 (rd))], [(mas, aI cy 115 (as9))], [(msv, aI cy 920 (u_27))], [(mo, .inr (8, [.int (qI (0)), .ref (mz), .int (qI (((min (hz + 1) 8 : Nat) : Int))), .ref (msv), .int (qI (((len : Nat) : Int))), .ref (mtx), .ref (mmo), .int (qI (u_105.2.2.2.1)), .ref (mif), .ref (mmg), .ref (mtn), .ref (mie), .ref (mme), .int (qz (u_105.2.2.2.2.2.2.2.2.2.1)), .int (qI (u_105.2.2.2.2.2.2.2.2.2.2)), .int (qI (sp)), .int (qI (it)), .int (qz (bl)), .ref (mrd), .ref (mas), .long (hh)]))], [(mz, aI cy 115 (u_105.1))], [(mmo, aI cy 121 (u_105.2.1))], [(mif, aZ cy 16 (u_105.2.2.2.2.1))], [(mmg, aI cy 16 (u_105.2.2.2.2.2.1))], [(mtn, aI cy 16 (u_105.2.2.2.2.2.2.1))], [(mie, aZ cy 4 (u_105.2.2.2.2.2.2.2.1))], [(mme, aI cy 4 (u_105.2.2.2.2.2.2.2.2.1))]].flatten := hD
              refine lv_iload_n hx hb dX8_remove_108 rfl (lv_at hl 2 rfl) ?_
              have hP := fl_sub (bs' := [[(mo, .inr (8, [.int (qI (0)), .ref (mz), .int (qI (((min (hz + 1) 8 : Nat) : Int))), .ref (msv), .int (qI (((len : Nat) : Int))), .ref (mtx), .ref (mmo), .int (qI (u_105.2.2.2.1)), .ref (mif), .ref (mmg), .ref (mtn), .ref (mie), .ref (mme), .int (qz (u_105.2.2.2.2.2.2.2.2.2.1)), .int (qI (u_105.2.2.2.2.2.2.2.2.2.2)), .int (qI (sp)), .int (qI (it)), .int (qz (bl)), .ref (mrd), .ref (mas), .long (hh)]))], [(mz, aI cy 115 (u_105.1))], [(msv, aI cy 920 (u_27))], [(mtx, aI cy 60 (bf))], [(mmo, aI cy 121 (u_105.2.1))], [(mif, aZ cy 16 (u_105.2.2.2.2.1))], [(mmg, aI cy 16 (u_105.2.2.2.2.2.1))], [(mtn, aI cy 16 (u_105.2.2.2.2.2.2.1))], [(mie, aZ cy 4 (u_105.2.2.2.2.2.2.2.1))], [(mme, aI cy 4 (u_105.2.2.2.2.2.2.2.2.1))], [(mrd, aI cy 100 (rd))], [(mas, aI cy 115 (as9))]]) hP [4, 5, 3, 0, 6, 7, 8, 9, 10, 11, 1, 2] rfl
              have hD := fl_subD (bs' := [[(mo, .inr (8, [.int (qI (0)), .ref (mz), .int (qI (((min (hz + 1) 8 : Nat) : Int))), .ref (msv), .int (qI (((len : Nat) : Int))), .ref (mtx), .ref (mmo), .int (qI (u_105.2.2.2.1)), .ref (mif), .ref (mmg), .ref (mtn), .ref (mie), .ref (mme), .int (qz (u_105.2.2.2.2.2.2.2.2.2.1)), .int (qI (u_105.2.2.2.2.2.2.2.2.2.2)), .int (qI (sp)), .int (qI (it)), .int (qz (bl)), .ref (mrd), .ref (mas), .long (hh)]))], [(mz, aI cy 115 (u_105.1))], [(msv, aI cy 920 (u_27))], [(mtx, aI cy 60 (bf))], [(mmo, aI cy 121 (u_105.2.1))], [(mif, aZ cy 16 (u_105.2.2.2.2.1))], [(mmg, aI cy 16 (u_105.2.2.2.2.2.1))], [(mtn, aI cy 16 (u_105.2.2.2.2.2.2.1))], [(mie, aZ cy 4 (u_105.2.2.2.2.2.2.2.1))], [(mme, aI cy 4 (u_105.2.2.2.2.2.2.2.2.1))], [(mrd, aI cy 100 (rd))], [(mas, aI cy 115 (as9))]]) hD [4, 5, 3, 0, 6, 7, 8, 9, 10, 11, 1, 2] (by decide) rfl
              have hP : va_P D vwCl [(mdB cy mo mz msv mtx mmo mif mmg mtn mie mme mrd mas (0) ((min (hz + 1) 8)) (len) (u_105.2.2.2.1) (u_105.2.2.2.2.2.2.2.2.2.1) (u_105.2.2.2.2.2.2.2.2.2.2) (sp) (it) (bl) (hh) (u_105.1) (u_27) (bf) (u_105.2.1) (u_105.2.2.2.2.1) (u_105.2.2.2.2.2.1) (u_105.2.2.2.2.2.2.1) (u_105.2.2.2.2.2.2.2.1) (u_105.2.2.2.2.2.2.2.2.1) (rd) (as9)).flatten].flatten H := by rw [fl_open]; exact hP
              have hD : va_D A [(mdB cy mo mz msv mtx mmo mif mmg mtn mie mme mrd mas (0) ((min (hz + 1) 8)) (len) (u_105.2.2.2.1) (u_105.2.2.2.2.2.2.2.2.2.1) (u_105.2.2.2.2.2.2.2.2.2.2) (sp) (it) (bl) (hh) (u_105.1) (u_27) (bf) (u_105.2.1) (u_105.2.2.2.2.1) (u_105.2.2.2.2.2.1) (u_105.2.2.2.2.2.2.1) (u_105.2.2.2.2.2.2.2.1) (u_105.2.2.2.2.2.2.2.2.1) (rd) (as9)).flatten].flatten := by rw [fl_open]; exact hD
              exact hQ _ _ _ _ _ ((mdB cy mo mz msv mtx mmo mif mmg mtn mie mme mrd mas (0) ((min (hz + 1) 8)) (len) (u_105.2.2.2.1) (u_105.2.2.2.2.2.2.2.2.2.1) (u_105.2.2.2.2.2.2.2.2.2.2) (sp) (it) (bl) (hh) (u_105.1) (u_27) (bf) (u_105.2.1) (u_105.2.2.2.2.1) (u_105.2.2.2.2.2.1) (u_105.2.2.2.2.2.2.1) (u_105.2.2.2.2.2.2.2.1) (u_105.2.2.2.2.2.2.2.2.1) (rd) (as9)).flatten) ⟨by rw [← congrArg (fun F : FS => ((fOC F k).toNat : Int)) (filS_eq hL2 (-1)), show fOC (filS (z, (fun i => z (10 + i)), zC z, nc, zE z, ne) (-1)) k = true from (h_32.2.1 k (by omega) (by omega)).1.symm.trans c_41]; rfl, ⟨(u_105.2.2.2.1), (u_105.2.2.2.2.2.2.2.2.2.1), (u_105.2.2.2.2.2.2.2.2.2.2), (sp), (it), (bl), (hh), (u_105.1), (u_27), (bf), (u_105.2.1), (u_105.2.2.2.2.1), (u_105.2.2.2.2.2.1), (u_105.2.2.2.2.2.2.1), (u_105.2.2.2.2.2.2.2.1), (u_105.2.2.2.2.2.2.2.2.1), (rd), (as9), rfl, mset_fin hS0 n20 n101 hn0 hm0 hc0 he0 h_105.1, ⟨by omega, mh_push hhz h_27 ⟨hL, hz20, hz101, by omega, by omega⟩ hHZ⟩, hln, hbf, htx⟩⟩ hP hD hS dX8_remove_109
            · skip
              refine lv_aload_n hx hb dX8_remove_84 rfl (lv_at hl 0 rfl) ?_
              refine gf_X8_7 hx hb hg hown hK (fl_blk hP 4 rfl) 0 rfl rfl dX8_remove_85 ?_
              refine lv_iload_n hx hb dX8_remove_88 rfl (lv_at hl 3 rfl) ?_
              refine lv_aload_n hx hb dX8_remove_89 rfl (lv_at hl 0 rfl) ?_
              refine gf_X8_7 hx hb hg hown hK (fl_blk hP 4 rfl) 0 rfl rfl dX8_remove_90 ?_
              refine lv_iload_n hx hb dX8_remove_93 rfl (lv_at hl 3 rfl) ?_
              refine q_iconst hx hb dX8_remove_94 ?_
              refine q_iadd hx hb dX8_remove_95 ?_
              refine q_iald (j := (21 + 5 * k + j + 5)) hx hb hK (fl_blk hP 5 rfl) 0 rfl (by omega) dX8_remove_96 ?_
              refine qb_iast (j := 21 + 5 * k + j) hx hb hK hP hD hS 5 0 rfl rfl (by omega) dX8_remove_97 (fun H locs hP hD hS => ?_)
              have hP : va_P D vwCl [[(mtx, aI cy 60 (bf))], [(mrd, aI cy 100 (rd))], [(mas, aI cy 115 (as9))], [(msv, aI cy 920 (u_27))], [(mo, .inr (8, [.int (qI (0)), .ref (mz), .int (qI (((min (hz + 1) 8 : Nat) : Int))), .ref (msv), .int (qI (((len : Nat) : Int))), .ref (mtx), .ref (mmo), .int (qI (u_32.2.1)), .ref (mif), .ref (mmg), .ref (mtn), .ref (mie), .ref (mme), .int (qz (u_32.2.2.2.2.2.2.2.1)), .int (qI (u_32.2.2.2.2.2.2.2.2)), .int (qI (sp)), .int (qI (it)), .int (qz (bl)), .ref (mrd), .ref (mas), .long (hh)]))], [(mz, aI cy 115 (qu z1 (21 + 5 * k + j) (z1 (21 + 5 * k + j + 5))))], [(mmo, aI cy 121 (u_32.1))], [(mif, aZ cy 16 (u_32.2.2.1))], [(mmg, aI cy 16 (u_32.2.2.2.1))], [(mtn, aI cy 16 (u_32.2.2.2.2.1))], [(mie, aZ cy 4 (u_32.2.2.2.2.2.1))], [(mme, aI cy 4 (u_32.2.2.2.2.2.2.1))]].flatten H := hP
              have hD : va_D A [[(mtx, aI cy 60 (bf))], [(mrd, aI cy 100 (rd))], [(mas, aI cy 115 (as9))], [(msv, aI cy 920 (u_27))], [(mo, .inr (8, [.int (qI (0)), .ref (mz), .int (qI (((min (hz + 1) 8 : Nat) : Int))), .ref (msv), .int (qI (((len : Nat) : Int))), .ref (mtx), .ref (mmo), .int (qI (u_32.2.1)), .ref (mif), .ref (mmg), .ref (mtn), .ref (mie), .ref (mme), .int (qz (u_32.2.2.2.2.2.2.2.1)), .int (qI (u_32.2.2.2.2.2.2.2.2)), .int (qI (sp)), .int (qI (it)), .int (qz (bl)), .ref (mrd), .ref (mas), .long (hh)]))], [(mz, aI cy 115 (qu z1 (21 + 5 * k + j) (z1 (21 + 5 * k + j + 5))))], [(mmo, aI cy 121 (u_32.1))], [(mif, aZ cy 16 (u_32.2.2.1))], [(mmg, aI cy 16 (u_32.2.2.2.1))], [(mtn, aI cy 16 (u_32.2.2.2.2.1))], [(mie, aZ cy 4 (u_32.2.2.2.2.2.1))], [(mme, aI cy 4 (u_32.2.2.2.2.2.2.1))]].flatten := hD
              refine q_iinc (k := 3) (lv' := [(3, .int (qI ((((21 + 5 * k + j : Nat) : Int)) + (1)))), (0, .ref (mo)), (1, .int (qI (p0))), (2, .int (qI (1)))]) hx hb dX8_remove_98 hl rfl (by decide) rfl (fun ls hl => ?_)
              refine lv_goto (tgt := 68) hx hb dX8_remove_101 (by decide) ?_
              exact ih_68 (j + 1) _ (by omega) (by omega) (rm_step hc (by omega) (by omega) hz1) _ _ _ hP hD hS (lv_sub hl [1, 2, 3, 0] rfl)
        exact L_68 ((5 * (nc - 1 - k)) + 1) (0) _ (by omega) (by omega) (fun m => by by_cases e : m = 20; subst e; rw [qu_s, if_pos rfl]; rw [qu_n _ _ e, if_neg e, if_neg (by omega)]) _ _ _ hP hD hS (lv_sub hl [2, 3, 1, 0] rfl)
    · skip
      exact absurd c_21 (by decide)

set_option maxRecDepth 100000 in
set_option maxHeartbeats 4000000 in
theorem c_X8_remove_no1 (l : Launch) (D : va_G) (cy : Nat → ClassId) (mo mz msv mtx mmo mif mmg mtn mie mme mrd mas : Nat) (T : LSt) (hz : Nat) (HZ : Nat → LSt) (len : Nat) (tx : Nat → Int) (th : Int) (W : va_W) (hG : gOk T) (hW : MW cy mo mz msv mtx mmo mif mmg mtn mie mme mrd mas T hz HZ len tx th W) (p0 : Int) (r0 : (-2147483648 ≤ p0 ∧ p0 < 2147483648)) (hx : ¬ (0 ≤ p0 ∧ p0 < (lN9 T : Int))) (sz : Nat) : qMet l yX8_remove (.code yX8_remove cX8_remove 4 (some .int)) 8 [.ref (mo), .int (qI (p0))] D cy [W] sz (va_Qi (S := va_W) (fun r u => MW cy mo mz msv mtx mmo mif mmg mtn mie mme mrd mas T hz HZ len tx 1 u) (qB D cy [W] sz (fun u => [u])) (va_A [W].flatten sz)) := by
  refine q_ofMi (S := va_W) (b1 := fun u => [u]) (post := fun r u => MW cy mo mz msv mtx mmo mif mmg mtn mie mme mrd mas T hz HZ len tx 1 u) (by decide +kernel) (Nat.le_of_ble_eq_true rfl) ?_
  intro p e s m args below meth c Q A hx hb hml hown hg hQ hK hN hD hA H locs ls hP hS hl
  have hown : s.vm.findClass RX8 = some m.cls := hown
  have hl : lv_has ls 4 [(0, .ref (mo)), (1, .int (qI (p0)))] := hl
  have hW0 := hW
  obtain ⟨tu, fi, ro, sp, it, bl, hh, z, sd, bf, g, isF, mg, tn, isE, mE, rd, as9, rfl, ⟨hL, hz20, hz101⟩, ⟨hhz, hHZ⟩, hln, hbf, htx⟩ := hW
  obtain ⟨gV, gT, gC, gE, gI, gD⟩ := hG.eq hL
  obtain ⟨nc, hnc⟩ : ∃ nc : Nat, z 20 = (nc : Int) := ⟨(z 20).toNat, by omega⟩
  obtain ⟨ne, hne⟩ : ∃ ne : Nat, z 101 = (ne : Int) := ⟨(z 101).toNat, by omega⟩
  have e20 : (z 20).toNat = nc := by omega
  have e101 : (z 101).toNat = ne := by omega
  have hV : qV z := gV
  have hst : ∀ i, i < 10 → 0 ≤ z (10 + i) ∧ z (10 + i) ≤ 9 := gT
  have hc : nc ≤ 16 := e20 ▸ (gC.1 : (z 20).toNat ≤ 16)
  have hC : qWR (zC z) nc := e20 ▸ (gC.2 : qWR (zC z) (z 20).toNat)
  have he : ne ≤ 4 := e101 ▸ (gE.1 : (z 101).toNat ≤ 4)
  have hE : qWR (zE z) ne := e101 ▸ (gE.2 : qWR (zE z) (z 101).toNat)
  have hD9 : ∀ i j, i < ne → j < ne → zE z 0 i = zE z 0 j → i = j := e101 ▸ (gD : ∀ i j, i < (z 101).toNat → j < (z 101).toNat → zE z 0 i = zE z 0 j → i = j)
  have hL2 : LEq (z, (fun i => z (10 + i)), zC z, nc, zE z, ne) T := by rw [← e20, ← e101]; exact hL
  have en : nc = lN9 T := hL2.2.2.1
  have em : ne = lM T := hL2.2.2.2.2.1
  rw [fl_open] at hP hD
  have hP : va_P D vwCl [[(mo, .inr (8, [.int (qI (th)), .ref (mz), .int (qI (((hz : Nat) : Int))), .ref (msv), .int (qI (((len : Nat) : Int))), .ref (mtx), .ref (mmo), .int (qI (tu)), .ref (mif), .ref (mmg), .ref (mtn), .ref (mie), .ref (mme), .int (qz (fi)), .int (qI (ro)), .int (qI (sp)), .int (qI (it)), .int (qz (bl)), .ref (mrd), .ref (mas), .long (hh)]))], [(mz, aI cy 115 (z))], [(msv, aI cy 920 (sd))], [(mtx, aI cy 60 (bf))], [(mmo, aI cy 121 (g))], [(mif, aZ cy 16 (isF))], [(mmg, aI cy 16 (mg))], [(mtn, aI cy 16 (tn))], [(mie, aZ cy 4 (isE))], [(mme, aI cy 4 (mE))], [(mrd, aI cy 100 (rd))], [(mas, aI cy 115 (as9))]].flatten H := hP
  have hD : va_D A [[(mo, .inr (8, [.int (qI (th)), .ref (mz), .int (qI (((hz : Nat) : Int))), .ref (msv), .int (qI (((len : Nat) : Int))), .ref (mtx), .ref (mmo), .int (qI (tu)), .ref (mif), .ref (mmg), .ref (mtn), .ref (mie), .ref (mme), .int (qz (fi)), .int (qI (ro)), .int (qI (sp)), .int (qI (it)), .int (qz (bl)), .ref (mrd), .ref (mas), .long (hh)]))], [(mz, aI cy 115 (z))], [(msv, aI cy 920 (sd))], [(mtx, aI cy 60 (bf))], [(mmo, aI cy 121 (g))], [(mif, aZ cy 16 (isF))], [(mmg, aI cy 16 (mg))], [(mtn, aI cy 16 (tn))], [(mie, aZ cy 4 (isE))], [(mme, aI cy 4 (mE))], [(mrd, aI cy 100 (rd))], [(mas, aI cy 115 (as9))]].flatten := hD
  refine lv_aload_n hx hb dX8_remove_0 rfl (lv_at hl 0 rfl) ?_
  refine lv_aload_n hx hb dX8_remove_1 rfl (lv_at hl 0 rfl) ?_
  refine lv_iload_n hx hb dX8_remove_2 rfl (lv_at hl 1 rfl) ?_
  refine q_readz (va_runV (As := [.int (qI (p0))]) (rest := [.ref (mo)]) ⟨hx, hb, hml, hown, hg⟩ (c_X8_isCondition l D cy mo mz msv mtx mmo mif mmg mtn mie mme mrd mas (th) (((hz : Nat) : Int)) (((len : Nat) : Int)) (tu) (fi) (ro) (sp) (it) (bl) (hh) (z) nc _ (by omega) hnc hc) (cv_X8_114 hg rfl rfl ⟨by decide, by decide⟩) ⟨q_blind0, va_recv hK (fl_blk hP 0 rfl) (ci := 8) (q0 := 0) rfl rfl, q_preR _ hK hN hP [0, 1] rfl⟩ rfl rfl hl.1 rfl (lv_room (Nat.le_of_ble_eq_true rfl)) dX8_remove_3 ⟨by decide, by decide⟩) (fun b_3 h_3 => ?_)
  refine q_ifz_eq (tgt := 13) hx hb dX8_remove_6 (by decide) (fun c_6 => ?_) (fun c_6 => ?_)
  · skip
    have g_6 := mt (h_3).mpr (by rw [c_6]; decide)
    refine q_iconst hx hb dX8_remove_13 ?_
    refine pf_X8_44 hx hb hg hown hK hP hD hS 0 0 rfl rfl rfl rfl (Nat.le_of_ble_eq_true rfl) dX8_remove_14 (fun H locs hP hD hS => ?_)
    have hP : va_P D vwCl [[(mo, .inr (8, [.int (qI (1)), .ref (mz), .int (qI (((hz : Nat) : Int))), .ref (msv), .int (qI (((len : Nat) : Int))), .ref (mtx), .ref (mmo), .int (qI (tu)), .ref (mif), .ref (mmg), .ref (mtn), .ref (mie), .ref (mme), .int (qz (fi)), .int (qI (ro)), .int (qI (sp)), .int (qI (it)), .int (qz (bl)), .ref (mrd), .ref (mas), .long (hh)]))], [(mz, aI cy 115 (z))], [(msv, aI cy 920 (sd))], [(mtx, aI cy 60 (bf))], [(mmo, aI cy 121 (g))], [(mif, aZ cy 16 (isF))], [(mmg, aI cy 16 (mg))], [(mtn, aI cy 16 (tn))], [(mie, aZ cy 4 (isE))], [(mme, aI cy 4 (mE))], [(mrd, aI cy 100 (rd))], [(mas, aI cy 115 (as9))]].flatten H := hP
    have hD : va_D A [[(mo, .inr (8, [.int (qI (1)), .ref (mz), .int (qI (((hz : Nat) : Int))), .ref (msv), .int (qI (((len : Nat) : Int))), .ref (mtx), .ref (mmo), .int (qI (tu)), .ref (mif), .ref (mmg), .ref (mtn), .ref (mie), .ref (mme), .int (qz (fi)), .int (qI (ro)), .int (qI (sp)), .int (qI (it)), .int (qz (bl)), .ref (mrd), .ref (mas), .long (hh)]))], [(mz, aI cy 115 (z))], [(msv, aI cy 920 (sd))], [(mtx, aI cy 60 (bf))], [(mmo, aI cy 121 (g))], [(mif, aZ cy 16 (isF))], [(mmg, aI cy 16 (mg))], [(mtn, aI cy 16 (tn))], [(mie, aZ cy 4 (isE))], [(mme, aI cy 4 (mE))], [(mrd, aI cy 100 (rd))], [(mas, aI cy 115 (as9))]].flatten := hD
    refine lv_aload_n hx hb dX8_remove_17 rfl (lv_at hl 0 rfl) ?_
    refine gf_X8_44 hx hb hg hown hK (fl_blk hP 0 rfl) 0 rfl rfl dX8_remove_18 ?_
    refine q_if_le (tgt := 26) hx hb dX8_remove_21 (by decide) (by omega) (fun c_21 => ?_) (fun c_21 => ?_)
    · skip
      exact absurd c_21 (by decide)
    · skip
      refine q_iconst hx hb dX8_remove_24 ?_
      have hP : va_P D vwCl [(mdB cy mo mz msv mtx mmo mif mmg mtn mie mme mrd mas (1) (hz) (len) (tu) (fi) (ro) (sp) (it) (bl) (hh) (z) (sd) (bf) (g) (isF) (mg) (tn) (isE) (mE) (rd) (as9)).flatten].flatten H := by rw [fl_open]; exact hP
      have hD : va_D A [(mdB cy mo mz msv mtx mmo mif mmg mtn mie mme mrd mas (1) (hz) (len) (tu) (fi) (ro) (sp) (it) (bl) (hh) (z) (sd) (bf) (g) (isF) (mg) (tn) (isE) (mE) (rd) (as9)).flatten].flatten := by rw [fl_open]; exact hD
      exact hQ _ _ _ _ _ ((mdB cy mo mz msv mtx mmo mif mmg mtn mie mme mrd mas (1) (hz) (len) (tu) (fi) (ro) (sp) (it) (bl) (hh) (z) (sd) (bf) (g) (isF) (mg) (tn) (isE) (mE) (rd) (as9)).flatten) ⟨(tu), (fi), (ro), (sp), (it), (bl), (hh), (z), (sd), (bf), (g), (isF), (mg), (tn), (isE), (mE), (rd), (as9), rfl, ⟨hL, hz20, hz101⟩, ⟨hhz, hHZ⟩, hln, hbf, htx⟩ hP hD hS dX8_remove_25
  · skip
    have g_6 := (h_3).mp c_6
    exfalso; omega

theorem layE_new {z : Nat → Int} {ne : Nat} {x w s : Int} (h20 : (z 20).toNat ≤ 16) (hne : z 101 = (ne : Int)) (he : ne < 4) (hed : edOf (zE z) x ne = -1) {y : Nat → Int} (hy : ∀ m, y m = if m = 102 + 3 * ne + 2 then s else if m = 102 + 3 * ne + 1 then w else if m = 102 + 3 * ne then x else if m = 101 then (ne : Int) + 1 else z m) : LEq (zS y) (adE (zS z) x w s) := by
  have e1 : (z 101).toNat = ne := by omega
  have far : ∀ m, m < 101 → y m = z m := fun m hm => by rw [hy, if_neg (by omega), if_neg (by omega), if_neg (by omega), if_neg (by omega)]
  refine ⟨fun i hi => far i (by omega), fun i hi => far _ (by omega), by show (y 20).toNat = (z 20).toNat; rw [far 20 (by decide)], fun f i hf hi => ?_, ?_, fun f i hf hi => ?_⟩
  · have hi : i < (z 20).toNat := hi
    exact far _ (by omega)
  · show (y 101).toNat = wfN (zE z) (z 101).toNat x
    unfold wfN
    rw [e1, if_pos hed, hy, if_neg (by omega), if_neg (by omega), if_neg (by omega), if_pos rfl]
    omega
  · have hi : i < wfN (zE z) (z 101).toNat x := hi
    unfold wfN at hi
    rw [e1, if_pos hed] at hi
    show zE y f i = wfE (zE z) (z 101).toNat x w s f i
    unfold wfE
    rw [e1, if_pos hed]
    by_cases e : i = ne
    · subst e
      rw [if_pos rfl]
      unfold zE
      rw [hy (102 + 3 * i + 2), if_pos rfl, hy (102 + 3 * i + 1), if_neg (by omega), if_pos rfl, hy (102 + 3 * i), if_neg (by omega), if_neg (by omega), if_pos rfl]
    · rw [if_neg e]
      unfold zE
      rw [hy (102 + 3 * i + 2), if_neg (by omega), if_neg (by omega), if_neg (by omega), if_neg (by omega), hy (102 + 3 * i + 1), if_neg (by omega), if_neg (by omega), if_neg (by omega), if_neg (by omega), hy (102 + 3 * i), if_neg (by omega), if_neg (by omega), if_neg (by omega), if_neg (by omega)]
theorem layE_old {z : Nat → Int} {ne k : Nat} {x w s : Int} (h20 : (z 20).toNat ≤ 16) (hne : z 101 = (ne : Int)) (he : ne ≤ 4) (hed : edOf (zE z) x ne = (k : Int)) {y : Nat → Int} (hy : ∀ m, y m = if m = 102 + 3 * k + 2 then s else if m = 102 + 3 * k + 1 then w else if m = 102 + 3 * k then x else z m) : LEq (zS y) (adE (zS z) x w s) := by
  have e1 : (z 101).toNat = ne := by omega
  have ex : zE z 0 k = x := by
    have q := edOf_is (E := zE z) (x := x) (n := ne) (by omega)
    rw [hed] at q
    exact q
  have far : ∀ m, m < 102 → y m = z m := fun m hm => by rw [hy, if_neg (by omega), if_neg (by omega), if_neg (by omega)]
  refine ⟨fun i hi => far i (by omega), fun i hi => far _ (by omega), by show (y 20).toNat = (z 20).toNat; rw [far 20 (by decide)], fun f i hf hi => ?_, ?_, fun f i hf hi => ?_⟩
  · have hi : i < (z 20).toNat := hi
    exact far _ (by omega)
  · show (y 101).toNat = wfN (zE z) (z 101).toNat x
    unfold wfN
    rw [e1, if_neg (by omega), far 101 (by omega), e1]
  · show zE y f i = wfE (zE z) (z 101).toNat x w s f i
    unfold wfE
    rw [e1, if_neg (by omega), hed]
    by_cases e : i = k
    · subst e
      rw [if_pos (by omega)]
      have ex : z (102 + 3 * i) = x := ex
      unfold zE
      rw [hy (102 + 3 * i + 2), if_pos rfl, hy (102 + 3 * i + 1), if_neg (by omega), if_pos rfl, hy (102 + 3 * i), if_neg (by omega), if_neg (by omega), if_pos rfl, ex]
      rcases (show f = 0 ∨ f = 1 ∨ f = 2 ∨ f = 3 ∨ f = 4 by omega) with rfl | rfl | rfl | rfl | rfl <;> rfl
    · rw [if_neg (by omega)]
      unfold zE
      rw [hy (102 + 3 * i + 2), if_neg (by omega), if_neg (by omega), if_neg (by omega), hy (102 + 3 * i + 1), if_neg (by omega), if_neg (by omega), if_neg (by omega), hy (102 + 3 * i), if_neg (by omega), if_neg (by omega), if_neg (by omega)]
theorem qu4 {z : Nat → Int} {k : Nat} {x w s v : Int} : ∀ m, qu (qu (qu (qu z 101 v) (102 + 3 * k) x) (102 + 3 * k + 1) w) (102 + 3 * k + 2) s m = if m = 102 + 3 * k + 2 then s else if m = 102 + 3 * k + 1 then w else if m = 102 + 3 * k then x else if m = 101 then v else z m := fun m => rfl
theorem qu3 {z : Nat → Int} {k : Nat} {x w s : Int} : ∀ m, qu (qu (qu z (102 + 3 * k) x) (102 + 3 * k + 1) w) (102 + 3 * k + 2) s m = if m = 102 + 3 * k + 2 then s else if m = 102 + 3 * k + 1 then w else if m = 102 + 3 * k then x else z m := fun m => rfl

set_option maxRecDepth 100000 in
set_option maxHeartbeats 4000000 in
theorem c_X8_layEdit (l : Launch) (D : va_G) (cy : Nat → ClassId) (mo mz msv mtx mmo mif mmg mtn mie mme mrd mas : Nat) (th sv ml tu : Int) (fi : Bool) (ro sp it : Int) (bl : Bool) (hh : Int64) (z : Nat → Int) (nc ne : Nat) (g : Nat → Int) (isF : Nat → Bool) (mg tn : Nat → Int) (isE : Nat → Bool) (mE : Nat → Int) (hnc : z 20 = (nc : Int)) (hne : z 101 = (ne : Int)) (hc : nc ≤ 16) (he : ne ≤ 4) (hC : qWR (zC z) nc) (hE : qWR (zE z) ne) (hD9 : ∀ i j, i < ne → j < ne → zE z 0 i = zE z 0 j → i = j) (x9 w9 s9 : Int) (hx9 : 0 ≤ x9 ∧ x9 ≤ 9) (hw9 : -1000 ≤ w9 ∧ w9 ≤ 1000) (hs9 : 0 ≤ s9 ∧ s9 ≤ 3) (hn9 : edOf (zE z) x9 ne ≠ -1 ∨ ne < 4) (hG9 : gOk (zS z)) (sz : Nat) : qMet l yX8_layEdit (.code yX8_layEdit cX8_layEdit 5 none) 6 [.ref (mo), .int (qI (x9)), .int (qI (w9)), .int (qI (s9))] D cy [[(mo, .inr (8, [.int (qI (th)), .ref (mz), .int (qI (sv)), .ref (msv), .int (qI (ml)), .ref (mtx), .ref (mmo), .int (qI (tu)), .ref (mif), .ref (mmg), .ref (mtn), .ref (mie), .ref (mme), .int (qz (fi)), .int (qI (ro)), .int (qI (sp)), .int (qI (it)), .int (qz (bl)), .ref (mrd), .ref (mas), .long (hh)]))], [(mz, aI cy 115 (z))], [(mmo, aI cy 121 (g))], [(mif, aZ cy 16 (isF))], [(mmg, aI cy 16 (mg))], [(mtn, aI cy 16 (tn))], [(mie, aZ cy 4 (isE))], [(mme, aI cy 4 (mE))]] sz (va_Qv (S := (Nat → Int) × (Nat → Int) × (Nat → Int) × Int × (Nat → Bool) × (Nat → Int) × (Nat → Int) × (Nat → Bool) × (Nat → Int) × Bool × Int) (fun u => LEq (zS u.1) (seT (adE (zS z) x9 w9 s9)) ∧ 0 ≤ u.1 20 ∧ 0 ≤ u.1 101) (qB D cy [[(mo, .inr (8, [.int (qI (th)), .ref (mz), .int (qI (sv)), .ref (msv), .int (qI (ml)), .ref (mtx), .ref (mmo), .int (qI (tu)), .ref (mif), .ref (mmg), .ref (mtn), .ref (mie), .ref (mme), .int (qz (fi)), .int (qI (ro)), .int (qI (sp)), .int (qI (it)), .int (qz (bl)), .ref (mrd), .ref (mas), .long (hh)]))], [(mz, aI cy 115 (z))], [(mmo, aI cy 121 (g))], [(mif, aZ cy 16 (isF))], [(mmg, aI cy 16 (mg))], [(mtn, aI cy 16 (tn))], [(mie, aZ cy 4 (isE))], [(mme, aI cy 4 (mE))]] sz (fun u => [[(mo, .inr (8, [.int (qI (th)), .ref (mz), .int (qI (sv)), .ref (msv), .int (qI (ml)), .ref (mtx), .ref (mmo), .int (qI (u.2.2.2.1)), .ref (mif), .ref (mmg), .ref (mtn), .ref (mie), .ref (mme), .int (qz (u.2.2.2.2.2.2.2.2.2.1)), .int (qI (u.2.2.2.2.2.2.2.2.2.2)), .int (qI (sp)), .int (qI (it)), .int (qz (bl)), .ref (mrd), .ref (mas), .long (hh)]))], [(mz, aI cy 115 (u.1))], [(mmo, aI cy 121 (u.2.1))], [(mif, aZ cy 16 (u.2.2.2.2.1))], [(mmg, aI cy 16 (u.2.2.2.2.2.1))], [(mtn, aI cy 16 (u.2.2.2.2.2.2.1))], [(mie, aZ cy 4 (u.2.2.2.2.2.2.2.1))], [(mme, aI cy 4 (u.2.2.2.2.2.2.2.2.1))]])) (va_A [[(mo, .inr (8, [.int (qI (th)), .ref (mz), .int (qI (sv)), .ref (msv), .int (qI (ml)), .ref (mtx), .ref (mmo), .int (qI (tu)), .ref (mif), .ref (mmg), .ref (mtn), .ref (mie), .ref (mme), .int (qz (fi)), .int (qI (ro)), .int (qI (sp)), .int (qI (it)), .int (qz (bl)), .ref (mrd), .ref (mas), .long (hh)]))], [(mz, aI cy 115 (z))], [(mmo, aI cy 121 (g))], [(mif, aZ cy 16 (isF))], [(mmg, aI cy 16 (mg))], [(mtn, aI cy 16 (tn))], [(mie, aZ cy 4 (isE))], [(mme, aI cy 4 (mE))]].flatten sz)) := by
  refine q_ofMv (S := (Nat → Int) × (Nat → Int) × (Nat → Int) × Int × (Nat → Bool) × (Nat → Int) × (Nat → Int) × (Nat → Bool) × (Nat → Int) × Bool × Int) (b1 := fun u => [[(mo, .inr (8, [.int (qI (th)), .ref (mz), .int (qI (sv)), .ref (msv), .int (qI (ml)), .ref (mtx), .ref (mmo), .int (qI (u.2.2.2.1)), .ref (mif), .ref (mmg), .ref (mtn), .ref (mie), .ref (mme), .int (qz (u.2.2.2.2.2.2.2.2.2.1)), .int (qI (u.2.2.2.2.2.2.2.2.2.2)), .int (qI (sp)), .int (qI (it)), .int (qz (bl)), .ref (mrd), .ref (mas), .long (hh)]))], [(mz, aI cy 115 (u.1))], [(mmo, aI cy 121 (u.2.1))], [(mif, aZ cy 16 (u.2.2.2.2.1))], [(mmg, aI cy 16 (u.2.2.2.2.2.1))], [(mtn, aI cy 16 (u.2.2.2.2.2.2.1))], [(mie, aZ cy 4 (u.2.2.2.2.2.2.2.1))], [(mme, aI cy 4 (u.2.2.2.2.2.2.2.2.1))]]) (post := fun u => LEq (zS u.1) (seT (adE (zS z) x9 w9 s9)) ∧ 0 ≤ u.1 20 ∧ 0 ≤ u.1 101) (by decide +kernel) (Nat.le_of_ble_eq_true rfl) ?_
  intro p e s m args below meth c Q A hx hb hml hown hg hQ hK hN hD hA H locs ls hP hS hl
  have hown : s.vm.findClass RX8 = some m.cls := hown
  have hl : lv_has ls 5 [(0, .ref (mo)), (1, .int (qI (x9))), (2, .int (qI (w9))), (3, .int (qI (s9)))] := hl
  refine lv_aload_n hx hb dX8_layEdit_0 rfl (lv_at hl 0 rfl) ?_
  refine lv_iload_n hx hb dX8_layEdit_1 rfl (lv_at hl 1 rfl) ?_
  refine q_readi (va_runV (As := [.int (qI (x9))]) (rest := []) ⟨hx, hb, hml, hown, hg⟩ (c_X8_editOf l D cy mo mz msv mtx mmo mif mmg mtn mie mme mrd mas (th) (sv) (ml) (tu) (fi) (ro) (sp) (it) (bl) (hh) z nc ne hnc hne hc he hC hE hD9 _ (by omega)) (cv_X8_120 hg rfl rfl ⟨by decide, by decide⟩) ⟨q_blind0, va_recv hK (fl_blk hP 0 rfl) (ci := 8) (q0 := 0) rfl rfl, q_preR _ hK hN hP [0, 1] rfl⟩ rfl rfl hl.1 rfl (lv_room (Nat.le_of_ble_eq_true rfl)) dX8_layEdit_2 ⟨by decide, by decide⟩) (fun r_2 h_2 => ?_)
  subst h_2
  refine lv_istore (lv' := [(4, .int (qI (edOf (zE z) (x9) ne))), (0, .ref (mo)), (1, .int (qI (x9))), (2, .int (qI (w9))), (3, .int (qI (s9)))]) hx hb dX8_layEdit_5 hl (by decide) rfl (fun ls hl => ?_)
  have er := edOf_rng (zE z) x9 ne
  refine lv_iload hx hb dX8_layEdit_7 (lv_at hl 0 rfl) ?_
  refine q_iconst hx hb dX8_layEdit_9 ?_
  refine q_icmp_ne (tgt := 33) hx hb dX8_layEdit_10 (by decide) (by omega) (fun c_10 => ?_) (fun c_10 => ?_)
  · skip
    obtain ⟨k9, e9⟩ : ∃ k9 : Nat, edOf (zE z) x9 ne = (k9 : Int) := ⟨(edOf (zE z) x9 ne).toNat, by omega⟩
    rw [e9] at hl
    refine lv_aload_n hx hb dX8_layEdit_33 rfl (lv_at hl 1 rfl) ?_
    refine gf_X8_7 hx hb hg hown hK (fl_blk hP 0 rfl) 0 rfl rfl dX8_layEdit_34 ?_
    refine q_bipush hx hb dX8_layEdit_37 (by decide) ?_
    refine q_iconst hx hb dX8_layEdit_39 ?_
    refine lv_iload hx hb dX8_layEdit_40 (lv_at hl 0 rfl) ?_
    refine q_imul hx hb dX8_layEdit_42 ?_
    refine q_iadd hx hb dX8_layEdit_43 ?_
    refine lv_iload_n hx hb dX8_layEdit_44 rfl (lv_at hl 2 rfl) ?_
    refine qb_iast (j := (102 + (3 * k9))) hx hb hK hP hD hS 1 0 rfl rfl (by omega) dX8_layEdit_45 (fun H locs hP hD hS => ?_)
    have hP : va_P D vwCl [[(mo, .inr (8, [.int (qI (th)), .ref (mz), .int (qI (sv)), .ref (msv), .int (qI (ml)), .ref (mtx), .ref (mmo), .int (qI (tu)), .ref (mif), .ref (mmg), .ref (mtn), .ref (mie), .ref (mme), .int (qz (fi)), .int (qI (ro)), .int (qI (sp)), .int (qI (it)), .int (qz (bl)), .ref (mrd), .ref (mas), .long (hh)]))], [(mz, aI cy 115 (qu z (102 + (3 * k9)) (x9)))], [(mmo, aI cy 121 (g))], [(mif, aZ cy 16 (isF))], [(mmg, aI cy 16 (mg))], [(mtn, aI cy 16 (tn))], [(mie, aZ cy 4 (isE))], [(mme, aI cy 4 (mE))]].flatten H := hP
    have hD : va_D A [[(mo, .inr (8, [.int (qI (th)), .ref (mz), .int (qI (sv)), .ref (msv), .int (qI (ml)), .ref (mtx), .ref (mmo), .int (qI (tu)), .ref (mif), .ref (mmg), .ref (mtn), .ref (mie), .ref (mme), .int (qz (fi)), .int (qI (ro)), .int (qI (sp)), .int (qI (it)), .int (qz (bl)), .ref (mrd), .ref (mas), .long (hh)]))], [(mz, aI cy 115 (qu z (102 + (3 * k9)) (x9)))], [(mmo, aI cy 121 (g))], [(mif, aZ cy 16 (isF))], [(mmg, aI cy 16 (mg))], [(mtn, aI cy 16 (tn))], [(mie, aZ cy 4 (isE))], [(mme, aI cy 4 (mE))]].flatten := hD
    refine lv_aload_n hx hb dX8_layEdit_46 rfl (lv_at hl 1 rfl) ?_
    refine gf_X8_7 hx hb hg hown hK (fl_blk hP 0 rfl) 0 rfl rfl dX8_layEdit_47 ?_
    refine q_bipush hx hb dX8_layEdit_50 (by decide) ?_
    refine q_iconst hx hb dX8_layEdit_52 ?_
    refine lv_iload hx hb dX8_layEdit_53 (lv_at hl 0 rfl) ?_
    refine q_imul hx hb dX8_layEdit_55 ?_
    refine q_iadd hx hb dX8_layEdit_56 ?_
    refine q_iconst hx hb dX8_layEdit_57 ?_
    refine q_iadd hx hb dX8_layEdit_58 ?_
    refine lv_iload_n hx hb dX8_layEdit_59 rfl (lv_at hl 3 rfl) ?_
    refine qb_iast (j := ((102 + (3 * k9)) + 1)) hx hb hK hP hD hS 1 0 rfl rfl (by omega) dX8_layEdit_60 (fun H locs hP hD hS => ?_)
    have hP : va_P D vwCl [[(mo, .inr (8, [.int (qI (th)), .ref (mz), .int (qI (sv)), .ref (msv), .int (qI (ml)), .ref (mtx), .ref (mmo), .int (qI (tu)), .ref (mif), .ref (mmg), .ref (mtn), .ref (mie), .ref (mme), .int (qz (fi)), .int (qI (ro)), .int (qI (sp)), .int (qI (it)), .int (qz (bl)), .ref (mrd), .ref (mas), .long (hh)]))], [(mz, aI cy 115 (qu (qu z (102 + (3 * k9)) (x9)) ((102 + (3 * k9)) + 1) (w9)))], [(mmo, aI cy 121 (g))], [(mif, aZ cy 16 (isF))], [(mmg, aI cy 16 (mg))], [(mtn, aI cy 16 (tn))], [(mie, aZ cy 4 (isE))], [(mme, aI cy 4 (mE))]].flatten H := hP
    have hD : va_D A [[(mo, .inr (8, [.int (qI (th)), .ref (mz), .int (qI (sv)), .ref (msv), .int (qI (ml)), .ref (mtx), .ref (mmo), .int (qI (tu)), .ref (mif), .ref (mmg), .ref (mtn), .ref (mie), .ref (mme), .int (qz (fi)), .int (qI (ro)), .int (qI (sp)), .int (qI (it)), .int (qz (bl)), .ref (mrd), .ref (mas), .long (hh)]))], [(mz, aI cy 115 (qu (qu z (102 + (3 * k9)) (x9)) ((102 + (3 * k9)) + 1) (w9)))], [(mmo, aI cy 121 (g))], [(mif, aZ cy 16 (isF))], [(mmg, aI cy 16 (mg))], [(mtn, aI cy 16 (tn))], [(mie, aZ cy 4 (isE))], [(mme, aI cy 4 (mE))]].flatten := hD
    refine lv_aload_n hx hb dX8_layEdit_61 rfl (lv_at hl 1 rfl) ?_
    refine gf_X8_7 hx hb hg hown hK (fl_blk hP 0 rfl) 0 rfl rfl dX8_layEdit_62 ?_
    refine q_bipush hx hb dX8_layEdit_65 (by decide) ?_
    refine q_iconst hx hb dX8_layEdit_67 ?_
    refine lv_iload hx hb dX8_layEdit_68 (lv_at hl 0 rfl) ?_
    refine q_imul hx hb dX8_layEdit_70 ?_
    refine q_iadd hx hb dX8_layEdit_71 ?_
    refine q_iconst hx hb dX8_layEdit_72 ?_
    refine q_iadd hx hb dX8_layEdit_73 ?_
    refine lv_iload_n hx hb dX8_layEdit_74 rfl (lv_at hl 4 rfl) ?_
    refine qb_iast (j := ((102 + (3 * k9)) + 2)) hx hb hK hP hD hS 1 0 rfl rfl (by omega) dX8_layEdit_75 (fun H locs hP hD hS => ?_)
    have hP : va_P D vwCl [[(mo, .inr (8, [.int (qI (th)), .ref (mz), .int (qI (sv)), .ref (msv), .int (qI (ml)), .ref (mtx), .ref (mmo), .int (qI (tu)), .ref (mif), .ref (mmg), .ref (mtn), .ref (mie), .ref (mme), .int (qz (fi)), .int (qI (ro)), .int (qI (sp)), .int (qI (it)), .int (qz (bl)), .ref (mrd), .ref (mas), .long (hh)]))], [(mz, aI cy 115 (qu (qu (qu z (102 + (3 * k9)) (x9)) ((102 + (3 * k9)) + 1) (w9)) ((102 + (3 * k9)) + 2) (s9)))], [(mmo, aI cy 121 (g))], [(mif, aZ cy 16 (isF))], [(mmg, aI cy 16 (mg))], [(mtn, aI cy 16 (tn))], [(mie, aZ cy 4 (isE))], [(mme, aI cy 4 (mE))]].flatten H := hP
    have hD : va_D A [[(mo, .inr (8, [.int (qI (th)), .ref (mz), .int (qI (sv)), .ref (msv), .int (qI (ml)), .ref (mtx), .ref (mmo), .int (qI (tu)), .ref (mif), .ref (mmg), .ref (mtn), .ref (mie), .ref (mme), .int (qz (fi)), .int (qI (ro)), .int (qI (sp)), .int (qI (it)), .int (qz (bl)), .ref (mrd), .ref (mas), .long (hh)]))], [(mz, aI cy 115 (qu (qu (qu z (102 + (3 * k9)) (x9)) ((102 + (3 * k9)) + 1) (w9)) ((102 + (3 * k9)) + 2) (s9)))], [(mmo, aI cy 121 (g))], [(mif, aZ cy 16 (isF))], [(mmg, aI cy 16 (mg))], [(mtn, aI cy 16 (tn))], [(mie, aZ cy 4 (isE))], [(mme, aI cy 4 (mE))]].flatten := hD
    have hS0 : LEq (zS (qu (qu (qu z (102 + 3 * k9) x9) (102 + 3 * k9 + 1) w9) (102 + 3 * k9 + 2) s9)) (adE (zS z) x9 w9 s9) := layE_old (by omega) hne he e9 qu3
    have gS0 := (adE_ok hG9 hx9 hw9 hs9 (by show edOf (zE z) x9 (z 101).toNat ≠ -1 ∨ (z 101).toNat < 4; rw [show (z 101).toNat = ne by omega]; exact hn9)).eq hS0
    obtain ⟨n0, hn0⟩ : ∃ n0 : Nat, (qu (qu (qu z (102 + 3 * k9) x9) (102 + 3 * k9 + 1) w9) (102 + 3 * k9 + 2) s9) 20 = (n0 : Int) := ⟨((qu (qu (qu z (102 + 3 * k9) x9) (102 + 3 * k9 + 1) w9) (102 + 3 * k9 + 2) s9) 20).toNat, by have q := (show (qu (qu (qu z (102 + 3 * k9) x9) (102 + 3 * k9 + 1) w9) (102 + 3 * k9 + 2) s9) 20 = z 20 by rw [qu_n _ _ (by omega), qu_n _ _ (by omega), qu_n _ _ (by omega)]); omega⟩
    obtain ⟨m0, hm0⟩ : ∃ m0 : Nat, (qu (qu (qu z (102 + 3 * k9) x9) (102 + 3 * k9 + 1) w9) (102 + 3 * k9 + 2) s9) 101 = (m0 : Int) := ⟨((qu (qu (qu z (102 + 3 * k9) x9) (102 + 3 * k9 + 1) w9) (102 + 3 * k9 + 2) s9) 101).toNat, by have q := (show (qu (qu (qu z (102 + 3 * k9) x9) (102 + 3 * k9 + 1) w9) (102 + 3 * k9 + 2) s9) 101 = z 101 by rw [qu_n _ _ (by omega), qu_n _ _ (by omega), qu_n _ _ (by omega)]); omega⟩
    have n20 : ((qu (qu (qu z (102 + 3 * k9) x9) (102 + 3 * k9 + 1) w9) (102 + 3 * k9 + 2) s9) 20).toNat = n0 := by omega
    have n101 : ((qu (qu (qu z (102 + 3 * k9) x9) (102 + 3 * k9 + 1) w9) (102 + 3 * k9 + 2) s9) 101).toNat = m0 := by omega
    have hV0 : qV (qu (qu (qu z (102 + 3 * k9) x9) (102 + 3 * k9 + 1) w9) (102 + 3 * k9 + 2) s9) := gS0.1
    have hst0 : ∀ i, i < 10 → 0 ≤ (qu (qu (qu z (102 + 3 * k9) x9) (102 + 3 * k9 + 1) w9) (102 + 3 * k9 + 2) s9) (10 + i) ∧ (qu (qu (qu z (102 + 3 * k9) x9) (102 + 3 * k9 + 1) w9) (102 + 3 * k9 + 2) s9) (10 + i) ≤ 9 := gS0.2.1
    have hc0 : n0 ≤ 16 := n20 ▸ (gS0.2.2.1.1 : ((qu (qu (qu z (102 + 3 * k9) x9) (102 + 3 * k9 + 1) w9) (102 + 3 * k9 + 2) s9) 20).toNat ≤ 16)
    have hC0 : qWR (zC (qu (qu (qu z (102 + 3 * k9) x9) (102 + 3 * k9 + 1) w9) (102 + 3 * k9 + 2) s9)) n0 := n20 ▸ (gS0.2.2.1.2 : qWR (zC (qu (qu (qu z (102 + 3 * k9) x9) (102 + 3 * k9 + 1) w9) (102 + 3 * k9 + 2) s9)) ((qu (qu (qu z (102 + 3 * k9) x9) (102 + 3 * k9 + 1) w9) (102 + 3 * k9 + 2) s9) 20).toNat)
    have he0 : m0 ≤ 4 := n101 ▸ (gS0.2.2.2.1.1 : ((qu (qu (qu z (102 + 3 * k9) x9) (102 + 3 * k9 + 1) w9) (102 + 3 * k9 + 2) s9) 101).toNat ≤ 4)
    have hE0 : qWR (zE (qu (qu (qu z (102 + 3 * k9) x9) (102 + 3 * k9 + 1) w9) (102 + 3 * k9 + 2) s9)) m0 := n101 ▸ (gS0.2.2.2.1.2 : qWR (zE (qu (qu (qu z (102 + 3 * k9) x9) (102 + 3 * k9 + 1) w9) (102 + 3 * k9 + 2) s9)) ((qu (qu (qu z (102 + 3 * k9) x9) (102 + 3 * k9 + 1) w9) (102 + 3 * k9 + 2) s9) 101).toNat)
    refine lv_aload_n hx hb dX8_layEdit_76 rfl (lv_at hl 1 rfl) ?_
    refine q_backv [0, 1, 2, 3, 4, 5, 6, 7] [] (br := []) hP hD hS hA (va_runV (As := []) (rest := []) ⟨hx, hb, hml, hown, hg⟩ (c_X8_settle l D cy mo mz msv mtx mmo mif mmg mtn mie mme mrd mas (th) (sv) (ml) (tu) (fi) (ro) (sp) (it) (bl) (hh) (qu (qu (qu z (102 + (3 * k9)) (x9)) ((102 + (3 * k9)) + 1) (w9)) ((102 + (3 * k9)) + 2) (s9)) n0 m0 (g) (isF) (mg) (tn) (isE) (mE) hn0 hm0 hc0 he0 hC0 hE0 hV0 hst0 _) (cv_X8_111 hg rfl rfl ⟨by decide, by decide⟩) ⟨q_blind, va_recv hK (fl_blk hP 0 rfl) (ci := 8) (q0 := 0) rfl rfl, q_preM _ hK hN hP hD [0, 1, 2, 3, 4, 5, 6, 7] (by decide) rfl⟩ rfl rfl hl.1 rfl (lv_room (Nat.le_of_ble_eq_true rfl)) dX8_layEdit_77 ⟨by decide, by decide⟩) rfl rfl (by decide) (fun u_77 H locs h_77 hP hD hS => ?_)
    have hP : va_P D vwCl [[(mo, .inr (8, [.int (qI (th)), .ref (mz), .int (qI (sv)), .ref (msv), .int (qI (ml)), .ref (mtx), .ref (mmo), .int (qI (u_77.2.2.2.1)), .ref (mif), .ref (mmg), .ref (mtn), .ref (mie), .ref (mme), .int (qz (u_77.2.2.2.2.2.2.2.2.2.1)), .int (qI (u_77.2.2.2.2.2.2.2.2.2.2)), .int (qI (sp)), .int (qI (it)), .int (qz (bl)), .ref (mrd), .ref (mas), .long (hh)]))], [(mz, aI cy 115 (u_77.1))], [(mmo, aI cy 121 (u_77.2.1))], [(mif, aZ cy 16 (u_77.2.2.2.2.1))], [(mmg, aI cy 16 (u_77.2.2.2.2.2.1))], [(mtn, aI cy 16 (u_77.2.2.2.2.2.2.1))], [(mie, aZ cy 4 (u_77.2.2.2.2.2.2.2.1))], [(mme, aI cy 4 (u_77.2.2.2.2.2.2.2.2.1))]].flatten H := hP
    have hD : va_D A [[(mo, .inr (8, [.int (qI (th)), .ref (mz), .int (qI (sv)), .ref (msv), .int (qI (ml)), .ref (mtx), .ref (mmo), .int (qI (u_77.2.2.2.1)), .ref (mif), .ref (mmg), .ref (mtn), .ref (mie), .ref (mme), .int (qz (u_77.2.2.2.2.2.2.2.2.2.1)), .int (qI (u_77.2.2.2.2.2.2.2.2.2.2)), .int (qI (sp)), .int (qI (it)), .int (qz (bl)), .ref (mrd), .ref (mas), .long (hh)]))], [(mz, aI cy 115 (u_77.1))], [(mmo, aI cy 121 (u_77.2.1))], [(mif, aZ cy 16 (u_77.2.2.2.2.1))], [(mmg, aI cy 16 (u_77.2.2.2.2.2.1))], [(mtn, aI cy 16 (u_77.2.2.2.2.2.2.1))], [(mie, aZ cy 4 (u_77.2.2.2.2.2.2.2.1))], [(mme, aI cy 4 (u_77.2.2.2.2.2.2.2.2.1))]].flatten := hD
    exact hQ _ _ _ _ (u_77.1, u_77.2.1, u_77.2.2) (mset_fin hS0 n20 n101 hn0 hm0 hc0 he0 h_77.1) hP hD hS dX8_layEdit_80
  · skip
    have e9 : edOf (zE z) x9 ne = -1 := by omega
    refine lv_aload_n hx hb dX8_layEdit_13 rfl (lv_at hl 1 rfl) ?_
    refine gf_X8_7 hx hb hg hown hK (fl_blk hP 0 rfl) 0 rfl rfl dX8_layEdit_14 ?_
    refine q_bipush hx hb dX8_layEdit_17 (by decide) ?_
    refine q_iald (j := 101) hx hb hK (fl_blk hP 1 rfl) 0 rfl (by omega) dX8_layEdit_19 ?_
    refine q_topZ (y := ((ne : Nat) : Int)) hne ?_
    refine lv_istore (lv' := [(4, .int (qI (((ne : Nat) : Int)))), (0, .ref (mo)), (1, .int (qI (x9))), (2, .int (qI (w9))), (3, .int (qI (s9)))]) hx hb dX8_layEdit_20 hl (by decide) rfl (fun ls hl => ?_)
    refine lv_aload_n hx hb dX8_layEdit_22 rfl (lv_at hl 1 rfl) ?_
    refine gf_X8_7 hx hb hg hown hK (fl_blk hP 0 rfl) 0 rfl rfl dX8_layEdit_23 ?_
    refine q_bipush hx hb dX8_layEdit_26 (by decide) ?_
    refine lv_dup2_11 hx hb dX8_layEdit_28 rfl rfl ?_
    refine q_iald (j := 101) hx hb hK (fl_blk hP 1 rfl) 0 rfl (by omega) dX8_layEdit_29 ?_
    refine q_topZ (y := ((ne : Nat) : Int)) hne ?_
    refine q_iconst hx hb dX8_layEdit_30 ?_
    refine q_iadd hx hb dX8_layEdit_31 ?_
    refine qb_iast (j := 101) hx hb hK hP hD hS 1 0 rfl rfl (by omega) dX8_layEdit_32 (fun H locs hP hD hS => ?_)
    have hP : va_P D vwCl [[(mo, .inr (8, [.int (qI (th)), .ref (mz), .int (qI (sv)), .ref (msv), .int (qI (ml)), .ref (mtx), .ref (mmo), .int (qI (tu)), .ref (mif), .ref (mmg), .ref (mtn), .ref (mie), .ref (mme), .int (qz (fi)), .int (qI (ro)), .int (qI (sp)), .int (qI (it)), .int (qz (bl)), .ref (mrd), .ref (mas), .long (hh)]))], [(mz, aI cy 115 (qu z 101 ((((ne : Nat) : Int)) + (1))))], [(mmo, aI cy 121 (g))], [(mif, aZ cy 16 (isF))], [(mmg, aI cy 16 (mg))], [(mtn, aI cy 16 (tn))], [(mie, aZ cy 4 (isE))], [(mme, aI cy 4 (mE))]].flatten H := hP
    have hD : va_D A [[(mo, .inr (8, [.int (qI (th)), .ref (mz), .int (qI (sv)), .ref (msv), .int (qI (ml)), .ref (mtx), .ref (mmo), .int (qI (tu)), .ref (mif), .ref (mmg), .ref (mtn), .ref (mie), .ref (mme), .int (qz (fi)), .int (qI (ro)), .int (qI (sp)), .int (qI (it)), .int (qz (bl)), .ref (mrd), .ref (mas), .long (hh)]))], [(mz, aI cy 115 (qu z 101 ((((ne : Nat) : Int)) + (1))))], [(mmo, aI cy 121 (g))], [(mif, aZ cy 16 (isF))], [(mmg, aI cy 16 (mg))], [(mtn, aI cy 16 (tn))], [(mie, aZ cy 4 (isE))], [(mme, aI cy 4 (mE))]].flatten := hD
    refine lv_aload_n hx hb dX8_layEdit_33 rfl (lv_at hl 1 rfl) ?_
    refine gf_X8_7 hx hb hg hown hK (fl_blk hP 0 rfl) 0 rfl rfl dX8_layEdit_34 ?_
    refine q_bipush hx hb dX8_layEdit_37 (by decide) ?_
    refine q_iconst hx hb dX8_layEdit_39 ?_
    refine lv_iload hx hb dX8_layEdit_40 (lv_at hl 0 rfl) ?_
    refine q_imul hx hb dX8_layEdit_42 ?_
    refine q_iadd hx hb dX8_layEdit_43 ?_
    refine lv_iload_n hx hb dX8_layEdit_44 rfl (lv_at hl 2 rfl) ?_
    refine qb_iast (j := (102 + (3 * ne))) hx hb hK hP hD hS 1 0 rfl rfl (by omega) dX8_layEdit_45 (fun H locs hP hD hS => ?_)
    have hP : va_P D vwCl [[(mo, .inr (8, [.int (qI (th)), .ref (mz), .int (qI (sv)), .ref (msv), .int (qI (ml)), .ref (mtx), .ref (mmo), .int (qI (tu)), .ref (mif), .ref (mmg), .ref (mtn), .ref (mie), .ref (mme), .int (qz (fi)), .int (qI (ro)), .int (qI (sp)), .int (qI (it)), .int (qz (bl)), .ref (mrd), .ref (mas), .long (hh)]))], [(mz, aI cy 115 (qu (qu z 101 ((((ne : Nat) : Int)) + (1))) (102 + (3 * ne)) (x9)))], [(mmo, aI cy 121 (g))], [(mif, aZ cy 16 (isF))], [(mmg, aI cy 16 (mg))], [(mtn, aI cy 16 (tn))], [(mie, aZ cy 4 (isE))], [(mme, aI cy 4 (mE))]].flatten H := hP
    have hD : va_D A [[(mo, .inr (8, [.int (qI (th)), .ref (mz), .int (qI (sv)), .ref (msv), .int (qI (ml)), .ref (mtx), .ref (mmo), .int (qI (tu)), .ref (mif), .ref (mmg), .ref (mtn), .ref (mie), .ref (mme), .int (qz (fi)), .int (qI (ro)), .int (qI (sp)), .int (qI (it)), .int (qz (bl)), .ref (mrd), .ref (mas), .long (hh)]))], [(mz, aI cy 115 (qu (qu z 101 ((((ne : Nat) : Int)) + (1))) (102 + (3 * ne)) (x9)))], [(mmo, aI cy 121 (g))], [(mif, aZ cy 16 (isF))], [(mmg, aI cy 16 (mg))], [(mtn, aI cy 16 (tn))], [(mie, aZ cy 4 (isE))], [(mme, aI cy 4 (mE))]].flatten := hD
    refine lv_aload_n hx hb dX8_layEdit_46 rfl (lv_at hl 1 rfl) ?_
    refine gf_X8_7 hx hb hg hown hK (fl_blk hP 0 rfl) 0 rfl rfl dX8_layEdit_47 ?_
    refine q_bipush hx hb dX8_layEdit_50 (by decide) ?_
    refine q_iconst hx hb dX8_layEdit_52 ?_
    refine lv_iload hx hb dX8_layEdit_53 (lv_at hl 0 rfl) ?_
    refine q_imul hx hb dX8_layEdit_55 ?_
    refine q_iadd hx hb dX8_layEdit_56 ?_
    refine q_iconst hx hb dX8_layEdit_57 ?_
    refine q_iadd hx hb dX8_layEdit_58 ?_
    refine lv_iload_n hx hb dX8_layEdit_59 rfl (lv_at hl 3 rfl) ?_
    refine qb_iast (j := ((102 + (3 * ne)) + 1)) hx hb hK hP hD hS 1 0 rfl rfl (by omega) dX8_layEdit_60 (fun H locs hP hD hS => ?_)
    have hP : va_P D vwCl [[(mo, .inr (8, [.int (qI (th)), .ref (mz), .int (qI (sv)), .ref (msv), .int (qI (ml)), .ref (mtx), .ref (mmo), .int (qI (tu)), .ref (mif), .ref (mmg), .ref (mtn), .ref (mie), .ref (mme), .int (qz (fi)), .int (qI (ro)), .int (qI (sp)), .int (qI (it)), .int (qz (bl)), .ref (mrd), .ref (mas), .long (hh)]))], [(mz, aI cy 115 (qu (qu (qu z 101 ((((ne : Nat) : Int)) + (1))) (102 + (3 * ne)) (x9)) ((102 + (3 * ne)) + 1) (w9)))], [(mmo, aI cy 121 (g))], [(mif, aZ cy 16 (isF))], [(mmg, aI cy 16 (mg))], [(mtn, aI cy 16 (tn))], [(mie, aZ cy 4 (isE))], [(mme, aI cy 4 (mE))]].flatten H := hP
    have hD : va_D A [[(mo, .inr (8, [.int (qI (th)), .ref (mz), .int (qI (sv)), .ref (msv), .int (qI (ml)), .ref (mtx), .ref (mmo), .int (qI (tu)), .ref (mif), .ref (mmg), .ref (mtn), .ref (mie), .ref (mme), .int (qz (fi)), .int (qI (ro)), .int (qI (sp)), .int (qI (it)), .int (qz (bl)), .ref (mrd), .ref (mas), .long (hh)]))], [(mz, aI cy 115 (qu (qu (qu z 101 ((((ne : Nat) : Int)) + (1))) (102 + (3 * ne)) (x9)) ((102 + (3 * ne)) + 1) (w9)))], [(mmo, aI cy 121 (g))], [(mif, aZ cy 16 (isF))], [(mmg, aI cy 16 (mg))], [(mtn, aI cy 16 (tn))], [(mie, aZ cy 4 (isE))], [(mme, aI cy 4 (mE))]].flatten := hD
    refine lv_aload_n hx hb dX8_layEdit_61 rfl (lv_at hl 1 rfl) ?_
    refine gf_X8_7 hx hb hg hown hK (fl_blk hP 0 rfl) 0 rfl rfl dX8_layEdit_62 ?_
    refine q_bipush hx hb dX8_layEdit_65 (by decide) ?_
    refine q_iconst hx hb dX8_layEdit_67 ?_
    refine lv_iload hx hb dX8_layEdit_68 (lv_at hl 0 rfl) ?_
    refine q_imul hx hb dX8_layEdit_70 ?_
    refine q_iadd hx hb dX8_layEdit_71 ?_
    refine q_iconst hx hb dX8_layEdit_72 ?_
    refine q_iadd hx hb dX8_layEdit_73 ?_
    refine lv_iload_n hx hb dX8_layEdit_74 rfl (lv_at hl 4 rfl) ?_
    refine qb_iast (j := ((102 + (3 * ne)) + 2)) hx hb hK hP hD hS 1 0 rfl rfl (by omega) dX8_layEdit_75 (fun H locs hP hD hS => ?_)
    have hP : va_P D vwCl [[(mo, .inr (8, [.int (qI (th)), .ref (mz), .int (qI (sv)), .ref (msv), .int (qI (ml)), .ref (mtx), .ref (mmo), .int (qI (tu)), .ref (mif), .ref (mmg), .ref (mtn), .ref (mie), .ref (mme), .int (qz (fi)), .int (qI (ro)), .int (qI (sp)), .int (qI (it)), .int (qz (bl)), .ref (mrd), .ref (mas), .long (hh)]))], [(mz, aI cy 115 (qu (qu (qu (qu z 101 ((((ne : Nat) : Int)) + (1))) (102 + (3 * ne)) (x9)) ((102 + (3 * ne)) + 1) (w9)) ((102 + (3 * ne)) + 2) (s9)))], [(mmo, aI cy 121 (g))], [(mif, aZ cy 16 (isF))], [(mmg, aI cy 16 (mg))], [(mtn, aI cy 16 (tn))], [(mie, aZ cy 4 (isE))], [(mme, aI cy 4 (mE))]].flatten H := hP
    have hD : va_D A [[(mo, .inr (8, [.int (qI (th)), .ref (mz), .int (qI (sv)), .ref (msv), .int (qI (ml)), .ref (mtx), .ref (mmo), .int (qI (tu)), .ref (mif), .ref (mmg), .ref (mtn), .ref (mie), .ref (mme), .int (qz (fi)), .int (qI (ro)), .int (qI (sp)), .int (qI (it)), .int (qz (bl)), .ref (mrd), .ref (mas), .long (hh)]))], [(mz, aI cy 115 (qu (qu (qu (qu z 101 ((((ne : Nat) : Int)) + (1))) (102 + (3 * ne)) (x9)) ((102 + (3 * ne)) + 1) (w9)) ((102 + (3 * ne)) + 2) (s9)))], [(mmo, aI cy 121 (g))], [(mif, aZ cy 16 (isF))], [(mmg, aI cy 16 (mg))], [(mtn, aI cy 16 (tn))], [(mie, aZ cy 4 (isE))], [(mme, aI cy 4 (mE))]].flatten := hD
    have hS0 : LEq (zS (qu (qu (qu (qu z 101 ((ne : Int) + 1)) (102 + 3 * ne) x9) (102 + 3 * ne + 1) w9) (102 + 3 * ne + 2) s9)) (adE (zS z) x9 w9 s9) := layE_new (by omega) hne (by omega) e9 qu4
    have gS0 := (adE_ok hG9 hx9 hw9 hs9 (by show edOf (zE z) x9 (z 101).toNat ≠ -1 ∨ (z 101).toNat < 4; rw [show (z 101).toNat = ne by omega]; exact hn9)).eq hS0
    obtain ⟨n0, hn0⟩ : ∃ n0 : Nat, (qu (qu (qu (qu z 101 ((ne : Int) + 1)) (102 + 3 * ne) x9) (102 + 3 * ne + 1) w9) (102 + 3 * ne + 2) s9) 20 = (n0 : Int) := ⟨((qu (qu (qu (qu z 101 ((ne : Int) + 1)) (102 + 3 * ne) x9) (102 + 3 * ne + 1) w9) (102 + 3 * ne + 2) s9) 20).toNat, by have q := (show (qu (qu (qu (qu z 101 ((ne : Int) + 1)) (102 + 3 * ne) x9) (102 + 3 * ne + 1) w9) (102 + 3 * ne + 2) s9) 20 = z 20 by rw [qu_n _ _ (by omega), qu_n _ _ (by omega), qu_n _ _ (by omega), qu_n _ _ (by omega)]); omega⟩
    obtain ⟨m0, hm0⟩ : ∃ m0 : Nat, (qu (qu (qu (qu z 101 ((ne : Int) + 1)) (102 + 3 * ne) x9) (102 + 3 * ne + 1) w9) (102 + 3 * ne + 2) s9) 101 = (m0 : Int) := ⟨((qu (qu (qu (qu z 101 ((ne : Int) + 1)) (102 + 3 * ne) x9) (102 + 3 * ne + 1) w9) (102 + 3 * ne + 2) s9) 101).toNat, by have q := (show (qu (qu (qu (qu z 101 ((ne : Int) + 1)) (102 + 3 * ne) x9) (102 + 3 * ne + 1) w9) (102 + 3 * ne + 2) s9) 101 = (ne : Int) + 1 by rw [qu_n _ _ (by omega), qu_n _ _ (by omega), qu_n _ _ (by omega), qu_s]); omega⟩
    have n20 : ((qu (qu (qu (qu z 101 ((ne : Int) + 1)) (102 + 3 * ne) x9) (102 + 3 * ne + 1) w9) (102 + 3 * ne + 2) s9) 20).toNat = n0 := by omega
    have n101 : ((qu (qu (qu (qu z 101 ((ne : Int) + 1)) (102 + 3 * ne) x9) (102 + 3 * ne + 1) w9) (102 + 3 * ne + 2) s9) 101).toNat = m0 := by omega
    have hV0 : qV (qu (qu (qu (qu z 101 ((ne : Int) + 1)) (102 + 3 * ne) x9) (102 + 3 * ne + 1) w9) (102 + 3 * ne + 2) s9) := gS0.1
    have hst0 : ∀ i, i < 10 → 0 ≤ (qu (qu (qu (qu z 101 ((ne : Int) + 1)) (102 + 3 * ne) x9) (102 + 3 * ne + 1) w9) (102 + 3 * ne + 2) s9) (10 + i) ∧ (qu (qu (qu (qu z 101 ((ne : Int) + 1)) (102 + 3 * ne) x9) (102 + 3 * ne + 1) w9) (102 + 3 * ne + 2) s9) (10 + i) ≤ 9 := gS0.2.1
    have hc0 : n0 ≤ 16 := n20 ▸ (gS0.2.2.1.1 : ((qu (qu (qu (qu z 101 ((ne : Int) + 1)) (102 + 3 * ne) x9) (102 + 3 * ne + 1) w9) (102 + 3 * ne + 2) s9) 20).toNat ≤ 16)
    have hC0 : qWR (zC (qu (qu (qu (qu z 101 ((ne : Int) + 1)) (102 + 3 * ne) x9) (102 + 3 * ne + 1) w9) (102 + 3 * ne + 2) s9)) n0 := n20 ▸ (gS0.2.2.1.2 : qWR (zC (qu (qu (qu (qu z 101 ((ne : Int) + 1)) (102 + 3 * ne) x9) (102 + 3 * ne + 1) w9) (102 + 3 * ne + 2) s9)) ((qu (qu (qu (qu z 101 ((ne : Int) + 1)) (102 + 3 * ne) x9) (102 + 3 * ne + 1) w9) (102 + 3 * ne + 2) s9) 20).toNat)
    have he0 : m0 ≤ 4 := n101 ▸ (gS0.2.2.2.1.1 : ((qu (qu (qu (qu z 101 ((ne : Int) + 1)) (102 + 3 * ne) x9) (102 + 3 * ne + 1) w9) (102 + 3 * ne + 2) s9) 101).toNat ≤ 4)
    have hE0 : qWR (zE (qu (qu (qu (qu z 101 ((ne : Int) + 1)) (102 + 3 * ne) x9) (102 + 3 * ne + 1) w9) (102 + 3 * ne + 2) s9)) m0 := n101 ▸ (gS0.2.2.2.1.2 : qWR (zE (qu (qu (qu (qu z 101 ((ne : Int) + 1)) (102 + 3 * ne) x9) (102 + 3 * ne + 1) w9) (102 + 3 * ne + 2) s9)) ((qu (qu (qu (qu z 101 ((ne : Int) + 1)) (102 + 3 * ne) x9) (102 + 3 * ne + 1) w9) (102 + 3 * ne + 2) s9) 101).toNat)
    refine lv_aload_n hx hb dX8_layEdit_76 rfl (lv_at hl 1 rfl) ?_
    refine q_backv [0, 1, 2, 3, 4, 5, 6, 7] [] (br := []) hP hD hS hA (va_runV (As := []) (rest := []) ⟨hx, hb, hml, hown, hg⟩ (c_X8_settle l D cy mo mz msv mtx mmo mif mmg mtn mie mme mrd mas (th) (sv) (ml) (tu) (fi) (ro) (sp) (it) (bl) (hh) (qu (qu (qu (qu z 101 ((((ne : Nat) : Int)) + (1))) (102 + (3 * ne)) (x9)) ((102 + (3 * ne)) + 1) (w9)) ((102 + (3 * ne)) + 2) (s9)) n0 m0 (g) (isF) (mg) (tn) (isE) (mE) hn0 hm0 hc0 he0 hC0 hE0 hV0 hst0 _) (cv_X8_111 hg rfl rfl ⟨by decide, by decide⟩) ⟨q_blind, va_recv hK (fl_blk hP 0 rfl) (ci := 8) (q0 := 0) rfl rfl, q_preM _ hK hN hP hD [0, 1, 2, 3, 4, 5, 6, 7] (by decide) rfl⟩ rfl rfl hl.1 rfl (lv_room (Nat.le_of_ble_eq_true rfl)) dX8_layEdit_77 ⟨by decide, by decide⟩) rfl rfl (by decide) (fun u_77 H locs h_77 hP hD hS => ?_)
    have hP : va_P D vwCl [[(mo, .inr (8, [.int (qI (th)), .ref (mz), .int (qI (sv)), .ref (msv), .int (qI (ml)), .ref (mtx), .ref (mmo), .int (qI (u_77.2.2.2.1)), .ref (mif), .ref (mmg), .ref (mtn), .ref (mie), .ref (mme), .int (qz (u_77.2.2.2.2.2.2.2.2.2.1)), .int (qI (u_77.2.2.2.2.2.2.2.2.2.2)), .int (qI (sp)), .int (qI (it)), .int (qz (bl)), .ref (mrd), .ref (mas), .long (hh)]))], [(mz, aI cy 115 (u_77.1))], [(mmo, aI cy 121 (u_77.2.1))], [(mif, aZ cy 16 (u_77.2.2.2.2.1))], [(mmg, aI cy 16 (u_77.2.2.2.2.2.1))], [(mtn, aI cy 16 (u_77.2.2.2.2.2.2.1))], [(mie, aZ cy 4 (u_77.2.2.2.2.2.2.2.1))], [(mme, aI cy 4 (u_77.2.2.2.2.2.2.2.2.1))]].flatten H := hP
    have hD : va_D A [[(mo, .inr (8, [.int (qI (th)), .ref (mz), .int (qI (sv)), .ref (msv), .int (qI (ml)), .ref (mtx), .ref (mmo), .int (qI (u_77.2.2.2.1)), .ref (mif), .ref (mmg), .ref (mtn), .ref (mie), .ref (mme), .int (qz (u_77.2.2.2.2.2.2.2.2.2.1)), .int (qI (u_77.2.2.2.2.2.2.2.2.2.2)), .int (qI (sp)), .int (qI (it)), .int (qz (bl)), .ref (mrd), .ref (mas), .long (hh)]))], [(mz, aI cy 115 (u_77.1))], [(mmo, aI cy 121 (u_77.2.1))], [(mif, aZ cy 16 (u_77.2.2.2.2.1))], [(mmg, aI cy 16 (u_77.2.2.2.2.2.1))], [(mtn, aI cy 16 (u_77.2.2.2.2.2.2.1))], [(mie, aZ cy 4 (u_77.2.2.2.2.2.2.2.1))], [(mme, aI cy 4 (u_77.2.2.2.2.2.2.2.2.1))]].flatten := hD
    exact hQ _ _ _ _ (u_77.1, u_77.2.1, u_77.2.2) (mset_fin hS0 n20 n101 hn0 hm0 hc0 he0 h_77.1) hP hD hS dX8_layEdit_80

set_option maxRecDepth 100000 in
set_option maxHeartbeats 4000000 in
theorem c_X8_edit (l : Launch) (D : va_G) (cy : Nat → ClassId) (mo mz msv mtx mmo mif mmg mtn mie mme mrd mas : Nat) (T : LSt) (hz : Nat) (HZ : Nat → LSt) (len : Nat) (tx : Nat → Int) (th : Int) (W : va_W) (hG : gOk T) (hW : MW cy mo mz msv mtx mmo mif mmg mtn mie mme mrd mas T hz HZ len tx th W) (p0 p1 p2 : Int) (k : Nat) (hk : p0 = (k : Int) ∧ k < 10) (h1 : -1000 ≤ p1 ∧ p1 ≤ 1000) (h2 : 0 ≤ p2 ∧ p2 ≤ 3) (hn : edOf (lE T) p0 (lM T) ≠ -1 ∨ lM T < 3) (sz : Nat) : qMet l yX8_edit (.code yX8_edit cX8_edit 5 (some .int)) 8 [.ref (mo), .int (qI (p0)), .int (qI (p1)), .int (qI (p2))] D cy [W] sz (va_Qi (S := va_W) (fun r u => r = qI (lV (seT (adE T p0 p1 p2)) k) ∧ MW cy mo mz msv mtx mmo mif mmg mtn mie mme mrd mas (seT (adE T p0 p1 p2)) (min (hz + 1) 8) (pushH T HZ) len tx 0 u) (qB D cy [W] sz (fun u => [u])) (va_A [W].flatten sz)) := by
  refine q_ofMi (S := va_W) (b1 := fun u => [u]) (post := fun r u => r = qI (lV (seT (adE T p0 p1 p2)) k) ∧ MW cy mo mz msv mtx mmo mif mmg mtn mie mme mrd mas (seT (adE T p0 p1 p2)) (min (hz + 1) 8) (pushH T HZ) len tx 0 u) (by decide +kernel) (Nat.le_of_ble_eq_true rfl) ?_
  intro p e s m args below meth c Q A hx hb hml hown hg hQ hK hN hD hA H locs ls hP hS hl
  have hown : s.vm.findClass RX8 = some m.cls := hown
  have hl : lv_has ls 5 [(0, .ref (mo)), (1, .int (qI (p0))), (2, .int (qI (p1))), (3, .int (qI (p2)))] := hl
  have hW0 := hW
  obtain ⟨tu, fi, ro, sp, it, bl, hh, z, sd, bf, g, isF, mg, tn, isE, mE, rd, as9, rfl, ⟨hL, hz20, hz101⟩, ⟨hhz, hHZ⟩, hln, hbf, htx⟩ := hW
  obtain ⟨gV, gT, gC, gE, gI, gD⟩ := hG.eq hL
  obtain ⟨nc, hnc⟩ : ∃ nc : Nat, z 20 = (nc : Int) := ⟨(z 20).toNat, by omega⟩
  obtain ⟨ne, hne⟩ : ∃ ne : Nat, z 101 = (ne : Int) := ⟨(z 101).toNat, by omega⟩
  have e20 : (z 20).toNat = nc := by omega
  have e101 : (z 101).toNat = ne := by omega
  have hV : qV z := gV
  have hst : ∀ i, i < 10 → 0 ≤ z (10 + i) ∧ z (10 + i) ≤ 9 := gT
  have hc : nc ≤ 16 := e20 ▸ (gC.1 : (z 20).toNat ≤ 16)
  have hC : qWR (zC z) nc := e20 ▸ (gC.2 : qWR (zC z) (z 20).toNat)
  have he : ne ≤ 4 := e101 ▸ (gE.1 : (z 101).toNat ≤ 4)
  have hE : qWR (zE z) ne := e101 ▸ (gE.2 : qWR (zE z) (z 101).toNat)
  have hD9 : ∀ i j, i < ne → j < ne → zE z 0 i = zE z 0 j → i = j := e101 ▸ (gD : ∀ i j, i < (z 101).toNat → j < (z 101).toNat → zE z 0 i = zE z 0 j → i = j)
  have hL2 : LEq (z, (fun i => z (10 + i)), zC z, nc, zE z, ne) T := by rw [← e20, ← e101]; exact hL
  have en : nc = lN9 T := hL2.2.2.1
  have em : ne = lM T := hL2.2.2.2.2.1
  rw [fl_open] at hP hD
  have hP : va_P D vwCl [[(mo, .inr (8, [.int (qI (th)), .ref (mz), .int (qI (((hz : Nat) : Int))), .ref (msv), .int (qI (((len : Nat) : Int))), .ref (mtx), .ref (mmo), .int (qI (tu)), .ref (mif), .ref (mmg), .ref (mtn), .ref (mie), .ref (mme), .int (qz (fi)), .int (qI (ro)), .int (qI (sp)), .int (qI (it)), .int (qz (bl)), .ref (mrd), .ref (mas), .long (hh)]))], [(mz, aI cy 115 (z))], [(msv, aI cy 920 (sd))], [(mtx, aI cy 60 (bf))], [(mmo, aI cy 121 (g))], [(mif, aZ cy 16 (isF))], [(mmg, aI cy 16 (mg))], [(mtn, aI cy 16 (tn))], [(mie, aZ cy 4 (isE))], [(mme, aI cy 4 (mE))], [(mrd, aI cy 100 (rd))], [(mas, aI cy 115 (as9))]].flatten H := hP
  have hD : va_D A [[(mo, .inr (8, [.int (qI (th)), .ref (mz), .int (qI (((hz : Nat) : Int))), .ref (msv), .int (qI (((len : Nat) : Int))), .ref (mtx), .ref (mmo), .int (qI (tu)), .ref (mif), .ref (mmg), .ref (mtn), .ref (mie), .ref (mme), .int (qz (fi)), .int (qI (ro)), .int (qI (sp)), .int (qI (it)), .int (qz (bl)), .ref (mrd), .ref (mas), .long (hh)]))], [(mz, aI cy 115 (z))], [(msv, aI cy 920 (sd))], [(mtx, aI cy 60 (bf))], [(mmo, aI cy 121 (g))], [(mif, aZ cy 16 (isF))], [(mmg, aI cy 16 (mg))], [(mtn, aI cy 16 (tn))], [(mie, aZ cy 4 (isE))], [(mme, aI cy 4 (mE))], [(mrd, aI cy 100 (rd))], [(mas, aI cy 115 (as9))]].flatten := hD
  refine lv_iload_n hx hb dX8_edit_0 rfl (lv_at hl 2 rfl) ?_
  refine q_readz (va_runS (As := [.int (qI (p1))]) (rest := []) ⟨hx, hb, hml, hown, hg⟩ (c_X8_isWish l D cy _ (by omega)) (cs_X8_123 hg rfl rfl ⟨by decide, by decide⟩) ⟨q_blind0, q_preR _ hK hN hP [] rfl⟩ rfl rfl hl.1 rfl (lv_room (Nat.le_of_ble_eq_true rfl)) dX8_edit_1 ⟨by decide, by decide⟩) (fun b_1 h_1 => ?_)
  refine q_ifz_eq (tgt := 18) hx hb dX8_edit_4 (by decide) (fun c_4 => ?_) (fun c_4 => ?_)
  · skip
    have g_4 := mt (h_1).mpr (by rw [c_4]; decide)
    exfalso; omega
  · skip
    have g_4 := (h_1).mp c_4
    refine lv_iload_n hx hb dX8_edit_7 rfl (lv_at hl 3 rfl) ?_
    refine q_readz (va_runS (As := [.int (qI (p2))]) (rest := []) ⟨hx, hb, hml, hown, hg⟩ (c_X8_isStrength l D cy _ (by omega)) (cs_X8_101 hg rfl rfl ⟨by decide, by decide⟩) ⟨q_blind0, q_preR _ hK hN hP [] rfl⟩ rfl rfl hl.1 rfl (lv_room (Nat.le_of_ble_eq_true rfl)) dX8_edit_8 ⟨by decide, by decide⟩) (fun b_8 h_8 => ?_)
    refine q_ifz_eq (tgt := 18) hx hb dX8_edit_11 (by decide) (fun c_11 => ?_) (fun c_11 => ?_)
    · skip
      have g_11 := mt (h_8).mpr (by rw [c_11]; decide)
      exfalso; omega
    · skip
      have g_11 := (h_8).mp c_11
      refine q_iconst hx hb dX8_edit_14 ?_
      refine lv_goto (tgt := 19) hx hb dX8_edit_15 (by decide) ?_
      refine lv_istore (lv' := [(4, .int (qI (1))), (0, .ref (mo)), (1, .int (qI (p0))), (2, .int (qI (p1))), (3, .int (qI (p2)))]) hx hb dX8_edit_19 hl (by decide) rfl (fun ls hl => ?_)
      refine lv_aload_n hx hb dX8_edit_21 rfl (lv_at hl 1 rfl) ?_
      refine lv_iload_n hx hb dX8_edit_22 rfl (lv_at hl 2 rfl) ?_
      refine q_readz (va_runS (As := [.int (qI (p0))]) (rest := [.ref (mo)]) ⟨hx, hb, hml, hown, hg⟩ (c_X8_isPlace l D cy _ (by omega)) (cs_X8_94 hg rfl rfl ⟨by decide, by decide⟩) ⟨q_blind0, q_preR _ hK hN hP [] rfl⟩ rfl rfl hl.1 rfl (lv_room (Nat.le_of_ble_eq_true rfl)) dX8_edit_23 ⟨by decide, by decide⟩) (fun b_23 h_23 => ?_)
      refine q_ifz_ne (tgt := 33) hx hb dX8_edit_26 (by decide) (fun c_26 => ?_) (fun c_26 => ?_)
      · skip
        have g_26 := (h_23).mp c_26
        refine lv_iload hx hb dX8_edit_33 (lv_at hl 0 rfl) ?_
        refine q_if_ne (tgt := 42) hx hb dX8_edit_35 (by decide) (by omega) (fun c_35 => ?_) (fun c_35 => ?_)
        · skip
          have eo : edOf (zE z) p0 ne = edOf (lE T) p0 (lM T) := by rw [em]; exact edOf_ext (lM T) (fun i hi => hL2.2.2.2.2.2 0 i (by decide) hi)
          have er := edOf_rng (zE z) p0 ne
          refine lv_aload_n hx hb dX8_edit_42 rfl (lv_at hl 1 rfl) ?_
          refine lv_iload_n hx hb dX8_edit_43 rfl (lv_at hl 2 rfl) ?_
          refine q_readi (va_runV (As := [.int (qI (p0))]) (rest := [.ref (mo)]) ⟨hx, hb, hml, hown, hg⟩ (c_X8_editOf l D cy mo mz msv mtx mmo mif mmg mtn mie mme mrd mas (th) (((hz : Nat) : Int)) (((len : Nat) : Int)) (tu) (fi) (ro) (sp) (it) (bl) (hh) z nc ne hnc hne hc he hC hE hD9 _ (by omega)) (cv_X8_120 hg rfl rfl ⟨by decide, by decide⟩) ⟨q_blind0, va_recv hK (fl_blk hP 0 rfl) (ci := 8) (q0 := 0) rfl rfl, q_preR _ hK hN hP [0, 1] rfl⟩ rfl rfl hl.1 rfl (lv_room (Nat.le_of_ble_eq_true rfl)) dX8_edit_44 ⟨by decide, by decide⟩) (fun r_44 h_44 => ?_)
          subst h_44
          refine q_iconst hx hb dX8_edit_47 ?_
          refine q_icmp_ne (tgt := 66) hx hb dX8_edit_48 (by decide) (by omega) (fun c_48 => ?_) (fun c_48 => ?_)
          · skip
            refine q_iconst hx hb dX8_edit_66 ?_
            refine pf_X8_44 hx hb hg hown hK hP hD hS 0 0 rfl rfl rfl rfl (Nat.le_of_ble_eq_true rfl) dX8_edit_67 (fun H locs hP hD hS => ?_)
            have hP : va_P D vwCl [[(mo, .inr (8, [.int (qI (0)), .ref (mz), .int (qI (((hz : Nat) : Int))), .ref (msv), .int (qI (((len : Nat) : Int))), .ref (mtx), .ref (mmo), .int (qI (tu)), .ref (mif), .ref (mmg), .ref (mtn), .ref (mie), .ref (mme), .int (qz (fi)), .int (qI (ro)), .int (qI (sp)), .int (qI (it)), .int (qz (bl)), .ref (mrd), .ref (mas), .long (hh)]))], [(mz, aI cy 115 (z))], [(msv, aI cy 920 (sd))], [(mtx, aI cy 60 (bf))], [(mmo, aI cy 121 (g))], [(mif, aZ cy 16 (isF))], [(mmg, aI cy 16 (mg))], [(mtn, aI cy 16 (tn))], [(mie, aZ cy 4 (isE))], [(mme, aI cy 4 (mE))], [(mrd, aI cy 100 (rd))], [(mas, aI cy 115 (as9))]].flatten H := hP
            have hD : va_D A [[(mo, .inr (8, [.int (qI (0)), .ref (mz), .int (qI (((hz : Nat) : Int))), .ref (msv), .int (qI (((len : Nat) : Int))), .ref (mtx), .ref (mmo), .int (qI (tu)), .ref (mif), .ref (mmg), .ref (mtn), .ref (mie), .ref (mme), .int (qz (fi)), .int (qI (ro)), .int (qI (sp)), .int (qI (it)), .int (qz (bl)), .ref (mrd), .ref (mas), .long (hh)]))], [(mz, aI cy 115 (z))], [(msv, aI cy 920 (sd))], [(mtx, aI cy 60 (bf))], [(mmo, aI cy 121 (g))], [(mif, aZ cy 16 (isF))], [(mmg, aI cy 16 (mg))], [(mtn, aI cy 16 (tn))], [(mie, aZ cy 4 (isE))], [(mme, aI cy 4 (mE))], [(mrd, aI cy 100 (rd))], [(mas, aI cy 115 (as9))]].flatten := hD
            refine lv_aload_n hx hb dX8_edit_70 rfl (lv_at hl 1 rfl) ?_
            refine gf_X8_44 hx hb hg hown hK (fl_blk hP 0 rfl) 0 rfl rfl dX8_edit_71 ?_
            refine q_if_le (tgt := 79) hx hb dX8_edit_74 (by decide) (by omega) (fun c_74 => ?_) (fun c_74 => ?_)
            · skip
              refine lv_aload_n hx hb dX8_edit_79 rfl (lv_at hl 1 rfl) ?_
              refine q_backv [0, 1, 2] [3, 4, 5, 6, 7, 8, 9, 10, 11] (br := [[(mtx, aI cy 60 (bf))], [(mmo, aI cy 121 (g))], [(mif, aZ cy 16 (isF))], [(mmg, aI cy 16 (mg))], [(mtn, aI cy 16 (tn))], [(mie, aZ cy 4 (isE))], [(mme, aI cy 4 (mE))], [(mrd, aI cy 100 (rd))], [(mas, aI cy 115 (as9))]]) hP hD hS hA (va_runV (As := []) (rest := []) ⟨hx, hb, hml, hown, hg⟩ (c_X8_save l D cy mo mz msv mtx mmo mif mmg mtn mie mme mrd mas (0) (((len : Nat) : Int)) (tu) (fi) (ro) (sp) (it) (bl) (hh) hz (z) (sd) hhz _) (cv_X8_104 hg rfl rfl ⟨by decide, by decide⟩) ⟨q_blind, va_recv hK (fl_blk hP 0 rfl) (ci := 8) (q0 := 0) rfl rfl, q_preM _ hK hN hP hD [0, 1, 2] (by decide) rfl⟩ rfl rfl hl.1 rfl (lv_room (Nat.le_of_ble_eq_true rfl)) dX8_edit_80 ⟨by decide, by decide⟩) rfl rfl (by decide) (fun u_80 H locs h_80 hP hD hS => ?_)
              have hP : va_P D vwCl [[(mtx, aI cy 60 (bf))], [(mmo, aI cy 121 (g))], [(mif, aZ cy 16 (isF))], [(mmg, aI cy 16 (mg))], [(mtn, aI cy 16 (tn))], [(mie, aZ cy 4 (isE))], [(mme, aI cy 4 (mE))], [(mrd, aI cy 100 (rd))], [(mas, aI cy 115 (as9))], [(mo, .inr (8, [.int (qI (0)), .ref (mz), .int (qI (((min (hz + 1) 8 : Nat) : Int))), .ref (msv), .int (qI (((len : Nat) : Int))), .ref (mtx), .ref (mmo), .int (qI (tu)), .ref (mif), .ref (mmg), .ref (mtn), .ref (mie), .ref (mme), .int (qz (fi)), .int (qI (ro)), .int (qI (sp)), .int (qI (it)), .int (qz (bl)), .ref (mrd), .ref (mas), .long (hh)]))], [(mz, aI cy 115 (z))], [(msv, aI cy 920 (u_80))]].flatten H := hP
              have hD : va_D A [[(mtx, aI cy 60 (bf))], [(mmo, aI cy 121 (g))], [(mif, aZ cy 16 (isF))], [(mmg, aI cy 16 (mg))], [(mtn, aI cy 16 (tn))], [(mie, aZ cy 4 (isE))], [(mme, aI cy 4 (mE))], [(mrd, aI cy 100 (rd))], [(mas, aI cy 115 (as9))], [(mo, .inr (8, [.int (qI (0)), .ref (mz), .int (qI (((min (hz + 1) 8 : Nat) : Int))), .ref (msv), .int (qI (((len : Nat) : Int))), .ref (mtx), .ref (mmo), .int (qI (tu)), .ref (mif), .ref (mmg), .ref (mtn), .ref (mie), .ref (mme), .int (qz (fi)), .int (qI (ro)), .int (qI (sp)), .int (qI (it)), .int (qz (bl)), .ref (mrd), .ref (mas), .long (hh)]))], [(mz, aI cy 115 (z))], [(msv, aI cy 920 (u_80))]].flatten := hD
              have hn9 : edOf (zE z) p0 ne ≠ -1 ∨ ne < 4 := by omega
              refine lv_aload_n hx hb dX8_edit_83 rfl (lv_at hl 1 rfl) ?_
              refine lv_iload_n hx hb dX8_edit_84 rfl (lv_at hl 2 rfl) ?_
              refine lv_iload_n hx hb dX8_edit_85 rfl (lv_at hl 3 rfl) ?_
              refine lv_iload_n hx hb dX8_edit_86 rfl (lv_at hl 4 rfl) ?_
              refine q_backv [9, 10, 1, 2, 3, 4, 5, 6] [0, 7, 8, 11] (br := [[(mtx, aI cy 60 (bf))], [(mrd, aI cy 100 (rd))], [(mas, aI cy 115 (as9))], [(msv, aI cy 920 (u_80))]]) hP hD hS hA (va_runV (As := [.int (qI (p0)), .int (qI (p1)), .int (qI (p2))]) (rest := []) ⟨hx, hb, hml, hown, hg⟩ (c_X8_layEdit l D cy mo mz msv mtx mmo mif mmg mtn mie mme mrd mas (0) (((min (hz + 1) 8 : Nat) : Int)) (((len : Nat) : Int)) (tu) (fi) (ro) (sp) (it) (bl) (hh) z nc ne (g) (isF) (mg) (tn) (isE) (mE) hnc hne hc he hC hE hD9 (p0) (p1) (p2) (by omega) (by omega) (by omega) hn9 (hG.eq hL) _) (cv_X8_126 hg rfl rfl ⟨by decide, by decide⟩) ⟨q_blind, va_recv hK (fl_blk hP 9 rfl) (ci := 8) (q0 := 0) rfl rfl, q_preM _ hK hN hP hD [9, 10, 1, 2, 3, 4, 5, 6] (by decide) rfl⟩ rfl rfl hl.1 rfl (lv_room (Nat.le_of_ble_eq_true rfl)) dX8_edit_87 ⟨by decide, by decide⟩) rfl rfl (by decide) (fun u_87 H locs h_87 hP hD hS => ?_)
              have hP : va_P D vwCl [[(mtx, aI cy 60 (bf))], [(mrd, aI cy 100 (rd))], [(mas, aI cy 115 (as9))], [(msv, aI cy 920 (u_80))], [(mo, .inr (8, [.int (qI (0)), .ref (mz), .int (qI (((min (hz + 1) 8 : Nat) : Int))), .ref (msv), .int (qI (((len : Nat) : Int))), .ref (mtx), .ref (mmo), .int (qI (u_87.2.2.2.1)), .ref (mif), .ref (mmg), .ref (mtn), .ref (mie), .ref (mme), .int (qz (u_87.2.2.2.2.2.2.2.2.2.1)), .int (qI (u_87.2.2.2.2.2.2.2.2.2.2)), .int (qI (sp)), .int (qI (it)), .int (qz (bl)), .ref (mrd), .ref (mas), .long (hh)]))], [(mz, aI cy 115 (u_87.1))], [(mmo, aI cy 121 (u_87.2.1))], [(mif, aZ cy 16 (u_87.2.2.2.2.1))], [(mmg, aI cy 16 (u_87.2.2.2.2.2.1))], [(mtn, aI cy 16 (u_87.2.2.2.2.2.2.1))], [(mie, aZ cy 4 (u_87.2.2.2.2.2.2.2.1))], [(mme, aI cy 4 (u_87.2.2.2.2.2.2.2.2.1))]].flatten H := hP
              have hD : va_D A [[(mtx, aI cy 60 (bf))], [(mrd, aI cy 100 (rd))], [(mas, aI cy 115 (as9))], [(msv, aI cy 920 (u_80))], [(mo, .inr (8, [.int (qI (0)), .ref (mz), .int (qI (((min (hz + 1) 8 : Nat) : Int))), .ref (msv), .int (qI (((len : Nat) : Int))), .ref (mtx), .ref (mmo), .int (qI (u_87.2.2.2.1)), .ref (mif), .ref (mmg), .ref (mtn), .ref (mie), .ref (mme), .int (qz (u_87.2.2.2.2.2.2.2.2.2.1)), .int (qI (u_87.2.2.2.2.2.2.2.2.2.2)), .int (qI (sp)), .int (qI (it)), .int (qz (bl)), .ref (mrd), .ref (mas), .long (hh)]))], [(mz, aI cy 115 (u_87.1))], [(mmo, aI cy 121 (u_87.2.1))], [(mif, aZ cy 16 (u_87.2.2.2.2.1))], [(mmg, aI cy 16 (u_87.2.2.2.2.2.1))], [(mtn, aI cy 16 (u_87.2.2.2.2.2.2.1))], [(mie, aZ cy 4 (u_87.2.2.2.2.2.2.2.1))], [(mme, aI cy 4 (u_87.2.2.2.2.2.2.2.2.1))]].flatten := hD
              have fin9 : LEq (zS u_87.1) (seT (adE T p0 p1 p2)) := LEq.tr h_87.1 (seT_eq (adE_eq hL p0 p1 p2))
              refine lv_aload_n hx hb dX8_edit_90 rfl (lv_at hl 1 rfl) ?_
              refine gf_X8_7 hx hb hg hown hK (fl_blk hP 4 rfl) 0 rfl rfl dX8_edit_91 ?_
              refine lv_iload_n hx hb dX8_edit_94 rfl (lv_at hl 2 rfl) ?_
              refine q_iald (j := k) hx hb hK (fl_blk hP 5 rfl) 0 rfl (by omega) dX8_edit_95 ?_
              have hP := fl_sub (bs' := [[(mo, .inr (8, [.int (qI (0)), .ref (mz), .int (qI (((min (hz + 1) 8 : Nat) : Int))), .ref (msv), .int (qI (((len : Nat) : Int))), .ref (mtx), .ref (mmo), .int (qI (u_87.2.2.2.1)), .ref (mif), .ref (mmg), .ref (mtn), .ref (mie), .ref (mme), .int (qz (u_87.2.2.2.2.2.2.2.2.2.1)), .int (qI (u_87.2.2.2.2.2.2.2.2.2.2)), .int (qI (sp)), .int (qI (it)), .int (qz (bl)), .ref (mrd), .ref (mas), .long (hh)]))], [(mz, aI cy 115 (u_87.1))], [(msv, aI cy 920 (u_80))], [(mtx, aI cy 60 (bf))], [(mmo, aI cy 121 (u_87.2.1))], [(mif, aZ cy 16 (u_87.2.2.2.2.1))], [(mmg, aI cy 16 (u_87.2.2.2.2.2.1))], [(mtn, aI cy 16 (u_87.2.2.2.2.2.2.1))], [(mie, aZ cy 4 (u_87.2.2.2.2.2.2.2.1))], [(mme, aI cy 4 (u_87.2.2.2.2.2.2.2.2.1))], [(mrd, aI cy 100 (rd))], [(mas, aI cy 115 (as9))]]) hP [4, 5, 3, 0, 6, 7, 8, 9, 10, 11, 1, 2] rfl
              have hD := fl_subD (bs' := [[(mo, .inr (8, [.int (qI (0)), .ref (mz), .int (qI (((min (hz + 1) 8 : Nat) : Int))), .ref (msv), .int (qI (((len : Nat) : Int))), .ref (mtx), .ref (mmo), .int (qI (u_87.2.2.2.1)), .ref (mif), .ref (mmg), .ref (mtn), .ref (mie), .ref (mme), .int (qz (u_87.2.2.2.2.2.2.2.2.2.1)), .int (qI (u_87.2.2.2.2.2.2.2.2.2.2)), .int (qI (sp)), .int (qI (it)), .int (qz (bl)), .ref (mrd), .ref (mas), .long (hh)]))], [(mz, aI cy 115 (u_87.1))], [(msv, aI cy 920 (u_80))], [(mtx, aI cy 60 (bf))], [(mmo, aI cy 121 (u_87.2.1))], [(mif, aZ cy 16 (u_87.2.2.2.2.1))], [(mmg, aI cy 16 (u_87.2.2.2.2.2.1))], [(mtn, aI cy 16 (u_87.2.2.2.2.2.2.1))], [(mie, aZ cy 4 (u_87.2.2.2.2.2.2.2.1))], [(mme, aI cy 4 (u_87.2.2.2.2.2.2.2.2.1))], [(mrd, aI cy 100 (rd))], [(mas, aI cy 115 (as9))]]) hD [4, 5, 3, 0, 6, 7, 8, 9, 10, 11, 1, 2] (by decide) rfl
              have hP : va_P D vwCl [(mdB cy mo mz msv mtx mmo mif mmg mtn mie mme mrd mas (0) ((min (hz + 1) 8)) (len) (u_87.2.2.2.1) (u_87.2.2.2.2.2.2.2.2.2.1) (u_87.2.2.2.2.2.2.2.2.2.2) (sp) (it) (bl) (hh) (u_87.1) (u_80) (bf) (u_87.2.1) (u_87.2.2.2.2.1) (u_87.2.2.2.2.2.1) (u_87.2.2.2.2.2.2.1) (u_87.2.2.2.2.2.2.2.1) (u_87.2.2.2.2.2.2.2.2.1) (rd) (as9)).flatten].flatten H := by rw [fl_open]; exact hP
              have hD : va_D A [(mdB cy mo mz msv mtx mmo mif mmg mtn mie mme mrd mas (0) ((min (hz + 1) 8)) (len) (u_87.2.2.2.1) (u_87.2.2.2.2.2.2.2.2.2.1) (u_87.2.2.2.2.2.2.2.2.2.2) (sp) (it) (bl) (hh) (u_87.1) (u_80) (bf) (u_87.2.1) (u_87.2.2.2.2.1) (u_87.2.2.2.2.2.1) (u_87.2.2.2.2.2.2.1) (u_87.2.2.2.2.2.2.2.1) (u_87.2.2.2.2.2.2.2.2.1) (rd) (as9)).flatten].flatten := by rw [fl_open]; exact hD
              exact hQ _ _ _ _ _ ((mdB cy mo mz msv mtx mmo mif mmg mtn mie mme mrd mas (0) ((min (hz + 1) 8)) (len) (u_87.2.2.2.1) (u_87.2.2.2.2.2.2.2.2.2.1) (u_87.2.2.2.2.2.2.2.2.2.2) (sp) (it) (bl) (hh) (u_87.1) (u_80) (bf) (u_87.2.1) (u_87.2.2.2.2.1) (u_87.2.2.2.2.2.1) (u_87.2.2.2.2.2.2.1) (u_87.2.2.2.2.2.2.2.1) (u_87.2.2.2.2.2.2.2.2.1) (rd) (as9)).flatten) ⟨by rw [← fin9.1 k (by omega)]; rfl, ⟨(u_87.2.2.2.1), (u_87.2.2.2.2.2.2.2.2.2.1), (u_87.2.2.2.2.2.2.2.2.2.2), (sp), (it), (bl), (hh), (u_87.1), (u_80), (bf), (u_87.2.1), (u_87.2.2.2.2.1), (u_87.2.2.2.2.2.1), (u_87.2.2.2.2.2.2.1), (u_87.2.2.2.2.2.2.2.1), (u_87.2.2.2.2.2.2.2.2.1), (rd), (as9), rfl, ⟨fin9, h_87.2⟩, ⟨by omega, mh_push hhz h_80 ⟨hL, hz20, hz101, by omega, by omega⟩ hHZ⟩, hln, hbf, htx⟩⟩ hP hD hS dX8_edit_96
            · skip
              exact absurd c_74 (by decide)
          · skip
            refine lv_aload_n hx hb dX8_edit_51 rfl (lv_at hl 1 rfl) ?_
            refine gf_X8_7 hx hb hg hown hK (fl_blk hP 0 rfl) 0 rfl rfl dX8_edit_52 ?_
            refine q_bipush hx hb dX8_edit_55 (by decide) ?_
            refine q_iald (j := 101) hx hb hK (fl_blk hP 1 rfl) 0 rfl (by omega) dX8_edit_57 ?_
            refine q_iconst hx hb dX8_edit_58 ?_
            refine q_icmp_ne (tgt := 66) hx hb dX8_edit_59 (by decide) (by omega) (fun c_59 => ?_) (fun c_59 => ?_)
            · skip
              refine q_iconst hx hb dX8_edit_66 ?_
              refine pf_X8_44 hx hb hg hown hK hP hD hS 0 0 rfl rfl rfl rfl (Nat.le_of_ble_eq_true rfl) dX8_edit_67 (fun H locs hP hD hS => ?_)
              have hP : va_P D vwCl [[(mo, .inr (8, [.int (qI (0)), .ref (mz), .int (qI (((hz : Nat) : Int))), .ref (msv), .int (qI (((len : Nat) : Int))), .ref (mtx), .ref (mmo), .int (qI (tu)), .ref (mif), .ref (mmg), .ref (mtn), .ref (mie), .ref (mme), .int (qz (fi)), .int (qI (ro)), .int (qI (sp)), .int (qI (it)), .int (qz (bl)), .ref (mrd), .ref (mas), .long (hh)]))], [(mz, aI cy 115 (z))], [(msv, aI cy 920 (sd))], [(mtx, aI cy 60 (bf))], [(mmo, aI cy 121 (g))], [(mif, aZ cy 16 (isF))], [(mmg, aI cy 16 (mg))], [(mtn, aI cy 16 (tn))], [(mie, aZ cy 4 (isE))], [(mme, aI cy 4 (mE))], [(mrd, aI cy 100 (rd))], [(mas, aI cy 115 (as9))]].flatten H := hP
              have hD : va_D A [[(mo, .inr (8, [.int (qI (0)), .ref (mz), .int (qI (((hz : Nat) : Int))), .ref (msv), .int (qI (((len : Nat) : Int))), .ref (mtx), .ref (mmo), .int (qI (tu)), .ref (mif), .ref (mmg), .ref (mtn), .ref (mie), .ref (mme), .int (qz (fi)), .int (qI (ro)), .int (qI (sp)), .int (qI (it)), .int (qz (bl)), .ref (mrd), .ref (mas), .long (hh)]))], [(mz, aI cy 115 (z))], [(msv, aI cy 920 (sd))], [(mtx, aI cy 60 (bf))], [(mmo, aI cy 121 (g))], [(mif, aZ cy 16 (isF))], [(mmg, aI cy 16 (mg))], [(mtn, aI cy 16 (tn))], [(mie, aZ cy 4 (isE))], [(mme, aI cy 4 (mE))], [(mrd, aI cy 100 (rd))], [(mas, aI cy 115 (as9))]].flatten := hD
              refine lv_aload_n hx hb dX8_edit_70 rfl (lv_at hl 1 rfl) ?_
              refine gf_X8_44 hx hb hg hown hK (fl_blk hP 0 rfl) 0 rfl rfl dX8_edit_71 ?_
              refine q_if_le (tgt := 79) hx hb dX8_edit_74 (by decide) (by omega) (fun c_74 => ?_) (fun c_74 => ?_)
              · skip
                refine lv_aload_n hx hb dX8_edit_79 rfl (lv_at hl 1 rfl) ?_
                refine q_backv [0, 1, 2] [3, 4, 5, 6, 7, 8, 9, 10, 11] (br := [[(mtx, aI cy 60 (bf))], [(mmo, aI cy 121 (g))], [(mif, aZ cy 16 (isF))], [(mmg, aI cy 16 (mg))], [(mtn, aI cy 16 (tn))], [(mie, aZ cy 4 (isE))], [(mme, aI cy 4 (mE))], [(mrd, aI cy 100 (rd))], [(mas, aI cy 115 (as9))]]) hP hD hS hA (va_runV (As := []) (rest := []) ⟨hx, hb, hml, hown, hg⟩ (c_X8_save l D cy mo mz msv mtx mmo mif mmg mtn mie mme mrd mas (0) (((len : Nat) : Int)) (tu) (fi) (ro) (sp) (it) (bl) (hh) hz (z) (sd) hhz _) (cv_X8_104 hg rfl rfl ⟨by decide, by decide⟩) ⟨q_blind, va_recv hK (fl_blk hP 0 rfl) (ci := 8) (q0 := 0) rfl rfl, q_preM _ hK hN hP hD [0, 1, 2] (by decide) rfl⟩ rfl rfl hl.1 rfl (lv_room (Nat.le_of_ble_eq_true rfl)) dX8_edit_80 ⟨by decide, by decide⟩) rfl rfl (by decide) (fun u_80 H locs h_80 hP hD hS => ?_)
                have hP : va_P D vwCl [[(mtx, aI cy 60 (bf))], [(mmo, aI cy 121 (g))], [(mif, aZ cy 16 (isF))], [(mmg, aI cy 16 (mg))], [(mtn, aI cy 16 (tn))], [(mie, aZ cy 4 (isE))], [(mme, aI cy 4 (mE))], [(mrd, aI cy 100 (rd))], [(mas, aI cy 115 (as9))], [(mo, .inr (8, [.int (qI (0)), .ref (mz), .int (qI (((min (hz + 1) 8 : Nat) : Int))), .ref (msv), .int (qI (((len : Nat) : Int))), .ref (mtx), .ref (mmo), .int (qI (tu)), .ref (mif), .ref (mmg), .ref (mtn), .ref (mie), .ref (mme), .int (qz (fi)), .int (qI (ro)), .int (qI (sp)), .int (qI (it)), .int (qz (bl)), .ref (mrd), .ref (mas), .long (hh)]))], [(mz, aI cy 115 (z))], [(msv, aI cy 920 (u_80))]].flatten H := hP
                have hD : va_D A [[(mtx, aI cy 60 (bf))], [(mmo, aI cy 121 (g))], [(mif, aZ cy 16 (isF))], [(mmg, aI cy 16 (mg))], [(mtn, aI cy 16 (tn))], [(mie, aZ cy 4 (isE))], [(mme, aI cy 4 (mE))], [(mrd, aI cy 100 (rd))], [(mas, aI cy 115 (as9))], [(mo, .inr (8, [.int (qI (0)), .ref (mz), .int (qI (((min (hz + 1) 8 : Nat) : Int))), .ref (msv), .int (qI (((len : Nat) : Int))), .ref (mtx), .ref (mmo), .int (qI (tu)), .ref (mif), .ref (mmg), .ref (mtn), .ref (mie), .ref (mme), .int (qz (fi)), .int (qI (ro)), .int (qI (sp)), .int (qI (it)), .int (qz (bl)), .ref (mrd), .ref (mas), .long (hh)]))], [(mz, aI cy 115 (z))], [(msv, aI cy 920 (u_80))]].flatten := hD
                have hn9 : edOf (zE z) p0 ne ≠ -1 ∨ ne < 4 := by omega
                refine lv_aload_n hx hb dX8_edit_83 rfl (lv_at hl 1 rfl) ?_
                refine lv_iload_n hx hb dX8_edit_84 rfl (lv_at hl 2 rfl) ?_
                refine lv_iload_n hx hb dX8_edit_85 rfl (lv_at hl 3 rfl) ?_
                refine lv_iload_n hx hb dX8_edit_86 rfl (lv_at hl 4 rfl) ?_
                refine q_backv [9, 10, 1, 2, 3, 4, 5, 6] [0, 7, 8, 11] (br := [[(mtx, aI cy 60 (bf))], [(mrd, aI cy 100 (rd))], [(mas, aI cy 115 (as9))], [(msv, aI cy 920 (u_80))]]) hP hD hS hA (va_runV (As := [.int (qI (p0)), .int (qI (p1)), .int (qI (p2))]) (rest := []) ⟨hx, hb, hml, hown, hg⟩ (c_X8_layEdit l D cy mo mz msv mtx mmo mif mmg mtn mie mme mrd mas (0) (((min (hz + 1) 8 : Nat) : Int)) (((len : Nat) : Int)) (tu) (fi) (ro) (sp) (it) (bl) (hh) z nc ne (g) (isF) (mg) (tn) (isE) (mE) hnc hne hc he hC hE hD9 (p0) (p1) (p2) (by omega) (by omega) (by omega) hn9 (hG.eq hL) _) (cv_X8_126 hg rfl rfl ⟨by decide, by decide⟩) ⟨q_blind, va_recv hK (fl_blk hP 9 rfl) (ci := 8) (q0 := 0) rfl rfl, q_preM _ hK hN hP hD [9, 10, 1, 2, 3, 4, 5, 6] (by decide) rfl⟩ rfl rfl hl.1 rfl (lv_room (Nat.le_of_ble_eq_true rfl)) dX8_edit_87 ⟨by decide, by decide⟩) rfl rfl (by decide) (fun u_87 H locs h_87 hP hD hS => ?_)
                have hP : va_P D vwCl [[(mtx, aI cy 60 (bf))], [(mrd, aI cy 100 (rd))], [(mas, aI cy 115 (as9))], [(msv, aI cy 920 (u_80))], [(mo, .inr (8, [.int (qI (0)), .ref (mz), .int (qI (((min (hz + 1) 8 : Nat) : Int))), .ref (msv), .int (qI (((len : Nat) : Int))), .ref (mtx), .ref (mmo), .int (qI (u_87.2.2.2.1)), .ref (mif), .ref (mmg), .ref (mtn), .ref (mie), .ref (mme), .int (qz (u_87.2.2.2.2.2.2.2.2.2.1)), .int (qI (u_87.2.2.2.2.2.2.2.2.2.2)), .int (qI (sp)), .int (qI (it)), .int (qz (bl)), .ref (mrd), .ref (mas), .long (hh)]))], [(mz, aI cy 115 (u_87.1))], [(mmo, aI cy 121 (u_87.2.1))], [(mif, aZ cy 16 (u_87.2.2.2.2.1))], [(mmg, aI cy 16 (u_87.2.2.2.2.2.1))], [(mtn, aI cy 16 (u_87.2.2.2.2.2.2.1))], [(mie, aZ cy 4 (u_87.2.2.2.2.2.2.2.1))], [(mme, aI cy 4 (u_87.2.2.2.2.2.2.2.2.1))]].flatten H := hP
                have hD : va_D A [[(mtx, aI cy 60 (bf))], [(mrd, aI cy 100 (rd))], [(mas, aI cy 115 (as9))], [(msv, aI cy 920 (u_80))], [(mo, .inr (8, [.int (qI (0)), .ref (mz), .int (qI (((min (hz + 1) 8 : Nat) : Int))), .ref (msv), .int (qI (((len : Nat) : Int))), .ref (mtx), .ref (mmo), .int (qI (u_87.2.2.2.1)), .ref (mif), .ref (mmg), .ref (mtn), .ref (mie), .ref (mme), .int (qz (u_87.2.2.2.2.2.2.2.2.2.1)), .int (qI (u_87.2.2.2.2.2.2.2.2.2.2)), .int (qI (sp)), .int (qI (it)), .int (qz (bl)), .ref (mrd), .ref (mas), .long (hh)]))], [(mz, aI cy 115 (u_87.1))], [(mmo, aI cy 121 (u_87.2.1))], [(mif, aZ cy 16 (u_87.2.2.2.2.1))], [(mmg, aI cy 16 (u_87.2.2.2.2.2.1))], [(mtn, aI cy 16 (u_87.2.2.2.2.2.2.1))], [(mie, aZ cy 4 (u_87.2.2.2.2.2.2.2.1))], [(mme, aI cy 4 (u_87.2.2.2.2.2.2.2.2.1))]].flatten := hD
                have fin9 : LEq (zS u_87.1) (seT (adE T p0 p1 p2)) := LEq.tr h_87.1 (seT_eq (adE_eq hL p0 p1 p2))
                refine lv_aload_n hx hb dX8_edit_90 rfl (lv_at hl 1 rfl) ?_
                refine gf_X8_7 hx hb hg hown hK (fl_blk hP 4 rfl) 0 rfl rfl dX8_edit_91 ?_
                refine lv_iload_n hx hb dX8_edit_94 rfl (lv_at hl 2 rfl) ?_
                refine q_iald (j := k) hx hb hK (fl_blk hP 5 rfl) 0 rfl (by omega) dX8_edit_95 ?_
                have hP := fl_sub (bs' := [[(mo, .inr (8, [.int (qI (0)), .ref (mz), .int (qI (((min (hz + 1) 8 : Nat) : Int))), .ref (msv), .int (qI (((len : Nat) : Int))), .ref (mtx), .ref (mmo), .int (qI (u_87.2.2.2.1)), .ref (mif), .ref (mmg), .ref (mtn), .ref (mie), .ref (mme), .int (qz (u_87.2.2.2.2.2.2.2.2.2.1)), .int (qI (u_87.2.2.2.2.2.2.2.2.2.2)), .int (qI (sp)), .int (qI (it)), .int (qz (bl)), .ref (mrd), .ref (mas), .long (hh)]))], [(mz, aI cy 115 (u_87.1))], [(msv, aI cy 920 (u_80))], [(mtx, aI cy 60 (bf))], [(mmo, aI cy 121 (u_87.2.1))], [(mif, aZ cy 16 (u_87.2.2.2.2.1))], [(mmg, aI cy 16 (u_87.2.2.2.2.2.1))], [(mtn, aI cy 16 (u_87.2.2.2.2.2.2.1))], [(mie, aZ cy 4 (u_87.2.2.2.2.2.2.2.1))], [(mme, aI cy 4 (u_87.2.2.2.2.2.2.2.2.1))], [(mrd, aI cy 100 (rd))], [(mas, aI cy 115 (as9))]]) hP [4, 5, 3, 0, 6, 7, 8, 9, 10, 11, 1, 2] rfl
                have hD := fl_subD (bs' := [[(mo, .inr (8, [.int (qI (0)), .ref (mz), .int (qI (((min (hz + 1) 8 : Nat) : Int))), .ref (msv), .int (qI (((len : Nat) : Int))), .ref (mtx), .ref (mmo), .int (qI (u_87.2.2.2.1)), .ref (mif), .ref (mmg), .ref (mtn), .ref (mie), .ref (mme), .int (qz (u_87.2.2.2.2.2.2.2.2.2.1)), .int (qI (u_87.2.2.2.2.2.2.2.2.2.2)), .int (qI (sp)), .int (qI (it)), .int (qz (bl)), .ref (mrd), .ref (mas), .long (hh)]))], [(mz, aI cy 115 (u_87.1))], [(msv, aI cy 920 (u_80))], [(mtx, aI cy 60 (bf))], [(mmo, aI cy 121 (u_87.2.1))], [(mif, aZ cy 16 (u_87.2.2.2.2.1))], [(mmg, aI cy 16 (u_87.2.2.2.2.2.1))], [(mtn, aI cy 16 (u_87.2.2.2.2.2.2.1))], [(mie, aZ cy 4 (u_87.2.2.2.2.2.2.2.1))], [(mme, aI cy 4 (u_87.2.2.2.2.2.2.2.2.1))], [(mrd, aI cy 100 (rd))], [(mas, aI cy 115 (as9))]]) hD [4, 5, 3, 0, 6, 7, 8, 9, 10, 11, 1, 2] (by decide) rfl
                have hP : va_P D vwCl [(mdB cy mo mz msv mtx mmo mif mmg mtn mie mme mrd mas (0) ((min (hz + 1) 8)) (len) (u_87.2.2.2.1) (u_87.2.2.2.2.2.2.2.2.2.1) (u_87.2.2.2.2.2.2.2.2.2.2) (sp) (it) (bl) (hh) (u_87.1) (u_80) (bf) (u_87.2.1) (u_87.2.2.2.2.1) (u_87.2.2.2.2.2.1) (u_87.2.2.2.2.2.2.1) (u_87.2.2.2.2.2.2.2.1) (u_87.2.2.2.2.2.2.2.2.1) (rd) (as9)).flatten].flatten H := by rw [fl_open]; exact hP
                have hD : va_D A [(mdB cy mo mz msv mtx mmo mif mmg mtn mie mme mrd mas (0) ((min (hz + 1) 8)) (len) (u_87.2.2.2.1) (u_87.2.2.2.2.2.2.2.2.2.1) (u_87.2.2.2.2.2.2.2.2.2.2) (sp) (it) (bl) (hh) (u_87.1) (u_80) (bf) (u_87.2.1) (u_87.2.2.2.2.1) (u_87.2.2.2.2.2.1) (u_87.2.2.2.2.2.2.1) (u_87.2.2.2.2.2.2.2.1) (u_87.2.2.2.2.2.2.2.2.1) (rd) (as9)).flatten].flatten := by rw [fl_open]; exact hD
                exact hQ _ _ _ _ _ ((mdB cy mo mz msv mtx mmo mif mmg mtn mie mme mrd mas (0) ((min (hz + 1) 8)) (len) (u_87.2.2.2.1) (u_87.2.2.2.2.2.2.2.2.2.1) (u_87.2.2.2.2.2.2.2.2.2.2) (sp) (it) (bl) (hh) (u_87.1) (u_80) (bf) (u_87.2.1) (u_87.2.2.2.2.1) (u_87.2.2.2.2.2.1) (u_87.2.2.2.2.2.2.1) (u_87.2.2.2.2.2.2.2.1) (u_87.2.2.2.2.2.2.2.2.1) (rd) (as9)).flatten) ⟨by rw [← fin9.1 k (by omega)]; rfl, ⟨(u_87.2.2.2.1), (u_87.2.2.2.2.2.2.2.2.2.1), (u_87.2.2.2.2.2.2.2.2.2.2), (sp), (it), (bl), (hh), (u_87.1), (u_80), (bf), (u_87.2.1), (u_87.2.2.2.2.1), (u_87.2.2.2.2.2.1), (u_87.2.2.2.2.2.2.1), (u_87.2.2.2.2.2.2.2.1), (u_87.2.2.2.2.2.2.2.2.1), (rd), (as9), rfl, ⟨fin9, h_87.2⟩, ⟨by omega, mh_push hhz h_80 ⟨hL, hz20, hz101, by omega, by omega⟩ hHZ⟩, hln, hbf, htx⟩⟩ hP hD hS dX8_edit_96
              · skip
                exact absurd c_74 (by decide)
            · skip
              exfalso; omega
        · skip
          exact absurd c_35 (by decide)
      · skip
        have g_26 := mt (h_23).mpr (by rw [c_26]; decide)
        exfalso; omega

set_option maxRecDepth 100000 in
set_option maxHeartbeats 4000000 in
theorem c_X8_edit_no1 (l : Launch) (D : va_G) (cy : Nat → ClassId) (mo mz msv mtx mmo mif mmg mtn mie mme mrd mas : Nat) (T : LSt) (hz : Nat) (HZ : Nat → LSt) (len : Nat) (tx : Nat → Int) (th : Int) (W : va_W) (hG : gOk T) (hW : MW cy mo mz msv mtx mmo mif mmg mtn mie mme mrd mas T hz HZ len tx th W) (p0 p1 p2 : Int) (r0 : (-2147483648 ≤ p0 ∧ p0 < 2147483648)) (r1 : (-2147483648 ≤ p1 ∧ p1 < 2147483648)) (r2 : (-2147483648 ≤ p2 ∧ p2 < 2147483648)) (hx : ¬ (0 ≤ p0 ∧ p0 ≤ 9)) (sz : Nat) : qMet l yX8_edit (.code yX8_edit cX8_edit 5 (some .int)) 8 [.ref (mo), .int (qI (p0)), .int (qI (p1)), .int (qI (p2))] D cy [W] sz (va_Qi (S := va_W) (fun r u => MW cy mo mz msv mtx mmo mif mmg mtn mie mme mrd mas T hz HZ len tx 1 u) (qB D cy [W] sz (fun u => [u])) (va_A [W].flatten sz)) := by
  refine q_ofMi (S := va_W) (b1 := fun u => [u]) (post := fun r u => MW cy mo mz msv mtx mmo mif mmg mtn mie mme mrd mas T hz HZ len tx 1 u) (by decide +kernel) (Nat.le_of_ble_eq_true rfl) ?_
  intro p e s m args below meth c Q A hx hb hml hown hg hQ hK hN hD hA H locs ls hP hS hl
  have hown : s.vm.findClass RX8 = some m.cls := hown
  have hl : lv_has ls 5 [(0, .ref (mo)), (1, .int (qI (p0))), (2, .int (qI (p1))), (3, .int (qI (p2)))] := hl
  have hW0 := hW
  obtain ⟨tu, fi, ro, sp, it, bl, hh, z, sd, bf, g, isF, mg, tn, isE, mE, rd, as9, rfl, ⟨hL, hz20, hz101⟩, ⟨hhz, hHZ⟩, hln, hbf, htx⟩ := hW
  obtain ⟨gV, gT, gC, gE, gI, gD⟩ := hG.eq hL
  obtain ⟨nc, hnc⟩ : ∃ nc : Nat, z 20 = (nc : Int) := ⟨(z 20).toNat, by omega⟩
  obtain ⟨ne, hne⟩ : ∃ ne : Nat, z 101 = (ne : Int) := ⟨(z 101).toNat, by omega⟩
  have e20 : (z 20).toNat = nc := by omega
  have e101 : (z 101).toNat = ne := by omega
  have hV : qV z := gV
  have hst : ∀ i, i < 10 → 0 ≤ z (10 + i) ∧ z (10 + i) ≤ 9 := gT
  have hc : nc ≤ 16 := e20 ▸ (gC.1 : (z 20).toNat ≤ 16)
  have hC : qWR (zC z) nc := e20 ▸ (gC.2 : qWR (zC z) (z 20).toNat)
  have he : ne ≤ 4 := e101 ▸ (gE.1 : (z 101).toNat ≤ 4)
  have hE : qWR (zE z) ne := e101 ▸ (gE.2 : qWR (zE z) (z 101).toNat)
  have hD9 : ∀ i j, i < ne → j < ne → zE z 0 i = zE z 0 j → i = j := e101 ▸ (gD : ∀ i j, i < (z 101).toNat → j < (z 101).toNat → zE z 0 i = zE z 0 j → i = j)
  have hL2 : LEq (z, (fun i => z (10 + i)), zC z, nc, zE z, ne) T := by rw [← e20, ← e101]; exact hL
  have en : nc = lN9 T := hL2.2.2.1
  have em : ne = lM T := hL2.2.2.2.2.1
  rw [fl_open] at hP hD
  have hP : va_P D vwCl [[(mo, .inr (8, [.int (qI (th)), .ref (mz), .int (qI (((hz : Nat) : Int))), .ref (msv), .int (qI (((len : Nat) : Int))), .ref (mtx), .ref (mmo), .int (qI (tu)), .ref (mif), .ref (mmg), .ref (mtn), .ref (mie), .ref (mme), .int (qz (fi)), .int (qI (ro)), .int (qI (sp)), .int (qI (it)), .int (qz (bl)), .ref (mrd), .ref (mas), .long (hh)]))], [(mz, aI cy 115 (z))], [(msv, aI cy 920 (sd))], [(mtx, aI cy 60 (bf))], [(mmo, aI cy 121 (g))], [(mif, aZ cy 16 (isF))], [(mmg, aI cy 16 (mg))], [(mtn, aI cy 16 (tn))], [(mie, aZ cy 4 (isE))], [(mme, aI cy 4 (mE))], [(mrd, aI cy 100 (rd))], [(mas, aI cy 115 (as9))]].flatten H := hP
  have hD : va_D A [[(mo, .inr (8, [.int (qI (th)), .ref (mz), .int (qI (((hz : Nat) : Int))), .ref (msv), .int (qI (((len : Nat) : Int))), .ref (mtx), .ref (mmo), .int (qI (tu)), .ref (mif), .ref (mmg), .ref (mtn), .ref (mie), .ref (mme), .int (qz (fi)), .int (qI (ro)), .int (qI (sp)), .int (qI (it)), .int (qz (bl)), .ref (mrd), .ref (mas), .long (hh)]))], [(mz, aI cy 115 (z))], [(msv, aI cy 920 (sd))], [(mtx, aI cy 60 (bf))], [(mmo, aI cy 121 (g))], [(mif, aZ cy 16 (isF))], [(mmg, aI cy 16 (mg))], [(mtn, aI cy 16 (tn))], [(mie, aZ cy 4 (isE))], [(mme, aI cy 4 (mE))], [(mrd, aI cy 100 (rd))], [(mas, aI cy 115 (as9))]].flatten := hD
  refine lv_iload_n hx hb dX8_edit_0 rfl (lv_at hl 2 rfl) ?_
  refine q_readz (va_runS (As := [.int (qI (p1))]) (rest := []) ⟨hx, hb, hml, hown, hg⟩ (c_X8_isWish l D cy _ (by omega)) (cs_X8_123 hg rfl rfl ⟨by decide, by decide⟩) ⟨q_blind0, q_preR _ hK hN hP [] rfl⟩ rfl rfl hl.1 rfl (lv_room (Nat.le_of_ble_eq_true rfl)) dX8_edit_1 ⟨by decide, by decide⟩) (fun b_1 h_1 => ?_)
  refine q_ifz_eq (tgt := 18) hx hb dX8_edit_4 (by decide) (fun c_4 => ?_) (fun c_4 => ?_)
  · skip
    have g_4 := mt (h_1).mpr (by rw [c_4]; decide)
    refine q_iconst hx hb dX8_edit_18 ?_
    refine lv_istore (lv' := [(4, .int (qI (0))), (0, .ref (mo)), (1, .int (qI (p0))), (2, .int (qI (p1))), (3, .int (qI (p2)))]) hx hb dX8_edit_19 hl (by decide) rfl (fun ls hl => ?_)
    refine lv_aload_n hx hb dX8_edit_21 rfl (lv_at hl 1 rfl) ?_
    refine lv_iload_n hx hb dX8_edit_22 rfl (lv_at hl 2 rfl) ?_
    refine q_readz (va_runS (As := [.int (qI (p0))]) (rest := [.ref (mo)]) ⟨hx, hb, hml, hown, hg⟩ (c_X8_isPlace l D cy _ (by omega)) (cs_X8_94 hg rfl rfl ⟨by decide, by decide⟩) ⟨q_blind0, q_preR _ hK hN hP [] rfl⟩ rfl rfl hl.1 rfl (lv_room (Nat.le_of_ble_eq_true rfl)) dX8_edit_23 ⟨by decide, by decide⟩) (fun b_23 h_23 => ?_)
    refine q_ifz_ne (tgt := 33) hx hb dX8_edit_26 (by decide) (fun c_26 => ?_) (fun c_26 => ?_)
    · skip
      have g_26 := (h_23).mp c_26
      exfalso; omega
    · skip
      have g_26 := mt (h_23).mpr (by rw [c_26]; decide)
      refine q_iconst hx hb dX8_edit_29 ?_
      refine lv_goto (tgt := 67) hx hb dX8_edit_30 (by decide) ?_
      refine pf_X8_44 hx hb hg hown hK hP hD hS 0 0 rfl rfl rfl rfl (Nat.le_of_ble_eq_true rfl) dX8_edit_67 (fun H locs hP hD hS => ?_)
      have hP : va_P D vwCl [[(mo, .inr (8, [.int (qI (1)), .ref (mz), .int (qI (((hz : Nat) : Int))), .ref (msv), .int (qI (((len : Nat) : Int))), .ref (mtx), .ref (mmo), .int (qI (tu)), .ref (mif), .ref (mmg), .ref (mtn), .ref (mie), .ref (mme), .int (qz (fi)), .int (qI (ro)), .int (qI (sp)), .int (qI (it)), .int (qz (bl)), .ref (mrd), .ref (mas), .long (hh)]))], [(mz, aI cy 115 (z))], [(msv, aI cy 920 (sd))], [(mtx, aI cy 60 (bf))], [(mmo, aI cy 121 (g))], [(mif, aZ cy 16 (isF))], [(mmg, aI cy 16 (mg))], [(mtn, aI cy 16 (tn))], [(mie, aZ cy 4 (isE))], [(mme, aI cy 4 (mE))], [(mrd, aI cy 100 (rd))], [(mas, aI cy 115 (as9))]].flatten H := hP
      have hD : va_D A [[(mo, .inr (8, [.int (qI (1)), .ref (mz), .int (qI (((hz : Nat) : Int))), .ref (msv), .int (qI (((len : Nat) : Int))), .ref (mtx), .ref (mmo), .int (qI (tu)), .ref (mif), .ref (mmg), .ref (mtn), .ref (mie), .ref (mme), .int (qz (fi)), .int (qI (ro)), .int (qI (sp)), .int (qI (it)), .int (qz (bl)), .ref (mrd), .ref (mas), .long (hh)]))], [(mz, aI cy 115 (z))], [(msv, aI cy 920 (sd))], [(mtx, aI cy 60 (bf))], [(mmo, aI cy 121 (g))], [(mif, aZ cy 16 (isF))], [(mmg, aI cy 16 (mg))], [(mtn, aI cy 16 (tn))], [(mie, aZ cy 4 (isE))], [(mme, aI cy 4 (mE))], [(mrd, aI cy 100 (rd))], [(mas, aI cy 115 (as9))]].flatten := hD
      refine lv_aload_n hx hb dX8_edit_70 rfl (lv_at hl 1 rfl) ?_
      refine gf_X8_44 hx hb hg hown hK (fl_blk hP 0 rfl) 0 rfl rfl dX8_edit_71 ?_
      refine q_if_le (tgt := 79) hx hb dX8_edit_74 (by decide) (by omega) (fun c_74 => ?_) (fun c_74 => ?_)
      · skip
        exact absurd c_74 (by decide)
      · skip
        refine q_iconst hx hb dX8_edit_77 ?_
        have hP : va_P D vwCl [(mdB cy mo mz msv mtx mmo mif mmg mtn mie mme mrd mas (1) (hz) (len) (tu) (fi) (ro) (sp) (it) (bl) (hh) (z) (sd) (bf) (g) (isF) (mg) (tn) (isE) (mE) (rd) (as9)).flatten].flatten H := by rw [fl_open]; exact hP
        have hD : va_D A [(mdB cy mo mz msv mtx mmo mif mmg mtn mie mme mrd mas (1) (hz) (len) (tu) (fi) (ro) (sp) (it) (bl) (hh) (z) (sd) (bf) (g) (isF) (mg) (tn) (isE) (mE) (rd) (as9)).flatten].flatten := by rw [fl_open]; exact hD
        exact hQ _ _ _ _ _ ((mdB cy mo mz msv mtx mmo mif mmg mtn mie mme mrd mas (1) (hz) (len) (tu) (fi) (ro) (sp) (it) (bl) (hh) (z) (sd) (bf) (g) (isF) (mg) (tn) (isE) (mE) (rd) (as9)).flatten) ⟨(tu), (fi), (ro), (sp), (it), (bl), (hh), (z), (sd), (bf), (g), (isF), (mg), (tn), (isE), (mE), (rd), (as9), rfl, ⟨hL, hz20, hz101⟩, ⟨hhz, hHZ⟩, hln, hbf, htx⟩ hP hD hS dX8_edit_78
  · skip
    have g_4 := (h_1).mp c_4
    refine lv_iload_n hx hb dX8_edit_7 rfl (lv_at hl 3 rfl) ?_
    refine q_readz (va_runS (As := [.int (qI (p2))]) (rest := []) ⟨hx, hb, hml, hown, hg⟩ (c_X8_isStrength l D cy _ (by omega)) (cs_X8_101 hg rfl rfl ⟨by decide, by decide⟩) ⟨q_blind0, q_preR _ hK hN hP [] rfl⟩ rfl rfl hl.1 rfl (lv_room (Nat.le_of_ble_eq_true rfl)) dX8_edit_8 ⟨by decide, by decide⟩) (fun b_8 h_8 => ?_)
    refine q_ifz_eq (tgt := 18) hx hb dX8_edit_11 (by decide) (fun c_11 => ?_) (fun c_11 => ?_)
    · skip
      have g_11 := mt (h_8).mpr (by rw [c_11]; decide)
      refine q_iconst hx hb dX8_edit_18 ?_
      refine lv_istore (lv' := [(4, .int (qI (0))), (0, .ref (mo)), (1, .int (qI (p0))), (2, .int (qI (p1))), (3, .int (qI (p2)))]) hx hb dX8_edit_19 hl (by decide) rfl (fun ls hl => ?_)
      refine lv_aload_n hx hb dX8_edit_21 rfl (lv_at hl 1 rfl) ?_
      refine lv_iload_n hx hb dX8_edit_22 rfl (lv_at hl 2 rfl) ?_
      refine q_readz (va_runS (As := [.int (qI (p0))]) (rest := [.ref (mo)]) ⟨hx, hb, hml, hown, hg⟩ (c_X8_isPlace l D cy _ (by omega)) (cs_X8_94 hg rfl rfl ⟨by decide, by decide⟩) ⟨q_blind0, q_preR _ hK hN hP [] rfl⟩ rfl rfl hl.1 rfl (lv_room (Nat.le_of_ble_eq_true rfl)) dX8_edit_23 ⟨by decide, by decide⟩) (fun b_23 h_23 => ?_)
      refine q_ifz_ne (tgt := 33) hx hb dX8_edit_26 (by decide) (fun c_26 => ?_) (fun c_26 => ?_)
      · skip
        have g_26 := (h_23).mp c_26
        exfalso; omega
      · skip
        have g_26 := mt (h_23).mpr (by rw [c_26]; decide)
        refine q_iconst hx hb dX8_edit_29 ?_
        refine lv_goto (tgt := 67) hx hb dX8_edit_30 (by decide) ?_
        refine pf_X8_44 hx hb hg hown hK hP hD hS 0 0 rfl rfl rfl rfl (Nat.le_of_ble_eq_true rfl) dX8_edit_67 (fun H locs hP hD hS => ?_)
        have hP : va_P D vwCl [[(mo, .inr (8, [.int (qI (1)), .ref (mz), .int (qI (((hz : Nat) : Int))), .ref (msv), .int (qI (((len : Nat) : Int))), .ref (mtx), .ref (mmo), .int (qI (tu)), .ref (mif), .ref (mmg), .ref (mtn), .ref (mie), .ref (mme), .int (qz (fi)), .int (qI (ro)), .int (qI (sp)), .int (qI (it)), .int (qz (bl)), .ref (mrd), .ref (mas), .long (hh)]))], [(mz, aI cy 115 (z))], [(msv, aI cy 920 (sd))], [(mtx, aI cy 60 (bf))], [(mmo, aI cy 121 (g))], [(mif, aZ cy 16 (isF))], [(mmg, aI cy 16 (mg))], [(mtn, aI cy 16 (tn))], [(mie, aZ cy 4 (isE))], [(mme, aI cy 4 (mE))], [(mrd, aI cy 100 (rd))], [(mas, aI cy 115 (as9))]].flatten H := hP
        have hD : va_D A [[(mo, .inr (8, [.int (qI (1)), .ref (mz), .int (qI (((hz : Nat) : Int))), .ref (msv), .int (qI (((len : Nat) : Int))), .ref (mtx), .ref (mmo), .int (qI (tu)), .ref (mif), .ref (mmg), .ref (mtn), .ref (mie), .ref (mme), .int (qz (fi)), .int (qI (ro)), .int (qI (sp)), .int (qI (it)), .int (qz (bl)), .ref (mrd), .ref (mas), .long (hh)]))], [(mz, aI cy 115 (z))], [(msv, aI cy 920 (sd))], [(mtx, aI cy 60 (bf))], [(mmo, aI cy 121 (g))], [(mif, aZ cy 16 (isF))], [(mmg, aI cy 16 (mg))], [(mtn, aI cy 16 (tn))], [(mie, aZ cy 4 (isE))], [(mme, aI cy 4 (mE))], [(mrd, aI cy 100 (rd))], [(mas, aI cy 115 (as9))]].flatten := hD
        refine lv_aload_n hx hb dX8_edit_70 rfl (lv_at hl 1 rfl) ?_
        refine gf_X8_44 hx hb hg hown hK (fl_blk hP 0 rfl) 0 rfl rfl dX8_edit_71 ?_
        refine q_if_le (tgt := 79) hx hb dX8_edit_74 (by decide) (by omega) (fun c_74 => ?_) (fun c_74 => ?_)
        · skip
          exact absurd c_74 (by decide)
        · skip
          refine q_iconst hx hb dX8_edit_77 ?_
          have hP : va_P D vwCl [(mdB cy mo mz msv mtx mmo mif mmg mtn mie mme mrd mas (1) (hz) (len) (tu) (fi) (ro) (sp) (it) (bl) (hh) (z) (sd) (bf) (g) (isF) (mg) (tn) (isE) (mE) (rd) (as9)).flatten].flatten H := by rw [fl_open]; exact hP
          have hD : va_D A [(mdB cy mo mz msv mtx mmo mif mmg mtn mie mme mrd mas (1) (hz) (len) (tu) (fi) (ro) (sp) (it) (bl) (hh) (z) (sd) (bf) (g) (isF) (mg) (tn) (isE) (mE) (rd) (as9)).flatten].flatten := by rw [fl_open]; exact hD
          exact hQ _ _ _ _ _ ((mdB cy mo mz msv mtx mmo mif mmg mtn mie mme mrd mas (1) (hz) (len) (tu) (fi) (ro) (sp) (it) (bl) (hh) (z) (sd) (bf) (g) (isF) (mg) (tn) (isE) (mE) (rd) (as9)).flatten) ⟨(tu), (fi), (ro), (sp), (it), (bl), (hh), (z), (sd), (bf), (g), (isF), (mg), (tn), (isE), (mE), (rd), (as9), rfl, ⟨hL, hz20, hz101⟩, ⟨hhz, hHZ⟩, hln, hbf, htx⟩ hP hD hS dX8_edit_78
    · skip
      have g_11 := (h_8).mp c_11
      refine q_iconst hx hb dX8_edit_14 ?_
      refine lv_goto (tgt := 19) hx hb dX8_edit_15 (by decide) ?_
      refine lv_istore (lv' := [(4, .int (qI (1))), (0, .ref (mo)), (1, .int (qI (p0))), (2, .int (qI (p1))), (3, .int (qI (p2)))]) hx hb dX8_edit_19 hl (by decide) rfl (fun ls hl => ?_)
      refine lv_aload_n hx hb dX8_edit_21 rfl (lv_at hl 1 rfl) ?_
      refine lv_iload_n hx hb dX8_edit_22 rfl (lv_at hl 2 rfl) ?_
      refine q_readz (va_runS (As := [.int (qI (p0))]) (rest := [.ref (mo)]) ⟨hx, hb, hml, hown, hg⟩ (c_X8_isPlace l D cy _ (by omega)) (cs_X8_94 hg rfl rfl ⟨by decide, by decide⟩) ⟨q_blind0, q_preR _ hK hN hP [] rfl⟩ rfl rfl hl.1 rfl (lv_room (Nat.le_of_ble_eq_true rfl)) dX8_edit_23 ⟨by decide, by decide⟩) (fun b_23 h_23 => ?_)
      refine q_ifz_ne (tgt := 33) hx hb dX8_edit_26 (by decide) (fun c_26 => ?_) (fun c_26 => ?_)
      · skip
        have g_26 := (h_23).mp c_26
        exfalso; omega
      · skip
        have g_26 := mt (h_23).mpr (by rw [c_26]; decide)
        refine q_iconst hx hb dX8_edit_29 ?_
        refine lv_goto (tgt := 67) hx hb dX8_edit_30 (by decide) ?_
        refine pf_X8_44 hx hb hg hown hK hP hD hS 0 0 rfl rfl rfl rfl (Nat.le_of_ble_eq_true rfl) dX8_edit_67 (fun H locs hP hD hS => ?_)
        have hP : va_P D vwCl [[(mo, .inr (8, [.int (qI (1)), .ref (mz), .int (qI (((hz : Nat) : Int))), .ref (msv), .int (qI (((len : Nat) : Int))), .ref (mtx), .ref (mmo), .int (qI (tu)), .ref (mif), .ref (mmg), .ref (mtn), .ref (mie), .ref (mme), .int (qz (fi)), .int (qI (ro)), .int (qI (sp)), .int (qI (it)), .int (qz (bl)), .ref (mrd), .ref (mas), .long (hh)]))], [(mz, aI cy 115 (z))], [(msv, aI cy 920 (sd))], [(mtx, aI cy 60 (bf))], [(mmo, aI cy 121 (g))], [(mif, aZ cy 16 (isF))], [(mmg, aI cy 16 (mg))], [(mtn, aI cy 16 (tn))], [(mie, aZ cy 4 (isE))], [(mme, aI cy 4 (mE))], [(mrd, aI cy 100 (rd))], [(mas, aI cy 115 (as9))]].flatten H := hP
        have hD : va_D A [[(mo, .inr (8, [.int (qI (1)), .ref (mz), .int (qI (((hz : Nat) : Int))), .ref (msv), .int (qI (((len : Nat) : Int))), .ref (mtx), .ref (mmo), .int (qI (tu)), .ref (mif), .ref (mmg), .ref (mtn), .ref (mie), .ref (mme), .int (qz (fi)), .int (qI (ro)), .int (qI (sp)), .int (qI (it)), .int (qz (bl)), .ref (mrd), .ref (mas), .long (hh)]))], [(mz, aI cy 115 (z))], [(msv, aI cy 920 (sd))], [(mtx, aI cy 60 (bf))], [(mmo, aI cy 121 (g))], [(mif, aZ cy 16 (isF))], [(mmg, aI cy 16 (mg))], [(mtn, aI cy 16 (tn))], [(mie, aZ cy 4 (isE))], [(mme, aI cy 4 (mE))], [(mrd, aI cy 100 (rd))], [(mas, aI cy 115 (as9))]].flatten := hD
        refine lv_aload_n hx hb dX8_edit_70 rfl (lv_at hl 1 rfl) ?_
        refine gf_X8_44 hx hb hg hown hK (fl_blk hP 0 rfl) 0 rfl rfl dX8_edit_71 ?_
        refine q_if_le (tgt := 79) hx hb dX8_edit_74 (by decide) (by omega) (fun c_74 => ?_) (fun c_74 => ?_)
        · skip
          exact absurd c_74 (by decide)
        · skip
          refine q_iconst hx hb dX8_edit_77 ?_
          have hP : va_P D vwCl [(mdB cy mo mz msv mtx mmo mif mmg mtn mie mme mrd mas (1) (hz) (len) (tu) (fi) (ro) (sp) (it) (bl) (hh) (z) (sd) (bf) (g) (isF) (mg) (tn) (isE) (mE) (rd) (as9)).flatten].flatten H := by rw [fl_open]; exact hP
          have hD : va_D A [(mdB cy mo mz msv mtx mmo mif mmg mtn mie mme mrd mas (1) (hz) (len) (tu) (fi) (ro) (sp) (it) (bl) (hh) (z) (sd) (bf) (g) (isF) (mg) (tn) (isE) (mE) (rd) (as9)).flatten].flatten := by rw [fl_open]; exact hD
          exact hQ _ _ _ _ _ ((mdB cy mo mz msv mtx mmo mif mmg mtn mie mme mrd mas (1) (hz) (len) (tu) (fi) (ro) (sp) (it) (bl) (hh) (z) (sd) (bf) (g) (isF) (mg) (tn) (isE) (mE) (rd) (as9)).flatten) ⟨(tu), (fi), (ro), (sp), (it), (bl), (hh), (z), (sd), (bf), (g), (isF), (mg), (tn), (isE), (mE), (rd), (as9), rfl, ⟨hL, hz20, hz101⟩, ⟨hhz, hHZ⟩, hln, hbf, htx⟩ hP hD hS dX8_edit_78

set_option maxRecDepth 100000 in
set_option maxHeartbeats 4000000 in
theorem c_X8_edit_no2 (l : Launch) (D : va_G) (cy : Nat → ClassId) (mo mz msv mtx mmo mif mmg mtn mie mme mrd mas : Nat) (T : LSt) (hz : Nat) (HZ : Nat → LSt) (len : Nat) (tx : Nat → Int) (th : Int) (W : va_W) (hG : gOk T) (hW : MW cy mo mz msv mtx mmo mif mmg mtn mie mme mrd mas T hz HZ len tx th W) (p0 p1 p2 : Int) (r0 : (-2147483648 ≤ p0 ∧ p0 < 2147483648)) (r1 : (-2147483648 ≤ p1 ∧ p1 < 2147483648)) (r2 : (-2147483648 ≤ p2 ∧ p2 < 2147483648)) (hx : 0 ≤ p0 ∧ p0 ≤ 9) (hy : ¬ ((-1000 ≤ p1 ∧ p1 ≤ 1000) ∧ (0 ≤ p2 ∧ p2 ≤ 3))) (sz : Nat) : qMet l yX8_edit (.code yX8_edit cX8_edit 5 (some .int)) 8 [.ref (mo), .int (qI (p0)), .int (qI (p1)), .int (qI (p2))] D cy [W] sz (va_Qi (S := va_W) (fun r u => MW cy mo mz msv mtx mmo mif mmg mtn mie mme mrd mas T hz HZ len tx 2 u) (qB D cy [W] sz (fun u => [u])) (va_A [W].flatten sz)) := by
  refine q_ofMi (S := va_W) (b1 := fun u => [u]) (post := fun r u => MW cy mo mz msv mtx mmo mif mmg mtn mie mme mrd mas T hz HZ len tx 2 u) (by decide +kernel) (Nat.le_of_ble_eq_true rfl) ?_
  intro p e s m args below meth c Q A hx hb hml hown hg hQ hK hN hD hA H locs ls hP hS hl
  have hown : s.vm.findClass RX8 = some m.cls := hown
  have hl : lv_has ls 5 [(0, .ref (mo)), (1, .int (qI (p0))), (2, .int (qI (p1))), (3, .int (qI (p2)))] := hl
  have hW0 := hW
  obtain ⟨tu, fi, ro, sp, it, bl, hh, z, sd, bf, g, isF, mg, tn, isE, mE, rd, as9, rfl, ⟨hL, hz20, hz101⟩, ⟨hhz, hHZ⟩, hln, hbf, htx⟩ := hW
  obtain ⟨gV, gT, gC, gE, gI, gD⟩ := hG.eq hL
  obtain ⟨nc, hnc⟩ : ∃ nc : Nat, z 20 = (nc : Int) := ⟨(z 20).toNat, by omega⟩
  obtain ⟨ne, hne⟩ : ∃ ne : Nat, z 101 = (ne : Int) := ⟨(z 101).toNat, by omega⟩
  have e20 : (z 20).toNat = nc := by omega
  have e101 : (z 101).toNat = ne := by omega
  have hV : qV z := gV
  have hst : ∀ i, i < 10 → 0 ≤ z (10 + i) ∧ z (10 + i) ≤ 9 := gT
  have hc : nc ≤ 16 := e20 ▸ (gC.1 : (z 20).toNat ≤ 16)
  have hC : qWR (zC z) nc := e20 ▸ (gC.2 : qWR (zC z) (z 20).toNat)
  have he : ne ≤ 4 := e101 ▸ (gE.1 : (z 101).toNat ≤ 4)
  have hE : qWR (zE z) ne := e101 ▸ (gE.2 : qWR (zE z) (z 101).toNat)
  have hD9 : ∀ i j, i < ne → j < ne → zE z 0 i = zE z 0 j → i = j := e101 ▸ (gD : ∀ i j, i < (z 101).toNat → j < (z 101).toNat → zE z 0 i = zE z 0 j → i = j)
  have hL2 : LEq (z, (fun i => z (10 + i)), zC z, nc, zE z, ne) T := by rw [← e20, ← e101]; exact hL
  have en : nc = lN9 T := hL2.2.2.1
  have em : ne = lM T := hL2.2.2.2.2.1
  rw [fl_open] at hP hD
  have hP : va_P D vwCl [[(mo, .inr (8, [.int (qI (th)), .ref (mz), .int (qI (((hz : Nat) : Int))), .ref (msv), .int (qI (((len : Nat) : Int))), .ref (mtx), .ref (mmo), .int (qI (tu)), .ref (mif), .ref (mmg), .ref (mtn), .ref (mie), .ref (mme), .int (qz (fi)), .int (qI (ro)), .int (qI (sp)), .int (qI (it)), .int (qz (bl)), .ref (mrd), .ref (mas), .long (hh)]))], [(mz, aI cy 115 (z))], [(msv, aI cy 920 (sd))], [(mtx, aI cy 60 (bf))], [(mmo, aI cy 121 (g))], [(mif, aZ cy 16 (isF))], [(mmg, aI cy 16 (mg))], [(mtn, aI cy 16 (tn))], [(mie, aZ cy 4 (isE))], [(mme, aI cy 4 (mE))], [(mrd, aI cy 100 (rd))], [(mas, aI cy 115 (as9))]].flatten H := hP
  have hD : va_D A [[(mo, .inr (8, [.int (qI (th)), .ref (mz), .int (qI (((hz : Nat) : Int))), .ref (msv), .int (qI (((len : Nat) : Int))), .ref (mtx), .ref (mmo), .int (qI (tu)), .ref (mif), .ref (mmg), .ref (mtn), .ref (mie), .ref (mme), .int (qz (fi)), .int (qI (ro)), .int (qI (sp)), .int (qI (it)), .int (qz (bl)), .ref (mrd), .ref (mas), .long (hh)]))], [(mz, aI cy 115 (z))], [(msv, aI cy 920 (sd))], [(mtx, aI cy 60 (bf))], [(mmo, aI cy 121 (g))], [(mif, aZ cy 16 (isF))], [(mmg, aI cy 16 (mg))], [(mtn, aI cy 16 (tn))], [(mie, aZ cy 4 (isE))], [(mme, aI cy 4 (mE))], [(mrd, aI cy 100 (rd))], [(mas, aI cy 115 (as9))]].flatten := hD
  refine lv_iload_n hx hb dX8_edit_0 rfl (lv_at hl 2 rfl) ?_
  refine q_readz (va_runS (As := [.int (qI (p1))]) (rest := []) ⟨hx, hb, hml, hown, hg⟩ (c_X8_isWish l D cy _ (by omega)) (cs_X8_123 hg rfl rfl ⟨by decide, by decide⟩) ⟨q_blind0, q_preR _ hK hN hP [] rfl⟩ rfl rfl hl.1 rfl (lv_room (Nat.le_of_ble_eq_true rfl)) dX8_edit_1 ⟨by decide, by decide⟩) (fun b_1 h_1 => ?_)
  refine q_ifz_eq (tgt := 18) hx hb dX8_edit_4 (by decide) (fun c_4 => ?_) (fun c_4 => ?_)
  · skip
    have g_4 := mt (h_1).mpr (by rw [c_4]; decide)
    refine q_iconst hx hb dX8_edit_18 ?_
    refine lv_istore (lv' := [(4, .int (qI (0))), (0, .ref (mo)), (1, .int (qI (p0))), (2, .int (qI (p1))), (3, .int (qI (p2)))]) hx hb dX8_edit_19 hl (by decide) rfl (fun ls hl => ?_)
    refine lv_aload_n hx hb dX8_edit_21 rfl (lv_at hl 1 rfl) ?_
    refine lv_iload_n hx hb dX8_edit_22 rfl (lv_at hl 2 rfl) ?_
    refine q_readz (va_runS (As := [.int (qI (p0))]) (rest := [.ref (mo)]) ⟨hx, hb, hml, hown, hg⟩ (c_X8_isPlace l D cy _ (by omega)) (cs_X8_94 hg rfl rfl ⟨by decide, by decide⟩) ⟨q_blind0, q_preR _ hK hN hP [] rfl⟩ rfl rfl hl.1 rfl (lv_room (Nat.le_of_ble_eq_true rfl)) dX8_edit_23 ⟨by decide, by decide⟩) (fun b_23 h_23 => ?_)
    refine q_ifz_ne (tgt := 33) hx hb dX8_edit_26 (by decide) (fun c_26 => ?_) (fun c_26 => ?_)
    · skip
      have g_26 := (h_23).mp c_26
      refine lv_iload hx hb dX8_edit_33 (lv_at hl 0 rfl) ?_
      refine q_if_ne (tgt := 42) hx hb dX8_edit_35 (by decide) (by omega) (fun c_35 => ?_) (fun c_35 => ?_)
      · skip
        exact absurd c_35 (by decide)
      · skip
        refine q_iconst hx hb dX8_edit_38 ?_
        refine lv_goto (tgt := 67) hx hb dX8_edit_39 (by decide) ?_
        refine pf_X8_44 hx hb hg hown hK hP hD hS 0 0 rfl rfl rfl rfl (Nat.le_of_ble_eq_true rfl) dX8_edit_67 (fun H locs hP hD hS => ?_)
        have hP : va_P D vwCl [[(mo, .inr (8, [.int (qI (2)), .ref (mz), .int (qI (((hz : Nat) : Int))), .ref (msv), .int (qI (((len : Nat) : Int))), .ref (mtx), .ref (mmo), .int (qI (tu)), .ref (mif), .ref (mmg), .ref (mtn), .ref (mie), .ref (mme), .int (qz (fi)), .int (qI (ro)), .int (qI (sp)), .int (qI (it)), .int (qz (bl)), .ref (mrd), .ref (mas), .long (hh)]))], [(mz, aI cy 115 (z))], [(msv, aI cy 920 (sd))], [(mtx, aI cy 60 (bf))], [(mmo, aI cy 121 (g))], [(mif, aZ cy 16 (isF))], [(mmg, aI cy 16 (mg))], [(mtn, aI cy 16 (tn))], [(mie, aZ cy 4 (isE))], [(mme, aI cy 4 (mE))], [(mrd, aI cy 100 (rd))], [(mas, aI cy 115 (as9))]].flatten H := hP
        have hD : va_D A [[(mo, .inr (8, [.int (qI (2)), .ref (mz), .int (qI (((hz : Nat) : Int))), .ref (msv), .int (qI (((len : Nat) : Int))), .ref (mtx), .ref (mmo), .int (qI (tu)), .ref (mif), .ref (mmg), .ref (mtn), .ref (mie), .ref (mme), .int (qz (fi)), .int (qI (ro)), .int (qI (sp)), .int (qI (it)), .int (qz (bl)), .ref (mrd), .ref (mas), .long (hh)]))], [(mz, aI cy 115 (z))], [(msv, aI cy 920 (sd))], [(mtx, aI cy 60 (bf))], [(mmo, aI cy 121 (g))], [(mif, aZ cy 16 (isF))], [(mmg, aI cy 16 (mg))], [(mtn, aI cy 16 (tn))], [(mie, aZ cy 4 (isE))], [(mme, aI cy 4 (mE))], [(mrd, aI cy 100 (rd))], [(mas, aI cy 115 (as9))]].flatten := hD
        refine lv_aload_n hx hb dX8_edit_70 rfl (lv_at hl 1 rfl) ?_
        refine gf_X8_44 hx hb hg hown hK (fl_blk hP 0 rfl) 0 rfl rfl dX8_edit_71 ?_
        refine q_if_le (tgt := 79) hx hb dX8_edit_74 (by decide) (by omega) (fun c_74 => ?_) (fun c_74 => ?_)
        · skip
          exact absurd c_74 (by decide)
        · skip
          refine q_iconst hx hb dX8_edit_77 ?_
          have hP : va_P D vwCl [(mdB cy mo mz msv mtx mmo mif mmg mtn mie mme mrd mas (2) (hz) (len) (tu) (fi) (ro) (sp) (it) (bl) (hh) (z) (sd) (bf) (g) (isF) (mg) (tn) (isE) (mE) (rd) (as9)).flatten].flatten H := by rw [fl_open]; exact hP
          have hD : va_D A [(mdB cy mo mz msv mtx mmo mif mmg mtn mie mme mrd mas (2) (hz) (len) (tu) (fi) (ro) (sp) (it) (bl) (hh) (z) (sd) (bf) (g) (isF) (mg) (tn) (isE) (mE) (rd) (as9)).flatten].flatten := by rw [fl_open]; exact hD
          exact hQ _ _ _ _ _ ((mdB cy mo mz msv mtx mmo mif mmg mtn mie mme mrd mas (2) (hz) (len) (tu) (fi) (ro) (sp) (it) (bl) (hh) (z) (sd) (bf) (g) (isF) (mg) (tn) (isE) (mE) (rd) (as9)).flatten) ⟨(tu), (fi), (ro), (sp), (it), (bl), (hh), (z), (sd), (bf), (g), (isF), (mg), (tn), (isE), (mE), (rd), (as9), rfl, ⟨hL, hz20, hz101⟩, ⟨hhz, hHZ⟩, hln, hbf, htx⟩ hP hD hS dX8_edit_78
    · skip
      have g_26 := mt (h_23).mpr (by rw [c_26]; decide)
      exfalso; omega
  · skip
    have g_4 := (h_1).mp c_4
    refine lv_iload_n hx hb dX8_edit_7 rfl (lv_at hl 3 rfl) ?_
    refine q_readz (va_runS (As := [.int (qI (p2))]) (rest := []) ⟨hx, hb, hml, hown, hg⟩ (c_X8_isStrength l D cy _ (by omega)) (cs_X8_101 hg rfl rfl ⟨by decide, by decide⟩) ⟨q_blind0, q_preR _ hK hN hP [] rfl⟩ rfl rfl hl.1 rfl (lv_room (Nat.le_of_ble_eq_true rfl)) dX8_edit_8 ⟨by decide, by decide⟩) (fun b_8 h_8 => ?_)
    refine q_ifz_eq (tgt := 18) hx hb dX8_edit_11 (by decide) (fun c_11 => ?_) (fun c_11 => ?_)
    · skip
      have g_11 := mt (h_8).mpr (by rw [c_11]; decide)
      refine q_iconst hx hb dX8_edit_18 ?_
      refine lv_istore (lv' := [(4, .int (qI (0))), (0, .ref (mo)), (1, .int (qI (p0))), (2, .int (qI (p1))), (3, .int (qI (p2)))]) hx hb dX8_edit_19 hl (by decide) rfl (fun ls hl => ?_)
      refine lv_aload_n hx hb dX8_edit_21 rfl (lv_at hl 1 rfl) ?_
      refine lv_iload_n hx hb dX8_edit_22 rfl (lv_at hl 2 rfl) ?_
      refine q_readz (va_runS (As := [.int (qI (p0))]) (rest := [.ref (mo)]) ⟨hx, hb, hml, hown, hg⟩ (c_X8_isPlace l D cy _ (by omega)) (cs_X8_94 hg rfl rfl ⟨by decide, by decide⟩) ⟨q_blind0, q_preR _ hK hN hP [] rfl⟩ rfl rfl hl.1 rfl (lv_room (Nat.le_of_ble_eq_true rfl)) dX8_edit_23 ⟨by decide, by decide⟩) (fun b_23 h_23 => ?_)
      refine q_ifz_ne (tgt := 33) hx hb dX8_edit_26 (by decide) (fun c_26 => ?_) (fun c_26 => ?_)
      · skip
        have g_26 := (h_23).mp c_26
        refine lv_iload hx hb dX8_edit_33 (lv_at hl 0 rfl) ?_
        refine q_if_ne (tgt := 42) hx hb dX8_edit_35 (by decide) (by omega) (fun c_35 => ?_) (fun c_35 => ?_)
        · skip
          exact absurd c_35 (by decide)
        · skip
          refine q_iconst hx hb dX8_edit_38 ?_
          refine lv_goto (tgt := 67) hx hb dX8_edit_39 (by decide) ?_
          refine pf_X8_44 hx hb hg hown hK hP hD hS 0 0 rfl rfl rfl rfl (Nat.le_of_ble_eq_true rfl) dX8_edit_67 (fun H locs hP hD hS => ?_)
          have hP : va_P D vwCl [[(mo, .inr (8, [.int (qI (2)), .ref (mz), .int (qI (((hz : Nat) : Int))), .ref (msv), .int (qI (((len : Nat) : Int))), .ref (mtx), .ref (mmo), .int (qI (tu)), .ref (mif), .ref (mmg), .ref (mtn), .ref (mie), .ref (mme), .int (qz (fi)), .int (qI (ro)), .int (qI (sp)), .int (qI (it)), .int (qz (bl)), .ref (mrd), .ref (mas), .long (hh)]))], [(mz, aI cy 115 (z))], [(msv, aI cy 920 (sd))], [(mtx, aI cy 60 (bf))], [(mmo, aI cy 121 (g))], [(mif, aZ cy 16 (isF))], [(mmg, aI cy 16 (mg))], [(mtn, aI cy 16 (tn))], [(mie, aZ cy 4 (isE))], [(mme, aI cy 4 (mE))], [(mrd, aI cy 100 (rd))], [(mas, aI cy 115 (as9))]].flatten H := hP
          have hD : va_D A [[(mo, .inr (8, [.int (qI (2)), .ref (mz), .int (qI (((hz : Nat) : Int))), .ref (msv), .int (qI (((len : Nat) : Int))), .ref (mtx), .ref (mmo), .int (qI (tu)), .ref (mif), .ref (mmg), .ref (mtn), .ref (mie), .ref (mme), .int (qz (fi)), .int (qI (ro)), .int (qI (sp)), .int (qI (it)), .int (qz (bl)), .ref (mrd), .ref (mas), .long (hh)]))], [(mz, aI cy 115 (z))], [(msv, aI cy 920 (sd))], [(mtx, aI cy 60 (bf))], [(mmo, aI cy 121 (g))], [(mif, aZ cy 16 (isF))], [(mmg, aI cy 16 (mg))], [(mtn, aI cy 16 (tn))], [(mie, aZ cy 4 (isE))], [(mme, aI cy 4 (mE))], [(mrd, aI cy 100 (rd))], [(mas, aI cy 115 (as9))]].flatten := hD
          refine lv_aload_n hx hb dX8_edit_70 rfl (lv_at hl 1 rfl) ?_
          refine gf_X8_44 hx hb hg hown hK (fl_blk hP 0 rfl) 0 rfl rfl dX8_edit_71 ?_
          refine q_if_le (tgt := 79) hx hb dX8_edit_74 (by decide) (by omega) (fun c_74 => ?_) (fun c_74 => ?_)
          · skip
            exact absurd c_74 (by decide)
          · skip
            refine q_iconst hx hb dX8_edit_77 ?_
            have hP : va_P D vwCl [(mdB cy mo mz msv mtx mmo mif mmg mtn mie mme mrd mas (2) (hz) (len) (tu) (fi) (ro) (sp) (it) (bl) (hh) (z) (sd) (bf) (g) (isF) (mg) (tn) (isE) (mE) (rd) (as9)).flatten].flatten H := by rw [fl_open]; exact hP
            have hD : va_D A [(mdB cy mo mz msv mtx mmo mif mmg mtn mie mme mrd mas (2) (hz) (len) (tu) (fi) (ro) (sp) (it) (bl) (hh) (z) (sd) (bf) (g) (isF) (mg) (tn) (isE) (mE) (rd) (as9)).flatten].flatten := by rw [fl_open]; exact hD
            exact hQ _ _ _ _ _ ((mdB cy mo mz msv mtx mmo mif mmg mtn mie mme mrd mas (2) (hz) (len) (tu) (fi) (ro) (sp) (it) (bl) (hh) (z) (sd) (bf) (g) (isF) (mg) (tn) (isE) (mE) (rd) (as9)).flatten) ⟨(tu), (fi), (ro), (sp), (it), (bl), (hh), (z), (sd), (bf), (g), (isF), (mg), (tn), (isE), (mE), (rd), (as9), rfl, ⟨hL, hz20, hz101⟩, ⟨hhz, hHZ⟩, hln, hbf, htx⟩ hP hD hS dX8_edit_78
      · skip
        have g_26 := mt (h_23).mpr (by rw [c_26]; decide)
        exfalso; omega
    · skip
      have g_11 := (h_8).mp c_11
      exfalso; omega

set_option maxRecDepth 100000 in
set_option maxHeartbeats 4000000 in
theorem c_X8_edit_no3 (l : Launch) (D : va_G) (cy : Nat → ClassId) (mo mz msv mtx mmo mif mmg mtn mie mme mrd mas : Nat) (T : LSt) (hz : Nat) (HZ : Nat → LSt) (len : Nat) (tx : Nat → Int) (th : Int) (W : va_W) (hG : gOk T) (hW : MW cy mo mz msv mtx mmo mif mmg mtn mie mme mrd mas T hz HZ len tx th W) (p0 p1 p2 : Int) (r0 : (-2147483648 ≤ p0 ∧ p0 < 2147483648)) (r1 : (-2147483648 ≤ p1 ∧ p1 < 2147483648)) (r2 : (-2147483648 ≤ p2 ∧ p2 < 2147483648)) (hx : 0 ≤ p0 ∧ p0 ≤ 9) (hy : (-1000 ≤ p1 ∧ p1 ≤ 1000) ∧ (0 ≤ p2 ∧ p2 ≤ 3)) (hn : edOf (lE T) p0 (lM T) = -1 ∧ lM T = 3) (sz : Nat) : qMet l yX8_edit (.code yX8_edit cX8_edit 5 (some .int)) 8 [.ref (mo), .int (qI (p0)), .int (qI (p1)), .int (qI (p2))] D cy [W] sz (va_Qi (S := va_W) (fun r u => MW cy mo mz msv mtx mmo mif mmg mtn mie mme mrd mas T hz HZ len tx 3 u) (qB D cy [W] sz (fun u => [u])) (va_A [W].flatten sz)) := by
  refine q_ofMi (S := va_W) (b1 := fun u => [u]) (post := fun r u => MW cy mo mz msv mtx mmo mif mmg mtn mie mme mrd mas T hz HZ len tx 3 u) (by decide +kernel) (Nat.le_of_ble_eq_true rfl) ?_
  intro p e s m args below meth c Q A hx hb hml hown hg hQ hK hN hD hA H locs ls hP hS hl
  have hown : s.vm.findClass RX8 = some m.cls := hown
  have hl : lv_has ls 5 [(0, .ref (mo)), (1, .int (qI (p0))), (2, .int (qI (p1))), (3, .int (qI (p2)))] := hl
  have hW0 := hW
  obtain ⟨tu, fi, ro, sp, it, bl, hh, z, sd, bf, g, isF, mg, tn, isE, mE, rd, as9, rfl, ⟨hL, hz20, hz101⟩, ⟨hhz, hHZ⟩, hln, hbf, htx⟩ := hW
  obtain ⟨gV, gT, gC, gE, gI, gD⟩ := hG.eq hL
  obtain ⟨nc, hnc⟩ : ∃ nc : Nat, z 20 = (nc : Int) := ⟨(z 20).toNat, by omega⟩
  obtain ⟨ne, hne⟩ : ∃ ne : Nat, z 101 = (ne : Int) := ⟨(z 101).toNat, by omega⟩
  have e20 : (z 20).toNat = nc := by omega
  have e101 : (z 101).toNat = ne := by omega
  have hV : qV z := gV
  have hst : ∀ i, i < 10 → 0 ≤ z (10 + i) ∧ z (10 + i) ≤ 9 := gT
  have hc : nc ≤ 16 := e20 ▸ (gC.1 : (z 20).toNat ≤ 16)
  have hC : qWR (zC z) nc := e20 ▸ (gC.2 : qWR (zC z) (z 20).toNat)
  have he : ne ≤ 4 := e101 ▸ (gE.1 : (z 101).toNat ≤ 4)
  have hE : qWR (zE z) ne := e101 ▸ (gE.2 : qWR (zE z) (z 101).toNat)
  have hD9 : ∀ i j, i < ne → j < ne → zE z 0 i = zE z 0 j → i = j := e101 ▸ (gD : ∀ i j, i < (z 101).toNat → j < (z 101).toNat → zE z 0 i = zE z 0 j → i = j)
  have hL2 : LEq (z, (fun i => z (10 + i)), zC z, nc, zE z, ne) T := by rw [← e20, ← e101]; exact hL
  have en : nc = lN9 T := hL2.2.2.1
  have em : ne = lM T := hL2.2.2.2.2.1
  rw [fl_open] at hP hD
  have hP : va_P D vwCl [[(mo, .inr (8, [.int (qI (th)), .ref (mz), .int (qI (((hz : Nat) : Int))), .ref (msv), .int (qI (((len : Nat) : Int))), .ref (mtx), .ref (mmo), .int (qI (tu)), .ref (mif), .ref (mmg), .ref (mtn), .ref (mie), .ref (mme), .int (qz (fi)), .int (qI (ro)), .int (qI (sp)), .int (qI (it)), .int (qz (bl)), .ref (mrd), .ref (mas), .long (hh)]))], [(mz, aI cy 115 (z))], [(msv, aI cy 920 (sd))], [(mtx, aI cy 60 (bf))], [(mmo, aI cy 121 (g))], [(mif, aZ cy 16 (isF))], [(mmg, aI cy 16 (mg))], [(mtn, aI cy 16 (tn))], [(mie, aZ cy 4 (isE))], [(mme, aI cy 4 (mE))], [(mrd, aI cy 100 (rd))], [(mas, aI cy 115 (as9))]].flatten H := hP
  have hD : va_D A [[(mo, .inr (8, [.int (qI (th)), .ref (mz), .int (qI (((hz : Nat) : Int))), .ref (msv), .int (qI (((len : Nat) : Int))), .ref (mtx), .ref (mmo), .int (qI (tu)), .ref (mif), .ref (mmg), .ref (mtn), .ref (mie), .ref (mme), .int (qz (fi)), .int (qI (ro)), .int (qI (sp)), .int (qI (it)), .int (qz (bl)), .ref (mrd), .ref (mas), .long (hh)]))], [(mz, aI cy 115 (z))], [(msv, aI cy 920 (sd))], [(mtx, aI cy 60 (bf))], [(mmo, aI cy 121 (g))], [(mif, aZ cy 16 (isF))], [(mmg, aI cy 16 (mg))], [(mtn, aI cy 16 (tn))], [(mie, aZ cy 4 (isE))], [(mme, aI cy 4 (mE))], [(mrd, aI cy 100 (rd))], [(mas, aI cy 115 (as9))]].flatten := hD
  refine lv_iload_n hx hb dX8_edit_0 rfl (lv_at hl 2 rfl) ?_
  refine q_readz (va_runS (As := [.int (qI (p1))]) (rest := []) ⟨hx, hb, hml, hown, hg⟩ (c_X8_isWish l D cy _ (by omega)) (cs_X8_123 hg rfl rfl ⟨by decide, by decide⟩) ⟨q_blind0, q_preR _ hK hN hP [] rfl⟩ rfl rfl hl.1 rfl (lv_room (Nat.le_of_ble_eq_true rfl)) dX8_edit_1 ⟨by decide, by decide⟩) (fun b_1 h_1 => ?_)
  refine q_ifz_eq (tgt := 18) hx hb dX8_edit_4 (by decide) (fun c_4 => ?_) (fun c_4 => ?_)
  · skip
    have g_4 := mt (h_1).mpr (by rw [c_4]; decide)
    exfalso; omega
  · skip
    have g_4 := (h_1).mp c_4
    refine lv_iload_n hx hb dX8_edit_7 rfl (lv_at hl 3 rfl) ?_
    refine q_readz (va_runS (As := [.int (qI (p2))]) (rest := []) ⟨hx, hb, hml, hown, hg⟩ (c_X8_isStrength l D cy _ (by omega)) (cs_X8_101 hg rfl rfl ⟨by decide, by decide⟩) ⟨q_blind0, q_preR _ hK hN hP [] rfl⟩ rfl rfl hl.1 rfl (lv_room (Nat.le_of_ble_eq_true rfl)) dX8_edit_8 ⟨by decide, by decide⟩) (fun b_8 h_8 => ?_)
    refine q_ifz_eq (tgt := 18) hx hb dX8_edit_11 (by decide) (fun c_11 => ?_) (fun c_11 => ?_)
    · skip
      have g_11 := mt (h_8).mpr (by rw [c_11]; decide)
      exfalso; omega
    · skip
      have g_11 := (h_8).mp c_11
      refine q_iconst hx hb dX8_edit_14 ?_
      refine lv_goto (tgt := 19) hx hb dX8_edit_15 (by decide) ?_
      refine lv_istore (lv' := [(4, .int (qI (1))), (0, .ref (mo)), (1, .int (qI (p0))), (2, .int (qI (p1))), (3, .int (qI (p2)))]) hx hb dX8_edit_19 hl (by decide) rfl (fun ls hl => ?_)
      refine lv_aload_n hx hb dX8_edit_21 rfl (lv_at hl 1 rfl) ?_
      refine lv_iload_n hx hb dX8_edit_22 rfl (lv_at hl 2 rfl) ?_
      refine q_readz (va_runS (As := [.int (qI (p0))]) (rest := [.ref (mo)]) ⟨hx, hb, hml, hown, hg⟩ (c_X8_isPlace l D cy _ (by omega)) (cs_X8_94 hg rfl rfl ⟨by decide, by decide⟩) ⟨q_blind0, q_preR _ hK hN hP [] rfl⟩ rfl rfl hl.1 rfl (lv_room (Nat.le_of_ble_eq_true rfl)) dX8_edit_23 ⟨by decide, by decide⟩) (fun b_23 h_23 => ?_)
      refine q_ifz_ne (tgt := 33) hx hb dX8_edit_26 (by decide) (fun c_26 => ?_) (fun c_26 => ?_)
      · skip
        have g_26 := (h_23).mp c_26
        refine lv_iload hx hb dX8_edit_33 (lv_at hl 0 rfl) ?_
        refine q_if_ne (tgt := 42) hx hb dX8_edit_35 (by decide) (by omega) (fun c_35 => ?_) (fun c_35 => ?_)
        · skip
          have eo : edOf (zE z) p0 ne = edOf (lE T) p0 (lM T) := by rw [em]; exact edOf_ext (lM T) (fun i hi => hL2.2.2.2.2.2 0 i (by decide) hi)
          have er := edOf_rng (zE z) p0 ne
          refine lv_aload_n hx hb dX8_edit_42 rfl (lv_at hl 1 rfl) ?_
          refine lv_iload_n hx hb dX8_edit_43 rfl (lv_at hl 2 rfl) ?_
          refine q_readi (va_runV (As := [.int (qI (p0))]) (rest := [.ref (mo)]) ⟨hx, hb, hml, hown, hg⟩ (c_X8_editOf l D cy mo mz msv mtx mmo mif mmg mtn mie mme mrd mas (th) (((hz : Nat) : Int)) (((len : Nat) : Int)) (tu) (fi) (ro) (sp) (it) (bl) (hh) z nc ne hnc hne hc he hC hE hD9 _ (by omega)) (cv_X8_120 hg rfl rfl ⟨by decide, by decide⟩) ⟨q_blind0, va_recv hK (fl_blk hP 0 rfl) (ci := 8) (q0 := 0) rfl rfl, q_preR _ hK hN hP [0, 1] rfl⟩ rfl rfl hl.1 rfl (lv_room (Nat.le_of_ble_eq_true rfl)) dX8_edit_44 ⟨by decide, by decide⟩) (fun r_44 h_44 => ?_)
          subst h_44
          refine q_iconst hx hb dX8_edit_47 ?_
          refine q_icmp_ne (tgt := 66) hx hb dX8_edit_48 (by decide) (by omega) (fun c_48 => ?_) (fun c_48 => ?_)
          · skip
            exfalso; omega
          · skip
            refine lv_aload_n hx hb dX8_edit_51 rfl (lv_at hl 1 rfl) ?_
            refine gf_X8_7 hx hb hg hown hK (fl_blk hP 0 rfl) 0 rfl rfl dX8_edit_52 ?_
            refine q_bipush hx hb dX8_edit_55 (by decide) ?_
            refine q_iald (j := 101) hx hb hK (fl_blk hP 1 rfl) 0 rfl (by omega) dX8_edit_57 ?_
            refine q_iconst hx hb dX8_edit_58 ?_
            refine q_icmp_ne (tgt := 66) hx hb dX8_edit_59 (by decide) (by omega) (fun c_59 => ?_) (fun c_59 => ?_)
            · skip
              exfalso; omega
            · skip
              refine q_iconst hx hb dX8_edit_62 ?_
              refine lv_goto (tgt := 67) hx hb dX8_edit_63 (by decide) ?_
              refine pf_X8_44 hx hb hg hown hK hP hD hS 0 0 rfl rfl rfl rfl (Nat.le_of_ble_eq_true rfl) dX8_edit_67 (fun H locs hP hD hS => ?_)
              have hP : va_P D vwCl [[(mo, .inr (8, [.int (qI (3)), .ref (mz), .int (qI (((hz : Nat) : Int))), .ref (msv), .int (qI (((len : Nat) : Int))), .ref (mtx), .ref (mmo), .int (qI (tu)), .ref (mif), .ref (mmg), .ref (mtn), .ref (mie), .ref (mme), .int (qz (fi)), .int (qI (ro)), .int (qI (sp)), .int (qI (it)), .int (qz (bl)), .ref (mrd), .ref (mas), .long (hh)]))], [(mz, aI cy 115 (z))], [(msv, aI cy 920 (sd))], [(mtx, aI cy 60 (bf))], [(mmo, aI cy 121 (g))], [(mif, aZ cy 16 (isF))], [(mmg, aI cy 16 (mg))], [(mtn, aI cy 16 (tn))], [(mie, aZ cy 4 (isE))], [(mme, aI cy 4 (mE))], [(mrd, aI cy 100 (rd))], [(mas, aI cy 115 (as9))]].flatten H := hP
              have hD : va_D A [[(mo, .inr (8, [.int (qI (3)), .ref (mz), .int (qI (((hz : Nat) : Int))), .ref (msv), .int (qI (((len : Nat) : Int))), .ref (mtx), .ref (mmo), .int (qI (tu)), .ref (mif), .ref (mmg), .ref (mtn), .ref (mie), .ref (mme), .int (qz (fi)), .int (qI (ro)), .int (qI (sp)), .int (qI (it)), .int (qz (bl)), .ref (mrd), .ref (mas), .long (hh)]))], [(mz, aI cy 115 (z))], [(msv, aI cy 920 (sd))], [(mtx, aI cy 60 (bf))], [(mmo, aI cy 121 (g))], [(mif, aZ cy 16 (isF))], [(mmg, aI cy 16 (mg))], [(mtn, aI cy 16 (tn))], [(mie, aZ cy 4 (isE))], [(mme, aI cy 4 (mE))], [(mrd, aI cy 100 (rd))], [(mas, aI cy 115 (as9))]].flatten := hD
              refine lv_aload_n hx hb dX8_edit_70 rfl (lv_at hl 1 rfl) ?_
              refine gf_X8_44 hx hb hg hown hK (fl_blk hP 0 rfl) 0 rfl rfl dX8_edit_71 ?_
              refine q_if_le (tgt := 79) hx hb dX8_edit_74 (by decide) (by omega) (fun c_74 => ?_) (fun c_74 => ?_)
              · skip
                exact absurd c_74 (by decide)
              · skip
                refine q_iconst hx hb dX8_edit_77 ?_
                have hP : va_P D vwCl [(mdB cy mo mz msv mtx mmo mif mmg mtn mie mme mrd mas (3) (hz) (len) (tu) (fi) (ro) (sp) (it) (bl) (hh) (z) (sd) (bf) (g) (isF) (mg) (tn) (isE) (mE) (rd) (as9)).flatten].flatten H := by rw [fl_open]; exact hP
                have hD : va_D A [(mdB cy mo mz msv mtx mmo mif mmg mtn mie mme mrd mas (3) (hz) (len) (tu) (fi) (ro) (sp) (it) (bl) (hh) (z) (sd) (bf) (g) (isF) (mg) (tn) (isE) (mE) (rd) (as9)).flatten].flatten := by rw [fl_open]; exact hD
                exact hQ _ _ _ _ _ ((mdB cy mo mz msv mtx mmo mif mmg mtn mie mme mrd mas (3) (hz) (len) (tu) (fi) (ro) (sp) (it) (bl) (hh) (z) (sd) (bf) (g) (isF) (mg) (tn) (isE) (mE) (rd) (as9)).flatten) ⟨(tu), (fi), (ro), (sp), (it), (bl), (hh), (z), (sd), (bf), (g), (isF), (mg), (tn), (isE), (mE), (rd), (as9), rfl, ⟨hL, hz20, hz101⟩, ⟨hhz, hHZ⟩, hln, hbf, htx⟩ hP hD hS dX8_edit_78
        · skip
          exact absurd c_35 (by decide)
      · skip
        have g_26 := mt (h_23).mpr (by rw [c_26]; decide)
        exfalso; omega

theorem en_at {z : Nat → Int} (h20 : (z 20).toNat ≤ 16) : LEq (zS (qu z 101 0)) (enE (zS z)) := by
  refine ⟨fun i hi => qu_n _ _ (by omega), fun i hi => qu_n _ _ (by omega), by show (qu z 101 0 20).toNat = (z 20).toNat; rw [qu_n _ _ (by omega)], fun f i hf hi => ?_, by show (qu z 101 0 101).toNat = 0; rw [qu_s]; rfl, fun f i hf hi => absurd hi (Nat.not_lt_zero i)⟩
  have hi : i < (z 20).toNat := hi
  exact qu_n _ _ (by omega)
theorem fr_at {z z1 : Nat → Int} {v : Int} (h20 : (z 20).toNat ≤ 16) (h : ∀ m, z1 m = if m < 10 then v else z m) : LEq (zS z1) (frV (zS z) v) := by
  have far : ∀ m, 10 ≤ m → z1 m = z m := fun m hm => by rw [h, if_neg (by omega)]
  refine ⟨fun i hi => by show z1 i = v; rw [h, if_pos hi], fun i hi => far _ (by omega), by show (z1 20).toNat = (z 20).toNat; rw [far 20 (by decide)], fun f i hf hi => far _ (by omega), by show (z1 101).toNat = (z 101).toNat; rw [far 101 (by decide)], fun f i hf hi => ?_⟩
  show row5 _ _ _ _ _ f = row5 _ _ _ _ _ f
  rw [far _ (by omega), far _ (by omega), far _ (by omega)]
theorem fr_step {z z1 : Nat → Int} {v : Int} {k : Nat} (h : ∀ m, z1 m = if m < k then v else z m) : ∀ m, qu z1 k v m = if m < k + 1 then v else z m := by
  intro m
  by_cases e : m = k
  · subst e
    rw [qu_s, if_pos (by omega)]
  · rw [qu_n _ _ e, h]
    by_cases e2 : m < k
    · rw [if_pos e2, if_pos (by omega)]
    · rw [if_neg e2, if_neg (by omega)]

set_option maxRecDepth 100000 in
set_option maxHeartbeats 4000000 in
theorem c_X8_endEdits (l : Launch) (D : va_G) (cy : Nat → ClassId) (mo mz msv mtx mmo mif mmg mtn mie mme mrd mas : Nat) (T : LSt) (hz : Nat) (HZ : Nat → LSt) (len : Nat) (tx : Nat → Int) (th : Int) (W : va_W) (hG : gOk T) (hW : MW cy mo mz msv mtx mmo mif mmg mtn mie mme mrd mas T hz HZ len tx th W)  (sz : Nat) : qMet l yX8_endEdits (.code yX8_endEdits cX8_endEdits 2 (some .int)) 8 [.ref (mo)] D cy [W] sz (va_Qi (S := va_W) (fun r u => r = qI ((lM T : Int)) ∧ MW cy mo mz msv mtx mmo mif mmg mtn mie mme mrd mas (enE T) (min (hz + 1) 8) (pushH T HZ) len tx 0 u) (qB D cy [W] sz (fun u => [u])) (va_A [W].flatten sz)) := by
  refine q_ofMi (S := va_W) (b1 := fun u => [u]) (post := fun r u => r = qI ((lM T : Int)) ∧ MW cy mo mz msv mtx mmo mif mmg mtn mie mme mrd mas (enE T) (min (hz + 1) 8) (pushH T HZ) len tx 0 u) (by decide +kernel) (Nat.le_of_ble_eq_true rfl) ?_
  intro p e s m args below meth c Q A hx hb hml hown hg hQ hK hN hD hA H locs ls hP hS hl
  have hown : s.vm.findClass RX8 = some m.cls := hown
  have hl : lv_has ls 2 [(0, .ref (mo))] := hl
  have hW0 := hW
  obtain ⟨tu, fi, ro, sp, it, bl, hh, z, sd, bf, g, isF, mg, tn, isE, mE, rd, as9, rfl, ⟨hL, hz20, hz101⟩, ⟨hhz, hHZ⟩, hln, hbf, htx⟩ := hW
  obtain ⟨gV, gT, gC, gE, gI, gD⟩ := hG.eq hL
  obtain ⟨nc, hnc⟩ : ∃ nc : Nat, z 20 = (nc : Int) := ⟨(z 20).toNat, by omega⟩
  obtain ⟨ne, hne⟩ : ∃ ne : Nat, z 101 = (ne : Int) := ⟨(z 101).toNat, by omega⟩
  have e20 : (z 20).toNat = nc := by omega
  have e101 : (z 101).toNat = ne := by omega
  have hV : qV z := gV
  have hst : ∀ i, i < 10 → 0 ≤ z (10 + i) ∧ z (10 + i) ≤ 9 := gT
  have hc : nc ≤ 16 := e20 ▸ (gC.1 : (z 20).toNat ≤ 16)
  have hC : qWR (zC z) nc := e20 ▸ (gC.2 : qWR (zC z) (z 20).toNat)
  have he : ne ≤ 4 := e101 ▸ (gE.1 : (z 101).toNat ≤ 4)
  have hE : qWR (zE z) ne := e101 ▸ (gE.2 : qWR (zE z) (z 101).toNat)
  have hD9 : ∀ i j, i < ne → j < ne → zE z 0 i = zE z 0 j → i = j := e101 ▸ (gD : ∀ i j, i < (z 101).toNat → j < (z 101).toNat → zE z 0 i = zE z 0 j → i = j)
  have hL2 : LEq (z, (fun i => z (10 + i)), zC z, nc, zE z, ne) T := by rw [← e20, ← e101]; exact hL
  have en : nc = lN9 T := hL2.2.2.1
  have em : ne = lM T := hL2.2.2.2.2.1
  rw [fl_open] at hP hD
  have hP : va_P D vwCl [[(mo, .inr (8, [.int (qI (th)), .ref (mz), .int (qI (((hz : Nat) : Int))), .ref (msv), .int (qI (((len : Nat) : Int))), .ref (mtx), .ref (mmo), .int (qI (tu)), .ref (mif), .ref (mmg), .ref (mtn), .ref (mie), .ref (mme), .int (qz (fi)), .int (qI (ro)), .int (qI (sp)), .int (qI (it)), .int (qz (bl)), .ref (mrd), .ref (mas), .long (hh)]))], [(mz, aI cy 115 (z))], [(msv, aI cy 920 (sd))], [(mtx, aI cy 60 (bf))], [(mmo, aI cy 121 (g))], [(mif, aZ cy 16 (isF))], [(mmg, aI cy 16 (mg))], [(mtn, aI cy 16 (tn))], [(mie, aZ cy 4 (isE))], [(mme, aI cy 4 (mE))], [(mrd, aI cy 100 (rd))], [(mas, aI cy 115 (as9))]].flatten H := hP
  have hD : va_D A [[(mo, .inr (8, [.int (qI (th)), .ref (mz), .int (qI (((hz : Nat) : Int))), .ref (msv), .int (qI (((len : Nat) : Int))), .ref (mtx), .ref (mmo), .int (qI (tu)), .ref (mif), .ref (mmg), .ref (mtn), .ref (mie), .ref (mme), .int (qz (fi)), .int (qI (ro)), .int (qI (sp)), .int (qI (it)), .int (qz (bl)), .ref (mrd), .ref (mas), .long (hh)]))], [(mz, aI cy 115 (z))], [(msv, aI cy 920 (sd))], [(mtx, aI cy 60 (bf))], [(mmo, aI cy 121 (g))], [(mif, aZ cy 16 (isF))], [(mmg, aI cy 16 (mg))], [(mtn, aI cy 16 (tn))], [(mie, aZ cy 4 (isE))], [(mme, aI cy 4 (mE))], [(mrd, aI cy 100 (rd))], [(mas, aI cy 115 (as9))]].flatten := hD
  refine lv_aload_n hx hb dX8_endEdits_0 rfl (lv_at hl 0 rfl) ?_
  refine q_iconst hx hb dX8_endEdits_1 ?_
  refine pf_X8_44 hx hb hg hown hK hP hD hS 0 0 rfl rfl rfl rfl (Nat.le_of_ble_eq_true rfl) dX8_endEdits_2 (fun H locs hP hD hS => ?_)
  have hP : va_P D vwCl [[(mo, .inr (8, [.int (qI (0)), .ref (mz), .int (qI (((hz : Nat) : Int))), .ref (msv), .int (qI (((len : Nat) : Int))), .ref (mtx), .ref (mmo), .int (qI (tu)), .ref (mif), .ref (mmg), .ref (mtn), .ref (mie), .ref (mme), .int (qz (fi)), .int (qI (ro)), .int (qI (sp)), .int (qI (it)), .int (qz (bl)), .ref (mrd), .ref (mas), .long (hh)]))], [(mz, aI cy 115 (z))], [(msv, aI cy 920 (sd))], [(mtx, aI cy 60 (bf))], [(mmo, aI cy 121 (g))], [(mif, aZ cy 16 (isF))], [(mmg, aI cy 16 (mg))], [(mtn, aI cy 16 (tn))], [(mie, aZ cy 4 (isE))], [(mme, aI cy 4 (mE))], [(mrd, aI cy 100 (rd))], [(mas, aI cy 115 (as9))]].flatten H := hP
  have hD : va_D A [[(mo, .inr (8, [.int (qI (0)), .ref (mz), .int (qI (((hz : Nat) : Int))), .ref (msv), .int (qI (((len : Nat) : Int))), .ref (mtx), .ref (mmo), .int (qI (tu)), .ref (mif), .ref (mmg), .ref (mtn), .ref (mie), .ref (mme), .int (qz (fi)), .int (qI (ro)), .int (qI (sp)), .int (qI (it)), .int (qz (bl)), .ref (mrd), .ref (mas), .long (hh)]))], [(mz, aI cy 115 (z))], [(msv, aI cy 920 (sd))], [(mtx, aI cy 60 (bf))], [(mmo, aI cy 121 (g))], [(mif, aZ cy 16 (isF))], [(mmg, aI cy 16 (mg))], [(mtn, aI cy 16 (tn))], [(mie, aZ cy 4 (isE))], [(mme, aI cy 4 (mE))], [(mrd, aI cy 100 (rd))], [(mas, aI cy 115 (as9))]].flatten := hD
  refine lv_aload_n hx hb dX8_endEdits_5 rfl (lv_at hl 0 rfl) ?_
  refine q_backv [0, 1, 2] [3, 4, 5, 6, 7, 8, 9, 10, 11] (br := [[(mtx, aI cy 60 (bf))], [(mmo, aI cy 121 (g))], [(mif, aZ cy 16 (isF))], [(mmg, aI cy 16 (mg))], [(mtn, aI cy 16 (tn))], [(mie, aZ cy 4 (isE))], [(mme, aI cy 4 (mE))], [(mrd, aI cy 100 (rd))], [(mas, aI cy 115 (as9))]]) hP hD hS hA (va_runV (As := []) (rest := []) ⟨hx, hb, hml, hown, hg⟩ (c_X8_save l D cy mo mz msv mtx mmo mif mmg mtn mie mme mrd mas (0) (((len : Nat) : Int)) (tu) (fi) (ro) (sp) (it) (bl) (hh) hz (z) (sd) hhz _) (cv_X8_104 hg rfl rfl ⟨by decide, by decide⟩) ⟨q_blind, va_recv hK (fl_blk hP 0 rfl) (ci := 8) (q0 := 0) rfl rfl, q_preM _ hK hN hP hD [0, 1, 2] (by decide) rfl⟩ rfl rfl hl.1 rfl (lv_room (Nat.le_of_ble_eq_true rfl)) dX8_endEdits_6 ⟨by decide, by decide⟩) rfl rfl (by decide) (fun u_6 H locs h_6 hP hD hS => ?_)
  have hP : va_P D vwCl [[(mtx, aI cy 60 (bf))], [(mmo, aI cy 121 (g))], [(mif, aZ cy 16 (isF))], [(mmg, aI cy 16 (mg))], [(mtn, aI cy 16 (tn))], [(mie, aZ cy 4 (isE))], [(mme, aI cy 4 (mE))], [(mrd, aI cy 100 (rd))], [(mas, aI cy 115 (as9))], [(mo, .inr (8, [.int (qI (0)), .ref (mz), .int (qI (((min (hz + 1) 8 : Nat) : Int))), .ref (msv), .int (qI (((len : Nat) : Int))), .ref (mtx), .ref (mmo), .int (qI (tu)), .ref (mif), .ref (mmg), .ref (mtn), .ref (mie), .ref (mme), .int (qz (fi)), .int (qI (ro)), .int (qI (sp)), .int (qI (it)), .int (qz (bl)), .ref (mrd), .ref (mas), .long (hh)]))], [(mz, aI cy 115 (z))], [(msv, aI cy 920 (u_6))]].flatten H := hP
  have hD : va_D A [[(mtx, aI cy 60 (bf))], [(mmo, aI cy 121 (g))], [(mif, aZ cy 16 (isF))], [(mmg, aI cy 16 (mg))], [(mtn, aI cy 16 (tn))], [(mie, aZ cy 4 (isE))], [(mme, aI cy 4 (mE))], [(mrd, aI cy 100 (rd))], [(mas, aI cy 115 (as9))], [(mo, .inr (8, [.int (qI (0)), .ref (mz), .int (qI (((min (hz + 1) 8 : Nat) : Int))), .ref (msv), .int (qI (((len : Nat) : Int))), .ref (mtx), .ref (mmo), .int (qI (tu)), .ref (mif), .ref (mmg), .ref (mtn), .ref (mie), .ref (mme), .int (qz (fi)), .int (qI (ro)), .int (qI (sp)), .int (qI (it)), .int (qz (bl)), .ref (mrd), .ref (mas), .long (hh)]))], [(mz, aI cy 115 (z))], [(msv, aI cy 920 (u_6))]].flatten := hD
  refine lv_aload_n hx hb dX8_endEdits_9 rfl (lv_at hl 0 rfl) ?_
  refine gf_X8_7 hx hb hg hown hK (fl_blk hP 9 rfl) 0 rfl rfl dX8_endEdits_10 ?_
  refine q_bipush hx hb dX8_endEdits_13 (by decide) ?_
  refine q_iald (j := 101) hx hb hK (fl_blk hP 10 rfl) 0 rfl (by omega) dX8_endEdits_15 ?_
  refine lv_istore_n (lv' := [(1, .int (qI (z 101))), (0, .ref (mo))]) hx hb dX8_endEdits_16 rfl hl (by decide) rfl (fun ls hl => ?_)
  refine lv_aload_n hx hb dX8_endEdits_17 rfl (lv_at hl 1 rfl) ?_
  refine gf_X8_7 hx hb hg hown hK (fl_blk hP 9 rfl) 0 rfl rfl dX8_endEdits_18 ?_
  refine q_bipush hx hb dX8_endEdits_21 (by decide) ?_
  refine q_iconst hx hb dX8_endEdits_23 ?_
  refine qb_iast (j := 101) hx hb hK hP hD hS 10 0 rfl rfl (by omega) dX8_endEdits_24 (fun H locs hP hD hS => ?_)
  have hP : va_P D vwCl [[(mtx, aI cy 60 (bf))], [(mmo, aI cy 121 (g))], [(mif, aZ cy 16 (isF))], [(mmg, aI cy 16 (mg))], [(mtn, aI cy 16 (tn))], [(mie, aZ cy 4 (isE))], [(mme, aI cy 4 (mE))], [(mrd, aI cy 100 (rd))], [(mas, aI cy 115 (as9))], [(mo, .inr (8, [.int (qI (0)), .ref (mz), .int (qI (((min (hz + 1) 8 : Nat) : Int))), .ref (msv), .int (qI (((len : Nat) : Int))), .ref (mtx), .ref (mmo), .int (qI (tu)), .ref (mif), .ref (mmg), .ref (mtn), .ref (mie), .ref (mme), .int (qz (fi)), .int (qI (ro)), .int (qI (sp)), .int (qI (it)), .int (qz (bl)), .ref (mrd), .ref (mas), .long (hh)]))], [(mz, aI cy 115 (qu z 101 (0)))], [(msv, aI cy 920 (u_6))]].flatten H := hP
  have hD : va_D A [[(mtx, aI cy 60 (bf))], [(mmo, aI cy 121 (g))], [(mif, aZ cy 16 (isF))], [(mmg, aI cy 16 (mg))], [(mtn, aI cy 16 (tn))], [(mie, aZ cy 4 (isE))], [(mme, aI cy 4 (mE))], [(mrd, aI cy 100 (rd))], [(mas, aI cy 115 (as9))], [(mo, .inr (8, [.int (qI (0)), .ref (mz), .int (qI (((min (hz + 1) 8 : Nat) : Int))), .ref (msv), .int (qI (((len : Nat) : Int))), .ref (mtx), .ref (mmo), .int (qI (tu)), .ref (mif), .ref (mmg), .ref (mtn), .ref (mie), .ref (mme), .int (qz (fi)), .int (qI (ro)), .int (qI (sp)), .int (qI (it)), .int (qz (bl)), .ref (mrd), .ref (mas), .long (hh)]))], [(mz, aI cy 115 (qu z 101 (0)))], [(msv, aI cy 920 (u_6))]].flatten := hD
  refine lv_iload_n hx hb dX8_endEdits_25 rfl (lv_at hl 0 rfl) ?_
  have hP := fl_sub (bs' := [[(mo, .inr (8, [.int (qI (0)), .ref (mz), .int (qI (((min (hz + 1) 8 : Nat) : Int))), .ref (msv), .int (qI (((len : Nat) : Int))), .ref (mtx), .ref (mmo), .int (qI (tu)), .ref (mif), .ref (mmg), .ref (mtn), .ref (mie), .ref (mme), .int (qz (fi)), .int (qI (ro)), .int (qI (sp)), .int (qI (it)), .int (qz (bl)), .ref (mrd), .ref (mas), .long (hh)]))], [(mz, aI cy 115 (qu z 101 (0)))], [(msv, aI cy 920 (u_6))], [(mtx, aI cy 60 (bf))], [(mmo, aI cy 121 (g))], [(mif, aZ cy 16 (isF))], [(mmg, aI cy 16 (mg))], [(mtn, aI cy 16 (tn))], [(mie, aZ cy 4 (isE))], [(mme, aI cy 4 (mE))], [(mrd, aI cy 100 (rd))], [(mas, aI cy 115 (as9))]]) hP [9, 10, 11, 0, 1, 2, 3, 4, 5, 6, 7, 8] rfl
  have hD := fl_subD (bs' := [[(mo, .inr (8, [.int (qI (0)), .ref (mz), .int (qI (((min (hz + 1) 8 : Nat) : Int))), .ref (msv), .int (qI (((len : Nat) : Int))), .ref (mtx), .ref (mmo), .int (qI (tu)), .ref (mif), .ref (mmg), .ref (mtn), .ref (mie), .ref (mme), .int (qz (fi)), .int (qI (ro)), .int (qI (sp)), .int (qI (it)), .int (qz (bl)), .ref (mrd), .ref (mas), .long (hh)]))], [(mz, aI cy 115 (qu z 101 (0)))], [(msv, aI cy 920 (u_6))], [(mtx, aI cy 60 (bf))], [(mmo, aI cy 121 (g))], [(mif, aZ cy 16 (isF))], [(mmg, aI cy 16 (mg))], [(mtn, aI cy 16 (tn))], [(mie, aZ cy 4 (isE))], [(mme, aI cy 4 (mE))], [(mrd, aI cy 100 (rd))], [(mas, aI cy 115 (as9))]]) hD [9, 10, 11, 0, 1, 2, 3, 4, 5, 6, 7, 8] (by decide) rfl
  have hP : va_P D vwCl [(mdB cy mo mz msv mtx mmo mif mmg mtn mie mme mrd mas (0) ((min (hz + 1) 8)) (len) (tu) (fi) (ro) (sp) (it) (bl) (hh) (qu z 101 (0)) (u_6) (bf) (g) (isF) (mg) (tn) (isE) (mE) (rd) (as9)).flatten].flatten H := by rw [fl_open]; exact hP
  have hD : va_D A [(mdB cy mo mz msv mtx mmo mif mmg mtn mie mme mrd mas (0) ((min (hz + 1) 8)) (len) (tu) (fi) (ro) (sp) (it) (bl) (hh) (qu z 101 (0)) (u_6) (bf) (g) (isF) (mg) (tn) (isE) (mE) (rd) (as9)).flatten].flatten := by rw [fl_open]; exact hD
  exact hQ _ _ _ _ _ ((mdB cy mo mz msv mtx mmo mif mmg mtn mie mme mrd mas (0) ((min (hz + 1) 8)) (len) (tu) (fi) (ro) (sp) (it) (bl) (hh) (qu z 101 (0)) (u_6) (bf) (g) (isF) (mg) (tn) (isE) (mE) (rd) (as9)).flatten) ⟨by rw [hne, em], ⟨(tu), (fi), (ro), (sp), (it), (bl), (hh), (qu z 101 (0)), (u_6), (bf), (g), (isF), (mg), (tn), (isE), (mE), (rd), (as9), rfl, ⟨LEq.tr (en_at (by omega)) (enE_eq hL), by rw [qu_n _ _ (by omega)]; exact hz20, by rw [qu_s]; exact Int.le_refl 0⟩, ⟨by omega, mh_push hhz h_6 ⟨hL, hz20, hz101, by omega, by omega⟩ hHZ⟩, hln, hbf, htx⟩⟩ hP hD hS dX8_endEdits_26

set_option maxRecDepth 100000 in
set_option maxHeartbeats 4000000 in
theorem c_X8_settleFrom (l : Launch) (D : va_G) (cy : Nat → ClassId) (mo mz msv mtx mmo mif mmg mtn mie mme mrd mas : Nat) (T : LSt) (hz : Nat) (HZ : Nat → LSt) (len : Nat) (tx : Nat → Int) (th : Int) (W : va_W) (hG : gOk T) (hW : MW cy mo mz msv mtx mmo mif mmg mtn mie mme mrd mas T hz HZ len tx th W) (p0 : Int) (h0 : -1000 ≤ p0 ∧ p0 ≤ 1000) (sz : Nat) : qMet l yX8_settleFrom (.code yX8_settleFrom cX8_settleFrom 4 (some .int)) 8 [.ref (mo), .int (qI (p0))] D cy [W] sz (va_Qi (S := va_W) (fun r u => r = qI (((cnt (fun i => decide (lV (seT (frV T p0)) i ≠ p0)) 10 : Nat) : Int)) ∧ MW cy mo mz msv mtx mmo mif mmg mtn mie mme mrd mas (seT (frV T p0)) (min (hz + 1) 8) (pushH T HZ) len tx 0 u) (qB D cy [W] sz (fun u => [u])) (va_A [W].flatten sz)) := by
  refine q_ofMi (S := va_W) (b1 := fun u => [u]) (post := fun r u => r = qI (((cnt (fun i => decide (lV (seT (frV T p0)) i ≠ p0)) 10 : Nat) : Int)) ∧ MW cy mo mz msv mtx mmo mif mmg mtn mie mme mrd mas (seT (frV T p0)) (min (hz + 1) 8) (pushH T HZ) len tx 0 u) (by decide +kernel) (Nat.le_of_ble_eq_true rfl) ?_
  intro p e s m args below meth c Q A hx hb hml hown hg hQ hK hN hD hA H locs ls hP hS hl
  have hown : s.vm.findClass RX8 = some m.cls := hown
  have hl : lv_has ls 4 [(0, .ref (mo)), (1, .int (qI (p0)))] := hl
  have hW0 := hW
  obtain ⟨tu, fi, ro, sp, it, bl, hh, z, sd, bf, g, isF, mg, tn, isE, mE, rd, as9, rfl, ⟨hL, hz20, hz101⟩, ⟨hhz, hHZ⟩, hln, hbf, htx⟩ := hW
  obtain ⟨gV, gT, gC, gE, gI, gD⟩ := hG.eq hL
  obtain ⟨nc, hnc⟩ : ∃ nc : Nat, z 20 = (nc : Int) := ⟨(z 20).toNat, by omega⟩
  obtain ⟨ne, hne⟩ : ∃ ne : Nat, z 101 = (ne : Int) := ⟨(z 101).toNat, by omega⟩
  have e20 : (z 20).toNat = nc := by omega
  have e101 : (z 101).toNat = ne := by omega
  have hV : qV z := gV
  have hst : ∀ i, i < 10 → 0 ≤ z (10 + i) ∧ z (10 + i) ≤ 9 := gT
  have hc : nc ≤ 16 := e20 ▸ (gC.1 : (z 20).toNat ≤ 16)
  have hC : qWR (zC z) nc := e20 ▸ (gC.2 : qWR (zC z) (z 20).toNat)
  have he : ne ≤ 4 := e101 ▸ (gE.1 : (z 101).toNat ≤ 4)
  have hE : qWR (zE z) ne := e101 ▸ (gE.2 : qWR (zE z) (z 101).toNat)
  have hD9 : ∀ i j, i < ne → j < ne → zE z 0 i = zE z 0 j → i = j := e101 ▸ (gD : ∀ i j, i < (z 101).toNat → j < (z 101).toNat → zE z 0 i = zE z 0 j → i = j)
  have hL2 : LEq (z, (fun i => z (10 + i)), zC z, nc, zE z, ne) T := by rw [← e20, ← e101]; exact hL
  have en : nc = lN9 T := hL2.2.2.1
  have em : ne = lM T := hL2.2.2.2.2.1
  rw [fl_open] at hP hD
  have hP : va_P D vwCl [[(mo, .inr (8, [.int (qI (th)), .ref (mz), .int (qI (((hz : Nat) : Int))), .ref (msv), .int (qI (((len : Nat) : Int))), .ref (mtx), .ref (mmo), .int (qI (tu)), .ref (mif), .ref (mmg), .ref (mtn), .ref (mie), .ref (mme), .int (qz (fi)), .int (qI (ro)), .int (qI (sp)), .int (qI (it)), .int (qz (bl)), .ref (mrd), .ref (mas), .long (hh)]))], [(mz, aI cy 115 (z))], [(msv, aI cy 920 (sd))], [(mtx, aI cy 60 (bf))], [(mmo, aI cy 121 (g))], [(mif, aZ cy 16 (isF))], [(mmg, aI cy 16 (mg))], [(mtn, aI cy 16 (tn))], [(mie, aZ cy 4 (isE))], [(mme, aI cy 4 (mE))], [(mrd, aI cy 100 (rd))], [(mas, aI cy 115 (as9))]].flatten H := hP
  have hD : va_D A [[(mo, .inr (8, [.int (qI (th)), .ref (mz), .int (qI (((hz : Nat) : Int))), .ref (msv), .int (qI (((len : Nat) : Int))), .ref (mtx), .ref (mmo), .int (qI (tu)), .ref (mif), .ref (mmg), .ref (mtn), .ref (mie), .ref (mme), .int (qz (fi)), .int (qI (ro)), .int (qI (sp)), .int (qI (it)), .int (qz (bl)), .ref (mrd), .ref (mas), .long (hh)]))], [(mz, aI cy 115 (z))], [(msv, aI cy 920 (sd))], [(mtx, aI cy 60 (bf))], [(mmo, aI cy 121 (g))], [(mif, aZ cy 16 (isF))], [(mmg, aI cy 16 (mg))], [(mtn, aI cy 16 (tn))], [(mie, aZ cy 4 (isE))], [(mme, aI cy 4 (mE))], [(mrd, aI cy 100 (rd))], [(mas, aI cy 115 (as9))]].flatten := hD
  refine lv_aload_n hx hb dX8_settleFrom_0 rfl (lv_at hl 0 rfl) ?_
  refine lv_iload_n hx hb dX8_settleFrom_1 rfl (lv_at hl 1 rfl) ?_
  refine q_sipush hx hb dX8_settleFrom_2 (by decide) ?_
  refine q_sipush hx hb dX8_settleFrom_5 (by decide) ?_
  refine q_readz (va_runS (As := [.int (qI (p0)), .int (qI (-1000)), .int (qI (1000))]) (rest := [.ref (mo)]) ⟨hx, hb, hml, hown, hg⟩ (c_X8_within l D cy _ _ _ (by omega)) (cs_X8_48 hg rfl rfl ⟨by decide, by decide⟩) ⟨q_blind0, q_preR _ hK hN hP [] rfl⟩ rfl rfl hl.1 rfl (lv_room (Nat.le_of_ble_eq_true rfl)) dX8_settleFrom_8 ⟨by decide, by decide⟩) (fun b_8 h_8 => ?_)
  refine q_ifz_eq (tgt := 18) hx hb dX8_settleFrom_11 (by decide) (fun c_11 => ?_) (fun c_11 => ?_)
  · skip
    have g_11 := mt (h_8).mpr (by rw [c_11]; decide)
    exfalso; omega
  · skip
    have g_11 := (h_8).mp c_11
    refine q_iconst hx hb dX8_settleFrom_14 ?_
    refine lv_goto (tgt := 19) hx hb dX8_settleFrom_15 (by decide) ?_
    refine pf_X8_44 hx hb hg hown hK hP hD hS 0 0 rfl rfl rfl rfl (Nat.le_of_ble_eq_true rfl) dX8_settleFrom_19 (fun H locs hP hD hS => ?_)
    have hP : va_P D vwCl [[(mo, .inr (8, [.int (qI (0)), .ref (mz), .int (qI (((hz : Nat) : Int))), .ref (msv), .int (qI (((len : Nat) : Int))), .ref (mtx), .ref (mmo), .int (qI (tu)), .ref (mif), .ref (mmg), .ref (mtn), .ref (mie), .ref (mme), .int (qz (fi)), .int (qI (ro)), .int (qI (sp)), .int (qI (it)), .int (qz (bl)), .ref (mrd), .ref (mas), .long (hh)]))], [(mz, aI cy 115 (z))], [(msv, aI cy 920 (sd))], [(mtx, aI cy 60 (bf))], [(mmo, aI cy 121 (g))], [(mif, aZ cy 16 (isF))], [(mmg, aI cy 16 (mg))], [(mtn, aI cy 16 (tn))], [(mie, aZ cy 4 (isE))], [(mme, aI cy 4 (mE))], [(mrd, aI cy 100 (rd))], [(mas, aI cy 115 (as9))]].flatten H := hP
    have hD : va_D A [[(mo, .inr (8, [.int (qI (0)), .ref (mz), .int (qI (((hz : Nat) : Int))), .ref (msv), .int (qI (((len : Nat) : Int))), .ref (mtx), .ref (mmo), .int (qI (tu)), .ref (mif), .ref (mmg), .ref (mtn), .ref (mie), .ref (mme), .int (qz (fi)), .int (qI (ro)), .int (qI (sp)), .int (qI (it)), .int (qz (bl)), .ref (mrd), .ref (mas), .long (hh)]))], [(mz, aI cy 115 (z))], [(msv, aI cy 920 (sd))], [(mtx, aI cy 60 (bf))], [(mmo, aI cy 121 (g))], [(mif, aZ cy 16 (isF))], [(mmg, aI cy 16 (mg))], [(mtn, aI cy 16 (tn))], [(mie, aZ cy 4 (isE))], [(mme, aI cy 4 (mE))], [(mrd, aI cy 100 (rd))], [(mas, aI cy 115 (as9))]].flatten := hD
    refine lv_aload_n hx hb dX8_settleFrom_22 rfl (lv_at hl 0 rfl) ?_
    refine gf_X8_44 hx hb hg hown hK (fl_blk hP 0 rfl) 0 rfl rfl dX8_settleFrom_23 ?_
    refine q_if_le (tgt := 31) hx hb dX8_settleFrom_26 (by decide) (by omega) (fun c_26 => ?_) (fun c_26 => ?_)
    · skip
      refine lv_aload_n hx hb dX8_settleFrom_31 rfl (lv_at hl 0 rfl) ?_
      refine q_backv [0, 1, 2] [3, 4, 5, 6, 7, 8, 9, 10, 11] (br := [[(mtx, aI cy 60 (bf))], [(mmo, aI cy 121 (g))], [(mif, aZ cy 16 (isF))], [(mmg, aI cy 16 (mg))], [(mtn, aI cy 16 (tn))], [(mie, aZ cy 4 (isE))], [(mme, aI cy 4 (mE))], [(mrd, aI cy 100 (rd))], [(mas, aI cy 115 (as9))]]) hP hD hS hA (va_runV (As := []) (rest := []) ⟨hx, hb, hml, hown, hg⟩ (c_X8_save l D cy mo mz msv mtx mmo mif mmg mtn mie mme mrd mas (0) (((len : Nat) : Int)) (tu) (fi) (ro) (sp) (it) (bl) (hh) hz (z) (sd) hhz _) (cv_X8_104 hg rfl rfl ⟨by decide, by decide⟩) ⟨q_blind, va_recv hK (fl_blk hP 0 rfl) (ci := 8) (q0 := 0) rfl rfl, q_preM _ hK hN hP hD [0, 1, 2] (by decide) rfl⟩ rfl rfl hl.1 rfl (lv_room (Nat.le_of_ble_eq_true rfl)) dX8_settleFrom_32 ⟨by decide, by decide⟩) rfl rfl (by decide) (fun u_32 H locs h_32 hP hD hS => ?_)
      have hP : va_P D vwCl [[(mtx, aI cy 60 (bf))], [(mmo, aI cy 121 (g))], [(mif, aZ cy 16 (isF))], [(mmg, aI cy 16 (mg))], [(mtn, aI cy 16 (tn))], [(mie, aZ cy 4 (isE))], [(mme, aI cy 4 (mE))], [(mrd, aI cy 100 (rd))], [(mas, aI cy 115 (as9))], [(mo, .inr (8, [.int (qI (0)), .ref (mz), .int (qI (((min (hz + 1) 8 : Nat) : Int))), .ref (msv), .int (qI (((len : Nat) : Int))), .ref (mtx), .ref (mmo), .int (qI (tu)), .ref (mif), .ref (mmg), .ref (mtn), .ref (mie), .ref (mme), .int (qz (fi)), .int (qI (ro)), .int (qI (sp)), .int (qI (it)), .int (qz (bl)), .ref (mrd), .ref (mas), .long (hh)]))], [(mz, aI cy 115 (z))], [(msv, aI cy 920 (u_32))]].flatten H := hP
      have hD : va_D A [[(mtx, aI cy 60 (bf))], [(mmo, aI cy 121 (g))], [(mif, aZ cy 16 (isF))], [(mmg, aI cy 16 (mg))], [(mtn, aI cy 16 (tn))], [(mie, aZ cy 4 (isE))], [(mme, aI cy 4 (mE))], [(mrd, aI cy 100 (rd))], [(mas, aI cy 115 (as9))], [(mo, .inr (8, [.int (qI (0)), .ref (mz), .int (qI (((min (hz + 1) 8 : Nat) : Int))), .ref (msv), .int (qI (((len : Nat) : Int))), .ref (mtx), .ref (mmo), .int (qI (tu)), .ref (mif), .ref (mmg), .ref (mtn), .ref (mie), .ref (mme), .int (qz (fi)), .int (qI (ro)), .int (qI (sp)), .int (qI (it)), .int (qz (bl)), .ref (mrd), .ref (mas), .long (hh)]))], [(mz, aI cy 115 (z))], [(msv, aI cy 920 (u_32))]].flatten := hD
      refine q_iconst hx hb dX8_settleFrom_35 ?_
      refine lv_istore_n (lv' := [(2, .int (qI (0))), (0, .ref (mo)), (1, .int (qI (p0)))]) hx hb dX8_settleFrom_36 rfl hl (by decide) rfl (fun ls hl => ?_)
      have L_37 : ∀ (n_37 k : Nat) (z1 : Nat → Int), k ≤ 10 → 10 + 1 ≤ k + n_37 → (∀ m, z1 m = if m < k then p0 else z m) → ∀ (H : Heap) (locs : List Loc) (ls : Array Slot), va_P D vwCl [[(mtx, aI cy 60 (bf))], [(mmo, aI cy 121 (g))], [(mif, aZ cy 16 (isF))], [(mmg, aI cy 16 (mg))], [(mtn, aI cy 16 (tn))], [(mie, aZ cy 4 (isE))], [(mme, aI cy 4 (mE))], [(mrd, aI cy 100 (rd))], [(mas, aI cy 115 (as9))], [(mo, .inr (8, [.int (qI (0)), .ref (mz), .int (qI (((min (hz + 1) 8 : Nat) : Int))), .ref (msv), .int (qI (((len : Nat) : Int))), .ref (mtx), .ref (mmo), .int (qI (tu)), .ref (mif), .ref (mmg), .ref (mtn), .ref (mie), .ref (mme), .int (qz (fi)), .int (qI (ro)), .int (qI (sp)), .int (qI (it)), .int (qz (bl)), .ref (mrd), .ref (mas), .long (hh)]))], [(mz, aI cy 115 (z1))], [(msv, aI cy 920 (u_32))]].flatten H → va_D A [[(mtx, aI cy 60 (bf))], [(mmo, aI cy 121 (g))], [(mif, aZ cy 16 (isF))], [(mmg, aI cy 16 (mg))], [(mtn, aI cy 16 (tn))], [(mie, aZ cy 4 (isE))], [(mme, aI cy 4 (mE))], [(mrd, aI cy 100 (rd))], [(mas, aI cy 115 (as9))], [(mo, .inr (8, [.int (qI (0)), .ref (mz), .int (qI (((min (hz + 1) 8 : Nat) : Int))), .ref (msv), .int (qI (((len : Nat) : Int))), .ref (mtx), .ref (mmo), .int (qI (tu)), .ref (mif), .ref (mmg), .ref (mtn), .ref (mie), .ref (mme), .int (qz (fi)), .int (qI (ro)), .int (qI (sp)), .int (qI (it)), .int (qz (bl)), .ref (mrd), .ref (mas), .long (hh)]))], [(mz, aI cy 115 (z1))], [(msv, aI cy 920 (u_32))]].flatten → va_S A s.heap H locs → lv_has ls 4 [(0, .ref (mo)), (1, .int (qI (p0))), (2, .int (qI (((k : Nat) : Int))))] → W p l e (qrm 8) s m args below meth c H locs 0 0 Q (F0 m 37 ls []) := by
        intro n_37
        induction n_37 with
        | zero => intro k _ h1 h2; exact absurd h2 (by omega)
        | succ n_37 ih_37 =>
          intro k z1 hk_37 hn_37 hz1 H locs ls hP hD hS hl
          refine lv_iload_n hx hb dX8_settleFrom_37 rfl (lv_at hl 2 rfl) ?_
          refine q_bipush hx hb dX8_settleFrom_38 (by decide) ?_
          refine q_icmp_ge (tgt := 56) hx hb dX8_settleFrom_40 (by decide) (by omega) (fun c_40 => ?_) (fun c_40 => ?_)
          · skip
            have k9 : k = 10 := by omega
            subst k9
            have hS0 : LEq (zS (z1)) (frV T p0) := LEq.tr (fr_at (by omega) hz1) (frV_eq hL p0)
            have gS0 := (frV_ok hG h0).eq hS0
            obtain ⟨n0, hn0⟩ : ∃ n0 : Nat, (z1) 20 = (n0 : Int) := ⟨((z1) 20).toNat, by have q := (show z1 20 = z 20 by rw [hz1, if_neg (by decide)]); omega⟩
            obtain ⟨m0, hm0⟩ : ∃ m0 : Nat, (z1) 101 = (m0 : Int) := ⟨((z1) 101).toNat, by have q := (show z1 101 = z 101 by rw [hz1, if_neg (by decide)]); omega⟩
            have n20 : ((z1) 20).toNat = n0 := by omega
            have n101 : ((z1) 101).toNat = m0 := by omega
            have hV0 : qV (z1) := gS0.1
            have hst0 : ∀ i, i < 10 → 0 ≤ (z1) (10 + i) ∧ (z1) (10 + i) ≤ 9 := gS0.2.1
            have hc0 : n0 ≤ 16 := n20 ▸ (gS0.2.2.1.1 : ((z1) 20).toNat ≤ 16)
            have hC0 : qWR (zC (z1)) n0 := n20 ▸ (gS0.2.2.1.2 : qWR (zC (z1)) ((z1) 20).toNat)
            have he0 : m0 ≤ 4 := n101 ▸ (gS0.2.2.2.1.1 : ((z1) 101).toNat ≤ 4)
            have hE0 : qWR (zE (z1)) m0 := n101 ▸ (gS0.2.2.2.1.2 : qWR (zE (z1)) ((z1) 101).toNat)
            refine lv_aload_n hx hb dX8_settleFrom_56 rfl (lv_at hl 0 rfl) ?_
            refine q_backv [9, 10, 1, 2, 3, 4, 5, 6] [0, 7, 8, 11] (br := [[(mtx, aI cy 60 (bf))], [(mrd, aI cy 100 (rd))], [(mas, aI cy 115 (as9))], [(msv, aI cy 920 (u_32))]]) hP hD hS hA (va_runV (As := []) (rest := []) ⟨hx, hb, hml, hown, hg⟩ (c_X8_settle l D cy mo mz msv mtx mmo mif mmg mtn mie mme mrd mas (0) (((min (hz + 1) 8 : Nat) : Int)) (((len : Nat) : Int)) (tu) (fi) (ro) (sp) (it) (bl) (hh) (z1) n0 m0 (g) (isF) (mg) (tn) (isE) (mE) hn0 hm0 hc0 he0 hC0 hE0 hV0 hst0 _) (cv_X8_111 hg rfl rfl ⟨by decide, by decide⟩) ⟨q_blind, va_recv hK (fl_blk hP 9 rfl) (ci := 8) (q0 := 0) rfl rfl, q_preM _ hK hN hP hD [9, 10, 1, 2, 3, 4, 5, 6] (by decide) rfl⟩ rfl rfl hl.1 rfl (lv_room (Nat.le_of_ble_eq_true rfl)) dX8_settleFrom_57 ⟨by decide, by decide⟩) rfl rfl (by decide) (fun u_57 H locs h_57 hP hD hS => ?_)
            have hP : va_P D vwCl [[(mtx, aI cy 60 (bf))], [(mrd, aI cy 100 (rd))], [(mas, aI cy 115 (as9))], [(msv, aI cy 920 (u_32))], [(mo, .inr (8, [.int (qI (0)), .ref (mz), .int (qI (((min (hz + 1) 8 : Nat) : Int))), .ref (msv), .int (qI (((len : Nat) : Int))), .ref (mtx), .ref (mmo), .int (qI (u_57.2.2.2.1)), .ref (mif), .ref (mmg), .ref (mtn), .ref (mie), .ref (mme), .int (qz (u_57.2.2.2.2.2.2.2.2.2.1)), .int (qI (u_57.2.2.2.2.2.2.2.2.2.2)), .int (qI (sp)), .int (qI (it)), .int (qz (bl)), .ref (mrd), .ref (mas), .long (hh)]))], [(mz, aI cy 115 (u_57.1))], [(mmo, aI cy 121 (u_57.2.1))], [(mif, aZ cy 16 (u_57.2.2.2.2.1))], [(mmg, aI cy 16 (u_57.2.2.2.2.2.1))], [(mtn, aI cy 16 (u_57.2.2.2.2.2.2.1))], [(mie, aZ cy 4 (u_57.2.2.2.2.2.2.2.1))], [(mme, aI cy 4 (u_57.2.2.2.2.2.2.2.2.1))]].flatten H := hP
            have hD : va_D A [[(mtx, aI cy 60 (bf))], [(mrd, aI cy 100 (rd))], [(mas, aI cy 115 (as9))], [(msv, aI cy 920 (u_32))], [(mo, .inr (8, [.int (qI (0)), .ref (mz), .int (qI (((min (hz + 1) 8 : Nat) : Int))), .ref (msv), .int (qI (((len : Nat) : Int))), .ref (mtx), .ref (mmo), .int (qI (u_57.2.2.2.1)), .ref (mif), .ref (mmg), .ref (mtn), .ref (mie), .ref (mme), .int (qz (u_57.2.2.2.2.2.2.2.2.2.1)), .int (qI (u_57.2.2.2.2.2.2.2.2.2.2)), .int (qI (sp)), .int (qI (it)), .int (qz (bl)), .ref (mrd), .ref (mas), .long (hh)]))], [(mz, aI cy 115 (u_57.1))], [(mmo, aI cy 121 (u_57.2.1))], [(mif, aZ cy 16 (u_57.2.2.2.2.1))], [(mmg, aI cy 16 (u_57.2.2.2.2.2.1))], [(mtn, aI cy 16 (u_57.2.2.2.2.2.2.1))], [(mie, aZ cy 4 (u_57.2.2.2.2.2.2.2.1))], [(mme, aI cy 4 (u_57.2.2.2.2.2.2.2.2.1))]].flatten := hD
            have fin9 := (mset_fin hS0 n20 n101 hn0 hm0 hc0 he0 h_57.1).1
            have gv9 : qV u_57.1 := ((seT_gOk (frV_ok hG h0)).eq fin9).1
            refine q_iconst hx hb dX8_settleFrom_60 ?_
            refine lv_istore_n (lv' := [(2, .int (qI (0))), (0, .ref (mo)), (1, .int (qI (p0)))]) hx hb dX8_settleFrom_61 rfl hl (by decide) rfl (fun ls hl => ?_)
            refine q_iconst hx hb dX8_settleFrom_62 ?_
            refine lv_istore_n (lv' := [(3, .int (qI (0))), (2, .int (qI (0))), (0, .ref (mo)), (1, .int (qI (p0)))]) hx hb dX8_settleFrom_63 rfl hl (by decide) rfl (fun ls hl => ?_)
            have L_64 : ∀ (n_64 k : Nat) (y : Nat), k ≤ 10 → 10 + 1 ≤ k + n_64 → (y = cnt (fun i => decide (u_57.1 i ≠ p0)) k) → (y ≤ k) → ∀ (H : Heap) (locs : List Loc) (ls : Array Slot), va_P D vwCl [[(mtx, aI cy 60 (bf))], [(mrd, aI cy 100 (rd))], [(mas, aI cy 115 (as9))], [(msv, aI cy 920 (u_32))], [(mo, .inr (8, [.int (qI (0)), .ref (mz), .int (qI (((min (hz + 1) 8 : Nat) : Int))), .ref (msv), .int (qI (((len : Nat) : Int))), .ref (mtx), .ref (mmo), .int (qI (u_57.2.2.2.1)), .ref (mif), .ref (mmg), .ref (mtn), .ref (mie), .ref (mme), .int (qz (u_57.2.2.2.2.2.2.2.2.2.1)), .int (qI (u_57.2.2.2.2.2.2.2.2.2.2)), .int (qI (sp)), .int (qI (it)), .int (qz (bl)), .ref (mrd), .ref (mas), .long (hh)]))], [(mz, aI cy 115 (u_57.1))], [(mmo, aI cy 121 (u_57.2.1))], [(mif, aZ cy 16 (u_57.2.2.2.2.1))], [(mmg, aI cy 16 (u_57.2.2.2.2.2.1))], [(mtn, aI cy 16 (u_57.2.2.2.2.2.2.1))], [(mie, aZ cy 4 (u_57.2.2.2.2.2.2.2.1))], [(mme, aI cy 4 (u_57.2.2.2.2.2.2.2.2.1))]].flatten H → va_D A [[(mtx, aI cy 60 (bf))], [(mrd, aI cy 100 (rd))], [(mas, aI cy 115 (as9))], [(msv, aI cy 920 (u_32))], [(mo, .inr (8, [.int (qI (0)), .ref (mz), .int (qI (((min (hz + 1) 8 : Nat) : Int))), .ref (msv), .int (qI (((len : Nat) : Int))), .ref (mtx), .ref (mmo), .int (qI (u_57.2.2.2.1)), .ref (mif), .ref (mmg), .ref (mtn), .ref (mie), .ref (mme), .int (qz (u_57.2.2.2.2.2.2.2.2.2.1)), .int (qI (u_57.2.2.2.2.2.2.2.2.2.2)), .int (qI (sp)), .int (qI (it)), .int (qz (bl)), .ref (mrd), .ref (mas), .long (hh)]))], [(mz, aI cy 115 (u_57.1))], [(mmo, aI cy 121 (u_57.2.1))], [(mif, aZ cy 16 (u_57.2.2.2.2.1))], [(mmg, aI cy 16 (u_57.2.2.2.2.2.1))], [(mtn, aI cy 16 (u_57.2.2.2.2.2.2.1))], [(mie, aZ cy 4 (u_57.2.2.2.2.2.2.2.1))], [(mme, aI cy 4 (u_57.2.2.2.2.2.2.2.2.1))]].flatten → va_S A s.heap H locs → lv_has ls 4 [(0, .ref (mo)), (1, .int (qI (p0))), (2, .int (qI (((y : Nat) : Int)))), (3, .int (qI (((k : Nat) : Int))))] → W p l e (qrm 8) s m args below meth c H locs 0 0 Q (F0 m 64 ls []) := by
              intro n_64
              induction n_64 with
              | zero => intro k _ h1 h2; exact absurd h2 (by omega)
              | succ n_64 ih_64 =>
                intro k y hk_64 hn_64 hy hy2 H locs ls hP hD hS hl
                refine lv_iload_n hx hb dX8_settleFrom_64 rfl (lv_at hl 3 rfl) ?_
                refine q_bipush hx hb dX8_settleFrom_65 (by decide) ?_
                refine q_icmp_ge (tgt := 94) hx hb dX8_settleFrom_67 (by decide) (by omega) (fun c_67 => ?_) (fun c_67 => ?_)
                · skip
                  refine lv_iload_n hx hb dX8_settleFrom_94 rfl (lv_at hl 2 rfl) ?_
                  have hP := fl_sub (bs' := [[(mo, .inr (8, [.int (qI (0)), .ref (mz), .int (qI (((min (hz + 1) 8 : Nat) : Int))), .ref (msv), .int (qI (((len : Nat) : Int))), .ref (mtx), .ref (mmo), .int (qI (u_57.2.2.2.1)), .ref (mif), .ref (mmg), .ref (mtn), .ref (mie), .ref (mme), .int (qz (u_57.2.2.2.2.2.2.2.2.2.1)), .int (qI (u_57.2.2.2.2.2.2.2.2.2.2)), .int (qI (sp)), .int (qI (it)), .int (qz (bl)), .ref (mrd), .ref (mas), .long (hh)]))], [(mz, aI cy 115 (u_57.1))], [(msv, aI cy 920 (u_32))], [(mtx, aI cy 60 (bf))], [(mmo, aI cy 121 (u_57.2.1))], [(mif, aZ cy 16 (u_57.2.2.2.2.1))], [(mmg, aI cy 16 (u_57.2.2.2.2.2.1))], [(mtn, aI cy 16 (u_57.2.2.2.2.2.2.1))], [(mie, aZ cy 4 (u_57.2.2.2.2.2.2.2.1))], [(mme, aI cy 4 (u_57.2.2.2.2.2.2.2.2.1))], [(mrd, aI cy 100 (rd))], [(mas, aI cy 115 (as9))]]) hP [4, 5, 3, 0, 6, 7, 8, 9, 10, 11, 1, 2] rfl
                  have hD := fl_subD (bs' := [[(mo, .inr (8, [.int (qI (0)), .ref (mz), .int (qI (((min (hz + 1) 8 : Nat) : Int))), .ref (msv), .int (qI (((len : Nat) : Int))), .ref (mtx), .ref (mmo), .int (qI (u_57.2.2.2.1)), .ref (mif), .ref (mmg), .ref (mtn), .ref (mie), .ref (mme), .int (qz (u_57.2.2.2.2.2.2.2.2.2.1)), .int (qI (u_57.2.2.2.2.2.2.2.2.2.2)), .int (qI (sp)), .int (qI (it)), .int (qz (bl)), .ref (mrd), .ref (mas), .long (hh)]))], [(mz, aI cy 115 (u_57.1))], [(msv, aI cy 920 (u_32))], [(mtx, aI cy 60 (bf))], [(mmo, aI cy 121 (u_57.2.1))], [(mif, aZ cy 16 (u_57.2.2.2.2.1))], [(mmg, aI cy 16 (u_57.2.2.2.2.2.1))], [(mtn, aI cy 16 (u_57.2.2.2.2.2.2.1))], [(mie, aZ cy 4 (u_57.2.2.2.2.2.2.2.1))], [(mme, aI cy 4 (u_57.2.2.2.2.2.2.2.2.1))], [(mrd, aI cy 100 (rd))], [(mas, aI cy 115 (as9))]]) hD [4, 5, 3, 0, 6, 7, 8, 9, 10, 11, 1, 2] (by decide) rfl
                  have hP : va_P D vwCl [(mdB cy mo mz msv mtx mmo mif mmg mtn mie mme mrd mas (0) ((min (hz + 1) 8)) (len) (u_57.2.2.2.1) (u_57.2.2.2.2.2.2.2.2.2.1) (u_57.2.2.2.2.2.2.2.2.2.2) (sp) (it) (bl) (hh) (u_57.1) (u_32) (bf) (u_57.2.1) (u_57.2.2.2.2.1) (u_57.2.2.2.2.2.1) (u_57.2.2.2.2.2.2.1) (u_57.2.2.2.2.2.2.2.1) (u_57.2.2.2.2.2.2.2.2.1) (rd) (as9)).flatten].flatten H := by rw [fl_open]; exact hP
                  have hD : va_D A [(mdB cy mo mz msv mtx mmo mif mmg mtn mie mme mrd mas (0) ((min (hz + 1) 8)) (len) (u_57.2.2.2.1) (u_57.2.2.2.2.2.2.2.2.2.1) (u_57.2.2.2.2.2.2.2.2.2.2) (sp) (it) (bl) (hh) (u_57.1) (u_32) (bf) (u_57.2.1) (u_57.2.2.2.2.1) (u_57.2.2.2.2.2.1) (u_57.2.2.2.2.2.2.1) (u_57.2.2.2.2.2.2.2.1) (u_57.2.2.2.2.2.2.2.2.1) (rd) (as9)).flatten].flatten := by rw [fl_open]; exact hD
                  exact hQ _ _ _ _ _ ((mdB cy mo mz msv mtx mmo mif mmg mtn mie mme mrd mas (0) ((min (hz + 1) 8)) (len) (u_57.2.2.2.1) (u_57.2.2.2.2.2.2.2.2.2.1) (u_57.2.2.2.2.2.2.2.2.2.2) (sp) (it) (bl) (hh) (u_57.1) (u_32) (bf) (u_57.2.1) (u_57.2.2.2.2.1) (u_57.2.2.2.2.2.1) (u_57.2.2.2.2.2.2.1) (u_57.2.2.2.2.2.2.2.1) (u_57.2.2.2.2.2.2.2.2.1) (rd) (as9)).flatten) ⟨by rw [hy, show k = 10 by omega]; exact congrArg (fun n : Nat => qI (n : Int)) (cnt_ext 10 (fun i hi => by show decide (u_57.1 i ≠ p0) = decide (lV (seT (frV T p0)) i ≠ p0); rw [show u_57.1 i = lV (seT (frV T p0)) i from fin9.1 i hi])), ⟨(u_57.2.2.2.1), (u_57.2.2.2.2.2.2.2.2.2.1), (u_57.2.2.2.2.2.2.2.2.2.2), (sp), (it), (bl), (hh), (u_57.1), (u_32), (bf), (u_57.2.1), (u_57.2.2.2.2.1), (u_57.2.2.2.2.2.1), (u_57.2.2.2.2.2.2.1), (u_57.2.2.2.2.2.2.2.1), (u_57.2.2.2.2.2.2.2.2.1), (rd), (as9), rfl, mset_fin hS0 n20 n101 hn0 hm0 hc0 he0 h_57.1, ⟨by omega, mh_push hhz h_32 ⟨hL, hz20, hz101, by omega, by omega⟩ hHZ⟩, hln, hbf, htx⟩⟩ hP hD hS dX8_settleFrom_95
                · skip
                  refine lv_iload_n hx hb dX8_settleFrom_70 rfl (lv_at hl 2 rfl) ?_
                  refine lv_aload_n hx hb dX8_settleFrom_71 rfl (lv_at hl 0 rfl) ?_
                  refine gf_X8_7 hx hb hg hown hK (fl_blk hP 4 rfl) 0 rfl rfl dX8_settleFrom_72 ?_
                  refine lv_iload_n hx hb dX8_settleFrom_75 rfl (lv_at hl 3 rfl) ?_
                  refine q_iald (j := k) hx hb hK (fl_blk hP 5 rfl) 0 rfl (by omega) dX8_settleFrom_76 ?_
                  refine lv_iload_n hx hb dX8_settleFrom_77 rfl (lv_at hl 1 rfl) ?_
                  have b1 := gv9 k (by omega)
                  refine q_icmp_eq (tgt := 85) hx hb dX8_settleFrom_78 (by decide) (by omega) (fun c_78 => ?_) (fun c_78 => ?_)
                  · skip
                    refine q_iconst hx hb dX8_settleFrom_85 ?_
                    refine q_iadd hx hb dX8_settleFrom_86 ?_
                    refine lv_istore_n (lv' := [(2, .int (qI ((((y : Nat) : Int)) + (0)))), (0, .ref (mo)), (1, .int (qI (p0))), (3, .int (qI (((k : Nat) : Int))))]) hx hb dX8_settleFrom_87 rfl hl (by decide) rfl (fun ls hl => ?_)
                    refine q_iinc (k := 3) (lv' := [(3, .int (qI ((((k : Nat) : Int)) + (1)))), (2, .int (qI ((((y : Nat) : Int)) + (0)))), (0, .ref (mo)), (1, .int (qI (p0)))]) hx hb dX8_settleFrom_88 hl rfl (by decide) rfl (fun ls hl => ?_)
                    refine lv_goto (tgt := 64) hx hb dX8_settleFrom_91 (by decide) ?_
                    exact ih_64 (k + 1) ((y + 0)) (by omega) (by omega) (cnt_no hy (decide_eq_false (by omega))) (by omega) _ _ _ hP hD hS (lv_sub hl [2, 3, 1, 0] rfl)
                  · skip
                    refine q_iconst hx hb dX8_settleFrom_81 ?_
                    refine lv_goto (tgt := 86) hx hb dX8_settleFrom_82 (by decide) ?_
                    refine q_iadd hx hb dX8_settleFrom_86 ?_
                    refine lv_istore_n (lv' := [(2, .int (qI ((((y : Nat) : Int)) + (1)))), (0, .ref (mo)), (1, .int (qI (p0))), (3, .int (qI (((k : Nat) : Int))))]) hx hb dX8_settleFrom_87 rfl hl (by decide) rfl (fun ls hl => ?_)
                    refine q_iinc (k := 3) (lv' := [(3, .int (qI ((((k : Nat) : Int)) + (1)))), (2, .int (qI ((((y : Nat) : Int)) + (1)))), (0, .ref (mo)), (1, .int (qI (p0)))]) hx hb dX8_settleFrom_88 hl rfl (by decide) rfl (fun ls hl => ?_)
                    refine lv_goto (tgt := 64) hx hb dX8_settleFrom_91 (by decide) ?_
                    exact ih_64 (k + 1) ((y + 1)) (by omega) (by omega) (cnt_up hy (decide_eq_true c_78)) (by omega) _ _ _ hP hD hS (lv_sub hl [2, 3, 1, 0] rfl)
            exact L_64 (10 + 1) (0) (0) (by omega) (by omega) rfl (by omega) _ _ _ hP hD hS (lv_sub hl [2, 3, 1, 0] rfl)
          · skip
            refine lv_aload_n hx hb dX8_settleFrom_43 rfl (lv_at hl 0 rfl) ?_
            refine gf_X8_7 hx hb hg hown hK (fl_blk hP 9 rfl) 0 rfl rfl dX8_settleFrom_44 ?_
            refine lv_iload_n hx hb dX8_settleFrom_47 rfl (lv_at hl 2 rfl) ?_
            refine lv_iload_n hx hb dX8_settleFrom_48 rfl (lv_at hl 1 rfl) ?_
            refine qb_iast (j := k) hx hb hK hP hD hS 10 0 rfl rfl (by omega) dX8_settleFrom_49 (fun H locs hP hD hS => ?_)
            have hP : va_P D vwCl [[(mtx, aI cy 60 (bf))], [(mmo, aI cy 121 (g))], [(mif, aZ cy 16 (isF))], [(mmg, aI cy 16 (mg))], [(mtn, aI cy 16 (tn))], [(mie, aZ cy 4 (isE))], [(mme, aI cy 4 (mE))], [(mrd, aI cy 100 (rd))], [(mas, aI cy 115 (as9))], [(mo, .inr (8, [.int (qI (0)), .ref (mz), .int (qI (((min (hz + 1) 8 : Nat) : Int))), .ref (msv), .int (qI (((len : Nat) : Int))), .ref (mtx), .ref (mmo), .int (qI (tu)), .ref (mif), .ref (mmg), .ref (mtn), .ref (mie), .ref (mme), .int (qz (fi)), .int (qI (ro)), .int (qI (sp)), .int (qI (it)), .int (qz (bl)), .ref (mrd), .ref (mas), .long (hh)]))], [(mz, aI cy 115 (qu z1 k (p0)))], [(msv, aI cy 920 (u_32))]].flatten H := hP
            have hD : va_D A [[(mtx, aI cy 60 (bf))], [(mmo, aI cy 121 (g))], [(mif, aZ cy 16 (isF))], [(mmg, aI cy 16 (mg))], [(mtn, aI cy 16 (tn))], [(mie, aZ cy 4 (isE))], [(mme, aI cy 4 (mE))], [(mrd, aI cy 100 (rd))], [(mas, aI cy 115 (as9))], [(mo, .inr (8, [.int (qI (0)), .ref (mz), .int (qI (((min (hz + 1) 8 : Nat) : Int))), .ref (msv), .int (qI (((len : Nat) : Int))), .ref (mtx), .ref (mmo), .int (qI (tu)), .ref (mif), .ref (mmg), .ref (mtn), .ref (mie), .ref (mme), .int (qz (fi)), .int (qI (ro)), .int (qI (sp)), .int (qI (it)), .int (qz (bl)), .ref (mrd), .ref (mas), .long (hh)]))], [(mz, aI cy 115 (qu z1 k (p0)))], [(msv, aI cy 920 (u_32))]].flatten := hD
            refine q_iinc (k := 2) (lv' := [(2, .int (qI ((((k : Nat) : Int)) + (1)))), (0, .ref (mo)), (1, .int (qI (p0)))]) hx hb dX8_settleFrom_50 hl rfl (by decide) rfl (fun ls hl => ?_)
            refine lv_goto (tgt := 37) hx hb dX8_settleFrom_53 (by decide) ?_
            exact ih_37 (k + 1) _ (by omega) (by omega) (fr_step hz1) _ _ _ hP hD hS (lv_sub hl [1, 2, 0] rfl)
      exact L_37 (10 + 1) (0) _ (by omega) (by omega) (fun m => (if_neg (Nat.not_lt_zero m)).symm) _ _ _ hP hD hS (lv_sub hl [1, 2, 0] rfl)
    · skip
      exact absurd c_26 (by decide)

set_option maxRecDepth 100000 in
set_option maxHeartbeats 4000000 in
theorem c_X8_settleFrom_no1 (l : Launch) (D : va_G) (cy : Nat → ClassId) (mo mz msv mtx mmo mif mmg mtn mie mme mrd mas : Nat) (T : LSt) (hz : Nat) (HZ : Nat → LSt) (len : Nat) (tx : Nat → Int) (th : Int) (W : va_W) (hG : gOk T) (hW : MW cy mo mz msv mtx mmo mif mmg mtn mie mme mrd mas T hz HZ len tx th W) (p0 : Int) (r0 : (-2147483648 ≤ p0 ∧ p0 < 2147483648)) (hx : ¬ (-1000 ≤ p0 ∧ p0 ≤ 1000)) (sz : Nat) : qMet l yX8_settleFrom (.code yX8_settleFrom cX8_settleFrom 4 (some .int)) 8 [.ref (mo), .int (qI (p0))] D cy [W] sz (va_Qi (S := va_W) (fun r u => MW cy mo mz msv mtx mmo mif mmg mtn mie mme mrd mas T hz HZ len tx 1 u) (qB D cy [W] sz (fun u => [u])) (va_A [W].flatten sz)) := by
  refine q_ofMi (S := va_W) (b1 := fun u => [u]) (post := fun r u => MW cy mo mz msv mtx mmo mif mmg mtn mie mme mrd mas T hz HZ len tx 1 u) (by decide +kernel) (Nat.le_of_ble_eq_true rfl) ?_
  intro p e s m args below meth c Q A hx hb hml hown hg hQ hK hN hD hA H locs ls hP hS hl
  have hown : s.vm.findClass RX8 = some m.cls := hown
  have hl : lv_has ls 4 [(0, .ref (mo)), (1, .int (qI (p0)))] := hl
  have hW0 := hW
  obtain ⟨tu, fi, ro, sp, it, bl, hh, z, sd, bf, g, isF, mg, tn, isE, mE, rd, as9, rfl, ⟨hL, hz20, hz101⟩, ⟨hhz, hHZ⟩, hln, hbf, htx⟩ := hW
  obtain ⟨gV, gT, gC, gE, gI, gD⟩ := hG.eq hL
  obtain ⟨nc, hnc⟩ : ∃ nc : Nat, z 20 = (nc : Int) := ⟨(z 20).toNat, by omega⟩
  obtain ⟨ne, hne⟩ : ∃ ne : Nat, z 101 = (ne : Int) := ⟨(z 101).toNat, by omega⟩
  have e20 : (z 20).toNat = nc := by omega
  have e101 : (z 101).toNat = ne := by omega
  have hV : qV z := gV
  have hst : ∀ i, i < 10 → 0 ≤ z (10 + i) ∧ z (10 + i) ≤ 9 := gT
  have hc : nc ≤ 16 := e20 ▸ (gC.1 : (z 20).toNat ≤ 16)
  have hC : qWR (zC z) nc := e20 ▸ (gC.2 : qWR (zC z) (z 20).toNat)
  have he : ne ≤ 4 := e101 ▸ (gE.1 : (z 101).toNat ≤ 4)
  have hE : qWR (zE z) ne := e101 ▸ (gE.2 : qWR (zE z) (z 101).toNat)
  have hD9 : ∀ i j, i < ne → j < ne → zE z 0 i = zE z 0 j → i = j := e101 ▸ (gD : ∀ i j, i < (z 101).toNat → j < (z 101).toNat → zE z 0 i = zE z 0 j → i = j)
  have hL2 : LEq (z, (fun i => z (10 + i)), zC z, nc, zE z, ne) T := by rw [← e20, ← e101]; exact hL
  have en : nc = lN9 T := hL2.2.2.1
  have em : ne = lM T := hL2.2.2.2.2.1
  rw [fl_open] at hP hD
  have hP : va_P D vwCl [[(mo, .inr (8, [.int (qI (th)), .ref (mz), .int (qI (((hz : Nat) : Int))), .ref (msv), .int (qI (((len : Nat) : Int))), .ref (mtx), .ref (mmo), .int (qI (tu)), .ref (mif), .ref (mmg), .ref (mtn), .ref (mie), .ref (mme), .int (qz (fi)), .int (qI (ro)), .int (qI (sp)), .int (qI (it)), .int (qz (bl)), .ref (mrd), .ref (mas), .long (hh)]))], [(mz, aI cy 115 (z))], [(msv, aI cy 920 (sd))], [(mtx, aI cy 60 (bf))], [(mmo, aI cy 121 (g))], [(mif, aZ cy 16 (isF))], [(mmg, aI cy 16 (mg))], [(mtn, aI cy 16 (tn))], [(mie, aZ cy 4 (isE))], [(mme, aI cy 4 (mE))], [(mrd, aI cy 100 (rd))], [(mas, aI cy 115 (as9))]].flatten H := hP
  have hD : va_D A [[(mo, .inr (8, [.int (qI (th)), .ref (mz), .int (qI (((hz : Nat) : Int))), .ref (msv), .int (qI (((len : Nat) : Int))), .ref (mtx), .ref (mmo), .int (qI (tu)), .ref (mif), .ref (mmg), .ref (mtn), .ref (mie), .ref (mme), .int (qz (fi)), .int (qI (ro)), .int (qI (sp)), .int (qI (it)), .int (qz (bl)), .ref (mrd), .ref (mas), .long (hh)]))], [(mz, aI cy 115 (z))], [(msv, aI cy 920 (sd))], [(mtx, aI cy 60 (bf))], [(mmo, aI cy 121 (g))], [(mif, aZ cy 16 (isF))], [(mmg, aI cy 16 (mg))], [(mtn, aI cy 16 (tn))], [(mie, aZ cy 4 (isE))], [(mme, aI cy 4 (mE))], [(mrd, aI cy 100 (rd))], [(mas, aI cy 115 (as9))]].flatten := hD
  refine lv_aload_n hx hb dX8_settleFrom_0 rfl (lv_at hl 0 rfl) ?_
  refine lv_iload_n hx hb dX8_settleFrom_1 rfl (lv_at hl 1 rfl) ?_
  refine q_sipush hx hb dX8_settleFrom_2 (by decide) ?_
  refine q_sipush hx hb dX8_settleFrom_5 (by decide) ?_
  refine q_readz (va_runS (As := [.int (qI (p0)), .int (qI (-1000)), .int (qI (1000))]) (rest := [.ref (mo)]) ⟨hx, hb, hml, hown, hg⟩ (c_X8_within l D cy _ _ _ (by omega)) (cs_X8_48 hg rfl rfl ⟨by decide, by decide⟩) ⟨q_blind0, q_preR _ hK hN hP [] rfl⟩ rfl rfl hl.1 rfl (lv_room (Nat.le_of_ble_eq_true rfl)) dX8_settleFrom_8 ⟨by decide, by decide⟩) (fun b_8 h_8 => ?_)
  refine q_ifz_eq (tgt := 18) hx hb dX8_settleFrom_11 (by decide) (fun c_11 => ?_) (fun c_11 => ?_)
  · skip
    have g_11 := mt (h_8).mpr (by rw [c_11]; decide)
    refine q_iconst hx hb dX8_settleFrom_18 ?_
    refine pf_X8_44 hx hb hg hown hK hP hD hS 0 0 rfl rfl rfl rfl (Nat.le_of_ble_eq_true rfl) dX8_settleFrom_19 (fun H locs hP hD hS => ?_)
    have hP : va_P D vwCl [[(mo, .inr (8, [.int (qI (1)), .ref (mz), .int (qI (((hz : Nat) : Int))), .ref (msv), .int (qI (((len : Nat) : Int))), .ref (mtx), .ref (mmo), .int (qI (tu)), .ref (mif), .ref (mmg), .ref (mtn), .ref (mie), .ref (mme), .int (qz (fi)), .int (qI (ro)), .int (qI (sp)), .int (qI (it)), .int (qz (bl)), .ref (mrd), .ref (mas), .long (hh)]))], [(mz, aI cy 115 (z))], [(msv, aI cy 920 (sd))], [(mtx, aI cy 60 (bf))], [(mmo, aI cy 121 (g))], [(mif, aZ cy 16 (isF))], [(mmg, aI cy 16 (mg))], [(mtn, aI cy 16 (tn))], [(mie, aZ cy 4 (isE))], [(mme, aI cy 4 (mE))], [(mrd, aI cy 100 (rd))], [(mas, aI cy 115 (as9))]].flatten H := hP
    have hD : va_D A [[(mo, .inr (8, [.int (qI (1)), .ref (mz), .int (qI (((hz : Nat) : Int))), .ref (msv), .int (qI (((len : Nat) : Int))), .ref (mtx), .ref (mmo), .int (qI (tu)), .ref (mif), .ref (mmg), .ref (mtn), .ref (mie), .ref (mme), .int (qz (fi)), .int (qI (ro)), .int (qI (sp)), .int (qI (it)), .int (qz (bl)), .ref (mrd), .ref (mas), .long (hh)]))], [(mz, aI cy 115 (z))], [(msv, aI cy 920 (sd))], [(mtx, aI cy 60 (bf))], [(mmo, aI cy 121 (g))], [(mif, aZ cy 16 (isF))], [(mmg, aI cy 16 (mg))], [(mtn, aI cy 16 (tn))], [(mie, aZ cy 4 (isE))], [(mme, aI cy 4 (mE))], [(mrd, aI cy 100 (rd))], [(mas, aI cy 115 (as9))]].flatten := hD
    refine lv_aload_n hx hb dX8_settleFrom_22 rfl (lv_at hl 0 rfl) ?_
    refine gf_X8_44 hx hb hg hown hK (fl_blk hP 0 rfl) 0 rfl rfl dX8_settleFrom_23 ?_
    refine q_if_le (tgt := 31) hx hb dX8_settleFrom_26 (by decide) (by omega) (fun c_26 => ?_) (fun c_26 => ?_)
    · skip
      exact absurd c_26 (by decide)
    · skip
      refine q_iconst hx hb dX8_settleFrom_29 ?_
      have hP : va_P D vwCl [(mdB cy mo mz msv mtx mmo mif mmg mtn mie mme mrd mas (1) (hz) (len) (tu) (fi) (ro) (sp) (it) (bl) (hh) (z) (sd) (bf) (g) (isF) (mg) (tn) (isE) (mE) (rd) (as9)).flatten].flatten H := by rw [fl_open]; exact hP
      have hD : va_D A [(mdB cy mo mz msv mtx mmo mif mmg mtn mie mme mrd mas (1) (hz) (len) (tu) (fi) (ro) (sp) (it) (bl) (hh) (z) (sd) (bf) (g) (isF) (mg) (tn) (isE) (mE) (rd) (as9)).flatten].flatten := by rw [fl_open]; exact hD
      exact hQ _ _ _ _ _ ((mdB cy mo mz msv mtx mmo mif mmg mtn mie mme mrd mas (1) (hz) (len) (tu) (fi) (ro) (sp) (it) (bl) (hh) (z) (sd) (bf) (g) (isF) (mg) (tn) (isE) (mE) (rd) (as9)).flatten) ⟨(tu), (fi), (ro), (sp), (it), (bl), (hh), (z), (sd), (bf), (g), (isF), (mg), (tn), (isE), (mE), (rd), (as9), rfl, ⟨hL, hz20, hz101⟩, ⟨hhz, hHZ⟩, hln, hbf, htx⟩ hP hD hS dX8_settleFrom_30
  · skip
    have g_11 := (h_8).mp c_11
    exfalso; omega

set_option maxRecDepth 100000 in
set_option maxHeartbeats 4000000 in
theorem c_X8_undo (l : Launch) (D : va_G) (cy : Nat → ClassId) (mo mz msv mtx mmo mif mmg mtn mie mme mrd mas : Nat) (T : LSt) (hz : Nat) (HZ : Nat → LSt) (len : Nat) (tx : Nat → Int) (th : Int) (W : va_W) (hG : gOk T) (hW : MW cy mo mz msv mtx mmo mif mmg mtn mie mme mrd mas T hz HZ len tx th W) (hn : 1 ≤ hz) (hGH : gOk (HZ 0)) (sz : Nat) : qMet l yX8_undo (.code yX8_undo cX8_undo 1 (some .int)) 8 [.ref (mo)] D cy [W] sz (va_Qi (S := va_W) (fun r u => r = qI (((hz - 1 : Nat) : Int)) ∧ MW cy mo mz msv mtx mmo mif mmg mtn mie mme mrd mas (HZ 0) (hz - 1) (fun i => HZ (i + 1)) len tx 0 u) (qB D cy [W] sz (fun u => [u])) (va_A [W].flatten sz)) := by
  refine q_ofMi (S := va_W) (b1 := fun u => [u]) (post := fun r u => r = qI (((hz - 1 : Nat) : Int)) ∧ MW cy mo mz msv mtx mmo mif mmg mtn mie mme mrd mas (HZ 0) (hz - 1) (fun i => HZ (i + 1)) len tx 0 u) (by decide +kernel) (Nat.le_of_ble_eq_true rfl) ?_
  intro p e s m args below meth c Q A hx hb hml hown hg hQ hK hN hD hA H locs ls hP hS hl
  have hown : s.vm.findClass RX8 = some m.cls := hown
  have hl : lv_has ls 1 [(0, .ref (mo))] := hl
  have hW0 := hW
  obtain ⟨tu, fi, ro, sp, it, bl, hh, z, sd, bf, g, isF, mg, tn, isE, mE, rd, as9, rfl, ⟨hL, hz20, hz101⟩, ⟨hhz, hHZ⟩, hln, hbf, htx⟩ := hW
  obtain ⟨gV, gT, gC, gE, gI, gD⟩ := hG.eq hL
  obtain ⟨nc, hnc⟩ : ∃ nc : Nat, z 20 = (nc : Int) := ⟨(z 20).toNat, by omega⟩
  obtain ⟨ne, hne⟩ : ∃ ne : Nat, z 101 = (ne : Int) := ⟨(z 101).toNat, by omega⟩
  have e20 : (z 20).toNat = nc := by omega
  have e101 : (z 101).toNat = ne := by omega
  have hV : qV z := gV
  have hst : ∀ i, i < 10 → 0 ≤ z (10 + i) ∧ z (10 + i) ≤ 9 := gT
  have hc : nc ≤ 16 := e20 ▸ (gC.1 : (z 20).toNat ≤ 16)
  have hC : qWR (zC z) nc := e20 ▸ (gC.2 : qWR (zC z) (z 20).toNat)
  have he : ne ≤ 4 := e101 ▸ (gE.1 : (z 101).toNat ≤ 4)
  have hE : qWR (zE z) ne := e101 ▸ (gE.2 : qWR (zE z) (z 101).toNat)
  have hD9 : ∀ i j, i < ne → j < ne → zE z 0 i = zE z 0 j → i = j := e101 ▸ (gD : ∀ i j, i < (z 101).toNat → j < (z 101).toNat → zE z 0 i = zE z 0 j → i = j)
  have hL2 : LEq (z, (fun i => z (10 + i)), zC z, nc, zE z, ne) T := by rw [← e20, ← e101]; exact hL
  have en : nc = lN9 T := hL2.2.2.1
  have em : ne = lM T := hL2.2.2.2.2.1
  rw [fl_open] at hP hD
  have hP : va_P D vwCl [[(mo, .inr (8, [.int (qI (th)), .ref (mz), .int (qI (((hz : Nat) : Int))), .ref (msv), .int (qI (((len : Nat) : Int))), .ref (mtx), .ref (mmo), .int (qI (tu)), .ref (mif), .ref (mmg), .ref (mtn), .ref (mie), .ref (mme), .int (qz (fi)), .int (qI (ro)), .int (qI (sp)), .int (qI (it)), .int (qz (bl)), .ref (mrd), .ref (mas), .long (hh)]))], [(mz, aI cy 115 (z))], [(msv, aI cy 920 (sd))], [(mtx, aI cy 60 (bf))], [(mmo, aI cy 121 (g))], [(mif, aZ cy 16 (isF))], [(mmg, aI cy 16 (mg))], [(mtn, aI cy 16 (tn))], [(mie, aZ cy 4 (isE))], [(mme, aI cy 4 (mE))], [(mrd, aI cy 100 (rd))], [(mas, aI cy 115 (as9))]].flatten H := hP
  have hD : va_D A [[(mo, .inr (8, [.int (qI (th)), .ref (mz), .int (qI (((hz : Nat) : Int))), .ref (msv), .int (qI (((len : Nat) : Int))), .ref (mtx), .ref (mmo), .int (qI (tu)), .ref (mif), .ref (mmg), .ref (mtn), .ref (mie), .ref (mme), .int (qz (fi)), .int (qI (ro)), .int (qI (sp)), .int (qI (it)), .int (qz (bl)), .ref (mrd), .ref (mas), .long (hh)]))], [(mz, aI cy 115 (z))], [(msv, aI cy 920 (sd))], [(mtx, aI cy 60 (bf))], [(mmo, aI cy 121 (g))], [(mif, aZ cy 16 (isF))], [(mmg, aI cy 16 (mg))], [(mtn, aI cy 16 (tn))], [(mie, aZ cy 4 (isE))], [(mme, aI cy 4 (mE))], [(mrd, aI cy 100 (rd))], [(mas, aI cy 115 (as9))]].flatten := hD
  refine lv_aload_n hx hb dX8_undo_0 rfl (lv_at hl 0 rfl) ?_
  refine lv_aload_n hx hb dX8_undo_1 rfl (lv_at hl 0 rfl) ?_
  refine gf_X8_88 hx hb hg hown hK (fl_blk hP 0 rfl) 0 rfl rfl dX8_undo_2 ?_
  refine q_if_le (tgt := 12) hx hb dX8_undo_5 (by decide) (by omega) (fun c_5 => ?_) (fun c_5 => ?_)
  · skip
    exfalso; omega
  · skip
    refine q_iconst hx hb dX8_undo_8 ?_
    refine lv_goto (tgt := 13) hx hb dX8_undo_9 (by decide) ?_
    refine pf_X8_44 hx hb hg hown hK hP hD hS 0 0 rfl rfl rfl rfl (Nat.le_of_ble_eq_true rfl) dX8_undo_13 (fun H locs hP hD hS => ?_)
    have hP : va_P D vwCl [[(mo, .inr (8, [.int (qI (0)), .ref (mz), .int (qI (((hz : Nat) : Int))), .ref (msv), .int (qI (((len : Nat) : Int))), .ref (mtx), .ref (mmo), .int (qI (tu)), .ref (mif), .ref (mmg), .ref (mtn), .ref (mie), .ref (mme), .int (qz (fi)), .int (qI (ro)), .int (qI (sp)), .int (qI (it)), .int (qz (bl)), .ref (mrd), .ref (mas), .long (hh)]))], [(mz, aI cy 115 (z))], [(msv, aI cy 920 (sd))], [(mtx, aI cy 60 (bf))], [(mmo, aI cy 121 (g))], [(mif, aZ cy 16 (isF))], [(mmg, aI cy 16 (mg))], [(mtn, aI cy 16 (tn))], [(mie, aZ cy 4 (isE))], [(mme, aI cy 4 (mE))], [(mrd, aI cy 100 (rd))], [(mas, aI cy 115 (as9))]].flatten H := hP
    have hD : va_D A [[(mo, .inr (8, [.int (qI (0)), .ref (mz), .int (qI (((hz : Nat) : Int))), .ref (msv), .int (qI (((len : Nat) : Int))), .ref (mtx), .ref (mmo), .int (qI (tu)), .ref (mif), .ref (mmg), .ref (mtn), .ref (mie), .ref (mme), .int (qz (fi)), .int (qI (ro)), .int (qI (sp)), .int (qI (it)), .int (qz (bl)), .ref (mrd), .ref (mas), .long (hh)]))], [(mz, aI cy 115 (z))], [(msv, aI cy 920 (sd))], [(mtx, aI cy 60 (bf))], [(mmo, aI cy 121 (g))], [(mif, aZ cy 16 (isF))], [(mmg, aI cy 16 (mg))], [(mtn, aI cy 16 (tn))], [(mie, aZ cy 4 (isE))], [(mme, aI cy 4 (mE))], [(mrd, aI cy 100 (rd))], [(mas, aI cy 115 (as9))]].flatten := hD
    refine lv_aload_n hx hb dX8_undo_16 rfl (lv_at hl 0 rfl) ?_
    refine gf_X8_44 hx hb hg hown hK (fl_blk hP 0 rfl) 0 rfl rfl dX8_undo_17 ?_
    refine q_if_le (tgt := 25) hx hb dX8_undo_20 (by decide) (by omega) (fun c_20 => ?_) (fun c_20 => ?_)
    · skip
      refine lv_aload_n hx hb dX8_undo_25 rfl (lv_at hl 0 rfl) ?_
      refine lv_dup hx hb dX8_undo_26 rfl ?_
      refine gf_X8_88 hx hb hg hown hK (fl_blk hP 0 rfl) 0 rfl rfl dX8_undo_27 ?_
      refine q_iconst hx hb dX8_undo_30 ?_
      refine q_isub hx hb dX8_undo_31 ?_
      refine q_topZ (y := ((hz - 1 : Nat) : Int)) (by omega) ?_
      refine pf_X8_88 hx hb hg hown hK hP hD hS 0 0 rfl rfl rfl rfl (Nat.le_of_ble_eq_true rfl) dX8_undo_32 (fun H locs hP hD hS => ?_)
      have hP : va_P D vwCl [[(mo, .inr (8, [.int (qI (0)), .ref (mz), .int (qI (((hz - 1 : Nat) : Int))), .ref (msv), .int (qI (((len : Nat) : Int))), .ref (mtx), .ref (mmo), .int (qI (tu)), .ref (mif), .ref (mmg), .ref (mtn), .ref (mie), .ref (mme), .int (qz (fi)), .int (qI (ro)), .int (qI (sp)), .int (qI (it)), .int (qz (bl)), .ref (mrd), .ref (mas), .long (hh)]))], [(mz, aI cy 115 (z))], [(msv, aI cy 920 (sd))], [(mtx, aI cy 60 (bf))], [(mmo, aI cy 121 (g))], [(mif, aZ cy 16 (isF))], [(mmg, aI cy 16 (mg))], [(mtn, aI cy 16 (tn))], [(mie, aZ cy 4 (isE))], [(mme, aI cy 4 (mE))], [(mrd, aI cy 100 (rd))], [(mas, aI cy 115 (as9))]].flatten H := hP
      have hD : va_D A [[(mo, .inr (8, [.int (qI (0)), .ref (mz), .int (qI (((hz - 1 : Nat) : Int))), .ref (msv), .int (qI (((len : Nat) : Int))), .ref (mtx), .ref (mmo), .int (qI (tu)), .ref (mif), .ref (mmg), .ref (mtn), .ref (mie), .ref (mme), .int (qz (fi)), .int (qI (ro)), .int (qI (sp)), .int (qI (it)), .int (qz (bl)), .ref (mrd), .ref (mas), .long (hh)]))], [(mz, aI cy 115 (z))], [(msv, aI cy 920 (sd))], [(mtx, aI cy 60 (bf))], [(mmo, aI cy 121 (g))], [(mif, aZ cy 16 (isF))], [(mmg, aI cy 16 (mg))], [(mtn, aI cy 16 (tn))], [(mie, aZ cy 4 (isE))], [(mme, aI cy 4 (mE))], [(mrd, aI cy 100 (rd))], [(mas, aI cy 115 (as9))]].flatten := hD
      refine lv_aload_n hx hb dX8_undo_35 rfl (lv_at hl 0 rfl) ?_
      refine lv_aload_n hx hb dX8_undo_36 rfl (lv_at hl 0 rfl) ?_
      refine gf_X8_88 hx hb hg hown hK (fl_blk hP 0 rfl) 0 rfl rfl dX8_undo_37 ?_
      refine q_backv [0, 1, 2] [3, 4, 5, 6, 7, 8, 9, 10, 11] (br := [[(mtx, aI cy 60 (bf))], [(mmo, aI cy 121 (g))], [(mif, aZ cy 16 (isF))], [(mmg, aI cy 16 (mg))], [(mtn, aI cy 16 (tn))], [(mie, aZ cy 4 (isE))], [(mme, aI cy 4 (mE))], [(mrd, aI cy 100 (rd))], [(mas, aI cy 115 (as9))]]) hP hD hS hA (va_runV (As := [.int (qI (((hz - 1 : Nat) : Int)))]) (rest := []) ⟨hx, hb, hml, hown, hg⟩ (c_X8_restore l D cy mo mz msv mtx mmo mif mmg mtn mie mme mrd mas (0) (((hz - 1 : Nat) : Int)) (((len : Nat) : Int)) (tu) (fi) (ro) (sp) (it) (bl) (hh) (z) (sd) _ (hz - 1) (by omega) _) (cv_X8_91 hg rfl rfl ⟨by decide, by decide⟩) ⟨q_blind, va_recv hK (fl_blk hP 0 rfl) (ci := 8) (q0 := 0) rfl rfl, q_preM _ hK hN hP hD [0, 1, 2] (by decide) rfl⟩ rfl rfl hl.1 rfl (lv_room (Nat.le_of_ble_eq_true rfl)) dX8_undo_40 ⟨by decide, by decide⟩) rfl rfl (by decide) (fun u_40 H locs h_40 hP hD hS => ?_)
      have hP : va_P D vwCl [[(mtx, aI cy 60 (bf))], [(mmo, aI cy 121 (g))], [(mif, aZ cy 16 (isF))], [(mmg, aI cy 16 (mg))], [(mtn, aI cy 16 (tn))], [(mie, aZ cy 4 (isE))], [(mme, aI cy 4 (mE))], [(mrd, aI cy 100 (rd))], [(mas, aI cy 115 (as9))], [(mo, .inr (8, [.int (qI (0)), .ref (mz), .int (qI (((hz - 1 : Nat) : Int))), .ref (msv), .int (qI (((len : Nat) : Int))), .ref (mtx), .ref (mmo), .int (qI (tu)), .ref (mif), .ref (mmg), .ref (mtn), .ref (mie), .ref (mme), .int (qz (fi)), .int (qI (ro)), .int (qI (sp)), .int (qI (it)), .int (qz (bl)), .ref (mrd), .ref (mas), .long (hh)]))], [(mz, aI cy 115 (u_40))], [(msv, aI cy 920 (sd))]].flatten H := hP
      have hD : va_D A [[(mtx, aI cy 60 (bf))], [(mmo, aI cy 121 (g))], [(mif, aZ cy 16 (isF))], [(mmg, aI cy 16 (mg))], [(mtn, aI cy 16 (tn))], [(mie, aZ cy 4 (isE))], [(mme, aI cy 4 (mE))], [(mrd, aI cy 100 (rd))], [(mas, aI cy 115 (as9))], [(mo, .inr (8, [.int (qI (0)), .ref (mz), .int (qI (((hz - 1 : Nat) : Int))), .ref (msv), .int (qI (((len : Nat) : Int))), .ref (mtx), .ref (mmo), .int (qI (tu)), .ref (mif), .ref (mmg), .ref (mtn), .ref (mie), .ref (mme), .int (qz (fi)), .int (qI (ro)), .int (qI (sp)), .int (qI (it)), .int (qz (bl)), .ref (mrd), .ref (mas), .long (hh)]))], [(mz, aI cy 115 (u_40))], [(msv, aI cy 920 (sd))]].flatten := hD
      have q9 := hHZ 0 (by omega)
      rw [Nat.sub_zero] at q9
      refine lv_aload_n hx hb dX8_undo_43 rfl (lv_at hl 0 rfl) ?_
      refine gf_X8_88 hx hb hg hown hK (fl_blk hP 9 rfl) 0 rfl rfl dX8_undo_44 ?_
      have hP := fl_sub (bs' := [[(mo, .inr (8, [.int (qI (0)), .ref (mz), .int (qI (((hz - 1 : Nat) : Int))), .ref (msv), .int (qI (((len : Nat) : Int))), .ref (mtx), .ref (mmo), .int (qI (tu)), .ref (mif), .ref (mmg), .ref (mtn), .ref (mie), .ref (mme), .int (qz (fi)), .int (qI (ro)), .int (qI (sp)), .int (qI (it)), .int (qz (bl)), .ref (mrd), .ref (mas), .long (hh)]))], [(mz, aI cy 115 (u_40))], [(msv, aI cy 920 (sd))], [(mtx, aI cy 60 (bf))], [(mmo, aI cy 121 (g))], [(mif, aZ cy 16 (isF))], [(mmg, aI cy 16 (mg))], [(mtn, aI cy 16 (tn))], [(mie, aZ cy 4 (isE))], [(mme, aI cy 4 (mE))], [(mrd, aI cy 100 (rd))], [(mas, aI cy 115 (as9))]]) hP [9, 10, 11, 0, 1, 2, 3, 4, 5, 6, 7, 8] rfl
      have hD := fl_subD (bs' := [[(mo, .inr (8, [.int (qI (0)), .ref (mz), .int (qI (((hz - 1 : Nat) : Int))), .ref (msv), .int (qI (((len : Nat) : Int))), .ref (mtx), .ref (mmo), .int (qI (tu)), .ref (mif), .ref (mmg), .ref (mtn), .ref (mie), .ref (mme), .int (qz (fi)), .int (qI (ro)), .int (qI (sp)), .int (qI (it)), .int (qz (bl)), .ref (mrd), .ref (mas), .long (hh)]))], [(mz, aI cy 115 (u_40))], [(msv, aI cy 920 (sd))], [(mtx, aI cy 60 (bf))], [(mmo, aI cy 121 (g))], [(mif, aZ cy 16 (isF))], [(mmg, aI cy 16 (mg))], [(mtn, aI cy 16 (tn))], [(mie, aZ cy 4 (isE))], [(mme, aI cy 4 (mE))], [(mrd, aI cy 100 (rd))], [(mas, aI cy 115 (as9))]]) hD [9, 10, 11, 0, 1, 2, 3, 4, 5, 6, 7, 8] (by decide) rfl
      have hP : va_P D vwCl [(mdB cy mo mz msv mtx mmo mif mmg mtn mie mme mrd mas (0) ((hz - 1)) (len) (tu) (fi) (ro) (sp) (it) (bl) (hh) (u_40) (sd) (bf) (g) (isF) (mg) (tn) (isE) (mE) (rd) (as9)).flatten].flatten H := by rw [fl_open]; exact hP
      have hD : va_D A [(mdB cy mo mz msv mtx mmo mif mmg mtn mie mme mrd mas (0) ((hz - 1)) (len) (tu) (fi) (ro) (sp) (it) (bl) (hh) (u_40) (sd) (bf) (g) (isF) (mg) (tn) (isE) (mE) (rd) (as9)).flatten].flatten := by rw [fl_open]; exact hD
      exact hQ _ _ _ _ _ ((mdB cy mo mz msv mtx mmo mif mmg mtn mie mme mrd mas (0) ((hz - 1)) (len) (tu) (fi) (ro) (sp) (it) (bl) (hh) (u_40) (sd) (bf) (g) (isF) (mg) (tn) (isE) (mE) (rd) (as9)).flatten) ⟨rfl, ⟨(tu), (fi), (ro), (sp), (it), (bl), (hh), (u_40), (sd), (bf), (g), (isF), (mg), (tn), (isE), (mE), (rd), (as9), rfl, ⟨LEq.tr (zS_ext h_40 q9.2.2.2.1 q9.2.2.2.2) q9.1, by rw [h_40 20 (by decide)]; exact q9.2.1, by rw [h_40 101 (by decide)]; exact q9.2.2.1⟩, ⟨by omega, mh_pop hHZ⟩, hln, hbf, htx⟩⟩ hP hD hS dX8_undo_47
    · skip
      exact absurd c_20 (by decide)

set_option maxRecDepth 100000 in
set_option maxHeartbeats 4000000 in
theorem c_X8_undo_no1 (l : Launch) (D : va_G) (cy : Nat → ClassId) (mo mz msv mtx mmo mif mmg mtn mie mme mrd mas : Nat) (T : LSt) (hz : Nat) (HZ : Nat → LSt) (len : Nat) (tx : Nat → Int) (th : Int) (W : va_W) (hG : gOk T) (hW : MW cy mo mz msv mtx mmo mif mmg mtn mie mme mrd mas T hz HZ len tx th W) (hn : hz = 0) (sz : Nat) : qMet l yX8_undo (.code yX8_undo cX8_undo 1 (some .int)) 8 [.ref (mo)] D cy [W] sz (va_Qi (S := va_W) (fun r u => MW cy mo mz msv mtx mmo mif mmg mtn mie mme mrd mas T hz HZ len tx 1 u) (qB D cy [W] sz (fun u => [u])) (va_A [W].flatten sz)) := by
  refine q_ofMi (S := va_W) (b1 := fun u => [u]) (post := fun r u => MW cy mo mz msv mtx mmo mif mmg mtn mie mme mrd mas T hz HZ len tx 1 u) (by decide +kernel) (Nat.le_of_ble_eq_true rfl) ?_
  intro p e s m args below meth c Q A hx hb hml hown hg hQ hK hN hD hA H locs ls hP hS hl
  have hown : s.vm.findClass RX8 = some m.cls := hown
  have hl : lv_has ls 1 [(0, .ref (mo))] := hl
  have hW0 := hW
  obtain ⟨tu, fi, ro, sp, it, bl, hh, z, sd, bf, g, isF, mg, tn, isE, mE, rd, as9, rfl, ⟨hL, hz20, hz101⟩, ⟨hhz, hHZ⟩, hln, hbf, htx⟩ := hW
  obtain ⟨gV, gT, gC, gE, gI, gD⟩ := hG.eq hL
  obtain ⟨nc, hnc⟩ : ∃ nc : Nat, z 20 = (nc : Int) := ⟨(z 20).toNat, by omega⟩
  obtain ⟨ne, hne⟩ : ∃ ne : Nat, z 101 = (ne : Int) := ⟨(z 101).toNat, by omega⟩
  have e20 : (z 20).toNat = nc := by omega
  have e101 : (z 101).toNat = ne := by omega
  have hV : qV z := gV
  have hst : ∀ i, i < 10 → 0 ≤ z (10 + i) ∧ z (10 + i) ≤ 9 := gT
  have hc : nc ≤ 16 := e20 ▸ (gC.1 : (z 20).toNat ≤ 16)
  have hC : qWR (zC z) nc := e20 ▸ (gC.2 : qWR (zC z) (z 20).toNat)
  have he : ne ≤ 4 := e101 ▸ (gE.1 : (z 101).toNat ≤ 4)
  have hE : qWR (zE z) ne := e101 ▸ (gE.2 : qWR (zE z) (z 101).toNat)
  have hD9 : ∀ i j, i < ne → j < ne → zE z 0 i = zE z 0 j → i = j := e101 ▸ (gD : ∀ i j, i < (z 101).toNat → j < (z 101).toNat → zE z 0 i = zE z 0 j → i = j)
  have hL2 : LEq (z, (fun i => z (10 + i)), zC z, nc, zE z, ne) T := by rw [← e20, ← e101]; exact hL
  have en : nc = lN9 T := hL2.2.2.1
  have em : ne = lM T := hL2.2.2.2.2.1
  rw [fl_open] at hP hD
  have hP : va_P D vwCl [[(mo, .inr (8, [.int (qI (th)), .ref (mz), .int (qI (((hz : Nat) : Int))), .ref (msv), .int (qI (((len : Nat) : Int))), .ref (mtx), .ref (mmo), .int (qI (tu)), .ref (mif), .ref (mmg), .ref (mtn), .ref (mie), .ref (mme), .int (qz (fi)), .int (qI (ro)), .int (qI (sp)), .int (qI (it)), .int (qz (bl)), .ref (mrd), .ref (mas), .long (hh)]))], [(mz, aI cy 115 (z))], [(msv, aI cy 920 (sd))], [(mtx, aI cy 60 (bf))], [(mmo, aI cy 121 (g))], [(mif, aZ cy 16 (isF))], [(mmg, aI cy 16 (mg))], [(mtn, aI cy 16 (tn))], [(mie, aZ cy 4 (isE))], [(mme, aI cy 4 (mE))], [(mrd, aI cy 100 (rd))], [(mas, aI cy 115 (as9))]].flatten H := hP
  have hD : va_D A [[(mo, .inr (8, [.int (qI (th)), .ref (mz), .int (qI (((hz : Nat) : Int))), .ref (msv), .int (qI (((len : Nat) : Int))), .ref (mtx), .ref (mmo), .int (qI (tu)), .ref (mif), .ref (mmg), .ref (mtn), .ref (mie), .ref (mme), .int (qz (fi)), .int (qI (ro)), .int (qI (sp)), .int (qI (it)), .int (qz (bl)), .ref (mrd), .ref (mas), .long (hh)]))], [(mz, aI cy 115 (z))], [(msv, aI cy 920 (sd))], [(mtx, aI cy 60 (bf))], [(mmo, aI cy 121 (g))], [(mif, aZ cy 16 (isF))], [(mmg, aI cy 16 (mg))], [(mtn, aI cy 16 (tn))], [(mie, aZ cy 4 (isE))], [(mme, aI cy 4 (mE))], [(mrd, aI cy 100 (rd))], [(mas, aI cy 115 (as9))]].flatten := hD
  refine lv_aload_n hx hb dX8_undo_0 rfl (lv_at hl 0 rfl) ?_
  refine lv_aload_n hx hb dX8_undo_1 rfl (lv_at hl 0 rfl) ?_
  refine gf_X8_88 hx hb hg hown hK (fl_blk hP 0 rfl) 0 rfl rfl dX8_undo_2 ?_
  refine q_if_le (tgt := 12) hx hb dX8_undo_5 (by decide) (by omega) (fun c_5 => ?_) (fun c_5 => ?_)
  · skip
    refine q_iconst hx hb dX8_undo_12 ?_
    refine pf_X8_44 hx hb hg hown hK hP hD hS 0 0 rfl rfl rfl rfl (Nat.le_of_ble_eq_true rfl) dX8_undo_13 (fun H locs hP hD hS => ?_)
    have hP : va_P D vwCl [[(mo, .inr (8, [.int (qI (1)), .ref (mz), .int (qI (((hz : Nat) : Int))), .ref (msv), .int (qI (((len : Nat) : Int))), .ref (mtx), .ref (mmo), .int (qI (tu)), .ref (mif), .ref (mmg), .ref (mtn), .ref (mie), .ref (mme), .int (qz (fi)), .int (qI (ro)), .int (qI (sp)), .int (qI (it)), .int (qz (bl)), .ref (mrd), .ref (mas), .long (hh)]))], [(mz, aI cy 115 (z))], [(msv, aI cy 920 (sd))], [(mtx, aI cy 60 (bf))], [(mmo, aI cy 121 (g))], [(mif, aZ cy 16 (isF))], [(mmg, aI cy 16 (mg))], [(mtn, aI cy 16 (tn))], [(mie, aZ cy 4 (isE))], [(mme, aI cy 4 (mE))], [(mrd, aI cy 100 (rd))], [(mas, aI cy 115 (as9))]].flatten H := hP
    have hD : va_D A [[(mo, .inr (8, [.int (qI (1)), .ref (mz), .int (qI (((hz : Nat) : Int))), .ref (msv), .int (qI (((len : Nat) : Int))), .ref (mtx), .ref (mmo), .int (qI (tu)), .ref (mif), .ref (mmg), .ref (mtn), .ref (mie), .ref (mme), .int (qz (fi)), .int (qI (ro)), .int (qI (sp)), .int (qI (it)), .int (qz (bl)), .ref (mrd), .ref (mas), .long (hh)]))], [(mz, aI cy 115 (z))], [(msv, aI cy 920 (sd))], [(mtx, aI cy 60 (bf))], [(mmo, aI cy 121 (g))], [(mif, aZ cy 16 (isF))], [(mmg, aI cy 16 (mg))], [(mtn, aI cy 16 (tn))], [(mie, aZ cy 4 (isE))], [(mme, aI cy 4 (mE))], [(mrd, aI cy 100 (rd))], [(mas, aI cy 115 (as9))]].flatten := hD
    refine lv_aload_n hx hb dX8_undo_16 rfl (lv_at hl 0 rfl) ?_
    refine gf_X8_44 hx hb hg hown hK (fl_blk hP 0 rfl) 0 rfl rfl dX8_undo_17 ?_
    refine q_if_le (tgt := 25) hx hb dX8_undo_20 (by decide) (by omega) (fun c_20 => ?_) (fun c_20 => ?_)
    · skip
      exact absurd c_20 (by decide)
    · skip
      refine q_iconst hx hb dX8_undo_23 ?_
      have hP : va_P D vwCl [(mdB cy mo mz msv mtx mmo mif mmg mtn mie mme mrd mas (1) (hz) (len) (tu) (fi) (ro) (sp) (it) (bl) (hh) (z) (sd) (bf) (g) (isF) (mg) (tn) (isE) (mE) (rd) (as9)).flatten].flatten H := by rw [fl_open]; exact hP
      have hD : va_D A [(mdB cy mo mz msv mtx mmo mif mmg mtn mie mme mrd mas (1) (hz) (len) (tu) (fi) (ro) (sp) (it) (bl) (hh) (z) (sd) (bf) (g) (isF) (mg) (tn) (isE) (mE) (rd) (as9)).flatten].flatten := by rw [fl_open]; exact hD
      exact hQ _ _ _ _ _ ((mdB cy mo mz msv mtx mmo mif mmg mtn mie mme mrd mas (1) (hz) (len) (tu) (fi) (ro) (sp) (it) (bl) (hh) (z) (sd) (bf) (g) (isF) (mg) (tn) (isE) (mE) (rd) (as9)).flatten) ⟨(tu), (fi), (ro), (sp), (it), (bl), (hh), (z), (sd), (bf), (g), (isF), (mg), (tn), (isE), (mE), (rd), (as9), rfl, ⟨hL, hz20, hz101⟩, ⟨hhz, hHZ⟩, hln, hbf, htx⟩ hP hD hS dX8_undo_24
  · skip
    exfalso; omega
