theorem zch_at {z : Nat → Int} {k f0 : Nat} {v : Int} (hk : k < 16) (h0 : f0 < 5) (hc : (z 20).toNat ≤ 16) : LEq (zS (qu z (21 + 5 * k + f0) v)) (chC (zS z) f0 k v) := by
  refine ⟨fun i hi => qu_n _ _ (by omega), fun i hi => qu_n _ _ (by omega), by show (qu z (21 + 5 * k + f0) v 20).toNat = (z 20).toNat; rw [qu_n _ _ (by omega)], fun f i hf hi => ?_, by show (qu z (21 + 5 * k + f0) v 101).toNat = (z 101).toNat; rw [qu_n _ _ (by omega)], fun f i hf hi => ?_⟩
  · have hi : i < (z 20).toNat := hi
    show qu z (21 + 5 * k + f0) v (21 + 5 * i + f) = qu (zC z) f0 (qu (zC z f0) k v) f i
    by_cases e : f = f0
    · subst e
      rw [qu_s]
      by_cases e2 : i = k
      · subst e2
        rw [qu_s, qu_s]
      · rw [qu_n _ _ (by omega), qu_n _ _ e2]
        rfl
    · rw [qu_n _ _ (by omega), qu_n _ _ e]
      rfl
  · show row5 _ _ _ _ _ f = row5 _ _ _ _ _ f
    rw [qu_n _ _ (by omega), qu_n _ _ (by omega), qu_n _ _ (by omega)]
theorem zst_at {z : Nat → Int} {k : Nat} {v : Int} (hk : k < 10) : LEq (zS (qu z (10 + k) v)) (chT (zS z) k v) := by
  refine ⟨fun i hi => qu_n _ _ (by omega), fun i hi => ?_, by show (qu z (10 + k) v 20).toNat = (z 20).toNat; rw [qu_n _ _ (by omega)], fun f i hf hi => qu_n _ _ (by omega), by show (qu z (10 + k) v 101).toNat = (z 101).toNat; rw [qu_n _ _ (by omega)], fun f i hf hi => ?_⟩
  · show qu z (10 + k) v (10 + i) = qu (fun i => z (10 + i)) k v i
    by_cases e : i = k
    · subst e
      rw [qu_s, qu_s]
    · rw [qu_n _ _ (by omega), qu_n _ _ e]
  · show row5 _ _ _ _ _ f = row5 _ _ _ _ _ f
    rw [qu_n _ _ (by omega), qu_n _ _ (by omega), qu_n _ _ (by omega)]

set_option maxRecDepth 100000 in
set_option maxHeartbeats 4000000 in
theorem c_X8_replaced_str (l : Launch) (D : va_G) (cy : Nat → ClassId) (mo mz msv mtx mmo mif mmg mtn mie mme mrd mas : Nat) (T : LSt) (hz : Nat) (HZ : Nat → LSt) (len : Nat) (tx : Nat → Int) (th : Int) (W : va_W) (hG : gOk T) (hW : MW cy mo mz msv mtx mmo mif mmg mtn mie mme mrd mas T hz HZ len tx th W) (v9 : Int) (k : Nat) (hk : k < lN9 T) (hz9 : 0 ≤ v9 ∧ v9 ≤ 3) (sz : Nat) : qMet l yX8_replaced (.code yX8_replaced cX8_replaced 4 (some .int)) 8 [.ref (mo), .int (qI (((21 + 5 * k + 4 : Nat) : Int))), .int (qI (v9))] D cy [W] sz (va_Qi (S := va_W) (fun r u => r = qI (lC T 4 k) ∧ MW cy mo mz msv mtx mmo mif mmg mtn mie mme mrd mas (seT (chC T 4 k v9)) (min (hz + 1) 8) (pushH T HZ) len tx th u) (qB D cy [W] sz (fun u => [u])) (va_A [W].flatten sz)) := by
  refine q_ofMi (S := va_W) (b1 := fun u => [u]) (post := fun r u => r = qI (lC T 4 k) ∧ MW cy mo mz msv mtx mmo mif mmg mtn mie mme mrd mas (seT (chC T 4 k v9)) (min (hz + 1) 8) (pushH T HZ) len tx th u) (by decide +kernel) (Nat.le_of_ble_eq_true rfl) ?_
  intro p e s m args below meth c Q A hx hb hml hown hg hQ hK hN hD hA H locs ls hP hS hl
  have hown : s.vm.findClass RX8 = some m.cls := hown
  have hl : lv_has ls 4 [(0, .ref (mo)), (1, .int (qI (((21 + 5 * k + 4 : Nat) : Int)))), (2, .int (qI (v9)))] := hl
  have hW0 := hW
  obtain ⟨tu, fi, ro, sp, it, bl, hh, z, sd, bf, g, isF, mg, tn, isE, mE, rd, as9, rfl, ⟨hL, hz20, hz101⟩, ⟨hhz, hHZ⟩, hln, hbf, htx⟩ := hW
  obtain ⟨gV, gT, gC, gE, gI, gD⟩ := hG.eq hL
  obtain ⟨nc, hnc⟩ : ∃ nc : Nat, z 20 = (nc : Int) := ⟨(z 20).toNat, by omega⟩
  obtain ⟨ne, hne⟩ : ∃ ne : Nat, z 101 = (ne : Int) := ⟨(z 101).toNat, by omega⟩
  have e20 : (z 20).toNat = nc := by omega
  have e101 : (z 101).toNat = ne := by omega
  have hV : qV z := gV
  have hst : ∀ i, i < 10 → 0 ≤ z (10 + i) ∧ z (10 + i) ≤ 9 := gT
  have hc : nc ≤ 16 := e20 ▸ (gC.1 : (z 20).toNat ≤ 16)
  have hC : qWR (zC z) nc := e20 ▸ (gC.2 : qWR (zC z) (z 20).toNat)
  have he : ne ≤ 4 := e101 ▸ (gE.1 : (z 101).toNat ≤ 4)
  have hE : qWR (zE z) ne := e101 ▸ (gE.2 : qWR (zE z) (z 101).toNat)
  have hD9 : ∀ i j, i < ne → j < ne → zE z 0 i = zE z 0 j → i = j := e101 ▸ (gD : ∀ i j, i < (z 101).toNat → j < (z 101).toNat → zE z 0 i = zE z 0 j → i = j)
  have hL2 : LEq (z, (fun i => z (10 + i)), zC z, nc, zE z, ne) T := by rw [← e20, ← e101]; exact hL
  have en : nc = lN9 T := hL2.2.2.1
  have em : ne = lM T := hL2.2.2.2.2.1
  rw [fl_open] at hP hD
  have hP : va_P D vwCl [[(mo, .inr (8, [.int (qI (th)), .ref (mz), .int (qI (((hz : Nat) : Int))), .ref (msv), .int (qI (((len : Nat) : Int))), .ref (mtx), .ref (mmo), .int (qI (tu)), .ref (mif), .ref (mmg), .ref (mtn), .ref (mie), .ref (mme), .int (qz (fi)), .int (qI (ro)), .int (qI (sp)), .int (qI (it)), .int (qz (bl)), .ref (mrd), .ref (mas), .long (hh)]))], [(mz, aI cy 115 (z))], [(msv, aI cy 920 (sd))], [(mtx, aI cy 60 (bf))], [(mmo, aI cy 121 (g))], [(mif, aZ cy 16 (isF))], [(mmg, aI cy 16 (mg))], [(mtn, aI cy 16 (tn))], [(mie, aZ cy 4 (isE))], [(mme, aI cy 4 (mE))], [(mrd, aI cy 100 (rd))], [(mas, aI cy 115 (as9))]].flatten H := hP
  have hD : va_D A [[(mo, .inr (8, [.int (qI (th)), .ref (mz), .int (qI (((hz : Nat) : Int))), .ref (msv), .int (qI (((len : Nat) : Int))), .ref (mtx), .ref (mmo), .int (qI (tu)), .ref (mif), .ref (mmg), .ref (mtn), .ref (mie), .ref (mme), .int (qz (fi)), .int (qI (ro)), .int (qI (sp)), .int (qI (it)), .int (qz (bl)), .ref (mrd), .ref (mas), .long (hh)]))], [(mz, aI cy 115 (z))], [(msv, aI cy 920 (sd))], [(mtx, aI cy 60 (bf))], [(mmo, aI cy 121 (g))], [(mif, aZ cy 16 (isF))], [(mmg, aI cy 16 (mg))], [(mtn, aI cy 16 (tn))], [(mie, aZ cy 4 (isE))], [(mme, aI cy 4 (mE))], [(mrd, aI cy 100 (rd))], [(mas, aI cy 115 (as9))]].flatten := hD
  refine lv_aload_n hx hb dX8_replaced_0 rfl (lv_at hl 0 rfl) ?_
  refine q_backv [0, 1, 2] [3, 4, 5, 6, 7, 8, 9, 10, 11] (br := [[(mtx, aI cy 60 (bf))], [(mmo, aI cy 121 (g))], [(mif, aZ cy 16 (isF))], [(mmg, aI cy 16 (mg))], [(mtn, aI cy 16 (tn))], [(mie, aZ cy 4 (isE))], [(mme, aI cy 4 (mE))], [(mrd, aI cy 100 (rd))], [(mas, aI cy 115 (as9))]]) hP hD hS hA (va_runV (As := []) (rest := []) ⟨hx, hb, hml, hown, hg⟩ (c_X8_save l D cy mo mz msv mtx mmo mif mmg mtn mie mme mrd mas (th) (((len : Nat) : Int)) (tu) (fi) (ro) (sp) (it) (bl) (hh) hz (z) (sd) hhz _) (cv_X8_104 hg rfl rfl ⟨by decide, by decide⟩) ⟨q_blind, va_recv hK (fl_blk hP 0 rfl) (ci := 8) (q0 := 0) rfl rfl, q_preM _ hK hN hP hD [0, 1, 2] (by decide) rfl⟩ rfl rfl hl.1 rfl (lv_room (Nat.le_of_ble_eq_true rfl)) dX8_replaced_1 ⟨by decide, by decide⟩) rfl rfl (by decide) (fun u_1 H locs h_1 hP hD hS => ?_)
  have hP : va_P D vwCl [[(mtx, aI cy 60 (bf))], [(mmo, aI cy 121 (g))], [(mif, aZ cy 16 (isF))], [(mmg, aI cy 16 (mg))], [(mtn, aI cy 16 (tn))], [(mie, aZ cy 4 (isE))], [(mme, aI cy 4 (mE))], [(mrd, aI cy 100 (rd))], [(mas, aI cy 115 (as9))], [(mo, .inr (8, [.int (qI (th)), .ref (mz), .int (qI (((min (hz + 1) 8 : Nat) : Int))), .ref (msv), .int (qI (((len : Nat) : Int))), .ref (mtx), .ref (mmo), .int (qI (tu)), .ref (mif), .ref (mmg), .ref (mtn), .ref (mie), .ref (mme), .int (qz (fi)), .int (qI (ro)), .int (qI (sp)), .int (qI (it)), .int (qz (bl)), .ref (mrd), .ref (mas), .long (hh)]))], [(mz, aI cy 115 (z))], [(msv, aI cy 920 (u_1))]].flatten H := hP
  have hD : va_D A [[(mtx, aI cy 60 (bf))], [(mmo, aI cy 121 (g))], [(mif, aZ cy 16 (isF))], [(mmg, aI cy 16 (mg))], [(mtn, aI cy 16 (tn))], [(mie, aZ cy 4 (isE))], [(mme, aI cy 4 (mE))], [(mrd, aI cy 100 (rd))], [(mas, aI cy 115 (as9))], [(mo, .inr (8, [.int (qI (th)), .ref (mz), .int (qI (((min (hz + 1) 8 : Nat) : Int))), .ref (msv), .int (qI (((len : Nat) : Int))), .ref (mtx), .ref (mmo), .int (qI (tu)), .ref (mif), .ref (mmg), .ref (mtn), .ref (mie), .ref (mme), .int (qz (fi)), .int (qI (ro)), .int (qI (sp)), .int (qI (it)), .int (qz (bl)), .ref (mrd), .ref (mas), .long (hh)]))], [(mz, aI cy 115 (z))], [(msv, aI cy 920 (u_1))]].flatten := hD
  refine lv_aload_n hx hb dX8_replaced_4 rfl (lv_at hl 0 rfl) ?_
  refine gf_X8_7 hx hb hg hown hK (fl_blk hP 9 rfl) 0 rfl rfl dX8_replaced_5 ?_
  refine lv_iload_n hx hb dX8_replaced_8 rfl (lv_at hl 1 rfl) ?_
  refine q_iald (j := 21 + 5 * k + 4) hx hb hK (fl_blk hP 10 rfl) 0 rfl (by omega) dX8_replaced_9 ?_
  refine lv_istore_n (lv' := [(3, .int (qI (z (21 + 5 * k + 4)))), (0, .ref (mo)), (1, .int (qI (((21 + 5 * k + 4 : Nat) : Int)))), (2, .int (qI (v9)))]) hx hb dX8_replaced_10 rfl hl (by decide) rfl (fun ls hl => ?_)
  refine lv_aload_n hx hb dX8_replaced_11 rfl (lv_at hl 1 rfl) ?_
  refine gf_X8_7 hx hb hg hown hK (fl_blk hP 9 rfl) 0 rfl rfl dX8_replaced_12 ?_
  refine lv_iload_n hx hb dX8_replaced_15 rfl (lv_at hl 2 rfl) ?_
  refine lv_iload_n hx hb dX8_replaced_16 rfl (lv_at hl 3 rfl) ?_
  refine qb_iast (j := 21 + 5 * k + 4) hx hb hK hP hD hS 10 0 rfl rfl (by omega) dX8_replaced_17 (fun H locs hP hD hS => ?_)
  have hP : va_P D vwCl [[(mtx, aI cy 60 (bf))], [(mmo, aI cy 121 (g))], [(mif, aZ cy 16 (isF))], [(mmg, aI cy 16 (mg))], [(mtn, aI cy 16 (tn))], [(mie, aZ cy 4 (isE))], [(mme, aI cy 4 (mE))], [(mrd, aI cy 100 (rd))], [(mas, aI cy 115 (as9))], [(mo, .inr (8, [.int (qI (th)), .ref (mz), .int (qI (((min (hz + 1) 8 : Nat) : Int))), .ref (msv), .int (qI (((len : Nat) : Int))), .ref (mtx), .ref (mmo), .int (qI (tu)), .ref (mif), .ref (mmg), .ref (mtn), .ref (mie), .ref (mme), .int (qz (fi)), .int (qI (ro)), .int (qI (sp)), .int (qI (it)), .int (qz (bl)), .ref (mrd), .ref (mas), .long (hh)]))], [(mz, aI cy 115 (qu z (21 + 5 * k + 4) (v9)))], [(msv, aI cy 920 (u_1))]].flatten H := hP
  have hD : va_D A [[(mtx, aI cy 60 (bf))], [(mmo, aI cy 121 (g))], [(mif, aZ cy 16 (isF))], [(mmg, aI cy 16 (mg))], [(mtn, aI cy 16 (tn))], [(mie, aZ cy 4 (isE))], [(mme, aI cy 4 (mE))], [(mrd, aI cy 100 (rd))], [(mas, aI cy 115 (as9))], [(mo, .inr (8, [.int (qI (th)), .ref (mz), .int (qI (((min (hz + 1) 8 : Nat) : Int))), .ref (msv), .int (qI (((len : Nat) : Int))), .ref (mtx), .ref (mmo), .int (qI (tu)), .ref (mif), .ref (mmg), .ref (mtn), .ref (mie), .ref (mme), .int (qz (fi)), .int (qI (ro)), .int (qI (sp)), .int (qI (it)), .int (qz (bl)), .ref (mrd), .ref (mas), .long (hh)]))], [(mz, aI cy 115 (qu z (21 + 5 * k + 4) (v9)))], [(msv, aI cy 920 (u_1))]].flatten := hD
  have hS0 : LEq (zS (qu z (21 + 5 * k + 4) v9)) (chC T 4 k v9) := LEq.tr (zch_at (by omega) (by decide) (by omega)) (chC_eq hL (by decide) k v9)
  have gS0 := (chC4_ok hG k hz9).eq hS0
  obtain ⟨n0, hn0⟩ : ∃ n0 : Nat, (qu z (21 + 5 * k + 4) v9) 20 = (n0 : Int) := ⟨((qu z (21 + 5 * k + 4) v9) 20).toNat, by have q := (show (qu z (21 + 5 * k + 4) v9) 20 = z 20 from qu_n _ _ (by omega)); omega⟩
  obtain ⟨m0, hm0⟩ : ∃ m0 : Nat, (qu z (21 + 5 * k + 4) v9) 101 = (m0 : Int) := ⟨((qu z (21 + 5 * k + 4) v9) 101).toNat, by have q := (show (qu z (21 + 5 * k + 4) v9) 101 = z 101 from qu_n _ _ (by omega)); omega⟩
  have n20 : ((qu z (21 + 5 * k + 4) v9) 20).toNat = n0 := by omega
  have n101 : ((qu z (21 + 5 * k + 4) v9) 101).toNat = m0 := by omega
  have hV0 : qV (qu z (21 + 5 * k + 4) v9) := gS0.1
  have hst0 : ∀ i, i < 10 → 0 ≤ (qu z (21 + 5 * k + 4) v9) (10 + i) ∧ (qu z (21 + 5 * k + 4) v9) (10 + i) ≤ 9 := gS0.2.1
  have hc0 : n0 ≤ 16 := n20 ▸ (gS0.2.2.1.1 : ((qu z (21 + 5 * k + 4) v9) 20).toNat ≤ 16)
  have hC0 : qWR (zC (qu z (21 + 5 * k + 4) v9)) n0 := n20 ▸ (gS0.2.2.1.2 : qWR (zC (qu z (21 + 5 * k + 4) v9)) ((qu z (21 + 5 * k + 4) v9) 20).toNat)
  have he0 : m0 ≤ 4 := n101 ▸ (gS0.2.2.2.1.1 : ((qu z (21 + 5 * k + 4) v9) 101).toNat ≤ 4)
  have hE0 : qWR (zE (qu z (21 + 5 * k + 4) v9)) m0 := n101 ▸ (gS0.2.2.2.1.2 : qWR (zE (qu z (21 + 5 * k + 4) v9)) ((qu z (21 + 5 * k + 4) v9) 101).toNat)
  refine lv_aload_n hx hb dX8_replaced_18 rfl (lv_at hl 1 rfl) ?_
  refine q_backv [9, 10, 1, 2, 3, 4, 5, 6] [0, 7, 8, 11] (br := [[(mtx, aI cy 60 (bf))], [(mrd, aI cy 100 (rd))], [(mas, aI cy 115 (as9))], [(msv, aI cy 920 (u_1))]]) hP hD hS hA (va_runV (As := []) (rest := []) ⟨hx, hb, hml, hown, hg⟩ (c_X8_settle l D cy mo mz msv mtx mmo mif mmg mtn mie mme mrd mas (th) (((min (hz + 1) 8 : Nat) : Int)) (((len : Nat) : Int)) (tu) (fi) (ro) (sp) (it) (bl) (hh) (qu z (21 + 5 * k + 4) (v9)) n0 m0 (g) (isF) (mg) (tn) (isE) (mE) hn0 hm0 hc0 he0 hC0 hE0 hV0 hst0 _) (cv_X8_111 hg rfl rfl ⟨by decide, by decide⟩) ⟨q_blind, va_recv hK (fl_blk hP 9 rfl) (ci := 8) (q0 := 0) rfl rfl, q_preM _ hK hN hP hD [9, 10, 1, 2, 3, 4, 5, 6] (by decide) rfl⟩ rfl rfl hl.1 rfl (lv_room (Nat.le_of_ble_eq_true rfl)) dX8_replaced_19 ⟨by decide, by decide⟩) rfl rfl (by decide) (fun u_19 H locs h_19 hP hD hS => ?_)
  have hP : va_P D vwCl [[(mtx, aI cy 60 (bf))], [(mrd, aI cy 100 (rd))], [(mas, aI cy 115 (as9))], [(msv, aI cy 920 (u_1))], [(mo, .inr (8, [.int (qI (th)), .ref (mz), .int (qI (((min (hz + 1) 8 : Nat) : Int))), .ref (msv), .int (qI (((len : Nat) : Int))), .ref (mtx), .ref (mmo), .int (qI (u_19.2.2.2.1)), .ref (mif), .ref (mmg), .ref (mtn), .ref (mie), .ref (mme), .int (qz (u_19.2.2.2.2.2.2.2.2.2.1)), .int (qI (u_19.2.2.2.2.2.2.2.2.2.2)), .int (qI (sp)), .int (qI (it)), .int (qz (bl)), .ref (mrd), .ref (mas), .long (hh)]))], [(mz, aI cy 115 (u_19.1))], [(mmo, aI cy 121 (u_19.2.1))], [(mif, aZ cy 16 (u_19.2.2.2.2.1))], [(mmg, aI cy 16 (u_19.2.2.2.2.2.1))], [(mtn, aI cy 16 (u_19.2.2.2.2.2.2.1))], [(mie, aZ cy 4 (u_19.2.2.2.2.2.2.2.1))], [(mme, aI cy 4 (u_19.2.2.2.2.2.2.2.2.1))]].flatten H := hP
  have hD : va_D A [[(mtx, aI cy 60 (bf))], [(mrd, aI cy 100 (rd))], [(mas, aI cy 115 (as9))], [(msv, aI cy 920 (u_1))], [(mo, .inr (8, [.int (qI (th)), .ref (mz), .int (qI (((min (hz + 1) 8 : Nat) : Int))), .ref (msv), .int (qI (((len : Nat) : Int))), .ref (mtx), .ref (mmo), .int (qI (u_19.2.2.2.1)), .ref (mif), .ref (mmg), .ref (mtn), .ref (mie), .ref (mme), .int (qz (u_19.2.2.2.2.2.2.2.2.2.1)), .int (qI (u_19.2.2.2.2.2.2.2.2.2.2)), .int (qI (sp)), .int (qI (it)), .int (qz (bl)), .ref (mrd), .ref (mas), .long (hh)]))], [(mz, aI cy 115 (u_19.1))], [(mmo, aI cy 121 (u_19.2.1))], [(mif, aZ cy 16 (u_19.2.2.2.2.1))], [(mmg, aI cy 16 (u_19.2.2.2.2.2.1))], [(mtn, aI cy 16 (u_19.2.2.2.2.2.2.1))], [(mie, aZ cy 4 (u_19.2.2.2.2.2.2.2.1))], [(mme, aI cy 4 (u_19.2.2.2.2.2.2.2.2.1))]].flatten := hD
  refine lv_iload_n hx hb dX8_replaced_22 rfl (lv_at hl 0 rfl) ?_
  have hP := fl_sub (bs' := [[(mo, .inr (8, [.int (qI (th)), .ref (mz), .int (qI (((min (hz + 1) 8 : Nat) : Int))), .ref (msv), .int (qI (((len : Nat) : Int))), .ref (mtx), .ref (mmo), .int (qI (u_19.2.2.2.1)), .ref (mif), .ref (mmg), .ref (mtn), .ref (mie), .ref (mme), .int (qz (u_19.2.2.2.2.2.2.2.2.2.1)), .int (qI (u_19.2.2.2.2.2.2.2.2.2.2)), .int (qI (sp)), .int (qI (it)), .int (qz (bl)), .ref (mrd), .ref (mas), .long (hh)]))], [(mz, aI cy 115 (u_19.1))], [(msv, aI cy 920 (u_1))], [(mtx, aI cy 60 (bf))], [(mmo, aI cy 121 (u_19.2.1))], [(mif, aZ cy 16 (u_19.2.2.2.2.1))], [(mmg, aI cy 16 (u_19.2.2.2.2.2.1))], [(mtn, aI cy 16 (u_19.2.2.2.2.2.2.1))], [(mie, aZ cy 4 (u_19.2.2.2.2.2.2.2.1))], [(mme, aI cy 4 (u_19.2.2.2.2.2.2.2.2.1))], [(mrd, aI cy 100 (rd))], [(mas, aI cy 115 (as9))]]) hP [4, 5, 3, 0, 6, 7, 8, 9, 10, 11, 1, 2] rfl
  have hD := fl_subD (bs' := [[(mo, .inr (8, [.int (qI (th)), .ref (mz), .int (qI (((min (hz + 1) 8 : Nat) : Int))), .ref (msv), .int (qI (((len : Nat) : Int))), .ref (mtx), .ref (mmo), .int (qI (u_19.2.2.2.1)), .ref (mif), .ref (mmg), .ref (mtn), .ref (mie), .ref (mme), .int (qz (u_19.2.2.2.2.2.2.2.2.2.1)), .int (qI (u_19.2.2.2.2.2.2.2.2.2.2)), .int (qI (sp)), .int (qI (it)), .int (qz (bl)), .ref (mrd), .ref (mas), .long (hh)]))], [(mz, aI cy 115 (u_19.1))], [(msv, aI cy 920 (u_1))], [(mtx, aI cy 60 (bf))], [(mmo, aI cy 121 (u_19.2.1))], [(mif, aZ cy 16 (u_19.2.2.2.2.1))], [(mmg, aI cy 16 (u_19.2.2.2.2.2.1))], [(mtn, aI cy 16 (u_19.2.2.2.2.2.2.1))], [(mie, aZ cy 4 (u_19.2.2.2.2.2.2.2.1))], [(mme, aI cy 4 (u_19.2.2.2.2.2.2.2.2.1))], [(mrd, aI cy 100 (rd))], [(mas, aI cy 115 (as9))]]) hD [4, 5, 3, 0, 6, 7, 8, 9, 10, 11, 1, 2] (by decide) rfl
  have hP : va_P D vwCl [(mdB cy mo mz msv mtx mmo mif mmg mtn mie mme mrd mas (th) ((min (hz + 1) 8)) (len) (u_19.2.2.2.1) (u_19.2.2.2.2.2.2.2.2.2.1) (u_19.2.2.2.2.2.2.2.2.2.2) (sp) (it) (bl) (hh) (u_19.1) (u_1) (bf) (u_19.2.1) (u_19.2.2.2.2.1) (u_19.2.2.2.2.2.1) (u_19.2.2.2.2.2.2.1) (u_19.2.2.2.2.2.2.2.1) (u_19.2.2.2.2.2.2.2.2.1) (rd) (as9)).flatten].flatten H := by rw [fl_open]; exact hP
  have hD : va_D A [(mdB cy mo mz msv mtx mmo mif mmg mtn mie mme mrd mas (th) ((min (hz + 1) 8)) (len) (u_19.2.2.2.1) (u_19.2.2.2.2.2.2.2.2.2.1) (u_19.2.2.2.2.2.2.2.2.2.2) (sp) (it) (bl) (hh) (u_19.1) (u_1) (bf) (u_19.2.1) (u_19.2.2.2.2.1) (u_19.2.2.2.2.2.1) (u_19.2.2.2.2.2.2.1) (u_19.2.2.2.2.2.2.2.1) (u_19.2.2.2.2.2.2.2.2.1) (rd) (as9)).flatten].flatten := by rw [fl_open]; exact hD
  exact hQ _ _ _ _ _ ((mdB cy mo mz msv mtx mmo mif mmg mtn mie mme mrd mas (th) ((min (hz + 1) 8)) (len) (u_19.2.2.2.1) (u_19.2.2.2.2.2.2.2.2.2.1) (u_19.2.2.2.2.2.2.2.2.2.2) (sp) (it) (bl) (hh) (u_19.1) (u_1) (bf) (u_19.2.1) (u_19.2.2.2.2.1) (u_19.2.2.2.2.2.1) (u_19.2.2.2.2.2.2.1) (u_19.2.2.2.2.2.2.2.1) (u_19.2.2.2.2.2.2.2.2.1) (rd) (as9)).flatten) ⟨by rw [← hL.2.2.2.1 4 k (by decide) (by omega)]; rfl, ⟨(u_19.2.2.2.1), (u_19.2.2.2.2.2.2.2.2.2.1), (u_19.2.2.2.2.2.2.2.2.2.2), (sp), (it), (bl), (hh), (u_19.1), (u_1), (bf), (u_19.2.1), (u_19.2.2.2.2.1), (u_19.2.2.2.2.2.1), (u_19.2.2.2.2.2.2.1), (u_19.2.2.2.2.2.2.2.1), (u_19.2.2.2.2.2.2.2.2.1), (rd), (as9), rfl, mset_fin hS0 n20 n101 hn0 hm0 hc0 he0 h_19.1, ⟨by omega, mh_push hhz h_1 ⟨hL, hz20, hz101, by omega, by omega⟩ hHZ⟩, hln, hbf, htx⟩⟩ hP hD hS dX8_replaced_23

set_option maxRecDepth 100000 in
set_option maxHeartbeats 4000000 in
theorem c_X8_setStrength (l : Launch) (D : va_G) (cy : Nat → ClassId) (mo mz msv mtx mmo mif mmg mtn mie mme mrd mas : Nat) (T : LSt) (hz : Nat) (HZ : Nat → LSt) (len : Nat) (tx : Nat → Int) (th : Int) (W : va_W) (hG : gOk T) (hW : MW cy mo mz msv mtx mmo mif mmg mtn mie mme mrd mas T hz HZ len tx th W) (p0 p1 : Int) (k : Nat) (hk : p0 = (k : Int) ∧ k < lN9 T) (hz9 : 0 ≤ p1 ∧ p1 ≤ 3) (sz : Nat) : qMet l yX8_setStrength (.code yX8_setStrength cX8_setStrength 3 (some .int)) 9 [.ref (mo), .int (qI (p0)), .int (qI (p1))] D cy [W] sz (va_Qi (S := va_W) (fun r u => r = qI (lC T 4 k) ∧ MW cy mo mz msv mtx mmo mif mmg mtn mie mme mrd mas (seT (chC T 4 k p1)) (min (hz + 1) 8) (pushH T HZ) len tx 0 u) (qB D cy [W] sz (fun u => [u])) (va_A [W].flatten sz)) := by
  refine q_ofMi (S := va_W) (b1 := fun u => [u]) (post := fun r u => r = qI (lC T 4 k) ∧ MW cy mo mz msv mtx mmo mif mmg mtn mie mme mrd mas (seT (chC T 4 k p1)) (min (hz + 1) 8) (pushH T HZ) len tx 0 u) (by decide +kernel) (Nat.le_of_ble_eq_true rfl) ?_
  intro p e s m args below meth c Q A hx hb hml hown hg hQ hK hN hD hA H locs ls hP hS hl
  have hown : s.vm.findClass RX8 = some m.cls := hown
  have hl : lv_has ls 3 [(0, .ref (mo)), (1, .int (qI (p0))), (2, .int (qI (p1)))] := hl
  have hW0 := hW
  obtain ⟨tu, fi, ro, sp, it, bl, hh, z, sd, bf, g, isF, mg, tn, isE, mE, rd, as9, rfl, ⟨hL, hz20, hz101⟩, ⟨hhz, hHZ⟩, hln, hbf, htx⟩ := hW
  obtain ⟨gV, gT, gC, gE, gI, gD⟩ := hG.eq hL
  obtain ⟨nc, hnc⟩ : ∃ nc : Nat, z 20 = (nc : Int) := ⟨(z 20).toNat, by omega⟩
  obtain ⟨ne, hne⟩ : ∃ ne : Nat, z 101 = (ne : Int) := ⟨(z 101).toNat, by omega⟩
  have e20 : (z 20).toNat = nc := by omega
  have e101 : (z 101).toNat = ne := by omega
  have hV : qV z := gV
  have hst : ∀ i, i < 10 → 0 ≤ z (10 + i) ∧ z (10 + i) ≤ 9 := gT
  have hc : nc ≤ 16 := e20 ▸ (gC.1 : (z 20).toNat ≤ 16)
  have hC : qWR (zC z) nc := e20 ▸ (gC.2 : qWR (zC z) (z 20).toNat)
  have he : ne ≤ 4 := e101 ▸ (gE.1 : (z 101).toNat ≤ 4)
  have hE : qWR (zE z) ne := e101 ▸ (gE.2 : qWR (zE z) (z 101).toNat)
  have hD9 : ∀ i j, i < ne → j < ne → zE z 0 i = zE z 0 j → i = j := e101 ▸ (gD : ∀ i j, i < (z 101).toNat → j < (z 101).toNat → zE z 0 i = zE z 0 j → i = j)
  have hL2 : LEq (z, (fun i => z (10 + i)), zC z, nc, zE z, ne) T := by rw [← e20, ← e101]; exact hL
  have en : nc = lN9 T := hL2.2.2.1
  have em : ne = lM T := hL2.2.2.2.2.1
  rw [fl_open] at hP hD
  have hP : va_P D vwCl [[(mo, .inr (8, [.int (qI (th)), .ref (mz), .int (qI (((hz : Nat) : Int))), .ref (msv), .int (qI (((len : Nat) : Int))), .ref (mtx), .ref (mmo), .int (qI (tu)), .ref (mif), .ref (mmg), .ref (mtn), .ref (mie), .ref (mme), .int (qz (fi)), .int (qI (ro)), .int (qI (sp)), .int (qI (it)), .int (qz (bl)), .ref (mrd), .ref (mas), .long (hh)]))], [(mz, aI cy 115 (z))], [(msv, aI cy 920 (sd))], [(mtx, aI cy 60 (bf))], [(mmo, aI cy 121 (g))], [(mif, aZ cy 16 (isF))], [(mmg, aI cy 16 (mg))], [(mtn, aI cy 16 (tn))], [(mie, aZ cy 4 (isE))], [(mme, aI cy 4 (mE))], [(mrd, aI cy 100 (rd))], [(mas, aI cy 115 (as9))]].flatten H := hP
  have hD : va_D A [[(mo, .inr (8, [.int (qI (th)), .ref (mz), .int (qI (((hz : Nat) : Int))), .ref (msv), .int (qI (((len : Nat) : Int))), .ref (mtx), .ref (mmo), .int (qI (tu)), .ref (mif), .ref (mmg), .ref (mtn), .ref (mie), .ref (mme), .int (qz (fi)), .int (qI (ro)), .int (qI (sp)), .int (qI (it)), .int (qz (bl)), .ref (mrd), .ref (mas), .long (hh)]))], [(mz, aI cy 115 (z))], [(msv, aI cy 920 (sd))], [(mtx, aI cy 60 (bf))], [(mmo, aI cy 121 (g))], [(mif, aZ cy 16 (isF))], [(mmg, aI cy 16 (mg))], [(mtn, aI cy 16 (tn))], [(mie, aZ cy 4 (isE))], [(mme, aI cy 4 (mE))], [(mrd, aI cy 100 (rd))], [(mas, aI cy 115 (as9))]].flatten := hD
  refine lv_aload_n hx hb dX8_setStrength_0 rfl (lv_at hl 0 rfl) ?_
  refine lv_aload_n hx hb dX8_setStrength_1 rfl (lv_at hl 0 rfl) ?_
  refine lv_iload_n hx hb dX8_setStrength_2 rfl (lv_at hl 1 rfl) ?_
  refine q_readz (va_runV (As := [.int (qI (p0))]) (rest := [.ref (mo)]) ⟨hx, hb, hml, hown, hg⟩ (c_X8_isCondition l D cy mo mz msv mtx mmo mif mmg mtn mie mme mrd mas (th) (((hz : Nat) : Int)) (((len : Nat) : Int)) (tu) (fi) (ro) (sp) (it) (bl) (hh) (z) nc _ (by omega) hnc hc) (cv_X8_114 hg rfl rfl ⟨by decide, by decide⟩) ⟨q_blind0, va_recv hK (fl_blk hP 0 rfl) (ci := 8) (q0 := 0) rfl rfl, q_preR _ hK hN hP [0, 1] rfl⟩ rfl rfl hl.1 rfl (lv_room (Nat.le_of_ble_eq_true rfl)) dX8_setStrength_3 ⟨by decide, by decide⟩) (fun b_3 h_3 => ?_)
  refine q_ifz_ne (tgt := 13) hx hb dX8_setStrength_6 (by decide) (fun c_6 => ?_) (fun c_6 => ?_)
  · skip
    have g_6 := (h_3).mp c_6
    refine lv_iload_n hx hb dX8_setStrength_13 rfl (lv_at hl 2 rfl) ?_
    refine q_readz (va_runS (As := [.int (qI (p1))]) (rest := [.ref (mo)]) ⟨hx, hb, hml, hown, hg⟩ (c_X8_isStrength l D cy _ (by omega)) (cs_X8_101 hg rfl rfl ⟨by decide, by decide⟩) ⟨q_blind0, q_preR _ hK hN hP [] rfl⟩ rfl rfl hl.1 rfl (lv_room (Nat.le_of_ble_eq_true rfl)) dX8_setStrength_14 ⟨by decide, by decide⟩) (fun b_14 h_14 => ?_)
    refine q_ifz_eq (tgt := 24) hx hb dX8_setStrength_17 (by decide) (fun c_17 => ?_) (fun c_17 => ?_)
    · skip
      have g_17 := mt (h_14).mpr (by rw [c_17]; decide)
      exfalso; omega
    · skip
      have g_17 := (h_14).mp c_17
      refine q_iconst hx hb dX8_setStrength_20 ?_
      refine lv_goto (tgt := 25) hx hb dX8_setStrength_21 (by decide) ?_
      refine pf_X8_44 hx hb hg hown hK hP hD hS 0 0 rfl rfl rfl rfl (Nat.le_of_ble_eq_true rfl) dX8_setStrength_25 (fun H locs hP hD hS => ?_)
      have hP : va_P D vwCl [[(mo, .inr (8, [.int (qI (0)), .ref (mz), .int (qI (((hz : Nat) : Int))), .ref (msv), .int (qI (((len : Nat) : Int))), .ref (mtx), .ref (mmo), .int (qI (tu)), .ref (mif), .ref (mmg), .ref (mtn), .ref (mie), .ref (mme), .int (qz (fi)), .int (qI (ro)), .int (qI (sp)), .int (qI (it)), .int (qz (bl)), .ref (mrd), .ref (mas), .long (hh)]))], [(mz, aI cy 115 (z))], [(msv, aI cy 920 (sd))], [(mtx, aI cy 60 (bf))], [(mmo, aI cy 121 (g))], [(mif, aZ cy 16 (isF))], [(mmg, aI cy 16 (mg))], [(mtn, aI cy 16 (tn))], [(mie, aZ cy 4 (isE))], [(mme, aI cy 4 (mE))], [(mrd, aI cy 100 (rd))], [(mas, aI cy 115 (as9))]].flatten H := hP
      have hD : va_D A [[(mo, .inr (8, [.int (qI (0)), .ref (mz), .int (qI (((hz : Nat) : Int))), .ref (msv), .int (qI (((len : Nat) : Int))), .ref (mtx), .ref (mmo), .int (qI (tu)), .ref (mif), .ref (mmg), .ref (mtn), .ref (mie), .ref (mme), .int (qz (fi)), .int (qI (ro)), .int (qI (sp)), .int (qI (it)), .int (qz (bl)), .ref (mrd), .ref (mas), .long (hh)]))], [(mz, aI cy 115 (z))], [(msv, aI cy 920 (sd))], [(mtx, aI cy 60 (bf))], [(mmo, aI cy 121 (g))], [(mif, aZ cy 16 (isF))], [(mmg, aI cy 16 (mg))], [(mtn, aI cy 16 (tn))], [(mie, aZ cy 4 (isE))], [(mme, aI cy 4 (mE))], [(mrd, aI cy 100 (rd))], [(mas, aI cy 115 (as9))]].flatten := hD
      refine lv_aload_n hx hb dX8_setStrength_28 rfl (lv_at hl 0 rfl) ?_
      refine gf_X8_44 hx hb hg hown hK (fl_blk hP 0 rfl) 0 rfl rfl dX8_setStrength_29 ?_
      refine q_if_le (tgt := 39) hx hb dX8_setStrength_32 (by decide) (by omega) (fun c_32 => ?_) (fun c_32 => ?_)
      · skip
        refine lv_aload_n hx hb dX8_setStrength_39 rfl (lv_at hl 0 rfl) ?_
        refine q_bipush hx hb dX8_setStrength_40 (by decide) ?_
        refine q_iconst hx hb dX8_setStrength_42 ?_
        refine lv_iload_n hx hb dX8_setStrength_43 rfl (lv_at hl 1 rfl) ?_
        refine q_imul hx hb dX8_setStrength_44 ?_
        refine q_iadd hx hb dX8_setStrength_45 ?_
        refine q_iconst hx hb dX8_setStrength_46 ?_
        refine q_iadd hx hb dX8_setStrength_47 ?_
        refine q_topZ (y := ((21 + 5 * k + 4 : Nat) : Int)) (by omega) ?_
        refine lv_iload_n hx hb dX8_setStrength_48 rfl (lv_at hl 2 rfl) ?_
        have hP : va_P D vwCl [(mdB cy mo mz msv mtx mmo mif mmg mtn mie mme mrd mas (0) (hz) (len) (tu) (fi) (ro) (sp) (it) (bl) (hh) (z) (sd) (bf) (g) (isF) (mg) (tn) (isE) (mE) (rd) (as9)).flatten].flatten H := by rw [fl_open]; exact hP
        have hD : va_D A [(mdB cy mo mz msv mtx mmo mif mmg mtn mie mme mrd mas (0) (hz) (len) (tu) (fi) (ro) (sp) (it) (bl) (hh) (z) (sd) (bf) (g) (isF) (mg) (tn) (isE) (mE) (rd) (as9)).flatten].flatten := by rw [fl_open]; exact hD
        have hW1 : MW cy mo mz msv mtx mmo mif mmg mtn mie mme mrd mas T hz HZ len tx 0 ((mdB cy mo mz msv mtx mmo mif mmg mtn mie mme mrd mas (0) (hz) (len) (tu) (fi) (ro) (sp) (it) (bl) (hh) (z) (sd) (bf) (g) (isF) (mg) (tn) (isE) (mE) (rd) (as9)).flatten) := ⟨(tu), (fi), (ro), (sp), (it), (bl), (hh), (z), (sd), (bf), (g), (isF), (mg), (tn), (isE), (mE), (rd), (as9), rfl, ⟨hL, hz20, hz101⟩, ⟨hhz, hHZ⟩, hln, hbf, htx⟩
        refine q_backi [0] [] (br := []) hP hD hS hA (va_runV (As := [.int (qI (((21 + 5 * k + 4 : Nat) : Int))), .int (qI (p1))]) (rest := []) ⟨hx, hb, hml, hown, hg⟩ (c_X8_replaced_str l D cy mo mz msv mtx mmo mif mmg mtn mie mme mrd mas T hz HZ len tx 0 _ hG hW1 (p1) k (by omega) (by omega) _) (cv_X8_117 hg rfl rfl ⟨by decide, by decide⟩) ⟨q_blind, va_recv hK (fl_blk hP 0 rfl) (ci := 8) (q0 := 0) rfl rfl, q_preM _ hK hN hP hD [0] (by decide) rfl⟩ rfl rfl hl.1 rfl (lv_room (Nat.le_of_ble_eq_true rfl)) dX8_setStrength_49 ⟨by decide, by decide⟩) rfl rfl (by decide) (fun r_49 u_49 H locs h_49 hP hD hS => ?_)
        have hP : va_P D vwCl [u_49].flatten H := hP
        have hD : va_D A [u_49].flatten := hD
        obtain ⟨rfl, h_49⟩ := h_49
        exact hQ _ _ _ _ _ u_49 ⟨rfl, h_49⟩ hP hD hS dX8_setStrength_52
      · skip
        exact absurd c_32 (by decide)
  · skip
    have g_6 := mt (h_3).mpr (by rw [c_6]; decide)
    exfalso; omega

set_option maxRecDepth 100000 in
set_option maxHeartbeats 4000000 in
theorem c_X8_setStrength_no1 (l : Launch) (D : va_G) (cy : Nat → ClassId) (mo mz msv mtx mmo mif mmg mtn mie mme mrd mas : Nat) (T : LSt) (hz : Nat) (HZ : Nat → LSt) (len : Nat) (tx : Nat → Int) (th : Int) (W : va_W) (hG : gOk T) (hW : MW cy mo mz msv mtx mmo mif mmg mtn mie mme mrd mas T hz HZ len tx th W) (p0 p1 : Int) (r0 : (-2147483648 ≤ p0 ∧ p0 < 2147483648)) (r1 : (-2147483648 ≤ p1 ∧ p1 < 2147483648)) (hx : ¬ (0 ≤ p0 ∧ p0 < (lN9 T : Int))) (sz : Nat) : qMet l yX8_setStrength (.code yX8_setStrength cX8_setStrength 3 (some .int)) 8 [.ref (mo), .int (qI (p0)), .int (qI (p1))] D cy [W] sz (va_Qi (S := va_W) (fun r u => MW cy mo mz msv mtx mmo mif mmg mtn mie mme mrd mas T hz HZ len tx 1 u) (qB D cy [W] sz (fun u => [u])) (va_A [W].flatten sz)) := by
  refine q_ofMi (S := va_W) (b1 := fun u => [u]) (post := fun r u => MW cy mo mz msv mtx mmo mif mmg mtn mie mme mrd mas T hz HZ len tx 1 u) (by decide +kernel) (Nat.le_of_ble_eq_true rfl) ?_
  intro p e s m args below meth c Q A hx hb hml hown hg hQ hK hN hD hA H locs ls hP hS hl
  have hown : s.vm.findClass RX8 = some m.cls := hown
  have hl : lv_has ls 3 [(0, .ref (mo)), (1, .int (qI (p0))), (2, .int (qI (p1)))] := hl
  have hW0 := hW
  obtain ⟨tu, fi, ro, sp, it, bl, hh, z, sd, bf, g, isF, mg, tn, isE, mE, rd, as9, rfl, ⟨hL, hz20, hz101⟩, ⟨hhz, hHZ⟩, hln, hbf, htx⟩ := hW
  obtain ⟨gV, gT, gC, gE, gI, gD⟩ := hG.eq hL
  obtain ⟨nc, hnc⟩ : ∃ nc : Nat, z 20 = (nc : Int) := ⟨(z 20).toNat, by omega⟩
  obtain ⟨ne, hne⟩ : ∃ ne : Nat, z 101 = (ne : Int) := ⟨(z 101).toNat, by omega⟩
  have e20 : (z 20).toNat = nc := by omega
  have e101 : (z 101).toNat = ne := by omega
  have hV : qV z := gV
  have hst : ∀ i, i < 10 → 0 ≤ z (10 + i) ∧ z (10 + i) ≤ 9 := gT
  have hc : nc ≤ 16 := e20 ▸ (gC.1 : (z 20).toNat ≤ 16)
  have hC : qWR (zC z) nc := e20 ▸ (gC.2 : qWR (zC z) (z 20).toNat)
  have he : ne ≤ 4 := e101 ▸ (gE.1 : (z 101).toNat ≤ 4)
  have hE : qWR (zE z) ne := e101 ▸ (gE.2 : qWR (zE z) (z 101).toNat)
  have hD9 : ∀ i j, i < ne → j < ne → zE z 0 i = zE z 0 j → i = j := e101 ▸ (gD : ∀ i j, i < (z 101).toNat → j < (z 101).toNat → zE z 0 i = zE z 0 j → i = j)
  have hL2 : LEq (z, (fun i => z (10 + i)), zC z, nc, zE z, ne) T := by rw [← e20, ← e101]; exact hL
  have en : nc = lN9 T := hL2.2.2.1
  have em : ne = lM T := hL2.2.2.2.2.1
  rw [fl_open] at hP hD
  have hP : va_P D vwCl [[(mo, .inr (8, [.int (qI (th)), .ref (mz), .int (qI (((hz : Nat) : Int))), .ref (msv), .int (qI (((len : Nat) : Int))), .ref (mtx), .ref (mmo), .int (qI (tu)), .ref (mif), .ref (mmg), .ref (mtn), .ref (mie), .ref (mme), .int (qz (fi)), .int (qI (ro)), .int (qI (sp)), .int (qI (it)), .int (qz (bl)), .ref (mrd), .ref (mas), .long (hh)]))], [(mz, aI cy 115 (z))], [(msv, aI cy 920 (sd))], [(mtx, aI cy 60 (bf))], [(mmo, aI cy 121 (g))], [(mif, aZ cy 16 (isF))], [(mmg, aI cy 16 (mg))], [(mtn, aI cy 16 (tn))], [(mie, aZ cy 4 (isE))], [(mme, aI cy 4 (mE))], [(mrd, aI cy 100 (rd))], [(mas, aI cy 115 (as9))]].flatten H := hP
  have hD : va_D A [[(mo, .inr (8, [.int (qI (th)), .ref (mz), .int (qI (((hz : Nat) : Int))), .ref (msv), .int (qI (((len : Nat) : Int))), .ref (mtx), .ref (mmo), .int (qI (tu)), .ref (mif), .ref (mmg), .ref (mtn), .ref (mie), .ref (mme), .int (qz (fi)), .int (qI (ro)), .int (qI (sp)), .int (qI (it)), .int (qz (bl)), .ref (mrd), .ref (mas), .long (hh)]))], [(mz, aI cy 115 (z))], [(msv, aI cy 920 (sd))], [(mtx, aI cy 60 (bf))], [(mmo, aI cy 121 (g))], [(mif, aZ cy 16 (isF))], [(mmg, aI cy 16 (mg))], [(mtn, aI cy 16 (tn))], [(mie, aZ cy 4 (isE))], [(mme, aI cy 4 (mE))], [(mrd, aI cy 100 (rd))], [(mas, aI cy 115 (as9))]].flatten := hD
  refine lv_aload_n hx hb dX8_setStrength_0 rfl (lv_at hl 0 rfl) ?_
  refine lv_aload_n hx hb dX8_setStrength_1 rfl (lv_at hl 0 rfl) ?_
  refine lv_iload_n hx hb dX8_setStrength_2 rfl (lv_at hl 1 rfl) ?_
  refine q_readz (va_runV (As := [.int (qI (p0))]) (rest := [.ref (mo)]) ⟨hx, hb, hml, hown, hg⟩ (c_X8_isCondition l D cy mo mz msv mtx mmo mif mmg mtn mie mme mrd mas (th) (((hz : Nat) : Int)) (((len : Nat) : Int)) (tu) (fi) (ro) (sp) (it) (bl) (hh) (z) nc _ (by omega) hnc hc) (cv_X8_114 hg rfl rfl ⟨by decide, by decide⟩) ⟨q_blind0, va_recv hK (fl_blk hP 0 rfl) (ci := 8) (q0 := 0) rfl rfl, q_preR _ hK hN hP [0, 1] rfl⟩ rfl rfl hl.1 rfl (lv_room (Nat.le_of_ble_eq_true rfl)) dX8_setStrength_3 ⟨by decide, by decide⟩) (fun b_3 h_3 => ?_)
  refine q_ifz_ne (tgt := 13) hx hb dX8_setStrength_6 (by decide) (fun c_6 => ?_) (fun c_6 => ?_)
  · skip
    have g_6 := (h_3).mp c_6
    refine lv_iload_n hx hb dX8_setStrength_13 rfl (lv_at hl 2 rfl) ?_
    refine q_readz (va_runS (As := [.int (qI (p1))]) (rest := [.ref (mo)]) ⟨hx, hb, hml, hown, hg⟩ (c_X8_isStrength l D cy _ (by omega)) (cs_X8_101 hg rfl rfl ⟨by decide, by decide⟩) ⟨q_blind0, q_preR _ hK hN hP [] rfl⟩ rfl rfl hl.1 rfl (lv_room (Nat.le_of_ble_eq_true rfl)) dX8_setStrength_14 ⟨by decide, by decide⟩) (fun b_14 h_14 => ?_)
    refine q_ifz_eq (tgt := 24) hx hb dX8_setStrength_17 (by decide) (fun c_17 => ?_) (fun c_17 => ?_)
    · skip
      have g_17 := mt (h_14).mpr (by rw [c_17]; decide)
      exfalso; omega
    · skip
      have g_17 := (h_14).mp c_17
      exfalso; omega
  · skip
    have g_6 := mt (h_3).mpr (by rw [c_6]; decide)
    refine q_iconst hx hb dX8_setStrength_9 ?_
    refine lv_goto (tgt := 25) hx hb dX8_setStrength_10 (by decide) ?_
    refine pf_X8_44 hx hb hg hown hK hP hD hS 0 0 rfl rfl rfl rfl (Nat.le_of_ble_eq_true rfl) dX8_setStrength_25 (fun H locs hP hD hS => ?_)
    have hP : va_P D vwCl [[(mo, .inr (8, [.int (qI (1)), .ref (mz), .int (qI (((hz : Nat) : Int))), .ref (msv), .int (qI (((len : Nat) : Int))), .ref (mtx), .ref (mmo), .int (qI (tu)), .ref (mif), .ref (mmg), .ref (mtn), .ref (mie), .ref (mme), .int (qz (fi)), .int (qI (ro)), .int (qI (sp)), .int (qI (it)), .int (qz (bl)), .ref (mrd), .ref (mas), .long (hh)]))], [(mz, aI cy 115 (z))], [(msv, aI cy 920 (sd))], [(mtx, aI cy 60 (bf))], [(mmo, aI cy 121 (g))], [(mif, aZ cy 16 (isF))], [(mmg, aI cy 16 (mg))], [(mtn, aI cy 16 (tn))], [(mie, aZ cy 4 (isE))], [(mme, aI cy 4 (mE))], [(mrd, aI cy 100 (rd))], [(mas, aI cy 115 (as9))]].flatten H := hP
    have hD : va_D A [[(mo, .inr (8, [.int (qI (1)), .ref (mz), .int (qI (((hz : Nat) : Int))), .ref (msv), .int (qI (((len : Nat) : Int))), .ref (mtx), .ref (mmo), .int (qI (tu)), .ref (mif), .ref (mmg), .ref (mtn), .ref (mie), .ref (mme), .int (qz (fi)), .int (qI (ro)), .int (qI (sp)), .int (qI (it)), .int (qz (bl)), .ref (mrd), .ref (mas), .long (hh)]))], [(mz, aI cy 115 (z))], [(msv, aI cy 920 (sd))], [(mtx, aI cy 60 (bf))], [(mmo, aI cy 121 (g))], [(mif, aZ cy 16 (isF))], [(mmg, aI cy 16 (mg))], [(mtn, aI cy 16 (tn))], [(mie, aZ cy 4 (isE))], [(mme, aI cy 4 (mE))], [(mrd, aI cy 100 (rd))], [(mas, aI cy 115 (as9))]].flatten := hD
    refine lv_aload_n hx hb dX8_setStrength_28 rfl (lv_at hl 0 rfl) ?_
    refine gf_X8_44 hx hb hg hown hK (fl_blk hP 0 rfl) 0 rfl rfl dX8_setStrength_29 ?_
    refine q_if_le (tgt := 39) hx hb dX8_setStrength_32 (by decide) (by omega) (fun c_32 => ?_) (fun c_32 => ?_)
    · skip
      exact absurd c_32 (by decide)
    · skip
      refine q_iconst hx hb dX8_setStrength_35 ?_
      refine lv_goto (tgt := 52) hx hb dX8_setStrength_36 (by decide) ?_
      have hP : va_P D vwCl [(mdB cy mo mz msv mtx mmo mif mmg mtn mie mme mrd mas (1) (hz) (len) (tu) (fi) (ro) (sp) (it) (bl) (hh) (z) (sd) (bf) (g) (isF) (mg) (tn) (isE) (mE) (rd) (as9)).flatten].flatten H := by rw [fl_open]; exact hP
      have hD : va_D A [(mdB cy mo mz msv mtx mmo mif mmg mtn mie mme mrd mas (1) (hz) (len) (tu) (fi) (ro) (sp) (it) (bl) (hh) (z) (sd) (bf) (g) (isF) (mg) (tn) (isE) (mE) (rd) (as9)).flatten].flatten := by rw [fl_open]; exact hD
      exact hQ _ _ _ _ _ ((mdB cy mo mz msv mtx mmo mif mmg mtn mie mme mrd mas (1) (hz) (len) (tu) (fi) (ro) (sp) (it) (bl) (hh) (z) (sd) (bf) (g) (isF) (mg) (tn) (isE) (mE) (rd) (as9)).flatten) ⟨(tu), (fi), (ro), (sp), (it), (bl), (hh), (z), (sd), (bf), (g), (isF), (mg), (tn), (isE), (mE), (rd), (as9), rfl, ⟨hL, hz20, hz101⟩, ⟨hhz, hHZ⟩, hln, hbf, htx⟩ hP hD hS dX8_setStrength_52

set_option maxRecDepth 100000 in
set_option maxHeartbeats 4000000 in
theorem c_X8_setStrength_no2 (l : Launch) (D : va_G) (cy : Nat → ClassId) (mo mz msv mtx mmo mif mmg mtn mie mme mrd mas : Nat) (T : LSt) (hz : Nat) (HZ : Nat → LSt) (len : Nat) (tx : Nat → Int) (th : Int) (W : va_W) (hG : gOk T) (hW : MW cy mo mz msv mtx mmo mif mmg mtn mie mme mrd mas T hz HZ len tx th W) (p0 p1 : Int) (r0 : (-2147483648 ≤ p0 ∧ p0 < 2147483648)) (r1 : (-2147483648 ≤ p1 ∧ p1 < 2147483648)) (hx : 0 ≤ p0 ∧ p0 < (lN9 T : Int)) (hy : ¬ (0 ≤ p1 ∧ p1 ≤ 3)) (sz : Nat) : qMet l yX8_setStrength (.code yX8_setStrength cX8_setStrength 3 (some .int)) 8 [.ref (mo), .int (qI (p0)), .int (qI (p1))] D cy [W] sz (va_Qi (S := va_W) (fun r u => MW cy mo mz msv mtx mmo mif mmg mtn mie mme mrd mas T hz HZ len tx 2 u) (qB D cy [W] sz (fun u => [u])) (va_A [W].flatten sz)) := by
  refine q_ofMi (S := va_W) (b1 := fun u => [u]) (post := fun r u => MW cy mo mz msv mtx mmo mif mmg mtn mie mme mrd mas T hz HZ len tx 2 u) (by decide +kernel) (Nat.le_of_ble_eq_true rfl) ?_
  intro p e s m args below meth c Q A hx hb hml hown hg hQ hK hN hD hA H locs ls hP hS hl
  have hown : s.vm.findClass RX8 = some m.cls := hown
  have hl : lv_has ls 3 [(0, .ref (mo)), (1, .int (qI (p0))), (2, .int (qI (p1)))] := hl
  have hW0 := hW
  obtain ⟨tu, fi, ro, sp, it, bl, hh, z, sd, bf, g, isF, mg, tn, isE, mE, rd, as9, rfl, ⟨hL, hz20, hz101⟩, ⟨hhz, hHZ⟩, hln, hbf, htx⟩ := hW
  obtain ⟨gV, gT, gC, gE, gI, gD⟩ := hG.eq hL
  obtain ⟨nc, hnc⟩ : ∃ nc : Nat, z 20 = (nc : Int) := ⟨(z 20).toNat, by omega⟩
  obtain ⟨ne, hne⟩ : ∃ ne : Nat, z 101 = (ne : Int) := ⟨(z 101).toNat, by omega⟩
  have e20 : (z 20).toNat = nc := by omega
  have e101 : (z 101).toNat = ne := by omega
  have hV : qV z := gV
  have hst : ∀ i, i < 10 → 0 ≤ z (10 + i) ∧ z (10 + i) ≤ 9 := gT
  have hc : nc ≤ 16 := e20 ▸ (gC.1 : (z 20).toNat ≤ 16)
  have hC : qWR (zC z) nc := e20 ▸ (gC.2 : qWR (zC z) (z 20).toNat)
  have he : ne ≤ 4 := e101 ▸ (gE.1 : (z 101).toNat ≤ 4)
  have hE : qWR (zE z) ne := e101 ▸ (gE.2 : qWR (zE z) (z 101).toNat)
  have hD9 : ∀ i j, i < ne → j < ne → zE z 0 i = zE z 0 j → i = j := e101 ▸ (gD : ∀ i j, i < (z 101).toNat → j < (z 101).toNat → zE z 0 i = zE z 0 j → i = j)
  have hL2 : LEq (z, (fun i => z (10 + i)), zC z, nc, zE z, ne) T := by rw [← e20, ← e101]; exact hL
  have en : nc = lN9 T := hL2.2.2.1
  have em : ne = lM T := hL2.2.2.2.2.1
  rw [fl_open] at hP hD
  have hP : va_P D vwCl [[(mo, .inr (8, [.int (qI (th)), .ref (mz), .int (qI (((hz : Nat) : Int))), .ref (msv), .int (qI (((len : Nat) : Int))), .ref (mtx), .ref (mmo), .int (qI (tu)), .ref (mif), .ref (mmg), .ref (mtn), .ref (mie), .ref (mme), .int (qz (fi)), .int (qI (ro)), .int (qI (sp)), .int (qI (it)), .int (qz (bl)), .ref (mrd), .ref (mas), .long (hh)]))], [(mz, aI cy 115 (z))], [(msv, aI cy 920 (sd))], [(mtx, aI cy 60 (bf))], [(mmo, aI cy 121 (g))], [(mif, aZ cy 16 (isF))], [(mmg, aI cy 16 (mg))], [(mtn, aI cy 16 (tn))], [(mie, aZ cy 4 (isE))], [(mme, aI cy 4 (mE))], [(mrd, aI cy 100 (rd))], [(mas, aI cy 115 (as9))]].flatten H := hP
  have hD : va_D A [[(mo, .inr (8, [.int (qI (th)), .ref (mz), .int (qI (((hz : Nat) : Int))), .ref (msv), .int (qI (((len : Nat) : Int))), .ref (mtx), .ref (mmo), .int (qI (tu)), .ref (mif), .ref (mmg), .ref (mtn), .ref (mie), .ref (mme), .int (qz (fi)), .int (qI (ro)), .int (qI (sp)), .int (qI (it)), .int (qz (bl)), .ref (mrd), .ref (mas), .long (hh)]))], [(mz, aI cy 115 (z))], [(msv, aI cy 920 (sd))], [(mtx, aI cy 60 (bf))], [(mmo, aI cy 121 (g))], [(mif, aZ cy 16 (isF))], [(mmg, aI cy 16 (mg))], [(mtn, aI cy 16 (tn))], [(mie, aZ cy 4 (isE))], [(mme, aI cy 4 (mE))], [(mrd, aI cy 100 (rd))], [(mas, aI cy 115 (as9))]].flatten := hD
  refine lv_aload_n hx hb dX8_setStrength_0 rfl (lv_at hl 0 rfl) ?_
  refine lv_aload_n hx hb dX8_setStrength_1 rfl (lv_at hl 0 rfl) ?_
  refine lv_iload_n hx hb dX8_setStrength_2 rfl (lv_at hl 1 rfl) ?_
  refine q_readz (va_runV (As := [.int (qI (p0))]) (rest := [.ref (mo)]) ⟨hx, hb, hml, hown, hg⟩ (c_X8_isCondition l D cy mo mz msv mtx mmo mif mmg mtn mie mme mrd mas (th) (((hz : Nat) : Int)) (((len : Nat) : Int)) (tu) (fi) (ro) (sp) (it) (bl) (hh) (z) nc _ (by omega) hnc hc) (cv_X8_114 hg rfl rfl ⟨by decide, by decide⟩) ⟨q_blind0, va_recv hK (fl_blk hP 0 rfl) (ci := 8) (q0 := 0) rfl rfl, q_preR _ hK hN hP [0, 1] rfl⟩ rfl rfl hl.1 rfl (lv_room (Nat.le_of_ble_eq_true rfl)) dX8_setStrength_3 ⟨by decide, by decide⟩) (fun b_3 h_3 => ?_)
  refine q_ifz_ne (tgt := 13) hx hb dX8_setStrength_6 (by decide) (fun c_6 => ?_) (fun c_6 => ?_)
  · skip
    have g_6 := (h_3).mp c_6
    refine lv_iload_n hx hb dX8_setStrength_13 rfl (lv_at hl 2 rfl) ?_
    refine q_readz (va_runS (As := [.int (qI (p1))]) (rest := [.ref (mo)]) ⟨hx, hb, hml, hown, hg⟩ (c_X8_isStrength l D cy _ (by omega)) (cs_X8_101 hg rfl rfl ⟨by decide, by decide⟩) ⟨q_blind0, q_preR _ hK hN hP [] rfl⟩ rfl rfl hl.1 rfl (lv_room (Nat.le_of_ble_eq_true rfl)) dX8_setStrength_14 ⟨by decide, by decide⟩) (fun b_14 h_14 => ?_)
    refine q_ifz_eq (tgt := 24) hx hb dX8_setStrength_17 (by decide) (fun c_17 => ?_) (fun c_17 => ?_)
    · skip
      have g_17 := mt (h_14).mpr (by rw [c_17]; decide)
      refine q_iconst hx hb dX8_setStrength_24 ?_
      refine pf_X8_44 hx hb hg hown hK hP hD hS 0 0 rfl rfl rfl rfl (Nat.le_of_ble_eq_true rfl) dX8_setStrength_25 (fun H locs hP hD hS => ?_)
      have hP : va_P D vwCl [[(mo, .inr (8, [.int (qI (2)), .ref (mz), .int (qI (((hz : Nat) : Int))), .ref (msv), .int (qI (((len : Nat) : Int))), .ref (mtx), .ref (mmo), .int (qI (tu)), .ref (mif), .ref (mmg), .ref (mtn), .ref (mie), .ref (mme), .int (qz (fi)), .int (qI (ro)), .int (qI (sp)), .int (qI (it)), .int (qz (bl)), .ref (mrd), .ref (mas), .long (hh)]))], [(mz, aI cy 115 (z))], [(msv, aI cy 920 (sd))], [(mtx, aI cy 60 (bf))], [(mmo, aI cy 121 (g))], [(mif, aZ cy 16 (isF))], [(mmg, aI cy 16 (mg))], [(mtn, aI cy 16 (tn))], [(mie, aZ cy 4 (isE))], [(mme, aI cy 4 (mE))], [(mrd, aI cy 100 (rd))], [(mas, aI cy 115 (as9))]].flatten H := hP
      have hD : va_D A [[(mo, .inr (8, [.int (qI (2)), .ref (mz), .int (qI (((hz : Nat) : Int))), .ref (msv), .int (qI (((len : Nat) : Int))), .ref (mtx), .ref (mmo), .int (qI (tu)), .ref (mif), .ref (mmg), .ref (mtn), .ref (mie), .ref (mme), .int (qz (fi)), .int (qI (ro)), .int (qI (sp)), .int (qI (it)), .int (qz (bl)), .ref (mrd), .ref (mas), .long (hh)]))], [(mz, aI cy 115 (z))], [(msv, aI cy 920 (sd))], [(mtx, aI cy 60 (bf))], [(mmo, aI cy 121 (g))], [(mif, aZ cy 16 (isF))], [(mmg, aI cy 16 (mg))], [(mtn, aI cy 16 (tn))], [(mie, aZ cy 4 (isE))], [(mme, aI cy 4 (mE))], [(mrd, aI cy 100 (rd))], [(mas, aI cy 115 (as9))]].flatten := hD
      refine lv_aload_n hx hb dX8_setStrength_28 rfl (lv_at hl 0 rfl) ?_
      refine gf_X8_44 hx hb hg hown hK (fl_blk hP 0 rfl) 0 rfl rfl dX8_setStrength_29 ?_
      refine q_if_le (tgt := 39) hx hb dX8_setStrength_32 (by decide) (by omega) (fun c_32 => ?_) (fun c_32 => ?_)
      · skip
        exact absurd c_32 (by decide)
      · skip
        refine q_iconst hx hb dX8_setStrength_35 ?_
        refine lv_goto (tgt := 52) hx hb dX8_setStrength_36 (by decide) ?_
        have hP : va_P D vwCl [(mdB cy mo mz msv mtx mmo mif mmg mtn mie mme mrd mas (2) (hz) (len) (tu) (fi) (ro) (sp) (it) (bl) (hh) (z) (sd) (bf) (g) (isF) (mg) (tn) (isE) (mE) (rd) (as9)).flatten].flatten H := by rw [fl_open]; exact hP
        have hD : va_D A [(mdB cy mo mz msv mtx mmo mif mmg mtn mie mme mrd mas (2) (hz) (len) (tu) (fi) (ro) (sp) (it) (bl) (hh) (z) (sd) (bf) (g) (isF) (mg) (tn) (isE) (mE) (rd) (as9)).flatten].flatten := by rw [fl_open]; exact hD
        exact hQ _ _ _ _ _ ((mdB cy mo mz msv mtx mmo mif mmg mtn mie mme mrd mas (2) (hz) (len) (tu) (fi) (ro) (sp) (it) (bl) (hh) (z) (sd) (bf) (g) (isF) (mg) (tn) (isE) (mE) (rd) (as9)).flatten) ⟨(tu), (fi), (ro), (sp), (it), (bl), (hh), (z), (sd), (bf), (g), (isF), (mg), (tn), (isE), (mE), (rd), (as9), rfl, ⟨hL, hz20, hz101⟩, ⟨hhz, hHZ⟩, hln, hbf, htx⟩ hP hD hS dX8_setStrength_52
    · skip
      have g_17 := (h_14).mp c_17
      exfalso; omega
  · skip
    have g_6 := mt (h_3).mpr (by rw [c_6]; decide)
    exfalso; omega

set_option maxRecDepth 100000 in
set_option maxHeartbeats 4000000 in
theorem c_X8_replaced_num (l : Launch) (D : va_G) (cy : Nat → ClassId) (mo mz msv mtx mmo mif mmg mtn mie mme mrd mas : Nat) (T : LSt) (hz : Nat) (HZ : Nat → LSt) (len : Nat) (tx : Nat → Int) (th : Int) (W : va_W) (hG : gOk T) (hW : MW cy mo mz msv mtx mmo mif mmg mtn mie mme mrd mas T hz HZ len tx th W) (v9 : Int) (k : Nat) (hk : k < lN9 T) (hz9 : -2000 ≤ v9 ∧ v9 ≤ 2000) (sz : Nat) : qMet l yX8_replaced (.code yX8_replaced cX8_replaced 4 (some .int)) 8 [.ref (mo), .int (qI (((21 + 5 * k + 3 : Nat) : Int))), .int (qI (v9))] D cy [W] sz (va_Qi (S := va_W) (fun r u => r = qI (lC T 3 k) ∧ MW cy mo mz msv mtx mmo mif mmg mtn mie mme mrd mas (seT (chC T 3 k v9)) (min (hz + 1) 8) (pushH T HZ) len tx th u) (qB D cy [W] sz (fun u => [u])) (va_A [W].flatten sz)) := by
  refine q_ofMi (S := va_W) (b1 := fun u => [u]) (post := fun r u => r = qI (lC T 3 k) ∧ MW cy mo mz msv mtx mmo mif mmg mtn mie mme mrd mas (seT (chC T 3 k v9)) (min (hz + 1) 8) (pushH T HZ) len tx th u) (by decide +kernel) (Nat.le_of_ble_eq_true rfl) ?_
  intro p e s m args below meth c Q A hx hb hml hown hg hQ hK hN hD hA H locs ls hP hS hl
  have hown : s.vm.findClass RX8 = some m.cls := hown
  have hl : lv_has ls 4 [(0, .ref (mo)), (1, .int (qI (((21 + 5 * k + 3 : Nat) : Int)))), (2, .int (qI (v9)))] := hl
  have hW0 := hW
  obtain ⟨tu, fi, ro, sp, it, bl, hh, z, sd, bf, g, isF, mg, tn, isE, mE, rd, as9, rfl, ⟨hL, hz20, hz101⟩, ⟨hhz, hHZ⟩, hln, hbf, htx⟩ := hW
  obtain ⟨gV, gT, gC, gE, gI, gD⟩ := hG.eq hL
  obtain ⟨nc, hnc⟩ : ∃ nc : Nat, z 20 = (nc : Int) := ⟨(z 20).toNat, by omega⟩
  obtain ⟨ne, hne⟩ : ∃ ne : Nat, z 101 = (ne : Int) := ⟨(z 101).toNat, by omega⟩
  have e20 : (z 20).toNat = nc := by omega
  have e101 : (z 101).toNat = ne := by omega
  have hV : qV z := gV
  have hst : ∀ i, i < 10 → 0 ≤ z (10 + i) ∧ z (10 + i) ≤ 9 := gT
  have hc : nc ≤ 16 := e20 ▸ (gC.1 : (z 20).toNat ≤ 16)
  have hC : qWR (zC z) nc := e20 ▸ (gC.2 : qWR (zC z) (z 20).toNat)
  have he : ne ≤ 4 := e101 ▸ (gE.1 : (z 101).toNat ≤ 4)
  have hE : qWR (zE z) ne := e101 ▸ (gE.2 : qWR (zE z) (z 101).toNat)
  have hD9 : ∀ i j, i < ne → j < ne → zE z 0 i = zE z 0 j → i = j := e101 ▸ (gD : ∀ i j, i < (z 101).toNat → j < (z 101).toNat → zE z 0 i = zE z 0 j → i = j)
  have hL2 : LEq (z, (fun i => z (10 + i)), zC z, nc, zE z, ne) T := by rw [← e20, ← e101]; exact hL
  have en : nc = lN9 T := hL2.2.2.1
  have em : ne = lM T := hL2.2.2.2.2.1
  rw [fl_open] at hP hD
  have hP : va_P D vwCl [[(mo, .inr (8, [.int (qI (th)), .ref (mz), .int (qI (((hz : Nat) : Int))), .ref (msv), .int (qI (((len : Nat) : Int))), .ref (mtx), .ref (mmo), .int (qI (tu)), .ref (mif), .ref (mmg), .ref (mtn), .ref (mie), .ref (mme), .int (qz (fi)), .int (qI (ro)), .int (qI (sp)), .int (qI (it)), .int (qz (bl)), .ref (mrd), .ref (mas), .long (hh)]))], [(mz, aI cy 115 (z))], [(msv, aI cy 920 (sd))], [(mtx, aI cy 60 (bf))], [(mmo, aI cy 121 (g))], [(mif, aZ cy 16 (isF))], [(mmg, aI cy 16 (mg))], [(mtn, aI cy 16 (tn))], [(mie, aZ cy 4 (isE))], [(mme, aI cy 4 (mE))], [(mrd, aI cy 100 (rd))], [(mas, aI cy 115 (as9))]].flatten H := hP
  have hD : va_D A [[(mo, .inr (8, [.int (qI (th)), .ref (mz), .int (qI (((hz : Nat) : Int))), .ref (msv), .int (qI (((len : Nat) : Int))), .ref (mtx), .ref (mmo), .int (qI (tu)), .ref (mif), .ref (mmg), .ref (mtn), .ref (mie), .ref (mme), .int (qz (fi)), .int (qI (ro)), .int (qI (sp)), .int (qI (it)), .int (qz (bl)), .ref (mrd), .ref (mas), .long (hh)]))], [(mz, aI cy 115 (z))], [(msv, aI cy 920 (sd))], [(mtx, aI cy 60 (bf))], [(mmo, aI cy 121 (g))], [(mif, aZ cy 16 (isF))], [(mmg, aI cy 16 (mg))], [(mtn, aI cy 16 (tn))], [(mie, aZ cy 4 (isE))], [(mme, aI cy 4 (mE))], [(mrd, aI cy 100 (rd))], [(mas, aI cy 115 (as9))]].flatten := hD
  refine lv_aload_n hx hb dX8_replaced_0 rfl (lv_at hl 0 rfl) ?_
  refine q_backv [0, 1, 2] [3, 4, 5, 6, 7, 8, 9, 10, 11] (br := [[(mtx, aI cy 60 (bf))], [(mmo, aI cy 121 (g))], [(mif, aZ cy 16 (isF))], [(mmg, aI cy 16 (mg))], [(mtn, aI cy 16 (tn))], [(mie, aZ cy 4 (isE))], [(mme, aI cy 4 (mE))], [(mrd, aI cy 100 (rd))], [(mas, aI cy 115 (as9))]]) hP hD hS hA (va_runV (As := []) (rest := []) ⟨hx, hb, hml, hown, hg⟩ (c_X8_save l D cy mo mz msv mtx mmo mif mmg mtn mie mme mrd mas (th) (((len : Nat) : Int)) (tu) (fi) (ro) (sp) (it) (bl) (hh) hz (z) (sd) hhz _) (cv_X8_104 hg rfl rfl ⟨by decide, by decide⟩) ⟨q_blind, va_recv hK (fl_blk hP 0 rfl) (ci := 8) (q0 := 0) rfl rfl, q_preM _ hK hN hP hD [0, 1, 2] (by decide) rfl⟩ rfl rfl hl.1 rfl (lv_room (Nat.le_of_ble_eq_true rfl)) dX8_replaced_1 ⟨by decide, by decide⟩) rfl rfl (by decide) (fun u_1 H locs h_1 hP hD hS => ?_)
  have hP : va_P D vwCl [[(mtx, aI cy 60 (bf))], [(mmo, aI cy 121 (g))], [(mif, aZ cy 16 (isF))], [(mmg, aI cy 16 (mg))], [(mtn, aI cy 16 (tn))], [(mie, aZ cy 4 (isE))], [(mme, aI cy 4 (mE))], [(mrd, aI cy 100 (rd))], [(mas, aI cy 115 (as9))], [(mo, .inr (8, [.int (qI (th)), .ref (mz), .int (qI (((min (hz + 1) 8 : Nat) : Int))), .ref (msv), .int (qI (((len : Nat) : Int))), .ref (mtx), .ref (mmo), .int (qI (tu)), .ref (mif), .ref (mmg), .ref (mtn), .ref (mie), .ref (mme), .int (qz (fi)), .int (qI (ro)), .int (qI (sp)), .int (qI (it)), .int (qz (bl)), .ref (mrd), .ref (mas), .long (hh)]))], [(mz, aI cy 115 (z))], [(msv, aI cy 920 (u_1))]].flatten H := hP
  have hD : va_D A [[(mtx, aI cy 60 (bf))], [(mmo, aI cy 121 (g))], [(mif, aZ cy 16 (isF))], [(mmg, aI cy 16 (mg))], [(mtn, aI cy 16 (tn))], [(mie, aZ cy 4 (isE))], [(mme, aI cy 4 (mE))], [(mrd, aI cy 100 (rd))], [(mas, aI cy 115 (as9))], [(mo, .inr (8, [.int (qI (th)), .ref (mz), .int (qI (((min (hz + 1) 8 : Nat) : Int))), .ref (msv), .int (qI (((len : Nat) : Int))), .ref (mtx), .ref (mmo), .int (qI (tu)), .ref (mif), .ref (mmg), .ref (mtn), .ref (mie), .ref (mme), .int (qz (fi)), .int (qI (ro)), .int (qI (sp)), .int (qI (it)), .int (qz (bl)), .ref (mrd), .ref (mas), .long (hh)]))], [(mz, aI cy 115 (z))], [(msv, aI cy 920 (u_1))]].flatten := hD
  refine lv_aload_n hx hb dX8_replaced_4 rfl (lv_at hl 0 rfl) ?_
  refine gf_X8_7 hx hb hg hown hK (fl_blk hP 9 rfl) 0 rfl rfl dX8_replaced_5 ?_
  refine lv_iload_n hx hb dX8_replaced_8 rfl (lv_at hl 1 rfl) ?_
  refine q_iald (j := 21 + 5 * k + 3) hx hb hK (fl_blk hP 10 rfl) 0 rfl (by omega) dX8_replaced_9 ?_
  refine lv_istore_n (lv' := [(3, .int (qI (z (21 + 5 * k + 3)))), (0, .ref (mo)), (1, .int (qI (((21 + 5 * k + 3 : Nat) : Int)))), (2, .int (qI (v9)))]) hx hb dX8_replaced_10 rfl hl (by decide) rfl (fun ls hl => ?_)
  refine lv_aload_n hx hb dX8_replaced_11 rfl (lv_at hl 1 rfl) ?_
  refine gf_X8_7 hx hb hg hown hK (fl_blk hP 9 rfl) 0 rfl rfl dX8_replaced_12 ?_
  refine lv_iload_n hx hb dX8_replaced_15 rfl (lv_at hl 2 rfl) ?_
  refine lv_iload_n hx hb dX8_replaced_16 rfl (lv_at hl 3 rfl) ?_
  refine qb_iast (j := 21 + 5 * k + 3) hx hb hK hP hD hS 10 0 rfl rfl (by omega) dX8_replaced_17 (fun H locs hP hD hS => ?_)
  have hP : va_P D vwCl [[(mtx, aI cy 60 (bf))], [(mmo, aI cy 121 (g))], [(mif, aZ cy 16 (isF))], [(mmg, aI cy 16 (mg))], [(mtn, aI cy 16 (tn))], [(mie, aZ cy 4 (isE))], [(mme, aI cy 4 (mE))], [(mrd, aI cy 100 (rd))], [(mas, aI cy 115 (as9))], [(mo, .inr (8, [.int (qI (th)), .ref (mz), .int (qI (((min (hz + 1) 8 : Nat) : Int))), .ref (msv), .int (qI (((len : Nat) : Int))), .ref (mtx), .ref (mmo), .int (qI (tu)), .ref (mif), .ref (mmg), .ref (mtn), .ref (mie), .ref (mme), .int (qz (fi)), .int (qI (ro)), .int (qI (sp)), .int (qI (it)), .int (qz (bl)), .ref (mrd), .ref (mas), .long (hh)]))], [(mz, aI cy 115 (qu z (21 + 5 * k + 3) (v9)))], [(msv, aI cy 920 (u_1))]].flatten H := hP
  have hD : va_D A [[(mtx, aI cy 60 (bf))], [(mmo, aI cy 121 (g))], [(mif, aZ cy 16 (isF))], [(mmg, aI cy 16 (mg))], [(mtn, aI cy 16 (tn))], [(mie, aZ cy 4 (isE))], [(mme, aI cy 4 (mE))], [(mrd, aI cy 100 (rd))], [(mas, aI cy 115 (as9))], [(mo, .inr (8, [.int (qI (th)), .ref (mz), .int (qI (((min (hz + 1) 8 : Nat) : Int))), .ref (msv), .int (qI (((len : Nat) : Int))), .ref (mtx), .ref (mmo), .int (qI (tu)), .ref (mif), .ref (mmg), .ref (mtn), .ref (mie), .ref (mme), .int (qz (fi)), .int (qI (ro)), .int (qI (sp)), .int (qI (it)), .int (qz (bl)), .ref (mrd), .ref (mas), .long (hh)]))], [(mz, aI cy 115 (qu z (21 + 5 * k + 3) (v9)))], [(msv, aI cy 920 (u_1))]].flatten := hD
  have hS0 : LEq (zS (qu z (21 + 5 * k + 3) v9)) (chC T 3 k v9) := LEq.tr (zch_at (by omega) (by decide) (by omega)) (chC_eq hL (by decide) k v9)
  have gS0 := (chC3_ok hG k hz9).eq hS0
  obtain ⟨n0, hn0⟩ : ∃ n0 : Nat, (qu z (21 + 5 * k + 3) v9) 20 = (n0 : Int) := ⟨((qu z (21 + 5 * k + 3) v9) 20).toNat, by have q := (show (qu z (21 + 5 * k + 3) v9) 20 = z 20 from qu_n _ _ (by omega)); omega⟩
  obtain ⟨m0, hm0⟩ : ∃ m0 : Nat, (qu z (21 + 5 * k + 3) v9) 101 = (m0 : Int) := ⟨((qu z (21 + 5 * k + 3) v9) 101).toNat, by have q := (show (qu z (21 + 5 * k + 3) v9) 101 = z 101 from qu_n _ _ (by omega)); omega⟩
  have n20 : ((qu z (21 + 5 * k + 3) v9) 20).toNat = n0 := by omega
  have n101 : ((qu z (21 + 5 * k + 3) v9) 101).toNat = m0 := by omega
  have hV0 : qV (qu z (21 + 5 * k + 3) v9) := gS0.1
  have hst0 : ∀ i, i < 10 → 0 ≤ (qu z (21 + 5 * k + 3) v9) (10 + i) ∧ (qu z (21 + 5 * k + 3) v9) (10 + i) ≤ 9 := gS0.2.1
  have hc0 : n0 ≤ 16 := n20 ▸ (gS0.2.2.1.1 : ((qu z (21 + 5 * k + 3) v9) 20).toNat ≤ 16)
  have hC0 : qWR (zC (qu z (21 + 5 * k + 3) v9)) n0 := n20 ▸ (gS0.2.2.1.2 : qWR (zC (qu z (21 + 5 * k + 3) v9)) ((qu z (21 + 5 * k + 3) v9) 20).toNat)
  have he0 : m0 ≤ 4 := n101 ▸ (gS0.2.2.2.1.1 : ((qu z (21 + 5 * k + 3) v9) 101).toNat ≤ 4)
  have hE0 : qWR (zE (qu z (21 + 5 * k + 3) v9)) m0 := n101 ▸ (gS0.2.2.2.1.2 : qWR (zE (qu z (21 + 5 * k + 3) v9)) ((qu z (21 + 5 * k + 3) v9) 101).toNat)
  refine lv_aload_n hx hb dX8_replaced_18 rfl (lv_at hl 1 rfl) ?_
  refine q_backv [9, 10, 1, 2, 3, 4, 5, 6] [0, 7, 8, 11] (br := [[(mtx, aI cy 60 (bf))], [(mrd, aI cy 100 (rd))], [(mas, aI cy 115 (as9))], [(msv, aI cy 920 (u_1))]]) hP hD hS hA (va_runV (As := []) (rest := []) ⟨hx, hb, hml, hown, hg⟩ (c_X8_settle l D cy mo mz msv mtx mmo mif mmg mtn mie mme mrd mas (th) (((min (hz + 1) 8 : Nat) : Int)) (((len : Nat) : Int)) (tu) (fi) (ro) (sp) (it) (bl) (hh) (qu z (21 + 5 * k + 3) (v9)) n0 m0 (g) (isF) (mg) (tn) (isE) (mE) hn0 hm0 hc0 he0 hC0 hE0 hV0 hst0 _) (cv_X8_111 hg rfl rfl ⟨by decide, by decide⟩) ⟨q_blind, va_recv hK (fl_blk hP 9 rfl) (ci := 8) (q0 := 0) rfl rfl, q_preM _ hK hN hP hD [9, 10, 1, 2, 3, 4, 5, 6] (by decide) rfl⟩ rfl rfl hl.1 rfl (lv_room (Nat.le_of_ble_eq_true rfl)) dX8_replaced_19 ⟨by decide, by decide⟩) rfl rfl (by decide) (fun u_19 H locs h_19 hP hD hS => ?_)
  have hP : va_P D vwCl [[(mtx, aI cy 60 (bf))], [(mrd, aI cy 100 (rd))], [(mas, aI cy 115 (as9))], [(msv, aI cy 920 (u_1))], [(mo, .inr (8, [.int (qI (th)), .ref (mz), .int (qI (((min (hz + 1) 8 : Nat) : Int))), .ref (msv), .int (qI (((len : Nat) : Int))), .ref (mtx), .ref (mmo), .int (qI (u_19.2.2.2.1)), .ref (mif), .ref (mmg), .ref (mtn), .ref (mie), .ref (mme), .int (qz (u_19.2.2.2.2.2.2.2.2.2.1)), .int (qI (u_19.2.2.2.2.2.2.2.2.2.2)), .int (qI (sp)), .int (qI (it)), .int (qz (bl)), .ref (mrd), .ref (mas), .long (hh)]))], [(mz, aI cy 115 (u_19.1))], [(mmo, aI cy 121 (u_19.2.1))], [(mif, aZ cy 16 (u_19.2.2.2.2.1))], [(mmg, aI cy 16 (u_19.2.2.2.2.2.1))], [(mtn, aI cy 16 (u_19.2.2.2.2.2.2.1))], [(mie, aZ cy 4 (u_19.2.2.2.2.2.2.2.1))], [(mme, aI cy 4 (u_19.2.2.2.2.2.2.2.2.1))]].flatten H := hP
  have hD : va_D A [[(mtx, aI cy 60 (bf))], [(mrd, aI cy 100 (rd))], [(mas, aI cy 115 (as9))], [(msv, aI cy 920 (u_1))], [(mo, .inr (8, [.int (qI (th)), .ref (mz), .int (qI (((min (hz + 1) 8 : Nat) : Int))), .ref (msv), .int (qI (((len : Nat) : Int))), .ref (mtx), .ref (mmo), .int (qI (u_19.2.2.2.1)), .ref (mif), .ref (mmg), .ref (mtn), .ref (mie), .ref (mme), .int (qz (u_19.2.2.2.2.2.2.2.2.2.1)), .int (qI (u_19.2.2.2.2.2.2.2.2.2.2)), .int (qI (sp)), .int (qI (it)), .int (qz (bl)), .ref (mrd), .ref (mas), .long (hh)]))], [(mz, aI cy 115 (u_19.1))], [(mmo, aI cy 121 (u_19.2.1))], [(mif, aZ cy 16 (u_19.2.2.2.2.1))], [(mmg, aI cy 16 (u_19.2.2.2.2.2.1))], [(mtn, aI cy 16 (u_19.2.2.2.2.2.2.1))], [(mie, aZ cy 4 (u_19.2.2.2.2.2.2.2.1))], [(mme, aI cy 4 (u_19.2.2.2.2.2.2.2.2.1))]].flatten := hD
  refine lv_iload_n hx hb dX8_replaced_22 rfl (lv_at hl 0 rfl) ?_
  have hP := fl_sub (bs' := [[(mo, .inr (8, [.int (qI (th)), .ref (mz), .int (qI (((min (hz + 1) 8 : Nat) : Int))), .ref (msv), .int (qI (((len : Nat) : Int))), .ref (mtx), .ref (mmo), .int (qI (u_19.2.2.2.1)), .ref (mif), .ref (mmg), .ref (mtn), .ref (mie), .ref (mme), .int (qz (u_19.2.2.2.2.2.2.2.2.2.1)), .int (qI (u_19.2.2.2.2.2.2.2.2.2.2)), .int (qI (sp)), .int (qI (it)), .int (qz (bl)), .ref (mrd), .ref (mas), .long (hh)]))], [(mz, aI cy 115 (u_19.1))], [(msv, aI cy 920 (u_1))], [(mtx, aI cy 60 (bf))], [(mmo, aI cy 121 (u_19.2.1))], [(mif, aZ cy 16 (u_19.2.2.2.2.1))], [(mmg, aI cy 16 (u_19.2.2.2.2.2.1))], [(mtn, aI cy 16 (u_19.2.2.2.2.2.2.1))], [(mie, aZ cy 4 (u_19.2.2.2.2.2.2.2.1))], [(mme, aI cy 4 (u_19.2.2.2.2.2.2.2.2.1))], [(mrd, aI cy 100 (rd))], [(mas, aI cy 115 (as9))]]) hP [4, 5, 3, 0, 6, 7, 8, 9, 10, 11, 1, 2] rfl
  have hD := fl_subD (bs' := [[(mo, .inr (8, [.int (qI (th)), .ref (mz), .int (qI (((min (hz + 1) 8 : Nat) : Int))), .ref (msv), .int (qI (((len : Nat) : Int))), .ref (mtx), .ref (mmo), .int (qI (u_19.2.2.2.1)), .ref (mif), .ref (mmg), .ref (mtn), .ref (mie), .ref (mme), .int (qz (u_19.2.2.2.2.2.2.2.2.2.1)), .int (qI (u_19.2.2.2.2.2.2.2.2.2.2)), .int (qI (sp)), .int (qI (it)), .int (qz (bl)), .ref (mrd), .ref (mas), .long (hh)]))], [(mz, aI cy 115 (u_19.1))], [(msv, aI cy 920 (u_1))], [(mtx, aI cy 60 (bf))], [(mmo, aI cy 121 (u_19.2.1))], [(mif, aZ cy 16 (u_19.2.2.2.2.1))], [(mmg, aI cy 16 (u_19.2.2.2.2.2.1))], [(mtn, aI cy 16 (u_19.2.2.2.2.2.2.1))], [(mie, aZ cy 4 (u_19.2.2.2.2.2.2.2.1))], [(mme, aI cy 4 (u_19.2.2.2.2.2.2.2.2.1))], [(mrd, aI cy 100 (rd))], [(mas, aI cy 115 (as9))]]) hD [4, 5, 3, 0, 6, 7, 8, 9, 10, 11, 1, 2] (by decide) rfl
  have hP : va_P D vwCl [(mdB cy mo mz msv mtx mmo mif mmg mtn mie mme mrd mas (th) ((min (hz + 1) 8)) (len) (u_19.2.2.2.1) (u_19.2.2.2.2.2.2.2.2.2.1) (u_19.2.2.2.2.2.2.2.2.2.2) (sp) (it) (bl) (hh) (u_19.1) (u_1) (bf) (u_19.2.1) (u_19.2.2.2.2.1) (u_19.2.2.2.2.2.1) (u_19.2.2.2.2.2.2.1) (u_19.2.2.2.2.2.2.2.1) (u_19.2.2.2.2.2.2.2.2.1) (rd) (as9)).flatten].flatten H := by rw [fl_open]; exact hP
  have hD : va_D A [(mdB cy mo mz msv mtx mmo mif mmg mtn mie mme mrd mas (th) ((min (hz + 1) 8)) (len) (u_19.2.2.2.1) (u_19.2.2.2.2.2.2.2.2.2.1) (u_19.2.2.2.2.2.2.2.2.2.2) (sp) (it) (bl) (hh) (u_19.1) (u_1) (bf) (u_19.2.1) (u_19.2.2.2.2.1) (u_19.2.2.2.2.2.1) (u_19.2.2.2.2.2.2.1) (u_19.2.2.2.2.2.2.2.1) (u_19.2.2.2.2.2.2.2.2.1) (rd) (as9)).flatten].flatten := by rw [fl_open]; exact hD
  exact hQ _ _ _ _ _ ((mdB cy mo mz msv mtx mmo mif mmg mtn mie mme mrd mas (th) ((min (hz + 1) 8)) (len) (u_19.2.2.2.1) (u_19.2.2.2.2.2.2.2.2.2.1) (u_19.2.2.2.2.2.2.2.2.2.2) (sp) (it) (bl) (hh) (u_19.1) (u_1) (bf) (u_19.2.1) (u_19.2.2.2.2.1) (u_19.2.2.2.2.2.1) (u_19.2.2.2.2.2.2.1) (u_19.2.2.2.2.2.2.2.1) (u_19.2.2.2.2.2.2.2.2.1) (rd) (as9)).flatten) ⟨by rw [← hL.2.2.2.1 3 k (by decide) (by omega)]; rfl, ⟨(u_19.2.2.2.1), (u_19.2.2.2.2.2.2.2.2.2.1), (u_19.2.2.2.2.2.2.2.2.2.2), (sp), (it), (bl), (hh), (u_19.1), (u_1), (bf), (u_19.2.1), (u_19.2.2.2.2.1), (u_19.2.2.2.2.2.1), (u_19.2.2.2.2.2.2.1), (u_19.2.2.2.2.2.2.2.1), (u_19.2.2.2.2.2.2.2.2.1), (rd), (as9), rfl, mset_fin hS0 n20 n101 hn0 hm0 hc0 he0 h_19.1, ⟨by omega, mh_push hhz h_1 ⟨hL, hz20, hz101, by omega, by omega⟩ hHZ⟩, hln, hbf, htx⟩⟩ hP hD hS dX8_replaced_23

set_option maxRecDepth 100000 in
set_option maxHeartbeats 4000000 in
theorem c_X8_setNumber (l : Launch) (D : va_G) (cy : Nat → ClassId) (mo mz msv mtx mmo mif mmg mtn mie mme mrd mas : Nat) (T : LSt) (hz : Nat) (HZ : Nat → LSt) (len : Nat) (tx : Nat → Int) (th : Int) (W : va_W) (hG : gOk T) (hW : MW cy mo mz msv mtx mmo mif mmg mtn mie mme mrd mas T hz HZ len tx th W) (p0 p1 : Int) (k : Nat) (hk : p0 = (k : Int) ∧ k < lN9 T) (hz9 : -2000 ≤ p1 ∧ p1 ≤ 2000) (sz : Nat) : qMet l yX8_setNumber (.code yX8_setNumber cX8_setNumber 3 (some .int)) 9 [.ref (mo), .int (qI (p0)), .int (qI (p1))] D cy [W] sz (va_Qi (S := va_W) (fun r u => r = qI (lC T 3 k) ∧ MW cy mo mz msv mtx mmo mif mmg mtn mie mme mrd mas (seT (chC T 3 k p1)) (min (hz + 1) 8) (pushH T HZ) len tx 0 u) (qB D cy [W] sz (fun u => [u])) (va_A [W].flatten sz)) := by
  refine q_ofMi (S := va_W) (b1 := fun u => [u]) (post := fun r u => r = qI (lC T 3 k) ∧ MW cy mo mz msv mtx mmo mif mmg mtn mie mme mrd mas (seT (chC T 3 k p1)) (min (hz + 1) 8) (pushH T HZ) len tx 0 u) (by decide +kernel) (Nat.le_of_ble_eq_true rfl) ?_
  intro p e s m args below meth c Q A hx hb hml hown hg hQ hK hN hD hA H locs ls hP hS hl
  have hown : s.vm.findClass RX8 = some m.cls := hown
  have hl : lv_has ls 3 [(0, .ref (mo)), (1, .int (qI (p0))), (2, .int (qI (p1)))] := hl
  have hW0 := hW
  obtain ⟨tu, fi, ro, sp, it, bl, hh, z, sd, bf, g, isF, mg, tn, isE, mE, rd, as9, rfl, ⟨hL, hz20, hz101⟩, ⟨hhz, hHZ⟩, hln, hbf, htx⟩ := hW
  obtain ⟨gV, gT, gC, gE, gI, gD⟩ := hG.eq hL
  obtain ⟨nc, hnc⟩ : ∃ nc : Nat, z 20 = (nc : Int) := ⟨(z 20).toNat, by omega⟩
  obtain ⟨ne, hne⟩ : ∃ ne : Nat, z 101 = (ne : Int) := ⟨(z 101).toNat, by omega⟩
  have e20 : (z 20).toNat = nc := by omega
  have e101 : (z 101).toNat = ne := by omega
  have hV : qV z := gV
  have hst : ∀ i, i < 10 → 0 ≤ z (10 + i) ∧ z (10 + i) ≤ 9 := gT
  have hc : nc ≤ 16 := e20 ▸ (gC.1 : (z 20).toNat ≤ 16)
  have hC : qWR (zC z) nc := e20 ▸ (gC.2 : qWR (zC z) (z 20).toNat)
  have he : ne ≤ 4 := e101 ▸ (gE.1 : (z 101).toNat ≤ 4)
  have hE : qWR (zE z) ne := e101 ▸ (gE.2 : qWR (zE z) (z 101).toNat)
  have hD9 : ∀ i j, i < ne → j < ne → zE z 0 i = zE z 0 j → i = j := e101 ▸ (gD : ∀ i j, i < (z 101).toNat → j < (z 101).toNat → zE z 0 i = zE z 0 j → i = j)
  have hL2 : LEq (z, (fun i => z (10 + i)), zC z, nc, zE z, ne) T := by rw [← e20, ← e101]; exact hL
  have en : nc = lN9 T := hL2.2.2.1
  have em : ne = lM T := hL2.2.2.2.2.1
  rw [fl_open] at hP hD
  have hP : va_P D vwCl [[(mo, .inr (8, [.int (qI (th)), .ref (mz), .int (qI (((hz : Nat) : Int))), .ref (msv), .int (qI (((len : Nat) : Int))), .ref (mtx), .ref (mmo), .int (qI (tu)), .ref (mif), .ref (mmg), .ref (mtn), .ref (mie), .ref (mme), .int (qz (fi)), .int (qI (ro)), .int (qI (sp)), .int (qI (it)), .int (qz (bl)), .ref (mrd), .ref (mas), .long (hh)]))], [(mz, aI cy 115 (z))], [(msv, aI cy 920 (sd))], [(mtx, aI cy 60 (bf))], [(mmo, aI cy 121 (g))], [(mif, aZ cy 16 (isF))], [(mmg, aI cy 16 (mg))], [(mtn, aI cy 16 (tn))], [(mie, aZ cy 4 (isE))], [(mme, aI cy 4 (mE))], [(mrd, aI cy 100 (rd))], [(mas, aI cy 115 (as9))]].flatten H := hP
  have hD : va_D A [[(mo, .inr (8, [.int (qI (th)), .ref (mz), .int (qI (((hz : Nat) : Int))), .ref (msv), .int (qI (((len : Nat) : Int))), .ref (mtx), .ref (mmo), .int (qI (tu)), .ref (mif), .ref (mmg), .ref (mtn), .ref (mie), .ref (mme), .int (qz (fi)), .int (qI (ro)), .int (qI (sp)), .int (qI (it)), .int (qz (bl)), .ref (mrd), .ref (mas), .long (hh)]))], [(mz, aI cy 115 (z))], [(msv, aI cy 920 (sd))], [(mtx, aI cy 60 (bf))], [(mmo, aI cy 121 (g))], [(mif, aZ cy 16 (isF))], [(mmg, aI cy 16 (mg))], [(mtn, aI cy 16 (tn))], [(mie, aZ cy 4 (isE))], [(mme, aI cy 4 (mE))], [(mrd, aI cy 100 (rd))], [(mas, aI cy 115 (as9))]].flatten := hD
  refine lv_aload_n hx hb dX8_setNumber_0 rfl (lv_at hl 0 rfl) ?_
  refine lv_aload_n hx hb dX8_setNumber_1 rfl (lv_at hl 0 rfl) ?_
  refine lv_iload_n hx hb dX8_setNumber_2 rfl (lv_at hl 1 rfl) ?_
  refine q_readz (va_runV (As := [.int (qI (p0))]) (rest := [.ref (mo)]) ⟨hx, hb, hml, hown, hg⟩ (c_X8_isCondition l D cy mo mz msv mtx mmo mif mmg mtn mie mme mrd mas (th) (((hz : Nat) : Int)) (((len : Nat) : Int)) (tu) (fi) (ro) (sp) (it) (bl) (hh) (z) nc _ (by omega) hnc hc) (cv_X8_114 hg rfl rfl ⟨by decide, by decide⟩) ⟨q_blind0, va_recv hK (fl_blk hP 0 rfl) (ci := 8) (q0 := 0) rfl rfl, q_preR _ hK hN hP [0, 1] rfl⟩ rfl rfl hl.1 rfl (lv_room (Nat.le_of_ble_eq_true rfl)) dX8_setNumber_3 ⟨by decide, by decide⟩) (fun b_3 h_3 => ?_)
  refine q_ifz_ne (tgt := 13) hx hb dX8_setNumber_6 (by decide) (fun c_6 => ?_) (fun c_6 => ?_)
  · skip
    have g_6 := (h_3).mp c_6
    refine lv_iload_n hx hb dX8_setNumber_13 rfl (lv_at hl 2 rfl) ?_
    refine q_readz (va_runS (As := [.int (qI (p1))]) (rest := [.ref (mo)]) ⟨hx, hb, hml, hown, hg⟩ (c_X8_isNumber l D cy _ (by omega)) (cs_X8_98 hg rfl rfl ⟨by decide, by decide⟩) ⟨q_blind0, q_preR _ hK hN hP [] rfl⟩ rfl rfl hl.1 rfl (lv_room (Nat.le_of_ble_eq_true rfl)) dX8_setNumber_14 ⟨by decide, by decide⟩) (fun b_14 h_14 => ?_)
    refine q_ifz_eq (tgt := 24) hx hb dX8_setNumber_17 (by decide) (fun c_17 => ?_) (fun c_17 => ?_)
    · skip
      have g_17 := mt (h_14).mpr (by rw [c_17]; decide)
      exfalso; omega
    · skip
      have g_17 := (h_14).mp c_17
      refine q_iconst hx hb dX8_setNumber_20 ?_
      refine lv_goto (tgt := 25) hx hb dX8_setNumber_21 (by decide) ?_
      refine pf_X8_44 hx hb hg hown hK hP hD hS 0 0 rfl rfl rfl rfl (Nat.le_of_ble_eq_true rfl) dX8_setNumber_25 (fun H locs hP hD hS => ?_)
      have hP : va_P D vwCl [[(mo, .inr (8, [.int (qI (0)), .ref (mz), .int (qI (((hz : Nat) : Int))), .ref (msv), .int (qI (((len : Nat) : Int))), .ref (mtx), .ref (mmo), .int (qI (tu)), .ref (mif), .ref (mmg), .ref (mtn), .ref (mie), .ref (mme), .int (qz (fi)), .int (qI (ro)), .int (qI (sp)), .int (qI (it)), .int (qz (bl)), .ref (mrd), .ref (mas), .long (hh)]))], [(mz, aI cy 115 (z))], [(msv, aI cy 920 (sd))], [(mtx, aI cy 60 (bf))], [(mmo, aI cy 121 (g))], [(mif, aZ cy 16 (isF))], [(mmg, aI cy 16 (mg))], [(mtn, aI cy 16 (tn))], [(mie, aZ cy 4 (isE))], [(mme, aI cy 4 (mE))], [(mrd, aI cy 100 (rd))], [(mas, aI cy 115 (as9))]].flatten H := hP
      have hD : va_D A [[(mo, .inr (8, [.int (qI (0)), .ref (mz), .int (qI (((hz : Nat) : Int))), .ref (msv), .int (qI (((len : Nat) : Int))), .ref (mtx), .ref (mmo), .int (qI (tu)), .ref (mif), .ref (mmg), .ref (mtn), .ref (mie), .ref (mme), .int (qz (fi)), .int (qI (ro)), .int (qI (sp)), .int (qI (it)), .int (qz (bl)), .ref (mrd), .ref (mas), .long (hh)]))], [(mz, aI cy 115 (z))], [(msv, aI cy 920 (sd))], [(mtx, aI cy 60 (bf))], [(mmo, aI cy 121 (g))], [(mif, aZ cy 16 (isF))], [(mmg, aI cy 16 (mg))], [(mtn, aI cy 16 (tn))], [(mie, aZ cy 4 (isE))], [(mme, aI cy 4 (mE))], [(mrd, aI cy 100 (rd))], [(mas, aI cy 115 (as9))]].flatten := hD
      refine lv_aload_n hx hb dX8_setNumber_28 rfl (lv_at hl 0 rfl) ?_
      refine gf_X8_44 hx hb hg hown hK (fl_blk hP 0 rfl) 0 rfl rfl dX8_setNumber_29 ?_
      refine q_if_le (tgt := 39) hx hb dX8_setNumber_32 (by decide) (by omega) (fun c_32 => ?_) (fun c_32 => ?_)
      · skip
        refine lv_aload_n hx hb dX8_setNumber_39 rfl (lv_at hl 0 rfl) ?_
        refine q_bipush hx hb dX8_setNumber_40 (by decide) ?_
        refine q_iconst hx hb dX8_setNumber_42 ?_
        refine lv_iload_n hx hb dX8_setNumber_43 rfl (lv_at hl 1 rfl) ?_
        refine q_imul hx hb dX8_setNumber_44 ?_
        refine q_iadd hx hb dX8_setNumber_45 ?_
        refine q_iconst hx hb dX8_setNumber_46 ?_
        refine q_iadd hx hb dX8_setNumber_47 ?_
        refine q_topZ (y := ((21 + 5 * k + 3 : Nat) : Int)) (by omega) ?_
        refine lv_iload_n hx hb dX8_setNumber_48 rfl (lv_at hl 2 rfl) ?_
        have hP : va_P D vwCl [(mdB cy mo mz msv mtx mmo mif mmg mtn mie mme mrd mas (0) (hz) (len) (tu) (fi) (ro) (sp) (it) (bl) (hh) (z) (sd) (bf) (g) (isF) (mg) (tn) (isE) (mE) (rd) (as9)).flatten].flatten H := by rw [fl_open]; exact hP
        have hD : va_D A [(mdB cy mo mz msv mtx mmo mif mmg mtn mie mme mrd mas (0) (hz) (len) (tu) (fi) (ro) (sp) (it) (bl) (hh) (z) (sd) (bf) (g) (isF) (mg) (tn) (isE) (mE) (rd) (as9)).flatten].flatten := by rw [fl_open]; exact hD
        have hW1 : MW cy mo mz msv mtx mmo mif mmg mtn mie mme mrd mas T hz HZ len tx 0 ((mdB cy mo mz msv mtx mmo mif mmg mtn mie mme mrd mas (0) (hz) (len) (tu) (fi) (ro) (sp) (it) (bl) (hh) (z) (sd) (bf) (g) (isF) (mg) (tn) (isE) (mE) (rd) (as9)).flatten) := ⟨(tu), (fi), (ro), (sp), (it), (bl), (hh), (z), (sd), (bf), (g), (isF), (mg), (tn), (isE), (mE), (rd), (as9), rfl, ⟨hL, hz20, hz101⟩, ⟨hhz, hHZ⟩, hln, hbf, htx⟩
        refine q_backi [0] [] (br := []) hP hD hS hA (va_runV (As := [.int (qI (((21 + 5 * k + 3 : Nat) : Int))), .int (qI (p1))]) (rest := []) ⟨hx, hb, hml, hown, hg⟩ (c_X8_replaced_num l D cy mo mz msv mtx mmo mif mmg mtn mie mme mrd mas T hz HZ len tx 0 _ hG hW1 (p1) k (by omega) (by omega) _) (cv_X8_117 hg rfl rfl ⟨by decide, by decide⟩) ⟨q_blind, va_recv hK (fl_blk hP 0 rfl) (ci := 8) (q0 := 0) rfl rfl, q_preM _ hK hN hP hD [0] (by decide) rfl⟩ rfl rfl hl.1 rfl (lv_room (Nat.le_of_ble_eq_true rfl)) dX8_setNumber_49 ⟨by decide, by decide⟩) rfl rfl (by decide) (fun r_49 u_49 H locs h_49 hP hD hS => ?_)
        have hP : va_P D vwCl [u_49].flatten H := hP
        have hD : va_D A [u_49].flatten := hD
        obtain ⟨rfl, h_49⟩ := h_49
        exact hQ _ _ _ _ _ u_49 ⟨rfl, h_49⟩ hP hD hS dX8_setNumber_52
      · skip
        exact absurd c_32 (by decide)
  · skip
    have g_6 := mt (h_3).mpr (by rw [c_6]; decide)
    exfalso; omega

set_option maxRecDepth 100000 in
set_option maxHeartbeats 4000000 in
theorem c_X8_setNumber_no1 (l : Launch) (D : va_G) (cy : Nat → ClassId) (mo mz msv mtx mmo mif mmg mtn mie mme mrd mas : Nat) (T : LSt) (hz : Nat) (HZ : Nat → LSt) (len : Nat) (tx : Nat → Int) (th : Int) (W : va_W) (hG : gOk T) (hW : MW cy mo mz msv mtx mmo mif mmg mtn mie mme mrd mas T hz HZ len tx th W) (p0 p1 : Int) (r0 : (-2147483648 ≤ p0 ∧ p0 < 2147483648)) (r1 : (-2147483648 ≤ p1 ∧ p1 < 2147483648)) (hx : ¬ (0 ≤ p0 ∧ p0 < (lN9 T : Int))) (sz : Nat) : qMet l yX8_setNumber (.code yX8_setNumber cX8_setNumber 3 (some .int)) 8 [.ref (mo), .int (qI (p0)), .int (qI (p1))] D cy [W] sz (va_Qi (S := va_W) (fun r u => MW cy mo mz msv mtx mmo mif mmg mtn mie mme mrd mas T hz HZ len tx 1 u) (qB D cy [W] sz (fun u => [u])) (va_A [W].flatten sz)) := by
  refine q_ofMi (S := va_W) (b1 := fun u => [u]) (post := fun r u => MW cy mo mz msv mtx mmo mif mmg mtn mie mme mrd mas T hz HZ len tx 1 u) (by decide +kernel) (Nat.le_of_ble_eq_true rfl) ?_
  intro p e s m args below meth c Q A hx hb hml hown hg hQ hK hN hD hA H locs ls hP hS hl
  have hown : s.vm.findClass RX8 = some m.cls := hown
  have hl : lv_has ls 3 [(0, .ref (mo)), (1, .int (qI (p0))), (2, .int (qI (p1)))] := hl
  have hW0 := hW
  obtain ⟨tu, fi, ro, sp, it, bl, hh, z, sd, bf, g, isF, mg, tn, isE, mE, rd, as9, rfl, ⟨hL, hz20, hz101⟩, ⟨hhz, hHZ⟩, hln, hbf, htx⟩ := hW
  obtain ⟨gV, gT, gC, gE, gI, gD⟩ := hG.eq hL
  obtain ⟨nc, hnc⟩ : ∃ nc : Nat, z 20 = (nc : Int) := ⟨(z 20).toNat, by omega⟩
  obtain ⟨ne, hne⟩ : ∃ ne : Nat, z 101 = (ne : Int) := ⟨(z 101).toNat, by omega⟩
  have e20 : (z 20).toNat = nc := by omega
  have e101 : (z 101).toNat = ne := by omega
  have hV : qV z := gV
  have hst : ∀ i, i < 10 → 0 ≤ z (10 + i) ∧ z (10 + i) ≤ 9 := gT
  have hc : nc ≤ 16 := e20 ▸ (gC.1 : (z 20).toNat ≤ 16)
  have hC : qWR (zC z) nc := e20 ▸ (gC.2 : qWR (zC z) (z 20).toNat)
  have he : ne ≤ 4 := e101 ▸ (gE.1 : (z 101).toNat ≤ 4)
  have hE : qWR (zE z) ne := e101 ▸ (gE.2 : qWR (zE z) (z 101).toNat)
  have hD9 : ∀ i j, i < ne → j < ne → zE z 0 i = zE z 0 j → i = j := e101 ▸ (gD : ∀ i j, i < (z 101).toNat → j < (z 101).toNat → zE z 0 i = zE z 0 j → i = j)
  have hL2 : LEq (z, (fun i => z (10 + i)), zC z, nc, zE z, ne) T := by rw [← e20, ← e101]; exact hL
  have en : nc = lN9 T := hL2.2.2.1
  have em : ne = lM T := hL2.2.2.2.2.1
  rw [fl_open] at hP hD
  have hP : va_P D vwCl [[(mo, .inr (8, [.int (qI (th)), .ref (mz), .int (qI (((hz : Nat) : Int))), .ref (msv), .int (qI (((len : Nat) : Int))), .ref (mtx), .ref (mmo), .int (qI (tu)), .ref (mif), .ref (mmg), .ref (mtn), .ref (mie), .ref (mme), .int (qz (fi)), .int (qI (ro)), .int (qI (sp)), .int (qI (it)), .int (qz (bl)), .ref (mrd), .ref (mas), .long (hh)]))], [(mz, aI cy 115 (z))], [(msv, aI cy 920 (sd))], [(mtx, aI cy 60 (bf))], [(mmo, aI cy 121 (g))], [(mif, aZ cy 16 (isF))], [(mmg, aI cy 16 (mg))], [(mtn, aI cy 16 (tn))], [(mie, aZ cy 4 (isE))], [(mme, aI cy 4 (mE))], [(mrd, aI cy 100 (rd))], [(mas, aI cy 115 (as9))]].flatten H := hP
  have hD : va_D A [[(mo, .inr (8, [.int (qI (th)), .ref (mz), .int (qI (((hz : Nat) : Int))), .ref (msv), .int (qI (((len : Nat) : Int))), .ref (mtx), .ref (mmo), .int (qI (tu)), .ref (mif), .ref (mmg), .ref (mtn), .ref (mie), .ref (mme), .int (qz (fi)), .int (qI (ro)), .int (qI (sp)), .int (qI (it)), .int (qz (bl)), .ref (mrd), .ref (mas), .long (hh)]))], [(mz, aI cy 115 (z))], [(msv, aI cy 920 (sd))], [(mtx, aI cy 60 (bf))], [(mmo, aI cy 121 (g))], [(mif, aZ cy 16 (isF))], [(mmg, aI cy 16 (mg))], [(mtn, aI cy 16 (tn))], [(mie, aZ cy 4 (isE))], [(mme, aI cy 4 (mE))], [(mrd, aI cy 100 (rd))], [(mas, aI cy 115 (as9))]].flatten := hD
  refine lv_aload_n hx hb dX8_setNumber_0 rfl (lv_at hl 0 rfl) ?_
  refine lv_aload_n hx hb dX8_setNumber_1 rfl (lv_at hl 0 rfl) ?_
  refine lv_iload_n hx hb dX8_setNumber_2 rfl (lv_at hl 1 rfl) ?_
  refine q_readz (va_runV (As := [.int (qI (p0))]) (rest := [.ref (mo)]) ⟨hx, hb, hml, hown, hg⟩ (c_X8_isCondition l D cy mo mz msv mtx mmo mif mmg mtn mie mme mrd mas (th) (((hz : Nat) : Int)) (((len : Nat) : Int)) (tu) (fi) (ro) (sp) (it) (bl) (hh) (z) nc _ (by omega) hnc hc) (cv_X8_114 hg rfl rfl ⟨by decide, by decide⟩) ⟨q_blind0, va_recv hK (fl_blk hP 0 rfl) (ci := 8) (q0 := 0) rfl rfl, q_preR _ hK hN hP [0, 1] rfl⟩ rfl rfl hl.1 rfl (lv_room (Nat.le_of_ble_eq_true rfl)) dX8_setNumber_3 ⟨by decide, by decide⟩) (fun b_3 h_3 => ?_)
  refine q_ifz_ne (tgt := 13) hx hb dX8_setNumber_6 (by decide) (fun c_6 => ?_) (fun c_6 => ?_)
  · skip
    have g_6 := (h_3).mp c_6
    refine lv_iload_n hx hb dX8_setNumber_13 rfl (lv_at hl 2 rfl) ?_
    refine q_readz (va_runS (As := [.int (qI (p1))]) (rest := [.ref (mo)]) ⟨hx, hb, hml, hown, hg⟩ (c_X8_isNumber l D cy _ (by omega)) (cs_X8_98 hg rfl rfl ⟨by decide, by decide⟩) ⟨q_blind0, q_preR _ hK hN hP [] rfl⟩ rfl rfl hl.1 rfl (lv_room (Nat.le_of_ble_eq_true rfl)) dX8_setNumber_14 ⟨by decide, by decide⟩) (fun b_14 h_14 => ?_)
    refine q_ifz_eq (tgt := 24) hx hb dX8_setNumber_17 (by decide) (fun c_17 => ?_) (fun c_17 => ?_)
    · skip
      have g_17 := mt (h_14).mpr (by rw [c_17]; decide)
      exfalso; omega
    · skip
      have g_17 := (h_14).mp c_17
      exfalso; omega
  · skip
    have g_6 := mt (h_3).mpr (by rw [c_6]; decide)
    refine q_iconst hx hb dX8_setNumber_9 ?_
    refine lv_goto (tgt := 25) hx hb dX8_setNumber_10 (by decide) ?_
    refine pf_X8_44 hx hb hg hown hK hP hD hS 0 0 rfl rfl rfl rfl (Nat.le_of_ble_eq_true rfl) dX8_setNumber_25 (fun H locs hP hD hS => ?_)
    have hP : va_P D vwCl [[(mo, .inr (8, [.int (qI (1)), .ref (mz), .int (qI (((hz : Nat) : Int))), .ref (msv), .int (qI (((len : Nat) : Int))), .ref (mtx), .ref (mmo), .int (qI (tu)), .ref (mif), .ref (mmg), .ref (mtn), .ref (mie), .ref (mme), .int (qz (fi)), .int (qI (ro)), .int (qI (sp)), .int (qI (it)), .int (qz (bl)), .ref (mrd), .ref (mas), .long (hh)]))], [(mz, aI cy 115 (z))], [(msv, aI cy 920 (sd))], [(mtx, aI cy 60 (bf))], [(mmo, aI cy 121 (g))], [(mif, aZ cy 16 (isF))], [(mmg, aI cy 16 (mg))], [(mtn, aI cy 16 (tn))], [(mie, aZ cy 4 (isE))], [(mme, aI cy 4 (mE))], [(mrd, aI cy 100 (rd))], [(mas, aI cy 115 (as9))]].flatten H := hP
    have hD : va_D A [[(mo, .inr (8, [.int (qI (1)), .ref (mz), .int (qI (((hz : Nat) : Int))), .ref (msv), .int (qI (((len : Nat) : Int))), .ref (mtx), .ref (mmo), .int (qI (tu)), .ref (mif), .ref (mmg), .ref (mtn), .ref (mie), .ref (mme), .int (qz (fi)), .int (qI (ro)), .int (qI (sp)), .int (qI (it)), .int (qz (bl)), .ref (mrd), .ref (mas), .long (hh)]))], [(mz, aI cy 115 (z))], [(msv, aI cy 920 (sd))], [(mtx, aI cy 60 (bf))], [(mmo, aI cy 121 (g))], [(mif, aZ cy 16 (isF))], [(mmg, aI cy 16 (mg))], [(mtn, aI cy 16 (tn))], [(mie, aZ cy 4 (isE))], [(mme, aI cy 4 (mE))], [(mrd, aI cy 100 (rd))], [(mas, aI cy 115 (as9))]].flatten := hD
    refine lv_aload_n hx hb dX8_setNumber_28 rfl (lv_at hl 0 rfl) ?_
    refine gf_X8_44 hx hb hg hown hK (fl_blk hP 0 rfl) 0 rfl rfl dX8_setNumber_29 ?_
    refine q_if_le (tgt := 39) hx hb dX8_setNumber_32 (by decide) (by omega) (fun c_32 => ?_) (fun c_32 => ?_)
    · skip
      exact absurd c_32 (by decide)
    · skip
      refine q_iconst hx hb dX8_setNumber_35 ?_
      refine lv_goto (tgt := 52) hx hb dX8_setNumber_36 (by decide) ?_
      have hP : va_P D vwCl [(mdB cy mo mz msv mtx mmo mif mmg mtn mie mme mrd mas (1) (hz) (len) (tu) (fi) (ro) (sp) (it) (bl) (hh) (z) (sd) (bf) (g) (isF) (mg) (tn) (isE) (mE) (rd) (as9)).flatten].flatten H := by rw [fl_open]; exact hP
      have hD : va_D A [(mdB cy mo mz msv mtx mmo mif mmg mtn mie mme mrd mas (1) (hz) (len) (tu) (fi) (ro) (sp) (it) (bl) (hh) (z) (sd) (bf) (g) (isF) (mg) (tn) (isE) (mE) (rd) (as9)).flatten].flatten := by rw [fl_open]; exact hD
      exact hQ _ _ _ _ _ ((mdB cy mo mz msv mtx mmo mif mmg mtn mie mme mrd mas (1) (hz) (len) (tu) (fi) (ro) (sp) (it) (bl) (hh) (z) (sd) (bf) (g) (isF) (mg) (tn) (isE) (mE) (rd) (as9)).flatten) ⟨(tu), (fi), (ro), (sp), (it), (bl), (hh), (z), (sd), (bf), (g), (isF), (mg), (tn), (isE), (mE), (rd), (as9), rfl, ⟨hL, hz20, hz101⟩, ⟨hhz, hHZ⟩, hln, hbf, htx⟩ hP hD hS dX8_setNumber_52

set_option maxRecDepth 100000 in
set_option maxHeartbeats 4000000 in
theorem c_X8_setNumber_no2 (l : Launch) (D : va_G) (cy : Nat → ClassId) (mo mz msv mtx mmo mif mmg mtn mie mme mrd mas : Nat) (T : LSt) (hz : Nat) (HZ : Nat → LSt) (len : Nat) (tx : Nat → Int) (th : Int) (W : va_W) (hG : gOk T) (hW : MW cy mo mz msv mtx mmo mif mmg mtn mie mme mrd mas T hz HZ len tx th W) (p0 p1 : Int) (r0 : (-2147483648 ≤ p0 ∧ p0 < 2147483648)) (r1 : (-2147483648 ≤ p1 ∧ p1 < 2147483648)) (hx : 0 ≤ p0 ∧ p0 < (lN9 T : Int)) (hy : ¬ (-2000 ≤ p1 ∧ p1 ≤ 2000)) (sz : Nat) : qMet l yX8_setNumber (.code yX8_setNumber cX8_setNumber 3 (some .int)) 8 [.ref (mo), .int (qI (p0)), .int (qI (p1))] D cy [W] sz (va_Qi (S := va_W) (fun r u => MW cy mo mz msv mtx mmo mif mmg mtn mie mme mrd mas T hz HZ len tx 2 u) (qB D cy [W] sz (fun u => [u])) (va_A [W].flatten sz)) := by
  refine q_ofMi (S := va_W) (b1 := fun u => [u]) (post := fun r u => MW cy mo mz msv mtx mmo mif mmg mtn mie mme mrd mas T hz HZ len tx 2 u) (by decide +kernel) (Nat.le_of_ble_eq_true rfl) ?_
  intro p e s m args below meth c Q A hx hb hml hown hg hQ hK hN hD hA H locs ls hP hS hl
  have hown : s.vm.findClass RX8 = some m.cls := hown
  have hl : lv_has ls 3 [(0, .ref (mo)), (1, .int (qI (p0))), (2, .int (qI (p1)))] := hl
  have hW0 := hW
  obtain ⟨tu, fi, ro, sp, it, bl, hh, z, sd, bf, g, isF, mg, tn, isE, mE, rd, as9, rfl, ⟨hL, hz20, hz101⟩, ⟨hhz, hHZ⟩, hln, hbf, htx⟩ := hW
  obtain ⟨gV, gT, gC, gE, gI, gD⟩ := hG.eq hL
  obtain ⟨nc, hnc⟩ : ∃ nc : Nat, z 20 = (nc : Int) := ⟨(z 20).toNat, by omega⟩
  obtain ⟨ne, hne⟩ : ∃ ne : Nat, z 101 = (ne : Int) := ⟨(z 101).toNat, by omega⟩
  have e20 : (z 20).toNat = nc := by omega
  have e101 : (z 101).toNat = ne := by omega
  have hV : qV z := gV
  have hst : ∀ i, i < 10 → 0 ≤ z (10 + i) ∧ z (10 + i) ≤ 9 := gT
  have hc : nc ≤ 16 := e20 ▸ (gC.1 : (z 20).toNat ≤ 16)
  have hC : qWR (zC z) nc := e20 ▸ (gC.2 : qWR (zC z) (z 20).toNat)
  have he : ne ≤ 4 := e101 ▸ (gE.1 : (z 101).toNat ≤ 4)
  have hE : qWR (zE z) ne := e101 ▸ (gE.2 : qWR (zE z) (z 101).toNat)
  have hD9 : ∀ i j, i < ne → j < ne → zE z 0 i = zE z 0 j → i = j := e101 ▸ (gD : ∀ i j, i < (z 101).toNat → j < (z 101).toNat → zE z 0 i = zE z 0 j → i = j)
  have hL2 : LEq (z, (fun i => z (10 + i)), zC z, nc, zE z, ne) T := by rw [← e20, ← e101]; exact hL
  have en : nc = lN9 T := hL2.2.2.1
  have em : ne = lM T := hL2.2.2.2.2.1
  rw [fl_open] at hP hD
  have hP : va_P D vwCl [[(mo, .inr (8, [.int (qI (th)), .ref (mz), .int (qI (((hz : Nat) : Int))), .ref (msv), .int (qI (((len : Nat) : Int))), .ref (mtx), .ref (mmo), .int (qI (tu)), .ref (mif), .ref (mmg), .ref (mtn), .ref (mie), .ref (mme), .int (qz (fi)), .int (qI (ro)), .int (qI (sp)), .int (qI (it)), .int (qz (bl)), .ref (mrd), .ref (mas), .long (hh)]))], [(mz, aI cy 115 (z))], [(msv, aI cy 920 (sd))], [(mtx, aI cy 60 (bf))], [(mmo, aI cy 121 (g))], [(mif, aZ cy 16 (isF))], [(mmg, aI cy 16 (mg))], [(mtn, aI cy 16 (tn))], [(mie, aZ cy 4 (isE))], [(mme, aI cy 4 (mE))], [(mrd, aI cy 100 (rd))], [(mas, aI cy 115 (as9))]].flatten H := hP
  have hD : va_D A [[(mo, .inr (8, [.int (qI (th)), .ref (mz), .int (qI (((hz : Nat) : Int))), .ref (msv), .int (qI (((len : Nat) : Int))), .ref (mtx), .ref (mmo), .int (qI (tu)), .ref (mif), .ref (mmg), .ref (mtn), .ref (mie), .ref (mme), .int (qz (fi)), .int (qI (ro)), .int (qI (sp)), .int (qI (it)), .int (qz (bl)), .ref (mrd), .ref (mas), .long (hh)]))], [(mz, aI cy 115 (z))], [(msv, aI cy 920 (sd))], [(mtx, aI cy 60 (bf))], [(mmo, aI cy 121 (g))], [(mif, aZ cy 16 (isF))], [(mmg, aI cy 16 (mg))], [(mtn, aI cy 16 (tn))], [(mie, aZ cy 4 (isE))], [(mme, aI cy 4 (mE))], [(mrd, aI cy 100 (rd))], [(mas, aI cy 115 (as9))]].flatten := hD
  refine lv_aload_n hx hb dX8_setNumber_0 rfl (lv_at hl 0 rfl) ?_
  refine lv_aload_n hx hb dX8_setNumber_1 rfl (lv_at hl 0 rfl) ?_
  refine lv_iload_n hx hb dX8_setNumber_2 rfl (lv_at hl 1 rfl) ?_
  refine q_readz (va_runV (As := [.int (qI (p0))]) (rest := [.ref (mo)]) ⟨hx, hb, hml, hown, hg⟩ (c_X8_isCondition l D cy mo mz msv mtx mmo mif mmg mtn mie mme mrd mas (th) (((hz : Nat) : Int)) (((len : Nat) : Int)) (tu) (fi) (ro) (sp) (it) (bl) (hh) (z) nc _ (by omega) hnc hc) (cv_X8_114 hg rfl rfl ⟨by decide, by decide⟩) ⟨q_blind0, va_recv hK (fl_blk hP 0 rfl) (ci := 8) (q0 := 0) rfl rfl, q_preR _ hK hN hP [0, 1] rfl⟩ rfl rfl hl.1 rfl (lv_room (Nat.le_of_ble_eq_true rfl)) dX8_setNumber_3 ⟨by decide, by decide⟩) (fun b_3 h_3 => ?_)
  refine q_ifz_ne (tgt := 13) hx hb dX8_setNumber_6 (by decide) (fun c_6 => ?_) (fun c_6 => ?_)
  · skip
    have g_6 := (h_3).mp c_6
    refine lv_iload_n hx hb dX8_setNumber_13 rfl (lv_at hl 2 rfl) ?_
    refine q_readz (va_runS (As := [.int (qI (p1))]) (rest := [.ref (mo)]) ⟨hx, hb, hml, hown, hg⟩ (c_X8_isNumber l D cy _ (by omega)) (cs_X8_98 hg rfl rfl ⟨by decide, by decide⟩) ⟨q_blind0, q_preR _ hK hN hP [] rfl⟩ rfl rfl hl.1 rfl (lv_room (Nat.le_of_ble_eq_true rfl)) dX8_setNumber_14 ⟨by decide, by decide⟩) (fun b_14 h_14 => ?_)
    refine q_ifz_eq (tgt := 24) hx hb dX8_setNumber_17 (by decide) (fun c_17 => ?_) (fun c_17 => ?_)
    · skip
      have g_17 := mt (h_14).mpr (by rw [c_17]; decide)
      refine q_iconst hx hb dX8_setNumber_24 ?_
      refine pf_X8_44 hx hb hg hown hK hP hD hS 0 0 rfl rfl rfl rfl (Nat.le_of_ble_eq_true rfl) dX8_setNumber_25 (fun H locs hP hD hS => ?_)
      have hP : va_P D vwCl [[(mo, .inr (8, [.int (qI (2)), .ref (mz), .int (qI (((hz : Nat) : Int))), .ref (msv), .int (qI (((len : Nat) : Int))), .ref (mtx), .ref (mmo), .int (qI (tu)), .ref (mif), .ref (mmg), .ref (mtn), .ref (mie), .ref (mme), .int (qz (fi)), .int (qI (ro)), .int (qI (sp)), .int (qI (it)), .int (qz (bl)), .ref (mrd), .ref (mas), .long (hh)]))], [(mz, aI cy 115 (z))], [(msv, aI cy 920 (sd))], [(mtx, aI cy 60 (bf))], [(mmo, aI cy 121 (g))], [(mif, aZ cy 16 (isF))], [(mmg, aI cy 16 (mg))], [(mtn, aI cy 16 (tn))], [(mie, aZ cy 4 (isE))], [(mme, aI cy 4 (mE))], [(mrd, aI cy 100 (rd))], [(mas, aI cy 115 (as9))]].flatten H := hP
      have hD : va_D A [[(mo, .inr (8, [.int (qI (2)), .ref (mz), .int (qI (((hz : Nat) : Int))), .ref (msv), .int (qI (((len : Nat) : Int))), .ref (mtx), .ref (mmo), .int (qI (tu)), .ref (mif), .ref (mmg), .ref (mtn), .ref (mie), .ref (mme), .int (qz (fi)), .int (qI (ro)), .int (qI (sp)), .int (qI (it)), .int (qz (bl)), .ref (mrd), .ref (mas), .long (hh)]))], [(mz, aI cy 115 (z))], [(msv, aI cy 920 (sd))], [(mtx, aI cy 60 (bf))], [(mmo, aI cy 121 (g))], [(mif, aZ cy 16 (isF))], [(mmg, aI cy 16 (mg))], [(mtn, aI cy 16 (tn))], [(mie, aZ cy 4 (isE))], [(mme, aI cy 4 (mE))], [(mrd, aI cy 100 (rd))], [(mas, aI cy 115 (as9))]].flatten := hD
      refine lv_aload_n hx hb dX8_setNumber_28 rfl (lv_at hl 0 rfl) ?_
      refine gf_X8_44 hx hb hg hown hK (fl_blk hP 0 rfl) 0 rfl rfl dX8_setNumber_29 ?_
      refine q_if_le (tgt := 39) hx hb dX8_setNumber_32 (by decide) (by omega) (fun c_32 => ?_) (fun c_32 => ?_)
      · skip
        exact absurd c_32 (by decide)
      · skip
        refine q_iconst hx hb dX8_setNumber_35 ?_
        refine lv_goto (tgt := 52) hx hb dX8_setNumber_36 (by decide) ?_
        have hP : va_P D vwCl [(mdB cy mo mz msv mtx mmo mif mmg mtn mie mme mrd mas (2) (hz) (len) (tu) (fi) (ro) (sp) (it) (bl) (hh) (z) (sd) (bf) (g) (isF) (mg) (tn) (isE) (mE) (rd) (as9)).flatten].flatten H := by rw [fl_open]; exact hP
        have hD : va_D A [(mdB cy mo mz msv mtx mmo mif mmg mtn mie mme mrd mas (2) (hz) (len) (tu) (fi) (ro) (sp) (it) (bl) (hh) (z) (sd) (bf) (g) (isF) (mg) (tn) (isE) (mE) (rd) (as9)).flatten].flatten := by rw [fl_open]; exact hD
        exact hQ _ _ _ _ _ ((mdB cy mo mz msv mtx mmo mif mmg mtn mie mme mrd mas (2) (hz) (len) (tu) (fi) (ro) (sp) (it) (bl) (hh) (z) (sd) (bf) (g) (isF) (mg) (tn) (isE) (mE) (rd) (as9)).flatten) ⟨(tu), (fi), (ro), (sp), (it), (bl), (hh), (z), (sd), (bf), (g), (isF), (mg), (tn), (isE), (mE), (rd), (as9), rfl, ⟨hL, hz20, hz101⟩, ⟨hhz, hHZ⟩, hln, hbf, htx⟩ hP hD hS dX8_setNumber_52
    · skip
      have g_17 := (h_14).mp c_17
      exfalso; omega
  · skip
    have g_6 := mt (h_3).mpr (by rw [c_6]; decide)
    exfalso; omega

set_option maxRecDepth 100000 in
set_option maxHeartbeats 4000000 in
theorem c_X8_replaced_sty (l : Launch) (D : va_G) (cy : Nat → ClassId) (mo mz msv mtx mmo mif mmg mtn mie mme mrd mas : Nat) (T : LSt) (hz : Nat) (HZ : Nat → LSt) (len : Nat) (tx : Nat → Int) (th : Int) (W : va_W) (hG : gOk T) (hW : MW cy mo mz msv mtx mmo mif mmg mtn mie mme mrd mas T hz HZ len tx th W) (v9 : Int) (k : Nat) (hk : k < 10) (hz9 : 0 ≤ v9 ∧ v9 ≤ 9) (sz : Nat) : qMet l yX8_replaced (.code yX8_replaced cX8_replaced 4 (some .int)) 8 [.ref (mo), .int (qI (((10 + k : Nat) : Int))), .int (qI (v9))] D cy [W] sz (va_Qi (S := va_W) (fun r u => r = qI (lT T k) ∧ MW cy mo mz msv mtx mmo mif mmg mtn mie mme mrd mas (seT (chT T k v9)) (min (hz + 1) 8) (pushH T HZ) len tx th u) (qB D cy [W] sz (fun u => [u])) (va_A [W].flatten sz)) := by
  refine q_ofMi (S := va_W) (b1 := fun u => [u]) (post := fun r u => r = qI (lT T k) ∧ MW cy mo mz msv mtx mmo mif mmg mtn mie mme mrd mas (seT (chT T k v9)) (min (hz + 1) 8) (pushH T HZ) len tx th u) (by decide +kernel) (Nat.le_of_ble_eq_true rfl) ?_
  intro p e s m args below meth c Q A hx hb hml hown hg hQ hK hN hD hA H locs ls hP hS hl
  have hown : s.vm.findClass RX8 = some m.cls := hown
  have hl : lv_has ls 4 [(0, .ref (mo)), (1, .int (qI (((10 + k : Nat) : Int)))), (2, .int (qI (v9)))] := hl
  have hW0 := hW
  obtain ⟨tu, fi, ro, sp, it, bl, hh, z, sd, bf, g, isF, mg, tn, isE, mE, rd, as9, rfl, ⟨hL, hz20, hz101⟩, ⟨hhz, hHZ⟩, hln, hbf, htx⟩ := hW
  obtain ⟨gV, gT, gC, gE, gI, gD⟩ := hG.eq hL
  obtain ⟨nc, hnc⟩ : ∃ nc : Nat, z 20 = (nc : Int) := ⟨(z 20).toNat, by omega⟩
  obtain ⟨ne, hne⟩ : ∃ ne : Nat, z 101 = (ne : Int) := ⟨(z 101).toNat, by omega⟩
  have e20 : (z 20).toNat = nc := by omega
  have e101 : (z 101).toNat = ne := by omega
  have hV : qV z := gV
  have hst : ∀ i, i < 10 → 0 ≤ z (10 + i) ∧ z (10 + i) ≤ 9 := gT
  have hc : nc ≤ 16 := e20 ▸ (gC.1 : (z 20).toNat ≤ 16)
  have hC : qWR (zC z) nc := e20 ▸ (gC.2 : qWR (zC z) (z 20).toNat)
  have he : ne ≤ 4 := e101 ▸ (gE.1 : (z 101).toNat ≤ 4)
  have hE : qWR (zE z) ne := e101 ▸ (gE.2 : qWR (zE z) (z 101).toNat)
  have hD9 : ∀ i j, i < ne → j < ne → zE z 0 i = zE z 0 j → i = j := e101 ▸ (gD : ∀ i j, i < (z 101).toNat → j < (z 101).toNat → zE z 0 i = zE z 0 j → i = j)
  have hL2 : LEq (z, (fun i => z (10 + i)), zC z, nc, zE z, ne) T := by rw [← e20, ← e101]; exact hL
  have en : nc = lN9 T := hL2.2.2.1
  have em : ne = lM T := hL2.2.2.2.2.1
  rw [fl_open] at hP hD
  have hP : va_P D vwCl [[(mo, .inr (8, [.int (qI (th)), .ref (mz), .int (qI (((hz : Nat) : Int))), .ref (msv), .int (qI (((len : Nat) : Int))), .ref (mtx), .ref (mmo), .int (qI (tu)), .ref (mif), .ref (mmg), .ref (mtn), .ref (mie), .ref (mme), .int (qz (fi)), .int (qI (ro)), .int (qI (sp)), .int (qI (it)), .int (qz (bl)), .ref (mrd), .ref (mas), .long (hh)]))], [(mz, aI cy 115 (z))], [(msv, aI cy 920 (sd))], [(mtx, aI cy 60 (bf))], [(mmo, aI cy 121 (g))], [(mif, aZ cy 16 (isF))], [(mmg, aI cy 16 (mg))], [(mtn, aI cy 16 (tn))], [(mie, aZ cy 4 (isE))], [(mme, aI cy 4 (mE))], [(mrd, aI cy 100 (rd))], [(mas, aI cy 115 (as9))]].flatten H := hP
  have hD : va_D A [[(mo, .inr (8, [.int (qI (th)), .ref (mz), .int (qI (((hz : Nat) : Int))), .ref (msv), .int (qI (((len : Nat) : Int))), .ref (mtx), .ref (mmo), .int (qI (tu)), .ref (mif), .ref (mmg), .ref (mtn), .ref (mie), .ref (mme), .int (qz (fi)), .int (qI (ro)), .int (qI (sp)), .int (qI (it)), .int (qz (bl)), .ref (mrd), .ref (mas), .long (hh)]))], [(mz, aI cy 115 (z))], [(msv, aI cy 920 (sd))], [(mtx, aI cy 60 (bf))], [(mmo, aI cy 121 (g))], [(mif, aZ cy 16 (isF))], [(mmg, aI cy 16 (mg))], [(mtn, aI cy 16 (tn))], [(mie, aZ cy 4 (isE))], [(mme, aI cy 4 (mE))], [(mrd, aI cy 100 (rd))], [(mas, aI cy 115 (as9))]].flatten := hD
  refine lv_aload_n hx hb dX8_replaced_0 rfl (lv_at hl 0 rfl) ?_
  refine q_backv [0, 1, 2] [3, 4, 5, 6, 7, 8, 9, 10, 11] (br := [[(mtx, aI cy 60 (bf))], [(mmo, aI cy 121 (g))], [(mif, aZ cy 16 (isF))], [(mmg, aI cy 16 (mg))], [(mtn, aI cy 16 (tn))], [(mie, aZ cy 4 (isE))], [(mme, aI cy 4 (mE))], [(mrd, aI cy 100 (rd))], [(mas, aI cy 115 (as9))]]) hP hD hS hA (va_runV (As := []) (rest := []) ⟨hx, hb, hml, hown, hg⟩ (c_X8_save l D cy mo mz msv mtx mmo mif mmg mtn mie mme mrd mas (th) (((len : Nat) : Int)) (tu) (fi) (ro) (sp) (it) (bl) (hh) hz (z) (sd) hhz _) (cv_X8_104 hg rfl rfl ⟨by decide, by decide⟩) ⟨q_blind, va_recv hK (fl_blk hP 0 rfl) (ci := 8) (q0 := 0) rfl rfl, q_preM _ hK hN hP hD [0, 1, 2] (by decide) rfl⟩ rfl rfl hl.1 rfl (lv_room (Nat.le_of_ble_eq_true rfl)) dX8_replaced_1 ⟨by decide, by decide⟩) rfl rfl (by decide) (fun u_1 H locs h_1 hP hD hS => ?_)
  have hP : va_P D vwCl [[(mtx, aI cy 60 (bf))], [(mmo, aI cy 121 (g))], [(mif, aZ cy 16 (isF))], [(mmg, aI cy 16 (mg))], [(mtn, aI cy 16 (tn))], [(mie, aZ cy 4 (isE))], [(mme, aI cy 4 (mE))], [(mrd, aI cy 100 (rd))], [(mas, aI cy 115 (as9))], [(mo, .inr (8, [.int (qI (th)), .ref (mz), .int (qI (((min (hz + 1) 8 : Nat) : Int))), .ref (msv), .int (qI (((len : Nat) : Int))), .ref (mtx), .ref (mmo), .int (qI (tu)), .ref (mif), .ref (mmg), .ref (mtn), .ref (mie), .ref (mme), .int (qz (fi)), .int (qI (ro)), .int (qI (sp)), .int (qI (it)), .int (qz (bl)), .ref (mrd), .ref (mas), .long (hh)]))], [(mz, aI cy 115 (z))], [(msv, aI cy 920 (u_1))]].flatten H := hP
  have hD : va_D A [[(mtx, aI cy 60 (bf))], [(mmo, aI cy 121 (g))], [(mif, aZ cy 16 (isF))], [(mmg, aI cy 16 (mg))], [(mtn, aI cy 16 (tn))], [(mie, aZ cy 4 (isE))], [(mme, aI cy 4 (mE))], [(mrd, aI cy 100 (rd))], [(mas, aI cy 115 (as9))], [(mo, .inr (8, [.int (qI (th)), .ref (mz), .int (qI (((min (hz + 1) 8 : Nat) : Int))), .ref (msv), .int (qI (((len : Nat) : Int))), .ref (mtx), .ref (mmo), .int (qI (tu)), .ref (mif), .ref (mmg), .ref (mtn), .ref (mie), .ref (mme), .int (qz (fi)), .int (qI (ro)), .int (qI (sp)), .int (qI (it)), .int (qz (bl)), .ref (mrd), .ref (mas), .long (hh)]))], [(mz, aI cy 115 (z))], [(msv, aI cy 920 (u_1))]].flatten := hD
  refine lv_aload_n hx hb dX8_replaced_4 rfl (lv_at hl 0 rfl) ?_
  refine gf_X8_7 hx hb hg hown hK (fl_blk hP 9 rfl) 0 rfl rfl dX8_replaced_5 ?_
  refine lv_iload_n hx hb dX8_replaced_8 rfl (lv_at hl 1 rfl) ?_
  refine q_iald (j := 10 + k) hx hb hK (fl_blk hP 10 rfl) 0 rfl (by omega) dX8_replaced_9 ?_
  refine lv_istore_n (lv' := [(3, .int (qI (z (10 + k)))), (0, .ref (mo)), (1, .int (qI (((10 + k : Nat) : Int)))), (2, .int (qI (v9)))]) hx hb dX8_replaced_10 rfl hl (by decide) rfl (fun ls hl => ?_)
  refine lv_aload_n hx hb dX8_replaced_11 rfl (lv_at hl 1 rfl) ?_
  refine gf_X8_7 hx hb hg hown hK (fl_blk hP 9 rfl) 0 rfl rfl dX8_replaced_12 ?_
  refine lv_iload_n hx hb dX8_replaced_15 rfl (lv_at hl 2 rfl) ?_
  refine lv_iload_n hx hb dX8_replaced_16 rfl (lv_at hl 3 rfl) ?_
  refine qb_iast (j := 10 + k) hx hb hK hP hD hS 10 0 rfl rfl (by omega) dX8_replaced_17 (fun H locs hP hD hS => ?_)
  have hP : va_P D vwCl [[(mtx, aI cy 60 (bf))], [(mmo, aI cy 121 (g))], [(mif, aZ cy 16 (isF))], [(mmg, aI cy 16 (mg))], [(mtn, aI cy 16 (tn))], [(mie, aZ cy 4 (isE))], [(mme, aI cy 4 (mE))], [(mrd, aI cy 100 (rd))], [(mas, aI cy 115 (as9))], [(mo, .inr (8, [.int (qI (th)), .ref (mz), .int (qI (((min (hz + 1) 8 : Nat) : Int))), .ref (msv), .int (qI (((len : Nat) : Int))), .ref (mtx), .ref (mmo), .int (qI (tu)), .ref (mif), .ref (mmg), .ref (mtn), .ref (mie), .ref (mme), .int (qz (fi)), .int (qI (ro)), .int (qI (sp)), .int (qI (it)), .int (qz (bl)), .ref (mrd), .ref (mas), .long (hh)]))], [(mz, aI cy 115 (qu z (10 + k) (v9)))], [(msv, aI cy 920 (u_1))]].flatten H := hP
  have hD : va_D A [[(mtx, aI cy 60 (bf))], [(mmo, aI cy 121 (g))], [(mif, aZ cy 16 (isF))], [(mmg, aI cy 16 (mg))], [(mtn, aI cy 16 (tn))], [(mie, aZ cy 4 (isE))], [(mme, aI cy 4 (mE))], [(mrd, aI cy 100 (rd))], [(mas, aI cy 115 (as9))], [(mo, .inr (8, [.int (qI (th)), .ref (mz), .int (qI (((min (hz + 1) 8 : Nat) : Int))), .ref (msv), .int (qI (((len : Nat) : Int))), .ref (mtx), .ref (mmo), .int (qI (tu)), .ref (mif), .ref (mmg), .ref (mtn), .ref (mie), .ref (mme), .int (qz (fi)), .int (qI (ro)), .int (qI (sp)), .int (qI (it)), .int (qz (bl)), .ref (mrd), .ref (mas), .long (hh)]))], [(mz, aI cy 115 (qu z (10 + k) (v9)))], [(msv, aI cy 920 (u_1))]].flatten := hD
  have hS0 : LEq (zS (qu z (10 + k) v9)) (chT T k v9) := LEq.tr (zst_at (by omega)) (chT_eq hL k v9)
  have gS0 := (chT_ok hG k hz9).eq hS0
  obtain ⟨n0, hn0⟩ : ∃ n0 : Nat, (qu z (10 + k) v9) 20 = (n0 : Int) := ⟨((qu z (10 + k) v9) 20).toNat, by have q := (show (qu z (10 + k) v9) 20 = z 20 from qu_n _ _ (by omega)); omega⟩
  obtain ⟨m0, hm0⟩ : ∃ m0 : Nat, (qu z (10 + k) v9) 101 = (m0 : Int) := ⟨((qu z (10 + k) v9) 101).toNat, by have q := (show (qu z (10 + k) v9) 101 = z 101 from qu_n _ _ (by omega)); omega⟩
  have n20 : ((qu z (10 + k) v9) 20).toNat = n0 := by omega
  have n101 : ((qu z (10 + k) v9) 101).toNat = m0 := by omega
  have hV0 : qV (qu z (10 + k) v9) := gS0.1
  have hst0 : ∀ i, i < 10 → 0 ≤ (qu z (10 + k) v9) (10 + i) ∧ (qu z (10 + k) v9) (10 + i) ≤ 9 := gS0.2.1
  have hc0 : n0 ≤ 16 := n20 ▸ (gS0.2.2.1.1 : ((qu z (10 + k) v9) 20).toNat ≤ 16)
  have hC0 : qWR (zC (qu z (10 + k) v9)) n0 := n20 ▸ (gS0.2.2.1.2 : qWR (zC (qu z (10 + k) v9)) ((qu z (10 + k) v9) 20).toNat)
  have he0 : m0 ≤ 4 := n101 ▸ (gS0.2.2.2.1.1 : ((qu z (10 + k) v9) 101).toNat ≤ 4)
  have hE0 : qWR (zE (qu z (10 + k) v9)) m0 := n101 ▸ (gS0.2.2.2.1.2 : qWR (zE (qu z (10 + k) v9)) ((qu z (10 + k) v9) 101).toNat)
  refine lv_aload_n hx hb dX8_replaced_18 rfl (lv_at hl 1 rfl) ?_
  refine q_backv [9, 10, 1, 2, 3, 4, 5, 6] [0, 7, 8, 11] (br := [[(mtx, aI cy 60 (bf))], [(mrd, aI cy 100 (rd))], [(mas, aI cy 115 (as9))], [(msv, aI cy 920 (u_1))]]) hP hD hS hA (va_runV (As := []) (rest := []) ⟨hx, hb, hml, hown, hg⟩ (c_X8_settle l D cy mo mz msv mtx mmo mif mmg mtn mie mme mrd mas (th) (((min (hz + 1) 8 : Nat) : Int)) (((len : Nat) : Int)) (tu) (fi) (ro) (sp) (it) (bl) (hh) (qu z (10 + k) (v9)) n0 m0 (g) (isF) (mg) (tn) (isE) (mE) hn0 hm0 hc0 he0 hC0 hE0 hV0 hst0 _) (cv_X8_111 hg rfl rfl ⟨by decide, by decide⟩) ⟨q_blind, va_recv hK (fl_blk hP 9 rfl) (ci := 8) (q0 := 0) rfl rfl, q_preM _ hK hN hP hD [9, 10, 1, 2, 3, 4, 5, 6] (by decide) rfl⟩ rfl rfl hl.1 rfl (lv_room (Nat.le_of_ble_eq_true rfl)) dX8_replaced_19 ⟨by decide, by decide⟩) rfl rfl (by decide) (fun u_19 H locs h_19 hP hD hS => ?_)
  have hP : va_P D vwCl [[(mtx, aI cy 60 (bf))], [(mrd, aI cy 100 (rd))], [(mas, aI cy 115 (as9))], [(msv, aI cy 920 (u_1))], [(mo, .inr (8, [.int (qI (th)), .ref (mz), .int (qI (((min (hz + 1) 8 : Nat) : Int))), .ref (msv), .int (qI (((len : Nat) : Int))), .ref (mtx), .ref (mmo), .int (qI (u_19.2.2.2.1)), .ref (mif), .ref (mmg), .ref (mtn), .ref (mie), .ref (mme), .int (qz (u_19.2.2.2.2.2.2.2.2.2.1)), .int (qI (u_19.2.2.2.2.2.2.2.2.2.2)), .int (qI (sp)), .int (qI (it)), .int (qz (bl)), .ref (mrd), .ref (mas), .long (hh)]))], [(mz, aI cy 115 (u_19.1))], [(mmo, aI cy 121 (u_19.2.1))], [(mif, aZ cy 16 (u_19.2.2.2.2.1))], [(mmg, aI cy 16 (u_19.2.2.2.2.2.1))], [(mtn, aI cy 16 (u_19.2.2.2.2.2.2.1))], [(mie, aZ cy 4 (u_19.2.2.2.2.2.2.2.1))], [(mme, aI cy 4 (u_19.2.2.2.2.2.2.2.2.1))]].flatten H := hP
  have hD : va_D A [[(mtx, aI cy 60 (bf))], [(mrd, aI cy 100 (rd))], [(mas, aI cy 115 (as9))], [(msv, aI cy 920 (u_1))], [(mo, .inr (8, [.int (qI (th)), .ref (mz), .int (qI (((min (hz + 1) 8 : Nat) : Int))), .ref (msv), .int (qI (((len : Nat) : Int))), .ref (mtx), .ref (mmo), .int (qI (u_19.2.2.2.1)), .ref (mif), .ref (mmg), .ref (mtn), .ref (mie), .ref (mme), .int (qz (u_19.2.2.2.2.2.2.2.2.2.1)), .int (qI (u_19.2.2.2.2.2.2.2.2.2.2)), .int (qI (sp)), .int (qI (it)), .int (qz (bl)), .ref (mrd), .ref (mas), .long (hh)]))], [(mz, aI cy 115 (u_19.1))], [(mmo, aI cy 121 (u_19.2.1))], [(mif, aZ cy 16 (u_19.2.2.2.2.1))], [(mmg, aI cy 16 (u_19.2.2.2.2.2.1))], [(mtn, aI cy 16 (u_19.2.2.2.2.2.2.1))], [(mie, aZ cy 4 (u_19.2.2.2.2.2.2.2.1))], [(mme, aI cy 4 (u_19.2.2.2.2.2.2.2.2.1))]].flatten := hD
  refine lv_iload_n hx hb dX8_replaced_22 rfl (lv_at hl 0 rfl) ?_
  have hP := fl_sub (bs' := [[(mo, .inr (8, [.int (qI (th)), .ref (mz), .int (qI (((min (hz + 1) 8 : Nat) : Int))), .ref (msv), .int (qI (((len : Nat) : Int))), .ref (mtx), .ref (mmo), .int (qI (u_19.2.2.2.1)), .ref (mif), .ref (mmg), .ref (mtn), .ref (mie), .ref (mme), .int (qz (u_19.2.2.2.2.2.2.2.2.2.1)), .int (qI (u_19.2.2.2.2.2.2.2.2.2.2)), .int (qI (sp)), .int (qI (it)), .int (qz (bl)), .ref (mrd), .ref (mas), .long (hh)]))], [(mz, aI cy 115 (u_19.1))], [(msv, aI cy 920 (u_1))], [(mtx, aI cy 60 (bf))], [(mmo, aI cy 121 (u_19.2.1))], [(mif, aZ cy 16 (u_19.2.2.2.2.1))], [(mmg, aI cy 16 (u_19.2.2.2.2.2.1))], [(mtn, aI cy 16 (u_19.2.2.2.2.2.2.1))], [(mie, aZ cy 4 (u_19.2.2.2.2.2.2.2.1))], [(mme, aI cy 4 (u_19.2.2.2.2.2.2.2.2.1))], [(mrd, aI cy 100 (rd))], [(mas, aI cy 115 (as9))]]) hP [4, 5, 3, 0, 6, 7, 8, 9, 10, 11, 1, 2] rfl
  have hD := fl_subD (bs' := [[(mo, .inr (8, [.int (qI (th)), .ref (mz), .int (qI (((min (hz + 1) 8 : Nat) : Int))), .ref (msv), .int (qI (((len : Nat) : Int))), .ref (mtx), .ref (mmo), .int (qI (u_19.2.2.2.1)), .ref (mif), .ref (mmg), .ref (mtn), .ref (mie), .ref (mme), .int (qz (u_19.2.2.2.2.2.2.2.2.2.1)), .int (qI (u_19.2.2.2.2.2.2.2.2.2.2)), .int (qI (sp)), .int (qI (it)), .int (qz (bl)), .ref (mrd), .ref (mas), .long (hh)]))], [(mz, aI cy 115 (u_19.1))], [(msv, aI cy 920 (u_1))], [(mtx, aI cy 60 (bf))], [(mmo, aI cy 121 (u_19.2.1))], [(mif, aZ cy 16 (u_19.2.2.2.2.1))], [(mmg, aI cy 16 (u_19.2.2.2.2.2.1))], [(mtn, aI cy 16 (u_19.2.2.2.2.2.2.1))], [(mie, aZ cy 4 (u_19.2.2.2.2.2.2.2.1))], [(mme, aI cy 4 (u_19.2.2.2.2.2.2.2.2.1))], [(mrd, aI cy 100 (rd))], [(mas, aI cy 115 (as9))]]) hD [4, 5, 3, 0, 6, 7, 8, 9, 10, 11, 1, 2] (by decide) rfl
  have hP : va_P D vwCl [(mdB cy mo mz msv mtx mmo mif mmg mtn mie mme mrd mas (th) ((min (hz + 1) 8)) (len) (u_19.2.2.2.1) (u_19.2.2.2.2.2.2.2.2.2.1) (u_19.2.2.2.2.2.2.2.2.2.2) (sp) (it) (bl) (hh) (u_19.1) (u_1) (bf) (u_19.2.1) (u_19.2.2.2.2.1) (u_19.2.2.2.2.2.1) (u_19.2.2.2.2.2.2.1) (u_19.2.2.2.2.2.2.2.1) (u_19.2.2.2.2.2.2.2.2.1) (rd) (as9)).flatten].flatten H := by rw [fl_open]; exact hP
  have hD : va_D A [(mdB cy mo mz msv mtx mmo mif mmg mtn mie mme mrd mas (th) ((min (hz + 1) 8)) (len) (u_19.2.2.2.1) (u_19.2.2.2.2.2.2.2.2.2.1) (u_19.2.2.2.2.2.2.2.2.2.2) (sp) (it) (bl) (hh) (u_19.1) (u_1) (bf) (u_19.2.1) (u_19.2.2.2.2.1) (u_19.2.2.2.2.2.1) (u_19.2.2.2.2.2.2.1) (u_19.2.2.2.2.2.2.2.1) (u_19.2.2.2.2.2.2.2.2.1) (rd) (as9)).flatten].flatten := by rw [fl_open]; exact hD
  exact hQ _ _ _ _ _ ((mdB cy mo mz msv mtx mmo mif mmg mtn mie mme mrd mas (th) ((min (hz + 1) 8)) (len) (u_19.2.2.2.1) (u_19.2.2.2.2.2.2.2.2.2.1) (u_19.2.2.2.2.2.2.2.2.2.2) (sp) (it) (bl) (hh) (u_19.1) (u_1) (bf) (u_19.2.1) (u_19.2.2.2.2.1) (u_19.2.2.2.2.2.1) (u_19.2.2.2.2.2.2.1) (u_19.2.2.2.2.2.2.2.1) (u_19.2.2.2.2.2.2.2.2.1) (rd) (as9)).flatten) ⟨by rw [← hL.2.1 k (by omega)]; rfl, ⟨(u_19.2.2.2.1), (u_19.2.2.2.2.2.2.2.2.2.1), (u_19.2.2.2.2.2.2.2.2.2.2), (sp), (it), (bl), (hh), (u_19.1), (u_1), (bf), (u_19.2.1), (u_19.2.2.2.2.1), (u_19.2.2.2.2.2.1), (u_19.2.2.2.2.2.2.1), (u_19.2.2.2.2.2.2.2.1), (u_19.2.2.2.2.2.2.2.2.1), (rd), (as9), rfl, mset_fin hS0 n20 n101 hn0 hm0 hc0 he0 h_19.1, ⟨by omega, mh_push hhz h_1 ⟨hL, hz20, hz101, by omega, by omega⟩ hHZ⟩, hln, hbf, htx⟩⟩ hP hD hS dX8_replaced_23

set_option maxRecDepth 100000 in
set_option maxHeartbeats 4000000 in
theorem c_X8_setStay (l : Launch) (D : va_G) (cy : Nat → ClassId) (mo mz msv mtx mmo mif mmg mtn mie mme mrd mas : Nat) (T : LSt) (hz : Nat) (HZ : Nat → LSt) (len : Nat) (tx : Nat → Int) (th : Int) (W : va_W) (hG : gOk T) (hW : MW cy mo mz msv mtx mmo mif mmg mtn mie mme mrd mas T hz HZ len tx th W) (p0 p1 : Int) (k : Nat) (hk : p0 = (k : Int) ∧ k < 10) (hz9 : 0 ≤ p1 ∧ p1 ≤ 9) (sz : Nat) : qMet l yX8_setStay (.code yX8_setStay cX8_setStay 3 (some .int)) 9 [.ref (mo), .int (qI (p0)), .int (qI (p1))] D cy [W] sz (va_Qi (S := va_W) (fun r u => r = qI (lT T k) ∧ MW cy mo mz msv mtx mmo mif mmg mtn mie mme mrd mas (seT (chT T k p1)) (min (hz + 1) 8) (pushH T HZ) len tx 0 u) (qB D cy [W] sz (fun u => [u])) (va_A [W].flatten sz)) := by
  refine q_ofMi (S := va_W) (b1 := fun u => [u]) (post := fun r u => r = qI (lT T k) ∧ MW cy mo mz msv mtx mmo mif mmg mtn mie mme mrd mas (seT (chT T k p1)) (min (hz + 1) 8) (pushH T HZ) len tx 0 u) (by decide +kernel) (Nat.le_of_ble_eq_true rfl) ?_
  intro p e s m args below meth c Q A hx hb hml hown hg hQ hK hN hD hA H locs ls hP hS hl
  have hown : s.vm.findClass RX8 = some m.cls := hown
  have hl : lv_has ls 3 [(0, .ref (mo)), (1, .int (qI (p0))), (2, .int (qI (p1)))] := hl
  have hW0 := hW
  obtain ⟨tu, fi, ro, sp, it, bl, hh, z, sd, bf, g, isF, mg, tn, isE, mE, rd, as9, rfl, ⟨hL, hz20, hz101⟩, ⟨hhz, hHZ⟩, hln, hbf, htx⟩ := hW
  obtain ⟨gV, gT, gC, gE, gI, gD⟩ := hG.eq hL
  obtain ⟨nc, hnc⟩ : ∃ nc : Nat, z 20 = (nc : Int) := ⟨(z 20).toNat, by omega⟩
  obtain ⟨ne, hne⟩ : ∃ ne : Nat, z 101 = (ne : Int) := ⟨(z 101).toNat, by omega⟩
  have e20 : (z 20).toNat = nc := by omega
  have e101 : (z 101).toNat = ne := by omega
  have hV : qV z := gV
  have hst : ∀ i, i < 10 → 0 ≤ z (10 + i) ∧ z (10 + i) ≤ 9 := gT
  have hc : nc ≤ 16 := e20 ▸ (gC.1 : (z 20).toNat ≤ 16)
  have hC : qWR (zC z) nc := e20 ▸ (gC.2 : qWR (zC z) (z 20).toNat)
  have he : ne ≤ 4 := e101 ▸ (gE.1 : (z 101).toNat ≤ 4)
  have hE : qWR (zE z) ne := e101 ▸ (gE.2 : qWR (zE z) (z 101).toNat)
  have hD9 : ∀ i j, i < ne → j < ne → zE z 0 i = zE z 0 j → i = j := e101 ▸ (gD : ∀ i j, i < (z 101).toNat → j < (z 101).toNat → zE z 0 i = zE z 0 j → i = j)
  have hL2 : LEq (z, (fun i => z (10 + i)), zC z, nc, zE z, ne) T := by rw [← e20, ← e101]; exact hL
  have en : nc = lN9 T := hL2.2.2.1
  have em : ne = lM T := hL2.2.2.2.2.1
  rw [fl_open] at hP hD
  have hP : va_P D vwCl [[(mo, .inr (8, [.int (qI (th)), .ref (mz), .int (qI (((hz : Nat) : Int))), .ref (msv), .int (qI (((len : Nat) : Int))), .ref (mtx), .ref (mmo), .int (qI (tu)), .ref (mif), .ref (mmg), .ref (mtn), .ref (mie), .ref (mme), .int (qz (fi)), .int (qI (ro)), .int (qI (sp)), .int (qI (it)), .int (qz (bl)), .ref (mrd), .ref (mas), .long (hh)]))], [(mz, aI cy 115 (z))], [(msv, aI cy 920 (sd))], [(mtx, aI cy 60 (bf))], [(mmo, aI cy 121 (g))], [(mif, aZ cy 16 (isF))], [(mmg, aI cy 16 (mg))], [(mtn, aI cy 16 (tn))], [(mie, aZ cy 4 (isE))], [(mme, aI cy 4 (mE))], [(mrd, aI cy 100 (rd))], [(mas, aI cy 115 (as9))]].flatten H := hP
  have hD : va_D A [[(mo, .inr (8, [.int (qI (th)), .ref (mz), .int (qI (((hz : Nat) : Int))), .ref (msv), .int (qI (((len : Nat) : Int))), .ref (mtx), .ref (mmo), .int (qI (tu)), .ref (mif), .ref (mmg), .ref (mtn), .ref (mie), .ref (mme), .int (qz (fi)), .int (qI (ro)), .int (qI (sp)), .int (qI (it)), .int (qz (bl)), .ref (mrd), .ref (mas), .long (hh)]))], [(mz, aI cy 115 (z))], [(msv, aI cy 920 (sd))], [(mtx, aI cy 60 (bf))], [(mmo, aI cy 121 (g))], [(mif, aZ cy 16 (isF))], [(mmg, aI cy 16 (mg))], [(mtn, aI cy 16 (tn))], [(mie, aZ cy 4 (isE))], [(mme, aI cy 4 (mE))], [(mrd, aI cy 100 (rd))], [(mas, aI cy 115 (as9))]].flatten := hD
  refine lv_aload_n hx hb dX8_setStay_0 rfl (lv_at hl 0 rfl) ?_
  refine lv_iload_n hx hb dX8_setStay_1 rfl (lv_at hl 1 rfl) ?_
  refine q_readz (va_runS (As := [.int (qI (p0))]) (rest := [.ref (mo)]) ⟨hx, hb, hml, hown, hg⟩ (c_X8_isPlace l D cy _ (by omega)) (cs_X8_94 hg rfl rfl ⟨by decide, by decide⟩) ⟨q_blind0, q_preR _ hK hN hP [] rfl⟩ rfl rfl hl.1 rfl (lv_room (Nat.le_of_ble_eq_true rfl)) dX8_setStay_2 ⟨by decide, by decide⟩) (fun b_2 h_2 => ?_)
  refine q_ifz_ne (tgt := 12) hx hb dX8_setStay_5 (by decide) (fun c_5 => ?_) (fun c_5 => ?_)
  · skip
    have g_5 := (h_2).mp c_5
    refine lv_iload_n hx hb dX8_setStay_12 rfl (lv_at hl 2 rfl) ?_
    refine q_iconst hx hb dX8_setStay_13 ?_
    refine q_bipush hx hb dX8_setStay_14 (by decide) ?_
    refine q_readz (va_runS (As := [.int (qI (p1)), .int (qI (0)), .int (qI (9))]) (rest := [.ref (mo)]) ⟨hx, hb, hml, hown, hg⟩ (c_X8_within l D cy _ _ _ (by omega)) (cs_X8_48 hg rfl rfl ⟨by decide, by decide⟩) ⟨q_blind0, q_preR _ hK hN hP [] rfl⟩ rfl rfl hl.1 rfl (lv_room (Nat.le_of_ble_eq_true rfl)) dX8_setStay_16 ⟨by decide, by decide⟩) (fun b_16 h_16 => ?_)
    refine q_ifz_eq (tgt := 26) hx hb dX8_setStay_19 (by decide) (fun c_19 => ?_) (fun c_19 => ?_)
    · skip
      have g_19 := mt (h_16).mpr (by rw [c_19]; decide)
      exfalso; omega
    · skip
      have g_19 := (h_16).mp c_19
      refine q_iconst hx hb dX8_setStay_22 ?_
      refine lv_goto (tgt := 27) hx hb dX8_setStay_23 (by decide) ?_
      refine pf_X8_44 hx hb hg hown hK hP hD hS 0 0 rfl rfl rfl rfl (Nat.le_of_ble_eq_true rfl) dX8_setStay_27 (fun H locs hP hD hS => ?_)
      have hP : va_P D vwCl [[(mo, .inr (8, [.int (qI (0)), .ref (mz), .int (qI (((hz : Nat) : Int))), .ref (msv), .int (qI (((len : Nat) : Int))), .ref (mtx), .ref (mmo), .int (qI (tu)), .ref (mif), .ref (mmg), .ref (mtn), .ref (mie), .ref (mme), .int (qz (fi)), .int (qI (ro)), .int (qI (sp)), .int (qI (it)), .int (qz (bl)), .ref (mrd), .ref (mas), .long (hh)]))], [(mz, aI cy 115 (z))], [(msv, aI cy 920 (sd))], [(mtx, aI cy 60 (bf))], [(mmo, aI cy 121 (g))], [(mif, aZ cy 16 (isF))], [(mmg, aI cy 16 (mg))], [(mtn, aI cy 16 (tn))], [(mie, aZ cy 4 (isE))], [(mme, aI cy 4 (mE))], [(mrd, aI cy 100 (rd))], [(mas, aI cy 115 (as9))]].flatten H := hP
      have hD : va_D A [[(mo, .inr (8, [.int (qI (0)), .ref (mz), .int (qI (((hz : Nat) : Int))), .ref (msv), .int (qI (((len : Nat) : Int))), .ref (mtx), .ref (mmo), .int (qI (tu)), .ref (mif), .ref (mmg), .ref (mtn), .ref (mie), .ref (mme), .int (qz (fi)), .int (qI (ro)), .int (qI (sp)), .int (qI (it)), .int (qz (bl)), .ref (mrd), .ref (mas), .long (hh)]))], [(mz, aI cy 115 (z))], [(msv, aI cy 920 (sd))], [(mtx, aI cy 60 (bf))], [(mmo, aI cy 121 (g))], [(mif, aZ cy 16 (isF))], [(mmg, aI cy 16 (mg))], [(mtn, aI cy 16 (tn))], [(mie, aZ cy 4 (isE))], [(mme, aI cy 4 (mE))], [(mrd, aI cy 100 (rd))], [(mas, aI cy 115 (as9))]].flatten := hD
      refine lv_aload_n hx hb dX8_setStay_30 rfl (lv_at hl 0 rfl) ?_
      refine gf_X8_44 hx hb hg hown hK (fl_blk hP 0 rfl) 0 rfl rfl dX8_setStay_31 ?_
      refine q_if_le (tgt := 41) hx hb dX8_setStay_34 (by decide) (by omega) (fun c_34 => ?_) (fun c_34 => ?_)
      · skip
        refine lv_aload_n hx hb dX8_setStay_41 rfl (lv_at hl 0 rfl) ?_
        refine q_bipush hx hb dX8_setStay_42 (by decide) ?_
        refine lv_iload_n hx hb dX8_setStay_44 rfl (lv_at hl 1 rfl) ?_
        refine q_iadd hx hb dX8_setStay_45 ?_
        refine q_topZ (y := ((10 + k : Nat) : Int)) (by omega) ?_
        refine lv_iload_n hx hb dX8_setStay_46 rfl (lv_at hl 2 rfl) ?_
        have hP : va_P D vwCl [(mdB cy mo mz msv mtx mmo mif mmg mtn mie mme mrd mas (0) (hz) (len) (tu) (fi) (ro) (sp) (it) (bl) (hh) (z) (sd) (bf) (g) (isF) (mg) (tn) (isE) (mE) (rd) (as9)).flatten].flatten H := by rw [fl_open]; exact hP
        have hD : va_D A [(mdB cy mo mz msv mtx mmo mif mmg mtn mie mme mrd mas (0) (hz) (len) (tu) (fi) (ro) (sp) (it) (bl) (hh) (z) (sd) (bf) (g) (isF) (mg) (tn) (isE) (mE) (rd) (as9)).flatten].flatten := by rw [fl_open]; exact hD
        have hW1 : MW cy mo mz msv mtx mmo mif mmg mtn mie mme mrd mas T hz HZ len tx 0 ((mdB cy mo mz msv mtx mmo mif mmg mtn mie mme mrd mas (0) (hz) (len) (tu) (fi) (ro) (sp) (it) (bl) (hh) (z) (sd) (bf) (g) (isF) (mg) (tn) (isE) (mE) (rd) (as9)).flatten) := ⟨(tu), (fi), (ro), (sp), (it), (bl), (hh), (z), (sd), (bf), (g), (isF), (mg), (tn), (isE), (mE), (rd), (as9), rfl, ⟨hL, hz20, hz101⟩, ⟨hhz, hHZ⟩, hln, hbf, htx⟩
        refine q_backi [0] [] (br := []) hP hD hS hA (va_runV (As := [.int (qI (((10 + k : Nat) : Int))), .int (qI (p1))]) (rest := []) ⟨hx, hb, hml, hown, hg⟩ (c_X8_replaced_sty l D cy mo mz msv mtx mmo mif mmg mtn mie mme mrd mas T hz HZ len tx 0 _ hG hW1 (p1) k (by omega) (by omega) _) (cv_X8_117 hg rfl rfl ⟨by decide, by decide⟩) ⟨q_blind, va_recv hK (fl_blk hP 0 rfl) (ci := 8) (q0 := 0) rfl rfl, q_preM _ hK hN hP hD [0] (by decide) rfl⟩ rfl rfl hl.1 rfl (lv_room (Nat.le_of_ble_eq_true rfl)) dX8_setStay_47 ⟨by decide, by decide⟩) rfl rfl (by decide) (fun r_47 u_47 H locs h_47 hP hD hS => ?_)
        have hP : va_P D vwCl [u_47].flatten H := hP
        have hD : va_D A [u_47].flatten := hD
        obtain ⟨rfl, h_47⟩ := h_47
        exact hQ _ _ _ _ _ u_47 ⟨rfl, h_47⟩ hP hD hS dX8_setStay_50
      · skip
        exact absurd c_34 (by decide)
  · skip
    have g_5 := mt (h_2).mpr (by rw [c_5]; decide)
    exfalso; omega

set_option maxRecDepth 100000 in
set_option maxHeartbeats 4000000 in
theorem c_X8_setStay_no1 (l : Launch) (D : va_G) (cy : Nat → ClassId) (mo mz msv mtx mmo mif mmg mtn mie mme mrd mas : Nat) (T : LSt) (hz : Nat) (HZ : Nat → LSt) (len : Nat) (tx : Nat → Int) (th : Int) (W : va_W) (hG : gOk T) (hW : MW cy mo mz msv mtx mmo mif mmg mtn mie mme mrd mas T hz HZ len tx th W) (p0 p1 : Int) (r0 : (-2147483648 ≤ p0 ∧ p0 < 2147483648)) (r1 : (-2147483648 ≤ p1 ∧ p1 < 2147483648)) (hx : ¬ (0 ≤ p0 ∧ p0 ≤ 9)) (sz : Nat) : qMet l yX8_setStay (.code yX8_setStay cX8_setStay 3 (some .int)) 8 [.ref (mo), .int (qI (p0)), .int (qI (p1))] D cy [W] sz (va_Qi (S := va_W) (fun r u => MW cy mo mz msv mtx mmo mif mmg mtn mie mme mrd mas T hz HZ len tx 1 u) (qB D cy [W] sz (fun u => [u])) (va_A [W].flatten sz)) := by
  refine q_ofMi (S := va_W) (b1 := fun u => [u]) (post := fun r u => MW cy mo mz msv mtx mmo mif mmg mtn mie mme mrd mas T hz HZ len tx 1 u) (by decide +kernel) (Nat.le_of_ble_eq_true rfl) ?_
  intro p e s m args below meth c Q A hx hb hml hown hg hQ hK hN hD hA H locs ls hP hS hl
  have hown : s.vm.findClass RX8 = some m.cls := hown
  have hl : lv_has ls 3 [(0, .ref (mo)), (1, .int (qI (p0))), (2, .int (qI (p1)))] := hl
  have hW0 := hW
  obtain ⟨tu, fi, ro, sp, it, bl, hh, z, sd, bf, g, isF, mg, tn, isE, mE, rd, as9, rfl, ⟨hL, hz20, hz101⟩, ⟨hhz, hHZ⟩, hln, hbf, htx⟩ := hW
  obtain ⟨gV, gT, gC, gE, gI, gD⟩ := hG.eq hL
  obtain ⟨nc, hnc⟩ : ∃ nc : Nat, z 20 = (nc : Int) := ⟨(z 20).toNat, by omega⟩
  obtain ⟨ne, hne⟩ : ∃ ne : Nat, z 101 = (ne : Int) := ⟨(z 101).toNat, by omega⟩
  have e20 : (z 20).toNat = nc := by omega
  have e101 : (z 101).toNat = ne := by omega
  have hV : qV z := gV
  have hst : ∀ i, i < 10 → 0 ≤ z (10 + i) ∧ z (10 + i) ≤ 9 := gT
  have hc : nc ≤ 16 := e20 ▸ (gC.1 : (z 20).toNat ≤ 16)
  have hC : qWR (zC z) nc := e20 ▸ (gC.2 : qWR (zC z) (z 20).toNat)
  have he : ne ≤ 4 := e101 ▸ (gE.1 : (z 101).toNat ≤ 4)
  have hE : qWR (zE z) ne := e101 ▸ (gE.2 : qWR (zE z) (z 101).toNat)
  have hD9 : ∀ i j, i < ne → j < ne → zE z 0 i = zE z 0 j → i = j := e101 ▸ (gD : ∀ i j, i < (z 101).toNat → j < (z 101).toNat → zE z 0 i = zE z 0 j → i = j)
  have hL2 : LEq (z, (fun i => z (10 + i)), zC z, nc, zE z, ne) T := by rw [← e20, ← e101]; exact hL
  have en : nc = lN9 T := hL2.2.2.1
  have em : ne = lM T := hL2.2.2.2.2.1
  rw [fl_open] at hP hD
  have hP : va_P D vwCl [[(mo, .inr (8, [.int (qI (th)), .ref (mz), .int (qI (((hz : Nat) : Int))), .ref (msv), .int (qI (((len : Nat) : Int))), .ref (mtx), .ref (mmo), .int (qI (tu)), .ref (mif), .ref (mmg), .ref (mtn), .ref (mie), .ref (mme), .int (qz (fi)), .int (qI (ro)), .int (qI (sp)), .int (qI (it)), .int (qz (bl)), .ref (mrd), .ref (mas), .long (hh)]))], [(mz, aI cy 115 (z))], [(msv, aI cy 920 (sd))], [(mtx, aI cy 60 (bf))], [(mmo, aI cy 121 (g))], [(mif, aZ cy 16 (isF))], [(mmg, aI cy 16 (mg))], [(mtn, aI cy 16 (tn))], [(mie, aZ cy 4 (isE))], [(mme, aI cy 4 (mE))], [(mrd, aI cy 100 (rd))], [(mas, aI cy 115 (as9))]].flatten H := hP
  have hD : va_D A [[(mo, .inr (8, [.int (qI (th)), .ref (mz), .int (qI (((hz : Nat) : Int))), .ref (msv), .int (qI (((len : Nat) : Int))), .ref (mtx), .ref (mmo), .int (qI (tu)), .ref (mif), .ref (mmg), .ref (mtn), .ref (mie), .ref (mme), .int (qz (fi)), .int (qI (ro)), .int (qI (sp)), .int (qI (it)), .int (qz (bl)), .ref (mrd), .ref (mas), .long (hh)]))], [(mz, aI cy 115 (z))], [(msv, aI cy 920 (sd))], [(mtx, aI cy 60 (bf))], [(mmo, aI cy 121 (g))], [(mif, aZ cy 16 (isF))], [(mmg, aI cy 16 (mg))], [(mtn, aI cy 16 (tn))], [(mie, aZ cy 4 (isE))], [(mme, aI cy 4 (mE))], [(mrd, aI cy 100 (rd))], [(mas, aI cy 115 (as9))]].flatten := hD
  refine lv_aload_n hx hb dX8_setStay_0 rfl (lv_at hl 0 rfl) ?_
  refine lv_iload_n hx hb dX8_setStay_1 rfl (lv_at hl 1 rfl) ?_
  refine q_readz (va_runS (As := [.int (qI (p0))]) (rest := [.ref (mo)]) ⟨hx, hb, hml, hown, hg⟩ (c_X8_isPlace l D cy _ (by omega)) (cs_X8_94 hg rfl rfl ⟨by decide, by decide⟩) ⟨q_blind0, q_preR _ hK hN hP [] rfl⟩ rfl rfl hl.1 rfl (lv_room (Nat.le_of_ble_eq_true rfl)) dX8_setStay_2 ⟨by decide, by decide⟩) (fun b_2 h_2 => ?_)
  refine q_ifz_ne (tgt := 12) hx hb dX8_setStay_5 (by decide) (fun c_5 => ?_) (fun c_5 => ?_)
  · skip
    have g_5 := (h_2).mp c_5
    refine lv_iload_n hx hb dX8_setStay_12 rfl (lv_at hl 2 rfl) ?_
    refine q_iconst hx hb dX8_setStay_13 ?_
    refine q_bipush hx hb dX8_setStay_14 (by decide) ?_
    refine q_readz (va_runS (As := [.int (qI (p1)), .int (qI (0)), .int (qI (9))]) (rest := [.ref (mo)]) ⟨hx, hb, hml, hown, hg⟩ (c_X8_within l D cy _ _ _ (by omega)) (cs_X8_48 hg rfl rfl ⟨by decide, by decide⟩) ⟨q_blind0, q_preR _ hK hN hP [] rfl⟩ rfl rfl hl.1 rfl (lv_room (Nat.le_of_ble_eq_true rfl)) dX8_setStay_16 ⟨by decide, by decide⟩) (fun b_16 h_16 => ?_)
    refine q_ifz_eq (tgt := 26) hx hb dX8_setStay_19 (by decide) (fun c_19 => ?_) (fun c_19 => ?_)
    · skip
      have g_19 := mt (h_16).mpr (by rw [c_19]; decide)
      exfalso; omega
    · skip
      have g_19 := (h_16).mp c_19
      exfalso; omega
  · skip
    have g_5 := mt (h_2).mpr (by rw [c_5]; decide)
    refine q_iconst hx hb dX8_setStay_8 ?_
    refine lv_goto (tgt := 27) hx hb dX8_setStay_9 (by decide) ?_
    refine pf_X8_44 hx hb hg hown hK hP hD hS 0 0 rfl rfl rfl rfl (Nat.le_of_ble_eq_true rfl) dX8_setStay_27 (fun H locs hP hD hS => ?_)
    have hP : va_P D vwCl [[(mo, .inr (8, [.int (qI (1)), .ref (mz), .int (qI (((hz : Nat) : Int))), .ref (msv), .int (qI (((len : Nat) : Int))), .ref (mtx), .ref (mmo), .int (qI (tu)), .ref (mif), .ref (mmg), .ref (mtn), .ref (mie), .ref (mme), .int (qz (fi)), .int (qI (ro)), .int (qI (sp)), .int (qI (it)), .int (qz (bl)), .ref (mrd), .ref (mas), .long (hh)]))], [(mz, aI cy 115 (z))], [(msv, aI cy 920 (sd))], [(mtx, aI cy 60 (bf))], [(mmo, aI cy 121 (g))], [(mif, aZ cy 16 (isF))], [(mmg, aI cy 16 (mg))], [(mtn, aI cy 16 (tn))], [(mie, aZ cy 4 (isE))], [(mme, aI cy 4 (mE))], [(mrd, aI cy 100 (rd))], [(mas, aI cy 115 (as9))]].flatten H := hP
    have hD : va_D A [[(mo, .inr (8, [.int (qI (1)), .ref (mz), .int (qI (((hz : Nat) : Int))), .ref (msv), .int (qI (((len : Nat) : Int))), .ref (mtx), .ref (mmo), .int (qI (tu)), .ref (mif), .ref (mmg), .ref (mtn), .ref (mie), .ref (mme), .int (qz (fi)), .int (qI (ro)), .int (qI (sp)), .int (qI (it)), .int (qz (bl)), .ref (mrd), .ref (mas), .long (hh)]))], [(mz, aI cy 115 (z))], [(msv, aI cy 920 (sd))], [(mtx, aI cy 60 (bf))], [(mmo, aI cy 121 (g))], [(mif, aZ cy 16 (isF))], [(mmg, aI cy 16 (mg))], [(mtn, aI cy 16 (tn))], [(mie, aZ cy 4 (isE))], [(mme, aI cy 4 (mE))], [(mrd, aI cy 100 (rd))], [(mas, aI cy 115 (as9))]].flatten := hD
    refine lv_aload_n hx hb dX8_setStay_30 rfl (lv_at hl 0 rfl) ?_
    refine gf_X8_44 hx hb hg hown hK (fl_blk hP 0 rfl) 0 rfl rfl dX8_setStay_31 ?_
    refine q_if_le (tgt := 41) hx hb dX8_setStay_34 (by decide) (by omega) (fun c_34 => ?_) (fun c_34 => ?_)
    · skip
      exact absurd c_34 (by decide)
    · skip
      refine q_iconst hx hb dX8_setStay_37 ?_
      refine lv_goto (tgt := 50) hx hb dX8_setStay_38 (by decide) ?_
      have hP : va_P D vwCl [(mdB cy mo mz msv mtx mmo mif mmg mtn mie mme mrd mas (1) (hz) (len) (tu) (fi) (ro) (sp) (it) (bl) (hh) (z) (sd) (bf) (g) (isF) (mg) (tn) (isE) (mE) (rd) (as9)).flatten].flatten H := by rw [fl_open]; exact hP
      have hD : va_D A [(mdB cy mo mz msv mtx mmo mif mmg mtn mie mme mrd mas (1) (hz) (len) (tu) (fi) (ro) (sp) (it) (bl) (hh) (z) (sd) (bf) (g) (isF) (mg) (tn) (isE) (mE) (rd) (as9)).flatten].flatten := by rw [fl_open]; exact hD
      exact hQ _ _ _ _ _ ((mdB cy mo mz msv mtx mmo mif mmg mtn mie mme mrd mas (1) (hz) (len) (tu) (fi) (ro) (sp) (it) (bl) (hh) (z) (sd) (bf) (g) (isF) (mg) (tn) (isE) (mE) (rd) (as9)).flatten) ⟨(tu), (fi), (ro), (sp), (it), (bl), (hh), (z), (sd), (bf), (g), (isF), (mg), (tn), (isE), (mE), (rd), (as9), rfl, ⟨hL, hz20, hz101⟩, ⟨hhz, hHZ⟩, hln, hbf, htx⟩ hP hD hS dX8_setStay_50

set_option maxRecDepth 100000 in
set_option maxHeartbeats 4000000 in
theorem c_X8_setStay_no2 (l : Launch) (D : va_G) (cy : Nat → ClassId) (mo mz msv mtx mmo mif mmg mtn mie mme mrd mas : Nat) (T : LSt) (hz : Nat) (HZ : Nat → LSt) (len : Nat) (tx : Nat → Int) (th : Int) (W : va_W) (hG : gOk T) (hW : MW cy mo mz msv mtx mmo mif mmg mtn mie mme mrd mas T hz HZ len tx th W) (p0 p1 : Int) (r0 : (-2147483648 ≤ p0 ∧ p0 < 2147483648)) (r1 : (-2147483648 ≤ p1 ∧ p1 < 2147483648)) (hx : 0 ≤ p0 ∧ p0 ≤ 9) (hy : ¬ (0 ≤ p1 ∧ p1 ≤ 9)) (sz : Nat) : qMet l yX8_setStay (.code yX8_setStay cX8_setStay 3 (some .int)) 8 [.ref (mo), .int (qI (p0)), .int (qI (p1))] D cy [W] sz (va_Qi (S := va_W) (fun r u => MW cy mo mz msv mtx mmo mif mmg mtn mie mme mrd mas T hz HZ len tx 2 u) (qB D cy [W] sz (fun u => [u])) (va_A [W].flatten sz)) := by
  refine q_ofMi (S := va_W) (b1 := fun u => [u]) (post := fun r u => MW cy mo mz msv mtx mmo mif mmg mtn mie mme mrd mas T hz HZ len tx 2 u) (by decide +kernel) (Nat.le_of_ble_eq_true rfl) ?_
  intro p e s m args below meth c Q A hx hb hml hown hg hQ hK hN hD hA H locs ls hP hS hl
  have hown : s.vm.findClass RX8 = some m.cls := hown
  have hl : lv_has ls 3 [(0, .ref (mo)), (1, .int (qI (p0))), (2, .int (qI (p1)))] := hl
  have hW0 := hW
  obtain ⟨tu, fi, ro, sp, it, bl, hh, z, sd, bf, g, isF, mg, tn, isE, mE, rd, as9, rfl, ⟨hL, hz20, hz101⟩, ⟨hhz, hHZ⟩, hln, hbf, htx⟩ := hW
  obtain ⟨gV, gT, gC, gE, gI, gD⟩ := hG.eq hL
  obtain ⟨nc, hnc⟩ : ∃ nc : Nat, z 20 = (nc : Int) := ⟨(z 20).toNat, by omega⟩
  obtain ⟨ne, hne⟩ : ∃ ne : Nat, z 101 = (ne : Int) := ⟨(z 101).toNat, by omega⟩
  have e20 : (z 20).toNat = nc := by omega
  have e101 : (z 101).toNat = ne := by omega
  have hV : qV z := gV
  have hst : ∀ i, i < 10 → 0 ≤ z (10 + i) ∧ z (10 + i) ≤ 9 := gT
  have hc : nc ≤ 16 := e20 ▸ (gC.1 : (z 20).toNat ≤ 16)
  have hC : qWR (zC z) nc := e20 ▸ (gC.2 : qWR (zC z) (z 20).toNat)
  have he : ne ≤ 4 := e101 ▸ (gE.1 : (z 101).toNat ≤ 4)
  have hE : qWR (zE z) ne := e101 ▸ (gE.2 : qWR (zE z) (z 101).toNat)
  have hD9 : ∀ i j, i < ne → j < ne → zE z 0 i = zE z 0 j → i = j := e101 ▸ (gD : ∀ i j, i < (z 101).toNat → j < (z 101).toNat → zE z 0 i = zE z 0 j → i = j)
  have hL2 : LEq (z, (fun i => z (10 + i)), zC z, nc, zE z, ne) T := by rw [← e20, ← e101]; exact hL
  have en : nc = lN9 T := hL2.2.2.1
  have em : ne = lM T := hL2.2.2.2.2.1
  rw [fl_open] at hP hD
  have hP : va_P D vwCl [[(mo, .inr (8, [.int (qI (th)), .ref (mz), .int (qI (((hz : Nat) : Int))), .ref (msv), .int (qI (((len : Nat) : Int))), .ref (mtx), .ref (mmo), .int (qI (tu)), .ref (mif), .ref (mmg), .ref (mtn), .ref (mie), .ref (mme), .int (qz (fi)), .int (qI (ro)), .int (qI (sp)), .int (qI (it)), .int (qz (bl)), .ref (mrd), .ref (mas), .long (hh)]))], [(mz, aI cy 115 (z))], [(msv, aI cy 920 (sd))], [(mtx, aI cy 60 (bf))], [(mmo, aI cy 121 (g))], [(mif, aZ cy 16 (isF))], [(mmg, aI cy 16 (mg))], [(mtn, aI cy 16 (tn))], [(mie, aZ cy 4 (isE))], [(mme, aI cy 4 (mE))], [(mrd, aI cy 100 (rd))], [(mas, aI cy 115 (as9))]].flatten H := hP
  have hD : va_D A [[(mo, .inr (8, [.int (qI (th)), .ref (mz), .int (qI (((hz : Nat) : Int))), .ref (msv), .int (qI (((len : Nat) : Int))), .ref (mtx), .ref (mmo), .int (qI (tu)), .ref (mif), .ref (mmg), .ref (mtn), .ref (mie), .ref (mme), .int (qz (fi)), .int (qI (ro)), .int (qI (sp)), .int (qI (it)), .int (qz (bl)), .ref (mrd), .ref (mas), .long (hh)]))], [(mz, aI cy 115 (z))], [(msv, aI cy 920 (sd))], [(mtx, aI cy 60 (bf))], [(mmo, aI cy 121 (g))], [(mif, aZ cy 16 (isF))], [(mmg, aI cy 16 (mg))], [(mtn, aI cy 16 (tn))], [(mie, aZ cy 4 (isE))], [(mme, aI cy 4 (mE))], [(mrd, aI cy 100 (rd))], [(mas, aI cy 115 (as9))]].flatten := hD
  refine lv_aload_n hx hb dX8_setStay_0 rfl (lv_at hl 0 rfl) ?_
  refine lv_iload_n hx hb dX8_setStay_1 rfl (lv_at hl 1 rfl) ?_
  refine q_readz (va_runS (As := [.int (qI (p0))]) (rest := [.ref (mo)]) ⟨hx, hb, hml, hown, hg⟩ (c_X8_isPlace l D cy _ (by omega)) (cs_X8_94 hg rfl rfl ⟨by decide, by decide⟩) ⟨q_blind0, q_preR _ hK hN hP [] rfl⟩ rfl rfl hl.1 rfl (lv_room (Nat.le_of_ble_eq_true rfl)) dX8_setStay_2 ⟨by decide, by decide⟩) (fun b_2 h_2 => ?_)
  refine q_ifz_ne (tgt := 12) hx hb dX8_setStay_5 (by decide) (fun c_5 => ?_) (fun c_5 => ?_)
  · skip
    have g_5 := (h_2).mp c_5
    refine lv_iload_n hx hb dX8_setStay_12 rfl (lv_at hl 2 rfl) ?_
    refine q_iconst hx hb dX8_setStay_13 ?_
    refine q_bipush hx hb dX8_setStay_14 (by decide) ?_
    refine q_readz (va_runS (As := [.int (qI (p1)), .int (qI (0)), .int (qI (9))]) (rest := [.ref (mo)]) ⟨hx, hb, hml, hown, hg⟩ (c_X8_within l D cy _ _ _ (by omega)) (cs_X8_48 hg rfl rfl ⟨by decide, by decide⟩) ⟨q_blind0, q_preR _ hK hN hP [] rfl⟩ rfl rfl hl.1 rfl (lv_room (Nat.le_of_ble_eq_true rfl)) dX8_setStay_16 ⟨by decide, by decide⟩) (fun b_16 h_16 => ?_)
    refine q_ifz_eq (tgt := 26) hx hb dX8_setStay_19 (by decide) (fun c_19 => ?_) (fun c_19 => ?_)
    · skip
      have g_19 := mt (h_16).mpr (by rw [c_19]; decide)
      refine q_iconst hx hb dX8_setStay_26 ?_
      refine pf_X8_44 hx hb hg hown hK hP hD hS 0 0 rfl rfl rfl rfl (Nat.le_of_ble_eq_true rfl) dX8_setStay_27 (fun H locs hP hD hS => ?_)
      have hP : va_P D vwCl [[(mo, .inr (8, [.int (qI (2)), .ref (mz), .int (qI (((hz : Nat) : Int))), .ref (msv), .int (qI (((len : Nat) : Int))), .ref (mtx), .ref (mmo), .int (qI (tu)), .ref (mif), .ref (mmg), .ref (mtn), .ref (mie), .ref (mme), .int (qz (fi)), .int (qI (ro)), .int (qI (sp)), .int (qI (it)), .int (qz (bl)), .ref (mrd), .ref (mas), .long (hh)]))], [(mz, aI cy 115 (z))], [(msv, aI cy 920 (sd))], [(mtx, aI cy 60 (bf))], [(mmo, aI cy 121 (g))], [(mif, aZ cy 16 (isF))], [(mmg, aI cy 16 (mg))], [(mtn, aI cy 16 (tn))], [(mie, aZ cy 4 (isE))], [(mme, aI cy 4 (mE))], [(mrd, aI cy 100 (rd))], [(mas, aI cy 115 (as9))]].flatten H := hP
      have hD : va_D A [[(mo, .inr (8, [.int (qI (2)), .ref (mz), .int (qI (((hz : Nat) : Int))), .ref (msv), .int (qI (((len : Nat) : Int))), .ref (mtx), .ref (mmo), .int (qI (tu)), .ref (mif), .ref (mmg), .ref (mtn), .ref (mie), .ref (mme), .int (qz (fi)), .int (qI (ro)), .int (qI (sp)), .int (qI (it)), .int (qz (bl)), .ref (mrd), .ref (mas), .long (hh)]))], [(mz, aI cy 115 (z))], [(msv, aI cy 920 (sd))], [(mtx, aI cy 60 (bf))], [(mmo, aI cy 121 (g))], [(mif, aZ cy 16 (isF))], [(mmg, aI cy 16 (mg))], [(mtn, aI cy 16 (tn))], [(mie, aZ cy 4 (isE))], [(mme, aI cy 4 (mE))], [(mrd, aI cy 100 (rd))], [(mas, aI cy 115 (as9))]].flatten := hD
      refine lv_aload_n hx hb dX8_setStay_30 rfl (lv_at hl 0 rfl) ?_
      refine gf_X8_44 hx hb hg hown hK (fl_blk hP 0 rfl) 0 rfl rfl dX8_setStay_31 ?_
      refine q_if_le (tgt := 41) hx hb dX8_setStay_34 (by decide) (by omega) (fun c_34 => ?_) (fun c_34 => ?_)
      · skip
        exact absurd c_34 (by decide)
      · skip
        refine q_iconst hx hb dX8_setStay_37 ?_
        refine lv_goto (tgt := 50) hx hb dX8_setStay_38 (by decide) ?_
        have hP : va_P D vwCl [(mdB cy mo mz msv mtx mmo mif mmg mtn mie mme mrd mas (2) (hz) (len) (tu) (fi) (ro) (sp) (it) (bl) (hh) (z) (sd) (bf) (g) (isF) (mg) (tn) (isE) (mE) (rd) (as9)).flatten].flatten H := by rw [fl_open]; exact hP
        have hD : va_D A [(mdB cy mo mz msv mtx mmo mif mmg mtn mie mme mrd mas (2) (hz) (len) (tu) (fi) (ro) (sp) (it) (bl) (hh) (z) (sd) (bf) (g) (isF) (mg) (tn) (isE) (mE) (rd) (as9)).flatten].flatten := by rw [fl_open]; exact hD
        exact hQ _ _ _ _ _ ((mdB cy mo mz msv mtx mmo mif mmg mtn mie mme mrd mas (2) (hz) (len) (tu) (fi) (ro) (sp) (it) (bl) (hh) (z) (sd) (bf) (g) (isF) (mg) (tn) (isE) (mE) (rd) (as9)).flatten) ⟨(tu), (fi), (ro), (sp), (it), (bl), (hh), (z), (sd), (bf), (g), (isF), (mg), (tn), (isE), (mE), (rd), (as9), rfl, ⟨hL, hz20, hz101⟩, ⟨hhz, hHZ⟩, hln, hbf, htx⟩ hP hD hS dX8_setStay_50
    · skip
      have g_19 := (h_16).mp c_19
      exfalso; omega
  · skip
    have g_5 := mt (h_2).mpr (by rw [c_5]; decide)
    exfalso; omega
