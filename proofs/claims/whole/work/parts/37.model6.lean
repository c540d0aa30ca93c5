def mdB (cy : Nat → ClassId) (mo mz msv mtx mmo mif mmg mtn mie mme mrd mas : Nat) (th : Int) (sv ml : Nat) (tu : Int) (fi : Bool) (ro sp it : Int) (bl : Bool) (hh : Int64) (z sd bf g : Nat → Int) (isF : Nat → Bool) (mg tn : Nat → Int) (isE : Nat → Bool) (mE rd as9 : Nat → Int) : List va_W := [[(mo, .inr (8, [.int (qI (th)), .ref (mz), .int (qI (((sv : Nat) : Int))), .ref (msv), .int (qI (((ml : Nat) : Int))), .ref (mtx), .ref (mmo), .int (qI (tu)), .ref (mif), .ref (mmg), .ref (mtn), .ref (mie), .ref (mme), .int (qz (fi)), .int (qI (ro)), .int (qI (sp)), .int (qI (it)), .int (qz (bl)), .ref (mrd), .ref (mas), .long (hh)]))], [(mz, aI cy 115 (z))], [(msv, aI cy 920 (sd))], [(mtx, aI cy 60 (bf))], [(mmo, aI cy 121 (g))], [(mif, aZ cy 16 (isF))], [(mmg, aI cy 16 (mg))], [(mtn, aI cy 16 (tn))], [(mie, aZ cy 4 (isE))], [(mme, aI cy 4 (mE))], [(mrd, aI cy 100 (rd))], [(mas, aI cy 115 (as9))]]
/-- the block W is a StrengthLayoutModel that holds the layout T, hz saved ones (HZ 0 the latest), the text tx of len characters, and has last told th -/
def MW (cy : Nat → ClassId) (mo mz msv mtx mmo mif mmg mtn mie mme mrd mas : Nat) (T : LSt) (hz : Nat) (HZ : Nat → LSt) (len : Nat) (tx : Nat → Int) (th : Int) (W : va_W) : Prop := ∃ (tu : Int) (fi : Bool) (ro sp it : Int) (bl : Bool) (hh : Int64) (z sd bf g : Nat → Int) (isF : Nat → Bool) (mg tn : Nat → Int) (isE : Nat → Bool) (mE rd as9 : Nat → Int), W = (mdB cy mo mz msv mtx mmo mif mmg mtn mie mme mrd mas th hz len tu fi ro sp it bl hh z sd bf g isF mg tn isE mE rd as9).flatten ∧ (LEq (zS z) T ∧ 0 ≤ z 20 ∧ 0 ≤ z 101) ∧ (hz ≤ 8 ∧ ∀ i, i < hz → mR sd (hz - 1 - i) (HZ i)) ∧ (len ≤ 60 ∧ (∀ i, i < len → bf i = tx i) ∧ ∀ i, i < len → 33 ≤ tx i ∧ tx i ≤ 126)


theorem mset_fin {z1 u : Nat → Int} {T : LSt} {n0 m0 : Nat} (hS0 : LEq (zS z1) T) (n20 : (z1 20).toNat = n0) (n101 : (z1 101).toNat = m0) (hn0 : z1 20 = (n0 : Int)) (hm0 : z1 101 = (m0 : Int)) (hc0 : n0 ≤ 16) (he0 : m0 ≤ 4) (hu : u = setv z1 (fun i => z1 (10 + i)) (zC z1) n0 (zE z1) m0) : LEq (zS u) (seT T) ∧ 0 ≤ u 20 ∧ 0 ≤ u 101 := by
  have far : ∀ m, 10 ≤ m → u m = z1 m := fun m hm => by rw [hu]; exact seS_far hm 10
  refine ⟨?_, by rw [far 20 (by decide)]; omega, by rw [far 101 (by decide)]; omega⟩
  refine LEq.tr (T := seT (zS z1)) ⟨fun i hi => ?_, fun i hi => far _ (by omega), by show (u 20).toNat = (z1 20).toNat; rw [far 20 (by decide)], fun f i hf hi => far _ (by omega), by show (u 101).toNat = (z1 101).toNat; rw [far 101 (by decide)], fun f i hf hi => ?_⟩ (seT_eq hS0)
  · show u i = setv z1 (fun i => z1 (10 + i)) (zC z1) (z1 20).toNat (zE z1) (z1 101).toNat i
    rw [n20, n101, hu]
  · show row5 (u (102 + 3 * i)) (-1) 1 (u (102 + 3 * i + 1)) (u (102 + 3 * i + 2)) f = row5 (z1 (102 + 3 * i)) (-1) 1 (z1 (102 + 3 * i + 1)) (z1 (102 + 3 * i + 2)) f
    rw [far _ (by omega), far _ (by omega), far _ (by omega)]

set_option maxRecDepth 100000 in
set_option maxHeartbeats 4000000 in
theorem c_X8_isCondition (l : Launch) (D : va_G) (cy : Nat → ClassId) (mo mz msv mtx mmo mif mmg mtn mie mme mrd mas : Nat) (th sv ml tu : Int) (fi : Bool) (ro sp it : Int) (bl : Bool) (hh : Int64) (z : Nat → Int) (nc : Nat) (z9 : Int) (h9 : (-2147483648 ≤ z9 ∧ z9 < 2147483648)) (hnc : z 20 = (nc : Int)) (hc : nc ≤ 16) : qRd l yX8_isCondition (.code yX8_isCondition cX8_isCondition 2 (some .boolean)) 2 [.ref (mo), .int (qI (z9))] D cy [[(mo, .inr (8, [.int (qI (th)), .ref (mz), .int (qI (sv)), .ref (msv), .int (qI (ml)), .ref (mtx), .ref (mmo), .int (qI (tu)), .ref (mif), .ref (mmg), .ref (mtn), .ref (mie), .ref (mme), .int (qz (fi)), .int (qI (ro)), .int (qI (sp)), .int (qI (it)), .int (qz (bl)), .ref (mrd), .ref (mas), .long (hh)]))], [(mz, aI cy 115 (z))]] (vp_Si (fun r => ∃ b : Bool, r = qz b ∧ (fun b => b = true ↔ 0 ≤ z9 ∧ z9 < (nc : Int)) b)) := by
  refine q_ofRz (post := fun b => b = true ↔ 0 ≤ z9 ∧ z9 < (nc : Int)) (by decide +kernel) (Nat.le_of_ble_eq_true rfl) ?_
  intro p e s m args below meth c Q hx hb hml hown hg hQ hK hN hP ls hl
  have hown : s.vm.findClass RX8 = some m.cls := hown
  have hl : lv_has ls 2 [(0, .ref (mo)), (1, .int (qI (z9)))] := hl
  refine lv_iload_n hx hb dX8_isCondition_0 rfl (lv_at hl 1 rfl) ?_
  refine q_iconst hx hb dX8_isCondition_1 ?_
  refine lv_aload_n hx hb dX8_isCondition_2 rfl (lv_at hl 0 rfl) ?_
  refine gf_X8_7 hx hb hg hown hK (fl_blk hP 0 rfl) 0 rfl rfl dX8_isCondition_3 ?_
  refine q_bipush hx hb dX8_isCondition_6 (by decide) ?_
  refine q_iald (j := 20) hx hb hK (fl_blk hP 1 rfl) 0 rfl (by omega) dX8_isCondition_8 ?_
  refine q_iconst hx hb dX8_isCondition_9 ?_
  refine q_isub hx hb dX8_isCondition_10 ?_
  refine q_readz (va_runS (As := [.int (qI (z9)), .int (qI (0)), .int (qI ((z 20) - (1)))]) (rest := []) ⟨hx, hb, hml, hown, hg⟩ (c_X8_within l D cy _ _ _ (by omega)) (cs_X8_48 hg rfl rfl ⟨by decide, by decide⟩) ⟨q_blind0, q_preR _ hK hN hP [] rfl⟩ rfl rfl hl.1 rfl (lv_room (Nat.le_of_ble_eq_true rfl)) dX8_isCondition_11 ⟨by decide, by decide⟩) (fun b_11 h_11 => ?_)
  exact hQ _ _ _ (h_11.trans (by omega)) dX8_isCondition_14


theorem lay_at {z : Nat → Int} {nc : Nat} (hc : nc < 16) {v0 v1 v2 v3 v4 : Int} (hnc : z 20 = (nc : Int)) : LEq (zS (qu (qu (qu (qu (qu (qu z (21 + 5 * nc + 0) v0) (21 + 5 * nc + 1) v1) (21 + 5 * nc + 2) v2) (21 + 5 * nc + 3) v3) (21 + 5 * nc + 4) v4) 20 ((nc : Int) + 1))) (adC (zS z) v0 v1 v2 v3 v4) := by
  have far : ∀ m, (m < 20 ∨ 101 ≤ m) → (qu (qu (qu (qu (qu (qu z (21 + 5 * nc + 0) v0) (21 + 5 * nc + 1) v1) (21 + 5 * nc + 2) v2) (21 + 5 * nc + 3) v3) (21 + 5 * nc + 4) v4) 20 ((nc : Int) + 1)) m = z m := fun m hm => by
    rw [qu_n _ _ (by omega), qu_n _ _ (by omega), qu_n _ _ (by omega), qu_n _ _ (by omega), qu_n _ _ (by omega), qu_n _ _ (by omega)]
  have e20 : (z 20).toNat = nc := by omega
  refine ⟨fun i hi => far i (by omega), fun i hi => far _ (by omega), ?_, fun f i hf hi => ?_, ?_, fun f i hf hi => ?_⟩
  · show ((qu (qu (qu (qu (qu (qu z (21 + 5 * nc + 0) v0) (21 + 5 * nc + 1) v1) (21 + 5 * nc + 2) v2) (21 + 5 * nc + 3) v3) (21 + 5 * nc + 4) v4) 20 ((nc : Int) + 1)) 20).toNat = (z 20).toNat + 1
    rw [qu_s, e20]
    omega
  · have hi : i < (z 20).toNat + 1 := hi
    rw [e20] at hi
    show (qu (qu (qu (qu (qu (qu z (21 + 5 * nc + 0) v0) (21 + 5 * nc + 1) v1) (21 + 5 * nc + 2) v2) (21 + 5 * nc + 3) v3) (21 + 5 * nc + 4) v4) 20 ((nc : Int) + 1)) (21 + 5 * i + f) = (if i = (z 20).toNat then row5 v0 v1 v2 v3 v4 f else zC z f i)
    rw [e20, qu_n _ _ (by omega)]
    by_cases e : i = nc
    · subst e
      rw [if_pos rfl]
      rcases (show f = 0 ∨ f = 1 ∨ f = 2 ∨ f = 3 ∨ f = 4 by omega) with rfl | rfl | rfl | rfl | rfl <;> (repeat' first | rw [qu_s] | rw [qu_n _ _ (by omega)]) <;> rfl
    · rw [if_neg e, qu_n _ _ (by omega), qu_n _ _ (by omega), qu_n _ _ (by omega), qu_n _ _ (by omega), qu_n _ _ (by omega)]
      rfl
  · show ((qu (qu (qu (qu (qu (qu z (21 + 5 * nc + 0) v0) (21 + 5 * nc + 1) v1) (21 + 5 * nc + 2) v2) (21 + 5 * nc + 3) v3) (21 + 5 * nc + 4) v4) 20 ((nc : Int) + 1)) 101).toNat = (z 101).toNat
    rw [far 101 (by omega)]
  · have hi : i < (z 101).toNat := hi
    show row5 _ _ _ _ _ f = row5 _ _ _ _ _ f
    rw [far _ (by omega), far _ (by omega), far _ (by omega)]

set_option maxRecDepth 100000 in
set_option maxHeartbeats 4000000 in
theorem c_X8_add (l : Launch) (D : va_G) (cy : Nat → ClassId) (mo mz msv mtx mmo mif mmg mtn mie mme mrd mas : Nat) (T : LSt) (hz : Nat) (HZ : Nat → LSt) (len : Nat) (tx : Nat → Int) (th : Int) (W : va_W) (hG : gOk T) (hW : MW cy mo mz msv mtx mmo mif mmg mtn mie mme mrd mas T hz HZ len tx th W) (p0 p1 p2 p3 p4 : Int) (h0 : 0 ≤ p0 ∧ p0 ≤ 9) (h1 : p1 = -1 ∨ (0 ≤ p1 ∧ p1 ≤ 9 ∧ p1 ≠ p0)) (h2 : 0 ≤ p2 ∧ p2 ≤ 2) (h3 : -2000 ≤ p3 ∧ p3 ≤ 2000) (h4 : 0 ≤ p4 ∧ p4 ≤ 3) (hn : lN9 T < 16) (sz : Nat) : qMet l yX8_add (.code yX8_add cX8_add 8 (some .int)) 8 [.ref (mo), .int (qI (p0)), .int (qI (p1)), .int (qI (p2)), .int (qI (p3)), .int (qI (p4))] D cy [W] sz (va_Qi (S := va_W) (fun r u => r = qI ((lN9 T : Int)) ∧ MW cy mo mz msv mtx mmo mif mmg mtn mie mme mrd mas (seT (adC T p0 p1 p2 p3 p4)) (min (hz + 1) 8) (pushH T HZ) len tx 0 u) (qB D cy [W] sz (fun u => [u])) (va_A [W].flatten sz)) := by
  refine q_ofMi (S := va_W) (b1 := fun u => [u]) (post := fun r u => r = qI ((lN9 T : Int)) ∧ MW cy mo mz msv mtx mmo mif mmg mtn mie mme mrd mas (seT (adC T p0 p1 p2 p3 p4)) (min (hz + 1) 8) (pushH T HZ) len tx 0 u) (by decide +kernel) (Nat.le_of_ble_eq_true rfl) ?_
  intro p e s m args below meth c Q A hx hb hml hown hg hQ hK hN hD hA H locs ls hP hS hl
  have hown : s.vm.findClass RX8 = some m.cls := hown
  have hl : lv_has ls 8 [(0, .ref (mo)), (1, .int (qI (p0))), (2, .int (qI (p1))), (3, .int (qI (p2))), (4, .int (qI (p3))), (5, .int (qI (p4)))] := hl
  have hW0 := hW
  obtain ⟨tu, fi, ro, sp, it, bl, hh, z, sd, bf, g, isF, mg, tn, isE, mE, rd, as9, rfl, ⟨hL, hz20, hz101⟩, ⟨hhz, hHZ⟩, hln, hbf, htx⟩ := hW
  obtain ⟨gV, gT, gC, gE, gI, gD⟩ := hG.eq hL
  obtain ⟨nc, hnc⟩ : ∃ nc : Nat, z 20 = (nc : Int) := ⟨(z 20).toNat, by omega⟩
  obtain ⟨ne, hne⟩ : ∃ ne : Nat, z 101 = (ne : Int) := ⟨(z 101).toNat, by omega⟩
  have e20 : (z 20).toNat = nc := by omega
  have e101 : (z 101).toNat = ne := by omega
  have hV : qV z := gV
  have hst : ∀ i, i < 10 → 0 ≤ z (10 + i) ∧ z (10 + i) ≤ 9 := gT
  have hc : nc ≤ 16 := e20 ▸ (gC.1 : (z 20).toNat ≤ 16)
  have hC : qWR (zC z) nc := e20 ▸ (gC.2 : qWR (zC z) (z 20).toNat)
  have he : ne ≤ 4 := e101 ▸ (gE.1 : (z 101).toNat ≤ 4)
  have hE : qWR (zE z) ne := e101 ▸ (gE.2 : qWR (zE z) (z 101).toNat)
  have hD9 : ∀ i j, i < ne → j < ne → zE z 0 i = zE z 0 j → i = j := e101 ▸ (gD : ∀ i j, i < (z 101).toNat → j < (z 101).toNat → zE z 0 i = zE z 0 j → i = j)
  have hL2 : LEq (z, (fun i => z (10 + i)), zC z, nc, zE z, ne) T := by rw [← e20, ← e101]; exact hL
  have en : nc = lN9 T := hL2.2.2.1
  have em : ne = lM T := hL2.2.2.2.2.1
  rw [fl_open] at hP hD
  have hP : va_P D vwCl [[(mo, .inr (8, [.int (qI (th)), .ref (mz), .int (qI (((hz : Nat) : Int))), .ref (msv), .int (qI (((len : Nat) : Int))), .ref (mtx), .ref (mmo), .int (qI (tu)), .ref (mif), .ref (mmg), .ref (mtn), .ref (mie), .ref (mme), .int (qz (fi)), .int (qI (ro)), .int (qI (sp)), .int (qI (it)), .int (qz (bl)), .ref (mrd), .ref (mas), .long (hh)]))], [(mz, aI cy 115 (z))], [(msv, aI cy 920 (sd))], [(mtx, aI cy 60 (bf))], [(mmo, aI cy 121 (g))], [(mif, aZ cy 16 (isF))], [(mmg, aI cy 16 (mg))], [(mtn, aI cy 16 (tn))], [(mie, aZ cy 4 (isE))], [(mme, aI cy 4 (mE))], [(mrd, aI cy 100 (rd))], [(mas, aI cy 115 (as9))]].flatten H := hP
  have hD : va_D A [[(mo, .inr (8, [.int (qI (th)), .ref (mz), .int (qI (((hz : Nat) : Int))), .ref (msv), .int (qI (((len : Nat) : Int))), .ref (mtx), .ref (mmo), .int (qI (tu)), .ref (mif), .ref (mmg), .ref (mtn), .ref (mie), .ref (mme), .int (qz (fi)), .int (qI (ro)), .int (qI (sp)), .int (qI (it)), .int (qz (bl)), .ref (mrd), .ref (mas), .long (hh)]))], [(mz, aI cy 115 (z))], [(msv, aI cy 920 (sd))], [(mtx, aI cy 60 (bf))], [(mmo, aI cy 121 (g))], [(mif, aZ cy 16 (isF))], [(mmg, aI cy 16 (mg))], [(mtn, aI cy 16 (tn))], [(mie, aZ cy 4 (isE))], [(mme, aI cy 4 (mE))], [(mrd, aI cy 100 (rd))], [(mas, aI cy 115 (as9))]].flatten := hD
  refine lv_iload_n hx hb dX8_add_0 rfl (lv_at hl 1 rfl) ?_
  refine q_readz (va_runS (As := [.int (qI (p0))]) (rest := []) ⟨hx, hb, hml, hown, hg⟩ (c_X8_isPlace l D cy _ (by omega)) (cs_X8_94 hg rfl rfl ⟨by decide, by decide⟩) ⟨q_blind0, q_preR _ hK hN hP [] rfl⟩ rfl rfl hl.1 rfl (lv_room (Nat.le_of_ble_eq_true rfl)) dX8_add_1 ⟨by decide, by decide⟩) (fun b_1 h_1 => ?_)
  refine q_ifz_eq (tgt := 26) hx hb dX8_add_4 (by decide) (fun c_4 => ?_) (fun c_4 => ?_)
  · skip
    have g_4 := mt (h_1).mpr (by rw [c_4]; decide)
    exfalso; omega
  · skip
    have g_4 := (h_1).mp c_4
    refine lv_iload_n hx hb dX8_add_7 rfl (lv_at hl 2 rfl) ?_
    refine q_iconst hx hb dX8_add_8 ?_
    refine q_bipush hx hb dX8_add_9 (by decide) ?_
    refine q_readz (va_runS (As := [.int (qI (p1)), .int (qI (-1)), .int (qI (9))]) (rest := []) ⟨hx, hb, hml, hown, hg⟩ (c_X8_within l D cy _ _ _ (by omega)) (cs_X8_48 hg rfl rfl ⟨by decide, by decide⟩) ⟨q_blind0, q_preR _ hK hN hP [] rfl⟩ rfl rfl hl.1 rfl (lv_room (Nat.le_of_ble_eq_true rfl)) dX8_add_11 ⟨by decide, by decide⟩) (fun b_11 h_11 => ?_)
    refine q_ifz_eq (tgt := 26) hx hb dX8_add_14 (by decide) (fun c_14 => ?_) (fun c_14 => ?_)
    · skip
      have g_14 := mt (h_11).mpr (by rw [c_14]; decide)
      exfalso; omega
    · skip
      have g_14 := (h_11).mp c_14
      refine lv_iload_n hx hb dX8_add_17 rfl (lv_at hl 1 rfl) ?_
      refine lv_iload_n hx hb dX8_add_18 rfl (lv_at hl 2 rfl) ?_
      refine q_icmp_eq (tgt := 26) hx hb dX8_add_19 (by decide) (by omega) (fun c_19 => ?_) (fun c_19 => ?_)
      · skip
        exfalso; omega
      · skip
        refine q_iconst hx hb dX8_add_22 ?_
        refine lv_goto (tgt := 27) hx hb dX8_add_23 (by decide) ?_
        refine lv_istore (lv' := [(6, .int (qI (1))), (0, .ref (mo)), (1, .int (qI (p0))), (2, .int (qI (p1))), (3, .int (qI (p2))), (4, .int (qI (p3))), (5, .int (qI (p4)))]) hx hb dX8_add_27 hl (by decide) rfl (fun ls hl => ?_)
        refine lv_iload_n hx hb dX8_add_29 rfl (lv_at hl 4 rfl) ?_
        refine q_iconst hx hb dX8_add_30 ?_
        refine q_iconst hx hb dX8_add_31 ?_
        refine q_readz (va_runS (As := [.int (qI (p2)), .int (qI (0)), .int (qI (2))]) (rest := []) ⟨hx, hb, hml, hown, hg⟩ (c_X8_within l D cy _ _ _ (by omega)) (cs_X8_48 hg rfl rfl ⟨by decide, by decide⟩) ⟨q_blind0, q_preR _ hK hN hP [] rfl⟩ rfl rfl hl.1 rfl (lv_room (Nat.le_of_ble_eq_true rfl)) dX8_add_32 ⟨by decide, by decide⟩) (fun b_32 h_32 => ?_)
        refine q_ifz_eq (tgt := 58) hx hb dX8_add_35 (by decide) (fun c_35 => ?_) (fun c_35 => ?_)
        · skip
          have g_35 := mt (h_32).mpr (by rw [c_35]; decide)
          exfalso; omega
        · skip
          have g_35 := (h_32).mp c_35
          refine lv_iload hx hb dX8_add_38 (lv_at hl 5 rfl) ?_
          refine q_readz (va_runS (As := [.int (qI (p3))]) (rest := []) ⟨hx, hb, hml, hown, hg⟩ (c_X8_isNumber l D cy _ (by omega)) (cs_X8_98 hg rfl rfl ⟨by decide, by decide⟩) ⟨q_blind0, q_preR _ hK hN hP [] rfl⟩ rfl rfl hl.1 rfl (lv_room (Nat.le_of_ble_eq_true rfl)) dX8_add_40 ⟨by decide, by decide⟩) (fun b_40 h_40 => ?_)
          refine q_ifz_eq (tgt := 58) hx hb dX8_add_43 (by decide) (fun c_43 => ?_) (fun c_43 => ?_)
          · skip
            have g_43 := mt (h_40).mpr (by rw [c_43]; decide)
            exfalso; omega
          · skip
            have g_43 := (h_40).mp c_43
            refine lv_iload hx hb dX8_add_46 (lv_at hl 6 rfl) ?_
            refine q_readz (va_runS (As := [.int (qI (p4))]) (rest := []) ⟨hx, hb, hml, hown, hg⟩ (c_X8_isStrength l D cy _ (by omega)) (cs_X8_101 hg rfl rfl ⟨by decide, by decide⟩) ⟨q_blind0, q_preR _ hK hN hP [] rfl⟩ rfl rfl hl.1 rfl (lv_room (Nat.le_of_ble_eq_true rfl)) dX8_add_48 ⟨by decide, by decide⟩) (fun b_48 h_48 => ?_)
            refine q_ifz_eq (tgt := 58) hx hb dX8_add_51 (by decide) (fun c_51 => ?_) (fun c_51 => ?_)
            · skip
              have g_51 := mt (h_48).mpr (by rw [c_51]; decide)
              exfalso; omega
            · skip
              have g_51 := (h_48).mp c_51
              refine q_iconst hx hb dX8_add_54 ?_
              refine lv_goto (tgt := 59) hx hb dX8_add_55 (by decide) ?_
              refine lv_istore (lv' := [(7, .int (qI (1))), (6, .int (qI (1))), (0, .ref (mo)), (1, .int (qI (p0))), (2, .int (qI (p1))), (3, .int (qI (p2))), (4, .int (qI (p3))), (5, .int (qI (p4)))]) hx hb dX8_add_59 hl (by decide) rfl (fun ls hl => ?_)
              refine lv_aload_n hx hb dX8_add_61 rfl (lv_at hl 2 rfl) ?_
              refine lv_iload hx hb dX8_add_62 (lv_at hl 1 rfl) ?_
              refine q_if_ne (tgt := 71) hx hb dX8_add_64 (by decide) (by omega) (fun c_64 => ?_) (fun c_64 => ?_)
              · skip
                refine lv_iload hx hb dX8_add_71 (lv_at hl 0 rfl) ?_
                refine q_if_ne (tgt := 80) hx hb dX8_add_73 (by decide) (by omega) (fun c_73 => ?_) (fun c_73 => ?_)
                · skip
                  refine lv_aload_n hx hb dX8_add_80 rfl (lv_at hl 2 rfl) ?_
                  refine gf_X8_7 hx hb hg hown hK (fl_blk hP 0 rfl) 0 rfl rfl dX8_add_81 ?_
                  refine q_bipush hx hb dX8_add_84 (by decide) ?_
                  refine q_iald (j := 20) hx hb hK (fl_blk hP 1 rfl) 0 rfl (by omega) dX8_add_86 ?_
                  refine q_bipush hx hb dX8_add_87 (by decide) ?_
                  refine q_icmp_ne (tgt := 96) hx hb dX8_add_89 (by decide) (by omega) (fun c_89 => ?_) (fun c_89 => ?_)
                  · skip
                    refine q_iconst hx hb dX8_add_96 ?_
                    refine pf_X8_44 hx hb hg hown hK hP hD hS 0 0 rfl rfl rfl rfl (Nat.le_of_ble_eq_true rfl) dX8_add_97 (fun H locs hP hD hS => ?_)
                    have hP : va_P D vwCl [[(mo, .inr (8, [.int (qI (0)), .ref (mz), .int (qI (((hz : Nat) : Int))), .ref (msv), .int (qI (((len : Nat) : Int))), .ref (mtx), .ref (mmo), .int (qI (tu)), .ref (mif), .ref (mmg), .ref (mtn), .ref (mie), .ref (mme), .int (qz (fi)), .int (qI (ro)), .int (qI (sp)), .int (qI (it)), .int (qz (bl)), .ref (mrd), .ref (mas), .long (hh)]))], [(mz, aI cy 115 (z))], [(msv, aI cy 920 (sd))], [(mtx, aI cy 60 (bf))], [(mmo, aI cy 121 (g))], [(mif, aZ cy 16 (isF))], [(mmg, aI cy 16 (mg))], [(mtn, aI cy 16 (tn))], [(mie, aZ cy 4 (isE))], [(mme, aI cy 4 (mE))], [(mrd, aI cy 100 (rd))], [(mas, aI cy 115 (as9))]].flatten H := hP
                    have hD : va_D A [[(mo, .inr (8, [.int (qI (0)), .ref (mz), .int (qI (((hz : Nat) : Int))), .ref (msv), .int (qI (((len : Nat) : Int))), .ref (mtx), .ref (mmo), .int (qI (tu)), .ref (mif), .ref (mmg), .ref (mtn), .ref (mie), .ref (mme), .int (qz (fi)), .int (qI (ro)), .int (qI (sp)), .int (qI (it)), .int (qz (bl)), .ref (mrd), .ref (mas), .long (hh)]))], [(mz, aI cy 115 (z))], [(msv, aI cy 920 (sd))], [(mtx, aI cy 60 (bf))], [(mmo, aI cy 121 (g))], [(mif, aZ cy 16 (isF))], [(mmg, aI cy 16 (mg))], [(mtn, aI cy 16 (tn))], [(mie, aZ cy 4 (isE))], [(mme, aI cy 4 (mE))], [(mrd, aI cy 100 (rd))], [(mas, aI cy 115 (as9))]].flatten := hD
                    refine lv_aload_n hx hb dX8_add_100 rfl (lv_at hl 2 rfl) ?_
                    refine gf_X8_44 hx hb hg hown hK (fl_blk hP 0 rfl) 0 rfl rfl dX8_add_101 ?_
                    refine q_if_le (tgt := 109) hx hb dX8_add_104 (by decide) (by omega) (fun c_104 => ?_) (fun c_104 => ?_)
                    · skip
                      refine lv_aload_n hx hb dX8_add_109 rfl (lv_at hl 2 rfl) ?_
                      refine q_backv [0, 1, 2] [3, 4, 5, 6, 7, 8, 9, 10, 11] (br := [[(mtx, aI cy 60 (bf))], [(mmo, aI cy 121 (g))], [(mif, aZ cy 16 (isF))], [(mmg, aI cy 16 (mg))], [(mtn, aI cy 16 (tn))], [(mie, aZ cy 4 (isE))], [(mme, aI cy 4 (mE))], [(mrd, aI cy 100 (rd))], [(mas, aI cy 115 (as9))]]) hP hD hS hA (va_runV (As := []) (rest := []) ⟨hx, hb, hml, hown, hg⟩ (c_X8_save l D cy mo mz msv mtx mmo mif mmg mtn mie mme mrd mas (0) (((len : Nat) : Int)) (tu) (fi) (ro) (sp) (it) (bl) (hh) hz (z) (sd) hhz _) (cv_X8_104 hg rfl rfl ⟨by decide, by decide⟩) ⟨q_blind, va_recv hK (fl_blk hP 0 rfl) (ci := 8) (q0 := 0) rfl rfl, q_preM _ hK hN hP hD [0, 1, 2] (by decide) rfl⟩ rfl rfl hl.1 rfl (lv_room (Nat.le_of_ble_eq_true rfl)) dX8_add_110 ⟨by decide, by decide⟩) rfl rfl (by decide) (fun u_110 H locs h_110 hP hD hS => ?_)
                      have hP : va_P D vwCl [[(mtx, aI cy 60 (bf))], [(mmo, aI cy 121 (g))], [(mif, aZ cy 16 (isF))], [(mmg, aI cy 16 (mg))], [(mtn, aI cy 16 (tn))], [(mie, aZ cy 4 (isE))], [(mme, aI cy 4 (mE))], [(mrd, aI cy 100 (rd))], [(mas, aI cy 115 (as9))], [(mo, .inr (8, [.int (qI (0)), .ref (mz), .int (qI (((min (hz + 1) 8 : Nat) : Int))), .ref (msv), .int (qI (((len : Nat) : Int))), .ref (mtx), .ref (mmo), .int (qI (tu)), .ref (mif), .ref (mmg), .ref (mtn), .ref (mie), .ref (mme), .int (qz (fi)), .int (qI (ro)), .int (qI (sp)), .int (qI (it)), .int (qz (bl)), .ref (mrd), .ref (mas), .long (hh)]))], [(mz, aI cy 115 (z))], [(msv, aI cy 920 (u_110))]].flatten H := hP
                      have hD : va_D A [[(mtx, aI cy 60 (bf))], [(mmo, aI cy 121 (g))], [(mif, aZ cy 16 (isF))], [(mmg, aI cy 16 (mg))], [(mtn, aI cy 16 (tn))], [(mie, aZ cy 4 (isE))], [(mme, aI cy 4 (mE))], [(mrd, aI cy 100 (rd))], [(mas, aI cy 115 (as9))], [(mo, .inr (8, [.int (qI (0)), .ref (mz), .int (qI (((min (hz + 1) 8 : Nat) : Int))), .ref (msv), .int (qI (((len : Nat) : Int))), .ref (mtx), .ref (mmo), .int (qI (tu)), .ref (mif), .ref (mmg), .ref (mtn), .ref (mie), .ref (mme), .int (qz (fi)), .int (qI (ro)), .int (qI (sp)), .int (qI (it)), .int (qz (bl)), .ref (mrd), .ref (mas), .long (hh)]))], [(mz, aI cy 115 (z))], [(msv, aI cy 920 (u_110))]].flatten := hD
                      refine lv_aload_n hx hb dX8_add_113 rfl (lv_at hl 2 rfl) ?_
                      refine lv_iload_n hx hb dX8_add_114 rfl (lv_at hl 3 rfl) ?_
                      refine lv_iload_n hx hb dX8_add_115 rfl (lv_at hl 4 rfl) ?_
                      refine lv_iload_n hx hb dX8_add_116 rfl (lv_at hl 5 rfl) ?_
                      refine lv_iload hx hb dX8_add_117 (lv_at hl 6 rfl) ?_
                      refine lv_iload hx hb dX8_add_119 (lv_at hl 7 rfl) ?_
                      refine q_backv [9, 10] [0, 1, 2, 3, 4, 5, 6, 7, 8, 11] (br := [[(mtx, aI cy 60 (bf))], [(mmo, aI cy 121 (g))], [(mif, aZ cy 16 (isF))], [(mmg, aI cy 16 (mg))], [(mtn, aI cy 16 (tn))], [(mie, aZ cy 4 (isE))], [(mme, aI cy 4 (mE))], [(mrd, aI cy 100 (rd))], [(mas, aI cy 115 (as9))], [(msv, aI cy 920 (u_110))]]) hP hD hS hA (va_runV (As := [.int (qI (p0)), .int (qI (p1)), .int (qI (p2)), .int (qI (p3)), .int (qI (p4))]) (rest := []) ⟨hx, hb, hml, hown, hg⟩ (c_X8_lay l D cy mo mz msv mtx mmo mif mmg mtn mie mme mrd mas (0) (((min (hz + 1) 8 : Nat) : Int)) (((len : Nat) : Int)) (tu) (fi) (ro) (sp) (it) (bl) (hh) (z) nc hnc (by omega) _ _ _ _ _ _) (cv_X8_107 hg rfl rfl ⟨by decide, by decide⟩) ⟨q_blind, va_recv hK (fl_blk hP 9 rfl) (ci := 8) (q0 := 0) rfl rfl, q_preM _ hK hN hP hD [9, 10] (by decide) rfl⟩ rfl rfl hl.1 rfl (lv_room (Nat.le_of_ble_eq_true rfl)) dX8_add_121 ⟨by decide, by decide⟩) rfl rfl (by decide) (fun u_121 H locs h_121 hP hD hS => ?_)
                      have hP : va_P D vwCl [[(mtx, aI cy 60 (bf))], [(mmo, aI cy 121 (g))], [(mif, aZ cy 16 (isF))], [(mmg, aI cy 16 (mg))], [(mtn, aI cy 16 (tn))], [(mie, aZ cy 4 (isE))], [(mme, aI cy 4 (mE))], [(mrd, aI cy 100 (rd))], [(mas, aI cy 115 (as9))], [(msv, aI cy 920 (u_110))], [(mo, .inr (8, [.int (qI (0)), .ref (mz), .int (qI (((min (hz + 1) 8 : Nat) : Int))), .ref (msv), .int (qI (((len : Nat) : Int))), .ref (mtx), .ref (mmo), .int (qI (tu)), .ref (mif), .ref (mmg), .ref (mtn), .ref (mie), .ref (mme), .int (qz (fi)), .int (qI (ro)), .int (qI (sp)), .int (qI (it)), .int (qz (bl)), .ref (mrd), .ref (mas), .long (hh)]))], [(mz, aI cy 115 (u_121))]].flatten H := hP
                      have hD : va_D A [[(mtx, aI cy 60 (bf))], [(mmo, aI cy 121 (g))], [(mif, aZ cy 16 (isF))], [(mmg, aI cy 16 (mg))], [(mtn, aI cy 16 (tn))], [(mie, aZ cy 4 (isE))], [(mme, aI cy 4 (mE))], [(mrd, aI cy 100 (rd))], [(mas, aI cy 115 (as9))], [(msv, aI cy 920 (u_110))], [(mo, .inr (8, [.int (qI (0)), .ref (mz), .int (qI (((min (hz + 1) 8 : Nat) : Int))), .ref (msv), .int (qI (((len : Nat) : Int))), .ref (mtx), .ref (mmo), .int (qI (tu)), .ref (mif), .ref (mmg), .ref (mtn), .ref (mie), .ref (mme), .int (qz (fi)), .int (qI (ro)), .int (qI (sp)), .int (qI (it)), .int (qz (bl)), .ref (mrd), .ref (mas), .long (hh)]))], [(mz, aI cy 115 (u_121))]].flatten := hD
                      have hu9 : u_121 = qu (qu (qu (qu (qu (qu z (21 + 5 * nc + 0) p0) (21 + 5 * nc + 1) p1) (21 + 5 * nc + 2) p2) (21 + 5 * nc + 3) p3) (21 + 5 * nc + 4) p4) 20 ((nc : Int) + 1) := h_121
                      have hS0 : LEq (zS (u_121)) (adC T p0 p1 p2 p3 p4) := by rw [hu9]; exact LEq.tr (lay_at (by omega) hnc) (adC_eq hL p0 p1 p2 p3 p4)
                      have gS0 := (adC_ok hG hn (by omega)).eq hS0
                      obtain ⟨n0, hn0⟩ : ∃ n0 : Nat, (u_121) 20 = (n0 : Int) := ⟨((u_121) 20).toNat, by have q := (show u_121 20 = (nc : Int) + 1 by rw [hu9, qu_s]); omega⟩
                      obtain ⟨m0, hm0⟩ : ∃ m0 : Nat, (u_121) 101 = (m0 : Int) := ⟨((u_121) 101).toNat, by have q := (show u_121 101 = z 101 by rw [hu9]; (repeat' rw [qu_n _ _ (by omega)])); omega⟩
                      have n20 : ((u_121) 20).toNat = n0 := by omega
                      have n101 : ((u_121) 101).toNat = m0 := by omega
                      have hV0 : qV (u_121) := gS0.1
                      have hst0 : ∀ i, i < 10 → 0 ≤ (u_121) (10 + i) ∧ (u_121) (10 + i) ≤ 9 := gS0.2.1
                      have hc0 : n0 ≤ 16 := n20 ▸ (gS0.2.2.1.1 : ((u_121) 20).toNat ≤ 16)
                      have hC0 : qWR (zC (u_121)) n0 := n20 ▸ (gS0.2.2.1.2 : qWR (zC (u_121)) ((u_121) 20).toNat)
                      have he0 : m0 ≤ 4 := n101 ▸ (gS0.2.2.2.1.1 : ((u_121) 101).toNat ≤ 4)
                      have hE0 : qWR (zE (u_121)) m0 := n101 ▸ (gS0.2.2.2.1.2 : qWR (zE (u_121)) ((u_121) 101).toNat)
                      refine lv_aload_n hx hb dX8_add_124 rfl (lv_at hl 2 rfl) ?_
                      refine q_backv [10, 11, 1, 2, 3, 4, 5, 6] [0, 7, 8, 9] (br := [[(mtx, aI cy 60 (bf))], [(mrd, aI cy 100 (rd))], [(mas, aI cy 115 (as9))], [(msv, aI cy 920 (u_110))]]) hP hD hS hA (va_runV (As := []) (rest := []) ⟨hx, hb, hml, hown, hg⟩ (c_X8_settle l D cy mo mz msv mtx mmo mif mmg mtn mie mme mrd mas (0) (((min (hz + 1) 8 : Nat) : Int)) (((len : Nat) : Int)) (tu) (fi) (ro) (sp) (it) (bl) (hh) (u_121) n0 m0 (g) (isF) (mg) (tn) (isE) (mE) hn0 hm0 hc0 he0 hC0 hE0 hV0 hst0 _) (cv_X8_111 hg rfl rfl ⟨by decide, by decide⟩) ⟨q_blind, va_recv hK (fl_blk hP 10 rfl) (ci := 8) (q0 := 0) rfl rfl, q_preM _ hK hN hP hD [10, 11, 1, 2, 3, 4, 5, 6] (by decide) rfl⟩ rfl rfl hl.1 rfl (lv_room (Nat.le_of_ble_eq_true rfl)) dX8_add_125 ⟨by decide, by decide⟩) rfl rfl (by decide) (fun u_125 H locs h_125 hP hD hS => ?_)
                      have hP : va_P D vwCl [[(mtx, aI cy 60 (bf))], [(mrd, aI cy 100 (rd))], [(mas, aI cy 115 (as9))], [(msv, aI cy 920 (u_110))], [(mo, .inr (8, [.int (qI (0)), .ref (mz), .int (qI (((min (hz + 1) 8 : Nat) : Int))), .ref (msv), .int (qI (((len : Nat) : Int))), .ref (mtx), .ref (mmo), .int (qI (u_125.2.2.2.1)), .ref (mif), .ref (mmg), .ref (mtn), .ref (mie), .ref (mme), .int (qz (u_125.2.2.2.2.2.2.2.2.2.1)), .int (qI (u_125.2.2.2.2.2.2.2.2.2.2)), .int (qI (sp)), .int (qI (it)), .int (qz (bl)), .ref (mrd), .ref (mas), .long (hh)]))], [(mz, aI cy 115 (u_125.1))], [(mmo, aI cy 121 (u_125.2.1))], [(mif, aZ cy 16 (u_125.2.2.2.2.1))], [(mmg, aI cy 16 (u_125.2.2.2.2.2.1))], [(mtn, aI cy 16 (u_125.2.2.2.2.2.2.1))], [(mie, aZ cy 4 (u_125.2.2.2.2.2.2.2.1))], [(mme, aI cy 4 (u_125.2.2.2.2.2.2.2.2.1))]].flatten H := hP
                      have hD : va_D A [[(mtx, aI cy 60 (bf))], [(mrd, aI cy 100 (rd))], [(mas, aI cy 115 (as9))], [(msv, aI cy 920 (u_110))], [(mo, .inr (8, [.int (qI (0)), .ref (mz), .int (qI (((min (hz + 1) 8 : Nat) : Int))), .ref (msv), .int (qI (((len : Nat) : Int))), .ref (mtx), .ref (mmo), .int (qI (u_125.2.2.2.1)), .ref (mif), .ref (mmg), .ref (mtn), .ref (mie), .ref (mme), .int (qz (u_125.2.2.2.2.2.2.2.2.2.1)), .int (qI (u_125.2.2.2.2.2.2.2.2.2.2)), .int (qI (sp)), .int (qI (it)), .int (qz (bl)), .ref (mrd), .ref (mas), .long (hh)]))], [(mz, aI cy 115 (u_125.1))], [(mmo, aI cy 121 (u_125.2.1))], [(mif, aZ cy 16 (u_125.2.2.2.2.1))], [(mmg, aI cy 16 (u_125.2.2.2.2.2.1))], [(mtn, aI cy 16 (u_125.2.2.2.2.2.2.1))], [(mie, aZ cy 4 (u_125.2.2.2.2.2.2.2.1))], [(mme, aI cy 4 (u_125.2.2.2.2.2.2.2.2.1))]].flatten := hD
                      refine lv_aload_n hx hb dX8_add_128 rfl (lv_at hl 2 rfl) ?_
                      refine gf_X8_7 hx hb hg hown hK (fl_blk hP 4 rfl) 0 rfl rfl dX8_add_129 ?_
                      refine q_bipush hx hb dX8_add_132 (by decide) ?_
                      refine q_iald (j := 20) hx hb hK (fl_blk hP 5 rfl) 0 rfl (by omega) dX8_add_134 ?_
                      refine q_iconst hx hb dX8_add_135 ?_
                      refine q_isub hx hb dX8_add_136 ?_
                      have hP := fl_sub (bs' := [[(mo, .inr (8, [.int (qI (0)), .ref (mz), .int (qI (((min (hz + 1) 8 : Nat) : Int))), .ref (msv), .int (qI (((len : Nat) : Int))), .ref (mtx), .ref (mmo), .int (qI (u_125.2.2.2.1)), .ref (mif), .ref (mmg), .ref (mtn), .ref (mie), .ref (mme), .int (qz (u_125.2.2.2.2.2.2.2.2.2.1)), .int (qI (u_125.2.2.2.2.2.2.2.2.2.2)), .int (qI (sp)), .int (qI (it)), .int (qz (bl)), .ref (mrd), .ref (mas), .long (hh)]))], [(mz, aI cy 115 (u_125.1))], [(msv, aI cy 920 (u_110))], [(mtx, aI cy 60 (bf))], [(mmo, aI cy 121 (u_125.2.1))], [(mif, aZ cy 16 (u_125.2.2.2.2.1))], [(mmg, aI cy 16 (u_125.2.2.2.2.2.1))], [(mtn, aI cy 16 (u_125.2.2.2.2.2.2.1))], [(mie, aZ cy 4 (u_125.2.2.2.2.2.2.2.1))], [(mme, aI cy 4 (u_125.2.2.2.2.2.2.2.2.1))], [(mrd, aI cy 100 (rd))], [(mas, aI cy 115 (as9))]]) hP [4, 5, 3, 0, 6, 7, 8, 9, 10, 11, 1, 2] rfl
                      have hD := fl_subD (bs' := [[(mo, .inr (8, [.int (qI (0)), .ref (mz), .int (qI (((min (hz + 1) 8 : Nat) : Int))), .ref (msv), .int (qI (((len : Nat) : Int))), .ref (mtx), .ref (mmo), .int (qI (u_125.2.2.2.1)), .ref (mif), .ref (mmg), .ref (mtn), .ref (mie), .ref (mme), .int (qz (u_125.2.2.2.2.2.2.2.2.2.1)), .int (qI (u_125.2.2.2.2.2.2.2.2.2.2)), .int (qI (sp)), .int (qI (it)), .int (qz (bl)), .ref (mrd), .ref (mas), .long (hh)]))], [(mz, aI cy 115 (u_125.1))], [(msv, aI cy 920 (u_110))], [(mtx, aI cy 60 (bf))], [(mmo, aI cy 121 (u_125.2.1))], [(mif, aZ cy 16 (u_125.2.2.2.2.1))], [(mmg, aI cy 16 (u_125.2.2.2.2.2.1))], [(mtn, aI cy 16 (u_125.2.2.2.2.2.2.1))], [(mie, aZ cy 4 (u_125.2.2.2.2.2.2.2.1))], [(mme, aI cy 4 (u_125.2.2.2.2.2.2.2.2.1))], [(mrd, aI cy 100 (rd))], [(mas, aI cy 115 (as9))]]) hD [4, 5, 3, 0, 6, 7, 8, 9, 10, 11, 1, 2] (by decide) rfl
                      have hP : va_P D vwCl [(mdB cy mo mz msv mtx mmo mif mmg mtn mie mme mrd mas (0) ((min (hz + 1) 8)) (len) (u_125.2.2.2.1) (u_125.2.2.2.2.2.2.2.2.2.1) (u_125.2.2.2.2.2.2.2.2.2.2) (sp) (it) (bl) (hh) (u_125.1) (u_110) (bf) (u_125.2.1) (u_125.2.2.2.2.1) (u_125.2.2.2.2.2.1) (u_125.2.2.2.2.2.2.1) (u_125.2.2.2.2.2.2.2.1) (u_125.2.2.2.2.2.2.2.2.1) (rd) (as9)).flatten].flatten H := by rw [fl_open]; exact hP
                      have hD : va_D A [(mdB cy mo mz msv mtx mmo mif mmg mtn mie mme mrd mas (0) ((min (hz + 1) 8)) (len) (u_125.2.2.2.1) (u_125.2.2.2.2.2.2.2.2.2.1) (u_125.2.2.2.2.2.2.2.2.2.2) (sp) (it) (bl) (hh) (u_125.1) (u_110) (bf) (u_125.2.1) (u_125.2.2.2.2.1) (u_125.2.2.2.2.2.1) (u_125.2.2.2.2.2.2.1) (u_125.2.2.2.2.2.2.2.1) (u_125.2.2.2.2.2.2.2.2.1) (rd) (as9)).flatten].flatten := by rw [fl_open]; exact hD
                      exact hQ _ _ _ _ _ ((mdB cy mo mz msv mtx mmo mif mmg mtn mie mme mrd mas (0) ((min (hz + 1) 8)) (len) (u_125.2.2.2.1) (u_125.2.2.2.2.2.2.2.2.2.1) (u_125.2.2.2.2.2.2.2.2.2.2) (sp) (it) (bl) (hh) (u_125.1) (u_110) (bf) (u_125.2.1) (u_125.2.2.2.2.1) (u_125.2.2.2.2.2.1) (u_125.2.2.2.2.2.2.1) (u_125.2.2.2.2.2.2.2.1) (u_125.2.2.2.2.2.2.2.2.1) (rd) (as9)).flatten) ⟨by rw [h_125.1]; rw [show setv u_121 (fun i => u_121 (10 + i)) (zC u_121) n0 (zE u_121) m0 20 = u_121 20 from seS_far (by decide) 10, hu9, qu_s, ← en]; congr 1; omega, ⟨(u_125.2.2.2.1), (u_125.2.2.2.2.2.2.2.2.2.1), (u_125.2.2.2.2.2.2.2.2.2.2), (sp), (it), (bl), (hh), (u_125.1), (u_110), (bf), (u_125.2.1), (u_125.2.2.2.2.1), (u_125.2.2.2.2.2.1), (u_125.2.2.2.2.2.2.1), (u_125.2.2.2.2.2.2.2.1), (u_125.2.2.2.2.2.2.2.2.1), (rd), (as9), rfl, mset_fin hS0 n20 n101 hn0 hm0 hc0 he0 h_125.1, ⟨by omega, mh_push hhz h_110 ⟨hL, hz20, hz101, by omega, by omega⟩ hHZ⟩, hln, hbf, htx⟩⟩ hP hD hS dX8_add_137
                    · skip
                      exact absurd c_104 (by decide)
                  · skip
                    exfalso; omega
                · skip
                  exact absurd c_73 (by decide)
              · skip
                exact absurd c_64 (by decide)

set_option maxRecDepth 100000 in
set_option maxHeartbeats 4000000 in
theorem c_X8_add_no1 (l : Launch) (D : va_G) (cy : Nat → ClassId) (mo mz msv mtx mmo mif mmg mtn mie mme mrd mas : Nat) (T : LSt) (hz : Nat) (HZ : Nat → LSt) (len : Nat) (tx : Nat → Int) (th : Int) (W : va_W) (hG : gOk T) (hW : MW cy mo mz msv mtx mmo mif mmg mtn mie mme mrd mas T hz HZ len tx th W) (p0 p1 p2 p3 p4 : Int) (r0 : (-2147483648 ≤ p0 ∧ p0 < 2147483648)) (r1 : (-2147483648 ≤ p1 ∧ p1 < 2147483648)) (r2 : (-2147483648 ≤ p2 ∧ p2 < 2147483648)) (r3 : (-2147483648 ≤ p3 ∧ p3 < 2147483648)) (r4 : (-2147483648 ≤ p4 ∧ p4 < 2147483648)) (hx : ¬ ((0 ≤ p0 ∧ p0 ≤ 9) ∧ (p1 = -1 ∨ (0 ≤ p1 ∧ p1 ≤ 9 ∧ p1 ≠ p0)))) (sz : Nat) : qMet l yX8_add (.code yX8_add cX8_add 8 (some .int)) 8 [.ref (mo), .int (qI (p0)), .int (qI (p1)), .int (qI (p2)), .int (qI (p3)), .int (qI (p4))] D cy [W] sz (va_Qi (S := va_W) (fun r u => MW cy mo mz msv mtx mmo mif mmg mtn mie mme mrd mas T hz HZ len tx 1 u) (qB D cy [W] sz (fun u => [u])) (va_A [W].flatten sz)) := by
  refine q_ofMi (S := va_W) (b1 := fun u => [u]) (post := fun r u => MW cy mo mz msv mtx mmo mif mmg mtn mie mme mrd mas T hz HZ len tx 1 u) (by decide +kernel) (Nat.le_of_ble_eq_true rfl) ?_
  intro p e s m args below meth c Q A hx hb hml hown hg hQ hK hN hD hA H locs ls hP hS hl
  have hown : s.vm.findClass RX8 = some m.cls := hown
  have hl : lv_has ls 8 [(0, .ref (mo)), (1, .int (qI (p0))), (2, .int (qI (p1))), (3, .int (qI (p2))), (4, .int (qI (p3))), (5, .int (qI (p4)))] := hl
  have hW0 := hW
  obtain ⟨tu, fi, ro, sp, it, bl, hh, z, sd, bf, g, isF, mg, tn, isE, mE, rd, as9, rfl, ⟨hL, hz20, hz101⟩, ⟨hhz, hHZ⟩, hln, hbf, htx⟩ := hW
  obtain ⟨gV, gT, gC, gE, gI, gD⟩ := hG.eq hL
  obtain ⟨nc, hnc⟩ : ∃ nc : Nat, z 20 = (nc : Int) := ⟨(z 20).toNat, by omega⟩
  obtain ⟨ne, hne⟩ : ∃ ne : Nat, z 101 = (ne : Int) := ⟨(z 101).toNat, by omega⟩
  have e20 : (z 20).toNat = nc := by omega
  have e101 : (z 101).toNat = ne := by omega
  have hV : qV z := gV
  have hst : ∀ i, i < 10 → 0 ≤ z (10 + i) ∧ z (10 + i) ≤ 9 := gT
  have hc : nc ≤ 16 := e20 ▸ (gC.1 : (z 20).toNat ≤ 16)
  have hC : qWR (zC z) nc := e20 ▸ (gC.2 : qWR (zC z) (z 20).toNat)
  have he : ne ≤ 4 := e101 ▸ (gE.1 : (z 101).toNat ≤ 4)
  have hE : qWR (zE z) ne := e101 ▸ (gE.2 : qWR (zE z) (z 101).toNat)
  have hD9 : ∀ i j, i < ne → j < ne → zE z 0 i = zE z 0 j → i = j := e101 ▸ (gD : ∀ i j, i < (z 101).toNat → j < (z 101).toNat → zE z 0 i = zE z 0 j → i = j)
  have hL2 : LEq (z, (fun i => z (10 + i)), zC z, nc, zE z, ne) T := by rw [← e20, ← e101]; exact hL
  have en : nc = lN9 T := hL2.2.2.1
  have em : ne = lM T := hL2.2.2.2.2.1
  rw [fl_open] at hP hD
  have hP : va_P D vwCl [[(mo, .inr (8, [.int (qI (th)), .ref (mz), .int (qI (((hz : Nat) : Int))), .ref (msv), .int (qI (((len : Nat) : Int))), .ref (mtx), .ref (mmo), .int (qI (tu)), .ref (mif), .ref (mmg), .ref (mtn), .ref (mie), .ref (mme), .int (qz (fi)), .int (qI (ro)), .int (qI (sp)), .int (qI (it)), .int (qz (bl)), .ref (mrd), .ref (mas), .long (hh)]))], [(mz, aI cy 115 (z))], [(msv, aI cy 920 (sd))], [(mtx, aI cy 60 (bf))], [(mmo, aI cy 121 (g))], [(mif, aZ cy 16 (isF))], [(mmg, aI cy 16 (mg))], [(mtn, aI cy 16 (tn))], [(mie, aZ cy 4 (isE))], [(mme, aI cy 4 (mE))], [(mrd, aI cy 100 (rd))], [(mas, aI cy 115 (as9))]].flatten H := hP
  have hD : va_D A [[(mo, .inr (8, [.int (qI (th)), .ref (mz), .int (qI (((hz : Nat) : Int))), .ref (msv), .int (qI (((len : Nat) : Int))), .ref (mtx), .ref (mmo), .int (qI (tu)), .ref (mif), .ref (mmg), .ref (mtn), .ref (mie), .ref (mme), .int (qz (fi)), .int (qI (ro)), .int (qI (sp)), .int (qI (it)), .int (qz (bl)), .ref (mrd), .ref (mas), .long (hh)]))], [(mz, aI cy 115 (z))], [(msv, aI cy 920 (sd))], [(mtx, aI cy 60 (bf))], [(mmo, aI cy 121 (g))], [(mif, aZ cy 16 (isF))], [(mmg, aI cy 16 (mg))], [(mtn, aI cy 16 (tn))], [(mie, aZ cy 4 (isE))], [(mme, aI cy 4 (mE))], [(mrd, aI cy 100 (rd))], [(mas, aI cy 115 (as9))]].flatten := hD
  refine lv_iload_n hx hb dX8_add_0 rfl (lv_at hl 1 rfl) ?_
  refine q_readz (va_runS (As := [.int (qI (p0))]) (rest := []) ⟨hx, hb, hml, hown, hg⟩ (c_X8_isPlace l D cy _ (by omega)) (cs_X8_94 hg rfl rfl ⟨by decide, by decide⟩) ⟨q_blind0, q_preR _ hK hN hP [] rfl⟩ rfl rfl hl.1 rfl (lv_room (Nat.le_of_ble_eq_true rfl)) dX8_add_1 ⟨by decide, by decide⟩) (fun b_1 h_1 => ?_)
  refine q_ifz_eq (tgt := 26) hx hb dX8_add_4 (by decide) (fun c_4 => ?_) (fun c_4 => ?_)
  · skip
    have g_4 := mt (h_1).mpr (by rw [c_4]; decide)
    refine q_iconst hx hb dX8_add_26 ?_
    refine lv_istore (lv' := [(6, .int (qI (0))), (0, .ref (mo)), (1, .int (qI (p0))), (2, .int (qI (p1))), (3, .int (qI (p2))), (4, .int (qI (p3))), (5, .int (qI (p4)))]) hx hb dX8_add_27 hl (by decide) rfl (fun ls hl => ?_)
    refine lv_iload_n hx hb dX8_add_29 rfl (lv_at hl 4 rfl) ?_
    refine q_iconst hx hb dX8_add_30 ?_
    refine q_iconst hx hb dX8_add_31 ?_
    refine q_readz (va_runS (As := [.int (qI (p2)), .int (qI (0)), .int (qI (2))]) (rest := []) ⟨hx, hb, hml, hown, hg⟩ (c_X8_within l D cy _ _ _ (by omega)) (cs_X8_48 hg rfl rfl ⟨by decide, by decide⟩) ⟨q_blind0, q_preR _ hK hN hP [] rfl⟩ rfl rfl hl.1 rfl (lv_room (Nat.le_of_ble_eq_true rfl)) dX8_add_32 ⟨by decide, by decide⟩) (fun b_32 h_32 => ?_)
    refine q_ifz_eq (tgt := 58) hx hb dX8_add_35 (by decide) (fun c_35 => ?_) (fun c_35 => ?_)
    · skip
      have g_35 := mt (h_32).mpr (by rw [c_35]; decide)
      refine q_iconst hx hb dX8_add_58 ?_
      refine lv_istore (lv' := [(7, .int (qI (0))), (6, .int (qI (0))), (0, .ref (mo)), (1, .int (qI (p0))), (2, .int (qI (p1))), (3, .int (qI (p2))), (4, .int (qI (p3))), (5, .int (qI (p4)))]) hx hb dX8_add_59 hl (by decide) rfl (fun ls hl => ?_)
      refine lv_aload_n hx hb dX8_add_61 rfl (lv_at hl 2 rfl) ?_
      refine lv_iload hx hb dX8_add_62 (lv_at hl 1 rfl) ?_
      refine q_if_ne (tgt := 71) hx hb dX8_add_64 (by decide) (by omega) (fun c_64 => ?_) (fun c_64 => ?_)
      · skip
        exact absurd c_64 (by decide)
      · skip
        refine q_iconst hx hb dX8_add_67 ?_
        refine lv_goto (tgt := 97) hx hb dX8_add_68 (by decide) ?_
        refine pf_X8_44 hx hb hg hown hK hP hD hS 0 0 rfl rfl rfl rfl (Nat.le_of_ble_eq_true rfl) dX8_add_97 (fun H locs hP hD hS => ?_)
        have hP : va_P D vwCl [[(mo, .inr (8, [.int (qI (1)), .ref (mz), .int (qI (((hz : Nat) : Int))), .ref (msv), .int (qI (((len : Nat) : Int))), .ref (mtx), .ref (mmo), .int (qI (tu)), .ref (mif), .ref (mmg), .ref (mtn), .ref (mie), .ref (mme), .int (qz (fi)), .int (qI (ro)), .int (qI (sp)), .int (qI (it)), .int (qz (bl)), .ref (mrd), .ref (mas), .long (hh)]))], [(mz, aI cy 115 (z))], [(msv, aI cy 920 (sd))], [(mtx, aI cy 60 (bf))], [(mmo, aI cy 121 (g))], [(mif, aZ cy 16 (isF))], [(mmg, aI cy 16 (mg))], [(mtn, aI cy 16 (tn))], [(mie, aZ cy 4 (isE))], [(mme, aI cy 4 (mE))], [(mrd, aI cy 100 (rd))], [(mas, aI cy 115 (as9))]].flatten H := hP
        have hD : va_D A [[(mo, .inr (8, [.int (qI (1)), .ref (mz), .int (qI (((hz : Nat) : Int))), .ref (msv), .int (qI (((len : Nat) : Int))), .ref (mtx), .ref (mmo), .int (qI (tu)), .ref (mif), .ref (mmg), .ref (mtn), .ref (mie), .ref (mme), .int (qz (fi)), .int (qI (ro)), .int (qI (sp)), .int (qI (it)), .int (qz (bl)), .ref (mrd), .ref (mas), .long (hh)]))], [(mz, aI cy 115 (z))], [(msv, aI cy 920 (sd))], [(mtx, aI cy 60 (bf))], [(mmo, aI cy 121 (g))], [(mif, aZ cy 16 (isF))], [(mmg, aI cy 16 (mg))], [(mtn, aI cy 16 (tn))], [(mie, aZ cy 4 (isE))], [(mme, aI cy 4 (mE))], [(mrd, aI cy 100 (rd))], [(mas, aI cy 115 (as9))]].flatten := hD
        refine lv_aload_n hx hb dX8_add_100 rfl (lv_at hl 2 rfl) ?_
        refine gf_X8_44 hx hb hg hown hK (fl_blk hP 0 rfl) 0 rfl rfl dX8_add_101 ?_
        refine q_if_le (tgt := 109) hx hb dX8_add_104 (by decide) (by omega) (fun c_104 => ?_) (fun c_104 => ?_)
        · skip
          exact absurd c_104 (by decide)
        · skip
          refine q_iconst hx hb dX8_add_107 ?_
          have hP : va_P D vwCl [(mdB cy mo mz msv mtx mmo mif mmg mtn mie mme mrd mas (1) (hz) (len) (tu) (fi) (ro) (sp) (it) (bl) (hh) (z) (sd) (bf) (g) (isF) (mg) (tn) (isE) (mE) (rd) (as9)).flatten].flatten H := by rw [fl_open]; exact hP
          have hD : va_D A [(mdB cy mo mz msv mtx mmo mif mmg mtn mie mme mrd mas (1) (hz) (len) (tu) (fi) (ro) (sp) (it) (bl) (hh) (z) (sd) (bf) (g) (isF) (mg) (tn) (isE) (mE) (rd) (as9)).flatten].flatten := by rw [fl_open]; exact hD
          exact hQ _ _ _ _ _ ((mdB cy mo mz msv mtx mmo mif mmg mtn mie mme mrd mas (1) (hz) (len) (tu) (fi) (ro) (sp) (it) (bl) (hh) (z) (sd) (bf) (g) (isF) (mg) (tn) (isE) (mE) (rd) (as9)).flatten) ⟨(tu), (fi), (ro), (sp), (it), (bl), (hh), (z), (sd), (bf), (g), (isF), (mg), (tn), (isE), (mE), (rd), (as9), rfl, ⟨hL, hz20, hz101⟩, ⟨hhz, hHZ⟩, hln, hbf, htx⟩ hP hD hS dX8_add_108
    · skip
      have g_35 := (h_32).mp c_35
      refine lv_iload hx hb dX8_add_38 (lv_at hl 5 rfl) ?_
      refine q_readz (va_runS (As := [.int (qI (p3))]) (rest := []) ⟨hx, hb, hml, hown, hg⟩ (c_X8_isNumber l D cy _ (by omega)) (cs_X8_98 hg rfl rfl ⟨by decide, by decide⟩) ⟨q_blind0, q_preR _ hK hN hP [] rfl⟩ rfl rfl hl.1 rfl (lv_room (Nat.le_of_ble_eq_true rfl)) dX8_add_40 ⟨by decide, by decide⟩) (fun b_40 h_40 => ?_)
      refine q_ifz_eq (tgt := 58) hx hb dX8_add_43 (by decide) (fun c_43 => ?_) (fun c_43 => ?_)
      · skip
        have g_43 := mt (h_40).mpr (by rw [c_43]; decide)
        refine q_iconst hx hb dX8_add_58 ?_
        refine lv_istore (lv' := [(7, .int (qI (0))), (6, .int (qI (0))), (0, .ref (mo)), (1, .int (qI (p0))), (2, .int (qI (p1))), (3, .int (qI (p2))), (4, .int (qI (p3))), (5, .int (qI (p4)))]) hx hb dX8_add_59 hl (by decide) rfl (fun ls hl => ?_)
        refine lv_aload_n hx hb dX8_add_61 rfl (lv_at hl 2 rfl) ?_
        refine lv_iload hx hb dX8_add_62 (lv_at hl 1 rfl) ?_
        refine q_if_ne (tgt := 71) hx hb dX8_add_64 (by decide) (by omega) (fun c_64 => ?_) (fun c_64 => ?_)
        · skip
          exact absurd c_64 (by decide)
        · skip
          refine q_iconst hx hb dX8_add_67 ?_
          refine lv_goto (tgt := 97) hx hb dX8_add_68 (by decide) ?_
          refine pf_X8_44 hx hb hg hown hK hP hD hS 0 0 rfl rfl rfl rfl (Nat.le_of_ble_eq_true rfl) dX8_add_97 (fun H locs hP hD hS => ?_)
          have hP : va_P D vwCl [[(mo, .inr (8, [.int (qI (1)), .ref (mz), .int (qI (((hz : Nat) : Int))), .ref (msv), .int (qI (((len : Nat) : Int))), .ref (mtx), .ref (mmo), .int (qI (tu)), .ref (mif), .ref (mmg), .ref (mtn), .ref (mie), .ref (mme), .int (qz (fi)), .int (qI (ro)), .int (qI (sp)), .int (qI (it)), .int (qz (bl)), .ref (mrd), .ref (mas), .long (hh)]))], [(mz, aI cy 115 (z))], [(msv, aI cy 920 (sd))], [(mtx, aI cy 60 (bf))], [(mmo, aI cy 121 (g))], [(mif, aZ cy 16 (isF))], [(mmg, aI cy 16 (mg))], [(mtn, aI cy 16 (tn))], [(mie, aZ cy 4 (isE))], [(mme, aI cy 4 (mE))], [(mrd, aI cy 100 (rd))], [(mas, aI cy 115 (as9))]].flatten H := hP
          have hD : va_D A [[(mo, .inr (8, [.int (qI (1)), .ref (mz), .int (qI (((hz : Nat) : Int))), .ref (msv), .int (qI (((len : Nat) : Int))), .ref (mtx), .ref (mmo), .int (qI (tu)), .ref (mif), .ref (mmg), .ref (mtn), .ref (mie), .ref (mme), .int (qz (fi)), .int (qI (ro)), .int (qI (sp)), .int (qI (it)), .int (qz (bl)), .ref (mrd), .ref (mas), .long (hh)]))], [(mz, aI cy 115 (z))], [(msv, aI cy 920 (sd))], [(mtx, aI cy 60 (bf))], [(mmo, aI cy 121 (g))], [(mif, aZ cy 16 (isF))], [(mmg, aI cy 16 (mg))], [(mtn, aI cy 16 (tn))], [(mie, aZ cy 4 (isE))], [(mme, aI cy 4 (mE))], [(mrd, aI cy 100 (rd))], [(mas, aI cy 115 (as9))]].flatten := hD
          refine lv_aload_n hx hb dX8_add_100 rfl (lv_at hl 2 rfl) ?_
          refine gf_X8_44 hx hb hg hown hK (fl_blk hP 0 rfl) 0 rfl rfl dX8_add_101 ?_
          refine q_if_le (tgt := 109) hx hb dX8_add_104 (by decide) (by omega) (fun c_104 => ?_) (fun c_104 => ?_)
          · skip
            exact absurd c_104 (by decide)
          · skip
            refine q_iconst hx hb dX8_add_107 ?_
            have hP : va_P D vwCl [(mdB cy mo mz msv mtx mmo mif mmg mtn mie mme mrd mas (1) (hz) (len) (tu) (fi) (ro) (sp) (it) (bl) (hh) (z) (sd) (bf) (g) (isF) (mg) (tn) (isE) (mE) (rd) (as9)).flatten].flatten H := by rw [fl_open]; exact hP
            have hD : va_D A [(mdB cy mo mz msv mtx mmo mif mmg mtn mie mme mrd mas (1) (hz) (len) (tu) (fi) (ro) (sp) (it) (bl) (hh) (z) (sd) (bf) (g) (isF) (mg) (tn) (isE) (mE) (rd) (as9)).flatten].flatten := by rw [fl_open]; exact hD
            exact hQ _ _ _ _ _ ((mdB cy mo mz msv mtx mmo mif mmg mtn mie mme mrd mas (1) (hz) (len) (tu) (fi) (ro) (sp) (it) (bl) (hh) (z) (sd) (bf) (g) (isF) (mg) (tn) (isE) (mE) (rd) (as9)).flatten) ⟨(tu), (fi), (ro), (sp), (it), (bl), (hh), (z), (sd), (bf), (g), (isF), (mg), (tn), (isE), (mE), (rd), (as9), rfl, ⟨hL, hz20, hz101⟩, ⟨hhz, hHZ⟩, hln, hbf, htx⟩ hP hD hS dX8_add_108
      · skip
        have g_43 := (h_40).mp c_43
        refine lv_iload hx hb dX8_add_46 (lv_at hl 6 rfl) ?_
        refine q_readz (va_runS (As := [.int (qI (p4))]) (rest := []) ⟨hx, hb, hml, hown, hg⟩ (c_X8_isStrength l D cy _ (by omega)) (cs_X8_101 hg rfl rfl ⟨by decide, by decide⟩) ⟨q_blind0, q_preR _ hK hN hP [] rfl⟩ rfl rfl hl.1 rfl (lv_room (Nat.le_of_ble_eq_true rfl)) dX8_add_48 ⟨by decide, by decide⟩) (fun b_48 h_48 => ?_)
        refine q_ifz_eq (tgt := 58) hx hb dX8_add_51 (by decide) (fun c_51 => ?_) (fun c_51 => ?_)
        · skip
          have g_51 := mt (h_48).mpr (by rw [c_51]; decide)
          refine q_iconst hx hb dX8_add_58 ?_
          refine lv_istore (lv' := [(7, .int (qI (0))), (6, .int (qI (0))), (0, .ref (mo)), (1, .int (qI (p0))), (2, .int (qI (p1))), (3, .int (qI (p2))), (4, .int (qI (p3))), (5, .int (qI (p4)))]) hx hb dX8_add_59 hl (by decide) rfl (fun ls hl => ?_)
          refine lv_aload_n hx hb dX8_add_61 rfl (lv_at hl 2 rfl) ?_
          refine lv_iload hx hb dX8_add_62 (lv_at hl 1 rfl) ?_
          refine q_if_ne (tgt := 71) hx hb dX8_add_64 (by decide) (by omega) (fun c_64 => ?_) (fun c_64 => ?_)
          · skip
            exact absurd c_64 (by decide)
          · skip
            refine q_iconst hx hb dX8_add_67 ?_
            refine lv_goto (tgt := 97) hx hb dX8_add_68 (by decide) ?_
            refine pf_X8_44 hx hb hg hown hK hP hD hS 0 0 rfl rfl rfl rfl (Nat.le_of_ble_eq_true rfl) dX8_add_97 (fun H locs hP hD hS => ?_)
            have hP : va_P D vwCl [[(mo, .inr (8, [.int (qI (1)), .ref (mz), .int (qI (((hz : Nat) : Int))), .ref (msv), .int (qI (((len : Nat) : Int))), .ref (mtx), .ref (mmo), .int (qI (tu)), .ref (mif), .ref (mmg), .ref (mtn), .ref (mie), .ref (mme), .int (qz (fi)), .int (qI (ro)), .int (qI (sp)), .int (qI (it)), .int (qz (bl)), .ref (mrd), .ref (mas), .long (hh)]))], [(mz, aI cy 115 (z))], [(msv, aI cy 920 (sd))], [(mtx, aI cy 60 (bf))], [(mmo, aI cy 121 (g))], [(mif, aZ cy 16 (isF))], [(mmg, aI cy 16 (mg))], [(mtn, aI cy 16 (tn))], [(mie, aZ cy 4 (isE))], [(mme, aI cy 4 (mE))], [(mrd, aI cy 100 (rd))], [(mas, aI cy 115 (as9))]].flatten H := hP
            have hD : va_D A [[(mo, .inr (8, [.int (qI (1)), .ref (mz), .int (qI (((hz : Nat) : Int))), .ref (msv), .int (qI (((len : Nat) : Int))), .ref (mtx), .ref (mmo), .int (qI (tu)), .ref (mif), .ref (mmg), .ref (mtn), .ref (mie), .ref (mme), .int (qz (fi)), .int (qI (ro)), .int (qI (sp)), .int (qI (it)), .int (qz (bl)), .ref (mrd), .ref (mas), .long (hh)]))], [(mz, aI cy 115 (z))], [(msv, aI cy 920 (sd))], [(mtx, aI cy 60 (bf))], [(mmo, aI cy 121 (g))], [(mif, aZ cy 16 (isF))], [(mmg, aI cy 16 (mg))], [(mtn, aI cy 16 (tn))], [(mie, aZ cy 4 (isE))], [(mme, aI cy 4 (mE))], [(mrd, aI cy 100 (rd))], [(mas, aI cy 115 (as9))]].flatten := hD
            refine lv_aload_n hx hb dX8_add_100 rfl (lv_at hl 2 rfl) ?_
            refine gf_X8_44 hx hb hg hown hK (fl_blk hP 0 rfl) 0 rfl rfl dX8_add_101 ?_
            refine q_if_le (tgt := 109) hx hb dX8_add_104 (by decide) (by omega) (fun c_104 => ?_) (fun c_104 => ?_)
            · skip
              exact absurd c_104 (by decide)
            · skip
              refine q_iconst hx hb dX8_add_107 ?_
              have hP : va_P D vwCl [(mdB cy mo mz msv mtx mmo mif mmg mtn mie mme mrd mas (1) (hz) (len) (tu) (fi) (ro) (sp) (it) (bl) (hh) (z) (sd) (bf) (g) (isF) (mg) (tn) (isE) (mE) (rd) (as9)).flatten].flatten H := by rw [fl_open]; exact hP
              have hD : va_D A [(mdB cy mo mz msv mtx mmo mif mmg mtn mie mme mrd mas (1) (hz) (len) (tu) (fi) (ro) (sp) (it) (bl) (hh) (z) (sd) (bf) (g) (isF) (mg) (tn) (isE) (mE) (rd) (as9)).flatten].flatten := by rw [fl_open]; exact hD
              exact hQ _ _ _ _ _ ((mdB cy mo mz msv mtx mmo mif mmg mtn mie mme mrd mas (1) (hz) (len) (tu) (fi) (ro) (sp) (it) (bl) (hh) (z) (sd) (bf) (g) (isF) (mg) (tn) (isE) (mE) (rd) (as9)).flatten) ⟨(tu), (fi), (ro), (sp), (it), (bl), (hh), (z), (sd), (bf), (g), (isF), (mg), (tn), (isE), (mE), (rd), (as9), rfl, ⟨hL, hz20, hz101⟩, ⟨hhz, hHZ⟩, hln, hbf, htx⟩ hP hD hS dX8_add_108
        · skip
          have g_51 := (h_48).mp c_51
          refine q_iconst hx hb dX8_add_54 ?_
          refine lv_goto (tgt := 59) hx hb dX8_add_55 (by decide) ?_
          refine lv_istore (lv' := [(7, .int (qI (1))), (6, .int (qI (0))), (0, .ref (mo)), (1, .int (qI (p0))), (2, .int (qI (p1))), (3, .int (qI (p2))), (4, .int (qI (p3))), (5, .int (qI (p4)))]) hx hb dX8_add_59 hl (by decide) rfl (fun ls hl => ?_)
          refine lv_aload_n hx hb dX8_add_61 rfl (lv_at hl 2 rfl) ?_
          refine lv_iload hx hb dX8_add_62 (lv_at hl 1 rfl) ?_
          refine q_if_ne (tgt := 71) hx hb dX8_add_64 (by decide) (by omega) (fun c_64 => ?_) (fun c_64 => ?_)
          · skip
            exact absurd c_64 (by decide)
          · skip
            refine q_iconst hx hb dX8_add_67 ?_
            refine lv_goto (tgt := 97) hx hb dX8_add_68 (by decide) ?_
            refine pf_X8_44 hx hb hg hown hK hP hD hS 0 0 rfl rfl rfl rfl (Nat.le_of_ble_eq_true rfl) dX8_add_97 (fun H locs hP hD hS => ?_)
            have hP : va_P D vwCl [[(mo, .inr (8, [.int (qI (1)), .ref (mz), .int (qI (((hz : Nat) : Int))), .ref (msv), .int (qI (((len : Nat) : Int))), .ref (mtx), .ref (mmo), .int (qI (tu)), .ref (mif), .ref (mmg), .ref (mtn), .ref (mie), .ref (mme), .int (qz (fi)), .int (qI (ro)), .int (qI (sp)), .int (qI (it)), .int (qz (bl)), .ref (mrd), .ref (mas), .long (hh)]))], [(mz, aI cy 115 (z))], [(msv, aI cy 920 (sd))], [(mtx, aI cy 60 (bf))], [(mmo, aI cy 121 (g))], [(mif, aZ cy 16 (isF))], [(mmg, aI cy 16 (mg))], [(mtn, aI cy 16 (tn))], [(mie, aZ cy 4 (isE))], [(mme, aI cy 4 (mE))], [(mrd, aI cy 100 (rd))], [(mas, aI cy 115 (as9))]].flatten H := hP
            have hD : va_D A [[(mo, .inr (8, [.int (qI (1)), .ref (mz), .int (qI (((hz : Nat) : Int))), .ref (msv), .int (qI (((len : Nat) : Int))), .ref (mtx), .ref (mmo), .int (qI (tu)), .ref (mif), .ref (mmg), .ref (mtn), .ref (mie), .ref (mme), .int (qz (fi)), .int (qI (ro)), .int (qI (sp)), .int (qI (it)), .int (qz (bl)), .ref (mrd), .ref (mas), .long (hh)]))], [(mz, aI cy 115 (z))], [(msv, aI cy 920 (sd))], [(mtx, aI cy 60 (bf))], [(mmo, aI cy 121 (g))], [(mif, aZ cy 16 (isF))], [(mmg, aI cy 16 (mg))], [(mtn, aI cy 16 (tn))], [(mie, aZ cy 4 (isE))], [(mme, aI cy 4 (mE))], [(mrd, aI cy 100 (rd))], [(mas, aI cy 115 (as9))]].flatten := hD
            refine lv_aload_n hx hb dX8_add_100 rfl (lv_at hl 2 rfl) ?_
            refine gf_X8_44 hx hb hg hown hK (fl_blk hP 0 rfl) 0 rfl rfl dX8_add_101 ?_
            refine q_if_le (tgt := 109) hx hb dX8_add_104 (by decide) (by omega) (fun c_104 => ?_) (fun c_104 => ?_)
            · skip
              exact absurd c_104 (by decide)
            · skip
              refine q_iconst hx hb dX8_add_107 ?_
              have hP : va_P D vwCl [(mdB cy mo mz msv mtx mmo mif mmg mtn mie mme mrd mas (1) (hz) (len) (tu) (fi) (ro) (sp) (it) (bl) (hh) (z) (sd) (bf) (g) (isF) (mg) (tn) (isE) (mE) (rd) (as9)).flatten].flatten H := by rw [fl_open]; exact hP
              have hD : va_D A [(mdB cy mo mz msv mtx mmo mif mmg mtn mie mme mrd mas (1) (hz) (len) (tu) (fi) (ro) (sp) (it) (bl) (hh) (z) (sd) (bf) (g) (isF) (mg) (tn) (isE) (mE) (rd) (as9)).flatten].flatten := by rw [fl_open]; exact hD
              exact hQ _ _ _ _ _ ((mdB cy mo mz msv mtx mmo mif mmg mtn mie mme mrd mas (1) (hz) (len) (tu) (fi) (ro) (sp) (it) (bl) (hh) (z) (sd) (bf) (g) (isF) (mg) (tn) (isE) (mE) (rd) (as9)).flatten) ⟨(tu), (fi), (ro), (sp), (it), (bl), (hh), (z), (sd), (bf), (g), (isF), (mg), (tn), (isE), (mE), (rd), (as9), rfl, ⟨hL, hz20, hz101⟩, ⟨hhz, hHZ⟩, hln, hbf, htx⟩ hP hD hS dX8_add_108
  · skip
    have g_4 := (h_1).mp c_4
    refine lv_iload_n hx hb dX8_add_7 rfl (lv_at hl 2 rfl) ?_
    refine q_iconst hx hb dX8_add_8 ?_
    refine q_bipush hx hb dX8_add_9 (by decide) ?_
    refine q_readz (va_runS (As := [.int (qI (p1)), .int (qI (-1)), .int (qI (9))]) (rest := []) ⟨hx, hb, hml, hown, hg⟩ (c_X8_within l D cy _ _ _ (by omega)) (cs_X8_48 hg rfl rfl ⟨by decide, by decide⟩) ⟨q_blind0, q_preR _ hK hN hP [] rfl⟩ rfl rfl hl.1 rfl (lv_room (Nat.le_of_ble_eq_true rfl)) dX8_add_11 ⟨by decide, by decide⟩) (fun b_11 h_11 => ?_)
    refine q_ifz_eq (tgt := 26) hx hb dX8_add_14 (by decide) (fun c_14 => ?_) (fun c_14 => ?_)
    · skip
      have g_14 := mt (h_11).mpr (by rw [c_14]; decide)
      refine q_iconst hx hb dX8_add_26 ?_
      refine lv_istore (lv' := [(6, .int (qI (0))), (0, .ref (mo)), (1, .int (qI (p0))), (2, .int (qI (p1))), (3, .int (qI (p2))), (4, .int (qI (p3))), (5, .int (qI (p4)))]) hx hb dX8_add_27 hl (by decide) rfl (fun ls hl => ?_)
      refine lv_iload_n hx hb dX8_add_29 rfl (lv_at hl 4 rfl) ?_
      refine q_iconst hx hb dX8_add_30 ?_
      refine q_iconst hx hb dX8_add_31 ?_
      refine q_readz (va_runS (As := [.int (qI (p2)), .int (qI (0)), .int (qI (2))]) (rest := []) ⟨hx, hb, hml, hown, hg⟩ (c_X8_within l D cy _ _ _ (by omega)) (cs_X8_48 hg rfl rfl ⟨by decide, by decide⟩) ⟨q_blind0, q_preR _ hK hN hP [] rfl⟩ rfl rfl hl.1 rfl (lv_room (Nat.le_of_ble_eq_true rfl)) dX8_add_32 ⟨by decide, by decide⟩) (fun b_32 h_32 => ?_)
      refine q_ifz_eq (tgt := 58) hx hb dX8_add_35 (by decide) (fun c_35 => ?_) (fun c_35 => ?_)
      · skip
        have g_35 := mt (h_32).mpr (by rw [c_35]; decide)
        refine q_iconst hx hb dX8_add_58 ?_
        refine lv_istore (lv' := [(7, .int (qI (0))), (6, .int (qI (0))), (0, .ref (mo)), (1, .int (qI (p0))), (2, .int (qI (p1))), (3, .int (qI (p2))), (4, .int (qI (p3))), (5, .int (qI (p4)))]) hx hb dX8_add_59 hl (by decide) rfl (fun ls hl => ?_)
        refine lv_aload_n hx hb dX8_add_61 rfl (lv_at hl 2 rfl) ?_
        refine lv_iload hx hb dX8_add_62 (lv_at hl 1 rfl) ?_
        refine q_if_ne (tgt := 71) hx hb dX8_add_64 (by decide) (by omega) (fun c_64 => ?_) (fun c_64 => ?_)
        · skip
          exact absurd c_64 (by decide)
        · skip
          refine q_iconst hx hb dX8_add_67 ?_
          refine lv_goto (tgt := 97) hx hb dX8_add_68 (by decide) ?_
          refine pf_X8_44 hx hb hg hown hK hP hD hS 0 0 rfl rfl rfl rfl (Nat.le_of_ble_eq_true rfl) dX8_add_97 (fun H locs hP hD hS => ?_)
          have hP : va_P D vwCl [[(mo, .inr (8, [.int (qI (1)), .ref (mz), .int (qI (((hz : Nat) : Int))), .ref (msv), .int (qI (((len : Nat) : Int))), .ref (mtx), .ref (mmo), .int (qI (tu)), .ref (mif), .ref (mmg), .ref (mtn), .ref (mie), .ref (mme), .int (qz (fi)), .int (qI (ro)), .int (qI (sp)), .int (qI (it)), .int (qz (bl)), .ref (mrd), .ref (mas), .long (hh)]))], [(mz, aI cy 115 (z))], [(msv, aI cy 920 (sd))], [(mtx, aI cy 60 (bf))], [(mmo, aI cy 121 (g))], [(mif, aZ cy 16 (isF))], [(mmg, aI cy 16 (mg))], [(mtn, aI cy 16 (tn))], [(mie, aZ cy 4 (isE))], [(mme, aI cy 4 (mE))], [(mrd, aI cy 100 (rd))], [(mas, aI cy 115 (as9))]].flatten H := hP
          have hD : va_D A [[(mo, .inr (8, [.int (qI (1)), .ref (mz), .int (qI (((hz : Nat) : Int))), .ref (msv), .int (qI (((len : Nat) : Int))), .ref (mtx), .ref (mmo), .int (qI (tu)), .ref (mif), .ref (mmg), .ref (mtn), .ref (mie), .ref (mme), .int (qz (fi)), .int (qI (ro)), .int (qI (sp)), .int (qI (it)), .int (qz (bl)), .ref (mrd), .ref (mas), .long (hh)]))], [(mz, aI cy 115 (z))], [(msv, aI cy 920 (sd))], [(mtx, aI cy 60 (bf))], [(mmo, aI cy 121 (g))], [(mif, aZ cy 16 (isF))], [(mmg, aI cy 16 (mg))], [(mtn, aI cy 16 (tn))], [(mie, aZ cy 4 (isE))], [(mme, aI cy 4 (mE))], [(mrd, aI cy 100 (rd))], [(mas, aI cy 115 (as9))]].flatten := hD
          refine lv_aload_n hx hb dX8_add_100 rfl (lv_at hl 2 rfl) ?_
          refine gf_X8_44 hx hb hg hown hK (fl_blk hP 0 rfl) 0 rfl rfl dX8_add_101 ?_
          refine q_if_le (tgt := 109) hx hb dX8_add_104 (by decide) (by omega) (fun c_104 => ?_) (fun c_104 => ?_)
          · skip
            exact absurd c_104 (by decide)
          · skip
            refine q_iconst hx hb dX8_add_107 ?_
            have hP : va_P D vwCl [(mdB cy mo mz msv mtx mmo mif mmg mtn mie mme mrd mas (1) (hz) (len) (tu) (fi) (ro) (sp) (it) (bl) (hh) (z) (sd) (bf) (g) (isF) (mg) (tn) (isE) (mE) (rd) (as9)).flatten].flatten H := by rw [fl_open]; exact hP
            have hD : va_D A [(mdB cy mo mz msv mtx mmo mif mmg mtn mie mme mrd mas (1) (hz) (len) (tu) (fi) (ro) (sp) (it) (bl) (hh) (z) (sd) (bf) (g) (isF) (mg) (tn) (isE) (mE) (rd) (as9)).flatten].flatten := by rw [fl_open]; exact hD
            exact hQ _ _ _ _ _ ((mdB cy mo mz msv mtx mmo mif mmg mtn mie mme mrd mas (1) (hz) (len) (tu) (fi) (ro) (sp) (it) (bl) (hh) (z) (sd) (bf) (g) (isF) (mg) (tn) (isE) (mE) (rd) (as9)).flatten) ⟨(tu), (fi), (ro), (sp), (it), (bl), (hh), (z), (sd), (bf), (g), (isF), (mg), (tn), (isE), (mE), (rd), (as9), rfl, ⟨hL, hz20, hz101⟩, ⟨hhz, hHZ⟩, hln, hbf, htx⟩ hP hD hS dX8_add_108
      · skip
        have g_35 := (h_32).mp c_35
        refine lv_iload hx hb dX8_add_38 (lv_at hl 5 rfl) ?_
        refine q_readz (va_runS (As := [.int (qI (p3))]) (rest := []) ⟨hx, hb, hml, hown, hg⟩ (c_X8_isNumber l D cy _ (by omega)) (cs_X8_98 hg rfl rfl ⟨by decide, by decide⟩) ⟨q_blind0, q_preR _ hK hN hP [] rfl⟩ rfl rfl hl.1 rfl (lv_room (Nat.le_of_ble_eq_true rfl)) dX8_add_40 ⟨by decide, by decide⟩) (fun b_40 h_40 => ?_)
        refine q_ifz_eq (tgt := 58) hx hb dX8_add_43 (by decide) (fun c_43 => ?_) (fun c_43 => ?_)
        · skip
          have g_43 := mt (h_40).mpr (by rw [c_43]; decide)
          refine q_iconst hx hb dX8_add_58 ?_
          refine lv_istore (lv' := [(7, .int (qI (0))), (6, .int (qI (0))), (0, .ref (mo)), (1, .int (qI (p0))), (2, .int (qI (p1))), (3, .int (qI (p2))), (4, .int (qI (p3))), (5, .int (qI (p4)))]) hx hb dX8_add_59 hl (by decide) rfl (fun ls hl => ?_)
          refine lv_aload_n hx hb dX8_add_61 rfl (lv_at hl 2 rfl) ?_
          refine lv_iload hx hb dX8_add_62 (lv_at hl 1 rfl) ?_
          refine q_if_ne (tgt := 71) hx hb dX8_add_64 (by decide) (by omega) (fun c_64 => ?_) (fun c_64 => ?_)
          · skip
            exact absurd c_64 (by decide)
          · skip
            refine q_iconst hx hb dX8_add_67 ?_
            refine lv_goto (tgt := 97) hx hb dX8_add_68 (by decide) ?_
            refine pf_X8_44 hx hb hg hown hK hP hD hS 0 0 rfl rfl rfl rfl (Nat.le_of_ble_eq_true rfl) dX8_add_97 (fun H locs hP hD hS => ?_)
            have hP : va_P D vwCl [[(mo, .inr (8, [.int (qI (1)), .ref (mz), .int (qI (((hz : Nat) : Int))), .ref (msv), .int (qI (((len : Nat) : Int))), .ref (mtx), .ref (mmo), .int (qI (tu)), .ref (mif), .ref (mmg), .ref (mtn), .ref (mie), .ref (mme), .int (qz (fi)), .int (qI (ro)), .int (qI (sp)), .int (qI (it)), .int (qz (bl)), .ref (mrd), .ref (mas), .long (hh)]))], [(mz, aI cy 115 (z))], [(msv, aI cy 920 (sd))], [(mtx, aI cy 60 (bf))], [(mmo, aI cy 121 (g))], [(mif, aZ cy 16 (isF))], [(mmg, aI cy 16 (mg))], [(mtn, aI cy 16 (tn))], [(mie, aZ cy 4 (isE))], [(mme, aI cy 4 (mE))], [(mrd, aI cy 100 (rd))], [(mas, aI cy 115 (as9))]].flatten H := hP
            have hD : va_D A [[(mo, .inr (8, [.int (qI (1)), .ref (mz), .int (qI (((hz : Nat) : Int))), .ref (msv), .int (qI (((len : Nat) : Int))), .ref (mtx), .ref (mmo), .int (qI (tu)), .ref (mif), .ref (mmg), .ref (mtn), .ref (mie), .ref (mme), .int (qz (fi)), .int (qI (ro)), .int (qI (sp)), .int (qI (it)), .int (qz (bl)), .ref (mrd), .ref (mas), .long (hh)]))], [(mz, aI cy 115 (z))], [(msv, aI cy 920 (sd))], [(mtx, aI cy 60 (bf))], [(mmo, aI cy 121 (g))], [(mif, aZ cy 16 (isF))], [(mmg, aI cy 16 (mg))], [(mtn, aI cy 16 (tn))], [(mie, aZ cy 4 (isE))], [(mme, aI cy 4 (mE))], [(mrd, aI cy 100 (rd))], [(mas, aI cy 115 (as9))]].flatten := hD
            refine lv_aload_n hx hb dX8_add_100 rfl (lv_at hl 2 rfl) ?_
            refine gf_X8_44 hx hb hg hown hK (fl_blk hP 0 rfl) 0 rfl rfl dX8_add_101 ?_
            refine q_if_le (tgt := 109) hx hb dX8_add_104 (by decide) (by omega) (fun c_104 => ?_) (fun c_104 => ?_)
            · skip
              exact absurd c_104 (by decide)
            · skip
              refine q_iconst hx hb dX8_add_107 ?_
              have hP : va_P D vwCl [(mdB cy mo mz msv mtx mmo mif mmg mtn mie mme mrd mas (1) (hz) (len) (tu) (fi) (ro) (sp) (it) (bl) (hh) (z) (sd) (bf) (g) (isF) (mg) (tn) (isE) (mE) (rd) (as9)).flatten].flatten H := by rw [fl_open]; exact hP
              have hD : va_D A [(mdB cy mo mz msv mtx mmo mif mmg mtn mie mme mrd mas (1) (hz) (len) (tu) (fi) (ro) (sp) (it) (bl) (hh) (z) (sd) (bf) (g) (isF) (mg) (tn) (isE) (mE) (rd) (as9)).flatten].flatten := by rw [fl_open]; exact hD
              exact hQ _ _ _ _ _ ((mdB cy mo mz msv mtx mmo mif mmg mtn mie mme mrd mas (1) (hz) (len) (tu) (fi) (ro) (sp) (it) (bl) (hh) (z) (sd) (bf) (g) (isF) (mg) (tn) (isE) (mE) (rd) (as9)).flatten) ⟨(tu), (fi), (ro), (sp), (it), (bl), (hh), (z), (sd), (bf), (g), (isF), (mg), (tn), (isE), (mE), (rd), (as9), rfl, ⟨hL, hz20, hz101⟩, ⟨hhz, hHZ⟩, hln, hbf, htx⟩ hP hD hS dX8_add_108
        · skip
          have g_43 := (h_40).mp c_43
          refine lv_iload hx hb dX8_add_46 (lv_at hl 6 rfl) ?_
          refine q_readz (va_runS (As := [.int (qI (p4))]) (rest := []) ⟨hx, hb, hml, hown, hg⟩ (c_X8_isStrength l D cy _ (by omega)) (cs_X8_101 hg rfl rfl ⟨by decide, by decide⟩) ⟨q_blind0, q_preR _ hK hN hP [] rfl⟩ rfl rfl hl.1 rfl (lv_room (Nat.le_of_ble_eq_true rfl)) dX8_add_48 ⟨by decide, by decide⟩) (fun b_48 h_48 => ?_)
          refine q_ifz_eq (tgt := 58) hx hb dX8_add_51 (by decide) (fun c_51 => ?_) (fun c_51 => ?_)
          · skip
            have g_51 := mt (h_48).mpr (by rw [c_51]; decide)
            refine q_iconst hx hb dX8_add_58 ?_
            refine lv_istore (lv' := [(7, .int (qI (0))), (6, .int (qI (0))), (0, .ref (mo)), (1, .int (qI (p0))), (2, .int (qI (p1))), (3, .int (qI (p2))), (4, .int (qI (p3))), (5, .int (qI (p4)))]) hx hb dX8_add_59 hl (by decide) rfl (fun ls hl => ?_)
            refine lv_aload_n hx hb dX8_add_61 rfl (lv_at hl 2 rfl) ?_
            refine lv_iload hx hb dX8_add_62 (lv_at hl 1 rfl) ?_
            refine q_if_ne (tgt := 71) hx hb dX8_add_64 (by decide) (by omega) (fun c_64 => ?_) (fun c_64 => ?_)
            · skip
              exact absurd c_64 (by decide)
            · skip
              refine q_iconst hx hb dX8_add_67 ?_
              refine lv_goto (tgt := 97) hx hb dX8_add_68 (by decide) ?_
              refine pf_X8_44 hx hb hg hown hK hP hD hS 0 0 rfl rfl rfl rfl (Nat.le_of_ble_eq_true rfl) dX8_add_97 (fun H locs hP hD hS => ?_)
              have hP : va_P D vwCl [[(mo, .inr (8, [.int (qI (1)), .ref (mz), .int (qI (((hz : Nat) : Int))), .ref (msv), .int (qI (((len : Nat) : Int))), .ref (mtx), .ref (mmo), .int (qI (tu)), .ref (mif), .ref (mmg), .ref (mtn), .ref (mie), .ref (mme), .int (qz (fi)), .int (qI (ro)), .int (qI (sp)), .int (qI (it)), .int (qz (bl)), .ref (mrd), .ref (mas), .long (hh)]))], [(mz, aI cy 115 (z))], [(msv, aI cy 920 (sd))], [(mtx, aI cy 60 (bf))], [(mmo, aI cy 121 (g))], [(mif, aZ cy 16 (isF))], [(mmg, aI cy 16 (mg))], [(mtn, aI cy 16 (tn))], [(mie, aZ cy 4 (isE))], [(mme, aI cy 4 (mE))], [(mrd, aI cy 100 (rd))], [(mas, aI cy 115 (as9))]].flatten H := hP
              have hD : va_D A [[(mo, .inr (8, [.int (qI (1)), .ref (mz), .int (qI (((hz : Nat) : Int))), .ref (msv), .int (qI (((len : Nat) : Int))), .ref (mtx), .ref (mmo), .int (qI (tu)), .ref (mif), .ref (mmg), .ref (mtn), .ref (mie), .ref (mme), .int (qz (fi)), .int (qI (ro)), .int (qI (sp)), .int (qI (it)), .int (qz (bl)), .ref (mrd), .ref (mas), .long (hh)]))], [(mz, aI cy 115 (z))], [(msv, aI cy 920 (sd))], [(mtx, aI cy 60 (bf))], [(mmo, aI cy 121 (g))], [(mif, aZ cy 16 (isF))], [(mmg, aI cy 16 (mg))], [(mtn, aI cy 16 (tn))], [(mie, aZ cy 4 (isE))], [(mme, aI cy 4 (mE))], [(mrd, aI cy 100 (rd))], [(mas, aI cy 115 (as9))]].flatten := hD
              refine lv_aload_n hx hb dX8_add_100 rfl (lv_at hl 2 rfl) ?_
              refine gf_X8_44 hx hb hg hown hK (fl_blk hP 0 rfl) 0 rfl rfl dX8_add_101 ?_
              refine q_if_le (tgt := 109) hx hb dX8_add_104 (by decide) (by omega) (fun c_104 => ?_) (fun c_104 => ?_)
              · skip
                exact absurd c_104 (by decide)
              · skip
                refine q_iconst hx hb dX8_add_107 ?_
                have hP : va_P D vwCl [(mdB cy mo mz msv mtx mmo mif mmg mtn mie mme mrd mas (1) (hz) (len) (tu) (fi) (ro) (sp) (it) (bl) (hh) (z) (sd) (bf) (g) (isF) (mg) (tn) (isE) (mE) (rd) (as9)).flatten].flatten H := by rw [fl_open]; exact hP
                have hD : va_D A [(mdB cy mo mz msv mtx mmo mif mmg mtn mie mme mrd mas (1) (hz) (len) (tu) (fi) (ro) (sp) (it) (bl) (hh) (z) (sd) (bf) (g) (isF) (mg) (tn) (isE) (mE) (rd) (as9)).flatten].flatten := by rw [fl_open]; exact hD
                exact hQ _ _ _ _ _ ((mdB cy mo mz msv mtx mmo mif mmg mtn mie mme mrd mas (1) (hz) (len) (tu) (fi) (ro) (sp) (it) (bl) (hh) (z) (sd) (bf) (g) (isF) (mg) (tn) (isE) (mE) (rd) (as9)).flatten) ⟨(tu), (fi), (ro), (sp), (it), (bl), (hh), (z), (sd), (bf), (g), (isF), (mg), (tn), (isE), (mE), (rd), (as9), rfl, ⟨hL, hz20, hz101⟩, ⟨hhz, hHZ⟩, hln, hbf, htx⟩ hP hD hS dX8_add_108
          · skip
            have g_51 := (h_48).mp c_51
            refine q_iconst hx hb dX8_add_54 ?_
            refine lv_goto (tgt := 59) hx hb dX8_add_55 (by decide) ?_
            refine lv_istore (lv' := [(7, .int (qI (1))), (6, .int (qI (0))), (0, .ref (mo)), (1, .int (qI (p0))), (2, .int (qI (p1))), (3, .int (qI (p2))), (4, .int (qI (p3))), (5, .int (qI (p4)))]) hx hb dX8_add_59 hl (by decide) rfl (fun ls hl => ?_)
            refine lv_aload_n hx hb dX8_add_61 rfl (lv_at hl 2 rfl) ?_
            refine lv_iload hx hb dX8_add_62 (lv_at hl 1 rfl) ?_
            refine q_if_ne (tgt := 71) hx hb dX8_add_64 (by decide) (by omega) (fun c_64 => ?_) (fun c_64 => ?_)
            · skip
              exact absurd c_64 (by decide)
            · skip
              refine q_iconst hx hb dX8_add_67 ?_
              refine lv_goto (tgt := 97) hx hb dX8_add_68 (by decide) ?_
              refine pf_X8_44 hx hb hg hown hK hP hD hS 0 0 rfl rfl rfl rfl (Nat.le_of_ble_eq_true rfl) dX8_add_97 (fun H locs hP hD hS => ?_)
              have hP : va_P D vwCl [[(mo, .inr (8, [.int (qI (1)), .ref (mz), .int (qI (((hz : Nat) : Int))), .ref (msv), .int (qI (((len : Nat) : Int))), .ref (mtx), .ref (mmo), .int (qI (tu)), .ref (mif), .ref (mmg), .ref (mtn), .ref (mie), .ref (mme), .int (qz (fi)), .int (qI (ro)), .int (qI (sp)), .int (qI (it)), .int (qz (bl)), .ref (mrd), .ref (mas), .long (hh)]))], [(mz, aI cy 115 (z))], [(msv, aI cy 920 (sd))], [(mtx, aI cy 60 (bf))], [(mmo, aI cy 121 (g))], [(mif, aZ cy 16 (isF))], [(mmg, aI cy 16 (mg))], [(mtn, aI cy 16 (tn))], [(mie, aZ cy 4 (isE))], [(mme, aI cy 4 (mE))], [(mrd, aI cy 100 (rd))], [(mas, aI cy 115 (as9))]].flatten H := hP
              have hD : va_D A [[(mo, .inr (8, [.int (qI (1)), .ref (mz), .int (qI (((hz : Nat) : Int))), .ref (msv), .int (qI (((len : Nat) : Int))), .ref (mtx), .ref (mmo), .int (qI (tu)), .ref (mif), .ref (mmg), .ref (mtn), .ref (mie), .ref (mme), .int (qz (fi)), .int (qI (ro)), .int (qI (sp)), .int (qI (it)), .int (qz (bl)), .ref (mrd), .ref (mas), .long (hh)]))], [(mz, aI cy 115 (z))], [(msv, aI cy 920 (sd))], [(mtx, aI cy 60 (bf))], [(mmo, aI cy 121 (g))], [(mif, aZ cy 16 (isF))], [(mmg, aI cy 16 (mg))], [(mtn, aI cy 16 (tn))], [(mie, aZ cy 4 (isE))], [(mme, aI cy 4 (mE))], [(mrd, aI cy 100 (rd))], [(mas, aI cy 115 (as9))]].flatten := hD
              refine lv_aload_n hx hb dX8_add_100 rfl (lv_at hl 2 rfl) ?_
              refine gf_X8_44 hx hb hg hown hK (fl_blk hP 0 rfl) 0 rfl rfl dX8_add_101 ?_
              refine q_if_le (tgt := 109) hx hb dX8_add_104 (by decide) (by omega) (fun c_104 => ?_) (fun c_104 => ?_)
              · skip
                exact absurd c_104 (by decide)
              · skip
                refine q_iconst hx hb dX8_add_107 ?_
                have hP : va_P D vwCl [(mdB cy mo mz msv mtx mmo mif mmg mtn mie mme mrd mas (1) (hz) (len) (tu) (fi) (ro) (sp) (it) (bl) (hh) (z) (sd) (bf) (g) (isF) (mg) (tn) (isE) (mE) (rd) (as9)).flatten].flatten H := by rw [fl_open]; exact hP
                have hD : va_D A [(mdB cy mo mz msv mtx mmo mif mmg mtn mie mme mrd mas (1) (hz) (len) (tu) (fi) (ro) (sp) (it) (bl) (hh) (z) (sd) (bf) (g) (isF) (mg) (tn) (isE) (mE) (rd) (as9)).flatten].flatten := by rw [fl_open]; exact hD
                exact hQ _ _ _ _ _ ((mdB cy mo mz msv mtx mmo mif mmg mtn mie mme mrd mas (1) (hz) (len) (tu) (fi) (ro) (sp) (it) (bl) (hh) (z) (sd) (bf) (g) (isF) (mg) (tn) (isE) (mE) (rd) (as9)).flatten) ⟨(tu), (fi), (ro), (sp), (it), (bl), (hh), (z), (sd), (bf), (g), (isF), (mg), (tn), (isE), (mE), (rd), (as9), rfl, ⟨hL, hz20, hz101⟩, ⟨hhz, hHZ⟩, hln, hbf, htx⟩ hP hD hS dX8_add_108
    · skip
      have g_14 := (h_11).mp c_14
      refine lv_iload_n hx hb dX8_add_17 rfl (lv_at hl 1 rfl) ?_
      refine lv_iload_n hx hb dX8_add_18 rfl (lv_at hl 2 rfl) ?_
      refine q_icmp_eq (tgt := 26) hx hb dX8_add_19 (by decide) (by omega) (fun c_19 => ?_) (fun c_19 => ?_)
      · skip
        refine q_iconst hx hb dX8_add_26 ?_
        refine lv_istore (lv' := [(6, .int (qI (0))), (0, .ref (mo)), (1, .int (qI (p0))), (2, .int (qI (p1))), (3, .int (qI (p2))), (4, .int (qI (p3))), (5, .int (qI (p4)))]) hx hb dX8_add_27 hl (by decide) rfl (fun ls hl => ?_)
        refine lv_iload_n hx hb dX8_add_29 rfl (lv_at hl 4 rfl) ?_
        refine q_iconst hx hb dX8_add_30 ?_
        refine q_iconst hx hb dX8_add_31 ?_
        refine q_readz (va_runS (As := [.int (qI (p2)), .int (qI (0)), .int (qI (2))]) (rest := []) ⟨hx, hb, hml, hown, hg⟩ (c_X8_within l D cy _ _ _ (by omega)) (cs_X8_48 hg rfl rfl ⟨by decide, by decide⟩) ⟨q_blind0, q_preR _ hK hN hP [] rfl⟩ rfl rfl hl.1 rfl (lv_room (Nat.le_of_ble_eq_true rfl)) dX8_add_32 ⟨by decide, by decide⟩) (fun b_32 h_32 => ?_)
        refine q_ifz_eq (tgt := 58) hx hb dX8_add_35 (by decide) (fun c_35 => ?_) (fun c_35 => ?_)
        · skip
          have g_35 := mt (h_32).mpr (by rw [c_35]; decide)
          refine q_iconst hx hb dX8_add_58 ?_
          refine lv_istore (lv' := [(7, .int (qI (0))), (6, .int (qI (0))), (0, .ref (mo)), (1, .int (qI (p0))), (2, .int (qI (p1))), (3, .int (qI (p2))), (4, .int (qI (p3))), (5, .int (qI (p4)))]) hx hb dX8_add_59 hl (by decide) rfl (fun ls hl => ?_)
          refine lv_aload_n hx hb dX8_add_61 rfl (lv_at hl 2 rfl) ?_
          refine lv_iload hx hb dX8_add_62 (lv_at hl 1 rfl) ?_
          refine q_if_ne (tgt := 71) hx hb dX8_add_64 (by decide) (by omega) (fun c_64 => ?_) (fun c_64 => ?_)
          · skip
            exact absurd c_64 (by decide)
          · skip
            refine q_iconst hx hb dX8_add_67 ?_
            refine lv_goto (tgt := 97) hx hb dX8_add_68 (by decide) ?_
            refine pf_X8_44 hx hb hg hown hK hP hD hS 0 0 rfl rfl rfl rfl (Nat.le_of_ble_eq_true rfl) dX8_add_97 (fun H locs hP hD hS => ?_)
            have hP : va_P D vwCl [[(mo, .inr (8, [.int (qI (1)), .ref (mz), .int (qI (((hz : Nat) : Int))), .ref (msv), .int (qI (((len : Nat) : Int))), .ref (mtx), .ref (mmo), .int (qI (tu)), .ref (mif), .ref (mmg), .ref (mtn), .ref (mie), .ref (mme), .int (qz (fi)), .int (qI (ro)), .int (qI (sp)), .int (qI (it)), .int (qz (bl)), .ref (mrd), .ref (mas), .long (hh)]))], [(mz, aI cy 115 (z))], [(msv, aI cy 920 (sd))], [(mtx, aI cy 60 (bf))], [(mmo, aI cy 121 (g))], [(mif, aZ cy 16 (isF))], [(mmg, aI cy 16 (mg))], [(mtn, aI cy 16 (tn))], [(mie, aZ cy 4 (isE))], [(mme, aI cy 4 (mE))], [(mrd, aI cy 100 (rd))], [(mas, aI cy 115 (as9))]].flatten H := hP
            have hD : va_D A [[(mo, .inr (8, [.int (qI (1)), .ref (mz), .int (qI (((hz : Nat) : Int))), .ref (msv), .int (qI (((len : Nat) : Int))), .ref (mtx), .ref (mmo), .int (qI (tu)), .ref (mif), .ref (mmg), .ref (mtn), .ref (mie), .ref (mme), .int (qz (fi)), .int (qI (ro)), .int (qI (sp)), .int (qI (it)), .int (qz (bl)), .ref (mrd), .ref (mas), .long (hh)]))], [(mz, aI cy 115 (z))], [(msv, aI cy 920 (sd))], [(mtx, aI cy 60 (bf))], [(mmo, aI cy 121 (g))], [(mif, aZ cy 16 (isF))], [(mmg, aI cy 16 (mg))], [(mtn, aI cy 16 (tn))], [(mie, aZ cy 4 (isE))], [(mme, aI cy 4 (mE))], [(mrd, aI cy 100 (rd))], [(mas, aI cy 115 (as9))]].flatten := hD
            refine lv_aload_n hx hb dX8_add_100 rfl (lv_at hl 2 rfl) ?_
            refine gf_X8_44 hx hb hg hown hK (fl_blk hP 0 rfl) 0 rfl rfl dX8_add_101 ?_
            refine q_if_le (tgt := 109) hx hb dX8_add_104 (by decide) (by omega) (fun c_104 => ?_) (fun c_104 => ?_)
            · skip
              exact absurd c_104 (by decide)
            · skip
              refine q_iconst hx hb dX8_add_107 ?_
              have hP : va_P D vwCl [(mdB cy mo mz msv mtx mmo mif mmg mtn mie mme mrd mas (1) (hz) (len) (tu) (fi) (ro) (sp) (it) (bl) (hh) (z) (sd) (bf) (g) (isF) (mg) (tn) (isE) (mE) (rd) (as9)).flatten].flatten H := by rw [fl_open]; exact hP
              have hD : va_D A [(mdB cy mo mz msv mtx mmo mif mmg mtn mie mme mrd mas (1) (hz) (len) (tu) (fi) (ro) (sp) (it) (bl) (hh) (z) (sd) (bf) (g) (isF) (mg) (tn) (isE) (mE) (rd) (as9)).flatten].flatten := by rw [fl_open]; exact hD
              exact hQ _ _ _ _ _ ((mdB cy mo mz msv mtx mmo mif mmg mtn mie mme mrd mas (1) (hz) (len) (tu) (fi) (ro) (sp) (it) (bl) (hh) (z) (sd) (bf) (g) (isF) (mg) (tn) (isE) (mE) (rd) (as9)).flatten) ⟨(tu), (fi), (ro), (sp), (it), (bl), (hh), (z), (sd), (bf), (g), (isF), (mg), (tn), (isE), (mE), (rd), (as9), rfl, ⟨hL, hz20, hz101⟩, ⟨hhz, hHZ⟩, hln, hbf, htx⟩ hP hD hS dX8_add_108
        · skip
          have g_35 := (h_32).mp c_35
          refine lv_iload hx hb dX8_add_38 (lv_at hl 5 rfl) ?_
          refine q_readz (va_runS (As := [.int (qI (p3))]) (rest := []) ⟨hx, hb, hml, hown, hg⟩ (c_X8_isNumber l D cy _ (by omega)) (cs_X8_98 hg rfl rfl ⟨by decide, by decide⟩) ⟨q_blind0, q_preR _ hK hN hP [] rfl⟩ rfl rfl hl.1 rfl (lv_room (Nat.le_of_ble_eq_true rfl)) dX8_add_40 ⟨by decide, by decide⟩) (fun b_40 h_40 => ?_)
          refine q_ifz_eq (tgt := 58) hx hb dX8_add_43 (by decide) (fun c_43 => ?_) (fun c_43 => ?_)
          · skip
            have g_43 := mt (h_40).mpr (by rw [c_43]; decide)
            refine q_iconst hx hb dX8_add_58 ?_
            refine lv_istore (lv' := [(7, .int (qI (0))), (6, .int (qI (0))), (0, .ref (mo)), (1, .int (qI (p0))), (2, .int (qI (p1))), (3, .int (qI (p2))), (4, .int (qI (p3))), (5, .int (qI (p4)))]) hx hb dX8_add_59 hl (by decide) rfl (fun ls hl => ?_)
            refine lv_aload_n hx hb dX8_add_61 rfl (lv_at hl 2 rfl) ?_
            refine lv_iload hx hb dX8_add_62 (lv_at hl 1 rfl) ?_
            refine q_if_ne (tgt := 71) hx hb dX8_add_64 (by decide) (by omega) (fun c_64 => ?_) (fun c_64 => ?_)
            · skip
              exact absurd c_64 (by decide)
            · skip
              refine q_iconst hx hb dX8_add_67 ?_
              refine lv_goto (tgt := 97) hx hb dX8_add_68 (by decide) ?_
              refine pf_X8_44 hx hb hg hown hK hP hD hS 0 0 rfl rfl rfl rfl (Nat.le_of_ble_eq_true rfl) dX8_add_97 (fun H locs hP hD hS => ?_)
              have hP : va_P D vwCl [[(mo, .inr (8, [.int (qI (1)), .ref (mz), .int (qI (((hz : Nat) : Int))), .ref (msv), .int (qI (((len : Nat) : Int))), .ref (mtx), .ref (mmo), .int (qI (tu)), .ref (mif), .ref (mmg), .ref (mtn), .ref (mie), .ref (mme), .int (qz (fi)), .int (qI (ro)), .int (qI (sp)), .int (qI (it)), .int (qz (bl)), .ref (mrd), .ref (mas), .long (hh)]))], [(mz, aI cy 115 (z))], [(msv, aI cy 920 (sd))], [(mtx, aI cy 60 (bf))], [(mmo, aI cy 121 (g))], [(mif, aZ cy 16 (isF))], [(mmg, aI cy 16 (mg))], [(mtn, aI cy 16 (tn))], [(mie, aZ cy 4 (isE))], [(mme, aI cy 4 (mE))], [(mrd, aI cy 100 (rd))], [(mas, aI cy 115 (as9))]].flatten H := hP
              have hD : va_D A [[(mo, .inr (8, [.int (qI (1)), .ref (mz), .int (qI (((hz : Nat) : Int))), .ref (msv), .int (qI (((len : Nat) : Int))), .ref (mtx), .ref (mmo), .int (qI (tu)), .ref (mif), .ref (mmg), .ref (mtn), .ref (mie), .ref (mme), .int (qz (fi)), .int (qI (ro)), .int (qI (sp)), .int (qI (it)), .int (qz (bl)), .ref (mrd), .ref (mas), .long (hh)]))], [(mz, aI cy 115 (z))], [(msv, aI cy 920 (sd))], [(mtx, aI cy 60 (bf))], [(mmo, aI cy 121 (g))], [(mif, aZ cy 16 (isF))], [(mmg, aI cy 16 (mg))], [(mtn, aI cy 16 (tn))], [(mie, aZ cy 4 (isE))], [(mme, aI cy 4 (mE))], [(mrd, aI cy 100 (rd))], [(mas, aI cy 115 (as9))]].flatten := hD
              refine lv_aload_n hx hb dX8_add_100 rfl (lv_at hl 2 rfl) ?_
              refine gf_X8_44 hx hb hg hown hK (fl_blk hP 0 rfl) 0 rfl rfl dX8_add_101 ?_
              refine q_if_le (tgt := 109) hx hb dX8_add_104 (by decide) (by omega) (fun c_104 => ?_) (fun c_104 => ?_)
              · skip
                exact absurd c_104 (by decide)
              · skip
                refine q_iconst hx hb dX8_add_107 ?_
                have hP : va_P D vwCl [(mdB cy mo mz msv mtx mmo mif mmg mtn mie mme mrd mas (1) (hz) (len) (tu) (fi) (ro) (sp) (it) (bl) (hh) (z) (sd) (bf) (g) (isF) (mg) (tn) (isE) (mE) (rd) (as9)).flatten].flatten H := by rw [fl_open]; exact hP
                have hD : va_D A [(mdB cy mo mz msv mtx mmo mif mmg mtn mie mme mrd mas (1) (hz) (len) (tu) (fi) (ro) (sp) (it) (bl) (hh) (z) (sd) (bf) (g) (isF) (mg) (tn) (isE) (mE) (rd) (as9)).flatten].flatten := by rw [fl_open]; exact hD
                exact hQ _ _ _ _ _ ((mdB cy mo mz msv mtx mmo mif mmg mtn mie mme mrd mas (1) (hz) (len) (tu) (fi) (ro) (sp) (it) (bl) (hh) (z) (sd) (bf) (g) (isF) (mg) (tn) (isE) (mE) (rd) (as9)).flatten) ⟨(tu), (fi), (ro), (sp), (it), (bl), (hh), (z), (sd), (bf), (g), (isF), (mg), (tn), (isE), (mE), (rd), (as9), rfl, ⟨hL, hz20, hz101⟩, ⟨hhz, hHZ⟩, hln, hbf, htx⟩ hP hD hS dX8_add_108
          · skip
            have g_43 := (h_40).mp c_43
            refine lv_iload hx hb dX8_add_46 (lv_at hl 6 rfl) ?_
            refine q_readz (va_runS (As := [.int (qI (p4))]) (rest := []) ⟨hx, hb, hml, hown, hg⟩ (c_X8_isStrength l D cy _ (by omega)) (cs_X8_101 hg rfl rfl ⟨by decide, by decide⟩) ⟨q_blind0, q_preR _ hK hN hP [] rfl⟩ rfl rfl hl.1 rfl (lv_room (Nat.le_of_ble_eq_true rfl)) dX8_add_48 ⟨by decide, by decide⟩) (fun b_48 h_48 => ?_)
            refine q_ifz_eq (tgt := 58) hx hb dX8_add_51 (by decide) (fun c_51 => ?_) (fun c_51 => ?_)
            · skip
              have g_51 := mt (h_48).mpr (by rw [c_51]; decide)
              refine q_iconst hx hb dX8_add_58 ?_
              refine lv_istore (lv' := [(7, .int (qI (0))), (6, .int (qI (0))), (0, .ref (mo)), (1, .int (qI (p0))), (2, .int (qI (p1))), (3, .int (qI (p2))), (4, .int (qI (p3))), (5, .int (qI (p4)))]) hx hb dX8_add_59 hl (by decide) rfl (fun ls hl => ?_)
              refine lv_aload_n hx hb dX8_add_61 rfl (lv_at hl 2 rfl) ?_
              refine lv_iload hx hb dX8_add_62 (lv_at hl 1 rfl) ?_
              refine q_if_ne (tgt := 71) hx hb dX8_add_64 (by decide) (by omega) (fun c_64 => ?_) (fun c_64 => ?_)
              · skip
                exact absurd c_64 (by decide)
              · skip
                refine q_iconst hx hb dX8_add_67 ?_
                refine lv_goto (tgt := 97) hx hb dX8_add_68 (by decide) ?_
                refine pf_X8_44 hx hb hg hown hK hP hD hS 0 0 rfl rfl rfl rfl (Nat.le_of_ble_eq_true rfl) dX8_add_97 (fun H locs hP hD hS => ?_)
                have hP : va_P D vwCl [[(mo, .inr (8, [.int (qI (1)), .ref (mz), .int (qI (((hz : Nat) : Int))), .ref (msv), .int (qI (((len : Nat) : Int))), .ref (mtx), .ref (mmo), .int (qI (tu)), .ref (mif), .ref (mmg), .ref (mtn), .ref (mie), .ref (mme), .int (qz (fi)), .int (qI (ro)), .int (qI (sp)), .int (qI (it)), .int (qz (bl)), .ref (mrd), .ref (mas), .long (hh)]))], [(mz, aI cy 115 (z))], [(msv, aI cy 920 (sd))], [(mtx, aI cy 60 (bf))], [(mmo, aI cy 121 (g))], [(mif, aZ cy 16 (isF))], [(mmg, aI cy 16 (mg))], [(mtn, aI cy 16 (tn))], [(mie, aZ cy 4 (isE))], [(mme, aI cy 4 (mE))], [(mrd, aI cy 100 (rd))], [(mas, aI cy 115 (as9))]].flatten H := hP
                have hD : va_D A [[(mo, .inr (8, [.int (qI (1)), .ref (mz), .int (qI (((hz : Nat) : Int))), .ref (msv), .int (qI (((len : Nat) : Int))), .ref (mtx), .ref (mmo), .int (qI (tu)), .ref (mif), .ref (mmg), .ref (mtn), .ref (mie), .ref (mme), .int (qz (fi)), .int (qI (ro)), .int (qI (sp)), .int (qI (it)), .int (qz (bl)), .ref (mrd), .ref (mas), .long (hh)]))], [(mz, aI cy 115 (z))], [(msv, aI cy 920 (sd))], [(mtx, aI cy 60 (bf))], [(mmo, aI cy 121 (g))], [(mif, aZ cy 16 (isF))], [(mmg, aI cy 16 (mg))], [(mtn, aI cy 16 (tn))], [(mie, aZ cy 4 (isE))], [(mme, aI cy 4 (mE))], [(mrd, aI cy 100 (rd))], [(mas, aI cy 115 (as9))]].flatten := hD
                refine lv_aload_n hx hb dX8_add_100 rfl (lv_at hl 2 rfl) ?_
                refine gf_X8_44 hx hb hg hown hK (fl_blk hP 0 rfl) 0 rfl rfl dX8_add_101 ?_
                refine q_if_le (tgt := 109) hx hb dX8_add_104 (by decide) (by omega) (fun c_104 => ?_) (fun c_104 => ?_)
                · skip
                  exact absurd c_104 (by decide)
                · skip
                  refine q_iconst hx hb dX8_add_107 ?_
                  have hP : va_P D vwCl [(mdB cy mo mz msv mtx mmo mif mmg mtn mie mme mrd mas (1) (hz) (len) (tu) (fi) (ro) (sp) (it) (bl) (hh) (z) (sd) (bf) (g) (isF) (mg) (tn) (isE) (mE) (rd) (as9)).flatten].flatten H := by rw [fl_open]; exact hP
                  have hD : va_D A [(mdB cy mo mz msv mtx mmo mif mmg mtn mie mme mrd mas (1) (hz) (len) (tu) (fi) (ro) (sp) (it) (bl) (hh) (z) (sd) (bf) (g) (isF) (mg) (tn) (isE) (mE) (rd) (as9)).flatten].flatten := by rw [fl_open]; exact hD
                  exact hQ _ _ _ _ _ ((mdB cy mo mz msv mtx mmo mif mmg mtn mie mme mrd mas (1) (hz) (len) (tu) (fi) (ro) (sp) (it) (bl) (hh) (z) (sd) (bf) (g) (isF) (mg) (tn) (isE) (mE) (rd) (as9)).flatten) ⟨(tu), (fi), (ro), (sp), (it), (bl), (hh), (z), (sd), (bf), (g), (isF), (mg), (tn), (isE), (mE), (rd), (as9), rfl, ⟨hL, hz20, hz101⟩, ⟨hhz, hHZ⟩, hln, hbf, htx⟩ hP hD hS dX8_add_108
            · skip
              have g_51 := (h_48).mp c_51
              refine q_iconst hx hb dX8_add_54 ?_
              refine lv_goto (tgt := 59) hx hb dX8_add_55 (by decide) ?_
              refine lv_istore (lv' := [(7, .int (qI (1))), (6, .int (qI (0))), (0, .ref (mo)), (1, .int (qI (p0))), (2, .int (qI (p1))), (3, .int (qI (p2))), (4, .int (qI (p3))), (5, .int (qI (p4)))]) hx hb dX8_add_59 hl (by decide) rfl (fun ls hl => ?_)
              refine lv_aload_n hx hb dX8_add_61 rfl (lv_at hl 2 rfl) ?_
              refine lv_iload hx hb dX8_add_62 (lv_at hl 1 rfl) ?_
              refine q_if_ne (tgt := 71) hx hb dX8_add_64 (by decide) (by omega) (fun c_64 => ?_) (fun c_64 => ?_)
              · skip
                exact absurd c_64 (by decide)
              · skip
                refine q_iconst hx hb dX8_add_67 ?_
                refine lv_goto (tgt := 97) hx hb dX8_add_68 (by decide) ?_
                refine pf_X8_44 hx hb hg hown hK hP hD hS 0 0 rfl rfl rfl rfl (Nat.le_of_ble_eq_true rfl) dX8_add_97 (fun H locs hP hD hS => ?_)
                have hP : va_P D vwCl [[(mo, .inr (8, [.int (qI (1)), .ref (mz), .int (qI (((hz : Nat) : Int))), .ref (msv), .int (qI (((len : Nat) : Int))), .ref (mtx), .ref (mmo), .int (qI (tu)), .ref (mif), .ref (mmg), .ref (mtn), .ref (mie), .ref (mme), .int (qz (fi)), .int (qI (ro)), .int (qI (sp)), .int (qI (it)), .int (qz (bl)), .ref (mrd), .ref (mas), .long (hh)]))], [(mz, aI cy 115 (z))], [(msv, aI cy 920 (sd))], [(mtx, aI cy 60 (bf))], [(mmo, aI cy 121 (g))], [(mif, aZ cy 16 (isF))], [(mmg, aI cy 16 (mg))], [(mtn, aI cy 16 (tn))], [(mie, aZ cy 4 (isE))], [(mme, aI cy 4 (mE))], [(mrd, aI cy 100 (rd))], [(mas, aI cy 115 (as9))]].flatten H := hP
                have hD : va_D A [[(mo, .inr (8, [.int (qI (1)), .ref (mz), .int (qI (((hz : Nat) : Int))), .ref (msv), .int (qI (((len : Nat) : Int))), .ref (mtx), .ref (mmo), .int (qI (tu)), .ref (mif), .ref (mmg), .ref (mtn), .ref (mie), .ref (mme), .int (qz (fi)), .int (qI (ro)), .int (qI (sp)), .int (qI (it)), .int (qz (bl)), .ref (mrd), .ref (mas), .long (hh)]))], [(mz, aI cy 115 (z))], [(msv, aI cy 920 (sd))], [(mtx, aI cy 60 (bf))], [(mmo, aI cy 121 (g))], [(mif, aZ cy 16 (isF))], [(mmg, aI cy 16 (mg))], [(mtn, aI cy 16 (tn))], [(mie, aZ cy 4 (isE))], [(mme, aI cy 4 (mE))], [(mrd, aI cy 100 (rd))], [(mas, aI cy 115 (as9))]].flatten := hD
                refine lv_aload_n hx hb dX8_add_100 rfl (lv_at hl 2 rfl) ?_
                refine gf_X8_44 hx hb hg hown hK (fl_blk hP 0 rfl) 0 rfl rfl dX8_add_101 ?_
                refine q_if_le (tgt := 109) hx hb dX8_add_104 (by decide) (by omega) (fun c_104 => ?_) (fun c_104 => ?_)
                · skip
                  exact absurd c_104 (by decide)
                · skip
                  refine q_iconst hx hb dX8_add_107 ?_
                  have hP : va_P D vwCl [(mdB cy mo mz msv mtx mmo mif mmg mtn mie mme mrd mas (1) (hz) (len) (tu) (fi) (ro) (sp) (it) (bl) (hh) (z) (sd) (bf) (g) (isF) (mg) (tn) (isE) (mE) (rd) (as9)).flatten].flatten H := by rw [fl_open]; exact hP
                  have hD : va_D A [(mdB cy mo mz msv mtx mmo mif mmg mtn mie mme mrd mas (1) (hz) (len) (tu) (fi) (ro) (sp) (it) (bl) (hh) (z) (sd) (bf) (g) (isF) (mg) (tn) (isE) (mE) (rd) (as9)).flatten].flatten := by rw [fl_open]; exact hD
                  exact hQ _ _ _ _ _ ((mdB cy mo mz msv mtx mmo mif mmg mtn mie mme mrd mas (1) (hz) (len) (tu) (fi) (ro) (sp) (it) (bl) (hh) (z) (sd) (bf) (g) (isF) (mg) (tn) (isE) (mE) (rd) (as9)).flatten) ⟨(tu), (fi), (ro), (sp), (it), (bl), (hh), (z), (sd), (bf), (g), (isF), (mg), (tn), (isE), (mE), (rd), (as9), rfl, ⟨hL, hz20, hz101⟩, ⟨hhz, hHZ⟩, hln, hbf, htx⟩ hP hD hS dX8_add_108
      · skip
        exfalso; omega

set_option maxRecDepth 100000 in
set_option maxHeartbeats 4000000 in
theorem c_X8_add_no2 (l : Launch) (D : va_G) (cy : Nat → ClassId) (mo mz msv mtx mmo mif mmg mtn mie mme mrd mas : Nat) (T : LSt) (hz : Nat) (HZ : Nat → LSt) (len : Nat) (tx : Nat → Int) (th : Int) (W : va_W) (hG : gOk T) (hW : MW cy mo mz msv mtx mmo mif mmg mtn mie mme mrd mas T hz HZ len tx th W) (p0 p1 p2 p3 p4 : Int) (r0 : (-2147483648 ≤ p0 ∧ p0 < 2147483648)) (r1 : (-2147483648 ≤ p1 ∧ p1 < 2147483648)) (r2 : (-2147483648 ≤ p2 ∧ p2 < 2147483648)) (r3 : (-2147483648 ≤ p3 ∧ p3 < 2147483648)) (r4 : (-2147483648 ≤ p4 ∧ p4 < 2147483648)) (hx : (0 ≤ p0 ∧ p0 ≤ 9) ∧ (p1 = -1 ∨ (0 ≤ p1 ∧ p1 ≤ 9 ∧ p1 ≠ p0))) (hy : ¬ ((0 ≤ p2 ∧ p2 ≤ 2) ∧ (-2000 ≤ p3 ∧ p3 ≤ 2000) ∧ (0 ≤ p4 ∧ p4 ≤ 3))) (sz : Nat) : qMet l yX8_add (.code yX8_add cX8_add 8 (some .int)) 8 [.ref (mo), .int (qI (p0)), .int (qI (p1)), .int (qI (p2)), .int (qI (p3)), .int (qI (p4))] D cy [W] sz (va_Qi (S := va_W) (fun r u => MW cy mo mz msv mtx mmo mif mmg mtn mie mme mrd mas T hz HZ len tx 2 u) (qB D cy [W] sz (fun u => [u])) (va_A [W].flatten sz)) := by
  refine q_ofMi (S := va_W) (b1 := fun u => [u]) (post := fun r u => MW cy mo mz msv mtx mmo mif mmg mtn mie mme mrd mas T hz HZ len tx 2 u) (by decide +kernel) (Nat.le_of_ble_eq_true rfl) ?_
  intro p e s m args below meth c Q A hx hb hml hown hg hQ hK hN hD hA H locs ls hP hS hl
  have hown : s.vm.findClass RX8 = some m.cls := hown
  have hl : lv_has ls 8 [(0, .ref (mo)), (1, .int (qI (p0))), (2, .int (qI (p1))), (3, .int (qI (p2))), (4, .int (qI (p3))), (5, .int (qI (p4)))] := hl
  have hW0 := hW
  obtain ⟨tu, fi, ro, sp, it, bl, hh, z, sd, bf, g, isF, mg, tn, isE, mE, rd, as9, rfl, ⟨hL, hz20, hz101⟩, ⟨hhz, hHZ⟩, hln, hbf, htx⟩ := hW
  obtain ⟨gV, gT, gC, gE, gI, gD⟩ := hG.eq hL
  obtain ⟨nc, hnc⟩ : ∃ nc : Nat, z 20 = (nc : Int) := ⟨(z 20).toNat, by omega⟩
  obtain ⟨ne, hne⟩ : ∃ ne : Nat, z 101 = (ne : Int) := ⟨(z 101).toNat, by omega⟩
  have e20 : (z 20).toNat = nc := by omega
  have e101 : (z 101).toNat = ne := by omega
  have hV : qV z := gV
  have hst : ∀ i, i < 10 → 0 ≤ z (10 + i) ∧ z (10 + i) ≤ 9 := gT
  have hc : nc ≤ 16 := e20 ▸ (gC.1 : (z 20).toNat ≤ 16)
  have hC : qWR (zC z) nc := e20 ▸ (gC.2 : qWR (zC z) (z 20).toNat)
  have he : ne ≤ 4 := e101 ▸ (gE.1 : (z 101).toNat ≤ 4)
  have hE : qWR (zE z) ne := e101 ▸ (gE.2 : qWR (zE z) (z 101).toNat)
  have hD9 : ∀ i j, i < ne → j < ne → zE z 0 i = zE z 0 j → i = j := e101 ▸ (gD : ∀ i j, i < (z 101).toNat → j < (z 101).toNat → zE z 0 i = zE z 0 j → i = j)
  have hL2 : LEq (z, (fun i => z (10 + i)), zC z, nc, zE z, ne) T := by rw [← e20, ← e101]; exact hL
  have en : nc = lN9 T := hL2.2.2.1
  have em : ne = lM T := hL2.2.2.2.2.1
  rw [fl_open] at hP hD
  have hP : va_P D vwCl [[(mo, .inr (8, [.int (qI (th)), .ref (mz), .int (qI (((hz : Nat) : Int))), .ref (msv), .int (qI (((len : Nat) : Int))), .ref (mtx), .ref (mmo), .int (qI (tu)), .ref (mif), .ref (mmg), .ref (mtn), .ref (mie), .ref (mme), .int (qz (fi)), .int (qI (ro)), .int (qI (sp)), .int (qI (it)), .int (qz (bl)), .ref (mrd), .ref (mas), .long (hh)]))], [(mz, aI cy 115 (z))], [(msv, aI cy 920 (sd))], [(mtx, aI cy 60 (bf))], [(mmo, aI cy 121 (g))], [(mif, aZ cy 16 (isF))], [(mmg, aI cy 16 (mg))], [(mtn, aI cy 16 (tn))], [(mie, aZ cy 4 (isE))], [(mme, aI cy 4 (mE))], [(mrd, aI cy 100 (rd))], [(mas, aI cy 115 (as9))]].flatten H := hP
  have hD : va_D A [[(mo, .inr (8, [.int (qI (th)), .ref (mz), .int (qI (((hz : Nat) : Int))), .ref (msv), .int (qI (((len : Nat) : Int))), .ref (mtx), .ref (mmo), .int (qI (tu)), .ref (mif), .ref (mmg), .ref (mtn), .ref (mie), .ref (mme), .int (qz (fi)), .int (qI (ro)), .int (qI (sp)), .int (qI (it)), .int (qz (bl)), .ref (mrd), .ref (mas), .long (hh)]))], [(mz, aI cy 115 (z))], [(msv, aI cy 920 (sd))], [(mtx, aI cy 60 (bf))], [(mmo, aI cy 121 (g))], [(mif, aZ cy 16 (isF))], [(mmg, aI cy 16 (mg))], [(mtn, aI cy 16 (tn))], [(mie, aZ cy 4 (isE))], [(mme, aI cy 4 (mE))], [(mrd, aI cy 100 (rd))], [(mas, aI cy 115 (as9))]].flatten := hD
  refine lv_iload_n hx hb dX8_add_0 rfl (lv_at hl 1 rfl) ?_
  refine q_readz (va_runS (As := [.int (qI (p0))]) (rest := []) ⟨hx, hb, hml, hown, hg⟩ (c_X8_isPlace l D cy _ (by omega)) (cs_X8_94 hg rfl rfl ⟨by decide, by decide⟩) ⟨q_blind0, q_preR _ hK hN hP [] rfl⟩ rfl rfl hl.1 rfl (lv_room (Nat.le_of_ble_eq_true rfl)) dX8_add_1 ⟨by decide, by decide⟩) (fun b_1 h_1 => ?_)
  refine q_ifz_eq (tgt := 26) hx hb dX8_add_4 (by decide) (fun c_4 => ?_) (fun c_4 => ?_)
  · skip
    have g_4 := mt (h_1).mpr (by rw [c_4]; decide)
    exfalso; omega
  · skip
    have g_4 := (h_1).mp c_4
    refine lv_iload_n hx hb dX8_add_7 rfl (lv_at hl 2 rfl) ?_
    refine q_iconst hx hb dX8_add_8 ?_
    refine q_bipush hx hb dX8_add_9 (by decide) ?_
    refine q_readz (va_runS (As := [.int (qI (p1)), .int (qI (-1)), .int (qI (9))]) (rest := []) ⟨hx, hb, hml, hown, hg⟩ (c_X8_within l D cy _ _ _ (by omega)) (cs_X8_48 hg rfl rfl ⟨by decide, by decide⟩) ⟨q_blind0, q_preR _ hK hN hP [] rfl⟩ rfl rfl hl.1 rfl (lv_room (Nat.le_of_ble_eq_true rfl)) dX8_add_11 ⟨by decide, by decide⟩) (fun b_11 h_11 => ?_)
    refine q_ifz_eq (tgt := 26) hx hb dX8_add_14 (by decide) (fun c_14 => ?_) (fun c_14 => ?_)
    · skip
      have g_14 := mt (h_11).mpr (by rw [c_14]; decide)
      exfalso; omega
    · skip
      have g_14 := (h_11).mp c_14
      refine lv_iload_n hx hb dX8_add_17 rfl (lv_at hl 1 rfl) ?_
      refine lv_iload_n hx hb dX8_add_18 rfl (lv_at hl 2 rfl) ?_
      refine q_icmp_eq (tgt := 26) hx hb dX8_add_19 (by decide) (by omega) (fun c_19 => ?_) (fun c_19 => ?_)
      · skip
        exfalso; omega
      · skip
        refine q_iconst hx hb dX8_add_22 ?_
        refine lv_goto (tgt := 27) hx hb dX8_add_23 (by decide) ?_
        refine lv_istore (lv' := [(6, .int (qI (1))), (0, .ref (mo)), (1, .int (qI (p0))), (2, .int (qI (p1))), (3, .int (qI (p2))), (4, .int (qI (p3))), (5, .int (qI (p4)))]) hx hb dX8_add_27 hl (by decide) rfl (fun ls hl => ?_)
        refine lv_iload_n hx hb dX8_add_29 rfl (lv_at hl 4 rfl) ?_
        refine q_iconst hx hb dX8_add_30 ?_
        refine q_iconst hx hb dX8_add_31 ?_
        refine q_readz (va_runS (As := [.int (qI (p2)), .int (qI (0)), .int (qI (2))]) (rest := []) ⟨hx, hb, hml, hown, hg⟩ (c_X8_within l D cy _ _ _ (by omega)) (cs_X8_48 hg rfl rfl ⟨by decide, by decide⟩) ⟨q_blind0, q_preR _ hK hN hP [] rfl⟩ rfl rfl hl.1 rfl (lv_room (Nat.le_of_ble_eq_true rfl)) dX8_add_32 ⟨by decide, by decide⟩) (fun b_32 h_32 => ?_)
        refine q_ifz_eq (tgt := 58) hx hb dX8_add_35 (by decide) (fun c_35 => ?_) (fun c_35 => ?_)
        · skip
          have g_35 := mt (h_32).mpr (by rw [c_35]; decide)
          refine q_iconst hx hb dX8_add_58 ?_
          refine lv_istore (lv' := [(7, .int (qI (0))), (6, .int (qI (1))), (0, .ref (mo)), (1, .int (qI (p0))), (2, .int (qI (p1))), (3, .int (qI (p2))), (4, .int (qI (p3))), (5, .int (qI (p4)))]) hx hb dX8_add_59 hl (by decide) rfl (fun ls hl => ?_)
          refine lv_aload_n hx hb dX8_add_61 rfl (lv_at hl 2 rfl) ?_
          refine lv_iload hx hb dX8_add_62 (lv_at hl 1 rfl) ?_
          refine q_if_ne (tgt := 71) hx hb dX8_add_64 (by decide) (by omega) (fun c_64 => ?_) (fun c_64 => ?_)
          · skip
            refine lv_iload hx hb dX8_add_71 (lv_at hl 0 rfl) ?_
            refine q_if_ne (tgt := 80) hx hb dX8_add_73 (by decide) (by omega) (fun c_73 => ?_) (fun c_73 => ?_)
            · skip
              exact absurd c_73 (by decide)
            · skip
              refine q_iconst hx hb dX8_add_76 ?_
              refine lv_goto (tgt := 97) hx hb dX8_add_77 (by decide) ?_
              refine pf_X8_44 hx hb hg hown hK hP hD hS 0 0 rfl rfl rfl rfl (Nat.le_of_ble_eq_true rfl) dX8_add_97 (fun H locs hP hD hS => ?_)
              have hP : va_P D vwCl [[(mo, .inr (8, [.int (qI (2)), .ref (mz), .int (qI (((hz : Nat) : Int))), .ref (msv), .int (qI (((len : Nat) : Int))), .ref (mtx), .ref (mmo), .int (qI (tu)), .ref (mif), .ref (mmg), .ref (mtn), .ref (mie), .ref (mme), .int (qz (fi)), .int (qI (ro)), .int (qI (sp)), .int (qI (it)), .int (qz (bl)), .ref (mrd), .ref (mas), .long (hh)]))], [(mz, aI cy 115 (z))], [(msv, aI cy 920 (sd))], [(mtx, aI cy 60 (bf))], [(mmo, aI cy 121 (g))], [(mif, aZ cy 16 (isF))], [(mmg, aI cy 16 (mg))], [(mtn, aI cy 16 (tn))], [(mie, aZ cy 4 (isE))], [(mme, aI cy 4 (mE))], [(mrd, aI cy 100 (rd))], [(mas, aI cy 115 (as9))]].flatten H := hP
              have hD : va_D A [[(mo, .inr (8, [.int (qI (2)), .ref (mz), .int (qI (((hz : Nat) : Int))), .ref (msv), .int (qI (((len : Nat) : Int))), .ref (mtx), .ref (mmo), .int (qI (tu)), .ref (mif), .ref (mmg), .ref (mtn), .ref (mie), .ref (mme), .int (qz (fi)), .int (qI (ro)), .int (qI (sp)), .int (qI (it)), .int (qz (bl)), .ref (mrd), .ref (mas), .long (hh)]))], [(mz, aI cy 115 (z))], [(msv, aI cy 920 (sd))], [(mtx, aI cy 60 (bf))], [(mmo, aI cy 121 (g))], [(mif, aZ cy 16 (isF))], [(mmg, aI cy 16 (mg))], [(mtn, aI cy 16 (tn))], [(mie, aZ cy 4 (isE))], [(mme, aI cy 4 (mE))], [(mrd, aI cy 100 (rd))], [(mas, aI cy 115 (as9))]].flatten := hD
              refine lv_aload_n hx hb dX8_add_100 rfl (lv_at hl 2 rfl) ?_
              refine gf_X8_44 hx hb hg hown hK (fl_blk hP 0 rfl) 0 rfl rfl dX8_add_101 ?_
              refine q_if_le (tgt := 109) hx hb dX8_add_104 (by decide) (by omega) (fun c_104 => ?_) (fun c_104 => ?_)
              · skip
                exact absurd c_104 (by decide)
              · skip
                refine q_iconst hx hb dX8_add_107 ?_
                have hP : va_P D vwCl [(mdB cy mo mz msv mtx mmo mif mmg mtn mie mme mrd mas (2) (hz) (len) (tu) (fi) (ro) (sp) (it) (bl) (hh) (z) (sd) (bf) (g) (isF) (mg) (tn) (isE) (mE) (rd) (as9)).flatten].flatten H := by rw [fl_open]; exact hP
                have hD : va_D A [(mdB cy mo mz msv mtx mmo mif mmg mtn mie mme mrd mas (2) (hz) (len) (tu) (fi) (ro) (sp) (it) (bl) (hh) (z) (sd) (bf) (g) (isF) (mg) (tn) (isE) (mE) (rd) (as9)).flatten].flatten := by rw [fl_open]; exact hD
                exact hQ _ _ _ _ _ ((mdB cy mo mz msv mtx mmo mif mmg mtn mie mme mrd mas (2) (hz) (len) (tu) (fi) (ro) (sp) (it) (bl) (hh) (z) (sd) (bf) (g) (isF) (mg) (tn) (isE) (mE) (rd) (as9)).flatten) ⟨(tu), (fi), (ro), (sp), (it), (bl), (hh), (z), (sd), (bf), (g), (isF), (mg), (tn), (isE), (mE), (rd), (as9), rfl, ⟨hL, hz20, hz101⟩, ⟨hhz, hHZ⟩, hln, hbf, htx⟩ hP hD hS dX8_add_108
          · skip
            exact absurd c_64 (by decide)
        · skip
          have g_35 := (h_32).mp c_35
          refine lv_iload hx hb dX8_add_38 (lv_at hl 5 rfl) ?_
          refine q_readz (va_runS (As := [.int (qI (p3))]) (rest := []) ⟨hx, hb, hml, hown, hg⟩ (c_X8_isNumber l D cy _ (by omega)) (cs_X8_98 hg rfl rfl ⟨by decide, by decide⟩) ⟨q_blind0, q_preR _ hK hN hP [] rfl⟩ rfl rfl hl.1 rfl (lv_room (Nat.le_of_ble_eq_true rfl)) dX8_add_40 ⟨by decide, by decide⟩) (fun b_40 h_40 => ?_)
          refine q_ifz_eq (tgt := 58) hx hb dX8_add_43 (by decide) (fun c_43 => ?_) (fun c_43 => ?_)
          · skip
            have g_43 := mt (h_40).mpr (by rw [c_43]; decide)
            refine q_iconst hx hb dX8_add_58 ?_
            refine lv_istore (lv' := [(7, .int (qI (0))), (6, .int (qI (1))), (0, .ref (mo)), (1, .int (qI (p0))), (2, .int (qI (p1))), (3, .int (qI (p2))), (4, .int (qI (p3))), (5, .int (qI (p4)))]) hx hb dX8_add_59 hl (by decide) rfl (fun ls hl => ?_)
            refine lv_aload_n hx hb dX8_add_61 rfl (lv_at hl 2 rfl) ?_
            refine lv_iload hx hb dX8_add_62 (lv_at hl 1 rfl) ?_
            refine q_if_ne (tgt := 71) hx hb dX8_add_64 (by decide) (by omega) (fun c_64 => ?_) (fun c_64 => ?_)
            · skip
              refine lv_iload hx hb dX8_add_71 (lv_at hl 0 rfl) ?_
              refine q_if_ne (tgt := 80) hx hb dX8_add_73 (by decide) (by omega) (fun c_73 => ?_) (fun c_73 => ?_)
              · skip
                exact absurd c_73 (by decide)
              · skip
                refine q_iconst hx hb dX8_add_76 ?_
                refine lv_goto (tgt := 97) hx hb dX8_add_77 (by decide) ?_
                refine pf_X8_44 hx hb hg hown hK hP hD hS 0 0 rfl rfl rfl rfl (Nat.le_of_ble_eq_true rfl) dX8_add_97 (fun H locs hP hD hS => ?_)
                have hP : va_P D vwCl [[(mo, .inr (8, [.int (qI (2)), .ref (mz), .int (qI (((hz : Nat) : Int))), .ref (msv), .int (qI (((len : Nat) : Int))), .ref (mtx), .ref (mmo), .int (qI (tu)), .ref (mif), .ref (mmg), .ref (mtn), .ref (mie), .ref (mme), .int (qz (fi)), .int (qI (ro)), .int (qI (sp)), .int (qI (it)), .int (qz (bl)), .ref (mrd), .ref (mas), .long (hh)]))], [(mz, aI cy 115 (z))], [(msv, aI cy 920 (sd))], [(mtx, aI cy 60 (bf))], [(mmo, aI cy 121 (g))], [(mif, aZ cy 16 (isF))], [(mmg, aI cy 16 (mg))], [(mtn, aI cy 16 (tn))], [(mie, aZ cy 4 (isE))], [(mme, aI cy 4 (mE))], [(mrd, aI cy 100 (rd))], [(mas, aI cy 115 (as9))]].flatten H := hP
                have hD : va_D A [[(mo, .inr (8, [.int (qI (2)), .ref (mz), .int (qI (((hz : Nat) : Int))), .ref (msv), .int (qI (((len : Nat) : Int))), .ref (mtx), .ref (mmo), .int (qI (tu)), .ref (mif), .ref (mmg), .ref (mtn), .ref (mie), .ref (mme), .int (qz (fi)), .int (qI (ro)), .int (qI (sp)), .int (qI (it)), .int (qz (bl)), .ref (mrd), .ref (mas), .long (hh)]))], [(mz, aI cy 115 (z))], [(msv, aI cy 920 (sd))], [(mtx, aI cy 60 (bf))], [(mmo, aI cy 121 (g))], [(mif, aZ cy 16 (isF))], [(mmg, aI cy 16 (mg))], [(mtn, aI cy 16 (tn))], [(mie, aZ cy 4 (isE))], [(mme, aI cy 4 (mE))], [(mrd, aI cy 100 (rd))], [(mas, aI cy 115 (as9))]].flatten := hD
                refine lv_aload_n hx hb dX8_add_100 rfl (lv_at hl 2 rfl) ?_
                refine gf_X8_44 hx hb hg hown hK (fl_blk hP 0 rfl) 0 rfl rfl dX8_add_101 ?_
                refine q_if_le (tgt := 109) hx hb dX8_add_104 (by decide) (by omega) (fun c_104 => ?_) (fun c_104 => ?_)
                · skip
                  exact absurd c_104 (by decide)
                · skip
                  refine q_iconst hx hb dX8_add_107 ?_
                  have hP : va_P D vwCl [(mdB cy mo mz msv mtx mmo mif mmg mtn mie mme mrd mas (2) (hz) (len) (tu) (fi) (ro) (sp) (it) (bl) (hh) (z) (sd) (bf) (g) (isF) (mg) (tn) (isE) (mE) (rd) (as9)).flatten].flatten H := by rw [fl_open]; exact hP
                  have hD : va_D A [(mdB cy mo mz msv mtx mmo mif mmg mtn mie mme mrd mas (2) (hz) (len) (tu) (fi) (ro) (sp) (it) (bl) (hh) (z) (sd) (bf) (g) (isF) (mg) (tn) (isE) (mE) (rd) (as9)).flatten].flatten := by rw [fl_open]; exact hD
                  exact hQ _ _ _ _ _ ((mdB cy mo mz msv mtx mmo mif mmg mtn mie mme mrd mas (2) (hz) (len) (tu) (fi) (ro) (sp) (it) (bl) (hh) (z) (sd) (bf) (g) (isF) (mg) (tn) (isE) (mE) (rd) (as9)).flatten) ⟨(tu), (fi), (ro), (sp), (it), (bl), (hh), (z), (sd), (bf), (g), (isF), (mg), (tn), (isE), (mE), (rd), (as9), rfl, ⟨hL, hz20, hz101⟩, ⟨hhz, hHZ⟩, hln, hbf, htx⟩ hP hD hS dX8_add_108
            · skip
              exact absurd c_64 (by decide)
          · skip
            have g_43 := (h_40).mp c_43
            refine lv_iload hx hb dX8_add_46 (lv_at hl 6 rfl) ?_
            refine q_readz (va_runS (As := [.int (qI (p4))]) (rest := []) ⟨hx, hb, hml, hown, hg⟩ (c_X8_isStrength l D cy _ (by omega)) (cs_X8_101 hg rfl rfl ⟨by decide, by decide⟩) ⟨q_blind0, q_preR _ hK hN hP [] rfl⟩ rfl rfl hl.1 rfl (lv_room (Nat.le_of_ble_eq_true rfl)) dX8_add_48 ⟨by decide, by decide⟩) (fun b_48 h_48 => ?_)
            refine q_ifz_eq (tgt := 58) hx hb dX8_add_51 (by decide) (fun c_51 => ?_) (fun c_51 => ?_)
            · skip
              have g_51 := mt (h_48).mpr (by rw [c_51]; decide)
              refine q_iconst hx hb dX8_add_58 ?_
              refine lv_istore (lv' := [(7, .int (qI (0))), (6, .int (qI (1))), (0, .ref (mo)), (1, .int (qI (p0))), (2, .int (qI (p1))), (3, .int (qI (p2))), (4, .int (qI (p3))), (5, .int (qI (p4)))]) hx hb dX8_add_59 hl (by decide) rfl (fun ls hl => ?_)
              refine lv_aload_n hx hb dX8_add_61 rfl (lv_at hl 2 rfl) ?_
              refine lv_iload hx hb dX8_add_62 (lv_at hl 1 rfl) ?_
              refine q_if_ne (tgt := 71) hx hb dX8_add_64 (by decide) (by omega) (fun c_64 => ?_) (fun c_64 => ?_)
              · skip
                refine lv_iload hx hb dX8_add_71 (lv_at hl 0 rfl) ?_
                refine q_if_ne (tgt := 80) hx hb dX8_add_73 (by decide) (by omega) (fun c_73 => ?_) (fun c_73 => ?_)
                · skip
                  exact absurd c_73 (by decide)
                · skip
                  refine q_iconst hx hb dX8_add_76 ?_
                  refine lv_goto (tgt := 97) hx hb dX8_add_77 (by decide) ?_
                  refine pf_X8_44 hx hb hg hown hK hP hD hS 0 0 rfl rfl rfl rfl (Nat.le_of_ble_eq_true rfl) dX8_add_97 (fun H locs hP hD hS => ?_)
                  have hP : va_P D vwCl [[(mo, .inr (8, [.int (qI (2)), .ref (mz), .int (qI (((hz : Nat) : Int))), .ref (msv), .int (qI (((len : Nat) : Int))), .ref (mtx), .ref (mmo), .int (qI (tu)), .ref (mif), .ref (mmg), .ref (mtn), .ref (mie), .ref (mme), .int (qz (fi)), .int (qI (ro)), .int (qI (sp)), .int (qI (it)), .int (qz (bl)), .ref (mrd), .ref (mas), .long (hh)]))], [(mz, aI cy 115 (z))], [(msv, aI cy 920 (sd))], [(mtx, aI cy 60 (bf))], [(mmo, aI cy 121 (g))], [(mif, aZ cy 16 (isF))], [(mmg, aI cy 16 (mg))], [(mtn, aI cy 16 (tn))], [(mie, aZ cy 4 (isE))], [(mme, aI cy 4 (mE))], [(mrd, aI cy 100 (rd))], [(mas, aI cy 115 (as9))]].flatten H := hP
                  have hD : va_D A [[(mo, .inr (8, [.int (qI (2)), .ref (mz), .int (qI (((hz : Nat) : Int))), .ref (msv), .int (qI (((len : Nat) : Int))), .ref (mtx), .ref (mmo), .int (qI (tu)), .ref (mif), .ref (mmg), .ref (mtn), .ref (mie), .ref (mme), .int (qz (fi)), .int (qI (ro)), .int (qI (sp)), .int (qI (it)), .int (qz (bl)), .ref (mrd), .ref (mas), .long (hh)]))], [(mz, aI cy 115 (z))], [(msv, aI cy 920 (sd))], [(mtx, aI cy 60 (bf))], [(mmo, aI cy 121 (g))], [(mif, aZ cy 16 (isF))], [(mmg, aI cy 16 (mg))], [(mtn, aI cy 16 (tn))], [(mie, aZ cy 4 (isE))], [(mme, aI cy 4 (mE))], [(mrd, aI cy 100 (rd))], [(mas, aI cy 115 (as9))]].flatten := hD
                  refine lv_aload_n hx hb dX8_add_100 rfl (lv_at hl 2 rfl) ?_
                  refine gf_X8_44 hx hb hg hown hK (fl_blk hP 0 rfl) 0 rfl rfl dX8_add_101 ?_
                  refine q_if_le (tgt := 109) hx hb dX8_add_104 (by decide) (by omega) (fun c_104 => ?_) (fun c_104 => ?_)
                  · skip
                    exact absurd c_104 (by decide)
                  · skip
                    refine q_iconst hx hb dX8_add_107 ?_
                    have hP : va_P D vwCl [(mdB cy mo mz msv mtx mmo mif mmg mtn mie mme mrd mas (2) (hz) (len) (tu) (fi) (ro) (sp) (it) (bl) (hh) (z) (sd) (bf) (g) (isF) (mg) (tn) (isE) (mE) (rd) (as9)).flatten].flatten H := by rw [fl_open]; exact hP
                    have hD : va_D A [(mdB cy mo mz msv mtx mmo mif mmg mtn mie mme mrd mas (2) (hz) (len) (tu) (fi) (ro) (sp) (it) (bl) (hh) (z) (sd) (bf) (g) (isF) (mg) (tn) (isE) (mE) (rd) (as9)).flatten].flatten := by rw [fl_open]; exact hD
                    exact hQ _ _ _ _ _ ((mdB cy mo mz msv mtx mmo mif mmg mtn mie mme mrd mas (2) (hz) (len) (tu) (fi) (ro) (sp) (it) (bl) (hh) (z) (sd) (bf) (g) (isF) (mg) (tn) (isE) (mE) (rd) (as9)).flatten) ⟨(tu), (fi), (ro), (sp), (it), (bl), (hh), (z), (sd), (bf), (g), (isF), (mg), (tn), (isE), (mE), (rd), (as9), rfl, ⟨hL, hz20, hz101⟩, ⟨hhz, hHZ⟩, hln, hbf, htx⟩ hP hD hS dX8_add_108
              · skip
                exact absurd c_64 (by decide)
            · skip
              have g_51 := (h_48).mp c_51
              refine q_iconst hx hb dX8_add_54 ?_
              refine lv_goto (tgt := 59) hx hb dX8_add_55 (by decide) ?_
              refine lv_istore (lv' := [(7, .int (qI (1))), (6, .int (qI (1))), (0, .ref (mo)), (1, .int (qI (p0))), (2, .int (qI (p1))), (3, .int (qI (p2))), (4, .int (qI (p3))), (5, .int (qI (p4)))]) hx hb dX8_add_59 hl (by decide) rfl (fun ls hl => ?_)
              refine lv_aload_n hx hb dX8_add_61 rfl (lv_at hl 2 rfl) ?_
              refine lv_iload hx hb dX8_add_62 (lv_at hl 1 rfl) ?_
              refine q_if_ne (tgt := 71) hx hb dX8_add_64 (by decide) (by omega) (fun c_64 => ?_) (fun c_64 => ?_)
              · skip
                refine lv_iload hx hb dX8_add_71 (lv_at hl 0 rfl) ?_
                refine q_if_ne (tgt := 80) hx hb dX8_add_73 (by decide) (by omega) (fun c_73 => ?_) (fun c_73 => ?_)
                · skip
                  exfalso; omega
                · skip
                  exact absurd c_73 (by decide)
              · skip
                exact absurd c_64 (by decide)

set_option maxRecDepth 100000 in
set_option maxHeartbeats 4000000 in
theorem c_X8_add_no3 (l : Launch) (D : va_G) (cy : Nat → ClassId) (mo mz msv mtx mmo mif mmg mtn mie mme mrd mas : Nat) (T : LSt) (hz : Nat) (HZ : Nat → LSt) (len : Nat) (tx : Nat → Int) (th : Int) (W : va_W) (hG : gOk T) (hW : MW cy mo mz msv mtx mmo mif mmg mtn mie mme mrd mas T hz HZ len tx th W) (p0 p1 p2 p3 p4 : Int) (r0 : (-2147483648 ≤ p0 ∧ p0 < 2147483648)) (r1 : (-2147483648 ≤ p1 ∧ p1 < 2147483648)) (r2 : (-2147483648 ≤ p2 ∧ p2 < 2147483648)) (r3 : (-2147483648 ≤ p3 ∧ p3 < 2147483648)) (r4 : (-2147483648 ≤ p4 ∧ p4 < 2147483648)) (hx : (0 ≤ p0 ∧ p0 ≤ 9) ∧ (p1 = -1 ∨ (0 ≤ p1 ∧ p1 ≤ 9 ∧ p1 ≠ p0))) (hy : (0 ≤ p2 ∧ p2 ≤ 2) ∧ (-2000 ≤ p3 ∧ p3 ≤ 2000) ∧ (0 ≤ p4 ∧ p4 ≤ 3)) (hn : lN9 T = 16) (sz : Nat) : qMet l yX8_add (.code yX8_add cX8_add 8 (some .int)) 8 [.ref (mo), .int (qI (p0)), .int (qI (p1)), .int (qI (p2)), .int (qI (p3)), .int (qI (p4))] D cy [W] sz (va_Qi (S := va_W) (fun r u => MW cy mo mz msv mtx mmo mif mmg mtn mie mme mrd mas T hz HZ len tx 3 u) (qB D cy [W] sz (fun u => [u])) (va_A [W].flatten sz)) := by
  refine q_ofMi (S := va_W) (b1 := fun u => [u]) (post := fun r u => MW cy mo mz msv mtx mmo mif mmg mtn mie mme mrd mas T hz HZ len tx 3 u) (by decide +kernel) (Nat.le_of_ble_eq_true rfl) ?_
  intro p e s m args below meth c Q A hx hb hml hown hg hQ hK hN hD hA H locs ls hP hS hl
  have hown : s.vm.findClass RX8 = some m.cls := hown
  have hl : lv_has ls 8 [(0, .ref (mo)), (1, .int (qI (p0))), (2, .int (qI (p1))), (3, .int (qI (p2))), (4, .int (qI (p3))), (5, .int (qI (p4)))] := hl
  have hW0 := hW
  obtain ⟨tu, fi, ro, sp, it, bl, hh, z, sd, bf, g, isF, mg, tn, isE, mE, rd, as9, rfl, ⟨hL, hz20, hz101⟩, ⟨hhz, hHZ⟩, hln, hbf, htx⟩ := hW
  obtain ⟨gV, gT, gC, gE, gI, gD⟩ := hG.eq hL
  obtain ⟨nc, hnc⟩ : ∃ nc : Nat, z 20 = (nc : Int) := ⟨(z 20).toNat, by omega⟩
  obtain ⟨ne, hne⟩ : ∃ ne : Nat, z 101 = (ne : Int) := ⟨(z 101).toNat, by omega⟩
  have e20 : (z 20).toNat = nc := by omega
  have e101 : (z 101).toNat = ne := by omega
  have hV : qV z := gV
  have hst : ∀ i, i < 10 → 0 ≤ z (10 + i) ∧ z (10 + i) ≤ 9 := gT
  have hc : nc ≤ 16 := e20 ▸ (gC.1 : (z 20).toNat ≤ 16)
  have hC : qWR (zC z) nc := e20 ▸ (gC.2 : qWR (zC z) (z 20).toNat)
  have he : ne ≤ 4 := e101 ▸ (gE.1 : (z 101).toNat ≤ 4)
  have hE : qWR (zE z) ne := e101 ▸ (gE.2 : qWR (zE z) (z 101).toNat)
  have hD9 : ∀ i j, i < ne → j < ne → zE z 0 i = zE z 0 j → i = j := e101 ▸ (gD : ∀ i j, i < (z 101).toNat → j < (z 101).toNat → zE z 0 i = zE z 0 j → i = j)
  have hL2 : LEq (z, (fun i => z (10 + i)), zC z, nc, zE z, ne) T := by rw [← e20, ← e101]; exact hL
  have en : nc = lN9 T := hL2.2.2.1
  have em : ne = lM T := hL2.2.2.2.2.1
  rw [fl_open] at hP hD
  have hP : va_P D vwCl [[(mo, .inr (8, [.int (qI (th)), .ref (mz), .int (qI (((hz : Nat) : Int))), .ref (msv), .int (qI (((len : Nat) : Int))), .ref (mtx), .ref (mmo), .int (qI (tu)), .ref (mif), .ref (mmg), .ref (mtn), .ref (mie), .ref (mme), .int (qz (fi)), .int (qI (ro)), .int (qI (sp)), .int (qI (it)), .int (qz (bl)), .ref (mrd), .ref (mas), .long (hh)]))], [(mz, aI cy 115 (z))], [(msv, aI cy 920 (sd))], [(mtx, aI cy 60 (bf))], [(mmo, aI cy 121 (g))], [(mif, aZ cy 16 (isF))], [(mmg, aI cy 16 (mg))], [(mtn, aI cy 16 (tn))], [(mie, aZ cy 4 (isE))], [(mme, aI cy 4 (mE))], [(mrd, aI cy 100 (rd))], [(mas, aI cy 115 (as9))]].flatten H := hP
  have hD : va_D A [[(mo, .inr (8, [.int (qI (th)), .ref (mz), .int (qI (((hz : Nat) : Int))), .ref (msv), .int (qI (((len : Nat) : Int))), .ref (mtx), .ref (mmo), .int (qI (tu)), .ref (mif), .ref (mmg), .ref (mtn), .ref (mie), .ref (mme), .int (qz (fi)), .int (qI (ro)), .int (qI (sp)), .int (qI (it)), .int (qz (bl)), .ref (mrd), .ref (mas), .long (hh)]))], [(mz, aI cy 115 (z))], [(msv, aI cy 920 (sd))], [(mtx, aI cy 60 (bf))], [(mmo, aI cy 121 (g))], [(mif, aZ cy 16 (isF))], [(mmg, aI cy 16 (mg))], [(mtn, aI cy 16 (tn))], [(mie, aZ cy 4 (isE))], [(mme, aI cy 4 (mE))], [(mrd, aI cy 100 (rd))], [(mas, aI cy 115 (as9))]].flatten := hD
  refine lv_iload_n hx hb dX8_add_0 rfl (lv_at hl 1 rfl) ?_
  refine q_readz (va_runS (As := [.int (qI (p0))]) (rest := []) ⟨hx, hb, hml, hown, hg⟩ (c_X8_isPlace l D cy _ (by omega)) (cs_X8_94 hg rfl rfl ⟨by decide, by decide⟩) ⟨q_blind0, q_preR _ hK hN hP [] rfl⟩ rfl rfl hl.1 rfl (lv_room (Nat.le_of_ble_eq_true rfl)) dX8_add_1 ⟨by decide, by decide⟩) (fun b_1 h_1 => ?_)
  refine q_ifz_eq (tgt := 26) hx hb dX8_add_4 (by decide) (fun c_4 => ?_) (fun c_4 => ?_)
  · skip
    have g_4 := mt (h_1).mpr (by rw [c_4]; decide)
    exfalso; omega
  · skip
    have g_4 := (h_1).mp c_4
    refine lv_iload_n hx hb dX8_add_7 rfl (lv_at hl 2 rfl) ?_
    refine q_iconst hx hb dX8_add_8 ?_
    refine q_bipush hx hb dX8_add_9 (by decide) ?_
    refine q_readz (va_runS (As := [.int (qI (p1)), .int (qI (-1)), .int (qI (9))]) (rest := []) ⟨hx, hb, hml, hown, hg⟩ (c_X8_within l D cy _ _ _ (by omega)) (cs_X8_48 hg rfl rfl ⟨by decide, by decide⟩) ⟨q_blind0, q_preR _ hK hN hP [] rfl⟩ rfl rfl hl.1 rfl (lv_room (Nat.le_of_ble_eq_true rfl)) dX8_add_11 ⟨by decide, by decide⟩) (fun b_11 h_11 => ?_)
    refine q_ifz_eq (tgt := 26) hx hb dX8_add_14 (by decide) (fun c_14 => ?_) (fun c_14 => ?_)
    · skip
      have g_14 := mt (h_11).mpr (by rw [c_14]; decide)
      exfalso; omega
    · skip
      have g_14 := (h_11).mp c_14
      refine lv_iload_n hx hb dX8_add_17 rfl (lv_at hl 1 rfl) ?_
      refine lv_iload_n hx hb dX8_add_18 rfl (lv_at hl 2 rfl) ?_
      refine q_icmp_eq (tgt := 26) hx hb dX8_add_19 (by decide) (by omega) (fun c_19 => ?_) (fun c_19 => ?_)
      · skip
        exfalso; omega
      · skip
        refine q_iconst hx hb dX8_add_22 ?_
        refine lv_goto (tgt := 27) hx hb dX8_add_23 (by decide) ?_
        refine lv_istore (lv' := [(6, .int (qI (1))), (0, .ref (mo)), (1, .int (qI (p0))), (2, .int (qI (p1))), (3, .int (qI (p2))), (4, .int (qI (p3))), (5, .int (qI (p4)))]) hx hb dX8_add_27 hl (by decide) rfl (fun ls hl => ?_)
        refine lv_iload_n hx hb dX8_add_29 rfl (lv_at hl 4 rfl) ?_
        refine q_iconst hx hb dX8_add_30 ?_
        refine q_iconst hx hb dX8_add_31 ?_
        refine q_readz (va_runS (As := [.int (qI (p2)), .int (qI (0)), .int (qI (2))]) (rest := []) ⟨hx, hb, hml, hown, hg⟩ (c_X8_within l D cy _ _ _ (by omega)) (cs_X8_48 hg rfl rfl ⟨by decide, by decide⟩) ⟨q_blind0, q_preR _ hK hN hP [] rfl⟩ rfl rfl hl.1 rfl (lv_room (Nat.le_of_ble_eq_true rfl)) dX8_add_32 ⟨by decide, by decide⟩) (fun b_32 h_32 => ?_)
        refine q_ifz_eq (tgt := 58) hx hb dX8_add_35 (by decide) (fun c_35 => ?_) (fun c_35 => ?_)
        · skip
          have g_35 := mt (h_32).mpr (by rw [c_35]; decide)
          exfalso; omega
        · skip
          have g_35 := (h_32).mp c_35
          refine lv_iload hx hb dX8_add_38 (lv_at hl 5 rfl) ?_
          refine q_readz (va_runS (As := [.int (qI (p3))]) (rest := []) ⟨hx, hb, hml, hown, hg⟩ (c_X8_isNumber l D cy _ (by omega)) (cs_X8_98 hg rfl rfl ⟨by decide, by decide⟩) ⟨q_blind0, q_preR _ hK hN hP [] rfl⟩ rfl rfl hl.1 rfl (lv_room (Nat.le_of_ble_eq_true rfl)) dX8_add_40 ⟨by decide, by decide⟩) (fun b_40 h_40 => ?_)
          refine q_ifz_eq (tgt := 58) hx hb dX8_add_43 (by decide) (fun c_43 => ?_) (fun c_43 => ?_)
          · skip
            have g_43 := mt (h_40).mpr (by rw [c_43]; decide)
            exfalso; omega
          · skip
            have g_43 := (h_40).mp c_43
            refine lv_iload hx hb dX8_add_46 (lv_at hl 6 rfl) ?_
            refine q_readz (va_runS (As := [.int (qI (p4))]) (rest := []) ⟨hx, hb, hml, hown, hg⟩ (c_X8_isStrength l D cy _ (by omega)) (cs_X8_101 hg rfl rfl ⟨by decide, by decide⟩) ⟨q_blind0, q_preR _ hK hN hP [] rfl⟩ rfl rfl hl.1 rfl (lv_room (Nat.le_of_ble_eq_true rfl)) dX8_add_48 ⟨by decide, by decide⟩) (fun b_48 h_48 => ?_)
            refine q_ifz_eq (tgt := 58) hx hb dX8_add_51 (by decide) (fun c_51 => ?_) (fun c_51 => ?_)
            · skip
              have g_51 := mt (h_48).mpr (by rw [c_51]; decide)
              exfalso; omega
            · skip
              have g_51 := (h_48).mp c_51
              refine q_iconst hx hb dX8_add_54 ?_
              refine lv_goto (tgt := 59) hx hb dX8_add_55 (by decide) ?_
              refine lv_istore (lv' := [(7, .int (qI (1))), (6, .int (qI (1))), (0, .ref (mo)), (1, .int (qI (p0))), (2, .int (qI (p1))), (3, .int (qI (p2))), (4, .int (qI (p3))), (5, .int (qI (p4)))]) hx hb dX8_add_59 hl (by decide) rfl (fun ls hl => ?_)
              refine lv_aload_n hx hb dX8_add_61 rfl (lv_at hl 2 rfl) ?_
              refine lv_iload hx hb dX8_add_62 (lv_at hl 1 rfl) ?_
              refine q_if_ne (tgt := 71) hx hb dX8_add_64 (by decide) (by omega) (fun c_64 => ?_) (fun c_64 => ?_)
              · skip
                refine lv_iload hx hb dX8_add_71 (lv_at hl 0 rfl) ?_
                refine q_if_ne (tgt := 80) hx hb dX8_add_73 (by decide) (by omega) (fun c_73 => ?_) (fun c_73 => ?_)
                · skip
                  refine lv_aload_n hx hb dX8_add_80 rfl (lv_at hl 2 rfl) ?_
                  refine gf_X8_7 hx hb hg hown hK (fl_blk hP 0 rfl) 0 rfl rfl dX8_add_81 ?_
                  refine q_bipush hx hb dX8_add_84 (by decide) ?_
                  refine q_iald (j := 20) hx hb hK (fl_blk hP 1 rfl) 0 rfl (by omega) dX8_add_86 ?_
                  refine q_bipush hx hb dX8_add_87 (by decide) ?_
                  refine q_icmp_ne (tgt := 96) hx hb dX8_add_89 (by decide) (by omega) (fun c_89 => ?_) (fun c_89 => ?_)
                  · skip
                    exfalso; omega
                  · skip
                    refine q_iconst hx hb dX8_add_92 ?_
                    refine lv_goto (tgt := 97) hx hb dX8_add_93 (by decide) ?_
                    refine pf_X8_44 hx hb hg hown hK hP hD hS 0 0 rfl rfl rfl rfl (Nat.le_of_ble_eq_true rfl) dX8_add_97 (fun H locs hP hD hS => ?_)
                    have hP : va_P D vwCl [[(mo, .inr (8, [.int (qI (3)), .ref (mz), .int (qI (((hz : Nat) : Int))), .ref (msv), .int (qI (((len : Nat) : Int))), .ref (mtx), .ref (mmo), .int (qI (tu)), .ref (mif), .ref (mmg), .ref (mtn), .ref (mie), .ref (mme), .int (qz (fi)), .int (qI (ro)), .int (qI (sp)), .int (qI (it)), .int (qz (bl)), .ref (mrd), .ref (mas), .long (hh)]))], [(mz, aI cy 115 (z))], [(msv, aI cy 920 (sd))], [(mtx, aI cy 60 (bf))], [(mmo, aI cy 121 (g))], [(mif, aZ cy 16 (isF))], [(mmg, aI cy 16 (mg))], [(mtn, aI cy 16 (tn))], [(mie, aZ cy 4 (isE))], [(mme, aI cy 4 (mE))], [(mrd, aI cy 100 (rd))], [(mas, aI cy 115 (as9))]].flatten H := hP
                    have hD : va_D A [[(mo, .inr (8, [.int (qI (3)), .ref (mz), .int (qI (((hz : Nat) : Int))), .ref (msv), .int (qI (((len : Nat) : Int))), .ref (mtx), .ref (mmo), .int (qI (tu)), .ref (mif), .ref (mmg), .ref (mtn), .ref (mie), .ref (mme), .int (qz (fi)), .int (qI (ro)), .int (qI (sp)), .int (qI (it)), .int (qz (bl)), .ref (mrd), .ref (mas), .long (hh)]))], [(mz, aI cy 115 (z))], [(msv, aI cy 920 (sd))], [(mtx, aI cy 60 (bf))], [(mmo, aI cy 121 (g))], [(mif, aZ cy 16 (isF))], [(mmg, aI cy 16 (mg))], [(mtn, aI cy 16 (tn))], [(mie, aZ cy 4 (isE))], [(mme, aI cy 4 (mE))], [(mrd, aI cy 100 (rd))], [(mas, aI cy 115 (as9))]].flatten := hD
                    refine lv_aload_n hx hb dX8_add_100 rfl (lv_at hl 2 rfl) ?_
                    refine gf_X8_44 hx hb hg hown hK (fl_blk hP 0 rfl) 0 rfl rfl dX8_add_101 ?_
                    refine q_if_le (tgt := 109) hx hb dX8_add_104 (by decide) (by omega) (fun c_104 => ?_) (fun c_104 => ?_)
                    · skip
                      exact absurd c_104 (by decide)
                    · skip
                      refine q_iconst hx hb dX8_add_107 ?_
                      have hP : va_P D vwCl [(mdB cy mo mz msv mtx mmo mif mmg mtn mie mme mrd mas (3) (hz) (len) (tu) (fi) (ro) (sp) (it) (bl) (hh) (z) (sd) (bf) (g) (isF) (mg) (tn) (isE) (mE) (rd) (as9)).flatten].flatten H := by rw [fl_open]; exact hP
                      have hD : va_D A [(mdB cy mo mz msv mtx mmo mif mmg mtn mie mme mrd mas (3) (hz) (len) (tu) (fi) (ro) (sp) (it) (bl) (hh) (z) (sd) (bf) (g) (isF) (mg) (tn) (isE) (mE) (rd) (as9)).flatten].flatten := by rw [fl_open]; exact hD
                      exact hQ _ _ _ _ _ ((mdB cy mo mz msv mtx mmo mif mmg mtn mie mme mrd mas (3) (hz) (len) (tu) (fi) (ro) (sp) (it) (bl) (hh) (z) (sd) (bf) (g) (isF) (mg) (tn) (isE) (mE) (rd) (as9)).flatten) ⟨(tu), (fi), (ro), (sp), (it), (bl), (hh), (z), (sd), (bf), (g), (isF), (mg), (tn), (isE), (mE), (rd), (as9), rfl, ⟨hL, hz20, hz101⟩, ⟨hhz, hHZ⟩, hln, hbf, htx⟩ hP hD hS dX8_add_108
                · skip
                  exact absurd c_73 (by decide)
              · skip
                exact absurd c_64 (by decide)
