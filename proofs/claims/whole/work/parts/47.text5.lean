theorem mr_0 {bl : Bool} {rd : Nat → Int} : mRd rd0 0 0 bl rd := ⟨rfl, rfl, fun z => absurd rfl z, fun z => absurd (show (4 : Int) ≤ 0 from z) (by decide), fun z => absurd (show (6 : Int) ≤ 0 from z) (by decide), fun g i _ hi => absurd hi (Nat.not_lt_zero i)⟩

set_option maxRecDepth 100000 in
set_option maxHeartbeats 4000000 in
theorem c_X8_takes (l : Launch) (D : va_G) (cy : Nat → ClassId) (mo mz msv mtx mmo mif mmg mtn mie mme mrd mas : Nat) (th sv ml tu : Int) (fi : Bool) (ro sp : Int) (k : Nat) (bl : Bool) (hh : Int64) (rd : Nat → Int) (c9 : Int) (hc : 33 ≤ c9 ∧ c9 ≤ 126) (U : RS) (N : Nat) (hm : mRd U sp k bl rd) (hI : rdI U N) (hN : N ≤ 60) (sz : Nat) : qMet l yX8_takes (.code yX8_takes cX8_takes 2 (some .boolean)) 4 [.ref (mo), .int (qI (c9))] D cy [[(mo, .inr (8, [.int (qI (th)), .ref (mz), .int (qI (sv)), .ref (msv), .int (qI (ml)), .ref (mtx), .ref (mmo), .int (qI (tu)), .ref (mif), .ref (mmg), .ref (mtn), .ref (mie), .ref (mme), .int (qz (fi)), .int (qI (ro)), .int (qI (sp)), .int (qI (((k : Nat) : Int))), .int (qz (bl)), .ref (mrd), .ref (mas), .long (hh)]))], [(mrd, aI cy 100 (rd))]] sz (va_Qi (S := Int × Nat × Bool × (Nat → Int)) (fun r u => ∃ b : Bool, r = qz b ∧ (fun b u => (b = true ↔ rdOk (uA U) c9 (uL U) (uN U)) ∧ (b = true → mRd (rdNx c9 U) (u.1) (u.2.1) (u.2.2.1) (u.2.2.2))) b u) (qB D cy [[(mo, .inr (8, [.int (qI (th)), .ref (mz), .int (qI (sv)), .ref (msv), .int (qI (ml)), .ref (mtx), .ref (mmo), .int (qI (tu)), .ref (mif), .ref (mmg), .ref (mtn), .ref (mie), .ref (mme), .int (qz (fi)), .int (qI (ro)), .int (qI (sp)), .int (qI (((k : Nat) : Int))), .int (qz (bl)), .ref (mrd), .ref (mas), .long (hh)]))], [(mrd, aI cy 100 (rd))]] sz (fun u => [[(mo, .inr (8, [.int (qI (th)), .ref (mz), .int (qI (sv)), .ref (msv), .int (qI (ml)), .ref (mtx), .ref (mmo), .int (qI (tu)), .ref (mif), .ref (mmg), .ref (mtn), .ref (mie), .ref (mme), .int (qz (fi)), .int (qI (ro)), .int (qI (u.1)), .int (qI (((u.2.1 : Nat) : Int))), .int (qz (u.2.2.1)), .ref (mrd), .ref (mas), .long (hh)]))], [(mrd, aI cy 100 (u.2.2.2))]])) (va_A [[(mo, .inr (8, [.int (qI (th)), .ref (mz), .int (qI (sv)), .ref (msv), .int (qI (ml)), .ref (mtx), .ref (mmo), .int (qI (tu)), .ref (mif), .ref (mmg), .ref (mtn), .ref (mie), .ref (mme), .int (qz (fi)), .int (qI (ro)), .int (qI (sp)), .int (qI (((k : Nat) : Int))), .int (qz (bl)), .ref (mrd), .ref (mas), .long (hh)]))], [(mrd, aI cy 100 (rd))]].flatten sz)) := by
  refine q_ofMz (S := Int × Nat × Bool × (Nat → Int)) (b1 := fun u => [[(mo, .inr (8, [.int (qI (th)), .ref (mz), .int (qI (sv)), .ref (msv), .int (qI (ml)), .ref (mtx), .ref (mmo), .int (qI (tu)), .ref (mif), .ref (mmg), .ref (mtn), .ref (mie), .ref (mme), .int (qz (fi)), .int (qI (ro)), .int (qI (u.1)), .int (qI (((u.2.1 : Nat) : Int))), .int (qz (u.2.2.1)), .ref (mrd), .ref (mas), .long (hh)]))], [(mrd, aI cy 100 (u.2.2.2))]]) (post := fun b u => (b = true ↔ rdOk (uA U) c9 (uL U) (uN U)) ∧ (b = true → mRd (rdNx c9 U) (u.1) (u.2.1) (u.2.2.1) (u.2.2.2))) (by decide +kernel) (Nat.le_of_ble_eq_true rfl) ?_
  intro p e s m args below meth c Q A hx hb hml hown hg hQ hK hN hD hA H locs ls hP hS hl
  have hown : s.vm.findClass RX8 = some m.cls := hown
  have hl : lv_has ls 2 [(0, .ref (mo)), (1, .int (qI (c9)))] := hl
  obtain ⟨hm1, hm2, hm3, hm4, hm5, hm6⟩ := hm
  have hm : mRd U sp k bl rd := ⟨hm1, hm2, hm3, hm4, hm5, hm6⟩
  have hA9 := hI.1
  have i2 := hI.2.1
  have i5 := hI.2.2.2.2.1
  have i6 := hI.2.2.2.2.2.1
  have i10 := hI.2.2.2.2.2.2.2.2.2.1
  have i11 := mnA_nn (uA U)
  have hk : k < 16 := by omega
  have ua : (uA U ≤ 6 ∧ sp = uA U) ∨ (6 < uA U ∧ sp = uA U - 1) := by rw [hm1]; unfold stp; split <;> omega
  refine lv_aload_n hx hb dX8_takes_0 rfl (lv_at hl 0 rfl) ?_
  refine gf_X8_132 hx hb hg hown hK (fl_blk hP 0 rfl) 0 rfl rfl dX8_takes_1 ?_
  rcases (show sp = 0 ∨ sp = 1 ∨ sp = 2 ∨ sp = 3 ∨ sp = 4 ∨ sp = 5 ∨ sp = 6 ∨ sp = 7 ∨ (sp < 0 ∨ 7 < sp) by omega) with c_4 | c_4 | c_4 | c_4 | c_4 | c_4 | c_4 | c_4 | c_4
  · refine q_tableIn (off := 48) (tgt := 52) hx hb (0) c_4 dX8_takes_4 (by decide) ?_
    have ea : uA U = 0 := by omega
    refine lv_aload_n hx hb dX8_takes_52 rfl (lv_at hl 0 rfl) ?_
    refine gf_X8_38 hx hb hg hown hK (fl_blk hP 0 rfl) 0 rfl rfl dX8_takes_53 ?_
    refine q_iconst hx hb dX8_takes_56 ?_
    refine lv_aload_n hx hb dX8_takes_57 rfl (lv_at hl 0 rfl) ?_
    refine gf_X8_135 hx hb hg hown hK (fl_blk hP 0 rfl) 0 rfl rfl dX8_takes_58 ?_
    refine q_imul hx hb dX8_takes_61 ?_
    refine q_iconst hx hb dX8_takes_62 ?_
    refine q_iadd hx hb dX8_takes_63 ?_
    refine q_iconst hx hb dX8_takes_64 ?_
    refine qb_iast (j := ((5 * k) + 1)) hx hb hK hP hD hS 1 0 rfl rfl (by omega) dX8_takes_65 (fun H locs hP hD hS => ?_)
    have hP : va_P D vwCl [[(mo, .inr (8, [.int (qI (th)), .ref (mz), .int (qI (sv)), .ref (msv), .int (qI (ml)), .ref (mtx), .ref (mmo), .int (qI (tu)), .ref (mif), .ref (mmg), .ref (mtn), .ref (mie), .ref (mme), .int (qz (fi)), .int (qI (ro)), .int (qI (sp)), .int (qI (((k : Nat) : Int))), .int (qz (bl)), .ref (mrd), .ref (mas), .long (hh)]))], [(mrd, aI cy 100 (qu rd ((5 * k) + 1) (-1)))]].flatten H := hP
    have hD : va_D A [[(mo, .inr (8, [.int (qI (th)), .ref (mz), .int (qI (sv)), .ref (msv), .int (qI (ml)), .ref (mtx), .ref (mmo), .int (qI (tu)), .ref (mif), .ref (mmg), .ref (mtn), .ref (mie), .ref (mme), .int (qz (fi)), .int (qI (ro)), .int (qI (sp)), .int (qI (((k : Nat) : Int))), .int (qz (bl)), .ref (mrd), .ref (mas), .long (hh)]))], [(mrd, aI cy 100 (qu rd ((5 * k) + 1) (-1)))]].flatten := hD
    refine lv_aload_n hx hb dX8_takes_66 rfl (lv_at hl 0 rfl) ?_
    refine gf_X8_38 hx hb hg hown hK (fl_blk hP 0 rfl) 0 rfl rfl dX8_takes_67 ?_
    refine q_iconst hx hb dX8_takes_70 ?_
    refine lv_aload_n hx hb dX8_takes_71 rfl (lv_at hl 0 rfl) ?_
    refine gf_X8_135 hx hb hg hown hK (fl_blk hP 0 rfl) 0 rfl rfl dX8_takes_72 ?_
    refine q_imul hx hb dX8_takes_75 ?_
    refine q_iconst hx hb dX8_takes_76 ?_
    refine q_iadd hx hb dX8_takes_77 ?_
    refine q_iconst hx hb dX8_takes_78 ?_
    refine qb_iast (j := ((5 * k) + 4)) hx hb hK hP hD hS 1 0 rfl rfl (by omega) dX8_takes_79 (fun H locs hP hD hS => ?_)
    have hP : va_P D vwCl [[(mo, .inr (8, [.int (qI (th)), .ref (mz), .int (qI (sv)), .ref (msv), .int (qI (ml)), .ref (mtx), .ref (mmo), .int (qI (tu)), .ref (mif), .ref (mmg), .ref (mtn), .ref (mie), .ref (mme), .int (qz (fi)), .int (qI (ro)), .int (qI (sp)), .int (qI (((k : Nat) : Int))), .int (qz (bl)), .ref (mrd), .ref (mas), .long (hh)]))], [(mrd, aI cy 100 (qu (qu rd ((5 * k) + 1) (-1)) ((5 * k) + 4) (1)))]].flatten H := hP
    have hD : va_D A [[(mo, .inr (8, [.int (qI (th)), .ref (mz), .int (qI (sv)), .ref (msv), .int (qI (ml)), .ref (mtx), .ref (mmo), .int (qI (tu)), .ref (mif), .ref (mmg), .ref (mtn), .ref (mie), .ref (mme), .int (qz (fi)), .int (qI (ro)), .int (qI (sp)), .int (qI (((k : Nat) : Int))), .int (qz (bl)), .ref (mrd), .ref (mas), .long (hh)]))], [(mrd, aI cy 100 (qu (qu rd ((5 * k) + 1) (-1)) ((5 * k) + 4) (1)))]].flatten := hD
    refine lv_aload_n hx hb dX8_takes_80 rfl (lv_at hl 0 rfl) ?_
    refine lv_iload_n hx hb dX8_takes_81 rfl (lv_at hl 1 rfl) ?_
    refine q_iconst hx hb dX8_takes_82 ?_
    refine q_iconst hx hb dX8_takes_83 ?_
    refine q_backz [0, 1] [] (br := []) hP hD hS hA (va_runV (As := [.int (qI (c9)), .int (qI (0)), .int (qI (1))]) (rest := []) ⟨hx, hb, hml, hown, hg⟩ (c_X8_takesPlace l D cy mo mz msv mtx mmo mif mmg mtn mie mme mrd mas (th) (sv) (ml) (tu) (fi) (ro) (sp) (k) (bl) (hh) (qu (qu rd ((5 * k) + 1) (-1)) ((5 * k) + 4) (1)) (c9) 0 (1) hc hk (Or.inl rfl) (fun z => absurd z (by decide)) _) (cv_X8_151 hg rfl rfl ⟨by decide, by decide⟩) ⟨q_blind, va_recv hK (fl_blk hP 0 rfl) (ci := 8) (q0 := 0) rfl rfl, q_preM _ hK hN hP hD [0, 1] (by decide) rfl⟩ rfl rfl hl.1 rfl (lv_room (Nat.le_of_ble_eq_true rfl)) dX8_takes_84 ⟨by decide, by decide⟩) rfl rfl (by decide) (fun b_84 u_84 H locs h_84 hP hD hS => ?_)
    have hP : va_P D vwCl [[(mo, .inr (8, [.int (qI (th)), .ref (mz), .int (qI (sv)), .ref (msv), .int (qI (ml)), .ref (mtx), .ref (mmo), .int (qI (tu)), .ref (mif), .ref (mmg), .ref (mtn), .ref (mie), .ref (mme), .int (qz (fi)), .int (qI (ro)), .int (qI (u_84.1)), .int (qI (((k : Nat) : Int))), .int (qz (bl)), .ref (mrd), .ref (mas), .long (hh)]))], [(mrd, aI cy 100 (u_84.2))]].flatten H := hP
    have hD : va_D A [[(mo, .inr (8, [.int (qI (th)), .ref (mz), .int (qI (sv)), .ref (msv), .int (qI (ml)), .ref (mtx), .ref (mmo), .int (qI (tu)), .ref (mif), .ref (mmg), .ref (mtn), .ref (mie), .ref (mme), .int (qz (fi)), .int (qI (ro)), .int (qI (u_84.1)), .int (qI (((k : Nat) : Int))), .int (qz (bl)), .ref (mrd), .ref (mas), .long (hh)]))], [(mrd, aI cy 100 (u_84.2))]].flatten := hD
    exact hQ _ _ _ _ b_84 (u_84.1, k, bl, u_84.2) ⟨h_84.1.trans (by rw [ea, rdOk_0]; omega), fun z => by rw [(h_84.2 z).1, (h_84.2 z).2]; exact mr_left hm ea⟩ hP hD hS dX8_takes_87
  · refine q_tableIn (off := 84) (tgt := 88) hx hb (1) c_4 dX8_takes_4 (by decide) ?_
    have ea : uA U = 1 := by omega
    refine lv_aload_n hx hb dX8_takes_88 rfl (lv_at hl 0 rfl) ?_
    refine lv_iload_n hx hb dX8_takes_89 rfl (lv_at hl 1 rfl) ?_
    refine q_bipush hx hb dX8_takes_90 (by decide) ?_
    refine q_icmp_ne (tgt := 99) hx hb dX8_takes_92 (by decide) (by omega) (fun c_92 => ?_) (fun c_92 => ?_)
    · skip
      refine q_iconst hx hb dX8_takes_99 ?_
      refine q_bool (b := false) rfl ?_
      refine q_iconst hx hb dX8_takes_100 ?_
      refine q_backz [0] [1] (br := [[(mrd, aI cy 100 (rd))]]) hP hD hS hA (va_runV (As := [.int (qz (false)), .int (qI (2))]) (rest := []) ⟨hx, hb, hml, hown, hg⟩ (c_X8_goes l D cy mo mz msv mtx mmo mif mmg mtn mie mme mrd mas (th) (sv) (ml) (tu) (fi) (ro) (sp) (k) (bl) (hh) (false) (2) _) (cv_X8_138 hg rfl rfl ⟨by decide, by decide⟩) ⟨q_blind, va_recv hK (fl_blk hP 0 rfl) (ci := 8) (q0 := 0) rfl rfl, q_preM _ hK hN hP hD [0] (by decide) rfl⟩ rfl rfl hl.1 rfl (lv_room (Nat.le_of_ble_eq_true rfl)) dX8_takes_101 ⟨by decide, by decide⟩) rfl rfl (by decide) (fun b_101 u_101 H locs h_101 hP hD hS => ?_)
      have hP : va_P D vwCl [[(mrd, aI cy 100 (rd))], [(mo, .inr (8, [.int (qI (th)), .ref (mz), .int (qI (sv)), .ref (msv), .int (qI (ml)), .ref (mtx), .ref (mmo), .int (qI (tu)), .ref (mif), .ref (mmg), .ref (mtn), .ref (mie), .ref (mme), .int (qz (fi)), .int (qI (ro)), .int (qI (u_101)), .int (qI (((k : Nat) : Int))), .int (qz (bl)), .ref (mrd), .ref (mas), .long (hh)]))]].flatten H := hP
      have hD : va_D A [[(mrd, aI cy 100 (rd))], [(mo, .inr (8, [.int (qI (th)), .ref (mz), .int (qI (sv)), .ref (msv), .int (qI (ml)), .ref (mtx), .ref (mmo), .int (qI (tu)), .ref (mif), .ref (mmg), .ref (mtn), .ref (mie), .ref (mme), .int (qz (fi)), .int (qI (ro)), .int (qI (u_101)), .int (qI (((k : Nat) : Int))), .int (qz (bl)), .ref (mrd), .ref (mas), .long (hh)]))]].flatten := hD
      obtain ⟨rfl, h_101⟩ := h_101
      refine q_ifz_ne (tgt := 115) hx hb dX8_takes_104 (by decide) (fun c_104 => ?_) (fun c_104 => ?_)
      · skip
        exact absurd c_104 (by decide)
      · skip
        refine lv_aload_n hx hb dX8_takes_107 rfl (lv_at hl 0 rfl) ?_
        refine lv_iload_n hx hb dX8_takes_108 rfl (lv_at hl 1 rfl) ?_
        refine q_backz [1, 0] [] (br := []) hP hD hS hA (va_runV (As := [.int (qI (c9))]) (rest := []) ⟨hx, hb, hml, hown, hg⟩ (c_X8_takesSign l D cy mo mz msv mtx mmo mif mmg mtn mie mme mrd mas (th) (sv) (ml) (tu) (fi) (ro) (u_101) (k) (bl) (hh) (rd) (c9) hc hk _) (cv_X8_154 hg rfl rfl ⟨by decide, by decide⟩) ⟨q_blind, va_recv hK (fl_blk hP 1 rfl) (ci := 8) (q0 := 0) rfl rfl, q_preM _ hK hN hP hD [1, 0] (by decide) rfl⟩ rfl rfl hl.1 rfl (lv_room (Nat.le_of_ble_eq_true rfl)) dX8_takes_109 ⟨by decide, by decide⟩) rfl rfl (by decide) (fun b_109 u_109 H locs h_109 hP hD hS => ?_)
        have hP : va_P D vwCl [[(mo, .inr (8, [.int (qI (th)), .ref (mz), .int (qI (sv)), .ref (msv), .int (qI (ml)), .ref (mtx), .ref (mmo), .int (qI (tu)), .ref (mif), .ref (mmg), .ref (mtn), .ref (mie), .ref (mme), .int (qz (fi)), .int (qI (ro)), .int (qI (u_109.1)), .int (qI (((k : Nat) : Int))), .int (qz (false)), .ref (mrd), .ref (mas), .long (hh)]))], [(mrd, aI cy 100 (u_109.2))]].flatten H := hP
        have hD : va_D A [[(mo, .inr (8, [.int (qI (th)), .ref (mz), .int (qI (sv)), .ref (msv), .int (qI (ml)), .ref (mtx), .ref (mmo), .int (qI (tu)), .ref (mif), .ref (mmg), .ref (mtn), .ref (mie), .ref (mme), .int (qz (fi)), .int (qI (ro)), .int (qI (u_109.1)), .int (qI (((k : Nat) : Int))), .int (qz (false)), .ref (mrd), .ref (mas), .long (hh)]))], [(mrd, aI cy 100 (u_109.2))]].flatten := hD
        refine q_ifz_eq (tgt := 119) hx hb dX8_takes_112 (by decide) (fun c_112 => ?_) (fun c_112 => ?_)
        · skip
          have g_112 := mt (h_109.1).mpr (by rw [c_112]; decide)
          refine q_iconst hx hb dX8_takes_119 ?_
          exact hQ _ _ _ _ false (u_109.1, k, false, u_109.2) ⟨iff_of_false (by decide) (by rw [ea, rdOk_1]; omega), fun z => absurd z (by decide)⟩ hP hD hS dX8_takes_120
        · skip
          have g_112 := (h_109.1).mp c_112
          refine q_iconst hx hb dX8_takes_115 ?_
          refine lv_goto (tgt := 120) hx hb dX8_takes_116 (by decide) ?_
          exact hQ _ _ _ _ true (u_109.1, k, false, u_109.2) ⟨iff_of_true rfl (by rw [ea, rdOk_1]; omega), fun _ => by rw [(h_109.2 c_112).1, (h_109.2 c_112).2]; exact mr_sign hm (Or.inl ea) (h_109.1.mp c_112) hI⟩ hP hD hS dX8_takes_120
    · skip
      refine q_iconst hx hb dX8_takes_95 ?_
      refine lv_goto (tgt := 100) hx hb dX8_takes_96 (by decide) ?_
      refine q_bool (b := true) rfl ?_
      refine q_iconst hx hb dX8_takes_100 ?_
      refine q_backz [0] [1] (br := [[(mrd, aI cy 100 (rd))]]) hP hD hS hA (va_runV (As := [.int (qz (true)), .int (qI (2))]) (rest := []) ⟨hx, hb, hml, hown, hg⟩ (c_X8_goes l D cy mo mz msv mtx mmo mif mmg mtn mie mme mrd mas (th) (sv) (ml) (tu) (fi) (ro) (sp) (k) (bl) (hh) (true) (2) _) (cv_X8_138 hg rfl rfl ⟨by decide, by decide⟩) ⟨q_blind, va_recv hK (fl_blk hP 0 rfl) (ci := 8) (q0 := 0) rfl rfl, q_preM _ hK hN hP hD [0] (by decide) rfl⟩ rfl rfl hl.1 rfl (lv_room (Nat.le_of_ble_eq_true rfl)) dX8_takes_101 ⟨by decide, by decide⟩) rfl rfl (by decide) (fun b_101 u_101 H locs h_101 hP hD hS => ?_)
      have hP : va_P D vwCl [[(mrd, aI cy 100 (rd))], [(mo, .inr (8, [.int (qI (th)), .ref (mz), .int (qI (sv)), .ref (msv), .int (qI (ml)), .ref (mtx), .ref (mmo), .int (qI (tu)), .ref (mif), .ref (mmg), .ref (mtn), .ref (mie), .ref (mme), .int (qz (fi)), .int (qI (ro)), .int (qI (u_101)), .int (qI (((k : Nat) : Int))), .int (qz (bl)), .ref (mrd), .ref (mas), .long (hh)]))]].flatten H := hP
      have hD : va_D A [[(mrd, aI cy 100 (rd))], [(mo, .inr (8, [.int (qI (th)), .ref (mz), .int (qI (sv)), .ref (msv), .int (qI (ml)), .ref (mtx), .ref (mmo), .int (qI (tu)), .ref (mif), .ref (mmg), .ref (mtn), .ref (mie), .ref (mme), .int (qz (fi)), .int (qI (ro)), .int (qI (u_101)), .int (qI (((k : Nat) : Int))), .int (qz (bl)), .ref (mrd), .ref (mas), .long (hh)]))]].flatten := hD
      obtain ⟨rfl, h_101⟩ := h_101
      refine q_ifz_ne (tgt := 115) hx hb dX8_takes_104 (by decide) (fun c_104 => ?_) (fun c_104 => ?_)
      · skip
        refine q_iconst hx hb dX8_takes_115 ?_
        refine lv_goto (tgt := 120) hx hb dX8_takes_116 (by decide) ?_
        have hP := fl_sub (bs' := [[(mo, .inr (8, [.int (qI (th)), .ref (mz), .int (qI (sv)), .ref (msv), .int (qI (ml)), .ref (mtx), .ref (mmo), .int (qI (tu)), .ref (mif), .ref (mmg), .ref (mtn), .ref (mie), .ref (mme), .int (qz (fi)), .int (qI (ro)), .int (qI (u_101)), .int (qI (((k : Nat) : Int))), .int (qz (bl)), .ref (mrd), .ref (mas), .long (hh)]))], [(mrd, aI cy 100 (rd))]]) hP [1, 0] rfl
        have hD := fl_subD (bs' := [[(mo, .inr (8, [.int (qI (th)), .ref (mz), .int (qI (sv)), .ref (msv), .int (qI (ml)), .ref (mtx), .ref (mmo), .int (qI (tu)), .ref (mif), .ref (mmg), .ref (mtn), .ref (mie), .ref (mme), .int (qz (fi)), .int (qI (ro)), .int (qI (u_101)), .int (qI (((k : Nat) : Int))), .int (qz (bl)), .ref (mrd), .ref (mas), .long (hh)]))], [(mrd, aI cy 100 (rd))]]) hD [1, 0] (by decide) rfl
        exact hQ _ _ _ _ true (u_101, k, bl, rd) ⟨iff_of_true rfl (by rw [ea, rdOk_1]; omega), fun _ => by rw [h_101]; exact mr_minus hm ea (by omega) hI⟩ hP hD hS dX8_takes_120
      · skip
        exact absurd c_104 (by decide)
  · refine q_tableIn (off := 117) (tgt := 121) hx hb (2) c_4 dX8_takes_4 (by decide) ?_
    have ea : uA U = 2 := by omega
    have q3 : rd (5 * k + 0) = uL U := (hm3 (by omega)).1
    refine lv_aload_n hx hb dX8_takes_121 rfl (lv_at hl 0 rfl) ?_
    refine lv_iload_n hx hb dX8_takes_122 rfl (lv_at hl 1 rfl) ?_
    refine q_iconst hx hb dX8_takes_123 ?_
    refine q_iconst hx hb dX8_takes_124 ?_
    refine q_backz [0, 1] [] (br := []) hP hD hS hA (va_runV (As := [.int (qI (c9)), .int (qI (1)), .int (qI (3))]) (rest := []) ⟨hx, hb, hml, hown, hg⟩ (c_X8_takesPlace l D cy mo mz msv mtx mmo mif mmg mtn mie mme mrd mas (th) (sv) (ml) (tu) (fi) (ro) (sp) (k) (bl) (hh) (rd) (c9) 1 (3) hc hk (Or.inr rfl) (fun _ => by rw [q3]; omega) _) (cv_X8_151 hg rfl rfl ⟨by decide, by decide⟩) ⟨q_blind, va_recv hK (fl_blk hP 0 rfl) (ci := 8) (q0 := 0) rfl rfl, q_preM _ hK hN hP hD [0, 1] (by decide) rfl⟩ rfl rfl hl.1 rfl (lv_room (Nat.le_of_ble_eq_true rfl)) dX8_takes_125 ⟨by decide, by decide⟩) rfl rfl (by decide) (fun b_125 u_125 H locs h_125 hP hD hS => ?_)
    have hP : va_P D vwCl [[(mo, .inr (8, [.int (qI (th)), .ref (mz), .int (qI (sv)), .ref (msv), .int (qI (ml)), .ref (mtx), .ref (mmo), .int (qI (tu)), .ref (mif), .ref (mmg), .ref (mtn), .ref (mie), .ref (mme), .int (qz (fi)), .int (qI (ro)), .int (qI (u_125.1)), .int (qI (((k : Nat) : Int))), .int (qz (bl)), .ref (mrd), .ref (mas), .long (hh)]))], [(mrd, aI cy 100 (u_125.2))]].flatten H := hP
    have hD : va_D A [[(mo, .inr (8, [.int (qI (th)), .ref (mz), .int (qI (sv)), .ref (msv), .int (qI (ml)), .ref (mtx), .ref (mmo), .int (qI (tu)), .ref (mif), .ref (mmg), .ref (mtn), .ref (mie), .ref (mme), .int (qz (fi)), .int (qI (ro)), .int (qI (u_125.1)), .int (qI (((k : Nat) : Int))), .int (qz (bl)), .ref (mrd), .ref (mas), .long (hh)]))], [(mrd, aI cy 100 (u_125.2))]].flatten := hD
    exact hQ _ _ _ _ b_125 (u_125.1, k, bl, u_125.2) ⟨h_125.1.trans (by rw [ea, rdOk_2, ← q3]; omega), fun z => by rw [(h_125.2 z).1, (h_125.2 z).2]; exact mr_right hm ea⟩ hP hD hS dX8_takes_128
  · refine q_tableIn (off := 125) (tgt := 129) hx hb (3) c_4 dX8_takes_4 (by decide) ?_
    have ea : uA U = 3 := by omega
    refine lv_aload_n hx hb dX8_takes_129 rfl (lv_at hl 0 rfl) ?_
    refine lv_iload_n hx hb dX8_takes_130 rfl (lv_at hl 1 rfl) ?_
    refine q_backz [0, 1] [] (br := []) hP hD hS hA (va_runV (As := [.int (qI (c9))]) (rest := []) ⟨hx, hb, hml, hown, hg⟩ (c_X8_takesSign l D cy mo mz msv mtx mmo mif mmg mtn mie mme mrd mas (th) (sv) (ml) (tu) (fi) (ro) (sp) (k) (bl) (hh) (rd) (c9) hc hk _) (cv_X8_154 hg rfl rfl ⟨by decide, by decide⟩) ⟨q_blind, va_recv hK (fl_blk hP 0 rfl) (ci := 8) (q0 := 0) rfl rfl, q_preM _ hK hN hP hD [0, 1] (by decide) rfl⟩ rfl rfl hl.1 rfl (lv_room (Nat.le_of_ble_eq_true rfl)) dX8_takes_131 ⟨by decide, by decide⟩) rfl rfl (by decide) (fun b_131 u_131 H locs h_131 hP hD hS => ?_)
    have hP : va_P D vwCl [[(mo, .inr (8, [.int (qI (th)), .ref (mz), .int (qI (sv)), .ref (msv), .int (qI (ml)), .ref (mtx), .ref (mmo), .int (qI (tu)), .ref (mif), .ref (mmg), .ref (mtn), .ref (mie), .ref (mme), .int (qz (fi)), .int (qI (ro)), .int (qI (u_131.1)), .int (qI (((k : Nat) : Int))), .int (qz (false)), .ref (mrd), .ref (mas), .long (hh)]))], [(mrd, aI cy 100 (u_131.2))]].flatten H := hP
    have hD : va_D A [[(mo, .inr (8, [.int (qI (th)), .ref (mz), .int (qI (sv)), .ref (msv), .int (qI (ml)), .ref (mtx), .ref (mmo), .int (qI (tu)), .ref (mif), .ref (mmg), .ref (mtn), .ref (mie), .ref (mme), .int (qz (fi)), .int (qI (ro)), .int (qI (u_131.1)), .int (qI (((k : Nat) : Int))), .int (qz (false)), .ref (mrd), .ref (mas), .long (hh)]))], [(mrd, aI cy 100 (u_131.2))]].flatten := hD
    exact hQ _ _ _ _ b_131 (u_131.1, k, false, u_131.2) ⟨h_131.1.trans (by rw [ea, rdOk_3]), fun z => by rw [(h_131.2 z).1, (h_131.2 z).2]; exact mr_sign hm (Or.inr ea) (h_131.1.mp z) hI⟩ hP hD hS dX8_takes_134
  · refine q_tableIn (off := 131) (tgt := 135) hx hb (4) c_4 dX8_takes_4 (by decide) ?_
    have ea : uA U = sp := by omega
    rw [c_4] at ea
    refine lv_aload_n hx hb dX8_takes_135 rfl (lv_at hl 0 rfl) ?_
    refine lv_iload_n hx hb dX8_takes_136 rfl (lv_at hl 1 rfl) ?_
    refine q_backz [0, 1] [] (br := []) hP hD hS hA (va_runV (As := [.int (qI (c9))]) (rest := []) ⟨hx, hb, hml, hown, hg⟩ (c_X8_beginsNumber l D cy mo mz msv mtx mmo mif mmg mtn mie mme mrd mas (th) (sv) (ml) (tu) (fi) (ro) (sp) (k) (bl) (hh) (rd) (c9) hc hk (by omega) _) (cv_X8_157 hg rfl rfl ⟨by decide, by decide⟩) ⟨q_blind, va_recv hK (fl_blk hP 0 rfl) (ci := 8) (q0 := 0) rfl rfl, q_preM _ hK hN hP hD [0, 1] (by decide) rfl⟩ rfl rfl hl.1 rfl (lv_room (Nat.le_of_ble_eq_true rfl)) dX8_takes_137 ⟨by decide, by decide⟩) rfl rfl (by decide) (fun b_137 u_137 H locs h_137 hP hD hS => ?_)
    have hP : va_P D vwCl [[(mo, .inr (8, [.int (qI (th)), .ref (mz), .int (qI (sv)), .ref (msv), .int (qI (ml)), .ref (mtx), .ref (mmo), .int (qI (tu)), .ref (mif), .ref (mmg), .ref (mtn), .ref (mie), .ref (mme), .int (qz (fi)), .int (qI (ro)), .int (qI (u_137.1)), .int (qI (((k : Nat) : Int))), .int (qz (u_137.2.1)), .ref (mrd), .ref (mas), .long (hh)]))], [(mrd, aI cy 100 (u_137.2.2))]].flatten H := hP
    have hD : va_D A [[(mo, .inr (8, [.int (qI (th)), .ref (mz), .int (qI (sv)), .ref (msv), .int (qI (ml)), .ref (mtx), .ref (mmo), .int (qI (tu)), .ref (mif), .ref (mmg), .ref (mtn), .ref (mie), .ref (mme), .int (qz (fi)), .int (qI (ro)), .int (qI (u_137.1)), .int (qI (((k : Nat) : Int))), .int (qz (u_137.2.1)), .ref (mrd), .ref (mas), .long (hh)]))], [(mrd, aI cy 100 (u_137.2.2))]].flatten := hD
    refine hQ _ _ _ _ b_137 (u_137.1, k, u_137.2.1, u_137.2.2) ⟨h_137.1.trans (by rw [ea, rdOk_4]; omega), fun z => ?_⟩ hP hD hS dX8_takes_140
    have g9 := h_137.1.mp z
    rcases h_137.2 z with ⟨e, e1, e2, e3⟩ | ⟨e, e1, e2, e3⟩
    · rw [e1, e2, e3]
      exact mr_neg hm ea e
    · rw [e1, e2, e3]
      exact mr_number hm (by omega) hI
  · refine q_tableIn (off := 131) (tgt := 135) hx hb (5) c_4 dX8_takes_4 (by decide) ?_
    have ea : uA U = sp := by omega
    rw [c_4] at ea
    refine lv_aload_n hx hb dX8_takes_135 rfl (lv_at hl 0 rfl) ?_
    refine lv_iload_n hx hb dX8_takes_136 rfl (lv_at hl 1 rfl) ?_
    refine q_backz [0, 1] [] (br := []) hP hD hS hA (va_runV (As := [.int (qI (c9))]) (rest := []) ⟨hx, hb, hml, hown, hg⟩ (c_X8_beginsNumber l D cy mo mz msv mtx mmo mif mmg mtn mie mme mrd mas (th) (sv) (ml) (tu) (fi) (ro) (sp) (k) (bl) (hh) (rd) (c9) hc hk (by omega) _) (cv_X8_157 hg rfl rfl ⟨by decide, by decide⟩) ⟨q_blind, va_recv hK (fl_blk hP 0 rfl) (ci := 8) (q0 := 0) rfl rfl, q_preM _ hK hN hP hD [0, 1] (by decide) rfl⟩ rfl rfl hl.1 rfl (lv_room (Nat.le_of_ble_eq_true rfl)) dX8_takes_137 ⟨by decide, by decide⟩) rfl rfl (by decide) (fun b_137 u_137 H locs h_137 hP hD hS => ?_)
    have hP : va_P D vwCl [[(mo, .inr (8, [.int (qI (th)), .ref (mz), .int (qI (sv)), .ref (msv), .int (qI (ml)), .ref (mtx), .ref (mmo), .int (qI (tu)), .ref (mif), .ref (mmg), .ref (mtn), .ref (mie), .ref (mme), .int (qz (fi)), .int (qI (ro)), .int (qI (u_137.1)), .int (qI (((k : Nat) : Int))), .int (qz (u_137.2.1)), .ref (mrd), .ref (mas), .long (hh)]))], [(mrd, aI cy 100 (u_137.2.2))]].flatten H := hP
    have hD : va_D A [[(mo, .inr (8, [.int (qI (th)), .ref (mz), .int (qI (sv)), .ref (msv), .int (qI (ml)), .ref (mtx), .ref (mmo), .int (qI (tu)), .ref (mif), .ref (mmg), .ref (mtn), .ref (mie), .ref (mme), .int (qz (fi)), .int (qI (ro)), .int (qI (u_137.1)), .int (qI (((k : Nat) : Int))), .int (qz (u_137.2.1)), .ref (mrd), .ref (mas), .long (hh)]))], [(mrd, aI cy 100 (u_137.2.2))]].flatten := hD
    refine hQ _ _ _ _ b_137 (u_137.1, k, u_137.2.1, u_137.2.2) ⟨h_137.1.trans (by rw [ea, rdOk_5]; omega), fun z => ?_⟩ hP hD hS dX8_takes_140
    have g9 := h_137.1.mp z
    rcases h_137.2 z with ⟨e, e1, e2, e3⟩ | ⟨e, e1, e2, e3⟩
    · rw [e1, e2, e3]
      exact absurd g9 (by omega)
    · rw [e1, e2, e3]
      exact mr_number hm (by omega) hI
  · refine q_tableIn (off := 137) (tgt := 141) hx hb (6) c_4 dX8_takes_4 (by decide) ?_
    have ea : uA U = 6 ∨ uA U = 7 := by omega
    have q5 := hm5 (by omega)
    refine lv_aload_n hx hb dX8_takes_141 rfl (lv_at hl 0 rfl) ?_
    refine lv_iload_n hx hb dX8_takes_142 rfl (lv_at hl 1 rfl) ?_
    refine q_backz [0, 1] [] (br := []) hP hD hS hA (va_runV (As := [.int (qI (c9))]) (rest := []) ⟨hx, hb, hml, hown, hg⟩ (c_X8_goesOn l D cy mo mz msv mtx mmo mif mmg mtn mie mme mrd mas (th) (sv) (ml) (tu) (fi) (ro) (sp) (k) (bl) (hh) (rd) (c9) hc hk (by rw [q5]; omega) _) (cv_X8_160 hg rfl rfl ⟨by decide, by decide⟩) ⟨q_blind, va_recv hK (fl_blk hP 0 rfl) (ci := 8) (q0 := 0) rfl rfl, q_preM _ hK hN hP hD [0, 1] (by decide) rfl⟩ rfl rfl hl.1 rfl (lv_room (Nat.le_of_ble_eq_true rfl)) dX8_takes_143 ⟨by decide, by decide⟩) rfl rfl (by decide) (fun b_143 u_143 H locs h_143 hP hD hS => ?_)
    have hP : va_P D vwCl [[(mo, .inr (8, [.int (qI (th)), .ref (mz), .int (qI (sv)), .ref (msv), .int (qI (ml)), .ref (mtx), .ref (mmo), .int (qI (tu)), .ref (mif), .ref (mmg), .ref (mtn), .ref (mie), .ref (mme), .int (qz (fi)), .int (qI (ro)), .int (qI (u_143.1)), .int (qI (((u_143.2.1 : Nat) : Int))), .int (qz (bl)), .ref (mrd), .ref (mas), .long (hh)]))], [(mrd, aI cy 100 (u_143.2.2))]].flatten H := hP
    have hD : va_D A [[(mo, .inr (8, [.int (qI (th)), .ref (mz), .int (qI (sv)), .ref (msv), .int (qI (ml)), .ref (mtx), .ref (mmo), .int (qI (tu)), .ref (mif), .ref (mmg), .ref (mtn), .ref (mie), .ref (mme), .int (qz (fi)), .int (qI (ro)), .int (qI (u_143.1)), .int (qI (((u_143.2.1 : Nat) : Int))), .int (qz (bl)), .ref (mrd), .ref (mas), .long (hh)]))], [(mrd, aI cy 100 (u_143.2.2))]].flatten := hD
    refine hQ _ _ _ _ b_143 (u_143.1, u_143.2.1, bl, u_143.2.2) ⟨h_143.1.trans ?_, fun z => ?_⟩ hP hD hS dX8_takes_146
    · rcases ea with ea | ea
      · rw [ea, rdOk_6, ← q5]; omega
      · rw [ea, rdOk_7]; omega
    · have g9 := h_143.1.mp z
      rcases h_143.2 z with ⟨e, e1, e2, e3⟩ | ⟨e, e1, e2, e3⟩ | ⟨e, e1, e2, e3⟩
      · rw [e1, e2, e3]; exact mr_bang hm ea e
      · rw [e1, e2, e3, e]; exact mr_end hm (by omega) hI
      · rw [e1, e2, e3, c_4]; exact mr_digit hm (by omega) e
  · refine q_tableIn (off := 143) (tgt := 147) hx hb (7) c_4 dX8_takes_4 (by decide) ?_
    have ea : uA U = 8 := by omega
    refine lv_aload_n hx hb dX8_takes_147 rfl (lv_at hl 0 rfl) ?_
    refine gf_X8_38 hx hb hg hown hK (fl_blk hP 0 rfl) 0 rfl rfl dX8_takes_148 ?_
    refine q_iconst hx hb dX8_takes_151 ?_
    refine lv_aload_n hx hb dX8_takes_152 rfl (lv_at hl 0 rfl) ?_
    refine gf_X8_135 hx hb hg hown hK (fl_blk hP 0 rfl) 0 rfl rfl dX8_takes_153 ?_
    refine q_imul hx hb dX8_takes_156 ?_
    refine q_iconst hx hb dX8_takes_157 ?_
    refine q_iadd hx hb dX8_takes_158 ?_
    refine lv_iload_n hx hb dX8_takes_159 rfl (lv_at hl 1 rfl) ?_
    refine q_bipush hx hb dX8_takes_160 (by decide) ?_
    refine q_isub hx hb dX8_takes_162 ?_
    refine qb_iast (j := ((5 * k) + 4)) hx hb hK hP hD hS 1 0 rfl rfl (by omega) dX8_takes_163 (fun H locs hP hD hS => ?_)
    have hP : va_P D vwCl [[(mo, .inr (8, [.int (qI (th)), .ref (mz), .int (qI (sv)), .ref (msv), .int (qI (ml)), .ref (mtx), .ref (mmo), .int (qI (tu)), .ref (mif), .ref (mmg), .ref (mtn), .ref (mie), .ref (mme), .int (qz (fi)), .int (qI (ro)), .int (qI (sp)), .int (qI (((k : Nat) : Int))), .int (qz (bl)), .ref (mrd), .ref (mas), .long (hh)]))], [(mrd, aI cy 100 (qu rd ((5 * k) + 4) ((c9) - (48))))]].flatten H := hP
    have hD : va_D A [[(mo, .inr (8, [.int (qI (th)), .ref (mz), .int (qI (sv)), .ref (msv), .int (qI (ml)), .ref (mtx), .ref (mmo), .int (qI (tu)), .ref (mif), .ref (mmg), .ref (mtn), .ref (mie), .ref (mme), .int (qz (fi)), .int (qI (ro)), .int (qI (sp)), .int (qI (((k : Nat) : Int))), .int (qz (bl)), .ref (mrd), .ref (mas), .long (hh)]))], [(mrd, aI cy 100 (qu rd ((5 * k) + 4) ((c9) - (48))))]].flatten := hD
    refine lv_aload_n hx hb dX8_takes_164 rfl (lv_at hl 0 rfl) ?_
    refine lv_iload_n hx hb dX8_takes_165 rfl (lv_at hl 1 rfl) ?_
    refine q_bipush hx hb dX8_takes_166 (by decide) ?_
    refine q_bipush hx hb dX8_takes_168 (by decide) ?_
    refine q_readz (va_runS (As := [.int (qI (c9)), .int (qI (48)), .int (qI (51))]) (rest := [.ref (mo)]) ⟨hx, hb, hml, hown, hg⟩ (c_X8_within l D cy _ _ _ (by omega)) (cs_X8_48 hg rfl rfl ⟨by decide, by decide⟩) ⟨q_blind0, q_preR _ hK hN hP [] rfl⟩ rfl rfl hl.1 rfl (lv_room (Nat.le_of_ble_eq_true rfl)) dX8_takes_170 ⟨by decide, by decide⟩) (fun b_170 h_170 => ?_)
    refine q_bipush hx hb dX8_takes_173 (by decide) ?_
    refine q_backz [0] [1] (br := [[(mrd, aI cy 100 (qu rd ((5 * k) + 4) ((c9) - (48))))]]) hP hD hS hA (va_runV (As := [.int (qz (b_170)), .int (qI (8))]) (rest := []) ⟨hx, hb, hml, hown, hg⟩ (c_X8_goes l D cy mo mz msv mtx mmo mif mmg mtn mie mme mrd mas (th) (sv) (ml) (tu) (fi) (ro) (sp) (k) (bl) (hh) (b_170) (8) _) (cv_X8_138 hg rfl rfl ⟨by decide, by decide⟩) ⟨q_blind, va_recv hK (fl_blk hP 0 rfl) (ci := 8) (q0 := 0) rfl rfl, q_preM _ hK hN hP hD [0] (by decide) rfl⟩ rfl rfl hl.1 rfl (lv_room (Nat.le_of_ble_eq_true rfl)) dX8_takes_175 ⟨by decide, by decide⟩) rfl rfl (by decide) (fun b_175 u_175 H locs h_175 hP hD hS => ?_)
    have hP : va_P D vwCl [[(mrd, aI cy 100 (qu rd ((5 * k) + 4) ((c9) - (48))))], [(mo, .inr (8, [.int (qI (th)), .ref (mz), .int (qI (sv)), .ref (msv), .int (qI (ml)), .ref (mtx), .ref (mmo), .int (qI (tu)), .ref (mif), .ref (mmg), .ref (mtn), .ref (mie), .ref (mme), .int (qz (fi)), .int (qI (ro)), .int (qI (u_175)), .int (qI (((k : Nat) : Int))), .int (qz (bl)), .ref (mrd), .ref (mas), .long (hh)]))]].flatten H := hP
    have hD : va_D A [[(mrd, aI cy 100 (qu rd ((5 * k) + 4) ((c9) - (48))))], [(mo, .inr (8, [.int (qI (th)), .ref (mz), .int (qI (sv)), .ref (msv), .int (qI (ml)), .ref (mtx), .ref (mmo), .int (qI (tu)), .ref (mif), .ref (mmg), .ref (mtn), .ref (mie), .ref (mme), .int (qz (fi)), .int (qI (ro)), .int (qI (u_175)), .int (qI (((k : Nat) : Int))), .int (qz (bl)), .ref (mrd), .ref (mas), .long (hh)]))]].flatten := hD
    have hP := fl_sub (bs' := [[(mo, .inr (8, [.int (qI (th)), .ref (mz), .int (qI (sv)), .ref (msv), .int (qI (ml)), .ref (mtx), .ref (mmo), .int (qI (tu)), .ref (mif), .ref (mmg), .ref (mtn), .ref (mie), .ref (mme), .int (qz (fi)), .int (qI (ro)), .int (qI (u_175)), .int (qI (((k : Nat) : Int))), .int (qz (bl)), .ref (mrd), .ref (mas), .long (hh)]))], [(mrd, aI cy 100 (qu rd ((5 * k) + 4) ((c9) - (48))))]]) hP [1, 0] rfl
    have hD := fl_subD (bs' := [[(mo, .inr (8, [.int (qI (th)), .ref (mz), .int (qI (sv)), .ref (msv), .int (qI (ml)), .ref (mtx), .ref (mmo), .int (qI (tu)), .ref (mif), .ref (mmg), .ref (mtn), .ref (mie), .ref (mme), .int (qz (fi)), .int (qI (ro)), .int (qI (u_175)), .int (qI (((k : Nat) : Int))), .int (qz (bl)), .ref (mrd), .ref (mas), .long (hh)]))], [(mrd, aI cy 100 (qu rd ((5 * k) + 4) ((c9) - (48))))]]) hD [1, 0] (by decide) rfl
    exact hQ _ _ _ _ b_175 (u_175, k, bl, qu rd ((5 * k) + 4) ((c9) - (48))) ⟨by rw [h_175.1]; exact h_170.trans (by rw [ea, rdOk_8]), fun z => by rw [h_175.2, if_pos (h_175.1.symm.trans z)]; exact mr_str hm ea⟩ hP hD hS dX8_takes_178
  · refine q_tableOut (tgt := 179) hx hb dX8_takes_4 (by decide) (by omega) ?_
    have ea : uA U = 9 := by omega
    refine lv_aload_n hx hb dX8_takes_179 rfl (lv_at hl 0 rfl) ?_
    refine lv_iload_n hx hb dX8_takes_180 rfl (lv_at hl 1 rfl) ?_
    refine q_backz [0, 1] [] (br := []) hP hD hS hA (va_runV (As := [.int (qI (c9))]) (rest := []) ⟨hx, hb, hml, hown, hg⟩ (c_X8_takesEnd l D cy mo mz msv mtx mmo mif mmg mtn mie mme mrd mas (th) (sv) (ml) (tu) (fi) (ro) (sp) (k) (bl) (hh) (rd) (c9) hc hk _) (cv_X8_148 hg rfl rfl ⟨by decide, by decide⟩) ⟨q_blind, va_recv hK (fl_blk hP 0 rfl) (ci := 8) (q0 := 0) rfl rfl, q_preM _ hK hN hP hD [0, 1] (by decide) rfl⟩ rfl rfl hl.1 rfl (lv_room (Nat.le_of_ble_eq_true rfl)) dX8_takes_181 ⟨by decide, by decide⟩) rfl rfl (by decide) (fun b_181 u_181 H locs h_181 hP hD hS => ?_)
    have hP : va_P D vwCl [[(mo, .inr (8, [.int (qI (th)), .ref (mz), .int (qI (sv)), .ref (msv), .int (qI (ml)), .ref (mtx), .ref (mmo), .int (qI (tu)), .ref (mif), .ref (mmg), .ref (mtn), .ref (mie), .ref (mme), .int (qz (fi)), .int (qI (ro)), .int (qI (u_181.1)), .int (qI (((u_181.2.1 : Nat) : Int))), .int (qz (bl)), .ref (mrd), .ref (mas), .long (hh)]))], [(mrd, aI cy 100 (u_181.2.2))]].flatten H := hP
    have hD : va_D A [[(mo, .inr (8, [.int (qI (th)), .ref (mz), .int (qI (sv)), .ref (msv), .int (qI (ml)), .ref (mtx), .ref (mmo), .int (qI (tu)), .ref (mif), .ref (mmg), .ref (mtn), .ref (mie), .ref (mme), .int (qz (fi)), .int (qI (ro)), .int (qI (u_181.1)), .int (qI (((u_181.2.1 : Nat) : Int))), .int (qz (bl)), .ref (mrd), .ref (mas), .long (hh)]))], [(mrd, aI cy 100 (u_181.2.2))]].flatten := hD
    exact hQ _ _ _ _ b_181 (u_181.1, u_181.2.1, bl, u_181.2.2) ⟨h_181.1.trans (by rw [ea, rdOk_9]), fun z => by rw [(h_181.2 z).1, (h_181.2 z).2.1, (h_181.2 z).2.2, h_181.1.mp z]; exact mr_end hm (by omega) hI⟩ hP hD hS dX8_takes_184

set_option maxRecDepth 100000 in
set_option maxHeartbeats 4000000 in
theorem c_X8_readText (l : Launch) (D : va_G) (cy : Nat → ClassId) (mo mz msv mtx mmo mif mmg mtn mie mme mrd mas : Nat) (th sv : Int) (len : Nat) (tu : Int) (fi : Bool) (ro sp it : Int) (bl : Bool) (hh : Int64) (bf tx rd : Nat → Int) (hln : len ≤ 60) (hbf : ∀ i, i < len → bf i = tx i) (htx : ∀ i, i < len → 33 ≤ tx i ∧ tx i ≤ 126) (sz : Nat) : qMet l yX8_readText (.code yX8_readText cX8_readText 2 (some .int)) 5 [.ref (mo)] D cy [[(mo, .inr (8, [.int (qI (th)), .ref (mz), .int (qI (sv)), .ref (msv), .int (qI (((len : Nat) : Int))), .ref (mtx), .ref (mmo), .int (qI (tu)), .ref (mif), .ref (mmg), .ref (mtn), .ref (mie), .ref (mme), .int (qz (fi)), .int (qI (ro)), .int (qI (sp)), .int (qI (it)), .int (qz (bl)), .ref (mrd), .ref (mas), .long (hh)]))], [(mtx, aI cy 60 (bf))], [(mrd, aI cy 100 (rd))]] sz (va_Qi (S := Int × Nat × Bool × (Nat → Int)) (fun r u => ∃ e : Nat, r = qI (e : Int) ∧ isErr tx len e ∧ (e = len → mRd (rdSt tx len) (u.1) (u.2.1) (u.2.2.1) (u.2.2.2))) (qB D cy [[(mo, .inr (8, [.int (qI (th)), .ref (mz), .int (qI (sv)), .ref (msv), .int (qI (((len : Nat) : Int))), .ref (mtx), .ref (mmo), .int (qI (tu)), .ref (mif), .ref (mmg), .ref (mtn), .ref (mie), .ref (mme), .int (qz (fi)), .int (qI (ro)), .int (qI (sp)), .int (qI (it)), .int (qz (bl)), .ref (mrd), .ref (mas), .long (hh)]))], [(mtx, aI cy 60 (bf))], [(mrd, aI cy 100 (rd))]] sz (fun u => [[(mo, .inr (8, [.int (qI (th)), .ref (mz), .int (qI (sv)), .ref (msv), .int (qI (((len : Nat) : Int))), .ref (mtx), .ref (mmo), .int (qI (tu)), .ref (mif), .ref (mmg), .ref (mtn), .ref (mie), .ref (mme), .int (qz (fi)), .int (qI (ro)), .int (qI (u.1)), .int (qI (((u.2.1 : Nat) : Int))), .int (qz (u.2.2.1)), .ref (mrd), .ref (mas), .long (hh)]))], [(mtx, aI cy 60 (bf))], [(mrd, aI cy 100 (u.2.2.2))]])) (va_A [[(mo, .inr (8, [.int (qI (th)), .ref (mz), .int (qI (sv)), .ref (msv), .int (qI (((len : Nat) : Int))), .ref (mtx), .ref (mmo), .int (qI (tu)), .ref (mif), .ref (mmg), .ref (mtn), .ref (mie), .ref (mme), .int (qz (fi)), .int (qI (ro)), .int (qI (sp)), .int (qI (it)), .int (qz (bl)), .ref (mrd), .ref (mas), .long (hh)]))], [(mtx, aI cy 60 (bf))], [(mrd, aI cy 100 (rd))]].flatten sz)) := by
  refine q_ofMi (S := Int × Nat × Bool × (Nat → Int)) (b1 := fun u => [[(mo, .inr (8, [.int (qI (th)), .ref (mz), .int (qI (sv)), .ref (msv), .int (qI (((len : Nat) : Int))), .ref (mtx), .ref (mmo), .int (qI (tu)), .ref (mif), .ref (mmg), .ref (mtn), .ref (mie), .ref (mme), .int (qz (fi)), .int (qI (ro)), .int (qI (u.1)), .int (qI (((u.2.1 : Nat) : Int))), .int (qz (u.2.2.1)), .ref (mrd), .ref (mas), .long (hh)]))], [(mtx, aI cy 60 (bf))], [(mrd, aI cy 100 (u.2.2.2))]]) (post := fun r u => ∃ e : Nat, r = qI (e : Int) ∧ isErr tx len e ∧ (e = len → mRd (rdSt tx len) (u.1) (u.2.1) (u.2.2.1) (u.2.2.2))) (by decide +kernel) (Nat.le_of_ble_eq_true rfl) ?_
  intro p e s m args below meth c Q A hx hb hml hown hg hQ hK hN hD hA H locs ls hP hS hl
  have hown : s.vm.findClass RX8 = some m.cls := hown
  have hl : lv_has ls 2 [(0, .ref (mo))] := hl
  refine lv_aload_n hx hb dX8_readText_0 rfl (lv_at hl 0 rfl) ?_
  refine q_iconst hx hb dX8_readText_1 ?_
  refine pf_X8_132 hx hb hg hown hK hP hD hS 0 0 rfl rfl rfl rfl (Nat.le_of_ble_eq_true rfl) dX8_readText_2 (fun H locs hP hD hS => ?_)
  have hP : va_P D vwCl [[(mo, .inr (8, [.int (qI (th)), .ref (mz), .int (qI (sv)), .ref (msv), .int (qI (((len : Nat) : Int))), .ref (mtx), .ref (mmo), .int (qI (tu)), .ref (mif), .ref (mmg), .ref (mtn), .ref (mie), .ref (mme), .int (qz (fi)), .int (qI (ro)), .int (qI (0)), .int (qI (it)), .int (qz (bl)), .ref (mrd), .ref (mas), .long (hh)]))], [(mtx, aI cy 60 (bf))], [(mrd, aI cy 100 (rd))]].flatten H := hP
  have hD : va_D A [[(mo, .inr (8, [.int (qI (th)), .ref (mz), .int (qI (sv)), .ref (msv), .int (qI (((len : Nat) : Int))), .ref (mtx), .ref (mmo), .int (qI (tu)), .ref (mif), .ref (mmg), .ref (mtn), .ref (mie), .ref (mme), .int (qz (fi)), .int (qI (ro)), .int (qI (0)), .int (qI (it)), .int (qz (bl)), .ref (mrd), .ref (mas), .long (hh)]))], [(mtx, aI cy 60 (bf))], [(mrd, aI cy 100 (rd))]].flatten := hD
  refine lv_aload_n hx hb dX8_readText_5 rfl (lv_at hl 0 rfl) ?_
  refine q_iconst hx hb dX8_readText_6 ?_
  refine pf_X8_135 hx hb hg hown hK hP hD hS 0 0 rfl rfl rfl rfl (Nat.le_of_ble_eq_true rfl) dX8_readText_7 (fun H locs hP hD hS => ?_)
  have hP : va_P D vwCl [[(mo, .inr (8, [.int (qI (th)), .ref (mz), .int (qI (sv)), .ref (msv), .int (qI (((len : Nat) : Int))), .ref (mtx), .ref (mmo), .int (qI (tu)), .ref (mif), .ref (mmg), .ref (mtn), .ref (mie), .ref (mme), .int (qz (fi)), .int (qI (ro)), .int (qI (0)), .int (qI (0)), .int (qz (bl)), .ref (mrd), .ref (mas), .long (hh)]))], [(mtx, aI cy 60 (bf))], [(mrd, aI cy 100 (rd))]].flatten H := hP
  have hD : va_D A [[(mo, .inr (8, [.int (qI (th)), .ref (mz), .int (qI (sv)), .ref (msv), .int (qI (((len : Nat) : Int))), .ref (mtx), .ref (mmo), .int (qI (tu)), .ref (mif), .ref (mmg), .ref (mtn), .ref (mie), .ref (mme), .int (qz (fi)), .int (qI (ro)), .int (qI (0)), .int (qI (0)), .int (qz (bl)), .ref (mrd), .ref (mas), .long (hh)]))], [(mtx, aI cy 60 (bf))], [(mrd, aI cy 100 (rd))]].flatten := hD
  refine q_iconst hx hb dX8_readText_10 ?_
  refine lv_istore_n (lv' := [(1, .int (qI (0))), (0, .ref (mo))]) hx hb dX8_readText_11 rfl hl (by decide) rfl (fun ls hl => ?_)
  have L_12 : ∀ (n_12 k : Nat) (s1 : Int) (q1 : Nat) (b3 : Bool) (rd1 : Nat → Int), k ≤ len → len + 1 ≤ k + n_12 → (mRd (rdSt tx k) s1 q1 b3 rd1) → (∀ i, i < k → okAt tx i) → ∀ (H : Heap) (locs : List Loc) (ls : Array Slot), va_P D vwCl [[(mo, .inr (8, [.int (qI (th)), .ref (mz), .int (qI (sv)), .ref (msv), .int (qI (((len : Nat) : Int))), .ref (mtx), .ref (mmo), .int (qI (tu)), .ref (mif), .ref (mmg), .ref (mtn), .ref (mie), .ref (mme), .int (qz (fi)), .int (qI (ro)), .int (qI (s1)), .int (qI (((q1 : Nat) : Int))), .int (qz (b3)), .ref (mrd), .ref (mas), .long (hh)]))], [(mtx, aI cy 60 (bf))], [(mrd, aI cy 100 (rd1))]].flatten H → va_D A [[(mo, .inr (8, [.int (qI (th)), .ref (mz), .int (qI (sv)), .ref (msv), .int (qI (((len : Nat) : Int))), .ref (mtx), .ref (mmo), .int (qI (tu)), .ref (mif), .ref (mmg), .ref (mtn), .ref (mie), .ref (mme), .int (qz (fi)), .int (qI (ro)), .int (qI (s1)), .int (qI (((q1 : Nat) : Int))), .int (qz (b3)), .ref (mrd), .ref (mas), .long (hh)]))], [(mtx, aI cy 60 (bf))], [(mrd, aI cy 100 (rd1))]].flatten → va_S A s.heap H locs → lv_has ls 2 [(0, .ref (mo)), (1, .int (qI (((k : Nat) : Int))))] → W p l e (qrm 5) s m args below meth c H locs 0 0 Q (F0 m 12 ls []) := by
    intro n_12
    induction n_12 with
    | zero => intro k _ _ _ _ h1 h2; exact absurd h2 (by omega)
    | succ n_12 ih_12 =>
      intro k s1 q1 b3 rd1 hk_12 hn_12 hmr hok H locs ls hP hD hS hl
      refine lv_iload_n hx hb dX8_readText_12 rfl (lv_at hl 1 rfl) ?_
      refine lv_aload_n hx hb dX8_readText_13 rfl (lv_at hl 0 rfl) ?_
      refine gf_X8_129 hx hb hg hown hK (fl_blk hP 0 rfl) 0 rfl rfl dX8_readText_14 ?_
      refine q_icmp_ge (tgt := 39) hx hb dX8_readText_17 (by decide) (by omega) (fun c_17 => ?_) (fun c_17 => ?_)
      · skip
        refine lv_iload_n hx hb dX8_readText_39 rfl (lv_at hl 1 rfl) ?_
        have e9 : k = len := by omega
        subst e9
        exact hQ _ _ _ _ _ (s1, q1, b3, rd1) ⟨k, rfl, ⟨Nat.le_refl k, hok, fun z => absurd z (by omega)⟩, fun _ => hmr⟩ hP hD hS dX8_readText_40
      · skip
        refine lv_aload_n hx hb dX8_readText_20 rfl (lv_at hl 0 rfl) ?_
        refine lv_aload_n hx hb dX8_readText_21 rfl (lv_at hl 0 rfl) ?_
        refine gf_X8_16 hx hb hg hown hK (fl_blk hP 0 rfl) 0 rfl rfl dX8_readText_22 ?_
        refine lv_iload_n hx hb dX8_readText_25 rfl (lv_at hl 1 rfl) ?_
        refine q_iald (j := k) hx hb hK (fl_blk hP 1 rfl) 0 rfl (by omega) dX8_readText_26 ?_
        refine q_backz [0, 2] [1] (br := [[(mtx, aI cy 60 (bf))]]) hP hD hS hA (va_runV (As := [.int (qI (bf k))]) (rest := []) ⟨hx, hb, hml, hown, hg⟩ (c_X8_takes l D cy mo mz msv mtx mmo mif mmg mtn mie mme mrd mas (th) (sv) (((len : Nat) : Int)) (tu) (fi) (ro) (s1) (q1) (b3) (hh) (rd1) (bf k) (by rw [hbf k (by omega)]; exact htx k (by omega)) (rdSt tx k) k hmr (rdI_at k hok) (by omega) _) (cv_X8_163 hg rfl rfl ⟨by decide, by decide⟩) ⟨q_blind, va_recv hK (fl_blk hP 0 rfl) (ci := 8) (q0 := 0) rfl rfl, q_preM _ hK hN hP hD [0, 2] (by decide) rfl⟩ rfl rfl hl.1 rfl (lv_room (Nat.le_of_ble_eq_true rfl)) dX8_readText_27 ⟨by decide, by decide⟩) rfl rfl (by decide) (fun b_27 u_27 H locs h_27 hP hD hS => ?_)
        have hP : va_P D vwCl [[(mtx, aI cy 60 (bf))], [(mo, .inr (8, [.int (qI (th)), .ref (mz), .int (qI (sv)), .ref (msv), .int (qI (((len : Nat) : Int))), .ref (mtx), .ref (mmo), .int (qI (tu)), .ref (mif), .ref (mmg), .ref (mtn), .ref (mie), .ref (mme), .int (qz (fi)), .int (qI (ro)), .int (qI (u_27.1)), .int (qI (((u_27.2.1 : Nat) : Int))), .int (qz (u_27.2.2.1)), .ref (mrd), .ref (mas), .long (hh)]))], [(mrd, aI cy 100 (u_27.2.2.2))]].flatten H := hP
        have hD : va_D A [[(mtx, aI cy 60 (bf))], [(mo, .inr (8, [.int (qI (th)), .ref (mz), .int (qI (sv)), .ref (msv), .int (qI (((len : Nat) : Int))), .ref (mtx), .ref (mmo), .int (qI (tu)), .ref (mif), .ref (mmg), .ref (mtn), .ref (mie), .ref (mme), .int (qz (fi)), .int (qI (ro)), .int (qI (u_27.1)), .int (qI (((u_27.2.1 : Nat) : Int))), .int (qz (u_27.2.2.1)), .ref (mrd), .ref (mas), .long (hh)]))], [(mrd, aI cy 100 (u_27.2.2.2))]].flatten := hD
        refine q_ifz_eq (tgt := 39) hx hb dX8_readText_30 (by decide) (fun c_30 => ?_) (fun c_30 => ?_)
        · skip
          have g_30 := mt (h_27.1).mpr (by rw [c_30]; decide)
          refine lv_iload_n hx hb dX8_readText_39 rfl (lv_at hl 1 rfl) ?_
          have hP := fl_sub (bs' := [[(mo, .inr (8, [.int (qI (th)), .ref (mz), .int (qI (sv)), .ref (msv), .int (qI (((len : Nat) : Int))), .ref (mtx), .ref (mmo), .int (qI (tu)), .ref (mif), .ref (mmg), .ref (mtn), .ref (mie), .ref (mme), .int (qz (fi)), .int (qI (ro)), .int (qI (u_27.1)), .int (qI (((u_27.2.1 : Nat) : Int))), .int (qz (u_27.2.2.1)), .ref (mrd), .ref (mas), .long (hh)]))], [(mtx, aI cy 60 (bf))], [(mrd, aI cy 100 (u_27.2.2.2))]]) hP [1, 0, 2] rfl
          have hD := fl_subD (bs' := [[(mo, .inr (8, [.int (qI (th)), .ref (mz), .int (qI (sv)), .ref (msv), .int (qI (((len : Nat) : Int))), .ref (mtx), .ref (mmo), .int (qI (tu)), .ref (mif), .ref (mmg), .ref (mtn), .ref (mie), .ref (mme), .int (qz (fi)), .int (qI (ro)), .int (qI (u_27.1)), .int (qI (((u_27.2.1 : Nat) : Int))), .int (qz (u_27.2.2.1)), .ref (mrd), .ref (mas), .long (hh)]))], [(mtx, aI cy 60 (bf))], [(mrd, aI cy 100 (u_27.2.2.2))]]) hD [1, 0, 2] (by decide) rfl
          exact hQ _ _ _ _ _ u_27 ⟨k, rfl, ⟨by omega, hok, fun _ z => absurd (h_27.1.mpr (by rw [hbf k (by omega)]; exact z)) (by rw [c_30]; decide)⟩, fun z => absurd z (by omega)⟩ hP hD hS dX8_readText_40
        · skip
          have g_30 := (h_27.1).mp c_30
          refine q_iinc (k := 1) (lv' := [(1, .int (qI ((((k : Nat) : Int)) + (1)))), (0, .ref (mo))]) hx hb dX8_readText_33 hl rfl (by decide) rfl (fun ls hl => ?_)
          refine lv_goto (tgt := 12) hx hb dX8_readText_36 (by decide) ?_
          have hb9 := hbf k (by omega)
          have hr9 := h_27.2 c_30
          rw [hb9] at hr9
          have ho9 : okAt tx k := by have z := h_27.1.mp c_30; rw [hb9] at z; exact z
          have hP := fl_sub (bs' := [[(mo, .inr (8, [.int (qI (th)), .ref (mz), .int (qI (sv)), .ref (msv), .int (qI (((len : Nat) : Int))), .ref (mtx), .ref (mmo), .int (qI (tu)), .ref (mif), .ref (mmg), .ref (mtn), .ref (mie), .ref (mme), .int (qz (fi)), .int (qI (ro)), .int (qI (u_27.1)), .int (qI (((u_27.2.1 : Nat) : Int))), .int (qz (u_27.2.2.1)), .ref (mrd), .ref (mas), .long (hh)]))], [(mtx, aI cy 60 (bf))], [(mrd, aI cy 100 (u_27.2.2.2))]]) hP [1, 0, 2] rfl
          have hD := fl_subD (bs' := [[(mo, .inr (8, [.int (qI (th)), .ref (mz), .int (qI (sv)), .ref (msv), .int (qI (((len : Nat) : Int))), .ref (mtx), .ref (mmo), .int (qI (tu)), .ref (mif), .ref (mmg), .ref (mtn), .ref (mie), .ref (mme), .int (qz (fi)), .int (qI (ro)), .int (qI (u_27.1)), .int (qI (((u_27.2.1 : Nat) : Int))), .int (qz (u_27.2.2.1)), .ref (mrd), .ref (mas), .long (hh)]))], [(mtx, aI cy 60 (bf))], [(mrd, aI cy 100 (u_27.2.2.2))]]) hD [1, 0, 2] (by decide) rfl
          exact ih_12 (k + 1) _ _ _ _ (by omega) (by omega) hr9 (fun i hi => if e : i = k then e ▸ ho9 else hok i (by omega)) _ _ _ hP hD hS (lv_sub hl [1, 0] rfl)
  exact L_12 (len + 1) (0) (0) (0) (bl) (rd) (by omega) (by omega) mr_0 (fun i hi => absurd hi (Nat.not_lt_zero i)) _ _ _ hP hD hS (lv_sub hl [1, 0] rfl)

set_option maxRecDepth 100000 in
set_option maxHeartbeats 4000000 in
theorem c_X8_firstError (l : Launch) (D : va_G) (cy : Nat → ClassId) (mo mz msv mtx mmo mif mmg mtn mie mme mrd mas : Nat) (T : LSt) (hz : Nat) (HZ : Nat → LSt) (len : Nat) (tx : Nat → Int) (th : Int) (W : va_W) (hG : gOk T) (hW : MW cy mo mz msv mtx mmo mif mmg mtn mie mme mrd mas T hz HZ len tx th W)  (sz : Nat) : qMet l yX8_firstError (.code yX8_firstError cX8_firstError 1 (some .int)) 8 [.ref (mo)] D cy [W] sz (va_Qi (S := va_W) (fun r u => ∃ e : Nat, r = qI (e : Int) ∧ isErr tx len e ∧ MW cy mo mz msv mtx mmo mif mmg mtn mie mme mrd mas T hz HZ len tx 0 u) (qB D cy [W] sz (fun u => [u])) (va_A [W].flatten sz)) := by
  refine q_ofMi (S := va_W) (b1 := fun u => [u]) (post := fun r u => ∃ e : Nat, r = qI (e : Int) ∧ isErr tx len e ∧ MW cy mo mz msv mtx mmo mif mmg mtn mie mme mrd mas T hz HZ len tx 0 u) (by decide +kernel) (Nat.le_of_ble_eq_true rfl) ?_
  intro p e s m args below meth c Q A hx hb hml hown hg hQ hK hN hD hA H locs ls hP hS hl
  have hown : s.vm.findClass RX8 = some m.cls := hown
  have hl : lv_has ls 1 [(0, .ref (mo))] := hl
  have hW0 := hW
  obtain ⟨tu, fi, ro, sp, it, bl, hh, z, sd, bf, g, isF, mg, tn, isE, mE, rd, as9, rfl, ⟨hL, hz20, hz101⟩, ⟨hhz, hHZ⟩, hln, hbf, htx⟩ := hW
  obtain ⟨gV, gT, gC, gE, gI, gD⟩ := hG.eq hL
  obtain ⟨nc, hnc⟩ : ∃ nc : Nat, z 20 = (nc : Int) := ⟨(z 20).toNat, by omega⟩
  obtain ⟨ne, hne⟩ : ∃ ne : Nat, z 101 = (ne : Int) := ⟨(z 101).toNat, by omega⟩
  have e20 : (z 20).toNat = nc := by omega
  have e101 : (z 101).toNat = ne := by omega
  have hV : qV z := gV
  have hst : ∀ i, i < 10 → 0 ≤ z (10 + i) ∧ z (10 + i) ≤ 9 := gT
  have hc : nc ≤ 16 := e20 ▸ (gC.1 : (z 20).toNat ≤ 16)
  have hC : qWR (zC z) nc := e20 ▸ (gC.2 : qWR (zC z) (z 20).toNat)
  have he : ne ≤ 4 := e101 ▸ (gE.1 : (z 101).toNat ≤ 4)
  have hE : qWR (zE z) ne := e101 ▸ (gE.2 : qWR (zE z) (z 101).toNat)
  have hD9 : ∀ i j, i < ne → j < ne → zE z 0 i = zE z 0 j → i = j := e101 ▸ (gD : ∀ i j, i < (z 101).toNat → j < (z 101).toNat → zE z 0 i = zE z 0 j → i = j)
  have hL2 : LEq (z, (fun i => z (10 + i)), zC z, nc, zE z, ne) T := by rw [← e20, ← e101]; exact hL
  have en : nc = lN9 T := hL2.2.2.1
  have em : ne = lM T := hL2.2.2.2.2.1
  rw [fl_open] at hP hD
  have hP : va_P D vwCl [[(mo, .inr (8, [.int (qI (th)), .ref (mz), .int (qI (((hz : Nat) : Int))), .ref (msv), .int (qI (((len : Nat) : Int))), .ref (mtx), .ref (mmo), .int (qI (tu)), .ref (mif), .ref (mmg), .ref (mtn), .ref (mie), .ref (mme), .int (qz (fi)), .int (qI (ro)), .int (qI (sp)), .int (qI (it)), .int (qz (bl)), .ref (mrd), .ref (mas), .long (hh)]))], [(mz, aI cy 115 (z))], [(msv, aI cy 920 (sd))], [(mtx, aI cy 60 (bf))], [(mmo, aI cy 121 (g))], [(mif, aZ cy 16 (isF))], [(mmg, aI cy 16 (mg))], [(mtn, aI cy 16 (tn))], [(mie, aZ cy 4 (isE))], [(mme, aI cy 4 (mE))], [(mrd, aI cy 100 (rd))], [(mas, aI cy 115 (as9))]].flatten H := hP
  have hD : va_D A [[(mo, .inr (8, [.int (qI (th)), .ref (mz), .int (qI (((hz : Nat) : Int))), .ref (msv), .int (qI (((len : Nat) : Int))), .ref (mtx), .ref (mmo), .int (qI (tu)), .ref (mif), .ref (mmg), .ref (mtn), .ref (mie), .ref (mme), .int (qz (fi)), .int (qI (ro)), .int (qI (sp)), .int (qI (it)), .int (qz (bl)), .ref (mrd), .ref (mas), .long (hh)]))], [(mz, aI cy 115 (z))], [(msv, aI cy 920 (sd))], [(mtx, aI cy 60 (bf))], [(mmo, aI cy 121 (g))], [(mif, aZ cy 16 (isF))], [(mmg, aI cy 16 (mg))], [(mtn, aI cy 16 (tn))], [(mie, aZ cy 4 (isE))], [(mme, aI cy 4 (mE))], [(mrd, aI cy 100 (rd))], [(mas, aI cy 115 (as9))]].flatten := hD
  refine lv_aload_n hx hb dX8_firstError_0 rfl (lv_at hl 0 rfl) ?_
  refine q_iconst hx hb dX8_firstError_1 ?_
  refine pf_X8_44 hx hb hg hown hK hP hD hS 0 0 rfl rfl rfl rfl (Nat.le_of_ble_eq_true rfl) dX8_firstError_2 (fun H locs hP hD hS => ?_)
  have hP : va_P D vwCl [[(mo, .inr (8, [.int (qI (0)), .ref (mz), .int (qI (((hz : Nat) : Int))), .ref (msv), .int (qI (((len : Nat) : Int))), .ref (mtx), .ref (mmo), .int (qI (tu)), .ref (mif), .ref (mmg), .ref (mtn), .ref (mie), .ref (mme), .int (qz (fi)), .int (qI (ro)), .int (qI (sp)), .int (qI (it)), .int (qz (bl)), .ref (mrd), .ref (mas), .long (hh)]))], [(mz, aI cy 115 (z))], [(msv, aI cy 920 (sd))], [(mtx, aI cy 60 (bf))], [(mmo, aI cy 121 (g))], [(mif, aZ cy 16 (isF))], [(mmg, aI cy 16 (mg))], [(mtn, aI cy 16 (tn))], [(mie, aZ cy 4 (isE))], [(mme, aI cy 4 (mE))], [(mrd, aI cy 100 (rd))], [(mas, aI cy 115 (as9))]].flatten H := hP
  have hD : va_D A [[(mo, .inr (8, [.int (qI (0)), .ref (mz), .int (qI (((hz : Nat) : Int))), .ref (msv), .int (qI (((len : Nat) : Int))), .ref (mtx), .ref (mmo), .int (qI (tu)), .ref (mif), .ref (mmg), .ref (mtn), .ref (mie), .ref (mme), .int (qz (fi)), .int (qI (ro)), .int (qI (sp)), .int (qI (it)), .int (qz (bl)), .ref (mrd), .ref (mas), .long (hh)]))], [(mz, aI cy 115 (z))], [(msv, aI cy 920 (sd))], [(mtx, aI cy 60 (bf))], [(mmo, aI cy 121 (g))], [(mif, aZ cy 16 (isF))], [(mmg, aI cy 16 (mg))], [(mtn, aI cy 16 (tn))], [(mie, aZ cy 4 (isE))], [(mme, aI cy 4 (mE))], [(mrd, aI cy 100 (rd))], [(mas, aI cy 115 (as9))]].flatten := hD
  refine lv_aload_n hx hb dX8_firstError_5 rfl (lv_at hl 0 rfl) ?_
  refine q_backi [0, 3, 10] [1, 2, 4, 5, 6, 7, 8, 9, 11] (br := [[(mz, aI cy 115 (z))], [(msv, aI cy 920 (sd))], [(mmo, aI cy 121 (g))], [(mif, aZ cy 16 (isF))], [(mmg, aI cy 16 (mg))], [(mtn, aI cy 16 (tn))], [(mie, aZ cy 4 (isE))], [(mme, aI cy 4 (mE))], [(mas, aI cy 115 (as9))]]) hP hD hS hA (va_runV (As := []) (rest := []) ⟨hx, hb, hml, hown, hg⟩ (c_X8_readText l D cy mo mz msv mtx mmo mif mmg mtn mie mme mrd mas (0) (((hz : Nat) : Int)) len (tu) (fi) (ro) (sp) (it) (bl) (hh) bf tx (rd) hln hbf htx _) (cv_X8_166 hg rfl rfl ⟨by decide, by decide⟩) ⟨q_blind, va_recv hK (fl_blk hP 0 rfl) (ci := 8) (q0 := 0) rfl rfl, q_preM _ hK hN hP hD [0, 3, 10] (by decide) rfl⟩ rfl rfl hl.1 rfl (lv_room (Nat.le_of_ble_eq_true rfl)) dX8_firstError_6 ⟨by decide, by decide⟩) rfl rfl (by decide) (fun r_6 u_6 H locs h_6 hP hD hS => ?_)
  have hP : va_P D vwCl [[(mz, aI cy 115 (z))], [(msv, aI cy 920 (sd))], [(mmo, aI cy 121 (g))], [(mif, aZ cy 16 (isF))], [(mmg, aI cy 16 (mg))], [(mtn, aI cy 16 (tn))], [(mie, aZ cy 4 (isE))], [(mme, aI cy 4 (mE))], [(mas, aI cy 115 (as9))], [(mo, .inr (8, [.int (qI (0)), .ref (mz), .int (qI (((hz : Nat) : Int))), .ref (msv), .int (qI (((len : Nat) : Int))), .ref (mtx), .ref (mmo), .int (qI (tu)), .ref (mif), .ref (mmg), .ref (mtn), .ref (mie), .ref (mme), .int (qz (fi)), .int (qI (ro)), .int (qI (u_6.1)), .int (qI (((u_6.2.1 : Nat) : Int))), .int (qz (u_6.2.2.1)), .ref (mrd), .ref (mas), .long (hh)]))], [(mtx, aI cy 60 (bf))], [(mrd, aI cy 100 (u_6.2.2.2))]].flatten H := hP
  have hD : va_D A [[(mz, aI cy 115 (z))], [(msv, aI cy 920 (sd))], [(mmo, aI cy 121 (g))], [(mif, aZ cy 16 (isF))], [(mmg, aI cy 16 (mg))], [(mtn, aI cy 16 (tn))], [(mie, aZ cy 4 (isE))], [(mme, aI cy 4 (mE))], [(mas, aI cy 115 (as9))], [(mo, .inr (8, [.int (qI (0)), .ref (mz), .int (qI (((hz : Nat) : Int))), .ref (msv), .int (qI (((len : Nat) : Int))), .ref (mtx), .ref (mmo), .int (qI (tu)), .ref (mif), .ref (mmg), .ref (mtn), .ref (mie), .ref (mme), .int (qz (fi)), .int (qI (ro)), .int (qI (u_6.1)), .int (qI (((u_6.2.1 : Nat) : Int))), .int (qz (u_6.2.2.1)), .ref (mrd), .ref (mas), .long (hh)]))], [(mtx, aI cy 60 (bf))], [(mrd, aI cy 100 (u_6.2.2.2))]].flatten := hD
  obtain ⟨z_6, rfl, h_6⟩ := h_6
  have hP := fl_sub (bs' := [[(mo, .inr (8, [.int (qI (0)), .ref (mz), .int (qI (((hz : Nat) : Int))), .ref (msv), .int (qI (((len : Nat) : Int))), .ref (mtx), .ref (mmo), .int (qI (tu)), .ref (mif), .ref (mmg), .ref (mtn), .ref (mie), .ref (mme), .int (qz (fi)), .int (qI (ro)), .int (qI (u_6.1)), .int (qI (((u_6.2.1 : Nat) : Int))), .int (qz (u_6.2.2.1)), .ref (mrd), .ref (mas), .long (hh)]))], [(mz, aI cy 115 (z))], [(msv, aI cy 920 (sd))], [(mtx, aI cy 60 (bf))], [(mmo, aI cy 121 (g))], [(mif, aZ cy 16 (isF))], [(mmg, aI cy 16 (mg))], [(mtn, aI cy 16 (tn))], [(mie, aZ cy 4 (isE))], [(mme, aI cy 4 (mE))], [(mrd, aI cy 100 (u_6.2.2.2))], [(mas, aI cy 115 (as9))]]) hP [9, 0, 1, 10, 2, 3, 4, 5, 6, 7, 11, 8] rfl
  have hD := fl_subD (bs' := [[(mo, .inr (8, [.int (qI (0)), .ref (mz), .int (qI (((hz : Nat) : Int))), .ref (msv), .int (qI (((len : Nat) : Int))), .ref (mtx), .ref (mmo), .int (qI (tu)), .ref (mif), .ref (mmg), .ref (mtn), .ref (mie), .ref (mme), .int (qz (fi)), .int (qI (ro)), .int (qI (u_6.1)), .int (qI (((u_6.2.1 : Nat) : Int))), .int (qz (u_6.2.2.1)), .ref (mrd), .ref (mas), .long (hh)]))], [(mz, aI cy 115 (z))], [(msv, aI cy 920 (sd))], [(mtx, aI cy 60 (bf))], [(mmo, aI cy 121 (g))], [(mif, aZ cy 16 (isF))], [(mmg, aI cy 16 (mg))], [(mtn, aI cy 16 (tn))], [(mie, aZ cy 4 (isE))], [(mme, aI cy 4 (mE))], [(mrd, aI cy 100 (u_6.2.2.2))], [(mas, aI cy 115 (as9))]]) hD [9, 0, 1, 10, 2, 3, 4, 5, 6, 7, 11, 8] (by decide) rfl
  have hP : va_P D vwCl [(mdB cy mo mz msv mtx mmo mif mmg mtn mie mme mrd mas (0) (hz) (len) (tu) (fi) (ro) (u_6.1) (((u_6.2.1 : Nat) : Int)) (u_6.2.2.1) (hh) (z) (sd) (bf) (g) (isF) (mg) (tn) (isE) (mE) (u_6.2.2.2) (as9)).flatten].flatten H := by rw [fl_open]; exact hP
  have hD : va_D A [(mdB cy mo mz msv mtx mmo mif mmg mtn mie mme mrd mas (0) (hz) (len) (tu) (fi) (ro) (u_6.1) (((u_6.2.1 : Nat) : Int)) (u_6.2.2.1) (hh) (z) (sd) (bf) (g) (isF) (mg) (tn) (isE) (mE) (u_6.2.2.2) (as9)).flatten].flatten := by rw [fl_open]; exact hD
  exact hQ _ _ _ _ _ ((mdB cy mo mz msv mtx mmo mif mmg mtn mie mme mrd mas (0) (hz) (len) (tu) (fi) (ro) (u_6.1) (((u_6.2.1 : Nat) : Int)) (u_6.2.2.1) (hh) (z) (sd) (bf) (g) (isF) (mg) (tn) (isE) (mE) (u_6.2.2.2) (as9)).flatten) ⟨z_6, rfl, h_6.1, ⟨(tu), (fi), (ro), (u_6.1), (((u_6.2.1 : Nat) : Int)), (u_6.2.2.1), (hh), (z), (sd), (bf), (g), (isF), (mg), (tn), (isE), (mE), (u_6.2.2.2), (as9), rfl, ⟨hL, hz20, hz101⟩, ⟨hhz, hHZ⟩, hln, hbf, htx⟩⟩ hP hD hS dX8_firstError_9

theorem ld_adC {T : LSt} {G : Nat → Nat → Int} {k : Nat} : LEq (adC (ldC T G k) (G 0 k) (G 1 k) (G 2 k) (G 3 k) (G 4 k)) (ldC T G (k + 1)) := by
  refine ⟨fun _ _ => rfl, fun _ _ => rfl, rfl, fun f i hf hi => ?_, rfl, fun _ _ _ _ => rfl⟩
  have hi : i < lN9 T + (k + 1) := hi
  show (if i = lN9 T + k then row5 (G 0 k) (G 1 k) (G 2 k) (G 3 k) (G 4 k) f else (if i < lN9 T then lC T f i else G f (i - lN9 T))) = (if i < lN9 T then lC T f i else G f (i - lN9 T))
  by_cases e : i = lN9 T + k
  · rw [if_pos e, if_neg (by omega), show i - lN9 T = k by omega]
    rcases (show f = 0 ∨ f = 1 ∨ f = 2 ∨ f = 3 ∨ f = 4 by omega) with rfl | rfl | rfl | rfl | rfl <;> rfl
  · rw [if_neg e]
theorem ld_lay {z z1 z2 : Nat → Int} {G : Nat → Nat → Int} {nc k : Nat} (hz1 : LEq (zS z1) (ldC (zS z) G k)) (hy20 : z1 20 = (nc : Int) + (k : Int)) (hy101 : z1 101 = z 101) (hc : nc + k < 16) {v0 v1 v2 v3 v4 : Int} (e : z2 = qu (qu (qu (qu (qu (qu z1 (21 + 5 * (nc + k) + 0) v0) (21 + 5 * (nc + k) + 1) v1) (21 + 5 * (nc + k) + 2) v2) (21 + 5 * (nc + k) + 3) v3) (21 + 5 * (nc + k) + 4) v4) 20 (((nc + k : Nat) : Int) + 1)) (h0 : v0 = G 0 k) (h1 : v1 = G 1 k) (h2 : v2 = G 2 k) (h3 : v3 = G 3 k) (h4 : v4 = G 4 k) : LEq (zS z2) (ldC (zS z) G (k + 1)) ∧ z2 20 = (nc : Int) + ((k + 1 : Nat) : Int) ∧ z2 101 = z 101 := by
  subst e
  refine ⟨LEq.tr (lay_at hc (by omega)) (LEq.tr (adC_eq hz1 v0 v1 v2 v3 v4) ?_), by rw [qu_s]; omega, ?_⟩
  · rw [h0, h1, h2, h3, h4]
    exact ld_adC
  · rw [qu_n _ _ (by omega), qu_n _ _ (by omega), qu_n _ _ (by omega), qu_n _ _ (by omega), qu_n _ _ (by omega), qu_n _ _ (by omega)]
    exact hy101
theorem mr_st {u : RS} {sp : Int} {k : Nat} {bl : Bool} {rd : Nat → Int} {N : Nat} (h : mRd u sp k bl rd) (hI : rdI u N) (hN : N ≤ 60) : (0 ≤ sp ∧ sp ≤ 8) ∧ k < 16 ∧ ((sp = 6 ∨ sp = 8) ↔ (uA u = 6 ∨ uA u = 7 ∨ uA u = 9)) := by
  have hA := hI.1
  have i10 := hI.2.2.2.2.2.2.2.2.2.1
  have i11 := mnA_nn (uA u)
  have ua : (uA u ≤ 6 ∧ sp = uA u) ∨ (6 < uA u ∧ sp = uA u - 1) := by rw [h.1]; unfold stp; split <;> omega
  have hk := h.2.1
  refine ⟨by omega, by omega, by omega⟩

set_option maxRecDepth 100000 in
set_option maxHeartbeats 4000000 in
theorem c_X8_load_no1 (l : Launch) (D : va_G) (cy : Nat → ClassId) (mo mz msv mtx mmo mif mmg mtn mie mme mrd mas : Nat) (T : LSt) (hz : Nat) (HZ : Nat → LSt) (len : Nat) (tx : Nat → Int) (th : Int) (W : va_W) (hG : gOk T) (hW : MW cy mo mz msv mtx mmo mif mmg mtn mie mme mrd mas T hz HZ len tx th W) (hnf : ¬ rdFull tx len) (sz : Nat) : qMet l yX8_load (.code yX8_load cX8_load 3 (some .int)) 8 [.ref (mo)] D cy [W] sz (va_Qi (S := va_W) (fun r u => MW cy mo mz msv mtx mmo mif mmg mtn mie mme mrd mas T hz HZ len tx 1 u) (qB D cy [W] sz (fun u => [u])) (va_A [W].flatten sz)) := by
  refine q_ofMi (S := va_W) (b1 := fun u => [u]) (post := fun r u => MW cy mo mz msv mtx mmo mif mmg mtn mie mme mrd mas T hz HZ len tx 1 u) (by decide +kernel) (Nat.le_of_ble_eq_true rfl) ?_
  intro p e s m args below meth c Q A hx hb hml hown hg hQ hK hN hD hA H locs ls hP hS hl
  have hown : s.vm.findClass RX8 = some m.cls := hown
  have hl : lv_has ls 3 [(0, .ref (mo))] := hl
  have hW0 := hW
  obtain ⟨tu, fi, ro, sp, it, bl, hh, z, sd, bf, g, isF, mg, tn, isE, mE, rd, as9, rfl, ⟨hL, hz20, hz101⟩, ⟨hhz, hHZ⟩, hln, hbf, htx⟩ := hW
  obtain ⟨gV, gT, gC, gE, gI, gD⟩ := hG.eq hL
  obtain ⟨nc, hnc⟩ : ∃ nc : Nat, z 20 = (nc : Int) := ⟨(z 20).toNat, by omega⟩
  obtain ⟨ne, hne⟩ : ∃ ne : Nat, z 101 = (ne : Int) := ⟨(z 101).toNat, by omega⟩
  have e20 : (z 20).toNat = nc := by omega
  have e101 : (z 101).toNat = ne := by omega
  have hV : qV z := gV
  have hst : ∀ i, i < 10 → 0 ≤ z (10 + i) ∧ z (10 + i) ≤ 9 := gT
  have hc : nc ≤ 16 := e20 ▸ (gC.1 : (z 20).toNat ≤ 16)
  have hC : qWR (zC z) nc := e20 ▸ (gC.2 : qWR (zC z) (z 20).toNat)
  have he : ne ≤ 4 := e101 ▸ (gE.1 : (z 101).toNat ≤ 4)
  have hE : qWR (zE z) ne := e101 ▸ (gE.2 : qWR (zE z) (z 101).toNat)
  have hD9 : ∀ i j, i < ne → j < ne → zE z 0 i = zE z 0 j → i = j := e101 ▸ (gD : ∀ i j, i < (z 101).toNat → j < (z 101).toNat → zE z 0 i = zE z 0 j → i = j)
  have hL2 : LEq (z, (fun i => z (10 + i)), zC z, nc, zE z, ne) T := by rw [← e20, ← e101]; exact hL
  have en : nc = lN9 T := hL2.2.2.1
  have em : ne = lM T := hL2.2.2.2.2.1
  rw [fl_open] at hP hD
  have hP : va_P D vwCl [[(mo, .inr (8, [.int (qI (th)), .ref (mz), .int (qI (((hz : Nat) : Int))), .ref (msv), .int (qI (((len : Nat) : Int))), .ref (mtx), .ref (mmo), .int (qI (tu)), .ref (mif), .ref (mmg), .ref (mtn), .ref (mie), .ref (mme), .int (qz (fi)), .int (qI (ro)), .int (qI (sp)), .int (qI (it)), .int (qz (bl)), .ref (mrd), .ref (mas), .long (hh)]))], [(mz, aI cy 115 (z))], [(msv, aI cy 920 (sd))], [(mtx, aI cy 60 (bf))], [(mmo, aI cy 121 (g))], [(mif, aZ cy 16 (isF))], [(mmg, aI cy 16 (mg))], [(mtn, aI cy 16 (tn))], [(mie, aZ cy 4 (isE))], [(mme, aI cy 4 (mE))], [(mrd, aI cy 100 (rd))], [(mas, aI cy 115 (as9))]].flatten H := hP
  have hD : va_D A [[(mo, .inr (8, [.int (qI (th)), .ref (mz), .int (qI (((hz : Nat) : Int))), .ref (msv), .int (qI (((len : Nat) : Int))), .ref (mtx), .ref (mmo), .int (qI (tu)), .ref (mif), .ref (mmg), .ref (mtn), .ref (mie), .ref (mme), .int (qz (fi)), .int (qI (ro)), .int (qI (sp)), .int (qI (it)), .int (qz (bl)), .ref (mrd), .ref (mas), .long (hh)]))], [(mz, aI cy 115 (z))], [(msv, aI cy 920 (sd))], [(mtx, aI cy 60 (bf))], [(mmo, aI cy 121 (g))], [(mif, aZ cy 16 (isF))], [(mmg, aI cy 16 (mg))], [(mtn, aI cy 16 (tn))], [(mie, aZ cy 4 (isE))], [(mme, aI cy 4 (mE))], [(mrd, aI cy 100 (rd))], [(mas, aI cy 115 (as9))]].flatten := hD
  refine lv_aload_n hx hb dX8_load_0 rfl (lv_at hl 0 rfl) ?_
  refine q_backi [0, 3, 10] [1, 2, 4, 5, 6, 7, 8, 9, 11] (br := [[(mz, aI cy 115 (z))], [(msv, aI cy 920 (sd))], [(mmo, aI cy 121 (g))], [(mif, aZ cy 16 (isF))], [(mmg, aI cy 16 (mg))], [(mtn, aI cy 16 (tn))], [(mie, aZ cy 4 (isE))], [(mme, aI cy 4 (mE))], [(mas, aI cy 115 (as9))]]) hP hD hS hA (va_runV (As := []) (rest := []) ⟨hx, hb, hml, hown, hg⟩ (c_X8_readText l D cy mo mz msv mtx mmo mif mmg mtn mie mme mrd mas (th) (((hz : Nat) : Int)) len (tu) (fi) (ro) (sp) (it) (bl) (hh) bf tx (rd) hln hbf htx _) (cv_X8_166 hg rfl rfl ⟨by decide, by decide⟩) ⟨q_blind, va_recv hK (fl_blk hP 0 rfl) (ci := 8) (q0 := 0) rfl rfl, q_preM _ hK hN hP hD [0, 3, 10] (by decide) rfl⟩ rfl rfl hl.1 rfl (lv_room (Nat.le_of_ble_eq_true rfl)) dX8_load_1 ⟨by decide, by decide⟩) rfl rfl (by decide) (fun r_1 u_1 H locs h_1 hP hD hS => ?_)
  have hP : va_P D vwCl [[(mz, aI cy 115 (z))], [(msv, aI cy 920 (sd))], [(mmo, aI cy 121 (g))], [(mif, aZ cy 16 (isF))], [(mmg, aI cy 16 (mg))], [(mtn, aI cy 16 (tn))], [(mie, aZ cy 4 (isE))], [(mme, aI cy 4 (mE))], [(mas, aI cy 115 (as9))], [(mo, .inr (8, [.int (qI (th)), .ref (mz), .int (qI (((hz : Nat) : Int))), .ref (msv), .int (qI (((len : Nat) : Int))), .ref (mtx), .ref (mmo), .int (qI (tu)), .ref (mif), .ref (mmg), .ref (mtn), .ref (mie), .ref (mme), .int (qz (fi)), .int (qI (ro)), .int (qI (u_1.1)), .int (qI (((u_1.2.1 : Nat) : Int))), .int (qz (u_1.2.2.1)), .ref (mrd), .ref (mas), .long (hh)]))], [(mtx, aI cy 60 (bf))], [(mrd, aI cy 100 (u_1.2.2.2))]].flatten H := hP
  have hD : va_D A [[(mz, aI cy 115 (z))], [(msv, aI cy 920 (sd))], [(mmo, aI cy 121 (g))], [(mif, aZ cy 16 (isF))], [(mmg, aI cy 16 (mg))], [(mtn, aI cy 16 (tn))], [(mie, aZ cy 4 (isE))], [(mme, aI cy 4 (mE))], [(mas, aI cy 115 (as9))], [(mo, .inr (8, [.int (qI (th)), .ref (mz), .int (qI (((hz : Nat) : Int))), .ref (msv), .int (qI (((len : Nat) : Int))), .ref (mtx), .ref (mmo), .int (qI (tu)), .ref (mif), .ref (mmg), .ref (mtn), .ref (mie), .ref (mme), .int (qz (fi)), .int (qI (ro)), .int (qI (u_1.1)), .int (qI (((u_1.2.1 : Nat) : Int))), .int (qz (u_1.2.2.1)), .ref (mrd), .ref (mas), .long (hh)]))], [(mtx, aI cy 60 (bf))], [(mrd, aI cy 100 (u_1.2.2.2))]].flatten := hD
  obtain ⟨z_1, rfl, h_1⟩ := h_1
  have hle9 := h_1.1.1
  refine lv_aload_n hx hb dX8_load_4 rfl (lv_at hl 0 rfl) ?_
  refine gf_X8_129 hx hb hg hown hK (fl_blk hP 9 rfl) 0 rfl rfl dX8_load_5 ?_
  refine q_icmp_ne (tgt := 33) hx hb dX8_load_8 (by decide) (by omega) (fun c_8 => ?_) (fun c_8 => ?_)
  · skip
    refine q_iconst hx hb dX8_load_33 ?_
    refine lv_istore_n (lv' := [(1, .int (qI (0))), (0, .ref (mo))]) hx hb dX8_load_34 rfl hl (by decide) rfl (fun ls hl => ?_)
    refine lv_iload_n hx hb dX8_load_35 rfl (lv_at hl 0 rfl) ?_
    refine q_if_eq (tgt := 43) hx hb dX8_load_36 (by decide) (by omega) (fun c_36 => ?_) (fun c_36 => ?_)
    · skip
      refine lv_aload_n hx hb dX8_load_43 rfl (lv_at hl 1 rfl) ?_
      refine lv_iload_n hx hb dX8_load_44 rfl (lv_at hl 0 rfl) ?_
      refine q_if_ne (tgt := 52) hx hb dX8_load_45 (by decide) (by omega) (fun c_45 => ?_) (fun c_45 => ?_)
      · skip
        exact absurd c_45 (by decide)
      · skip
        refine q_iconst hx hb dX8_load_48 ?_
        refine lv_goto (tgt := 74) hx hb dX8_load_49 (by decide) ?_
        refine pf_X8_44 hx hb hg hown hK hP hD hS 9 0 rfl rfl rfl rfl (Nat.le_of_ble_eq_true rfl) dX8_load_74 (fun H locs hP hD hS => ?_)
        have hP : va_P D vwCl [[(mz, aI cy 115 (z))], [(msv, aI cy 920 (sd))], [(mmo, aI cy 121 (g))], [(mif, aZ cy 16 (isF))], [(mmg, aI cy 16 (mg))], [(mtn, aI cy 16 (tn))], [(mie, aZ cy 4 (isE))], [(mme, aI cy 4 (mE))], [(mas, aI cy 115 (as9))], [(mo, .inr (8, [.int (qI (1)), .ref (mz), .int (qI (((hz : Nat) : Int))), .ref (msv), .int (qI (((len : Nat) : Int))), .ref (mtx), .ref (mmo), .int (qI (tu)), .ref (mif), .ref (mmg), .ref (mtn), .ref (mie), .ref (mme), .int (qz (fi)), .int (qI (ro)), .int (qI (u_1.1)), .int (qI (((u_1.2.1 : Nat) : Int))), .int (qz (u_1.2.2.1)), .ref (mrd), .ref (mas), .long (hh)]))], [(mtx, aI cy 60 (bf))], [(mrd, aI cy 100 (u_1.2.2.2))]].flatten H := hP
        have hD : va_D A [[(mz, aI cy 115 (z))], [(msv, aI cy 920 (sd))], [(mmo, aI cy 121 (g))], [(mif, aZ cy 16 (isF))], [(mmg, aI cy 16 (mg))], [(mtn, aI cy 16 (tn))], [(mie, aZ cy 4 (isE))], [(mme, aI cy 4 (mE))], [(mas, aI cy 115 (as9))], [(mo, .inr (8, [.int (qI (1)), .ref (mz), .int (qI (((hz : Nat) : Int))), .ref (msv), .int (qI (((len : Nat) : Int))), .ref (mtx), .ref (mmo), .int (qI (tu)), .ref (mif), .ref (mmg), .ref (mtn), .ref (mie), .ref (mme), .int (qz (fi)), .int (qI (ro)), .int (qI (u_1.1)), .int (qI (((u_1.2.1 : Nat) : Int))), .int (qz (u_1.2.2.1)), .ref (mrd), .ref (mas), .long (hh)]))], [(mtx, aI cy 60 (bf))], [(mrd, aI cy 100 (u_1.2.2.2))]].flatten := hD
        refine lv_aload_n hx hb dX8_load_77 rfl (lv_at hl 1 rfl) ?_
        refine gf_X8_44 hx hb hg hown hK (fl_blk hP 9 rfl) 0 rfl rfl dX8_load_78 ?_
        refine q_if_le (tgt := 86) hx hb dX8_load_81 (by decide) (by omega) (fun c_81 => ?_) (fun c_81 => ?_)
        · skip
          exact absurd c_81 (by decide)
        · skip
          refine q_iconst hx hb dX8_load_84 ?_
          have hP := fl_sub (bs' := [[(mo, .inr (8, [.int (qI (1)), .ref (mz), .int (qI (((hz : Nat) : Int))), .ref (msv), .int (qI (((len : Nat) : Int))), .ref (mtx), .ref (mmo), .int (qI (tu)), .ref (mif), .ref (mmg), .ref (mtn), .ref (mie), .ref (mme), .int (qz (fi)), .int (qI (ro)), .int (qI (u_1.1)), .int (qI (((u_1.2.1 : Nat) : Int))), .int (qz (u_1.2.2.1)), .ref (mrd), .ref (mas), .long (hh)]))], [(mz, aI cy 115 (z))], [(msv, aI cy 920 (sd))], [(mtx, aI cy 60 (bf))], [(mmo, aI cy 121 (g))], [(mif, aZ cy 16 (isF))], [(mmg, aI cy 16 (mg))], [(mtn, aI cy 16 (tn))], [(mie, aZ cy 4 (isE))], [(mme, aI cy 4 (mE))], [(mrd, aI cy 100 (u_1.2.2.2))], [(mas, aI cy 115 (as9))]]) hP [9, 0, 1, 10, 2, 3, 4, 5, 6, 7, 11, 8] rfl
          have hD := fl_subD (bs' := [[(mo, .inr (8, [.int (qI (1)), .ref (mz), .int (qI (((hz : Nat) : Int))), .ref (msv), .int (qI (((len : Nat) : Int))), .ref (mtx), .ref (mmo), .int (qI (tu)), .ref (mif), .ref (mmg), .ref (mtn), .ref (mie), .ref (mme), .int (qz (fi)), .int (qI (ro)), .int (qI (u_1.1)), .int (qI (((u_1.2.1 : Nat) : Int))), .int (qz (u_1.2.2.1)), .ref (mrd), .ref (mas), .long (hh)]))], [(mz, aI cy 115 (z))], [(msv, aI cy 920 (sd))], [(mtx, aI cy 60 (bf))], [(mmo, aI cy 121 (g))], [(mif, aZ cy 16 (isF))], [(mmg, aI cy 16 (mg))], [(mtn, aI cy 16 (tn))], [(mie, aZ cy 4 (isE))], [(mme, aI cy 4 (mE))], [(mrd, aI cy 100 (u_1.2.2.2))], [(mas, aI cy 115 (as9))]]) hD [9, 0, 1, 10, 2, 3, 4, 5, 6, 7, 11, 8] (by decide) rfl
          have hP : va_P D vwCl [(mdB cy mo mz msv mtx mmo mif mmg mtn mie mme mrd mas (1) (hz) (len) (tu) (fi) (ro) (u_1.1) (((u_1.2.1 : Nat) : Int)) (u_1.2.2.1) (hh) (z) (sd) (bf) (g) (isF) (mg) (tn) (isE) (mE) (u_1.2.2.2) (as9)).flatten].flatten H := by rw [fl_open]; exact hP
          have hD : va_D A [(mdB cy mo mz msv mtx mmo mif mmg mtn mie mme mrd mas (1) (hz) (len) (tu) (fi) (ro) (u_1.1) (((u_1.2.1 : Nat) : Int)) (u_1.2.2.1) (hh) (z) (sd) (bf) (g) (isF) (mg) (tn) (isE) (mE) (u_1.2.2.2) (as9)).flatten].flatten := by rw [fl_open]; exact hD
          exact hQ _ _ _ _ _ ((mdB cy mo mz msv mtx mmo mif mmg mtn mie mme mrd mas (1) (hz) (len) (tu) (fi) (ro) (u_1.1) (((u_1.2.1 : Nat) : Int)) (u_1.2.2.1) (hh) (z) (sd) (bf) (g) (isF) (mg) (tn) (isE) (mE) (u_1.2.2.2) (as9)).flatten) ⟨(tu), (fi), (ro), (u_1.1), (((u_1.2.1 : Nat) : Int)), (u_1.2.2.1), (hh), (z), (sd), (bf), (g), (isF), (mg), (tn), (isE), (mE), (u_1.2.2.2), (as9), rfl, ⟨hL, hz20, hz101⟩, ⟨hhz, hHZ⟩, hln, hbf, htx⟩ hP hD hS dX8_load_85
    · skip
      exact absurd c_36 (by decide)
  · skip
    have e9 : z_1 = len := by omega
    have hm9 := h_1.2 e9
    have ho9 : ∀ i, i < len → okAt tx i := fun i hi => h_1.1.2.1 i (by omega)
    have hs9 := mr_st hm9 (rdI_at len ho9) hln
    have hx9 : ¬ (u_1.1 = 6 ∨ u_1.1 = 8) := fun z => hnf ⟨ho9, hs9.2.2.mp z⟩
    refine lv_aload_n hx hb dX8_load_11 rfl (lv_at hl 0 rfl) ?_
    refine gf_X8_132 hx hb hg hown hK (fl_blk hP 9 rfl) 0 rfl rfl dX8_load_12 ?_
    refine q_bipush hx hb dX8_load_15 (by decide) ?_
    refine q_icmp_eq (tgt := 29) hx hb dX8_load_17 (by decide) (by omega) (fun c_17 => ?_) (fun c_17 => ?_)
    · skip
      exfalso; omega
    · skip
      refine lv_aload_n hx hb dX8_load_20 rfl (lv_at hl 0 rfl) ?_
      refine gf_X8_132 hx hb hg hown hK (fl_blk hP 9 rfl) 0 rfl rfl dX8_load_21 ?_
      refine q_bipush hx hb dX8_load_24 (by decide) ?_
      refine q_icmp_ne (tgt := 33) hx hb dX8_load_26 (by decide) (by omega) (fun c_26 => ?_) (fun c_26 => ?_)
      · skip
        refine q_iconst hx hb dX8_load_33 ?_
        refine lv_istore_n (lv' := [(1, .int (qI (0))), (0, .ref (mo))]) hx hb dX8_load_34 rfl hl (by decide) rfl (fun ls hl => ?_)
        refine lv_iload_n hx hb dX8_load_35 rfl (lv_at hl 0 rfl) ?_
        refine q_if_eq (tgt := 43) hx hb dX8_load_36 (by decide) (by omega) (fun c_36 => ?_) (fun c_36 => ?_)
        · skip
          refine lv_aload_n hx hb dX8_load_43 rfl (lv_at hl 1 rfl) ?_
          refine lv_iload_n hx hb dX8_load_44 rfl (lv_at hl 0 rfl) ?_
          refine q_if_ne (tgt := 52) hx hb dX8_load_45 (by decide) (by omega) (fun c_45 => ?_) (fun c_45 => ?_)
          · skip
            exact absurd c_45 (by decide)
          · skip
            refine q_iconst hx hb dX8_load_48 ?_
            refine lv_goto (tgt := 74) hx hb dX8_load_49 (by decide) ?_
            refine pf_X8_44 hx hb hg hown hK hP hD hS 9 0 rfl rfl rfl rfl (Nat.le_of_ble_eq_true rfl) dX8_load_74 (fun H locs hP hD hS => ?_)
            have hP : va_P D vwCl [[(mz, aI cy 115 (z))], [(msv, aI cy 920 (sd))], [(mmo, aI cy 121 (g))], [(mif, aZ cy 16 (isF))], [(mmg, aI cy 16 (mg))], [(mtn, aI cy 16 (tn))], [(mie, aZ cy 4 (isE))], [(mme, aI cy 4 (mE))], [(mas, aI cy 115 (as9))], [(mo, .inr (8, [.int (qI (1)), .ref (mz), .int (qI (((hz : Nat) : Int))), .ref (msv), .int (qI (((len : Nat) : Int))), .ref (mtx), .ref (mmo), .int (qI (tu)), .ref (mif), .ref (mmg), .ref (mtn), .ref (mie), .ref (mme), .int (qz (fi)), .int (qI (ro)), .int (qI (u_1.1)), .int (qI (((u_1.2.1 : Nat) : Int))), .int (qz (u_1.2.2.1)), .ref (mrd), .ref (mas), .long (hh)]))], [(mtx, aI cy 60 (bf))], [(mrd, aI cy 100 (u_1.2.2.2))]].flatten H := hP
            have hD : va_D A [[(mz, aI cy 115 (z))], [(msv, aI cy 920 (sd))], [(mmo, aI cy 121 (g))], [(mif, aZ cy 16 (isF))], [(mmg, aI cy 16 (mg))], [(mtn, aI cy 16 (tn))], [(mie, aZ cy 4 (isE))], [(mme, aI cy 4 (mE))], [(mas, aI cy 115 (as9))], [(mo, .inr (8, [.int (qI (1)), .ref (mz), .int (qI (((hz : Nat) : Int))), .ref (msv), .int (qI (((len : Nat) : Int))), .ref (mtx), .ref (mmo), .int (qI (tu)), .ref (mif), .ref (mmg), .ref (mtn), .ref (mie), .ref (mme), .int (qz (fi)), .int (qI (ro)), .int (qI (u_1.1)), .int (qI (((u_1.2.1 : Nat) : Int))), .int (qz (u_1.2.2.1)), .ref (mrd), .ref (mas), .long (hh)]))], [(mtx, aI cy 60 (bf))], [(mrd, aI cy 100 (u_1.2.2.2))]].flatten := hD
            refine lv_aload_n hx hb dX8_load_77 rfl (lv_at hl 1 rfl) ?_
            refine gf_X8_44 hx hb hg hown hK (fl_blk hP 9 rfl) 0 rfl rfl dX8_load_78 ?_
            refine q_if_le (tgt := 86) hx hb dX8_load_81 (by decide) (by omega) (fun c_81 => ?_) (fun c_81 => ?_)
            · skip
              exact absurd c_81 (by decide)
            · skip
              refine q_iconst hx hb dX8_load_84 ?_
              have hP := fl_sub (bs' := [[(mo, .inr (8, [.int (qI (1)), .ref (mz), .int (qI (((hz : Nat) : Int))), .ref (msv), .int (qI (((len : Nat) : Int))), .ref (mtx), .ref (mmo), .int (qI (tu)), .ref (mif), .ref (mmg), .ref (mtn), .ref (mie), .ref (mme), .int (qz (fi)), .int (qI (ro)), .int (qI (u_1.1)), .int (qI (((u_1.2.1 : Nat) : Int))), .int (qz (u_1.2.2.1)), .ref (mrd), .ref (mas), .long (hh)]))], [(mz, aI cy 115 (z))], [(msv, aI cy 920 (sd))], [(mtx, aI cy 60 (bf))], [(mmo, aI cy 121 (g))], [(mif, aZ cy 16 (isF))], [(mmg, aI cy 16 (mg))], [(mtn, aI cy 16 (tn))], [(mie, aZ cy 4 (isE))], [(mme, aI cy 4 (mE))], [(mrd, aI cy 100 (u_1.2.2.2))], [(mas, aI cy 115 (as9))]]) hP [9, 0, 1, 10, 2, 3, 4, 5, 6, 7, 11, 8] rfl
              have hD := fl_subD (bs' := [[(mo, .inr (8, [.int (qI (1)), .ref (mz), .int (qI (((hz : Nat) : Int))), .ref (msv), .int (qI (((len : Nat) : Int))), .ref (mtx), .ref (mmo), .int (qI (tu)), .ref (mif), .ref (mmg), .ref (mtn), .ref (mie), .ref (mme), .int (qz (fi)), .int (qI (ro)), .int (qI (u_1.1)), .int (qI (((u_1.2.1 : Nat) : Int))), .int (qz (u_1.2.2.1)), .ref (mrd), .ref (mas), .long (hh)]))], [(mz, aI cy 115 (z))], [(msv, aI cy 920 (sd))], [(mtx, aI cy 60 (bf))], [(mmo, aI cy 121 (g))], [(mif, aZ cy 16 (isF))], [(mmg, aI cy 16 (mg))], [(mtn, aI cy 16 (tn))], [(mie, aZ cy 4 (isE))], [(mme, aI cy 4 (mE))], [(mrd, aI cy 100 (u_1.2.2.2))], [(mas, aI cy 115 (as9))]]) hD [9, 0, 1, 10, 2, 3, 4, 5, 6, 7, 11, 8] (by decide) rfl
              have hP : va_P D vwCl [(mdB cy mo mz msv mtx mmo mif mmg mtn mie mme mrd mas (1) (hz) (len) (tu) (fi) (ro) (u_1.1) (((u_1.2.1 : Nat) : Int)) (u_1.2.2.1) (hh) (z) (sd) (bf) (g) (isF) (mg) (tn) (isE) (mE) (u_1.2.2.2) (as9)).flatten].flatten H := by rw [fl_open]; exact hP
              have hD : va_D A [(mdB cy mo mz msv mtx mmo mif mmg mtn mie mme mrd mas (1) (hz) (len) (tu) (fi) (ro) (u_1.1) (((u_1.2.1 : Nat) : Int)) (u_1.2.2.1) (hh) (z) (sd) (bf) (g) (isF) (mg) (tn) (isE) (mE) (u_1.2.2.2) (as9)).flatten].flatten := by rw [fl_open]; exact hD
              exact hQ _ _ _ _ _ ((mdB cy mo mz msv mtx mmo mif mmg mtn mie mme mrd mas (1) (hz) (len) (tu) (fi) (ro) (u_1.1) (((u_1.2.1 : Nat) : Int)) (u_1.2.2.1) (hh) (z) (sd) (bf) (g) (isF) (mg) (tn) (isE) (mE) (u_1.2.2.2) (as9)).flatten) ⟨(tu), (fi), (ro), (u_1.1), (((u_1.2.1 : Nat) : Int)), (u_1.2.2.1), (hh), (z), (sd), (bf), (g), (isF), (mg), (tn), (isE), (mE), (u_1.2.2.2), (as9), rfl, ⟨hL, hz20, hz101⟩, ⟨hhz, hHZ⟩, hln, hbf, htx⟩ hP hD hS dX8_load_85
        · skip
          exact absurd c_36 (by decide)
      · skip
        exfalso; omega

set_option maxRecDepth 100000 in
set_option maxHeartbeats 4000000 in
theorem c_X8_load_no2 (l : Launch) (D : va_G) (cy : Nat → ClassId) (mo mz msv mtx mmo mif mmg mtn mie mme mrd mas : Nat) (T : LSt) (hz : Nat) (HZ : Nat → LSt) (len : Nat) (tx : Nat → Int) (th : Int) (W : va_W) (hG : gOk T) (hW : MW cy mo mz msv mtx mmo mif mmg mtn mie mme mrd mas T hz HZ len tx th W) (hfull : rdFull tx len) (hcap : ¬ lN9 T + ldK tx len ≤ 16) (sz : Nat) : qMet l yX8_load (.code yX8_load cX8_load 3 (some .int)) 8 [.ref (mo)] D cy [W] sz (va_Qi (S := va_W) (fun r u => MW cy mo mz msv mtx mmo mif mmg mtn mie mme mrd mas T hz HZ len tx 2 u) (qB D cy [W] sz (fun u => [u])) (va_A [W].flatten sz)) := by
  refine q_ofMi (S := va_W) (b1 := fun u => [u]) (post := fun r u => MW cy mo mz msv mtx mmo mif mmg mtn mie mme mrd mas T hz HZ len tx 2 u) (by decide +kernel) (Nat.le_of_ble_eq_true rfl) ?_
  intro p e s m args below meth c Q A hx hb hml hown hg hQ hK hN hD hA H locs ls hP hS hl
  have hown : s.vm.findClass RX8 = some m.cls := hown
  have hl : lv_has ls 3 [(0, .ref (mo))] := hl
  have hW0 := hW
  obtain ⟨tu, fi, ro, sp, it, bl, hh, z, sd, bf, g, isF, mg, tn, isE, mE, rd, as9, rfl, ⟨hL, hz20, hz101⟩, ⟨hhz, hHZ⟩, hln, hbf, htx⟩ := hW
  obtain ⟨gV, gT, gC, gE, gI, gD⟩ := hG.eq hL
  obtain ⟨nc, hnc⟩ : ∃ nc : Nat, z 20 = (nc : Int) := ⟨(z 20).toNat, by omega⟩
  obtain ⟨ne, hne⟩ : ∃ ne : Nat, z 101 = (ne : Int) := ⟨(z 101).toNat, by omega⟩
  have e20 : (z 20).toNat = nc := by omega
  have e101 : (z 101).toNat = ne := by omega
  have hV : qV z := gV
  have hst : ∀ i, i < 10 → 0 ≤ z (10 + i) ∧ z (10 + i) ≤ 9 := gT
  have hc : nc ≤ 16 := e20 ▸ (gC.1 : (z 20).toNat ≤ 16)
  have hC : qWR (zC z) nc := e20 ▸ (gC.2 : qWR (zC z) (z 20).toNat)
  have he : ne ≤ 4 := e101 ▸ (gE.1 : (z 101).toNat ≤ 4)
  have hE : qWR (zE z) ne := e101 ▸ (gE.2 : qWR (zE z) (z 101).toNat)
  have hD9 : ∀ i j, i < ne → j < ne → zE z 0 i = zE z 0 j → i = j := e101 ▸ (gD : ∀ i j, i < (z 101).toNat → j < (z 101).toNat → zE z 0 i = zE z 0 j → i = j)
  have hL2 : LEq (z, (fun i => z (10 + i)), zC z, nc, zE z, ne) T := by rw [← e20, ← e101]; exact hL
  have en : nc = lN9 T := hL2.2.2.1
  have em : ne = lM T := hL2.2.2.2.2.1
  rw [fl_open] at hP hD
  have hP : va_P D vwCl [[(mo, .inr (8, [.int (qI (th)), .ref (mz), .int (qI (((hz : Nat) : Int))), .ref (msv), .int (qI (((len : Nat) : Int))), .ref (mtx), .ref (mmo), .int (qI (tu)), .ref (mif), .ref (mmg), .ref (mtn), .ref (mie), .ref (mme), .int (qz (fi)), .int (qI (ro)), .int (qI (sp)), .int (qI (it)), .int (qz (bl)), .ref (mrd), .ref (mas), .long (hh)]))], [(mz, aI cy 115 (z))], [(msv, aI cy 920 (sd))], [(mtx, aI cy 60 (bf))], [(mmo, aI cy 121 (g))], [(mif, aZ cy 16 (isF))], [(mmg, aI cy 16 (mg))], [(mtn, aI cy 16 (tn))], [(mie, aZ cy 4 (isE))], [(mme, aI cy 4 (mE))], [(mrd, aI cy 100 (rd))], [(mas, aI cy 115 (as9))]].flatten H := hP
  have hD : va_D A [[(mo, .inr (8, [.int (qI (th)), .ref (mz), .int (qI (((hz : Nat) : Int))), .ref (msv), .int (qI (((len : Nat) : Int))), .ref (mtx), .ref (mmo), .int (qI (tu)), .ref (mif), .ref (mmg), .ref (mtn), .ref (mie), .ref (mme), .int (qz (fi)), .int (qI (ro)), .int (qI (sp)), .int (qI (it)), .int (qz (bl)), .ref (mrd), .ref (mas), .long (hh)]))], [(mz, aI cy 115 (z))], [(msv, aI cy 920 (sd))], [(mtx, aI cy 60 (bf))], [(mmo, aI cy 121 (g))], [(mif, aZ cy 16 (isF))], [(mmg, aI cy 16 (mg))], [(mtn, aI cy 16 (tn))], [(mie, aZ cy 4 (isE))], [(mme, aI cy 4 (mE))], [(mrd, aI cy 100 (rd))], [(mas, aI cy 115 (as9))]].flatten := hD
  refine lv_aload_n hx hb dX8_load_0 rfl (lv_at hl 0 rfl) ?_
  refine q_backi [0, 3, 10] [1, 2, 4, 5, 6, 7, 8, 9, 11] (br := [[(mz, aI cy 115 (z))], [(msv, aI cy 920 (sd))], [(mmo, aI cy 121 (g))], [(mif, aZ cy 16 (isF))], [(mmg, aI cy 16 (mg))], [(mtn, aI cy 16 (tn))], [(mie, aZ cy 4 (isE))], [(mme, aI cy 4 (mE))], [(mas, aI cy 115 (as9))]]) hP hD hS hA (va_runV (As := []) (rest := []) ⟨hx, hb, hml, hown, hg⟩ (c_X8_readText l D cy mo mz msv mtx mmo mif mmg mtn mie mme mrd mas (th) (((hz : Nat) : Int)) len (tu) (fi) (ro) (sp) (it) (bl) (hh) bf tx (rd) hln hbf htx _) (cv_X8_166 hg rfl rfl ⟨by decide, by decide⟩) ⟨q_blind, va_recv hK (fl_blk hP 0 rfl) (ci := 8) (q0 := 0) rfl rfl, q_preM _ hK hN hP hD [0, 3, 10] (by decide) rfl⟩ rfl rfl hl.1 rfl (lv_room (Nat.le_of_ble_eq_true rfl)) dX8_load_1 ⟨by decide, by decide⟩) rfl rfl (by decide) (fun r_1 u_1 H locs h_1 hP hD hS => ?_)
  have hP : va_P D vwCl [[(mz, aI cy 115 (z))], [(msv, aI cy 920 (sd))], [(mmo, aI cy 121 (g))], [(mif, aZ cy 16 (isF))], [(mmg, aI cy 16 (mg))], [(mtn, aI cy 16 (tn))], [(mie, aZ cy 4 (isE))], [(mme, aI cy 4 (mE))], [(mas, aI cy 115 (as9))], [(mo, .inr (8, [.int (qI (th)), .ref (mz), .int (qI (((hz : Nat) : Int))), .ref (msv), .int (qI (((len : Nat) : Int))), .ref (mtx), .ref (mmo), .int (qI (tu)), .ref (mif), .ref (mmg), .ref (mtn), .ref (mie), .ref (mme), .int (qz (fi)), .int (qI (ro)), .int (qI (u_1.1)), .int (qI (((u_1.2.1 : Nat) : Int))), .int (qz (u_1.2.2.1)), .ref (mrd), .ref (mas), .long (hh)]))], [(mtx, aI cy 60 (bf))], [(mrd, aI cy 100 (u_1.2.2.2))]].flatten H := hP
  have hD : va_D A [[(mz, aI cy 115 (z))], [(msv, aI cy 920 (sd))], [(mmo, aI cy 121 (g))], [(mif, aZ cy 16 (isF))], [(mmg, aI cy 16 (mg))], [(mtn, aI cy 16 (tn))], [(mie, aZ cy 4 (isE))], [(mme, aI cy 4 (mE))], [(mas, aI cy 115 (as9))], [(mo, .inr (8, [.int (qI (th)), .ref (mz), .int (qI (((hz : Nat) : Int))), .ref (msv), .int (qI (((len : Nat) : Int))), .ref (mtx), .ref (mmo), .int (qI (tu)), .ref (mif), .ref (mmg), .ref (mtn), .ref (mie), .ref (mme), .int (qz (fi)), .int (qI (ro)), .int (qI (u_1.1)), .int (qI (((u_1.2.1 : Nat) : Int))), .int (qz (u_1.2.2.1)), .ref (mrd), .ref (mas), .long (hh)]))], [(mtx, aI cy 60 (bf))], [(mrd, aI cy 100 (u_1.2.2.2))]].flatten := hD
  obtain ⟨z_1, rfl, h_1⟩ := h_1
  have e9 : z_1 = len := h_1.1.uniq ⟨Nat.le_refl len, hfull.1, fun z => absurd z (by omega)⟩
  have hm9 := h_1.2 e9
  have hs9 := mr_st hm9 (rdI_at len hfull.1) hln
  have hs8 := hs9.2.2.mpr hfull.2
  refine lv_aload_n hx hb dX8_load_4 rfl (lv_at hl 0 rfl) ?_
  refine gf_X8_129 hx hb hg hown hK (fl_blk hP 9 rfl) 0 rfl rfl dX8_load_5 ?_
  refine q_icmp_ne (tgt := 33) hx hb dX8_load_8 (by decide) (by omega) (fun c_8 => ?_) (fun c_8 => ?_)
  · skip
    exfalso; omega
  · skip
    refine lv_aload_n hx hb dX8_load_11 rfl (lv_at hl 0 rfl) ?_
    refine gf_X8_132 hx hb hg hown hK (fl_blk hP 9 rfl) 0 rfl rfl dX8_load_12 ?_
    refine q_bipush hx hb dX8_load_15 (by decide) ?_
    refine q_icmp_eq (tgt := 29) hx hb dX8_load_17 (by decide) (by omega) (fun c_17 => ?_) (fun c_17 => ?_)
    · skip
      refine q_iconst hx hb dX8_load_29 ?_
      refine lv_goto (tgt := 34) hx hb dX8_load_30 (by decide) ?_
      refine lv_istore_n (lv' := [(1, .int (qI (1))), (0, .ref (mo))]) hx hb dX8_load_34 rfl hl (by decide) rfl (fun ls hl => ?_)
      refine lv_iload_n hx hb dX8_load_35 rfl (lv_at hl 0 rfl) ?_
      refine q_if_eq (tgt := 43) hx hb dX8_load_36 (by decide) (by omega) (fun c_36 => ?_) (fun c_36 => ?_)
      · skip
        exact absurd c_36 (by decide)
      · skip
        refine lv_aload_n hx hb dX8_load_39 rfl (lv_at hl 1 rfl) ?_
        refine q_backv [9, 11] [0, 1, 2, 3, 4, 5, 6, 7, 8, 10] (br := [[(mz, aI cy 115 (z))], [(msv, aI cy 920 (sd))], [(mmo, aI cy 121 (g))], [(mif, aZ cy 16 (isF))], [(mmg, aI cy 16 (mg))], [(mtn, aI cy 16 (tn))], [(mie, aZ cy 4 (isE))], [(mme, aI cy 4 (mE))], [(mas, aI cy 115 (as9))], [(mtx, aI cy 60 (bf))]]) hP hD hS hA (va_runV (As := []) (rest := []) ⟨hx, hb, hml, hown, hg⟩ (c_X8_endItem l D cy mo mz msv mtx mmo mif mmg mtn mie mme mrd mas (th) (((hz : Nat) : Int)) (((len : Nat) : Int)) (tu) (fi) (ro) (u_1.1) (u_1.2.1) (u_1.2.2.1) (hh) (u_1.2.2.2) hs9.2.1 _) (cv_X8_145 hg rfl rfl ⟨by decide, by decide⟩) ⟨q_blind, va_recv hK (fl_blk hP 9 rfl) (ci := 8) (q0 := 0) rfl rfl, q_preM _ hK hN hP hD [9, 11] (by decide) rfl⟩ rfl rfl hl.1 rfl (lv_room (Nat.le_of_ble_eq_true rfl)) dX8_load_40 ⟨by decide, by decide⟩) rfl rfl (by decide) (fun u_40 H locs h_40 hP hD hS => ?_)
        have hP : va_P D vwCl [[(mz, aI cy 115 (z))], [(msv, aI cy 920 (sd))], [(mmo, aI cy 121 (g))], [(mif, aZ cy 16 (isF))], [(mmg, aI cy 16 (mg))], [(mtn, aI cy 16 (tn))], [(mie, aZ cy 4 (isE))], [(mme, aI cy 4 (mE))], [(mas, aI cy 115 (as9))], [(mtx, aI cy 60 (bf))], [(mo, .inr (8, [.int (qI (th)), .ref (mz), .int (qI (((hz : Nat) : Int))), .ref (msv), .int (qI (((len : Nat) : Int))), .ref (mtx), .ref (mmo), .int (qI (tu)), .ref (mif), .ref (mmg), .ref (mtn), .ref (mie), .ref (mme), .int (qz (fi)), .int (qI (ro)), .int (qI (0)), .int (qI (((u_1.2.1 + 1 : Nat) : Int))), .int (qz (u_1.2.2.1)), .ref (mrd), .ref (mas), .long (hh)]))], [(mrd, aI cy 100 (u_40))]].flatten H := hP
        have hD : va_D A [[(mz, aI cy 115 (z))], [(msv, aI cy 920 (sd))], [(mmo, aI cy 121 (g))], [(mif, aZ cy 16 (isF))], [(mmg, aI cy 16 (mg))], [(mtn, aI cy 16 (tn))], [(mie, aZ cy 4 (isE))], [(mme, aI cy 4 (mE))], [(mas, aI cy 115 (as9))], [(mtx, aI cy 60 (bf))], [(mo, .inr (8, [.int (qI (th)), .ref (mz), .int (qI (((hz : Nat) : Int))), .ref (msv), .int (qI (((len : Nat) : Int))), .ref (mtx), .ref (mmo), .int (qI (tu)), .ref (mif), .ref (mmg), .ref (mtn), .ref (mie), .ref (mme), .int (qz (fi)), .int (qI (ro)), .int (qI (0)), .int (qI (((u_1.2.1 + 1 : Nat) : Int))), .int (qz (u_1.2.2.1)), .ref (mrd), .ref (mas), .long (hh)]))], [(mrd, aI cy 100 (u_40))]].flatten := hD
        have hme := mr_end hm9 hfull.2 (rdI_at len hfull.1)
        rw [← h_40] at hme
        have hk9 : u_1.2.1 + 1 = ldK tx len := hme.2.1
        refine lv_aload_n hx hb dX8_load_43 rfl (lv_at hl 1 rfl) ?_
        refine lv_iload_n hx hb dX8_load_44 rfl (lv_at hl 0 rfl) ?_
        refine q_if_ne (tgt := 52) hx hb dX8_load_45 (by decide) (by omega) (fun c_45 => ?_) (fun c_45 => ?_)
        · skip
          refine lv_aload_n hx hb dX8_load_52 rfl (lv_at hl 1 rfl) ?_
          refine gf_X8_7 hx hb hg hown hK (fl_blk hP 10 rfl) 0 rfl rfl dX8_load_53 ?_
          refine q_bipush hx hb dX8_load_56 (by decide) ?_
          refine q_iald (j := 20) hx hb hK (fl_blk hP 0 rfl) 0 rfl (by omega) dX8_load_58 ?_
          refine lv_aload_n hx hb dX8_load_59 rfl (lv_at hl 1 rfl) ?_
          refine gf_X8_135 hx hb hg hown hK (fl_blk hP 10 rfl) 0 rfl rfl dX8_load_60 ?_
          refine q_iadd hx hb dX8_load_63 ?_
          refine q_bipush hx hb dX8_load_64 (by decide) ?_
          refine q_icmp_le (tgt := 73) hx hb dX8_load_66 (by decide) (by omega) (fun c_66 => ?_) (fun c_66 => ?_)
          · skip
            exfalso; omega
          · skip
            refine q_iconst hx hb dX8_load_69 ?_
            refine lv_goto (tgt := 74) hx hb dX8_load_70 (by decide) ?_
            refine pf_X8_44 hx hb hg hown hK hP hD hS 10 0 rfl rfl rfl rfl (Nat.le_of_ble_eq_true rfl) dX8_load_74 (fun H locs hP hD hS => ?_)
            have hP : va_P D vwCl [[(mz, aI cy 115 (z))], [(msv, aI cy 920 (sd))], [(mmo, aI cy 121 (g))], [(mif, aZ cy 16 (isF))], [(mmg, aI cy 16 (mg))], [(mtn, aI cy 16 (tn))], [(mie, aZ cy 4 (isE))], [(mme, aI cy 4 (mE))], [(mas, aI cy 115 (as9))], [(mtx, aI cy 60 (bf))], [(mo, .inr (8, [.int (qI (2)), .ref (mz), .int (qI (((hz : Nat) : Int))), .ref (msv), .int (qI (((len : Nat) : Int))), .ref (mtx), .ref (mmo), .int (qI (tu)), .ref (mif), .ref (mmg), .ref (mtn), .ref (mie), .ref (mme), .int (qz (fi)), .int (qI (ro)), .int (qI (0)), .int (qI (((u_1.2.1 + 1 : Nat) : Int))), .int (qz (u_1.2.2.1)), .ref (mrd), .ref (mas), .long (hh)]))], [(mrd, aI cy 100 (u_40))]].flatten H := hP
            have hD : va_D A [[(mz, aI cy 115 (z))], [(msv, aI cy 920 (sd))], [(mmo, aI cy 121 (g))], [(mif, aZ cy 16 (isF))], [(mmg, aI cy 16 (mg))], [(mtn, aI cy 16 (tn))], [(mie, aZ cy 4 (isE))], [(mme, aI cy 4 (mE))], [(mas, aI cy 115 (as9))], [(mtx, aI cy 60 (bf))], [(mo, .inr (8, [.int (qI (2)), .ref (mz), .int (qI (((hz : Nat) : Int))), .ref (msv), .int (qI (((len : Nat) : Int))), .ref (mtx), .ref (mmo), .int (qI (tu)), .ref (mif), .ref (mmg), .ref (mtn), .ref (mie), .ref (mme), .int (qz (fi)), .int (qI (ro)), .int (qI (0)), .int (qI (((u_1.2.1 + 1 : Nat) : Int))), .int (qz (u_1.2.2.1)), .ref (mrd), .ref (mas), .long (hh)]))], [(mrd, aI cy 100 (u_40))]].flatten := hD
            refine lv_aload_n hx hb dX8_load_77 rfl (lv_at hl 1 rfl) ?_
            refine gf_X8_44 hx hb hg hown hK (fl_blk hP 10 rfl) 0 rfl rfl dX8_load_78 ?_
            refine q_if_le (tgt := 86) hx hb dX8_load_81 (by decide) (by omega) (fun c_81 => ?_) (fun c_81 => ?_)
            · skip
              exact absurd c_81 (by decide)
            · skip
              refine q_iconst hx hb dX8_load_84 ?_
              have hP := fl_sub (bs' := [[(mo, .inr (8, [.int (qI (2)), .ref (mz), .int (qI (((hz : Nat) : Int))), .ref (msv), .int (qI (((len : Nat) : Int))), .ref (mtx), .ref (mmo), .int (qI (tu)), .ref (mif), .ref (mmg), .ref (mtn), .ref (mie), .ref (mme), .int (qz (fi)), .int (qI (ro)), .int (qI (0)), .int (qI (((u_1.2.1 + 1 : Nat) : Int))), .int (qz (u_1.2.2.1)), .ref (mrd), .ref (mas), .long (hh)]))], [(mz, aI cy 115 (z))], [(msv, aI cy 920 (sd))], [(mtx, aI cy 60 (bf))], [(mmo, aI cy 121 (g))], [(mif, aZ cy 16 (isF))], [(mmg, aI cy 16 (mg))], [(mtn, aI cy 16 (tn))], [(mie, aZ cy 4 (isE))], [(mme, aI cy 4 (mE))], [(mrd, aI cy 100 (u_40))], [(mas, aI cy 115 (as9))]]) hP [10, 0, 1, 9, 2, 3, 4, 5, 6, 7, 11, 8] rfl
              have hD := fl_subD (bs' := [[(mo, .inr (8, [.int (qI (2)), .ref (mz), .int (qI (((hz : Nat) : Int))), .ref (msv), .int (qI (((len : Nat) : Int))), .ref (mtx), .ref (mmo), .int (qI (tu)), .ref (mif), .ref (mmg), .ref (mtn), .ref (mie), .ref (mme), .int (qz (fi)), .int (qI (ro)), .int (qI (0)), .int (qI (((u_1.2.1 + 1 : Nat) : Int))), .int (qz (u_1.2.2.1)), .ref (mrd), .ref (mas), .long (hh)]))], [(mz, aI cy 115 (z))], [(msv, aI cy 920 (sd))], [(mtx, aI cy 60 (bf))], [(mmo, aI cy 121 (g))], [(mif, aZ cy 16 (isF))], [(mmg, aI cy 16 (mg))], [(mtn, aI cy 16 (tn))], [(mie, aZ cy 4 (isE))], [(mme, aI cy 4 (mE))], [(mrd, aI cy 100 (u_40))], [(mas, aI cy 115 (as9))]]) hD [10, 0, 1, 9, 2, 3, 4, 5, 6, 7, 11, 8] (by decide) rfl
              have hP : va_P D vwCl [(mdB cy mo mz msv mtx mmo mif mmg mtn mie mme mrd mas (2) (hz) (len) (tu) (fi) (ro) (0) (((u_1.2.1 + 1 : Nat) : Int)) (u_1.2.2.1) (hh) (z) (sd) (bf) (g) (isF) (mg) (tn) (isE) (mE) (u_40) (as9)).flatten].flatten H := by rw [fl_open]; exact hP
              have hD : va_D A [(mdB cy mo mz msv mtx mmo mif mmg mtn mie mme mrd mas (2) (hz) (len) (tu) (fi) (ro) (0) (((u_1.2.1 + 1 : Nat) : Int)) (u_1.2.2.1) (hh) (z) (sd) (bf) (g) (isF) (mg) (tn) (isE) (mE) (u_40) (as9)).flatten].flatten := by rw [fl_open]; exact hD
              exact hQ _ _ _ _ _ ((mdB cy mo mz msv mtx mmo mif mmg mtn mie mme mrd mas (2) (hz) (len) (tu) (fi) (ro) (0) (((u_1.2.1 + 1 : Nat) : Int)) (u_1.2.2.1) (hh) (z) (sd) (bf) (g) (isF) (mg) (tn) (isE) (mE) (u_40) (as9)).flatten) ⟨(tu), (fi), (ro), (0), (((u_1.2.1 + 1 : Nat) : Int)), (u_1.2.2.1), (hh), (z), (sd), (bf), (g), (isF), (mg), (tn), (isE), (mE), (u_40), (as9), rfl, ⟨hL, hz20, hz101⟩, ⟨hhz, hHZ⟩, hln, hbf, htx⟩ hP hD hS dX8_load_85
        · skip
          exact absurd c_45 (by decide)
    · skip
      refine lv_aload_n hx hb dX8_load_20 rfl (lv_at hl 0 rfl) ?_
      refine gf_X8_132 hx hb hg hown hK (fl_blk hP 9 rfl) 0 rfl rfl dX8_load_21 ?_
      refine q_bipush hx hb dX8_load_24 (by decide) ?_
      refine q_icmp_ne (tgt := 33) hx hb dX8_load_26 (by decide) (by omega) (fun c_26 => ?_) (fun c_26 => ?_)
      · skip
        exfalso; omega
      · skip
        refine q_iconst hx hb dX8_load_29 ?_
        refine lv_goto (tgt := 34) hx hb dX8_load_30 (by decide) ?_
        refine lv_istore_n (lv' := [(1, .int (qI (1))), (0, .ref (mo))]) hx hb dX8_load_34 rfl hl (by decide) rfl (fun ls hl => ?_)
        refine lv_iload_n hx hb dX8_load_35 rfl (lv_at hl 0 rfl) ?_
        refine q_if_eq (tgt := 43) hx hb dX8_load_36 (by decide) (by omega) (fun c_36 => ?_) (fun c_36 => ?_)
        · skip
          exact absurd c_36 (by decide)
        · skip
          refine lv_aload_n hx hb dX8_load_39 rfl (lv_at hl 1 rfl) ?_
          refine q_backv [9, 11] [0, 1, 2, 3, 4, 5, 6, 7, 8, 10] (br := [[(mz, aI cy 115 (z))], [(msv, aI cy 920 (sd))], [(mmo, aI cy 121 (g))], [(mif, aZ cy 16 (isF))], [(mmg, aI cy 16 (mg))], [(mtn, aI cy 16 (tn))], [(mie, aZ cy 4 (isE))], [(mme, aI cy 4 (mE))], [(mas, aI cy 115 (as9))], [(mtx, aI cy 60 (bf))]]) hP hD hS hA (va_runV (As := []) (rest := []) ⟨hx, hb, hml, hown, hg⟩ (c_X8_endItem l D cy mo mz msv mtx mmo mif mmg mtn mie mme mrd mas (th) (((hz : Nat) : Int)) (((len : Nat) : Int)) (tu) (fi) (ro) (u_1.1) (u_1.2.1) (u_1.2.2.1) (hh) (u_1.2.2.2) hs9.2.1 _) (cv_X8_145 hg rfl rfl ⟨by decide, by decide⟩) ⟨q_blind, va_recv hK (fl_blk hP 9 rfl) (ci := 8) (q0 := 0) rfl rfl, q_preM _ hK hN hP hD [9, 11] (by decide) rfl⟩ rfl rfl hl.1 rfl (lv_room (Nat.le_of_ble_eq_true rfl)) dX8_load_40 ⟨by decide, by decide⟩) rfl rfl (by decide) (fun u_40 H locs h_40 hP hD hS => ?_)
          have hP : va_P D vwCl [[(mz, aI cy 115 (z))], [(msv, aI cy 920 (sd))], [(mmo, aI cy 121 (g))], [(mif, aZ cy 16 (isF))], [(mmg, aI cy 16 (mg))], [(mtn, aI cy 16 (tn))], [(mie, aZ cy 4 (isE))], [(mme, aI cy 4 (mE))], [(mas, aI cy 115 (as9))], [(mtx, aI cy 60 (bf))], [(mo, .inr (8, [.int (qI (th)), .ref (mz), .int (qI (((hz : Nat) : Int))), .ref (msv), .int (qI (((len : Nat) : Int))), .ref (mtx), .ref (mmo), .int (qI (tu)), .ref (mif), .ref (mmg), .ref (mtn), .ref (mie), .ref (mme), .int (qz (fi)), .int (qI (ro)), .int (qI (0)), .int (qI (((u_1.2.1 + 1 : Nat) : Int))), .int (qz (u_1.2.2.1)), .ref (mrd), .ref (mas), .long (hh)]))], [(mrd, aI cy 100 (u_40))]].flatten H := hP
          have hD : va_D A [[(mz, aI cy 115 (z))], [(msv, aI cy 920 (sd))], [(mmo, aI cy 121 (g))], [(mif, aZ cy 16 (isF))], [(mmg, aI cy 16 (mg))], [(mtn, aI cy 16 (tn))], [(mie, aZ cy 4 (isE))], [(mme, aI cy 4 (mE))], [(mas, aI cy 115 (as9))], [(mtx, aI cy 60 (bf))], [(mo, .inr (8, [.int (qI (th)), .ref (mz), .int (qI (((hz : Nat) : Int))), .ref (msv), .int (qI (((len : Nat) : Int))), .ref (mtx), .ref (mmo), .int (qI (tu)), .ref (mif), .ref (mmg), .ref (mtn), .ref (mie), .ref (mme), .int (qz (fi)), .int (qI (ro)), .int (qI (0)), .int (qI (((u_1.2.1 + 1 : Nat) : Int))), .int (qz (u_1.2.2.1)), .ref (mrd), .ref (mas), .long (hh)]))], [(mrd, aI cy 100 (u_40))]].flatten := hD
          have hme := mr_end hm9 hfull.2 (rdI_at len hfull.1)
          rw [← h_40] at hme
          have hk9 : u_1.2.1 + 1 = ldK tx len := hme.2.1
          refine lv_aload_n hx hb dX8_load_43 rfl (lv_at hl 1 rfl) ?_
          refine lv_iload_n hx hb dX8_load_44 rfl (lv_at hl 0 rfl) ?_
          refine q_if_ne (tgt := 52) hx hb dX8_load_45 (by decide) (by omega) (fun c_45 => ?_) (fun c_45 => ?_)
          · skip
            refine lv_aload_n hx hb dX8_load_52 rfl (lv_at hl 1 rfl) ?_
            refine gf_X8_7 hx hb hg hown hK (fl_blk hP 10 rfl) 0 rfl rfl dX8_load_53 ?_
            refine q_bipush hx hb dX8_load_56 (by decide) ?_
            refine q_iald (j := 20) hx hb hK (fl_blk hP 0 rfl) 0 rfl (by omega) dX8_load_58 ?_
            refine lv_aload_n hx hb dX8_load_59 rfl (lv_at hl 1 rfl) ?_
            refine gf_X8_135 hx hb hg hown hK (fl_blk hP 10 rfl) 0 rfl rfl dX8_load_60 ?_
            refine q_iadd hx hb dX8_load_63 ?_
            refine q_bipush hx hb dX8_load_64 (by decide) ?_
            refine q_icmp_le (tgt := 73) hx hb dX8_load_66 (by decide) (by omega) (fun c_66 => ?_) (fun c_66 => ?_)
            · skip
              exfalso; omega
            · skip
              refine q_iconst hx hb dX8_load_69 ?_
              refine lv_goto (tgt := 74) hx hb dX8_load_70 (by decide) ?_
              refine pf_X8_44 hx hb hg hown hK hP hD hS 10 0 rfl rfl rfl rfl (Nat.le_of_ble_eq_true rfl) dX8_load_74 (fun H locs hP hD hS => ?_)
              have hP : va_P D vwCl [[(mz, aI cy 115 (z))], [(msv, aI cy 920 (sd))], [(mmo, aI cy 121 (g))], [(mif, aZ cy 16 (isF))], [(mmg, aI cy 16 (mg))], [(mtn, aI cy 16 (tn))], [(mie, aZ cy 4 (isE))], [(mme, aI cy 4 (mE))], [(mas, aI cy 115 (as9))], [(mtx, aI cy 60 (bf))], [(mo, .inr (8, [.int (qI (2)), .ref (mz), .int (qI (((hz : Nat) : Int))), .ref (msv), .int (qI (((len : Nat) : Int))), .ref (mtx), .ref (mmo), .int (qI (tu)), .ref (mif), .ref (mmg), .ref (mtn), .ref (mie), .ref (mme), .int (qz (fi)), .int (qI (ro)), .int (qI (0)), .int (qI (((u_1.2.1 + 1 : Nat) : Int))), .int (qz (u_1.2.2.1)), .ref (mrd), .ref (mas), .long (hh)]))], [(mrd, aI cy 100 (u_40))]].flatten H := hP
              have hD : va_D A [[(mz, aI cy 115 (z))], [(msv, aI cy 920 (sd))], [(mmo, aI cy 121 (g))], [(mif, aZ cy 16 (isF))], [(mmg, aI cy 16 (mg))], [(mtn, aI cy 16 (tn))], [(mie, aZ cy 4 (isE))], [(mme, aI cy 4 (mE))], [(mas, aI cy 115 (as9))], [(mtx, aI cy 60 (bf))], [(mo, .inr (8, [.int (qI (2)), .ref (mz), .int (qI (((hz : Nat) : Int))), .ref (msv), .int (qI (((len : Nat) : Int))), .ref (mtx), .ref (mmo), .int (qI (tu)), .ref (mif), .ref (mmg), .ref (mtn), .ref (mie), .ref (mme), .int (qz (fi)), .int (qI (ro)), .int (qI (0)), .int (qI (((u_1.2.1 + 1 : Nat) : Int))), .int (qz (u_1.2.2.1)), .ref (mrd), .ref (mas), .long (hh)]))], [(mrd, aI cy 100 (u_40))]].flatten := hD
              refine lv_aload_n hx hb dX8_load_77 rfl (lv_at hl 1 rfl) ?_
              refine gf_X8_44 hx hb hg hown hK (fl_blk hP 10 rfl) 0 rfl rfl dX8_load_78 ?_
              refine q_if_le (tgt := 86) hx hb dX8_load_81 (by decide) (by omega) (fun c_81 => ?_) (fun c_81 => ?_)
              · skip
                exact absurd c_81 (by decide)
              · skip
                refine q_iconst hx hb dX8_load_84 ?_
                have hP := fl_sub (bs' := [[(mo, .inr (8, [.int (qI (2)), .ref (mz), .int (qI (((hz : Nat) : Int))), .ref (msv), .int (qI (((len : Nat) : Int))), .ref (mtx), .ref (mmo), .int (qI (tu)), .ref (mif), .ref (mmg), .ref (mtn), .ref (mie), .ref (mme), .int (qz (fi)), .int (qI (ro)), .int (qI (0)), .int (qI (((u_1.2.1 + 1 : Nat) : Int))), .int (qz (u_1.2.2.1)), .ref (mrd), .ref (mas), .long (hh)]))], [(mz, aI cy 115 (z))], [(msv, aI cy 920 (sd))], [(mtx, aI cy 60 (bf))], [(mmo, aI cy 121 (g))], [(mif, aZ cy 16 (isF))], [(mmg, aI cy 16 (mg))], [(mtn, aI cy 16 (tn))], [(mie, aZ cy 4 (isE))], [(mme, aI cy 4 (mE))], [(mrd, aI cy 100 (u_40))], [(mas, aI cy 115 (as9))]]) hP [10, 0, 1, 9, 2, 3, 4, 5, 6, 7, 11, 8] rfl
                have hD := fl_subD (bs' := [[(mo, .inr (8, [.int (qI (2)), .ref (mz), .int (qI (((hz : Nat) : Int))), .ref (msv), .int (qI (((len : Nat) : Int))), .ref (mtx), .ref (mmo), .int (qI (tu)), .ref (mif), .ref (mmg), .ref (mtn), .ref (mie), .ref (mme), .int (qz (fi)), .int (qI (ro)), .int (qI (0)), .int (qI (((u_1.2.1 + 1 : Nat) : Int))), .int (qz (u_1.2.2.1)), .ref (mrd), .ref (mas), .long (hh)]))], [(mz, aI cy 115 (z))], [(msv, aI cy 920 (sd))], [(mtx, aI cy 60 (bf))], [(mmo, aI cy 121 (g))], [(mif, aZ cy 16 (isF))], [(mmg, aI cy 16 (mg))], [(mtn, aI cy 16 (tn))], [(mie, aZ cy 4 (isE))], [(mme, aI cy 4 (mE))], [(mrd, aI cy 100 (u_40))], [(mas, aI cy 115 (as9))]]) hD [10, 0, 1, 9, 2, 3, 4, 5, 6, 7, 11, 8] (by decide) rfl
                have hP : va_P D vwCl [(mdB cy mo mz msv mtx mmo mif mmg mtn mie mme mrd mas (2) (hz) (len) (tu) (fi) (ro) (0) (((u_1.2.1 + 1 : Nat) : Int)) (u_1.2.2.1) (hh) (z) (sd) (bf) (g) (isF) (mg) (tn) (isE) (mE) (u_40) (as9)).flatten].flatten H := by rw [fl_open]; exact hP
                have hD : va_D A [(mdB cy mo mz msv mtx mmo mif mmg mtn mie mme mrd mas (2) (hz) (len) (tu) (fi) (ro) (0) (((u_1.2.1 + 1 : Nat) : Int)) (u_1.2.2.1) (hh) (z) (sd) (bf) (g) (isF) (mg) (tn) (isE) (mE) (u_40) (as9)).flatten].flatten := by rw [fl_open]; exact hD
                exact hQ _ _ _ _ _ ((mdB cy mo mz msv mtx mmo mif mmg mtn mie mme mrd mas (2) (hz) (len) (tu) (fi) (ro) (0) (((u_1.2.1 + 1 : Nat) : Int)) (u_1.2.2.1) (hh) (z) (sd) (bf) (g) (isF) (mg) (tn) (isE) (mE) (u_40) (as9)).flatten) ⟨(tu), (fi), (ro), (0), (((u_1.2.1 + 1 : Nat) : Int)), (u_1.2.2.1), (hh), (z), (sd), (bf), (g), (isF), (mg), (tn), (isE), (mE), (u_40), (as9), rfl, ⟨hL, hz20, hz101⟩, ⟨hhz, hHZ⟩, hln, hbf, htx⟩ hP hD hS dX8_load_85
          · skip
            exact absurd c_45 (by decide)

set_option maxRecDepth 100000 in
set_option maxHeartbeats 4000000 in
theorem c_X8_load (l : Launch) (D : va_G) (cy : Nat → ClassId) (mo mz msv mtx mmo mif mmg mtn mie mme mrd mas : Nat) (T : LSt) (hz : Nat) (HZ : Nat → LSt) (len : Nat) (tx : Nat → Int) (th : Int) (W : va_W) (hG : gOk T) (hW : MW cy mo mz msv mtx mmo mif mmg mtn mie mme mrd mas T hz HZ len tx th W) (hfull : rdFull tx len) (hcap : lN9 T + ldK tx len ≤ 16) (sz : Nat) : qMet l yX8_load (.code yX8_load cX8_load 3 (some .int)) 8 [.ref (mo)] D cy [W] sz (va_Qi (S := va_W) (fun r u => r = qI (((lN9 T + ldK tx len : Nat) : Int)) ∧ MW cy mo mz msv mtx mmo mif mmg mtn mie mme mrd mas (seT (ldC T (ldG tx len) (ldK tx len))) (min (hz + 1) 8) (pushH T HZ) 0 tx 0 u) (qB D cy [W] sz (fun u => [u])) (va_A [W].flatten sz)) := by
  refine q_ofMi (S := va_W) (b1 := fun u => [u]) (post := fun r u => r = qI (((lN9 T + ldK tx len : Nat) : Int)) ∧ MW cy mo mz msv mtx mmo mif mmg mtn mie mme mrd mas (seT (ldC T (ldG tx len) (ldK tx len))) (min (hz + 1) 8) (pushH T HZ) 0 tx 0 u) (by decide +kernel) (Nat.le_of_ble_eq_true rfl) ?_
  intro p e s m args below meth c Q A hx hb hml hown hg hQ hK hN hD hA H locs ls hP hS hl
  have hown : s.vm.findClass RX8 = some m.cls := hown
  have hl : lv_has ls 3 [(0, .ref (mo))] := hl
  have hW0 := hW
  obtain ⟨tu, fi, ro, sp, it, bl, hh, z, sd, bf, g, isF, mg, tn, isE, mE, rd, as9, rfl, ⟨hL, hz20, hz101⟩, ⟨hhz, hHZ⟩, hln, hbf, htx⟩ := hW
  obtain ⟨gV, gT, gC, gE, gI, gD⟩ := hG.eq hL
  obtain ⟨nc, hnc⟩ : ∃ nc : Nat, z 20 = (nc : Int) := ⟨(z 20).toNat, by omega⟩
  obtain ⟨ne, hne⟩ : ∃ ne : Nat, z 101 = (ne : Int) := ⟨(z 101).toNat, by omega⟩
  have e20 : (z 20).toNat = nc := by omega
  have e101 : (z 101).toNat = ne := by omega
  have hV : qV z := gV
  have hst : ∀ i, i < 10 → 0 ≤ z (10 + i) ∧ z (10 + i) ≤ 9 := gT
  have hc : nc ≤ 16 := e20 ▸ (gC.1 : (z 20).toNat ≤ 16)
  have hC : qWR (zC z) nc := e20 ▸ (gC.2 : qWR (zC z) (z 20).toNat)
  have he : ne ≤ 4 := e101 ▸ (gE.1 : (z 101).toNat ≤ 4)
  have hE : qWR (zE z) ne := e101 ▸ (gE.2 : qWR (zE z) (z 101).toNat)
  have hD9 : ∀ i j, i < ne → j < ne → zE z 0 i = zE z 0 j → i = j := e101 ▸ (gD : ∀ i j, i < (z 101).toNat → j < (z 101).toNat → zE z 0 i = zE z 0 j → i = j)
  have hL2 : LEq (z, (fun i => z (10 + i)), zC z, nc, zE z, ne) T := by rw [← e20, ← e101]; exact hL
  have en : nc = lN9 T := hL2.2.2.1
  have em : ne = lM T := hL2.2.2.2.2.1
  rw [fl_open] at hP hD
  have hP : va_P D vwCl [[(mo, .inr (8, [.int (qI (th)), .ref (mz), .int (qI (((hz : Nat) : Int))), .ref (msv), .int (qI (((len : Nat) : Int))), .ref (mtx), .ref (mmo), .int (qI (tu)), .ref (mif), .ref (mmg), .ref (mtn), .ref (mie), .ref (mme), .int (qz (fi)), .int (qI (ro)), .int (qI (sp)), .int (qI (it)), .int (qz (bl)), .ref (mrd), .ref (mas), .long (hh)]))], [(mz, aI cy 115 (z))], [(msv, aI cy 920 (sd))], [(mtx, aI cy 60 (bf))], [(mmo, aI cy 121 (g))], [(mif, aZ cy 16 (isF))], [(mmg, aI cy 16 (mg))], [(mtn, aI cy 16 (tn))], [(mie, aZ cy 4 (isE))], [(mme, aI cy 4 (mE))], [(mrd, aI cy 100 (rd))], [(mas, aI cy 115 (as9))]].flatten H := hP
  have hD : va_D A [[(mo, .inr (8, [.int (qI (th)), .ref (mz), .int (qI (((hz : Nat) : Int))), .ref (msv), .int (qI (((len : Nat) : Int))), .ref (mtx), .ref (mmo), .int (qI (tu)), .ref (mif), .ref (mmg), .ref (mtn), .ref (mie), .ref (mme), .int (qz (fi)), .int (qI (ro)), .int (qI (sp)), .int (qI (it)), .int (qz (bl)), .ref (mrd), .ref (mas), .long (hh)]))], [(mz, aI cy 115 (z))], [(msv, aI cy 920 (sd))], [(mtx, aI cy 60 (bf))], [(mmo, aI cy 121 (g))], [(mif, aZ cy 16 (isF))], [(mmg, aI cy 16 (mg))], [(mtn, aI cy 16 (tn))], [(mie, aZ cy 4 (isE))], [(mme, aI cy 4 (mE))], [(mrd, aI cy 100 (rd))], [(mas, aI cy 115 (as9))]].flatten := hD
  refine lv_aload_n hx hb dX8_load_0 rfl (lv_at hl 0 rfl) ?_
  refine q_backi [0, 3, 10] [1, 2, 4, 5, 6, 7, 8, 9, 11] (br := [[(mz, aI cy 115 (z))], [(msv, aI cy 920 (sd))], [(mmo, aI cy 121 (g))], [(mif, aZ cy 16 (isF))], [(mmg, aI cy 16 (mg))], [(mtn, aI cy 16 (tn))], [(mie, aZ cy 4 (isE))], [(mme, aI cy 4 (mE))], [(mas, aI cy 115 (as9))]]) hP hD hS hA (va_runV (As := []) (rest := []) ⟨hx, hb, hml, hown, hg⟩ (c_X8_readText l D cy mo mz msv mtx mmo mif mmg mtn mie mme mrd mas (th) (((hz : Nat) : Int)) len (tu) (fi) (ro) (sp) (it) (bl) (hh) bf tx (rd) hln hbf htx _) (cv_X8_166 hg rfl rfl ⟨by decide, by decide⟩) ⟨q_blind, va_recv hK (fl_blk hP 0 rfl) (ci := 8) (q0 := 0) rfl rfl, q_preM _ hK hN hP hD [0, 3, 10] (by decide) rfl⟩ rfl rfl hl.1 rfl (lv_room (Nat.le_of_ble_eq_true rfl)) dX8_load_1 ⟨by decide, by decide⟩) rfl rfl (by decide) (fun r_1 u_1 H locs h_1 hP hD hS => ?_)
  have hP : va_P D vwCl [[(mz, aI cy 115 (z))], [(msv, aI cy 920 (sd))], [(mmo, aI cy 121 (g))], [(mif, aZ cy 16 (isF))], [(mmg, aI cy 16 (mg))], [(mtn, aI cy 16 (tn))], [(mie, aZ cy 4 (isE))], [(mme, aI cy 4 (mE))], [(mas, aI cy 115 (as9))], [(mo, .inr (8, [.int (qI (th)), .ref (mz), .int (qI (((hz : Nat) : Int))), .ref (msv), .int (qI (((len : Nat) : Int))), .ref (mtx), .ref (mmo), .int (qI (tu)), .ref (mif), .ref (mmg), .ref (mtn), .ref (mie), .ref (mme), .int (qz (fi)), .int (qI (ro)), .int (qI (u_1.1)), .int (qI (((u_1.2.1 : Nat) : Int))), .int (qz (u_1.2.2.1)), .ref (mrd), .ref (mas), .long (hh)]))], [(mtx, aI cy 60 (bf))], [(mrd, aI cy 100 (u_1.2.2.2))]].flatten H := hP
  have hD : va_D A [[(mz, aI cy 115 (z))], [(msv, aI cy 920 (sd))], [(mmo, aI cy 121 (g))], [(mif, aZ cy 16 (isF))], [(mmg, aI cy 16 (mg))], [(mtn, aI cy 16 (tn))], [(mie, aZ cy 4 (isE))], [(mme, aI cy 4 (mE))], [(mas, aI cy 115 (as9))], [(mo, .inr (8, [.int (qI (th)), .ref (mz), .int (qI (((hz : Nat) : Int))), .ref (msv), .int (qI (((len : Nat) : Int))), .ref (mtx), .ref (mmo), .int (qI (tu)), .ref (mif), .ref (mmg), .ref (mtn), .ref (mie), .ref (mme), .int (qz (fi)), .int (qI (ro)), .int (qI (u_1.1)), .int (qI (((u_1.2.1 : Nat) : Int))), .int (qz (u_1.2.2.1)), .ref (mrd), .ref (mas), .long (hh)]))], [(mtx, aI cy 60 (bf))], [(mrd, aI cy 100 (u_1.2.2.2))]].flatten := hD
  obtain ⟨z_1, rfl, h_1⟩ := h_1
  have e9 : z_1 = len := h_1.1.uniq ⟨Nat.le_refl len, hfull.1, fun z => absurd z (by omega)⟩
  have hm9 := h_1.2 e9
  have hs9 := mr_st hm9 (rdI_at len hfull.1) hln
  have hs8 := hs9.2.2.mpr hfull.2
  refine lv_aload_n hx hb dX8_load_4 rfl (lv_at hl 0 rfl) ?_
  refine gf_X8_129 hx hb hg hown hK (fl_blk hP 9 rfl) 0 rfl rfl dX8_load_5 ?_
  refine q_icmp_ne (tgt := 33) hx hb dX8_load_8 (by decide) (by omega) (fun c_8 => ?_) (fun c_8 => ?_)
  · skip
    exfalso; omega
  · skip
    refine lv_aload_n hx hb dX8_load_11 rfl (lv_at hl 0 rfl) ?_
    refine gf_X8_132 hx hb hg hown hK (fl_blk hP 9 rfl) 0 rfl rfl dX8_load_12 ?_
    refine q_bipush hx hb dX8_load_15 (by decide) ?_
    refine q_icmp_eq (tgt := 29) hx hb dX8_load_17 (by decide) (by omega) (fun c_17 => ?_) (fun c_17 => ?_)
    · skip
      refine q_iconst hx hb dX8_load_29 ?_
      refine lv_goto (tgt := 34) hx hb dX8_load_30 (by decide) ?_
      refine lv_istore_n (lv' := [(1, .int (qI (1))), (0, .ref (mo))]) hx hb dX8_load_34 rfl hl (by decide) rfl (fun ls hl => ?_)
      refine lv_iload_n hx hb dX8_load_35 rfl (lv_at hl 0 rfl) ?_
      refine q_if_eq (tgt := 43) hx hb dX8_load_36 (by decide) (by omega) (fun c_36 => ?_) (fun c_36 => ?_)
      · skip
        exact absurd c_36 (by decide)
      · skip
        refine lv_aload_n hx hb dX8_load_39 rfl (lv_at hl 1 rfl) ?_
        refine q_backv [9, 11] [0, 1, 2, 3, 4, 5, 6, 7, 8, 10] (br := [[(mz, aI cy 115 (z))], [(msv, aI cy 920 (sd))], [(mmo, aI cy 121 (g))], [(mif, aZ cy 16 (isF))], [(mmg, aI cy 16 (mg))], [(mtn, aI cy 16 (tn))], [(mie, aZ cy 4 (isE))], [(mme, aI cy 4 (mE))], [(mas, aI cy 115 (as9))], [(mtx, aI cy 60 (bf))]]) hP hD hS hA (va_runV (As := []) (rest := []) ⟨hx, hb, hml, hown, hg⟩ (c_X8_endItem l D cy mo mz msv mtx mmo mif mmg mtn mie mme mrd mas (th) (((hz : Nat) : Int)) (((len : Nat) : Int)) (tu) (fi) (ro) (u_1.1) (u_1.2.1) (u_1.2.2.1) (hh) (u_1.2.2.2) hs9.2.1 _) (cv_X8_145 hg rfl rfl ⟨by decide, by decide⟩) ⟨q_blind, va_recv hK (fl_blk hP 9 rfl) (ci := 8) (q0 := 0) rfl rfl, q_preM _ hK hN hP hD [9, 11] (by decide) rfl⟩ rfl rfl hl.1 rfl (lv_room (Nat.le_of_ble_eq_true rfl)) dX8_load_40 ⟨by decide, by decide⟩) rfl rfl (by decide) (fun u_40 H locs h_40 hP hD hS => ?_)
        have hP : va_P D vwCl [[(mz, aI cy 115 (z))], [(msv, aI cy 920 (sd))], [(mmo, aI cy 121 (g))], [(mif, aZ cy 16 (isF))], [(mmg, aI cy 16 (mg))], [(mtn, aI cy 16 (tn))], [(mie, aZ cy 4 (isE))], [(mme, aI cy 4 (mE))], [(mas, aI cy 115 (as9))], [(mtx, aI cy 60 (bf))], [(mo, .inr (8, [.int (qI (th)), .ref (mz), .int (qI (((hz : Nat) : Int))), .ref (msv), .int (qI (((len : Nat) : Int))), .ref (mtx), .ref (mmo), .int (qI (tu)), .ref (mif), .ref (mmg), .ref (mtn), .ref (mie), .ref (mme), .int (qz (fi)), .int (qI (ro)), .int (qI (0)), .int (qI (((u_1.2.1 + 1 : Nat) : Int))), .int (qz (u_1.2.2.1)), .ref (mrd), .ref (mas), .long (hh)]))], [(mrd, aI cy 100 (u_40))]].flatten H := hP
        have hD : va_D A [[(mz, aI cy 115 (z))], [(msv, aI cy 920 (sd))], [(mmo, aI cy 121 (g))], [(mif, aZ cy 16 (isF))], [(mmg, aI cy 16 (mg))], [(mtn, aI cy 16 (tn))], [(mie, aZ cy 4 (isE))], [(mme, aI cy 4 (mE))], [(mas, aI cy 115 (as9))], [(mtx, aI cy 60 (bf))], [(mo, .inr (8, [.int (qI (th)), .ref (mz), .int (qI (((hz : Nat) : Int))), .ref (msv), .int (qI (((len : Nat) : Int))), .ref (mtx), .ref (mmo), .int (qI (tu)), .ref (mif), .ref (mmg), .ref (mtn), .ref (mie), .ref (mme), .int (qz (fi)), .int (qI (ro)), .int (qI (0)), .int (qI (((u_1.2.1 + 1 : Nat) : Int))), .int (qz (u_1.2.2.1)), .ref (mrd), .ref (mas), .long (hh)]))], [(mrd, aI cy 100 (u_40))]].flatten := hD
        have hme := mr_end hm9 hfull.2 (rdI_at len hfull.1)
        rw [← h_40] at hme
        have hk9 : u_1.2.1 + 1 = ldK tx len := hme.2.1
        refine lv_aload_n hx hb dX8_load_43 rfl (lv_at hl 1 rfl) ?_
        refine lv_iload_n hx hb dX8_load_44 rfl (lv_at hl 0 rfl) ?_
        refine q_if_ne (tgt := 52) hx hb dX8_load_45 (by decide) (by omega) (fun c_45 => ?_) (fun c_45 => ?_)
        · skip
          refine lv_aload_n hx hb dX8_load_52 rfl (lv_at hl 1 rfl) ?_
          refine gf_X8_7 hx hb hg hown hK (fl_blk hP 10 rfl) 0 rfl rfl dX8_load_53 ?_
          refine q_bipush hx hb dX8_load_56 (by decide) ?_
          refine q_iald (j := 20) hx hb hK (fl_blk hP 0 rfl) 0 rfl (by omega) dX8_load_58 ?_
          refine lv_aload_n hx hb dX8_load_59 rfl (lv_at hl 1 rfl) ?_
          refine gf_X8_135 hx hb hg hown hK (fl_blk hP 10 rfl) 0 rfl rfl dX8_load_60 ?_
          refine q_iadd hx hb dX8_load_63 ?_
          refine q_bipush hx hb dX8_load_64 (by decide) ?_
          refine q_icmp_le (tgt := 73) hx hb dX8_load_66 (by decide) (by omega) (fun c_66 => ?_) (fun c_66 => ?_)
          · skip
            refine q_iconst hx hb dX8_load_73 ?_
            refine pf_X8_44 hx hb hg hown hK hP hD hS 10 0 rfl rfl rfl rfl (Nat.le_of_ble_eq_true rfl) dX8_load_74 (fun H locs hP hD hS => ?_)
            have hP : va_P D vwCl [[(mz, aI cy 115 (z))], [(msv, aI cy 920 (sd))], [(mmo, aI cy 121 (g))], [(mif, aZ cy 16 (isF))], [(mmg, aI cy 16 (mg))], [(mtn, aI cy 16 (tn))], [(mie, aZ cy 4 (isE))], [(mme, aI cy 4 (mE))], [(mas, aI cy 115 (as9))], [(mtx, aI cy 60 (bf))], [(mo, .inr (8, [.int (qI (0)), .ref (mz), .int (qI (((hz : Nat) : Int))), .ref (msv), .int (qI (((len : Nat) : Int))), .ref (mtx), .ref (mmo), .int (qI (tu)), .ref (mif), .ref (mmg), .ref (mtn), .ref (mie), .ref (mme), .int (qz (fi)), .int (qI (ro)), .int (qI (0)), .int (qI (((u_1.2.1 + 1 : Nat) : Int))), .int (qz (u_1.2.2.1)), .ref (mrd), .ref (mas), .long (hh)]))], [(mrd, aI cy 100 (u_40))]].flatten H := hP
            have hD : va_D A [[(mz, aI cy 115 (z))], [(msv, aI cy 920 (sd))], [(mmo, aI cy 121 (g))], [(mif, aZ cy 16 (isF))], [(mmg, aI cy 16 (mg))], [(mtn, aI cy 16 (tn))], [(mie, aZ cy 4 (isE))], [(mme, aI cy 4 (mE))], [(mas, aI cy 115 (as9))], [(mtx, aI cy 60 (bf))], [(mo, .inr (8, [.int (qI (0)), .ref (mz), .int (qI (((hz : Nat) : Int))), .ref (msv), .int (qI (((len : Nat) : Int))), .ref (mtx), .ref (mmo), .int (qI (tu)), .ref (mif), .ref (mmg), .ref (mtn), .ref (mie), .ref (mme), .int (qz (fi)), .int (qI (ro)), .int (qI (0)), .int (qI (((u_1.2.1 + 1 : Nat) : Int))), .int (qz (u_1.2.2.1)), .ref (mrd), .ref (mas), .long (hh)]))], [(mrd, aI cy 100 (u_40))]].flatten := hD
            refine lv_aload_n hx hb dX8_load_77 rfl (lv_at hl 1 rfl) ?_
            refine gf_X8_44 hx hb hg hown hK (fl_blk hP 10 rfl) 0 rfl rfl dX8_load_78 ?_
            refine q_if_le (tgt := 86) hx hb dX8_load_81 (by decide) (by omega) (fun c_81 => ?_) (fun c_81 => ?_)
            · skip
              refine lv_aload_n hx hb dX8_load_86 rfl (lv_at hl 1 rfl) ?_
              refine q_backv [10, 0, 1] [2, 3, 4, 5, 6, 7, 8, 9, 11] (br := [[(mmo, aI cy 121 (g))], [(mif, aZ cy 16 (isF))], [(mmg, aI cy 16 (mg))], [(mtn, aI cy 16 (tn))], [(mie, aZ cy 4 (isE))], [(mme, aI cy 4 (mE))], [(mas, aI cy 115 (as9))], [(mtx, aI cy 60 (bf))], [(mrd, aI cy 100 (u_40))]]) hP hD hS hA (va_runV (As := []) (rest := []) ⟨hx, hb, hml, hown, hg⟩ (c_X8_save l D cy mo mz msv mtx mmo mif mmg mtn mie mme mrd mas (0) (((len : Nat) : Int)) (tu) (fi) (ro) (0) (((u_1.2.1 + 1 : Nat) : Int)) (u_1.2.2.1) (hh) hz (z) (sd) hhz _) (cv_X8_104 hg rfl rfl ⟨by decide, by decide⟩) ⟨q_blind, va_recv hK (fl_blk hP 10 rfl) (ci := 8) (q0 := 0) rfl rfl, q_preM _ hK hN hP hD [10, 0, 1] (by decide) rfl⟩ rfl rfl hl.1 rfl (lv_room (Nat.le_of_ble_eq_true rfl)) dX8_load_87 ⟨by decide, by decide⟩) rfl rfl (by decide) (fun u_87 H locs h_87 hP hD hS => ?_)
              have hP : va_P D vwCl [[(mmo, aI cy 121 (g))], [(mif, aZ cy 16 (isF))], [(mmg, aI cy 16 (mg))], [(mtn, aI cy 16 (tn))], [(mie, aZ cy 4 (isE))], [(mme, aI cy 4 (mE))], [(mas, aI cy 115 (as9))], [(mtx, aI cy 60 (bf))], [(mrd, aI cy 100 (u_40))], [(mo, .inr (8, [.int (qI (0)), .ref (mz), .int (qI (((min (hz + 1) 8 : Nat) : Int))), .ref (msv), .int (qI (((len : Nat) : Int))), .ref (mtx), .ref (mmo), .int (qI (tu)), .ref (mif), .ref (mmg), .ref (mtn), .ref (mie), .ref (mme), .int (qz (fi)), .int (qI (ro)), .int (qI (0)), .int (qI (((u_1.2.1 + 1 : Nat) : Int))), .int (qz (u_1.2.2.1)), .ref (mrd), .ref (mas), .long (hh)]))], [(mz, aI cy 115 (z))], [(msv, aI cy 920 (u_87))]].flatten H := hP
              have hD : va_D A [[(mmo, aI cy 121 (g))], [(mif, aZ cy 16 (isF))], [(mmg, aI cy 16 (mg))], [(mtn, aI cy 16 (tn))], [(mie, aZ cy 4 (isE))], [(mme, aI cy 4 (mE))], [(mas, aI cy 115 (as9))], [(mtx, aI cy 60 (bf))], [(mrd, aI cy 100 (u_40))], [(mo, .inr (8, [.int (qI (0)), .ref (mz), .int (qI (((min (hz + 1) 8 : Nat) : Int))), .ref (msv), .int (qI (((len : Nat) : Int))), .ref (mtx), .ref (mmo), .int (qI (tu)), .ref (mif), .ref (mmg), .ref (mtn), .ref (mie), .ref (mme), .int (qz (fi)), .int (qI (ro)), .int (qI (0)), .int (qI (((u_1.2.1 + 1 : Nat) : Int))), .int (qz (u_1.2.2.1)), .ref (mrd), .ref (mas), .long (hh)]))], [(mz, aI cy 115 (z))], [(msv, aI cy 920 (u_87))]].flatten := hD
              refine q_iconst hx hb dX8_load_90 ?_
              refine lv_istore_n (lv' := [(2, .int (qI (0))), (1, .int (qI (1))), (0, .ref (mo))]) hx hb dX8_load_91 rfl hl (by decide) rfl (fun ls hl => ?_)
              have L_92 : ∀ (n_92 k : Nat) (z1 : Nat → Int), k ≤ u_1.2.1 + 1 → u_1.2.1 + 1 + 1 ≤ k + n_92 → (LEq (zS z1) (ldC (zS z) (fun g i => u_40 (5 * i + g)) k)) → (z1 20 = (nc : Int) + (k : Int)) → (z1 101 = z 101) → ∀ (H : Heap) (locs : List Loc) (ls : Array Slot), va_P D vwCl [[(mo, .inr (8, [.int (qI (0)), .ref (mz), .int (qI (((min (hz + 1) 8 : Nat) : Int))), .ref (msv), .int (qI (((len : Nat) : Int))), .ref (mtx), .ref (mmo), .int (qI (tu)), .ref (mif), .ref (mmg), .ref (mtn), .ref (mie), .ref (mme), .int (qz (fi)), .int (qI (ro)), .int (qI (0)), .int (qI (((u_1.2.1 + 1 : Nat) : Int))), .int (qz (u_1.2.2.1)), .ref (mrd), .ref (mas), .long (hh)]))], [(mz, aI cy 115 (z1))], [(msv, aI cy 920 (u_87))], [(mtx, aI cy 60 (bf))], [(mmo, aI cy 121 (g))], [(mif, aZ cy 16 (isF))], [(mmg, aI cy 16 (mg))], [(mtn, aI cy 16 (tn))], [(mie, aZ cy 4 (isE))], [(mme, aI cy 4 (mE))], [(mrd, aI cy 100 (u_40))], [(mas, aI cy 115 (as9))]].flatten H → va_D A [[(mo, .inr (8, [.int (qI (0)), .ref (mz), .int (qI (((min (hz + 1) 8 : Nat) : Int))), .ref (msv), .int (qI (((len : Nat) : Int))), .ref (mtx), .ref (mmo), .int (qI (tu)), .ref (mif), .ref (mmg), .ref (mtn), .ref (mie), .ref (mme), .int (qz (fi)), .int (qI (ro)), .int (qI (0)), .int (qI (((u_1.2.1 + 1 : Nat) : Int))), .int (qz (u_1.2.2.1)), .ref (mrd), .ref (mas), .long (hh)]))], [(mz, aI cy 115 (z1))], [(msv, aI cy 920 (u_87))], [(mtx, aI cy 60 (bf))], [(mmo, aI cy 121 (g))], [(mif, aZ cy 16 (isF))], [(mmg, aI cy 16 (mg))], [(mtn, aI cy 16 (tn))], [(mie, aZ cy 4 (isE))], [(mme, aI cy 4 (mE))], [(mrd, aI cy 100 (u_40))], [(mas, aI cy 115 (as9))]].flatten → va_S A s.heap H locs → lv_has ls 3 [(0, .ref (mo)), (2, .int (qI (((k : Nat) : Int))))] → W p l e (qrm 8) s m args below meth c H locs 0 0 Q (F0 m 92 ls []) := by
                intro n_92
                induction n_92 with
                | zero => intro k _ h1 h2; exact absurd h2 (by omega)
                | succ n_92 ih_92 =>
                  intro k z1 hk_92 hn_92 hz1 hy20 hy101 H locs ls hP hD hS hl
                  refine lv_iload_n hx hb dX8_load_92 rfl (lv_at hl 1 rfl) ?_
                  refine lv_aload_n hx hb dX8_load_93 rfl (lv_at hl 0 rfl) ?_
                  refine gf_X8_135 hx hb hg hown hK (fl_blk hP 0 rfl) 0 rfl rfl dX8_load_94 ?_
                  refine q_icmp_ge (tgt := 158) hx hb dX8_load_97 (by decide) (by omega) (fun c_97 => ?_) (fun c_97 => ?_)
                  · skip
                    have ek9 : k = ldK tx len := by omega
                    have hS0 : LEq (zS (z1)) (ldC T (ldG tx len) (ldK tx len)) := by have q := hz1; rw [ek9] at q; exact LEq.tr q (ldC_eq hL (fun f i hf hi => hme.2.2.2.2.2 f i hf (by omega)))
                    have gS0 := (ldC_ok hG hcap (ld_ok hfull)).eq hS0
                    obtain ⟨n0, hn0⟩ : ∃ n0 : Nat, (z1) 20 = (n0 : Int) := ⟨((z1) 20).toNat, by have q := hy20; omega⟩
                    obtain ⟨m0, hm0⟩ : ∃ m0 : Nat, (z1) 101 = (m0 : Int) := ⟨((z1) 101).toNat, by have q := hy101; omega⟩
                    have n20 : ((z1) 20).toNat = n0 := by omega
                    have n101 : ((z1) 101).toNat = m0 := by omega
                    have hV0 : qV (z1) := gS0.1
                    have hst0 : ∀ i, i < 10 → 0 ≤ (z1) (10 + i) ∧ (z1) (10 + i) ≤ 9 := gS0.2.1
                    have hc0 : n0 ≤ 16 := n20 ▸ (gS0.2.2.1.1 : ((z1) 20).toNat ≤ 16)
                    have hC0 : qWR (zC (z1)) n0 := n20 ▸ (gS0.2.2.1.2 : qWR (zC (z1)) ((z1) 20).toNat)
                    have he0 : m0 ≤ 4 := n101 ▸ (gS0.2.2.2.1.1 : ((z1) 101).toNat ≤ 4)
                    have hE0 : qWR (zE (z1)) m0 := n101 ▸ (gS0.2.2.2.1.2 : qWR (zE (z1)) ((z1) 101).toNat)
                    refine lv_aload_n hx hb dX8_load_158 rfl (lv_at hl 0 rfl) ?_
                    refine q_backv [0, 1, 4, 5, 6, 7, 8, 9] [2, 3, 10, 11] (br := [[(msv, aI cy 920 (u_87))], [(mtx, aI cy 60 (bf))], [(mrd, aI cy 100 (u_40))], [(mas, aI cy 115 (as9))]]) hP hD hS hA (va_runV (As := []) (rest := []) ⟨hx, hb, hml, hown, hg⟩ (c_X8_settle l D cy mo mz msv mtx mmo mif mmg mtn mie mme mrd mas (0) (((min (hz + 1) 8 : Nat) : Int)) (((len : Nat) : Int)) (tu) (fi) (ro) (0) (((u_1.2.1 + 1 : Nat) : Int)) (u_1.2.2.1) (hh) (z1) n0 m0 (g) (isF) (mg) (tn) (isE) (mE) hn0 hm0 hc0 he0 hC0 hE0 hV0 hst0 _) (cv_X8_111 hg rfl rfl ⟨by decide, by decide⟩) ⟨q_blind, va_recv hK (fl_blk hP 0 rfl) (ci := 8) (q0 := 0) rfl rfl, q_preM _ hK hN hP hD [0, 1, 4, 5, 6, 7, 8, 9] (by decide) rfl⟩ rfl rfl hl.1 rfl (lv_room (Nat.le_of_ble_eq_true rfl)) dX8_load_159 ⟨by decide, by decide⟩) rfl rfl (by decide) (fun u_159 H locs h_159 hP hD hS => ?_)
                    have hP : va_P D vwCl [[(msv, aI cy 920 (u_87))], [(mtx, aI cy 60 (bf))], [(mrd, aI cy 100 (u_40))], [(mas, aI cy 115 (as9))], [(mo, .inr (8, [.int (qI (0)), .ref (mz), .int (qI (((min (hz + 1) 8 : Nat) : Int))), .ref (msv), .int (qI (((len : Nat) : Int))), .ref (mtx), .ref (mmo), .int (qI (u_159.2.2.2.1)), .ref (mif), .ref (mmg), .ref (mtn), .ref (mie), .ref (mme), .int (qz (u_159.2.2.2.2.2.2.2.2.2.1)), .int (qI (u_159.2.2.2.2.2.2.2.2.2.2)), .int (qI (0)), .int (qI (((u_1.2.1 + 1 : Nat) : Int))), .int (qz (u_1.2.2.1)), .ref (mrd), .ref (mas), .long (hh)]))], [(mz, aI cy 115 (u_159.1))], [(mmo, aI cy 121 (u_159.2.1))], [(mif, aZ cy 16 (u_159.2.2.2.2.1))], [(mmg, aI cy 16 (u_159.2.2.2.2.2.1))], [(mtn, aI cy 16 (u_159.2.2.2.2.2.2.1))], [(mie, aZ cy 4 (u_159.2.2.2.2.2.2.2.1))], [(mme, aI cy 4 (u_159.2.2.2.2.2.2.2.2.1))]].flatten H := hP
                    have hD : va_D A [[(msv, aI cy 920 (u_87))], [(mtx, aI cy 60 (bf))], [(mrd, aI cy 100 (u_40))], [(mas, aI cy 115 (as9))], [(mo, .inr (8, [.int (qI (0)), .ref (mz), .int (qI (((min (hz + 1) 8 : Nat) : Int))), .ref (msv), .int (qI (((len : Nat) : Int))), .ref (mtx), .ref (mmo), .int (qI (u_159.2.2.2.1)), .ref (mif), .ref (mmg), .ref (mtn), .ref (mie), .ref (mme), .int (qz (u_159.2.2.2.2.2.2.2.2.2.1)), .int (qI (u_159.2.2.2.2.2.2.2.2.2.2)), .int (qI (0)), .int (qI (((u_1.2.1 + 1 : Nat) : Int))), .int (qz (u_1.2.2.1)), .ref (mrd), .ref (mas), .long (hh)]))], [(mz, aI cy 115 (u_159.1))], [(mmo, aI cy 121 (u_159.2.1))], [(mif, aZ cy 16 (u_159.2.2.2.2.1))], [(mmg, aI cy 16 (u_159.2.2.2.2.2.1))], [(mtn, aI cy 16 (u_159.2.2.2.2.2.2.1))], [(mie, aZ cy 4 (u_159.2.2.2.2.2.2.2.1))], [(mme, aI cy 4 (u_159.2.2.2.2.2.2.2.2.1))]].flatten := hD
                    refine lv_aload_n hx hb dX8_load_162 rfl (lv_at hl 0 rfl) ?_
                    refine q_iconst hx hb dX8_load_163 ?_
                    refine pf_X8_129 hx hb hg hown hK hP hD hS 4 0 rfl rfl rfl rfl (Nat.le_of_ble_eq_true rfl) dX8_load_164 (fun H locs hP hD hS => ?_)
                    have hP : va_P D vwCl [[(msv, aI cy 920 (u_87))], [(mtx, aI cy 60 (bf))], [(mrd, aI cy 100 (u_40))], [(mas, aI cy 115 (as9))], [(mo, .inr (8, [.int (qI (0)), .ref (mz), .int (qI (((min (hz + 1) 8 : Nat) : Int))), .ref (msv), .int (qI (0)), .ref (mtx), .ref (mmo), .int (qI (u_159.2.2.2.1)), .ref (mif), .ref (mmg), .ref (mtn), .ref (mie), .ref (mme), .int (qz (u_159.2.2.2.2.2.2.2.2.2.1)), .int (qI (u_159.2.2.2.2.2.2.2.2.2.2)), .int (qI (0)), .int (qI (((u_1.2.1 + 1 : Nat) : Int))), .int (qz (u_1.2.2.1)), .ref (mrd), .ref (mas), .long (hh)]))], [(mz, aI cy 115 (u_159.1))], [(mmo, aI cy 121 (u_159.2.1))], [(mif, aZ cy 16 (u_159.2.2.2.2.1))], [(mmg, aI cy 16 (u_159.2.2.2.2.2.1))], [(mtn, aI cy 16 (u_159.2.2.2.2.2.2.1))], [(mie, aZ cy 4 (u_159.2.2.2.2.2.2.2.1))], [(mme, aI cy 4 (u_159.2.2.2.2.2.2.2.2.1))]].flatten H := hP
                    have hD : va_D A [[(msv, aI cy 920 (u_87))], [(mtx, aI cy 60 (bf))], [(mrd, aI cy 100 (u_40))], [(mas, aI cy 115 (as9))], [(mo, .inr (8, [.int (qI (0)), .ref (mz), .int (qI (((min (hz + 1) 8 : Nat) : Int))), .ref (msv), .int (qI (0)), .ref (mtx), .ref (mmo), .int (qI (u_159.2.2.2.1)), .ref (mif), .ref (mmg), .ref (mtn), .ref (mie), .ref (mme), .int (qz (u_159.2.2.2.2.2.2.2.2.2.1)), .int (qI (u_159.2.2.2.2.2.2.2.2.2.2)), .int (qI (0)), .int (qI (((u_1.2.1 + 1 : Nat) : Int))), .int (qz (u_1.2.2.1)), .ref (mrd), .ref (mas), .long (hh)]))], [(mz, aI cy 115 (u_159.1))], [(mmo, aI cy 121 (u_159.2.1))], [(mif, aZ cy 16 (u_159.2.2.2.2.1))], [(mmg, aI cy 16 (u_159.2.2.2.2.2.1))], [(mtn, aI cy 16 (u_159.2.2.2.2.2.2.1))], [(mie, aZ cy 4 (u_159.2.2.2.2.2.2.2.1))], [(mme, aI cy 4 (u_159.2.2.2.2.2.2.2.2.1))]].flatten := hD
                    refine lv_aload_n hx hb dX8_load_167 rfl (lv_at hl 0 rfl) ?_
                    refine gf_X8_7 hx hb hg hown hK (fl_blk hP 4 rfl) 0 rfl rfl dX8_load_168 ?_
                    refine q_bipush hx hb dX8_load_171 (by decide) ?_
                    refine q_iald (j := 20) hx hb hK (fl_blk hP 5 rfl) 0 rfl (by omega) dX8_load_173 ?_
                    have hP := fl_sub (bs' := [[(mo, .inr (8, [.int (qI (0)), .ref (mz), .int (qI (((min (hz + 1) 8 : Nat) : Int))), .ref (msv), .int (qI (0)), .ref (mtx), .ref (mmo), .int (qI (u_159.2.2.2.1)), .ref (mif), .ref (mmg), .ref (mtn), .ref (mie), .ref (mme), .int (qz (u_159.2.2.2.2.2.2.2.2.2.1)), .int (qI (u_159.2.2.2.2.2.2.2.2.2.2)), .int (qI (0)), .int (qI (((u_1.2.1 + 1 : Nat) : Int))), .int (qz (u_1.2.2.1)), .ref (mrd), .ref (mas), .long (hh)]))], [(mz, aI cy 115 (u_159.1))], [(msv, aI cy 920 (u_87))], [(mtx, aI cy 60 (bf))], [(mmo, aI cy 121 (u_159.2.1))], [(mif, aZ cy 16 (u_159.2.2.2.2.1))], [(mmg, aI cy 16 (u_159.2.2.2.2.2.1))], [(mtn, aI cy 16 (u_159.2.2.2.2.2.2.1))], [(mie, aZ cy 4 (u_159.2.2.2.2.2.2.2.1))], [(mme, aI cy 4 (u_159.2.2.2.2.2.2.2.2.1))], [(mrd, aI cy 100 (u_40))], [(mas, aI cy 115 (as9))]]) hP [4, 5, 0, 1, 6, 7, 8, 9, 10, 11, 2, 3] rfl
                    have hD := fl_subD (bs' := [[(mo, .inr (8, [.int (qI (0)), .ref (mz), .int (qI (((min (hz + 1) 8 : Nat) : Int))), .ref (msv), .int (qI (0)), .ref (mtx), .ref (mmo), .int (qI (u_159.2.2.2.1)), .ref (mif), .ref (mmg), .ref (mtn), .ref (mie), .ref (mme), .int (qz (u_159.2.2.2.2.2.2.2.2.2.1)), .int (qI (u_159.2.2.2.2.2.2.2.2.2.2)), .int (qI (0)), .int (qI (((u_1.2.1 + 1 : Nat) : Int))), .int (qz (u_1.2.2.1)), .ref (mrd), .ref (mas), .long (hh)]))], [(mz, aI cy 115 (u_159.1))], [(msv, aI cy 920 (u_87))], [(mtx, aI cy 60 (bf))], [(mmo, aI cy 121 (u_159.2.1))], [(mif, aZ cy 16 (u_159.2.2.2.2.1))], [(mmg, aI cy 16 (u_159.2.2.2.2.2.1))], [(mtn, aI cy 16 (u_159.2.2.2.2.2.2.1))], [(mie, aZ cy 4 (u_159.2.2.2.2.2.2.2.1))], [(mme, aI cy 4 (u_159.2.2.2.2.2.2.2.2.1))], [(mrd, aI cy 100 (u_40))], [(mas, aI cy 115 (as9))]]) hD [4, 5, 0, 1, 6, 7, 8, 9, 10, 11, 2, 3] (by decide) rfl
                    have hP : va_P D vwCl [(mdB cy mo mz msv mtx mmo mif mmg mtn mie mme mrd mas (0) ((min (hz + 1) 8)) (0) (u_159.2.2.2.1) (u_159.2.2.2.2.2.2.2.2.2.1) (u_159.2.2.2.2.2.2.2.2.2.2) (0) (((u_1.2.1 + 1 : Nat) : Int)) (u_1.2.2.1) (hh) (u_159.1) (u_87) (bf) (u_159.2.1) (u_159.2.2.2.2.1) (u_159.2.2.2.2.2.1) (u_159.2.2.2.2.2.2.1) (u_159.2.2.2.2.2.2.2.1) (u_159.2.2.2.2.2.2.2.2.1) (u_40) (as9)).flatten].flatten H := by rw [fl_open]; exact hP
                    have hD : va_D A [(mdB cy mo mz msv mtx mmo mif mmg mtn mie mme mrd mas (0) ((min (hz + 1) 8)) (0) (u_159.2.2.2.1) (u_159.2.2.2.2.2.2.2.2.2.1) (u_159.2.2.2.2.2.2.2.2.2.2) (0) (((u_1.2.1 + 1 : Nat) : Int)) (u_1.2.2.1) (hh) (u_159.1) (u_87) (bf) (u_159.2.1) (u_159.2.2.2.2.1) (u_159.2.2.2.2.2.1) (u_159.2.2.2.2.2.2.1) (u_159.2.2.2.2.2.2.2.1) (u_159.2.2.2.2.2.2.2.2.1) (u_40) (as9)).flatten].flatten := by rw [fl_open]; exact hD
                    exact hQ _ _ _ _ _ ((mdB cy mo mz msv mtx mmo mif mmg mtn mie mme mrd mas (0) ((min (hz + 1) 8)) (0) (u_159.2.2.2.1) (u_159.2.2.2.2.2.2.2.2.2.1) (u_159.2.2.2.2.2.2.2.2.2.2) (0) (((u_1.2.1 + 1 : Nat) : Int)) (u_1.2.2.1) (hh) (u_159.1) (u_87) (bf) (u_159.2.1) (u_159.2.2.2.2.1) (u_159.2.2.2.2.2.1) (u_159.2.2.2.2.2.2.1) (u_159.2.2.2.2.2.2.2.1) (u_159.2.2.2.2.2.2.2.2.1) (u_40) (as9)).flatten) ⟨by rw [h_159.1, show setv z1 (fun i => z1 (10 + i)) (zC z1) n0 (zE z1) m0 20 = z1 20 from seS_far (by decide) 10, hy20]; congr 1; omega, ⟨(u_159.2.2.2.1), (u_159.2.2.2.2.2.2.2.2.2.1), (u_159.2.2.2.2.2.2.2.2.2.2), (0), (((u_1.2.1 + 1 : Nat) : Int)), (u_1.2.2.1), (hh), (u_159.1), (u_87), (bf), (u_159.2.1), (u_159.2.2.2.2.1), (u_159.2.2.2.2.2.1), (u_159.2.2.2.2.2.2.1), (u_159.2.2.2.2.2.2.2.1), (u_159.2.2.2.2.2.2.2.2.1), (u_40), (as9), rfl, mset_fin hS0 n20 n101 hn0 hm0 hc0 he0 h_159.1, ⟨by omega, mh_push hhz h_87 ⟨hL, hz20, hz101, by omega, by omega⟩ hHZ⟩, Nat.zero_le _, (fun i hi => absurd hi (Nat.not_lt_zero i)), (fun i hi => absurd hi (Nat.not_lt_zero i))⟩⟩ hP hD hS dX8_load_174
                  · skip
                    refine lv_aload_n hx hb dX8_load_100 rfl (lv_at hl 0 rfl) ?_
                    refine lv_aload_n hx hb dX8_load_101 rfl (lv_at hl 0 rfl) ?_
                    refine gf_X8_38 hx hb hg hown hK (fl_blk hP 0 rfl) 0 rfl rfl dX8_load_102 ?_
                    refine q_iconst hx hb dX8_load_105 ?_
                    refine lv_iload_n hx hb dX8_load_106 rfl (lv_at hl 1 rfl) ?_
                    refine q_imul hx hb dX8_load_107 ?_
                    refine q_iald (j := (5 * k)) hx hb hK (fl_blk hP 10 rfl) 0 rfl (by omega) dX8_load_108 ?_
                    refine lv_aload_n hx hb dX8_load_109 rfl (lv_at hl 0 rfl) ?_
                    refine gf_X8_38 hx hb hg hown hK (fl_blk hP 0 rfl) 0 rfl rfl dX8_load_110 ?_
                    refine q_iconst hx hb dX8_load_113 ?_
                    refine lv_iload_n hx hb dX8_load_114 rfl (lv_at hl 1 rfl) ?_
                    refine q_imul hx hb dX8_load_115 ?_
                    refine q_iconst hx hb dX8_load_116 ?_
                    refine q_iadd hx hb dX8_load_117 ?_
                    refine q_iald (j := ((5 * k) + 1)) hx hb hK (fl_blk hP 10 rfl) 0 rfl (by omega) dX8_load_118 ?_
                    refine lv_aload_n hx hb dX8_load_119 rfl (lv_at hl 0 rfl) ?_
                    refine gf_X8_38 hx hb hg hown hK (fl_blk hP 0 rfl) 0 rfl rfl dX8_load_120 ?_
                    refine q_iconst hx hb dX8_load_123 ?_
                    refine lv_iload_n hx hb dX8_load_124 rfl (lv_at hl 1 rfl) ?_
                    refine q_imul hx hb dX8_load_125 ?_
                    refine q_iconst hx hb dX8_load_126 ?_
                    refine q_iadd hx hb dX8_load_127 ?_
                    refine q_iald (j := ((5 * k) + 2)) hx hb hK (fl_blk hP 10 rfl) 0 rfl (by omega) dX8_load_128 ?_
                    refine lv_aload_n hx hb dX8_load_129 rfl (lv_at hl 0 rfl) ?_
                    refine gf_X8_38 hx hb hg hown hK (fl_blk hP 0 rfl) 0 rfl rfl dX8_load_130 ?_
                    refine q_iconst hx hb dX8_load_133 ?_
                    refine lv_iload_n hx hb dX8_load_134 rfl (lv_at hl 1 rfl) ?_
                    refine q_imul hx hb dX8_load_135 ?_
                    refine q_iconst hx hb dX8_load_136 ?_
                    refine q_iadd hx hb dX8_load_137 ?_
                    refine q_iald (j := ((5 * k) + 3)) hx hb hK (fl_blk hP 10 rfl) 0 rfl (by omega) dX8_load_138 ?_
                    refine lv_aload_n hx hb dX8_load_139 rfl (lv_at hl 0 rfl) ?_
                    refine gf_X8_38 hx hb hg hown hK (fl_blk hP 0 rfl) 0 rfl rfl dX8_load_140 ?_
                    refine q_iconst hx hb dX8_load_143 ?_
                    refine lv_iload_n hx hb dX8_load_144 rfl (lv_at hl 1 rfl) ?_
                    refine q_imul hx hb dX8_load_145 ?_
                    refine q_iconst hx hb dX8_load_146 ?_
                    refine q_iadd hx hb dX8_load_147 ?_
                    refine q_iald (j := ((5 * k) + 4)) hx hb hK (fl_blk hP 10 rfl) 0 rfl (by omega) dX8_load_148 ?_
                    refine q_backv [0, 1] [2, 3, 4, 5, 6, 7, 8, 9, 10, 11] (br := [[(msv, aI cy 920 (u_87))], [(mtx, aI cy 60 (bf))], [(mmo, aI cy 121 (g))], [(mif, aZ cy 16 (isF))], [(mmg, aI cy 16 (mg))], [(mtn, aI cy 16 (tn))], [(mie, aZ cy 4 (isE))], [(mme, aI cy 4 (mE))], [(mrd, aI cy 100 (u_40))], [(mas, aI cy 115 (as9))]]) hP hD hS hA (va_runV (As := [.int (qI (u_40 (5 * k))), .int (qI (u_40 ((5 * k) + 1))), .int (qI (u_40 ((5 * k) + 2))), .int (qI (u_40 ((5 * k) + 3))), .int (qI (u_40 ((5 * k) + 4)))]) (rest := []) ⟨hx, hb, hml, hown, hg⟩ (c_X8_lay l D cy mo mz msv mtx mmo mif mmg mtn mie mme mrd mas (0) (((min (hz + 1) 8 : Nat) : Int)) (((len : Nat) : Int)) (tu) (fi) (ro) (0) (((u_1.2.1 + 1 : Nat) : Int)) (u_1.2.2.1) (hh) (z1) (nc + k) (by omega) (by omega) _ _ _ _ _ _) (cv_X8_107 hg rfl rfl ⟨by decide, by decide⟩) ⟨q_blind, va_recv hK (fl_blk hP 0 rfl) (ci := 8) (q0 := 0) rfl rfl, q_preM _ hK hN hP hD [0, 1] (by decide) rfl⟩ rfl rfl hl.1 rfl (lv_room (Nat.le_of_ble_eq_true rfl)) dX8_load_149 ⟨by decide, by decide⟩) rfl rfl (by decide) (fun u_149 H locs h_149 hP hD hS => ?_)
                    have hP : va_P D vwCl [[(msv, aI cy 920 (u_87))], [(mtx, aI cy 60 (bf))], [(mmo, aI cy 121 (g))], [(mif, aZ cy 16 (isF))], [(mmg, aI cy 16 (mg))], [(mtn, aI cy 16 (tn))], [(mie, aZ cy 4 (isE))], [(mme, aI cy 4 (mE))], [(mrd, aI cy 100 (u_40))], [(mas, aI cy 115 (as9))], [(mo, .inr (8, [.int (qI (0)), .ref (mz), .int (qI (((min (hz + 1) 8 : Nat) : Int))), .ref (msv), .int (qI (((len : Nat) : Int))), .ref (mtx), .ref (mmo), .int (qI (tu)), .ref (mif), .ref (mmg), .ref (mtn), .ref (mie), .ref (mme), .int (qz (fi)), .int (qI (ro)), .int (qI (0)), .int (qI (((u_1.2.1 + 1 : Nat) : Int))), .int (qz (u_1.2.2.1)), .ref (mrd), .ref (mas), .long (hh)]))], [(mz, aI cy 115 (u_149))]].flatten H := hP
                    have hD : va_D A [[(msv, aI cy 920 (u_87))], [(mtx, aI cy 60 (bf))], [(mmo, aI cy 121 (g))], [(mif, aZ cy 16 (isF))], [(mmg, aI cy 16 (mg))], [(mtn, aI cy 16 (tn))], [(mie, aZ cy 4 (isE))], [(mme, aI cy 4 (mE))], [(mrd, aI cy 100 (u_40))], [(mas, aI cy 115 (as9))], [(mo, .inr (8, [.int (qI (0)), .ref (mz), .int (qI (((min (hz + 1) 8 : Nat) : Int))), .ref (msv), .int (qI (((len : Nat) : Int))), .ref (mtx), .ref (mmo), .int (qI (tu)), .ref (mif), .ref (mmg), .ref (mtn), .ref (mie), .ref (mme), .int (qz (fi)), .int (qI (ro)), .int (qI (0)), .int (qI (((u_1.2.1 + 1 : Nat) : Int))), .int (qz (u_1.2.2.1)), .ref (mrd), .ref (mas), .long (hh)]))], [(mz, aI cy 115 (u_149))]].flatten := hD
                    refine q_iinc (k := 1) (lv' := [(2, .int (qI ((((k : Nat) : Int)) + (1)))), (0, .ref (mo))]) hx hb dX8_load_152 hl rfl (by decide) rfl (fun ls hl => ?_)
                    refine lv_goto (tgt := 92) hx hb dX8_load_155 (by decide) ?_
                    have hl9 := ld_lay hz1 hy20 hy101 (by omega) h_149 rfl rfl rfl rfl rfl
                    have hP := fl_sub (bs' := [[(mo, .inr (8, [.int (qI (0)), .ref (mz), .int (qI (((min (hz + 1) 8 : Nat) : Int))), .ref (msv), .int (qI (((len : Nat) : Int))), .ref (mtx), .ref (mmo), .int (qI (tu)), .ref (mif), .ref (mmg), .ref (mtn), .ref (mie), .ref (mme), .int (qz (fi)), .int (qI (ro)), .int (qI (0)), .int (qI (((u_1.2.1 + 1 : Nat) : Int))), .int (qz (u_1.2.2.1)), .ref (mrd), .ref (mas), .long (hh)]))], [(mz, aI cy 115 (u_149))], [(msv, aI cy 920 (u_87))], [(mtx, aI cy 60 (bf))], [(mmo, aI cy 121 (g))], [(mif, aZ cy 16 (isF))], [(mmg, aI cy 16 (mg))], [(mtn, aI cy 16 (tn))], [(mie, aZ cy 4 (isE))], [(mme, aI cy 4 (mE))], [(mrd, aI cy 100 (u_40))], [(mas, aI cy 115 (as9))]]) hP [10, 11, 0, 1, 2, 3, 4, 5, 6, 7, 8, 9] rfl
                    have hD := fl_subD (bs' := [[(mo, .inr (8, [.int (qI (0)), .ref (mz), .int (qI (((min (hz + 1) 8 : Nat) : Int))), .ref (msv), .int (qI (((len : Nat) : Int))), .ref (mtx), .ref (mmo), .int (qI (tu)), .ref (mif), .ref (mmg), .ref (mtn), .ref (mie), .ref (mme), .int (qz (fi)), .int (qI (ro)), .int (qI (0)), .int (qI (((u_1.2.1 + 1 : Nat) : Int))), .int (qz (u_1.2.2.1)), .ref (mrd), .ref (mas), .long (hh)]))], [(mz, aI cy 115 (u_149))], [(msv, aI cy 920 (u_87))], [(mtx, aI cy 60 (bf))], [(mmo, aI cy 121 (g))], [(mif, aZ cy 16 (isF))], [(mmg, aI cy 16 (mg))], [(mtn, aI cy 16 (tn))], [(mie, aZ cy 4 (isE))], [(mme, aI cy 4 (mE))], [(mrd, aI cy 100 (u_40))], [(mas, aI cy 115 (as9))]]) hD [10, 11, 0, 1, 2, 3, 4, 5, 6, 7, 8, 9] (by decide) rfl
                    exact ih_92 (k + 1) _ (by omega) (by omega) hl9.1 hl9.2.1 hl9.2.2 _ _ _ hP hD hS (lv_sub hl [1, 0] rfl)
              have hP := fl_sub (bs' := [[(mo, .inr (8, [.int (qI (0)), .ref (mz), .int (qI (((min (hz + 1) 8 : Nat) : Int))), .ref (msv), .int (qI (((len : Nat) : Int))), .ref (mtx), .ref (mmo), .int (qI (tu)), .ref (mif), .ref (mmg), .ref (mtn), .ref (mie), .ref (mme), .int (qz (fi)), .int (qI (ro)), .int (qI (0)), .int (qI (((u_1.2.1 + 1 : Nat) : Int))), .int (qz (u_1.2.2.1)), .ref (mrd), .ref (mas), .long (hh)]))], [(mz, aI cy 115 (z))], [(msv, aI cy 920 (u_87))], [(mtx, aI cy 60 (bf))], [(mmo, aI cy 121 (g))], [(mif, aZ cy 16 (isF))], [(mmg, aI cy 16 (mg))], [(mtn, aI cy 16 (tn))], [(mie, aZ cy 4 (isE))], [(mme, aI cy 4 (mE))], [(mrd, aI cy 100 (u_40))], [(mas, aI cy 115 (as9))]]) hP [9, 10, 11, 7, 0, 1, 2, 3, 4, 5, 8, 6] rfl
              have hD := fl_subD (bs' := [[(mo, .inr (8, [.int (qI (0)), .ref (mz), .int (qI (((min (hz + 1) 8 : Nat) : Int))), .ref (msv), .int (qI (((len : Nat) : Int))), .ref (mtx), .ref (mmo), .int (qI (tu)), .ref (mif), .ref (mmg), .ref (mtn), .ref (mie), .ref (mme), .int (qz (fi)), .int (qI (ro)), .int (qI (0)), .int (qI (((u_1.2.1 + 1 : Nat) : Int))), .int (qz (u_1.2.2.1)), .ref (mrd), .ref (mas), .long (hh)]))], [(mz, aI cy 115 (z))], [(msv, aI cy 920 (u_87))], [(mtx, aI cy 60 (bf))], [(mmo, aI cy 121 (g))], [(mif, aZ cy 16 (isF))], [(mmg, aI cy 16 (mg))], [(mtn, aI cy 16 (tn))], [(mie, aZ cy 4 (isE))], [(mme, aI cy 4 (mE))], [(mrd, aI cy 100 (u_40))], [(mas, aI cy 115 (as9))]]) hD [9, 10, 11, 7, 0, 1, 2, 3, 4, 5, 8, 6] (by decide) rfl
              exact L_92 (u_1.2.1 + 1 + 1) (0) (z) (by omega) (by omega) ⟨fun _ _ => rfl, fun _ _ => rfl, rfl, fun f i hf hi => (if_pos hi).symm, rfl, fun _ _ _ _ => rfl⟩ (by omega) rfl _ _ _ hP hD hS (lv_sub hl [2, 0] rfl)
            · skip
              exact absurd c_81 (by decide)
          · skip
            exfalso; omega
        · skip
          exact absurd c_45 (by decide)
    · skip
      refine lv_aload_n hx hb dX8_load_20 rfl (lv_at hl 0 rfl) ?_
      refine gf_X8_132 hx hb hg hown hK (fl_blk hP 9 rfl) 0 rfl rfl dX8_load_21 ?_
      refine q_bipush hx hb dX8_load_24 (by decide) ?_
      refine q_icmp_ne (tgt := 33) hx hb dX8_load_26 (by decide) (by omega) (fun c_26 => ?_) (fun c_26 => ?_)
      · skip
        exfalso; omega
      · skip
        refine q_iconst hx hb dX8_load_29 ?_
        refine lv_goto (tgt := 34) hx hb dX8_load_30 (by decide) ?_
        refine lv_istore_n (lv' := [(1, .int (qI (1))), (0, .ref (mo))]) hx hb dX8_load_34 rfl hl (by decide) rfl (fun ls hl => ?_)
        refine lv_iload_n hx hb dX8_load_35 rfl (lv_at hl 0 rfl) ?_
        refine q_if_eq (tgt := 43) hx hb dX8_load_36 (by decide) (by omega) (fun c_36 => ?_) (fun c_36 => ?_)
        · skip
          exact absurd c_36 (by decide)
        · skip
          refine lv_aload_n hx hb dX8_load_39 rfl (lv_at hl 1 rfl) ?_
          refine q_backv [9, 11] [0, 1, 2, 3, 4, 5, 6, 7, 8, 10] (br := [[(mz, aI cy 115 (z))], [(msv, aI cy 920 (sd))], [(mmo, aI cy 121 (g))], [(mif, aZ cy 16 (isF))], [(mmg, aI cy 16 (mg))], [(mtn, aI cy 16 (tn))], [(mie, aZ cy 4 (isE))], [(mme, aI cy 4 (mE))], [(mas, aI cy 115 (as9))], [(mtx, aI cy 60 (bf))]]) hP hD hS hA (va_runV (As := []) (rest := []) ⟨hx, hb, hml, hown, hg⟩ (c_X8_endItem l D cy mo mz msv mtx mmo mif mmg mtn mie mme mrd mas (th) (((hz : Nat) : Int)) (((len : Nat) : Int)) (tu) (fi) (ro) (u_1.1) (u_1.2.1) (u_1.2.2.1) (hh) (u_1.2.2.2) hs9.2.1 _) (cv_X8_145 hg rfl rfl ⟨by decide, by decide⟩) ⟨q_blind, va_recv hK (fl_blk hP 9 rfl) (ci := 8) (q0 := 0) rfl rfl, q_preM _ hK hN hP hD [9, 11] (by decide) rfl⟩ rfl rfl hl.1 rfl (lv_room (Nat.le_of_ble_eq_true rfl)) dX8_load_40 ⟨by decide, by decide⟩) rfl rfl (by decide) (fun u_40 H locs h_40 hP hD hS => ?_)
          have hP : va_P D vwCl [[(mz, aI cy 115 (z))], [(msv, aI cy 920 (sd))], [(mmo, aI cy 121 (g))], [(mif, aZ cy 16 (isF))], [(mmg, aI cy 16 (mg))], [(mtn, aI cy 16 (tn))], [(mie, aZ cy 4 (isE))], [(mme, aI cy 4 (mE))], [(mas, aI cy 115 (as9))], [(mtx, aI cy 60 (bf))], [(mo, .inr (8, [.int (qI (th)), .ref (mz), .int (qI (((hz : Nat) : Int))), .ref (msv), .int (qI (((len : Nat) : Int))), .ref (mtx), .ref (mmo), .int (qI (tu)), .ref (mif), .ref (mmg), .ref (mtn), .ref (mie), .ref (mme), .int (qz (fi)), .int (qI (ro)), .int (qI (0)), .int (qI (((u_1.2.1 + 1 : Nat) : Int))), .int (qz (u_1.2.2.1)), .ref (mrd), .ref (mas), .long (hh)]))], [(mrd, aI cy 100 (u_40))]].flatten H := hP
          have hD : va_D A [[(mz, aI cy 115 (z))], [(msv, aI cy 920 (sd))], [(mmo, aI cy 121 (g))], [(mif, aZ cy 16 (isF))], [(mmg, aI cy 16 (mg))], [(mtn, aI cy 16 (tn))], [(mie, aZ cy 4 (isE))], [(mme, aI cy 4 (mE))], [(mas, aI cy 115 (as9))], [(mtx, aI cy 60 (bf))], [(mo, .inr (8, [.int (qI (th)), .ref (mz), .int (qI (((hz : Nat) : Int))), .ref (msv), .int (qI (((len : Nat) : Int))), .ref (mtx), .ref (mmo), .int (qI (tu)), .ref (mif), .ref (mmg), .ref (mtn), .ref (mie), .ref (mme), .int (qz (fi)), .int (qI (ro)), .int (qI (0)), .int (qI (((u_1.2.1 + 1 : Nat) : Int))), .int (qz (u_1.2.2.1)), .ref (mrd), .ref (mas), .long (hh)]))], [(mrd, aI cy 100 (u_40))]].flatten := hD
          have hme := mr_end hm9 hfull.2 (rdI_at len hfull.1)
          rw [← h_40] at hme
          have hk9 : u_1.2.1 + 1 = ldK tx len := hme.2.1
          refine lv_aload_n hx hb dX8_load_43 rfl (lv_at hl 1 rfl) ?_
          refine lv_iload_n hx hb dX8_load_44 rfl (lv_at hl 0 rfl) ?_
          refine q_if_ne (tgt := 52) hx hb dX8_load_45 (by decide) (by omega) (fun c_45 => ?_) (fun c_45 => ?_)
          · skip
            refine lv_aload_n hx hb dX8_load_52 rfl (lv_at hl 1 rfl) ?_
            refine gf_X8_7 hx hb hg hown hK (fl_blk hP 10 rfl) 0 rfl rfl dX8_load_53 ?_
            refine q_bipush hx hb dX8_load_56 (by decide) ?_
            refine q_iald (j := 20) hx hb hK (fl_blk hP 0 rfl) 0 rfl (by omega) dX8_load_58 ?_
            refine lv_aload_n hx hb dX8_load_59 rfl (lv_at hl 1 rfl) ?_
            refine gf_X8_135 hx hb hg hown hK (fl_blk hP 10 rfl) 0 rfl rfl dX8_load_60 ?_
            refine q_iadd hx hb dX8_load_63 ?_
            refine q_bipush hx hb dX8_load_64 (by decide) ?_
            refine q_icmp_le (tgt := 73) hx hb dX8_load_66 (by decide) (by omega) (fun c_66 => ?_) (fun c_66 => ?_)
            · skip
              refine q_iconst hx hb dX8_load_73 ?_
              refine pf_X8_44 hx hb hg hown hK hP hD hS 10 0 rfl rfl rfl rfl (Nat.le_of_ble_eq_true rfl) dX8_load_74 (fun H locs hP hD hS => ?_)
              have hP : va_P D vwCl [[(mz, aI cy 115 (z))], [(msv, aI cy 920 (sd))], [(mmo, aI cy 121 (g))], [(mif, aZ cy 16 (isF))], [(mmg, aI cy 16 (mg))], [(mtn, aI cy 16 (tn))], [(mie, aZ cy 4 (isE))], [(mme, aI cy 4 (mE))], [(mas, aI cy 115 (as9))], [(mtx, aI cy 60 (bf))], [(mo, .inr (8, [.int (qI (0)), .ref (mz), .int (qI (((hz : Nat) : Int))), .ref (msv), .int (qI (((len : Nat) : Int))), .ref (mtx), .ref (mmo), .int (qI (tu)), .ref (mif), .ref (mmg), .ref (mtn), .ref (mie), .ref (mme), .int (qz (fi)), .int (qI (ro)), .int (qI (0)), .int (qI (((u_1.2.1 + 1 : Nat) : Int))), .int (qz (u_1.2.2.1)), .ref (mrd), .ref (mas), .long (hh)]))], [(mrd, aI cy 100 (u_40))]].flatten H := hP
              have hD : va_D A [[(mz, aI cy 115 (z))], [(msv, aI cy 920 (sd))], [(mmo, aI cy 121 (g))], [(mif, aZ cy 16 (isF))], [(mmg, aI cy 16 (mg))], [(mtn, aI cy 16 (tn))], [(mie, aZ cy 4 (isE))], [(mme, aI cy 4 (mE))], [(mas, aI cy 115 (as9))], [(mtx, aI cy 60 (bf))], [(mo, .inr (8, [.int (qI (0)), .ref (mz), .int (qI (((hz : Nat) : Int))), .ref (msv), .int (qI (((len : Nat) : Int))), .ref (mtx), .ref (mmo), .int (qI (tu)), .ref (mif), .ref (mmg), .ref (mtn), .ref (mie), .ref (mme), .int (qz (fi)), .int (qI (ro)), .int (qI (0)), .int (qI (((u_1.2.1 + 1 : Nat) : Int))), .int (qz (u_1.2.2.1)), .ref (mrd), .ref (mas), .long (hh)]))], [(mrd, aI cy 100 (u_40))]].flatten := hD
              refine lv_aload_n hx hb dX8_load_77 rfl (lv_at hl 1 rfl) ?_
              refine gf_X8_44 hx hb hg hown hK (fl_blk hP 10 rfl) 0 rfl rfl dX8_load_78 ?_
              refine q_if_le (tgt := 86) hx hb dX8_load_81 (by decide) (by omega) (fun c_81 => ?_) (fun c_81 => ?_)
              · skip
                refine lv_aload_n hx hb dX8_load_86 rfl (lv_at hl 1 rfl) ?_
                refine q_backv [10, 0, 1] [2, 3, 4, 5, 6, 7, 8, 9, 11] (br := [[(mmo, aI cy 121 (g))], [(mif, aZ cy 16 (isF))], [(mmg, aI cy 16 (mg))], [(mtn, aI cy 16 (tn))], [(mie, aZ cy 4 (isE))], [(mme, aI cy 4 (mE))], [(mas, aI cy 115 (as9))], [(mtx, aI cy 60 (bf))], [(mrd, aI cy 100 (u_40))]]) hP hD hS hA (va_runV (As := []) (rest := []) ⟨hx, hb, hml, hown, hg⟩ (c_X8_save l D cy mo mz msv mtx mmo mif mmg mtn mie mme mrd mas (0) (((len : Nat) : Int)) (tu) (fi) (ro) (0) (((u_1.2.1 + 1 : Nat) : Int)) (u_1.2.2.1) (hh) hz (z) (sd) hhz _) (cv_X8_104 hg rfl rfl ⟨by decide, by decide⟩) ⟨q_blind, va_recv hK (fl_blk hP 10 rfl) (ci := 8) (q0 := 0) rfl rfl, q_preM _ hK hN hP hD [10, 0, 1] (by decide) rfl⟩ rfl rfl hl.1 rfl (lv_room (Nat.le_of_ble_eq_true rfl)) dX8_load_87 ⟨by decide, by decide⟩) rfl rfl (by decide) (fun u_87 H locs h_87 hP hD hS => ?_)
                have hP : va_P D vwCl [[(mmo, aI cy 121 (g))], [(mif, aZ cy 16 (isF))], [(mmg, aI cy 16 (mg))], [(mtn, aI cy 16 (tn))], [(mie, aZ cy 4 (isE))], [(mme, aI cy 4 (mE))], [(mas, aI cy 115 (as9))], [(mtx, aI cy 60 (bf))], [(mrd, aI cy 100 (u_40))], [(mo, .inr (8, [.int (qI (0)), .ref (mz), .int (qI (((min (hz + 1) 8 : Nat) : Int))), .ref (msv), .int (qI (((len : Nat) : Int))), .ref (mtx), .ref (mmo), .int (qI (tu)), .ref (mif), .ref (mmg), .ref (mtn), .ref (mie), .ref (mme), .int (qz (fi)), .int (qI (ro)), .int (qI (0)), .int (qI (((u_1.2.1 + 1 : Nat) : Int))), .int (qz (u_1.2.2.1)), .ref (mrd), .ref (mas), .long (hh)]))], [(mz, aI cy 115 (z))], [(msv, aI cy 920 (u_87))]].flatten H := hP
                have hD : va_D A [[(mmo, aI cy 121 (g))], [(mif, aZ cy 16 (isF))], [(mmg, aI cy 16 (mg))], [(mtn, aI cy 16 (tn))], [(mie, aZ cy 4 (isE))], [(mme, aI cy 4 (mE))], [(mas, aI cy 115 (as9))], [(mtx, aI cy 60 (bf))], [(mrd, aI cy 100 (u_40))], [(mo, .inr (8, [.int (qI (0)), .ref (mz), .int (qI (((min (hz + 1) 8 : Nat) : Int))), .ref (msv), .int (qI (((len : Nat) : Int))), .ref (mtx), .ref (mmo), .int (qI (tu)), .ref (mif), .ref (mmg), .ref (mtn), .ref (mie), .ref (mme), .int (qz (fi)), .int (qI (ro)), .int (qI (0)), .int (qI (((u_1.2.1 + 1 : Nat) : Int))), .int (qz (u_1.2.2.1)), .ref (mrd), .ref (mas), .long (hh)]))], [(mz, aI cy 115 (z))], [(msv, aI cy 920 (u_87))]].flatten := hD
                refine q_iconst hx hb dX8_load_90 ?_
                refine lv_istore_n (lv' := [(2, .int (qI (0))), (1, .int (qI (1))), (0, .ref (mo))]) hx hb dX8_load_91 rfl hl (by decide) rfl (fun ls hl => ?_)
                have L_92 : ∀ (n_92 k : Nat) (z1 : Nat → Int), k ≤ u_1.2.1 + 1 → u_1.2.1 + 1 + 1 ≤ k + n_92 → (LEq (zS z1) (ldC (zS z) (fun g i => u_40 (5 * i + g)) k)) → (z1 20 = (nc : Int) + (k : Int)) → (z1 101 = z 101) → ∀ (H : Heap) (locs : List Loc) (ls : Array Slot), va_P D vwCl [[(mo, .inr (8, [.int (qI (0)), .ref (mz), .int (qI (((min (hz + 1) 8 : Nat) : Int))), .ref (msv), .int (qI (((len : Nat) : Int))), .ref (mtx), .ref (mmo), .int (qI (tu)), .ref (mif), .ref (mmg), .ref (mtn), .ref (mie), .ref (mme), .int (qz (fi)), .int (qI (ro)), .int (qI (0)), .int (qI (((u_1.2.1 + 1 : Nat) : Int))), .int (qz (u_1.2.2.1)), .ref (mrd), .ref (mas), .long (hh)]))], [(mz, aI cy 115 (z1))], [(msv, aI cy 920 (u_87))], [(mtx, aI cy 60 (bf))], [(mmo, aI cy 121 (g))], [(mif, aZ cy 16 (isF))], [(mmg, aI cy 16 (mg))], [(mtn, aI cy 16 (tn))], [(mie, aZ cy 4 (isE))], [(mme, aI cy 4 (mE))], [(mrd, aI cy 100 (u_40))], [(mas, aI cy 115 (as9))]].flatten H → va_D A [[(mo, .inr (8, [.int (qI (0)), .ref (mz), .int (qI (((min (hz + 1) 8 : Nat) : Int))), .ref (msv), .int (qI (((len : Nat) : Int))), .ref (mtx), .ref (mmo), .int (qI (tu)), .ref (mif), .ref (mmg), .ref (mtn), .ref (mie), .ref (mme), .int (qz (fi)), .int (qI (ro)), .int (qI (0)), .int (qI (((u_1.2.1 + 1 : Nat) : Int))), .int (qz (u_1.2.2.1)), .ref (mrd), .ref (mas), .long (hh)]))], [(mz, aI cy 115 (z1))], [(msv, aI cy 920 (u_87))], [(mtx, aI cy 60 (bf))], [(mmo, aI cy 121 (g))], [(mif, aZ cy 16 (isF))], [(mmg, aI cy 16 (mg))], [(mtn, aI cy 16 (tn))], [(mie, aZ cy 4 (isE))], [(mme, aI cy 4 (mE))], [(mrd, aI cy 100 (u_40))], [(mas, aI cy 115 (as9))]].flatten → va_S A s.heap H locs → lv_has ls 3 [(0, .ref (mo)), (2, .int (qI (((k : Nat) : Int))))] → W p l e (qrm 8) s m args below meth c H locs 0 0 Q (F0 m 92 ls []) := by
                  intro n_92
                  induction n_92 with
                  | zero => intro k _ h1 h2; exact absurd h2 (by omega)
                  | succ n_92 ih_92 =>
                    intro k z1 hk_92 hn_92 hz1 hy20 hy101 H locs ls hP hD hS hl
                    refine lv_iload_n hx hb dX8_load_92 rfl (lv_at hl 1 rfl) ?_
                    refine lv_aload_n hx hb dX8_load_93 rfl (lv_at hl 0 rfl) ?_
                    refine gf_X8_135 hx hb hg hown hK (fl_blk hP 0 rfl) 0 rfl rfl dX8_load_94 ?_
                    refine q_icmp_ge (tgt := 158) hx hb dX8_load_97 (by decide) (by omega) (fun c_97 => ?_) (fun c_97 => ?_)
                    · skip
                      have ek9 : k = ldK tx len := by omega
                      have hS0 : LEq (zS (z1)) (ldC T (ldG tx len) (ldK tx len)) := by have q := hz1; rw [ek9] at q; exact LEq.tr q (ldC_eq hL (fun f i hf hi => hme.2.2.2.2.2 f i hf (by omega)))
                      have gS0 := (ldC_ok hG hcap (ld_ok hfull)).eq hS0
                      obtain ⟨n0, hn0⟩ : ∃ n0 : Nat, (z1) 20 = (n0 : Int) := ⟨((z1) 20).toNat, by have q := hy20; omega⟩
                      obtain ⟨m0, hm0⟩ : ∃ m0 : Nat, (z1) 101 = (m0 : Int) := ⟨((z1) 101).toNat, by have q := hy101; omega⟩
                      have n20 : ((z1) 20).toNat = n0 := by omega
                      have n101 : ((z1) 101).toNat = m0 := by omega
                      have hV0 : qV (z1) := gS0.1
                      have hst0 : ∀ i, i < 10 → 0 ≤ (z1) (10 + i) ∧ (z1) (10 + i) ≤ 9 := gS0.2.1
                      have hc0 : n0 ≤ 16 := n20 ▸ (gS0.2.2.1.1 : ((z1) 20).toNat ≤ 16)
                      have hC0 : qWR (zC (z1)) n0 := n20 ▸ (gS0.2.2.1.2 : qWR (zC (z1)) ((z1) 20).toNat)
                      have he0 : m0 ≤ 4 := n101 ▸ (gS0.2.2.2.1.1 : ((z1) 101).toNat ≤ 4)
                      have hE0 : qWR (zE (z1)) m0 := n101 ▸ (gS0.2.2.2.1.2 : qWR (zE (z1)) ((z1) 101).toNat)
                      refine lv_aload_n hx hb dX8_load_158 rfl (lv_at hl 0 rfl) ?_
                      refine q_backv [0, 1, 4, 5, 6, 7, 8, 9] [2, 3, 10, 11] (br := [[(msv, aI cy 920 (u_87))], [(mtx, aI cy 60 (bf))], [(mrd, aI cy 100 (u_40))], [(mas, aI cy 115 (as9))]]) hP hD hS hA (va_runV (As := []) (rest := []) ⟨hx, hb, hml, hown, hg⟩ (c_X8_settle l D cy mo mz msv mtx mmo mif mmg mtn mie mme mrd mas (0) (((min (hz + 1) 8 : Nat) : Int)) (((len : Nat) : Int)) (tu) (fi) (ro) (0) (((u_1.2.1 + 1 : Nat) : Int)) (u_1.2.2.1) (hh) (z1) n0 m0 (g) (isF) (mg) (tn) (isE) (mE) hn0 hm0 hc0 he0 hC0 hE0 hV0 hst0 _) (cv_X8_111 hg rfl rfl ⟨by decide, by decide⟩) ⟨q_blind, va_recv hK (fl_blk hP 0 rfl) (ci := 8) (q0 := 0) rfl rfl, q_preM _ hK hN hP hD [0, 1, 4, 5, 6, 7, 8, 9] (by decide) rfl⟩ rfl rfl hl.1 rfl (lv_room (Nat.le_of_ble_eq_true rfl)) dX8_load_159 ⟨by decide, by decide⟩) rfl rfl (by decide) (fun u_159 H locs h_159 hP hD hS => ?_)
                      have hP : va_P D vwCl [[(msv, aI cy 920 (u_87))], [(mtx, aI cy 60 (bf))], [(mrd, aI cy 100 (u_40))], [(mas, aI cy 115 (as9))], [(mo, .inr (8, [.int (qI (0)), .ref (mz), .int (qI (((min (hz + 1) 8 : Nat) : Int))), .ref (msv), .int (qI (((len : Nat) : Int))), .ref (mtx), .ref (mmo), .int (qI (u_159.2.2.2.1)), .ref (mif), .ref (mmg), .ref (mtn), .ref (mie), .ref (mme), .int (qz (u_159.2.2.2.2.2.2.2.2.2.1)), .int (qI (u_159.2.2.2.2.2.2.2.2.2.2)), .int (qI (0)), .int (qI (((u_1.2.1 + 1 : Nat) : Int))), .int (qz (u_1.2.2.1)), .ref (mrd), .ref (mas), .long (hh)]))], [(mz, aI cy 115 (u_159.1))], [(mmo, aI cy 121 (u_159.2.1))], [(mif, aZ cy 16 (u_159.2.2.2.2.1))], [(mmg, aI cy 16 (u_159.2.2.2.2.2.1))], [(mtn, aI cy 16 (u_159.2.2.2.2.2.2.1))], [(mie, aZ cy 4 (u_159.2.2.2.2.2.2.2.1))], [(mme, aI cy 4 (u_159.2.2.2.2.2.2.2.2.1))]].flatten H := hP
                      have hD : va_D A [[(msv, aI cy 920 (u_87))], [(mtx, aI cy 60 (bf))], [(mrd, aI cy 100 (u_40))], [(mas, aI cy 115 (as9))], [(mo, .inr (8, [.int (qI (0)), .ref (mz), .int (qI (((min (hz + 1) 8 : Nat) : Int))), .ref (msv), .int (qI (((len : Nat) : Int))), .ref (mtx), .ref (mmo), .int (qI (u_159.2.2.2.1)), .ref (mif), .ref (mmg), .ref (mtn), .ref (mie), .ref (mme), .int (qz (u_159.2.2.2.2.2.2.2.2.2.1)), .int (qI (u_159.2.2.2.2.2.2.2.2.2.2)), .int (qI (0)), .int (qI (((u_1.2.1 + 1 : Nat) : Int))), .int (qz (u_1.2.2.1)), .ref (mrd), .ref (mas), .long (hh)]))], [(mz, aI cy 115 (u_159.1))], [(mmo, aI cy 121 (u_159.2.1))], [(mif, aZ cy 16 (u_159.2.2.2.2.1))], [(mmg, aI cy 16 (u_159.2.2.2.2.2.1))], [(mtn, aI cy 16 (u_159.2.2.2.2.2.2.1))], [(mie, aZ cy 4 (u_159.2.2.2.2.2.2.2.1))], [(mme, aI cy 4 (u_159.2.2.2.2.2.2.2.2.1))]].flatten := hD
                      refine lv_aload_n hx hb dX8_load_162 rfl (lv_at hl 0 rfl) ?_
                      refine q_iconst hx hb dX8_load_163 ?_
                      refine pf_X8_129 hx hb hg hown hK hP hD hS 4 0 rfl rfl rfl rfl (Nat.le_of_ble_eq_true rfl) dX8_load_164 (fun H locs hP hD hS => ?_)
                      have hP : va_P D vwCl [[(msv, aI cy 920 (u_87))], [(mtx, aI cy 60 (bf))], [(mrd, aI cy 100 (u_40))], [(mas, aI cy 115 (as9))], [(mo, .inr (8, [.int (qI (0)), .ref (mz), .int (qI (((min (hz + 1) 8 : Nat) : Int))), .ref (msv), .int (qI (0)), .ref (mtx), .ref (mmo), .int (qI (u_159.2.2.2.1)), .ref (mif), .ref (mmg), .ref (mtn), .ref (mie), .ref (mme), .int (qz (u_159.2.2.2.2.2.2.2.2.2.1)), .int (qI (u_159.2.2.2.2.2.2.2.2.2.2)), .int (qI (0)), .int (qI (((u_1.2.1 + 1 : Nat) : Int))), .int (qz (u_1.2.2.1)), .ref (mrd), .ref (mas), .long (hh)]))], [(mz, aI cy 115 (u_159.1))], [(mmo, aI cy 121 (u_159.2.1))], [(mif, aZ cy 16 (u_159.2.2.2.2.1))], [(mmg, aI cy 16 (u_159.2.2.2.2.2.1))], [(mtn, aI cy 16 (u_159.2.2.2.2.2.2.1))], [(mie, aZ cy 4 (u_159.2.2.2.2.2.2.2.1))], [(mme, aI cy 4 (u_159.2.2.2.2.2.2.2.2.1))]].flatten H := hP
                      have hD : va_D A [[(msv, aI cy 920 (u_87))], [(mtx, aI cy 60 (bf))], [(mrd, aI cy 100 (u_40))], [(mas, aI cy 115 (as9))], [(mo, .inr (8, [.int (qI (0)), .ref (mz), .int (qI (((min (hz + 1) 8 : Nat) : Int))), .ref (msv), .int (qI (0)), .ref (mtx), .ref (mmo), .int (qI (u_159.2.2.2.1)), .ref (mif), .ref (mmg), .ref (mtn), .ref (mie), .ref (mme), .int (qz (u_159.2.2.2.2.2.2.2.2.2.1)), .int (qI (u_159.2.2.2.2.2.2.2.2.2.2)), .int (qI (0)), .int (qI (((u_1.2.1 + 1 : Nat) : Int))), .int (qz (u_1.2.2.1)), .ref (mrd), .ref (mas), .long (hh)]))], [(mz, aI cy 115 (u_159.1))], [(mmo, aI cy 121 (u_159.2.1))], [(mif, aZ cy 16 (u_159.2.2.2.2.1))], [(mmg, aI cy 16 (u_159.2.2.2.2.2.1))], [(mtn, aI cy 16 (u_159.2.2.2.2.2.2.1))], [(mie, aZ cy 4 (u_159.2.2.2.2.2.2.2.1))], [(mme, aI cy 4 (u_159.2.2.2.2.2.2.2.2.1))]].flatten := hD
                      refine lv_aload_n hx hb dX8_load_167 rfl (lv_at hl 0 rfl) ?_
                      refine gf_X8_7 hx hb hg hown hK (fl_blk hP 4 rfl) 0 rfl rfl dX8_load_168 ?_
                      refine q_bipush hx hb dX8_load_171 (by decide) ?_
                      refine q_iald (j := 20) hx hb hK (fl_blk hP 5 rfl) 0 rfl (by omega) dX8_load_173 ?_
                      have hP := fl_sub (bs' := [[(mo, .inr (8, [.int (qI (0)), .ref (mz), .int (qI (((min (hz + 1) 8 : Nat) : Int))), .ref (msv), .int (qI (0)), .ref (mtx), .ref (mmo), .int (qI (u_159.2.2.2.1)), .ref (mif), .ref (mmg), .ref (mtn), .ref (mie), .ref (mme), .int (qz (u_159.2.2.2.2.2.2.2.2.2.1)), .int (qI (u_159.2.2.2.2.2.2.2.2.2.2)), .int (qI (0)), .int (qI (((u_1.2.1 + 1 : Nat) : Int))), .int (qz (u_1.2.2.1)), .ref (mrd), .ref (mas), .long (hh)]))], [(mz, aI cy 115 (u_159.1))], [(msv, aI cy 920 (u_87))], [(mtx, aI cy 60 (bf))], [(mmo, aI cy 121 (u_159.2.1))], [(mif, aZ cy 16 (u_159.2.2.2.2.1))], [(mmg, aI cy 16 (u_159.2.2.2.2.2.1))], [(mtn, aI cy 16 (u_159.2.2.2.2.2.2.1))], [(mie, aZ cy 4 (u_159.2.2.2.2.2.2.2.1))], [(mme, aI cy 4 (u_159.2.2.2.2.2.2.2.2.1))], [(mrd, aI cy 100 (u_40))], [(mas, aI cy 115 (as9))]]) hP [4, 5, 0, 1, 6, 7, 8, 9, 10, 11, 2, 3] rfl
                      have hD := fl_subD (bs' := [[(mo, .inr (8, [.int (qI (0)), .ref (mz), .int (qI (((min (hz + 1) 8 : Nat) : Int))), .ref (msv), .int (qI (0)), .ref (mtx), .ref (mmo), .int (qI (u_159.2.2.2.1)), .ref (mif), .ref (mmg), .ref (mtn), .ref (mie), .ref (mme), .int (qz (u_159.2.2.2.2.2.2.2.2.2.1)), .int (qI (u_159.2.2.2.2.2.2.2.2.2.2)), .int (qI (0)), .int (qI (((u_1.2.1 + 1 : Nat) : Int))), .int (qz (u_1.2.2.1)), .ref (mrd), .ref (mas), .long (hh)]))], [(mz, aI cy 115 (u_159.1))], [(msv, aI cy 920 (u_87))], [(mtx, aI cy 60 (bf))], [(mmo, aI cy 121 (u_159.2.1))], [(mif, aZ cy 16 (u_159.2.2.2.2.1))], [(mmg, aI cy 16 (u_159.2.2.2.2.2.1))], [(mtn, aI cy 16 (u_159.2.2.2.2.2.2.1))], [(mie, aZ cy 4 (u_159.2.2.2.2.2.2.2.1))], [(mme, aI cy 4 (u_159.2.2.2.2.2.2.2.2.1))], [(mrd, aI cy 100 (u_40))], [(mas, aI cy 115 (as9))]]) hD [4, 5, 0, 1, 6, 7, 8, 9, 10, 11, 2, 3] (by decide) rfl
                      have hP : va_P D vwCl [(mdB cy mo mz msv mtx mmo mif mmg mtn mie mme mrd mas (0) ((min (hz + 1) 8)) (0) (u_159.2.2.2.1) (u_159.2.2.2.2.2.2.2.2.2.1) (u_159.2.2.2.2.2.2.2.2.2.2) (0) (((u_1.2.1 + 1 : Nat) : Int)) (u_1.2.2.1) (hh) (u_159.1) (u_87) (bf) (u_159.2.1) (u_159.2.2.2.2.1) (u_159.2.2.2.2.2.1) (u_159.2.2.2.2.2.2.1) (u_159.2.2.2.2.2.2.2.1) (u_159.2.2.2.2.2.2.2.2.1) (u_40) (as9)).flatten].flatten H := by rw [fl_open]; exact hP
                      have hD : va_D A [(mdB cy mo mz msv mtx mmo mif mmg mtn mie mme mrd mas (0) ((min (hz + 1) 8)) (0) (u_159.2.2.2.1) (u_159.2.2.2.2.2.2.2.2.2.1) (u_159.2.2.2.2.2.2.2.2.2.2) (0) (((u_1.2.1 + 1 : Nat) : Int)) (u_1.2.2.1) (hh) (u_159.1) (u_87) (bf) (u_159.2.1) (u_159.2.2.2.2.1) (u_159.2.2.2.2.2.1) (u_159.2.2.2.2.2.2.1) (u_159.2.2.2.2.2.2.2.1) (u_159.2.2.2.2.2.2.2.2.1) (u_40) (as9)).flatten].flatten := by rw [fl_open]; exact hD
                      exact hQ _ _ _ _ _ ((mdB cy mo mz msv mtx mmo mif mmg mtn mie mme mrd mas (0) ((min (hz + 1) 8)) (0) (u_159.2.2.2.1) (u_159.2.2.2.2.2.2.2.2.2.1) (u_159.2.2.2.2.2.2.2.2.2.2) (0) (((u_1.2.1 + 1 : Nat) : Int)) (u_1.2.2.1) (hh) (u_159.1) (u_87) (bf) (u_159.2.1) (u_159.2.2.2.2.1) (u_159.2.2.2.2.2.1) (u_159.2.2.2.2.2.2.1) (u_159.2.2.2.2.2.2.2.1) (u_159.2.2.2.2.2.2.2.2.1) (u_40) (as9)).flatten) ⟨by rw [h_159.1, show setv z1 (fun i => z1 (10 + i)) (zC z1) n0 (zE z1) m0 20 = z1 20 from seS_far (by decide) 10, hy20]; congr 1; omega, ⟨(u_159.2.2.2.1), (u_159.2.2.2.2.2.2.2.2.2.1), (u_159.2.2.2.2.2.2.2.2.2.2), (0), (((u_1.2.1 + 1 : Nat) : Int)), (u_1.2.2.1), (hh), (u_159.1), (u_87), (bf), (u_159.2.1), (u_159.2.2.2.2.1), (u_159.2.2.2.2.2.1), (u_159.2.2.2.2.2.2.1), (u_159.2.2.2.2.2.2.2.1), (u_159.2.2.2.2.2.2.2.2.1), (u_40), (as9), rfl, mset_fin hS0 n20 n101 hn0 hm0 hc0 he0 h_159.1, ⟨by omega, mh_push hhz h_87 ⟨hL, hz20, hz101, by omega, by omega⟩ hHZ⟩, Nat.zero_le _, (fun i hi => absurd hi (Nat.not_lt_zero i)), (fun i hi => absurd hi (Nat.not_lt_zero i))⟩⟩ hP hD hS dX8_load_174
                    · skip
                      refine lv_aload_n hx hb dX8_load_100 rfl (lv_at hl 0 rfl) ?_
                      refine lv_aload_n hx hb dX8_load_101 rfl (lv_at hl 0 rfl) ?_
                      refine gf_X8_38 hx hb hg hown hK (fl_blk hP 0 rfl) 0 rfl rfl dX8_load_102 ?_
                      refine q_iconst hx hb dX8_load_105 ?_
                      refine lv_iload_n hx hb dX8_load_106 rfl (lv_at hl 1 rfl) ?_
                      refine q_imul hx hb dX8_load_107 ?_
                      refine q_iald (j := (5 * k)) hx hb hK (fl_blk hP 10 rfl) 0 rfl (by omega) dX8_load_108 ?_
                      refine lv_aload_n hx hb dX8_load_109 rfl (lv_at hl 0 rfl) ?_
                      refine gf_X8_38 hx hb hg hown hK (fl_blk hP 0 rfl) 0 rfl rfl dX8_load_110 ?_
                      refine q_iconst hx hb dX8_load_113 ?_
                      refine lv_iload_n hx hb dX8_load_114 rfl (lv_at hl 1 rfl) ?_
                      refine q_imul hx hb dX8_load_115 ?_
                      refine q_iconst hx hb dX8_load_116 ?_
                      refine q_iadd hx hb dX8_load_117 ?_
                      refine q_iald (j := ((5 * k) + 1)) hx hb hK (fl_blk hP 10 rfl) 0 rfl (by omega) dX8_load_118 ?_
                      refine lv_aload_n hx hb dX8_load_119 rfl (lv_at hl 0 rfl) ?_
                      refine gf_X8_38 hx hb hg hown hK (fl_blk hP 0 rfl) 0 rfl rfl dX8_load_120 ?_
                      refine q_iconst hx hb dX8_load_123 ?_
                      refine lv_iload_n hx hb dX8_load_124 rfl (lv_at hl 1 rfl) ?_
                      refine q_imul hx hb dX8_load_125 ?_
                      refine q_iconst hx hb dX8_load_126 ?_
                      refine q_iadd hx hb dX8_load_127 ?_
                      refine q_iald (j := ((5 * k) + 2)) hx hb hK (fl_blk hP 10 rfl) 0 rfl (by omega) dX8_load_128 ?_
                      refine lv_aload_n hx hb dX8_load_129 rfl (lv_at hl 0 rfl) ?_
                      refine gf_X8_38 hx hb hg hown hK (fl_blk hP 0 rfl) 0 rfl rfl dX8_load_130 ?_
                      refine q_iconst hx hb dX8_load_133 ?_
                      refine lv_iload_n hx hb dX8_load_134 rfl (lv_at hl 1 rfl) ?_
                      refine q_imul hx hb dX8_load_135 ?_
                      refine q_iconst hx hb dX8_load_136 ?_
                      refine q_iadd hx hb dX8_load_137 ?_
                      refine q_iald (j := ((5 * k) + 3)) hx hb hK (fl_blk hP 10 rfl) 0 rfl (by omega) dX8_load_138 ?_
                      refine lv_aload_n hx hb dX8_load_139 rfl (lv_at hl 0 rfl) ?_
                      refine gf_X8_38 hx hb hg hown hK (fl_blk hP 0 rfl) 0 rfl rfl dX8_load_140 ?_
                      refine q_iconst hx hb dX8_load_143 ?_
                      refine lv_iload_n hx hb dX8_load_144 rfl (lv_at hl 1 rfl) ?_
                      refine q_imul hx hb dX8_load_145 ?_
                      refine q_iconst hx hb dX8_load_146 ?_
                      refine q_iadd hx hb dX8_load_147 ?_
                      refine q_iald (j := ((5 * k) + 4)) hx hb hK (fl_blk hP 10 rfl) 0 rfl (by omega) dX8_load_148 ?_
                      refine q_backv [0, 1] [2, 3, 4, 5, 6, 7, 8, 9, 10, 11] (br := [[(msv, aI cy 920 (u_87))], [(mtx, aI cy 60 (bf))], [(mmo, aI cy 121 (g))], [(mif, aZ cy 16 (isF))], [(mmg, aI cy 16 (mg))], [(mtn, aI cy 16 (tn))], [(mie, aZ cy 4 (isE))], [(mme, aI cy 4 (mE))], [(mrd, aI cy 100 (u_40))], [(mas, aI cy 115 (as9))]]) hP hD hS hA (va_runV (As := [.int (qI (u_40 (5 * k))), .int (qI (u_40 ((5 * k) + 1))), .int (qI (u_40 ((5 * k) + 2))), .int (qI (u_40 ((5 * k) + 3))), .int (qI (u_40 ((5 * k) + 4)))]) (rest := []) ⟨hx, hb, hml, hown, hg⟩ (c_X8_lay l D cy mo mz msv mtx mmo mif mmg mtn mie mme mrd mas (0) (((min (hz + 1) 8 : Nat) : Int)) (((len : Nat) : Int)) (tu) (fi) (ro) (0) (((u_1.2.1 + 1 : Nat) : Int)) (u_1.2.2.1) (hh) (z1) (nc + k) (by omega) (by omega) _ _ _ _ _ _) (cv_X8_107 hg rfl rfl ⟨by decide, by decide⟩) ⟨q_blind, va_recv hK (fl_blk hP 0 rfl) (ci := 8) (q0 := 0) rfl rfl, q_preM _ hK hN hP hD [0, 1] (by decide) rfl⟩ rfl rfl hl.1 rfl (lv_room (Nat.le_of_ble_eq_true rfl)) dX8_load_149 ⟨by decide, by decide⟩) rfl rfl (by decide) (fun u_149 H locs h_149 hP hD hS => ?_)
                      have hP : va_P D vwCl [[(msv, aI cy 920 (u_87))], [(mtx, aI cy 60 (bf))], [(mmo, aI cy 121 (g))], [(mif, aZ cy 16 (isF))], [(mmg, aI cy 16 (mg))], [(mtn, aI cy 16 (tn))], [(mie, aZ cy 4 (isE))], [(mme, aI cy 4 (mE))], [(mrd, aI cy 100 (u_40))], [(mas, aI cy 115 (as9))], [(mo, .inr (8, [.int (qI (0)), .ref (mz), .int (qI (((min (hz + 1) 8 : Nat) : Int))), .ref (msv), .int (qI (((len : Nat) : Int))), .ref (mtx), .ref (mmo), .int (qI (tu)), .ref (mif), .ref (mmg), .ref (mtn), .ref (mie), .ref (mme), .int (qz (fi)), .int (qI (ro)), .int (qI (0)), .int (qI (((u_1.2.1 + 1 : Nat) : Int))), .int (qz (u_1.2.2.1)), .ref (mrd), .ref (mas), .long (hh)]))], [(mz, aI cy 115 (u_149))]].flatten H := hP
                      have hD : va_D A [[(msv, aI cy 920 (u_87))], [(mtx, aI cy 60 (bf))], [(mmo, aI cy 121 (g))], [(mif, aZ cy 16 (isF))], [(mmg, aI cy 16 (mg))], [(mtn, aI cy 16 (tn))], [(mie, aZ cy 4 (isE))], [(mme, aI cy 4 (mE))], [(mrd, aI cy 100 (u_40))], [(mas, aI cy 115 (as9))], [(mo, .inr (8, [.int (qI (0)), .ref (mz), .int (qI (((min (hz + 1) 8 : Nat) : Int))), .ref (msv), .int (qI (((len : Nat) : Int))), .ref (mtx), .ref (mmo), .int (qI (tu)), .ref (mif), .ref (mmg), .ref (mtn), .ref (mie), .ref (mme), .int (qz (fi)), .int (qI (ro)), .int (qI (0)), .int (qI (((u_1.2.1 + 1 : Nat) : Int))), .int (qz (u_1.2.2.1)), .ref (mrd), .ref (mas), .long (hh)]))], [(mz, aI cy 115 (u_149))]].flatten := hD
                      refine q_iinc (k := 1) (lv' := [(2, .int (qI ((((k : Nat) : Int)) + (1)))), (0, .ref (mo))]) hx hb dX8_load_152 hl rfl (by decide) rfl (fun ls hl => ?_)
                      refine lv_goto (tgt := 92) hx hb dX8_load_155 (by decide) ?_
                      have hl9 := ld_lay hz1 hy20 hy101 (by omega) h_149 rfl rfl rfl rfl rfl
                      have hP := fl_sub (bs' := [[(mo, .inr (8, [.int (qI (0)), .ref (mz), .int (qI (((min (hz + 1) 8 : Nat) : Int))), .ref (msv), .int (qI (((len : Nat) : Int))), .ref (mtx), .ref (mmo), .int (qI (tu)), .ref (mif), .ref (mmg), .ref (mtn), .ref (mie), .ref (mme), .int (qz (fi)), .int (qI (ro)), .int (qI (0)), .int (qI (((u_1.2.1 + 1 : Nat) : Int))), .int (qz (u_1.2.2.1)), .ref (mrd), .ref (mas), .long (hh)]))], [(mz, aI cy 115 (u_149))], [(msv, aI cy 920 (u_87))], [(mtx, aI cy 60 (bf))], [(mmo, aI cy 121 (g))], [(mif, aZ cy 16 (isF))], [(mmg, aI cy 16 (mg))], [(mtn, aI cy 16 (tn))], [(mie, aZ cy 4 (isE))], [(mme, aI cy 4 (mE))], [(mrd, aI cy 100 (u_40))], [(mas, aI cy 115 (as9))]]) hP [10, 11, 0, 1, 2, 3, 4, 5, 6, 7, 8, 9] rfl
                      have hD := fl_subD (bs' := [[(mo, .inr (8, [.int (qI (0)), .ref (mz), .int (qI (((min (hz + 1) 8 : Nat) : Int))), .ref (msv), .int (qI (((len : Nat) : Int))), .ref (mtx), .ref (mmo), .int (qI (tu)), .ref (mif), .ref (mmg), .ref (mtn), .ref (mie), .ref (mme), .int (qz (fi)), .int (qI (ro)), .int (qI (0)), .int (qI (((u_1.2.1 + 1 : Nat) : Int))), .int (qz (u_1.2.2.1)), .ref (mrd), .ref (mas), .long (hh)]))], [(mz, aI cy 115 (u_149))], [(msv, aI cy 920 (u_87))], [(mtx, aI cy 60 (bf))], [(mmo, aI cy 121 (g))], [(mif, aZ cy 16 (isF))], [(mmg, aI cy 16 (mg))], [(mtn, aI cy 16 (tn))], [(mie, aZ cy 4 (isE))], [(mme, aI cy 4 (mE))], [(mrd, aI cy 100 (u_40))], [(mas, aI cy 115 (as9))]]) hD [10, 11, 0, 1, 2, 3, 4, 5, 6, 7, 8, 9] (by decide) rfl
                      exact ih_92 (k + 1) _ (by omega) (by omega) hl9.1 hl9.2.1 hl9.2.2 _ _ _ hP hD hS (lv_sub hl [1, 0] rfl)
                have hP := fl_sub (bs' := [[(mo, .inr (8, [.int (qI (0)), .ref (mz), .int (qI (((min (hz + 1) 8 : Nat) : Int))), .ref (msv), .int (qI (((len : Nat) : Int))), .ref (mtx), .ref (mmo), .int (qI (tu)), .ref (mif), .ref (mmg), .ref (mtn), .ref (mie), .ref (mme), .int (qz (fi)), .int (qI (ro)), .int (qI (0)), .int (qI (((u_1.2.1 + 1 : Nat) : Int))), .int (qz (u_1.2.2.1)), .ref (mrd), .ref (mas), .long (hh)]))], [(mz, aI cy 115 (z))], [(msv, aI cy 920 (u_87))], [(mtx, aI cy 60 (bf))], [(mmo, aI cy 121 (g))], [(mif, aZ cy 16 (isF))], [(mmg, aI cy 16 (mg))], [(mtn, aI cy 16 (tn))], [(mie, aZ cy 4 (isE))], [(mme, aI cy 4 (mE))], [(mrd, aI cy 100 (u_40))], [(mas, aI cy 115 (as9))]]) hP [9, 10, 11, 7, 0, 1, 2, 3, 4, 5, 8, 6] rfl
                have hD := fl_subD (bs' := [[(mo, .inr (8, [.int (qI (0)), .ref (mz), .int (qI (((min (hz + 1) 8 : Nat) : Int))), .ref (msv), .int (qI (((len : Nat) : Int))), .ref (mtx), .ref (mmo), .int (qI (tu)), .ref (mif), .ref (mmg), .ref (mtn), .ref (mie), .ref (mme), .int (qz (fi)), .int (qI (ro)), .int (qI (0)), .int (qI (((u_1.2.1 + 1 : Nat) : Int))), .int (qz (u_1.2.2.1)), .ref (mrd), .ref (mas), .long (hh)]))], [(mz, aI cy 115 (z))], [(msv, aI cy 920 (u_87))], [(mtx, aI cy 60 (bf))], [(mmo, aI cy 121 (g))], [(mif, aZ cy 16 (isF))], [(mmg, aI cy 16 (mg))], [(mtn, aI cy 16 (tn))], [(mie, aZ cy 4 (isE))], [(mme, aI cy 4 (mE))], [(mrd, aI cy 100 (u_40))], [(mas, aI cy 115 (as9))]]) hD [9, 10, 11, 7, 0, 1, 2, 3, 4, 5, 8, 6] (by decide) rfl
                exact L_92 (u_1.2.1 + 1 + 1) (0) (z) (by omega) (by omega) ⟨fun _ _ => rfl, fun _ _ => rfl, rfl, fun f i hf hi => (if_pos hi).symm, rfl, fun _ _ _ _ => rfl⟩ (by omega) rfl _ _ _ hP hD hS (lv_sub hl [2, 0] rfl)
              · skip
                exact absurd c_81 (by decide)
            · skip
              exfalso; omega
          · skip
            exact absurd c_45 (by decide)
