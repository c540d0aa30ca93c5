set_option maxRecDepth 100000 in
set_option maxHeartbeats 4000000 in
theorem c_X8_goes (l : Launch) (D : va_G) (cy : Nat → ClassId) (mo mz msv mtx mmo mif mmg mtn mie mme mrd mas : Nat) (th sv ml tu : Int) (fi : Bool) (ro sp : Int) (k : Nat) (bl : Bool) (hh : Int64) (bb : Bool) (to : Int) (sz : Nat) : qMet l yX8_goes (.code yX8_goes cX8_goes 3 (some .boolean)) 1 [.ref (mo), .int (qz (bb)), .int (qI (to))] D cy [[(mo, .inr (8, [.int (qI (th)), .ref (mz), .int (qI (sv)), .ref (msv), .int (qI (ml)), .ref (mtx), .ref (mmo), .int (qI (tu)), .ref (mif), .ref (mmg), .ref (mtn), .ref (mie), .ref (mme), .int (qz (fi)), .int (qI (ro)), .int (qI (sp)), .int (qI (((k : Nat) : Int))), .int (qz (bl)), .ref (mrd), .ref (mas), .long (hh)]))]] sz (va_Qi (S := Int) (fun r u => ∃ b : Bool, r = qz b ∧ (fun b2 u => b2 = bb ∧ u = if bb = true then to else sp) b u) (qB D cy [[(mo, .inr (8, [.int (qI (th)), .ref (mz), .int (qI (sv)), .ref (msv), .int (qI (ml)), .ref (mtx), .ref (mmo), .int (qI (tu)), .ref (mif), .ref (mmg), .ref (mtn), .ref (mie), .ref (mme), .int (qz (fi)), .int (qI (ro)), .int (qI (sp)), .int (qI (((k : Nat) : Int))), .int (qz (bl)), .ref (mrd), .ref (mas), .long (hh)]))]] sz (fun u => [[(mo, .inr (8, [.int (qI (th)), .ref (mz), .int (qI (sv)), .ref (msv), .int (qI (ml)), .ref (mtx), .ref (mmo), .int (qI (tu)), .ref (mif), .ref (mmg), .ref (mtn), .ref (mie), .ref (mme), .int (qz (fi)), .int (qI (ro)), .int (qI (u)), .int (qI (((k : Nat) : Int))), .int (qz (bl)), .ref (mrd), .ref (mas), .long (hh)]))]])) (va_A [[(mo, .inr (8, [.int (qI (th)), .ref (mz), .int (qI (sv)), .ref (msv), .int (qI (ml)), .ref (mtx), .ref (mmo), .int (qI (tu)), .ref (mif), .ref (mmg), .ref (mtn), .ref (mie), .ref (mme), .int (qz (fi)), .int (qI (ro)), .int (qI (sp)), .int (qI (((k : Nat) : Int))), .int (qz (bl)), .ref (mrd), .ref (mas), .long (hh)]))]].flatten sz)) := by
  refine q_ofMz (S := Int) (b1 := fun u => [[(mo, .inr (8, [.int (qI (th)), .ref (mz), .int (qI (sv)), .ref (msv), .int (qI (ml)), .ref (mtx), .ref (mmo), .int (qI (tu)), .ref (mif), .ref (mmg), .ref (mtn), .ref (mie), .ref (mme), .int (qz (fi)), .int (qI (ro)), .int (qI (u)), .int (qI (((k : Nat) : Int))), .int (qz (bl)), .ref (mrd), .ref (mas), .long (hh)]))]]) (post := fun b2 u => b2 = bb ∧ u = if bb = true then to else sp) (by decide +kernel) (Nat.le_of_ble_eq_true rfl) ?_
  intro p e s m args below meth c Q A hx hb hml hown hg hQ hK hN hD hA H locs ls hP hS hl
  have hown : s.vm.findClass RX8 = some m.cls := hown
  have hl : lv_has ls 3 [(0, .ref (mo)), (1, .int (qz (bb))), (2, .int (qI (to)))] := hl
  refine lv_aload_n hx hb dX8_goes_0 rfl (lv_at hl 0 rfl) ?_
  refine lv_iload_n hx hb dX8_goes_1 rfl (lv_at hl 1 rfl) ?_
  refine q_ifz_eq (tgt := 9) hx hb dX8_goes_2 (by decide) (fun c_2 => ?_) (fun c_2 => ?_)
  · skip
    refine lv_aload_n hx hb dX8_goes_9 rfl (lv_at hl 0 rfl) ?_
    refine gf_X8_132 hx hb hg hown hK (fl_blk hP 0 rfl) 0 rfl rfl dX8_goes_10 ?_
    refine pf_X8_132 hx hb hg hown hK hP hD hS 0 0 rfl rfl rfl rfl (Nat.le_of_ble_eq_true rfl) dX8_goes_13 (fun H locs hP hD hS => ?_)
    have hP : va_P D vwCl [[(mo, .inr (8, [.int (qI (th)), .ref (mz), .int (qI (sv)), .ref (msv), .int (qI (ml)), .ref (mtx), .ref (mmo), .int (qI (tu)), .ref (mif), .ref (mmg), .ref (mtn), .ref (mie), .ref (mme), .int (qz (fi)), .int (qI (ro)), .int (qI (sp)), .int (qI (((k : Nat) : Int))), .int (qz (bl)), .ref (mrd), .ref (mas), .long (hh)]))]].flatten H := hP
    have hD : va_D A [[(mo, .inr (8, [.int (qI (th)), .ref (mz), .int (qI (sv)), .ref (msv), .int (qI (ml)), .ref (mtx), .ref (mmo), .int (qI (tu)), .ref (mif), .ref (mmg), .ref (mtn), .ref (mie), .ref (mme), .int (qz (fi)), .int (qI (ro)), .int (qI (sp)), .int (qI (((k : Nat) : Int))), .int (qz (bl)), .ref (mrd), .ref (mas), .long (hh)]))]].flatten := hD
    refine lv_iload_n hx hb dX8_goes_16 rfl (lv_at hl 1 rfl) ?_
    exact hQ _ _ _ _ _ _ ⟨rfl, (if_neg (by rw [c_2]; decide)).symm⟩ hP hD hS dX8_goes_17
  · skip
    refine lv_iload_n hx hb dX8_goes_5 rfl (lv_at hl 2 rfl) ?_
    refine lv_goto (tgt := 13) hx hb dX8_goes_6 (by decide) ?_
    refine pf_X8_132 hx hb hg hown hK hP hD hS 0 0 rfl rfl rfl rfl (Nat.le_of_ble_eq_true rfl) dX8_goes_13 (fun H locs hP hD hS => ?_)
    have hP : va_P D vwCl [[(mo, .inr (8, [.int (qI (th)), .ref (mz), .int (qI (sv)), .ref (msv), .int (qI (ml)), .ref (mtx), .ref (mmo), .int (qI (tu)), .ref (mif), .ref (mmg), .ref (mtn), .ref (mie), .ref (mme), .int (qz (fi)), .int (qI (ro)), .int (qI (to)), .int (qI (((k : Nat) : Int))), .int (qz (bl)), .ref (mrd), .ref (mas), .long (hh)]))]].flatten H := hP
    have hD : va_D A [[(mo, .inr (8, [.int (qI (th)), .ref (mz), .int (qI (sv)), .ref (msv), .int (qI (ml)), .ref (mtx), .ref (mmo), .int (qI (tu)), .ref (mif), .ref (mmg), .ref (mtn), .ref (mie), .ref (mme), .int (qz (fi)), .int (qI (ro)), .int (qI (to)), .int (qI (((k : Nat) : Int))), .int (qz (bl)), .ref (mrd), .ref (mas), .long (hh)]))]].flatten := hD
    refine lv_iload_n hx hb dX8_goes_16 rfl (lv_at hl 1 rfl) ?_
    exact hQ _ _ _ _ _ _ ⟨rfl, (if_pos (by rw [c_2])).symm⟩ hP hD hS dX8_goes_17

set_option maxRecDepth 100000 in
set_option maxHeartbeats 4000000 in
theorem c_X8_takesPlace (l : Launch) (D : va_G) (cy : Nat → ClassId) (mo mz msv mtx mmo mif mmg mtn mie mme mrd mas : Nat) (th sv ml tu : Int) (fi : Bool) (ro sp : Int) (k : Nat) (bl : Bool) (hh : Int64) (rd : Nat → Int) (c9 : Int) (j : Nat) (to : Int) (hc : 33 ≤ c9 ∧ c9 ≤ 126) (hk : k < 16) (hj : j = 0 ∨ j = 1) (hr : j = 1 → 0 ≤ rd (5 * k + 0) ∧ rd (5 * k + 0) ≤ 9) (sz : Nat) : qMet l yX8_takesPlace (.code yX8_takesPlace cX8_takesPlace 5 (some .boolean)) 2 [.ref (mo), .int (qI (c9)), .int (qI (((j : Nat) : Int))), .int (qI (to))] D cy [[(mo, .inr (8, [.int (qI (th)), .ref (mz), .int (qI (sv)), .ref (msv), .int (qI (ml)), .ref (mtx), .ref (mmo), .int (qI (tu)), .ref (mif), .ref (mmg), .ref (mtn), .ref (mie), .ref (mme), .int (qz (fi)), .int (qI (ro)), .int (qI (sp)), .int (qI (((k : Nat) : Int))), .int (qz (bl)), .ref (mrd), .ref (mas), .long (hh)]))], [(mrd, aI cy 100 (rd))]] sz (va_Qi (S := Int × (Nat → Int)) (fun r u => ∃ b : Bool, r = qz b ∧ (fun b u => (b = true ↔ 97 ≤ c9 ∧ c9 ≤ 106 ∧ (j = 0 ∨ c9 - 97 ≠ rd (5 * k + 0))) ∧ (b = true → u.1 = to ∧ u.2 = qu rd (5 * k + j) (c9 - 97))) b u) (qB D cy [[(mo, .inr (8, [.int (qI (th)), .ref (mz), .int (qI (sv)), .ref (msv), .int (qI (ml)), .ref (mtx), .ref (mmo), .int (qI (tu)), .ref (mif), .ref (mmg), .ref (mtn), .ref (mie), .ref (mme), .int (qz (fi)), .int (qI (ro)), .int (qI (sp)), .int (qI (((k : Nat) : Int))), .int (qz (bl)), .ref (mrd), .ref (mas), .long (hh)]))], [(mrd, aI cy 100 (rd))]] sz (fun u => [[(mo, .inr (8, [.int (qI (th)), .ref (mz), .int (qI (sv)), .ref (msv), .int (qI (ml)), .ref (mtx), .ref (mmo), .int (qI (tu)), .ref (mif), .ref (mmg), .ref (mtn), .ref (mie), .ref (mme), .int (qz (fi)), .int (qI (ro)), .int (qI (u.1)), .int (qI (((k : Nat) : Int))), .int (qz (bl)), .ref (mrd), .ref (mas), .long (hh)]))], [(mrd, aI cy 100 (u.2))]])) (va_A [[(mo, .inr (8, [.int (qI (th)), .ref (mz), .int (qI (sv)), .ref (msv), .int (qI (ml)), .ref (mtx), .ref (mmo), .int (qI (tu)), .ref (mif), .ref (mmg), .ref (mtn), .ref (mie), .ref (mme), .int (qz (fi)), .int (qI (ro)), .int (qI (sp)), .int (qI (((k : Nat) : Int))), .int (qz (bl)), .ref (mrd), .ref (mas), .long (hh)]))], [(mrd, aI cy 100 (rd))]].flatten sz)) := by
  refine q_ofMz (S := Int × (Nat → Int)) (b1 := fun u => [[(mo, .inr (8, [.int (qI (th)), .ref (mz), .int (qI (sv)), .ref (msv), .int (qI (ml)), .ref (mtx), .ref (mmo), .int (qI (tu)), .ref (mif), .ref (mmg), .ref (mtn), .ref (mie), .ref (mme), .int (qz (fi)), .int (qI (ro)), .int (qI (u.1)), .int (qI (((k : Nat) : Int))), .int (qz (bl)), .ref (mrd), .ref (mas), .long (hh)]))], [(mrd, aI cy 100 (u.2))]]) (post := fun b u => (b = true ↔ 97 ≤ c9 ∧ c9 ≤ 106 ∧ (j = 0 ∨ c9 - 97 ≠ rd (5 * k + 0))) ∧ (b = true → u.1 = to ∧ u.2 = qu rd (5 * k + j) (c9 - 97))) (by decide +kernel) (Nat.le_of_ble_eq_true rfl) ?_
  intro p e s m args below meth c Q A hx hb hml hown hg hQ hK hN hD hA H locs ls hP hS hl
  have hown : s.vm.findClass RX8 = some m.cls := hown
  have hl : lv_has ls 5 [(0, .ref (mo)), (1, .int (qI (c9))), (2, .int (qI (((j : Nat) : Int)))), (3, .int (qI (to)))] := hl
  refine lv_iload_n hx hb dX8_takesPlace_0 rfl (lv_at hl 1 rfl) ?_
  refine q_bipush hx hb dX8_takesPlace_1 (by decide) ?_
  refine q_bipush hx hb dX8_takesPlace_3 (by decide) ?_
  refine q_readz (va_runS (As := [.int (qI (c9)), .int (qI (97)), .int (qI (106))]) (rest := []) ⟨hx, hb, hml, hown, hg⟩ (c_X8_within l D cy _ _ _ (by omega)) (cs_X8_48 hg rfl rfl ⟨by decide, by decide⟩) ⟨q_blind0, q_preR _ hK hN hP [] rfl⟩ rfl rfl hl.1 rfl (lv_room (Nat.le_of_ble_eq_true rfl)) dX8_takesPlace_5 ⟨by decide, by decide⟩) (fun b_5 h_5 => ?_)
  refine q_ifz_eq (tgt := 39) hx hb dX8_takesPlace_8 (by decide) (fun c_8 => ?_) (fun c_8 => ?_)
  · skip
    have g_8 := mt (h_5).mpr (by rw [c_8]; decide)
    refine q_iconst hx hb dX8_takesPlace_39 ?_
    refine lv_istore (lv' := [(4, .int (qI (0))), (0, .ref (mo)), (1, .int (qI (c9))), (2, .int (qI (((j : Nat) : Int)))), (3, .int (qI (to)))]) hx hb dX8_takesPlace_40 hl (by decide) rfl (fun ls hl => ?_)
    refine lv_aload_n hx hb dX8_takesPlace_42 rfl (lv_at hl 1 rfl) ?_
    refine gf_X8_38 hx hb hg hown hK (fl_blk hP 0 rfl) 0 rfl rfl dX8_takesPlace_43 ?_
    refine q_iconst hx hb dX8_takesPlace_46 ?_
    refine lv_aload_n hx hb dX8_takesPlace_47 rfl (lv_at hl 1 rfl) ?_
    refine gf_X8_135 hx hb hg hown hK (fl_blk hP 0 rfl) 0 rfl rfl dX8_takesPlace_48 ?_
    refine q_imul hx hb dX8_takesPlace_51 ?_
    refine lv_iload_n hx hb dX8_takesPlace_52 rfl (lv_at hl 3 rfl) ?_
    refine q_iadd hx hb dX8_takesPlace_53 ?_
    refine lv_iload hx hb dX8_takesPlace_54 (lv_at hl 0 rfl) ?_
    refine q_if_eq (tgt := 66) hx hb dX8_takesPlace_56 (by decide) (by omega) (fun c_56 => ?_) (fun c_56 => ?_)
    · skip
      refine lv_aload_n hx hb dX8_takesPlace_66 rfl (lv_at hl 1 rfl) ?_
      refine gf_X8_38 hx hb hg hown hK (fl_blk hP 0 rfl) 0 rfl rfl dX8_takesPlace_67 ?_
      refine q_iconst hx hb dX8_takesPlace_70 ?_
      refine lv_aload_n hx hb dX8_takesPlace_71 rfl (lv_at hl 1 rfl) ?_
      refine gf_X8_135 hx hb hg hown hK (fl_blk hP 0 rfl) 0 rfl rfl dX8_takesPlace_72 ?_
      refine q_imul hx hb dX8_takesPlace_75 ?_
      refine lv_iload_n hx hb dX8_takesPlace_76 rfl (lv_at hl 3 rfl) ?_
      refine q_iadd hx hb dX8_takesPlace_77 ?_
      refine q_iald (j := ((5 * k) + j)) hx hb hK (fl_blk hP 1 rfl) 0 rfl (by omega) dX8_takesPlace_78 ?_
      refine qb_iast (j := ((5 * k) + j)) hx hb hK hP hD hS 1 0 rfl rfl (by omega) dX8_takesPlace_79 (fun H locs hP hD hS => ?_)
      have hP : va_P D vwCl [[(mo, .inr (8, [.int (qI (th)), .ref (mz), .int (qI (sv)), .ref (msv), .int (qI (ml)), .ref (mtx), .ref (mmo), .int (qI (tu)), .ref (mif), .ref (mmg), .ref (mtn), .ref (mie), .ref (mme), .int (qz (fi)), .int (qI (ro)), .int (qI (sp)), .int (qI (((k : Nat) : Int))), .int (qz (bl)), .ref (mrd), .ref (mas), .long (hh)]))], [(mrd, aI cy 100 (qu rd ((5 * k) + j) (rd ((5 * k) + j))))]].flatten H := hP
      have hD : va_D A [[(mo, .inr (8, [.int (qI (th)), .ref (mz), .int (qI (sv)), .ref (msv), .int (qI (ml)), .ref (mtx), .ref (mmo), .int (qI (tu)), .ref (mif), .ref (mmg), .ref (mtn), .ref (mie), .ref (mme), .int (qz (fi)), .int (qI (ro)), .int (qI (sp)), .int (qI (((k : Nat) : Int))), .int (qz (bl)), .ref (mrd), .ref (mas), .long (hh)]))], [(mrd, aI cy 100 (qu rd ((5 * k) + j) (rd ((5 * k) + j))))]].flatten := hD
      refine lv_aload_n hx hb dX8_takesPlace_80 rfl (lv_at hl 1 rfl) ?_
      refine lv_iload hx hb dX8_takesPlace_81 (lv_at hl 0 rfl) ?_
      refine q_bool (b := false) rfl ?_
      refine lv_iload_n hx hb dX8_takesPlace_83 rfl (lv_at hl 4 rfl) ?_
      refine q_backz [0] [1] (br := [[(mrd, aI cy 100 (qu rd ((5 * k) + j) (rd ((5 * k) + j))))]]) hP hD hS hA (va_runV (As := [.int (qz (false)), .int (qI (to))]) (rest := []) ⟨hx, hb, hml, hown, hg⟩ (c_X8_goes l D cy mo mz msv mtx mmo mif mmg mtn mie mme mrd mas (th) (sv) (ml) (tu) (fi) (ro) (sp) (k) (bl) (hh) (false) (to) _) (cv_X8_138 hg rfl rfl ⟨by decide, by decide⟩) ⟨q_blind, va_recv hK (fl_blk hP 0 rfl) (ci := 8) (q0 := 0) rfl rfl, q_preM _ hK hN hP hD [0] (by decide) rfl⟩ rfl rfl hl.1 rfl (lv_room (Nat.le_of_ble_eq_true rfl)) dX8_takesPlace_84 ⟨by decide, by decide⟩) rfl rfl (by decide) (fun b_84 u_84 H locs h_84 hP hD hS => ?_)
      have hP : va_P D vwCl [[(mrd, aI cy 100 (qu rd ((5 * k) + j) (rd ((5 * k) + j))))], [(mo, .inr (8, [.int (qI (th)), .ref (mz), .int (qI (sv)), .ref (msv), .int (qI (ml)), .ref (mtx), .ref (mmo), .int (qI (tu)), .ref (mif), .ref (mmg), .ref (mtn), .ref (mie), .ref (mme), .int (qz (fi)), .int (qI (ro)), .int (qI (u_84)), .int (qI (((k : Nat) : Int))), .int (qz (bl)), .ref (mrd), .ref (mas), .long (hh)]))]].flatten H := hP
      have hD : va_D A [[(mrd, aI cy 100 (qu rd ((5 * k) + j) (rd ((5 * k) + j))))], [(mo, .inr (8, [.int (qI (th)), .ref (mz), .int (qI (sv)), .ref (msv), .int (qI (ml)), .ref (mtx), .ref (mmo), .int (qI (tu)), .ref (mif), .ref (mmg), .ref (mtn), .ref (mie), .ref (mme), .int (qz (fi)), .int (qI (ro)), .int (qI (u_84)), .int (qI (((k : Nat) : Int))), .int (qz (bl)), .ref (mrd), .ref (mas), .long (hh)]))]].flatten := hD
      have hP := fl_sub (bs' := [[(mo, .inr (8, [.int (qI (th)), .ref (mz), .int (qI (sv)), .ref (msv), .int (qI (ml)), .ref (mtx), .ref (mmo), .int (qI (tu)), .ref (mif), .ref (mmg), .ref (mtn), .ref (mie), .ref (mme), .int (qz (fi)), .int (qI (ro)), .int (qI (u_84)), .int (qI (((k : Nat) : Int))), .int (qz (bl)), .ref (mrd), .ref (mas), .long (hh)]))], [(mrd, aI cy 100 (qu rd ((5 * k) + j) (rd ((5 * k) + j))))]]) hP [1, 0] rfl
      have hD := fl_subD (bs' := [[(mo, .inr (8, [.int (qI (th)), .ref (mz), .int (qI (sv)), .ref (msv), .int (qI (ml)), .ref (mtx), .ref (mmo), .int (qI (tu)), .ref (mif), .ref (mmg), .ref (mtn), .ref (mie), .ref (mme), .int (qz (fi)), .int (qI (ro)), .int (qI (u_84)), .int (qI (((k : Nat) : Int))), .int (qz (bl)), .ref (mrd), .ref (mas), .long (hh)]))], [(mrd, aI cy 100 (qu rd ((5 * k) + j) (rd ((5 * k) + j))))]]) hD [1, 0] (by decide) rfl
      exact hQ _ _ _ _ b_84 (u_84, qu rd ((5 * k) + j) (rd ((5 * k) + j))) ⟨by rw [h_84.1]; exact iff_of_false (by decide) (by omega), fun z => absurd (h_84.1.symm.trans z) (by decide)⟩ hP hD hS dX8_takesPlace_87
    · skip
      exact absurd c_56 (by decide)
  · skip
    have g_8 := (h_5).mp c_8
    refine lv_iload_n hx hb dX8_takesPlace_11 rfl (lv_at hl 2 rfl) ?_
    refine q_if_eq (tgt := 35) hx hb dX8_takesPlace_12 (by decide) (by omega) (fun c_12 => ?_) (fun c_12 => ?_)
    · skip
      refine q_iconst hx hb dX8_takesPlace_35 ?_
      refine lv_goto (tgt := 40) hx hb dX8_takesPlace_36 (by decide) ?_
      refine lv_istore (lv' := [(4, .int (qI (1))), (0, .ref (mo)), (1, .int (qI (c9))), (2, .int (qI (((j : Nat) : Int)))), (3, .int (qI (to)))]) hx hb dX8_takesPlace_40 hl (by decide) rfl (fun ls hl => ?_)
      refine lv_aload_n hx hb dX8_takesPlace_42 rfl (lv_at hl 1 rfl) ?_
      refine gf_X8_38 hx hb hg hown hK (fl_blk hP 0 rfl) 0 rfl rfl dX8_takesPlace_43 ?_
      refine q_iconst hx hb dX8_takesPlace_46 ?_
      refine lv_aload_n hx hb dX8_takesPlace_47 rfl (lv_at hl 1 rfl) ?_
      refine gf_X8_135 hx hb hg hown hK (fl_blk hP 0 rfl) 0 rfl rfl dX8_takesPlace_48 ?_
      refine q_imul hx hb dX8_takesPlace_51 ?_
      refine lv_iload_n hx hb dX8_takesPlace_52 rfl (lv_at hl 3 rfl) ?_
      refine q_iadd hx hb dX8_takesPlace_53 ?_
      refine lv_iload hx hb dX8_takesPlace_54 (lv_at hl 0 rfl) ?_
      refine q_if_eq (tgt := 66) hx hb dX8_takesPlace_56 (by decide) (by omega) (fun c_56 => ?_) (fun c_56 => ?_)
      · skip
        exact absurd c_56 (by decide)
      · skip
        refine lv_iload_n hx hb dX8_takesPlace_59 rfl (lv_at hl 2 rfl) ?_
        refine q_bipush hx hb dX8_takesPlace_60 (by decide) ?_
        refine q_isub hx hb dX8_takesPlace_62 ?_
        refine lv_goto (tgt := 79) hx hb dX8_takesPlace_63 (by decide) ?_
        refine qb_iast (j := ((5 * k) + j)) hx hb hK hP hD hS 1 0 rfl rfl (by omega) dX8_takesPlace_79 (fun H locs hP hD hS => ?_)
        have hP : va_P D vwCl [[(mo, .inr (8, [.int (qI (th)), .ref (mz), .int (qI (sv)), .ref (msv), .int (qI (ml)), .ref (mtx), .ref (mmo), .int (qI (tu)), .ref (mif), .ref (mmg), .ref (mtn), .ref (mie), .ref (mme), .int (qz (fi)), .int (qI (ro)), .int (qI (sp)), .int (qI (((k : Nat) : Int))), .int (qz (bl)), .ref (mrd), .ref (mas), .long (hh)]))], [(mrd, aI cy 100 (qu rd ((5 * k) + j) ((c9) - (97))))]].flatten H := hP
        have hD : va_D A [[(mo, .inr (8, [.int (qI (th)), .ref (mz), .int (qI (sv)), .ref (msv), .int (qI (ml)), .ref (mtx), .ref (mmo), .int (qI (tu)), .ref (mif), .ref (mmg), .ref (mtn), .ref (mie), .ref (mme), .int (qz (fi)), .int (qI (ro)), .int (qI (sp)), .int (qI (((k : Nat) : Int))), .int (qz (bl)), .ref (mrd), .ref (mas), .long (hh)]))], [(mrd, aI cy 100 (qu rd ((5 * k) + j) ((c9) - (97))))]].flatten := hD
        refine lv_aload_n hx hb dX8_takesPlace_80 rfl (lv_at hl 1 rfl) ?_
        refine lv_iload hx hb dX8_takesPlace_81 (lv_at hl 0 rfl) ?_
        refine q_bool (b := true) rfl ?_
        refine lv_iload_n hx hb dX8_takesPlace_83 rfl (lv_at hl 4 rfl) ?_
        refine q_backz [0] [1] (br := [[(mrd, aI cy 100 (qu rd ((5 * k) + j) ((c9) - (97))))]]) hP hD hS hA (va_runV (As := [.int (qz (true)), .int (qI (to))]) (rest := []) ⟨hx, hb, hml, hown, hg⟩ (c_X8_goes l D cy mo mz msv mtx mmo mif mmg mtn mie mme mrd mas (th) (sv) (ml) (tu) (fi) (ro) (sp) (k) (bl) (hh) (true) (to) _) (cv_X8_138 hg rfl rfl ⟨by decide, by decide⟩) ⟨q_blind, va_recv hK (fl_blk hP 0 rfl) (ci := 8) (q0 := 0) rfl rfl, q_preM _ hK hN hP hD [0] (by decide) rfl⟩ rfl rfl hl.1 rfl (lv_room (Nat.le_of_ble_eq_true rfl)) dX8_takesPlace_84 ⟨by decide, by decide⟩) rfl rfl (by decide) (fun b_84 u_84 H locs h_84 hP hD hS => ?_)
        have hP : va_P D vwCl [[(mrd, aI cy 100 (qu rd ((5 * k) + j) ((c9) - (97))))], [(mo, .inr (8, [.int (qI (th)), .ref (mz), .int (qI (sv)), .ref (msv), .int (qI (ml)), .ref (mtx), .ref (mmo), .int (qI (tu)), .ref (mif), .ref (mmg), .ref (mtn), .ref (mie), .ref (mme), .int (qz (fi)), .int (qI (ro)), .int (qI (u_84)), .int (qI (((k : Nat) : Int))), .int (qz (bl)), .ref (mrd), .ref (mas), .long (hh)]))]].flatten H := hP
        have hD : va_D A [[(mrd, aI cy 100 (qu rd ((5 * k) + j) ((c9) - (97))))], [(mo, .inr (8, [.int (qI (th)), .ref (mz), .int (qI (sv)), .ref (msv), .int (qI (ml)), .ref (mtx), .ref (mmo), .int (qI (tu)), .ref (mif), .ref (mmg), .ref (mtn), .ref (mie), .ref (mme), .int (qz (fi)), .int (qI (ro)), .int (qI (u_84)), .int (qI (((k : Nat) : Int))), .int (qz (bl)), .ref (mrd), .ref (mas), .long (hh)]))]].flatten := hD
        have hP := fl_sub (bs' := [[(mo, .inr (8, [.int (qI (th)), .ref (mz), .int (qI (sv)), .ref (msv), .int (qI (ml)), .ref (mtx), .ref (mmo), .int (qI (tu)), .ref (mif), .ref (mmg), .ref (mtn), .ref (mie), .ref (mme), .int (qz (fi)), .int (qI (ro)), .int (qI (u_84)), .int (qI (((k : Nat) : Int))), .int (qz (bl)), .ref (mrd), .ref (mas), .long (hh)]))], [(mrd, aI cy 100 (qu rd ((5 * k) + j) ((c9) - (97))))]]) hP [1, 0] rfl
        have hD := fl_subD (bs' := [[(mo, .inr (8, [.int (qI (th)), .ref (mz), .int (qI (sv)), .ref (msv), .int (qI (ml)), .ref (mtx), .ref (mmo), .int (qI (tu)), .ref (mif), .ref (mmg), .ref (mtn), .ref (mie), .ref (mme), .int (qz (fi)), .int (qI (ro)), .int (qI (u_84)), .int (qI (((k : Nat) : Int))), .int (qz (bl)), .ref (mrd), .ref (mas), .long (hh)]))], [(mrd, aI cy 100 (qu rd ((5 * k) + j) ((c9) - (97))))]]) hD [1, 0] (by decide) rfl
        exact hQ _ _ _ _ b_84 (u_84, qu rd ((5 * k) + j) ((c9) - (97))) ⟨by rw [h_84.1]; exact iff_of_true rfl (by omega), fun z => ⟨by rw [h_84.2]; rfl, rfl⟩⟩ hP hD hS dX8_takesPlace_87
    · skip
      refine lv_iload_n hx hb dX8_takesPlace_15 rfl (lv_at hl 1 rfl) ?_
      refine q_bipush hx hb dX8_takesPlace_16 (by decide) ?_
      refine q_isub hx hb dX8_takesPlace_18 ?_
      refine lv_aload_n hx hb dX8_takesPlace_19 rfl (lv_at hl 0 rfl) ?_
      refine gf_X8_38 hx hb hg hown hK (fl_blk hP 0 rfl) 0 rfl rfl dX8_takesPlace_20 ?_
      refine q_iconst hx hb dX8_takesPlace_23 ?_
      refine lv_aload_n hx hb dX8_takesPlace_24 rfl (lv_at hl 0 rfl) ?_
      refine gf_X8_135 hx hb hg hown hK (fl_blk hP 0 rfl) 0 rfl rfl dX8_takesPlace_25 ?_
      refine q_imul hx hb dX8_takesPlace_28 ?_
      refine q_iconst hx hb dX8_takesPlace_29 ?_
      refine q_iadd hx hb dX8_takesPlace_30 ?_
      refine q_iald (j := ((5 * k) + 0)) hx hb hK (fl_blk hP 1 rfl) 0 rfl (by omega) dX8_takesPlace_31 ?_
      refine q_icmp_eq (tgt := 39) hx hb dX8_takesPlace_32 (by decide) (by omega) (fun c_32 => ?_) (fun c_32 => ?_)
      · skip
        refine q_iconst hx hb dX8_takesPlace_39 ?_
        refine lv_istore (lv' := [(4, .int (qI (0))), (0, .ref (mo)), (1, .int (qI (c9))), (2, .int (qI (((j : Nat) : Int)))), (3, .int (qI (to)))]) hx hb dX8_takesPlace_40 hl (by decide) rfl (fun ls hl => ?_)
        refine lv_aload_n hx hb dX8_takesPlace_42 rfl (lv_at hl 1 rfl) ?_
        refine gf_X8_38 hx hb hg hown hK (fl_blk hP 0 rfl) 0 rfl rfl dX8_takesPlace_43 ?_
        refine q_iconst hx hb dX8_takesPlace_46 ?_
        refine lv_aload_n hx hb dX8_takesPlace_47 rfl (lv_at hl 1 rfl) ?_
        refine gf_X8_135 hx hb hg hown hK (fl_blk hP 0 rfl) 0 rfl rfl dX8_takesPlace_48 ?_
        refine q_imul hx hb dX8_takesPlace_51 ?_
        refine lv_iload_n hx hb dX8_takesPlace_52 rfl (lv_at hl 3 rfl) ?_
        refine q_iadd hx hb dX8_takesPlace_53 ?_
        refine lv_iload hx hb dX8_takesPlace_54 (lv_at hl 0 rfl) ?_
        refine q_if_eq (tgt := 66) hx hb dX8_takesPlace_56 (by decide) (by omega) (fun c_56 => ?_) (fun c_56 => ?_)
        · skip
          refine lv_aload_n hx hb dX8_takesPlace_66 rfl (lv_at hl 1 rfl) ?_
          refine gf_X8_38 hx hb hg hown hK (fl_blk hP 0 rfl) 0 rfl rfl dX8_takesPlace_67 ?_
          refine q_iconst hx hb dX8_takesPlace_70 ?_
          refine lv_aload_n hx hb dX8_takesPlace_71 rfl (lv_at hl 1 rfl) ?_
          refine gf_X8_135 hx hb hg hown hK (fl_blk hP 0 rfl) 0 rfl rfl dX8_takesPlace_72 ?_
          refine q_imul hx hb dX8_takesPlace_75 ?_
          refine lv_iload_n hx hb dX8_takesPlace_76 rfl (lv_at hl 3 rfl) ?_
          refine q_iadd hx hb dX8_takesPlace_77 ?_
          refine q_iald (j := ((5 * k) + j)) hx hb hK (fl_blk hP 1 rfl) 0 rfl (by omega) dX8_takesPlace_78 ?_
          refine qb_iast (j := ((5 * k) + j)) hx hb hK hP hD hS 1 0 rfl rfl (by omega) dX8_takesPlace_79 (fun H locs hP hD hS => ?_)
          have hP : va_P D vwCl [[(mo, .inr (8, [.int (qI (th)), .ref (mz), .int (qI (sv)), .ref (msv), .int (qI (ml)), .ref (mtx), .ref (mmo), .int (qI (tu)), .ref (mif), .ref (mmg), .ref (mtn), .ref (mie), .ref (mme), .int (qz (fi)), .int (qI (ro)), .int (qI (sp)), .int (qI (((k : Nat) : Int))), .int (qz (bl)), .ref (mrd), .ref (mas), .long (hh)]))], [(mrd, aI cy 100 (qu rd ((5 * k) + j) (rd ((5 * k) + j))))]].flatten H := hP
          have hD : va_D A [[(mo, .inr (8, [.int (qI (th)), .ref (mz), .int (qI (sv)), .ref (msv), .int (qI (ml)), .ref (mtx), .ref (mmo), .int (qI (tu)), .ref (mif), .ref (mmg), .ref (mtn), .ref (mie), .ref (mme), .int (qz (fi)), .int (qI (ro)), .int (qI (sp)), .int (qI (((k : Nat) : Int))), .int (qz (bl)), .ref (mrd), .ref (mas), .long (hh)]))], [(mrd, aI cy 100 (qu rd ((5 * k) + j) (rd ((5 * k) + j))))]].flatten := hD
          refine lv_aload_n hx hb dX8_takesPlace_80 rfl (lv_at hl 1 rfl) ?_
          refine lv_iload hx hb dX8_takesPlace_81 (lv_at hl 0 rfl) ?_
          refine q_bool (b := false) rfl ?_
          refine lv_iload_n hx hb dX8_takesPlace_83 rfl (lv_at hl 4 rfl) ?_
          refine q_backz [0] [1] (br := [[(mrd, aI cy 100 (qu rd ((5 * k) + j) (rd ((5 * k) + j))))]]) hP hD hS hA (va_runV (As := [.int (qz (false)), .int (qI (to))]) (rest := []) ⟨hx, hb, hml, hown, hg⟩ (c_X8_goes l D cy mo mz msv mtx mmo mif mmg mtn mie mme mrd mas (th) (sv) (ml) (tu) (fi) (ro) (sp) (k) (bl) (hh) (false) (to) _) (cv_X8_138 hg rfl rfl ⟨by decide, by decide⟩) ⟨q_blind, va_recv hK (fl_blk hP 0 rfl) (ci := 8) (q0 := 0) rfl rfl, q_preM _ hK hN hP hD [0] (by decide) rfl⟩ rfl rfl hl.1 rfl (lv_room (Nat.le_of_ble_eq_true rfl)) dX8_takesPlace_84 ⟨by decide, by decide⟩) rfl rfl (by decide) (fun b_84 u_84 H locs h_84 hP hD hS => ?_)
          have hP : va_P D vwCl [[(mrd, aI cy 100 (qu rd ((5 * k) + j) (rd ((5 * k) + j))))], [(mo, .inr (8, [.int (qI (th)), .ref (mz), .int (qI (sv)), .ref (msv), .int (qI (ml)), .ref (mtx), .ref (mmo), .int (qI (tu)), .ref (mif), .ref (mmg), .ref (mtn), .ref (mie), .ref (mme), .int (qz (fi)), .int (qI (ro)), .int (qI (u_84)), .int (qI (((k : Nat) : Int))), .int (qz (bl)), .ref (mrd), .ref (mas), .long (hh)]))]].flatten H := hP
          have hD : va_D A [[(mrd, aI cy 100 (qu rd ((5 * k) + j) (rd ((5 * k) + j))))], [(mo, .inr (8, [.int (qI (th)), .ref (mz), .int (qI (sv)), .ref (msv), .int (qI (ml)), .ref (mtx), .ref (mmo), .int (qI (tu)), .ref (mif), .ref (mmg), .ref (mtn), .ref (mie), .ref (mme), .int (qz (fi)), .int (qI (ro)), .int (qI (u_84)), .int (qI (((k : Nat) : Int))), .int (qz (bl)), .ref (mrd), .ref (mas), .long (hh)]))]].flatten := hD
          have hP := fl_sub (bs' := [[(mo, .inr (8, [.int (qI (th)), .ref (mz), .int (qI (sv)), .ref (msv), .int (qI (ml)), .ref (mtx), .ref (mmo), .int (qI (tu)), .ref (mif), .ref (mmg), .ref (mtn), .ref (mie), .ref (mme), .int (qz (fi)), .int (qI (ro)), .int (qI (u_84)), .int (qI (((k : Nat) : Int))), .int (qz (bl)), .ref (mrd), .ref (mas), .long (hh)]))], [(mrd, aI cy 100 (qu rd ((5 * k) + j) (rd ((5 * k) + j))))]]) hP [1, 0] rfl
          have hD := fl_subD (bs' := [[(mo, .inr (8, [.int (qI (th)), .ref (mz), .int (qI (sv)), .ref (msv), .int (qI (ml)), .ref (mtx), .ref (mmo), .int (qI (tu)), .ref (mif), .ref (mmg), .ref (mtn), .ref (mie), .ref (mme), .int (qz (fi)), .int (qI (ro)), .int (qI (u_84)), .int (qI (((k : Nat) : Int))), .int (qz (bl)), .ref (mrd), .ref (mas), .long (hh)]))], [(mrd, aI cy 100 (qu rd ((5 * k) + j) (rd ((5 * k) + j))))]]) hD [1, 0] (by decide) rfl
          exact hQ _ _ _ _ b_84 (u_84, qu rd ((5 * k) + j) (rd ((5 * k) + j))) ⟨by rw [h_84.1]; exact iff_of_false (by decide) (by omega), fun z => absurd (h_84.1.symm.trans z) (by decide)⟩ hP hD hS dX8_takesPlace_87
        · skip
          exact absurd c_56 (by decide)
      · skip
        refine q_iconst hx hb dX8_takesPlace_35 ?_
        refine lv_goto (tgt := 40) hx hb dX8_takesPlace_36 (by decide) ?_
        refine lv_istore (lv' := [(4, .int (qI (1))), (0, .ref (mo)), (1, .int (qI (c9))), (2, .int (qI (((j : Nat) : Int)))), (3, .int (qI (to)))]) hx hb dX8_takesPlace_40 hl (by decide) rfl (fun ls hl => ?_)
        refine lv_aload_n hx hb dX8_takesPlace_42 rfl (lv_at hl 1 rfl) ?_
        refine gf_X8_38 hx hb hg hown hK (fl_blk hP 0 rfl) 0 rfl rfl dX8_takesPlace_43 ?_
        refine q_iconst hx hb dX8_takesPlace_46 ?_
        refine lv_aload_n hx hb dX8_takesPlace_47 rfl (lv_at hl 1 rfl) ?_
        refine gf_X8_135 hx hb hg hown hK (fl_blk hP 0 rfl) 0 rfl rfl dX8_takesPlace_48 ?_
        refine q_imul hx hb dX8_takesPlace_51 ?_
        refine lv_iload_n hx hb dX8_takesPlace_52 rfl (lv_at hl 3 rfl) ?_
        refine q_iadd hx hb dX8_takesPlace_53 ?_
        refine lv_iload hx hb dX8_takesPlace_54 (lv_at hl 0 rfl) ?_
        refine q_if_eq (tgt := 66) hx hb dX8_takesPlace_56 (by decide) (by omega) (fun c_56 => ?_) (fun c_56 => ?_)
        · skip
          exact absurd c_56 (by decide)
        · skip
          refine lv_iload_n hx hb dX8_takesPlace_59 rfl (lv_at hl 2 rfl) ?_
          refine q_bipush hx hb dX8_takesPlace_60 (by decide) ?_
          refine q_isub hx hb dX8_takesPlace_62 ?_
          refine lv_goto (tgt := 79) hx hb dX8_takesPlace_63 (by decide) ?_
          refine qb_iast (j := ((5 * k) + j)) hx hb hK hP hD hS 1 0 rfl rfl (by omega) dX8_takesPlace_79 (fun H locs hP hD hS => ?_)
          have hP : va_P D vwCl [[(mo, .inr (8, [.int (qI (th)), .ref (mz), .int (qI (sv)), .ref (msv), .int (qI (ml)), .ref (mtx), .ref (mmo), .int (qI (tu)), .ref (mif), .ref (mmg), .ref (mtn), .ref (mie), .ref (mme), .int (qz (fi)), .int (qI (ro)), .int (qI (sp)), .int (qI (((k : Nat) : Int))), .int (qz (bl)), .ref (mrd), .ref (mas), .long (hh)]))], [(mrd, aI cy 100 (qu rd ((5 * k) + j) ((c9) - (97))))]].flatten H := hP
          have hD : va_D A [[(mo, .inr (8, [.int (qI (th)), .ref (mz), .int (qI (sv)), .ref (msv), .int (qI (ml)), .ref (mtx), .ref (mmo), .int (qI (tu)), .ref (mif), .ref (mmg), .ref (mtn), .ref (mie), .ref (mme), .int (qz (fi)), .int (qI (ro)), .int (qI (sp)), .int (qI (((k : Nat) : Int))), .int (qz (bl)), .ref (mrd), .ref (mas), .long (hh)]))], [(mrd, aI cy 100 (qu rd ((5 * k) + j) ((c9) - (97))))]].flatten := hD
          refine lv_aload_n hx hb dX8_takesPlace_80 rfl (lv_at hl 1 rfl) ?_
          refine lv_iload hx hb dX8_takesPlace_81 (lv_at hl 0 rfl) ?_
          refine q_bool (b := true) rfl ?_
          refine lv_iload_n hx hb dX8_takesPlace_83 rfl (lv_at hl 4 rfl) ?_
          refine q_backz [0] [1] (br := [[(mrd, aI cy 100 (qu rd ((5 * k) + j) ((c9) - (97))))]]) hP hD hS hA (va_runV (As := [.int (qz (true)), .int (qI (to))]) (rest := []) ⟨hx, hb, hml, hown, hg⟩ (c_X8_goes l D cy mo mz msv mtx mmo mif mmg mtn mie mme mrd mas (th) (sv) (ml) (tu) (fi) (ro) (sp) (k) (bl) (hh) (true) (to) _) (cv_X8_138 hg rfl rfl ⟨by decide, by decide⟩) ⟨q_blind, va_recv hK (fl_blk hP 0 rfl) (ci := 8) (q0 := 0) rfl rfl, q_preM _ hK hN hP hD [0] (by decide) rfl⟩ rfl rfl hl.1 rfl (lv_room (Nat.le_of_ble_eq_true rfl)) dX8_takesPlace_84 ⟨by decide, by decide⟩) rfl rfl (by decide) (fun b_84 u_84 H locs h_84 hP hD hS => ?_)
          have hP : va_P D vwCl [[(mrd, aI cy 100 (qu rd ((5 * k) + j) ((c9) - (97))))], [(mo, .inr (8, [.int (qI (th)), .ref (mz), .int (qI (sv)), .ref (msv), .int (qI (ml)), .ref (mtx), .ref (mmo), .int (qI (tu)), .ref (mif), .ref (mmg), .ref (mtn), .ref (mie), .ref (mme), .int (qz (fi)), .int (qI (ro)), .int (qI (u_84)), .int (qI (((k : Nat) : Int))), .int (qz (bl)), .ref (mrd), .ref (mas), .long (hh)]))]].flatten H := hP
          have hD : va_D A [[(mrd, aI cy 100 (qu rd ((5 * k) + j) ((c9) - (97))))], [(mo, .inr (8, [.int (qI (th)), .ref (mz), .int (qI (sv)), .ref (msv), .int (qI (ml)), .ref (mtx), .ref (mmo), .int (qI (tu)), .ref (mif), .ref (mmg), .ref (mtn), .ref (mie), .ref (mme), .int (qz (fi)), .int (qI (ro)), .int (qI (u_84)), .int (qI (((k : Nat) : Int))), .int (qz (bl)), .ref (mrd), .ref (mas), .long (hh)]))]].flatten := hD
          have hP := fl_sub (bs' := [[(mo, .inr (8, [.int (qI (th)), .ref (mz), .int (qI (sv)), .ref (msv), .int (qI (ml)), .ref (mtx), .ref (mmo), .int (qI (tu)), .ref (mif), .ref (mmg), .ref (mtn), .ref (mie), .ref (mme), .int (qz (fi)), .int (qI (ro)), .int (qI (u_84)), .int (qI (((k : Nat) : Int))), .int (qz (bl)), .ref (mrd), .ref (mas), .long (hh)]))], [(mrd, aI cy 100 (qu rd ((5 * k) + j) ((c9) - (97))))]]) hP [1, 0] rfl
          have hD := fl_subD (bs' := [[(mo, .inr (8, [.int (qI (th)), .ref (mz), .int (qI (sv)), .ref (msv), .int (qI (ml)), .ref (mtx), .ref (mmo), .int (qI (tu)), .ref (mif), .ref (mmg), .ref (mtn), .ref (mie), .ref (mme), .int (qz (fi)), .int (qI (ro)), .int (qI (u_84)), .int (qI (((k : Nat) : Int))), .int (qz (bl)), .ref (mrd), .ref (mas), .long (hh)]))], [(mrd, aI cy 100 (qu rd ((5 * k) + j) ((c9) - (97))))]]) hD [1, 0] (by decide) rfl
          exact hQ _ _ _ _ b_84 (u_84, qu rd ((5 * k) + j) ((c9) - (97))) ⟨by rw [h_84.1]; exact iff_of_true rfl (by omega), fun z => ⟨by rw [h_84.2]; rfl, rfl⟩⟩ hP hD hS dX8_takesPlace_87

set_option maxRecDepth 100000 in
set_option maxHeartbeats 4000000 in
theorem c_X8_takesSign (l : Launch) (D : va_G) (cy : Nat → ClassId) (mo mz msv mtx mmo mif mmg mtn mie mme mrd mas : Nat) (th sv ml tu : Int) (fi : Bool) (ro sp : Int) (k : Nat) (bl : Bool) (hh : Int64) (rd : Nat → Int) (c9 : Int) (hc : 33 ≤ c9 ∧ c9 ≤ 126) (hk : k < 16) (sz : Nat) : qMet l yX8_takesSign (.code yX8_takesSign cX8_takesSign 2 (some .boolean)) 2 [.ref (mo), .int (qI (c9))] D cy [[(mo, .inr (8, [.int (qI (th)), .ref (mz), .int (qI (sv)), .ref (msv), .int (qI (ml)), .ref (mtx), .ref (mmo), .int (qI (tu)), .ref (mif), .ref (mmg), .ref (mtn), .ref (mie), .ref (mme), .int (qz (fi)), .int (qI (ro)), .int (qI (sp)), .int (qI (((k : Nat) : Int))), .int (qz (bl)), .ref (mrd), .ref (mas), .long (hh)]))], [(mrd, aI cy 100 (rd))]] sz (va_Qi (S := Int × (Nat → Int)) (fun r u => ∃ b : Bool, r = qz b ∧ (fun b u => (b = true ↔ 60 ≤ c9 ∧ c9 ≤ 62) ∧ (b = true → u.1 = 4 ∧ u.2 = qu rd (5 * k + 2) (c9 - 60))) b u) (qB D cy [[(mo, .inr (8, [.int (qI (th)), .ref (mz), .int (qI (sv)), .ref (msv), .int (qI (ml)), .ref (mtx), .ref (mmo), .int (qI (tu)), .ref (mif), .ref (mmg), .ref (mtn), .ref (mie), .ref (mme), .int (qz (fi)), .int (qI (ro)), .int (qI (sp)), .int (qI (((k : Nat) : Int))), .int (qz (bl)), .ref (mrd), .ref (mas), .long (hh)]))], [(mrd, aI cy 100 (rd))]] sz (fun u => [[(mo, .inr (8, [.int (qI (th)), .ref (mz), .int (qI (sv)), .ref (msv), .int (qI (ml)), .ref (mtx), .ref (mmo), .int (qI (tu)), .ref (mif), .ref (mmg), .ref (mtn), .ref (mie), .ref (mme), .int (qz (fi)), .int (qI (ro)), .int (qI (u.1)), .int (qI (((k : Nat) : Int))), .int (qz (false)), .ref (mrd), .ref (mas), .long (hh)]))], [(mrd, aI cy 100 (u.2))]])) (va_A [[(mo, .inr (8, [.int (qI (th)), .ref (mz), .int (qI (sv)), .ref (msv), .int (qI (ml)), .ref (mtx), .ref (mmo), .int (qI (tu)), .ref (mif), .ref (mmg), .ref (mtn), .ref (mie), .ref (mme), .int (qz (fi)), .int (qI (ro)), .int (qI (sp)), .int (qI (((k : Nat) : Int))), .int (qz (bl)), .ref (mrd), .ref (mas), .long (hh)]))], [(mrd, aI cy 100 (rd))]].flatten sz)) := by
  refine q_ofMz (S := Int × (Nat → Int)) (b1 := fun u => [[(mo, .inr (8, [.int (qI (th)), .ref (mz), .int (qI (sv)), .ref (msv), .int (qI (ml)), .ref (mtx), .ref (mmo), .int (qI (tu)), .ref (mif), .ref (mmg), .ref (mtn), .ref (mie), .ref (mme), .int (qz (fi)), .int (qI (ro)), .int (qI (u.1)), .int (qI (((k : Nat) : Int))), .int (qz (false)), .ref (mrd), .ref (mas), .long (hh)]))], [(mrd, aI cy 100 (u.2))]]) (post := fun b u => (b = true ↔ 60 ≤ c9 ∧ c9 ≤ 62) ∧ (b = true → u.1 = 4 ∧ u.2 = qu rd (5 * k + 2) (c9 - 60))) (by decide +kernel) (Nat.le_of_ble_eq_true rfl) ?_
  intro p e s m args below meth c Q A hx hb hml hown hg hQ hK hN hD hA H locs ls hP hS hl
  have hown : s.vm.findClass RX8 = some m.cls := hown
  have hl : lv_has ls 2 [(0, .ref (mo)), (1, .int (qI (c9)))] := hl
  refine lv_aload_n hx hb dX8_takesSign_0 rfl (lv_at hl 0 rfl) ?_
  refine gf_X8_38 hx hb hg hown hK (fl_blk hP 0 rfl) 0 rfl rfl dX8_takesSign_1 ?_
  refine q_iconst hx hb dX8_takesSign_4 ?_
  refine lv_aload_n hx hb dX8_takesSign_5 rfl (lv_at hl 0 rfl) ?_
  refine gf_X8_135 hx hb hg hown hK (fl_blk hP 0 rfl) 0 rfl rfl dX8_takesSign_6 ?_
  refine q_imul hx hb dX8_takesSign_9 ?_
  refine q_iconst hx hb dX8_takesSign_10 ?_
  refine q_iadd hx hb dX8_takesSign_11 ?_
  refine lv_iload_n hx hb dX8_takesSign_12 rfl (lv_at hl 1 rfl) ?_
  refine q_bipush hx hb dX8_takesSign_13 (by decide) ?_
  refine q_icmp_ne (tgt := 22) hx hb dX8_takesSign_15 (by decide) (by omega) (fun c_15 => ?_) (fun c_15 => ?_)
  · skip
    refine lv_iload_n hx hb dX8_takesSign_22 rfl (lv_at hl 1 rfl) ?_
    refine q_bipush hx hb dX8_takesSign_23 (by decide) ?_
    refine q_icmp_ne (tgt := 32) hx hb dX8_takesSign_25 (by decide) (by omega) (fun c_25 => ?_) (fun c_25 => ?_)
    · skip
      refine q_iconst hx hb dX8_takesSign_32 ?_
      refine qb_iast (j := ((5 * k) + 2)) hx hb hK hP hD hS 1 0 rfl rfl (by omega) dX8_takesSign_33 (fun H locs hP hD hS => ?_)
      have hP : va_P D vwCl [[(mo, .inr (8, [.int (qI (th)), .ref (mz), .int (qI (sv)), .ref (msv), .int (qI (ml)), .ref (mtx), .ref (mmo), .int (qI (tu)), .ref (mif), .ref (mmg), .ref (mtn), .ref (mie), .ref (mme), .int (qz (fi)), .int (qI (ro)), .int (qI (sp)), .int (qI (((k : Nat) : Int))), .int (qz (bl)), .ref (mrd), .ref (mas), .long (hh)]))], [(mrd, aI cy 100 (qu rd ((5 * k) + 2) (2)))]].flatten H := hP
      have hD : va_D A [[(mo, .inr (8, [.int (qI (th)), .ref (mz), .int (qI (sv)), .ref (msv), .int (qI (ml)), .ref (mtx), .ref (mmo), .int (qI (tu)), .ref (mif), .ref (mmg), .ref (mtn), .ref (mie), .ref (mme), .int (qz (fi)), .int (qI (ro)), .int (qI (sp)), .int (qI (((k : Nat) : Int))), .int (qz (bl)), .ref (mrd), .ref (mas), .long (hh)]))], [(mrd, aI cy 100 (qu rd ((5 * k) + 2) (2)))]].flatten := hD
      refine lv_aload_n hx hb dX8_takesSign_34 rfl (lv_at hl 0 rfl) ?_
      refine q_iconst hx hb dX8_takesSign_35 ?_
      refine q_bool (b := false) rfl ?_
      refine pf_X8_142 hx hb hg hown hK hP hD hS 0 0 rfl rfl (qz_nar _) (qz_fit _) (Nat.le_of_ble_eq_true rfl) dX8_takesSign_36 (fun H locs hP hD hS => ?_)
      have hP : va_P D vwCl [[(mo, .inr (8, [.int (qI (th)), .ref (mz), .int (qI (sv)), .ref (msv), .int (qI (ml)), .ref (mtx), .ref (mmo), .int (qI (tu)), .ref (mif), .ref (mmg), .ref (mtn), .ref (mie), .ref (mme), .int (qz (fi)), .int (qI (ro)), .int (qI (sp)), .int (qI (((k : Nat) : Int))), .int (qz (false)), .ref (mrd), .ref (mas), .long (hh)]))], [(mrd, aI cy 100 (qu rd ((5 * k) + 2) (2)))]].flatten H := hP
      have hD : va_D A [[(mo, .inr (8, [.int (qI (th)), .ref (mz), .int (qI (sv)), .ref (msv), .int (qI (ml)), .ref (mtx), .ref (mmo), .int (qI (tu)), .ref (mif), .ref (mmg), .ref (mtn), .ref (mie), .ref (mme), .int (qz (fi)), .int (qI (ro)), .int (qI (sp)), .int (qI (((k : Nat) : Int))), .int (qz (false)), .ref (mrd), .ref (mas), .long (hh)]))], [(mrd, aI cy 100 (qu rd ((5 * k) + 2) (2)))]].flatten := hD
      refine lv_aload_n hx hb dX8_takesSign_39 rfl (lv_at hl 0 rfl) ?_
      refine lv_iload_n hx hb dX8_takesSign_40 rfl (lv_at hl 1 rfl) ?_
      refine q_bipush hx hb dX8_takesSign_41 (by decide) ?_
      refine q_bipush hx hb dX8_takesSign_43 (by decide) ?_
      refine q_readz (va_runS (As := [.int (qI (c9)), .int (qI (60)), .int (qI (62))]) (rest := [.ref (mo)]) ⟨hx, hb, hml, hown, hg⟩ (c_X8_within l D cy _ _ _ (by omega)) (cs_X8_48 hg rfl rfl ⟨by decide, by decide⟩) ⟨q_blind0, q_preR _ hK hN hP [] rfl⟩ rfl rfl hl.1 rfl (lv_room (Nat.le_of_ble_eq_true rfl)) dX8_takesSign_45 ⟨by decide, by decide⟩) (fun b_45 h_45 => ?_)
      refine q_iconst hx hb dX8_takesSign_48 ?_
      refine q_backz [0] [1] (br := [[(mrd, aI cy 100 (qu rd ((5 * k) + 2) (2)))]]) hP hD hS hA (va_runV (As := [.int (qz (b_45)), .int (qI (4))]) (rest := []) ⟨hx, hb, hml, hown, hg⟩ (c_X8_goes l D cy mo mz msv mtx mmo mif mmg mtn mie mme mrd mas (th) (sv) (ml) (tu) (fi) (ro) (sp) (k) (false) (hh) (b_45) (4) _) (cv_X8_138 hg rfl rfl ⟨by decide, by decide⟩) ⟨q_blind, va_recv hK (fl_blk hP 0 rfl) (ci := 8) (q0 := 0) rfl rfl, q_preM _ hK hN hP hD [0] (by decide) rfl⟩ rfl rfl hl.1 rfl (lv_room (Nat.le_of_ble_eq_true rfl)) dX8_takesSign_49 ⟨by decide, by decide⟩) rfl rfl (by decide) (fun b_49 u_49 H locs h_49 hP hD hS => ?_)
      have hP : va_P D vwCl [[(mrd, aI cy 100 (qu rd ((5 * k) + 2) (2)))], [(mo, .inr (8, [.int (qI (th)), .ref (mz), .int (qI (sv)), .ref (msv), .int (qI (ml)), .ref (mtx), .ref (mmo), .int (qI (tu)), .ref (mif), .ref (mmg), .ref (mtn), .ref (mie), .ref (mme), .int (qz (fi)), .int (qI (ro)), .int (qI (u_49)), .int (qI (((k : Nat) : Int))), .int (qz (false)), .ref (mrd), .ref (mas), .long (hh)]))]].flatten H := hP
      have hD : va_D A [[(mrd, aI cy 100 (qu rd ((5 * k) + 2) (2)))], [(mo, .inr (8, [.int (qI (th)), .ref (mz), .int (qI (sv)), .ref (msv), .int (qI (ml)), .ref (mtx), .ref (mmo), .int (qI (tu)), .ref (mif), .ref (mmg), .ref (mtn), .ref (mie), .ref (mme), .int (qz (fi)), .int (qI (ro)), .int (qI (u_49)), .int (qI (((k : Nat) : Int))), .int (qz (false)), .ref (mrd), .ref (mas), .long (hh)]))]].flatten := hD
      have hP := fl_sub (bs' := [[(mo, .inr (8, [.int (qI (th)), .ref (mz), .int (qI (sv)), .ref (msv), .int (qI (ml)), .ref (mtx), .ref (mmo), .int (qI (tu)), .ref (mif), .ref (mmg), .ref (mtn), .ref (mie), .ref (mme), .int (qz (fi)), .int (qI (ro)), .int (qI (u_49)), .int (qI (((k : Nat) : Int))), .int (qz (false)), .ref (mrd), .ref (mas), .long (hh)]))], [(mrd, aI cy 100 (qu rd ((5 * k) + 2) (2)))]]) hP [1, 0] rfl
      have hD := fl_subD (bs' := [[(mo, .inr (8, [.int (qI (th)), .ref (mz), .int (qI (sv)), .ref (msv), .int (qI (ml)), .ref (mtx), .ref (mmo), .int (qI (tu)), .ref (mif), .ref (mmg), .ref (mtn), .ref (mie), .ref (mme), .int (qz (fi)), .int (qI (ro)), .int (qI (u_49)), .int (qI (((k : Nat) : Int))), .int (qz (false)), .ref (mrd), .ref (mas), .long (hh)]))], [(mrd, aI cy 100 (qu rd ((5 * k) + 2) (2)))]]) hD [1, 0] (by decide) rfl
      refine hQ _ _ _ _ b_49 (u_49, qu rd ((5 * k) + 2) (2)) ⟨by rw [h_49.1]; exact h_45.trans (by omega), fun z => ?_⟩ hP hD hS dX8_takesSign_52
      have z2 := h_45.mp (h_49.1.symm.trans z)
      exact ⟨h_49.2.trans (if_pos (h_49.1.symm.trans z)), congrArg (qu rd (5 * k + 2)) (show (2 : Int) = c9 - 60 by omega)⟩
    · skip
      refine q_iconst hx hb dX8_takesSign_28 ?_
      refine lv_goto (tgt := 33) hx hb dX8_takesSign_29 (by decide) ?_
      refine qb_iast (j := ((5 * k) + 2)) hx hb hK hP hD hS 1 0 rfl rfl (by omega) dX8_takesSign_33 (fun H locs hP hD hS => ?_)
      have hP : va_P D vwCl [[(mo, .inr (8, [.int (qI (th)), .ref (mz), .int (qI (sv)), .ref (msv), .int (qI (ml)), .ref (mtx), .ref (mmo), .int (qI (tu)), .ref (mif), .ref (mmg), .ref (mtn), .ref (mie), .ref (mme), .int (qz (fi)), .int (qI (ro)), .int (qI (sp)), .int (qI (((k : Nat) : Int))), .int (qz (bl)), .ref (mrd), .ref (mas), .long (hh)]))], [(mrd, aI cy 100 (qu rd ((5 * k) + 2) (1)))]].flatten H := hP
      have hD : va_D A [[(mo, .inr (8, [.int (qI (th)), .ref (mz), .int (qI (sv)), .ref (msv), .int (qI (ml)), .ref (mtx), .ref (mmo), .int (qI (tu)), .ref (mif), .ref (mmg), .ref (mtn), .ref (mie), .ref (mme), .int (qz (fi)), .int (qI (ro)), .int (qI (sp)), .int (qI (((k : Nat) : Int))), .int (qz (bl)), .ref (mrd), .ref (mas), .long (hh)]))], [(mrd, aI cy 100 (qu rd ((5 * k) + 2) (1)))]].flatten := hD
      refine lv_aload_n hx hb dX8_takesSign_34 rfl (lv_at hl 0 rfl) ?_
      refine q_iconst hx hb dX8_takesSign_35 ?_
      refine q_bool (b := false) rfl ?_
      refine pf_X8_142 hx hb hg hown hK hP hD hS 0 0 rfl rfl (qz_nar _) (qz_fit _) (Nat.le_of_ble_eq_true rfl) dX8_takesSign_36 (fun H locs hP hD hS => ?_)
      have hP : va_P D vwCl [[(mo, .inr (8, [.int (qI (th)), .ref (mz), .int (qI (sv)), .ref (msv), .int (qI (ml)), .ref (mtx), .ref (mmo), .int (qI (tu)), .ref (mif), .ref (mmg), .ref (mtn), .ref (mie), .ref (mme), .int (qz (fi)), .int (qI (ro)), .int (qI (sp)), .int (qI (((k : Nat) : Int))), .int (qz (false)), .ref (mrd), .ref (mas), .long (hh)]))], [(mrd, aI cy 100 (qu rd ((5 * k) + 2) (1)))]].flatten H := hP
      have hD : va_D A [[(mo, .inr (8, [.int (qI (th)), .ref (mz), .int (qI (sv)), .ref (msv), .int (qI (ml)), .ref (mtx), .ref (mmo), .int (qI (tu)), .ref (mif), .ref (mmg), .ref (mtn), .ref (mie), .ref (mme), .int (qz (fi)), .int (qI (ro)), .int (qI (sp)), .int (qI (((k : Nat) : Int))), .int (qz (false)), .ref (mrd), .ref (mas), .long (hh)]))], [(mrd, aI cy 100 (qu rd ((5 * k) + 2) (1)))]].flatten := hD
      refine lv_aload_n hx hb dX8_takesSign_39 rfl (lv_at hl 0 rfl) ?_
      refine lv_iload_n hx hb dX8_takesSign_40 rfl (lv_at hl 1 rfl) ?_
      refine q_bipush hx hb dX8_takesSign_41 (by decide) ?_
      refine q_bipush hx hb dX8_takesSign_43 (by decide) ?_
      refine q_readz (va_runS (As := [.int (qI (c9)), .int (qI (60)), .int (qI (62))]) (rest := [.ref (mo)]) ⟨hx, hb, hml, hown, hg⟩ (c_X8_within l D cy _ _ _ (by omega)) (cs_X8_48 hg rfl rfl ⟨by decide, by decide⟩) ⟨q_blind0, q_preR _ hK hN hP [] rfl⟩ rfl rfl hl.1 rfl (lv_room (Nat.le_of_ble_eq_true rfl)) dX8_takesSign_45 ⟨by decide, by decide⟩) (fun b_45 h_45 => ?_)
      refine q_iconst hx hb dX8_takesSign_48 ?_
      refine q_backz [0] [1] (br := [[(mrd, aI cy 100 (qu rd ((5 * k) + 2) (1)))]]) hP hD hS hA (va_runV (As := [.int (qz (b_45)), .int (qI (4))]) (rest := []) ⟨hx, hb, hml, hown, hg⟩ (c_X8_goes l D cy mo mz msv mtx mmo mif mmg mtn mie mme mrd mas (th) (sv) (ml) (tu) (fi) (ro) (sp) (k) (false) (hh) (b_45) (4) _) (cv_X8_138 hg rfl rfl ⟨by decide, by decide⟩) ⟨q_blind, va_recv hK (fl_blk hP 0 rfl) (ci := 8) (q0 := 0) rfl rfl, q_preM _ hK hN hP hD [0] (by decide) rfl⟩ rfl rfl hl.1 rfl (lv_room (Nat.le_of_ble_eq_true rfl)) dX8_takesSign_49 ⟨by decide, by decide⟩) rfl rfl (by decide) (fun b_49 u_49 H locs h_49 hP hD hS => ?_)
      have hP : va_P D vwCl [[(mrd, aI cy 100 (qu rd ((5 * k) + 2) (1)))], [(mo, .inr (8, [.int (qI (th)), .ref (mz), .int (qI (sv)), .ref (msv), .int (qI (ml)), .ref (mtx), .ref (mmo), .int (qI (tu)), .ref (mif), .ref (mmg), .ref (mtn), .ref (mie), .ref (mme), .int (qz (fi)), .int (qI (ro)), .int (qI (u_49)), .int (qI (((k : Nat) : Int))), .int (qz (false)), .ref (mrd), .ref (mas), .long (hh)]))]].flatten H := hP
      have hD : va_D A [[(mrd, aI cy 100 (qu rd ((5 * k) + 2) (1)))], [(mo, .inr (8, [.int (qI (th)), .ref (mz), .int (qI (sv)), .ref (msv), .int (qI (ml)), .ref (mtx), .ref (mmo), .int (qI (tu)), .ref (mif), .ref (mmg), .ref (mtn), .ref (mie), .ref (mme), .int (qz (fi)), .int (qI (ro)), .int (qI (u_49)), .int (qI (((k : Nat) : Int))), .int (qz (false)), .ref (mrd), .ref (mas), .long (hh)]))]].flatten := hD
      have hP := fl_sub (bs' := [[(mo, .inr (8, [.int (qI (th)), .ref (mz), .int (qI (sv)), .ref (msv), .int (qI (ml)), .ref (mtx), .ref (mmo), .int (qI (tu)), .ref (mif), .ref (mmg), .ref (mtn), .ref (mie), .ref (mme), .int (qz (fi)), .int (qI (ro)), .int (qI (u_49)), .int (qI (((k : Nat) : Int))), .int (qz (false)), .ref (mrd), .ref (mas), .long (hh)]))], [(mrd, aI cy 100 (qu rd ((5 * k) + 2) (1)))]]) hP [1, 0] rfl
      have hD := fl_subD (bs' := [[(mo, .inr (8, [.int (qI (th)), .ref (mz), .int (qI (sv)), .ref (msv), .int (qI (ml)), .ref (mtx), .ref (mmo), .int (qI (tu)), .ref (mif), .ref (mmg), .ref (mtn), .ref (mie), .ref (mme), .int (qz (fi)), .int (qI (ro)), .int (qI (u_49)), .int (qI (((k : Nat) : Int))), .int (qz (false)), .ref (mrd), .ref (mas), .long (hh)]))], [(mrd, aI cy 100 (qu rd ((5 * k) + 2) (1)))]]) hD [1, 0] (by decide) rfl
      refine hQ _ _ _ _ b_49 (u_49, qu rd ((5 * k) + 2) (1)) ⟨by rw [h_49.1]; exact h_45.trans (by omega), fun z => ?_⟩ hP hD hS dX8_takesSign_52
      have z2 := h_45.mp (h_49.1.symm.trans z)
      exact ⟨h_49.2.trans (if_pos (h_49.1.symm.trans z)), congrArg (qu rd (5 * k + 2)) (show (1 : Int) = c9 - 60 by omega)⟩
  · skip
    refine q_iconst hx hb dX8_takesSign_18 ?_
    refine lv_goto (tgt := 33) hx hb dX8_takesSign_19 (by decide) ?_
    refine qb_iast (j := ((5 * k) + 2)) hx hb hK hP hD hS 1 0 rfl rfl (by omega) dX8_takesSign_33 (fun H locs hP hD hS => ?_)
    have hP : va_P D vwCl [[(mo, .inr (8, [.int (qI (th)), .ref (mz), .int (qI (sv)), .ref (msv), .int (qI (ml)), .ref (mtx), .ref (mmo), .int (qI (tu)), .ref (mif), .ref (mmg), .ref (mtn), .ref (mie), .ref (mme), .int (qz (fi)), .int (qI (ro)), .int (qI (sp)), .int (qI (((k : Nat) : Int))), .int (qz (bl)), .ref (mrd), .ref (mas), .long (hh)]))], [(mrd, aI cy 100 (qu rd ((5 * k) + 2) (0)))]].flatten H := hP
    have hD : va_D A [[(mo, .inr (8, [.int (qI (th)), .ref (mz), .int (qI (sv)), .ref (msv), .int (qI (ml)), .ref (mtx), .ref (mmo), .int (qI (tu)), .ref (mif), .ref (mmg), .ref (mtn), .ref (mie), .ref (mme), .int (qz (fi)), .int (qI (ro)), .int (qI (sp)), .int (qI (((k : Nat) : Int))), .int (qz (bl)), .ref (mrd), .ref (mas), .long (hh)]))], [(mrd, aI cy 100 (qu rd ((5 * k) + 2) (0)))]].flatten := hD
    refine lv_aload_n hx hb dX8_takesSign_34 rfl (lv_at hl 0 rfl) ?_
    refine q_iconst hx hb dX8_takesSign_35 ?_
    refine q_bool (b := false) rfl ?_
    refine pf_X8_142 hx hb hg hown hK hP hD hS 0 0 rfl rfl (qz_nar _) (qz_fit _) (Nat.le_of_ble_eq_true rfl) dX8_takesSign_36 (fun H locs hP hD hS => ?_)
    have hP : va_P D vwCl [[(mo, .inr (8, [.int (qI (th)), .ref (mz), .int (qI (sv)), .ref (msv), .int (qI (ml)), .ref (mtx), .ref (mmo), .int (qI (tu)), .ref (mif), .ref (mmg), .ref (mtn), .ref (mie), .ref (mme), .int (qz (fi)), .int (qI (ro)), .int (qI (sp)), .int (qI (((k : Nat) : Int))), .int (qz (false)), .ref (mrd), .ref (mas), .long (hh)]))], [(mrd, aI cy 100 (qu rd ((5 * k) + 2) (0)))]].flatten H := hP
    have hD : va_D A [[(mo, .inr (8, [.int (qI (th)), .ref (mz), .int (qI (sv)), .ref (msv), .int (qI (ml)), .ref (mtx), .ref (mmo), .int (qI (tu)), .ref (mif), .ref (mmg), .ref (mtn), .ref (mie), .ref (mme), .int (qz (fi)), .int (qI (ro)), .int (qI (sp)), .int (qI (((k : Nat) : Int))), .int (qz (false)), .ref (mrd), .ref (mas), .long (hh)]))], [(mrd, aI cy 100 (qu rd ((5 * k) + 2) (0)))]].flatten := hD
    refine lv_aload_n hx hb dX8_takesSign_39 rfl (lv_at hl 0 rfl) ?_
    refine lv_iload_n hx hb dX8_takesSign_40 rfl (lv_at hl 1 rfl) ?_
    refine q_bipush hx hb dX8_takesSign_41 (by decide) ?_
    refine q_bipush hx hb dX8_takesSign_43 (by decide) ?_
    refine q_readz (va_runS (As := [.int (qI (c9)), .int (qI (60)), .int (qI (62))]) (rest := [.ref (mo)]) ⟨hx, hb, hml, hown, hg⟩ (c_X8_within l D cy _ _ _ (by omega)) (cs_X8_48 hg rfl rfl ⟨by decide, by decide⟩) ⟨q_blind0, q_preR _ hK hN hP [] rfl⟩ rfl rfl hl.1 rfl (lv_room (Nat.le_of_ble_eq_true rfl)) dX8_takesSign_45 ⟨by decide, by decide⟩) (fun b_45 h_45 => ?_)
    refine q_iconst hx hb dX8_takesSign_48 ?_
    refine q_backz [0] [1] (br := [[(mrd, aI cy 100 (qu rd ((5 * k) + 2) (0)))]]) hP hD hS hA (va_runV (As := [.int (qz (b_45)), .int (qI (4))]) (rest := []) ⟨hx, hb, hml, hown, hg⟩ (c_X8_goes l D cy mo mz msv mtx mmo mif mmg mtn mie mme mrd mas (th) (sv) (ml) (tu) (fi) (ro) (sp) (k) (false) (hh) (b_45) (4) _) (cv_X8_138 hg rfl rfl ⟨by decide, by decide⟩) ⟨q_blind, va_recv hK (fl_blk hP 0 rfl) (ci := 8) (q0 := 0) rfl rfl, q_preM _ hK hN hP hD [0] (by decide) rfl⟩ rfl rfl hl.1 rfl (lv_room (Nat.le_of_ble_eq_true rfl)) dX8_takesSign_49 ⟨by decide, by decide⟩) rfl rfl (by decide) (fun b_49 u_49 H locs h_49 hP hD hS => ?_)
    have hP : va_P D vwCl [[(mrd, aI cy 100 (qu rd ((5 * k) + 2) (0)))], [(mo, .inr (8, [.int (qI (th)), .ref (mz), .int (qI (sv)), .ref (msv), .int (qI (ml)), .ref (mtx), .ref (mmo), .int (qI (tu)), .ref (mif), .ref (mmg), .ref (mtn), .ref (mie), .ref (mme), .int (qz (fi)), .int (qI (ro)), .int (qI (u_49)), .int (qI (((k : Nat) : Int))), .int (qz (false)), .ref (mrd), .ref (mas), .long (hh)]))]].flatten H := hP
    have hD : va_D A [[(mrd, aI cy 100 (qu rd ((5 * k) + 2) (0)))], [(mo, .inr (8, [.int (qI (th)), .ref (mz), .int (qI (sv)), .ref (msv), .int (qI (ml)), .ref (mtx), .ref (mmo), .int (qI (tu)), .ref (mif), .ref (mmg), .ref (mtn), .ref (mie), .ref (mme), .int (qz (fi)), .int (qI (ro)), .int (qI (u_49)), .int (qI (((k : Nat) : Int))), .int (qz (false)), .ref (mrd), .ref (mas), .long (hh)]))]].flatten := hD
    have hP := fl_sub (bs' := [[(mo, .inr (8, [.int (qI (th)), .ref (mz), .int (qI (sv)), .ref (msv), .int (qI (ml)), .ref (mtx), .ref (mmo), .int (qI (tu)), .ref (mif), .ref (mmg), .ref (mtn), .ref (mie), .ref (mme), .int (qz (fi)), .int (qI (ro)), .int (qI (u_49)), .int (qI (((k : Nat) : Int))), .int (qz (false)), .ref (mrd), .ref (mas), .long (hh)]))], [(mrd, aI cy 100 (qu rd ((5 * k) + 2) (0)))]]) hP [1, 0] rfl
    have hD := fl_subD (bs' := [[(mo, .inr (8, [.int (qI (th)), .ref (mz), .int (qI (sv)), .ref (msv), .int (qI (ml)), .ref (mtx), .ref (mmo), .int (qI (tu)), .ref (mif), .ref (mmg), .ref (mtn), .ref (mie), .ref (mme), .int (qz (fi)), .int (qI (ro)), .int (qI (u_49)), .int (qI (((k : Nat) : Int))), .int (qz (false)), .ref (mrd), .ref (mas), .long (hh)]))], [(mrd, aI cy 100 (qu rd ((5 * k) + 2) (0)))]]) hD [1, 0] (by decide) rfl
    refine hQ _ _ _ _ b_49 (u_49, qu rd ((5 * k) + 2) (0)) ⟨by rw [h_49.1]; exact h_45.trans (by omega), fun z => ?_⟩ hP hD hS dX8_takesSign_52
    have z2 := h_45.mp (h_49.1.symm.trans z)
    exact ⟨h_49.2.trans (if_pos (h_49.1.symm.trans z)), congrArg (qu rd (5 * k + 2)) (show (0 : Int) = c9 - 60 by omega)⟩

set_option maxRecDepth 100000 in
set_option maxHeartbeats 4000000 in
theorem c_X8_beginsNumber (l : Launch) (D : va_G) (cy : Nat → ClassId) (mo mz msv mtx mmo mif mmg mtn mie mme mrd mas : Nat) (th sv ml tu : Int) (fi : Bool) (ro sp : Int) (k : Nat) (bl : Bool) (hh : Int64) (rd : Nat → Int) (c9 : Int) (hc : 33 ≤ c9 ∧ c9 ≤ 126) (hk : k < 16) (hs : sp = 4 ∨ sp = 5) (sz : Nat) : qMet l yX8_beginsNumber (.code yX8_beginsNumber cX8_beginsNumber 2 (some .boolean)) 2 [.ref (mo), .int (qI (c9))] D cy [[(mo, .inr (8, [.int (qI (th)), .ref (mz), .int (qI (sv)), .ref (msv), .int (qI (ml)), .ref (mtx), .ref (mmo), .int (qI (tu)), .ref (mif), .ref (mmg), .ref (mtn), .ref (mie), .ref (mme), .int (qz (fi)), .int (qI (ro)), .int (qI (sp)), .int (qI (((k : Nat) : Int))), .int (qz (bl)), .ref (mrd), .ref (mas), .long (hh)]))], [(mrd, aI cy 100 (rd))]] sz (va_Qi (S := Int × Bool × (Nat → Int)) (fun r u => ∃ b : Bool, r = qz b ∧ (fun b u => (b = true ↔ (sp = 4 ∧ c9 = 45) ∨ (sp = 4 ∧ 48 ≤ c9 ∧ c9 ≤ 57) ∨ (sp = 5 ∧ 49 ≤ c9 ∧ c9 ≤ 57)) ∧ (b = true → (c9 = 45 ∧ u.1 = 5 ∧ u.2.1 = true ∧ u.2.2 = rd) ∨ (c9 ≠ 45 ∧ u.1 = 6 ∧ u.2.1 = bl ∧ u.2.2 = qu rd (5 * k + 3) (c9 - 48)))) b u) (qB D cy [[(mo, .inr (8, [.int (qI (th)), .ref (mz), .int (qI (sv)), .ref (msv), .int (qI (ml)), .ref (mtx), .ref (mmo), .int (qI (tu)), .ref (mif), .ref (mmg), .ref (mtn), .ref (mie), .ref (mme), .int (qz (fi)), .int (qI (ro)), .int (qI (sp)), .int (qI (((k : Nat) : Int))), .int (qz (bl)), .ref (mrd), .ref (mas), .long (hh)]))], [(mrd, aI cy 100 (rd))]] sz (fun u => [[(mo, .inr (8, [.int (qI (th)), .ref (mz), .int (qI (sv)), .ref (msv), .int (qI (ml)), .ref (mtx), .ref (mmo), .int (qI (tu)), .ref (mif), .ref (mmg), .ref (mtn), .ref (mie), .ref (mme), .int (qz (fi)), .int (qI (ro)), .int (qI (u.1)), .int (qI (((k : Nat) : Int))), .int (qz (u.2.1)), .ref (mrd), .ref (mas), .long (hh)]))], [(mrd, aI cy 100 (u.2.2))]])) (va_A [[(mo, .inr (8, [.int (qI (th)), .ref (mz), .int (qI (sv)), .ref (msv), .int (qI (ml)), .ref (mtx), .ref (mmo), .int (qI (tu)), .ref (mif), .ref (mmg), .ref (mtn), .ref (mie), .ref (mme), .int (qz (fi)), .int (qI (ro)), .int (qI (sp)), .int (qI (((k : Nat) : Int))), .int (qz (bl)), .ref (mrd), .ref (mas), .long (hh)]))], [(mrd, aI cy 100 (rd))]].flatten sz)) := by
  refine q_ofMz (S := Int × Bool × (Nat → Int)) (b1 := fun u => [[(mo, .inr (8, [.int (qI (th)), .ref (mz), .int (qI (sv)), .ref (msv), .int (qI (ml)), .ref (mtx), .ref (mmo), .int (qI (tu)), .ref (mif), .ref (mmg), .ref (mtn), .ref (mie), .ref (mme), .int (qz (fi)), .int (qI (ro)), .int (qI (u.1)), .int (qI (((k : Nat) : Int))), .int (qz (u.2.1)), .ref (mrd), .ref (mas), .long (hh)]))], [(mrd, aI cy 100 (u.2.2))]]) (post := fun b u => (b = true ↔ (sp = 4 ∧ c9 = 45) ∨ (sp = 4 ∧ 48 ≤ c9 ∧ c9 ≤ 57) ∨ (sp = 5 ∧ 49 ≤ c9 ∧ c9 ≤ 57)) ∧ (b = true → (c9 = 45 ∧ u.1 = 5 ∧ u.2.1 = true ∧ u.2.2 = rd) ∨ (c9 ≠ 45 ∧ u.1 = 6 ∧ u.2.1 = bl ∧ u.2.2 = qu rd (5 * k + 3) (c9 - 48)))) (by decide +kernel) (Nat.le_of_ble_eq_true rfl) ?_
  intro p e s m args below meth c Q A hx hb hml hown hg hQ hK hN hD hA H locs ls hP hS hl
  have hown : s.vm.findClass RX8 = some m.cls := hown
  have hl : lv_has ls 2 [(0, .ref (mo)), (1, .int (qI (c9)))] := hl
  refine lv_aload_n hx hb dX8_beginsNumber_0 rfl (lv_at hl 0 rfl) ?_
  refine gf_X8_132 hx hb hg hown hK (fl_blk hP 0 rfl) 0 rfl rfl dX8_beginsNumber_1 ?_
  refine q_iconst hx hb dX8_beginsNumber_4 ?_
  refine q_icmp_ne (tgt := 26) hx hb dX8_beginsNumber_5 (by decide) (by omega) (fun c_5 => ?_) (fun c_5 => ?_)
  · skip
    refine lv_aload_n hx hb dX8_beginsNumber_26 rfl (lv_at hl 0 rfl) ?_
    refine gf_X8_38 hx hb hg hown hK (fl_blk hP 0 rfl) 0 rfl rfl dX8_beginsNumber_27 ?_
    refine q_iconst hx hb dX8_beginsNumber_30 ?_
    refine lv_aload_n hx hb dX8_beginsNumber_31 rfl (lv_at hl 0 rfl) ?_
    refine gf_X8_135 hx hb hg hown hK (fl_blk hP 0 rfl) 0 rfl rfl dX8_beginsNumber_32 ?_
    refine q_imul hx hb dX8_beginsNumber_35 ?_
    refine q_iconst hx hb dX8_beginsNumber_36 ?_
    refine q_iadd hx hb dX8_beginsNumber_37 ?_
    refine lv_iload_n hx hb dX8_beginsNumber_38 rfl (lv_at hl 1 rfl) ?_
    refine q_bipush hx hb dX8_beginsNumber_39 (by decide) ?_
    refine q_isub hx hb dX8_beginsNumber_41 ?_
    refine qb_iast (j := ((5 * k) + 3)) hx hb hK hP hD hS 1 0 rfl rfl (by omega) dX8_beginsNumber_42 (fun H locs hP hD hS => ?_)
    have hP : va_P D vwCl [[(mo, .inr (8, [.int (qI (th)), .ref (mz), .int (qI (sv)), .ref (msv), .int (qI (ml)), .ref (mtx), .ref (mmo), .int (qI (tu)), .ref (mif), .ref (mmg), .ref (mtn), .ref (mie), .ref (mme), .int (qz (fi)), .int (qI (ro)), .int (qI (sp)), .int (qI (((k : Nat) : Int))), .int (qz (bl)), .ref (mrd), .ref (mas), .long (hh)]))], [(mrd, aI cy 100 (qu rd ((5 * k) + 3) ((c9) - (48))))]].flatten H := hP
    have hD : va_D A [[(mo, .inr (8, [.int (qI (th)), .ref (mz), .int (qI (sv)), .ref (msv), .int (qI (ml)), .ref (mtx), .ref (mmo), .int (qI (tu)), .ref (mif), .ref (mmg), .ref (mtn), .ref (mie), .ref (mme), .int (qz (fi)), .int (qI (ro)), .int (qI (sp)), .int (qI (((k : Nat) : Int))), .int (qz (bl)), .ref (mrd), .ref (mas), .long (hh)]))], [(mrd, aI cy 100 (qu rd ((5 * k) + 3) ((c9) - (48))))]].flatten := hD
    refine lv_aload_n hx hb dX8_beginsNumber_43 rfl (lv_at hl 0 rfl) ?_
    refine lv_iload_n hx hb dX8_beginsNumber_44 rfl (lv_at hl 1 rfl) ?_
    refine lv_aload_n hx hb dX8_beginsNumber_45 rfl (lv_at hl 0 rfl) ?_
    refine gf_X8_132 hx hb hg hown hK (fl_blk hP 0 rfl) 0 rfl rfl dX8_beginsNumber_46 ?_
    refine q_iconst hx hb dX8_beginsNumber_49 ?_
    refine q_icmp_ne (tgt := 58) hx hb dX8_beginsNumber_50 (by decide) (by omega) (fun c_50 => ?_) (fun c_50 => ?_)
    · skip
      refine q_bipush hx hb dX8_beginsNumber_58 (by decide) ?_
      refine q_bipush hx hb dX8_beginsNumber_60 (by decide) ?_
      refine q_readz (va_runS (As := [.int (qI (c9)), .int (qI (49)), .int (qI (57))]) (rest := [.ref (mo)]) ⟨hx, hb, hml, hown, hg⟩ (c_X8_within l D cy _ _ _ (by omega)) (cs_X8_48 hg rfl rfl ⟨by decide, by decide⟩) ⟨q_blind0, q_preR _ hK hN hP [] rfl⟩ rfl rfl hl.1 rfl (lv_room (Nat.le_of_ble_eq_true rfl)) dX8_beginsNumber_62 ⟨by decide, by decide⟩) (fun b_62 h_62 => ?_)
      refine q_bipush hx hb dX8_beginsNumber_65 (by decide) ?_
      refine q_backz [0] [1] (br := [[(mrd, aI cy 100 (qu rd ((5 * k) + 3) ((c9) - (48))))]]) hP hD hS hA (va_runV (As := [.int (qz (b_62)), .int (qI (6))]) (rest := []) ⟨hx, hb, hml, hown, hg⟩ (c_X8_goes l D cy mo mz msv mtx mmo mif mmg mtn mie mme mrd mas (th) (sv) (ml) (tu) (fi) (ro) (sp) (k) (bl) (hh) (b_62) (6) _) (cv_X8_138 hg rfl rfl ⟨by decide, by decide⟩) ⟨q_blind, va_recv hK (fl_blk hP 0 rfl) (ci := 8) (q0 := 0) rfl rfl, q_preM _ hK hN hP hD [0] (by decide) rfl⟩ rfl rfl hl.1 rfl (lv_room (Nat.le_of_ble_eq_true rfl)) dX8_beginsNumber_67 ⟨by decide, by decide⟩) rfl rfl (by decide) (fun b_67 u_67 H locs h_67 hP hD hS => ?_)
      have hP : va_P D vwCl [[(mrd, aI cy 100 (qu rd ((5 * k) + 3) ((c9) - (48))))], [(mo, .inr (8, [.int (qI (th)), .ref (mz), .int (qI (sv)), .ref (msv), .int (qI (ml)), .ref (mtx), .ref (mmo), .int (qI (tu)), .ref (mif), .ref (mmg), .ref (mtn), .ref (mie), .ref (mme), .int (qz (fi)), .int (qI (ro)), .int (qI (u_67)), .int (qI (((k : Nat) : Int))), .int (qz (bl)), .ref (mrd), .ref (mas), .long (hh)]))]].flatten H := hP
      have hD : va_D A [[(mrd, aI cy 100 (qu rd ((5 * k) + 3) ((c9) - (48))))], [(mo, .inr (8, [.int (qI (th)), .ref (mz), .int (qI (sv)), .ref (msv), .int (qI (ml)), .ref (mtx), .ref (mmo), .int (qI (tu)), .ref (mif), .ref (mmg), .ref (mtn), .ref (mie), .ref (mme), .int (qz (fi)), .int (qI (ro)), .int (qI (u_67)), .int (qI (((k : Nat) : Int))), .int (qz (bl)), .ref (mrd), .ref (mas), .long (hh)]))]].flatten := hD
      have hP := fl_sub (bs' := [[(mo, .inr (8, [.int (qI (th)), .ref (mz), .int (qI (sv)), .ref (msv), .int (qI (ml)), .ref (mtx), .ref (mmo), .int (qI (tu)), .ref (mif), .ref (mmg), .ref (mtn), .ref (mie), .ref (mme), .int (qz (fi)), .int (qI (ro)), .int (qI (u_67)), .int (qI (((k : Nat) : Int))), .int (qz (bl)), .ref (mrd), .ref (mas), .long (hh)]))], [(mrd, aI cy 100 (qu rd ((5 * k) + 3) ((c9) - (48))))]]) hP [1, 0] rfl
      have hD := fl_subD (bs' := [[(mo, .inr (8, [.int (qI (th)), .ref (mz), .int (qI (sv)), .ref (msv), .int (qI (ml)), .ref (mtx), .ref (mmo), .int (qI (tu)), .ref (mif), .ref (mmg), .ref (mtn), .ref (mie), .ref (mme), .int (qz (fi)), .int (qI (ro)), .int (qI (u_67)), .int (qI (((k : Nat) : Int))), .int (qz (bl)), .ref (mrd), .ref (mas), .long (hh)]))], [(mrd, aI cy 100 (qu rd ((5 * k) + 3) ((c9) - (48))))]]) hD [1, 0] (by decide) rfl
      exact hQ _ _ _ _ b_67 (u_67, bl, qu rd ((5 * k) + 3) ((c9) - (48))) ⟨by rw [h_67.1]; exact h_62.trans (by omega), fun z => Or.inr ⟨by have z2 := h_62.mp (h_67.1.symm.trans z); omega, h_67.2.trans (if_pos (h_67.1.symm.trans z)), rfl, rfl⟩⟩ hP hD hS dX8_beginsNumber_70
    · skip
      refine q_bipush hx hb dX8_beginsNumber_53 (by decide) ?_
      refine lv_goto (tgt := 60) hx hb dX8_beginsNumber_55 (by decide) ?_
      refine q_bipush hx hb dX8_beginsNumber_60 (by decide) ?_
      refine q_readz (va_runS (As := [.int (qI (c9)), .int (qI (48)), .int (qI (57))]) (rest := [.ref (mo)]) ⟨hx, hb, hml, hown, hg⟩ (c_X8_within l D cy _ _ _ (by omega)) (cs_X8_48 hg rfl rfl ⟨by decide, by decide⟩) ⟨q_blind0, q_preR _ hK hN hP [] rfl⟩ rfl rfl hl.1 rfl (lv_room (Nat.le_of_ble_eq_true rfl)) dX8_beginsNumber_62 ⟨by decide, by decide⟩) (fun b_62 h_62 => ?_)
      refine q_bipush hx hb dX8_beginsNumber_65 (by decide) ?_
      refine q_backz [0] [1] (br := [[(mrd, aI cy 100 (qu rd ((5 * k) + 3) ((c9) - (48))))]]) hP hD hS hA (va_runV (As := [.int (qz (b_62)), .int (qI (6))]) (rest := []) ⟨hx, hb, hml, hown, hg⟩ (c_X8_goes l D cy mo mz msv mtx mmo mif mmg mtn mie mme mrd mas (th) (sv) (ml) (tu) (fi) (ro) (sp) (k) (bl) (hh) (b_62) (6) _) (cv_X8_138 hg rfl rfl ⟨by decide, by decide⟩) ⟨q_blind, va_recv hK (fl_blk hP 0 rfl) (ci := 8) (q0 := 0) rfl rfl, q_preM _ hK hN hP hD [0] (by decide) rfl⟩ rfl rfl hl.1 rfl (lv_room (Nat.le_of_ble_eq_true rfl)) dX8_beginsNumber_67 ⟨by decide, by decide⟩) rfl rfl (by decide) (fun b_67 u_67 H locs h_67 hP hD hS => ?_)
      have hP : va_P D vwCl [[(mrd, aI cy 100 (qu rd ((5 * k) + 3) ((c9) - (48))))], [(mo, .inr (8, [.int (qI (th)), .ref (mz), .int (qI (sv)), .ref (msv), .int (qI (ml)), .ref (mtx), .ref (mmo), .int (qI (tu)), .ref (mif), .ref (mmg), .ref (mtn), .ref (mie), .ref (mme), .int (qz (fi)), .int (qI (ro)), .int (qI (u_67)), .int (qI (((k : Nat) : Int))), .int (qz (bl)), .ref (mrd), .ref (mas), .long (hh)]))]].flatten H := hP
      have hD : va_D A [[(mrd, aI cy 100 (qu rd ((5 * k) + 3) ((c9) - (48))))], [(mo, .inr (8, [.int (qI (th)), .ref (mz), .int (qI (sv)), .ref (msv), .int (qI (ml)), .ref (mtx), .ref (mmo), .int (qI (tu)), .ref (mif), .ref (mmg), .ref (mtn), .ref (mie), .ref (mme), .int (qz (fi)), .int (qI (ro)), .int (qI (u_67)), .int (qI (((k : Nat) : Int))), .int (qz (bl)), .ref (mrd), .ref (mas), .long (hh)]))]].flatten := hD
      have hP := fl_sub (bs' := [[(mo, .inr (8, [.int (qI (th)), .ref (mz), .int (qI (sv)), .ref (msv), .int (qI (ml)), .ref (mtx), .ref (mmo), .int (qI (tu)), .ref (mif), .ref (mmg), .ref (mtn), .ref (mie), .ref (mme), .int (qz (fi)), .int (qI (ro)), .int (qI (u_67)), .int (qI (((k : Nat) : Int))), .int (qz (bl)), .ref (mrd), .ref (mas), .long (hh)]))], [(mrd, aI cy 100 (qu rd ((5 * k) + 3) ((c9) - (48))))]]) hP [1, 0] rfl
      have hD := fl_subD (bs' := [[(mo, .inr (8, [.int (qI (th)), .ref (mz), .int (qI (sv)), .ref (msv), .int (qI (ml)), .ref (mtx), .ref (mmo), .int (qI (tu)), .ref (mif), .ref (mmg), .ref (mtn), .ref (mie), .ref (mme), .int (qz (fi)), .int (qI (ro)), .int (qI (u_67)), .int (qI (((k : Nat) : Int))), .int (qz (bl)), .ref (mrd), .ref (mas), .long (hh)]))], [(mrd, aI cy 100 (qu rd ((5 * k) + 3) ((c9) - (48))))]]) hD [1, 0] (by decide) rfl
      exact hQ _ _ _ _ b_67 (u_67, bl, qu rd ((5 * k) + 3) ((c9) - (48))) ⟨by rw [h_67.1]; exact h_62.trans (by omega), fun z => Or.inr ⟨by have z2 := h_62.mp (h_67.1.symm.trans z); omega, h_67.2.trans (if_pos (h_67.1.symm.trans z)), rfl, rfl⟩⟩ hP hD hS dX8_beginsNumber_70
  · skip
    refine lv_iload_n hx hb dX8_beginsNumber_8 rfl (lv_at hl 1 rfl) ?_
    refine q_bipush hx hb dX8_beginsNumber_9 (by decide) ?_
    refine q_icmp_ne (tgt := 26) hx hb dX8_beginsNumber_11 (by decide) (by omega) (fun c_11 => ?_) (fun c_11 => ?_)
    · skip
      refine lv_aload_n hx hb dX8_beginsNumber_26 rfl (lv_at hl 0 rfl) ?_
      refine gf_X8_38 hx hb hg hown hK (fl_blk hP 0 rfl) 0 rfl rfl dX8_beginsNumber_27 ?_
      refine q_iconst hx hb dX8_beginsNumber_30 ?_
      refine lv_aload_n hx hb dX8_beginsNumber_31 rfl (lv_at hl 0 rfl) ?_
      refine gf_X8_135 hx hb hg hown hK (fl_blk hP 0 rfl) 0 rfl rfl dX8_beginsNumber_32 ?_
      refine q_imul hx hb dX8_beginsNumber_35 ?_
      refine q_iconst hx hb dX8_beginsNumber_36 ?_
      refine q_iadd hx hb dX8_beginsNumber_37 ?_
      refine lv_iload_n hx hb dX8_beginsNumber_38 rfl (lv_at hl 1 rfl) ?_
      refine q_bipush hx hb dX8_beginsNumber_39 (by decide) ?_
      refine q_isub hx hb dX8_beginsNumber_41 ?_
      refine qb_iast (j := ((5 * k) + 3)) hx hb hK hP hD hS 1 0 rfl rfl (by omega) dX8_beginsNumber_42 (fun H locs hP hD hS => ?_)
      have hP : va_P D vwCl [[(mo, .inr (8, [.int (qI (th)), .ref (mz), .int (qI (sv)), .ref (msv), .int (qI (ml)), .ref (mtx), .ref (mmo), .int (qI (tu)), .ref (mif), .ref (mmg), .ref (mtn), .ref (mie), .ref (mme), .int (qz (fi)), .int (qI (ro)), .int (qI (sp)), .int (qI (((k : Nat) : Int))), .int (qz (bl)), .ref (mrd), .ref (mas), .long (hh)]))], [(mrd, aI cy 100 (qu rd ((5 * k) + 3) ((c9) - (48))))]].flatten H := hP
      have hD : va_D A [[(mo, .inr (8, [.int (qI (th)), .ref (mz), .int (qI (sv)), .ref (msv), .int (qI (ml)), .ref (mtx), .ref (mmo), .int (qI (tu)), .ref (mif), .ref (mmg), .ref (mtn), .ref (mie), .ref (mme), .int (qz (fi)), .int (qI (ro)), .int (qI (sp)), .int (qI (((k : Nat) : Int))), .int (qz (bl)), .ref (mrd), .ref (mas), .long (hh)]))], [(mrd, aI cy 100 (qu rd ((5 * k) + 3) ((c9) - (48))))]].flatten := hD
      refine lv_aload_n hx hb dX8_beginsNumber_43 rfl (lv_at hl 0 rfl) ?_
      refine lv_iload_n hx hb dX8_beginsNumber_44 rfl (lv_at hl 1 rfl) ?_
      refine lv_aload_n hx hb dX8_beginsNumber_45 rfl (lv_at hl 0 rfl) ?_
      refine gf_X8_132 hx hb hg hown hK (fl_blk hP 0 rfl) 0 rfl rfl dX8_beginsNumber_46 ?_
      refine q_iconst hx hb dX8_beginsNumber_49 ?_
      refine q_icmp_ne (tgt := 58) hx hb dX8_beginsNumber_50 (by decide) (by omega) (fun c_50 => ?_) (fun c_50 => ?_)
      · skip
        refine q_bipush hx hb dX8_beginsNumber_58 (by decide) ?_
        refine q_bipush hx hb dX8_beginsNumber_60 (by decide) ?_
        refine q_readz (va_runS (As := [.int (qI (c9)), .int (qI (49)), .int (qI (57))]) (rest := [.ref (mo)]) ⟨hx, hb, hml, hown, hg⟩ (c_X8_within l D cy _ _ _ (by omega)) (cs_X8_48 hg rfl rfl ⟨by decide, by decide⟩) ⟨q_blind0, q_preR _ hK hN hP [] rfl⟩ rfl rfl hl.1 rfl (lv_room (Nat.le_of_ble_eq_true rfl)) dX8_beginsNumber_62 ⟨by decide, by decide⟩) (fun b_62 h_62 => ?_)
        refine q_bipush hx hb dX8_beginsNumber_65 (by decide) ?_
        refine q_backz [0] [1] (br := [[(mrd, aI cy 100 (qu rd ((5 * k) + 3) ((c9) - (48))))]]) hP hD hS hA (va_runV (As := [.int (qz (b_62)), .int (qI (6))]) (rest := []) ⟨hx, hb, hml, hown, hg⟩ (c_X8_goes l D cy mo mz msv mtx mmo mif mmg mtn mie mme mrd mas (th) (sv) (ml) (tu) (fi) (ro) (sp) (k) (bl) (hh) (b_62) (6) _) (cv_X8_138 hg rfl rfl ⟨by decide, by decide⟩) ⟨q_blind, va_recv hK (fl_blk hP 0 rfl) (ci := 8) (q0 := 0) rfl rfl, q_preM _ hK hN hP hD [0] (by decide) rfl⟩ rfl rfl hl.1 rfl (lv_room (Nat.le_of_ble_eq_true rfl)) dX8_beginsNumber_67 ⟨by decide, by decide⟩) rfl rfl (by decide) (fun b_67 u_67 H locs h_67 hP hD hS => ?_)
        have hP : va_P D vwCl [[(mrd, aI cy 100 (qu rd ((5 * k) + 3) ((c9) - (48))))], [(mo, .inr (8, [.int (qI (th)), .ref (mz), .int (qI (sv)), .ref (msv), .int (qI (ml)), .ref (mtx), .ref (mmo), .int (qI (tu)), .ref (mif), .ref (mmg), .ref (mtn), .ref (mie), .ref (mme), .int (qz (fi)), .int (qI (ro)), .int (qI (u_67)), .int (qI (((k : Nat) : Int))), .int (qz (bl)), .ref (mrd), .ref (mas), .long (hh)]))]].flatten H := hP
        have hD : va_D A [[(mrd, aI cy 100 (qu rd ((5 * k) + 3) ((c9) - (48))))], [(mo, .inr (8, [.int (qI (th)), .ref (mz), .int (qI (sv)), .ref (msv), .int (qI (ml)), .ref (mtx), .ref (mmo), .int (qI (tu)), .ref (mif), .ref (mmg), .ref (mtn), .ref (mie), .ref (mme), .int (qz (fi)), .int (qI (ro)), .int (qI (u_67)), .int (qI (((k : Nat) : Int))), .int (qz (bl)), .ref (mrd), .ref (mas), .long (hh)]))]].flatten := hD
        have hP := fl_sub (bs' := [[(mo, .inr (8, [.int (qI (th)), .ref (mz), .int (qI (sv)), .ref (msv), .int (qI (ml)), .ref (mtx), .ref (mmo), .int (qI (tu)), .ref (mif), .ref (mmg), .ref (mtn), .ref (mie), .ref (mme), .int (qz (fi)), .int (qI (ro)), .int (qI (u_67)), .int (qI (((k : Nat) : Int))), .int (qz (bl)), .ref (mrd), .ref (mas), .long (hh)]))], [(mrd, aI cy 100 (qu rd ((5 * k) + 3) ((c9) - (48))))]]) hP [1, 0] rfl
        have hD := fl_subD (bs' := [[(mo, .inr (8, [.int (qI (th)), .ref (mz), .int (qI (sv)), .ref (msv), .int (qI (ml)), .ref (mtx), .ref (mmo), .int (qI (tu)), .ref (mif), .ref (mmg), .ref (mtn), .ref (mie), .ref (mme), .int (qz (fi)), .int (qI (ro)), .int (qI (u_67)), .int (qI (((k : Nat) : Int))), .int (qz (bl)), .ref (mrd), .ref (mas), .long (hh)]))], [(mrd, aI cy 100 (qu rd ((5 * k) + 3) ((c9) - (48))))]]) hD [1, 0] (by decide) rfl
        exact hQ _ _ _ _ b_67 (u_67, bl, qu rd ((5 * k) + 3) ((c9) - (48))) ⟨by rw [h_67.1]; exact h_62.trans (by omega), fun z => Or.inr ⟨by have z2 := h_62.mp (h_67.1.symm.trans z); omega, h_67.2.trans (if_pos (h_67.1.symm.trans z)), rfl, rfl⟩⟩ hP hD hS dX8_beginsNumber_70
      · skip
        refine q_bipush hx hb dX8_beginsNumber_53 (by decide) ?_
        refine lv_goto (tgt := 60) hx hb dX8_beginsNumber_55 (by decide) ?_
        refine q_bipush hx hb dX8_beginsNumber_60 (by decide) ?_
        refine q_readz (va_runS (As := [.int (qI (c9)), .int (qI (48)), .int (qI (57))]) (rest := [.ref (mo)]) ⟨hx, hb, hml, hown, hg⟩ (c_X8_within l D cy _ _ _ (by omega)) (cs_X8_48 hg rfl rfl ⟨by decide, by decide⟩) ⟨q_blind0, q_preR _ hK hN hP [] rfl⟩ rfl rfl hl.1 rfl (lv_room (Nat.le_of_ble_eq_true rfl)) dX8_beginsNumber_62 ⟨by decide, by decide⟩) (fun b_62 h_62 => ?_)
        refine q_bipush hx hb dX8_beginsNumber_65 (by decide) ?_
        refine q_backz [0] [1] (br := [[(mrd, aI cy 100 (qu rd ((5 * k) + 3) ((c9) - (48))))]]) hP hD hS hA (va_runV (As := [.int (qz (b_62)), .int (qI (6))]) (rest := []) ⟨hx, hb, hml, hown, hg⟩ (c_X8_goes l D cy mo mz msv mtx mmo mif mmg mtn mie mme mrd mas (th) (sv) (ml) (tu) (fi) (ro) (sp) (k) (bl) (hh) (b_62) (6) _) (cv_X8_138 hg rfl rfl ⟨by decide, by decide⟩) ⟨q_blind, va_recv hK (fl_blk hP 0 rfl) (ci := 8) (q0 := 0) rfl rfl, q_preM _ hK hN hP hD [0] (by decide) rfl⟩ rfl rfl hl.1 rfl (lv_room (Nat.le_of_ble_eq_true rfl)) dX8_beginsNumber_67 ⟨by decide, by decide⟩) rfl rfl (by decide) (fun b_67 u_67 H locs h_67 hP hD hS => ?_)
        have hP : va_P D vwCl [[(mrd, aI cy 100 (qu rd ((5 * k) + 3) ((c9) - (48))))], [(mo, .inr (8, [.int (qI (th)), .ref (mz), .int (qI (sv)), .ref (msv), .int (qI (ml)), .ref (mtx), .ref (mmo), .int (qI (tu)), .ref (mif), .ref (mmg), .ref (mtn), .ref (mie), .ref (mme), .int (qz (fi)), .int (qI (ro)), .int (qI (u_67)), .int (qI (((k : Nat) : Int))), .int (qz (bl)), .ref (mrd), .ref (mas), .long (hh)]))]].flatten H := hP
        have hD : va_D A [[(mrd, aI cy 100 (qu rd ((5 * k) + 3) ((c9) - (48))))], [(mo, .inr (8, [.int (qI (th)), .ref (mz), .int (qI (sv)), .ref (msv), .int (qI (ml)), .ref (mtx), .ref (mmo), .int (qI (tu)), .ref (mif), .ref (mmg), .ref (mtn), .ref (mie), .ref (mme), .int (qz (fi)), .int (qI (ro)), .int (qI (u_67)), .int (qI (((k : Nat) : Int))), .int (qz (bl)), .ref (mrd), .ref (mas), .long (hh)]))]].flatten := hD
        have hP := fl_sub (bs' := [[(mo, .inr (8, [.int (qI (th)), .ref (mz), .int (qI (sv)), .ref (msv), .int (qI (ml)), .ref (mtx), .ref (mmo), .int (qI (tu)), .ref (mif), .ref (mmg), .ref (mtn), .ref (mie), .ref (mme), .int (qz (fi)), .int (qI (ro)), .int (qI (u_67)), .int (qI (((k : Nat) : Int))), .int (qz (bl)), .ref (mrd), .ref (mas), .long (hh)]))], [(mrd, aI cy 100 (qu rd ((5 * k) + 3) ((c9) - (48))))]]) hP [1, 0] rfl
        have hD := fl_subD (bs' := [[(mo, .inr (8, [.int (qI (th)), .ref (mz), .int (qI (sv)), .ref (msv), .int (qI (ml)), .ref (mtx), .ref (mmo), .int (qI (tu)), .ref (mif), .ref (mmg), .ref (mtn), .ref (mie), .ref (mme), .int (qz (fi)), .int (qI (ro)), .int (qI (u_67)), .int (qI (((k : Nat) : Int))), .int (qz (bl)), .ref (mrd), .ref (mas), .long (hh)]))], [(mrd, aI cy 100 (qu rd ((5 * k) + 3) ((c9) - (48))))]]) hD [1, 0] (by decide) rfl
        exact hQ _ _ _ _ b_67 (u_67, bl, qu rd ((5 * k) + 3) ((c9) - (48))) ⟨by rw [h_67.1]; exact h_62.trans (by omega), fun z => Or.inr ⟨by have z2 := h_62.mp (h_67.1.symm.trans z); omega, h_67.2.trans (if_pos (h_67.1.symm.trans z)), rfl, rfl⟩⟩ hP hD hS dX8_beginsNumber_70
    · skip
      refine lv_aload_n hx hb dX8_beginsNumber_14 rfl (lv_at hl 0 rfl) ?_
      refine q_iconst hx hb dX8_beginsNumber_15 ?_
      refine q_bool (b := true) rfl ?_
      refine pf_X8_142 hx hb hg hown hK hP hD hS 0 0 rfl rfl (qz_nar _) (qz_fit _) (Nat.le_of_ble_eq_true rfl) dX8_beginsNumber_16 (fun H locs hP hD hS => ?_)
      have hP : va_P D vwCl [[(mo, .inr (8, [.int (qI (th)), .ref (mz), .int (qI (sv)), .ref (msv), .int (qI (ml)), .ref (mtx), .ref (mmo), .int (qI (tu)), .ref (mif), .ref (mmg), .ref (mtn), .ref (mie), .ref (mme), .int (qz (fi)), .int (qI (ro)), .int (qI (sp)), .int (qI (((k : Nat) : Int))), .int (qz (true)), .ref (mrd), .ref (mas), .long (hh)]))], [(mrd, aI cy 100 (rd))]].flatten H := hP
      have hD : va_D A [[(mo, .inr (8, [.int (qI (th)), .ref (mz), .int (qI (sv)), .ref (msv), .int (qI (ml)), .ref (mtx), .ref (mmo), .int (qI (tu)), .ref (mif), .ref (mmg), .ref (mtn), .ref (mie), .ref (mme), .int (qz (fi)), .int (qI (ro)), .int (qI (sp)), .int (qI (((k : Nat) : Int))), .int (qz (true)), .ref (mrd), .ref (mas), .long (hh)]))], [(mrd, aI cy 100 (rd))]].flatten := hD
      refine lv_aload_n hx hb dX8_beginsNumber_19 rfl (lv_at hl 0 rfl) ?_
      refine q_iconst hx hb dX8_beginsNumber_20 ?_
      refine q_bool (b := true) rfl ?_
      refine q_iconst hx hb dX8_beginsNumber_21 ?_
      refine q_backz [0] [1] (br := [[(mrd, aI cy 100 (rd))]]) hP hD hS hA (va_runV (As := [.int (qz (true)), .int (qI (5))]) (rest := []) ⟨hx, hb, hml, hown, hg⟩ (c_X8_goes l D cy mo mz msv mtx mmo mif mmg mtn mie mme mrd mas (th) (sv) (ml) (tu) (fi) (ro) (sp) (k) (true) (hh) (true) (5) _) (cv_X8_138 hg rfl rfl ⟨by decide, by decide⟩) ⟨q_blind, va_recv hK (fl_blk hP 0 rfl) (ci := 8) (q0 := 0) rfl rfl, q_preM _ hK hN hP hD [0] (by decide) rfl⟩ rfl rfl hl.1 rfl (lv_room (Nat.le_of_ble_eq_true rfl)) dX8_beginsNumber_22 ⟨by decide, by decide⟩) rfl rfl (by decide) (fun b_22 u_22 H locs h_22 hP hD hS => ?_)
      have hP : va_P D vwCl [[(mrd, aI cy 100 (rd))], [(mo, .inr (8, [.int (qI (th)), .ref (mz), .int (qI (sv)), .ref (msv), .int (qI (ml)), .ref (mtx), .ref (mmo), .int (qI (tu)), .ref (mif), .ref (mmg), .ref (mtn), .ref (mie), .ref (mme), .int (qz (fi)), .int (qI (ro)), .int (qI (u_22)), .int (qI (((k : Nat) : Int))), .int (qz (true)), .ref (mrd), .ref (mas), .long (hh)]))]].flatten H := hP
      have hD : va_D A [[(mrd, aI cy 100 (rd))], [(mo, .inr (8, [.int (qI (th)), .ref (mz), .int (qI (sv)), .ref (msv), .int (qI (ml)), .ref (mtx), .ref (mmo), .int (qI (tu)), .ref (mif), .ref (mmg), .ref (mtn), .ref (mie), .ref (mme), .int (qz (fi)), .int (qI (ro)), .int (qI (u_22)), .int (qI (((k : Nat) : Int))), .int (qz (true)), .ref (mrd), .ref (mas), .long (hh)]))]].flatten := hD
      have hP := fl_sub (bs' := [[(mo, .inr (8, [.int (qI (th)), .ref (mz), .int (qI (sv)), .ref (msv), .int (qI (ml)), .ref (mtx), .ref (mmo), .int (qI (tu)), .ref (mif), .ref (mmg), .ref (mtn), .ref (mie), .ref (mme), .int (qz (fi)), .int (qI (ro)), .int (qI (u_22)), .int (qI (((k : Nat) : Int))), .int (qz (true)), .ref (mrd), .ref (mas), .long (hh)]))], [(mrd, aI cy 100 (rd))]]) hP [1, 0] rfl
      have hD := fl_subD (bs' := [[(mo, .inr (8, [.int (qI (th)), .ref (mz), .int (qI (sv)), .ref (msv), .int (qI (ml)), .ref (mtx), .ref (mmo), .int (qI (tu)), .ref (mif), .ref (mmg), .ref (mtn), .ref (mie), .ref (mme), .int (qz (fi)), .int (qI (ro)), .int (qI (u_22)), .int (qI (((k : Nat) : Int))), .int (qz (true)), .ref (mrd), .ref (mas), .long (hh)]))], [(mrd, aI cy 100 (rd))]]) hD [1, 0] (by decide) rfl
      exact hQ _ _ _ _ b_22 (u_22, true, rd) ⟨by rw [h_22.1]; exact iff_of_true rfl (by omega), fun _ => Or.inl ⟨by omega, by rw [h_22.2]; rfl, rfl, rfl⟩⟩ hP hD hS dX8_beginsNumber_25

set_option maxRecDepth 100000 in
set_option maxHeartbeats 4000000 in
theorem c_X8_endItem (l : Launch) (D : va_G) (cy : Nat → ClassId) (mo mz msv mtx mmo mif mmg mtn mie mme mrd mas : Nat) (th sv ml tu : Int) (fi : Bool) (ro sp : Int) (k : Nat) (bl : Bool) (hh : Int64) (rd : Nat → Int) (hk : k < 16) (sz : Nat) : qMet l yX8_endItem (.code yX8_endItem cX8_endItem 2 none) 1 [.ref (mo)] D cy [[(mo, .inr (8, [.int (qI (th)), .ref (mz), .int (qI (sv)), .ref (msv), .int (qI (ml)), .ref (mtx), .ref (mmo), .int (qI (tu)), .ref (mif), .ref (mmg), .ref (mtn), .ref (mie), .ref (mme), .int (qz (fi)), .int (qI (ro)), .int (qI (sp)), .int (qI (((k : Nat) : Int))), .int (qz (bl)), .ref (mrd), .ref (mas), .long (hh)]))], [(mrd, aI cy 100 (rd))]] sz (va_Qv (S := Nat → Int) (fun u => u = qu rd (5 * k + 3) (if bl = true then -(rd (5 * k + 3)) else rd (5 * k + 3))) (qB D cy [[(mo, .inr (8, [.int (qI (th)), .ref (mz), .int (qI (sv)), .ref (msv), .int (qI (ml)), .ref (mtx), .ref (mmo), .int (qI (tu)), .ref (mif), .ref (mmg), .ref (mtn), .ref (mie), .ref (mme), .int (qz (fi)), .int (qI (ro)), .int (qI (sp)), .int (qI (((k : Nat) : Int))), .int (qz (bl)), .ref (mrd), .ref (mas), .long (hh)]))], [(mrd, aI cy 100 (rd))]] sz (fun u => [[(mo, .inr (8, [.int (qI (th)), .ref (mz), .int (qI (sv)), .ref (msv), .int (qI (ml)), .ref (mtx), .ref (mmo), .int (qI (tu)), .ref (mif), .ref (mmg), .ref (mtn), .ref (mie), .ref (mme), .int (qz (fi)), .int (qI (ro)), .int (qI (0)), .int (qI (((k + 1 : Nat) : Int))), .int (qz (bl)), .ref (mrd), .ref (mas), .long (hh)]))], [(mrd, aI cy 100 (u))]])) (va_A [[(mo, .inr (8, [.int (qI (th)), .ref (mz), .int (qI (sv)), .ref (msv), .int (qI (ml)), .ref (mtx), .ref (mmo), .int (qI (tu)), .ref (mif), .ref (mmg), .ref (mtn), .ref (mie), .ref (mme), .int (qz (fi)), .int (qI (ro)), .int (qI (sp)), .int (qI (((k : Nat) : Int))), .int (qz (bl)), .ref (mrd), .ref (mas), .long (hh)]))], [(mrd, aI cy 100 (rd))]].flatten sz)) := by
  refine q_ofMv (S := Nat → Int) (b1 := fun u => [[(mo, .inr (8, [.int (qI (th)), .ref (mz), .int (qI (sv)), .ref (msv), .int (qI (ml)), .ref (mtx), .ref (mmo), .int (qI (tu)), .ref (mif), .ref (mmg), .ref (mtn), .ref (mie), .ref (mme), .int (qz (fi)), .int (qI (ro)), .int (qI (0)), .int (qI (((k + 1 : Nat) : Int))), .int (qz (bl)), .ref (mrd), .ref (mas), .long (hh)]))], [(mrd, aI cy 100 (u))]]) (post := fun u => u = qu rd (5 * k + 3) (if bl = true then -(rd (5 * k + 3)) else rd (5 * k + 3))) (by decide +kernel) (Nat.le_of_ble_eq_true rfl) ?_
  intro p e s m args below meth c Q A hx hb hml hown hg hQ hK hN hD hA H locs ls hP hS hl
  have hown : s.vm.findClass RX8 = some m.cls := hown
  have hl : lv_has ls 2 [(0, .ref (mo))] := hl
  refine q_iconst hx hb dX8_endItem_0 ?_
  refine lv_aload_n hx hb dX8_endItem_1 rfl (lv_at hl 0 rfl) ?_
  refine gf_X8_135 hx hb hg hown hK (fl_blk hP 0 rfl) 0 rfl rfl dX8_endItem_2 ?_
  refine q_imul hx hb dX8_endItem_5 ?_
  refine q_iconst hx hb dX8_endItem_6 ?_
  refine q_iadd hx hb dX8_endItem_7 ?_
  refine lv_istore_n (lv' := [(1, .int (qI (((5) * (((k : Nat) : Int))) + (3)))), (0, .ref (mo))]) hx hb dX8_endItem_8 rfl hl (by decide) rfl (fun ls hl => ?_)
  refine lv_aload_n hx hb dX8_endItem_9 rfl (lv_at hl 1 rfl) ?_
  refine gf_X8_38 hx hb hg hown hK (fl_blk hP 0 rfl) 0 rfl rfl dX8_endItem_10 ?_
  refine lv_iload_n hx hb dX8_endItem_13 rfl (lv_at hl 0 rfl) ?_
  refine lv_aload_n hx hb dX8_endItem_14 rfl (lv_at hl 1 rfl) ?_
  refine gf_X8_142 hx hb hg hown hK (fl_blk hP 0 rfl) 0 rfl rfl dX8_endItem_15 ?_
  refine q_ifz_eq (tgt := 31) hx hb dX8_endItem_18 (by decide) (fun c_18 => ?_) (fun c_18 => ?_)
  · skip
    refine lv_aload_n hx hb dX8_endItem_31 rfl (lv_at hl 1 rfl) ?_
    refine gf_X8_38 hx hb hg hown hK (fl_blk hP 0 rfl) 0 rfl rfl dX8_endItem_32 ?_
    refine lv_iload_n hx hb dX8_endItem_35 rfl (lv_at hl 0 rfl) ?_
    refine q_iald (j := ((5 * k) + 3)) hx hb hK (fl_blk hP 1 rfl) 0 rfl (by omega) dX8_endItem_36 ?_
    refine qb_iast (j := ((5 * k) + 3)) hx hb hK hP hD hS 1 0 rfl rfl (by omega) dX8_endItem_37 (fun H locs hP hD hS => ?_)
    have hP : va_P D vwCl [[(mo, .inr (8, [.int (qI (th)), .ref (mz), .int (qI (sv)), .ref (msv), .int (qI (ml)), .ref (mtx), .ref (mmo), .int (qI (tu)), .ref (mif), .ref (mmg), .ref (mtn), .ref (mie), .ref (mme), .int (qz (fi)), .int (qI (ro)), .int (qI (sp)), .int (qI (((k : Nat) : Int))), .int (qz (bl)), .ref (mrd), .ref (mas), .long (hh)]))], [(mrd, aI cy 100 (qu rd ((5 * k) + 3) (rd ((5 * k) + 3))))]].flatten H := hP
    have hD : va_D A [[(mo, .inr (8, [.int (qI (th)), .ref (mz), .int (qI (sv)), .ref (msv), .int (qI (ml)), .ref (mtx), .ref (mmo), .int (qI (tu)), .ref (mif), .ref (mmg), .ref (mtn), .ref (mie), .ref (mme), .int (qz (fi)), .int (qI (ro)), .int (qI (sp)), .int (qI (((k : Nat) : Int))), .int (qz (bl)), .ref (mrd), .ref (mas), .long (hh)]))], [(mrd, aI cy 100 (qu rd ((5 * k) + 3) (rd ((5 * k) + 3))))]].flatten := hD
    refine lv_aload_n hx hb dX8_endItem_38 rfl (lv_at hl 1 rfl) ?_
    refine lv_dup hx hb dX8_endItem_39 rfl ?_
    refine gf_X8_135 hx hb hg hown hK (fl_blk hP 0 rfl) 0 rfl rfl dX8_endItem_40 ?_
    refine q_iconst hx hb dX8_endItem_43 ?_
    refine q_iadd hx hb dX8_endItem_44 ?_
    refine q_topZ (y := ((k + 1 : Nat) : Int)) (by omega) ?_
    refine pf_X8_135 hx hb hg hown hK hP hD hS 0 0 rfl rfl rfl rfl (Nat.le_of_ble_eq_true rfl) dX8_endItem_45 (fun H locs hP hD hS => ?_)
    have hP : va_P D vwCl [[(mo, .inr (8, [.int (qI (th)), .ref (mz), .int (qI (sv)), .ref (msv), .int (qI (ml)), .ref (mtx), .ref (mmo), .int (qI (tu)), .ref (mif), .ref (mmg), .ref (mtn), .ref (mie), .ref (mme), .int (qz (fi)), .int (qI (ro)), .int (qI (sp)), .int (qI (((k + 1 : Nat) : Int))), .int (qz (bl)), .ref (mrd), .ref (mas), .long (hh)]))], [(mrd, aI cy 100 (qu rd ((5 * k) + 3) (rd ((5 * k) + 3))))]].flatten H := hP
    have hD : va_D A [[(mo, .inr (8, [.int (qI (th)), .ref (mz), .int (qI (sv)), .ref (msv), .int (qI (ml)), .ref (mtx), .ref (mmo), .int (qI (tu)), .ref (mif), .ref (mmg), .ref (mtn), .ref (mie), .ref (mme), .int (qz (fi)), .int (qI (ro)), .int (qI (sp)), .int (qI (((k + 1 : Nat) : Int))), .int (qz (bl)), .ref (mrd), .ref (mas), .long (hh)]))], [(mrd, aI cy 100 (qu rd ((5 * k) + 3) (rd ((5 * k) + 3))))]].flatten := hD
    refine lv_aload_n hx hb dX8_endItem_48 rfl (lv_at hl 1 rfl) ?_
    refine q_iconst hx hb dX8_endItem_49 ?_
    refine pf_X8_132 hx hb hg hown hK hP hD hS 0 0 rfl rfl rfl rfl (Nat.le_of_ble_eq_true rfl) dX8_endItem_50 (fun H locs hP hD hS => ?_)
    have hP : va_P D vwCl [[(mo, .inr (8, [.int (qI (th)), .ref (mz), .int (qI (sv)), .ref (msv), .int (qI (ml)), .ref (mtx), .ref (mmo), .int (qI (tu)), .ref (mif), .ref (mmg), .ref (mtn), .ref (mie), .ref (mme), .int (qz (fi)), .int (qI (ro)), .int (qI (0)), .int (qI (((k + 1 : Nat) : Int))), .int (qz (bl)), .ref (mrd), .ref (mas), .long (hh)]))], [(mrd, aI cy 100 (qu rd ((5 * k) + 3) (rd ((5 * k) + 3))))]].flatten H := hP
    have hD : va_D A [[(mo, .inr (8, [.int (qI (th)), .ref (mz), .int (qI (sv)), .ref (msv), .int (qI (ml)), .ref (mtx), .ref (mmo), .int (qI (tu)), .ref (mif), .ref (mmg), .ref (mtn), .ref (mie), .ref (mme), .int (qz (fi)), .int (qI (ro)), .int (qI (0)), .int (qI (((k + 1 : Nat) : Int))), .int (qz (bl)), .ref (mrd), .ref (mas), .long (hh)]))], [(mrd, aI cy 100 (qu rd ((5 * k) + 3) (rd ((5 * k) + 3))))]].flatten := hD
    exact hQ _ _ _ _ _ (congrArg (qu rd (5 * k + 3)) (if_neg (by rw [c_18]; decide)).symm) hP hD hS dX8_endItem_53
  · skip
    refine lv_aload_n hx hb dX8_endItem_21 rfl (lv_at hl 1 rfl) ?_
    refine gf_X8_38 hx hb hg hown hK (fl_blk hP 0 rfl) 0 rfl rfl dX8_endItem_22 ?_
    refine lv_iload_n hx hb dX8_endItem_25 rfl (lv_at hl 0 rfl) ?_
    refine q_iald (j := ((5 * k) + 3)) hx hb hK (fl_blk hP 1 rfl) 0 rfl (by omega) dX8_endItem_26 ?_
    refine q_ineg hx hb dX8_endItem_27 ?_
    refine lv_goto (tgt := 37) hx hb dX8_endItem_28 (by decide) ?_
    refine qb_iast (j := ((5 * k) + 3)) hx hb hK hP hD hS 1 0 rfl rfl (by omega) dX8_endItem_37 (fun H locs hP hD hS => ?_)
    have hP : va_P D vwCl [[(mo, .inr (8, [.int (qI (th)), .ref (mz), .int (qI (sv)), .ref (msv), .int (qI (ml)), .ref (mtx), .ref (mmo), .int (qI (tu)), .ref (mif), .ref (mmg), .ref (mtn), .ref (mie), .ref (mme), .int (qz (fi)), .int (qI (ro)), .int (qI (sp)), .int (qI (((k : Nat) : Int))), .int (qz (bl)), .ref (mrd), .ref (mas), .long (hh)]))], [(mrd, aI cy 100 (qu rd ((5 * k) + 3) (-(rd ((5 * k) + 3)))))]].flatten H := hP
    have hD : va_D A [[(mo, .inr (8, [.int (qI (th)), .ref (mz), .int (qI (sv)), .ref (msv), .int (qI (ml)), .ref (mtx), .ref (mmo), .int (qI (tu)), .ref (mif), .ref (mmg), .ref (mtn), .ref (mie), .ref (mme), .int (qz (fi)), .int (qI (ro)), .int (qI (sp)), .int (qI (((k : Nat) : Int))), .int (qz (bl)), .ref (mrd), .ref (mas), .long (hh)]))], [(mrd, aI cy 100 (qu rd ((5 * k) + 3) (-(rd ((5 * k) + 3)))))]].flatten := hD
    refine lv_aload_n hx hb dX8_endItem_38 rfl (lv_at hl 1 rfl) ?_
    refine lv_dup hx hb dX8_endItem_39 rfl ?_
    refine gf_X8_135 hx hb hg hown hK (fl_blk hP 0 rfl) 0 rfl rfl dX8_endItem_40 ?_
    refine q_iconst hx hb dX8_endItem_43 ?_
    refine q_iadd hx hb dX8_endItem_44 ?_
    refine q_topZ (y := ((k + 1 : Nat) : Int)) (by omega) ?_
    refine pf_X8_135 hx hb hg hown hK hP hD hS 0 0 rfl rfl rfl rfl (Nat.le_of_ble_eq_true rfl) dX8_endItem_45 (fun H locs hP hD hS => ?_)
    have hP : va_P D vwCl [[(mo, .inr (8, [.int (qI (th)), .ref (mz), .int (qI (sv)), .ref (msv), .int (qI (ml)), .ref (mtx), .ref (mmo), .int (qI (tu)), .ref (mif), .ref (mmg), .ref (mtn), .ref (mie), .ref (mme), .int (qz (fi)), .int (qI (ro)), .int (qI (sp)), .int (qI (((k + 1 : Nat) : Int))), .int (qz (bl)), .ref (mrd), .ref (mas), .long (hh)]))], [(mrd, aI cy 100 (qu rd ((5 * k) + 3) (-(rd ((5 * k) + 3)))))]].flatten H := hP
    have hD : va_D A [[(mo, .inr (8, [.int (qI (th)), .ref (mz), .int (qI (sv)), .ref (msv), .int (qI (ml)), .ref (mtx), .ref (mmo), .int (qI (tu)), .ref (mif), .ref (mmg), .ref (mtn), .ref (mie), .ref (mme), .int (qz (fi)), .int (qI (ro)), .int (qI (sp)), .int (qI (((k + 1 : Nat) : Int))), .int (qz (bl)), .ref (mrd), .ref (mas), .long (hh)]))], [(mrd, aI cy 100 (qu rd ((5 * k) + 3) (-(rd ((5 * k) + 3)))))]].flatten := hD
    refine lv_aload_n hx hb dX8_endItem_48 rfl (lv_at hl 1 rfl) ?_
    refine q_iconst hx hb dX8_endItem_49 ?_
    refine pf_X8_132 hx hb hg hown hK hP hD hS 0 0 rfl rfl rfl rfl (Nat.le_of_ble_eq_true rfl) dX8_endItem_50 (fun H locs hP hD hS => ?_)
    have hP : va_P D vwCl [[(mo, .inr (8, [.int (qI (th)), .ref (mz), .int (qI (sv)), .ref (msv), .int (qI (ml)), .ref (mtx), .ref (mmo), .int (qI (tu)), .ref (mif), .ref (mmg), .ref (mtn), .ref (mie), .ref (mme), .int (qz (fi)), .int (qI (ro)), .int (qI (0)), .int (qI (((k + 1 : Nat) : Int))), .int (qz (bl)), .ref (mrd), .ref (mas), .long (hh)]))], [(mrd, aI cy 100 (qu rd ((5 * k) + 3) (-(rd ((5 * k) + 3)))))]].flatten H := hP
    have hD : va_D A [[(mo, .inr (8, [.int (qI (th)), .ref (mz), .int (qI (sv)), .ref (msv), .int (qI (ml)), .ref (mtx), .ref (mmo), .int (qI (tu)), .ref (mif), .ref (mmg), .ref (mtn), .ref (mie), .ref (mme), .int (qz (fi)), .int (qI (ro)), .int (qI (0)), .int (qI (((k + 1 : Nat) : Int))), .int (qz (bl)), .ref (mrd), .ref (mas), .long (hh)]))], [(mrd, aI cy 100 (qu rd ((5 * k) + 3) (-(rd ((5 * k) + 3)))))]].flatten := hD
    exact hQ _ _ _ _ _ (congrArg (qu rd (5 * k + 3)) (if_pos (by rw [c_18])).symm) hP hD hS dX8_endItem_53

set_option maxRecDepth 100000 in
set_option maxHeartbeats 4000000 in
theorem c_X8_takesEnd (l : Launch) (D : va_G) (cy : Nat → ClassId) (mo mz msv mtx mmo mif mmg mtn mie mme mrd mas : Nat) (th sv ml tu : Int) (fi : Bool) (ro sp : Int) (k : Nat) (bl : Bool) (hh : Int64) (rd : Nat → Int) (c9 : Int) (hc : 33 ≤ c9 ∧ c9 ≤ 126) (hk : k < 16) (sz : Nat) : qMet l yX8_takesEnd (.code yX8_takesEnd cX8_takesEnd 2 (some .boolean)) 2 [.ref (mo), .int (qI (c9))] D cy [[(mo, .inr (8, [.int (qI (th)), .ref (mz), .int (qI (sv)), .ref (msv), .int (qI (ml)), .ref (mtx), .ref (mmo), .int (qI (tu)), .ref (mif), .ref (mmg), .ref (mtn), .ref (mie), .ref (mme), .int (qz (fi)), .int (qI (ro)), .int (qI (sp)), .int (qI (((k : Nat) : Int))), .int (qz (bl)), .ref (mrd), .ref (mas), .long (hh)]))], [(mrd, aI cy 100 (rd))]] sz (va_Qi (S := Int × Nat × (Nat → Int)) (fun r u => ∃ b : Bool, r = qz b ∧ (fun b u => (b = true ↔ c9 = 59) ∧ (b = true → u.1 = 0 ∧ u.2.1 = k + 1 ∧ u.2.2 = qu rd (5 * k + 3) (if bl = true then -(rd (5 * k + 3)) else rd (5 * k + 3)))) b u) (qB D cy [[(mo, .inr (8, [.int (qI (th)), .ref (mz), .int (qI (sv)), .ref (msv), .int (qI (ml)), .ref (mtx), .ref (mmo), .int (qI (tu)), .ref (mif), .ref (mmg), .ref (mtn), .ref (mie), .ref (mme), .int (qz (fi)), .int (qI (ro)), .int (qI (sp)), .int (qI (((k : Nat) : Int))), .int (qz (bl)), .ref (mrd), .ref (mas), .long (hh)]))], [(mrd, aI cy 100 (rd))]] sz (fun u => [[(mo, .inr (8, [.int (qI (th)), .ref (mz), .int (qI (sv)), .ref (msv), .int (qI (ml)), .ref (mtx), .ref (mmo), .int (qI (tu)), .ref (mif), .ref (mmg), .ref (mtn), .ref (mie), .ref (mme), .int (qz (fi)), .int (qI (ro)), .int (qI (u.1)), .int (qI (((u.2.1 : Nat) : Int))), .int (qz (bl)), .ref (mrd), .ref (mas), .long (hh)]))], [(mrd, aI cy 100 (u.2.2))]])) (va_A [[(mo, .inr (8, [.int (qI (th)), .ref (mz), .int (qI (sv)), .ref (msv), .int (qI (ml)), .ref (mtx), .ref (mmo), .int (qI (tu)), .ref (mif), .ref (mmg), .ref (mtn), .ref (mie), .ref (mme), .int (qz (fi)), .int (qI (ro)), .int (qI (sp)), .int (qI (((k : Nat) : Int))), .int (qz (bl)), .ref (mrd), .ref (mas), .long (hh)]))], [(mrd, aI cy 100 (rd))]].flatten sz)) := by
  refine q_ofMz (S := Int × Nat × (Nat → Int)) (b1 := fun u => [[(mo, .inr (8, [.int (qI (th)), .ref (mz), .int (qI (sv)), .ref (msv), .int (qI (ml)), .ref (mtx), .ref (mmo), .int (qI (tu)), .ref (mif), .ref (mmg), .ref (mtn), .ref (mie), .ref (mme), .int (qz (fi)), .int (qI (ro)), .int (qI (u.1)), .int (qI (((u.2.1 : Nat) : Int))), .int (qz (bl)), .ref (mrd), .ref (mas), .long (hh)]))], [(mrd, aI cy 100 (u.2.2))]]) (post := fun b u => (b = true ↔ c9 = 59) ∧ (b = true → u.1 = 0 ∧ u.2.1 = k + 1 ∧ u.2.2 = qu rd (5 * k + 3) (if bl = true then -(rd (5 * k + 3)) else rd (5 * k + 3)))) (by decide +kernel) (Nat.le_of_ble_eq_true rfl) ?_
  intro p e s m args below meth c Q A hx hb hml hown hg hQ hK hN hD hA H locs ls hP hS hl
  have hown : s.vm.findClass RX8 = some m.cls := hown
  have hl : lv_has ls 2 [(0, .ref (mo)), (1, .int (qI (c9)))] := hl
  refine lv_iload_n hx hb dX8_takesEnd_0 rfl (lv_at hl 1 rfl) ?_
  refine q_bipush hx hb dX8_takesEnd_1 (by decide) ?_
  refine q_icmp_ne (tgt := 10) hx hb dX8_takesEnd_3 (by decide) (by omega) (fun c_3 => ?_) (fun c_3 => ?_)
  · skip
    refine lv_iload_n hx hb dX8_takesEnd_10 rfl (lv_at hl 1 rfl) ?_
    refine q_bipush hx hb dX8_takesEnd_11 (by decide) ?_
    refine q_icmp_ne (tgt := 20) hx hb dX8_takesEnd_13 (by decide) (by omega) (fun c_13 => ?_) (fun c_13 => ?_)
    · skip
      refine q_iconst hx hb dX8_takesEnd_20 ?_
      exact hQ _ _ _ _ false (sp, k, rd) ⟨iff_of_false (by decide) (by omega), fun z => absurd z (by decide)⟩ hP hD hS dX8_takesEnd_21
    · skip
      refine q_iconst hx hb dX8_takesEnd_16 ?_
      refine lv_goto (tgt := 21) hx hb dX8_takesEnd_17 (by decide) ?_
      omega
  · skip
    refine lv_aload_n hx hb dX8_takesEnd_6 rfl (lv_at hl 0 rfl) ?_
    refine q_backv [0, 1] [] (br := []) hP hD hS hA (va_runV (As := []) (rest := []) ⟨hx, hb, hml, hown, hg⟩ (c_X8_endItem l D cy mo mz msv mtx mmo mif mmg mtn mie mme mrd mas (th) (sv) (ml) (tu) (fi) (ro) (sp) (k) (bl) (hh) (rd) hk _) (cv_X8_145 hg rfl rfl ⟨by decide, by decide⟩) ⟨q_blind, va_recv hK (fl_blk hP 0 rfl) (ci := 8) (q0 := 0) rfl rfl, q_preM _ hK hN hP hD [0, 1] (by decide) rfl⟩ rfl rfl hl.1 rfl (lv_room (Nat.le_of_ble_eq_true rfl)) dX8_takesEnd_7 ⟨by decide, by decide⟩) rfl rfl (by decide) (fun u_7 H locs h_7 hP hD hS => ?_)
    have hP : va_P D vwCl [[(mo, .inr (8, [.int (qI (th)), .ref (mz), .int (qI (sv)), .ref (msv), .int (qI (ml)), .ref (mtx), .ref (mmo), .int (qI (tu)), .ref (mif), .ref (mmg), .ref (mtn), .ref (mie), .ref (mme), .int (qz (fi)), .int (qI (ro)), .int (qI (0)), .int (qI (((k + 1 : Nat) : Int))), .int (qz (bl)), .ref (mrd), .ref (mas), .long (hh)]))], [(mrd, aI cy 100 (u_7))]].flatten H := hP
    have hD : va_D A [[(mo, .inr (8, [.int (qI (th)), .ref (mz), .int (qI (sv)), .ref (msv), .int (qI (ml)), .ref (mtx), .ref (mmo), .int (qI (tu)), .ref (mif), .ref (mmg), .ref (mtn), .ref (mie), .ref (mme), .int (qz (fi)), .int (qI (ro)), .int (qI (0)), .int (qI (((k + 1 : Nat) : Int))), .int (qz (bl)), .ref (mrd), .ref (mas), .long (hh)]))], [(mrd, aI cy 100 (u_7))]].flatten := hD
    refine lv_iload_n hx hb dX8_takesEnd_10 rfl (lv_at hl 1 rfl) ?_
    refine q_bipush hx hb dX8_takesEnd_11 (by decide) ?_
    refine q_icmp_ne (tgt := 20) hx hb dX8_takesEnd_13 (by decide) (by omega) (fun c_13 => ?_) (fun c_13 => ?_)
    · skip
      refine q_iconst hx hb dX8_takesEnd_20 ?_
      omega
    · skip
      refine q_iconst hx hb dX8_takesEnd_16 ?_
      refine lv_goto (tgt := 21) hx hb dX8_takesEnd_17 (by decide) ?_
      exact hQ _ _ _ _ true (0, k + 1, u_7) ⟨iff_of_true rfl (by omega), fun _ => ⟨rfl, rfl, h_7⟩⟩ hP hD hS dX8_takesEnd_21

set_option maxRecDepth 100000 in
set_option maxHeartbeats 4000000 in
theorem c_X8_goesOn (l : Launch) (D : va_G) (cy : Nat → ClassId) (mo mz msv mtx mmo mif mmg mtn mie mme mrd mas : Nat) (th sv ml tu : Int) (fi : Bool) (ro sp : Int) (k : Nat) (bl : Bool) (hh : Int64) (rd : Nat → Int) (c9 : Int) (hc : 33 ≤ c9 ∧ c9 ≤ 126) (hk : k < 16) (hr : 0 ≤ rd (5 * k + 3) ∧ rd (5 * k + 3) ≤ 2000) (sz : Nat) : qMet l yX8_goesOn (.code yX8_goesOn cX8_goesOn 5 (some .boolean)) 3 [.ref (mo), .int (qI (c9))] D cy [[(mo, .inr (8, [.int (qI (th)), .ref (mz), .int (qI (sv)), .ref (msv), .int (qI (ml)), .ref (mtx), .ref (mmo), .int (qI (tu)), .ref (mif), .ref (mmg), .ref (mtn), .ref (mie), .ref (mme), .int (qz (fi)), .int (qI (ro)), .int (qI (sp)), .int (qI (((k : Nat) : Int))), .int (qz (bl)), .ref (mrd), .ref (mas), .long (hh)]))], [(mrd, aI cy 100 (rd))]] sz (va_Qi (S := Int × Nat × (Nat → Int)) (fun r u => ∃ b : Bool, r = qz b ∧ (fun b u => (b = true ↔ c9 = 33 ∨ c9 = 59 ∨ (48 ≤ c9 ∧ c9 ≤ 57 ∧ 0 < rd (5 * k + 3) ∧ 10 * rd (5 * k + 3) + c9 - 48 ≤ 2000)) ∧ (b = true → (c9 = 33 ∧ u.1 = 7 ∧ u.2.1 = k ∧ u.2.2 = rd) ∨ (c9 = 59 ∧ u.1 = 0 ∧ u.2.1 = k + 1 ∧ u.2.2 = qu rd (5 * k + 3) (if bl = true then -(rd (5 * k + 3)) else rd (5 * k + 3))) ∨ ((48 ≤ c9 ∧ c9 ≤ 57) ∧ u.1 = sp ∧ u.2.1 = k ∧ u.2.2 = qu rd (5 * k + 3) (10 * rd (5 * k + 3) + c9 - 48)))) b u) (qB D cy [[(mo, .inr (8, [.int (qI (th)), .ref (mz), .int (qI (sv)), .ref (msv), .int (qI (ml)), .ref (mtx), .ref (mmo), .int (qI (tu)), .ref (mif), .ref (mmg), .ref (mtn), .ref (mie), .ref (mme), .int (qz (fi)), .int (qI (ro)), .int (qI (sp)), .int (qI (((k : Nat) : Int))), .int (qz (bl)), .ref (mrd), .ref (mas), .long (hh)]))], [(mrd, aI cy 100 (rd))]] sz (fun u => [[(mo, .inr (8, [.int (qI (th)), .ref (mz), .int (qI (sv)), .ref (msv), .int (qI (ml)), .ref (mtx), .ref (mmo), .int (qI (tu)), .ref (mif), .ref (mmg), .ref (mtn), .ref (mie), .ref (mme), .int (qz (fi)), .int (qI (ro)), .int (qI (u.1)), .int (qI (((u.2.1 : Nat) : Int))), .int (qz (bl)), .ref (mrd), .ref (mas), .long (hh)]))], [(mrd, aI cy 100 (u.2.2))]])) (va_A [[(mo, .inr (8, [.int (qI (th)), .ref (mz), .int (qI (sv)), .ref (msv), .int (qI (ml)), .ref (mtx), .ref (mmo), .int (qI (tu)), .ref (mif), .ref (mmg), .ref (mtn), .ref (mie), .ref (mme), .int (qz (fi)), .int (qI (ro)), .int (qI (sp)), .int (qI (((k : Nat) : Int))), .int (qz (bl)), .ref (mrd), .ref (mas), .long (hh)]))], [(mrd, aI cy 100 (rd))]].flatten sz)) := by
  refine q_ofMz (S := Int × Nat × (Nat → Int)) (b1 := fun u => [[(mo, .inr (8, [.int (qI (th)), .ref (mz), .int (qI (sv)), .ref (msv), .int (qI (ml)), .ref (mtx), .ref (mmo), .int (qI (tu)), .ref (mif), .ref (mmg), .ref (mtn), .ref (mie), .ref (mme), .int (qz (fi)), .int (qI (ro)), .int (qI (u.1)), .int (qI (((u.2.1 : Nat) : Int))), .int (qz (bl)), .ref (mrd), .ref (mas), .long (hh)]))], [(mrd, aI cy 100 (u.2.2))]]) (post := fun b u => (b = true ↔ c9 = 33 ∨ c9 = 59 ∨ (48 ≤ c9 ∧ c9 ≤ 57 ∧ 0 < rd (5 * k + 3) ∧ 10 * rd (5 * k + 3) + c9 - 48 ≤ 2000)) ∧ (b = true → (c9 = 33 ∧ u.1 = 7 ∧ u.2.1 = k ∧ u.2.2 = rd) ∨ (c9 = 59 ∧ u.1 = 0 ∧ u.2.1 = k + 1 ∧ u.2.2 = qu rd (5 * k + 3) (if bl = true then -(rd (5 * k + 3)) else rd (5 * k + 3))) ∨ ((48 ≤ c9 ∧ c9 ≤ 57) ∧ u.1 = sp ∧ u.2.1 = k ∧ u.2.2 = qu rd (5 * k + 3) (10 * rd (5 * k + 3) + c9 - 48)))) (by decide +kernel) (Nat.le_of_ble_eq_true rfl) ?_
  intro p e s m args below meth c Q A hx hb hml hown hg hQ hK hN hD hA H locs ls hP hS hl
  have hown : s.vm.findClass RX8 = some m.cls := hown
  have hl : lv_has ls 5 [(0, .ref (mo)), (1, .int (qI (c9)))] := hl
  refine q_iconst hx hb dX8_goesOn_0 ?_
  refine lv_aload_n hx hb dX8_goesOn_1 rfl (lv_at hl 0 rfl) ?_
  refine gf_X8_135 hx hb hg hown hK (fl_blk hP 0 rfl) 0 rfl rfl dX8_goesOn_2 ?_
  refine q_imul hx hb dX8_goesOn_5 ?_
  refine q_iconst hx hb dX8_goesOn_6 ?_
  refine q_iadd hx hb dX8_goesOn_7 ?_
  refine lv_istore_n (lv' := [(2, .int (qI (((5) * (((k : Nat) : Int))) + (3)))), (0, .ref (mo)), (1, .int (qI (c9)))]) hx hb dX8_goesOn_8 rfl hl (by decide) rfl (fun ls hl => ?_)
  refine lv_iload_n hx hb dX8_goesOn_9 rfl (lv_at hl 2 rfl) ?_
  refine q_bipush hx hb dX8_goesOn_10 (by decide) ?_
  refine q_icmp_ne (tgt := 23) hx hb dX8_goesOn_12 (by decide) (by omega) (fun c_12 => ?_) (fun c_12 => ?_)
  · skip
    refine q_bipush hx hb dX8_goesOn_23 (by decide) ?_
    refine lv_aload_n hx hb dX8_goesOn_25 rfl (lv_at hl 1 rfl) ?_
    refine gf_X8_38 hx hb hg hown hK (fl_blk hP 0 rfl) 0 rfl rfl dX8_goesOn_26 ?_
    refine lv_iload_n hx hb dX8_goesOn_29 rfl (lv_at hl 0 rfl) ?_
    refine q_iald (j := ((5 * k) + 3)) hx hb hK (fl_blk hP 1 rfl) 0 rfl (by omega) dX8_goesOn_30 ?_
    refine q_imul hx hb dX8_goesOn_31 ?_
    refine lv_iload_n hx hb dX8_goesOn_32 rfl (lv_at hl 2 rfl) ?_
    refine q_iadd hx hb dX8_goesOn_33 ?_
    refine q_bipush hx hb dX8_goesOn_34 (by decide) ?_
    refine q_isub hx hb dX8_goesOn_36 ?_
    refine lv_istore_n (lv' := [(3, .int (qI ((((10) * (rd ((5 * k) + 3))) + (c9)) - (48)))), (2, .int (qI (((5) * (((k : Nat) : Int))) + (3)))), (0, .ref (mo)), (1, .int (qI (c9)))]) hx hb dX8_goesOn_37 rfl hl (by decide) rfl (fun ls hl => ?_)
    refine lv_iload_n hx hb dX8_goesOn_38 rfl (lv_at hl 3 rfl) ?_
    refine q_bipush hx hb dX8_goesOn_39 (by decide) ?_
    refine q_bipush hx hb dX8_goesOn_41 (by decide) ?_
    refine q_readz (va_runS (As := [.int (qI (c9)), .int (qI (48)), .int (qI (57))]) (rest := []) ⟨hx, hb, hml, hown, hg⟩ (c_X8_within l D cy _ _ _ (by omega)) (cs_X8_48 hg rfl rfl ⟨by decide, by decide⟩) ⟨q_blind0, q_preR _ hK hN hP [] rfl⟩ rfl rfl hl.1 rfl (lv_room (Nat.le_of_ble_eq_true rfl)) dX8_goesOn_43 ⟨by decide, by decide⟩) (fun b_43 h_43 => ?_)
    refine q_ifz_eq (tgt := 69) hx hb dX8_goesOn_46 (by decide) (fun c_46 => ?_) (fun c_46 => ?_)
    · skip
      have g_46 := mt (h_43).mpr (by rw [c_46]; decide)
      refine q_iconst hx hb dX8_goesOn_69 ?_
      refine lv_istore (lv' := [(4, .int (qI (0))), (3, .int (qI ((((10) * (rd ((5 * k) + 3))) + (c9)) - (48)))), (2, .int (qI (((5) * (((k : Nat) : Int))) + (3)))), (0, .ref (mo)), (1, .int (qI (c9)))]) hx hb dX8_goesOn_70 hl (by decide) rfl (fun ls hl => ?_)
      refine lv_aload_n hx hb dX8_goesOn_72 rfl (lv_at hl 3 rfl) ?_
      refine gf_X8_38 hx hb hg hown hK (fl_blk hP 0 rfl) 0 rfl rfl dX8_goesOn_73 ?_
      refine lv_iload_n hx hb dX8_goesOn_76 rfl (lv_at hl 2 rfl) ?_
      refine lv_iload hx hb dX8_goesOn_77 (lv_at hl 0 rfl) ?_
      refine q_if_eq (tgt := 86) hx hb dX8_goesOn_79 (by decide) (by omega) (fun c_79 => ?_) (fun c_79 => ?_)
      · skip
        refine lv_aload_n hx hb dX8_goesOn_86 rfl (lv_at hl 3 rfl) ?_
        refine gf_X8_38 hx hb hg hown hK (fl_blk hP 0 rfl) 0 rfl rfl dX8_goesOn_87 ?_
        refine lv_iload_n hx hb dX8_goesOn_90 rfl (lv_at hl 2 rfl) ?_
        refine q_iald (j := ((5 * k) + 3)) hx hb hK (fl_blk hP 1 rfl) 0 rfl (by omega) dX8_goesOn_91 ?_
        refine qb_iast (j := ((5 * k) + 3)) hx hb hK hP hD hS 1 0 rfl rfl (by omega) dX8_goesOn_92 (fun H locs hP hD hS => ?_)
        have hP : va_P D vwCl [[(mo, .inr (8, [.int (qI (th)), .ref (mz), .int (qI (sv)), .ref (msv), .int (qI (ml)), .ref (mtx), .ref (mmo), .int (qI (tu)), .ref (mif), .ref (mmg), .ref (mtn), .ref (mie), .ref (mme), .int (qz (fi)), .int (qI (ro)), .int (qI (sp)), .int (qI (((k : Nat) : Int))), .int (qz (bl)), .ref (mrd), .ref (mas), .long (hh)]))], [(mrd, aI cy 100 (qu rd ((5 * k) + 3) (rd ((5 * k) + 3))))]].flatten H := hP
        have hD : va_D A [[(mo, .inr (8, [.int (qI (th)), .ref (mz), .int (qI (sv)), .ref (msv), .int (qI (ml)), .ref (mtx), .ref (mmo), .int (qI (tu)), .ref (mif), .ref (mmg), .ref (mtn), .ref (mie), .ref (mme), .int (qz (fi)), .int (qI (ro)), .int (qI (sp)), .int (qI (((k : Nat) : Int))), .int (qz (bl)), .ref (mrd), .ref (mas), .long (hh)]))], [(mrd, aI cy 100 (qu rd ((5 * k) + 3) (rd ((5 * k) + 3))))]].flatten := hD
        refine lv_iload hx hb dX8_goesOn_93 (lv_at hl 0 rfl) ?_
        refine q_if_ne (tgt := 106) hx hb dX8_goesOn_95 (by decide) (by omega) (fun c_95 => ?_) (fun c_95 => ?_)
        · skip
          exact absurd c_95 (by decide)
        · skip
          refine lv_aload_n hx hb dX8_goesOn_98 rfl (lv_at hl 3 rfl) ?_
          refine lv_iload_n hx hb dX8_goesOn_99 rfl (lv_at hl 4 rfl) ?_
          refine q_backz [0, 1] [] (br := []) hP hD hS hA (va_runV (As := [.int (qI (c9))]) (rest := []) ⟨hx, hb, hml, hown, hg⟩ (c_X8_takesEnd l D cy mo mz msv mtx mmo mif mmg mtn mie mme mrd mas (th) (sv) (ml) (tu) (fi) (ro) (sp) (k) (bl) (hh) (qu rd ((5 * k) + 3) (rd ((5 * k) + 3))) (c9) hc hk _) (cv_X8_148 hg rfl rfl ⟨by decide, by decide⟩) ⟨q_blind, va_recv hK (fl_blk hP 0 rfl) (ci := 8) (q0 := 0) rfl rfl, q_preM _ hK hN hP hD [0, 1] (by decide) rfl⟩ rfl rfl hl.1 rfl (lv_room (Nat.le_of_ble_eq_true rfl)) dX8_goesOn_100 ⟨by decide, by decide⟩) rfl rfl (by decide) (fun b_100 u_100 H locs h_100 hP hD hS => ?_)
          have hP : va_P D vwCl [[(mo, .inr (8, [.int (qI (th)), .ref (mz), .int (qI (sv)), .ref (msv), .int (qI (ml)), .ref (mtx), .ref (mmo), .int (qI (tu)), .ref (mif), .ref (mmg), .ref (mtn), .ref (mie), .ref (mme), .int (qz (fi)), .int (qI (ro)), .int (qI (u_100.1)), .int (qI (((u_100.2.1 : Nat) : Int))), .int (qz (bl)), .ref (mrd), .ref (mas), .long (hh)]))], [(mrd, aI cy 100 (u_100.2.2))]].flatten H := hP
          have hD : va_D A [[(mo, .inr (8, [.int (qI (th)), .ref (mz), .int (qI (sv)), .ref (msv), .int (qI (ml)), .ref (mtx), .ref (mmo), .int (qI (tu)), .ref (mif), .ref (mmg), .ref (mtn), .ref (mie), .ref (mme), .int (qz (fi)), .int (qI (ro)), .int (qI (u_100.1)), .int (qI (((u_100.2.1 : Nat) : Int))), .int (qz (bl)), .ref (mrd), .ref (mas), .long (hh)]))], [(mrd, aI cy 100 (u_100.2.2))]].flatten := hD
          refine q_ifz_eq (tgt := 110) hx hb dX8_goesOn_103 (by decide) (fun c_103 => ?_) (fun c_103 => ?_)
          · skip
            have g_103 := mt (h_100.1).mpr (by rw [c_103]; decide)
            refine q_iconst hx hb dX8_goesOn_110 ?_
            have z8 : ¬ c9 = 59 := fun z => absurd (h_100.1.mpr z) (by rw [c_103]; decide)
            exact hQ _ _ _ _ false u_100 ⟨iff_of_false (by decide) (by omega), fun z => absurd z (by decide)⟩ hP hD hS dX8_goesOn_111
          · skip
            have g_103 := (h_100.1).mp c_103
            refine q_iconst hx hb dX8_goesOn_106 ?_
            refine lv_goto (tgt := 111) hx hb dX8_goesOn_107 (by decide) ?_
            have z8 := h_100.1.mp c_103
            exact hQ _ _ _ _ true u_100 ⟨iff_of_true rfl (by omega), fun _ => Or.inr (Or.inl ⟨z8, (h_100.2 c_103).1, (h_100.2 c_103).2.1, by have z7 := (h_100.2 c_103).2.2; rw [qu_id] at z7; exact z7⟩)⟩ hP hD hS dX8_goesOn_111
      · skip
        exact absurd c_79 (by decide)
    · skip
      have g_46 := (h_43).mp c_46
      refine lv_aload_n hx hb dX8_goesOn_49 rfl (lv_at hl 2 rfl) ?_
      refine gf_X8_38 hx hb hg hown hK (fl_blk hP 0 rfl) 0 rfl rfl dX8_goesOn_50 ?_
      refine lv_iload_n hx hb dX8_goesOn_53 rfl (lv_at hl 1 rfl) ?_
      refine q_iald (j := ((5 * k) + 3)) hx hb hK (fl_blk hP 1 rfl) 0 rfl (by omega) dX8_goesOn_54 ?_
      refine q_if_le (tgt := 69) hx hb dX8_goesOn_55 (by decide) (by omega) (fun c_55 => ?_) (fun c_55 => ?_)
      · skip
        refine q_iconst hx hb dX8_goesOn_69 ?_
        refine lv_istore (lv' := [(4, .int (qI (0))), (3, .int (qI ((((10) * (rd ((5 * k) + 3))) + (c9)) - (48)))), (2, .int (qI (((5) * (((k : Nat) : Int))) + (3)))), (0, .ref (mo)), (1, .int (qI (c9)))]) hx hb dX8_goesOn_70 hl (by decide) rfl (fun ls hl => ?_)
        refine lv_aload_n hx hb dX8_goesOn_72 rfl (lv_at hl 3 rfl) ?_
        refine gf_X8_38 hx hb hg hown hK (fl_blk hP 0 rfl) 0 rfl rfl dX8_goesOn_73 ?_
        refine lv_iload_n hx hb dX8_goesOn_76 rfl (lv_at hl 2 rfl) ?_
        refine lv_iload hx hb dX8_goesOn_77 (lv_at hl 0 rfl) ?_
        refine q_if_eq (tgt := 86) hx hb dX8_goesOn_79 (by decide) (by omega) (fun c_79 => ?_) (fun c_79 => ?_)
        · skip
          refine lv_aload_n hx hb dX8_goesOn_86 rfl (lv_at hl 3 rfl) ?_
          refine gf_X8_38 hx hb hg hown hK (fl_blk hP 0 rfl) 0 rfl rfl dX8_goesOn_87 ?_
          refine lv_iload_n hx hb dX8_goesOn_90 rfl (lv_at hl 2 rfl) ?_
          refine q_iald (j := ((5 * k) + 3)) hx hb hK (fl_blk hP 1 rfl) 0 rfl (by omega) dX8_goesOn_91 ?_
          refine qb_iast (j := ((5 * k) + 3)) hx hb hK hP hD hS 1 0 rfl rfl (by omega) dX8_goesOn_92 (fun H locs hP hD hS => ?_)
          have hP : va_P D vwCl [[(mo, .inr (8, [.int (qI (th)), .ref (mz), .int (qI (sv)), .ref (msv), .int (qI (ml)), .ref (mtx), .ref (mmo), .int (qI (tu)), .ref (mif), .ref (mmg), .ref (mtn), .ref (mie), .ref (mme), .int (qz (fi)), .int (qI (ro)), .int (qI (sp)), .int (qI (((k : Nat) : Int))), .int (qz (bl)), .ref (mrd), .ref (mas), .long (hh)]))], [(mrd, aI cy 100 (qu rd ((5 * k) + 3) (rd ((5 * k) + 3))))]].flatten H := hP
          have hD : va_D A [[(mo, .inr (8, [.int (qI (th)), .ref (mz), .int (qI (sv)), .ref (msv), .int (qI (ml)), .ref (mtx), .ref (mmo), .int (qI (tu)), .ref (mif), .ref (mmg), .ref (mtn), .ref (mie), .ref (mme), .int (qz (fi)), .int (qI (ro)), .int (qI (sp)), .int (qI (((k : Nat) : Int))), .int (qz (bl)), .ref (mrd), .ref (mas), .long (hh)]))], [(mrd, aI cy 100 (qu rd ((5 * k) + 3) (rd ((5 * k) + 3))))]].flatten := hD
          refine lv_iload hx hb dX8_goesOn_93 (lv_at hl 0 rfl) ?_
          refine q_if_ne (tgt := 106) hx hb dX8_goesOn_95 (by decide) (by omega) (fun c_95 => ?_) (fun c_95 => ?_)
          · skip
            exact absurd c_95 (by decide)
          · skip
            refine lv_aload_n hx hb dX8_goesOn_98 rfl (lv_at hl 3 rfl) ?_
            refine lv_iload_n hx hb dX8_goesOn_99 rfl (lv_at hl 4 rfl) ?_
            refine q_backz [0, 1] [] (br := []) hP hD hS hA (va_runV (As := [.int (qI (c9))]) (rest := []) ⟨hx, hb, hml, hown, hg⟩ (c_X8_takesEnd l D cy mo mz msv mtx mmo mif mmg mtn mie mme mrd mas (th) (sv) (ml) (tu) (fi) (ro) (sp) (k) (bl) (hh) (qu rd ((5 * k) + 3) (rd ((5 * k) + 3))) (c9) hc hk _) (cv_X8_148 hg rfl rfl ⟨by decide, by decide⟩) ⟨q_blind, va_recv hK (fl_blk hP 0 rfl) (ci := 8) (q0 := 0) rfl rfl, q_preM _ hK hN hP hD [0, 1] (by decide) rfl⟩ rfl rfl hl.1 rfl (lv_room (Nat.le_of_ble_eq_true rfl)) dX8_goesOn_100 ⟨by decide, by decide⟩) rfl rfl (by decide) (fun b_100 u_100 H locs h_100 hP hD hS => ?_)
            have hP : va_P D vwCl [[(mo, .inr (8, [.int (qI (th)), .ref (mz), .int (qI (sv)), .ref (msv), .int (qI (ml)), .ref (mtx), .ref (mmo), .int (qI (tu)), .ref (mif), .ref (mmg), .ref (mtn), .ref (mie), .ref (mme), .int (qz (fi)), .int (qI (ro)), .int (qI (u_100.1)), .int (qI (((u_100.2.1 : Nat) : Int))), .int (qz (bl)), .ref (mrd), .ref (mas), .long (hh)]))], [(mrd, aI cy 100 (u_100.2.2))]].flatten H := hP
            have hD : va_D A [[(mo, .inr (8, [.int (qI (th)), .ref (mz), .int (qI (sv)), .ref (msv), .int (qI (ml)), .ref (mtx), .ref (mmo), .int (qI (tu)), .ref (mif), .ref (mmg), .ref (mtn), .ref (mie), .ref (mme), .int (qz (fi)), .int (qI (ro)), .int (qI (u_100.1)), .int (qI (((u_100.2.1 : Nat) : Int))), .int (qz (bl)), .ref (mrd), .ref (mas), .long (hh)]))], [(mrd, aI cy 100 (u_100.2.2))]].flatten := hD
            refine q_ifz_eq (tgt := 110) hx hb dX8_goesOn_103 (by decide) (fun c_103 => ?_) (fun c_103 => ?_)
            · skip
              have g_103 := mt (h_100.1).mpr (by rw [c_103]; decide)
              refine q_iconst hx hb dX8_goesOn_110 ?_
              have z8 : ¬ c9 = 59 := fun z => absurd (h_100.1.mpr z) (by rw [c_103]; decide)
              exact hQ _ _ _ _ false u_100 ⟨iff_of_false (by decide) (by omega), fun z => absurd z (by decide)⟩ hP hD hS dX8_goesOn_111
            · skip
              have g_103 := (h_100.1).mp c_103
              refine q_iconst hx hb dX8_goesOn_106 ?_
              refine lv_goto (tgt := 111) hx hb dX8_goesOn_107 (by decide) ?_
              have z8 := h_100.1.mp c_103
              exact hQ _ _ _ _ true u_100 ⟨iff_of_true rfl (by omega), fun _ => Or.inr (Or.inl ⟨z8, (h_100.2 c_103).1, (h_100.2 c_103).2.1, by have z7 := (h_100.2 c_103).2.2; rw [qu_id] at z7; exact z7⟩)⟩ hP hD hS dX8_goesOn_111
        · skip
          exact absurd c_79 (by decide)
      · skip
        refine lv_iload_n hx hb dX8_goesOn_58 rfl (lv_at hl 0 rfl) ?_
        refine q_sipush hx hb dX8_goesOn_59 (by decide) ?_
        refine q_icmp_gt (tgt := 69) hx hb dX8_goesOn_62 (by decide) (by omega) (fun c_62 => ?_) (fun c_62 => ?_)
        · skip
          refine q_iconst hx hb dX8_goesOn_69 ?_
          refine lv_istore (lv' := [(4, .int (qI (0))), (3, .int (qI ((((10) * (rd ((5 * k) + 3))) + (c9)) - (48)))), (2, .int (qI (((5) * (((k : Nat) : Int))) + (3)))), (0, .ref (mo)), (1, .int (qI (c9)))]) hx hb dX8_goesOn_70 hl (by decide) rfl (fun ls hl => ?_)
          refine lv_aload_n hx hb dX8_goesOn_72 rfl (lv_at hl 3 rfl) ?_
          refine gf_X8_38 hx hb hg hown hK (fl_blk hP 0 rfl) 0 rfl rfl dX8_goesOn_73 ?_
          refine lv_iload_n hx hb dX8_goesOn_76 rfl (lv_at hl 2 rfl) ?_
          refine lv_iload hx hb dX8_goesOn_77 (lv_at hl 0 rfl) ?_
          refine q_if_eq (tgt := 86) hx hb dX8_goesOn_79 (by decide) (by omega) (fun c_79 => ?_) (fun c_79 => ?_)
          · skip
            refine lv_aload_n hx hb dX8_goesOn_86 rfl (lv_at hl 3 rfl) ?_
            refine gf_X8_38 hx hb hg hown hK (fl_blk hP 0 rfl) 0 rfl rfl dX8_goesOn_87 ?_
            refine lv_iload_n hx hb dX8_goesOn_90 rfl (lv_at hl 2 rfl) ?_
            refine q_iald (j := ((5 * k) + 3)) hx hb hK (fl_blk hP 1 rfl) 0 rfl (by omega) dX8_goesOn_91 ?_
            refine qb_iast (j := ((5 * k) + 3)) hx hb hK hP hD hS 1 0 rfl rfl (by omega) dX8_goesOn_92 (fun H locs hP hD hS => ?_)
            have hP : va_P D vwCl [[(mo, .inr (8, [.int (qI (th)), .ref (mz), .int (qI (sv)), .ref (msv), .int (qI (ml)), .ref (mtx), .ref (mmo), .int (qI (tu)), .ref (mif), .ref (mmg), .ref (mtn), .ref (mie), .ref (mme), .int (qz (fi)), .int (qI (ro)), .int (qI (sp)), .int (qI (((k : Nat) : Int))), .int (qz (bl)), .ref (mrd), .ref (mas), .long (hh)]))], [(mrd, aI cy 100 (qu rd ((5 * k) + 3) (rd ((5 * k) + 3))))]].flatten H := hP
            have hD : va_D A [[(mo, .inr (8, [.int (qI (th)), .ref (mz), .int (qI (sv)), .ref (msv), .int (qI (ml)), .ref (mtx), .ref (mmo), .int (qI (tu)), .ref (mif), .ref (mmg), .ref (mtn), .ref (mie), .ref (mme), .int (qz (fi)), .int (qI (ro)), .int (qI (sp)), .int (qI (((k : Nat) : Int))), .int (qz (bl)), .ref (mrd), .ref (mas), .long (hh)]))], [(mrd, aI cy 100 (qu rd ((5 * k) + 3) (rd ((5 * k) + 3))))]].flatten := hD
            refine lv_iload hx hb dX8_goesOn_93 (lv_at hl 0 rfl) ?_
            refine q_if_ne (tgt := 106) hx hb dX8_goesOn_95 (by decide) (by omega) (fun c_95 => ?_) (fun c_95 => ?_)
            · skip
              exact absurd c_95 (by decide)
            · skip
              refine lv_aload_n hx hb dX8_goesOn_98 rfl (lv_at hl 3 rfl) ?_
              refine lv_iload_n hx hb dX8_goesOn_99 rfl (lv_at hl 4 rfl) ?_
              refine q_backz [0, 1] [] (br := []) hP hD hS hA (va_runV (As := [.int (qI (c9))]) (rest := []) ⟨hx, hb, hml, hown, hg⟩ (c_X8_takesEnd l D cy mo mz msv mtx mmo mif mmg mtn mie mme mrd mas (th) (sv) (ml) (tu) (fi) (ro) (sp) (k) (bl) (hh) (qu rd ((5 * k) + 3) (rd ((5 * k) + 3))) (c9) hc hk _) (cv_X8_148 hg rfl rfl ⟨by decide, by decide⟩) ⟨q_blind, va_recv hK (fl_blk hP 0 rfl) (ci := 8) (q0 := 0) rfl rfl, q_preM _ hK hN hP hD [0, 1] (by decide) rfl⟩ rfl rfl hl.1 rfl (lv_room (Nat.le_of_ble_eq_true rfl)) dX8_goesOn_100 ⟨by decide, by decide⟩) rfl rfl (by decide) (fun b_100 u_100 H locs h_100 hP hD hS => ?_)
              have hP : va_P D vwCl [[(mo, .inr (8, [.int (qI (th)), .ref (mz), .int (qI (sv)), .ref (msv), .int (qI (ml)), .ref (mtx), .ref (mmo), .int (qI (tu)), .ref (mif), .ref (mmg), .ref (mtn), .ref (mie), .ref (mme), .int (qz (fi)), .int (qI (ro)), .int (qI (u_100.1)), .int (qI (((u_100.2.1 : Nat) : Int))), .int (qz (bl)), .ref (mrd), .ref (mas), .long (hh)]))], [(mrd, aI cy 100 (u_100.2.2))]].flatten H := hP
              have hD : va_D A [[(mo, .inr (8, [.int (qI (th)), .ref (mz), .int (qI (sv)), .ref (msv), .int (qI (ml)), .ref (mtx), .ref (mmo), .int (qI (tu)), .ref (mif), .ref (mmg), .ref (mtn), .ref (mie), .ref (mme), .int (qz (fi)), .int (qI (ro)), .int (qI (u_100.1)), .int (qI (((u_100.2.1 : Nat) : Int))), .int (qz (bl)), .ref (mrd), .ref (mas), .long (hh)]))], [(mrd, aI cy 100 (u_100.2.2))]].flatten := hD
              refine q_ifz_eq (tgt := 110) hx hb dX8_goesOn_103 (by decide) (fun c_103 => ?_) (fun c_103 => ?_)
              · skip
                have g_103 := mt (h_100.1).mpr (by rw [c_103]; decide)
                refine q_iconst hx hb dX8_goesOn_110 ?_
                have z8 : ¬ c9 = 59 := fun z => absurd (h_100.1.mpr z) (by rw [c_103]; decide)
                exact hQ _ _ _ _ false u_100 ⟨iff_of_false (by decide) (by omega), fun z => absurd z (by decide)⟩ hP hD hS dX8_goesOn_111
              · skip
                have g_103 := (h_100.1).mp c_103
                refine q_iconst hx hb dX8_goesOn_106 ?_
                refine lv_goto (tgt := 111) hx hb dX8_goesOn_107 (by decide) ?_
                have z8 := h_100.1.mp c_103
                exact hQ _ _ _ _ true u_100 ⟨iff_of_true rfl (by omega), fun _ => Or.inr (Or.inl ⟨z8, (h_100.2 c_103).1, (h_100.2 c_103).2.1, by have z7 := (h_100.2 c_103).2.2; rw [qu_id] at z7; exact z7⟩)⟩ hP hD hS dX8_goesOn_111
          · skip
            exact absurd c_79 (by decide)
        · skip
          refine q_iconst hx hb dX8_goesOn_65 ?_
          refine lv_goto (tgt := 70) hx hb dX8_goesOn_66 (by decide) ?_
          refine lv_istore (lv' := [(4, .int (qI (1))), (3, .int (qI ((((10) * (rd ((5 * k) + 3))) + (c9)) - (48)))), (2, .int (qI (((5) * (((k : Nat) : Int))) + (3)))), (0, .ref (mo)), (1, .int (qI (c9)))]) hx hb dX8_goesOn_70 hl (by decide) rfl (fun ls hl => ?_)
          refine lv_aload_n hx hb dX8_goesOn_72 rfl (lv_at hl 3 rfl) ?_
          refine gf_X8_38 hx hb hg hown hK (fl_blk hP 0 rfl) 0 rfl rfl dX8_goesOn_73 ?_
          refine lv_iload_n hx hb dX8_goesOn_76 rfl (lv_at hl 2 rfl) ?_
          refine lv_iload hx hb dX8_goesOn_77 (lv_at hl 0 rfl) ?_
          refine q_if_eq (tgt := 86) hx hb dX8_goesOn_79 (by decide) (by omega) (fun c_79 => ?_) (fun c_79 => ?_)
          · skip
            exact absurd c_79 (by decide)
          · skip
            refine lv_iload_n hx hb dX8_goesOn_82 rfl (lv_at hl 1 rfl) ?_
            refine lv_goto (tgt := 92) hx hb dX8_goesOn_83 (by decide) ?_
            refine qb_iast (j := ((5 * k) + 3)) hx hb hK hP hD hS 1 0 rfl rfl (by omega) dX8_goesOn_92 (fun H locs hP hD hS => ?_)
            have hP : va_P D vwCl [[(mo, .inr (8, [.int (qI (th)), .ref (mz), .int (qI (sv)), .ref (msv), .int (qI (ml)), .ref (mtx), .ref (mmo), .int (qI (tu)), .ref (mif), .ref (mmg), .ref (mtn), .ref (mie), .ref (mme), .int (qz (fi)), .int (qI (ro)), .int (qI (sp)), .int (qI (((k : Nat) : Int))), .int (qz (bl)), .ref (mrd), .ref (mas), .long (hh)]))], [(mrd, aI cy 100 (qu rd ((5 * k) + 3) ((((10) * (rd ((5 * k) + 3))) + (c9)) - (48))))]].flatten H := hP
            have hD : va_D A [[(mo, .inr (8, [.int (qI (th)), .ref (mz), .int (qI (sv)), .ref (msv), .int (qI (ml)), .ref (mtx), .ref (mmo), .int (qI (tu)), .ref (mif), .ref (mmg), .ref (mtn), .ref (mie), .ref (mme), .int (qz (fi)), .int (qI (ro)), .int (qI (sp)), .int (qI (((k : Nat) : Int))), .int (qz (bl)), .ref (mrd), .ref (mas), .long (hh)]))], [(mrd, aI cy 100 (qu rd ((5 * k) + 3) ((((10) * (rd ((5 * k) + 3))) + (c9)) - (48))))]].flatten := hD
            refine lv_iload hx hb dX8_goesOn_93 (lv_at hl 0 rfl) ?_
            refine q_if_ne (tgt := 106) hx hb dX8_goesOn_95 (by decide) (by omega) (fun c_95 => ?_) (fun c_95 => ?_)
            · skip
              refine q_iconst hx hb dX8_goesOn_106 ?_
              refine lv_goto (tgt := 111) hx hb dX8_goesOn_107 (by decide) ?_
              have z9 := h_43.mp c_46
              exact hQ _ _ _ _ true (sp, k, qu rd ((5 * k) + 3) ((((10) * (rd ((5 * k) + 3))) + (c9)) - (48))) ⟨iff_of_true rfl (by omega), fun _ => Or.inr (Or.inr ⟨by omega, rfl, rfl, rfl⟩)⟩ hP hD hS dX8_goesOn_111
            · skip
              exact absurd c_95 (by decide)
  · skip
    refine lv_aload_n hx hb dX8_goesOn_15 rfl (lv_at hl 1 rfl) ?_
    refine q_iconst hx hb dX8_goesOn_16 ?_
    refine q_bool (b := true) rfl ?_
    refine q_bipush hx hb dX8_goesOn_17 (by decide) ?_
    refine q_backz [0] [1] (br := [[(mrd, aI cy 100 (rd))]]) hP hD hS hA (va_runV (As := [.int (qz (true)), .int (qI (7))]) (rest := []) ⟨hx, hb, hml, hown, hg⟩ (c_X8_goes l D cy mo mz msv mtx mmo mif mmg mtn mie mme mrd mas (th) (sv) (ml) (tu) (fi) (ro) (sp) (k) (bl) (hh) (true) (7) _) (cv_X8_138 hg rfl rfl ⟨by decide, by decide⟩) ⟨q_blind, va_recv hK (fl_blk hP 0 rfl) (ci := 8) (q0 := 0) rfl rfl, q_preM _ hK hN hP hD [0] (by decide) rfl⟩ rfl rfl hl.1 rfl (lv_room (Nat.le_of_ble_eq_true rfl)) dX8_goesOn_19 ⟨by decide, by decide⟩) rfl rfl (by decide) (fun b_19 u_19 H locs h_19 hP hD hS => ?_)
    have hP : va_P D vwCl [[(mrd, aI cy 100 (rd))], [(mo, .inr (8, [.int (qI (th)), .ref (mz), .int (qI (sv)), .ref (msv), .int (qI (ml)), .ref (mtx), .ref (mmo), .int (qI (tu)), .ref (mif), .ref (mmg), .ref (mtn), .ref (mie), .ref (mme), .int (qz (fi)), .int (qI (ro)), .int (qI (u_19)), .int (qI (((k : Nat) : Int))), .int (qz (bl)), .ref (mrd), .ref (mas), .long (hh)]))]].flatten H := hP
    have hD : va_D A [[(mrd, aI cy 100 (rd))], [(mo, .inr (8, [.int (qI (th)), .ref (mz), .int (qI (sv)), .ref (msv), .int (qI (ml)), .ref (mtx), .ref (mmo), .int (qI (tu)), .ref (mif), .ref (mmg), .ref (mtn), .ref (mie), .ref (mme), .int (qz (fi)), .int (qI (ro)), .int (qI (u_19)), .int (qI (((k : Nat) : Int))), .int (qz (bl)), .ref (mrd), .ref (mas), .long (hh)]))]].flatten := hD
    have hP := fl_sub (bs' := [[(mo, .inr (8, [.int (qI (th)), .ref (mz), .int (qI (sv)), .ref (msv), .int (qI (ml)), .ref (mtx), .ref (mmo), .int (qI (tu)), .ref (mif), .ref (mmg), .ref (mtn), .ref (mie), .ref (mme), .int (qz (fi)), .int (qI (ro)), .int (qI (u_19)), .int (qI (((k : Nat) : Int))), .int (qz (bl)), .ref (mrd), .ref (mas), .long (hh)]))], [(mrd, aI cy 100 (rd))]]) hP [1, 0] rfl
    have hD := fl_subD (bs' := [[(mo, .inr (8, [.int (qI (th)), .ref (mz), .int (qI (sv)), .ref (msv), .int (qI (ml)), .ref (mtx), .ref (mmo), .int (qI (tu)), .ref (mif), .ref (mmg), .ref (mtn), .ref (mie), .ref (mme), .int (qz (fi)), .int (qI (ro)), .int (qI (u_19)), .int (qI (((k : Nat) : Int))), .int (qz (bl)), .ref (mrd), .ref (mas), .long (hh)]))], [(mrd, aI cy 100 (rd))]]) hD [1, 0] (by decide) rfl
    exact hQ _ _ _ _ b_19 (u_19, k, rd) ⟨by rw [h_19.1]; exact iff_of_true rfl (by omega), fun _ => Or.inl ⟨by omega, by rw [h_19.2]; rfl, rfl, rfl⟩⟩ hP hD hS dX8_goesOn_22
