set_option maxRecDepth 100000 in
set_option maxHeartbeats 4000000 in
theorem lw_remove {p : Program} {l : Launch} {e : Env} {s : State} {m : MethodId} {below : List Frame} {meth : Method} {c : Code} {b L : Nat} {sc9 : Nat → Int32} {D : va_G} {cy : Nat → ClassId} {A : Nat → Prop} {Q : State → Prop} (hlt9 : l.stackTraces = false) (B9 : lwB p s m c b L sc9 D cy A) {x mo oa t : Nat} (ht9 : 6 * t + 6 ≤ L) {T : LSt} {hz : Nat} {HZ : Nat → LSt} {len : Nat} {tx : Nat → Int} {th : Int} {W9 M9 : va_W} {g : Nat → Int64} {cells slots : Nat} (hr9 : cells ≤ 1000 ∧ slots ≤ 8000) (hI9 : lwI cy x mo T hz HZ len tx th W9 M9) {H : Heap} {locs : List Loc} {ls : Array Slot} (hP : va_P D vwCl [W9, M9, [(oa, aJ cy 1 g)]].flatten H) (hD : va_D A [W9, M9, [(oa, aJ cy 1 g)]].flatten) (hS : va_S A s.heap H locs) (hl : lv_has ls 9 (lwL b x mo oa t)) (kk : lwK p l e s m below meth c b D cy A Q x mo oa t cells slots) : W p l e room_1 s m #[Value.ref b] below meth c H locs cells slots Q (F0 m 252 ls []) := by
  obtain ⟨hx, hb, hml, hown, hg, hX, hbl, hbA, hA, hK, hN, hEx9, hNc9, hL9⟩ := B9
  obtain ⟨⟨la, lv9, ls9, fa, xh, xs, la2, lv92, ls92, fb, fw, bu, ta, rc, re, gb, oc, oe, rs, rc2, re2, gb2, oc2, oe2, rs2, rr, ad, hC9⟩, ⟨mz, msv, mtx, mmo, mif, mmg, mtn, mie, mme, mrd, mas, hM9⟩, gT, hHG, hln9⟩ := hI9
  have gT3 := gT.2
  have gN16 : lN9 T ≤ 16 := gT.1.2.2.1.1
  obtain ⟨fsC, hfsC⟩ := CW_at hC9
  obtain ⟨fsM, hfsM⟩ := MW_at hM9
  have hl : lv_has ls 9 [(0, .ref (b)), (1, .ref (x)), (2, .ref (mo)), (3, .ref (oa)), (4, .int (qI (((6 * t : Nat) : Int))))] := hl
  obtain ⟨p0, ep0⟩ : ∃ z : Int, (sc9 (6 * t + 1)).toInt = z := ⟨_, rfl⟩
  have r0 : -2147483648 ≤ p0 ∧ p0 < 2147483648 := by rw [← ep0]; exact ⟨Int32.le_toInt _, Int32.toInt_lt _⟩
  by_cases cA9 : 0 ≤ p0 ∧ p0 < (lN9 T : Int)
  · skip
    refine lv_aload_n hx hb dL_law_252 rfl (lv_at hl 1 rfl) ?_
    refine lv_aload_n hx hb dL_law_253 rfl (lv_at hl 0 rfl) ?_
    refine lv_iload hx hb dL_law_254 (lv_at hl 4 rfl) ?_
    refine q_iconst hx hb dL_law_256 ?_
    refine q_iadd hx hb dL_law_257 ?_
    refine q_sld (j := 6 * t + 1) hx hb hX hbl hbA hS (by omega) ep0 dL_law_258 ?_
    refine lv_aload_n hx hb dL_law_259 rfl (lv_at hl 3 rfl) ?_
    refine q_backiX (mc := 0) (ms := 0) [0, 2] [1] (br := [M9]) hP hD hS hA (vx_runSW (As := [.ref (x), .int (qI (p0)), .ref (oa)]) (rest := []) ⟨hx, hb, hml, hown, hg⟩ (c_L_remove l D cy x la lv9 ls9 fa xh xs la2 lv92 ls92 fb fw bu ta rc re gb oc oe rs rc2 re2 gb2 oc2 oe2 rs2 rr ad T hz HZ len tx _ gT.1 hC9 oa _ p0 p0.toNat (by omega) _) (csW_L_88 hg rfl rfl ⟨(Nat.le_of_ble_eq_true rfl), (Nat.le_of_ble_eq_true rfl)⟩) ⟨q_blind, q_preM [.ref (x), .int (qI (p0)), .ref (oa)] hK hN hP hD [0, 2] (by decide) rfl⟩ rfl rfl hl.1 rfl (lv_room (Nat.le_of_ble_eq_true rfl)) dL_law_260 ⟨(by show cells + 0 ≤ 601024; omega), (by show slots + 0 ≤ 7293034; omega)⟩) rfl rfl (by decide) (fun r_260 u_260 H locs h_260 hP hD hS => ?_)
    obtain ⟨rfl, h_260⟩ := h_260
    have hP : va_P D vwCl [M9, u_260, [(oa, aJ cy 1 (qu (g) 0 ((qI (((fOC (filS T (-1)) p0.toNat).toNat : Int))).toInt64)))]].flatten H := hP
    have hD : va_D A [M9, u_260, [(oa, aJ cy 1 (qu (g) 0 ((qI (((fOC (filS T (-1)) p0.toNat).toNat : Int))).toInt64)))]].flatten := hD
    refine lv_istore (lv' := [(5, .int (qI (0))), (0, .ref (b)), (1, .ref (x)), (2, .ref (mo)), (3, .ref (oa)), (4, .int (qI (((6 * t : Nat) : Int))))]) hx hb dL_law_263 hl (by decide) rfl (fun ls hl => ?_)
    refine lv_aload_n hx hb dL_law_265 rfl (lv_at hl 3 rfl) ?_
    refine lv_aload_n hx hb dL_law_266 rfl (lv_at hl 1 rfl) ?_
    refine lv_iload hx hb dL_law_267 (lv_at hl 5 rfl) ?_
    refine q_iconst hx hb dL_law_269 ?_
    refine q_iadd hx hb dL_law_270 ?_
    refine q_sld (j := 6 * t + 1) hx hb hX hbl hbA hS (by omega) ep0 dL_law_271 ?_
    refine q_backi [0] [1, 2] (br := [u_260, [(oa, aJ cy 1 (qu (g) 0 ((qI (((fOC (filS T (-1)) p0.toNat).toNat : Int))).toInt64)))]]) hP hD hS hA (va_runV (As := [.int (qI (p0))]) (rest := []) ⟨hx, hb, hml, hown, hg⟩ (c_X8_remove l D cy mo mz msv mtx mmo mif mmg mtn mie mme mrd mas T hz HZ len tx th _ gT.1 hM9 p0 p0.toNat (by omega) _) (cv_L_91 hg rfl rfl ⟨(Nat.le_of_ble_eq_true rfl), (Nat.le_of_ble_eq_true rfl)⟩) ⟨q_blind, va_recv hK (fl_blk hP 0 rfl) (ci := 8) (q0 := 0) rfl hfsM, q_preM _ hK hN hP hD [0] (by decide) rfl⟩ rfl rfl hl.1 rfl (lv_room (Nat.le_of_ble_eq_true rfl)) dL_law_272 ⟨(by show _ + 0 ≤ 601024; omega), (by show _ + 0 ≤ 7293034; omega)⟩) rfl rfl (by decide) (fun r_272 u_272 H locs h_272 hP hD hS => ?_)
    have hP : va_P D vwCl [u_260, [(oa, aJ cy 1 (qu (g) 0 ((qI (((fOC (filS T (-1)) p0.toNat).toNat : Int))).toInt64)))], u_272].flatten H := hP
    have hD : va_D A [u_260, [(oa, aJ cy 1 (qu (g) 0 ((qI (((fOC (filS T (-1)) p0.toNat).toNat : Int))).toInt64)))], u_272].flatten := hD
    obtain ⟨rfl, h_272⟩ := h_272
    obtain ⟨fs_272, hfs_272⟩ := MW_at h_272
    have gk9 : gOk ((seT (rmC T p0.toNat))) := seT_gOk (rmC_ok gT.1 _)
    refine lv_istore (lv' := [(6, .int (qI ((fOC (filS T (-1)) p0.toNat).toNat : Int))), (5, .int (qI (0))), (0, .ref (b)), (1, .ref (x)), (2, .ref (mo)), (3, .ref (oa)), (4, .int (qI (((6 * t : Nat) : Int))))]) hx hb dL_law_275 hl (by decide) rfl (fun ls hl => ?_)
    refine lv_aload_n hx hb dL_law_277 rfl (lv_at hl 4 rfl) ?_
    refine q_backi [2] [0, 1] (br := [u_260, [(oa, aJ cy 1 (qu (g) 0 ((qI (((fOC (filS T (-1)) p0.toNat).toNat : Int))).toInt64)))]]) hP hD hS hA (va_runV (As := []) (rest := []) ⟨hx, hb, hml, hown, hg⟩ (c_X8_thrown l D cy mo mz msv mtx mmo mif mmg mtn mie mme mrd mas (seT (rmC T p0.toNat)) (min (hz + 1) 8) (pushH T HZ) len tx 0 _ gk9 h_272 _) (cv_L_85 hg rfl rfl ⟨(Nat.le_of_ble_eq_true rfl), (Nat.le_of_ble_eq_true rfl)⟩) ⟨q_blind, va_recv hK (fl_blk hP 2 rfl) (ci := 8) (q0 := 0) rfl hfs_272, q_preM _ hK hN hP hD [2] (by decide) rfl⟩ rfl rfl hl.1 rfl (lv_room (Nat.le_of_ble_eq_true rfl)) dL_law_278 ⟨(by show _ + 0 ≤ 601024; omega), (by show _ + 0 ≤ 7293034; omega)⟩) rfl rfl (by decide) (fun r_278 u_278 H locs h_278 hP hD hS => ?_)
    have hP : va_P D vwCl [u_260, [(oa, aJ cy 1 (qu (g) 0 ((qI (((fOC (filS T (-1)) p0.toNat).toNat : Int))).toInt64)))], u_278].flatten H := hP
    have hD : va_D A [u_260, [(oa, aJ cy 1 (qu (g) 0 ((qI (((fOC (filS T (-1)) p0.toNat).toNat : Int))).toInt64)))], u_278].flatten := hD
    obtain ⟨rfl, h_278⟩ := h_278
    refine lv_iload hx hb dL_law_281 (lv_at hl 1 rfl) ?_
    refine q_icmp_eq (tgt := 288) hx hb dL_law_283 (by decide) (by omega) (fun c_283 => ?_) (fun c_283 => ?_)
    · skip
      refine lv_iload hx hb dL_law_288 (lv_at hl 1 rfl) ?_
      refine q_if_ne (tgt := 305) hx hb dL_law_290 (by decide) (by omega) (fun c_290 => ?_) (fun c_290 => ?_)
      · skip
        exact absurd c_290 (by decide)
      · skip
        refine lv_aload_n hx hb dL_law_293 rfl (lv_at hl 5 rfl) ?_
        refine q_iconst hx hb dL_law_294 ?_
        refine q_laldW (j := 0) (v := (qI (((fOC (filS T (-1)) p0.toNat).toNat : Int))).toInt64) hx hb hK (fl_blk hP 1 rfl) 0 rfl (by omega) (qu_s _ _ _) dL_law_295 ?_
        refine lv_iload hx hb dL_law_296 (lv_at hl 0 rfl) ?_
        refine lv_i2l hx hb dL_law_298 rfl ?_
        refine q_lcmp0 hx hb dL_law_299 ?_
        refine q_if_eq (tgt := 305) hx hb dL_law_300 (by decide) (by omega) (fun c_300 => ?_) (fun c_300 => ?_)
        · skip
          refine lv_goto (tgt := 1420) hx hb dL_law_305 (by decide) ?_
          have hP := fl_sub (bs' := [u_260, u_278, [(oa, aJ cy 1 (qu (g) 0 ((qI (((fOC (filS T (-1)) p0.toNat).toNat : Int))).toInt64)))]]) hP [0, 2, 1] rfl
          have hD := fl_subD (bs' := [u_260, u_278, [(oa, aJ cy 1 (qu (g) 0 ((qI (((fOC (filS T (-1)) p0.toNat).toNat : Int))).toInt64)))]]) hD [0, 2, 1] (by decide) rfl
          refine W.widen (k := cells + 1) (n := slots + 6) (by omega) (by omega) ?_
          exact kk (seT (rmC T p0.toNat)) (min (hz + 1) 8) (pushH T HZ) len tx 0 _ _ _ _ _ _ ⟨⟨la, lv9, ls9, fa, xh, xs, la2, lv92, ls92, fb, fw, bu, ta, rc, re, gb, oc, oe, rs, rc2, re2, gb2, oc2, oe2, rs2, rr, ad, h_260⟩, ⟨mz, msv, mtx, mmo, mif, mmg, mtn, mie, mme, mrd, mas, h_278⟩, ⟨seT_gOk (rmC_ok gT.1 _), gT3⟩, gK_push gT hHG, (by omega)⟩ hP hD hS (lv_sub hl [2, 3, 4, 5, 6] rfl)
        · skip
          exact absurd c_300 (by decide)
    · skip
      exact absurd c_283 (by decide)
  · skip
    refine lv_aload_n hx hb dL_law_252 rfl (lv_at hl 1 rfl) ?_
    refine lv_aload_n hx hb dL_law_253 rfl (lv_at hl 0 rfl) ?_
    refine lv_iload hx hb dL_law_254 (lv_at hl 4 rfl) ?_
    refine q_iconst hx hb dL_law_256 ?_
    refine q_iadd hx hb dL_law_257 ?_
    refine q_sld (j := 6 * t + 1) hx hb hX hbl hbA hS (by omega) ep0 dL_law_258 ?_
    refine lv_aload_n hx hb dL_law_259 rfl (lv_at hl 3 rfl) ?_
    refine q_backiX (mc := 1) (ms := 6) [0, 2] [1] (br := [M9]) hP hD hS hA (vx_runSW (As := [.ref (x), .int (qI (p0)), .ref (oa)]) (rest := []) ⟨hx, hb, hml, hown, hg⟩ (c_L_remove_no1 l hlt9 D cy x la lv9 ls9 fa xh xs la2 lv92 ls92 fb fw bu ta rc re gb oc oe rs rc2 re2 gb2 oc2 oe2 rs2 rr ad T hz HZ len tx _ gT.1 hC9 oa _ p0 (by omega) (by omega) _) (csW_L_88 hg rfl rfl ⟨(Nat.le_of_ble_eq_true rfl), (Nat.le_of_ble_eq_true rfl)⟩) ⟨q_blindW, fun U hU hU9 => ⟨rfl, (q_preM [.ref (x), .int (qI (p0)), .ref (oa)] hK hN hP hD [0, 2] (by decide) rfl U hU hU9).2, hEx9.step hU9 (by rw [hU]; exact hS.2.1) (fl_free hD hS hA [0, 2] rfl), hNc9.moved hU9.alike⟩⟩ rfl rfl hl.1 rfl (lv_room (Nat.le_of_ble_eq_true rfl)) dL_law_260 ⟨(by show cells + 1 ≤ 601024; omega), (by show slots + 6 ≤ 7293034; omega)⟩) rfl rfl (by decide) (fun r_260 u_260 H locs h_260 hP hD hS => ?_)
    obtain ⟨rfl, h_260⟩ := h_260
    have hP : va_P D vwCl [M9, u_260, [(oa, aJ cy 1 (g))]].flatten H := hP
    have hD : va_D A [M9, u_260, [(oa, aJ cy 1 (g))]].flatten := hD
    refine lv_istore (lv' := [(5, .int (qI (1))), (0, .ref (b)), (1, .ref (x)), (2, .ref (mo)), (3, .ref (oa)), (4, .int (qI (((6 * t : Nat) : Int))))]) hx hb dL_law_263 hl (by decide) rfl (fun ls hl => ?_)
    refine lv_aload_n hx hb dL_law_265 rfl (lv_at hl 3 rfl) ?_
    refine lv_aload_n hx hb dL_law_266 rfl (lv_at hl 1 rfl) ?_
    refine lv_iload hx hb dL_law_267 (lv_at hl 5 rfl) ?_
    refine q_iconst hx hb dL_law_269 ?_
    refine q_iadd hx hb dL_law_270 ?_
    refine q_sld (j := 6 * t + 1) hx hb hX hbl hbA hS (by omega) ep0 dL_law_271 ?_
    refine q_backi [0] [1, 2] (br := [u_260, [(oa, aJ cy 1 (g))]]) hP hD hS hA (va_runV (As := [.int (qI (p0))]) (rest := []) ⟨hx, hb, hml, hown, hg⟩ (c_X8_remove_no1 l D cy mo mz msv mtx mmo mif mmg mtn mie mme mrd mas T hz HZ len tx th _ gT.1 hM9 p0 (by omega) (by omega) _) (cv_L_91 hg rfl rfl ⟨(Nat.le_of_ble_eq_true rfl), (Nat.le_of_ble_eq_true rfl)⟩) ⟨q_blind, va_recv hK (fl_blk hP 0 rfl) (ci := 8) (q0 := 0) rfl hfsM, q_preM _ hK hN hP hD [0] (by decide) rfl⟩ rfl rfl hl.1 rfl (lv_room (Nat.le_of_ble_eq_true rfl)) dL_law_272 ⟨(by show _ + 0 ≤ 601024; omega), (by show _ + 0 ≤ 7293034; omega)⟩) rfl rfl (by decide) (fun r_272 u_272 H locs h_272 hP hD hS => ?_)
    have hP : va_P D vwCl [u_260, [(oa, aJ cy 1 (g))], u_272].flatten H := hP
    have hD : va_D A [u_260, [(oa, aJ cy 1 (g))], u_272].flatten := hD
    obtain ⟨fs_272, hfs_272⟩ := MW_at h_272
    have gk9 : gOk (T) := gT.1
    refine lv_istore (lv' := [(6, .int (r_272)), (5, .int (qI (1))), (0, .ref (b)), (1, .ref (x)), (2, .ref (mo)), (3, .ref (oa)), (4, .int (qI (((6 * t : Nat) : Int))))]) hx hb dL_law_275 hl (by decide) rfl (fun ls hl => ?_)
    refine lv_aload_n hx hb dL_law_277 rfl (lv_at hl 4 rfl) ?_
    refine q_backi [2] [0, 1] (br := [u_260, [(oa, aJ cy 1 (g))]]) hP hD hS hA (va_runV (As := []) (rest := []) ⟨hx, hb, hml, hown, hg⟩ (c_X8_thrown l D cy mo mz msv mtx mmo mif mmg mtn mie mme mrd mas T hz HZ len tx 1 _ gk9 h_272 _) (cv_L_85 hg rfl rfl ⟨(Nat.le_of_ble_eq_true rfl), (Nat.le_of_ble_eq_true rfl)⟩) ⟨q_blind, va_recv hK (fl_blk hP 2 rfl) (ci := 8) (q0 := 0) rfl hfs_272, q_preM _ hK hN hP hD [2] (by decide) rfl⟩ rfl rfl hl.1 rfl (lv_room (Nat.le_of_ble_eq_true rfl)) dL_law_278 ⟨(by show _ + 0 ≤ 601024; omega), (by show _ + 0 ≤ 7293034; omega)⟩) rfl rfl (by decide) (fun r_278 u_278 H locs h_278 hP hD hS => ?_)
    have hP : va_P D vwCl [u_260, [(oa, aJ cy 1 (g))], u_278].flatten H := hP
    have hD : va_D A [u_260, [(oa, aJ cy 1 (g))], u_278].flatten := hD
    obtain ⟨rfl, h_278⟩ := h_278
    refine lv_iload hx hb dL_law_281 (lv_at hl 1 rfl) ?_
    refine q_icmp_eq (tgt := 288) hx hb dL_law_283 (by decide) (by omega) (fun c_283 => ?_) (fun c_283 => ?_)
    · skip
      refine lv_iload hx hb dL_law_288 (lv_at hl 1 rfl) ?_
      refine q_if_ne (tgt := 305) hx hb dL_law_290 (by decide) (by omega) (fun c_290 => ?_) (fun c_290 => ?_)
      · skip
        refine lv_goto (tgt := 1420) hx hb dL_law_305 (by decide) ?_
        have hP := fl_sub (bs' := [u_260, u_278, [(oa, aJ cy 1 (g))]]) hP [0, 2, 1] rfl
        have hD := fl_subD (bs' := [u_260, u_278, [(oa, aJ cy 1 (g))]]) hD [0, 2, 1] (by decide) rfl
        exact kk T hz HZ len tx 1 _ _ _ _ _ _ ⟨⟨la, lv9, ls9, fa, xh, xs, la2, lv92, ls92, fb, fw, bu, ta, rc, re, gb, oc, oe, rs, rc2, re2, gb2, oc2, oe2, rs2, rr, ad, h_260⟩, ⟨mz, msv, mtx, mmo, mif, mmg, mtn, mie, mme, mrd, mas, h_278⟩, gT, hHG, (by omega)⟩ hP hD hS (lv_sub hl [2, 3, 4, 5, 6] rfl)
      · skip
        exact absurd c_290 (by decide)
    · skip
      exact absurd c_283 (by decide)
