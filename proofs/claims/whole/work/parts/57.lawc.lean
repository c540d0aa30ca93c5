set_option maxRecDepth 100000 in
set_option maxHeartbeats 4000000 in
theorem lw_add {p : Program} {l : Launch} {e : Env} {s : State} {m : MethodId} {below : List Frame} {meth : Method} {c : Code} {b L : Nat} {sc9 : Nat → Int32} {D : va_G} {cy : Nat → ClassId} {A : Nat → Prop} {Q : State → Prop} (hlt9 : l.stackTraces = false) (B9 : lwB p s m c b L sc9 D cy A) {x mo oa t : Nat} (ht9 : 6 * t + 6 ≤ L) {T : LSt} {hz : Nat} {HZ : Nat → LSt} {len : Nat} {tx : Nat → Int} {th : Int} {W9 M9 : va_W} {g : Nat → Int64} {cells slots : Nat} (hr9 : cells ≤ 1000 ∧ slots ≤ 8000) (hI9 : lwI cy x mo T hz HZ len tx th W9 M9) {H : Heap} {locs : List Loc} {ls : Array Slot} (hP : va_P D vwCl [W9, M9, [(oa, aJ cy 1 g)]].flatten H) (hD : va_D A [W9, M9, [(oa, aJ cy 1 g)]].flatten) (hS : va_S A s.heap H locs) (hl : lv_has ls 9 (lwL b x mo oa t)) (kk : lwK p l e s m below meth c b D cy A Q x mo oa t cells slots) : W p l e room_1 s m #[Value.ref b] below meth c H locs cells slots Q (F0 m 148 ls []) := by
  obtain ⟨hx, hb, hml, hown, hg, hX, hbl, hbA, hA, hK, hN, hEx9, hNc9, hL9⟩ := B9
  obtain ⟨⟨la, lv9, ls9, fa, xh, xs, la2, lv92, ls92, fb, fw, bu, ta, rc, re, gb, oc, oe, rs, rc2, re2, gb2, oc2, oe2, rs2, rr, ad, hC9⟩, ⟨mz, msv, mtx, mmo, mif, mmg, mtn, mie, mme, mrd, mas, hM9⟩, gT, hHG, hln9⟩ := hI9
  have gT3 := gT.2
  have gN16 : lN9 T ≤ 16 := gT.1.2.2.1.1
  obtain ⟨fsC, hfsC⟩ := CW_at hC9
  obtain ⟨fsM, hfsM⟩ := MW_at hM9
  have hl : lv_has ls 9 [(0, .ref (b)), (1, .ref (x)), (2, .ref (mo)), (3, .ref (oa)), (4, .int (qI (((6 * t : Nat) : Int))))] := hl
  obtain ⟨p0, ep0⟩ : ∃ z : Int, (sc9 (6 * t + 1)).toInt = z := ⟨_, rfl⟩
  have r0 : -2147483648 ≤ p0 ∧ p0 < 2147483648 := by rw [← ep0]; exact ⟨Int32.le_toInt _, Int32.toInt_lt _⟩
  obtain ⟨p1, ep1⟩ : ∃ z : Int, (sc9 (6 * t + 2)).toInt = z := ⟨_, rfl⟩
  have r1 : -2147483648 ≤ p1 ∧ p1 < 2147483648 := by rw [← ep1]; exact ⟨Int32.le_toInt _, Int32.toInt_lt _⟩
  obtain ⟨p2, ep2⟩ : ∃ z : Int, (sc9 (6 * t + 3)).toInt = z := ⟨_, rfl⟩
  have r2 : -2147483648 ≤ p2 ∧ p2 < 2147483648 := by rw [← ep2]; exact ⟨Int32.le_toInt _, Int32.toInt_lt _⟩
  obtain ⟨p3, ep3⟩ : ∃ z : Int, (sc9 (6 * t + 4)).toInt = z := ⟨_, rfl⟩
  have r3 : -2147483648 ≤ p3 ∧ p3 < 2147483648 := by rw [← ep3]; exact ⟨Int32.le_toInt _, Int32.toInt_lt _⟩
  obtain ⟨p4, ep4⟩ : ∃ z : Int, (sc9 (6 * t + 5)).toInt = z := ⟨_, rfl⟩
  have r4 : -2147483648 ≤ p4 ∧ p4 < 2147483648 := by rw [← ep4]; exact ⟨Int32.le_toInt _, Int32.toInt_lt _⟩
  by_cases cA9 : (0 ≤ p0 ∧ p0 ≤ 9) ∧ (p1 = -1 ∨ (0 ≤ p1 ∧ p1 ≤ 9 ∧ p1 ≠ p0))
  · skip
    by_cases cB9 : (0 ≤ p2 ∧ p2 ≤ 2) ∧ (-2000 ≤ p3 ∧ p3 ≤ 2000) ∧ (0 ≤ p4 ∧ p4 ≤ 3)
    · skip
      by_cases cC9 : lN9 T < 16
      · skip
        refine lv_aload_n hx hb dL_law_148 rfl (lv_at hl 1 rfl) ?_
        refine lv_aload_n hx hb dL_law_149 rfl (lv_at hl 0 rfl) ?_
        refine lv_iload hx hb dL_law_150 (lv_at hl 4 rfl) ?_
        refine q_iconst hx hb dL_law_152 ?_
        refine q_iadd hx hb dL_law_153 ?_
        refine q_sld (j := 6 * t + 1) hx hb hX hbl hbA hS (by omega) ep0 dL_law_154 ?_
        refine lv_aload_n hx hb dL_law_155 rfl (lv_at hl 0 rfl) ?_
        refine lv_iload hx hb dL_law_156 (lv_at hl 4 rfl) ?_
        refine q_iconst hx hb dL_law_158 ?_
        refine q_iadd hx hb dL_law_159 ?_
        refine q_sld (j := 6 * t + 2) hx hb hX hbl hbA hS (by omega) ep1 dL_law_160 ?_
        refine lv_aload_n hx hb dL_law_161 rfl (lv_at hl 0 rfl) ?_
        refine lv_iload hx hb dL_law_162 (lv_at hl 4 rfl) ?_
        refine q_iconst hx hb dL_law_164 ?_
        refine q_iadd hx hb dL_law_165 ?_
        refine q_sld (j := 6 * t + 3) hx hb hX hbl hbA hS (by omega) ep2 dL_law_166 ?_
        refine lv_aload_n hx hb dL_law_167 rfl (lv_at hl 0 rfl) ?_
        refine lv_iload hx hb dL_law_168 (lv_at hl 4 rfl) ?_
        refine q_iconst hx hb dL_law_170 ?_
        refine q_iadd hx hb dL_law_171 ?_
        refine q_sld (j := 6 * t + 4) hx hb hX hbl hbA hS (by omega) ep3 dL_law_172 ?_
        refine lv_aload_n hx hb dL_law_173 rfl (lv_at hl 0 rfl) ?_
        refine lv_iload hx hb dL_law_174 (lv_at hl 4 rfl) ?_
        refine q_iconst hx hb dL_law_176 ?_
        refine q_iadd hx hb dL_law_177 ?_
        refine q_sld (j := 6 * t + 5) hx hb hX hbl hbA hS (by omega) ep4 dL_law_178 ?_
        refine lv_aload_n hx hb dL_law_179 rfl (lv_at hl 3 rfl) ?_
        refine q_backiX (mc := 0) (ms := 0) [0, 2] [1] (br := [M9]) hP hD hS hA (vx_runSW (As := [.ref (x), .int (qI (p0)), .int (qI (p1)), .int (qI (p2)), .int (qI (p3)), .int (qI (p4)), .ref (oa)]) (rest := []) ⟨hx, hb, hml, hown, hg⟩ (c_L_add l D cy x la lv9 ls9 fa xh xs la2 lv92 ls92 fb fw bu ta rc re gb oc oe rs rc2 re2 gb2 oc2 oe2 rs2 rr ad T hz HZ len tx _ gT.1 hC9 oa _ p0 p1 p2 p3 p4 (by omega) (by omega) (by omega) (by omega) (by omega) (by omega) _) (csW_L_79 hg rfl rfl ⟨(Nat.le_of_ble_eq_true rfl), (Nat.le_of_ble_eq_true rfl)⟩) ⟨q_blind, q_preM [.ref (x), .int (qI (p0)), .int (qI (p1)), .int (qI (p2)), .int (qI (p3)), .int (qI (p4)), .ref (oa)] hK hN hP hD [0, 2] (by decide) rfl⟩ rfl rfl hl.1 rfl (lv_room (Nat.le_of_ble_eq_true rfl)) dL_law_180 ⟨(by show cells + 0 ≤ 601024; omega), (by show slots + 0 ≤ 7293034; omega)⟩) rfl rfl (by decide) (fun r_180 u_180 H locs h_180 hP hD hS => ?_)
        obtain ⟨rfl, h_180⟩ := h_180
        have hP : va_P D vwCl [M9, u_180, [(oa, aJ cy 1 (qu (g) 0 ((qI ((lN9 T : Int))).toInt64)))]].flatten H := hP
        have hD : va_D A [M9, u_180, [(oa, aJ cy 1 (qu (g) 0 ((qI ((lN9 T : Int))).toInt64)))]].flatten := hD
        refine lv_istore (lv' := [(5, .int (qI (0))), (0, .ref (b)), (1, .ref (x)), (2, .ref (mo)), (3, .ref (oa)), (4, .int (qI (((6 * t : Nat) : Int))))]) hx hb dL_law_183 hl (by decide) rfl (fun ls hl => ?_)
        refine lv_aload_n hx hb dL_law_185 rfl (lv_at hl 3 rfl) ?_
        refine lv_aload_n hx hb dL_law_186 rfl (lv_at hl 1 rfl) ?_
        refine lv_iload hx hb dL_law_187 (lv_at hl 5 rfl) ?_
        refine q_iconst hx hb dL_law_189 ?_
        refine q_iadd hx hb dL_law_190 ?_
        refine q_sld (j := 6 * t + 1) hx hb hX hbl hbA hS (by omega) ep0 dL_law_191 ?_
        refine lv_aload_n hx hb dL_law_192 rfl (lv_at hl 1 rfl) ?_
        refine lv_iload hx hb dL_law_193 (lv_at hl 5 rfl) ?_
        refine q_iconst hx hb dL_law_195 ?_
        refine q_iadd hx hb dL_law_196 ?_
        refine q_sld (j := 6 * t + 2) hx hb hX hbl hbA hS (by omega) ep1 dL_law_197 ?_
        refine lv_aload_n hx hb dL_law_198 rfl (lv_at hl 1 rfl) ?_
        refine lv_iload hx hb dL_law_199 (lv_at hl 5 rfl) ?_
        refine q_iconst hx hb dL_law_201 ?_
        refine q_iadd hx hb dL_law_202 ?_
        refine q_sld (j := 6 * t + 3) hx hb hX hbl hbA hS (by omega) ep2 dL_law_203 ?_
        refine lv_aload_n hx hb dL_law_204 rfl (lv_at hl 1 rfl) ?_
        refine lv_iload hx hb dL_law_205 (lv_at hl 5 rfl) ?_
        refine q_iconst hx hb dL_law_207 ?_
        refine q_iadd hx hb dL_law_208 ?_
        refine q_sld (j := 6 * t + 4) hx hb hX hbl hbA hS (by omega) ep3 dL_law_209 ?_
        refine lv_aload_n hx hb dL_law_210 rfl (lv_at hl 1 rfl) ?_
        refine lv_iload hx hb dL_law_211 (lv_at hl 5 rfl) ?_
        refine q_iconst hx hb dL_law_213 ?_
        refine q_iadd hx hb dL_law_214 ?_
        refine q_sld (j := 6 * t + 5) hx hb hX hbl hbA hS (by omega) ep4 dL_law_215 ?_
        refine q_backi [0] [1, 2] (br := [u_180, [(oa, aJ cy 1 (qu (g) 0 ((qI ((lN9 T : Int))).toInt64)))]]) hP hD hS hA (va_runV (As := [.int (qI (p0)), .int (qI (p1)), .int (qI (p2)), .int (qI (p3)), .int (qI (p4))]) (rest := []) ⟨hx, hb, hml, hown, hg⟩ (c_X8_add l D cy mo mz msv mtx mmo mif mmg mtn mie mme mrd mas T hz HZ len tx th _ gT.1 hM9 p0 p1 p2 p3 p4 (by omega) (by omega) (by omega) (by omega) (by omega) (by omega) _) (cv_L_84 hg rfl rfl ⟨(Nat.le_of_ble_eq_true rfl), (Nat.le_of_ble_eq_true rfl)⟩) ⟨q_blind, va_recv hK (fl_blk hP 0 rfl) (ci := 8) (q0 := 0) rfl hfsM, q_preM _ hK hN hP hD [0] (by decide) rfl⟩ rfl rfl hl.1 rfl (lv_room (Nat.le_of_ble_eq_true rfl)) dL_law_216 ⟨(by show _ + 0 ≤ 601024; omega), (by show _ + 0 ≤ 7293034; omega)⟩) rfl rfl (by decide) (fun r_216 u_216 H locs h_216 hP hD hS => ?_)
        have hP : va_P D vwCl [u_180, [(oa, aJ cy 1 (qu (g) 0 ((qI ((lN9 T : Int))).toInt64)))], u_216].flatten H := hP
        have hD : va_D A [u_180, [(oa, aJ cy 1 (qu (g) 0 ((qI ((lN9 T : Int))).toInt64)))], u_216].flatten := hD
        obtain ⟨rfl, h_216⟩ := h_216
        obtain ⟨fs_216, hfs_216⟩ := MW_at h_216
        have gk9 : gOk ((seT (adC T p0 p1 p2 p3 p4))) := seT_gOk (adC_ok gT.1 (by omega) (by omega))
        refine lv_istore (lv' := [(6, .int (qI (lN9 T : Int))), (5, .int (qI (0))), (0, .ref (b)), (1, .ref (x)), (2, .ref (mo)), (3, .ref (oa)), (4, .int (qI (((6 * t : Nat) : Int))))]) hx hb dL_law_219 hl (by decide) rfl (fun ls hl => ?_)
        refine lv_aload_n hx hb dL_law_221 rfl (lv_at hl 4 rfl) ?_
        refine q_backi [2] [0, 1] (br := [u_180, [(oa, aJ cy 1 (qu (g) 0 ((qI ((lN9 T : Int))).toInt64)))]]) hP hD hS hA (va_runV (As := []) (rest := []) ⟨hx, hb, hml, hown, hg⟩ (c_X8_thrown l D cy mo mz msv mtx mmo mif mmg mtn mie mme mrd mas (seT (adC T p0 p1 p2 p3 p4)) (min (hz + 1) 8) (pushH T HZ) len tx 0 _ gk9 h_216 _) (cv_L_85 hg rfl rfl ⟨(Nat.le_of_ble_eq_true rfl), (Nat.le_of_ble_eq_true rfl)⟩) ⟨q_blind, va_recv hK (fl_blk hP 2 rfl) (ci := 8) (q0 := 0) rfl hfs_216, q_preM _ hK hN hP hD [2] (by decide) rfl⟩ rfl rfl hl.1 rfl (lv_room (Nat.le_of_ble_eq_true rfl)) dL_law_222 ⟨(by show _ + 0 ≤ 601024; omega), (by show _ + 0 ≤ 7293034; omega)⟩) rfl rfl (by decide) (fun r_222 u_222 H locs h_222 hP hD hS => ?_)
        have hP : va_P D vwCl [u_180, [(oa, aJ cy 1 (qu (g) 0 ((qI ((lN9 T : Int))).toInt64)))], u_222].flatten H := hP
        have hD : va_D A [u_180, [(oa, aJ cy 1 (qu (g) 0 ((qI ((lN9 T : Int))).toInt64)))], u_222].flatten := hD
        obtain ⟨rfl, h_222⟩ := h_222
        refine lv_iload hx hb dL_law_225 (lv_at hl 1 rfl) ?_
        refine q_icmp_eq (tgt := 232) hx hb dL_law_227 (by decide) (by omega) (fun c_227 => ?_) (fun c_227 => ?_)
        · skip
          refine lv_iload hx hb dL_law_232 (lv_at hl 1 rfl) ?_
          refine q_if_ne (tgt := 249) hx hb dL_law_234 (by decide) (by omega) (fun c_234 => ?_) (fun c_234 => ?_)
          · skip
            exact absurd c_234 (by decide)
          · skip
            refine lv_aload_n hx hb dL_law_237 rfl (lv_at hl 5 rfl) ?_
            refine q_iconst hx hb dL_law_238 ?_
            refine q_laldW (j := 0) (v := (qI ((lN9 T : Int))).toInt64) hx hb hK (fl_blk hP 1 rfl) 0 rfl (by omega) (qu_s _ _ _) dL_law_239 ?_
            refine lv_iload hx hb dL_law_240 (lv_at hl 0 rfl) ?_
            refine lv_i2l hx hb dL_law_242 rfl ?_
            refine q_lcmp0 hx hb dL_law_243 ?_
            refine q_if_eq (tgt := 249) hx hb dL_law_244 (by decide) (by omega) (fun c_244 => ?_) (fun c_244 => ?_)
            · skip
              refine lv_goto (tgt := 1420) hx hb dL_law_249 (by decide) ?_
              have hP := fl_sub (bs' := [u_180, u_222, [(oa, aJ cy 1 (qu (g) 0 ((qI ((lN9 T : Int))).toInt64)))]]) hP [0, 2, 1] rfl
              have hD := fl_subD (bs' := [u_180, u_222, [(oa, aJ cy 1 (qu (g) 0 ((qI ((lN9 T : Int))).toInt64)))]]) hD [0, 2, 1] (by decide) rfl
              refine W.widen (k := cells + 1) (n := slots + 6) (by omega) (by omega) ?_
              exact kk (seT (adC T p0 p1 p2 p3 p4)) (min (hz + 1) 8) (pushH T HZ) len tx 0 _ _ _ _ _ _ ⟨⟨la, lv9, ls9, fa, xh, xs, la2, lv92, ls92, fb, fw, bu, ta, rc, re, gb, oc, oe, rs, rc2, re2, gb2, oc2, oe2, rs2, rr, ad, h_180⟩, ⟨mz, msv, mtx, mmo, mif, mmg, mtn, mie, mme, mrd, mas, h_222⟩, ⟨seT_gOk (adC_ok gT.1 (by omega) (by omega)), gT3⟩, gK_push gT hHG, (by omega)⟩ hP hD hS (lv_sub hl [2, 3, 4, 5, 6] rfl)
            · skip
              exact absurd c_244 (by decide)
        · skip
          exact absurd c_227 (by decide)
      · skip
        refine lv_aload_n hx hb dL_law_148 rfl (lv_at hl 1 rfl) ?_
        refine lv_aload_n hx hb dL_law_149 rfl (lv_at hl 0 rfl) ?_
        refine lv_iload hx hb dL_law_150 (lv_at hl 4 rfl) ?_
        refine q_iconst hx hb dL_law_152 ?_
        refine q_iadd hx hb dL_law_153 ?_
        refine q_sld (j := 6 * t + 1) hx hb hX hbl hbA hS (by omega) ep0 dL_law_154 ?_
        refine lv_aload_n hx hb dL_law_155 rfl (lv_at hl 0 rfl) ?_
        refine lv_iload hx hb dL_law_156 (lv_at hl 4 rfl) ?_
        refine q_iconst hx hb dL_law_158 ?_
        refine q_iadd hx hb dL_law_159 ?_
        refine q_sld (j := 6 * t + 2) hx hb hX hbl hbA hS (by omega) ep1 dL_law_160 ?_
        refine lv_aload_n hx hb dL_law_161 rfl (lv_at hl 0 rfl) ?_
        refine lv_iload hx hb dL_law_162 (lv_at hl 4 rfl) ?_
        refine q_iconst hx hb dL_law_164 ?_
        refine q_iadd hx hb dL_law_165 ?_
        refine q_sld (j := 6 * t + 3) hx hb hX hbl hbA hS (by omega) ep2 dL_law_166 ?_
        refine lv_aload_n hx hb dL_law_167 rfl (lv_at hl 0 rfl) ?_
        refine lv_iload hx hb dL_law_168 (lv_at hl 4 rfl) ?_
        refine q_iconst hx hb dL_law_170 ?_
        refine q_iadd hx hb dL_law_171 ?_
        refine q_sld (j := 6 * t + 4) hx hb hX hbl hbA hS (by omega) ep3 dL_law_172 ?_
        refine lv_aload_n hx hb dL_law_173 rfl (lv_at hl 0 rfl) ?_
        refine lv_iload hx hb dL_law_174 (lv_at hl 4 rfl) ?_
        refine q_iconst hx hb dL_law_176 ?_
        refine q_iadd hx hb dL_law_177 ?_
        refine q_sld (j := 6 * t + 5) hx hb hX hbl hbA hS (by omega) ep4 dL_law_178 ?_
        refine lv_aload_n hx hb dL_law_179 rfl (lv_at hl 3 rfl) ?_
        refine q_backiX (mc := 1) (ms := 6) [0, 2] [1] (br := [M9]) hP hD hS hA (vx_runSW (As := [.ref (x), .int (qI (p0)), .int (qI (p1)), .int (qI (p2)), .int (qI (p3)), .int (qI (p4)), .ref (oa)]) (rest := []) ⟨hx, hb, hml, hown, hg⟩ (c_L_add_no3 l hlt9 D cy x la lv9 ls9 fa xh xs la2 lv92 ls92 fb fw bu ta rc re gb oc oe rs rc2 re2 gb2 oc2 oe2 rs2 rr ad T hz HZ len tx _ gT.1 hC9 oa _ p0 p1 p2 p3 p4 (by omega) (by omega) (by omega) (by omega) (by omega) (by omega) (by omega) (by omega) _) (csW_L_79 hg rfl rfl ⟨(Nat.le_of_ble_eq_true rfl), (Nat.le_of_ble_eq_true rfl)⟩) ⟨q_blindW, fun U hU hU9 => ⟨rfl, (q_preM [.ref (x), .int (qI (p0)), .int (qI (p1)), .int (qI (p2)), .int (qI (p3)), .int (qI (p4)), .ref (oa)] hK hN hP hD [0, 2] (by decide) rfl U hU hU9).2, hEx9.step hU9 (by rw [hU]; exact hS.2.1) (fl_free hD hS hA [0, 2] rfl), hNc9.moved hU9.alike⟩⟩ rfl rfl hl.1 rfl (lv_room (Nat.le_of_ble_eq_true rfl)) dL_law_180 ⟨(by show cells + 1 ≤ 601024; omega), (by show slots + 6 ≤ 7293034; omega)⟩) rfl rfl (by decide) (fun r_180 u_180 H locs h_180 hP hD hS => ?_)
        obtain ⟨rfl, h_180⟩ := h_180
        have hP : va_P D vwCl [M9, u_180, [(oa, aJ cy 1 (g))]].flatten H := hP
        have hD : va_D A [M9, u_180, [(oa, aJ cy 1 (g))]].flatten := hD
        refine lv_istore (lv' := [(5, .int (qI (3))), (0, .ref (b)), (1, .ref (x)), (2, .ref (mo)), (3, .ref (oa)), (4, .int (qI (((6 * t : Nat) : Int))))]) hx hb dL_law_183 hl (by decide) rfl (fun ls hl => ?_)
        refine lv_aload_n hx hb dL_law_185 rfl (lv_at hl 3 rfl) ?_
        refine lv_aload_n hx hb dL_law_186 rfl (lv_at hl 1 rfl) ?_
        refine lv_iload hx hb dL_law_187 (lv_at hl 5 rfl) ?_
        refine q_iconst hx hb dL_law_189 ?_
        refine q_iadd hx hb dL_law_190 ?_
        refine q_sld (j := 6 * t + 1) hx hb hX hbl hbA hS (by omega) ep0 dL_law_191 ?_
        refine lv_aload_n hx hb dL_law_192 rfl (lv_at hl 1 rfl) ?_
        refine lv_iload hx hb dL_law_193 (lv_at hl 5 rfl) ?_
        refine q_iconst hx hb dL_law_195 ?_
        refine q_iadd hx hb dL_law_196 ?_
        refine q_sld (j := 6 * t + 2) hx hb hX hbl hbA hS (by omega) ep1 dL_law_197 ?_
        refine lv_aload_n hx hb dL_law_198 rfl (lv_at hl 1 rfl) ?_
        refine lv_iload hx hb dL_law_199 (lv_at hl 5 rfl) ?_
        refine q_iconst hx hb dL_law_201 ?_
        refine q_iadd hx hb dL_law_202 ?_
        refine q_sld (j := 6 * t + 3) hx hb hX hbl hbA hS (by omega) ep2 dL_law_203 ?_
        refine lv_aload_n hx hb dL_law_204 rfl (lv_at hl 1 rfl) ?_
        refine lv_iload hx hb dL_law_205 (lv_at hl 5 rfl) ?_
        refine q_iconst hx hb dL_law_207 ?_
        refine q_iadd hx hb dL_law_208 ?_
        refine q_sld (j := 6 * t + 4) hx hb hX hbl hbA hS (by omega) ep3 dL_law_209 ?_
        refine lv_aload_n hx hb dL_law_210 rfl (lv_at hl 1 rfl) ?_
        refine lv_iload hx hb dL_law_211 (lv_at hl 5 rfl) ?_
        refine q_iconst hx hb dL_law_213 ?_
        refine q_iadd hx hb dL_law_214 ?_
        refine q_sld (j := 6 * t + 5) hx hb hX hbl hbA hS (by omega) ep4 dL_law_215 ?_
        refine q_backi [0] [1, 2] (br := [u_180, [(oa, aJ cy 1 (g))]]) hP hD hS hA (va_runV (As := [.int (qI (p0)), .int (qI (p1)), .int (qI (p2)), .int (qI (p3)), .int (qI (p4))]) (rest := []) ⟨hx, hb, hml, hown, hg⟩ (c_X8_add_no3 l D cy mo mz msv mtx mmo mif mmg mtn mie mme mrd mas T hz HZ len tx th _ gT.1 hM9 p0 p1 p2 p3 p4 (by omega) (by omega) (by omega) (by omega) (by omega) (by omega) (by omega) (by omega) _) (cv_L_84 hg rfl rfl ⟨(Nat.le_of_ble_eq_true rfl), (Nat.le_of_ble_eq_true rfl)⟩) ⟨q_blind, va_recv hK (fl_blk hP 0 rfl) (ci := 8) (q0 := 0) rfl hfsM, q_preM _ hK hN hP hD [0] (by decide) rfl⟩ rfl rfl hl.1 rfl (lv_room (Nat.le_of_ble_eq_true rfl)) dL_law_216 ⟨(by show _ + 0 ≤ 601024; omega), (by show _ + 0 ≤ 7293034; omega)⟩) rfl rfl (by decide) (fun r_216 u_216 H locs h_216 hP hD hS => ?_)
        have hP : va_P D vwCl [u_180, [(oa, aJ cy 1 (g))], u_216].flatten H := hP
        have hD : va_D A [u_180, [(oa, aJ cy 1 (g))], u_216].flatten := hD
        obtain ⟨fs_216, hfs_216⟩ := MW_at h_216
        have gk9 : gOk (T) := gT.1
        refine lv_istore (lv' := [(6, .int (r_216)), (5, .int (qI (3))), (0, .ref (b)), (1, .ref (x)), (2, .ref (mo)), (3, .ref (oa)), (4, .int (qI (((6 * t : Nat) : Int))))]) hx hb dL_law_219 hl (by decide) rfl (fun ls hl => ?_)
        refine lv_aload_n hx hb dL_law_221 rfl (lv_at hl 4 rfl) ?_
        refine q_backi [2] [0, 1] (br := [u_180, [(oa, aJ cy 1 (g))]]) hP hD hS hA (va_runV (As := []) (rest := []) ⟨hx, hb, hml, hown, hg⟩ (c_X8_thrown l D cy mo mz msv mtx mmo mif mmg mtn mie mme mrd mas T hz HZ len tx 3 _ gk9 h_216 _) (cv_L_85 hg rfl rfl ⟨(Nat.le_of_ble_eq_true rfl), (Nat.le_of_ble_eq_true rfl)⟩) ⟨q_blind, va_recv hK (fl_blk hP 2 rfl) (ci := 8) (q0 := 0) rfl hfs_216, q_preM _ hK hN hP hD [2] (by decide) rfl⟩ rfl rfl hl.1 rfl (lv_room (Nat.le_of_ble_eq_true rfl)) dL_law_222 ⟨(by show _ + 0 ≤ 601024; omega), (by show _ + 0 ≤ 7293034; omega)⟩) rfl rfl (by decide) (fun r_222 u_222 H locs h_222 hP hD hS => ?_)
        have hP : va_P D vwCl [u_180, [(oa, aJ cy 1 (g))], u_222].flatten H := hP
        have hD : va_D A [u_180, [(oa, aJ cy 1 (g))], u_222].flatten := hD
        obtain ⟨rfl, h_222⟩ := h_222
        refine lv_iload hx hb dL_law_225 (lv_at hl 1 rfl) ?_
        refine q_icmp_eq (tgt := 232) hx hb dL_law_227 (by decide) (by omega) (fun c_227 => ?_) (fun c_227 => ?_)
        · skip
          refine lv_iload hx hb dL_law_232 (lv_at hl 1 rfl) ?_
          refine q_if_ne (tgt := 249) hx hb dL_law_234 (by decide) (by omega) (fun c_234 => ?_) (fun c_234 => ?_)
          · skip
            refine lv_goto (tgt := 1420) hx hb dL_law_249 (by decide) ?_
            have hP := fl_sub (bs' := [u_180, u_222, [(oa, aJ cy 1 (g))]]) hP [0, 2, 1] rfl
            have hD := fl_subD (bs' := [u_180, u_222, [(oa, aJ cy 1 (g))]]) hD [0, 2, 1] (by decide) rfl
            exact kk T hz HZ len tx 3 _ _ _ _ _ _ ⟨⟨la, lv9, ls9, fa, xh, xs, la2, lv92, ls92, fb, fw, bu, ta, rc, re, gb, oc, oe, rs, rc2, re2, gb2, oc2, oe2, rs2, rr, ad, h_180⟩, ⟨mz, msv, mtx, mmo, mif, mmg, mtn, mie, mme, mrd, mas, h_222⟩, gT, hHG, (by omega)⟩ hP hD hS (lv_sub hl [2, 3, 4, 5, 6] rfl)
          · skip
            exact absurd c_234 (by decide)
        · skip
          exact absurd c_227 (by decide)
    · skip
      refine lv_aload_n hx hb dL_law_148 rfl (lv_at hl 1 rfl) ?_
      refine lv_aload_n hx hb dL_law_149 rfl (lv_at hl 0 rfl) ?_
      refine lv_iload hx hb dL_law_150 (lv_at hl 4 rfl) ?_
      refine q_iconst hx hb dL_law_152 ?_
      refine q_iadd hx hb dL_law_153 ?_
      refine q_sld (j := 6 * t + 1) hx hb hX hbl hbA hS (by omega) ep0 dL_law_154 ?_
      refine lv_aload_n hx hb dL_law_155 rfl (lv_at hl 0 rfl) ?_
      refine lv_iload hx hb dL_law_156 (lv_at hl 4 rfl) ?_
      refine q_iconst hx hb dL_law_158 ?_
      refine q_iadd hx hb dL_law_159 ?_
      refine q_sld (j := 6 * t + 2) hx hb hX hbl hbA hS (by omega) ep1 dL_law_160 ?_
      refine lv_aload_n hx hb dL_law_161 rfl (lv_at hl 0 rfl) ?_
      refine lv_iload hx hb dL_law_162 (lv_at hl 4 rfl) ?_
      refine q_iconst hx hb dL_law_164 ?_
      refine q_iadd hx hb dL_law_165 ?_
      refine q_sld (j := 6 * t + 3) hx hb hX hbl hbA hS (by omega) ep2 dL_law_166 ?_
      refine lv_aload_n hx hb dL_law_167 rfl (lv_at hl 0 rfl) ?_
      refine lv_iload hx hb dL_law_168 (lv_at hl 4 rfl) ?_
      refine q_iconst hx hb dL_law_170 ?_
      refine q_iadd hx hb dL_law_171 ?_
      refine q_sld (j := 6 * t + 4) hx hb hX hbl hbA hS (by omega) ep3 dL_law_172 ?_
      refine lv_aload_n hx hb dL_law_173 rfl (lv_at hl 0 rfl) ?_
      refine lv_iload hx hb dL_law_174 (lv_at hl 4 rfl) ?_
      refine q_iconst hx hb dL_law_176 ?_
      refine q_iadd hx hb dL_law_177 ?_
      refine q_sld (j := 6 * t + 5) hx hb hX hbl hbA hS (by omega) ep4 dL_law_178 ?_
      refine lv_aload_n hx hb dL_law_179 rfl (lv_at hl 3 rfl) ?_
      refine q_backiX (mc := 1) (ms := 6) [0, 2] [1] (br := [M9]) hP hD hS hA (vx_runSW (As := [.ref (x), .int (qI (p0)), .int (qI (p1)), .int (qI (p2)), .int (qI (p3)), .int (qI (p4)), .ref (oa)]) (rest := []) ⟨hx, hb, hml, hown, hg⟩ (c_L_add_no2 l hlt9 D cy x la lv9 ls9 fa xh xs la2 lv92 ls92 fb fw bu ta rc re gb oc oe rs rc2 re2 gb2 oc2 oe2 rs2 rr ad T hz HZ len tx _ gT.1 hC9 oa _ p0 p1 p2 p3 p4 (by omega) (by omega) (by omega) (by omega) (by omega) (by omega) (by omega) _) (csW_L_79 hg rfl rfl ⟨(Nat.le_of_ble_eq_true rfl), (Nat.le_of_ble_eq_true rfl)⟩) ⟨q_blindW, fun U hU hU9 => ⟨rfl, (q_preM [.ref (x), .int (qI (p0)), .int (qI (p1)), .int (qI (p2)), .int (qI (p3)), .int (qI (p4)), .ref (oa)] hK hN hP hD [0, 2] (by decide) rfl U hU hU9).2, hEx9.step hU9 (by rw [hU]; exact hS.2.1) (fl_free hD hS hA [0, 2] rfl), hNc9.moved hU9.alike⟩⟩ rfl rfl hl.1 rfl (lv_room (Nat.le_of_ble_eq_true rfl)) dL_law_180 ⟨(by show cells + 1 ≤ 601024; omega), (by show slots + 6 ≤ 7293034; omega)⟩) rfl rfl (by decide) (fun r_180 u_180 H locs h_180 hP hD hS => ?_)
      obtain ⟨rfl, h_180⟩ := h_180
      have hP : va_P D vwCl [M9, u_180, [(oa, aJ cy 1 (g))]].flatten H := hP
      have hD : va_D A [M9, u_180, [(oa, aJ cy 1 (g))]].flatten := hD
      refine lv_istore (lv' := [(5, .int (qI (2))), (0, .ref (b)), (1, .ref (x)), (2, .ref (mo)), (3, .ref (oa)), (4, .int (qI (((6 * t : Nat) : Int))))]) hx hb dL_law_183 hl (by decide) rfl (fun ls hl => ?_)
      refine lv_aload_n hx hb dL_law_185 rfl (lv_at hl 3 rfl) ?_
      refine lv_aload_n hx hb dL_law_186 rfl (lv_at hl 1 rfl) ?_
      refine lv_iload hx hb dL_law_187 (lv_at hl 5 rfl) ?_
      refine q_iconst hx hb dL_law_189 ?_
      refine q_iadd hx hb dL_law_190 ?_
      refine q_sld (j := 6 * t + 1) hx hb hX hbl hbA hS (by omega) ep0 dL_law_191 ?_
      refine lv_aload_n hx hb dL_law_192 rfl (lv_at hl 1 rfl) ?_
      refine lv_iload hx hb dL_law_193 (lv_at hl 5 rfl) ?_
      refine q_iconst hx hb dL_law_195 ?_
      refine q_iadd hx hb dL_law_196 ?_
      refine q_sld (j := 6 * t + 2) hx hb hX hbl hbA hS (by omega) ep1 dL_law_197 ?_
      refine lv_aload_n hx hb dL_law_198 rfl (lv_at hl 1 rfl) ?_
      refine lv_iload hx hb dL_law_199 (lv_at hl 5 rfl) ?_
      refine q_iconst hx hb dL_law_201 ?_
      refine q_iadd hx hb dL_law_202 ?_
      refine q_sld (j := 6 * t + 3) hx hb hX hbl hbA hS (by omega) ep2 dL_law_203 ?_
      refine lv_aload_n hx hb dL_law_204 rfl (lv_at hl 1 rfl) ?_
      refine lv_iload hx hb dL_law_205 (lv_at hl 5 rfl) ?_
      refine q_iconst hx hb dL_law_207 ?_
      refine q_iadd hx hb dL_law_208 ?_
      refine q_sld (j := 6 * t + 4) hx hb hX hbl hbA hS (by omega) ep3 dL_law_209 ?_
      refine lv_aload_n hx hb dL_law_210 rfl (lv_at hl 1 rfl) ?_
      refine lv_iload hx hb dL_law_211 (lv_at hl 5 rfl) ?_
      refine q_iconst hx hb dL_law_213 ?_
      refine q_iadd hx hb dL_law_214 ?_
      refine q_sld (j := 6 * t + 5) hx hb hX hbl hbA hS (by omega) ep4 dL_law_215 ?_
      refine q_backi [0] [1, 2] (br := [u_180, [(oa, aJ cy 1 (g))]]) hP hD hS hA (va_runV (As := [.int (qI (p0)), .int (qI (p1)), .int (qI (p2)), .int (qI (p3)), .int (qI (p4))]) (rest := []) ⟨hx, hb, hml, hown, hg⟩ (c_X8_add_no2 l D cy mo mz msv mtx mmo mif mmg mtn mie mme mrd mas T hz HZ len tx th _ gT.1 hM9 p0 p1 p2 p3 p4 (by omega) (by omega) (by omega) (by omega) (by omega) (by omega) (by omega) _) (cv_L_84 hg rfl rfl ⟨(Nat.le_of_ble_eq_true rfl), (Nat.le_of_ble_eq_true rfl)⟩) ⟨q_blind, va_recv hK (fl_blk hP 0 rfl) (ci := 8) (q0 := 0) rfl hfsM, q_preM _ hK hN hP hD [0] (by decide) rfl⟩ rfl rfl hl.1 rfl (lv_room (Nat.le_of_ble_eq_true rfl)) dL_law_216 ⟨(by show _ + 0 ≤ 601024; omega), (by show _ + 0 ≤ 7293034; omega)⟩) rfl rfl (by decide) (fun r_216 u_216 H locs h_216 hP hD hS => ?_)
      have hP : va_P D vwCl [u_180, [(oa, aJ cy 1 (g))], u_216].flatten H := hP
      have hD : va_D A [u_180, [(oa, aJ cy 1 (g))], u_216].flatten := hD
      obtain ⟨fs_216, hfs_216⟩ := MW_at h_216
      have gk9 : gOk (T) := gT.1
      refine lv_istore (lv' := [(6, .int (r_216)), (5, .int (qI (2))), (0, .ref (b)), (1, .ref (x)), (2, .ref (mo)), (3, .ref (oa)), (4, .int (qI (((6 * t : Nat) : Int))))]) hx hb dL_law_219 hl (by decide) rfl (fun ls hl => ?_)
      refine lv_aload_n hx hb dL_law_221 rfl (lv_at hl 4 rfl) ?_
      refine q_backi [2] [0, 1] (br := [u_180, [(oa, aJ cy 1 (g))]]) hP hD hS hA (va_runV (As := []) (rest := []) ⟨hx, hb, hml, hown, hg⟩ (c_X8_thrown l D cy mo mz msv mtx mmo mif mmg mtn mie mme mrd mas T hz HZ len tx 2 _ gk9 h_216 _) (cv_L_85 hg rfl rfl ⟨(Nat.le_of_ble_eq_true rfl), (Nat.le_of_ble_eq_true rfl)⟩) ⟨q_blind, va_recv hK (fl_blk hP 2 rfl) (ci := 8) (q0 := 0) rfl hfs_216, q_preM _ hK hN hP hD [2] (by decide) rfl⟩ rfl rfl hl.1 rfl (lv_room (Nat.le_of_ble_eq_true rfl)) dL_law_222 ⟨(by show _ + 0 ≤ 601024; omega), (by show _ + 0 ≤ 7293034; omega)⟩) rfl rfl (by decide) (fun r_222 u_222 H locs h_222 hP hD hS => ?_)
      have hP : va_P D vwCl [u_180, [(oa, aJ cy 1 (g))], u_222].flatten H := hP
      have hD : va_D A [u_180, [(oa, aJ cy 1 (g))], u_222].flatten := hD
      obtain ⟨rfl, h_222⟩ := h_222
      refine lv_iload hx hb dL_law_225 (lv_at hl 1 rfl) ?_
      refine q_icmp_eq (tgt := 232) hx hb dL_law_227 (by decide) (by omega) (fun c_227 => ?_) (fun c_227 => ?_)
      · skip
        refine lv_iload hx hb dL_law_232 (lv_at hl 1 rfl) ?_
        refine q_if_ne (tgt := 249) hx hb dL_law_234 (by decide) (by omega) (fun c_234 => ?_) (fun c_234 => ?_)
        · skip
          refine lv_goto (tgt := 1420) hx hb dL_law_249 (by decide) ?_
          have hP := fl_sub (bs' := [u_180, u_222, [(oa, aJ cy 1 (g))]]) hP [0, 2, 1] rfl
          have hD := fl_subD (bs' := [u_180, u_222, [(oa, aJ cy 1 (g))]]) hD [0, 2, 1] (by decide) rfl
          exact kk T hz HZ len tx 2 _ _ _ _ _ _ ⟨⟨la, lv9, ls9, fa, xh, xs, la2, lv92, ls92, fb, fw, bu, ta, rc, re, gb, oc, oe, rs, rc2, re2, gb2, oc2, oe2, rs2, rr, ad, h_180⟩, ⟨mz, msv, mtx, mmo, mif, mmg, mtn, mie, mme, mrd, mas, h_222⟩, gT, hHG, (by omega)⟩ hP hD hS (lv_sub hl [2, 3, 4, 5, 6] rfl)
        · skip
          exact absurd c_234 (by decide)
      · skip
        exact absurd c_227 (by decide)
  · skip
    refine lv_aload_n hx hb dL_law_148 rfl (lv_at hl 1 rfl) ?_
    refine lv_aload_n hx hb dL_law_149 rfl (lv_at hl 0 rfl) ?_
    refine lv_iload hx hb dL_law_150 (lv_at hl 4 rfl) ?_
    refine q_iconst hx hb dL_law_152 ?_
    refine q_iadd hx hb dL_law_153 ?_
    refine q_sld (j := 6 * t + 1) hx hb hX hbl hbA hS (by omega) ep0 dL_law_154 ?_
    refine lv_aload_n hx hb dL_law_155 rfl (lv_at hl 0 rfl) ?_
    refine lv_iload hx hb dL_law_156 (lv_at hl 4 rfl) ?_
    refine q_iconst hx hb dL_law_158 ?_
    refine q_iadd hx hb dL_law_159 ?_
    refine q_sld (j := 6 * t + 2) hx hb hX hbl hbA hS (by omega) ep1 dL_law_160 ?_
    refine lv_aload_n hx hb dL_law_161 rfl (lv_at hl 0 rfl) ?_
    refine lv_iload hx hb dL_law_162 (lv_at hl 4 rfl) ?_
    refine q_iconst hx hb dL_law_164 ?_
    refine q_iadd hx hb dL_law_165 ?_
    refine q_sld (j := 6 * t + 3) hx hb hX hbl hbA hS (by omega) ep2 dL_law_166 ?_
    refine lv_aload_n hx hb dL_law_167 rfl (lv_at hl 0 rfl) ?_
    refine lv_iload hx hb dL_law_168 (lv_at hl 4 rfl) ?_
    refine q_iconst hx hb dL_law_170 ?_
    refine q_iadd hx hb dL_law_171 ?_
    refine q_sld (j := 6 * t + 4) hx hb hX hbl hbA hS (by omega) ep3 dL_law_172 ?_
    refine lv_aload_n hx hb dL_law_173 rfl (lv_at hl 0 rfl) ?_
    refine lv_iload hx hb dL_law_174 (lv_at hl 4 rfl) ?_
    refine q_iconst hx hb dL_law_176 ?_
    refine q_iadd hx hb dL_law_177 ?_
    refine q_sld (j := 6 * t + 5) hx hb hX hbl hbA hS (by omega) ep4 dL_law_178 ?_
    refine lv_aload_n hx hb dL_law_179 rfl (lv_at hl 3 rfl) ?_
    refine q_backiX (mc := 1) (ms := 6) [0, 2] [1] (br := [M9]) hP hD hS hA (vx_runSW (As := [.ref (x), .int (qI (p0)), .int (qI (p1)), .int (qI (p2)), .int (qI (p3)), .int (qI (p4)), .ref (oa)]) (rest := []) ⟨hx, hb, hml, hown, hg⟩ (c_L_add_no1 l hlt9 D cy x la lv9 ls9 fa xh xs la2 lv92 ls92 fb fw bu ta rc re gb oc oe rs rc2 re2 gb2 oc2 oe2 rs2 rr ad T hz HZ len tx _ gT.1 hC9 oa _ p0 p1 p2 p3 p4 (by omega) (by omega) (by omega) (by omega) (by omega) (by omega) _) (csW_L_79 hg rfl rfl ⟨(Nat.le_of_ble_eq_true rfl), (Nat.le_of_ble_eq_true rfl)⟩) ⟨q_blindW, fun U hU hU9 => ⟨rfl, (q_preM [.ref (x), .int (qI (p0)), .int (qI (p1)), .int (qI (p2)), .int (qI (p3)), .int (qI (p4)), .ref (oa)] hK hN hP hD [0, 2] (by decide) rfl U hU hU9).2, hEx9.step hU9 (by rw [hU]; exact hS.2.1) (fl_free hD hS hA [0, 2] rfl), hNc9.moved hU9.alike⟩⟩ rfl rfl hl.1 rfl (lv_room (Nat.le_of_ble_eq_true rfl)) dL_law_180 ⟨(by show cells + 1 ≤ 601024; omega), (by show slots + 6 ≤ 7293034; omega)⟩) rfl rfl (by decide) (fun r_180 u_180 H locs h_180 hP hD hS => ?_)
    obtain ⟨rfl, h_180⟩ := h_180
    have hP : va_P D vwCl [M9, u_180, [(oa, aJ cy 1 (g))]].flatten H := hP
    have hD : va_D A [M9, u_180, [(oa, aJ cy 1 (g))]].flatten := hD
    refine lv_istore (lv' := [(5, .int (qI (1))), (0, .ref (b)), (1, .ref (x)), (2, .ref (mo)), (3, .ref (oa)), (4, .int (qI (((6 * t : Nat) : Int))))]) hx hb dL_law_183 hl (by decide) rfl (fun ls hl => ?_)
    refine lv_aload_n hx hb dL_law_185 rfl (lv_at hl 3 rfl) ?_
    refine lv_aload_n hx hb dL_law_186 rfl (lv_at hl 1 rfl) ?_
    refine lv_iload hx hb dL_law_187 (lv_at hl 5 rfl) ?_
    refine q_iconst hx hb dL_law_189 ?_
    refine q_iadd hx hb dL_law_190 ?_
    refine q_sld (j := 6 * t + 1) hx hb hX hbl hbA hS (by omega) ep0 dL_law_191 ?_
    refine lv_aload_n hx hb dL_law_192 rfl (lv_at hl 1 rfl) ?_
    refine lv_iload hx hb dL_law_193 (lv_at hl 5 rfl) ?_
    refine q_iconst hx hb dL_law_195 ?_
    refine q_iadd hx hb dL_law_196 ?_
    refine q_sld (j := 6 * t + 2) hx hb hX hbl hbA hS (by omega) ep1 dL_law_197 ?_
    refine lv_aload_n hx hb dL_law_198 rfl (lv_at hl 1 rfl) ?_
    refine lv_iload hx hb dL_law_199 (lv_at hl 5 rfl) ?_
    refine q_iconst hx hb dL_law_201 ?_
    refine q_iadd hx hb dL_law_202 ?_
    refine q_sld (j := 6 * t + 3) hx hb hX hbl hbA hS (by omega) ep2 dL_law_203 ?_
    refine lv_aload_n hx hb dL_law_204 rfl (lv_at hl 1 rfl) ?_
    refine lv_iload hx hb dL_law_205 (lv_at hl 5 rfl) ?_
    refine q_iconst hx hb dL_law_207 ?_
    refine q_iadd hx hb dL_law_208 ?_
    refine q_sld (j := 6 * t + 4) hx hb hX hbl hbA hS (by omega) ep3 dL_law_209 ?_
    refine lv_aload_n hx hb dL_law_210 rfl (lv_at hl 1 rfl) ?_
    refine lv_iload hx hb dL_law_211 (lv_at hl 5 rfl) ?_
    refine q_iconst hx hb dL_law_213 ?_
    refine q_iadd hx hb dL_law_214 ?_
    refine q_sld (j := 6 * t + 5) hx hb hX hbl hbA hS (by omega) ep4 dL_law_215 ?_
    refine q_backi [0] [1, 2] (br := [u_180, [(oa, aJ cy 1 (g))]]) hP hD hS hA (va_runV (As := [.int (qI (p0)), .int (qI (p1)), .int (qI (p2)), .int (qI (p3)), .int (qI (p4))]) (rest := []) ⟨hx, hb, hml, hown, hg⟩ (c_X8_add_no1 l D cy mo mz msv mtx mmo mif mmg mtn mie mme mrd mas T hz HZ len tx th _ gT.1 hM9 p0 p1 p2 p3 p4 (by omega) (by omega) (by omega) (by omega) (by omega) (by omega) _) (cv_L_84 hg rfl rfl ⟨(Nat.le_of_ble_eq_true rfl), (Nat.le_of_ble_eq_true rfl)⟩) ⟨q_blind, va_recv hK (fl_blk hP 0 rfl) (ci := 8) (q0 := 0) rfl hfsM, q_preM _ hK hN hP hD [0] (by decide) rfl⟩ rfl rfl hl.1 rfl (lv_room (Nat.le_of_ble_eq_true rfl)) dL_law_216 ⟨(by show _ + 0 ≤ 601024; omega), (by show _ + 0 ≤ 7293034; omega)⟩) rfl rfl (by decide) (fun r_216 u_216 H locs h_216 hP hD hS => ?_)
    have hP : va_P D vwCl [u_180, [(oa, aJ cy 1 (g))], u_216].flatten H := hP
    have hD : va_D A [u_180, [(oa, aJ cy 1 (g))], u_216].flatten := hD
    obtain ⟨fs_216, hfs_216⟩ := MW_at h_216
    have gk9 : gOk (T) := gT.1
    refine lv_istore (lv' := [(6, .int (r_216)), (5, .int (qI (1))), (0, .ref (b)), (1, .ref (x)), (2, .ref (mo)), (3, .ref (oa)), (4, .int (qI (((6 * t : Nat) : Int))))]) hx hb dL_law_219 hl (by decide) rfl (fun ls hl => ?_)
    refine lv_aload_n hx hb dL_law_221 rfl (lv_at hl 4 rfl) ?_
    refine q_backi [2] [0, 1] (br := [u_180, [(oa, aJ cy 1 (g))]]) hP hD hS hA (va_runV (As := []) (rest := []) ⟨hx, hb, hml, hown, hg⟩ (c_X8_thrown l D cy mo mz msv mtx mmo mif mmg mtn mie mme mrd mas T hz HZ len tx 1 _ gk9 h_216 _) (cv_L_85 hg rfl rfl ⟨(Nat.le_of_ble_eq_true rfl), (Nat.le_of_ble_eq_true rfl)⟩) ⟨q_blind, va_recv hK (fl_blk hP 2 rfl) (ci := 8) (q0 := 0) rfl hfs_216, q_preM _ hK hN hP hD [2] (by decide) rfl⟩ rfl rfl hl.1 rfl (lv_room (Nat.le_of_ble_eq_true rfl)) dL_law_222 ⟨(by show _ + 0 ≤ 601024; omega), (by show _ + 0 ≤ 7293034; omega)⟩) rfl rfl (by decide) (fun r_222 u_222 H locs h_222 hP hD hS => ?_)
    have hP : va_P D vwCl [u_180, [(oa, aJ cy 1 (g))], u_222].flatten H := hP
    have hD : va_D A [u_180, [(oa, aJ cy 1 (g))], u_222].flatten := hD
    obtain ⟨rfl, h_222⟩ := h_222
    refine lv_iload hx hb dL_law_225 (lv_at hl 1 rfl) ?_
    refine q_icmp_eq (tgt := 232) hx hb dL_law_227 (by decide) (by omega) (fun c_227 => ?_) (fun c_227 => ?_)
    · skip
      refine lv_iload hx hb dL_law_232 (lv_at hl 1 rfl) ?_
      refine q_if_ne (tgt := 249) hx hb dL_law_234 (by decide) (by omega) (fun c_234 => ?_) (fun c_234 => ?_)
      · skip
        refine lv_goto (tgt := 1420) hx hb dL_law_249 (by decide) ?_
        have hP := fl_sub (bs' := [u_180, u_222, [(oa, aJ cy 1 (g))]]) hP [0, 2, 1] rfl
        have hD := fl_subD (bs' := [u_180, u_222, [(oa, aJ cy 1 (g))]]) hD [0, 2, 1] (by decide) rfl
        exact kk T hz HZ len tx 1 _ _ _ _ _ _ ⟨⟨la, lv9, ls9, fa, xh, xs, la2, lv92, ls92, fb, fw, bu, ta, rc, re, gb, oc, oe, rs, rc2, re2, gb2, oc2, oe2, rs2, rr, ad, h_180⟩, ⟨mz, msv, mtx, mmo, mif, mmg, mtn, mie, mme, mrd, mas, h_222⟩, gT, hHG, (by omega)⟩ hP hD hS (lv_sub hl [2, 3, 4, 5, 6] rfl)
      · skip
        exact absurd c_234 (by decide)
    · skip
      exact absurd c_227 (by decide)

set_option maxRecDepth 100000 in
set_option maxHeartbeats 4000000 in
theorem lw_remove {p : Program} {l : Launch} {e : Env} {s : State} {m : MethodId} {below : List Frame} {meth : Method} {c : Code} {b L : Nat} {sc9 : Nat → Int32} {D : va_G} {cy : Nat → ClassId} {A : Nat → Prop} {Q : State → Prop} (hlt9 : l.stackTraces = false) (B9 : lwB p s m c b L sc9 D cy A) {x mo oa t : Nat} (ht9 : 6 * t + 6 ≤ L) {T : LSt} {hz : Nat} {HZ : Nat → LSt} {len : Nat} {tx : Nat → Int} {th : Int} {W9 M9 : va_W} {g : Nat → Int64} {cells slots : Nat} (hr9 : cells ≤ 1000 ∧ slots ≤ 8000) (hI9 : lwI cy x mo T hz HZ len tx th W9 M9) {H : Heap} {locs : List Loc} {ls : Array Slot} (hP : va_P D vwCl [W9, M9, [(oa, aJ cy 1 g)]].flatten H) (hD : va_D A [W9, M9, [(oa, aJ cy 1 g)]].flatten) (hS : va_S A s.heap H locs) (hl : lv_has ls 9 (lwL b x mo oa t)) (kk : lwK p l e s m below meth c b D cy A Q x mo oa t cells slots) : W p l e room_1 s m #[Value.ref b] below meth c H locs cells slots Q (F0 m 252 ls []) := by
  obtain ⟨hx, hb, hml, hown, hg, hX, hbl, hbA, hA, hK, hN, hEx9, hNc9, hL9⟩ := B9
  obtain ⟨⟨la, lv9, ls9, fa, xh, xs, la2, lv92, ls92, fb, fw, bu, ta, rc, re, gb, oc, oe, rs, rc2, re2, gb2, oc2, oe2, rs2, rr, ad, hC9⟩, ⟨mz, msv, mtx, mmo, mif, mmg, mtn, mie, mme, mrd, mas, hM9⟩, gT, hHG, hln9⟩ := hI9
  have gT3 := gT.2
  have gN16 : lN9 T ≤ 16 := gT.1.2.2.1.1
  obtain ⟨fsC, hfsC⟩ := CW_at hC9
  obtain ⟨fsM, hfsM⟩ := MW_at hM9
  have hl : lv_has ls 9 [(0, .ref (b)), (1, .ref (x)), (2, .ref (mo)), (3, .ref (oa)), (4, .int (qI (((6 * t : Nat) : Int))))] := hl
  obtain ⟨p0, ep0⟩ : ∃ z : Int, (sc9 (6 * t + 1)).toInt = z := ⟨_, rfl⟩
  have r0 : -2147483648 ≤ p0 ∧ p0 < 2147483648 := by rw [← ep0]; exact ⟨Int32.le_toInt _, Int32.toInt_lt _⟩
  by_cases cA9 : 0 ≤ p0 ∧ p0 < (lN9 T : Int)
  · skip
    refine lv_aload_n hx hb dL_law_252 rfl (lv_at hl 1 rfl) ?_
    refine lv_aload_n hx hb dL_law_253 rfl (lv_at hl 0 rfl) ?_
    refine lv_iload hx hb dL_law_254 (lv_at hl 4 rfl) ?_
    refine q_iconst hx hb dL_law_256 ?_
    refine q_iadd hx hb dL_law_257 ?_
    refine q_sld (j := 6 * t + 1) hx hb hX hbl hbA hS (by omega) ep0 dL_law_258 ?_
    refine lv_aload_n hx hb dL_law_259 rfl (lv_at hl 3 rfl) ?_
    refine q_backiX (mc := 0) (ms := 0) [0, 2] [1] (br := [M9]) hP hD hS hA (vx_runSW (As := [.ref (x), .int (qI (p0)), .ref (oa)]) (rest := []) ⟨hx, hb, hml, hown, hg⟩ (c_L_remove l D cy x la lv9 ls9 fa xh xs la2 lv92 ls92 fb fw bu ta rc re gb oc oe rs rc2 re2 gb2 oc2 oe2 rs2 rr ad T hz HZ len tx _ gT.1 hC9 oa _ p0 p0.toNat (by omega) _) (csW_L_88 hg rfl rfl ⟨(Nat.le_of_ble_eq_true rfl), (Nat.le_of_ble_eq_true rfl)⟩) ⟨q_blind, q_preM [.ref (x), .int (qI (p0)), .ref (oa)] hK hN hP hD [0, 2] (by decide) rfl⟩ rfl rfl hl.1 rfl (lv_room (Nat.le_of_ble_eq_true rfl)) dL_law_260 ⟨(by show cells + 0 ≤ 601024; omega), (by show slots + 0 ≤ 7293034; omega)⟩) rfl rfl (by decide) (fun r_260 u_260 H locs h_260 hP hD hS => ?_)
    obtain ⟨rfl, h_260⟩ := h_260
    have hP : va_P D vwCl [M9, u_260, [(oa, aJ cy 1 (qu (g) 0 ((qI (((fOC (filS T (-1)) p0.toNat).toNat : Int))).toInt64)))]].flatten H := hP
    have hD : va_D A [M9, u_260, [(oa, aJ cy 1 (qu (g) 0 ((qI (((fOC (filS T (-1)) p0.toNat).toNat : Int))).toInt64)))]].flatten := hD
    refine lv_istore (lv' := [(5, .int (qI (0))), (0, .ref (b)), (1, .ref (x)), (2, .ref (mo)), (3, .ref (oa)), (4, .int (qI (((6 * t : Nat) : Int))))]) hx hb dL_law_263 hl (by decide) rfl (fun ls hl => ?_)
    refine lv_aload_n hx hb dL_law_265 rfl (lv_at hl 3 rfl) ?_
    refine lv_aload_n hx hb dL_law_266 rfl (lv_at hl 1 rfl) ?_
    refine lv_iload hx hb dL_law_267 (lv_at hl 5 rfl) ?_
    refine q_iconst hx hb dL_law_269 ?_
    refine q_iadd hx hb dL_law_270 ?_
    refine q_sld (j := 6 * t + 1) hx hb hX hbl hbA hS (by omega) ep0 dL_law_271 ?_
    refine q_backi [0] [1, 2] (br := [u_260, [(oa, aJ cy 1 (qu (g) 0 ((qI (((fOC (filS T (-1)) p0.toNat).toNat : Int))).toInt64)))]]) hP hD hS hA (va_runV (As := [.int (qI (p0))]) (rest := []) ⟨hx, hb, hml, hown, hg⟩ (c_X8_remove l D cy mo mz msv mtx mmo mif mmg mtn mie mme mrd mas T hz HZ len tx th _ gT.1 hM9 p0 p0.toNat (by omega) _) (cv_L_91 hg rfl rfl ⟨(Nat.le_of_ble_eq_true rfl), (Nat.le_of_ble_eq_true rfl)⟩) ⟨q_blind, va_recv hK (fl_blk hP 0 rfl) (ci := 8) (q0 := 0) rfl hfsM, q_preM _ hK hN hP hD [0] (by decide) rfl⟩ rfl rfl hl.1 rfl (lv_room (Nat.le_of_ble_eq_true rfl)) dL_law_272 ⟨(by show _ + 0 ≤ 601024; omega), (by show _ + 0 ≤ 7293034; omega)⟩) rfl rfl (by decide) (fun r_272 u_272 H locs h_272 hP hD hS => ?_)
    have hP : va_P D vwCl [u_260, [(oa, aJ cy 1 (qu (g) 0 ((qI (((fOC (filS T (-1)) p0.toNat).toNat : Int))).toInt64)))], u_272].flatten H := hP
    have hD : va_D A [u_260, [(oa, aJ cy 1 (qu (g) 0 ((qI (((fOC (filS T (-1)) p0.toNat).toNat : Int))).toInt64)))], u_272].flatten := hD
    obtain ⟨rfl, h_272⟩ := h_272
    obtain ⟨fs_272, hfs_272⟩ := MW_at h_272
    have gk9 : gOk ((seT (rmC T p0.toNat))) := seT_gOk (rmC_ok gT.1 _)
    refine lv_istore (lv' := [(6, .int (qI ((fOC (filS T (-1)) p0.toNat).toNat : Int))), (5, .int (qI (0))), (0, .ref (b)), (1, .ref (x)), (2, .ref (mo)), (3, .ref (oa)), (4, .int (qI (((6 * t : Nat) : Int))))]) hx hb dL_law_275 hl (by decide) rfl (fun ls hl => ?_)
    refine lv_aload_n hx hb dL_law_277 rfl (lv_at hl 4 rfl) ?_
    refine q_backi [2] [0, 1] (br := [u_260, [(oa, aJ cy 1 (qu (g) 0 ((qI (((fOC (filS T (-1)) p0.toNat).toNat : Int))).toInt64)))]]) hP hD hS hA (va_runV (As := []) (rest := []) ⟨hx, hb, hml, hown, hg⟩ (c_X8_thrown l D cy mo mz msv mtx mmo mif mmg mtn mie mme mrd mas (seT (rmC T p0.toNat)) (min (hz + 1) 8) (pushH T HZ) len tx 0 _ gk9 h_272 _) (cv_L_85 hg rfl rfl ⟨(Nat.le_of_ble_eq_true rfl), (Nat.le_of_ble_eq_true rfl)⟩) ⟨q_blind, va_recv hK (fl_blk hP 2 rfl) (ci := 8) (q0 := 0) rfl hfs_272, q_preM _ hK hN hP hD [2] (by decide) rfl⟩ rfl rfl hl.1 rfl (lv_room (Nat.le_of_ble_eq_true rfl)) dL_law_278 ⟨(by show _ + 0 ≤ 601024; omega), (by show _ + 0 ≤ 7293034; omega)⟩) rfl rfl (by decide) (fun r_278 u_278 H locs h_278 hP hD hS => ?_)
    have hP : va_P D vwCl [u_260, [(oa, aJ cy 1 (qu (g) 0 ((qI (((fOC (filS T (-1)) p0.toNat).toNat : Int))).toInt64)))], u_278].flatten H := hP
    have hD : va_D A [u_260, [(oa, aJ cy 1 (qu (g) 0 ((qI (((fOC (filS T (-1)) p0.toNat).toNat : Int))).toInt64)))], u_278].flatten := hD
    obtain ⟨rfl, h_278⟩ := h_278
    refine lv_iload hx hb dL_law_281 (lv_at hl 1 rfl) ?_
    refine q_icmp_eq (tgt := 288) hx hb dL_law_283 (by decide) (by omega) (fun c_283 => ?_) (fun c_283 => ?_)
    · skip
      refine lv_iload hx hb dL_law_288 (lv_at hl 1 rfl) ?_
      refine q_if_ne (tgt := 305) hx hb dL_law_290 (by decide) (by omega) (fun c_290 => ?_) (fun c_290 => ?_)
      · skip
        exact absurd c_290 (by decide)
      · skip
        refine lv_aload_n hx hb dL_law_293 rfl (lv_at hl 5 rfl) ?_
        refine q_iconst hx hb dL_law_294 ?_
        refine q_laldW (j := 0) (v := (qI (((fOC (filS T (-1)) p0.toNat).toNat : Int))).toInt64) hx hb hK (fl_blk hP 1 rfl) 0 rfl (by omega) (qu_s _ _ _) dL_law_295 ?_
        refine lv_iload hx hb dL_law_296 (lv_at hl 0 rfl) ?_
        refine lv_i2l hx hb dL_law_298 rfl ?_
        refine q_lcmp0 hx hb dL_law_299 ?_
        refine q_if_eq (tgt := 305) hx hb dL_law_300 (by decide) (by omega) (fun c_300 => ?_) (fun c_300 => ?_)
        · skip
          refine lv_goto (tgt := 1420) hx hb dL_law_305 (by decide) ?_
          have hP := fl_sub (bs' := [u_260, u_278, [(oa, aJ cy 1 (qu (g) 0 ((qI (((fOC (filS T (-1)) p0.toNat).toNat : Int))).toInt64)))]]) hP [0, 2, 1] rfl
          have hD := fl_subD (bs' := [u_260, u_278, [(oa, aJ cy 1 (qu (g) 0 ((qI (((fOC (filS T (-1)) p0.toNat).toNat : Int))).toInt64)))]]) hD [0, 2, 1] (by decide) rfl
          refine W.widen (k := cells + 1) (n := slots + 6) (by omega) (by omega) ?_
          exact kk (seT (rmC T p0.toNat)) (min (hz + 1) 8) (pushH T HZ) len tx 0 _ _ _ _ _ _ ⟨⟨la, lv9, ls9, fa, xh, xs, la2, lv92, ls92, fb, fw, bu, ta, rc, re, gb, oc, oe, rs, rc2, re2, gb2, oc2, oe2, rs2, rr, ad, h_260⟩, ⟨mz, msv, mtx, mmo, mif, mmg, mtn, mie, mme, mrd, mas, h_278⟩, ⟨seT_gOk (rmC_ok gT.1 _), gT3⟩, gK_push gT hHG, (by omega)⟩ hP hD hS (lv_sub hl [2, 3, 4, 5, 6] rfl)
        · skip
          exact absurd c_300 (by decide)
    · skip
      exact absurd c_283 (by decide)
  · skip
    refine lv_aload_n hx hb dL_law_252 rfl (lv_at hl 1 rfl) ?_
    refine lv_aload_n hx hb dL_law_253 rfl (lv_at hl 0 rfl) ?_
    refine lv_iload hx hb dL_law_254 (lv_at hl 4 rfl) ?_
    refine q_iconst hx hb dL_law_256 ?_
    refine q_iadd hx hb dL_law_257 ?_
    refine q_sld (j := 6 * t + 1) hx hb hX hbl hbA hS (by omega) ep0 dL_law_258 ?_
    refine lv_aload_n hx hb dL_law_259 rfl (lv_at hl 3 rfl) ?_
    refine q_backiX (mc := 1) (ms := 6) [0, 2] [1] (br := [M9]) hP hD hS hA (vx_runSW (As := [.ref (x), .int (qI (p0)), .ref (oa)]) (rest := []) ⟨hx, hb, hml, hown, hg⟩ (c_L_remove_no1 l hlt9 D cy x la lv9 ls9 fa xh xs la2 lv92 ls92 fb fw bu ta rc re gb oc oe rs rc2 re2 gb2 oc2 oe2 rs2 rr ad T hz HZ len tx _ gT.1 hC9 oa _ p0 (by omega) (by omega) _) (csW_L_88 hg rfl rfl ⟨(Nat.le_of_ble_eq_true rfl), (Nat.le_of_ble_eq_true rfl)⟩) ⟨q_blindW, fun U hU hU9 => ⟨rfl, (q_preM [.ref (x), .int (qI (p0)), .ref (oa)] hK hN hP hD [0, 2] (by decide) rfl U hU hU9).2, hEx9.step hU9 (by rw [hU]; exact hS.2.1) (fl_free hD hS hA [0, 2] rfl), hNc9.moved hU9.alike⟩⟩ rfl rfl hl.1 rfl (lv_room (Nat.le_of_ble_eq_true rfl)) dL_law_260 ⟨(by show cells + 1 ≤ 601024; omega), (by show slots + 6 ≤ 7293034; omega)⟩) rfl rfl (by decide) (fun r_260 u_260 H locs h_260 hP hD hS => ?_)
    obtain ⟨rfl, h_260⟩ := h_260
    have hP : va_P D vwCl [M9, u_260, [(oa, aJ cy 1 (g))]].flatten H := hP
    have hD : va_D A [M9, u_260, [(oa, aJ cy 1 (g))]].flatten := hD
    refine lv_istore (lv' := [(5, .int (qI (1))), (0, .ref (b)), (1, .ref (x)), (2, .ref (mo)), (3, .ref (oa)), (4, .int (qI (((6 * t : Nat) : Int))))]) hx hb dL_law_263 hl (by decide) rfl (fun ls hl => ?_)
    refine lv_aload_n hx hb dL_law_265 rfl (lv_at hl 3 rfl) ?_
    refine lv_aload_n hx hb dL_law_266 rfl (lv_at hl 1 rfl) ?_
    refine lv_iload hx hb dL_law_267 (lv_at hl 5 rfl) ?_
    refine q_iconst hx hb dL_law_269 ?_
    refine q_iadd hx hb dL_law_270 ?_
    refine q_sld (j := 6 * t + 1) hx hb hX hbl hbA hS (by omega) ep0 dL_law_271 ?_
    refine q_backi [0] [1, 2] (br := [u_260, [(oa, aJ cy 1 (g))]]) hP hD hS hA (va_runV (As := [.int (qI (p0))]) (rest := []) ⟨hx, hb, hml, hown, hg⟩ (c_X8_remove_no1 l D cy mo mz msv mtx mmo mif mmg mtn mie mme mrd mas T hz HZ len tx th _ gT.1 hM9 p0 (by omega) (by omega) _) (cv_L_91 hg rfl rfl ⟨(Nat.le_of_ble_eq_true rfl), (Nat.le_of_ble_eq_true rfl)⟩) ⟨q_blind, va_recv hK (fl_blk hP 0 rfl) (ci := 8) (q0 := 0) rfl hfsM, q_preM _ hK hN hP hD [0] (by decide) rfl⟩ rfl rfl hl.1 rfl (lv_room (Nat.le_of_ble_eq_true rfl)) dL_law_272 ⟨(by show _ + 0 ≤ 601024; omega), (by show _ + 0 ≤ 7293034; omega)⟩) rfl rfl (by decide) (fun r_272 u_272 H locs h_272 hP hD hS => ?_)
    have hP : va_P D vwCl [u_260, [(oa, aJ cy 1 (g))], u_272].flatten H := hP
    have hD : va_D A [u_260, [(oa, aJ cy 1 (g))], u_272].flatten := hD
    obtain ⟨fs_272, hfs_272⟩ := MW_at h_272
    have gk9 : gOk (T) := gT.1
    refine lv_istore (lv' := [(6, .int (r_272)), (5, .int (qI (1))), (0, .ref (b)), (1, .ref (x)), (2, .ref (mo)), (3, .ref (oa)), (4, .int (qI (((6 * t : Nat) : Int))))]) hx hb dL_law_275 hl (by decide) rfl (fun ls hl => ?_)
    refine lv_aload_n hx hb dL_law_277 rfl (lv_at hl 4 rfl) ?_
    refine q_backi [2] [0, 1] (br := [u_260, [(oa, aJ cy 1 (g))]]) hP hD hS hA (va_runV (As := []) (rest := []) ⟨hx, hb, hml, hown, hg⟩ (c_X8_thrown l D cy mo mz msv mtx mmo mif mmg mtn mie mme mrd mas T hz HZ len tx 1 _ gk9 h_272 _) (cv_L_85 hg rfl rfl ⟨(Nat.le_of_ble_eq_true rfl), (Nat.le_of_ble_eq_true rfl)⟩) ⟨q_blind, va_recv hK (fl_blk hP 2 rfl) (ci := 8) (q0 := 0) rfl hfs_272, q_preM _ hK hN hP hD [2] (by decide) rfl⟩ rfl rfl hl.1 rfl (lv_room (Nat.le_of_ble_eq_true rfl)) dL_law_278 ⟨(by show _ + 0 ≤ 601024; omega), (by show _ + 0 ≤ 7293034; omega)⟩) rfl rfl (by decide) (fun r_278 u_278 H locs h_278 hP hD hS => ?_)
    have hP : va_P D vwCl [u_260, [(oa, aJ cy 1 (g))], u_278].flatten H := hP
    have hD : va_D A [u_260, [(oa, aJ cy 1 (g))], u_278].flatten := hD
    obtain ⟨rfl, h_278⟩ := h_278
    refine lv_iload hx hb dL_law_281 (lv_at hl 1 rfl) ?_
    refine q_icmp_eq (tgt := 288) hx hb dL_law_283 (by decide) (by omega) (fun c_283 => ?_) (fun c_283 => ?_)
    · skip
      refine lv_iload hx hb dL_law_288 (lv_at hl 1 rfl) ?_
      refine q_if_ne (tgt := 305) hx hb dL_law_290 (by decide) (by omega) (fun c_290 => ?_) (fun c_290 => ?_)
      · skip
        refine lv_goto (tgt := 1420) hx hb dL_law_305 (by decide) ?_
        have hP := fl_sub (bs' := [u_260, u_278, [(oa, aJ cy 1 (g))]]) hP [0, 2, 1] rfl
        have hD := fl_subD (bs' := [u_260, u_278, [(oa, aJ cy 1 (g))]]) hD [0, 2, 1] (by decide) rfl
        exact kk T hz HZ len tx 1 _ _ _ _ _ _ ⟨⟨la, lv9, ls9, fa, xh, xs, la2, lv92, ls92, fb, fw, bu, ta, rc, re, gb, oc, oe, rs, rc2, re2, gb2, oc2, oe2, rs2, rr, ad, h_260⟩, ⟨mz, msv, mtx, mmo, mif, mmg, mtn, mie, mme, mrd, mas, h_278⟩, gT, hHG, (by omega)⟩ hP hD hS (lv_sub hl [2, 3, 4, 5, 6] rfl)
      · skip
        exact absurd c_290 (by decide)
    · skip
      exact absurd c_283 (by decide)

set_option maxRecDepth 100000 in
set_option maxHeartbeats 4000000 in
theorem lw_setStrength {p : Program} {l : Launch} {e : Env} {s : State} {m : MethodId} {below : List Frame} {meth : Method} {c : Code} {b L : Nat} {sc9 : Nat → Int32} {D : va_G} {cy : Nat → ClassId} {A : Nat → Prop} {Q : State → Prop} (hlt9 : l.stackTraces = false) (B9 : lwB p s m c b L sc9 D cy A) {x mo oa t : Nat} (ht9 : 6 * t + 6 ≤ L) {T : LSt} {hz : Nat} {HZ : Nat → LSt} {len : Nat} {tx : Nat → Int} {th : Int} {W9 M9 : va_W} {g : Nat → Int64} {cells slots : Nat} (hr9 : cells ≤ 1000 ∧ slots ≤ 8000) (hI9 : lwI cy x mo T hz HZ len tx th W9 M9) {H : Heap} {locs : List Loc} {ls : Array Slot} (hP : va_P D vwCl [W9, M9, [(oa, aJ cy 1 g)]].flatten H) (hD : va_D A [W9, M9, [(oa, aJ cy 1 g)]].flatten) (hS : va_S A s.heap H locs) (hl : lv_has ls 9 (lwL b x mo oa t)) (kk : lwK p l e s m below meth c b D cy A Q x mo oa t cells slots) : W p l e room_1 s m #[Value.ref b] below meth c H locs cells slots Q (F0 m 308 ls []) := by
  obtain ⟨hx, hb, hml, hown, hg, hX, hbl, hbA, hA, hK, hN, hEx9, hNc9, hL9⟩ := B9
  obtain ⟨⟨la, lv9, ls9, fa, xh, xs, la2, lv92, ls92, fb, fw, bu, ta, rc, re, gb, oc, oe, rs, rc2, re2, gb2, oc2, oe2, rs2, rr, ad, hC9⟩, ⟨mz, msv, mtx, mmo, mif, mmg, mtn, mie, mme, mrd, mas, hM9⟩, gT, hHG, hln9⟩ := hI9
  have gT3 := gT.2
  have gN16 : lN9 T ≤ 16 := gT.1.2.2.1.1
  obtain ⟨fsC, hfsC⟩ := CW_at hC9
  obtain ⟨fsM, hfsM⟩ := MW_at hM9
  have hl : lv_has ls 9 [(0, .ref (b)), (1, .ref (x)), (2, .ref (mo)), (3, .ref (oa)), (4, .int (qI (((6 * t : Nat) : Int))))] := hl
  obtain ⟨p0, ep0⟩ : ∃ z : Int, (sc9 (6 * t + 1)).toInt = z := ⟨_, rfl⟩
  have r0 : -2147483648 ≤ p0 ∧ p0 < 2147483648 := by rw [← ep0]; exact ⟨Int32.le_toInt _, Int32.toInt_lt _⟩
  obtain ⟨p1, ep1⟩ : ∃ z : Int, (sc9 (6 * t + 2)).toInt = z := ⟨_, rfl⟩
  have r1 : -2147483648 ≤ p1 ∧ p1 < 2147483648 := by rw [← ep1]; exact ⟨Int32.le_toInt _, Int32.toInt_lt _⟩
  by_cases cA9 : 0 ≤ p0 ∧ p0 < (lN9 T : Int)
  · skip
    by_cases cB9 : 0 ≤ p1 ∧ p1 ≤ 3
    · skip
      refine lv_aload_n hx hb dL_law_308 rfl (lv_at hl 1 rfl) ?_
      refine lv_aload_n hx hb dL_law_309 rfl (lv_at hl 0 rfl) ?_
      refine lv_iload hx hb dL_law_310 (lv_at hl 4 rfl) ?_
      refine q_iconst hx hb dL_law_312 ?_
      refine q_iadd hx hb dL_law_313 ?_
      refine q_sld (j := 6 * t + 1) hx hb hX hbl hbA hS (by omega) ep0 dL_law_314 ?_
      refine lv_aload_n hx hb dL_law_315 rfl (lv_at hl 0 rfl) ?_
      refine lv_iload hx hb dL_law_316 (lv_at hl 4 rfl) ?_
      refine q_iconst hx hb dL_law_318 ?_
      refine q_iadd hx hb dL_law_319 ?_
      refine q_sld (j := 6 * t + 2) hx hb hX hbl hbA hS (by omega) ep1 dL_law_320 ?_
      refine lv_aload_n hx hb dL_law_321 rfl (lv_at hl 3 rfl) ?_
      refine q_backiX (mc := 0) (ms := 0) [0, 2] [1] (br := [M9]) hP hD hS hA (vx_runSW (As := [.ref (x), .int (qI (p0)), .int (qI (p1)), .ref (oa)]) (rest := []) ⟨hx, hb, hml, hown, hg⟩ (c_L_setStrength l D cy x la lv9 ls9 fa xh xs la2 lv92 ls92 fb fw bu ta rc re gb oc oe rs rc2 re2 gb2 oc2 oe2 rs2 rr ad T hz HZ len tx _ gT.1 hC9 oa _ p0 p1 p0.toNat (by omega) (by omega) _) (csW_L_92 hg rfl rfl ⟨(Nat.le_of_ble_eq_true rfl), (Nat.le_of_ble_eq_true rfl)⟩) ⟨q_blind, q_preM [.ref (x), .int (qI (p0)), .int (qI (p1)), .ref (oa)] hK hN hP hD [0, 2] (by decide) rfl⟩ rfl rfl hl.1 rfl (lv_room (Nat.le_of_ble_eq_true rfl)) dL_law_322 ⟨(by show cells + 0 ≤ 601024; omega), (by show slots + 0 ≤ 7293034; omega)⟩) rfl rfl (by decide) (fun r_322 u_322 H locs h_322 hP hD hS => ?_)
      obtain ⟨rfl, h_322⟩ := h_322
      have hP : va_P D vwCl [M9, u_322, [(oa, aJ cy 1 (qu (g) 0 ((qI (lC T 4 p0.toNat)).toInt64)))]].flatten H := hP
      have hD : va_D A [M9, u_322, [(oa, aJ cy 1 (qu (g) 0 ((qI (lC T 4 p0.toNat)).toInt64)))]].flatten := hD
      refine lv_istore (lv' := [(5, .int (qI (0))), (0, .ref (b)), (1, .ref (x)), (2, .ref (mo)), (3, .ref (oa)), (4, .int (qI (((6 * t : Nat) : Int))))]) hx hb dL_law_325 hl (by decide) rfl (fun ls hl => ?_)
      refine lv_aload_n hx hb dL_law_327 rfl (lv_at hl 3 rfl) ?_
      refine lv_aload_n hx hb dL_law_328 rfl (lv_at hl 1 rfl) ?_
      refine lv_iload hx hb dL_law_329 (lv_at hl 5 rfl) ?_
      refine q_iconst hx hb dL_law_331 ?_
      refine q_iadd hx hb dL_law_332 ?_
      refine q_sld (j := 6 * t + 1) hx hb hX hbl hbA hS (by omega) ep0 dL_law_333 ?_
      refine lv_aload_n hx hb dL_law_334 rfl (lv_at hl 1 rfl) ?_
      refine lv_iload hx hb dL_law_335 (lv_at hl 5 rfl) ?_
      refine q_iconst hx hb dL_law_337 ?_
      refine q_iadd hx hb dL_law_338 ?_
      refine q_sld (j := 6 * t + 2) hx hb hX hbl hbA hS (by omega) ep1 dL_law_339 ?_
      refine q_backi [0] [1, 2] (br := [u_322, [(oa, aJ cy 1 (qu (g) 0 ((qI (lC T 4 p0.toNat)).toInt64)))]]) hP hD hS hA (va_runV (As := [.int (qI (p0)), .int (qI (p1))]) (rest := []) ⟨hx, hb, hml, hown, hg⟩ (c_X8_setStrength l D cy mo mz msv mtx mmo mif mmg mtn mie mme mrd mas T hz HZ len tx th _ gT.1 hM9 p0 p1 p0.toNat (by omega) (by omega) _) (cv_L_95 hg rfl rfl ⟨(Nat.le_of_ble_eq_true rfl), (Nat.le_of_ble_eq_true rfl)⟩) ⟨q_blind, va_recv hK (fl_blk hP 0 rfl) (ci := 8) (q0 := 0) rfl hfsM, q_preM _ hK hN hP hD [0] (by decide) rfl⟩ rfl rfl hl.1 rfl (lv_room (Nat.le_of_ble_eq_true rfl)) dL_law_340 ⟨(by show _ + 0 ≤ 601024; omega), (by show _ + 0 ≤ 7293034; omega)⟩) rfl rfl (by decide) (fun r_340 u_340 H locs h_340 hP hD hS => ?_)
      have hP : va_P D vwCl [u_322, [(oa, aJ cy 1 (qu (g) 0 ((qI (lC T 4 p0.toNat)).toInt64)))], u_340].flatten H := hP
      have hD : va_D A [u_322, [(oa, aJ cy 1 (qu (g) 0 ((qI (lC T 4 p0.toNat)).toInt64)))], u_340].flatten := hD
      obtain ⟨rfl, h_340⟩ := h_340
      obtain ⟨fs_340, hfs_340⟩ := MW_at h_340
      have gk9 : gOk ((seT (chC T 4 p0.toNat p1))) := seT_gOk (chC4_ok gT.1 _ (by omega))
      refine lv_istore (lv' := [(6, .int (qI (lC T 4 p0.toNat))), (5, .int (qI (0))), (0, .ref (b)), (1, .ref (x)), (2, .ref (mo)), (3, .ref (oa)), (4, .int (qI (((6 * t : Nat) : Int))))]) hx hb dL_law_343 hl (by decide) rfl (fun ls hl => ?_)
      refine lv_aload_n hx hb dL_law_345 rfl (lv_at hl 4 rfl) ?_
      refine q_backi [2] [0, 1] (br := [u_322, [(oa, aJ cy 1 (qu (g) 0 ((qI (lC T 4 p0.toNat)).toInt64)))]]) hP hD hS hA (va_runV (As := []) (rest := []) ⟨hx, hb, hml, hown, hg⟩ (c_X8_thrown l D cy mo mz msv mtx mmo mif mmg mtn mie mme mrd mas (seT (chC T 4 p0.toNat p1)) (min (hz + 1) 8) (pushH T HZ) len tx 0 _ gk9 h_340 _) (cv_L_85 hg rfl rfl ⟨(Nat.le_of_ble_eq_true rfl), (Nat.le_of_ble_eq_true rfl)⟩) ⟨q_blind, va_recv hK (fl_blk hP 2 rfl) (ci := 8) (q0 := 0) rfl hfs_340, q_preM _ hK hN hP hD [2] (by decide) rfl⟩ rfl rfl hl.1 rfl (lv_room (Nat.le_of_ble_eq_true rfl)) dL_law_346 ⟨(by show _ + 0 ≤ 601024; omega), (by show _ + 0 ≤ 7293034; omega)⟩) rfl rfl (by decide) (fun r_346 u_346 H locs h_346 hP hD hS => ?_)
      have hP : va_P D vwCl [u_322, [(oa, aJ cy 1 (qu (g) 0 ((qI (lC T 4 p0.toNat)).toInt64)))], u_346].flatten H := hP
      have hD : va_D A [u_322, [(oa, aJ cy 1 (qu (g) 0 ((qI (lC T 4 p0.toNat)).toInt64)))], u_346].flatten := hD
      obtain ⟨rfl, h_346⟩ := h_346
      refine lv_iload hx hb dL_law_349 (lv_at hl 1 rfl) ?_
      refine q_icmp_eq (tgt := 356) hx hb dL_law_351 (by decide) (by omega) (fun c_351 => ?_) (fun c_351 => ?_)
      · skip
        refine lv_iload hx hb dL_law_356 (lv_at hl 1 rfl) ?_
        refine q_if_ne (tgt := 373) hx hb dL_law_358 (by decide) (by omega) (fun c_358 => ?_) (fun c_358 => ?_)
        · skip
          exact absurd c_358 (by decide)
        · skip
          refine lv_aload_n hx hb dL_law_361 rfl (lv_at hl 5 rfl) ?_
          refine q_iconst hx hb dL_law_362 ?_
          refine q_laldW (j := 0) (v := (qI (lC T 4 p0.toNat)).toInt64) hx hb hK (fl_blk hP 1 rfl) 0 rfl (by omega) (qu_s _ _ _) dL_law_363 ?_
          refine lv_iload hx hb dL_law_364 (lv_at hl 0 rfl) ?_
          refine lv_i2l hx hb dL_law_366 rfl ?_
          refine q_lcmp0 hx hb dL_law_367 ?_
          refine q_if_eq (tgt := 373) hx hb dL_law_368 (by decide) (by omega) (fun c_368 => ?_) (fun c_368 => ?_)
          · skip
            refine lv_goto (tgt := 1420) hx hb dL_law_373 (by decide) ?_
            have hP := fl_sub (bs' := [u_322, u_346, [(oa, aJ cy 1 (qu (g) 0 ((qI (lC T 4 p0.toNat)).toInt64)))]]) hP [0, 2, 1] rfl
            have hD := fl_subD (bs' := [u_322, u_346, [(oa, aJ cy 1 (qu (g) 0 ((qI (lC T 4 p0.toNat)).toInt64)))]]) hD [0, 2, 1] (by decide) rfl
            refine W.widen (k := cells + 1) (n := slots + 6) (by omega) (by omega) ?_
            exact kk (seT (chC T 4 p0.toNat p1)) (min (hz + 1) 8) (pushH T HZ) len tx 0 _ _ _ _ _ _ ⟨⟨la, lv9, ls9, fa, xh, xs, la2, lv92, ls92, fb, fw, bu, ta, rc, re, gb, oc, oe, rs, rc2, re2, gb2, oc2, oe2, rs2, rr, ad, h_322⟩, ⟨mz, msv, mtx, mmo, mif, mmg, mtn, mie, mme, mrd, mas, h_346⟩, ⟨seT_gOk (chC4_ok gT.1 _ (by omega)), gT3⟩, gK_push gT hHG, (by omega)⟩ hP hD hS (lv_sub hl [2, 3, 4, 5, 6] rfl)
          · skip
            exact absurd c_368 (by decide)
      · skip
        exact absurd c_351 (by decide)
    · skip
      refine lv_aload_n hx hb dL_law_308 rfl (lv_at hl 1 rfl) ?_
      refine lv_aload_n hx hb dL_law_309 rfl (lv_at hl 0 rfl) ?_
      refine lv_iload hx hb dL_law_310 (lv_at hl 4 rfl) ?_
      refine q_iconst hx hb dL_law_312 ?_
      refine q_iadd hx hb dL_law_313 ?_
      refine q_sld (j := 6 * t + 1) hx hb hX hbl hbA hS (by omega) ep0 dL_law_314 ?_
      refine lv_aload_n hx hb dL_law_315 rfl (lv_at hl 0 rfl) ?_
      refine lv_iload hx hb dL_law_316 (lv_at hl 4 rfl) ?_
      refine q_iconst hx hb dL_law_318 ?_
      refine q_iadd hx hb dL_law_319 ?_
      refine q_sld (j := 6 * t + 2) hx hb hX hbl hbA hS (by omega) ep1 dL_law_320 ?_
      refine lv_aload_n hx hb dL_law_321 rfl (lv_at hl 3 rfl) ?_
      refine q_backiX (mc := 1) (ms := 6) [0, 2] [1] (br := [M9]) hP hD hS hA (vx_runSW (As := [.ref (x), .int (qI (p0)), .int (qI (p1)), .ref (oa)]) (rest := []) ⟨hx, hb, hml, hown, hg⟩ (c_L_setStrength_no2 l hlt9 D cy x la lv9 ls9 fa xh xs la2 lv92 ls92 fb fw bu ta rc re gb oc oe rs rc2 re2 gb2 oc2 oe2 rs2 rr ad T hz HZ len tx _ gT.1 hC9 oa _ p0 p1 (by omega) (by omega) (by omega) (by omega) _) (csW_L_92 hg rfl rfl ⟨(Nat.le_of_ble_eq_true rfl), (Nat.le_of_ble_eq_true rfl)⟩) ⟨q_blindW, fun U hU hU9 => ⟨rfl, (q_preM [.ref (x), .int (qI (p0)), .int (qI (p1)), .ref (oa)] hK hN hP hD [0, 2] (by decide) rfl U hU hU9).2, hEx9.step hU9 (by rw [hU]; exact hS.2.1) (fl_free hD hS hA [0, 2] rfl), hNc9.moved hU9.alike⟩⟩ rfl rfl hl.1 rfl (lv_room (Nat.le_of_ble_eq_true rfl)) dL_law_322 ⟨(by show cells + 1 ≤ 601024; omega), (by show slots + 6 ≤ 7293034; omega)⟩) rfl rfl (by decide) (fun r_322 u_322 H locs h_322 hP hD hS => ?_)
      obtain ⟨rfl, h_322⟩ := h_322
      have hP : va_P D vwCl [M9, u_322, [(oa, aJ cy 1 (g))]].flatten H := hP
      have hD : va_D A [M9, u_322, [(oa, aJ cy 1 (g))]].flatten := hD
      refine lv_istore (lv' := [(5, .int (qI (2))), (0, .ref (b)), (1, .ref (x)), (2, .ref (mo)), (3, .ref (oa)), (4, .int (qI (((6 * t : Nat) : Int))))]) hx hb dL_law_325 hl (by decide) rfl (fun ls hl => ?_)
      refine lv_aload_n hx hb dL_law_327 rfl (lv_at hl 3 rfl) ?_
      refine lv_aload_n hx hb dL_law_328 rfl (lv_at hl 1 rfl) ?_
      refine lv_iload hx hb dL_law_329 (lv_at hl 5 rfl) ?_
      refine q_iconst hx hb dL_law_331 ?_
      refine q_iadd hx hb dL_law_332 ?_
      refine q_sld (j := 6 * t + 1) hx hb hX hbl hbA hS (by omega) ep0 dL_law_333 ?_
      refine lv_aload_n hx hb dL_law_334 rfl (lv_at hl 1 rfl) ?_
      refine lv_iload hx hb dL_law_335 (lv_at hl 5 rfl) ?_
      refine q_iconst hx hb dL_law_337 ?_
      refine q_iadd hx hb dL_law_338 ?_
      refine q_sld (j := 6 * t + 2) hx hb hX hbl hbA hS (by omega) ep1 dL_law_339 ?_
      refine q_backi [0] [1, 2] (br := [u_322, [(oa, aJ cy 1 (g))]]) hP hD hS hA (va_runV (As := [.int (qI (p0)), .int (qI (p1))]) (rest := []) ⟨hx, hb, hml, hown, hg⟩ (c_X8_setStrength_no2 l D cy mo mz msv mtx mmo mif mmg mtn mie mme mrd mas T hz HZ len tx th _ gT.1 hM9 p0 p1 (by omega) (by omega) (by omega) (by omega) _) (cv_L_95 hg rfl rfl ⟨(Nat.le_of_ble_eq_true rfl), (Nat.le_of_ble_eq_true rfl)⟩) ⟨q_blind, va_recv hK (fl_blk hP 0 rfl) (ci := 8) (q0 := 0) rfl hfsM, q_preM _ hK hN hP hD [0] (by decide) rfl⟩ rfl rfl hl.1 rfl (lv_room (Nat.le_of_ble_eq_true rfl)) dL_law_340 ⟨(by show _ + 0 ≤ 601024; omega), (by show _ + 0 ≤ 7293034; omega)⟩) rfl rfl (by decide) (fun r_340 u_340 H locs h_340 hP hD hS => ?_)
      have hP : va_P D vwCl [u_322, [(oa, aJ cy 1 (g))], u_340].flatten H := hP
      have hD : va_D A [u_322, [(oa, aJ cy 1 (g))], u_340].flatten := hD
      obtain ⟨fs_340, hfs_340⟩ := MW_at h_340
      have gk9 : gOk (T) := gT.1
      refine lv_istore (lv' := [(6, .int (r_340)), (5, .int (qI (2))), (0, .ref (b)), (1, .ref (x)), (2, .ref (mo)), (3, .ref (oa)), (4, .int (qI (((6 * t : Nat) : Int))))]) hx hb dL_law_343 hl (by decide) rfl (fun ls hl => ?_)
      refine lv_aload_n hx hb dL_law_345 rfl (lv_at hl 4 rfl) ?_
      refine q_backi [2] [0, 1] (br := [u_322, [(oa, aJ cy 1 (g))]]) hP hD hS hA (va_runV (As := []) (rest := []) ⟨hx, hb, hml, hown, hg⟩ (c_X8_thrown l D cy mo mz msv mtx mmo mif mmg mtn mie mme mrd mas T hz HZ len tx 2 _ gk9 h_340 _) (cv_L_85 hg rfl rfl ⟨(Nat.le_of_ble_eq_true rfl), (Nat.le_of_ble_eq_true rfl)⟩) ⟨q_blind, va_recv hK (fl_blk hP 2 rfl) (ci := 8) (q0 := 0) rfl hfs_340, q_preM _ hK hN hP hD [2] (by decide) rfl⟩ rfl rfl hl.1 rfl (lv_room (Nat.le_of_ble_eq_true rfl)) dL_law_346 ⟨(by show _ + 0 ≤ 601024; omega), (by show _ + 0 ≤ 7293034; omega)⟩) rfl rfl (by decide) (fun r_346 u_346 H locs h_346 hP hD hS => ?_)
      have hP : va_P D vwCl [u_322, [(oa, aJ cy 1 (g))], u_346].flatten H := hP
      have hD : va_D A [u_322, [(oa, aJ cy 1 (g))], u_346].flatten := hD
      obtain ⟨rfl, h_346⟩ := h_346
      refine lv_iload hx hb dL_law_349 (lv_at hl 1 rfl) ?_
      refine q_icmp_eq (tgt := 356) hx hb dL_law_351 (by decide) (by omega) (fun c_351 => ?_) (fun c_351 => ?_)
      · skip
        refine lv_iload hx hb dL_law_356 (lv_at hl 1 rfl) ?_
        refine q_if_ne (tgt := 373) hx hb dL_law_358 (by decide) (by omega) (fun c_358 => ?_) (fun c_358 => ?_)
        · skip
          refine lv_goto (tgt := 1420) hx hb dL_law_373 (by decide) ?_
          have hP := fl_sub (bs' := [u_322, u_346, [(oa, aJ cy 1 (g))]]) hP [0, 2, 1] rfl
          have hD := fl_subD (bs' := [u_322, u_346, [(oa, aJ cy 1 (g))]]) hD [0, 2, 1] (by decide) rfl
          exact kk T hz HZ len tx 2 _ _ _ _ _ _ ⟨⟨la, lv9, ls9, fa, xh, xs, la2, lv92, ls92, fb, fw, bu, ta, rc, re, gb, oc, oe, rs, rc2, re2, gb2, oc2, oe2, rs2, rr, ad, h_322⟩, ⟨mz, msv, mtx, mmo, mif, mmg, mtn, mie, mme, mrd, mas, h_346⟩, gT, hHG, (by omega)⟩ hP hD hS (lv_sub hl [2, 3, 4, 5, 6] rfl)
        · skip
          exact absurd c_358 (by decide)
      · skip
        exact absurd c_351 (by decide)
  · skip
    refine lv_aload_n hx hb dL_law_308 rfl (lv_at hl 1 rfl) ?_
    refine lv_aload_n hx hb dL_law_309 rfl (lv_at hl 0 rfl) ?_
    refine lv_iload hx hb dL_law_310 (lv_at hl 4 rfl) ?_
    refine q_iconst hx hb dL_law_312 ?_
    refine q_iadd hx hb dL_law_313 ?_
    refine q_sld (j := 6 * t + 1) hx hb hX hbl hbA hS (by omega) ep0 dL_law_314 ?_
    refine lv_aload_n hx hb dL_law_315 rfl (lv_at hl 0 rfl) ?_
    refine lv_iload hx hb dL_law_316 (lv_at hl 4 rfl) ?_
    refine q_iconst hx hb dL_law_318 ?_
    refine q_iadd hx hb dL_law_319 ?_
    refine q_sld (j := 6 * t + 2) hx hb hX hbl hbA hS (by omega) ep1 dL_law_320 ?_
    refine lv_aload_n hx hb dL_law_321 rfl (lv_at hl 3 rfl) ?_
    refine q_backiX (mc := 1) (ms := 6) [0, 2] [1] (br := [M9]) hP hD hS hA (vx_runSW (As := [.ref (x), .int (qI (p0)), .int (qI (p1)), .ref (oa)]) (rest := []) ⟨hx, hb, hml, hown, hg⟩ (c_L_setStrength_no1 l hlt9 D cy x la lv9 ls9 fa xh xs la2 lv92 ls92 fb fw bu ta rc re gb oc oe rs rc2 re2 gb2 oc2 oe2 rs2 rr ad T hz HZ len tx _ gT.1 hC9 oa _ p0 p1 (by omega) (by omega) (by omega) _) (csW_L_92 hg rfl rfl ⟨(Nat.le_of_ble_eq_true rfl), (Nat.le_of_ble_eq_true rfl)⟩) ⟨q_blindW, fun U hU hU9 => ⟨rfl, (q_preM [.ref (x), .int (qI (p0)), .int (qI (p1)), .ref (oa)] hK hN hP hD [0, 2] (by decide) rfl U hU hU9).2, hEx9.step hU9 (by rw [hU]; exact hS.2.1) (fl_free hD hS hA [0, 2] rfl), hNc9.moved hU9.alike⟩⟩ rfl rfl hl.1 rfl (lv_room (Nat.le_of_ble_eq_true rfl)) dL_law_322 ⟨(by show cells + 1 ≤ 601024; omega), (by show slots + 6 ≤ 7293034; omega)⟩) rfl rfl (by decide) (fun r_322 u_322 H locs h_322 hP hD hS => ?_)
    obtain ⟨rfl, h_322⟩ := h_322
    have hP : va_P D vwCl [M9, u_322, [(oa, aJ cy 1 (g))]].flatten H := hP
    have hD : va_D A [M9, u_322, [(oa, aJ cy 1 (g))]].flatten := hD
    refine lv_istore (lv' := [(5, .int (qI (1))), (0, .ref (b)), (1, .ref (x)), (2, .ref (mo)), (3, .ref (oa)), (4, .int (qI (((6 * t : Nat) : Int))))]) hx hb dL_law_325 hl (by decide) rfl (fun ls hl => ?_)
    refine lv_aload_n hx hb dL_law_327 rfl (lv_at hl 3 rfl) ?_
    refine lv_aload_n hx hb dL_law_328 rfl (lv_at hl 1 rfl) ?_
    refine lv_iload hx hb dL_law_329 (lv_at hl 5 rfl) ?_
    refine q_iconst hx hb dL_law_331 ?_
    refine q_iadd hx hb dL_law_332 ?_
    refine q_sld (j := 6 * t + 1) hx hb hX hbl hbA hS (by omega) ep0 dL_law_333 ?_
    refine lv_aload_n hx hb dL_law_334 rfl (lv_at hl 1 rfl) ?_
    refine lv_iload hx hb dL_law_335 (lv_at hl 5 rfl) ?_
    refine q_iconst hx hb dL_law_337 ?_
    refine q_iadd hx hb dL_law_338 ?_
    refine q_sld (j := 6 * t + 2) hx hb hX hbl hbA hS (by omega) ep1 dL_law_339 ?_
    refine q_backi [0] [1, 2] (br := [u_322, [(oa, aJ cy 1 (g))]]) hP hD hS hA (va_runV (As := [.int (qI (p0)), .int (qI (p1))]) (rest := []) ⟨hx, hb, hml, hown, hg⟩ (c_X8_setStrength_no1 l D cy mo mz msv mtx mmo mif mmg mtn mie mme mrd mas T hz HZ len tx th _ gT.1 hM9 p0 p1 (by omega) (by omega) (by omega) _) (cv_L_95 hg rfl rfl ⟨(Nat.le_of_ble_eq_true rfl), (Nat.le_of_ble_eq_true rfl)⟩) ⟨q_blind, va_recv hK (fl_blk hP 0 rfl) (ci := 8) (q0 := 0) rfl hfsM, q_preM _ hK hN hP hD [0] (by decide) rfl⟩ rfl rfl hl.1 rfl (lv_room (Nat.le_of_ble_eq_true rfl)) dL_law_340 ⟨(by show _ + 0 ≤ 601024; omega), (by show _ + 0 ≤ 7293034; omega)⟩) rfl rfl (by decide) (fun r_340 u_340 H locs h_340 hP hD hS => ?_)
    have hP : va_P D vwCl [u_322, [(oa, aJ cy 1 (g))], u_340].flatten H := hP
    have hD : va_D A [u_322, [(oa, aJ cy 1 (g))], u_340].flatten := hD
    obtain ⟨fs_340, hfs_340⟩ := MW_at h_340
    have gk9 : gOk (T) := gT.1
    refine lv_istore (lv' := [(6, .int (r_340)), (5, .int (qI (1))), (0, .ref (b)), (1, .ref (x)), (2, .ref (mo)), (3, .ref (oa)), (4, .int (qI (((6 * t : Nat) : Int))))]) hx hb dL_law_343 hl (by decide) rfl (fun ls hl => ?_)
    refine lv_aload_n hx hb dL_law_345 rfl (lv_at hl 4 rfl) ?_
    refine q_backi [2] [0, 1] (br := [u_322, [(oa, aJ cy 1 (g))]]) hP hD hS hA (va_runV (As := []) (rest := []) ⟨hx, hb, hml, hown, hg⟩ (c_X8_thrown l D cy mo mz msv mtx mmo mif mmg mtn mie mme mrd mas T hz HZ len tx 1 _ gk9 h_340 _) (cv_L_85 hg rfl rfl ⟨(Nat.le_of_ble_eq_true rfl), (Nat.le_of_ble_eq_true rfl)⟩) ⟨q_blind, va_recv hK (fl_blk hP 2 rfl) (ci := 8) (q0 := 0) rfl hfs_340, q_preM _ hK hN hP hD [2] (by decide) rfl⟩ rfl rfl hl.1 rfl (lv_room (Nat.le_of_ble_eq_true rfl)) dL_law_346 ⟨(by show _ + 0 ≤ 601024; omega), (by show _ + 0 ≤ 7293034; omega)⟩) rfl rfl (by decide) (fun r_346 u_346 H locs h_346 hP hD hS => ?_)
    have hP : va_P D vwCl [u_322, [(oa, aJ cy 1 (g))], u_346].flatten H := hP
    have hD : va_D A [u_322, [(oa, aJ cy 1 (g))], u_346].flatten := hD
    obtain ⟨rfl, h_346⟩ := h_346
    refine lv_iload hx hb dL_law_349 (lv_at hl 1 rfl) ?_
    refine q_icmp_eq (tgt := 356) hx hb dL_law_351 (by decide) (by omega) (fun c_351 => ?_) (fun c_351 => ?_)
    · skip
      refine lv_iload hx hb dL_law_356 (lv_at hl 1 rfl) ?_
      refine q_if_ne (tgt := 373) hx hb dL_law_358 (by decide) (by omega) (fun c_358 => ?_) (fun c_358 => ?_)
      · skip
        refine lv_goto (tgt := 1420) hx hb dL_law_373 (by decide) ?_
        have hP := fl_sub (bs' := [u_322, u_346, [(oa, aJ cy 1 (g))]]) hP [0, 2, 1] rfl
        have hD := fl_subD (bs' := [u_322, u_346, [(oa, aJ cy 1 (g))]]) hD [0, 2, 1] (by decide) rfl
        exact kk T hz HZ len tx 1 _ _ _ _ _ _ ⟨⟨la, lv9, ls9, fa, xh, xs, la2, lv92, ls92, fb, fw, bu, ta, rc, re, gb, oc, oe, rs, rc2, re2, gb2, oc2, oe2, rs2, rr, ad, h_322⟩, ⟨mz, msv, mtx, mmo, mif, mmg, mtn, mie, mme, mrd, mas, h_346⟩, gT, hHG, (by omega)⟩ hP hD hS (lv_sub hl [2, 3, 4, 5, 6] rfl)
      · skip
        exact absurd c_358 (by decide)
    · skip
      exact absurd c_351 (by decide)

set_option maxRecDepth 100000 in
set_option maxHeartbeats 4000000 in
theorem lw_setNumber {p : Program} {l : Launch} {e : Env} {s : State} {m : MethodId} {below : List Frame} {meth : Method} {c : Code} {b L : Nat} {sc9 : Nat → Int32} {D : va_G} {cy : Nat → ClassId} {A : Nat → Prop} {Q : State → Prop} (hlt9 : l.stackTraces = false) (B9 : lwB p s m c b L sc9 D cy A) {x mo oa t : Nat} (ht9 : 6 * t + 6 ≤ L) {T : LSt} {hz : Nat} {HZ : Nat → LSt} {len : Nat} {tx : Nat → Int} {th : Int} {W9 M9 : va_W} {g : Nat → Int64} {cells slots : Nat} (hr9 : cells ≤ 1000 ∧ slots ≤ 8000) (hI9 : lwI cy x mo T hz HZ len tx th W9 M9) {H : Heap} {locs : List Loc} {ls : Array Slot} (hP : va_P D vwCl [W9, M9, [(oa, aJ cy 1 g)]].flatten H) (hD : va_D A [W9, M9, [(oa, aJ cy 1 g)]].flatten) (hS : va_S A s.heap H locs) (hl : lv_has ls 9 (lwL b x mo oa t)) (kk : lwK p l e s m below meth c b D cy A Q x mo oa t cells slots) : W p l e room_1 s m #[Value.ref b] below meth c H locs cells slots Q (F0 m 376 ls []) := by
  obtain ⟨hx, hb, hml, hown, hg, hX, hbl, hbA, hA, hK, hN, hEx9, hNc9, hL9⟩ := B9
  obtain ⟨⟨la, lv9, ls9, fa, xh, xs, la2, lv92, ls92, fb, fw, bu, ta, rc, re, gb, oc, oe, rs, rc2, re2, gb2, oc2, oe2, rs2, rr, ad, hC9⟩, ⟨mz, msv, mtx, mmo, mif, mmg, mtn, mie, mme, mrd, mas, hM9⟩, gT, hHG, hln9⟩ := hI9
  have gT3 := gT.2
  have gN16 : lN9 T ≤ 16 := gT.1.2.2.1.1
  obtain ⟨fsC, hfsC⟩ := CW_at hC9
  obtain ⟨fsM, hfsM⟩ := MW_at hM9
  have hl : lv_has ls 9 [(0, .ref (b)), (1, .ref (x)), (2, .ref (mo)), (3, .ref (oa)), (4, .int (qI (((6 * t : Nat) : Int))))] := hl
  obtain ⟨p0, ep0⟩ : ∃ z : Int, (sc9 (6 * t + 1)).toInt = z := ⟨_, rfl⟩
  have r0 : -2147483648 ≤ p0 ∧ p0 < 2147483648 := by rw [← ep0]; exact ⟨Int32.le_toInt _, Int32.toInt_lt _⟩
  obtain ⟨p1, ep1⟩ : ∃ z : Int, (sc9 (6 * t + 2)).toInt = z := ⟨_, rfl⟩
  have r1 : -2147483648 ≤ p1 ∧ p1 < 2147483648 := by rw [← ep1]; exact ⟨Int32.le_toInt _, Int32.toInt_lt _⟩
  by_cases cA9 : 0 ≤ p0 ∧ p0 < (lN9 T : Int)
  · skip
    by_cases cB9 : -2000 ≤ p1 ∧ p1 ≤ 2000
    · skip
      refine lv_aload_n hx hb dL_law_376 rfl (lv_at hl 1 rfl) ?_
      refine lv_aload_n hx hb dL_law_377 rfl (lv_at hl 0 rfl) ?_
      refine lv_iload hx hb dL_law_378 (lv_at hl 4 rfl) ?_
      refine q_iconst hx hb dL_law_380 ?_
      refine q_iadd hx hb dL_law_381 ?_
      refine q_sld (j := 6 * t + 1) hx hb hX hbl hbA hS (by omega) ep0 dL_law_382 ?_
      refine lv_aload_n hx hb dL_law_383 rfl (lv_at hl 0 rfl) ?_
      refine lv_iload hx hb dL_law_384 (lv_at hl 4 rfl) ?_
      refine q_iconst hx hb dL_law_386 ?_
      refine q_iadd hx hb dL_law_387 ?_
      refine q_sld (j := 6 * t + 2) hx hb hX hbl hbA hS (by omega) ep1 dL_law_388 ?_
      refine lv_aload_n hx hb dL_law_389 rfl (lv_at hl 3 rfl) ?_
      refine q_backiX (mc := 0) (ms := 0) [0, 2] [1] (br := [M9]) hP hD hS hA (vx_runSW (As := [.ref (x), .int (qI (p0)), .int (qI (p1)), .ref (oa)]) (rest := []) ⟨hx, hb, hml, hown, hg⟩ (c_L_setNumber l D cy x la lv9 ls9 fa xh xs la2 lv92 ls92 fb fw bu ta rc re gb oc oe rs rc2 re2 gb2 oc2 oe2 rs2 rr ad T hz HZ len tx _ gT.1 hC9 oa _ p0 p1 p0.toNat (by omega) (by omega) _) (csW_L_96 hg rfl rfl ⟨(Nat.le_of_ble_eq_true rfl), (Nat.le_of_ble_eq_true rfl)⟩) ⟨q_blind, q_preM [.ref (x), .int (qI (p0)), .int (qI (p1)), .ref (oa)] hK hN hP hD [0, 2] (by decide) rfl⟩ rfl rfl hl.1 rfl (lv_room (Nat.le_of_ble_eq_true rfl)) dL_law_390 ⟨(by show cells + 0 ≤ 601024; omega), (by show slots + 0 ≤ 7293034; omega)⟩) rfl rfl (by decide) (fun r_390 u_390 H locs h_390 hP hD hS => ?_)
      obtain ⟨rfl, h_390⟩ := h_390
      have hP : va_P D vwCl [M9, u_390, [(oa, aJ cy 1 (qu (g) 0 ((qI (lC T 3 p0.toNat)).toInt64)))]].flatten H := hP
      have hD : va_D A [M9, u_390, [(oa, aJ cy 1 (qu (g) 0 ((qI (lC T 3 p0.toNat)).toInt64)))]].flatten := hD
      refine lv_istore (lv' := [(5, .int (qI (0))), (0, .ref (b)), (1, .ref (x)), (2, .ref (mo)), (3, .ref (oa)), (4, .int (qI (((6 * t : Nat) : Int))))]) hx hb dL_law_393 hl (by decide) rfl (fun ls hl => ?_)
      refine lv_aload_n hx hb dL_law_395 rfl (lv_at hl 3 rfl) ?_
      refine lv_aload_n hx hb dL_law_396 rfl (lv_at hl 1 rfl) ?_
      refine lv_iload hx hb dL_law_397 (lv_at hl 5 rfl) ?_
      refine q_iconst hx hb dL_law_399 ?_
      refine q_iadd hx hb dL_law_400 ?_
      refine q_sld (j := 6 * t + 1) hx hb hX hbl hbA hS (by omega) ep0 dL_law_401 ?_
      refine lv_aload_n hx hb dL_law_402 rfl (lv_at hl 1 rfl) ?_
      refine lv_iload hx hb dL_law_403 (lv_at hl 5 rfl) ?_
      refine q_iconst hx hb dL_law_405 ?_
      refine q_iadd hx hb dL_law_406 ?_
      refine q_sld (j := 6 * t + 2) hx hb hX hbl hbA hS (by omega) ep1 dL_law_407 ?_
      refine q_backi [0] [1, 2] (br := [u_390, [(oa, aJ cy 1 (qu (g) 0 ((qI (lC T 3 p0.toNat)).toInt64)))]]) hP hD hS hA (va_runV (As := [.int (qI (p0)), .int (qI (p1))]) (rest := []) ⟨hx, hb, hml, hown, hg⟩ (c_X8_setNumber l D cy mo mz msv mtx mmo mif mmg mtn mie mme mrd mas T hz HZ len tx th _ gT.1 hM9 p0 p1 p0.toNat (by omega) (by omega) _) (cv_L_98 hg rfl rfl ⟨(Nat.le_of_ble_eq_true rfl), (Nat.le_of_ble_eq_true rfl)⟩) ⟨q_blind, va_recv hK (fl_blk hP 0 rfl) (ci := 8) (q0 := 0) rfl hfsM, q_preM _ hK hN hP hD [0] (by decide) rfl⟩ rfl rfl hl.1 rfl (lv_room (Nat.le_of_ble_eq_true rfl)) dL_law_408 ⟨(by show _ + 0 ≤ 601024; omega), (by show _ + 0 ≤ 7293034; omega)⟩) rfl rfl (by decide) (fun r_408 u_408 H locs h_408 hP hD hS => ?_)
      have hP : va_P D vwCl [u_390, [(oa, aJ cy 1 (qu (g) 0 ((qI (lC T 3 p0.toNat)).toInt64)))], u_408].flatten H := hP
      have hD : va_D A [u_390, [(oa, aJ cy 1 (qu (g) 0 ((qI (lC T 3 p0.toNat)).toInt64)))], u_408].flatten := hD
      obtain ⟨rfl, h_408⟩ := h_408
      obtain ⟨fs_408, hfs_408⟩ := MW_at h_408
      have gk9 : gOk ((seT (chC T 3 p0.toNat p1))) := seT_gOk (chC3_ok gT.1 _ (by omega))
      refine lv_istore (lv' := [(6, .int (qI (lC T 3 p0.toNat))), (5, .int (qI (0))), (0, .ref (b)), (1, .ref (x)), (2, .ref (mo)), (3, .ref (oa)), (4, .int (qI (((6 * t : Nat) : Int))))]) hx hb dL_law_411 hl (by decide) rfl (fun ls hl => ?_)
      refine lv_aload_n hx hb dL_law_413 rfl (lv_at hl 4 rfl) ?_
      refine q_backi [2] [0, 1] (br := [u_390, [(oa, aJ cy 1 (qu (g) 0 ((qI (lC T 3 p0.toNat)).toInt64)))]]) hP hD hS hA (va_runV (As := []) (rest := []) ⟨hx, hb, hml, hown, hg⟩ (c_X8_thrown l D cy mo mz msv mtx mmo mif mmg mtn mie mme mrd mas (seT (chC T 3 p0.toNat p1)) (min (hz + 1) 8) (pushH T HZ) len tx 0 _ gk9 h_408 _) (cv_L_85 hg rfl rfl ⟨(Nat.le_of_ble_eq_true rfl), (Nat.le_of_ble_eq_true rfl)⟩) ⟨q_blind, va_recv hK (fl_blk hP 2 rfl) (ci := 8) (q0 := 0) rfl hfs_408, q_preM _ hK hN hP hD [2] (by decide) rfl⟩ rfl rfl hl.1 rfl (lv_room (Nat.le_of_ble_eq_true rfl)) dL_law_414 ⟨(by show _ + 0 ≤ 601024; omega), (by show _ + 0 ≤ 7293034; omega)⟩) rfl rfl (by decide) (fun r_414 u_414 H locs h_414 hP hD hS => ?_)
      have hP : va_P D vwCl [u_390, [(oa, aJ cy 1 (qu (g) 0 ((qI (lC T 3 p0.toNat)).toInt64)))], u_414].flatten H := hP
      have hD : va_D A [u_390, [(oa, aJ cy 1 (qu (g) 0 ((qI (lC T 3 p0.toNat)).toInt64)))], u_414].flatten := hD
      obtain ⟨rfl, h_414⟩ := h_414
      refine lv_iload hx hb dL_law_417 (lv_at hl 1 rfl) ?_
      refine q_icmp_eq (tgt := 424) hx hb dL_law_419 (by decide) (by omega) (fun c_419 => ?_) (fun c_419 => ?_)
      · skip
        refine lv_iload hx hb dL_law_424 (lv_at hl 1 rfl) ?_
        refine q_if_ne (tgt := 441) hx hb dL_law_426 (by decide) (by omega) (fun c_426 => ?_) (fun c_426 => ?_)
        · skip
          exact absurd c_426 (by decide)
        · skip
          refine lv_aload_n hx hb dL_law_429 rfl (lv_at hl 5 rfl) ?_
          refine q_iconst hx hb dL_law_430 ?_
          refine q_laldW (j := 0) (v := (qI (lC T 3 p0.toNat)).toInt64) hx hb hK (fl_blk hP 1 rfl) 0 rfl (by omega) (qu_s _ _ _) dL_law_431 ?_
          refine lv_iload hx hb dL_law_432 (lv_at hl 0 rfl) ?_
          refine lv_i2l hx hb dL_law_434 rfl ?_
          refine q_lcmp0 hx hb dL_law_435 ?_
          refine q_if_eq (tgt := 441) hx hb dL_law_436 (by decide) (by omega) (fun c_436 => ?_) (fun c_436 => ?_)
          · skip
            refine lv_goto (tgt := 1420) hx hb dL_law_441 (by decide) ?_
            have hP := fl_sub (bs' := [u_390, u_414, [(oa, aJ cy 1 (qu (g) 0 ((qI (lC T 3 p0.toNat)).toInt64)))]]) hP [0, 2, 1] rfl
            have hD := fl_subD (bs' := [u_390, u_414, [(oa, aJ cy 1 (qu (g) 0 ((qI (lC T 3 p0.toNat)).toInt64)))]]) hD [0, 2, 1] (by decide) rfl
            refine W.widen (k := cells + 1) (n := slots + 6) (by omega) (by omega) ?_
            exact kk (seT (chC T 3 p0.toNat p1)) (min (hz + 1) 8) (pushH T HZ) len tx 0 _ _ _ _ _ _ ⟨⟨la, lv9, ls9, fa, xh, xs, la2, lv92, ls92, fb, fw, bu, ta, rc, re, gb, oc, oe, rs, rc2, re2, gb2, oc2, oe2, rs2, rr, ad, h_390⟩, ⟨mz, msv, mtx, mmo, mif, mmg, mtn, mie, mme, mrd, mas, h_414⟩, ⟨seT_gOk (chC3_ok gT.1 _ (by omega)), gT3⟩, gK_push gT hHG, (by omega)⟩ hP hD hS (lv_sub hl [2, 3, 4, 5, 6] rfl)
          · skip
            exact absurd c_436 (by decide)
      · skip
        exact absurd c_419 (by decide)
    · skip
      refine lv_aload_n hx hb dL_law_376 rfl (lv_at hl 1 rfl) ?_
      refine lv_aload_n hx hb dL_law_377 rfl (lv_at hl 0 rfl) ?_
      refine lv_iload hx hb dL_law_378 (lv_at hl 4 rfl) ?_
      refine q_iconst hx hb dL_law_380 ?_
      refine q_iadd hx hb dL_law_381 ?_
      refine q_sld (j := 6 * t + 1) hx hb hX hbl hbA hS (by omega) ep0 dL_law_382 ?_
      refine lv_aload_n hx hb dL_law_383 rfl (lv_at hl 0 rfl) ?_
      refine lv_iload hx hb dL_law_384 (lv_at hl 4 rfl) ?_
      refine q_iconst hx hb dL_law_386 ?_
      refine q_iadd hx hb dL_law_387 ?_
      refine q_sld (j := 6 * t + 2) hx hb hX hbl hbA hS (by omega) ep1 dL_law_388 ?_
      refine lv_aload_n hx hb dL_law_389 rfl (lv_at hl 3 rfl) ?_
      refine q_backiX (mc := 1) (ms := 6) [0, 2] [1] (br := [M9]) hP hD hS hA (vx_runSW (As := [.ref (x), .int (qI (p0)), .int (qI (p1)), .ref (oa)]) (rest := []) ⟨hx, hb, hml, hown, hg⟩ (c_L_setNumber_no2 l hlt9 D cy x la lv9 ls9 fa xh xs la2 lv92 ls92 fb fw bu ta rc re gb oc oe rs rc2 re2 gb2 oc2 oe2 rs2 rr ad T hz HZ len tx _ gT.1 hC9 oa _ p0 p1 (by omega) (by omega) (by omega) (by omega) _) (csW_L_96 hg rfl rfl ⟨(Nat.le_of_ble_eq_true rfl), (Nat.le_of_ble_eq_true rfl)⟩) ⟨q_blindW, fun U hU hU9 => ⟨rfl, (q_preM [.ref (x), .int (qI (p0)), .int (qI (p1)), .ref (oa)] hK hN hP hD [0, 2] (by decide) rfl U hU hU9).2, hEx9.step hU9 (by rw [hU]; exact hS.2.1) (fl_free hD hS hA [0, 2] rfl), hNc9.moved hU9.alike⟩⟩ rfl rfl hl.1 rfl (lv_room (Nat.le_of_ble_eq_true rfl)) dL_law_390 ⟨(by show cells + 1 ≤ 601024; omega), (by show slots + 6 ≤ 7293034; omega)⟩) rfl rfl (by decide) (fun r_390 u_390 H locs h_390 hP hD hS => ?_)
      obtain ⟨rfl, h_390⟩ := h_390
      have hP : va_P D vwCl [M9, u_390, [(oa, aJ cy 1 (g))]].flatten H := hP
      have hD : va_D A [M9, u_390, [(oa, aJ cy 1 (g))]].flatten := hD
      refine lv_istore (lv' := [(5, .int (qI (2))), (0, .ref (b)), (1, .ref (x)), (2, .ref (mo)), (3, .ref (oa)), (4, .int (qI (((6 * t : Nat) : Int))))]) hx hb dL_law_393 hl (by decide) rfl (fun ls hl => ?_)
      refine lv_aload_n hx hb dL_law_395 rfl (lv_at hl 3 rfl) ?_
      refine lv_aload_n hx hb dL_law_396 rfl (lv_at hl 1 rfl) ?_
      refine lv_iload hx hb dL_law_397 (lv_at hl 5 rfl) ?_
      refine q_iconst hx hb dL_law_399 ?_
      refine q_iadd hx hb dL_law_400 ?_
      refine q_sld (j := 6 * t + 1) hx hb hX hbl hbA hS (by omega) ep0 dL_law_401 ?_
      refine lv_aload_n hx hb dL_law_402 rfl (lv_at hl 1 rfl) ?_
      refine lv_iload hx hb dL_law_403 (lv_at hl 5 rfl) ?_
      refine q_iconst hx hb dL_law_405 ?_
      refine q_iadd hx hb dL_law_406 ?_
      refine q_sld (j := 6 * t + 2) hx hb hX hbl hbA hS (by omega) ep1 dL_law_407 ?_
      refine q_backi [0] [1, 2] (br := [u_390, [(oa, aJ cy 1 (g))]]) hP hD hS hA (va_runV (As := [.int (qI (p0)), .int (qI (p1))]) (rest := []) ⟨hx, hb, hml, hown, hg⟩ (c_X8_setNumber_no2 l D cy mo mz msv mtx mmo mif mmg mtn mie mme mrd mas T hz HZ len tx th _ gT.1 hM9 p0 p1 (by omega) (by omega) (by omega) (by omega) _) (cv_L_98 hg rfl rfl ⟨(Nat.le_of_ble_eq_true rfl), (Nat.le_of_ble_eq_true rfl)⟩) ⟨q_blind, va_recv hK (fl_blk hP 0 rfl) (ci := 8) (q0 := 0) rfl hfsM, q_preM _ hK hN hP hD [0] (by decide) rfl⟩ rfl rfl hl.1 rfl (lv_room (Nat.le_of_ble_eq_true rfl)) dL_law_408 ⟨(by show _ + 0 ≤ 601024; omega), (by show _ + 0 ≤ 7293034; omega)⟩) rfl rfl (by decide) (fun r_408 u_408 H locs h_408 hP hD hS => ?_)
      have hP : va_P D vwCl [u_390, [(oa, aJ cy 1 (g))], u_408].flatten H := hP
      have hD : va_D A [u_390, [(oa, aJ cy 1 (g))], u_408].flatten := hD
      obtain ⟨fs_408, hfs_408⟩ := MW_at h_408
      have gk9 : gOk (T) := gT.1
      refine lv_istore (lv' := [(6, .int (r_408)), (5, .int (qI (2))), (0, .ref (b)), (1, .ref (x)), (2, .ref (mo)), (3, .ref (oa)), (4, .int (qI (((6 * t : Nat) : Int))))]) hx hb dL_law_411 hl (by decide) rfl (fun ls hl => ?_)
      refine lv_aload_n hx hb dL_law_413 rfl (lv_at hl 4 rfl) ?_
      refine q_backi [2] [0, 1] (br := [u_390, [(oa, aJ cy 1 (g))]]) hP hD hS hA (va_runV (As := []) (rest := []) ⟨hx, hb, hml, hown, hg⟩ (c_X8_thrown l D cy mo mz msv mtx mmo mif mmg mtn mie mme mrd mas T hz HZ len tx 2 _ gk9 h_408 _) (cv_L_85 hg rfl rfl ⟨(Nat.le_of_ble_eq_true rfl), (Nat.le_of_ble_eq_true rfl)⟩) ⟨q_blind, va_recv hK (fl_blk hP 2 rfl) (ci := 8) (q0 := 0) rfl hfs_408, q_preM _ hK hN hP hD [2] (by decide) rfl⟩ rfl rfl hl.1 rfl (lv_room (Nat.le_of_ble_eq_true rfl)) dL_law_414 ⟨(by show _ + 0 ≤ 601024; omega), (by show _ + 0 ≤ 7293034; omega)⟩) rfl rfl (by decide) (fun r_414 u_414 H locs h_414 hP hD hS => ?_)
      have hP : va_P D vwCl [u_390, [(oa, aJ cy 1 (g))], u_414].flatten H := hP
      have hD : va_D A [u_390, [(oa, aJ cy 1 (g))], u_414].flatten := hD
      obtain ⟨rfl, h_414⟩ := h_414
      refine lv_iload hx hb dL_law_417 (lv_at hl 1 rfl) ?_
      refine q_icmp_eq (tgt := 424) hx hb dL_law_419 (by decide) (by omega) (fun c_419 => ?_) (fun c_419 => ?_)
      · skip
        refine lv_iload hx hb dL_law_424 (lv_at hl 1 rfl) ?_
        refine q_if_ne (tgt := 441) hx hb dL_law_426 (by decide) (by omega) (fun c_426 => ?_) (fun c_426 => ?_)
        · skip
          refine lv_goto (tgt := 1420) hx hb dL_law_441 (by decide) ?_
          have hP := fl_sub (bs' := [u_390, u_414, [(oa, aJ cy 1 (g))]]) hP [0, 2, 1] rfl
          have hD := fl_subD (bs' := [u_390, u_414, [(oa, aJ cy 1 (g))]]) hD [0, 2, 1] (by decide) rfl
          exact kk T hz HZ len tx 2 _ _ _ _ _ _ ⟨⟨la, lv9, ls9, fa, xh, xs, la2, lv92, ls92, fb, fw, bu, ta, rc, re, gb, oc, oe, rs, rc2, re2, gb2, oc2, oe2, rs2, rr, ad, h_390⟩, ⟨mz, msv, mtx, mmo, mif, mmg, mtn, mie, mme, mrd, mas, h_414⟩, gT, hHG, (by omega)⟩ hP hD hS (lv_sub hl [2, 3, 4, 5, 6] rfl)
        · skip
          exact absurd c_426 (by decide)
      · skip
        exact absurd c_419 (by decide)
  · skip
    refine lv_aload_n hx hb dL_law_376 rfl (lv_at hl 1 rfl) ?_
    refine lv_aload_n hx hb dL_law_377 rfl (lv_at hl 0 rfl) ?_
    refine lv_iload hx hb dL_law_378 (lv_at hl 4 rfl) ?_
    refine q_iconst hx hb dL_law_380 ?_
    refine q_iadd hx hb dL_law_381 ?_
    refine q_sld (j := 6 * t + 1) hx hb hX hbl hbA hS (by omega) ep0 dL_law_382 ?_
    refine lv_aload_n hx hb dL_law_383 rfl (lv_at hl 0 rfl) ?_
    refine lv_iload hx hb dL_law_384 (lv_at hl 4 rfl) ?_
    refine q_iconst hx hb dL_law_386 ?_
    refine q_iadd hx hb dL_law_387 ?_
    refine q_sld (j := 6 * t + 2) hx hb hX hbl hbA hS (by omega) ep1 dL_law_388 ?_
    refine lv_aload_n hx hb dL_law_389 rfl (lv_at hl 3 rfl) ?_
    refine q_backiX (mc := 1) (ms := 6) [0, 2] [1] (br := [M9]) hP hD hS hA (vx_runSW (As := [.ref (x), .int (qI (p0)), .int (qI (p1)), .ref (oa)]) (rest := []) ⟨hx, hb, hml, hown, hg⟩ (c_L_setNumber_no1 l hlt9 D cy x la lv9 ls9 fa xh xs la2 lv92 ls92 fb fw bu ta rc re gb oc oe rs rc2 re2 gb2 oc2 oe2 rs2 rr ad T hz HZ len tx _ gT.1 hC9 oa _ p0 p1 (by omega) (by omega) (by omega) _) (csW_L_96 hg rfl rfl ⟨(Nat.le_of_ble_eq_true rfl), (Nat.le_of_ble_eq_true rfl)⟩) ⟨q_blindW, fun U hU hU9 => ⟨rfl, (q_preM [.ref (x), .int (qI (p0)), .int (qI (p1)), .ref (oa)] hK hN hP hD [0, 2] (by decide) rfl U hU hU9).2, hEx9.step hU9 (by rw [hU]; exact hS.2.1) (fl_free hD hS hA [0, 2] rfl), hNc9.moved hU9.alike⟩⟩ rfl rfl hl.1 rfl (lv_room (Nat.le_of_ble_eq_true rfl)) dL_law_390 ⟨(by show cells + 1 ≤ 601024; omega), (by show slots + 6 ≤ 7293034; omega)⟩) rfl rfl (by decide) (fun r_390 u_390 H locs h_390 hP hD hS => ?_)
    obtain ⟨rfl, h_390⟩ := h_390
    have hP : va_P D vwCl [M9, u_390, [(oa, aJ cy 1 (g))]].flatten H := hP
    have hD : va_D A [M9, u_390, [(oa, aJ cy 1 (g))]].flatten := hD
    refine lv_istore (lv' := [(5, .int (qI (1))), (0, .ref (b)), (1, .ref (x)), (2, .ref (mo)), (3, .ref (oa)), (4, .int (qI (((6 * t : Nat) : Int))))]) hx hb dL_law_393 hl (by decide) rfl (fun ls hl => ?_)
    refine lv_aload_n hx hb dL_law_395 rfl (lv_at hl 3 rfl) ?_
    refine lv_aload_n hx hb dL_law_396 rfl (lv_at hl 1 rfl) ?_
    refine lv_iload hx hb dL_law_397 (lv_at hl 5 rfl) ?_
    refine q_iconst hx hb dL_law_399 ?_
    refine q_iadd hx hb dL_law_400 ?_
    refine q_sld (j := 6 * t + 1) hx hb hX hbl hbA hS (by omega) ep0 dL_law_401 ?_
    refine lv_aload_n hx hb dL_law_402 rfl (lv_at hl 1 rfl) ?_
    refine lv_iload hx hb dL_law_403 (lv_at hl 5 rfl) ?_
    refine q_iconst hx hb dL_law_405 ?_
    refine q_iadd hx hb dL_law_406 ?_
    refine q_sld (j := 6 * t + 2) hx hb hX hbl hbA hS (by omega) ep1 dL_law_407 ?_
    refine q_backi [0] [1, 2] (br := [u_390, [(oa, aJ cy 1 (g))]]) hP hD hS hA (va_runV (As := [.int (qI (p0)), .int (qI (p1))]) (rest := []) ⟨hx, hb, hml, hown, hg⟩ (c_X8_setNumber_no1 l D cy mo mz msv mtx mmo mif mmg mtn mie mme mrd mas T hz HZ len tx th _ gT.1 hM9 p0 p1 (by omega) (by omega) (by omega) _) (cv_L_98 hg rfl rfl ⟨(Nat.le_of_ble_eq_true rfl), (Nat.le_of_ble_eq_true rfl)⟩) ⟨q_blind, va_recv hK (fl_blk hP 0 rfl) (ci := 8) (q0 := 0) rfl hfsM, q_preM _ hK hN hP hD [0] (by decide) rfl⟩ rfl rfl hl.1 rfl (lv_room (Nat.le_of_ble_eq_true rfl)) dL_law_408 ⟨(by show _ + 0 ≤ 601024; omega), (by show _ + 0 ≤ 7293034; omega)⟩) rfl rfl (by decide) (fun r_408 u_408 H locs h_408 hP hD hS => ?_)
    have hP : va_P D vwCl [u_390, [(oa, aJ cy 1 (g))], u_408].flatten H := hP
    have hD : va_D A [u_390, [(oa, aJ cy 1 (g))], u_408].flatten := hD
    obtain ⟨fs_408, hfs_408⟩ := MW_at h_408
    have gk9 : gOk (T) := gT.1
    refine lv_istore (lv' := [(6, .int (r_408)), (5, .int (qI (1))), (0, .ref (b)), (1, .ref (x)), (2, .ref (mo)), (3, .ref (oa)), (4, .int (qI (((6 * t : Nat) : Int))))]) hx hb dL_law_411 hl (by decide) rfl (fun ls hl => ?_)
    refine lv_aload_n hx hb dL_law_413 rfl (lv_at hl 4 rfl) ?_
    refine q_backi [2] [0, 1] (br := [u_390, [(oa, aJ cy 1 (g))]]) hP hD hS hA (va_runV (As := []) (rest := []) ⟨hx, hb, hml, hown, hg⟩ (c_X8_thrown l D cy mo mz msv mtx mmo mif mmg mtn mie mme mrd mas T hz HZ len tx 1 _ gk9 h_408 _) (cv_L_85 hg rfl rfl ⟨(Nat.le_of_ble_eq_true rfl), (Nat.le_of_ble_eq_true rfl)⟩) ⟨q_blind, va_recv hK (fl_blk hP 2 rfl) (ci := 8) (q0 := 0) rfl hfs_408, q_preM _ hK hN hP hD [2] (by decide) rfl⟩ rfl rfl hl.1 rfl (lv_room (Nat.le_of_ble_eq_true rfl)) dL_law_414 ⟨(by show _ + 0 ≤ 601024; omega), (by show _ + 0 ≤ 7293034; omega)⟩) rfl rfl (by decide) (fun r_414 u_414 H locs h_414 hP hD hS => ?_)
    have hP : va_P D vwCl [u_390, [(oa, aJ cy 1 (g))], u_414].flatten H := hP
    have hD : va_D A [u_390, [(oa, aJ cy 1 (g))], u_414].flatten := hD
    obtain ⟨rfl, h_414⟩ := h_414
    refine lv_iload hx hb dL_law_417 (lv_at hl 1 rfl) ?_
    refine q_icmp_eq (tgt := 424) hx hb dL_law_419 (by decide) (by omega) (fun c_419 => ?_) (fun c_419 => ?_)
    · skip
      refine lv_iload hx hb dL_law_424 (lv_at hl 1 rfl) ?_
      refine q_if_ne (tgt := 441) hx hb dL_law_426 (by decide) (by omega) (fun c_426 => ?_) (fun c_426 => ?_)
      · skip
        refine lv_goto (tgt := 1420) hx hb dL_law_441 (by decide) ?_
        have hP := fl_sub (bs' := [u_390, u_414, [(oa, aJ cy 1 (g))]]) hP [0, 2, 1] rfl
        have hD := fl_subD (bs' := [u_390, u_414, [(oa, aJ cy 1 (g))]]) hD [0, 2, 1] (by decide) rfl
        exact kk T hz HZ len tx 1 _ _ _ _ _ _ ⟨⟨la, lv9, ls9, fa, xh, xs, la2, lv92, ls92, fb, fw, bu, ta, rc, re, gb, oc, oe, rs, rc2, re2, gb2, oc2, oe2, rs2, rr, ad, h_390⟩, ⟨mz, msv, mtx, mmo, mif, mmg, mtn, mie, mme, mrd, mas, h_414⟩, gT, hHG, (by omega)⟩ hP hD hS (lv_sub hl [2, 3, 4, 5, 6] rfl)
      · skip
        exact absurd c_426 (by decide)
    · skip
      exact absurd c_419 (by decide)

set_option maxRecDepth 100000 in
set_option maxHeartbeats 4000000 in
theorem lw_setStay {p : Program} {l : Launch} {e : Env} {s : State} {m : MethodId} {below : List Frame} {meth : Method} {c : Code} {b L : Nat} {sc9 : Nat → Int32} {D : va_G} {cy : Nat → ClassId} {A : Nat → Prop} {Q : State → Prop} (hlt9 : l.stackTraces = false) (B9 : lwB p s m c b L sc9 D cy A) {x mo oa t : Nat} (ht9 : 6 * t + 6 ≤ L) {T : LSt} {hz : Nat} {HZ : Nat → LSt} {len : Nat} {tx : Nat → Int} {th : Int} {W9 M9 : va_W} {g : Nat → Int64} {cells slots : Nat} (hr9 : cells ≤ 1000 ∧ slots ≤ 8000) (hI9 : lwI cy x mo T hz HZ len tx th W9 M9) {H : Heap} {locs : List Loc} {ls : Array Slot} (hP : va_P D vwCl [W9, M9, [(oa, aJ cy 1 g)]].flatten H) (hD : va_D A [W9, M9, [(oa, aJ cy 1 g)]].flatten) (hS : va_S A s.heap H locs) (hl : lv_has ls 9 (lwL b x mo oa t)) (kk : lwK p l e s m below meth c b D cy A Q x mo oa t cells slots) : W p l e room_1 s m #[Value.ref b] below meth c H locs cells slots Q (F0 m 444 ls []) := by
  obtain ⟨hx, hb, hml, hown, hg, hX, hbl, hbA, hA, hK, hN, hEx9, hNc9, hL9⟩ := B9
  obtain ⟨⟨la, lv9, ls9, fa, xh, xs, la2, lv92, ls92, fb, fw, bu, ta, rc, re, gb, oc, oe, rs, rc2, re2, gb2, oc2, oe2, rs2, rr, ad, hC9⟩, ⟨mz, msv, mtx, mmo, mif, mmg, mtn, mie, mme, mrd, mas, hM9⟩, gT, hHG, hln9⟩ := hI9
  have gT3 := gT.2
  have gN16 : lN9 T ≤ 16 := gT.1.2.2.1.1
  obtain ⟨fsC, hfsC⟩ := CW_at hC9
  obtain ⟨fsM, hfsM⟩ := MW_at hM9
  have hl : lv_has ls 9 [(0, .ref (b)), (1, .ref (x)), (2, .ref (mo)), (3, .ref (oa)), (4, .int (qI (((6 * t : Nat) : Int))))] := hl
  obtain ⟨p0, ep0⟩ : ∃ z : Int, (sc9 (6 * t + 1)).toInt = z := ⟨_, rfl⟩
  have r0 : -2147483648 ≤ p0 ∧ p0 < 2147483648 := by rw [← ep0]; exact ⟨Int32.le_toInt _, Int32.toInt_lt _⟩
  obtain ⟨p1, ep1⟩ : ∃ z : Int, (sc9 (6 * t + 2)).toInt = z := ⟨_, rfl⟩
  have r1 : -2147483648 ≤ p1 ∧ p1 < 2147483648 := by rw [← ep1]; exact ⟨Int32.le_toInt _, Int32.toInt_lt _⟩
  by_cases cA9 : 0 ≤ p0 ∧ p0 ≤ 9
  · skip
    by_cases cB9 : 0 ≤ p1 ∧ p1 ≤ 9
    · skip
      refine lv_aload_n hx hb dL_law_444 rfl (lv_at hl 1 rfl) ?_
      refine lv_aload_n hx hb dL_law_445 rfl (lv_at hl 0 rfl) ?_
      refine lv_iload hx hb dL_law_446 (lv_at hl 4 rfl) ?_
      refine q_iconst hx hb dL_law_448 ?_
      refine q_iadd hx hb dL_law_449 ?_
      refine q_sld (j := 6 * t + 1) hx hb hX hbl hbA hS (by omega) ep0 dL_law_450 ?_
      refine lv_aload_n hx hb dL_law_451 rfl (lv_at hl 0 rfl) ?_
      refine lv_iload hx hb dL_law_452 (lv_at hl 4 rfl) ?_
      refine q_iconst hx hb dL_law_454 ?_
      refine q_iadd hx hb dL_law_455 ?_
      refine q_sld (j := 6 * t + 2) hx hb hX hbl hbA hS (by omega) ep1 dL_law_456 ?_
      refine lv_aload_n hx hb dL_law_457 rfl (lv_at hl 3 rfl) ?_
      refine q_backiX (mc := 0) (ms := 0) [0, 2] [1] (br := [M9]) hP hD hS hA (vx_runSW (As := [.ref (x), .int (qI (p0)), .int (qI (p1)), .ref (oa)]) (rest := []) ⟨hx, hb, hml, hown, hg⟩ (c_L_setStay l D cy x la lv9 ls9 fa xh xs la2 lv92 ls92 fb fw bu ta rc re gb oc oe rs rc2 re2 gb2 oc2 oe2 rs2 rr ad T hz HZ len tx _ gT.1 hC9 oa _ p0 p1 p0.toNat (by omega) (by omega) _) (csW_L_99 hg rfl rfl ⟨(Nat.le_of_ble_eq_true rfl), (Nat.le_of_ble_eq_true rfl)⟩) ⟨q_blind, q_preM [.ref (x), .int (qI (p0)), .int (qI (p1)), .ref (oa)] hK hN hP hD [0, 2] (by decide) rfl⟩ rfl rfl hl.1 rfl (lv_room (Nat.le_of_ble_eq_true rfl)) dL_law_458 ⟨(by show cells + 0 ≤ 601024; omega), (by show slots + 0 ≤ 7293034; omega)⟩) rfl rfl (by decide) (fun r_458 u_458 H locs h_458 hP hD hS => ?_)
      obtain ⟨rfl, h_458⟩ := h_458
      have hP : va_P D vwCl [M9, u_458, [(oa, aJ cy 1 (qu (g) 0 ((qI (lT T p0.toNat)).toInt64)))]].flatten H := hP
      have hD : va_D A [M9, u_458, [(oa, aJ cy 1 (qu (g) 0 ((qI (lT T p0.toNat)).toInt64)))]].flatten := hD
      refine lv_istore (lv' := [(5, .int (qI (0))), (0, .ref (b)), (1, .ref (x)), (2, .ref (mo)), (3, .ref (oa)), (4, .int (qI (((6 * t : Nat) : Int))))]) hx hb dL_law_461 hl (by decide) rfl (fun ls hl => ?_)
      refine lv_aload_n hx hb dL_law_463 rfl (lv_at hl 3 rfl) ?_
      refine lv_aload_n hx hb dL_law_464 rfl (lv_at hl 1 rfl) ?_
      refine lv_iload hx hb dL_law_465 (lv_at hl 5 rfl) ?_
      refine q_iconst hx hb dL_law_467 ?_
      refine q_iadd hx hb dL_law_468 ?_
      refine q_sld (j := 6 * t + 1) hx hb hX hbl hbA hS (by omega) ep0 dL_law_469 ?_
      refine lv_aload_n hx hb dL_law_470 rfl (lv_at hl 1 rfl) ?_
      refine lv_iload hx hb dL_law_471 (lv_at hl 5 rfl) ?_
      refine q_iconst hx hb dL_law_473 ?_
      refine q_iadd hx hb dL_law_474 ?_
      refine q_sld (j := 6 * t + 2) hx hb hX hbl hbA hS (by omega) ep1 dL_law_475 ?_
      refine q_backi [0] [1, 2] (br := [u_458, [(oa, aJ cy 1 (qu (g) 0 ((qI (lT T p0.toNat)).toInt64)))]]) hP hD hS hA (va_runV (As := [.int (qI (p0)), .int (qI (p1))]) (rest := []) ⟨hx, hb, hml, hown, hg⟩ (c_X8_setStay l D cy mo mz msv mtx mmo mif mmg mtn mie mme mrd mas T hz HZ len tx th _ gT.1 hM9 p0 p1 p0.toNat (by omega) (by omega) _) (cv_L_101 hg rfl rfl ⟨(Nat.le_of_ble_eq_true rfl), (Nat.le_of_ble_eq_true rfl)⟩) ⟨q_blind, va_recv hK (fl_blk hP 0 rfl) (ci := 8) (q0 := 0) rfl hfsM, q_preM _ hK hN hP hD [0] (by decide) rfl⟩ rfl rfl hl.1 rfl (lv_room (Nat.le_of_ble_eq_true rfl)) dL_law_476 ⟨(by show _ + 0 ≤ 601024; omega), (by show _ + 0 ≤ 7293034; omega)⟩) rfl rfl (by decide) (fun r_476 u_476 H locs h_476 hP hD hS => ?_)
      have hP : va_P D vwCl [u_458, [(oa, aJ cy 1 (qu (g) 0 ((qI (lT T p0.toNat)).toInt64)))], u_476].flatten H := hP
      have hD : va_D A [u_458, [(oa, aJ cy 1 (qu (g) 0 ((qI (lT T p0.toNat)).toInt64)))], u_476].flatten := hD
      obtain ⟨rfl, h_476⟩ := h_476
      obtain ⟨fs_476, hfs_476⟩ := MW_at h_476
      have gk9 : gOk ((seT (chT T p0.toNat p1))) := seT_gOk (chT_ok gT.1 _ (by omega))
      refine lv_istore (lv' := [(6, .int (qI (lT T p0.toNat))), (5, .int (qI (0))), (0, .ref (b)), (1, .ref (x)), (2, .ref (mo)), (3, .ref (oa)), (4, .int (qI (((6 * t : Nat) : Int))))]) hx hb dL_law_479 hl (by decide) rfl (fun ls hl => ?_)
      refine lv_aload_n hx hb dL_law_481 rfl (lv_at hl 4 rfl) ?_
      refine q_backi [2] [0, 1] (br := [u_458, [(oa, aJ cy 1 (qu (g) 0 ((qI (lT T p0.toNat)).toInt64)))]]) hP hD hS hA (va_runV (As := []) (rest := []) ⟨hx, hb, hml, hown, hg⟩ (c_X8_thrown l D cy mo mz msv mtx mmo mif mmg mtn mie mme mrd mas (seT (chT T p0.toNat p1)) (min (hz + 1) 8) (pushH T HZ) len tx 0 _ gk9 h_476 _) (cv_L_85 hg rfl rfl ⟨(Nat.le_of_ble_eq_true rfl), (Nat.le_of_ble_eq_true rfl)⟩) ⟨q_blind, va_recv hK (fl_blk hP 2 rfl) (ci := 8) (q0 := 0) rfl hfs_476, q_preM _ hK hN hP hD [2] (by decide) rfl⟩ rfl rfl hl.1 rfl (lv_room (Nat.le_of_ble_eq_true rfl)) dL_law_482 ⟨(by show _ + 0 ≤ 601024; omega), (by show _ + 0 ≤ 7293034; omega)⟩) rfl rfl (by decide) (fun r_482 u_482 H locs h_482 hP hD hS => ?_)
      have hP : va_P D vwCl [u_458, [(oa, aJ cy 1 (qu (g) 0 ((qI (lT T p0.toNat)).toInt64)))], u_482].flatten H := hP
      have hD : va_D A [u_458, [(oa, aJ cy 1 (qu (g) 0 ((qI (lT T p0.toNat)).toInt64)))], u_482].flatten := hD
      obtain ⟨rfl, h_482⟩ := h_482
      refine lv_iload hx hb dL_law_485 (lv_at hl 1 rfl) ?_
      refine q_icmp_eq (tgt := 492) hx hb dL_law_487 (by decide) (by omega) (fun c_487 => ?_) (fun c_487 => ?_)
      · skip
        refine lv_iload hx hb dL_law_492 (lv_at hl 1 rfl) ?_
        refine q_if_ne (tgt := 509) hx hb dL_law_494 (by decide) (by omega) (fun c_494 => ?_) (fun c_494 => ?_)
        · skip
          exact absurd c_494 (by decide)
        · skip
          refine lv_aload_n hx hb dL_law_497 rfl (lv_at hl 5 rfl) ?_
          refine q_iconst hx hb dL_law_498 ?_
          refine q_laldW (j := 0) (v := (qI (lT T p0.toNat)).toInt64) hx hb hK (fl_blk hP 1 rfl) 0 rfl (by omega) (qu_s _ _ _) dL_law_499 ?_
          refine lv_iload hx hb dL_law_500 (lv_at hl 0 rfl) ?_
          refine lv_i2l hx hb dL_law_502 rfl ?_
          refine q_lcmp0 hx hb dL_law_503 ?_
          refine q_if_eq (tgt := 509) hx hb dL_law_504 (by decide) (by omega) (fun c_504 => ?_) (fun c_504 => ?_)
          · skip
            refine lv_goto (tgt := 1420) hx hb dL_law_509 (by decide) ?_
            have hP := fl_sub (bs' := [u_458, u_482, [(oa, aJ cy 1 (qu (g) 0 ((qI (lT T p0.toNat)).toInt64)))]]) hP [0, 2, 1] rfl
            have hD := fl_subD (bs' := [u_458, u_482, [(oa, aJ cy 1 (qu (g) 0 ((qI (lT T p0.toNat)).toInt64)))]]) hD [0, 2, 1] (by decide) rfl
            refine W.widen (k := cells + 1) (n := slots + 6) (by omega) (by omega) ?_
            exact kk (seT (chT T p0.toNat p1)) (min (hz + 1) 8) (pushH T HZ) len tx 0 _ _ _ _ _ _ ⟨⟨la, lv9, ls9, fa, xh, xs, la2, lv92, ls92, fb, fw, bu, ta, rc, re, gb, oc, oe, rs, rc2, re2, gb2, oc2, oe2, rs2, rr, ad, h_458⟩, ⟨mz, msv, mtx, mmo, mif, mmg, mtn, mie, mme, mrd, mas, h_482⟩, ⟨seT_gOk (chT_ok gT.1 _ (by omega)), gT3⟩, gK_push gT hHG, (by omega)⟩ hP hD hS (lv_sub hl [2, 3, 4, 5, 6] rfl)
          · skip
            exact absurd c_504 (by decide)
      · skip
        exact absurd c_487 (by decide)
    · skip
      refine lv_aload_n hx hb dL_law_444 rfl (lv_at hl 1 rfl) ?_
      refine lv_aload_n hx hb dL_law_445 rfl (lv_at hl 0 rfl) ?_
      refine lv_iload hx hb dL_law_446 (lv_at hl 4 rfl) ?_
      refine q_iconst hx hb dL_law_448 ?_
      refine q_iadd hx hb dL_law_449 ?_
      refine q_sld (j := 6 * t + 1) hx hb hX hbl hbA hS (by omega) ep0 dL_law_450 ?_
      refine lv_aload_n hx hb dL_law_451 rfl (lv_at hl 0 rfl) ?_
      refine lv_iload hx hb dL_law_452 (lv_at hl 4 rfl) ?_
      refine q_iconst hx hb dL_law_454 ?_
      refine q_iadd hx hb dL_law_455 ?_
      refine q_sld (j := 6 * t + 2) hx hb hX hbl hbA hS (by omega) ep1 dL_law_456 ?_
      refine lv_aload_n hx hb dL_law_457 rfl (lv_at hl 3 rfl) ?_
      refine q_backiX (mc := 1) (ms := 6) [0, 2] [1] (br := [M9]) hP hD hS hA (vx_runSW (As := [.ref (x), .int (qI (p0)), .int (qI (p1)), .ref (oa)]) (rest := []) ⟨hx, hb, hml, hown, hg⟩ (c_L_setStay_no2 l hlt9 D cy x la lv9 ls9 fa xh xs la2 lv92 ls92 fb fw bu ta rc re gb oc oe rs rc2 re2 gb2 oc2 oe2 rs2 rr ad T hz HZ len tx _ gT.1 hC9 oa _ p0 p1 (by omega) (by omega) (by omega) (by omega) _) (csW_L_99 hg rfl rfl ⟨(Nat.le_of_ble_eq_true rfl), (Nat.le_of_ble_eq_true rfl)⟩) ⟨q_blindW, fun U hU hU9 => ⟨rfl, (q_preM [.ref (x), .int (qI (p0)), .int (qI (p1)), .ref (oa)] hK hN hP hD [0, 2] (by decide) rfl U hU hU9).2, hEx9.step hU9 (by rw [hU]; exact hS.2.1) (fl_free hD hS hA [0, 2] rfl), hNc9.moved hU9.alike⟩⟩ rfl rfl hl.1 rfl (lv_room (Nat.le_of_ble_eq_true rfl)) dL_law_458 ⟨(by show cells + 1 ≤ 601024; omega), (by show slots + 6 ≤ 7293034; omega)⟩) rfl rfl (by decide) (fun r_458 u_458 H locs h_458 hP hD hS => ?_)
      obtain ⟨rfl, h_458⟩ := h_458
      have hP : va_P D vwCl [M9, u_458, [(oa, aJ cy 1 (g))]].flatten H := hP
      have hD : va_D A [M9, u_458, [(oa, aJ cy 1 (g))]].flatten := hD
      refine lv_istore (lv' := [(5, .int (qI (2))), (0, .ref (b)), (1, .ref (x)), (2, .ref (mo)), (3, .ref (oa)), (4, .int (qI (((6 * t : Nat) : Int))))]) hx hb dL_law_461 hl (by decide) rfl (fun ls hl => ?_)
      refine lv_aload_n hx hb dL_law_463 rfl (lv_at hl 3 rfl) ?_
      refine lv_aload_n hx hb dL_law_464 rfl (lv_at hl 1 rfl) ?_
      refine lv_iload hx hb dL_law_465 (lv_at hl 5 rfl) ?_
      refine q_iconst hx hb dL_law_467 ?_
      refine q_iadd hx hb dL_law_468 ?_
      refine q_sld (j := 6 * t + 1) hx hb hX hbl hbA hS (by omega) ep0 dL_law_469 ?_
      refine lv_aload_n hx hb dL_law_470 rfl (lv_at hl 1 rfl) ?_
      refine lv_iload hx hb dL_law_471 (lv_at hl 5 rfl) ?_
      refine q_iconst hx hb dL_law_473 ?_
      refine q_iadd hx hb dL_law_474 ?_
      refine q_sld (j := 6 * t + 2) hx hb hX hbl hbA hS (by omega) ep1 dL_law_475 ?_
      refine q_backi [0] [1, 2] (br := [u_458, [(oa, aJ cy 1 (g))]]) hP hD hS hA (va_runV (As := [.int (qI (p0)), .int (qI (p1))]) (rest := []) ⟨hx, hb, hml, hown, hg⟩ (c_X8_setStay_no2 l D cy mo mz msv mtx mmo mif mmg mtn mie mme mrd mas T hz HZ len tx th _ gT.1 hM9 p0 p1 (by omega) (by omega) (by omega) (by omega) _) (cv_L_101 hg rfl rfl ⟨(Nat.le_of_ble_eq_true rfl), (Nat.le_of_ble_eq_true rfl)⟩) ⟨q_blind, va_recv hK (fl_blk hP 0 rfl) (ci := 8) (q0 := 0) rfl hfsM, q_preM _ hK hN hP hD [0] (by decide) rfl⟩ rfl rfl hl.1 rfl (lv_room (Nat.le_of_ble_eq_true rfl)) dL_law_476 ⟨(by show _ + 0 ≤ 601024; omega), (by show _ + 0 ≤ 7293034; omega)⟩) rfl rfl (by decide) (fun r_476 u_476 H locs h_476 hP hD hS => ?_)
      have hP : va_P D vwCl [u_458, [(oa, aJ cy 1 (g))], u_476].flatten H := hP
      have hD : va_D A [u_458, [(oa, aJ cy 1 (g))], u_476].flatten := hD
      obtain ⟨fs_476, hfs_476⟩ := MW_at h_476
      have gk9 : gOk (T) := gT.1
      refine lv_istore (lv' := [(6, .int (r_476)), (5, .int (qI (2))), (0, .ref (b)), (1, .ref (x)), (2, .ref (mo)), (3, .ref (oa)), (4, .int (qI (((6 * t : Nat) : Int))))]) hx hb dL_law_479 hl (by decide) rfl (fun ls hl => ?_)
      refine lv_aload_n hx hb dL_law_481 rfl (lv_at hl 4 rfl) ?_
      refine q_backi [2] [0, 1] (br := [u_458, [(oa, aJ cy 1 (g))]]) hP hD hS hA (va_runV (As := []) (rest := []) ⟨hx, hb, hml, hown, hg⟩ (c_X8_thrown l D cy mo mz msv mtx mmo mif mmg mtn mie mme mrd mas T hz HZ len tx 2 _ gk9 h_476 _) (cv_L_85 hg rfl rfl ⟨(Nat.le_of_ble_eq_true rfl), (Nat.le_of_ble_eq_true rfl)⟩) ⟨q_blind, va_recv hK (fl_blk hP 2 rfl) (ci := 8) (q0 := 0) rfl hfs_476, q_preM _ hK hN hP hD [2] (by decide) rfl⟩ rfl rfl hl.1 rfl (lv_room (Nat.le_of_ble_eq_true rfl)) dL_law_482 ⟨(by show _ + 0 ≤ 601024; omega), (by show _ + 0 ≤ 7293034; omega)⟩) rfl rfl (by decide) (fun r_482 u_482 H locs h_482 hP hD hS => ?_)
      have hP : va_P D vwCl [u_458, [(oa, aJ cy 1 (g))], u_482].flatten H := hP
      have hD : va_D A [u_458, [(oa, aJ cy 1 (g))], u_482].flatten := hD
      obtain ⟨rfl, h_482⟩ := h_482
      refine lv_iload hx hb dL_law_485 (lv_at hl 1 rfl) ?_
      refine q_icmp_eq (tgt := 492) hx hb dL_law_487 (by decide) (by omega) (fun c_487 => ?_) (fun c_487 => ?_)
      · skip
        refine lv_iload hx hb dL_law_492 (lv_at hl 1 rfl) ?_
        refine q_if_ne (tgt := 509) hx hb dL_law_494 (by decide) (by omega) (fun c_494 => ?_) (fun c_494 => ?_)
        · skip
          refine lv_goto (tgt := 1420) hx hb dL_law_509 (by decide) ?_
          have hP := fl_sub (bs' := [u_458, u_482, [(oa, aJ cy 1 (g))]]) hP [0, 2, 1] rfl
          have hD := fl_subD (bs' := [u_458, u_482, [(oa, aJ cy 1 (g))]]) hD [0, 2, 1] (by decide) rfl
          exact kk T hz HZ len tx 2 _ _ _ _ _ _ ⟨⟨la, lv9, ls9, fa, xh, xs, la2, lv92, ls92, fb, fw, bu, ta, rc, re, gb, oc, oe, rs, rc2, re2, gb2, oc2, oe2, rs2, rr, ad, h_458⟩, ⟨mz, msv, mtx, mmo, mif, mmg, mtn, mie, mme, mrd, mas, h_482⟩, gT, hHG, (by omega)⟩ hP hD hS (lv_sub hl [2, 3, 4, 5, 6] rfl)
        · skip
          exact absurd c_494 (by decide)
      · skip
        exact absurd c_487 (by decide)
  · skip
    refine lv_aload_n hx hb dL_law_444 rfl (lv_at hl 1 rfl) ?_
    refine lv_aload_n hx hb dL_law_445 rfl (lv_at hl 0 rfl) ?_
    refine lv_iload hx hb dL_law_446 (lv_at hl 4 rfl) ?_
    refine q_iconst hx hb dL_law_448 ?_
    refine q_iadd hx hb dL_law_449 ?_
    refine q_sld (j := 6 * t + 1) hx hb hX hbl hbA hS (by omega) ep0 dL_law_450 ?_
    refine lv_aload_n hx hb dL_law_451 rfl (lv_at hl 0 rfl) ?_
    refine lv_iload hx hb dL_law_452 (lv_at hl 4 rfl) ?_
    refine q_iconst hx hb dL_law_454 ?_
    refine q_iadd hx hb dL_law_455 ?_
    refine q_sld (j := 6 * t + 2) hx hb hX hbl hbA hS (by omega) ep1 dL_law_456 ?_
    refine lv_aload_n hx hb dL_law_457 rfl (lv_at hl 3 rfl) ?_
    refine q_backiX (mc := 1) (ms := 6) [0, 2] [1] (br := [M9]) hP hD hS hA (vx_runSW (As := [.ref (x), .int (qI (p0)), .int (qI (p1)), .ref (oa)]) (rest := []) ⟨hx, hb, hml, hown, hg⟩ (c_L_setStay_no1 l hlt9 D cy x la lv9 ls9 fa xh xs la2 lv92 ls92 fb fw bu ta rc re gb oc oe rs rc2 re2 gb2 oc2 oe2 rs2 rr ad T hz HZ len tx _ gT.1 hC9 oa _ p0 p1 (by omega) (by omega) (by omega) _) (csW_L_99 hg rfl rfl ⟨(Nat.le_of_ble_eq_true rfl), (Nat.le_of_ble_eq_true rfl)⟩) ⟨q_blindW, fun U hU hU9 => ⟨rfl, (q_preM [.ref (x), .int (qI (p0)), .int (qI (p1)), .ref (oa)] hK hN hP hD [0, 2] (by decide) rfl U hU hU9).2, hEx9.step hU9 (by rw [hU]; exact hS.2.1) (fl_free hD hS hA [0, 2] rfl), hNc9.moved hU9.alike⟩⟩ rfl rfl hl.1 rfl (lv_room (Nat.le_of_ble_eq_true rfl)) dL_law_458 ⟨(by show cells + 1 ≤ 601024; omega), (by show slots + 6 ≤ 7293034; omega)⟩) rfl rfl (by decide) (fun r_458 u_458 H locs h_458 hP hD hS => ?_)
    obtain ⟨rfl, h_458⟩ := h_458
    have hP : va_P D vwCl [M9, u_458, [(oa, aJ cy 1 (g))]].flatten H := hP
    have hD : va_D A [M9, u_458, [(oa, aJ cy 1 (g))]].flatten := hD
    refine lv_istore (lv' := [(5, .int (qI (1))), (0, .ref (b)), (1, .ref (x)), (2, .ref (mo)), (3, .ref (oa)), (4, .int (qI (((6 * t : Nat) : Int))))]) hx hb dL_law_461 hl (by decide) rfl (fun ls hl => ?_)
    refine lv_aload_n hx hb dL_law_463 rfl (lv_at hl 3 rfl) ?_
    refine lv_aload_n hx hb dL_law_464 rfl (lv_at hl 1 rfl) ?_
    refine lv_iload hx hb dL_law_465 (lv_at hl 5 rfl) ?_
    refine q_iconst hx hb dL_law_467 ?_
    refine q_iadd hx hb dL_law_468 ?_
    refine q_sld (j := 6 * t + 1) hx hb hX hbl hbA hS (by omega) ep0 dL_law_469 ?_
    refine lv_aload_n hx hb dL_law_470 rfl (lv_at hl 1 rfl) ?_
    refine lv_iload hx hb dL_law_471 (lv_at hl 5 rfl) ?_
    refine q_iconst hx hb dL_law_473 ?_
    refine q_iadd hx hb dL_law_474 ?_
    refine q_sld (j := 6 * t + 2) hx hb hX hbl hbA hS (by omega) ep1 dL_law_475 ?_
    refine q_backi [0] [1, 2] (br := [u_458, [(oa, aJ cy 1 (g))]]) hP hD hS hA (va_runV (As := [.int (qI (p0)), .int (qI (p1))]) (rest := []) ⟨hx, hb, hml, hown, hg⟩ (c_X8_setStay_no1 l D cy mo mz msv mtx mmo mif mmg mtn mie mme mrd mas T hz HZ len tx th _ gT.1 hM9 p0 p1 (by omega) (by omega) (by omega) _) (cv_L_101 hg rfl rfl ⟨(Nat.le_of_ble_eq_true rfl), (Nat.le_of_ble_eq_true rfl)⟩) ⟨q_blind, va_recv hK (fl_blk hP 0 rfl) (ci := 8) (q0 := 0) rfl hfsM, q_preM _ hK hN hP hD [0] (by decide) rfl⟩ rfl rfl hl.1 rfl (lv_room (Nat.le_of_ble_eq_true rfl)) dL_law_476 ⟨(by show _ + 0 ≤ 601024; omega), (by show _ + 0 ≤ 7293034; omega)⟩) rfl rfl (by decide) (fun r_476 u_476 H locs h_476 hP hD hS => ?_)
    have hP : va_P D vwCl [u_458, [(oa, aJ cy 1 (g))], u_476].flatten H := hP
    have hD : va_D A [u_458, [(oa, aJ cy 1 (g))], u_476].flatten := hD
    obtain ⟨fs_476, hfs_476⟩ := MW_at h_476
    have gk9 : gOk (T) := gT.1
    refine lv_istore (lv' := [(6, .int (r_476)), (5, .int (qI (1))), (0, .ref (b)), (1, .ref (x)), (2, .ref (mo)), (3, .ref (oa)), (4, .int (qI (((6 * t : Nat) : Int))))]) hx hb dL_law_479 hl (by decide) rfl (fun ls hl => ?_)
    refine lv_aload_n hx hb dL_law_481 rfl (lv_at hl 4 rfl) ?_
    refine q_backi [2] [0, 1] (br := [u_458, [(oa, aJ cy 1 (g))]]) hP hD hS hA (va_runV (As := []) (rest := []) ⟨hx, hb, hml, hown, hg⟩ (c_X8_thrown l D cy mo mz msv mtx mmo mif mmg mtn mie mme mrd mas T hz HZ len tx 1 _ gk9 h_476 _) (cv_L_85 hg rfl rfl ⟨(Nat.le_of_ble_eq_true rfl), (Nat.le_of_ble_eq_true rfl)⟩) ⟨q_blind, va_recv hK (fl_blk hP 2 rfl) (ci := 8) (q0 := 0) rfl hfs_476, q_preM _ hK hN hP hD [2] (by decide) rfl⟩ rfl rfl hl.1 rfl (lv_room (Nat.le_of_ble_eq_true rfl)) dL_law_482 ⟨(by show _ + 0 ≤ 601024; omega), (by show _ + 0 ≤ 7293034; omega)⟩) rfl rfl (by decide) (fun r_482 u_482 H locs h_482 hP hD hS => ?_)
    have hP : va_P D vwCl [u_458, [(oa, aJ cy 1 (g))], u_482].flatten H := hP
    have hD : va_D A [u_458, [(oa, aJ cy 1 (g))], u_482].flatten := hD
    obtain ⟨rfl, h_482⟩ := h_482
    refine lv_iload hx hb dL_law_485 (lv_at hl 1 rfl) ?_
    refine q_icmp_eq (tgt := 492) hx hb dL_law_487 (by decide) (by omega) (fun c_487 => ?_) (fun c_487 => ?_)
    · skip
      refine lv_iload hx hb dL_law_492 (lv_at hl 1 rfl) ?_
      refine q_if_ne (tgt := 509) hx hb dL_law_494 (by decide) (by omega) (fun c_494 => ?_) (fun c_494 => ?_)
      · skip
        refine lv_goto (tgt := 1420) hx hb dL_law_509 (by decide) ?_
        have hP := fl_sub (bs' := [u_458, u_482, [(oa, aJ cy 1 (g))]]) hP [0, 2, 1] rfl
        have hD := fl_subD (bs' := [u_458, u_482, [(oa, aJ cy 1 (g))]]) hD [0, 2, 1] (by decide) rfl
        exact kk T hz HZ len tx 1 _ _ _ _ _ _ ⟨⟨la, lv9, ls9, fa, xh, xs, la2, lv92, ls92, fb, fw, bu, ta, rc, re, gb, oc, oe, rs, rc2, re2, gb2, oc2, oe2, rs2, rr, ad, h_458⟩, ⟨mz, msv, mtx, mmo, mif, mmg, mtn, mie, mme, mrd, mas, h_482⟩, gT, hHG, (by omega)⟩ hP hD hS (lv_sub hl [2, 3, 4, 5, 6] rfl)
      · skip
        exact absurd c_494 (by decide)
    · skip
      exact absurd c_487 (by decide)

set_option maxRecDepth 100000 in
set_option maxHeartbeats 4000000 in
theorem lw_edit {p : Program} {l : Launch} {e : Env} {s : State} {m : MethodId} {below : List Frame} {meth : Method} {c : Code} {b L : Nat} {sc9 : Nat → Int32} {D : va_G} {cy : Nat → ClassId} {A : Nat → Prop} {Q : State → Prop} (hlt9 : l.stackTraces = false) (B9 : lwB p s m c b L sc9 D cy A) {x mo oa t : Nat} (ht9 : 6 * t + 6 ≤ L) {T : LSt} {hz : Nat} {HZ : Nat → LSt} {len : Nat} {tx : Nat → Int} {th : Int} {W9 M9 : va_W} {g : Nat → Int64} {cells slots : Nat} (hr9 : cells ≤ 1000 ∧ slots ≤ 8000) (hI9 : lwI cy x mo T hz HZ len tx th W9 M9) {H : Heap} {locs : List Loc} {ls : Array Slot} (hP : va_P D vwCl [W9, M9, [(oa, aJ cy 1 g)]].flatten H) (hD : va_D A [W9, M9, [(oa, aJ cy 1 g)]].flatten) (hS : va_S A s.heap H locs) (hl : lv_has ls 9 (lwL b x mo oa t)) (kk : lwK p l e s m below meth c b D cy A Q x mo oa t cells slots) : W p l e room_1 s m #[Value.ref b] below meth c H locs cells slots Q (F0 m 512 ls []) := by
  obtain ⟨hx, hb, hml, hown, hg, hX, hbl, hbA, hA, hK, hN, hEx9, hNc9, hL9⟩ := B9
  obtain ⟨⟨la, lv9, ls9, fa, xh, xs, la2, lv92, ls92, fb, fw, bu, ta, rc, re, gb, oc, oe, rs, rc2, re2, gb2, oc2, oe2, rs2, rr, ad, hC9⟩, ⟨mz, msv, mtx, mmo, mif, mmg, mtn, mie, mme, mrd, mas, hM9⟩, gT, hHG, hln9⟩ := hI9
  have gT3 := gT.2
  have gN16 : lN9 T ≤ 16 := gT.1.2.2.1.1
  obtain ⟨fsC, hfsC⟩ := CW_at hC9
  obtain ⟨fsM, hfsM⟩ := MW_at hM9
  have hl : lv_has ls 9 [(0, .ref (b)), (1, .ref (x)), (2, .ref (mo)), (3, .ref (oa)), (4, .int (qI (((6 * t : Nat) : Int))))] := hl
  obtain ⟨p0, ep0⟩ : ∃ z : Int, (sc9 (6 * t + 1)).toInt = z := ⟨_, rfl⟩
  have r0 : -2147483648 ≤ p0 ∧ p0 < 2147483648 := by rw [← ep0]; exact ⟨Int32.le_toInt _, Int32.toInt_lt _⟩
  obtain ⟨p1, ep1⟩ : ∃ z : Int, (sc9 (6 * t + 2)).toInt = z := ⟨_, rfl⟩
  have r1 : -2147483648 ≤ p1 ∧ p1 < 2147483648 := by rw [← ep1]; exact ⟨Int32.le_toInt _, Int32.toInt_lt _⟩
  obtain ⟨p2, ep2⟩ : ∃ z : Int, (sc9 (6 * t + 3)).toInt = z := ⟨_, rfl⟩
  have r2 : -2147483648 ≤ p2 ∧ p2 < 2147483648 := by rw [← ep2]; exact ⟨Int32.le_toInt _, Int32.toInt_lt _⟩
  by_cases cA9 : 0 ≤ p0 ∧ p0 ≤ 9
  · skip
    by_cases cB9 : (-1000 ≤ p1 ∧ p1 ≤ 1000) ∧ (0 ≤ p2 ∧ p2 ≤ 3)
    · skip
      by_cases cC9 : edOf (lE T) p0 (lM T) ≠ -1 ∨ lM T < 3
      · skip
        refine lv_aload_n hx hb dL_law_512 rfl (lv_at hl 1 rfl) ?_
        refine lv_aload_n hx hb dL_law_513 rfl (lv_at hl 0 rfl) ?_
        refine lv_iload hx hb dL_law_514 (lv_at hl 4 rfl) ?_
        refine q_iconst hx hb dL_law_516 ?_
        refine q_iadd hx hb dL_law_517 ?_
        refine q_sld (j := 6 * t + 1) hx hb hX hbl hbA hS (by omega) ep0 dL_law_518 ?_
        refine lv_aload_n hx hb dL_law_519 rfl (lv_at hl 0 rfl) ?_
        refine lv_iload hx hb dL_law_520 (lv_at hl 4 rfl) ?_
        refine q_iconst hx hb dL_law_522 ?_
        refine q_iadd hx hb dL_law_523 ?_
        refine q_sld (j := 6 * t + 2) hx hb hX hbl hbA hS (by omega) ep1 dL_law_524 ?_
        refine lv_aload_n hx hb dL_law_525 rfl (lv_at hl 0 rfl) ?_
        refine lv_iload hx hb dL_law_526 (lv_at hl 4 rfl) ?_
        refine q_iconst hx hb dL_law_528 ?_
        refine q_iadd hx hb dL_law_529 ?_
        refine q_sld (j := 6 * t + 3) hx hb hX hbl hbA hS (by omega) ep2 dL_law_530 ?_
        refine lv_aload_n hx hb dL_law_531 rfl (lv_at hl 3 rfl) ?_
        refine q_backiX (mc := 0) (ms := 0) [0, 2] [1] (br := [M9]) hP hD hS hA (vx_runSW (As := [.ref (x), .int (qI (p0)), .int (qI (p1)), .int (qI (p2)), .ref (oa)]) (rest := []) ⟨hx, hb, hml, hown, hg⟩ (c_L_edit l D cy x la lv9 ls9 fa xh xs la2 lv92 ls92 fb fw bu ta rc re gb oc oe rs rc2 re2 gb2 oc2 oe2 rs2 rr ad T hz HZ len tx _ gT.1 hC9 oa _ p0 p1 p2 p0.toNat (by omega) (by omega) (by omega) (by omega) _) (csW_L_102 hg rfl rfl ⟨(Nat.le_of_ble_eq_true rfl), (Nat.le_of_ble_eq_true rfl)⟩) ⟨q_blind, q_preM [.ref (x), .int (qI (p0)), .int (qI (p1)), .int (qI (p2)), .ref (oa)] hK hN hP hD [0, 2] (by decide) rfl⟩ rfl rfl hl.1 rfl (lv_room (Nat.le_of_ble_eq_true rfl)) dL_law_532 ⟨(by show cells + 0 ≤ 601024; omega), (by show slots + 0 ≤ 7293034; omega)⟩) rfl rfl (by decide) (fun r_532 u_532 H locs h_532 hP hD hS => ?_)
        obtain ⟨rfl, h_532⟩ := h_532
        have hP : va_P D vwCl [M9, u_532, [(oa, aJ cy 1 (qu (g) 0 ((qI (lV (seT (adE T p0 p1 p2)) p0.toNat)).toInt64)))]].flatten H := hP
        have hD : va_D A [M9, u_532, [(oa, aJ cy 1 (qu (g) 0 ((qI (lV (seT (adE T p0 p1 p2)) p0.toNat)).toInt64)))]].flatten := hD
        refine lv_istore (lv' := [(5, .int (qI (0))), (0, .ref (b)), (1, .ref (x)), (2, .ref (mo)), (3, .ref (oa)), (4, .int (qI (((6 * t : Nat) : Int))))]) hx hb dL_law_535 hl (by decide) rfl (fun ls hl => ?_)
        refine lv_aload_n hx hb dL_law_537 rfl (lv_at hl 3 rfl) ?_
        refine lv_aload_n hx hb dL_law_538 rfl (lv_at hl 1 rfl) ?_
        refine lv_iload hx hb dL_law_539 (lv_at hl 5 rfl) ?_
        refine q_iconst hx hb dL_law_541 ?_
        refine q_iadd hx hb dL_law_542 ?_
        refine q_sld (j := 6 * t + 1) hx hb hX hbl hbA hS (by omega) ep0 dL_law_543 ?_
        refine lv_aload_n hx hb dL_law_544 rfl (lv_at hl 1 rfl) ?_
        refine lv_iload hx hb dL_law_545 (lv_at hl 5 rfl) ?_
        refine q_iconst hx hb dL_law_547 ?_
        refine q_iadd hx hb dL_law_548 ?_
        refine q_sld (j := 6 * t + 2) hx hb hX hbl hbA hS (by omega) ep1 dL_law_549 ?_
        refine lv_aload_n hx hb dL_law_550 rfl (lv_at hl 1 rfl) ?_
        refine lv_iload hx hb dL_law_551 (lv_at hl 5 rfl) ?_
        refine q_iconst hx hb dL_law_553 ?_
        refine q_iadd hx hb dL_law_554 ?_
        refine q_sld (j := 6 * t + 3) hx hb hX hbl hbA hS (by omega) ep2 dL_law_555 ?_
        refine q_backi [0] [1, 2] (br := [u_532, [(oa, aJ cy 1 (qu (g) 0 ((qI (lV (seT (adE T p0 p1 p2)) p0.toNat)).toInt64)))]]) hP hD hS hA (va_runV (As := [.int (qI (p0)), .int (qI (p1)), .int (qI (p2))]) (rest := []) ⟨hx, hb, hml, hown, hg⟩ (c_X8_edit l D cy mo mz msv mtx mmo mif mmg mtn mie mme mrd mas T hz HZ len tx th _ gT.1 hM9 p0 p1 p2 p0.toNat (by omega) (by omega) (by omega) (by omega) _) (cv_L_105 hg rfl rfl ⟨(Nat.le_of_ble_eq_true rfl), (Nat.le_of_ble_eq_true rfl)⟩) ⟨q_blind, va_recv hK (fl_blk hP 0 rfl) (ci := 8) (q0 := 0) rfl hfsM, q_preM _ hK hN hP hD [0] (by decide) rfl⟩ rfl rfl hl.1 rfl (lv_room (Nat.le_of_ble_eq_true rfl)) dL_law_556 ⟨(by show _ + 0 ≤ 601024; omega), (by show _ + 0 ≤ 7293034; omega)⟩) rfl rfl (by decide) (fun r_556 u_556 H locs h_556 hP hD hS => ?_)
        have hP : va_P D vwCl [u_532, [(oa, aJ cy 1 (qu (g) 0 ((qI (lV (seT (adE T p0 p1 p2)) p0.toNat)).toInt64)))], u_556].flatten H := hP
        have hD : va_D A [u_532, [(oa, aJ cy 1 (qu (g) 0 ((qI (lV (seT (adE T p0 p1 p2)) p0.toNat)).toInt64)))], u_556].flatten := hD
        obtain ⟨rfl, h_556⟩ := h_556
        obtain ⟨fs_556, hfs_556⟩ := MW_at h_556
        have gk9 : gOk ((seT (adE T p0 p1 p2))) := seT_gOk (adE_ok gT.1 (by omega) (by omega) (by omega) (by omega))
        refine lv_istore (lv' := [(6, .int (qI (lV (seT (adE T p0 p1 p2)) p0.toNat))), (5, .int (qI (0))), (0, .ref (b)), (1, .ref (x)), (2, .ref (mo)), (3, .ref (oa)), (4, .int (qI (((6 * t : Nat) : Int))))]) hx hb dL_law_559 hl (by decide) rfl (fun ls hl => ?_)
        refine lv_aload_n hx hb dL_law_561 rfl (lv_at hl 4 rfl) ?_
        refine q_backi [2] [0, 1] (br := [u_532, [(oa, aJ cy 1 (qu (g) 0 ((qI (lV (seT (adE T p0 p1 p2)) p0.toNat)).toInt64)))]]) hP hD hS hA (va_runV (As := []) (rest := []) ⟨hx, hb, hml, hown, hg⟩ (c_X8_thrown l D cy mo mz msv mtx mmo mif mmg mtn mie mme mrd mas (seT (adE T p0 p1 p2)) (min (hz + 1) 8) (pushH T HZ) len tx 0 _ gk9 h_556 _) (cv_L_85 hg rfl rfl ⟨(Nat.le_of_ble_eq_true rfl), (Nat.le_of_ble_eq_true rfl)⟩) ⟨q_blind, va_recv hK (fl_blk hP 2 rfl) (ci := 8) (q0 := 0) rfl hfs_556, q_preM _ hK hN hP hD [2] (by decide) rfl⟩ rfl rfl hl.1 rfl (lv_room (Nat.le_of_ble_eq_true rfl)) dL_law_562 ⟨(by show _ + 0 ≤ 601024; omega), (by show _ + 0 ≤ 7293034; omega)⟩) rfl rfl (by decide) (fun r_562 u_562 H locs h_562 hP hD hS => ?_)
        have hP : va_P D vwCl [u_532, [(oa, aJ cy 1 (qu (g) 0 ((qI (lV (seT (adE T p0 p1 p2)) p0.toNat)).toInt64)))], u_562].flatten H := hP
        have hD : va_D A [u_532, [(oa, aJ cy 1 (qu (g) 0 ((qI (lV (seT (adE T p0 p1 p2)) p0.toNat)).toInt64)))], u_562].flatten := hD
        obtain ⟨rfl, h_562⟩ := h_562
        refine lv_iload hx hb dL_law_565 (lv_at hl 1 rfl) ?_
        refine q_icmp_eq (tgt := 572) hx hb dL_law_567 (by decide) (by omega) (fun c_567 => ?_) (fun c_567 => ?_)
        · skip
          refine lv_iload hx hb dL_law_572 (lv_at hl 1 rfl) ?_
          refine q_if_ne (tgt := 589) hx hb dL_law_574 (by decide) (by omega) (fun c_574 => ?_) (fun c_574 => ?_)
          · skip
            exact absurd c_574 (by decide)
          · skip
            refine lv_aload_n hx hb dL_law_577 rfl (lv_at hl 5 rfl) ?_
            refine q_iconst hx hb dL_law_578 ?_
            refine q_laldW (j := 0) (v := (qI (lV (seT (adE T p0 p1 p2)) p0.toNat)).toInt64) hx hb hK (fl_blk hP 1 rfl) 0 rfl (by omega) (qu_s _ _ _) dL_law_579 ?_
            refine lv_iload hx hb dL_law_580 (lv_at hl 0 rfl) ?_
            refine lv_i2l hx hb dL_law_582 rfl ?_
            refine q_lcmp0 hx hb dL_law_583 ?_
            refine q_if_eq (tgt := 589) hx hb dL_law_584 (by decide) (by omega) (fun c_584 => ?_) (fun c_584 => ?_)
            · skip
              refine lv_goto (tgt := 1420) hx hb dL_law_589 (by decide) ?_
              have hP := fl_sub (bs' := [u_532, u_562, [(oa, aJ cy 1 (qu (g) 0 ((qI (lV (seT (adE T p0 p1 p2)) p0.toNat)).toInt64)))]]) hP [0, 2, 1] rfl
              have hD := fl_subD (bs' := [u_532, u_562, [(oa, aJ cy 1 (qu (g) 0 ((qI (lV (seT (adE T p0 p1 p2)) p0.toNat)).toInt64)))]]) hD [0, 2, 1] (by decide) rfl
              refine W.widen (k := cells + 1) (n := slots + 6) (by omega) (by omega) ?_
              exact kk (seT (adE T p0 p1 p2)) (min (hz + 1) 8) (pushH T HZ) len tx 0 _ _ _ _ _ _ ⟨⟨la, lv9, ls9, fa, xh, xs, la2, lv92, ls92, fb, fw, bu, ta, rc, re, gb, oc, oe, rs, rc2, re2, gb2, oc2, oe2, rs2, rr, ad, h_532⟩, ⟨mz, msv, mtx, mmo, mif, mmg, mtn, mie, mme, mrd, mas, h_562⟩, ⟨seT_gOk (adE_ok gT.1 (by omega) (by omega) (by omega) (by omega)), adE3 (by omega) gT3⟩, gK_push gT hHG, (by omega)⟩ hP hD hS (lv_sub hl [2, 3, 4, 5, 6] rfl)
            · skip
              exact absurd c_584 (by decide)
        · skip
          exact absurd c_567 (by decide)
      · skip
        refine lv_aload_n hx hb dL_law_512 rfl (lv_at hl 1 rfl) ?_
        refine lv_aload_n hx hb dL_law_513 rfl (lv_at hl 0 rfl) ?_
        refine lv_iload hx hb dL_law_514 (lv_at hl 4 rfl) ?_
        refine q_iconst hx hb dL_law_516 ?_
        refine q_iadd hx hb dL_law_517 ?_
        refine q_sld (j := 6 * t + 1) hx hb hX hbl hbA hS (by omega) ep0 dL_law_518 ?_
        refine lv_aload_n hx hb dL_law_519 rfl (lv_at hl 0 rfl) ?_
        refine lv_iload hx hb dL_law_520 (lv_at hl 4 rfl) ?_
        refine q_iconst hx hb dL_law_522 ?_
        refine q_iadd hx hb dL_law_523 ?_
        refine q_sld (j := 6 * t + 2) hx hb hX hbl hbA hS (by omega) ep1 dL_law_524 ?_
        refine lv_aload_n hx hb dL_law_525 rfl (lv_at hl 0 rfl) ?_
        refine lv_iload hx hb dL_law_526 (lv_at hl 4 rfl) ?_
        refine q_iconst hx hb dL_law_528 ?_
        refine q_iadd hx hb dL_law_529 ?_
        refine q_sld (j := 6 * t + 3) hx hb hX hbl hbA hS (by omega) ep2 dL_law_530 ?_
        refine lv_aload_n hx hb dL_law_531 rfl (lv_at hl 3 rfl) ?_
        refine q_backiX (mc := 1) (ms := 6) [0, 2] [1] (br := [M9]) hP hD hS hA (vx_runSW (As := [.ref (x), .int (qI (p0)), .int (qI (p1)), .int (qI (p2)), .ref (oa)]) (rest := []) ⟨hx, hb, hml, hown, hg⟩ (c_L_edit_no3 l hlt9 D cy x la lv9 ls9 fa xh xs la2 lv92 ls92 fb fw bu ta rc re gb oc oe rs rc2 re2 gb2 oc2 oe2 rs2 rr ad T hz HZ len tx _ gT.1 hC9 oa _ p0 p1 p2 (by omega) (by omega) (by omega) (by omega) (by omega) (by omega) _) (csW_L_102 hg rfl rfl ⟨(Nat.le_of_ble_eq_true rfl), (Nat.le_of_ble_eq_true rfl)⟩) ⟨q_blindW, fun U hU hU9 => ⟨rfl, (q_preM [.ref (x), .int (qI (p0)), .int (qI (p1)), .int (qI (p2)), .ref (oa)] hK hN hP hD [0, 2] (by decide) rfl U hU hU9).2, hEx9.step hU9 (by rw [hU]; exact hS.2.1) (fl_free hD hS hA [0, 2] rfl), hNc9.moved hU9.alike⟩⟩ rfl rfl hl.1 rfl (lv_room (Nat.le_of_ble_eq_true rfl)) dL_law_532 ⟨(by show cells + 1 ≤ 601024; omega), (by show slots + 6 ≤ 7293034; omega)⟩) rfl rfl (by decide) (fun r_532 u_532 H locs h_532 hP hD hS => ?_)
        obtain ⟨rfl, h_532⟩ := h_532
        have hP : va_P D vwCl [M9, u_532, [(oa, aJ cy 1 (g))]].flatten H := hP
        have hD : va_D A [M9, u_532, [(oa, aJ cy 1 (g))]].flatten := hD
        refine lv_istore (lv' := [(5, .int (qI (3))), (0, .ref (b)), (1, .ref (x)), (2, .ref (mo)), (3, .ref (oa)), (4, .int (qI (((6 * t : Nat) : Int))))]) hx hb dL_law_535 hl (by decide) rfl (fun ls hl => ?_)
        refine lv_aload_n hx hb dL_law_537 rfl (lv_at hl 3 rfl) ?_
        refine lv_aload_n hx hb dL_law_538 rfl (lv_at hl 1 rfl) ?_
        refine lv_iload hx hb dL_law_539 (lv_at hl 5 rfl) ?_
        refine q_iconst hx hb dL_law_541 ?_
        refine q_iadd hx hb dL_law_542 ?_
        refine q_sld (j := 6 * t + 1) hx hb hX hbl hbA hS (by omega) ep0 dL_law_543 ?_
        refine lv_aload_n hx hb dL_law_544 rfl (lv_at hl 1 rfl) ?_
        refine lv_iload hx hb dL_law_545 (lv_at hl 5 rfl) ?_
        refine q_iconst hx hb dL_law_547 ?_
        refine q_iadd hx hb dL_law_548 ?_
        refine q_sld (j := 6 * t + 2) hx hb hX hbl hbA hS (by omega) ep1 dL_law_549 ?_
        refine lv_aload_n hx hb dL_law_550 rfl (lv_at hl 1 rfl) ?_
        refine lv_iload hx hb dL_law_551 (lv_at hl 5 rfl) ?_
        refine q_iconst hx hb dL_law_553 ?_
        refine q_iadd hx hb dL_law_554 ?_
        refine q_sld (j := 6 * t + 3) hx hb hX hbl hbA hS (by omega) ep2 dL_law_555 ?_
        refine q_backi [0] [1, 2] (br := [u_532, [(oa, aJ cy 1 (g))]]) hP hD hS hA (va_runV (As := [.int (qI (p0)), .int (qI (p1)), .int (qI (p2))]) (rest := []) ⟨hx, hb, hml, hown, hg⟩ (c_X8_edit_no3 l D cy mo mz msv mtx mmo mif mmg mtn mie mme mrd mas T hz HZ len tx th _ gT.1 hM9 p0 p1 p2 (by omega) (by omega) (by omega) (by omega) (by omega) (by omega) _) (cv_L_105 hg rfl rfl ⟨(Nat.le_of_ble_eq_true rfl), (Nat.le_of_ble_eq_true rfl)⟩) ⟨q_blind, va_recv hK (fl_blk hP 0 rfl) (ci := 8) (q0 := 0) rfl hfsM, q_preM _ hK hN hP hD [0] (by decide) rfl⟩ rfl rfl hl.1 rfl (lv_room (Nat.le_of_ble_eq_true rfl)) dL_law_556 ⟨(by show _ + 0 ≤ 601024; omega), (by show _ + 0 ≤ 7293034; omega)⟩) rfl rfl (by decide) (fun r_556 u_556 H locs h_556 hP hD hS => ?_)
        have hP : va_P D vwCl [u_532, [(oa, aJ cy 1 (g))], u_556].flatten H := hP
        have hD : va_D A [u_532, [(oa, aJ cy 1 (g))], u_556].flatten := hD
        obtain ⟨fs_556, hfs_556⟩ := MW_at h_556
        have gk9 : gOk (T) := gT.1
        refine lv_istore (lv' := [(6, .int (r_556)), (5, .int (qI (3))), (0, .ref (b)), (1, .ref (x)), (2, .ref (mo)), (3, .ref (oa)), (4, .int (qI (((6 * t : Nat) : Int))))]) hx hb dL_law_559 hl (by decide) rfl (fun ls hl => ?_)
        refine lv_aload_n hx hb dL_law_561 rfl (lv_at hl 4 rfl) ?_
        refine q_backi [2] [0, 1] (br := [u_532, [(oa, aJ cy 1 (g))]]) hP hD hS hA (va_runV (As := []) (rest := []) ⟨hx, hb, hml, hown, hg⟩ (c_X8_thrown l D cy mo mz msv mtx mmo mif mmg mtn mie mme mrd mas T hz HZ len tx 3 _ gk9 h_556 _) (cv_L_85 hg rfl rfl ⟨(Nat.le_of_ble_eq_true rfl), (Nat.le_of_ble_eq_true rfl)⟩) ⟨q_blind, va_recv hK (fl_blk hP 2 rfl) (ci := 8) (q0 := 0) rfl hfs_556, q_preM _ hK hN hP hD [2] (by decide) rfl⟩ rfl rfl hl.1 rfl (lv_room (Nat.le_of_ble_eq_true rfl)) dL_law_562 ⟨(by show _ + 0 ≤ 601024; omega), (by show _ + 0 ≤ 7293034; omega)⟩) rfl rfl (by decide) (fun r_562 u_562 H locs h_562 hP hD hS => ?_)
        have hP : va_P D vwCl [u_532, [(oa, aJ cy 1 (g))], u_562].flatten H := hP
        have hD : va_D A [u_532, [(oa, aJ cy 1 (g))], u_562].flatten := hD
        obtain ⟨rfl, h_562⟩ := h_562
        refine lv_iload hx hb dL_law_565 (lv_at hl 1 rfl) ?_
        refine q_icmp_eq (tgt := 572) hx hb dL_law_567 (by decide) (by omega) (fun c_567 => ?_) (fun c_567 => ?_)
        · skip
          refine lv_iload hx hb dL_law_572 (lv_at hl 1 rfl) ?_
          refine q_if_ne (tgt := 589) hx hb dL_law_574 (by decide) (by omega) (fun c_574 => ?_) (fun c_574 => ?_)
          · skip
            refine lv_goto (tgt := 1420) hx hb dL_law_589 (by decide) ?_
            have hP := fl_sub (bs' := [u_532, u_562, [(oa, aJ cy 1 (g))]]) hP [0, 2, 1] rfl
            have hD := fl_subD (bs' := [u_532, u_562, [(oa, aJ cy 1 (g))]]) hD [0, 2, 1] (by decide) rfl
            exact kk T hz HZ len tx 3 _ _ _ _ _ _ ⟨⟨la, lv9, ls9, fa, xh, xs, la2, lv92, ls92, fb, fw, bu, ta, rc, re, gb, oc, oe, rs, rc2, re2, gb2, oc2, oe2, rs2, rr, ad, h_532⟩, ⟨mz, msv, mtx, mmo, mif, mmg, mtn, mie, mme, mrd, mas, h_562⟩, gT, hHG, (by omega)⟩ hP hD hS (lv_sub hl [2, 3, 4, 5, 6] rfl)
          · skip
            exact absurd c_574 (by decide)
        · skip
          exact absurd c_567 (by decide)
    · skip
      refine lv_aload_n hx hb dL_law_512 rfl (lv_at hl 1 rfl) ?_
      refine lv_aload_n hx hb dL_law_513 rfl (lv_at hl 0 rfl) ?_
      refine lv_iload hx hb dL_law_514 (lv_at hl 4 rfl) ?_
      refine q_iconst hx hb dL_law_516 ?_
      refine q_iadd hx hb dL_law_517 ?_
      refine q_sld (j := 6 * t + 1) hx hb hX hbl hbA hS (by omega) ep0 dL_law_518 ?_
      refine lv_aload_n hx hb dL_law_519 rfl (lv_at hl 0 rfl) ?_
      refine lv_iload hx hb dL_law_520 (lv_at hl 4 rfl) ?_
      refine q_iconst hx hb dL_law_522 ?_
      refine q_iadd hx hb dL_law_523 ?_
      refine q_sld (j := 6 * t + 2) hx hb hX hbl hbA hS (by omega) ep1 dL_law_524 ?_
      refine lv_aload_n hx hb dL_law_525 rfl (lv_at hl 0 rfl) ?_
      refine lv_iload hx hb dL_law_526 (lv_at hl 4 rfl) ?_
      refine q_iconst hx hb dL_law_528 ?_
      refine q_iadd hx hb dL_law_529 ?_
      refine q_sld (j := 6 * t + 3) hx hb hX hbl hbA hS (by omega) ep2 dL_law_530 ?_
      refine lv_aload_n hx hb dL_law_531 rfl (lv_at hl 3 rfl) ?_
      refine q_backiX (mc := 1) (ms := 6) [0, 2] [1] (br := [M9]) hP hD hS hA (vx_runSW (As := [.ref (x), .int (qI (p0)), .int (qI (p1)), .int (qI (p2)), .ref (oa)]) (rest := []) ⟨hx, hb, hml, hown, hg⟩ (c_L_edit_no2 l hlt9 D cy x la lv9 ls9 fa xh xs la2 lv92 ls92 fb fw bu ta rc re gb oc oe rs rc2 re2 gb2 oc2 oe2 rs2 rr ad T hz HZ len tx _ gT.1 hC9 oa _ p0 p1 p2 (by omega) (by omega) (by omega) (by omega) (by omega) _) (csW_L_102 hg rfl rfl ⟨(Nat.le_of_ble_eq_true rfl), (Nat.le_of_ble_eq_true rfl)⟩) ⟨q_blindW, fun U hU hU9 => ⟨rfl, (q_preM [.ref (x), .int (qI (p0)), .int (qI (p1)), .int (qI (p2)), .ref (oa)] hK hN hP hD [0, 2] (by decide) rfl U hU hU9).2, hEx9.step hU9 (by rw [hU]; exact hS.2.1) (fl_free hD hS hA [0, 2] rfl), hNc9.moved hU9.alike⟩⟩ rfl rfl hl.1 rfl (lv_room (Nat.le_of_ble_eq_true rfl)) dL_law_532 ⟨(by show cells + 1 ≤ 601024; omega), (by show slots + 6 ≤ 7293034; omega)⟩) rfl rfl (by decide) (fun r_532 u_532 H locs h_532 hP hD hS => ?_)
      obtain ⟨rfl, h_532⟩ := h_532
      have hP : va_P D vwCl [M9, u_532, [(oa, aJ cy 1 (g))]].flatten H := hP
      have hD : va_D A [M9, u_532, [(oa, aJ cy 1 (g))]].flatten := hD
      refine lv_istore (lv' := [(5, .int (qI (2))), (0, .ref (b)), (1, .ref (x)), (2, .ref (mo)), (3, .ref (oa)), (4, .int (qI (((6 * t : Nat) : Int))))]) hx hb dL_law_535 hl (by decide) rfl (fun ls hl => ?_)
      refine lv_aload_n hx hb dL_law_537 rfl (lv_at hl 3 rfl) ?_
      refine lv_aload_n hx hb dL_law_538 rfl (lv_at hl 1 rfl) ?_
      refine lv_iload hx hb dL_law_539 (lv_at hl 5 rfl) ?_
      refine q_iconst hx hb dL_law_541 ?_
      refine q_iadd hx hb dL_law_542 ?_
      refine q_sld (j := 6 * t + 1) hx hb hX hbl hbA hS (by omega) ep0 dL_law_543 ?_
      refine lv_aload_n hx hb dL_law_544 rfl (lv_at hl 1 rfl) ?_
      refine lv_iload hx hb dL_law_545 (lv_at hl 5 rfl) ?_
      refine q_iconst hx hb dL_law_547 ?_
      refine q_iadd hx hb dL_law_548 ?_
      refine q_sld (j := 6 * t + 2) hx hb hX hbl hbA hS (by omega) ep1 dL_law_549 ?_
      refine lv_aload_n hx hb dL_law_550 rfl (lv_at hl 1 rfl) ?_
      refine lv_iload hx hb dL_law_551 (lv_at hl 5 rfl) ?_
      refine q_iconst hx hb dL_law_553 ?_
      refine q_iadd hx hb dL_law_554 ?_
      refine q_sld (j := 6 * t + 3) hx hb hX hbl hbA hS (by omega) ep2 dL_law_555 ?_
      refine q_backi [0] [1, 2] (br := [u_532, [(oa, aJ cy 1 (g))]]) hP hD hS hA (va_runV (As := [.int (qI (p0)), .int (qI (p1)), .int (qI (p2))]) (rest := []) ⟨hx, hb, hml, hown, hg⟩ (c_X8_edit_no2 l D cy mo mz msv mtx mmo mif mmg mtn mie mme mrd mas T hz HZ len tx th _ gT.1 hM9 p0 p1 p2 (by omega) (by omega) (by omega) (by omega) (by omega) _) (cv_L_105 hg rfl rfl ⟨(Nat.le_of_ble_eq_true rfl), (Nat.le_of_ble_eq_true rfl)⟩) ⟨q_blind, va_recv hK (fl_blk hP 0 rfl) (ci := 8) (q0 := 0) rfl hfsM, q_preM _ hK hN hP hD [0] (by decide) rfl⟩ rfl rfl hl.1 rfl (lv_room (Nat.le_of_ble_eq_true rfl)) dL_law_556 ⟨(by show _ + 0 ≤ 601024; omega), (by show _ + 0 ≤ 7293034; omega)⟩) rfl rfl (by decide) (fun r_556 u_556 H locs h_556 hP hD hS => ?_)
      have hP : va_P D vwCl [u_532, [(oa, aJ cy 1 (g))], u_556].flatten H := hP
      have hD : va_D A [u_532, [(oa, aJ cy 1 (g))], u_556].flatten := hD
      obtain ⟨fs_556, hfs_556⟩ := MW_at h_556
      have gk9 : gOk (T) := gT.1
      refine lv_istore (lv' := [(6, .int (r_556)), (5, .int (qI (2))), (0, .ref (b)), (1, .ref (x)), (2, .ref (mo)), (3, .ref (oa)), (4, .int (qI (((6 * t : Nat) : Int))))]) hx hb dL_law_559 hl (by decide) rfl (fun ls hl => ?_)
      refine lv_aload_n hx hb dL_law_561 rfl (lv_at hl 4 rfl) ?_
      refine q_backi [2] [0, 1] (br := [u_532, [(oa, aJ cy 1 (g))]]) hP hD hS hA (va_runV (As := []) (rest := []) ⟨hx, hb, hml, hown, hg⟩ (c_X8_thrown l D cy mo mz msv mtx mmo mif mmg mtn mie mme mrd mas T hz HZ len tx 2 _ gk9 h_556 _) (cv_L_85 hg rfl rfl ⟨(Nat.le_of_ble_eq_true rfl), (Nat.le_of_ble_eq_true rfl)⟩) ⟨q_blind, va_recv hK (fl_blk hP 2 rfl) (ci := 8) (q0 := 0) rfl hfs_556, q_preM _ hK hN hP hD [2] (by decide) rfl⟩ rfl rfl hl.1 rfl (lv_room (Nat.le_of_ble_eq_true rfl)) dL_law_562 ⟨(by show _ + 0 ≤ 601024; omega), (by show _ + 0 ≤ 7293034; omega)⟩) rfl rfl (by decide) (fun r_562 u_562 H locs h_562 hP hD hS => ?_)
      have hP : va_P D vwCl [u_532, [(oa, aJ cy 1 (g))], u_562].flatten H := hP
      have hD : va_D A [u_532, [(oa, aJ cy 1 (g))], u_562].flatten := hD
      obtain ⟨rfl, h_562⟩ := h_562
      refine lv_iload hx hb dL_law_565 (lv_at hl 1 rfl) ?_
      refine q_icmp_eq (tgt := 572) hx hb dL_law_567 (by decide) (by omega) (fun c_567 => ?_) (fun c_567 => ?_)
      · skip
        refine lv_iload hx hb dL_law_572 (lv_at hl 1 rfl) ?_
        refine q_if_ne (tgt := 589) hx hb dL_law_574 (by decide) (by omega) (fun c_574 => ?_) (fun c_574 => ?_)
        · skip
          refine lv_goto (tgt := 1420) hx hb dL_law_589 (by decide) ?_
          have hP := fl_sub (bs' := [u_532, u_562, [(oa, aJ cy 1 (g))]]) hP [0, 2, 1] rfl
          have hD := fl_subD (bs' := [u_532, u_562, [(oa, aJ cy 1 (g))]]) hD [0, 2, 1] (by decide) rfl
          exact kk T hz HZ len tx 2 _ _ _ _ _ _ ⟨⟨la, lv9, ls9, fa, xh, xs, la2, lv92, ls92, fb, fw, bu, ta, rc, re, gb, oc, oe, rs, rc2, re2, gb2, oc2, oe2, rs2, rr, ad, h_532⟩, ⟨mz, msv, mtx, mmo, mif, mmg, mtn, mie, mme, mrd, mas, h_562⟩, gT, hHG, (by omega)⟩ hP hD hS (lv_sub hl [2, 3, 4, 5, 6] rfl)
        · skip
          exact absurd c_574 (by decide)
      · skip
        exact absurd c_567 (by decide)
  · skip
    refine lv_aload_n hx hb dL_law_512 rfl (lv_at hl 1 rfl) ?_
    refine lv_aload_n hx hb dL_law_513 rfl (lv_at hl 0 rfl) ?_
    refine lv_iload hx hb dL_law_514 (lv_at hl 4 rfl) ?_
    refine q_iconst hx hb dL_law_516 ?_
    refine q_iadd hx hb dL_law_517 ?_
    refine q_sld (j := 6 * t + 1) hx hb hX hbl hbA hS (by omega) ep0 dL_law_518 ?_
    refine lv_aload_n hx hb dL_law_519 rfl (lv_at hl 0 rfl) ?_
    refine lv_iload hx hb dL_law_520 (lv_at hl 4 rfl) ?_
    refine q_iconst hx hb dL_law_522 ?_
    refine q_iadd hx hb dL_law_523 ?_
    refine q_sld (j := 6 * t + 2) hx hb hX hbl hbA hS (by omega) ep1 dL_law_524 ?_
    refine lv_aload_n hx hb dL_law_525 rfl (lv_at hl 0 rfl) ?_
    refine lv_iload hx hb dL_law_526 (lv_at hl 4 rfl) ?_
    refine q_iconst hx hb dL_law_528 ?_
    refine q_iadd hx hb dL_law_529 ?_
    refine q_sld (j := 6 * t + 3) hx hb hX hbl hbA hS (by omega) ep2 dL_law_530 ?_
    refine lv_aload_n hx hb dL_law_531 rfl (lv_at hl 3 rfl) ?_
    refine q_backiX (mc := 1) (ms := 6) [0, 2] [1] (br := [M9]) hP hD hS hA (vx_runSW (As := [.ref (x), .int (qI (p0)), .int (qI (p1)), .int (qI (p2)), .ref (oa)]) (rest := []) ⟨hx, hb, hml, hown, hg⟩ (c_L_edit_no1 l hlt9 D cy x la lv9 ls9 fa xh xs la2 lv92 ls92 fb fw bu ta rc re gb oc oe rs rc2 re2 gb2 oc2 oe2 rs2 rr ad T hz HZ len tx _ gT.1 hC9 oa _ p0 p1 p2 (by omega) (by omega) (by omega) (by omega) _) (csW_L_102 hg rfl rfl ⟨(Nat.le_of_ble_eq_true rfl), (Nat.le_of_ble_eq_true rfl)⟩) ⟨q_blindW, fun U hU hU9 => ⟨rfl, (q_preM [.ref (x), .int (qI (p0)), .int (qI (p1)), .int (qI (p2)), .ref (oa)] hK hN hP hD [0, 2] (by decide) rfl U hU hU9).2, hEx9.step hU9 (by rw [hU]; exact hS.2.1) (fl_free hD hS hA [0, 2] rfl), hNc9.moved hU9.alike⟩⟩ rfl rfl hl.1 rfl (lv_room (Nat.le_of_ble_eq_true rfl)) dL_law_532 ⟨(by show cells + 1 ≤ 601024; omega), (by show slots + 6 ≤ 7293034; omega)⟩) rfl rfl (by decide) (fun r_532 u_532 H locs h_532 hP hD hS => ?_)
    obtain ⟨rfl, h_532⟩ := h_532
    have hP : va_P D vwCl [M9, u_532, [(oa, aJ cy 1 (g))]].flatten H := hP
    have hD : va_D A [M9, u_532, [(oa, aJ cy 1 (g))]].flatten := hD
    refine lv_istore (lv' := [(5, .int (qI (1))), (0, .ref (b)), (1, .ref (x)), (2, .ref (mo)), (3, .ref (oa)), (4, .int (qI (((6 * t : Nat) : Int))))]) hx hb dL_law_535 hl (by decide) rfl (fun ls hl => ?_)
    refine lv_aload_n hx hb dL_law_537 rfl (lv_at hl 3 rfl) ?_
    refine lv_aload_n hx hb dL_law_538 rfl (lv_at hl 1 rfl) ?_
    refine lv_iload hx hb dL_law_539 (lv_at hl 5 rfl) ?_
    refine q_iconst hx hb dL_law_541 ?_
    refine q_iadd hx hb dL_law_542 ?_
    refine q_sld (j := 6 * t + 1) hx hb hX hbl hbA hS (by omega) ep0 dL_law_543 ?_
    refine lv_aload_n hx hb dL_law_544 rfl (lv_at hl 1 rfl) ?_
    refine lv_iload hx hb dL_law_545 (lv_at hl 5 rfl) ?_
    refine q_iconst hx hb dL_law_547 ?_
    refine q_iadd hx hb dL_law_548 ?_
    refine q_sld (j := 6 * t + 2) hx hb hX hbl hbA hS (by omega) ep1 dL_law_549 ?_
    refine lv_aload_n hx hb dL_law_550 rfl (lv_at hl 1 rfl) ?_
    refine lv_iload hx hb dL_law_551 (lv_at hl 5 rfl) ?_
    refine q_iconst hx hb dL_law_553 ?_
    refine q_iadd hx hb dL_law_554 ?_
    refine q_sld (j := 6 * t + 3) hx hb hX hbl hbA hS (by omega) ep2 dL_law_555 ?_
    refine q_backi [0] [1, 2] (br := [u_532, [(oa, aJ cy 1 (g))]]) hP hD hS hA (va_runV (As := [.int (qI (p0)), .int (qI (p1)), .int (qI (p2))]) (rest := []) ⟨hx, hb, hml, hown, hg⟩ (c_X8_edit_no1 l D cy mo mz msv mtx mmo mif mmg mtn mie mme mrd mas T hz HZ len tx th _ gT.1 hM9 p0 p1 p2 (by omega) (by omega) (by omega) (by omega) _) (cv_L_105 hg rfl rfl ⟨(Nat.le_of_ble_eq_true rfl), (Nat.le_of_ble_eq_true rfl)⟩) ⟨q_blind, va_recv hK (fl_blk hP 0 rfl) (ci := 8) (q0 := 0) rfl hfsM, q_preM _ hK hN hP hD [0] (by decide) rfl⟩ rfl rfl hl.1 rfl (lv_room (Nat.le_of_ble_eq_true rfl)) dL_law_556 ⟨(by show _ + 0 ≤ 601024; omega), (by show _ + 0 ≤ 7293034; omega)⟩) rfl rfl (by decide) (fun r_556 u_556 H locs h_556 hP hD hS => ?_)
    have hP : va_P D vwCl [u_532, [(oa, aJ cy 1 (g))], u_556].flatten H := hP
    have hD : va_D A [u_532, [(oa, aJ cy 1 (g))], u_556].flatten := hD
    obtain ⟨fs_556, hfs_556⟩ := MW_at h_556
    have gk9 : gOk (T) := gT.1
    refine lv_istore (lv' := [(6, .int (r_556)), (5, .int (qI (1))), (0, .ref (b)), (1, .ref (x)), (2, .ref (mo)), (3, .ref (oa)), (4, .int (qI (((6 * t : Nat) : Int))))]) hx hb dL_law_559 hl (by decide) rfl (fun ls hl => ?_)
    refine lv_aload_n hx hb dL_law_561 rfl (lv_at hl 4 rfl) ?_
    refine q_backi [2] [0, 1] (br := [u_532, [(oa, aJ cy 1 (g))]]) hP hD hS hA (va_runV (As := []) (rest := []) ⟨hx, hb, hml, hown, hg⟩ (c_X8_thrown l D cy mo mz msv mtx mmo mif mmg mtn mie mme mrd mas T hz HZ len tx 1 _ gk9 h_556 _) (cv_L_85 hg rfl rfl ⟨(Nat.le_of_ble_eq_true rfl), (Nat.le_of_ble_eq_true rfl)⟩) ⟨q_blind, va_recv hK (fl_blk hP 2 rfl) (ci := 8) (q0 := 0) rfl hfs_556, q_preM _ hK hN hP hD [2] (by decide) rfl⟩ rfl rfl hl.1 rfl (lv_room (Nat.le_of_ble_eq_true rfl)) dL_law_562 ⟨(by show _ + 0 ≤ 601024; omega), (by show _ + 0 ≤ 7293034; omega)⟩) rfl rfl (by decide) (fun r_562 u_562 H locs h_562 hP hD hS => ?_)
    have hP : va_P D vwCl [u_532, [(oa, aJ cy 1 (g))], u_562].flatten H := hP
    have hD : va_D A [u_532, [(oa, aJ cy 1 (g))], u_562].flatten := hD
    obtain ⟨rfl, h_562⟩ := h_562
    refine lv_iload hx hb dL_law_565 (lv_at hl 1 rfl) ?_
    refine q_icmp_eq (tgt := 572) hx hb dL_law_567 (by decide) (by omega) (fun c_567 => ?_) (fun c_567 => ?_)
    · skip
      refine lv_iload hx hb dL_law_572 (lv_at hl 1 rfl) ?_
      refine q_if_ne (tgt := 589) hx hb dL_law_574 (by decide) (by omega) (fun c_574 => ?_) (fun c_574 => ?_)
      · skip
        refine lv_goto (tgt := 1420) hx hb dL_law_589 (by decide) ?_
        have hP := fl_sub (bs' := [u_532, u_562, [(oa, aJ cy 1 (g))]]) hP [0, 2, 1] rfl
        have hD := fl_subD (bs' := [u_532, u_562, [(oa, aJ cy 1 (g))]]) hD [0, 2, 1] (by decide) rfl
        exact kk T hz HZ len tx 1 _ _ _ _ _ _ ⟨⟨la, lv9, ls9, fa, xh, xs, la2, lv92, ls92, fb, fw, bu, ta, rc, re, gb, oc, oe, rs, rc2, re2, gb2, oc2, oe2, rs2, rr, ad, h_532⟩, ⟨mz, msv, mtx, mmo, mif, mmg, mtn, mie, mme, mrd, mas, h_562⟩, gT, hHG, (by omega)⟩ hP hD hS (lv_sub hl [2, 3, 4, 5, 6] rfl)
      · skip
        exact absurd c_574 (by decide)
    · skip
      exact absurd c_567 (by decide)

set_option maxRecDepth 100000 in
set_option maxHeartbeats 4000000 in
theorem lw_endEdits {p : Program} {l : Launch} {e : Env} {s : State} {m : MethodId} {below : List Frame} {meth : Method} {c : Code} {b L : Nat} {sc9 : Nat → Int32} {D : va_G} {cy : Nat → ClassId} {A : Nat → Prop} {Q : State → Prop} (hlt9 : l.stackTraces = false) (B9 : lwB p s m c b L sc9 D cy A) {x mo oa t : Nat} (ht9 : 6 * t + 6 ≤ L) {T : LSt} {hz : Nat} {HZ : Nat → LSt} {len : Nat} {tx : Nat → Int} {th : Int} {W9 M9 : va_W} {g : Nat → Int64} {cells slots : Nat} (hr9 : cells ≤ 1000 ∧ slots ≤ 8000) (hI9 : lwI cy x mo T hz HZ len tx th W9 M9) {H : Heap} {locs : List Loc} {ls : Array Slot} (hP : va_P D vwCl [W9, M9, [(oa, aJ cy 1 g)]].flatten H) (hD : va_D A [W9, M9, [(oa, aJ cy 1 g)]].flatten) (hS : va_S A s.heap H locs) (hl : lv_has ls 9 (lwL b x mo oa t)) (kk : lwK p l e s m below meth c b D cy A Q x mo oa t cells slots) : W p l e room_1 s m #[Value.ref b] below meth c H locs cells slots Q (F0 m 592 ls []) := by
  obtain ⟨hx, hb, hml, hown, hg, hX, hbl, hbA, hA, hK, hN, hEx9, hNc9, hL9⟩ := B9
  obtain ⟨⟨la, lv9, ls9, fa, xh, xs, la2, lv92, ls92, fb, fw, bu, ta, rc, re, gb, oc, oe, rs, rc2, re2, gb2, oc2, oe2, rs2, rr, ad, hC9⟩, ⟨mz, msv, mtx, mmo, mif, mmg, mtn, mie, mme, mrd, mas, hM9⟩, gT, hHG, hln9⟩ := hI9
  have gT3 := gT.2
  have gN16 : lN9 T ≤ 16 := gT.1.2.2.1.1
  obtain ⟨fsC, hfsC⟩ := CW_at hC9
  obtain ⟨fsM, hfsM⟩ := MW_at hM9
  have hl : lv_has ls 9 [(0, .ref (b)), (1, .ref (x)), (2, .ref (mo)), (3, .ref (oa)), (4, .int (qI (((6 * t : Nat) : Int))))] := hl
  refine lv_aload_n hx hb dL_law_592 rfl (lv_at hl 1 rfl) ?_
  refine q_backi [0] [1, 2] (br := [M9, [(oa, aJ cy 1 (g))]]) hP hD hS hA (va_runV (As := []) (rest := []) ⟨hx, hb, hml, hown, hg⟩ (c_X7_endEdits l D cy x la lv9 ls9 fa xh xs la2 lv92 ls92 fb fw bu ta rc re gb oc oe rs rc2 re2 gb2 oc2 oe2 rs2 rr ad T hz HZ len tx _ gT.1 hC9  _) (cv_L_106 hg rfl rfl ⟨(Nat.le_of_ble_eq_true rfl), (Nat.le_of_ble_eq_true rfl)⟩) ⟨q_blind, va_recv hK (fl_blk hP 0 rfl) (ci := 7) (q0 := 0) rfl hfsC, q_preM _ hK hN hP hD [0] (by decide) rfl⟩ rfl rfl hl.1 rfl (lv_room (Nat.le_of_ble_eq_true rfl)) dL_law_593 ⟨(by show _ + 0 ≤ 601024; omega), (by show _ + 0 ≤ 7293034; omega)⟩) rfl rfl (by decide) (fun r_593 u_593 H locs h_593 hP hD hS => ?_)
  have hP : va_P D vwCl [M9, [(oa, aJ cy 1 (g))], u_593].flatten H := hP
  have hD : va_D A [M9, [(oa, aJ cy 1 (g))], u_593].flatten := hD
  obtain ⟨rfl, h_593⟩ := h_593
  refine lv_aload_n hx hb dL_law_596 rfl (lv_at hl 2 rfl) ?_
  refine q_backi [0] [1, 2] (br := [[(oa, aJ cy 1 (g))], u_593]) hP hD hS hA (va_runV (As := []) (rest := [.int (qI (lM T : Int))]) ⟨hx, hb, hml, hown, hg⟩ (c_X8_endEdits l D cy mo mz msv mtx mmo mif mmg mtn mie mme mrd mas T hz HZ len tx th _ gT.1 hM9  _) (cv_L_109 hg rfl rfl ⟨(Nat.le_of_ble_eq_true rfl), (Nat.le_of_ble_eq_true rfl)⟩) ⟨q_blind, va_recv hK (fl_blk hP 0 rfl) (ci := 8) (q0 := 0) rfl hfsM, q_preM _ hK hN hP hD [0] (by decide) rfl⟩ rfl rfl hl.1 rfl (lv_room (Nat.le_of_ble_eq_true rfl)) dL_law_597 ⟨(by show _ + 0 ≤ 601024; omega), (by show _ + 0 ≤ 7293034; omega)⟩) rfl rfl (by decide) (fun r_597 u_597 H locs h_597 hP hD hS => ?_)
  have hP : va_P D vwCl [[(oa, aJ cy 1 (g))], u_593, u_597].flatten H := hP
  have hD : va_D A [[(oa, aJ cy 1 (g))], u_593, u_597].flatten := hD
  obtain ⟨rfl, h_597⟩ := h_597
  refine q_icmp_eq (tgt := 1420) hx hb dL_law_600 (by decide) (by omega) (fun c_600 => ?_) (fun c_600 => ?_)
  · skip
    have hP := fl_sub (bs' := [u_593, u_597, [(oa, aJ cy 1 (g))]]) hP [1, 2, 0] rfl
    have hD := fl_subD (bs' := [u_593, u_597, [(oa, aJ cy 1 (g))]]) hD [1, 2, 0] (by decide) rfl
    refine W.widen (k := cells + 1) (n := slots + 6) (by omega) (by omega) ?_
    exact kk (enE T) (min (hz + 1) 8) (pushH T HZ) len tx 0 _ _ _ _ _ _ ⟨⟨la, lv9, ls9, fa, xh, xs, la2, lv92, ls92, fb, fw, bu, ta, rc, re, gb, oc, oe, rs, rc2, re2, gb2, oc2, oe2, rs2, rr, ad, h_593⟩, ⟨mz, msv, mtx, mmo, mif, mmg, mtn, mie, mme, mrd, mas, h_597⟩, ⟨enE_ok gT.1, Nat.zero_le _⟩, gK_push gT hHG, (by omega)⟩ hP hD hS (lv_sub hl [0, 1, 2, 3, 4] rfl)
  · skip
    refine q_iconst hx hb dL_law_603 ?_
    exact absurd rfl c_600

set_option maxRecDepth 100000 in
set_option maxHeartbeats 4000000 in
theorem lw_settleFrom {p : Program} {l : Launch} {e : Env} {s : State} {m : MethodId} {below : List Frame} {meth : Method} {c : Code} {b L : Nat} {sc9 : Nat → Int32} {D : va_G} {cy : Nat → ClassId} {A : Nat → Prop} {Q : State → Prop} (hlt9 : l.stackTraces = false) (B9 : lwB p s m c b L sc9 D cy A) {x mo oa t : Nat} (ht9 : 6 * t + 6 ≤ L) {T : LSt} {hz : Nat} {HZ : Nat → LSt} {len : Nat} {tx : Nat → Int} {th : Int} {W9 M9 : va_W} {g : Nat → Int64} {cells slots : Nat} (hr9 : cells ≤ 1000 ∧ slots ≤ 8000) (hI9 : lwI cy x mo T hz HZ len tx th W9 M9) {H : Heap} {locs : List Loc} {ls : Array Slot} (hP : va_P D vwCl [W9, M9, [(oa, aJ cy 1 g)]].flatten H) (hD : va_D A [W9, M9, [(oa, aJ cy 1 g)]].flatten) (hS : va_S A s.heap H locs) (hl : lv_has ls 9 (lwL b x mo oa t)) (kk : lwK p l e s m below meth c b D cy A Q x mo oa t cells slots) : W p l e room_1 s m #[Value.ref b] below meth c H locs cells slots Q (F0 m 605 ls []) := by
  obtain ⟨hx, hb, hml, hown, hg, hX, hbl, hbA, hA, hK, hN, hEx9, hNc9, hL9⟩ := B9
  obtain ⟨⟨la, lv9, ls9, fa, xh, xs, la2, lv92, ls92, fb, fw, bu, ta, rc, re, gb, oc, oe, rs, rc2, re2, gb2, oc2, oe2, rs2, rr, ad, hC9⟩, ⟨mz, msv, mtx, mmo, mif, mmg, mtn, mie, mme, mrd, mas, hM9⟩, gT, hHG, hln9⟩ := hI9
  have gT3 := gT.2
  have gN16 : lN9 T ≤ 16 := gT.1.2.2.1.1
  obtain ⟨fsC, hfsC⟩ := CW_at hC9
  obtain ⟨fsM, hfsM⟩ := MW_at hM9
  have hl : lv_has ls 9 [(0, .ref (b)), (1, .ref (x)), (2, .ref (mo)), (3, .ref (oa)), (4, .int (qI (((6 * t : Nat) : Int))))] := hl
  obtain ⟨p0, ep0⟩ : ∃ z : Int, (sc9 (6 * t + 1)).toInt = z := ⟨_, rfl⟩
  have r0 : -2147483648 ≤ p0 ∧ p0 < 2147483648 := by rw [← ep0]; exact ⟨Int32.le_toInt _, Int32.toInt_lt _⟩
  by_cases cA9 : -1000 ≤ p0 ∧ p0 ≤ 1000
  · skip
    refine lv_aload_n hx hb dL_law_605 rfl (lv_at hl 1 rfl) ?_
    refine lv_aload_n hx hb dL_law_606 rfl (lv_at hl 0 rfl) ?_
    refine lv_iload hx hb dL_law_607 (lv_at hl 4 rfl) ?_
    refine q_iconst hx hb dL_law_609 ?_
    refine q_iadd hx hb dL_law_610 ?_
    refine q_sld (j := 6 * t + 1) hx hb hX hbl hbA hS (by omega) ep0 dL_law_611 ?_
    refine lv_aload_n hx hb dL_law_612 rfl (lv_at hl 3 rfl) ?_
    refine q_backiX (mc := 0) (ms := 0) [0, 2] [1] (br := [M9]) hP hD hS hA (vx_runSW (As := [.ref (x), .int (qI (p0)), .ref (oa)]) (rest := []) ⟨hx, hb, hml, hown, hg⟩ (c_L_settleFrom l D cy x la lv9 ls9 fa xh xs la2 lv92 ls92 fb fw bu ta rc re gb oc oe rs rc2 re2 gb2 oc2 oe2 rs2 rr ad T hz HZ len tx _ gT.1 hC9 oa _ p0 (by omega) _) (csW_L_110 hg rfl rfl ⟨(Nat.le_of_ble_eq_true rfl), (Nat.le_of_ble_eq_true rfl)⟩) ⟨q_blind, q_preM [.ref (x), .int (qI (p0)), .ref (oa)] hK hN hP hD [0, 2] (by decide) rfl⟩ rfl rfl hl.1 rfl (lv_room (Nat.le_of_ble_eq_true rfl)) dL_law_613 ⟨(by show cells + 0 ≤ 601024; omega), (by show slots + 0 ≤ 7293034; omega)⟩) rfl rfl (by decide) (fun r_613 u_613 H locs h_613 hP hD hS => ?_)
    obtain ⟨rfl, h_613⟩ := h_613
    have hP : va_P D vwCl [M9, u_613, [(oa, aJ cy 1 (qu (g) 0 ((qI (((cnt (fun i => decide (lV (seT (frV T p0)) i ≠ p0)) 10 : Nat) : Int))).toInt64)))]].flatten H := hP
    have hD : va_D A [M9, u_613, [(oa, aJ cy 1 (qu (g) 0 ((qI (((cnt (fun i => decide (lV (seT (frV T p0)) i ≠ p0)) 10 : Nat) : Int))).toInt64)))]].flatten := hD
    refine lv_istore (lv' := [(5, .int (qI (0))), (0, .ref (b)), (1, .ref (x)), (2, .ref (mo)), (3, .ref (oa)), (4, .int (qI (((6 * t : Nat) : Int))))]) hx hb dL_law_616 hl (by decide) rfl (fun ls hl => ?_)
    refine lv_aload_n hx hb dL_law_618 rfl (lv_at hl 3 rfl) ?_
    refine lv_aload_n hx hb dL_law_619 rfl (lv_at hl 1 rfl) ?_
    refine lv_iload hx hb dL_law_620 (lv_at hl 5 rfl) ?_
    refine q_iconst hx hb dL_law_622 ?_
    refine q_iadd hx hb dL_law_623 ?_
    refine q_sld (j := 6 * t + 1) hx hb hX hbl hbA hS (by omega) ep0 dL_law_624 ?_
    refine q_backi [0] [1, 2] (br := [u_613, [(oa, aJ cy 1 (qu (g) 0 ((qI (((cnt (fun i => decide (lV (seT (frV T p0)) i ≠ p0)) 10 : Nat) : Int))).toInt64)))]]) hP hD hS hA (va_runV (As := [.int (qI (p0))]) (rest := []) ⟨hx, hb, hml, hown, hg⟩ (c_X8_settleFrom l D cy mo mz msv mtx mmo mif mmg mtn mie mme mrd mas T hz HZ len tx th _ gT.1 hM9 p0 (by omega) _) (cv_L_112 hg rfl rfl ⟨(Nat.le_of_ble_eq_true rfl), (Nat.le_of_ble_eq_true rfl)⟩) ⟨q_blind, va_recv hK (fl_blk hP 0 rfl) (ci := 8) (q0 := 0) rfl hfsM, q_preM _ hK hN hP hD [0] (by decide) rfl⟩ rfl rfl hl.1 rfl (lv_room (Nat.le_of_ble_eq_true rfl)) dL_law_625 ⟨(by show _ + 0 ≤ 601024; omega), (by show _ + 0 ≤ 7293034; omega)⟩) rfl rfl (by decide) (fun r_625 u_625 H locs h_625 hP hD hS => ?_)
    have hP : va_P D vwCl [u_613, [(oa, aJ cy 1 (qu (g) 0 ((qI (((cnt (fun i => decide (lV (seT (frV T p0)) i ≠ p0)) 10 : Nat) : Int))).toInt64)))], u_625].flatten H := hP
    have hD : va_D A [u_613, [(oa, aJ cy 1 (qu (g) 0 ((qI (((cnt (fun i => decide (lV (seT (frV T p0)) i ≠ p0)) 10 : Nat) : Int))).toInt64)))], u_625].flatten := hD
    obtain ⟨rfl, h_625⟩ := h_625
    obtain ⟨fs_625, hfs_625⟩ := MW_at h_625
    have gk9 : gOk ((seT (frV T p0))) := seT_gOk (frV_ok gT.1 (by omega))
    refine lv_istore (lv' := [(6, .int (qI ((cnt (fun i => decide (lV (seT (frV T p0)) i ≠ p0)) 10 : Nat) : Int))), (5, .int (qI (0))), (0, .ref (b)), (1, .ref (x)), (2, .ref (mo)), (3, .ref (oa)), (4, .int (qI (((6 * t : Nat) : Int))))]) hx hb dL_law_628 hl (by decide) rfl (fun ls hl => ?_)
    refine lv_aload_n hx hb dL_law_630 rfl (lv_at hl 4 rfl) ?_
    refine q_backi [2] [0, 1] (br := [u_613, [(oa, aJ cy 1 (qu (g) 0 ((qI (((cnt (fun i => decide (lV (seT (frV T p0)) i ≠ p0)) 10 : Nat) : Int))).toInt64)))]]) hP hD hS hA (va_runV (As := []) (rest := []) ⟨hx, hb, hml, hown, hg⟩ (c_X8_thrown l D cy mo mz msv mtx mmo mif mmg mtn mie mme mrd mas (seT (frV T p0)) (min (hz + 1) 8) (pushH T HZ) len tx 0 _ gk9 h_625 _) (cv_L_85 hg rfl rfl ⟨(Nat.le_of_ble_eq_true rfl), (Nat.le_of_ble_eq_true rfl)⟩) ⟨q_blind, va_recv hK (fl_blk hP 2 rfl) (ci := 8) (q0 := 0) rfl hfs_625, q_preM _ hK hN hP hD [2] (by decide) rfl⟩ rfl rfl hl.1 rfl (lv_room (Nat.le_of_ble_eq_true rfl)) dL_law_631 ⟨(by show _ + 0 ≤ 601024; omega), (by show _ + 0 ≤ 7293034; omega)⟩) rfl rfl (by decide) (fun r_631 u_631 H locs h_631 hP hD hS => ?_)
    have hP : va_P D vwCl [u_613, [(oa, aJ cy 1 (qu (g) 0 ((qI (((cnt (fun i => decide (lV (seT (frV T p0)) i ≠ p0)) 10 : Nat) : Int))).toInt64)))], u_631].flatten H := hP
    have hD : va_D A [u_613, [(oa, aJ cy 1 (qu (g) 0 ((qI (((cnt (fun i => decide (lV (seT (frV T p0)) i ≠ p0)) 10 : Nat) : Int))).toInt64)))], u_631].flatten := hD
    obtain ⟨rfl, h_631⟩ := h_631
    refine lv_iload hx hb dL_law_634 (lv_at hl 1 rfl) ?_
    refine q_icmp_eq (tgt := 641) hx hb dL_law_636 (by decide) (by omega) (fun c_636 => ?_) (fun c_636 => ?_)
    · skip
      refine lv_iload hx hb dL_law_641 (lv_at hl 1 rfl) ?_
      refine q_if_ne (tgt := 658) hx hb dL_law_643 (by decide) (by omega) (fun c_643 => ?_) (fun c_643 => ?_)
      · skip
        exact absurd c_643 (by decide)
      · skip
        refine lv_aload_n hx hb dL_law_646 rfl (lv_at hl 5 rfl) ?_
        refine q_iconst hx hb dL_law_647 ?_
        refine q_laldW (j := 0) (v := (qI (((cnt (fun i => decide (lV (seT (frV T p0)) i ≠ p0)) 10 : Nat) : Int))).toInt64) hx hb hK (fl_blk hP 1 rfl) 0 rfl (by omega) (qu_s _ _ _) dL_law_648 ?_
        refine lv_iload hx hb dL_law_649 (lv_at hl 0 rfl) ?_
        refine lv_i2l hx hb dL_law_651 rfl ?_
        refine q_lcmp0 hx hb dL_law_652 ?_
        refine q_if_eq (tgt := 658) hx hb dL_law_653 (by decide) (by omega) (fun c_653 => ?_) (fun c_653 => ?_)
        · skip
          refine lv_goto (tgt := 1420) hx hb dL_law_658 (by decide) ?_
          have hP := fl_sub (bs' := [u_613, u_631, [(oa, aJ cy 1 (qu (g) 0 ((qI (((cnt (fun i => decide (lV (seT (frV T p0)) i ≠ p0)) 10 : Nat) : Int))).toInt64)))]]) hP [0, 2, 1] rfl
          have hD := fl_subD (bs' := [u_613, u_631, [(oa, aJ cy 1 (qu (g) 0 ((qI (((cnt (fun i => decide (lV (seT (frV T p0)) i ≠ p0)) 10 : Nat) : Int))).toInt64)))]]) hD [0, 2, 1] (by decide) rfl
          refine W.widen (k := cells + 1) (n := slots + 6) (by omega) (by omega) ?_
          exact kk (seT (frV T p0)) (min (hz + 1) 8) (pushH T HZ) len tx 0 _ _ _ _ _ _ ⟨⟨la, lv9, ls9, fa, xh, xs, la2, lv92, ls92, fb, fw, bu, ta, rc, re, gb, oc, oe, rs, rc2, re2, gb2, oc2, oe2, rs2, rr, ad, h_613⟩, ⟨mz, msv, mtx, mmo, mif, mmg, mtn, mie, mme, mrd, mas, h_631⟩, ⟨seT_gOk (frV_ok gT.1 (by omega)), gT3⟩, gK_push gT hHG, (by omega)⟩ hP hD hS (lv_sub hl [2, 3, 4, 5, 6] rfl)
        · skip
          exact absurd c_653 (by decide)
    · skip
      exact absurd c_636 (by decide)
  · skip
    refine lv_aload_n hx hb dL_law_605 rfl (lv_at hl 1 rfl) ?_
    refine lv_aload_n hx hb dL_law_606 rfl (lv_at hl 0 rfl) ?_
    refine lv_iload hx hb dL_law_607 (lv_at hl 4 rfl) ?_
    refine q_iconst hx hb dL_law_609 ?_
    refine q_iadd hx hb dL_law_610 ?_
    refine q_sld (j := 6 * t + 1) hx hb hX hbl hbA hS (by omega) ep0 dL_law_611 ?_
    refine lv_aload_n hx hb dL_law_612 rfl (lv_at hl 3 rfl) ?_
    refine q_backiX (mc := 1) (ms := 6) [0, 2] [1] (br := [M9]) hP hD hS hA (vx_runSW (As := [.ref (x), .int (qI (p0)), .ref (oa)]) (rest := []) ⟨hx, hb, hml, hown, hg⟩ (c_L_settleFrom_no2 l hlt9 D cy x la lv9 ls9 fa xh xs la2 lv92 ls92 fb fw bu ta rc re gb oc oe rs rc2 re2 gb2 oc2 oe2 rs2 rr ad T hz HZ len tx _ gT.1 hC9 oa _ p0 (by omega) (by omega) _) (csW_L_110 hg rfl rfl ⟨(Nat.le_of_ble_eq_true rfl), (Nat.le_of_ble_eq_true rfl)⟩) ⟨q_blindW, fun U hU hU9 => ⟨rfl, (q_preM [.ref (x), .int (qI (p0)), .ref (oa)] hK hN hP hD [0, 2] (by decide) rfl U hU hU9).2, hEx9.step hU9 (by rw [hU]; exact hS.2.1) (fl_free hD hS hA [0, 2] rfl), hNc9.moved hU9.alike⟩⟩ rfl rfl hl.1 rfl (lv_room (Nat.le_of_ble_eq_true rfl)) dL_law_613 ⟨(by show cells + 1 ≤ 601024; omega), (by show slots + 6 ≤ 7293034; omega)⟩) rfl rfl (by decide) (fun r_613 u_613 H locs h_613 hP hD hS => ?_)
    obtain ⟨rfl, h_613⟩ := h_613
    have hP : va_P D vwCl [M9, u_613, [(oa, aJ cy 1 (g))]].flatten H := hP
    have hD : va_D A [M9, u_613, [(oa, aJ cy 1 (g))]].flatten := hD
    refine lv_istore (lv' := [(5, .int (qI (1))), (0, .ref (b)), (1, .ref (x)), (2, .ref (mo)), (3, .ref (oa)), (4, .int (qI (((6 * t : Nat) : Int))))]) hx hb dL_law_616 hl (by decide) rfl (fun ls hl => ?_)
    refine lv_aload_n hx hb dL_law_618 rfl (lv_at hl 3 rfl) ?_
    refine lv_aload_n hx hb dL_law_619 rfl (lv_at hl 1 rfl) ?_
    refine lv_iload hx hb dL_law_620 (lv_at hl 5 rfl) ?_
    refine q_iconst hx hb dL_law_622 ?_
    refine q_iadd hx hb dL_law_623 ?_
    refine q_sld (j := 6 * t + 1) hx hb hX hbl hbA hS (by omega) ep0 dL_law_624 ?_
    refine q_backi [0] [1, 2] (br := [u_613, [(oa, aJ cy 1 (g))]]) hP hD hS hA (va_runV (As := [.int (qI (p0))]) (rest := []) ⟨hx, hb, hml, hown, hg⟩ (c_X8_settleFrom_no1 l D cy mo mz msv mtx mmo mif mmg mtn mie mme mrd mas T hz HZ len tx th _ gT.1 hM9 p0 (by omega) (by omega) _) (cv_L_112 hg rfl rfl ⟨(Nat.le_of_ble_eq_true rfl), (Nat.le_of_ble_eq_true rfl)⟩) ⟨q_blind, va_recv hK (fl_blk hP 0 rfl) (ci := 8) (q0 := 0) rfl hfsM, q_preM _ hK hN hP hD [0] (by decide) rfl⟩ rfl rfl hl.1 rfl (lv_room (Nat.le_of_ble_eq_true rfl)) dL_law_625 ⟨(by show _ + 0 ≤ 601024; omega), (by show _ + 0 ≤ 7293034; omega)⟩) rfl rfl (by decide) (fun r_625 u_625 H locs h_625 hP hD hS => ?_)
    have hP : va_P D vwCl [u_613, [(oa, aJ cy 1 (g))], u_625].flatten H := hP
    have hD : va_D A [u_613, [(oa, aJ cy 1 (g))], u_625].flatten := hD
    obtain ⟨fs_625, hfs_625⟩ := MW_at h_625
    have gk9 : gOk (T) := gT.1
    refine lv_istore (lv' := [(6, .int (r_625)), (5, .int (qI (1))), (0, .ref (b)), (1, .ref (x)), (2, .ref (mo)), (3, .ref (oa)), (4, .int (qI (((6 * t : Nat) : Int))))]) hx hb dL_law_628 hl (by decide) rfl (fun ls hl => ?_)
    refine lv_aload_n hx hb dL_law_630 rfl (lv_at hl 4 rfl) ?_
    refine q_backi [2] [0, 1] (br := [u_613, [(oa, aJ cy 1 (g))]]) hP hD hS hA (va_runV (As := []) (rest := []) ⟨hx, hb, hml, hown, hg⟩ (c_X8_thrown l D cy mo mz msv mtx mmo mif mmg mtn mie mme mrd mas T hz HZ len tx 1 _ gk9 h_625 _) (cv_L_85 hg rfl rfl ⟨(Nat.le_of_ble_eq_true rfl), (Nat.le_of_ble_eq_true rfl)⟩) ⟨q_blind, va_recv hK (fl_blk hP 2 rfl) (ci := 8) (q0 := 0) rfl hfs_625, q_preM _ hK hN hP hD [2] (by decide) rfl⟩ rfl rfl hl.1 rfl (lv_room (Nat.le_of_ble_eq_true rfl)) dL_law_631 ⟨(by show _ + 0 ≤ 601024; omega), (by show _ + 0 ≤ 7293034; omega)⟩) rfl rfl (by decide) (fun r_631 u_631 H locs h_631 hP hD hS => ?_)
    have hP : va_P D vwCl [u_613, [(oa, aJ cy 1 (g))], u_631].flatten H := hP
    have hD : va_D A [u_613, [(oa, aJ cy 1 (g))], u_631].flatten := hD
    obtain ⟨rfl, h_631⟩ := h_631
    refine lv_iload hx hb dL_law_634 (lv_at hl 1 rfl) ?_
    refine q_icmp_eq (tgt := 641) hx hb dL_law_636 (by decide) (by omega) (fun c_636 => ?_) (fun c_636 => ?_)
    · skip
      refine lv_iload hx hb dL_law_641 (lv_at hl 1 rfl) ?_
      refine q_if_ne (tgt := 658) hx hb dL_law_643 (by decide) (by omega) (fun c_643 => ?_) (fun c_643 => ?_)
      · skip
        refine lv_goto (tgt := 1420) hx hb dL_law_658 (by decide) ?_
        have hP := fl_sub (bs' := [u_613, u_631, [(oa, aJ cy 1 (g))]]) hP [0, 2, 1] rfl
        have hD := fl_subD (bs' := [u_613, u_631, [(oa, aJ cy 1 (g))]]) hD [0, 2, 1] (by decide) rfl
        exact kk T hz HZ len tx 1 _ _ _ _ _ _ ⟨⟨la, lv9, ls9, fa, xh, xs, la2, lv92, ls92, fb, fw, bu, ta, rc, re, gb, oc, oe, rs, rc2, re2, gb2, oc2, oe2, rs2, rr, ad, h_613⟩, ⟨mz, msv, mtx, mmo, mif, mmg, mtn, mie, mme, mrd, mas, h_631⟩, gT, hHG, (by omega)⟩ hP hD hS (lv_sub hl [2, 3, 4, 5, 6] rfl)
      · skip
        exact absurd c_643 (by decide)
    · skip
      exact absurd c_636 (by decide)

set_option maxRecDepth 100000 in
set_option maxHeartbeats 4000000 in
theorem lw_append {p : Program} {l : Launch} {e : Env} {s : State} {m : MethodId} {below : List Frame} {meth : Method} {c : Code} {b L : Nat} {sc9 : Nat → Int32} {D : va_G} {cy : Nat → ClassId} {A : Nat → Prop} {Q : State → Prop} (hlt9 : l.stackTraces = false) (B9 : lwB p s m c b L sc9 D cy A) {x mo oa t : Nat} (ht9 : 6 * t + 6 ≤ L) {T : LSt} {hz : Nat} {HZ : Nat → LSt} {len : Nat} {tx : Nat → Int} {th : Int} {W9 M9 : va_W} {g : Nat → Int64} {cells slots : Nat} (hr9 : cells ≤ 1000 ∧ slots ≤ 8000) (hI9 : lwI cy x mo T hz HZ len tx th W9 M9) {H : Heap} {locs : List Loc} {ls : Array Slot} (hP : va_P D vwCl [W9, M9, [(oa, aJ cy 1 g)]].flatten H) (hD : va_D A [W9, M9, [(oa, aJ cy 1 g)]].flatten) (hS : va_S A s.heap H locs) (hl : lv_has ls 9 (lwL b x mo oa t)) (kk : lwK p l e s m below meth c b D cy A Q x mo oa t cells slots) : W p l e room_1 s m #[Value.ref b] below meth c H locs cells slots Q (F0 m 661 ls []) := by
  obtain ⟨hx, hb, hml, hown, hg, hX, hbl, hbA, hA, hK, hN, hEx9, hNc9, hL9⟩ := B9
  obtain ⟨⟨la, lv9, ls9, fa, xh, xs, la2, lv92, ls92, fb, fw, bu, ta, rc, re, gb, oc, oe, rs, rc2, re2, gb2, oc2, oe2, rs2, rr, ad, hC9⟩, ⟨mz, msv, mtx, mmo, mif, mmg, mtn, mie, mme, mrd, mas, hM9⟩, gT, hHG, hln9⟩ := hI9
  have gT3 := gT.2
  have gN16 : lN9 T ≤ 16 := gT.1.2.2.1.1
  obtain ⟨fsC, hfsC⟩ := CW_at hC9
  obtain ⟨fsM, hfsM⟩ := MW_at hM9
  have hl : lv_has ls 9 [(0, .ref (b)), (1, .ref (x)), (2, .ref (mo)), (3, .ref (oa)), (4, .int (qI (((6 * t : Nat) : Int))))] := hl
  obtain ⟨p0, ep0⟩ : ∃ z : Int, (sc9 (6 * t + 1)).toInt = z := ⟨_, rfl⟩
  have r0 : -2147483648 ≤ p0 ∧ p0 < 2147483648 := by rw [← ep0]; exact ⟨Int32.le_toInt _, Int32.toInt_lt _⟩
  by_cases cA9 : 33 ≤ p0 ∧ p0 ≤ 126
  · skip
    by_cases cB9 : len < 60
    · skip
      refine lv_aload_n hx hb dL_law_661 rfl (lv_at hl 1 rfl) ?_
      refine lv_aload_n hx hb dL_law_662 rfl (lv_at hl 0 rfl) ?_
      refine lv_iload hx hb dL_law_663 (lv_at hl 4 rfl) ?_
      refine q_iconst hx hb dL_law_665 ?_
      refine q_iadd hx hb dL_law_666 ?_
      refine q_sld (j := 6 * t + 1) hx hb hX hbl hbA hS (by omega) ep0 dL_law_667 ?_
      refine lv_aload_n hx hb dL_law_668 rfl (lv_at hl 3 rfl) ?_
      refine q_backiX (mc := 0) (ms := 0) [0, 2] [1] (br := [M9]) hP hD hS hA (vx_runSW (As := [.ref (x), .int (qI (p0)), .ref (oa)]) (rest := []) ⟨hx, hb, hml, hown, hg⟩ (c_L_append l D cy x la lv9 ls9 fa xh xs la2 lv92 ls92 fb fw bu ta rc re gb oc oe rs rc2 re2 gb2 oc2 oe2 rs2 rr ad T hz HZ len tx _ gT.1 hC9 oa _ p0 (by omega) (by omega) _) (csW_L_113 hg rfl rfl ⟨(Nat.le_of_ble_eq_true rfl), (Nat.le_of_ble_eq_true rfl)⟩) ⟨q_blind, q_preM [.ref (x), .int (qI (p0)), .ref (oa)] hK hN hP hD [0, 2] (by decide) rfl⟩ rfl rfl hl.1 rfl (lv_room (Nat.le_of_ble_eq_true rfl)) dL_law_669 ⟨(by show cells + 0 ≤ 601024; omega), (by show slots + 0 ≤ 7293034; omega)⟩) rfl rfl (by decide) (fun r_669 u_669 H locs h_669 hP hD hS => ?_)
      obtain ⟨rfl, h_669⟩ := h_669
      have hP : va_P D vwCl [M9, u_669, [(oa, aJ cy 1 (qu (g) 0 ((qI (((len + 1 : Nat) : Int))).toInt64)))]].flatten H := hP
      have hD : va_D A [M9, u_669, [(oa, aJ cy 1 (qu (g) 0 ((qI (((len + 1 : Nat) : Int))).toInt64)))]].flatten := hD
      refine lv_istore (lv' := [(5, .int (qI (0))), (0, .ref (b)), (1, .ref (x)), (2, .ref (mo)), (3, .ref (oa)), (4, .int (qI (((6 * t : Nat) : Int))))]) hx hb dL_law_672 hl (by decide) rfl (fun ls hl => ?_)
      refine lv_aload_n hx hb dL_law_674 rfl (lv_at hl 3 rfl) ?_
      refine lv_aload_n hx hb dL_law_675 rfl (lv_at hl 1 rfl) ?_
      refine lv_iload hx hb dL_law_676 (lv_at hl 5 rfl) ?_
      refine q_iconst hx hb dL_law_678 ?_
      refine q_iadd hx hb dL_law_679 ?_
      refine q_sld (j := 6 * t + 1) hx hb hX hbl hbA hS (by omega) ep0 dL_law_680 ?_
      refine q_backi [0] [1, 2] (br := [u_669, [(oa, aJ cy 1 (qu (g) 0 ((qI (((len + 1 : Nat) : Int))).toInt64)))]]) hP hD hS hA (va_runV (As := [.int (qI (p0))]) (rest := []) ⟨hx, hb, hml, hown, hg⟩ (c_X8_append l D cy mo mz msv mtx mmo mif mmg mtn mie mme mrd mas T hz HZ len tx th _ gT.1 hM9 p0 (by omega) (by omega) _) (cv_L_115 hg rfl rfl ⟨(Nat.le_of_ble_eq_true rfl), (Nat.le_of_ble_eq_true rfl)⟩) ⟨q_blind, va_recv hK (fl_blk hP 0 rfl) (ci := 8) (q0 := 0) rfl hfsM, q_preM _ hK hN hP hD [0] (by decide) rfl⟩ rfl rfl hl.1 rfl (lv_room (Nat.le_of_ble_eq_true rfl)) dL_law_681 ⟨(by show _ + 0 ≤ 601024; omega), (by show _ + 0 ≤ 7293034; omega)⟩) rfl rfl (by decide) (fun r_681 u_681 H locs h_681 hP hD hS => ?_)
      have hP : va_P D vwCl [u_669, [(oa, aJ cy 1 (qu (g) 0 ((qI (((len + 1 : Nat) : Int))).toInt64)))], u_681].flatten H := hP
      have hD : va_D A [u_669, [(oa, aJ cy 1 (qu (g) 0 ((qI (((len + 1 : Nat) : Int))).toInt64)))], u_681].flatten := hD
      obtain ⟨rfl, h_681⟩ := h_681
      obtain ⟨fs_681, hfs_681⟩ := MW_at h_681
      have gk9 : gOk (T) := gT.1
      refine lv_istore (lv' := [(6, .int (qI ((len + 1 : Nat) : Int))), (5, .int (qI (0))), (0, .ref (b)), (1, .ref (x)), (2, .ref (mo)), (3, .ref (oa)), (4, .int (qI (((6 * t : Nat) : Int))))]) hx hb dL_law_684 hl (by decide) rfl (fun ls hl => ?_)
      refine lv_aload_n hx hb dL_law_686 rfl (lv_at hl 4 rfl) ?_
      refine q_backi [2] [0, 1] (br := [u_669, [(oa, aJ cy 1 (qu (g) 0 ((qI (((len + 1 : Nat) : Int))).toInt64)))]]) hP hD hS hA (va_runV (As := []) (rest := []) ⟨hx, hb, hml, hown, hg⟩ (c_X8_thrown l D cy mo mz msv mtx mmo mif mmg mtn mie mme mrd mas T hz HZ (len + 1) (qu tx len p0) 0 _ gk9 h_681 _) (cv_L_85 hg rfl rfl ⟨(Nat.le_of_ble_eq_true rfl), (Nat.le_of_ble_eq_true rfl)⟩) ⟨q_blind, va_recv hK (fl_blk hP 2 rfl) (ci := 8) (q0 := 0) rfl hfs_681, q_preM _ hK hN hP hD [2] (by decide) rfl⟩ rfl rfl hl.1 rfl (lv_room (Nat.le_of_ble_eq_true rfl)) dL_law_687 ⟨(by show _ + 0 ≤ 601024; omega), (by show _ + 0 ≤ 7293034; omega)⟩) rfl rfl (by decide) (fun r_687 u_687 H locs h_687 hP hD hS => ?_)
      have hP : va_P D vwCl [u_669, [(oa, aJ cy 1 (qu (g) 0 ((qI (((len + 1 : Nat) : Int))).toInt64)))], u_687].flatten H := hP
      have hD : va_D A [u_669, [(oa, aJ cy 1 (qu (g) 0 ((qI (((len + 1 : Nat) : Int))).toInt64)))], u_687].flatten := hD
      obtain ⟨rfl, h_687⟩ := h_687
      refine lv_iload hx hb dL_law_690 (lv_at hl 1 rfl) ?_
      refine q_icmp_eq (tgt := 697) hx hb dL_law_692 (by decide) (by omega) (fun c_692 => ?_) (fun c_692 => ?_)
      · skip
        refine lv_iload hx hb dL_law_697 (lv_at hl 1 rfl) ?_
        refine q_if_ne (tgt := 714) hx hb dL_law_699 (by decide) (by omega) (fun c_699 => ?_) (fun c_699 => ?_)
        · skip
          exact absurd c_699 (by decide)
        · skip
          refine lv_aload_n hx hb dL_law_702 rfl (lv_at hl 5 rfl) ?_
          refine q_iconst hx hb dL_law_703 ?_
          refine q_laldW (j := 0) (v := (qI (((len + 1 : Nat) : Int))).toInt64) hx hb hK (fl_blk hP 1 rfl) 0 rfl (by omega) (qu_s _ _ _) dL_law_704 ?_
          refine lv_iload hx hb dL_law_705 (lv_at hl 0 rfl) ?_
          refine lv_i2l hx hb dL_law_707 rfl ?_
          refine q_lcmp0 hx hb dL_law_708 ?_
          refine q_if_eq (tgt := 714) hx hb dL_law_709 (by decide) (by omega) (fun c_709 => ?_) (fun c_709 => ?_)
          · skip
            refine lv_goto (tgt := 1420) hx hb dL_law_714 (by decide) ?_
            have hP := fl_sub (bs' := [u_669, u_687, [(oa, aJ cy 1 (qu (g) 0 ((qI (((len + 1 : Nat) : Int))).toInt64)))]]) hP [0, 2, 1] rfl
            have hD := fl_subD (bs' := [u_669, u_687, [(oa, aJ cy 1 (qu (g) 0 ((qI (((len + 1 : Nat) : Int))).toInt64)))]]) hD [0, 2, 1] (by decide) rfl
            refine W.widen (k := cells + 1) (n := slots + 6) (by omega) (by omega) ?_
            exact kk T hz HZ (len + 1) (qu tx len p0) 0 _ _ _ _ _ _ ⟨⟨la, lv9, ls9, fa, xh, xs, la2, lv92, ls92, fb, fw, bu, ta, rc, re, gb, oc, oe, rs, rc2, re2, gb2, oc2, oe2, rs2, rr, ad, h_669⟩, ⟨mz, msv, mtx, mmo, mif, mmg, mtn, mie, mme, mrd, mas, h_687⟩, ⟨gT.1, gT3⟩, hHG, (by omega)⟩ hP hD hS (lv_sub hl [2, 3, 4, 5, 6] rfl)
          · skip
            exact absurd c_709 (by decide)
      · skip
        exact absurd c_692 (by decide)
    · skip
      refine lv_aload_n hx hb dL_law_661 rfl (lv_at hl 1 rfl) ?_
      refine lv_aload_n hx hb dL_law_662 rfl (lv_at hl 0 rfl) ?_
      refine lv_iload hx hb dL_law_663 (lv_at hl 4 rfl) ?_
      refine q_iconst hx hb dL_law_665 ?_
      refine q_iadd hx hb dL_law_666 ?_
      refine q_sld (j := 6 * t + 1) hx hb hX hbl hbA hS (by omega) ep0 dL_law_667 ?_
      refine lv_aload_n hx hb dL_law_668 rfl (lv_at hl 3 rfl) ?_
      refine q_backiX (mc := 1) (ms := 6) [0, 2] [1] (br := [M9]) hP hD hS hA (vx_runSW (As := [.ref (x), .int (qI (p0)), .ref (oa)]) (rest := []) ⟨hx, hb, hml, hown, hg⟩ (c_L_append_no3 l hlt9 D cy x la lv9 ls9 fa xh xs la2 lv92 ls92 fb fw bu ta rc re gb oc oe rs rc2 re2 gb2 oc2 oe2 rs2 rr ad T hz HZ len tx _ gT.1 hC9 oa _ p0 (by omega) (by omega) (by omega) _) (csW_L_113 hg rfl rfl ⟨(Nat.le_of_ble_eq_true rfl), (Nat.le_of_ble_eq_true rfl)⟩) ⟨q_blindW, fun U hU hU9 => ⟨rfl, (q_preM [.ref (x), .int (qI (p0)), .ref (oa)] hK hN hP hD [0, 2] (by decide) rfl U hU hU9).2, hEx9.step hU9 (by rw [hU]; exact hS.2.1) (fl_free hD hS hA [0, 2] rfl), hNc9.moved hU9.alike⟩⟩ rfl rfl hl.1 rfl (lv_room (Nat.le_of_ble_eq_true rfl)) dL_law_669 ⟨(by show cells + 1 ≤ 601024; omega), (by show slots + 6 ≤ 7293034; omega)⟩) rfl rfl (by decide) (fun r_669 u_669 H locs h_669 hP hD hS => ?_)
      obtain ⟨rfl, h_669⟩ := h_669
      have hP : va_P D vwCl [M9, u_669, [(oa, aJ cy 1 (g))]].flatten H := hP
      have hD : va_D A [M9, u_669, [(oa, aJ cy 1 (g))]].flatten := hD
      refine lv_istore (lv' := [(5, .int (qI (2))), (0, .ref (b)), (1, .ref (x)), (2, .ref (mo)), (3, .ref (oa)), (4, .int (qI (((6 * t : Nat) : Int))))]) hx hb dL_law_672 hl (by decide) rfl (fun ls hl => ?_)
      refine lv_aload_n hx hb dL_law_674 rfl (lv_at hl 3 rfl) ?_
      refine lv_aload_n hx hb dL_law_675 rfl (lv_at hl 1 rfl) ?_
      refine lv_iload hx hb dL_law_676 (lv_at hl 5 rfl) ?_
      refine q_iconst hx hb dL_law_678 ?_
      refine q_iadd hx hb dL_law_679 ?_
      refine q_sld (j := 6 * t + 1) hx hb hX hbl hbA hS (by omega) ep0 dL_law_680 ?_
      refine q_backi [0] [1, 2] (br := [u_669, [(oa, aJ cy 1 (g))]]) hP hD hS hA (va_runV (As := [.int (qI (p0))]) (rest := []) ⟨hx, hb, hml, hown, hg⟩ (c_X8_append_no2 l D cy mo mz msv mtx mmo mif mmg mtn mie mme mrd mas T hz HZ len tx th _ gT.1 hM9 p0 (by omega) (by omega) (by omega) _) (cv_L_115 hg rfl rfl ⟨(Nat.le_of_ble_eq_true rfl), (Nat.le_of_ble_eq_true rfl)⟩) ⟨q_blind, va_recv hK (fl_blk hP 0 rfl) (ci := 8) (q0 := 0) rfl hfsM, q_preM _ hK hN hP hD [0] (by decide) rfl⟩ rfl rfl hl.1 rfl (lv_room (Nat.le_of_ble_eq_true rfl)) dL_law_681 ⟨(by show _ + 0 ≤ 601024; omega), (by show _ + 0 ≤ 7293034; omega)⟩) rfl rfl (by decide) (fun r_681 u_681 H locs h_681 hP hD hS => ?_)
      have hP : va_P D vwCl [u_669, [(oa, aJ cy 1 (g))], u_681].flatten H := hP
      have hD : va_D A [u_669, [(oa, aJ cy 1 (g))], u_681].flatten := hD
      obtain ⟨fs_681, hfs_681⟩ := MW_at h_681
      have gk9 : gOk (T) := gT.1
      refine lv_istore (lv' := [(6, .int (r_681)), (5, .int (qI (2))), (0, .ref (b)), (1, .ref (x)), (2, .ref (mo)), (3, .ref (oa)), (4, .int (qI (((6 * t : Nat) : Int))))]) hx hb dL_law_684 hl (by decide) rfl (fun ls hl => ?_)
      refine lv_aload_n hx hb dL_law_686 rfl (lv_at hl 4 rfl) ?_
      refine q_backi [2] [0, 1] (br := [u_669, [(oa, aJ cy 1 (g))]]) hP hD hS hA (va_runV (As := []) (rest := []) ⟨hx, hb, hml, hown, hg⟩ (c_X8_thrown l D cy mo mz msv mtx mmo mif mmg mtn mie mme mrd mas T hz HZ len tx 2 _ gk9 h_681 _) (cv_L_85 hg rfl rfl ⟨(Nat.le_of_ble_eq_true rfl), (Nat.le_of_ble_eq_true rfl)⟩) ⟨q_blind, va_recv hK (fl_blk hP 2 rfl) (ci := 8) (q0 := 0) rfl hfs_681, q_preM _ hK hN hP hD [2] (by decide) rfl⟩ rfl rfl hl.1 rfl (lv_room (Nat.le_of_ble_eq_true rfl)) dL_law_687 ⟨(by show _ + 0 ≤ 601024; omega), (by show _ + 0 ≤ 7293034; omega)⟩) rfl rfl (by decide) (fun r_687 u_687 H locs h_687 hP hD hS => ?_)
      have hP : va_P D vwCl [u_669, [(oa, aJ cy 1 (g))], u_687].flatten H := hP
      have hD : va_D A [u_669, [(oa, aJ cy 1 (g))], u_687].flatten := hD
      obtain ⟨rfl, h_687⟩ := h_687
      refine lv_iload hx hb dL_law_690 (lv_at hl 1 rfl) ?_
      refine q_icmp_eq (tgt := 697) hx hb dL_law_692 (by decide) (by omega) (fun c_692 => ?_) (fun c_692 => ?_)
      · skip
        refine lv_iload hx hb dL_law_697 (lv_at hl 1 rfl) ?_
        refine q_if_ne (tgt := 714) hx hb dL_law_699 (by decide) (by omega) (fun c_699 => ?_) (fun c_699 => ?_)
        · skip
          refine lv_goto (tgt := 1420) hx hb dL_law_714 (by decide) ?_
          have hP := fl_sub (bs' := [u_669, u_687, [(oa, aJ cy 1 (g))]]) hP [0, 2, 1] rfl
          have hD := fl_subD (bs' := [u_669, u_687, [(oa, aJ cy 1 (g))]]) hD [0, 2, 1] (by decide) rfl
          exact kk T hz HZ len tx 2 _ _ _ _ _ _ ⟨⟨la, lv9, ls9, fa, xh, xs, la2, lv92, ls92, fb, fw, bu, ta, rc, re, gb, oc, oe, rs, rc2, re2, gb2, oc2, oe2, rs2, rr, ad, h_669⟩, ⟨mz, msv, mtx, mmo, mif, mmg, mtn, mie, mme, mrd, mas, h_687⟩, gT, hHG, (by omega)⟩ hP hD hS (lv_sub hl [2, 3, 4, 5, 6] rfl)
        · skip
          exact absurd c_699 (by decide)
      · skip
        exact absurd c_692 (by decide)
  · skip
    refine lv_aload_n hx hb dL_law_661 rfl (lv_at hl 1 rfl) ?_
    refine lv_aload_n hx hb dL_law_662 rfl (lv_at hl 0 rfl) ?_
    refine lv_iload hx hb dL_law_663 (lv_at hl 4 rfl) ?_
    refine q_iconst hx hb dL_law_665 ?_
    refine q_iadd hx hb dL_law_666 ?_
    refine q_sld (j := 6 * t + 1) hx hb hX hbl hbA hS (by omega) ep0 dL_law_667 ?_
    refine lv_aload_n hx hb dL_law_668 rfl (lv_at hl 3 rfl) ?_
    refine q_backiX (mc := 1) (ms := 6) [0, 2] [1] (br := [M9]) hP hD hS hA (vx_runSW (As := [.ref (x), .int (qI (p0)), .ref (oa)]) (rest := []) ⟨hx, hb, hml, hown, hg⟩ (c_L_append_no2 l hlt9 D cy x la lv9 ls9 fa xh xs la2 lv92 ls92 fb fw bu ta rc re gb oc oe rs rc2 re2 gb2 oc2 oe2 rs2 rr ad T hz HZ len tx _ gT.1 hC9 oa _ p0 (by omega) (by omega) _) (csW_L_113 hg rfl rfl ⟨(Nat.le_of_ble_eq_true rfl), (Nat.le_of_ble_eq_true rfl)⟩) ⟨q_blindW, fun U hU hU9 => ⟨rfl, (q_preM [.ref (x), .int (qI (p0)), .ref (oa)] hK hN hP hD [0, 2] (by decide) rfl U hU hU9).2, hEx9.step hU9 (by rw [hU]; exact hS.2.1) (fl_free hD hS hA [0, 2] rfl), hNc9.moved hU9.alike⟩⟩ rfl rfl hl.1 rfl (lv_room (Nat.le_of_ble_eq_true rfl)) dL_law_669 ⟨(by show cells + 1 ≤ 601024; omega), (by show slots + 6 ≤ 7293034; omega)⟩) rfl rfl (by decide) (fun r_669 u_669 H locs h_669 hP hD hS => ?_)
    obtain ⟨rfl, h_669⟩ := h_669
    have hP : va_P D vwCl [M9, u_669, [(oa, aJ cy 1 (g))]].flatten H := hP
    have hD : va_D A [M9, u_669, [(oa, aJ cy 1 (g))]].flatten := hD
    refine lv_istore (lv' := [(5, .int (qI (1))), (0, .ref (b)), (1, .ref (x)), (2, .ref (mo)), (3, .ref (oa)), (4, .int (qI (((6 * t : Nat) : Int))))]) hx hb dL_law_672 hl (by decide) rfl (fun ls hl => ?_)
    refine lv_aload_n hx hb dL_law_674 rfl (lv_at hl 3 rfl) ?_
    refine lv_aload_n hx hb dL_law_675 rfl (lv_at hl 1 rfl) ?_
    refine lv_iload hx hb dL_law_676 (lv_at hl 5 rfl) ?_
    refine q_iconst hx hb dL_law_678 ?_
    refine q_iadd hx hb dL_law_679 ?_
    refine q_sld (j := 6 * t + 1) hx hb hX hbl hbA hS (by omega) ep0 dL_law_680 ?_
    refine q_backi [0] [1, 2] (br := [u_669, [(oa, aJ cy 1 (g))]]) hP hD hS hA (va_runV (As := [.int (qI (p0))]) (rest := []) ⟨hx, hb, hml, hown, hg⟩ (c_X8_append_no1 l D cy mo mz msv mtx mmo mif mmg mtn mie mme mrd mas T hz HZ len tx th _ gT.1 hM9 p0 (by omega) (by omega) _) (cv_L_115 hg rfl rfl ⟨(Nat.le_of_ble_eq_true rfl), (Nat.le_of_ble_eq_true rfl)⟩) ⟨q_blind, va_recv hK (fl_blk hP 0 rfl) (ci := 8) (q0 := 0) rfl hfsM, q_preM _ hK hN hP hD [0] (by decide) rfl⟩ rfl rfl hl.1 rfl (lv_room (Nat.le_of_ble_eq_true rfl)) dL_law_681 ⟨(by show _ + 0 ≤ 601024; omega), (by show _ + 0 ≤ 7293034; omega)⟩) rfl rfl (by decide) (fun r_681 u_681 H locs h_681 hP hD hS => ?_)
    have hP : va_P D vwCl [u_669, [(oa, aJ cy 1 (g))], u_681].flatten H := hP
    have hD : va_D A [u_669, [(oa, aJ cy 1 (g))], u_681].flatten := hD
    obtain ⟨fs_681, hfs_681⟩ := MW_at h_681
    have gk9 : gOk (T) := gT.1
    refine lv_istore (lv' := [(6, .int (r_681)), (5, .int (qI (1))), (0, .ref (b)), (1, .ref (x)), (2, .ref (mo)), (3, .ref (oa)), (4, .int (qI (((6 * t : Nat) : Int))))]) hx hb dL_law_684 hl (by decide) rfl (fun ls hl => ?_)
    refine lv_aload_n hx hb dL_law_686 rfl (lv_at hl 4 rfl) ?_
    refine q_backi [2] [0, 1] (br := [u_669, [(oa, aJ cy 1 (g))]]) hP hD hS hA (va_runV (As := []) (rest := []) ⟨hx, hb, hml, hown, hg⟩ (c_X8_thrown l D cy mo mz msv mtx mmo mif mmg mtn mie mme mrd mas T hz HZ len tx 1 _ gk9 h_681 _) (cv_L_85 hg rfl rfl ⟨(Nat.le_of_ble_eq_true rfl), (Nat.le_of_ble_eq_true rfl)⟩) ⟨q_blind, va_recv hK (fl_blk hP 2 rfl) (ci := 8) (q0 := 0) rfl hfs_681, q_preM _ hK hN hP hD [2] (by decide) rfl⟩ rfl rfl hl.1 rfl (lv_room (Nat.le_of_ble_eq_true rfl)) dL_law_687 ⟨(by show _ + 0 ≤ 601024; omega), (by show _ + 0 ≤ 7293034; omega)⟩) rfl rfl (by decide) (fun r_687 u_687 H locs h_687 hP hD hS => ?_)
    have hP : va_P D vwCl [u_669, [(oa, aJ cy 1 (g))], u_687].flatten H := hP
    have hD : va_D A [u_669, [(oa, aJ cy 1 (g))], u_687].flatten := hD
    obtain ⟨rfl, h_687⟩ := h_687
    refine lv_iload hx hb dL_law_690 (lv_at hl 1 rfl) ?_
    refine q_icmp_eq (tgt := 697) hx hb dL_law_692 (by decide) (by omega) (fun c_692 => ?_) (fun c_692 => ?_)
    · skip
      refine lv_iload hx hb dL_law_697 (lv_at hl 1 rfl) ?_
      refine q_if_ne (tgt := 714) hx hb dL_law_699 (by decide) (by omega) (fun c_699 => ?_) (fun c_699 => ?_)
      · skip
        refine lv_goto (tgt := 1420) hx hb dL_law_714 (by decide) ?_
        have hP := fl_sub (bs' := [u_669, u_687, [(oa, aJ cy 1 (g))]]) hP [0, 2, 1] rfl
        have hD := fl_subD (bs' := [u_669, u_687, [(oa, aJ cy 1 (g))]]) hD [0, 2, 1] (by decide) rfl
        exact kk T hz HZ len tx 1 _ _ _ _ _ _ ⟨⟨la, lv9, ls9, fa, xh, xs, la2, lv92, ls92, fb, fw, bu, ta, rc, re, gb, oc, oe, rs, rc2, re2, gb2, oc2, oe2, rs2, rr, ad, h_669⟩, ⟨mz, msv, mtx, mmo, mif, mmg, mtn, mie, mme, mrd, mas, h_687⟩, gT, hHG, (by omega)⟩ hP hD hS (lv_sub hl [2, 3, 4, 5, 6] rfl)
      · skip
        exact absurd c_699 (by decide)
    · skip
      exact absurd c_692 (by decide)

set_option maxRecDepth 100000 in
set_option maxHeartbeats 4000000 in
theorem lw_clearBuffer {p : Program} {l : Launch} {e : Env} {s : State} {m : MethodId} {below : List Frame} {meth : Method} {c : Code} {b L : Nat} {sc9 : Nat → Int32} {D : va_G} {cy : Nat → ClassId} {A : Nat → Prop} {Q : State → Prop} (hlt9 : l.stackTraces = false) (B9 : lwB p s m c b L sc9 D cy A) {x mo oa t : Nat} (ht9 : 6 * t + 6 ≤ L) {T : LSt} {hz : Nat} {HZ : Nat → LSt} {len : Nat} {tx : Nat → Int} {th : Int} {W9 M9 : va_W} {g : Nat → Int64} {cells slots : Nat} (hr9 : cells ≤ 1000 ∧ slots ≤ 8000) (hI9 : lwI cy x mo T hz HZ len tx th W9 M9) {H : Heap} {locs : List Loc} {ls : Array Slot} (hP : va_P D vwCl [W9, M9, [(oa, aJ cy 1 g)]].flatten H) (hD : va_D A [W9, M9, [(oa, aJ cy 1 g)]].flatten) (hS : va_S A s.heap H locs) (hl : lv_has ls 9 (lwL b x mo oa t)) (kk : lwK p l e s m below meth c b D cy A Q x mo oa t cells slots) : W p l e room_1 s m #[Value.ref b] below meth c H locs cells slots Q (F0 m 717 ls []) := by
  obtain ⟨hx, hb, hml, hown, hg, hX, hbl, hbA, hA, hK, hN, hEx9, hNc9, hL9⟩ := B9
  obtain ⟨⟨la, lv9, ls9, fa, xh, xs, la2, lv92, ls92, fb, fw, bu, ta, rc, re, gb, oc, oe, rs, rc2, re2, gb2, oc2, oe2, rs2, rr, ad, hC9⟩, ⟨mz, msv, mtx, mmo, mif, mmg, mtn, mie, mme, mrd, mas, hM9⟩, gT, hHG, hln9⟩ := hI9
  have gT3 := gT.2
  have gN16 : lN9 T ≤ 16 := gT.1.2.2.1.1
  obtain ⟨fsC, hfsC⟩ := CW_at hC9
  obtain ⟨fsM, hfsM⟩ := MW_at hM9
  have hl : lv_has ls 9 [(0, .ref (b)), (1, .ref (x)), (2, .ref (mo)), (3, .ref (oa)), (4, .int (qI (((6 * t : Nat) : Int))))] := hl
  refine lv_aload_n hx hb dL_law_717 rfl (lv_at hl 1 rfl) ?_
  refine q_backi [0] [1, 2] (br := [M9, [(oa, aJ cy 1 (g))]]) hP hD hS hA (va_runV (As := []) (rest := []) ⟨hx, hb, hml, hown, hg⟩ (c_X7_clearBuffer l D cy x la lv9 ls9 fa xh xs la2 lv92 ls92 fb fw bu ta rc re gb oc oe rs rc2 re2 gb2 oc2 oe2 rs2 rr ad T hz HZ len tx _ gT.1 hC9  _) (cv_L_116 hg rfl rfl ⟨(Nat.le_of_ble_eq_true rfl), (Nat.le_of_ble_eq_true rfl)⟩) ⟨q_blind, va_recv hK (fl_blk hP 0 rfl) (ci := 7) (q0 := 0) rfl hfsC, q_preM _ hK hN hP hD [0] (by decide) rfl⟩ rfl rfl hl.1 rfl (lv_room (Nat.le_of_ble_eq_true rfl)) dL_law_718 ⟨(by show _ + 0 ≤ 601024; omega), (by show _ + 0 ≤ 7293034; omega)⟩) rfl rfl (by decide) (fun r_718 u_718 H locs h_718 hP hD hS => ?_)
  have hP : va_P D vwCl [M9, [(oa, aJ cy 1 (g))], u_718].flatten H := hP
  have hD : va_D A [M9, [(oa, aJ cy 1 (g))], u_718].flatten := hD
  obtain ⟨rfl, h_718⟩ := h_718
  refine lv_aload_n hx hb dL_law_721 rfl (lv_at hl 2 rfl) ?_
  refine q_backi [0] [1, 2] (br := [[(oa, aJ cy 1 (g))], u_718]) hP hD hS hA (va_runV (As := []) (rest := [.int (qI (len : Int))]) ⟨hx, hb, hml, hown, hg⟩ (c_X8_clearBuffer l D cy mo mz msv mtx mmo mif mmg mtn mie mme mrd mas T hz HZ len tx th _ gT.1 hM9  _) (cv_L_119 hg rfl rfl ⟨(Nat.le_of_ble_eq_true rfl), (Nat.le_of_ble_eq_true rfl)⟩) ⟨q_blind, va_recv hK (fl_blk hP 0 rfl) (ci := 8) (q0 := 0) rfl hfsM, q_preM _ hK hN hP hD [0] (by decide) rfl⟩ rfl rfl hl.1 rfl (lv_room (Nat.le_of_ble_eq_true rfl)) dL_law_722 ⟨(by show _ + 0 ≤ 601024; omega), (by show _ + 0 ≤ 7293034; omega)⟩) rfl rfl (by decide) (fun r_722 u_722 H locs h_722 hP hD hS => ?_)
  have hP : va_P D vwCl [[(oa, aJ cy 1 (g))], u_718, u_722].flatten H := hP
  have hD : va_D A [[(oa, aJ cy 1 (g))], u_718, u_722].flatten := hD
  obtain ⟨rfl, h_722⟩ := h_722
  refine q_icmp_eq (tgt := 1420) hx hb dL_law_725 (by decide) (by omega) (fun c_725 => ?_) (fun c_725 => ?_)
  · skip
    have hP := fl_sub (bs' := [u_718, u_722, [(oa, aJ cy 1 (g))]]) hP [1, 2, 0] rfl
    have hD := fl_subD (bs' := [u_718, u_722, [(oa, aJ cy 1 (g))]]) hD [1, 2, 0] (by decide) rfl
    refine W.widen (k := cells + 1) (n := slots + 6) (by omega) (by omega) ?_
    exact kk T hz HZ 0 tx 0 _ _ _ _ _ _ ⟨⟨la, lv9, ls9, fa, xh, xs, la2, lv92, ls92, fb, fw, bu, ta, rc, re, gb, oc, oe, rs, rc2, re2, gb2, oc2, oe2, rs2, rr, ad, h_718⟩, ⟨mz, msv, mtx, mmo, mif, mmg, mtn, mie, mme, mrd, mas, h_722⟩, ⟨gT.1, gT3⟩, hHG, (by omega)⟩ hP hD hS (lv_sub hl [0, 1, 2, 3, 4] rfl)
  · skip
    refine q_iconst hx hb dL_law_728 ?_
    exact absurd rfl c_725

set_option maxRecDepth 100000 in
set_option maxHeartbeats 4000000 in
theorem lw_firstError {p : Program} {l : Launch} {e : Env} {s : State} {m : MethodId} {below : List Frame} {meth : Method} {c : Code} {b L : Nat} {sc9 : Nat → Int32} {D : va_G} {cy : Nat → ClassId} {A : Nat → Prop} {Q : State → Prop} (hlt9 : l.stackTraces = false) (B9 : lwB p s m c b L sc9 D cy A) {x mo oa t : Nat} (ht9 : 6 * t + 6 ≤ L) {T : LSt} {hz : Nat} {HZ : Nat → LSt} {len : Nat} {tx : Nat → Int} {th : Int} {W9 M9 : va_W} {g : Nat → Int64} {cells slots : Nat} (hr9 : cells ≤ 1000 ∧ slots ≤ 8000) (hI9 : lwI cy x mo T hz HZ len tx th W9 M9) {H : Heap} {locs : List Loc} {ls : Array Slot} (hP : va_P D vwCl [W9, M9, [(oa, aJ cy 1 g)]].flatten H) (hD : va_D A [W9, M9, [(oa, aJ cy 1 g)]].flatten) (hS : va_S A s.heap H locs) (hl : lv_has ls 9 (lwL b x mo oa t)) (kk : lwK p l e s m below meth c b D cy A Q x mo oa t cells slots) : W p l e room_1 s m #[Value.ref b] below meth c H locs cells slots Q (F0 m 730 ls []) := by
  obtain ⟨hx, hb, hml, hown, hg, hX, hbl, hbA, hA, hK, hN, hEx9, hNc9, hL9⟩ := B9
  obtain ⟨⟨la, lv9, ls9, fa, xh, xs, la2, lv92, ls92, fb, fw, bu, ta, rc, re, gb, oc, oe, rs, rc2, re2, gb2, oc2, oe2, rs2, rr, ad, hC9⟩, ⟨mz, msv, mtx, mmo, mif, mmg, mtn, mie, mme, mrd, mas, hM9⟩, gT, hHG, hln9⟩ := hI9
  have gT3 := gT.2
  have gN16 : lN9 T ≤ 16 := gT.1.2.2.1.1
  obtain ⟨fsC, hfsC⟩ := CW_at hC9
  obtain ⟨fsM, hfsM⟩ := MW_at hM9
  have hl : lv_has ls 9 [(0, .ref (b)), (1, .ref (x)), (2, .ref (mo)), (3, .ref (oa)), (4, .int (qI (((6 * t : Nat) : Int))))] := hl
  refine lv_aload_n hx hb dL_law_730 rfl (lv_at hl 1 rfl) ?_
  refine q_backi [0] [1, 2] (br := [M9, [(oa, aJ cy 1 (g))]]) hP hD hS hA (va_runV (As := []) (rest := []) ⟨hx, hb, hml, hown, hg⟩ (c_X7_firstError l D cy x la lv9 ls9 fa xh xs la2 lv92 ls92 fb fw bu ta rc re gb oc oe rs rc2 re2 gb2 oc2 oe2 rs2 rr ad T hz HZ len tx _ gT.1 hC9  _) (cv_L_120 hg rfl rfl ⟨(Nat.le_of_ble_eq_true rfl), (Nat.le_of_ble_eq_true rfl)⟩) ⟨q_blind, va_recv hK (fl_blk hP 0 rfl) (ci := 7) (q0 := 0) rfl hfsC, q_preM _ hK hN hP hD [0] (by decide) rfl⟩ rfl rfl hl.1 rfl (lv_room (Nat.le_of_ble_eq_true rfl)) dL_law_731 ⟨(by show _ + 0 ≤ 601024; omega), (by show _ + 0 ≤ 7293034; omega)⟩) rfl rfl (by decide) (fun r_731 u_731 H locs h_731 hP hD hS => ?_)
  have hP : va_P D vwCl [M9, [(oa, aJ cy 1 (g))], u_731].flatten H := hP
  have hD : va_D A [M9, [(oa, aJ cy 1 (g))], u_731].flatten := hD
  obtain ⟨z_731, rfl, he_731, h_731⟩ := h_731
  have hz9 : z_731 ≤ len := he_731.1
  refine lv_aload_n hx hb dL_law_734 rfl (lv_at hl 2 rfl) ?_
  refine q_backi [0] [1, 2] (br := [[(oa, aJ cy 1 (g))], u_731]) hP hD hS hA (va_runV (As := []) (rest := [.int (qI (((z_731 : Nat) : Int)))]) ⟨hx, hb, hml, hown, hg⟩ (c_X8_firstError l D cy mo mz msv mtx mmo mif mmg mtn mie mme mrd mas T hz HZ len tx th _ gT.1 hM9  _) (cv_L_123 hg rfl rfl ⟨(Nat.le_of_ble_eq_true rfl), (Nat.le_of_ble_eq_true rfl)⟩) ⟨q_blind, va_recv hK (fl_blk hP 0 rfl) (ci := 8) (q0 := 0) rfl hfsM, q_preM _ hK hN hP hD [0] (by decide) rfl⟩ rfl rfl hl.1 rfl (lv_room (Nat.le_of_ble_eq_true rfl)) dL_law_735 ⟨(by show _ + 0 ≤ 601024; omega), (by show _ + 0 ≤ 7293034; omega)⟩) rfl rfl (by decide) (fun r_735 u_735 H locs h_735 hP hD hS => ?_)
  have hP : va_P D vwCl [[(oa, aJ cy 1 (g))], u_731, u_735].flatten H := hP
  have hD : va_D A [[(oa, aJ cy 1 (g))], u_731, u_735].flatten := hD
  obtain ⟨z_735, rfl, he_735, h_735⟩ := h_735
  have ez : z_735 = z_731 := he_735.uniq he_731
  subst ez
  refine q_icmp_eq (tgt := 1420) hx hb dL_law_738 (by decide) (by omega) (fun c_738 => ?_) (fun c_738 => ?_)
  · skip
    have hP := fl_sub (bs' := [u_731, u_735, [(oa, aJ cy 1 (g))]]) hP [1, 2, 0] rfl
    have hD := fl_subD (bs' := [u_731, u_735, [(oa, aJ cy 1 (g))]]) hD [1, 2, 0] (by decide) rfl
    refine W.widen (k := cells + 1) (n := slots + 6) (by omega) (by omega) ?_
    exact kk T hz HZ len tx 0 _ _ _ _ _ _ ⟨⟨la, lv9, ls9, fa, xh, xs, la2, lv92, ls92, fb, fw, bu, ta, rc, re, gb, oc, oe, rs, rc2, re2, gb2, oc2, oe2, rs2, rr, ad, h_731⟩, ⟨mz, msv, mtx, mmo, mif, mmg, mtn, mie, mme, mrd, mas, h_735⟩, ⟨gT.1, gT3⟩, hHG, (by omega)⟩ hP hD hS (lv_sub hl [0, 1, 2, 3, 4] rfl)
  · skip
    refine q_iconst hx hb dL_law_741 ?_
    exact absurd rfl c_738

set_option maxRecDepth 100000 in
set_option maxHeartbeats 4000000 in
theorem lw_load {p : Program} {l : Launch} {e : Env} {s : State} {m : MethodId} {below : List Frame} {meth : Method} {c : Code} {b L : Nat} {sc9 : Nat → Int32} {D : va_G} {cy : Nat → ClassId} {A : Nat → Prop} {Q : State → Prop} (hlt9 : l.stackTraces = false) (B9 : lwB p s m c b L sc9 D cy A) {x mo oa t : Nat} (ht9 : 6 * t + 6 ≤ L) {T : LSt} {hz : Nat} {HZ : Nat → LSt} {len : Nat} {tx : Nat → Int} {th : Int} {W9 M9 : va_W} {g : Nat → Int64} {cells slots : Nat} (hr9 : cells ≤ 1000 ∧ slots ≤ 8000) (hI9 : lwI cy x mo T hz HZ len tx th W9 M9) {H : Heap} {locs : List Loc} {ls : Array Slot} (hP : va_P D vwCl [W9, M9, [(oa, aJ cy 1 g)]].flatten H) (hD : va_D A [W9, M9, [(oa, aJ cy 1 g)]].flatten) (hS : va_S A s.heap H locs) (hl : lv_has ls 9 (lwL b x mo oa t)) (kk : lwK p l e s m below meth c b D cy A Q x mo oa t cells slots) : W p l e room_1 s m #[Value.ref b] below meth c H locs cells slots Q (F0 m 743 ls []) := by
  obtain ⟨hx, hb, hml, hown, hg, hX, hbl, hbA, hA, hK, hN, hEx9, hNc9, hL9⟩ := B9
  obtain ⟨⟨la, lv9, ls9, fa, xh, xs, la2, lv92, ls92, fb, fw, bu, ta, rc, re, gb, oc, oe, rs, rc2, re2, gb2, oc2, oe2, rs2, rr, ad, hC9⟩, ⟨mz, msv, mtx, mmo, mif, mmg, mtn, mie, mme, mrd, mas, hM9⟩, gT, hHG, hln9⟩ := hI9
  have gT3 := gT.2
  have gN16 : lN9 T ≤ 16 := gT.1.2.2.1.1
  obtain ⟨fsC, hfsC⟩ := CW_at hC9
  obtain ⟨fsM, hfsM⟩ := MW_at hM9
  have hl : lv_has ls 9 [(0, .ref (b)), (1, .ref (x)), (2, .ref (mo)), (3, .ref (oa)), (4, .int (qI (((6 * t : Nat) : Int))))] := hl
  by_cases cA9 : rdFull tx len
  · skip
    by_cases cB9 : lN9 T + ldK tx len ≤ 16
    · skip
      refine lv_aload_n hx hb dL_law_743 rfl (lv_at hl 1 rfl) ?_
      refine lv_aload_n hx hb dL_law_744 rfl (lv_at hl 3 rfl) ?_
      refine q_backiX (mc := 0) (ms := 0) [0, 2] [1] (br := [M9]) hP hD hS hA (vx_runSW (As := [.ref (x), .ref (oa)]) (rest := []) ⟨hx, hb, hml, hown, hg⟩ (c_L_load l D cy x la lv9 ls9 fa xh xs la2 lv92 ls92 fb fw bu ta rc re gb oc oe rs rc2 re2 gb2 oc2 oe2 rs2 rr ad T hz HZ len tx _ gT.1 hC9 oa _ cA9 cB9 _) (csW_L_124 hg rfl rfl ⟨(Nat.le_of_ble_eq_true rfl), (Nat.le_of_ble_eq_true rfl)⟩) ⟨q_blind, q_preM [.ref (x), .ref (oa)] hK hN hP hD [0, 2] (by decide) rfl⟩ rfl rfl hl.1 rfl (lv_room (Nat.le_of_ble_eq_true rfl)) dL_law_745 ⟨(by show cells + 0 ≤ 601024; omega), (by show slots + 0 ≤ 7293034; omega)⟩) rfl rfl (by decide) (fun r_745 u_745 H locs h_745 hP hD hS => ?_)
      obtain ⟨rfl, h_745⟩ := h_745
      have hP : va_P D vwCl [M9, u_745, [(oa, aJ cy 1 (qu (g) 0 ((qI (((lN9 T + ldK tx len : Nat) : Int))).toInt64)))]].flatten H := hP
      have hD : va_D A [M9, u_745, [(oa, aJ cy 1 (qu (g) 0 ((qI (((lN9 T + ldK tx len : Nat) : Int))).toInt64)))]].flatten := hD
      refine lv_istore (lv' := [(5, .int (qI (0))), (0, .ref (b)), (1, .ref (x)), (2, .ref (mo)), (3, .ref (oa)), (4, .int (qI (((6 * t : Nat) : Int))))]) hx hb dL_law_748 hl (by decide) rfl (fun ls hl => ?_)
      refine lv_aload_n hx hb dL_law_750 rfl (lv_at hl 3 rfl) ?_
      refine q_backi [0] [1, 2] (br := [u_745, [(oa, aJ cy 1 (qu (g) 0 ((qI (((lN9 T + ldK tx len : Nat) : Int))).toInt64)))]]) hP hD hS hA (va_runV (As := []) (rest := []) ⟨hx, hb, hml, hown, hg⟩ (c_X8_load l D cy mo mz msv mtx mmo mif mmg mtn mie mme mrd mas T hz HZ len tx th _ gT.1 hM9 cA9 cB9 _) (cv_L_127 hg rfl rfl ⟨(Nat.le_of_ble_eq_true rfl), (Nat.le_of_ble_eq_true rfl)⟩) ⟨q_blind, va_recv hK (fl_blk hP 0 rfl) (ci := 8) (q0 := 0) rfl hfsM, q_preM _ hK hN hP hD [0] (by decide) rfl⟩ rfl rfl hl.1 rfl (lv_room (Nat.le_of_ble_eq_true rfl)) dL_law_751 ⟨(by show _ + 0 ≤ 601024; omega), (by show _ + 0 ≤ 7293034; omega)⟩) rfl rfl (by decide) (fun r_751 u_751 H locs h_751 hP hD hS => ?_)
      have hP : va_P D vwCl [u_745, [(oa, aJ cy 1 (qu (g) 0 ((qI (((lN9 T + ldK tx len : Nat) : Int))).toInt64)))], u_751].flatten H := hP
      have hD : va_D A [u_745, [(oa, aJ cy 1 (qu (g) 0 ((qI (((lN9 T + ldK tx len : Nat) : Int))).toInt64)))], u_751].flatten := hD
      obtain ⟨rfl, h_751⟩ := h_751
      obtain ⟨fs_751, hfs_751⟩ := MW_at h_751
      have gk9 : gOk ((seT (ldC T (ldG tx len) (ldK tx len)))) := seT_gOk (ldC_ok gT.1 cB9 (ld_ok cA9))
      refine lv_istore (lv' := [(6, .int (qI ((lN9 T + ldK tx len : Nat) : Int))), (5, .int (qI (0))), (0, .ref (b)), (1, .ref (x)), (2, .ref (mo)), (3, .ref (oa)), (4, .int (qI (((6 * t : Nat) : Int))))]) hx hb dL_law_754 hl (by decide) rfl (fun ls hl => ?_)
      refine lv_aload_n hx hb dL_law_756 rfl (lv_at hl 4 rfl) ?_
      refine q_backi [2] [0, 1] (br := [u_745, [(oa, aJ cy 1 (qu (g) 0 ((qI (((lN9 T + ldK tx len : Nat) : Int))).toInt64)))]]) hP hD hS hA (va_runV (As := []) (rest := []) ⟨hx, hb, hml, hown, hg⟩ (c_X8_thrown l D cy mo mz msv mtx mmo mif mmg mtn mie mme mrd mas (seT (ldC T (ldG tx len) (ldK tx len))) (min (hz + 1) 8) (pushH T HZ) 0 tx 0 _ gk9 h_751 _) (cv_L_85 hg rfl rfl ⟨(Nat.le_of_ble_eq_true rfl), (Nat.le_of_ble_eq_true rfl)⟩) ⟨q_blind, va_recv hK (fl_blk hP 2 rfl) (ci := 8) (q0 := 0) rfl hfs_751, q_preM _ hK hN hP hD [2] (by decide) rfl⟩ rfl rfl hl.1 rfl (lv_room (Nat.le_of_ble_eq_true rfl)) dL_law_757 ⟨(by show _ + 0 ≤ 601024; omega), (by show _ + 0 ≤ 7293034; omega)⟩) rfl rfl (by decide) (fun r_757 u_757 H locs h_757 hP hD hS => ?_)
      have hP : va_P D vwCl [u_745, [(oa, aJ cy 1 (qu (g) 0 ((qI (((lN9 T + ldK tx len : Nat) : Int))).toInt64)))], u_757].flatten H := hP
      have hD : va_D A [u_745, [(oa, aJ cy 1 (qu (g) 0 ((qI (((lN9 T + ldK tx len : Nat) : Int))).toInt64)))], u_757].flatten := hD
      obtain ⟨rfl, h_757⟩ := h_757
      refine lv_iload hx hb dL_law_760 (lv_at hl 1 rfl) ?_
      refine q_icmp_eq (tgt := 767) hx hb dL_law_762 (by decide) (by omega) (fun c_762 => ?_) (fun c_762 => ?_)
      · skip
        refine lv_iload hx hb dL_law_767 (lv_at hl 1 rfl) ?_
        refine q_if_ne (tgt := 784) hx hb dL_law_769 (by decide) (by omega) (fun c_769 => ?_) (fun c_769 => ?_)
        · skip
          exact absurd c_769 (by decide)
        · skip
          refine lv_aload_n hx hb dL_law_772 rfl (lv_at hl 5 rfl) ?_
          refine q_iconst hx hb dL_law_773 ?_
          refine q_laldW (j := 0) (v := (qI (((lN9 T + ldK tx len : Nat) : Int))).toInt64) hx hb hK (fl_blk hP 1 rfl) 0 rfl (by omega) (qu_s _ _ _) dL_law_774 ?_
          refine lv_iload hx hb dL_law_775 (lv_at hl 0 rfl) ?_
          refine lv_i2l hx hb dL_law_777 rfl ?_
          refine q_lcmp0 hx hb dL_law_778 ?_
          refine q_if_eq (tgt := 784) hx hb dL_law_779 (by decide) (by omega) (fun c_779 => ?_) (fun c_779 => ?_)
          · skip
            refine lv_goto (tgt := 1420) hx hb dL_law_784 (by decide) ?_
            have hP := fl_sub (bs' := [u_745, u_757, [(oa, aJ cy 1 (qu (g) 0 ((qI (((lN9 T + ldK tx len : Nat) : Int))).toInt64)))]]) hP [0, 2, 1] rfl
            have hD := fl_subD (bs' := [u_745, u_757, [(oa, aJ cy 1 (qu (g) 0 ((qI (((lN9 T + ldK tx len : Nat) : Int))).toInt64)))]]) hD [0, 2, 1] (by decide) rfl
            refine W.widen (k := cells + 1) (n := slots + 6) (by omega) (by omega) ?_
            exact kk (seT (ldC T (ldG tx len) (ldK tx len))) (min (hz + 1) 8) (pushH T HZ) 0 tx 0 _ _ _ _ _ _ ⟨⟨la, lv9, ls9, fa, xh, xs, la2, lv92, ls92, fb, fw, bu, ta, rc, re, gb, oc, oe, rs, rc2, re2, gb2, oc2, oe2, rs2, rr, ad, h_745⟩, ⟨mz, msv, mtx, mmo, mif, mmg, mtn, mie, mme, mrd, mas, h_757⟩, ⟨seT_gOk (ldC_ok gT.1 cB9 (ld_ok cA9)), gT3⟩, gK_push gT hHG, (by omega)⟩ hP hD hS (lv_sub hl [2, 3, 4, 5, 6] rfl)
          · skip
            exact absurd c_779 (by decide)
      · skip
        exact absurd c_762 (by decide)
    · skip
      refine lv_aload_n hx hb dL_law_743 rfl (lv_at hl 1 rfl) ?_
      refine lv_aload_n hx hb dL_law_744 rfl (lv_at hl 3 rfl) ?_
      refine q_backiX (mc := 1) (ms := 6) [0, 2] [1] (br := [M9]) hP hD hS hA (vx_runSW (As := [.ref (x), .ref (oa)]) (rest := []) ⟨hx, hb, hml, hown, hg⟩ (c_L_load_no3 l hlt9 D cy x la lv9 ls9 fa xh xs la2 lv92 ls92 fb fw bu ta rc re gb oc oe rs rc2 re2 gb2 oc2 oe2 rs2 rr ad T hz HZ len tx _ gT.1 hC9 oa _ cA9 cB9 _) (csW_L_124 hg rfl rfl ⟨(Nat.le_of_ble_eq_true rfl), (Nat.le_of_ble_eq_true rfl)⟩) ⟨q_blindW, fun U hU hU9 => ⟨rfl, (q_preM [.ref (x), .ref (oa)] hK hN hP hD [0, 2] (by decide) rfl U hU hU9).2, hEx9.step hU9 (by rw [hU]; exact hS.2.1) (fl_free hD hS hA [0, 2] rfl), hNc9.moved hU9.alike⟩⟩ rfl rfl hl.1 rfl (lv_room (Nat.le_of_ble_eq_true rfl)) dL_law_745 ⟨(by show cells + 1 ≤ 601024; omega), (by show slots + 6 ≤ 7293034; omega)⟩) rfl rfl (by decide) (fun r_745 u_745 H locs h_745 hP hD hS => ?_)
      obtain ⟨rfl, h_745⟩ := h_745
      have hP : va_P D vwCl [M9, u_745, [(oa, aJ cy 1 (g))]].flatten H := hP
      have hD : va_D A [M9, u_745, [(oa, aJ cy 1 (g))]].flatten := hD
      refine lv_istore (lv' := [(5, .int (qI (2))), (0, .ref (b)), (1, .ref (x)), (2, .ref (mo)), (3, .ref (oa)), (4, .int (qI (((6 * t : Nat) : Int))))]) hx hb dL_law_748 hl (by decide) rfl (fun ls hl => ?_)
      refine lv_aload_n hx hb dL_law_750 rfl (lv_at hl 3 rfl) ?_
      refine q_backi [0] [1, 2] (br := [u_745, [(oa, aJ cy 1 (g))]]) hP hD hS hA (va_runV (As := []) (rest := []) ⟨hx, hb, hml, hown, hg⟩ (c_X8_load_no2 l D cy mo mz msv mtx mmo mif mmg mtn mie mme mrd mas T hz HZ len tx th _ gT.1 hM9 cA9 cB9 _) (cv_L_127 hg rfl rfl ⟨(Nat.le_of_ble_eq_true rfl), (Nat.le_of_ble_eq_true rfl)⟩) ⟨q_blind, va_recv hK (fl_blk hP 0 rfl) (ci := 8) (q0 := 0) rfl hfsM, q_preM _ hK hN hP hD [0] (by decide) rfl⟩ rfl rfl hl.1 rfl (lv_room (Nat.le_of_ble_eq_true rfl)) dL_law_751 ⟨(by show _ + 0 ≤ 601024; omega), (by show _ + 0 ≤ 7293034; omega)⟩) rfl rfl (by decide) (fun r_751 u_751 H locs h_751 hP hD hS => ?_)
      have hP : va_P D vwCl [u_745, [(oa, aJ cy 1 (g))], u_751].flatten H := hP
      have hD : va_D A [u_745, [(oa, aJ cy 1 (g))], u_751].flatten := hD
      obtain ⟨fs_751, hfs_751⟩ := MW_at h_751
      have gk9 : gOk (T) := gT.1
      refine lv_istore (lv' := [(6, .int (r_751)), (5, .int (qI (2))), (0, .ref (b)), (1, .ref (x)), (2, .ref (mo)), (3, .ref (oa)), (4, .int (qI (((6 * t : Nat) : Int))))]) hx hb dL_law_754 hl (by decide) rfl (fun ls hl => ?_)
      refine lv_aload_n hx hb dL_law_756 rfl (lv_at hl 4 rfl) ?_
      refine q_backi [2] [0, 1] (br := [u_745, [(oa, aJ cy 1 (g))]]) hP hD hS hA (va_runV (As := []) (rest := []) ⟨hx, hb, hml, hown, hg⟩ (c_X8_thrown l D cy mo mz msv mtx mmo mif mmg mtn mie mme mrd mas T hz HZ len tx 2 _ gk9 h_751 _) (cv_L_85 hg rfl rfl ⟨(Nat.le_of_ble_eq_true rfl), (Nat.le_of_ble_eq_true rfl)⟩) ⟨q_blind, va_recv hK (fl_blk hP 2 rfl) (ci := 8) (q0 := 0) rfl hfs_751, q_preM _ hK hN hP hD [2] (by decide) rfl⟩ rfl rfl hl.1 rfl (lv_room (Nat.le_of_ble_eq_true rfl)) dL_law_757 ⟨(by show _ + 0 ≤ 601024; omega), (by show _ + 0 ≤ 7293034; omega)⟩) rfl rfl (by decide) (fun r_757 u_757 H locs h_757 hP hD hS => ?_)
      have hP : va_P D vwCl [u_745, [(oa, aJ cy 1 (g))], u_757].flatten H := hP
      have hD : va_D A [u_745, [(oa, aJ cy 1 (g))], u_757].flatten := hD
      obtain ⟨rfl, h_757⟩ := h_757
      refine lv_iload hx hb dL_law_760 (lv_at hl 1 rfl) ?_
      refine q_icmp_eq (tgt := 767) hx hb dL_law_762 (by decide) (by omega) (fun c_762 => ?_) (fun c_762 => ?_)
      · skip
        refine lv_iload hx hb dL_law_767 (lv_at hl 1 rfl) ?_
        refine q_if_ne (tgt := 784) hx hb dL_law_769 (by decide) (by omega) (fun c_769 => ?_) (fun c_769 => ?_)
        · skip
          refine lv_goto (tgt := 1420) hx hb dL_law_784 (by decide) ?_
          have hP := fl_sub (bs' := [u_745, u_757, [(oa, aJ cy 1 (g))]]) hP [0, 2, 1] rfl
          have hD := fl_subD (bs' := [u_745, u_757, [(oa, aJ cy 1 (g))]]) hD [0, 2, 1] (by decide) rfl
          exact kk T hz HZ len tx 2 _ _ _ _ _ _ ⟨⟨la, lv9, ls9, fa, xh, xs, la2, lv92, ls92, fb, fw, bu, ta, rc, re, gb, oc, oe, rs, rc2, re2, gb2, oc2, oe2, rs2, rr, ad, h_745⟩, ⟨mz, msv, mtx, mmo, mif, mmg, mtn, mie, mme, mrd, mas, h_757⟩, gT, hHG, (by omega)⟩ hP hD hS (lv_sub hl [2, 3, 4, 5, 6] rfl)
        · skip
          exact absurd c_769 (by decide)
      · skip
        exact absurd c_762 (by decide)
  · skip
    refine lv_aload_n hx hb dL_law_743 rfl (lv_at hl 1 rfl) ?_
    refine lv_aload_n hx hb dL_law_744 rfl (lv_at hl 3 rfl) ?_
    refine q_backiX (mc := 1) (ms := 6) [0, 2] [1] (br := [M9]) hP hD hS hA (vx_runSW (As := [.ref (x), .ref (oa)]) (rest := []) ⟨hx, hb, hml, hown, hg⟩ (c_L_load_no2 l hlt9 D cy x la lv9 ls9 fa xh xs la2 lv92 ls92 fb fw bu ta rc re gb oc oe rs rc2 re2 gb2 oc2 oe2 rs2 rr ad T hz HZ len tx _ gT.1 hC9 oa _ cA9 _) (csW_L_124 hg rfl rfl ⟨(Nat.le_of_ble_eq_true rfl), (Nat.le_of_ble_eq_true rfl)⟩) ⟨q_blindW, fun U hU hU9 => ⟨rfl, (q_preM [.ref (x), .ref (oa)] hK hN hP hD [0, 2] (by decide) rfl U hU hU9).2, hEx9.step hU9 (by rw [hU]; exact hS.2.1) (fl_free hD hS hA [0, 2] rfl), hNc9.moved hU9.alike⟩⟩ rfl rfl hl.1 rfl (lv_room (Nat.le_of_ble_eq_true rfl)) dL_law_745 ⟨(by show cells + 1 ≤ 601024; omega), (by show slots + 6 ≤ 7293034; omega)⟩) rfl rfl (by decide) (fun r_745 u_745 H locs h_745 hP hD hS => ?_)
    obtain ⟨rfl, h_745⟩ := h_745
    have hP : va_P D vwCl [M9, u_745, [(oa, aJ cy 1 (g))]].flatten H := hP
    have hD : va_D A [M9, u_745, [(oa, aJ cy 1 (g))]].flatten := hD
    refine lv_istore (lv' := [(5, .int (qI (1))), (0, .ref (b)), (1, .ref (x)), (2, .ref (mo)), (3, .ref (oa)), (4, .int (qI (((6 * t : Nat) : Int))))]) hx hb dL_law_748 hl (by decide) rfl (fun ls hl => ?_)
    refine lv_aload_n hx hb dL_law_750 rfl (lv_at hl 3 rfl) ?_
    refine q_backi [0] [1, 2] (br := [u_745, [(oa, aJ cy 1 (g))]]) hP hD hS hA (va_runV (As := []) (rest := []) ⟨hx, hb, hml, hown, hg⟩ (c_X8_load_no1 l D cy mo mz msv mtx mmo mif mmg mtn mie mme mrd mas T hz HZ len tx th _ gT.1 hM9 cA9 _) (cv_L_127 hg rfl rfl ⟨(Nat.le_of_ble_eq_true rfl), (Nat.le_of_ble_eq_true rfl)⟩) ⟨q_blind, va_recv hK (fl_blk hP 0 rfl) (ci := 8) (q0 := 0) rfl hfsM, q_preM _ hK hN hP hD [0] (by decide) rfl⟩ rfl rfl hl.1 rfl (lv_room (Nat.le_of_ble_eq_true rfl)) dL_law_751 ⟨(by show _ + 0 ≤ 601024; omega), (by show _ + 0 ≤ 7293034; omega)⟩) rfl rfl (by decide) (fun r_751 u_751 H locs h_751 hP hD hS => ?_)
    have hP : va_P D vwCl [u_745, [(oa, aJ cy 1 (g))], u_751].flatten H := hP
    have hD : va_D A [u_745, [(oa, aJ cy 1 (g))], u_751].flatten := hD
    obtain ⟨fs_751, hfs_751⟩ := MW_at h_751
    have gk9 : gOk (T) := gT.1
    refine lv_istore (lv' := [(6, .int (r_751)), (5, .int (qI (1))), (0, .ref (b)), (1, .ref (x)), (2, .ref (mo)), (3, .ref (oa)), (4, .int (qI (((6 * t : Nat) : Int))))]) hx hb dL_law_754 hl (by decide) rfl (fun ls hl => ?_)
    refine lv_aload_n hx hb dL_law_756 rfl (lv_at hl 4 rfl) ?_
    refine q_backi [2] [0, 1] (br := [u_745, [(oa, aJ cy 1 (g))]]) hP hD hS hA (va_runV (As := []) (rest := []) ⟨hx, hb, hml, hown, hg⟩ (c_X8_thrown l D cy mo mz msv mtx mmo mif mmg mtn mie mme mrd mas T hz HZ len tx 1 _ gk9 h_751 _) (cv_L_85 hg rfl rfl ⟨(Nat.le_of_ble_eq_true rfl), (Nat.le_of_ble_eq_true rfl)⟩) ⟨q_blind, va_recv hK (fl_blk hP 2 rfl) (ci := 8) (q0 := 0) rfl hfs_751, q_preM _ hK hN hP hD [2] (by decide) rfl⟩ rfl rfl hl.1 rfl (lv_room (Nat.le_of_ble_eq_true rfl)) dL_law_757 ⟨(by show _ + 0 ≤ 601024; omega), (by show _ + 0 ≤ 7293034; omega)⟩) rfl rfl (by decide) (fun r_757 u_757 H locs h_757 hP hD hS => ?_)
    have hP : va_P D vwCl [u_745, [(oa, aJ cy 1 (g))], u_757].flatten H := hP
    have hD : va_D A [u_745, [(oa, aJ cy 1 (g))], u_757].flatten := hD
    obtain ⟨rfl, h_757⟩ := h_757
    refine lv_iload hx hb dL_law_760 (lv_at hl 1 rfl) ?_
    refine q_icmp_eq (tgt := 767) hx hb dL_law_762 (by decide) (by omega) (fun c_762 => ?_) (fun c_762 => ?_)
    · skip
      refine lv_iload hx hb dL_law_767 (lv_at hl 1 rfl) ?_
      refine q_if_ne (tgt := 784) hx hb dL_law_769 (by decide) (by omega) (fun c_769 => ?_) (fun c_769 => ?_)
      · skip
        refine lv_goto (tgt := 1420) hx hb dL_law_784 (by decide) ?_
        have hP := fl_sub (bs' := [u_745, u_757, [(oa, aJ cy 1 (g))]]) hP [0, 2, 1] rfl
        have hD := fl_subD (bs' := [u_745, u_757, [(oa, aJ cy 1 (g))]]) hD [0, 2, 1] (by decide) rfl
        exact kk T hz HZ len tx 1 _ _ _ _ _ _ ⟨⟨la, lv9, ls9, fa, xh, xs, la2, lv92, ls92, fb, fw, bu, ta, rc, re, gb, oc, oe, rs, rc2, re2, gb2, oc2, oe2, rs2, rr, ad, h_745⟩, ⟨mz, msv, mtx, mmo, mif, mmg, mtn, mie, mme, mrd, mas, h_757⟩, gT, hHG, (by omega)⟩ hP hD hS (lv_sub hl [2, 3, 4, 5, 6] rfl)
      · skip
        exact absurd c_769 (by decide)
    · skip
      exact absurd c_762 (by decide)

set_option maxRecDepth 100000 in
set_option maxHeartbeats 4000000 in
theorem lw_undo {p : Program} {l : Launch} {e : Env} {s : State} {m : MethodId} {below : List Frame} {meth : Method} {c : Code} {b L : Nat} {sc9 : Nat → Int32} {D : va_G} {cy : Nat → ClassId} {A : Nat → Prop} {Q : State → Prop} (hlt9 : l.stackTraces = false) (B9 : lwB p s m c b L sc9 D cy A) {x mo oa t : Nat} (ht9 : 6 * t + 6 ≤ L) {T : LSt} {hz : Nat} {HZ : Nat → LSt} {len : Nat} {tx : Nat → Int} {th : Int} {W9 M9 : va_W} {g : Nat → Int64} {cells slots : Nat} (hr9 : cells ≤ 1000 ∧ slots ≤ 8000) (hI9 : lwI cy x mo T hz HZ len tx th W9 M9) {H : Heap} {locs : List Loc} {ls : Array Slot} (hP : va_P D vwCl [W9, M9, [(oa, aJ cy 1 g)]].flatten H) (hD : va_D A [W9, M9, [(oa, aJ cy 1 g)]].flatten) (hS : va_S A s.heap H locs) (hl : lv_has ls 9 (lwL b x mo oa t)) (kk : lwK p l e s m below meth c b D cy A Q x mo oa t cells slots) : W p l e room_1 s m #[Value.ref b] below meth c H locs cells slots Q (F0 m 787 ls []) := by
  obtain ⟨hx, hb, hml, hown, hg, hX, hbl, hbA, hA, hK, hN, hEx9, hNc9, hL9⟩ := B9
  obtain ⟨⟨la, lv9, ls9, fa, xh, xs, la2, lv92, ls92, fb, fw, bu, ta, rc, re, gb, oc, oe, rs, rc2, re2, gb2, oc2, oe2, rs2, rr, ad, hC9⟩, ⟨mz, msv, mtx, mmo, mif, mmg, mtn, mie, mme, mrd, mas, hM9⟩, gT, hHG, hln9⟩ := hI9
  have gT3 := gT.2
  have gN16 : lN9 T ≤ 16 := gT.1.2.2.1.1
  obtain ⟨fsC, hfsC⟩ := CW_at hC9
  obtain ⟨fsM, hfsM⟩ := MW_at hM9
  have hl : lv_has ls 9 [(0, .ref (b)), (1, .ref (x)), (2, .ref (mo)), (3, .ref (oa)), (4, .int (qI (((6 * t : Nat) : Int))))] := hl
  by_cases cA9 : 1 ≤ hz
  · skip
    refine lv_aload_n hx hb dL_law_787 rfl (lv_at hl 1 rfl) ?_
    refine lv_aload_n hx hb dL_law_788 rfl (lv_at hl 3 rfl) ?_
    refine q_backiX (mc := 0) (ms := 0) [0, 2] [1] (br := [M9]) hP hD hS hA (vx_runSW (As := [.ref (x), .ref (oa)]) (rest := []) ⟨hx, hb, hml, hown, hg⟩ (c_L_undo l D cy x la lv9 ls9 fa xh xs la2 lv92 ls92 fb fw bu ta rc re gb oc oe rs rc2 re2 gb2 oc2 oe2 rs2 rr ad T hz HZ len tx _ gT.1 hC9 oa _ (by omega) (hHG 0 (by omega)).1 _) (csW_L_128 hg rfl rfl ⟨(Nat.le_of_ble_eq_true rfl), (Nat.le_of_ble_eq_true rfl)⟩) ⟨q_blind, q_preM [.ref (x), .ref (oa)] hK hN hP hD [0, 2] (by decide) rfl⟩ rfl rfl hl.1 rfl (lv_room (Nat.le_of_ble_eq_true rfl)) dL_law_789 ⟨(by show cells + 0 ≤ 601024; omega), (by show slots + 0 ≤ 7293034; omega)⟩) rfl rfl (by decide) (fun r_789 u_789 H locs h_789 hP hD hS => ?_)
    obtain ⟨rfl, h_789⟩ := h_789
    have hP : va_P D vwCl [M9, u_789, [(oa, aJ cy 1 (qu (g) 0 ((qI (((hz - 1 : Nat) : Int))).toInt64)))]].flatten H := hP
    have hD : va_D A [M9, u_789, [(oa, aJ cy 1 (qu (g) 0 ((qI (((hz - 1 : Nat) : Int))).toInt64)))]].flatten := hD
    refine lv_istore (lv' := [(5, .int (qI (0))), (0, .ref (b)), (1, .ref (x)), (2, .ref (mo)), (3, .ref (oa)), (4, .int (qI (((6 * t : Nat) : Int))))]) hx hb dL_law_792 hl (by decide) rfl (fun ls hl => ?_)
    refine lv_aload_n hx hb dL_law_794 rfl (lv_at hl 3 rfl) ?_
    refine q_backi [0] [1, 2] (br := [u_789, [(oa, aJ cy 1 (qu (g) 0 ((qI (((hz - 1 : Nat) : Int))).toInt64)))]]) hP hD hS hA (va_runV (As := []) (rest := []) ⟨hx, hb, hml, hown, hg⟩ (c_X8_undo l D cy mo mz msv mtx mmo mif mmg mtn mie mme mrd mas T hz HZ len tx th _ gT.1 hM9 (by omega) (hHG 0 (by omega)).1 _) (cv_L_130 hg rfl rfl ⟨(Nat.le_of_ble_eq_true rfl), (Nat.le_of_ble_eq_true rfl)⟩) ⟨q_blind, va_recv hK (fl_blk hP 0 rfl) (ci := 8) (q0 := 0) rfl hfsM, q_preM _ hK hN hP hD [0] (by decide) rfl⟩ rfl rfl hl.1 rfl (lv_room (Nat.le_of_ble_eq_true rfl)) dL_law_795 ⟨(by show _ + 0 ≤ 601024; omega), (by show _ + 0 ≤ 7293034; omega)⟩) rfl rfl (by decide) (fun r_795 u_795 H locs h_795 hP hD hS => ?_)
    have hP : va_P D vwCl [u_789, [(oa, aJ cy 1 (qu (g) 0 ((qI (((hz - 1 : Nat) : Int))).toInt64)))], u_795].flatten H := hP
    have hD : va_D A [u_789, [(oa, aJ cy 1 (qu (g) 0 ((qI (((hz - 1 : Nat) : Int))).toInt64)))], u_795].flatten := hD
    obtain ⟨rfl, h_795⟩ := h_795
    obtain ⟨fs_795, hfs_795⟩ := MW_at h_795
    have gk9 : gOk ((HZ 0)) := (hHG 0 (by omega)).1
    refine lv_istore (lv' := [(6, .int (qI ((hz - 1 : Nat) : Int))), (5, .int (qI (0))), (0, .ref (b)), (1, .ref (x)), (2, .ref (mo)), (3, .ref (oa)), (4, .int (qI (((6 * t : Nat) : Int))))]) hx hb dL_law_798 hl (by decide) rfl (fun ls hl => ?_)
    refine lv_aload_n hx hb dL_law_800 rfl (lv_at hl 4 rfl) ?_
    refine q_backi [2] [0, 1] (br := [u_789, [(oa, aJ cy 1 (qu (g) 0 ((qI (((hz - 1 : Nat) : Int))).toInt64)))]]) hP hD hS hA (va_runV (As := []) (rest := []) ⟨hx, hb, hml, hown, hg⟩ (c_X8_thrown l D cy mo mz msv mtx mmo mif mmg mtn mie mme mrd mas (HZ 0) (hz - 1) (fun i => HZ (i + 1)) len tx 0 _ gk9 h_795 _) (cv_L_85 hg rfl rfl ⟨(Nat.le_of_ble_eq_true rfl), (Nat.le_of_ble_eq_true rfl)⟩) ⟨q_blind, va_recv hK (fl_blk hP 2 rfl) (ci := 8) (q0 := 0) rfl hfs_795, q_preM _ hK hN hP hD [2] (by decide) rfl⟩ rfl rfl hl.1 rfl (lv_room (Nat.le_of_ble_eq_true rfl)) dL_law_801 ⟨(by show _ + 0 ≤ 601024; omega), (by show _ + 0 ≤ 7293034; omega)⟩) rfl rfl (by decide) (fun r_801 u_801 H locs h_801 hP hD hS => ?_)
    have hP : va_P D vwCl [u_789, [(oa, aJ cy 1 (qu (g) 0 ((qI (((hz - 1 : Nat) : Int))).toInt64)))], u_801].flatten H := hP
    have hD : va_D A [u_789, [(oa, aJ cy 1 (qu (g) 0 ((qI (((hz - 1 : Nat) : Int))).toInt64)))], u_801].flatten := hD
    obtain ⟨rfl, h_801⟩ := h_801
    refine lv_iload hx hb dL_law_804 (lv_at hl 1 rfl) ?_
    refine q_icmp_eq (tgt := 811) hx hb dL_law_806 (by decide) (by omega) (fun c_806 => ?_) (fun c_806 => ?_)
    · skip
      refine lv_iload hx hb dL_law_811 (lv_at hl 1 rfl) ?_
      refine q_if_ne (tgt := 828) hx hb dL_law_813 (by decide) (by omega) (fun c_813 => ?_) (fun c_813 => ?_)
      · skip
        exact absurd c_813 (by decide)
      · skip
        refine lv_aload_n hx hb dL_law_816 rfl (lv_at hl 5 rfl) ?_
        refine q_iconst hx hb dL_law_817 ?_
        refine q_laldW (j := 0) (v := (qI (((hz - 1 : Nat) : Int))).toInt64) hx hb hK (fl_blk hP 1 rfl) 0 rfl (by omega) (qu_s _ _ _) dL_law_818 ?_
        refine lv_iload hx hb dL_law_819 (lv_at hl 0 rfl) ?_
        refine lv_i2l hx hb dL_law_821 rfl ?_
        refine q_lcmp0 hx hb dL_law_822 ?_
        refine q_if_eq (tgt := 828) hx hb dL_law_823 (by decide) (by omega) (fun c_823 => ?_) (fun c_823 => ?_)
        · skip
          refine lv_goto (tgt := 1420) hx hb dL_law_828 (by decide) ?_
          have hP := fl_sub (bs' := [u_789, u_801, [(oa, aJ cy 1 (qu (g) 0 ((qI (((hz - 1 : Nat) : Int))).toInt64)))]]) hP [0, 2, 1] rfl
          have hD := fl_subD (bs' := [u_789, u_801, [(oa, aJ cy 1 (qu (g) 0 ((qI (((hz - 1 : Nat) : Int))).toInt64)))]]) hD [0, 2, 1] (by decide) rfl
          refine W.widen (k := cells + 1) (n := slots + 6) (by omega) (by omega) ?_
          exact kk (HZ 0) (hz - 1) (fun i => HZ (i + 1)) len tx 0 _ _ _ _ _ _ ⟨⟨la, lv9, ls9, fa, xh, xs, la2, lv92, ls92, fb, fw, bu, ta, rc, re, gb, oc, oe, rs, rc2, re2, gb2, oc2, oe2, rs2, rr, ad, h_789⟩, ⟨mz, msv, mtx, mmo, mif, mmg, mtn, mie, mme, mrd, mas, h_801⟩, ⟨(hHG 0 (by omega)).1, (hHG 0 (by omega)).2⟩, (fun i hi => hHG (i + 1) (by omega)), (by omega)⟩ hP hD hS (lv_sub hl [2, 3, 4, 5, 6] rfl)
        · skip
          exact absurd c_823 (by decide)
    · skip
      exact absurd c_806 (by decide)
  · skip
    refine lv_aload_n hx hb dL_law_787 rfl (lv_at hl 1 rfl) ?_
    refine lv_aload_n hx hb dL_law_788 rfl (lv_at hl 3 rfl) ?_
    refine q_backiX (mc := 1) (ms := 6) [0, 2] [1] (br := [M9]) hP hD hS hA (vx_runSW (As := [.ref (x), .ref (oa)]) (rest := []) ⟨hx, hb, hml, hown, hg⟩ (c_L_undo_no3 l hlt9 D cy x la lv9 ls9 fa xh xs la2 lv92 ls92 fb fw bu ta rc re gb oc oe rs rc2 re2 gb2 oc2 oe2 rs2 rr ad T hz HZ len tx _ gT.1 hC9 oa _ (by omega) _) (csW_L_128 hg rfl rfl ⟨(Nat.le_of_ble_eq_true rfl), (Nat.le_of_ble_eq_true rfl)⟩) ⟨q_blindW, fun U hU hU9 => ⟨rfl, (q_preM [.ref (x), .ref (oa)] hK hN hP hD [0, 2] (by decide) rfl U hU hU9).2, hEx9.step hU9 (by rw [hU]; exact hS.2.1) (fl_free hD hS hA [0, 2] rfl), hNc9.moved hU9.alike⟩⟩ rfl rfl hl.1 rfl (lv_room (Nat.le_of_ble_eq_true rfl)) dL_law_789 ⟨(by show cells + 1 ≤ 601024; omega), (by show slots + 6 ≤ 7293034; omega)⟩) rfl rfl (by decide) (fun r_789 u_789 H locs h_789 hP hD hS => ?_)
    obtain ⟨rfl, h_789⟩ := h_789
    have hP : va_P D vwCl [M9, u_789, [(oa, aJ cy 1 (g))]].flatten H := hP
    have hD : va_D A [M9, u_789, [(oa, aJ cy 1 (g))]].flatten := hD
    refine lv_istore (lv' := [(5, .int (qI (1))), (0, .ref (b)), (1, .ref (x)), (2, .ref (mo)), (3, .ref (oa)), (4, .int (qI (((6 * t : Nat) : Int))))]) hx hb dL_law_792 hl (by decide) rfl (fun ls hl => ?_)
    refine lv_aload_n hx hb dL_law_794 rfl (lv_at hl 3 rfl) ?_
    refine q_backi [0] [1, 2] (br := [u_789, [(oa, aJ cy 1 (g))]]) hP hD hS hA (va_runV (As := []) (rest := []) ⟨hx, hb, hml, hown, hg⟩ (c_X8_undo_no1 l D cy mo mz msv mtx mmo mif mmg mtn mie mme mrd mas T hz HZ len tx th _ gT.1 hM9 (by omega) _) (cv_L_130 hg rfl rfl ⟨(Nat.le_of_ble_eq_true rfl), (Nat.le_of_ble_eq_true rfl)⟩) ⟨q_blind, va_recv hK (fl_blk hP 0 rfl) (ci := 8) (q0 := 0) rfl hfsM, q_preM _ hK hN hP hD [0] (by decide) rfl⟩ rfl rfl hl.1 rfl (lv_room (Nat.le_of_ble_eq_true rfl)) dL_law_795 ⟨(by show _ + 0 ≤ 601024; omega), (by show _ + 0 ≤ 7293034; omega)⟩) rfl rfl (by decide) (fun r_795 u_795 H locs h_795 hP hD hS => ?_)
    have hP : va_P D vwCl [u_789, [(oa, aJ cy 1 (g))], u_795].flatten H := hP
    have hD : va_D A [u_789, [(oa, aJ cy 1 (g))], u_795].flatten := hD
    obtain ⟨fs_795, hfs_795⟩ := MW_at h_795
    have gk9 : gOk (T) := gT.1
    refine lv_istore (lv' := [(6, .int (r_795)), (5, .int (qI (1))), (0, .ref (b)), (1, .ref (x)), (2, .ref (mo)), (3, .ref (oa)), (4, .int (qI (((6 * t : Nat) : Int))))]) hx hb dL_law_798 hl (by decide) rfl (fun ls hl => ?_)
    refine lv_aload_n hx hb dL_law_800 rfl (lv_at hl 4 rfl) ?_
    refine q_backi [2] [0, 1] (br := [u_789, [(oa, aJ cy 1 (g))]]) hP hD hS hA (va_runV (As := []) (rest := []) ⟨hx, hb, hml, hown, hg⟩ (c_X8_thrown l D cy mo mz msv mtx mmo mif mmg mtn mie mme mrd mas T hz HZ len tx 1 _ gk9 h_795 _) (cv_L_85 hg rfl rfl ⟨(Nat.le_of_ble_eq_true rfl), (Nat.le_of_ble_eq_true rfl)⟩) ⟨q_blind, va_recv hK (fl_blk hP 2 rfl) (ci := 8) (q0 := 0) rfl hfs_795, q_preM _ hK hN hP hD [2] (by decide) rfl⟩ rfl rfl hl.1 rfl (lv_room (Nat.le_of_ble_eq_true rfl)) dL_law_801 ⟨(by show _ + 0 ≤ 601024; omega), (by show _ + 0 ≤ 7293034; omega)⟩) rfl rfl (by decide) (fun r_801 u_801 H locs h_801 hP hD hS => ?_)
    have hP : va_P D vwCl [u_789, [(oa, aJ cy 1 (g))], u_801].flatten H := hP
    have hD : va_D A [u_789, [(oa, aJ cy 1 (g))], u_801].flatten := hD
    obtain ⟨rfl, h_801⟩ := h_801
    refine lv_iload hx hb dL_law_804 (lv_at hl 1 rfl) ?_
    refine q_icmp_eq (tgt := 811) hx hb dL_law_806 (by decide) (by omega) (fun c_806 => ?_) (fun c_806 => ?_)
    · skip
      refine lv_iload hx hb dL_law_811 (lv_at hl 1 rfl) ?_
      refine q_if_ne (tgt := 828) hx hb dL_law_813 (by decide) (by omega) (fun c_813 => ?_) (fun c_813 => ?_)
      · skip
        refine lv_goto (tgt := 1420) hx hb dL_law_828 (by decide) ?_
        have hP := fl_sub (bs' := [u_789, u_801, [(oa, aJ cy 1 (g))]]) hP [0, 2, 1] rfl
        have hD := fl_subD (bs' := [u_789, u_801, [(oa, aJ cy 1 (g))]]) hD [0, 2, 1] (by decide) rfl
        exact kk T hz HZ len tx 1 _ _ _ _ _ _ ⟨⟨la, lv9, ls9, fa, xh, xs, la2, lv92, ls92, fb, fw, bu, ta, rc, re, gb, oc, oe, rs, rc2, re2, gb2, oc2, oe2, rs2, rr, ad, h_789⟩, ⟨mz, msv, mtx, mmo, mif, mmg, mtn, mie, mme, mrd, mas, h_801⟩, gT, hHG, (by omega)⟩ hP hD hS (lv_sub hl [2, 3, 4, 5, 6] rfl)
      · skip
        exact absurd c_813 (by decide)
    · skip
      exact absurd c_806 (by decide)

set_option maxRecDepth 100000 in
set_option maxHeartbeats 4000000 in
theorem lw_place {p : Program} {l : Launch} {e : Env} {s : State} {m : MethodId} {below : List Frame} {meth : Method} {c : Code} {b L : Nat} {sc9 : Nat → Int32} {D : va_G} {cy : Nat → ClassId} {A : Nat → Prop} {Q : State → Prop} (hlt9 : l.stackTraces = false) (B9 : lwB p s m c b L sc9 D cy A) {x mo oa t : Nat} (ht9 : 6 * t + 6 ≤ L) {T : LSt} {hz : Nat} {HZ : Nat → LSt} {len : Nat} {tx : Nat → Int} {th : Int} {W9 M9 : va_W} {g : Nat → Int64} {cells slots : Nat} (hr9 : cells ≤ 1000 ∧ slots ≤ 8000) (hI9 : lwI cy x mo T hz HZ len tx th W9 M9) {H : Heap} {locs : List Loc} {ls : Array Slot} (hP : va_P D vwCl [W9, M9, [(oa, aJ cy 1 g)]].flatten H) (hD : va_D A [W9, M9, [(oa, aJ cy 1 g)]].flatten) (hS : va_S A s.heap H locs) (hl : lv_has ls 9 (lwL b x mo oa t)) (kk : lwK p l e s m below meth c b D cy A Q x mo oa t cells slots) : W p l e room_1 s m #[Value.ref b] below meth c H locs cells slots Q (F0 m 831 ls []) := by
  obtain ⟨hx, hb, hml, hown, hg, hX, hbl, hbA, hA, hK, hN, hEx9, hNc9, hL9⟩ := B9
  obtain ⟨⟨la, lv9, ls9, fa, xh, xs, la2, lv92, ls92, fb, fw, bu, ta, rc, re, gb, oc, oe, rs, rc2, re2, gb2, oc2, oe2, rs2, rr, ad, hC9⟩, ⟨mz, msv, mtx, mmo, mif, mmg, mtn, mie, mme, mrd, mas, hM9⟩, gT, hHG, hln9⟩ := hI9
  have gT3 := gT.2
  have gN16 : lN9 T ≤ 16 := gT.1.2.2.1.1
  obtain ⟨fsC, hfsC⟩ := CW_at hC9
  obtain ⟨fsM, hfsM⟩ := MW_at hM9
  have hl : lv_has ls 9 [(0, .ref (b)), (1, .ref (x)), (2, .ref (mo)), (3, .ref (oa)), (4, .int (qI (((6 * t : Nat) : Int))))] := hl
  obtain ⟨p0, ep0⟩ : ∃ z : Int, (sc9 (6 * t + 1)).toInt = z := ⟨_, rfl⟩
  have r0 : -2147483648 ≤ p0 ∧ p0 < 2147483648 := by rw [← ep0]; exact ⟨Int32.le_toInt _, Int32.toInt_lt _⟩
  obtain ⟨p1, ep1⟩ : ∃ z : Int, (sc9 (6 * t + 2)).toInt = z := ⟨_, rfl⟩
  have r1 : -2147483648 ≤ p1 ∧ p1 < 2147483648 := by rw [← ep1]; exact ⟨Int32.le_toInt _, Int32.toInt_lt _⟩
  by_cases cA9 : 0 ≤ p0 ∧ p0 ≤ 9
  · skip
    by_cases cB9 : 0 ≤ p1 ∧ p1 ≤ 5
    · skip
      refine lv_aload_n hx hb dL_law_831 rfl (lv_at hl 1 rfl) ?_
      refine lv_aload_n hx hb dL_law_832 rfl (lv_at hl 0 rfl) ?_
      refine lv_iload hx hb dL_law_833 (lv_at hl 4 rfl) ?_
      refine q_iconst hx hb dL_law_835 ?_
      refine q_iadd hx hb dL_law_836 ?_
      refine q_sld (j := 6 * t + 1) hx hb hX hbl hbA hS (by omega) ep0 dL_law_837 ?_
      refine lv_aload_n hx hb dL_law_838 rfl (lv_at hl 0 rfl) ?_
      refine lv_iload hx hb dL_law_839 (lv_at hl 4 rfl) ?_
      refine q_iconst hx hb dL_law_841 ?_
      refine q_iadd hx hb dL_law_842 ?_
      refine q_sld (j := 6 * t + 2) hx hb hX hbl hbA hS (by omega) ep1 dL_law_843 ?_
      refine lv_aload_n hx hb dL_law_844 rfl (lv_at hl 3 rfl) ?_
      refine q_backiX (mc := 0) (ms := 0) [0, 2] [1] (br := [M9]) hP hD hS hA (vx_runSW (As := [.ref (x), .int (qI (p0)), .int (qI (p1)), .ref (oa)]) (rest := []) ⟨hx, hb, hml, hown, hg⟩ (c_L_place l D cy x la lv9 ls9 fa xh xs la2 lv92 ls92 fb fw bu ta rc re gb oc oe rs rc2 re2 gb2 oc2 oe2 rs2 rr ad T hz HZ len tx _ gT.1 hC9 oa _ p0 p1 p0.toNat (by omega) (by omega) _) (csW_L_131 hg rfl rfl ⟨(Nat.le_of_ble_eq_true rfl), (Nat.le_of_ble_eq_true rfl)⟩) ⟨q_blind, q_preM [.ref (x), .int (qI (p0)), .int (qI (p1)), .ref (oa)] hK hN hP hD [0, 2] (by decide) rfl⟩ rfl rfl hl.1 rfl (lv_room (Nat.le_of_ble_eq_true rfl)) dL_law_845 ⟨(by show cells + 0 ≤ 601024; omega), (by show slots + 0 ≤ 7293034; omega)⟩) rfl rfl (by decide) (fun r_845 u_845 H locs h_845 hP hD hS => ?_)
      obtain ⟨rfl, h_845⟩ := h_845
      have hP : va_P D vwCl [M9, u_845, [(oa, aJ cy 1 (qu (g) 0 ((qI (plT T p0.toNat p1)).toInt64)))]].flatten H := hP
      have hD : va_D A [M9, u_845, [(oa, aJ cy 1 (qu (g) 0 ((qI (plT T p0.toNat p1)).toInt64)))]].flatten := hD
      refine lv_istore (lv' := [(5, .int (qI (0))), (0, .ref (b)), (1, .ref (x)), (2, .ref (mo)), (3, .ref (oa)), (4, .int (qI (((6 * t : Nat) : Int))))]) hx hb dL_law_848 hl (by decide) rfl (fun ls hl => ?_)
      refine lv_aload_n hx hb dL_law_850 rfl (lv_at hl 3 rfl) ?_
      refine lv_aload_n hx hb dL_law_851 rfl (lv_at hl 1 rfl) ?_
      refine lv_iload hx hb dL_law_852 (lv_at hl 5 rfl) ?_
      refine q_iconst hx hb dL_law_854 ?_
      refine q_iadd hx hb dL_law_855 ?_
      refine q_sld (j := 6 * t + 1) hx hb hX hbl hbA hS (by omega) ep0 dL_law_856 ?_
      refine lv_aload_n hx hb dL_law_857 rfl (lv_at hl 1 rfl) ?_
      refine lv_iload hx hb dL_law_858 (lv_at hl 5 rfl) ?_
      refine q_iconst hx hb dL_law_860 ?_
      refine q_iadd hx hb dL_law_861 ?_
      refine q_sld (j := 6 * t + 2) hx hb hX hbl hbA hS (by omega) ep1 dL_law_862 ?_
      refine q_backi [0] [1, 2] (br := [u_845, [(oa, aJ cy 1 (qu (g) 0 ((qI (plT T p0.toNat p1)).toInt64)))]]) hP hD hS hA (va_runV (As := [.int (qI (p0)), .int (qI (p1))]) (rest := []) ⟨hx, hb, hml, hown, hg⟩ (c_X8_place l D cy mo mz msv mtx mmo mif mmg mtn mie mme mrd mas T hz HZ len tx th _ gT.1 hM9 p0 p1 p0.toNat (by omega) (by omega) _) (cv_L_133 hg rfl rfl ⟨(Nat.le_of_ble_eq_true rfl), (Nat.le_of_ble_eq_true rfl)⟩) ⟨q_blind, va_recv hK (fl_blk hP 0 rfl) (ci := 8) (q0 := 0) rfl hfsM, q_preM _ hK hN hP hD [0] (by decide) rfl⟩ rfl rfl hl.1 rfl (lv_room (Nat.le_of_ble_eq_true rfl)) dL_law_863 ⟨(by show _ + 0 ≤ 601024; omega), (by show _ + 0 ≤ 7293034; omega)⟩) rfl rfl (by decide) (fun r_863 u_863 H locs h_863 hP hD hS => ?_)
      have hP : va_P D vwCl [u_845, [(oa, aJ cy 1 (qu (g) 0 ((qI (plT T p0.toNat p1)).toInt64)))], u_863].flatten H := hP
      have hD : va_D A [u_845, [(oa, aJ cy 1 (qu (g) 0 ((qI (plT T p0.toNat p1)).toInt64)))], u_863].flatten := hD
      obtain ⟨rfl, h_863⟩ := h_863
      obtain ⟨fs_863, hfs_863⟩ := MW_at h_863
      have gk9 : gOk (T) := gT.1
      refine lv_istore (lv' := [(6, .int (qI (plT T p0.toNat p1))), (5, .int (qI (0))), (0, .ref (b)), (1, .ref (x)), (2, .ref (mo)), (3, .ref (oa)), (4, .int (qI (((6 * t : Nat) : Int))))]) hx hb dL_law_866 hl (by decide) rfl (fun ls hl => ?_)
      refine lv_aload_n hx hb dL_law_868 rfl (lv_at hl 4 rfl) ?_
      refine q_backi [2] [0, 1] (br := [u_845, [(oa, aJ cy 1 (qu (g) 0 ((qI (plT T p0.toNat p1)).toInt64)))]]) hP hD hS hA (va_runV (As := []) (rest := []) ⟨hx, hb, hml, hown, hg⟩ (c_X8_thrown l D cy mo mz msv mtx mmo mif mmg mtn mie mme mrd mas T hz HZ len tx 0 _ gk9 h_863 _) (cv_L_85 hg rfl rfl ⟨(Nat.le_of_ble_eq_true rfl), (Nat.le_of_ble_eq_true rfl)⟩) ⟨q_blind, va_recv hK (fl_blk hP 2 rfl) (ci := 8) (q0 := 0) rfl hfs_863, q_preM _ hK hN hP hD [2] (by decide) rfl⟩ rfl rfl hl.1 rfl (lv_room (Nat.le_of_ble_eq_true rfl)) dL_law_869 ⟨(by show _ + 0 ≤ 601024; omega), (by show _ + 0 ≤ 7293034; omega)⟩) rfl rfl (by decide) (fun r_869 u_869 H locs h_869 hP hD hS => ?_)
      have hP : va_P D vwCl [u_845, [(oa, aJ cy 1 (qu (g) 0 ((qI (plT T p0.toNat p1)).toInt64)))], u_869].flatten H := hP
      have hD : va_D A [u_845, [(oa, aJ cy 1 (qu (g) 0 ((qI (plT T p0.toNat p1)).toInt64)))], u_869].flatten := hD
      obtain ⟨rfl, h_869⟩ := h_869
      refine lv_iload hx hb dL_law_872 (lv_at hl 1 rfl) ?_
      refine q_icmp_eq (tgt := 879) hx hb dL_law_874 (by decide) (by omega) (fun c_874 => ?_) (fun c_874 => ?_)
      · skip
        refine lv_iload hx hb dL_law_879 (lv_at hl 1 rfl) ?_
        refine q_if_ne (tgt := 896) hx hb dL_law_881 (by decide) (by omega) (fun c_881 => ?_) (fun c_881 => ?_)
        · skip
          exact absurd c_881 (by decide)
        · skip
          refine lv_aload_n hx hb dL_law_884 rfl (lv_at hl 5 rfl) ?_
          refine q_iconst hx hb dL_law_885 ?_
          refine q_laldW (j := 0) (v := (qI (plT T p0.toNat p1)).toInt64) hx hb hK (fl_blk hP 1 rfl) 0 rfl (by omega) (qu_s _ _ _) dL_law_886 ?_
          refine lv_iload hx hb dL_law_887 (lv_at hl 0 rfl) ?_
          refine lv_i2l hx hb dL_law_889 rfl ?_
          refine q_lcmp0 hx hb dL_law_890 ?_
          refine q_if_eq (tgt := 896) hx hb dL_law_891 (by decide) (by omega) (fun c_891 => ?_) (fun c_891 => ?_)
          · skip
            refine lv_goto (tgt := 1420) hx hb dL_law_896 (by decide) ?_
            have hP := fl_sub (bs' := [u_845, u_869, [(oa, aJ cy 1 (qu (g) 0 ((qI (plT T p0.toNat p1)).toInt64)))]]) hP [0, 2, 1] rfl
            have hD := fl_subD (bs' := [u_845, u_869, [(oa, aJ cy 1 (qu (g) 0 ((qI (plT T p0.toNat p1)).toInt64)))]]) hD [0, 2, 1] (by decide) rfl
            refine W.widen (k := cells + 1) (n := slots + 6) (by omega) (by omega) ?_
            exact kk T hz HZ len tx 0 _ _ _ _ _ _ ⟨⟨la, lv9, ls9, fa, xh, xs, la2, lv92, ls92, fb, fw, bu, ta, rc, re, gb, oc, oe, rs, rc2, re2, gb2, oc2, oe2, rs2, rr, ad, h_845⟩, ⟨mz, msv, mtx, mmo, mif, mmg, mtn, mie, mme, mrd, mas, h_869⟩, ⟨gT.1, gT3⟩, hHG, (by omega)⟩ hP hD hS (lv_sub hl [2, 3, 4, 5, 6] rfl)
          · skip
            exact absurd c_891 (by decide)
      · skip
        exact absurd c_874 (by decide)
    · skip
      refine lv_aload_n hx hb dL_law_831 rfl (lv_at hl 1 rfl) ?_
      refine lv_aload_n hx hb dL_law_832 rfl (lv_at hl 0 rfl) ?_
      refine lv_iload hx hb dL_law_833 (lv_at hl 4 rfl) ?_
      refine q_iconst hx hb dL_law_835 ?_
      refine q_iadd hx hb dL_law_836 ?_
      refine q_sld (j := 6 * t + 1) hx hb hX hbl hbA hS (by omega) ep0 dL_law_837 ?_
      refine lv_aload_n hx hb dL_law_838 rfl (lv_at hl 0 rfl) ?_
      refine lv_iload hx hb dL_law_839 (lv_at hl 4 rfl) ?_
      refine q_iconst hx hb dL_law_841 ?_
      refine q_iadd hx hb dL_law_842 ?_
      refine q_sld (j := 6 * t + 2) hx hb hX hbl hbA hS (by omega) ep1 dL_law_843 ?_
      refine lv_aload_n hx hb dL_law_844 rfl (lv_at hl 3 rfl) ?_
      refine q_backiX (mc := 1) (ms := 6) [0, 2] [1] (br := [M9]) hP hD hS hA (vx_runSW (As := [.ref (x), .int (qI (p0)), .int (qI (p1)), .ref (oa)]) (rest := []) ⟨hx, hb, hml, hown, hg⟩ (c_L_place_no2 l hlt9 D cy x la lv9 ls9 fa xh xs la2 lv92 ls92 fb fw bu ta rc re gb oc oe rs rc2 re2 gb2 oc2 oe2 rs2 rr ad T hz HZ len tx _ gT.1 hC9 oa _ p0 p1 (by omega) (by omega) (by omega) (by omega) _) (csW_L_131 hg rfl rfl ⟨(Nat.le_of_ble_eq_true rfl), (Nat.le_of_ble_eq_true rfl)⟩) ⟨q_blindW, fun U hU hU9 => ⟨rfl, (q_preM [.ref (x), .int (qI (p0)), .int (qI (p1)), .ref (oa)] hK hN hP hD [0, 2] (by decide) rfl U hU hU9).2, hEx9.step hU9 (by rw [hU]; exact hS.2.1) (fl_free hD hS hA [0, 2] rfl), hNc9.moved hU9.alike⟩⟩ rfl rfl hl.1 rfl (lv_room (Nat.le_of_ble_eq_true rfl)) dL_law_845 ⟨(by show cells + 1 ≤ 601024; omega), (by show slots + 6 ≤ 7293034; omega)⟩) rfl rfl (by decide) (fun r_845 u_845 H locs h_845 hP hD hS => ?_)
      obtain ⟨rfl, h_845⟩ := h_845
      have hP : va_P D vwCl [M9, u_845, [(oa, aJ cy 1 (g))]].flatten H := hP
      have hD : va_D A [M9, u_845, [(oa, aJ cy 1 (g))]].flatten := hD
      refine lv_istore (lv' := [(5, .int (qI (2))), (0, .ref (b)), (1, .ref (x)), (2, .ref (mo)), (3, .ref (oa)), (4, .int (qI (((6 * t : Nat) : Int))))]) hx hb dL_law_848 hl (by decide) rfl (fun ls hl => ?_)
      refine lv_aload_n hx hb dL_law_850 rfl (lv_at hl 3 rfl) ?_
      refine lv_aload_n hx hb dL_law_851 rfl (lv_at hl 1 rfl) ?_
      refine lv_iload hx hb dL_law_852 (lv_at hl 5 rfl) ?_
      refine q_iconst hx hb dL_law_854 ?_
      refine q_iadd hx hb dL_law_855 ?_
      refine q_sld (j := 6 * t + 1) hx hb hX hbl hbA hS (by omega) ep0 dL_law_856 ?_
      refine lv_aload_n hx hb dL_law_857 rfl (lv_at hl 1 rfl) ?_
      refine lv_iload hx hb dL_law_858 (lv_at hl 5 rfl) ?_
      refine q_iconst hx hb dL_law_860 ?_
      refine q_iadd hx hb dL_law_861 ?_
      refine q_sld (j := 6 * t + 2) hx hb hX hbl hbA hS (by omega) ep1 dL_law_862 ?_
      refine q_backi [0] [1, 2] (br := [u_845, [(oa, aJ cy 1 (g))]]) hP hD hS hA (va_runV (As := [.int (qI (p0)), .int (qI (p1))]) (rest := []) ⟨hx, hb, hml, hown, hg⟩ (c_X8_place_no2 l D cy mo mz msv mtx mmo mif mmg mtn mie mme mrd mas T hz HZ len tx th _ gT.1 hM9 p0 p1 (by omega) (by omega) (by omega) (by omega) _) (cv_L_133 hg rfl rfl ⟨(Nat.le_of_ble_eq_true rfl), (Nat.le_of_ble_eq_true rfl)⟩) ⟨q_blind, va_recv hK (fl_blk hP 0 rfl) (ci := 8) (q0 := 0) rfl hfsM, q_preM _ hK hN hP hD [0] (by decide) rfl⟩ rfl rfl hl.1 rfl (lv_room (Nat.le_of_ble_eq_true rfl)) dL_law_863 ⟨(by show _ + 0 ≤ 601024; omega), (by show _ + 0 ≤ 7293034; omega)⟩) rfl rfl (by decide) (fun r_863 u_863 H locs h_863 hP hD hS => ?_)
      have hP : va_P D vwCl [u_845, [(oa, aJ cy 1 (g))], u_863].flatten H := hP
      have hD : va_D A [u_845, [(oa, aJ cy 1 (g))], u_863].flatten := hD
      obtain ⟨fs_863, hfs_863⟩ := MW_at h_863
      have gk9 : gOk (T) := gT.1
      refine lv_istore (lv' := [(6, .int (r_863)), (5, .int (qI (2))), (0, .ref (b)), (1, .ref (x)), (2, .ref (mo)), (3, .ref (oa)), (4, .int (qI (((6 * t : Nat) : Int))))]) hx hb dL_law_866 hl (by decide) rfl (fun ls hl => ?_)
      refine lv_aload_n hx hb dL_law_868 rfl (lv_at hl 4 rfl) ?_
      refine q_backi [2] [0, 1] (br := [u_845, [(oa, aJ cy 1 (g))]]) hP hD hS hA (va_runV (As := []) (rest := []) ⟨hx, hb, hml, hown, hg⟩ (c_X8_thrown l D cy mo mz msv mtx mmo mif mmg mtn mie mme mrd mas T hz HZ len tx 2 _ gk9 h_863 _) (cv_L_85 hg rfl rfl ⟨(Nat.le_of_ble_eq_true rfl), (Nat.le_of_ble_eq_true rfl)⟩) ⟨q_blind, va_recv hK (fl_blk hP 2 rfl) (ci := 8) (q0 := 0) rfl hfs_863, q_preM _ hK hN hP hD [2] (by decide) rfl⟩ rfl rfl hl.1 rfl (lv_room (Nat.le_of_ble_eq_true rfl)) dL_law_869 ⟨(by show _ + 0 ≤ 601024; omega), (by show _ + 0 ≤ 7293034; omega)⟩) rfl rfl (by decide) (fun r_869 u_869 H locs h_869 hP hD hS => ?_)
      have hP : va_P D vwCl [u_845, [(oa, aJ cy 1 (g))], u_869].flatten H := hP
      have hD : va_D A [u_845, [(oa, aJ cy 1 (g))], u_869].flatten := hD
      obtain ⟨rfl, h_869⟩ := h_869
      refine lv_iload hx hb dL_law_872 (lv_at hl 1 rfl) ?_
      refine q_icmp_eq (tgt := 879) hx hb dL_law_874 (by decide) (by omega) (fun c_874 => ?_) (fun c_874 => ?_)
      · skip
        refine lv_iload hx hb dL_law_879 (lv_at hl 1 rfl) ?_
        refine q_if_ne (tgt := 896) hx hb dL_law_881 (by decide) (by omega) (fun c_881 => ?_) (fun c_881 => ?_)
        · skip
          refine lv_goto (tgt := 1420) hx hb dL_law_896 (by decide) ?_
          have hP := fl_sub (bs' := [u_845, u_869, [(oa, aJ cy 1 (g))]]) hP [0, 2, 1] rfl
          have hD := fl_subD (bs' := [u_845, u_869, [(oa, aJ cy 1 (g))]]) hD [0, 2, 1] (by decide) rfl
          exact kk T hz HZ len tx 2 _ _ _ _ _ _ ⟨⟨la, lv9, ls9, fa, xh, xs, la2, lv92, ls92, fb, fw, bu, ta, rc, re, gb, oc, oe, rs, rc2, re2, gb2, oc2, oe2, rs2, rr, ad, h_845⟩, ⟨mz, msv, mtx, mmo, mif, mmg, mtn, mie, mme, mrd, mas, h_869⟩, gT, hHG, (by omega)⟩ hP hD hS (lv_sub hl [2, 3, 4, 5, 6] rfl)
        · skip
          exact absurd c_881 (by decide)
      · skip
        exact absurd c_874 (by decide)
  · skip
    refine lv_aload_n hx hb dL_law_831 rfl (lv_at hl 1 rfl) ?_
    refine lv_aload_n hx hb dL_law_832 rfl (lv_at hl 0 rfl) ?_
    refine lv_iload hx hb dL_law_833 (lv_at hl 4 rfl) ?_
    refine q_iconst hx hb dL_law_835 ?_
    refine q_iadd hx hb dL_law_836 ?_
    refine q_sld (j := 6 * t + 1) hx hb hX hbl hbA hS (by omega) ep0 dL_law_837 ?_
    refine lv_aload_n hx hb dL_law_838 rfl (lv_at hl 0 rfl) ?_
    refine lv_iload hx hb dL_law_839 (lv_at hl 4 rfl) ?_
    refine q_iconst hx hb dL_law_841 ?_
    refine q_iadd hx hb dL_law_842 ?_
    refine q_sld (j := 6 * t + 2) hx hb hX hbl hbA hS (by omega) ep1 dL_law_843 ?_
    refine lv_aload_n hx hb dL_law_844 rfl (lv_at hl 3 rfl) ?_
    refine q_backiX (mc := 1) (ms := 6) [0, 2] [1] (br := [M9]) hP hD hS hA (vx_runSW (As := [.ref (x), .int (qI (p0)), .int (qI (p1)), .ref (oa)]) (rest := []) ⟨hx, hb, hml, hown, hg⟩ (c_L_place_no1 l hlt9 D cy x la lv9 ls9 fa xh xs la2 lv92 ls92 fb fw bu ta rc re gb oc oe rs rc2 re2 gb2 oc2 oe2 rs2 rr ad T hz HZ len tx _ gT.1 hC9 oa _ p0 p1 (by omega) (by omega) (by omega) _) (csW_L_131 hg rfl rfl ⟨(Nat.le_of_ble_eq_true rfl), (Nat.le_of_ble_eq_true rfl)⟩) ⟨q_blindW, fun U hU hU9 => ⟨rfl, (q_preM [.ref (x), .int (qI (p0)), .int (qI (p1)), .ref (oa)] hK hN hP hD [0, 2] (by decide) rfl U hU hU9).2, hEx9.step hU9 (by rw [hU]; exact hS.2.1) (fl_free hD hS hA [0, 2] rfl), hNc9.moved hU9.alike⟩⟩ rfl rfl hl.1 rfl (lv_room (Nat.le_of_ble_eq_true rfl)) dL_law_845 ⟨(by show cells + 1 ≤ 601024; omega), (by show slots + 6 ≤ 7293034; omega)⟩) rfl rfl (by decide) (fun r_845 u_845 H locs h_845 hP hD hS => ?_)
    obtain ⟨rfl, h_845⟩ := h_845
    have hP : va_P D vwCl [M9, u_845, [(oa, aJ cy 1 (g))]].flatten H := hP
    have hD : va_D A [M9, u_845, [(oa, aJ cy 1 (g))]].flatten := hD
    refine lv_istore (lv' := [(5, .int (qI (1))), (0, .ref (b)), (1, .ref (x)), (2, .ref (mo)), (3, .ref (oa)), (4, .int (qI (((6 * t : Nat) : Int))))]) hx hb dL_law_848 hl (by decide) rfl (fun ls hl => ?_)
    refine lv_aload_n hx hb dL_law_850 rfl (lv_at hl 3 rfl) ?_
    refine lv_aload_n hx hb dL_law_851 rfl (lv_at hl 1 rfl) ?_
    refine lv_iload hx hb dL_law_852 (lv_at hl 5 rfl) ?_
    refine q_iconst hx hb dL_law_854 ?_
    refine q_iadd hx hb dL_law_855 ?_
    refine q_sld (j := 6 * t + 1) hx hb hX hbl hbA hS (by omega) ep0 dL_law_856 ?_
    refine lv_aload_n hx hb dL_law_857 rfl (lv_at hl 1 rfl) ?_
    refine lv_iload hx hb dL_law_858 (lv_at hl 5 rfl) ?_
    refine q_iconst hx hb dL_law_860 ?_
    refine q_iadd hx hb dL_law_861 ?_
    refine q_sld (j := 6 * t + 2) hx hb hX hbl hbA hS (by omega) ep1 dL_law_862 ?_
    refine q_backi [0] [1, 2] (br := [u_845, [(oa, aJ cy 1 (g))]]) hP hD hS hA (va_runV (As := [.int (qI (p0)), .int (qI (p1))]) (rest := []) ⟨hx, hb, hml, hown, hg⟩ (c_X8_place_no1 l D cy mo mz msv mtx mmo mif mmg mtn mie mme mrd mas T hz HZ len tx th _ gT.1 hM9 p0 p1 (by omega) (by omega) (by omega) _) (cv_L_133 hg rfl rfl ⟨(Nat.le_of_ble_eq_true rfl), (Nat.le_of_ble_eq_true rfl)⟩) ⟨q_blind, va_recv hK (fl_blk hP 0 rfl) (ci := 8) (q0 := 0) rfl hfsM, q_preM _ hK hN hP hD [0] (by decide) rfl⟩ rfl rfl hl.1 rfl (lv_room (Nat.le_of_ble_eq_true rfl)) dL_law_863 ⟨(by show _ + 0 ≤ 601024; omega), (by show _ + 0 ≤ 7293034; omega)⟩) rfl rfl (by decide) (fun r_863 u_863 H locs h_863 hP hD hS => ?_)
    have hP : va_P D vwCl [u_845, [(oa, aJ cy 1 (g))], u_863].flatten H := hP
    have hD : va_D A [u_845, [(oa, aJ cy 1 (g))], u_863].flatten := hD
    obtain ⟨fs_863, hfs_863⟩ := MW_at h_863
    have gk9 : gOk (T) := gT.1
    refine lv_istore (lv' := [(6, .int (r_863)), (5, .int (qI (1))), (0, .ref (b)), (1, .ref (x)), (2, .ref (mo)), (3, .ref (oa)), (4, .int (qI (((6 * t : Nat) : Int))))]) hx hb dL_law_866 hl (by decide) rfl (fun ls hl => ?_)
    refine lv_aload_n hx hb dL_law_868 rfl (lv_at hl 4 rfl) ?_
    refine q_backi [2] [0, 1] (br := [u_845, [(oa, aJ cy 1 (g))]]) hP hD hS hA (va_runV (As := []) (rest := []) ⟨hx, hb, hml, hown, hg⟩ (c_X8_thrown l D cy mo mz msv mtx mmo mif mmg mtn mie mme mrd mas T hz HZ len tx 1 _ gk9 h_863 _) (cv_L_85 hg rfl rfl ⟨(Nat.le_of_ble_eq_true rfl), (Nat.le_of_ble_eq_true rfl)⟩) ⟨q_blind, va_recv hK (fl_blk hP 2 rfl) (ci := 8) (q0 := 0) rfl hfs_863, q_preM _ hK hN hP hD [2] (by decide) rfl⟩ rfl rfl hl.1 rfl (lv_room (Nat.le_of_ble_eq_true rfl)) dL_law_869 ⟨(by show _ + 0 ≤ 601024; omega), (by show _ + 0 ≤ 7293034; omega)⟩) rfl rfl (by decide) (fun r_869 u_869 H locs h_869 hP hD hS => ?_)
    have hP : va_P D vwCl [u_845, [(oa, aJ cy 1 (g))], u_869].flatten H := hP
    have hD : va_D A [u_845, [(oa, aJ cy 1 (g))], u_869].flatten := hD
    obtain ⟨rfl, h_869⟩ := h_869
    refine lv_iload hx hb dL_law_872 (lv_at hl 1 rfl) ?_
    refine q_icmp_eq (tgt := 879) hx hb dL_law_874 (by decide) (by omega) (fun c_874 => ?_) (fun c_874 => ?_)
    · skip
      refine lv_iload hx hb dL_law_879 (lv_at hl 1 rfl) ?_
      refine q_if_ne (tgt := 896) hx hb dL_law_881 (by decide) (by omega) (fun c_881 => ?_) (fun c_881 => ?_)
      · skip
        refine lv_goto (tgt := 1420) hx hb dL_law_896 (by decide) ?_
        have hP := fl_sub (bs' := [u_845, u_869, [(oa, aJ cy 1 (g))]]) hP [0, 2, 1] rfl
        have hD := fl_subD (bs' := [u_845, u_869, [(oa, aJ cy 1 (g))]]) hD [0, 2, 1] (by decide) rfl
        exact kk T hz HZ len tx 1 _ _ _ _ _ _ ⟨⟨la, lv9, ls9, fa, xh, xs, la2, lv92, ls92, fb, fw, bu, ta, rc, re, gb, oc, oe, rs, rc2, re2, gb2, oc2, oe2, rs2, rr, ad, h_845⟩, ⟨mz, msv, mtx, mmo, mif, mmg, mtn, mie, mme, mrd, mas, h_869⟩, gT, hHG, (by omega)⟩ hP hD hS (lv_sub hl [2, 3, 4, 5, 6] rfl)
      · skip
        exact absurd c_881 (by decide)
    · skip
      exact absurd c_874 (by decide)

set_option maxRecDepth 100000 in
set_option maxHeartbeats 4000000 in
theorem lw_condition {p : Program} {l : Launch} {e : Env} {s : State} {m : MethodId} {below : List Frame} {meth : Method} {c : Code} {b L : Nat} {sc9 : Nat → Int32} {D : va_G} {cy : Nat → ClassId} {A : Nat → Prop} {Q : State → Prop} (hlt9 : l.stackTraces = false) (B9 : lwB p s m c b L sc9 D cy A) {x mo oa t : Nat} (ht9 : 6 * t + 6 ≤ L) {T : LSt} {hz : Nat} {HZ : Nat → LSt} {len : Nat} {tx : Nat → Int} {th : Int} {W9 M9 : va_W} {g : Nat → Int64} {cells slots : Nat} (hr9 : cells ≤ 1000 ∧ slots ≤ 8000) (hI9 : lwI cy x mo T hz HZ len tx th W9 M9) {H : Heap} {locs : List Loc} {ls : Array Slot} (hP : va_P D vwCl [W9, M9, [(oa, aJ cy 1 g)]].flatten H) (hD : va_D A [W9, M9, [(oa, aJ cy 1 g)]].flatten) (hS : va_S A s.heap H locs) (hl : lv_has ls 9 (lwL b x mo oa t)) (kk : lwK p l e s m below meth c b D cy A Q x mo oa t cells slots) : W p l e room_1 s m #[Value.ref b] below meth c H locs cells slots Q (F0 m 899 ls []) := by
  obtain ⟨hx, hb, hml, hown, hg, hX, hbl, hbA, hA, hK, hN, hEx9, hNc9, hL9⟩ := B9
  obtain ⟨⟨la, lv9, ls9, fa, xh, xs, la2, lv92, ls92, fb, fw, bu, ta, rc, re, gb, oc, oe, rs, rc2, re2, gb2, oc2, oe2, rs2, rr, ad, hC9⟩, ⟨mz, msv, mtx, mmo, mif, mmg, mtn, mie, mme, mrd, mas, hM9⟩, gT, hHG, hln9⟩ := hI9
  have gT3 := gT.2
  have gN16 : lN9 T ≤ 16 := gT.1.2.2.1.1
  obtain ⟨fsC, hfsC⟩ := CW_at hC9
  obtain ⟨fsM, hfsM⟩ := MW_at hM9
  have hl : lv_has ls 9 [(0, .ref (b)), (1, .ref (x)), (2, .ref (mo)), (3, .ref (oa)), (4, .int (qI (((6 * t : Nat) : Int))))] := hl
  obtain ⟨p0, ep0⟩ : ∃ z : Int, (sc9 (6 * t + 1)).toInt = z := ⟨_, rfl⟩
  have r0 : -2147483648 ≤ p0 ∧ p0 < 2147483648 := by rw [← ep0]; exact ⟨Int32.le_toInt _, Int32.toInt_lt _⟩
  obtain ⟨p1, ep1⟩ : ∃ z : Int, (sc9 (6 * t + 2)).toInt = z := ⟨_, rfl⟩
  have r1 : -2147483648 ≤ p1 ∧ p1 < 2147483648 := by rw [← ep1]; exact ⟨Int32.le_toInt _, Int32.toInt_lt _⟩
  by_cases cA9 : 0 ≤ p0 ∧ p0 < (lN9 T : Int)
  · skip
    by_cases cB9 : 0 ≤ p1 ∧ p1 ≤ 9
    · skip
      refine lv_aload_n hx hb dL_law_899 rfl (lv_at hl 1 rfl) ?_
      refine lv_aload_n hx hb dL_law_900 rfl (lv_at hl 0 rfl) ?_
      refine lv_iload hx hb dL_law_901 (lv_at hl 4 rfl) ?_
      refine q_iconst hx hb dL_law_903 ?_
      refine q_iadd hx hb dL_law_904 ?_
      refine q_sld (j := 6 * t + 1) hx hb hX hbl hbA hS (by omega) ep0 dL_law_905 ?_
      refine lv_aload_n hx hb dL_law_906 rfl (lv_at hl 0 rfl) ?_
      refine lv_iload hx hb dL_law_907 (lv_at hl 4 rfl) ?_
      refine q_iconst hx hb dL_law_909 ?_
      refine q_iadd hx hb dL_law_910 ?_
      refine q_sld (j := 6 * t + 2) hx hb hX hbl hbA hS (by omega) ep1 dL_law_911 ?_
      refine lv_aload_n hx hb dL_law_912 rfl (lv_at hl 3 rfl) ?_
      refine q_backiX (mc := 0) (ms := 0) [0, 2] [1] (br := [M9]) hP hD hS hA (vx_runSW (As := [.ref (x), .int (qI (p0)), .int (qI (p1)), .ref (oa)]) (rest := []) ⟨hx, hb, hml, hown, hg⟩ (c_L_condition l D cy x la lv9 ls9 fa xh xs la2 lv92 ls92 fb fw bu ta rc re gb oc oe rs rc2 re2 gb2 oc2 oe2 rs2 rr ad T hz HZ len tx _ gT.1 hC9 oa _ p0 p1 p0.toNat (by omega) (by omega) _) (csW_L_134 hg rfl rfl ⟨(Nat.le_of_ble_eq_true rfl), (Nat.le_of_ble_eq_true rfl)⟩) ⟨q_blind, q_preM [.ref (x), .int (qI (p0)), .int (qI (p1)), .ref (oa)] hK hN hP hD [0, 2] (by decide) rfl⟩ rfl rfl hl.1 rfl (lv_room (Nat.le_of_ble_eq_true rfl)) dL_law_913 ⟨(by show cells + 0 ≤ 601024; omega), (by show slots + 0 ≤ 7293034; omega)⟩) rfl rfl (by decide) (fun r_913 u_913 H locs h_913 hP hD hS => ?_)
      obtain ⟨rfl, h_913⟩ := h_913
      have hP : va_P D vwCl [M9, u_913, [(oa, aJ cy 1 (qu (g) 0 ((qI (coT T p0.toNat p1)).toInt64)))]].flatten H := hP
      have hD : va_D A [M9, u_913, [(oa, aJ cy 1 (qu (g) 0 ((qI (coT T p0.toNat p1)).toInt64)))]].flatten := hD
      refine lv_istore (lv' := [(5, .int (qI (0))), (0, .ref (b)), (1, .ref (x)), (2, .ref (mo)), (3, .ref (oa)), (4, .int (qI (((6 * t : Nat) : Int))))]) hx hb dL_law_916 hl (by decide) rfl (fun ls hl => ?_)
      refine lv_aload_n hx hb dL_law_918 rfl (lv_at hl 3 rfl) ?_
      refine lv_aload_n hx hb dL_law_919 rfl (lv_at hl 1 rfl) ?_
      refine lv_iload hx hb dL_law_920 (lv_at hl 5 rfl) ?_
      refine q_iconst hx hb dL_law_922 ?_
      refine q_iadd hx hb dL_law_923 ?_
      refine q_sld (j := 6 * t + 1) hx hb hX hbl hbA hS (by omega) ep0 dL_law_924 ?_
      refine lv_aload_n hx hb dL_law_925 rfl (lv_at hl 1 rfl) ?_
      refine lv_iload hx hb dL_law_926 (lv_at hl 5 rfl) ?_
      refine q_iconst hx hb dL_law_928 ?_
      refine q_iadd hx hb dL_law_929 ?_
      refine q_sld (j := 6 * t + 2) hx hb hX hbl hbA hS (by omega) ep1 dL_law_930 ?_
      refine q_backi [0] [1, 2] (br := [u_913, [(oa, aJ cy 1 (qu (g) 0 ((qI (coT T p0.toNat p1)).toInt64)))]]) hP hD hS hA (va_runV (As := [.int (qI (p0)), .int (qI (p1))]) (rest := []) ⟨hx, hb, hml, hown, hg⟩ (c_X8_condition l D cy mo mz msv mtx mmo mif mmg mtn mie mme mrd mas T hz HZ len tx th _ gT.1 hM9 p0 p1 p0.toNat (by omega) (by omega) _) (cv_L_136 hg rfl rfl ⟨(Nat.le_of_ble_eq_true rfl), (Nat.le_of_ble_eq_true rfl)⟩) ⟨q_blind, va_recv hK (fl_blk hP 0 rfl) (ci := 8) (q0 := 0) rfl hfsM, q_preM _ hK hN hP hD [0] (by decide) rfl⟩ rfl rfl hl.1 rfl (lv_room (Nat.le_of_ble_eq_true rfl)) dL_law_931 ⟨(by show _ + 0 ≤ 601024; omega), (by show _ + 0 ≤ 7293034; omega)⟩) rfl rfl (by decide) (fun r_931 u_931 H locs h_931 hP hD hS => ?_)
      have hP : va_P D vwCl [u_913, [(oa, aJ cy 1 (qu (g) 0 ((qI (coT T p0.toNat p1)).toInt64)))], u_931].flatten H := hP
      have hD : va_D A [u_913, [(oa, aJ cy 1 (qu (g) 0 ((qI (coT T p0.toNat p1)).toInt64)))], u_931].flatten := hD
      obtain ⟨rfl, h_931⟩ := h_931
      obtain ⟨fs_931, hfs_931⟩ := MW_at h_931
      have gk9 : gOk (T) := gT.1
      refine lv_istore (lv' := [(6, .int (qI (coT T p0.toNat p1))), (5, .int (qI (0))), (0, .ref (b)), (1, .ref (x)), (2, .ref (mo)), (3, .ref (oa)), (4, .int (qI (((6 * t : Nat) : Int))))]) hx hb dL_law_934 hl (by decide) rfl (fun ls hl => ?_)
      refine lv_aload_n hx hb dL_law_936 rfl (lv_at hl 4 rfl) ?_
      refine q_backi [2] [0, 1] (br := [u_913, [(oa, aJ cy 1 (qu (g) 0 ((qI (coT T p0.toNat p1)).toInt64)))]]) hP hD hS hA (va_runV (As := []) (rest := []) ⟨hx, hb, hml, hown, hg⟩ (c_X8_thrown l D cy mo mz msv mtx mmo mif mmg mtn mie mme mrd mas T hz HZ len tx 0 _ gk9 h_931 _) (cv_L_85 hg rfl rfl ⟨(Nat.le_of_ble_eq_true rfl), (Nat.le_of_ble_eq_true rfl)⟩) ⟨q_blind, va_recv hK (fl_blk hP 2 rfl) (ci := 8) (q0 := 0) rfl hfs_931, q_preM _ hK hN hP hD [2] (by decide) rfl⟩ rfl rfl hl.1 rfl (lv_room (Nat.le_of_ble_eq_true rfl)) dL_law_937 ⟨(by show _ + 0 ≤ 601024; omega), (by show _ + 0 ≤ 7293034; omega)⟩) rfl rfl (by decide) (fun r_937 u_937 H locs h_937 hP hD hS => ?_)
      have hP : va_P D vwCl [u_913, [(oa, aJ cy 1 (qu (g) 0 ((qI (coT T p0.toNat p1)).toInt64)))], u_937].flatten H := hP
      have hD : va_D A [u_913, [(oa, aJ cy 1 (qu (g) 0 ((qI (coT T p0.toNat p1)).toInt64)))], u_937].flatten := hD
      obtain ⟨rfl, h_937⟩ := h_937
      refine lv_iload hx hb dL_law_940 (lv_at hl 1 rfl) ?_
      refine q_icmp_eq (tgt := 947) hx hb dL_law_942 (by decide) (by omega) (fun c_942 => ?_) (fun c_942 => ?_)
      · skip
        refine lv_iload hx hb dL_law_947 (lv_at hl 1 rfl) ?_
        refine q_if_ne (tgt := 964) hx hb dL_law_949 (by decide) (by omega) (fun c_949 => ?_) (fun c_949 => ?_)
        · skip
          exact absurd c_949 (by decide)
        · skip
          refine lv_aload_n hx hb dL_law_952 rfl (lv_at hl 5 rfl) ?_
          refine q_iconst hx hb dL_law_953 ?_
          refine q_laldW (j := 0) (v := (qI (coT T p0.toNat p1)).toInt64) hx hb hK (fl_blk hP 1 rfl) 0 rfl (by omega) (qu_s _ _ _) dL_law_954 ?_
          refine lv_iload hx hb dL_law_955 (lv_at hl 0 rfl) ?_
          refine lv_i2l hx hb dL_law_957 rfl ?_
          refine q_lcmp0 hx hb dL_law_958 ?_
          refine q_if_eq (tgt := 964) hx hb dL_law_959 (by decide) (by omega) (fun c_959 => ?_) (fun c_959 => ?_)
          · skip
            refine lv_goto (tgt := 1420) hx hb dL_law_964 (by decide) ?_
            have hP := fl_sub (bs' := [u_913, u_937, [(oa, aJ cy 1 (qu (g) 0 ((qI (coT T p0.toNat p1)).toInt64)))]]) hP [0, 2, 1] rfl
            have hD := fl_subD (bs' := [u_913, u_937, [(oa, aJ cy 1 (qu (g) 0 ((qI (coT T p0.toNat p1)).toInt64)))]]) hD [0, 2, 1] (by decide) rfl
            refine W.widen (k := cells + 1) (n := slots + 6) (by omega) (by omega) ?_
            exact kk T hz HZ len tx 0 _ _ _ _ _ _ ⟨⟨la, lv9, ls9, fa, xh, xs, la2, lv92, ls92, fb, fw, bu, ta, rc, re, gb, oc, oe, rs, rc2, re2, gb2, oc2, oe2, rs2, rr, ad, h_913⟩, ⟨mz, msv, mtx, mmo, mif, mmg, mtn, mie, mme, mrd, mas, h_937⟩, ⟨gT.1, gT3⟩, hHG, (by omega)⟩ hP hD hS (lv_sub hl [2, 3, 4, 5, 6] rfl)
          · skip
            exact absurd c_959 (by decide)
      · skip
        exact absurd c_942 (by decide)
    · skip
      refine lv_aload_n hx hb dL_law_899 rfl (lv_at hl 1 rfl) ?_
      refine lv_aload_n hx hb dL_law_900 rfl (lv_at hl 0 rfl) ?_
      refine lv_iload hx hb dL_law_901 (lv_at hl 4 rfl) ?_
      refine q_iconst hx hb dL_law_903 ?_
      refine q_iadd hx hb dL_law_904 ?_
      refine q_sld (j := 6 * t + 1) hx hb hX hbl hbA hS (by omega) ep0 dL_law_905 ?_
      refine lv_aload_n hx hb dL_law_906 rfl (lv_at hl 0 rfl) ?_
      refine lv_iload hx hb dL_law_907 (lv_at hl 4 rfl) ?_
      refine q_iconst hx hb dL_law_909 ?_
      refine q_iadd hx hb dL_law_910 ?_
      refine q_sld (j := 6 * t + 2) hx hb hX hbl hbA hS (by omega) ep1 dL_law_911 ?_
      refine lv_aload_n hx hb dL_law_912 rfl (lv_at hl 3 rfl) ?_
      refine q_backiX (mc := 1) (ms := 6) [0, 2] [1] (br := [M9]) hP hD hS hA (vx_runSW (As := [.ref (x), .int (qI (p0)), .int (qI (p1)), .ref (oa)]) (rest := []) ⟨hx, hb, hml, hown, hg⟩ (c_L_condition_no2 l hlt9 D cy x la lv9 ls9 fa xh xs la2 lv92 ls92 fb fw bu ta rc re gb oc oe rs rc2 re2 gb2 oc2 oe2 rs2 rr ad T hz HZ len tx _ gT.1 hC9 oa _ p0 p1 (by omega) (by omega) (by omega) (by omega) _) (csW_L_134 hg rfl rfl ⟨(Nat.le_of_ble_eq_true rfl), (Nat.le_of_ble_eq_true rfl)⟩) ⟨q_blindW, fun U hU hU9 => ⟨rfl, (q_preM [.ref (x), .int (qI (p0)), .int (qI (p1)), .ref (oa)] hK hN hP hD [0, 2] (by decide) rfl U hU hU9).2, hEx9.step hU9 (by rw [hU]; exact hS.2.1) (fl_free hD hS hA [0, 2] rfl), hNc9.moved hU9.alike⟩⟩ rfl rfl hl.1 rfl (lv_room (Nat.le_of_ble_eq_true rfl)) dL_law_913 ⟨(by show cells + 1 ≤ 601024; omega), (by show slots + 6 ≤ 7293034; omega)⟩) rfl rfl (by decide) (fun r_913 u_913 H locs h_913 hP hD hS => ?_)
      obtain ⟨rfl, h_913⟩ := h_913
      have hP : va_P D vwCl [M9, u_913, [(oa, aJ cy 1 (g))]].flatten H := hP
      have hD : va_D A [M9, u_913, [(oa, aJ cy 1 (g))]].flatten := hD
      refine lv_istore (lv' := [(5, .int (qI (2))), (0, .ref (b)), (1, .ref (x)), (2, .ref (mo)), (3, .ref (oa)), (4, .int (qI (((6 * t : Nat) : Int))))]) hx hb dL_law_916 hl (by decide) rfl (fun ls hl => ?_)
      refine lv_aload_n hx hb dL_law_918 rfl (lv_at hl 3 rfl) ?_
      refine lv_aload_n hx hb dL_law_919 rfl (lv_at hl 1 rfl) ?_
      refine lv_iload hx hb dL_law_920 (lv_at hl 5 rfl) ?_
      refine q_iconst hx hb dL_law_922 ?_
      refine q_iadd hx hb dL_law_923 ?_
      refine q_sld (j := 6 * t + 1) hx hb hX hbl hbA hS (by omega) ep0 dL_law_924 ?_
      refine lv_aload_n hx hb dL_law_925 rfl (lv_at hl 1 rfl) ?_
      refine lv_iload hx hb dL_law_926 (lv_at hl 5 rfl) ?_
      refine q_iconst hx hb dL_law_928 ?_
      refine q_iadd hx hb dL_law_929 ?_
      refine q_sld (j := 6 * t + 2) hx hb hX hbl hbA hS (by omega) ep1 dL_law_930 ?_
      refine q_backi [0] [1, 2] (br := [u_913, [(oa, aJ cy 1 (g))]]) hP hD hS hA (va_runV (As := [.int (qI (p0)), .int (qI (p1))]) (rest := []) ⟨hx, hb, hml, hown, hg⟩ (c_X8_condition_no2 l D cy mo mz msv mtx mmo mif mmg mtn mie mme mrd mas T hz HZ len tx th _ gT.1 hM9 p0 p1 (by omega) (by omega) (by omega) (by omega) _) (cv_L_136 hg rfl rfl ⟨(Nat.le_of_ble_eq_true rfl), (Nat.le_of_ble_eq_true rfl)⟩) ⟨q_blind, va_recv hK (fl_blk hP 0 rfl) (ci := 8) (q0 := 0) rfl hfsM, q_preM _ hK hN hP hD [0] (by decide) rfl⟩ rfl rfl hl.1 rfl (lv_room (Nat.le_of_ble_eq_true rfl)) dL_law_931 ⟨(by show _ + 0 ≤ 601024; omega), (by show _ + 0 ≤ 7293034; omega)⟩) rfl rfl (by decide) (fun r_931 u_931 H locs h_931 hP hD hS => ?_)
      have hP : va_P D vwCl [u_913, [(oa, aJ cy 1 (g))], u_931].flatten H := hP
      have hD : va_D A [u_913, [(oa, aJ cy 1 (g))], u_931].flatten := hD
      obtain ⟨fs_931, hfs_931⟩ := MW_at h_931
      have gk9 : gOk (T) := gT.1
      refine lv_istore (lv' := [(6, .int (r_931)), (5, .int (qI (2))), (0, .ref (b)), (1, .ref (x)), (2, .ref (mo)), (3, .ref (oa)), (4, .int (qI (((6 * t : Nat) : Int))))]) hx hb dL_law_934 hl (by decide) rfl (fun ls hl => ?_)
      refine lv_aload_n hx hb dL_law_936 rfl (lv_at hl 4 rfl) ?_
      refine q_backi [2] [0, 1] (br := [u_913, [(oa, aJ cy 1 (g))]]) hP hD hS hA (va_runV (As := []) (rest := []) ⟨hx, hb, hml, hown, hg⟩ (c_X8_thrown l D cy mo mz msv mtx mmo mif mmg mtn mie mme mrd mas T hz HZ len tx 2 _ gk9 h_931 _) (cv_L_85 hg rfl rfl ⟨(Nat.le_of_ble_eq_true rfl), (Nat.le_of_ble_eq_true rfl)⟩) ⟨q_blind, va_recv hK (fl_blk hP 2 rfl) (ci := 8) (q0 := 0) rfl hfs_931, q_preM _ hK hN hP hD [2] (by decide) rfl⟩ rfl rfl hl.1 rfl (lv_room (Nat.le_of_ble_eq_true rfl)) dL_law_937 ⟨(by show _ + 0 ≤ 601024; omega), (by show _ + 0 ≤ 7293034; omega)⟩) rfl rfl (by decide) (fun r_937 u_937 H locs h_937 hP hD hS => ?_)
      have hP : va_P D vwCl [u_913, [(oa, aJ cy 1 (g))], u_937].flatten H := hP
      have hD : va_D A [u_913, [(oa, aJ cy 1 (g))], u_937].flatten := hD
      obtain ⟨rfl, h_937⟩ := h_937
      refine lv_iload hx hb dL_law_940 (lv_at hl 1 rfl) ?_
      refine q_icmp_eq (tgt := 947) hx hb dL_law_942 (by decide) (by omega) (fun c_942 => ?_) (fun c_942 => ?_)
      · skip
        refine lv_iload hx hb dL_law_947 (lv_at hl 1 rfl) ?_
        refine q_if_ne (tgt := 964) hx hb dL_law_949 (by decide) (by omega) (fun c_949 => ?_) (fun c_949 => ?_)
        · skip
          refine lv_goto (tgt := 1420) hx hb dL_law_964 (by decide) ?_
          have hP := fl_sub (bs' := [u_913, u_937, [(oa, aJ cy 1 (g))]]) hP [0, 2, 1] rfl
          have hD := fl_subD (bs' := [u_913, u_937, [(oa, aJ cy 1 (g))]]) hD [0, 2, 1] (by decide) rfl
          exact kk T hz HZ len tx 2 _ _ _ _ _ _ ⟨⟨la, lv9, ls9, fa, xh, xs, la2, lv92, ls92, fb, fw, bu, ta, rc, re, gb, oc, oe, rs, rc2, re2, gb2, oc2, oe2, rs2, rr, ad, h_913⟩, ⟨mz, msv, mtx, mmo, mif, mmg, mtn, mie, mme, mrd, mas, h_937⟩, gT, hHG, (by omega)⟩ hP hD hS (lv_sub hl [2, 3, 4, 5, 6] rfl)
        · skip
          exact absurd c_949 (by decide)
      · skip
        exact absurd c_942 (by decide)
  · skip
    refine lv_aload_n hx hb dL_law_899 rfl (lv_at hl 1 rfl) ?_
    refine lv_aload_n hx hb dL_law_900 rfl (lv_at hl 0 rfl) ?_
    refine lv_iload hx hb dL_law_901 (lv_at hl 4 rfl) ?_
    refine q_iconst hx hb dL_law_903 ?_
    refine q_iadd hx hb dL_law_904 ?_
    refine q_sld (j := 6 * t + 1) hx hb hX hbl hbA hS (by omega) ep0 dL_law_905 ?_
    refine lv_aload_n hx hb dL_law_906 rfl (lv_at hl 0 rfl) ?_
    refine lv_iload hx hb dL_law_907 (lv_at hl 4 rfl) ?_
    refine q_iconst hx hb dL_law_909 ?_
    refine q_iadd hx hb dL_law_910 ?_
    refine q_sld (j := 6 * t + 2) hx hb hX hbl hbA hS (by omega) ep1 dL_law_911 ?_
    refine lv_aload_n hx hb dL_law_912 rfl (lv_at hl 3 rfl) ?_
    refine q_backiX (mc := 1) (ms := 6) [0, 2] [1] (br := [M9]) hP hD hS hA (vx_runSW (As := [.ref (x), .int (qI (p0)), .int (qI (p1)), .ref (oa)]) (rest := []) ⟨hx, hb, hml, hown, hg⟩ (c_L_condition_no1 l hlt9 D cy x la lv9 ls9 fa xh xs la2 lv92 ls92 fb fw bu ta rc re gb oc oe rs rc2 re2 gb2 oc2 oe2 rs2 rr ad T hz HZ len tx _ gT.1 hC9 oa _ p0 p1 (by omega) (by omega) (by omega) _) (csW_L_134 hg rfl rfl ⟨(Nat.le_of_ble_eq_true rfl), (Nat.le_of_ble_eq_true rfl)⟩) ⟨q_blindW, fun U hU hU9 => ⟨rfl, (q_preM [.ref (x), .int (qI (p0)), .int (qI (p1)), .ref (oa)] hK hN hP hD [0, 2] (by decide) rfl U hU hU9).2, hEx9.step hU9 (by rw [hU]; exact hS.2.1) (fl_free hD hS hA [0, 2] rfl), hNc9.moved hU9.alike⟩⟩ rfl rfl hl.1 rfl (lv_room (Nat.le_of_ble_eq_true rfl)) dL_law_913 ⟨(by show cells + 1 ≤ 601024; omega), (by show slots + 6 ≤ 7293034; omega)⟩) rfl rfl (by decide) (fun r_913 u_913 H locs h_913 hP hD hS => ?_)
    obtain ⟨rfl, h_913⟩ := h_913
    have hP : va_P D vwCl [M9, u_913, [(oa, aJ cy 1 (g))]].flatten H := hP
    have hD : va_D A [M9, u_913, [(oa, aJ cy 1 (g))]].flatten := hD
    refine lv_istore (lv' := [(5, .int (qI (1))), (0, .ref (b)), (1, .ref (x)), (2, .ref (mo)), (3, .ref (oa)), (4, .int (qI (((6 * t : Nat) : Int))))]) hx hb dL_law_916 hl (by decide) rfl (fun ls hl => ?_)
    refine lv_aload_n hx hb dL_law_918 rfl (lv_at hl 3 rfl) ?_
    refine lv_aload_n hx hb dL_law_919 rfl (lv_at hl 1 rfl) ?_
    refine lv_iload hx hb dL_law_920 (lv_at hl 5 rfl) ?_
    refine q_iconst hx hb dL_law_922 ?_
    refine q_iadd hx hb dL_law_923 ?_
    refine q_sld (j := 6 * t + 1) hx hb hX hbl hbA hS (by omega) ep0 dL_law_924 ?_
    refine lv_aload_n hx hb dL_law_925 rfl (lv_at hl 1 rfl) ?_
    refine lv_iload hx hb dL_law_926 (lv_at hl 5 rfl) ?_
    refine q_iconst hx hb dL_law_928 ?_
    refine q_iadd hx hb dL_law_929 ?_
    refine q_sld (j := 6 * t + 2) hx hb hX hbl hbA hS (by omega) ep1 dL_law_930 ?_
    refine q_backi [0] [1, 2] (br := [u_913, [(oa, aJ cy 1 (g))]]) hP hD hS hA (va_runV (As := [.int (qI (p0)), .int (qI (p1))]) (rest := []) ⟨hx, hb, hml, hown, hg⟩ (c_X8_condition_no1 l D cy mo mz msv mtx mmo mif mmg mtn mie mme mrd mas T hz HZ len tx th _ gT.1 hM9 p0 p1 (by omega) (by omega) (by omega) _) (cv_L_136 hg rfl rfl ⟨(Nat.le_of_ble_eq_true rfl), (Nat.le_of_ble_eq_true rfl)⟩) ⟨q_blind, va_recv hK (fl_blk hP 0 rfl) (ci := 8) (q0 := 0) rfl hfsM, q_preM _ hK hN hP hD [0] (by decide) rfl⟩ rfl rfl hl.1 rfl (lv_room (Nat.le_of_ble_eq_true rfl)) dL_law_931 ⟨(by show _ + 0 ≤ 601024; omega), (by show _ + 0 ≤ 7293034; omega)⟩) rfl rfl (by decide) (fun r_931 u_931 H locs h_931 hP hD hS => ?_)
    have hP : va_P D vwCl [u_913, [(oa, aJ cy 1 (g))], u_931].flatten H := hP
    have hD : va_D A [u_913, [(oa, aJ cy 1 (g))], u_931].flatten := hD
    obtain ⟨fs_931, hfs_931⟩ := MW_at h_931
    have gk9 : gOk (T) := gT.1
    refine lv_istore (lv' := [(6, .int (r_931)), (5, .int (qI (1))), (0, .ref (b)), (1, .ref (x)), (2, .ref (mo)), (3, .ref (oa)), (4, .int (qI (((6 * t : Nat) : Int))))]) hx hb dL_law_934 hl (by decide) rfl (fun ls hl => ?_)
    refine lv_aload_n hx hb dL_law_936 rfl (lv_at hl 4 rfl) ?_
    refine q_backi [2] [0, 1] (br := [u_913, [(oa, aJ cy 1 (g))]]) hP hD hS hA (va_runV (As := []) (rest := []) ⟨hx, hb, hml, hown, hg⟩ (c_X8_thrown l D cy mo mz msv mtx mmo mif mmg mtn mie mme mrd mas T hz HZ len tx 1 _ gk9 h_931 _) (cv_L_85 hg rfl rfl ⟨(Nat.le_of_ble_eq_true rfl), (Nat.le_of_ble_eq_true rfl)⟩) ⟨q_blind, va_recv hK (fl_blk hP 2 rfl) (ci := 8) (q0 := 0) rfl hfs_931, q_preM _ hK hN hP hD [2] (by decide) rfl⟩ rfl rfl hl.1 rfl (lv_room (Nat.le_of_ble_eq_true rfl)) dL_law_937 ⟨(by show _ + 0 ≤ 601024; omega), (by show _ + 0 ≤ 7293034; omega)⟩) rfl rfl (by decide) (fun r_937 u_937 H locs h_937 hP hD hS => ?_)
    have hP : va_P D vwCl [u_913, [(oa, aJ cy 1 (g))], u_937].flatten H := hP
    have hD : va_D A [u_913, [(oa, aJ cy 1 (g))], u_937].flatten := hD
    obtain ⟨rfl, h_937⟩ := h_937
    refine lv_iload hx hb dL_law_940 (lv_at hl 1 rfl) ?_
    refine q_icmp_eq (tgt := 947) hx hb dL_law_942 (by decide) (by omega) (fun c_942 => ?_) (fun c_942 => ?_)
    · skip
      refine lv_iload hx hb dL_law_947 (lv_at hl 1 rfl) ?_
      refine q_if_ne (tgt := 964) hx hb dL_law_949 (by decide) (by omega) (fun c_949 => ?_) (fun c_949 => ?_)
      · skip
        refine lv_goto (tgt := 1420) hx hb dL_law_964 (by decide) ?_
        have hP := fl_sub (bs' := [u_913, u_937, [(oa, aJ cy 1 (g))]]) hP [0, 2, 1] rfl
        have hD := fl_subD (bs' := [u_913, u_937, [(oa, aJ cy 1 (g))]]) hD [0, 2, 1] (by decide) rfl
        exact kk T hz HZ len tx 1 _ _ _ _ _ _ ⟨⟨la, lv9, ls9, fa, xh, xs, la2, lv92, ls92, fb, fw, bu, ta, rc, re, gb, oc, oe, rs, rc2, re2, gb2, oc2, oe2, rs2, rr, ad, h_913⟩, ⟨mz, msv, mtx, mmo, mif, mmg, mtn, mie, mme, mrd, mas, h_937⟩, gT, hHG, (by omega)⟩ hP hD hS (lv_sub hl [2, 3, 4, 5, 6] rfl)
      · skip
        exact absurd c_949 (by decide)
    · skip
      exact absurd c_942 (by decide)

set_option maxRecDepth 100000 in
set_option maxHeartbeats 4000000 in
theorem lw_edited {p : Program} {l : Launch} {e : Env} {s : State} {m : MethodId} {below : List Frame} {meth : Method} {c : Code} {b L : Nat} {sc9 : Nat → Int32} {D : va_G} {cy : Nat → ClassId} {A : Nat → Prop} {Q : State → Prop} (hlt9 : l.stackTraces = false) (B9 : lwB p s m c b L sc9 D cy A) {x mo oa t : Nat} (ht9 : 6 * t + 6 ≤ L) {T : LSt} {hz : Nat} {HZ : Nat → LSt} {len : Nat} {tx : Nat → Int} {th : Int} {W9 M9 : va_W} {g : Nat → Int64} {cells slots : Nat} (hr9 : cells ≤ 1000 ∧ slots ≤ 8000) (hI9 : lwI cy x mo T hz HZ len tx th W9 M9) {H : Heap} {locs : List Loc} {ls : Array Slot} (hP : va_P D vwCl [W9, M9, [(oa, aJ cy 1 g)]].flatten H) (hD : va_D A [W9, M9, [(oa, aJ cy 1 g)]].flatten) (hS : va_S A s.heap H locs) (hl : lv_has ls 9 (lwL b x mo oa t)) (kk : lwK p l e s m below meth c b D cy A Q x mo oa t cells slots) : W p l e room_1 s m #[Value.ref b] below meth c H locs cells slots Q (F0 m 967 ls []) := by
  obtain ⟨hx, hb, hml, hown, hg, hX, hbl, hbA, hA, hK, hN, hEx9, hNc9, hL9⟩ := B9
  obtain ⟨⟨la, lv9, ls9, fa, xh, xs, la2, lv92, ls92, fb, fw, bu, ta, rc, re, gb, oc, oe, rs, rc2, re2, gb2, oc2, oe2, rs2, rr, ad, hC9⟩, ⟨mz, msv, mtx, mmo, mif, mmg, mtn, mie, mme, mrd, mas, hM9⟩, gT, hHG, hln9⟩ := hI9
  have gT3 := gT.2
  have gN16 : lN9 T ≤ 16 := gT.1.2.2.1.1
  obtain ⟨fsC, hfsC⟩ := CW_at hC9
  obtain ⟨fsM, hfsM⟩ := MW_at hM9
  have hl : lv_has ls 9 [(0, .ref (b)), (1, .ref (x)), (2, .ref (mo)), (3, .ref (oa)), (4, .int (qI (((6 * t : Nat) : Int))))] := hl
  obtain ⟨p0, ep0⟩ : ∃ z : Int, (sc9 (6 * t + 1)).toInt = z := ⟨_, rfl⟩
  have r0 : -2147483648 ≤ p0 ∧ p0 < 2147483648 := by rw [← ep0]; exact ⟨Int32.le_toInt _, Int32.toInt_lt _⟩
  obtain ⟨p1, ep1⟩ : ∃ z : Int, (sc9 (6 * t + 2)).toInt = z := ⟨_, rfl⟩
  have r1 : -2147483648 ≤ p1 ∧ p1 < 2147483648 := by rw [← ep1]; exact ⟨Int32.le_toInt _, Int32.toInt_lt _⟩
  by_cases cA9 : 0 ≤ p0 ∧ p0 < (lM T : Int)
  · skip
    by_cases cB9 : 0 ≤ p1 ∧ p1 ≤ 4
    · skip
      refine lv_aload_n hx hb dL_law_967 rfl (lv_at hl 1 rfl) ?_
      refine lv_aload_n hx hb dL_law_968 rfl (lv_at hl 0 rfl) ?_
      refine lv_iload hx hb dL_law_969 (lv_at hl 4 rfl) ?_
      refine q_iconst hx hb dL_law_971 ?_
      refine q_iadd hx hb dL_law_972 ?_
      refine q_sld (j := 6 * t + 1) hx hb hX hbl hbA hS (by omega) ep0 dL_law_973 ?_
      refine lv_aload_n hx hb dL_law_974 rfl (lv_at hl 0 rfl) ?_
      refine lv_iload hx hb dL_law_975 (lv_at hl 4 rfl) ?_
      refine q_iconst hx hb dL_law_977 ?_
      refine q_iadd hx hb dL_law_978 ?_
      refine q_sld (j := 6 * t + 2) hx hb hX hbl hbA hS (by omega) ep1 dL_law_979 ?_
      refine lv_aload_n hx hb dL_law_980 rfl (lv_at hl 3 rfl) ?_
      refine q_backiX (mc := 0) (ms := 0) [0, 2] [1] (br := [M9]) hP hD hS hA (vx_runSW (As := [.ref (x), .int (qI (p0)), .int (qI (p1)), .ref (oa)]) (rest := []) ⟨hx, hb, hml, hown, hg⟩ (c_L_edited l D cy x la lv9 ls9 fa xh xs la2 lv92 ls92 fb fw bu ta rc re gb oc oe rs rc2 re2 gb2 oc2 oe2 rs2 rr ad T hz HZ len tx _ gT.1 hC9 oa _ p0 p1 p0.toNat (by omega) (by omega) _) (csW_L_137 hg rfl rfl ⟨(Nat.le_of_ble_eq_true rfl), (Nat.le_of_ble_eq_true rfl)⟩) ⟨q_blind, q_preM [.ref (x), .int (qI (p0)), .int (qI (p1)), .ref (oa)] hK hN hP hD [0, 2] (by decide) rfl⟩ rfl rfl hl.1 rfl (lv_room (Nat.le_of_ble_eq_true rfl)) dL_law_981 ⟨(by show cells + 0 ≤ 601024; omega), (by show slots + 0 ≤ 7293034; omega)⟩) rfl rfl (by decide) (fun r_981 u_981 H locs h_981 hP hD hS => ?_)
      obtain ⟨rfl, h_981⟩ := h_981
      have hP : va_P D vwCl [M9, u_981, [(oa, aJ cy 1 (qu (g) 0 ((qI (edT T p0.toNat p1)).toInt64)))]].flatten H := hP
      have hD : va_D A [M9, u_981, [(oa, aJ cy 1 (qu (g) 0 ((qI (edT T p0.toNat p1)).toInt64)))]].flatten := hD
      refine lv_istore (lv' := [(5, .int (qI (0))), (0, .ref (b)), (1, .ref (x)), (2, .ref (mo)), (3, .ref (oa)), (4, .int (qI (((6 * t : Nat) : Int))))]) hx hb dL_law_984 hl (by decide) rfl (fun ls hl => ?_)
      refine lv_aload_n hx hb dL_law_986 rfl (lv_at hl 3 rfl) ?_
      refine lv_aload_n hx hb dL_law_987 rfl (lv_at hl 1 rfl) ?_
      refine lv_iload hx hb dL_law_988 (lv_at hl 5 rfl) ?_
      refine q_iconst hx hb dL_law_990 ?_
      refine q_iadd hx hb dL_law_991 ?_
      refine q_sld (j := 6 * t + 1) hx hb hX hbl hbA hS (by omega) ep0 dL_law_992 ?_
      refine lv_aload_n hx hb dL_law_993 rfl (lv_at hl 1 rfl) ?_
      refine lv_iload hx hb dL_law_994 (lv_at hl 5 rfl) ?_
      refine q_iconst hx hb dL_law_996 ?_
      refine q_iadd hx hb dL_law_997 ?_
      refine q_sld (j := 6 * t + 2) hx hb hX hbl hbA hS (by omega) ep1 dL_law_998 ?_
      refine q_backi [0] [1, 2] (br := [u_981, [(oa, aJ cy 1 (qu (g) 0 ((qI (edT T p0.toNat p1)).toInt64)))]]) hP hD hS hA (va_runV (As := [.int (qI (p0)), .int (qI (p1))]) (rest := []) ⟨hx, hb, hml, hown, hg⟩ (c_X8_edited l D cy mo mz msv mtx mmo mif mmg mtn mie mme mrd mas T hz HZ len tx th _ gT.1 hM9 p0 p1 p0.toNat (by omega) (by omega) _) (cv_L_139 hg rfl rfl ⟨(Nat.le_of_ble_eq_true rfl), (Nat.le_of_ble_eq_true rfl)⟩) ⟨q_blind, va_recv hK (fl_blk hP 0 rfl) (ci := 8) (q0 := 0) rfl hfsM, q_preM _ hK hN hP hD [0] (by decide) rfl⟩ rfl rfl hl.1 rfl (lv_room (Nat.le_of_ble_eq_true rfl)) dL_law_999 ⟨(by show _ + 0 ≤ 601024; omega), (by show _ + 0 ≤ 7293034; omega)⟩) rfl rfl (by decide) (fun r_999 u_999 H locs h_999 hP hD hS => ?_)
      have hP : va_P D vwCl [u_981, [(oa, aJ cy 1 (qu (g) 0 ((qI (edT T p0.toNat p1)).toInt64)))], u_999].flatten H := hP
      have hD : va_D A [u_981, [(oa, aJ cy 1 (qu (g) 0 ((qI (edT T p0.toNat p1)).toInt64)))], u_999].flatten := hD
      obtain ⟨rfl, h_999⟩ := h_999
      obtain ⟨fs_999, hfs_999⟩ := MW_at h_999
      have gk9 : gOk (T) := gT.1
      refine lv_istore (lv' := [(6, .int (qI (edT T p0.toNat p1))), (5, .int (qI (0))), (0, .ref (b)), (1, .ref (x)), (2, .ref (mo)), (3, .ref (oa)), (4, .int (qI (((6 * t : Nat) : Int))))]) hx hb dL_law_1002 hl (by decide) rfl (fun ls hl => ?_)
      refine lv_aload_n hx hb dL_law_1004 rfl (lv_at hl 4 rfl) ?_
      refine q_backi [2] [0, 1] (br := [u_981, [(oa, aJ cy 1 (qu (g) 0 ((qI (edT T p0.toNat p1)).toInt64)))]]) hP hD hS hA (va_runV (As := []) (rest := []) ⟨hx, hb, hml, hown, hg⟩ (c_X8_thrown l D cy mo mz msv mtx mmo mif mmg mtn mie mme mrd mas T hz HZ len tx 0 _ gk9 h_999 _) (cv_L_85 hg rfl rfl ⟨(Nat.le_of_ble_eq_true rfl), (Nat.le_of_ble_eq_true rfl)⟩) ⟨q_blind, va_recv hK (fl_blk hP 2 rfl) (ci := 8) (q0 := 0) rfl hfs_999, q_preM _ hK hN hP hD [2] (by decide) rfl⟩ rfl rfl hl.1 rfl (lv_room (Nat.le_of_ble_eq_true rfl)) dL_law_1005 ⟨(by show _ + 0 ≤ 601024; omega), (by show _ + 0 ≤ 7293034; omega)⟩) rfl rfl (by decide) (fun r_1005 u_1005 H locs h_1005 hP hD hS => ?_)
      have hP : va_P D vwCl [u_981, [(oa, aJ cy 1 (qu (g) 0 ((qI (edT T p0.toNat p1)).toInt64)))], u_1005].flatten H := hP
      have hD : va_D A [u_981, [(oa, aJ cy 1 (qu (g) 0 ((qI (edT T p0.toNat p1)).toInt64)))], u_1005].flatten := hD
      obtain ⟨rfl, h_1005⟩ := h_1005
      refine lv_iload hx hb dL_law_1008 (lv_at hl 1 rfl) ?_
      refine q_icmp_eq (tgt := 1015) hx hb dL_law_1010 (by decide) (by omega) (fun c_1010 => ?_) (fun c_1010 => ?_)
      · skip
        refine lv_iload hx hb dL_law_1015 (lv_at hl 1 rfl) ?_
        refine q_if_ne (tgt := 1032) hx hb dL_law_1017 (by decide) (by omega) (fun c_1017 => ?_) (fun c_1017 => ?_)
        · skip
          exact absurd c_1017 (by decide)
        · skip
          refine lv_aload_n hx hb dL_law_1020 rfl (lv_at hl 5 rfl) ?_
          refine q_iconst hx hb dL_law_1021 ?_
          refine q_laldW (j := 0) (v := (qI (edT T p0.toNat p1)).toInt64) hx hb hK (fl_blk hP 1 rfl) 0 rfl (by omega) (qu_s _ _ _) dL_law_1022 ?_
          refine lv_iload hx hb dL_law_1023 (lv_at hl 0 rfl) ?_
          refine lv_i2l hx hb dL_law_1025 rfl ?_
          refine q_lcmp0 hx hb dL_law_1026 ?_
          refine q_if_eq (tgt := 1032) hx hb dL_law_1027 (by decide) (by omega) (fun c_1027 => ?_) (fun c_1027 => ?_)
          · skip
            refine lv_goto (tgt := 1420) hx hb dL_law_1032 (by decide) ?_
            have hP := fl_sub (bs' := [u_981, u_1005, [(oa, aJ cy 1 (qu (g) 0 ((qI (edT T p0.toNat p1)).toInt64)))]]) hP [0, 2, 1] rfl
            have hD := fl_subD (bs' := [u_981, u_1005, [(oa, aJ cy 1 (qu (g) 0 ((qI (edT T p0.toNat p1)).toInt64)))]]) hD [0, 2, 1] (by decide) rfl
            refine W.widen (k := cells + 1) (n := slots + 6) (by omega) (by omega) ?_
            exact kk T hz HZ len tx 0 _ _ _ _ _ _ ⟨⟨la, lv9, ls9, fa, xh, xs, la2, lv92, ls92, fb, fw, bu, ta, rc, re, gb, oc, oe, rs, rc2, re2, gb2, oc2, oe2, rs2, rr, ad, h_981⟩, ⟨mz, msv, mtx, mmo, mif, mmg, mtn, mie, mme, mrd, mas, h_1005⟩, ⟨gT.1, gT3⟩, hHG, (by omega)⟩ hP hD hS (lv_sub hl [2, 3, 4, 5, 6] rfl)
          · skip
            exact absurd c_1027 (by decide)
      · skip
        exact absurd c_1010 (by decide)
    · skip
      refine lv_aload_n hx hb dL_law_967 rfl (lv_at hl 1 rfl) ?_
      refine lv_aload_n hx hb dL_law_968 rfl (lv_at hl 0 rfl) ?_
      refine lv_iload hx hb dL_law_969 (lv_at hl 4 rfl) ?_
      refine q_iconst hx hb dL_law_971 ?_
      refine q_iadd hx hb dL_law_972 ?_
      refine q_sld (j := 6 * t + 1) hx hb hX hbl hbA hS (by omega) ep0 dL_law_973 ?_
      refine lv_aload_n hx hb dL_law_974 rfl (lv_at hl 0 rfl) ?_
      refine lv_iload hx hb dL_law_975 (lv_at hl 4 rfl) ?_
      refine q_iconst hx hb dL_law_977 ?_
      refine q_iadd hx hb dL_law_978 ?_
      refine q_sld (j := 6 * t + 2) hx hb hX hbl hbA hS (by omega) ep1 dL_law_979 ?_
      refine lv_aload_n hx hb dL_law_980 rfl (lv_at hl 3 rfl) ?_
      refine q_backiX (mc := 1) (ms := 6) [0, 2] [1] (br := [M9]) hP hD hS hA (vx_runSW (As := [.ref (x), .int (qI (p0)), .int (qI (p1)), .ref (oa)]) (rest := []) ⟨hx, hb, hml, hown, hg⟩ (c_L_edited_no2 l hlt9 D cy x la lv9 ls9 fa xh xs la2 lv92 ls92 fb fw bu ta rc re gb oc oe rs rc2 re2 gb2 oc2 oe2 rs2 rr ad T hz HZ len tx _ gT.1 hC9 oa _ p0 p1 (by omega) (by omega) (by omega) (by omega) _) (csW_L_137 hg rfl rfl ⟨(Nat.le_of_ble_eq_true rfl), (Nat.le_of_ble_eq_true rfl)⟩) ⟨q_blindW, fun U hU hU9 => ⟨rfl, (q_preM [.ref (x), .int (qI (p0)), .int (qI (p1)), .ref (oa)] hK hN hP hD [0, 2] (by decide) rfl U hU hU9).2, hEx9.step hU9 (by rw [hU]; exact hS.2.1) (fl_free hD hS hA [0, 2] rfl), hNc9.moved hU9.alike⟩⟩ rfl rfl hl.1 rfl (lv_room (Nat.le_of_ble_eq_true rfl)) dL_law_981 ⟨(by show cells + 1 ≤ 601024; omega), (by show slots + 6 ≤ 7293034; omega)⟩) rfl rfl (by decide) (fun r_981 u_981 H locs h_981 hP hD hS => ?_)
      obtain ⟨rfl, h_981⟩ := h_981
      have hP : va_P D vwCl [M9, u_981, [(oa, aJ cy 1 (g))]].flatten H := hP
      have hD : va_D A [M9, u_981, [(oa, aJ cy 1 (g))]].flatten := hD
      refine lv_istore (lv' := [(5, .int (qI (2))), (0, .ref (b)), (1, .ref (x)), (2, .ref (mo)), (3, .ref (oa)), (4, .int (qI (((6 * t : Nat) : Int))))]) hx hb dL_law_984 hl (by decide) rfl (fun ls hl => ?_)
      refine lv_aload_n hx hb dL_law_986 rfl (lv_at hl 3 rfl) ?_
      refine lv_aload_n hx hb dL_law_987 rfl (lv_at hl 1 rfl) ?_
      refine lv_iload hx hb dL_law_988 (lv_at hl 5 rfl) ?_
      refine q_iconst hx hb dL_law_990 ?_
      refine q_iadd hx hb dL_law_991 ?_
      refine q_sld (j := 6 * t + 1) hx hb hX hbl hbA hS (by omega) ep0 dL_law_992 ?_
      refine lv_aload_n hx hb dL_law_993 rfl (lv_at hl 1 rfl) ?_
      refine lv_iload hx hb dL_law_994 (lv_at hl 5 rfl) ?_
      refine q_iconst hx hb dL_law_996 ?_
      refine q_iadd hx hb dL_law_997 ?_
      refine q_sld (j := 6 * t + 2) hx hb hX hbl hbA hS (by omega) ep1 dL_law_998 ?_
      refine q_backi [0] [1, 2] (br := [u_981, [(oa, aJ cy 1 (g))]]) hP hD hS hA (va_runV (As := [.int (qI (p0)), .int (qI (p1))]) (rest := []) ⟨hx, hb, hml, hown, hg⟩ (c_X8_edited_no2 l D cy mo mz msv mtx mmo mif mmg mtn mie mme mrd mas T hz HZ len tx th _ gT.1 hM9 p0 p1 (by omega) (by omega) (by omega) (by omega) _) (cv_L_139 hg rfl rfl ⟨(Nat.le_of_ble_eq_true rfl), (Nat.le_of_ble_eq_true rfl)⟩) ⟨q_blind, va_recv hK (fl_blk hP 0 rfl) (ci := 8) (q0 := 0) rfl hfsM, q_preM _ hK hN hP hD [0] (by decide) rfl⟩ rfl rfl hl.1 rfl (lv_room (Nat.le_of_ble_eq_true rfl)) dL_law_999 ⟨(by show _ + 0 ≤ 601024; omega), (by show _ + 0 ≤ 7293034; omega)⟩) rfl rfl (by decide) (fun r_999 u_999 H locs h_999 hP hD hS => ?_)
      have hP : va_P D vwCl [u_981, [(oa, aJ cy 1 (g))], u_999].flatten H := hP
      have hD : va_D A [u_981, [(oa, aJ cy 1 (g))], u_999].flatten := hD
      obtain ⟨fs_999, hfs_999⟩ := MW_at h_999
      have gk9 : gOk (T) := gT.1
      refine lv_istore (lv' := [(6, .int (r_999)), (5, .int (qI (2))), (0, .ref (b)), (1, .ref (x)), (2, .ref (mo)), (3, .ref (oa)), (4, .int (qI (((6 * t : Nat) : Int))))]) hx hb dL_law_1002 hl (by decide) rfl (fun ls hl => ?_)
      refine lv_aload_n hx hb dL_law_1004 rfl (lv_at hl 4 rfl) ?_
      refine q_backi [2] [0, 1] (br := [u_981, [(oa, aJ cy 1 (g))]]) hP hD hS hA (va_runV (As := []) (rest := []) ⟨hx, hb, hml, hown, hg⟩ (c_X8_thrown l D cy mo mz msv mtx mmo mif mmg mtn mie mme mrd mas T hz HZ len tx 2 _ gk9 h_999 _) (cv_L_85 hg rfl rfl ⟨(Nat.le_of_ble_eq_true rfl), (Nat.le_of_ble_eq_true rfl)⟩) ⟨q_blind, va_recv hK (fl_blk hP 2 rfl) (ci := 8) (q0 := 0) rfl hfs_999, q_preM _ hK hN hP hD [2] (by decide) rfl⟩ rfl rfl hl.1 rfl (lv_room (Nat.le_of_ble_eq_true rfl)) dL_law_1005 ⟨(by show _ + 0 ≤ 601024; omega), (by show _ + 0 ≤ 7293034; omega)⟩) rfl rfl (by decide) (fun r_1005 u_1005 H locs h_1005 hP hD hS => ?_)
      have hP : va_P D vwCl [u_981, [(oa, aJ cy 1 (g))], u_1005].flatten H := hP
      have hD : va_D A [u_981, [(oa, aJ cy 1 (g))], u_1005].flatten := hD
      obtain ⟨rfl, h_1005⟩ := h_1005
      refine lv_iload hx hb dL_law_1008 (lv_at hl 1 rfl) ?_
      refine q_icmp_eq (tgt := 1015) hx hb dL_law_1010 (by decide) (by omega) (fun c_1010 => ?_) (fun c_1010 => ?_)
      · skip
        refine lv_iload hx hb dL_law_1015 (lv_at hl 1 rfl) ?_
        refine q_if_ne (tgt := 1032) hx hb dL_law_1017 (by decide) (by omega) (fun c_1017 => ?_) (fun c_1017 => ?_)
        · skip
          refine lv_goto (tgt := 1420) hx hb dL_law_1032 (by decide) ?_
          have hP := fl_sub (bs' := [u_981, u_1005, [(oa, aJ cy 1 (g))]]) hP [0, 2, 1] rfl
          have hD := fl_subD (bs' := [u_981, u_1005, [(oa, aJ cy 1 (g))]]) hD [0, 2, 1] (by decide) rfl
          exact kk T hz HZ len tx 2 _ _ _ _ _ _ ⟨⟨la, lv9, ls9, fa, xh, xs, la2, lv92, ls92, fb, fw, bu, ta, rc, re, gb, oc, oe, rs, rc2, re2, gb2, oc2, oe2, rs2, rr, ad, h_981⟩, ⟨mz, msv, mtx, mmo, mif, mmg, mtn, mie, mme, mrd, mas, h_1005⟩, gT, hHG, (by omega)⟩ hP hD hS (lv_sub hl [2, 3, 4, 5, 6] rfl)
        · skip
          exact absurd c_1017 (by decide)
      · skip
        exact absurd c_1010 (by decide)
  · skip
    refine lv_aload_n hx hb dL_law_967 rfl (lv_at hl 1 rfl) ?_
    refine lv_aload_n hx hb dL_law_968 rfl (lv_at hl 0 rfl) ?_
    refine lv_iload hx hb dL_law_969 (lv_at hl 4 rfl) ?_
    refine q_iconst hx hb dL_law_971 ?_
    refine q_iadd hx hb dL_law_972 ?_
    refine q_sld (j := 6 * t + 1) hx hb hX hbl hbA hS (by omega) ep0 dL_law_973 ?_
    refine lv_aload_n hx hb dL_law_974 rfl (lv_at hl 0 rfl) ?_
    refine lv_iload hx hb dL_law_975 (lv_at hl 4 rfl) ?_
    refine q_iconst hx hb dL_law_977 ?_
    refine q_iadd hx hb dL_law_978 ?_
    refine q_sld (j := 6 * t + 2) hx hb hX hbl hbA hS (by omega) ep1 dL_law_979 ?_
    refine lv_aload_n hx hb dL_law_980 rfl (lv_at hl 3 rfl) ?_
    refine q_backiX (mc := 1) (ms := 6) [0, 2] [1] (br := [M9]) hP hD hS hA (vx_runSW (As := [.ref (x), .int (qI (p0)), .int (qI (p1)), .ref (oa)]) (rest := []) ⟨hx, hb, hml, hown, hg⟩ (c_L_edited_no1 l hlt9 D cy x la lv9 ls9 fa xh xs la2 lv92 ls92 fb fw bu ta rc re gb oc oe rs rc2 re2 gb2 oc2 oe2 rs2 rr ad T hz HZ len tx _ gT.1 hC9 oa _ p0 p1 (by omega) (by omega) (by omega) _) (csW_L_137 hg rfl rfl ⟨(Nat.le_of_ble_eq_true rfl), (Nat.le_of_ble_eq_true rfl)⟩) ⟨q_blindW, fun U hU hU9 => ⟨rfl, (q_preM [.ref (x), .int (qI (p0)), .int (qI (p1)), .ref (oa)] hK hN hP hD [0, 2] (by decide) rfl U hU hU9).2, hEx9.step hU9 (by rw [hU]; exact hS.2.1) (fl_free hD hS hA [0, 2] rfl), hNc9.moved hU9.alike⟩⟩ rfl rfl hl.1 rfl (lv_room (Nat.le_of_ble_eq_true rfl)) dL_law_981 ⟨(by show cells + 1 ≤ 601024; omega), (by show slots + 6 ≤ 7293034; omega)⟩) rfl rfl (by decide) (fun r_981 u_981 H locs h_981 hP hD hS => ?_)
    obtain ⟨rfl, h_981⟩ := h_981
    have hP : va_P D vwCl [M9, u_981, [(oa, aJ cy 1 (g))]].flatten H := hP
    have hD : va_D A [M9, u_981, [(oa, aJ cy 1 (g))]].flatten := hD
    refine lv_istore (lv' := [(5, .int (qI (1))), (0, .ref (b)), (1, .ref (x)), (2, .ref (mo)), (3, .ref (oa)), (4, .int (qI (((6 * t : Nat) : Int))))]) hx hb dL_law_984 hl (by decide) rfl (fun ls hl => ?_)
    refine lv_aload_n hx hb dL_law_986 rfl (lv_at hl 3 rfl) ?_
    refine lv_aload_n hx hb dL_law_987 rfl (lv_at hl 1 rfl) ?_
    refine lv_iload hx hb dL_law_988 (lv_at hl 5 rfl) ?_
    refine q_iconst hx hb dL_law_990 ?_
    refine q_iadd hx hb dL_law_991 ?_
    refine q_sld (j := 6 * t + 1) hx hb hX hbl hbA hS (by omega) ep0 dL_law_992 ?_
    refine lv_aload_n hx hb dL_law_993 rfl (lv_at hl 1 rfl) ?_
    refine lv_iload hx hb dL_law_994 (lv_at hl 5 rfl) ?_
    refine q_iconst hx hb dL_law_996 ?_
    refine q_iadd hx hb dL_law_997 ?_
    refine q_sld (j := 6 * t + 2) hx hb hX hbl hbA hS (by omega) ep1 dL_law_998 ?_
    refine q_backi [0] [1, 2] (br := [u_981, [(oa, aJ cy 1 (g))]]) hP hD hS hA (va_runV (As := [.int (qI (p0)), .int (qI (p1))]) (rest := []) ⟨hx, hb, hml, hown, hg⟩ (c_X8_edited_no1 l D cy mo mz msv mtx mmo mif mmg mtn mie mme mrd mas T hz HZ len tx th _ gT.1 hM9 p0 p1 (by omega) (by omega) (by omega) _) (cv_L_139 hg rfl rfl ⟨(Nat.le_of_ble_eq_true rfl), (Nat.le_of_ble_eq_true rfl)⟩) ⟨q_blind, va_recv hK (fl_blk hP 0 rfl) (ci := 8) (q0 := 0) rfl hfsM, q_preM _ hK hN hP hD [0] (by decide) rfl⟩ rfl rfl hl.1 rfl (lv_room (Nat.le_of_ble_eq_true rfl)) dL_law_999 ⟨(by show _ + 0 ≤ 601024; omega), (by show _ + 0 ≤ 7293034; omega)⟩) rfl rfl (by decide) (fun r_999 u_999 H locs h_999 hP hD hS => ?_)
    have hP : va_P D vwCl [u_981, [(oa, aJ cy 1 (g))], u_999].flatten H := hP
    have hD : va_D A [u_981, [(oa, aJ cy 1 (g))], u_999].flatten := hD
    obtain ⟨fs_999, hfs_999⟩ := MW_at h_999
    have gk9 : gOk (T) := gT.1
    refine lv_istore (lv' := [(6, .int (r_999)), (5, .int (qI (1))), (0, .ref (b)), (1, .ref (x)), (2, .ref (mo)), (3, .ref (oa)), (4, .int (qI (((6 * t : Nat) : Int))))]) hx hb dL_law_1002 hl (by decide) rfl (fun ls hl => ?_)
    refine lv_aload_n hx hb dL_law_1004 rfl (lv_at hl 4 rfl) ?_
    refine q_backi [2] [0, 1] (br := [u_981, [(oa, aJ cy 1 (g))]]) hP hD hS hA (va_runV (As := []) (rest := []) ⟨hx, hb, hml, hown, hg⟩ (c_X8_thrown l D cy mo mz msv mtx mmo mif mmg mtn mie mme mrd mas T hz HZ len tx 1 _ gk9 h_999 _) (cv_L_85 hg rfl rfl ⟨(Nat.le_of_ble_eq_true rfl), (Nat.le_of_ble_eq_true rfl)⟩) ⟨q_blind, va_recv hK (fl_blk hP 2 rfl) (ci := 8) (q0 := 0) rfl hfs_999, q_preM _ hK hN hP hD [2] (by decide) rfl⟩ rfl rfl hl.1 rfl (lv_room (Nat.le_of_ble_eq_true rfl)) dL_law_1005 ⟨(by show _ + 0 ≤ 601024; omega), (by show _ + 0 ≤ 7293034; omega)⟩) rfl rfl (by decide) (fun r_1005 u_1005 H locs h_1005 hP hD hS => ?_)
    have hP : va_P D vwCl [u_981, [(oa, aJ cy 1 (g))], u_1005].flatten H := hP
    have hD : va_D A [u_981, [(oa, aJ cy 1 (g))], u_1005].flatten := hD
    obtain ⟨rfl, h_1005⟩ := h_1005
    refine lv_iload hx hb dL_law_1008 (lv_at hl 1 rfl) ?_
    refine q_icmp_eq (tgt := 1015) hx hb dL_law_1010 (by decide) (by omega) (fun c_1010 => ?_) (fun c_1010 => ?_)
    · skip
      refine lv_iload hx hb dL_law_1015 (lv_at hl 1 rfl) ?_
      refine q_if_ne (tgt := 1032) hx hb dL_law_1017 (by decide) (by omega) (fun c_1017 => ?_) (fun c_1017 => ?_)
      · skip
        refine lv_goto (tgt := 1420) hx hb dL_law_1032 (by decide) ?_
        have hP := fl_sub (bs' := [u_981, u_1005, [(oa, aJ cy 1 (g))]]) hP [0, 2, 1] rfl
        have hD := fl_subD (bs' := [u_981, u_1005, [(oa, aJ cy 1 (g))]]) hD [0, 2, 1] (by decide) rfl
        exact kk T hz HZ len tx 1 _ _ _ _ _ _ ⟨⟨la, lv9, ls9, fa, xh, xs, la2, lv92, ls92, fb, fw, bu, ta, rc, re, gb, oc, oe, rs, rc2, re2, gb2, oc2, oe2, rs2, rr, ad, h_981⟩, ⟨mz, msv, mtx, mmo, mif, mmg, mtn, mie, mme, mrd, mas, h_1005⟩, gT, hHG, (by omega)⟩ hP hD hS (lv_sub hl [2, 3, 4, 5, 6] rfl)
      · skip
        exact absurd c_1017 (by decide)
    · skip
      exact absurd c_1010 (by decide)

set_option maxRecDepth 100000 in
set_option maxHeartbeats 4000000 in
theorem lw_widest {p : Program} {l : Launch} {e : Env} {s : State} {m : MethodId} {below : List Frame} {meth : Method} {c : Code} {b L : Nat} {sc9 : Nat → Int32} {D : va_G} {cy : Nat → ClassId} {A : Nat → Prop} {Q : State → Prop} (hlt9 : l.stackTraces = false) (B9 : lwB p s m c b L sc9 D cy A) {x mo oa t : Nat} (ht9 : 6 * t + 6 ≤ L) {T : LSt} {hz : Nat} {HZ : Nat → LSt} {len : Nat} {tx : Nat → Int} {th : Int} {W9 M9 : va_W} {g : Nat → Int64} {cells slots : Nat} (hr9 : cells ≤ 1000 ∧ slots ≤ 8000) (hI9 : lwI cy x mo T hz HZ len tx th W9 M9) {H : Heap} {locs : List Loc} {ls : Array Slot} (hP : va_P D vwCl [W9, M9, [(oa, aJ cy 1 g)]].flatten H) (hD : va_D A [W9, M9, [(oa, aJ cy 1 g)]].flatten) (hS : va_S A s.heap H locs) (hl : lv_has ls 9 (lwL b x mo oa t)) (kk : lwK p l e s m below meth c b D cy A Q x mo oa t cells slots) : W p l e room_1 s m #[Value.ref b] below meth c H locs cells slots Q (F0 m 1035 ls []) := by
  obtain ⟨hx, hb, hml, hown, hg, hX, hbl, hbA, hA, hK, hN, hEx9, hNc9, hL9⟩ := B9
  obtain ⟨⟨la, lv9, ls9, fa, xh, xs, la2, lv92, ls92, fb, fw, bu, ta, rc, re, gb, oc, oe, rs, rc2, re2, gb2, oc2, oe2, rs2, rr, ad, hC9⟩, ⟨mz, msv, mtx, mmo, mif, mmg, mtn, mie, mme, mrd, mas, hM9⟩, gT, hHG, hln9⟩ := hI9
  have gT3 := gT.2
  have gN16 : lN9 T ≤ 16 := gT.1.2.2.1.1
  obtain ⟨fsC, hfsC⟩ := CW_at hC9
  obtain ⟨fsM, hfsM⟩ := MW_at hM9
  have hl : lv_has ls 9 [(0, .ref (b)), (1, .ref (x)), (2, .ref (mo)), (3, .ref (oa)), (4, .int (qI (((6 * t : Nat) : Int))))] := hl
  obtain ⟨p0, ep0⟩ : ∃ z : Int, (sc9 (6 * t + 1)).toInt = z := ⟨_, rfl⟩
  have r0 : -2147483648 ≤ p0 ∧ p0 < 2147483648 := by rw [← ep0]; exact ⟨Int32.le_toInt _, Int32.toInt_lt _⟩
  obtain ⟨p1, ep1⟩ : ∃ z : Int, (sc9 (6 * t + 2)).toInt = z := ⟨_, rfl⟩
  have r1 : -2147483648 ≤ p1 ∧ p1 < 2147483648 := by rw [← ep1]; exact ⟨Int32.le_toInt _, Int32.toInt_lt _⟩
  by_cases cA9 : (0 ≤ p0 ∧ p0 ≤ 9) ∧ (0 ≤ p1 ∧ p1 ≤ 9)
  · skip
    refine lv_aload_n hx hb dL_law_1035 rfl (lv_at hl 1 rfl) ?_
    refine lv_aload_n hx hb dL_law_1036 rfl (lv_at hl 0 rfl) ?_
    refine lv_iload hx hb dL_law_1037 (lv_at hl 4 rfl) ?_
    refine q_iconst hx hb dL_law_1039 ?_
    refine q_iadd hx hb dL_law_1040 ?_
    refine q_sld (j := 6 * t + 1) hx hb hX hbl hbA hS (by omega) ep0 dL_law_1041 ?_
    refine lv_aload_n hx hb dL_law_1042 rfl (lv_at hl 0 rfl) ?_
    refine lv_iload hx hb dL_law_1043 (lv_at hl 4 rfl) ?_
    refine q_iconst hx hb dL_law_1045 ?_
    refine q_iadd hx hb dL_law_1046 ?_
    refine q_sld (j := 6 * t + 2) hx hb hX hbl hbA hS (by omega) ep1 dL_law_1047 ?_
    refine lv_aload_n hx hb dL_law_1048 rfl (lv_at hl 3 rfl) ?_
    refine q_backiX (mc := 0) (ms := 0) [0, 2] [1] (br := [M9]) hP hD hS hA (vx_runSW (As := [.ref (x), .int (qI (p0)), .int (qI (p1)), .ref (oa)]) (rest := []) ⟨hx, hb, hml, hown, hg⟩ (c_L_widest l D cy x la lv9 ls9 fa xh xs la2 lv92 ls92 fb fw bu ta rc re gb oc oe rs rc2 re2 gb2 oc2 oe2 rs2 rr ad T hz HZ len tx _ gT.1 hC9 oa _ p0 p1 p0.toNat p1.toNat (by omega) (by omega) _) (csW_L_140 hg rfl rfl ⟨(Nat.le_of_ble_eq_true rfl), (Nat.le_of_ble_eq_true rfl)⟩) ⟨q_blind, q_preM [.ref (x), .int (qI (p0)), .int (qI (p1)), .ref (oa)] hK hN hP hD [0, 2] (by decide) rfl⟩ rfl rfl hl.1 rfl (lv_room (Nat.le_of_ble_eq_true rfl)) dL_law_1049 ⟨(by show cells + 0 ≤ 601024; omega), (by show slots + 0 ≤ 7293034; omega)⟩) rfl rfl (by decide) (fun r_1049 u_1049 H locs h_1049 hP hD hS => ?_)
    obtain ⟨rfl, h_1049⟩ := h_1049
    have hP : va_P D vwCl [M9, u_1049, [(oa, aJ cy 1 (qu (g) 0 ((qI (fM (filS T (-1)) p0.toNat p1.toNat)).toInt64)))]].flatten H := hP
    have hD : va_D A [M9, u_1049, [(oa, aJ cy 1 (qu (g) 0 ((qI (fM (filS T (-1)) p0.toNat p1.toNat)).toInt64)))]].flatten := hD
    refine lv_istore (lv' := [(5, .int (qI (0))), (0, .ref (b)), (1, .ref (x)), (2, .ref (mo)), (3, .ref (oa)), (4, .int (qI (((6 * t : Nat) : Int))))]) hx hb dL_law_1052 hl (by decide) rfl (fun ls hl => ?_)
    refine lv_aload_n hx hb dL_law_1054 rfl (lv_at hl 3 rfl) ?_
    refine lv_aload_n hx hb dL_law_1055 rfl (lv_at hl 1 rfl) ?_
    refine lv_iload hx hb dL_law_1056 (lv_at hl 5 rfl) ?_
    refine q_iconst hx hb dL_law_1058 ?_
    refine q_iadd hx hb dL_law_1059 ?_
    refine q_sld (j := 6 * t + 1) hx hb hX hbl hbA hS (by omega) ep0 dL_law_1060 ?_
    refine lv_aload_n hx hb dL_law_1061 rfl (lv_at hl 1 rfl) ?_
    refine lv_iload hx hb dL_law_1062 (lv_at hl 5 rfl) ?_
    refine q_iconst hx hb dL_law_1064 ?_
    refine q_iadd hx hb dL_law_1065 ?_
    refine q_sld (j := 6 * t + 2) hx hb hX hbl hbA hS (by omega) ep1 dL_law_1066 ?_
    refine q_backi [0] [1, 2] (br := [u_1049, [(oa, aJ cy 1 (qu (g) 0 ((qI (fM (filS T (-1)) p0.toNat p1.toNat)).toInt64)))]]) hP hD hS hA (va_runV (As := [.int (qI (p0)), .int (qI (p1))]) (rest := []) ⟨hx, hb, hml, hown, hg⟩ (c_X8_widest l D cy mo mz msv mtx mmo mif mmg mtn mie mme mrd mas T hz HZ len tx th _ gT.1 hM9 p0 p1 p0.toNat p1.toNat (by omega) (by omega) _) (cv_L_142 hg rfl rfl ⟨(Nat.le_of_ble_eq_true rfl), (Nat.le_of_ble_eq_true rfl)⟩) ⟨q_blind, va_recv hK (fl_blk hP 0 rfl) (ci := 8) (q0 := 0) rfl hfsM, q_preM _ hK hN hP hD [0] (by decide) rfl⟩ rfl rfl hl.1 rfl (lv_room (Nat.le_of_ble_eq_true rfl)) dL_law_1067 ⟨(by show _ + 0 ≤ 601024; omega), (by show _ + 0 ≤ 7293034; omega)⟩) rfl rfl (by decide) (fun r_1067 u_1067 H locs h_1067 hP hD hS => ?_)
    have hP : va_P D vwCl [u_1049, [(oa, aJ cy 1 (qu (g) 0 ((qI (fM (filS T (-1)) p0.toNat p1.toNat)).toInt64)))], u_1067].flatten H := hP
    have hD : va_D A [u_1049, [(oa, aJ cy 1 (qu (g) 0 ((qI (fM (filS T (-1)) p0.toNat p1.toNat)).toInt64)))], u_1067].flatten := hD
    obtain ⟨rfl, h_1067⟩ := h_1067
    obtain ⟨fs_1067, hfs_1067⟩ := MW_at h_1067
    have gk9 : gOk (T) := gT.1
    refine lv_istore (lv' := [(6, .int (qI (fM (filS T (-1)) p0.toNat p1.toNat))), (5, .int (qI (0))), (0, .ref (b)), (1, .ref (x)), (2, .ref (mo)), (3, .ref (oa)), (4, .int (qI (((6 * t : Nat) : Int))))]) hx hb dL_law_1070 hl (by decide) rfl (fun ls hl => ?_)
    refine lv_aload_n hx hb dL_law_1072 rfl (lv_at hl 4 rfl) ?_
    refine q_backi [2] [0, 1] (br := [u_1049, [(oa, aJ cy 1 (qu (g) 0 ((qI (fM (filS T (-1)) p0.toNat p1.toNat)).toInt64)))]]) hP hD hS hA (va_runV (As := []) (rest := []) ⟨hx, hb, hml, hown, hg⟩ (c_X8_thrown l D cy mo mz msv mtx mmo mif mmg mtn mie mme mrd mas T hz HZ len tx 0 _ gk9 h_1067 _) (cv_L_85 hg rfl rfl ⟨(Nat.le_of_ble_eq_true rfl), (Nat.le_of_ble_eq_true rfl)⟩) ⟨q_blind, va_recv hK (fl_blk hP 2 rfl) (ci := 8) (q0 := 0) rfl hfs_1067, q_preM _ hK hN hP hD [2] (by decide) rfl⟩ rfl rfl hl.1 rfl (lv_room (Nat.le_of_ble_eq_true rfl)) dL_law_1073 ⟨(by show _ + 0 ≤ 601024; omega), (by show _ + 0 ≤ 7293034; omega)⟩) rfl rfl (by decide) (fun r_1073 u_1073 H locs h_1073 hP hD hS => ?_)
    have hP : va_P D vwCl [u_1049, [(oa, aJ cy 1 (qu (g) 0 ((qI (fM (filS T (-1)) p0.toNat p1.toNat)).toInt64)))], u_1073].flatten H := hP
    have hD : va_D A [u_1049, [(oa, aJ cy 1 (qu (g) 0 ((qI (fM (filS T (-1)) p0.toNat p1.toNat)).toInt64)))], u_1073].flatten := hD
    obtain ⟨rfl, h_1073⟩ := h_1073
    refine lv_iload hx hb dL_law_1076 (lv_at hl 1 rfl) ?_
    refine q_icmp_eq (tgt := 1083) hx hb dL_law_1078 (by decide) (by omega) (fun c_1078 => ?_) (fun c_1078 => ?_)
    · skip
      refine lv_iload hx hb dL_law_1083 (lv_at hl 1 rfl) ?_
      refine q_if_ne (tgt := 1100) hx hb dL_law_1085 (by decide) (by omega) (fun c_1085 => ?_) (fun c_1085 => ?_)
      · skip
        exact absurd c_1085 (by decide)
      · skip
        refine lv_aload_n hx hb dL_law_1088 rfl (lv_at hl 5 rfl) ?_
        refine q_iconst hx hb dL_law_1089 ?_
        refine q_laldW (j := 0) (v := (qI (fM (filS T (-1)) p0.toNat p1.toNat)).toInt64) hx hb hK (fl_blk hP 1 rfl) 0 rfl (by omega) (qu_s _ _ _) dL_law_1090 ?_
        refine lv_iload hx hb dL_law_1091 (lv_at hl 0 rfl) ?_
        refine lv_i2l hx hb dL_law_1093 rfl ?_
        refine q_lcmp0 hx hb dL_law_1094 ?_
        refine q_if_eq (tgt := 1100) hx hb dL_law_1095 (by decide) (by omega) (fun c_1095 => ?_) (fun c_1095 => ?_)
        · skip
          refine lv_goto (tgt := 1420) hx hb dL_law_1100 (by decide) ?_
          have hP := fl_sub (bs' := [u_1049, u_1073, [(oa, aJ cy 1 (qu (g) 0 ((qI (fM (filS T (-1)) p0.toNat p1.toNat)).toInt64)))]]) hP [0, 2, 1] rfl
          have hD := fl_subD (bs' := [u_1049, u_1073, [(oa, aJ cy 1 (qu (g) 0 ((qI (fM (filS T (-1)) p0.toNat p1.toNat)).toInt64)))]]) hD [0, 2, 1] (by decide) rfl
          refine W.widen (k := cells + 1) (n := slots + 6) (by omega) (by omega) ?_
          exact kk T hz HZ len tx 0 _ _ _ _ _ _ ⟨⟨la, lv9, ls9, fa, xh, xs, la2, lv92, ls92, fb, fw, bu, ta, rc, re, gb, oc, oe, rs, rc2, re2, gb2, oc2, oe2, rs2, rr, ad, h_1049⟩, ⟨mz, msv, mtx, mmo, mif, mmg, mtn, mie, mme, mrd, mas, h_1073⟩, ⟨gT.1, gT3⟩, hHG, (by omega)⟩ hP hD hS (lv_sub hl [2, 3, 4, 5, 6] rfl)
        · skip
          exact absurd c_1095 (by decide)
    · skip
      exact absurd c_1078 (by decide)
  · skip
    refine lv_aload_n hx hb dL_law_1035 rfl (lv_at hl 1 rfl) ?_
    refine lv_aload_n hx hb dL_law_1036 rfl (lv_at hl 0 rfl) ?_
    refine lv_iload hx hb dL_law_1037 (lv_at hl 4 rfl) ?_
    refine q_iconst hx hb dL_law_1039 ?_
    refine q_iadd hx hb dL_law_1040 ?_
    refine q_sld (j := 6 * t + 1) hx hb hX hbl hbA hS (by omega) ep0 dL_law_1041 ?_
    refine lv_aload_n hx hb dL_law_1042 rfl (lv_at hl 0 rfl) ?_
    refine lv_iload hx hb dL_law_1043 (lv_at hl 4 rfl) ?_
    refine q_iconst hx hb dL_law_1045 ?_
    refine q_iadd hx hb dL_law_1046 ?_
    refine q_sld (j := 6 * t + 2) hx hb hX hbl hbA hS (by omega) ep1 dL_law_1047 ?_
    refine lv_aload_n hx hb dL_law_1048 rfl (lv_at hl 3 rfl) ?_
    refine q_backiX (mc := 1) (ms := 6) [0, 2] [1] (br := [M9]) hP hD hS hA (vx_runSW (As := [.ref (x), .int (qI (p0)), .int (qI (p1)), .ref (oa)]) (rest := []) ⟨hx, hb, hml, hown, hg⟩ (c_L_widest_no1 l hlt9 D cy x la lv9 ls9 fa xh xs la2 lv92 ls92 fb fw bu ta rc re gb oc oe rs rc2 re2 gb2 oc2 oe2 rs2 rr ad T hz HZ len tx _ gT.1 hC9 oa _ p0 p1 (by omega) (by omega) (by omega) _) (csW_L_140 hg rfl rfl ⟨(Nat.le_of_ble_eq_true rfl), (Nat.le_of_ble_eq_true rfl)⟩) ⟨q_blindW, fun U hU hU9 => ⟨rfl, (q_preM [.ref (x), .int (qI (p0)), .int (qI (p1)), .ref (oa)] hK hN hP hD [0, 2] (by decide) rfl U hU hU9).2, hEx9.step hU9 (by rw [hU]; exact hS.2.1) (fl_free hD hS hA [0, 2] rfl), hNc9.moved hU9.alike⟩⟩ rfl rfl hl.1 rfl (lv_room (Nat.le_of_ble_eq_true rfl)) dL_law_1049 ⟨(by show cells + 1 ≤ 601024; omega), (by show slots + 6 ≤ 7293034; omega)⟩) rfl rfl (by decide) (fun r_1049 u_1049 H locs h_1049 hP hD hS => ?_)
    obtain ⟨rfl, h_1049⟩ := h_1049
    have hP : va_P D vwCl [M9, u_1049, [(oa, aJ cy 1 (g))]].flatten H := hP
    have hD : va_D A [M9, u_1049, [(oa, aJ cy 1 (g))]].flatten := hD
    refine lv_istore (lv' := [(5, .int (qI (1))), (0, .ref (b)), (1, .ref (x)), (2, .ref (mo)), (3, .ref (oa)), (4, .int (qI (((6 * t : Nat) : Int))))]) hx hb dL_law_1052 hl (by decide) rfl (fun ls hl => ?_)
    refine lv_aload_n hx hb dL_law_1054 rfl (lv_at hl 3 rfl) ?_
    refine lv_aload_n hx hb dL_law_1055 rfl (lv_at hl 1 rfl) ?_
    refine lv_iload hx hb dL_law_1056 (lv_at hl 5 rfl) ?_
    refine q_iconst hx hb dL_law_1058 ?_
    refine q_iadd hx hb dL_law_1059 ?_
    refine q_sld (j := 6 * t + 1) hx hb hX hbl hbA hS (by omega) ep0 dL_law_1060 ?_
    refine lv_aload_n hx hb dL_law_1061 rfl (lv_at hl 1 rfl) ?_
    refine lv_iload hx hb dL_law_1062 (lv_at hl 5 rfl) ?_
    refine q_iconst hx hb dL_law_1064 ?_
    refine q_iadd hx hb dL_law_1065 ?_
    refine q_sld (j := 6 * t + 2) hx hb hX hbl hbA hS (by omega) ep1 dL_law_1066 ?_
    refine q_backi [0] [1, 2] (br := [u_1049, [(oa, aJ cy 1 (g))]]) hP hD hS hA (va_runV (As := [.int (qI (p0)), .int (qI (p1))]) (rest := []) ⟨hx, hb, hml, hown, hg⟩ (c_X8_widest_no1 l D cy mo mz msv mtx mmo mif mmg mtn mie mme mrd mas T hz HZ len tx th _ gT.1 hM9 p0 p1 (by omega) (by omega) (by omega) _) (cv_L_142 hg rfl rfl ⟨(Nat.le_of_ble_eq_true rfl), (Nat.le_of_ble_eq_true rfl)⟩) ⟨q_blind, va_recv hK (fl_blk hP 0 rfl) (ci := 8) (q0 := 0) rfl hfsM, q_preM _ hK hN hP hD [0] (by decide) rfl⟩ rfl rfl hl.1 rfl (lv_room (Nat.le_of_ble_eq_true rfl)) dL_law_1067 ⟨(by show _ + 0 ≤ 601024; omega), (by show _ + 0 ≤ 7293034; omega)⟩) rfl rfl (by decide) (fun r_1067 u_1067 H locs h_1067 hP hD hS => ?_)
    have hP : va_P D vwCl [u_1049, [(oa, aJ cy 1 (g))], u_1067].flatten H := hP
    have hD : va_D A [u_1049, [(oa, aJ cy 1 (g))], u_1067].flatten := hD
    obtain ⟨fs_1067, hfs_1067⟩ := MW_at h_1067
    have gk9 : gOk (T) := gT.1
    refine lv_istore (lv' := [(6, .int (r_1067)), (5, .int (qI (1))), (0, .ref (b)), (1, .ref (x)), (2, .ref (mo)), (3, .ref (oa)), (4, .int (qI (((6 * t : Nat) : Int))))]) hx hb dL_law_1070 hl (by decide) rfl (fun ls hl => ?_)
    refine lv_aload_n hx hb dL_law_1072 rfl (lv_at hl 4 rfl) ?_
    refine q_backi [2] [0, 1] (br := [u_1049, [(oa, aJ cy 1 (g))]]) hP hD hS hA (va_runV (As := []) (rest := []) ⟨hx, hb, hml, hown, hg⟩ (c_X8_thrown l D cy mo mz msv mtx mmo mif mmg mtn mie mme mrd mas T hz HZ len tx 1 _ gk9 h_1067 _) (cv_L_85 hg rfl rfl ⟨(Nat.le_of_ble_eq_true rfl), (Nat.le_of_ble_eq_true rfl)⟩) ⟨q_blind, va_recv hK (fl_blk hP 2 rfl) (ci := 8) (q0 := 0) rfl hfs_1067, q_preM _ hK hN hP hD [2] (by decide) rfl⟩ rfl rfl hl.1 rfl (lv_room (Nat.le_of_ble_eq_true rfl)) dL_law_1073 ⟨(by show _ + 0 ≤ 601024; omega), (by show _ + 0 ≤ 7293034; omega)⟩) rfl rfl (by decide) (fun r_1073 u_1073 H locs h_1073 hP hD hS => ?_)
    have hP : va_P D vwCl [u_1049, [(oa, aJ cy 1 (g))], u_1073].flatten H := hP
    have hD : va_D A [u_1049, [(oa, aJ cy 1 (g))], u_1073].flatten := hD
    obtain ⟨rfl, h_1073⟩ := h_1073
    refine lv_iload hx hb dL_law_1076 (lv_at hl 1 rfl) ?_
    refine q_icmp_eq (tgt := 1083) hx hb dL_law_1078 (by decide) (by omega) (fun c_1078 => ?_) (fun c_1078 => ?_)
    · skip
      refine lv_iload hx hb dL_law_1083 (lv_at hl 1 rfl) ?_
      refine q_if_ne (tgt := 1100) hx hb dL_law_1085 (by decide) (by omega) (fun c_1085 => ?_) (fun c_1085 => ?_)
      · skip
        refine lv_goto (tgt := 1420) hx hb dL_law_1100 (by decide) ?_
        have hP := fl_sub (bs' := [u_1049, u_1073, [(oa, aJ cy 1 (g))]]) hP [0, 2, 1] rfl
        have hD := fl_subD (bs' := [u_1049, u_1073, [(oa, aJ cy 1 (g))]]) hD [0, 2, 1] (by decide) rfl
        exact kk T hz HZ len tx 1 _ _ _ _ _ _ ⟨⟨la, lv9, ls9, fa, xh, xs, la2, lv92, ls92, fb, fw, bu, ta, rc, re, gb, oc, oe, rs, rc2, re2, gb2, oc2, oe2, rs2, rr, ad, h_1049⟩, ⟨mz, msv, mtx, mmo, mif, mmg, mtn, mie, mme, mrd, mas, h_1073⟩, gT, hHG, (by omega)⟩ hP hD hS (lv_sub hl [2, 3, 4, 5, 6] rfl)
      · skip
        exact absurd c_1085 (by decide)
    · skip
      exact absurd c_1078 (by decide)

set_option maxRecDepth 100000 in
set_option maxHeartbeats 4000000 in
theorem lw_count {p : Program} {l : Launch} {e : Env} {s : State} {m : MethodId} {below : List Frame} {meth : Method} {c : Code} {b L : Nat} {sc9 : Nat → Int32} {D : va_G} {cy : Nat → ClassId} {A : Nat → Prop} {Q : State → Prop} (hlt9 : l.stackTraces = false) (B9 : lwB p s m c b L sc9 D cy A) {x mo oa t : Nat} (ht9 : 6 * t + 6 ≤ L) {T : LSt} {hz : Nat} {HZ : Nat → LSt} {len : Nat} {tx : Nat → Int} {th : Int} {W9 M9 : va_W} {g : Nat → Int64} {cells slots : Nat} (hr9 : cells ≤ 1000 ∧ slots ≤ 8000) (hI9 : lwI cy x mo T hz HZ len tx th W9 M9) {H : Heap} {locs : List Loc} {ls : Array Slot} (hP : va_P D vwCl [W9, M9, [(oa, aJ cy 1 g)]].flatten H) (hD : va_D A [W9, M9, [(oa, aJ cy 1 g)]].flatten) (hS : va_S A s.heap H locs) (hl : lv_has ls 9 (lwL b x mo oa t)) (kk : lwK p l e s m below meth c b D cy A Q x mo oa t cells slots) : W p l e room_1 s m #[Value.ref b] below meth c H locs cells slots Q (F0 m 1103 ls []) := by
  obtain ⟨hx, hb, hml, hown, hg, hX, hbl, hbA, hA, hK, hN, hEx9, hNc9, hL9⟩ := B9
  obtain ⟨⟨la, lv9, ls9, fa, xh, xs, la2, lv92, ls92, fb, fw, bu, ta, rc, re, gb, oc, oe, rs, rc2, re2, gb2, oc2, oe2, rs2, rr, ad, hC9⟩, ⟨mz, msv, mtx, mmo, mif, mmg, mtn, mie, mme, mrd, mas, hM9⟩, gT, hHG, hln9⟩ := hI9
  have gT3 := gT.2
  have gN16 : lN9 T ≤ 16 := gT.1.2.2.1.1
  obtain ⟨fsC, hfsC⟩ := CW_at hC9
  obtain ⟨fsM, hfsM⟩ := MW_at hM9
  have hl : lv_has ls 9 [(0, .ref (b)), (1, .ref (x)), (2, .ref (mo)), (3, .ref (oa)), (4, .int (qI (((6 * t : Nat) : Int))))] := hl
  obtain ⟨p0, ep0⟩ : ∃ z : Int, (sc9 (6 * t + 1)).toInt = z := ⟨_, rfl⟩
  have r0 : -2147483648 ≤ p0 ∧ p0 < 2147483648 := by rw [← ep0]; exact ⟨Int32.le_toInt _, Int32.toInt_lt _⟩
  by_cases cA9 : 0 ≤ p0 ∧ p0 ≤ 7
  · skip
    refine lv_aload_n hx hb dL_law_1103 rfl (lv_at hl 1 rfl) ?_
    refine lv_aload_n hx hb dL_law_1104 rfl (lv_at hl 0 rfl) ?_
    refine lv_iload hx hb dL_law_1105 (lv_at hl 4 rfl) ?_
    refine q_iconst hx hb dL_law_1107 ?_
    refine q_iadd hx hb dL_law_1108 ?_
    refine q_sld (j := 6 * t + 1) hx hb hX hbl hbA hS (by omega) ep0 dL_law_1109 ?_
    refine lv_aload_n hx hb dL_law_1110 rfl (lv_at hl 3 rfl) ?_
    refine q_backiX (mc := 0) (ms := 0) [0, 2] [1] (br := [M9]) hP hD hS hA (vx_runSW (As := [.ref (x), .int (qI (p0)), .ref (oa)]) (rest := []) ⟨hx, hb, hml, hown, hg⟩ (c_L_count l D cy x la lv9 ls9 fa xh xs la2 lv92 ls92 fb fw bu ta rc re gb oc oe rs rc2 re2 gb2 oc2 oe2 rs2 rr ad T hz HZ len tx _ gT.1 hC9 oa _ p0 (by omega) _) (csW_L_143 hg rfl rfl ⟨(Nat.le_of_ble_eq_true rfl), (Nat.le_of_ble_eq_true rfl)⟩) ⟨q_blind, q_preM [.ref (x), .int (qI (p0)), .ref (oa)] hK hN hP hD [0, 2] (by decide) rfl⟩ rfl rfl hl.1 rfl (lv_room (Nat.le_of_ble_eq_true rfl)) dL_law_1111 ⟨(by show cells + 0 ≤ 601024; omega), (by show slots + 0 ≤ 7293034; omega)⟩) rfl rfl (by decide) (fun r_1111 u_1111 H locs h_1111 hP hD hS => ?_)
    obtain ⟨rfl, h_1111⟩ := h_1111
    have hP : va_P D vwCl [M9, u_1111, [(oa, aJ cy 1 (qu (g) 0 ((qI (ctT T hz p0)).toInt64)))]].flatten H := hP
    have hD : va_D A [M9, u_1111, [(oa, aJ cy 1 (qu (g) 0 ((qI (ctT T hz p0)).toInt64)))]].flatten := hD
    refine lv_istore (lv' := [(5, .int (qI (0))), (0, .ref (b)), (1, .ref (x)), (2, .ref (mo)), (3, .ref (oa)), (4, .int (qI (((6 * t : Nat) : Int))))]) hx hb dL_law_1114 hl (by decide) rfl (fun ls hl => ?_)
    refine lv_aload_n hx hb dL_law_1116 rfl (lv_at hl 3 rfl) ?_
    refine lv_aload_n hx hb dL_law_1117 rfl (lv_at hl 1 rfl) ?_
    refine lv_iload hx hb dL_law_1118 (lv_at hl 5 rfl) ?_
    refine q_iconst hx hb dL_law_1120 ?_
    refine q_iadd hx hb dL_law_1121 ?_
    refine q_sld (j := 6 * t + 1) hx hb hX hbl hbA hS (by omega) ep0 dL_law_1122 ?_
    refine q_backi [0] [1, 2] (br := [u_1111, [(oa, aJ cy 1 (qu (g) 0 ((qI (ctT T hz p0)).toInt64)))]]) hP hD hS hA (va_runV (As := [.int (qI (p0))]) (rest := []) ⟨hx, hb, hml, hown, hg⟩ (c_X8_count l D cy mo mz msv mtx mmo mif mmg mtn mie mme mrd mas T hz HZ len tx th _ gT.1 hM9 p0 (by omega) _) (cv_L_145 hg rfl rfl ⟨(Nat.le_of_ble_eq_true rfl), (Nat.le_of_ble_eq_true rfl)⟩) ⟨q_blind, va_recv hK (fl_blk hP 0 rfl) (ci := 8) (q0 := 0) rfl hfsM, q_preM _ hK hN hP hD [0] (by decide) rfl⟩ rfl rfl hl.1 rfl (lv_room (Nat.le_of_ble_eq_true rfl)) dL_law_1123 ⟨(by show _ + 0 ≤ 601024; omega), (by show _ + 0 ≤ 7293034; omega)⟩) rfl rfl (by decide) (fun r_1123 u_1123 H locs h_1123 hP hD hS => ?_)
    have hP : va_P D vwCl [u_1111, [(oa, aJ cy 1 (qu (g) 0 ((qI (ctT T hz p0)).toInt64)))], u_1123].flatten H := hP
    have hD : va_D A [u_1111, [(oa, aJ cy 1 (qu (g) 0 ((qI (ctT T hz p0)).toInt64)))], u_1123].flatten := hD
    obtain ⟨rfl, h_1123⟩ := h_1123
    obtain ⟨fs_1123, hfs_1123⟩ := MW_at h_1123
    have gk9 : gOk (T) := gT.1
    refine lv_istore (lv' := [(6, .int (qI (ctT T hz p0))), (5, .int (qI (0))), (0, .ref (b)), (1, .ref (x)), (2, .ref (mo)), (3, .ref (oa)), (4, .int (qI (((6 * t : Nat) : Int))))]) hx hb dL_law_1126 hl (by decide) rfl (fun ls hl => ?_)
    refine lv_aload_n hx hb dL_law_1128 rfl (lv_at hl 4 rfl) ?_
    refine q_backi [2] [0, 1] (br := [u_1111, [(oa, aJ cy 1 (qu (g) 0 ((qI (ctT T hz p0)).toInt64)))]]) hP hD hS hA (va_runV (As := []) (rest := []) ⟨hx, hb, hml, hown, hg⟩ (c_X8_thrown l D cy mo mz msv mtx mmo mif mmg mtn mie mme mrd mas T hz HZ len tx 0 _ gk9 h_1123 _) (cv_L_85 hg rfl rfl ⟨(Nat.le_of_ble_eq_true rfl), (Nat.le_of_ble_eq_true rfl)⟩) ⟨q_blind, va_recv hK (fl_blk hP 2 rfl) (ci := 8) (q0 := 0) rfl hfs_1123, q_preM _ hK hN hP hD [2] (by decide) rfl⟩ rfl rfl hl.1 rfl (lv_room (Nat.le_of_ble_eq_true rfl)) dL_law_1129 ⟨(by show _ + 0 ≤ 601024; omega), (by show _ + 0 ≤ 7293034; omega)⟩) rfl rfl (by decide) (fun r_1129 u_1129 H locs h_1129 hP hD hS => ?_)
    have hP : va_P D vwCl [u_1111, [(oa, aJ cy 1 (qu (g) 0 ((qI (ctT T hz p0)).toInt64)))], u_1129].flatten H := hP
    have hD : va_D A [u_1111, [(oa, aJ cy 1 (qu (g) 0 ((qI (ctT T hz p0)).toInt64)))], u_1129].flatten := hD
    obtain ⟨rfl, h_1129⟩ := h_1129
    refine lv_iload hx hb dL_law_1132 (lv_at hl 1 rfl) ?_
    refine q_icmp_eq (tgt := 1139) hx hb dL_law_1134 (by decide) (by omega) (fun c_1134 => ?_) (fun c_1134 => ?_)
    · skip
      refine lv_iload hx hb dL_law_1139 (lv_at hl 1 rfl) ?_
      refine q_if_ne (tgt := 1156) hx hb dL_law_1141 (by decide) (by omega) (fun c_1141 => ?_) (fun c_1141 => ?_)
      · skip
        exact absurd c_1141 (by decide)
      · skip
        refine lv_aload_n hx hb dL_law_1144 rfl (lv_at hl 5 rfl) ?_
        refine q_iconst hx hb dL_law_1145 ?_
        refine q_laldW (j := 0) (v := (qI (ctT T hz p0)).toInt64) hx hb hK (fl_blk hP 1 rfl) 0 rfl (by omega) (qu_s _ _ _) dL_law_1146 ?_
        refine lv_iload hx hb dL_law_1147 (lv_at hl 0 rfl) ?_
        refine lv_i2l hx hb dL_law_1149 rfl ?_
        refine q_lcmp0 hx hb dL_law_1150 ?_
        refine q_if_eq (tgt := 1156) hx hb dL_law_1151 (by decide) (by omega) (fun c_1151 => ?_) (fun c_1151 => ?_)
        · skip
          refine lv_goto (tgt := 1420) hx hb dL_law_1156 (by decide) ?_
          have hP := fl_sub (bs' := [u_1111, u_1129, [(oa, aJ cy 1 (qu (g) 0 ((qI (ctT T hz p0)).toInt64)))]]) hP [0, 2, 1] rfl
          have hD := fl_subD (bs' := [u_1111, u_1129, [(oa, aJ cy 1 (qu (g) 0 ((qI (ctT T hz p0)).toInt64)))]]) hD [0, 2, 1] (by decide) rfl
          refine W.widen (k := cells + 1) (n := slots + 6) (by omega) (by omega) ?_
          exact kk T hz HZ len tx 0 _ _ _ _ _ _ ⟨⟨la, lv9, ls9, fa, xh, xs, la2, lv92, ls92, fb, fw, bu, ta, rc, re, gb, oc, oe, rs, rc2, re2, gb2, oc2, oe2, rs2, rr, ad, h_1111⟩, ⟨mz, msv, mtx, mmo, mif, mmg, mtn, mie, mme, mrd, mas, h_1129⟩, ⟨gT.1, gT3⟩, hHG, (by omega)⟩ hP hD hS (lv_sub hl [2, 3, 4, 5, 6] rfl)
        · skip
          exact absurd c_1151 (by decide)
    · skip
      exact absurd c_1134 (by decide)
  · skip
    refine lv_aload_n hx hb dL_law_1103 rfl (lv_at hl 1 rfl) ?_
    refine lv_aload_n hx hb dL_law_1104 rfl (lv_at hl 0 rfl) ?_
    refine lv_iload hx hb dL_law_1105 (lv_at hl 4 rfl) ?_
    refine q_iconst hx hb dL_law_1107 ?_
    refine q_iadd hx hb dL_law_1108 ?_
    refine q_sld (j := 6 * t + 1) hx hb hX hbl hbA hS (by omega) ep0 dL_law_1109 ?_
    refine lv_aload_n hx hb dL_law_1110 rfl (lv_at hl 3 rfl) ?_
    refine q_backiX (mc := 1) (ms := 6) [0, 2] [1] (br := [M9]) hP hD hS hA (vx_runSW (As := [.ref (x), .int (qI (p0)), .ref (oa)]) (rest := []) ⟨hx, hb, hml, hown, hg⟩ (c_L_count_no2 l hlt9 D cy x la lv9 ls9 fa xh xs la2 lv92 ls92 fb fw bu ta rc re gb oc oe rs rc2 re2 gb2 oc2 oe2 rs2 rr ad T hz HZ len tx _ gT.1 hC9 oa _ p0 (by omega) (by omega) _) (csW_L_143 hg rfl rfl ⟨(Nat.le_of_ble_eq_true rfl), (Nat.le_of_ble_eq_true rfl)⟩) ⟨q_blindW, fun U hU hU9 => ⟨rfl, (q_preM [.ref (x), .int (qI (p0)), .ref (oa)] hK hN hP hD [0, 2] (by decide) rfl U hU hU9).2, hEx9.step hU9 (by rw [hU]; exact hS.2.1) (fl_free hD hS hA [0, 2] rfl), hNc9.moved hU9.alike⟩⟩ rfl rfl hl.1 rfl (lv_room (Nat.le_of_ble_eq_true rfl)) dL_law_1111 ⟨(by show cells + 1 ≤ 601024; omega), (by show slots + 6 ≤ 7293034; omega)⟩) rfl rfl (by decide) (fun r_1111 u_1111 H locs h_1111 hP hD hS => ?_)
    obtain ⟨rfl, h_1111⟩ := h_1111
    have hP : va_P D vwCl [M9, u_1111, [(oa, aJ cy 1 (g))]].flatten H := hP
    have hD : va_D A [M9, u_1111, [(oa, aJ cy 1 (g))]].flatten := hD
    refine lv_istore (lv' := [(5, .int (qI (1))), (0, .ref (b)), (1, .ref (x)), (2, .ref (mo)), (3, .ref (oa)), (4, .int (qI (((6 * t : Nat) : Int))))]) hx hb dL_law_1114 hl (by decide) rfl (fun ls hl => ?_)
    refine lv_aload_n hx hb dL_law_1116 rfl (lv_at hl 3 rfl) ?_
    refine lv_aload_n hx hb dL_law_1117 rfl (lv_at hl 1 rfl) ?_
    refine lv_iload hx hb dL_law_1118 (lv_at hl 5 rfl) ?_
    refine q_iconst hx hb dL_law_1120 ?_
    refine q_iadd hx hb dL_law_1121 ?_
    refine q_sld (j := 6 * t + 1) hx hb hX hbl hbA hS (by omega) ep0 dL_law_1122 ?_
    refine q_backi [0] [1, 2] (br := [u_1111, [(oa, aJ cy 1 (g))]]) hP hD hS hA (va_runV (As := [.int (qI (p0))]) (rest := []) ⟨hx, hb, hml, hown, hg⟩ (c_X8_count_no1 l D cy mo mz msv mtx mmo mif mmg mtn mie mme mrd mas T hz HZ len tx th _ gT.1 hM9 p0 (by omega) (by omega) _) (cv_L_145 hg rfl rfl ⟨(Nat.le_of_ble_eq_true rfl), (Nat.le_of_ble_eq_true rfl)⟩) ⟨q_blind, va_recv hK (fl_blk hP 0 rfl) (ci := 8) (q0 := 0) rfl hfsM, q_preM _ hK hN hP hD [0] (by decide) rfl⟩ rfl rfl hl.1 rfl (lv_room (Nat.le_of_ble_eq_true rfl)) dL_law_1123 ⟨(by show _ + 0 ≤ 601024; omega), (by show _ + 0 ≤ 7293034; omega)⟩) rfl rfl (by decide) (fun r_1123 u_1123 H locs h_1123 hP hD hS => ?_)
    have hP : va_P D vwCl [u_1111, [(oa, aJ cy 1 (g))], u_1123].flatten H := hP
    have hD : va_D A [u_1111, [(oa, aJ cy 1 (g))], u_1123].flatten := hD
    obtain ⟨fs_1123, hfs_1123⟩ := MW_at h_1123
    have gk9 : gOk (T) := gT.1
    refine lv_istore (lv' := [(6, .int (r_1123)), (5, .int (qI (1))), (0, .ref (b)), (1, .ref (x)), (2, .ref (mo)), (3, .ref (oa)), (4, .int (qI (((6 * t : Nat) : Int))))]) hx hb dL_law_1126 hl (by decide) rfl (fun ls hl => ?_)
    refine lv_aload_n hx hb dL_law_1128 rfl (lv_at hl 4 rfl) ?_
    refine q_backi [2] [0, 1] (br := [u_1111, [(oa, aJ cy 1 (g))]]) hP hD hS hA (va_runV (As := []) (rest := []) ⟨hx, hb, hml, hown, hg⟩ (c_X8_thrown l D cy mo mz msv mtx mmo mif mmg mtn mie mme mrd mas T hz HZ len tx 1 _ gk9 h_1123 _) (cv_L_85 hg rfl rfl ⟨(Nat.le_of_ble_eq_true rfl), (Nat.le_of_ble_eq_true rfl)⟩) ⟨q_blind, va_recv hK (fl_blk hP 2 rfl) (ci := 8) (q0 := 0) rfl hfs_1123, q_preM _ hK hN hP hD [2] (by decide) rfl⟩ rfl rfl hl.1 rfl (lv_room (Nat.le_of_ble_eq_true rfl)) dL_law_1129 ⟨(by show _ + 0 ≤ 601024; omega), (by show _ + 0 ≤ 7293034; omega)⟩) rfl rfl (by decide) (fun r_1129 u_1129 H locs h_1129 hP hD hS => ?_)
    have hP : va_P D vwCl [u_1111, [(oa, aJ cy 1 (g))], u_1129].flatten H := hP
    have hD : va_D A [u_1111, [(oa, aJ cy 1 (g))], u_1129].flatten := hD
    obtain ⟨rfl, h_1129⟩ := h_1129
    refine lv_iload hx hb dL_law_1132 (lv_at hl 1 rfl) ?_
    refine q_icmp_eq (tgt := 1139) hx hb dL_law_1134 (by decide) (by omega) (fun c_1134 => ?_) (fun c_1134 => ?_)
    · skip
      refine lv_iload hx hb dL_law_1139 (lv_at hl 1 rfl) ?_
      refine q_if_ne (tgt := 1156) hx hb dL_law_1141 (by decide) (by omega) (fun c_1141 => ?_) (fun c_1141 => ?_)
      · skip
        refine lv_goto (tgt := 1420) hx hb dL_law_1156 (by decide) ?_
        have hP := fl_sub (bs' := [u_1111, u_1129, [(oa, aJ cy 1 (g))]]) hP [0, 2, 1] rfl
        have hD := fl_subD (bs' := [u_1111, u_1129, [(oa, aJ cy 1 (g))]]) hD [0, 2, 1] (by decide) rfl
        exact kk T hz HZ len tx 1 _ _ _ _ _ _ ⟨⟨la, lv9, ls9, fa, xh, xs, la2, lv92, ls92, fb, fw, bu, ta, rc, re, gb, oc, oe, rs, rc2, re2, gb2, oc2, oe2, rs2, rr, ad, h_1111⟩, ⟨mz, msv, mtx, mmo, mif, mmg, mtn, mie, mme, mrd, mas, h_1129⟩, gT, hHG, (by omega)⟩ hP hD hS (lv_sub hl [2, 3, 4, 5, 6] rfl)
      · skip
        exact absurd c_1141 (by decide)
    · skip
      exact absurd c_1134 (by decide)

set_option maxRecDepth 100000 in
set_option maxHeartbeats 4000000 in
theorem lw_ifEdited {p : Program} {l : Launch} {e : Env} {s : State} {m : MethodId} {below : List Frame} {meth : Method} {c : Code} {b L : Nat} {sc9 : Nat → Int32} {D : va_G} {cy : Nat → ClassId} {A : Nat → Prop} {Q : State → Prop} (hlt9 : l.stackTraces = false) (B9 : lwB p s m c b L sc9 D cy A) {x mo oa t : Nat} (ht9 : 6 * t + 6 ≤ L) {T : LSt} {hz : Nat} {HZ : Nat → LSt} {len : Nat} {tx : Nat → Int} {th : Int} {W9 M9 : va_W} {g : Nat → Int64} {cells slots : Nat} (hr9 : cells ≤ 1000 ∧ slots ≤ 8000) (hI9 : lwI cy x mo T hz HZ len tx th W9 M9) {H : Heap} {locs : List Loc} {ls : Array Slot} (hP : va_P D vwCl [W9, M9, [(oa, aJ cy 1 g)]].flatten H) (hD : va_D A [W9, M9, [(oa, aJ cy 1 g)]].flatten) (hS : va_S A s.heap H locs) (hl : lv_has ls 9 (lwL b x mo oa t)) (kk : lwK p l e s m below meth c b D cy A Q x mo oa t cells slots) : W p l e room_1 s m #[Value.ref b] below meth c H locs cells slots Q (F0 m 1159 ls []) := by
  obtain ⟨hx, hb, hml, hown, hg, hX, hbl, hbA, hA, hK, hN, hEx9, hNc9, hL9⟩ := B9
  obtain ⟨⟨la, lv9, ls9, fa, xh, xs, la2, lv92, ls92, fb, fw, bu, ta, rc, re, gb, oc, oe, rs, rc2, re2, gb2, oc2, oe2, rs2, rr, ad, hC9⟩, ⟨mz, msv, mtx, mmo, mif, mmg, mtn, mie, mme, mrd, mas, hM9⟩, gT, hHG, hln9⟩ := hI9
  have gT3 := gT.2
  have gN16 : lN9 T ≤ 16 := gT.1.2.2.1.1
  obtain ⟨fsC, hfsC⟩ := CW_at hC9
  obtain ⟨fsM, hfsM⟩ := MW_at hM9
  have hl : lv_has ls 9 [(0, .ref (b)), (1, .ref (x)), (2, .ref (mo)), (3, .ref (oa)), (4, .int (qI (((6 * t : Nat) : Int))))] := hl
  obtain ⟨p0, ep0⟩ : ∃ z : Int, (sc9 (6 * t + 1)).toInt = z := ⟨_, rfl⟩
  have r0 : -2147483648 ≤ p0 ∧ p0 < 2147483648 := by rw [← ep0]; exact ⟨Int32.le_toInt _, Int32.toInt_lt _⟩
  obtain ⟨p1, ep1⟩ : ∃ z : Int, (sc9 (6 * t + 2)).toInt = z := ⟨_, rfl⟩
  have r1 : -2147483648 ≤ p1 ∧ p1 < 2147483648 := by rw [← ep1]; exact ⟨Int32.le_toInt _, Int32.toInt_lt _⟩
  obtain ⟨p2, ep2⟩ : ∃ z : Int, (sc9 (6 * t + 3)).toInt = z := ⟨_, rfl⟩
  have r2 : -2147483648 ≤ p2 ∧ p2 < 2147483648 := by rw [← ep2]; exact ⟨Int32.le_toInt _, Int32.toInt_lt _⟩
  obtain ⟨p3, ep3⟩ : ∃ z : Int, (sc9 (6 * t + 4)).toInt = z := ⟨_, rfl⟩
  have r3 : -2147483648 ≤ p3 ∧ p3 < 2147483648 := by rw [← ep3]; exact ⟨Int32.le_toInt _, Int32.toInt_lt _⟩
  by_cases cA9 : (0 ≤ p0 ∧ p0 ≤ 9) ∧ (0 ≤ p3 ∧ p3 ≤ 9)
  · skip
    by_cases cB9 : (-1000 ≤ p1 ∧ p1 ≤ 1000) ∧ (0 ≤ p2 ∧ p2 ≤ 3)
    · skip
      refine lv_aload_n hx hb dL_law_1159 rfl (lv_at hl 1 rfl) ?_
      refine lv_aload_n hx hb dL_law_1160 rfl (lv_at hl 0 rfl) ?_
      refine lv_iload hx hb dL_law_1161 (lv_at hl 4 rfl) ?_
      refine q_iconst hx hb dL_law_1163 ?_
      refine q_iadd hx hb dL_law_1164 ?_
      refine q_sld (j := 6 * t + 1) hx hb hX hbl hbA hS (by omega) ep0 dL_law_1165 ?_
      refine lv_aload_n hx hb dL_law_1166 rfl (lv_at hl 0 rfl) ?_
      refine lv_iload hx hb dL_law_1167 (lv_at hl 4 rfl) ?_
      refine q_iconst hx hb dL_law_1169 ?_
      refine q_iadd hx hb dL_law_1170 ?_
      refine q_sld (j := 6 * t + 2) hx hb hX hbl hbA hS (by omega) ep1 dL_law_1171 ?_
      refine lv_aload_n hx hb dL_law_1172 rfl (lv_at hl 0 rfl) ?_
      refine lv_iload hx hb dL_law_1173 (lv_at hl 4 rfl) ?_
      refine q_iconst hx hb dL_law_1175 ?_
      refine q_iadd hx hb dL_law_1176 ?_
      refine q_sld (j := 6 * t + 3) hx hb hX hbl hbA hS (by omega) ep2 dL_law_1177 ?_
      refine lv_aload_n hx hb dL_law_1178 rfl (lv_at hl 0 rfl) ?_
      refine lv_iload hx hb dL_law_1179 (lv_at hl 4 rfl) ?_
      refine q_iconst hx hb dL_law_1181 ?_
      refine q_iadd hx hb dL_law_1182 ?_
      refine q_sld (j := 6 * t + 4) hx hb hX hbl hbA hS (by omega) ep3 dL_law_1183 ?_
      refine lv_aload_n hx hb dL_law_1184 rfl (lv_at hl 3 rfl) ?_
      refine q_backiX (mc := 0) (ms := 0) [0, 2] [1] (br := [M9]) hP hD hS hA (vx_runSW (As := [.ref (x), .int (qI (p0)), .int (qI (p1)), .int (qI (p2)), .int (qI (p3)), .ref (oa)]) (rest := []) ⟨hx, hb, hml, hown, hg⟩ (c_L_ifEdited l D cy x la lv9 ls9 fa xh xs la2 lv92 ls92 fb fw bu ta rc re gb oc oe rs rc2 re2 gb2 oc2 oe2 rs2 rr ad T hz HZ len tx _ gT.1 hC9 oa _ p0 p1 p2 p3 p0.toNat p3.toNat (by omega) (by omega) (by omega) (by omega) (by omega) _) (csW_L_146 hg rfl rfl ⟨(Nat.le_of_ble_eq_true rfl), (Nat.le_of_ble_eq_true rfl)⟩) ⟨q_blind, q_preM [.ref (x), .int (qI (p0)), .int (qI (p1)), .int (qI (p2)), .int (qI (p3)), .ref (oa)] hK hN hP hD [0, 2] (by decide) rfl⟩ rfl rfl hl.1 rfl (lv_room (Nat.le_of_ble_eq_true rfl)) dL_law_1185 ⟨(by show cells + 0 ≤ 601024; omega), (by show slots + 0 ≤ 7293034; omega)⟩) rfl rfl (by decide) (fun r_1185 u_1185 H locs h_1185 hP hD hS => ?_)
      obtain ⟨rfl, h_1185⟩ := h_1185
      have hP : va_P D vwCl [M9, u_1185, [(oa, aJ cy 1 (qu (g) 0 ((qI (lV (seT (adE T p0 p1 p2)) p3.toNat)).toInt64)))]].flatten H := hP
      have hD : va_D A [M9, u_1185, [(oa, aJ cy 1 (qu (g) 0 ((qI (lV (seT (adE T p0 p1 p2)) p3.toNat)).toInt64)))]].flatten := hD
      refine lv_istore (lv' := [(5, .int (qI (0))), (0, .ref (b)), (1, .ref (x)), (2, .ref (mo)), (3, .ref (oa)), (4, .int (qI (((6 * t : Nat) : Int))))]) hx hb dL_law_1188 hl (by decide) rfl (fun ls hl => ?_)
      refine lv_aload_n hx hb dL_law_1190 rfl (lv_at hl 3 rfl) ?_
      refine lv_aload_n hx hb dL_law_1191 rfl (lv_at hl 1 rfl) ?_
      refine lv_iload hx hb dL_law_1192 (lv_at hl 5 rfl) ?_
      refine q_iconst hx hb dL_law_1194 ?_
      refine q_iadd hx hb dL_law_1195 ?_
      refine q_sld (j := 6 * t + 1) hx hb hX hbl hbA hS (by omega) ep0 dL_law_1196 ?_
      refine lv_aload_n hx hb dL_law_1197 rfl (lv_at hl 1 rfl) ?_
      refine lv_iload hx hb dL_law_1198 (lv_at hl 5 rfl) ?_
      refine q_iconst hx hb dL_law_1200 ?_
      refine q_iadd hx hb dL_law_1201 ?_
      refine q_sld (j := 6 * t + 2) hx hb hX hbl hbA hS (by omega) ep1 dL_law_1202 ?_
      refine lv_aload_n hx hb dL_law_1203 rfl (lv_at hl 1 rfl) ?_
      refine lv_iload hx hb dL_law_1204 (lv_at hl 5 rfl) ?_
      refine q_iconst hx hb dL_law_1206 ?_
      refine q_iadd hx hb dL_law_1207 ?_
      refine q_sld (j := 6 * t + 3) hx hb hX hbl hbA hS (by omega) ep2 dL_law_1208 ?_
      refine lv_aload_n hx hb dL_law_1209 rfl (lv_at hl 1 rfl) ?_
      refine lv_iload hx hb dL_law_1210 (lv_at hl 5 rfl) ?_
      refine q_iconst hx hb dL_law_1212 ?_
      refine q_iadd hx hb dL_law_1213 ?_
      refine q_sld (j := 6 * t + 4) hx hb hX hbl hbA hS (by omega) ep3 dL_law_1214 ?_
      refine q_backi [0] [1, 2] (br := [u_1185, [(oa, aJ cy 1 (qu (g) 0 ((qI (lV (seT (adE T p0 p1 p2)) p3.toNat)).toInt64)))]]) hP hD hS hA (va_runV (As := [.int (qI (p0)), .int (qI (p1)), .int (qI (p2)), .int (qI (p3))]) (rest := []) ⟨hx, hb, hml, hown, hg⟩ (c_X8_ifEdited l D cy mo mz msv mtx mmo mif mmg mtn mie mme mrd mas T hz HZ len tx th _ gT.1 hM9 p0 p1 p2 p3 p0.toNat p3.toNat (by omega) (by omega) (by omega) (by omega) (by omega) _) (cv_L_149 hg rfl rfl ⟨(Nat.le_of_ble_eq_true rfl), (Nat.le_of_ble_eq_true rfl)⟩) ⟨q_blind, va_recv hK (fl_blk hP 0 rfl) (ci := 8) (q0 := 0) rfl hfsM, q_preM _ hK hN hP hD [0] (by decide) rfl⟩ rfl rfl hl.1 rfl (lv_room (Nat.le_of_ble_eq_true rfl)) dL_law_1215 ⟨(by show _ + 0 ≤ 601024; omega), (by show _ + 0 ≤ 7293034; omega)⟩) rfl rfl (by decide) (fun r_1215 u_1215 H locs h_1215 hP hD hS => ?_)
      have hP : va_P D vwCl [u_1185, [(oa, aJ cy 1 (qu (g) 0 ((qI (lV (seT (adE T p0 p1 p2)) p3.toNat)).toInt64)))], u_1215].flatten H := hP
      have hD : va_D A [u_1185, [(oa, aJ cy 1 (qu (g) 0 ((qI (lV (seT (adE T p0 p1 p2)) p3.toNat)).toInt64)))], u_1215].flatten := hD
      obtain ⟨rfl, h_1215⟩ := h_1215
      obtain ⟨fs_1215, hfs_1215⟩ := MW_at h_1215
      have gk9 : gOk (T) := gT.1
      refine lv_istore (lv' := [(6, .int (qI (lV (seT (adE T p0 p1 p2)) p3.toNat))), (5, .int (qI (0))), (0, .ref (b)), (1, .ref (x)), (2, .ref (mo)), (3, .ref (oa)), (4, .int (qI (((6 * t : Nat) : Int))))]) hx hb dL_law_1218 hl (by decide) rfl (fun ls hl => ?_)
      refine lv_aload_n hx hb dL_law_1220 rfl (lv_at hl 4 rfl) ?_
      refine q_backi [2] [0, 1] (br := [u_1185, [(oa, aJ cy 1 (qu (g) 0 ((qI (lV (seT (adE T p0 p1 p2)) p3.toNat)).toInt64)))]]) hP hD hS hA (va_runV (As := []) (rest := []) ⟨hx, hb, hml, hown, hg⟩ (c_X8_thrown l D cy mo mz msv mtx mmo mif mmg mtn mie mme mrd mas T hz HZ len tx 0 _ gk9 h_1215 _) (cv_L_85 hg rfl rfl ⟨(Nat.le_of_ble_eq_true rfl), (Nat.le_of_ble_eq_true rfl)⟩) ⟨q_blind, va_recv hK (fl_blk hP 2 rfl) (ci := 8) (q0 := 0) rfl hfs_1215, q_preM _ hK hN hP hD [2] (by decide) rfl⟩ rfl rfl hl.1 rfl (lv_room (Nat.le_of_ble_eq_true rfl)) dL_law_1221 ⟨(by show _ + 0 ≤ 601024; omega), (by show _ + 0 ≤ 7293034; omega)⟩) rfl rfl (by decide) (fun r_1221 u_1221 H locs h_1221 hP hD hS => ?_)
      have hP : va_P D vwCl [u_1185, [(oa, aJ cy 1 (qu (g) 0 ((qI (lV (seT (adE T p0 p1 p2)) p3.toNat)).toInt64)))], u_1221].flatten H := hP
      have hD : va_D A [u_1185, [(oa, aJ cy 1 (qu (g) 0 ((qI (lV (seT (adE T p0 p1 p2)) p3.toNat)).toInt64)))], u_1221].flatten := hD
      obtain ⟨rfl, h_1221⟩ := h_1221
      refine lv_iload hx hb dL_law_1224 (lv_at hl 1 rfl) ?_
      refine q_icmp_eq (tgt := 1231) hx hb dL_law_1226 (by decide) (by omega) (fun c_1226 => ?_) (fun c_1226 => ?_)
      · skip
        refine lv_iload hx hb dL_law_1231 (lv_at hl 1 rfl) ?_
        refine q_if_ne (tgt := 1248) hx hb dL_law_1233 (by decide) (by omega) (fun c_1233 => ?_) (fun c_1233 => ?_)
        · skip
          exact absurd c_1233 (by decide)
        · skip
          refine lv_aload_n hx hb dL_law_1236 rfl (lv_at hl 5 rfl) ?_
          refine q_iconst hx hb dL_law_1237 ?_
          refine q_laldW (j := 0) (v := (qI (lV (seT (adE T p0 p1 p2)) p3.toNat)).toInt64) hx hb hK (fl_blk hP 1 rfl) 0 rfl (by omega) (qu_s _ _ _) dL_law_1238 ?_
          refine lv_iload hx hb dL_law_1239 (lv_at hl 0 rfl) ?_
          refine lv_i2l hx hb dL_law_1241 rfl ?_
          refine q_lcmp0 hx hb dL_law_1242 ?_
          refine q_if_eq (tgt := 1248) hx hb dL_law_1243 (by decide) (by omega) (fun c_1243 => ?_) (fun c_1243 => ?_)
          · skip
            refine lv_goto (tgt := 1420) hx hb dL_law_1248 (by decide) ?_
            have hP := fl_sub (bs' := [u_1185, u_1221, [(oa, aJ cy 1 (qu (g) 0 ((qI (lV (seT (adE T p0 p1 p2)) p3.toNat)).toInt64)))]]) hP [0, 2, 1] rfl
            have hD := fl_subD (bs' := [u_1185, u_1221, [(oa, aJ cy 1 (qu (g) 0 ((qI (lV (seT (adE T p0 p1 p2)) p3.toNat)).toInt64)))]]) hD [0, 2, 1] (by decide) rfl
            refine W.widen (k := cells + 1) (n := slots + 6) (by omega) (by omega) ?_
            exact kk T hz HZ len tx 0 _ _ _ _ _ _ ⟨⟨la, lv9, ls9, fa, xh, xs, la2, lv92, ls92, fb, fw, bu, ta, rc, re, gb, oc, oe, rs, rc2, re2, gb2, oc2, oe2, rs2, rr, ad, h_1185⟩, ⟨mz, msv, mtx, mmo, mif, mmg, mtn, mie, mme, mrd, mas, h_1221⟩, ⟨gT.1, gT3⟩, hHG, (by omega)⟩ hP hD hS (lv_sub hl [2, 3, 4, 5, 6] rfl)
          · skip
            exact absurd c_1243 (by decide)
      · skip
        exact absurd c_1226 (by decide)
    · skip
      refine lv_aload_n hx hb dL_law_1159 rfl (lv_at hl 1 rfl) ?_
      refine lv_aload_n hx hb dL_law_1160 rfl (lv_at hl 0 rfl) ?_
      refine lv_iload hx hb dL_law_1161 (lv_at hl 4 rfl) ?_
      refine q_iconst hx hb dL_law_1163 ?_
      refine q_iadd hx hb dL_law_1164 ?_
      refine q_sld (j := 6 * t + 1) hx hb hX hbl hbA hS (by omega) ep0 dL_law_1165 ?_
      refine lv_aload_n hx hb dL_law_1166 rfl (lv_at hl 0 rfl) ?_
      refine lv_iload hx hb dL_law_1167 (lv_at hl 4 rfl) ?_
      refine q_iconst hx hb dL_law_1169 ?_
      refine q_iadd hx hb dL_law_1170 ?_
      refine q_sld (j := 6 * t + 2) hx hb hX hbl hbA hS (by omega) ep1 dL_law_1171 ?_
      refine lv_aload_n hx hb dL_law_1172 rfl (lv_at hl 0 rfl) ?_
      refine lv_iload hx hb dL_law_1173 (lv_at hl 4 rfl) ?_
      refine q_iconst hx hb dL_law_1175 ?_
      refine q_iadd hx hb dL_law_1176 ?_
      refine q_sld (j := 6 * t + 3) hx hb hX hbl hbA hS (by omega) ep2 dL_law_1177 ?_
      refine lv_aload_n hx hb dL_law_1178 rfl (lv_at hl 0 rfl) ?_
      refine lv_iload hx hb dL_law_1179 (lv_at hl 4 rfl) ?_
      refine q_iconst hx hb dL_law_1181 ?_
      refine q_iadd hx hb dL_law_1182 ?_
      refine q_sld (j := 6 * t + 4) hx hb hX hbl hbA hS (by omega) ep3 dL_law_1183 ?_
      refine lv_aload_n hx hb dL_law_1184 rfl (lv_at hl 3 rfl) ?_
      refine q_backiX (mc := 1) (ms := 6) [0, 2] [1] (br := [M9]) hP hD hS hA (vx_runSW (As := [.ref (x), .int (qI (p0)), .int (qI (p1)), .int (qI (p2)), .int (qI (p3)), .ref (oa)]) (rest := []) ⟨hx, hb, hml, hown, hg⟩ (c_L_ifEdited_no2 l hlt9 D cy x la lv9 ls9 fa xh xs la2 lv92 ls92 fb fw bu ta rc re gb oc oe rs rc2 re2 gb2 oc2 oe2 rs2 rr ad T hz HZ len tx _ gT.1 hC9 oa _ p0 p1 p2 p3 (by omega) (by omega) (by omega) (by omega) (by omega) (by omega) _) (csW_L_146 hg rfl rfl ⟨(Nat.le_of_ble_eq_true rfl), (Nat.le_of_ble_eq_true rfl)⟩) ⟨q_blindW, fun U hU hU9 => ⟨rfl, (q_preM [.ref (x), .int (qI (p0)), .int (qI (p1)), .int (qI (p2)), .int (qI (p3)), .ref (oa)] hK hN hP hD [0, 2] (by decide) rfl U hU hU9).2, hEx9.step hU9 (by rw [hU]; exact hS.2.1) (fl_free hD hS hA [0, 2] rfl), hNc9.moved hU9.alike⟩⟩ rfl rfl hl.1 rfl (lv_room (Nat.le_of_ble_eq_true rfl)) dL_law_1185 ⟨(by show cells + 1 ≤ 601024; omega), (by show slots + 6 ≤ 7293034; omega)⟩) rfl rfl (by decide) (fun r_1185 u_1185 H locs h_1185 hP hD hS => ?_)
      obtain ⟨rfl, h_1185⟩ := h_1185
      have hP : va_P D vwCl [M9, u_1185, [(oa, aJ cy 1 (g))]].flatten H := hP
      have hD : va_D A [M9, u_1185, [(oa, aJ cy 1 (g))]].flatten := hD
      refine lv_istore (lv' := [(5, .int (qI (2))), (0, .ref (b)), (1, .ref (x)), (2, .ref (mo)), (3, .ref (oa)), (4, .int (qI (((6 * t : Nat) : Int))))]) hx hb dL_law_1188 hl (by decide) rfl (fun ls hl => ?_)
      refine lv_aload_n hx hb dL_law_1190 rfl (lv_at hl 3 rfl) ?_
      refine lv_aload_n hx hb dL_law_1191 rfl (lv_at hl 1 rfl) ?_
      refine lv_iload hx hb dL_law_1192 (lv_at hl 5 rfl) ?_
      refine q_iconst hx hb dL_law_1194 ?_
      refine q_iadd hx hb dL_law_1195 ?_
      refine q_sld (j := 6 * t + 1) hx hb hX hbl hbA hS (by omega) ep0 dL_law_1196 ?_
      refine lv_aload_n hx hb dL_law_1197 rfl (lv_at hl 1 rfl) ?_
      refine lv_iload hx hb dL_law_1198 (lv_at hl 5 rfl) ?_
      refine q_iconst hx hb dL_law_1200 ?_
      refine q_iadd hx hb dL_law_1201 ?_
      refine q_sld (j := 6 * t + 2) hx hb hX hbl hbA hS (by omega) ep1 dL_law_1202 ?_
      refine lv_aload_n hx hb dL_law_1203 rfl (lv_at hl 1 rfl) ?_
      refine lv_iload hx hb dL_law_1204 (lv_at hl 5 rfl) ?_
      refine q_iconst hx hb dL_law_1206 ?_
      refine q_iadd hx hb dL_law_1207 ?_
      refine q_sld (j := 6 * t + 3) hx hb hX hbl hbA hS (by omega) ep2 dL_law_1208 ?_
      refine lv_aload_n hx hb dL_law_1209 rfl (lv_at hl 1 rfl) ?_
      refine lv_iload hx hb dL_law_1210 (lv_at hl 5 rfl) ?_
      refine q_iconst hx hb dL_law_1212 ?_
      refine q_iadd hx hb dL_law_1213 ?_
      refine q_sld (j := 6 * t + 4) hx hb hX hbl hbA hS (by omega) ep3 dL_law_1214 ?_
      refine q_backi [0] [1, 2] (br := [u_1185, [(oa, aJ cy 1 (g))]]) hP hD hS hA (va_runV (As := [.int (qI (p0)), .int (qI (p1)), .int (qI (p2)), .int (qI (p3))]) (rest := []) ⟨hx, hb, hml, hown, hg⟩ (c_X8_ifEdited_no2 l D cy mo mz msv mtx mmo mif mmg mtn mie mme mrd mas T hz HZ len tx th _ gT.1 hM9 p0 p1 p2 p3 (by omega) (by omega) (by omega) (by omega) (by omega) (by omega) _) (cv_L_149 hg rfl rfl ⟨(Nat.le_of_ble_eq_true rfl), (Nat.le_of_ble_eq_true rfl)⟩) ⟨q_blind, va_recv hK (fl_blk hP 0 rfl) (ci := 8) (q0 := 0) rfl hfsM, q_preM _ hK hN hP hD [0] (by decide) rfl⟩ rfl rfl hl.1 rfl (lv_room (Nat.le_of_ble_eq_true rfl)) dL_law_1215 ⟨(by show _ + 0 ≤ 601024; omega), (by show _ + 0 ≤ 7293034; omega)⟩) rfl rfl (by decide) (fun r_1215 u_1215 H locs h_1215 hP hD hS => ?_)
      have hP : va_P D vwCl [u_1185, [(oa, aJ cy 1 (g))], u_1215].flatten H := hP
      have hD : va_D A [u_1185, [(oa, aJ cy 1 (g))], u_1215].flatten := hD
      obtain ⟨fs_1215, hfs_1215⟩ := MW_at h_1215
      have gk9 : gOk (T) := gT.1
      refine lv_istore (lv' := [(6, .int (r_1215)), (5, .int (qI (2))), (0, .ref (b)), (1, .ref (x)), (2, .ref (mo)), (3, .ref (oa)), (4, .int (qI (((6 * t : Nat) : Int))))]) hx hb dL_law_1218 hl (by decide) rfl (fun ls hl => ?_)
      refine lv_aload_n hx hb dL_law_1220 rfl (lv_at hl 4 rfl) ?_
      refine q_backi [2] [0, 1] (br := [u_1185, [(oa, aJ cy 1 (g))]]) hP hD hS hA (va_runV (As := []) (rest := []) ⟨hx, hb, hml, hown, hg⟩ (c_X8_thrown l D cy mo mz msv mtx mmo mif mmg mtn mie mme mrd mas T hz HZ len tx 2 _ gk9 h_1215 _) (cv_L_85 hg rfl rfl ⟨(Nat.le_of_ble_eq_true rfl), (Nat.le_of_ble_eq_true rfl)⟩) ⟨q_blind, va_recv hK (fl_blk hP 2 rfl) (ci := 8) (q0 := 0) rfl hfs_1215, q_preM _ hK hN hP hD [2] (by decide) rfl⟩ rfl rfl hl.1 rfl (lv_room (Nat.le_of_ble_eq_true rfl)) dL_law_1221 ⟨(by show _ + 0 ≤ 601024; omega), (by show _ + 0 ≤ 7293034; omega)⟩) rfl rfl (by decide) (fun r_1221 u_1221 H locs h_1221 hP hD hS => ?_)
      have hP : va_P D vwCl [u_1185, [(oa, aJ cy 1 (g))], u_1221].flatten H := hP
      have hD : va_D A [u_1185, [(oa, aJ cy 1 (g))], u_1221].flatten := hD
      obtain ⟨rfl, h_1221⟩ := h_1221
      refine lv_iload hx hb dL_law_1224 (lv_at hl 1 rfl) ?_
      refine q_icmp_eq (tgt := 1231) hx hb dL_law_1226 (by decide) (by omega) (fun c_1226 => ?_) (fun c_1226 => ?_)
      · skip
        refine lv_iload hx hb dL_law_1231 (lv_at hl 1 rfl) ?_
        refine q_if_ne (tgt := 1248) hx hb dL_law_1233 (by decide) (by omega) (fun c_1233 => ?_) (fun c_1233 => ?_)
        · skip
          refine lv_goto (tgt := 1420) hx hb dL_law_1248 (by decide) ?_
          have hP := fl_sub (bs' := [u_1185, u_1221, [(oa, aJ cy 1 (g))]]) hP [0, 2, 1] rfl
          have hD := fl_subD (bs' := [u_1185, u_1221, [(oa, aJ cy 1 (g))]]) hD [0, 2, 1] (by decide) rfl
          exact kk T hz HZ len tx 2 _ _ _ _ _ _ ⟨⟨la, lv9, ls9, fa, xh, xs, la2, lv92, ls92, fb, fw, bu, ta, rc, re, gb, oc, oe, rs, rc2, re2, gb2, oc2, oe2, rs2, rr, ad, h_1185⟩, ⟨mz, msv, mtx, mmo, mif, mmg, mtn, mie, mme, mrd, mas, h_1221⟩, gT, hHG, (by omega)⟩ hP hD hS (lv_sub hl [2, 3, 4, 5, 6] rfl)
        · skip
          exact absurd c_1233 (by decide)
      · skip
        exact absurd c_1226 (by decide)
  · skip
    refine lv_aload_n hx hb dL_law_1159 rfl (lv_at hl 1 rfl) ?_
    refine lv_aload_n hx hb dL_law_1160 rfl (lv_at hl 0 rfl) ?_
    refine lv_iload hx hb dL_law_1161 (lv_at hl 4 rfl) ?_
    refine q_iconst hx hb dL_law_1163 ?_
    refine q_iadd hx hb dL_law_1164 ?_
    refine q_sld (j := 6 * t + 1) hx hb hX hbl hbA hS (by omega) ep0 dL_law_1165 ?_
    refine lv_aload_n hx hb dL_law_1166 rfl (lv_at hl 0 rfl) ?_
    refine lv_iload hx hb dL_law_1167 (lv_at hl 4 rfl) ?_
    refine q_iconst hx hb dL_law_1169 ?_
    refine q_iadd hx hb dL_law_1170 ?_
    refine q_sld (j := 6 * t + 2) hx hb hX hbl hbA hS (by omega) ep1 dL_law_1171 ?_
    refine lv_aload_n hx hb dL_law_1172 rfl (lv_at hl 0 rfl) ?_
    refine lv_iload hx hb dL_law_1173 (lv_at hl 4 rfl) ?_
    refine q_iconst hx hb dL_law_1175 ?_
    refine q_iadd hx hb dL_law_1176 ?_
    refine q_sld (j := 6 * t + 3) hx hb hX hbl hbA hS (by omega) ep2 dL_law_1177 ?_
    refine lv_aload_n hx hb dL_law_1178 rfl (lv_at hl 0 rfl) ?_
    refine lv_iload hx hb dL_law_1179 (lv_at hl 4 rfl) ?_
    refine q_iconst hx hb dL_law_1181 ?_
    refine q_iadd hx hb dL_law_1182 ?_
    refine q_sld (j := 6 * t + 4) hx hb hX hbl hbA hS (by omega) ep3 dL_law_1183 ?_
    refine lv_aload_n hx hb dL_law_1184 rfl (lv_at hl 3 rfl) ?_
    refine q_backiX (mc := 1) (ms := 6) [0, 2] [1] (br := [M9]) hP hD hS hA (vx_runSW (As := [.ref (x), .int (qI (p0)), .int (qI (p1)), .int (qI (p2)), .int (qI (p3)), .ref (oa)]) (rest := []) ⟨hx, hb, hml, hown, hg⟩ (c_L_ifEdited_no1 l hlt9 D cy x la lv9 ls9 fa xh xs la2 lv92 ls92 fb fw bu ta rc re gb oc oe rs rc2 re2 gb2 oc2 oe2 rs2 rr ad T hz HZ len tx _ gT.1 hC9 oa _ p0 p1 p2 p3 (by omega) (by omega) (by omega) (by omega) (by omega) _) (csW_L_146 hg rfl rfl ⟨(Nat.le_of_ble_eq_true rfl), (Nat.le_of_ble_eq_true rfl)⟩) ⟨q_blindW, fun U hU hU9 => ⟨rfl, (q_preM [.ref (x), .int (qI (p0)), .int (qI (p1)), .int (qI (p2)), .int (qI (p3)), .ref (oa)] hK hN hP hD [0, 2] (by decide) rfl U hU hU9).2, hEx9.step hU9 (by rw [hU]; exact hS.2.1) (fl_free hD hS hA [0, 2] rfl), hNc9.moved hU9.alike⟩⟩ rfl rfl hl.1 rfl (lv_room (Nat.le_of_ble_eq_true rfl)) dL_law_1185 ⟨(by show cells + 1 ≤ 601024; omega), (by show slots + 6 ≤ 7293034; omega)⟩) rfl rfl (by decide) (fun r_1185 u_1185 H locs h_1185 hP hD hS => ?_)
    obtain ⟨rfl, h_1185⟩ := h_1185
    have hP : va_P D vwCl [M9, u_1185, [(oa, aJ cy 1 (g))]].flatten H := hP
    have hD : va_D A [M9, u_1185, [(oa, aJ cy 1 (g))]].flatten := hD
    refine lv_istore (lv' := [(5, .int (qI (1))), (0, .ref (b)), (1, .ref (x)), (2, .ref (mo)), (3, .ref (oa)), (4, .int (qI (((6 * t : Nat) : Int))))]) hx hb dL_law_1188 hl (by decide) rfl (fun ls hl => ?_)
    refine lv_aload_n hx hb dL_law_1190 rfl (lv_at hl 3 rfl) ?_
    refine lv_aload_n hx hb dL_law_1191 rfl (lv_at hl 1 rfl) ?_
    refine lv_iload hx hb dL_law_1192 (lv_at hl 5 rfl) ?_
    refine q_iconst hx hb dL_law_1194 ?_
    refine q_iadd hx hb dL_law_1195 ?_
    refine q_sld (j := 6 * t + 1) hx hb hX hbl hbA hS (by omega) ep0 dL_law_1196 ?_
    refine lv_aload_n hx hb dL_law_1197 rfl (lv_at hl 1 rfl) ?_
    refine lv_iload hx hb dL_law_1198 (lv_at hl 5 rfl) ?_
    refine q_iconst hx hb dL_law_1200 ?_
    refine q_iadd hx hb dL_law_1201 ?_
    refine q_sld (j := 6 * t + 2) hx hb hX hbl hbA hS (by omega) ep1 dL_law_1202 ?_
    refine lv_aload_n hx hb dL_law_1203 rfl (lv_at hl 1 rfl) ?_
    refine lv_iload hx hb dL_law_1204 (lv_at hl 5 rfl) ?_
    refine q_iconst hx hb dL_law_1206 ?_
    refine q_iadd hx hb dL_law_1207 ?_
    refine q_sld (j := 6 * t + 3) hx hb hX hbl hbA hS (by omega) ep2 dL_law_1208 ?_
    refine lv_aload_n hx hb dL_law_1209 rfl (lv_at hl 1 rfl) ?_
    refine lv_iload hx hb dL_law_1210 (lv_at hl 5 rfl) ?_
    refine q_iconst hx hb dL_law_1212 ?_
    refine q_iadd hx hb dL_law_1213 ?_
    refine q_sld (j := 6 * t + 4) hx hb hX hbl hbA hS (by omega) ep3 dL_law_1214 ?_
    refine q_backi [0] [1, 2] (br := [u_1185, [(oa, aJ cy 1 (g))]]) hP hD hS hA (va_runV (As := [.int (qI (p0)), .int (qI (p1)), .int (qI (p2)), .int (qI (p3))]) (rest := []) ⟨hx, hb, hml, hown, hg⟩ (c_X8_ifEdited_no1 l D cy mo mz msv mtx mmo mif mmg mtn mie mme mrd mas T hz HZ len tx th _ gT.1 hM9 p0 p1 p2 p3 (by omega) (by omega) (by omega) (by omega) (by omega) _) (cv_L_149 hg rfl rfl ⟨(Nat.le_of_ble_eq_true rfl), (Nat.le_of_ble_eq_true rfl)⟩) ⟨q_blind, va_recv hK (fl_blk hP 0 rfl) (ci := 8) (q0 := 0) rfl hfsM, q_preM _ hK hN hP hD [0] (by decide) rfl⟩ rfl rfl hl.1 rfl (lv_room (Nat.le_of_ble_eq_true rfl)) dL_law_1215 ⟨(by show _ + 0 ≤ 601024; omega), (by show _ + 0 ≤ 7293034; omega)⟩) rfl rfl (by decide) (fun r_1215 u_1215 H locs h_1215 hP hD hS => ?_)
    have hP : va_P D vwCl [u_1185, [(oa, aJ cy 1 (g))], u_1215].flatten H := hP
    have hD : va_D A [u_1185, [(oa, aJ cy 1 (g))], u_1215].flatten := hD
    obtain ⟨fs_1215, hfs_1215⟩ := MW_at h_1215
    have gk9 : gOk (T) := gT.1
    refine lv_istore (lv' := [(6, .int (r_1215)), (5, .int (qI (1))), (0, .ref (b)), (1, .ref (x)), (2, .ref (mo)), (3, .ref (oa)), (4, .int (qI (((6 * t : Nat) : Int))))]) hx hb dL_law_1218 hl (by decide) rfl (fun ls hl => ?_)
    refine lv_aload_n hx hb dL_law_1220 rfl (lv_at hl 4 rfl) ?_
    refine q_backi [2] [0, 1] (br := [u_1185, [(oa, aJ cy 1 (g))]]) hP hD hS hA (va_runV (As := []) (rest := []) ⟨hx, hb, hml, hown, hg⟩ (c_X8_thrown l D cy mo mz msv mtx mmo mif mmg mtn mie mme mrd mas T hz HZ len tx 1 _ gk9 h_1215 _) (cv_L_85 hg rfl rfl ⟨(Nat.le_of_ble_eq_true rfl), (Nat.le_of_ble_eq_true rfl)⟩) ⟨q_blind, va_recv hK (fl_blk hP 2 rfl) (ci := 8) (q0 := 0) rfl hfs_1215, q_preM _ hK hN hP hD [2] (by decide) rfl⟩ rfl rfl hl.1 rfl (lv_room (Nat.le_of_ble_eq_true rfl)) dL_law_1221 ⟨(by show _ + 0 ≤ 601024; omega), (by show _ + 0 ≤ 7293034; omega)⟩) rfl rfl (by decide) (fun r_1221 u_1221 H locs h_1221 hP hD hS => ?_)
    have hP : va_P D vwCl [u_1185, [(oa, aJ cy 1 (g))], u_1221].flatten H := hP
    have hD : va_D A [u_1185, [(oa, aJ cy 1 (g))], u_1221].flatten := hD
    obtain ⟨rfl, h_1221⟩ := h_1221
    refine lv_iload hx hb dL_law_1224 (lv_at hl 1 rfl) ?_
    refine q_icmp_eq (tgt := 1231) hx hb dL_law_1226 (by decide) (by omega) (fun c_1226 => ?_) (fun c_1226 => ?_)
    · skip
      refine lv_iload hx hb dL_law_1231 (lv_at hl 1 rfl) ?_
      refine q_if_ne (tgt := 1248) hx hb dL_law_1233 (by decide) (by omega) (fun c_1233 => ?_) (fun c_1233 => ?_)
      · skip
        refine lv_goto (tgt := 1420) hx hb dL_law_1248 (by decide) ?_
        have hP := fl_sub (bs' := [u_1185, u_1221, [(oa, aJ cy 1 (g))]]) hP [0, 2, 1] rfl
        have hD := fl_subD (bs' := [u_1185, u_1221, [(oa, aJ cy 1 (g))]]) hD [0, 2, 1] (by decide) rfl
        exact kk T hz HZ len tx 1 _ _ _ _ _ _ ⟨⟨la, lv9, ls9, fa, xh, xs, la2, lv92, ls92, fb, fw, bu, ta, rc, re, gb, oc, oe, rs, rc2, re2, gb2, oc2, oe2, rs2, rr, ad, h_1185⟩, ⟨mz, msv, mtx, mmo, mif, mmg, mtn, mie, mme, mrd, mas, h_1221⟩, gT, hHG, (by omega)⟩ hP hD hS (lv_sub hl [2, 3, 4, 5, 6] rfl)
      · skip
        exact absurd c_1233 (by decide)
    · skip
      exact absurd c_1226 (by decide)

set_option maxRecDepth 100000 in
set_option maxHeartbeats 4000000 in
theorem lw_ifRemoved {p : Program} {l : Launch} {e : Env} {s : State} {m : MethodId} {below : List Frame} {meth : Method} {c : Code} {b L : Nat} {sc9 : Nat → Int32} {D : va_G} {cy : Nat → ClassId} {A : Nat → Prop} {Q : State → Prop} (hlt9 : l.stackTraces = false) (B9 : lwB p s m c b L sc9 D cy A) {x mo oa t : Nat} (ht9 : 6 * t + 6 ≤ L) {T : LSt} {hz : Nat} {HZ : Nat → LSt} {len : Nat} {tx : Nat → Int} {th : Int} {W9 M9 : va_W} {g : Nat → Int64} {cells slots : Nat} (hr9 : cells ≤ 1000 ∧ slots ≤ 8000) (hI9 : lwI cy x mo T hz HZ len tx th W9 M9) {H : Heap} {locs : List Loc} {ls : Array Slot} (hP : va_P D vwCl [W9, M9, [(oa, aJ cy 1 g)]].flatten H) (hD : va_D A [W9, M9, [(oa, aJ cy 1 g)]].flatten) (hS : va_S A s.heap H locs) (hl : lv_has ls 9 (lwL b x mo oa t)) (kk : lwK p l e s m below meth c b D cy A Q x mo oa t cells slots) : W p l e room_1 s m #[Value.ref b] below meth c H locs cells slots Q (F0 m 1251 ls []) := by
  obtain ⟨hx, hb, hml, hown, hg, hX, hbl, hbA, hA, hK, hN, hEx9, hNc9, hL9⟩ := B9
  obtain ⟨⟨la, lv9, ls9, fa, xh, xs, la2, lv92, ls92, fb, fw, bu, ta, rc, re, gb, oc, oe, rs, rc2, re2, gb2, oc2, oe2, rs2, rr, ad, hC9⟩, ⟨mz, msv, mtx, mmo, mif, mmg, mtn, mie, mme, mrd, mas, hM9⟩, gT, hHG, hln9⟩ := hI9
  have gT3 := gT.2
  have gN16 : lN9 T ≤ 16 := gT.1.2.2.1.1
  obtain ⟨fsC, hfsC⟩ := CW_at hC9
  obtain ⟨fsM, hfsM⟩ := MW_at hM9
  have hl : lv_has ls 9 [(0, .ref (b)), (1, .ref (x)), (2, .ref (mo)), (3, .ref (oa)), (4, .int (qI (((6 * t : Nat) : Int))))] := hl
  obtain ⟨p0, ep0⟩ : ∃ z : Int, (sc9 (6 * t + 1)).toInt = z := ⟨_, rfl⟩
  have r0 : -2147483648 ≤ p0 ∧ p0 < 2147483648 := by rw [← ep0]; exact ⟨Int32.le_toInt _, Int32.toInt_lt _⟩
  by_cases cA9 : 0 ≤ p0 ∧ p0 < (lN9 T : Int)
  · skip
    refine lv_aload_n hx hb dL_law_1251 rfl (lv_at hl 1 rfl) ?_
    refine lv_aload_n hx hb dL_law_1252 rfl (lv_at hl 0 rfl) ?_
    refine lv_iload hx hb dL_law_1253 (lv_at hl 4 rfl) ?_
    refine q_iconst hx hb dL_law_1255 ?_
    refine q_iadd hx hb dL_law_1256 ?_
    refine q_sld (j := 6 * t + 1) hx hb hX hbl hbA hS (by omega) ep0 dL_law_1257 ?_
    refine lv_aload_n hx hb dL_law_1258 rfl (lv_at hl 3 rfl) ?_
    refine q_backiX (mc := 0) (ms := 0) [0, 2] [1] (br := [M9]) hP hD hS hA (vx_runSW (As := [.ref (x), .int (qI (p0)), .ref (oa)]) (rest := []) ⟨hx, hb, hml, hown, hg⟩ (c_L_ifRemoved l D cy x la lv9 ls9 fa xh xs la2 lv92 ls92 fb fw bu ta rc re gb oc oe rs rc2 re2 gb2 oc2 oe2 rs2 rr ad T hz HZ len tx _ gT.1 hC9 oa _ p0 p0.toNat (by omega) _) (csW_L_150 hg rfl rfl ⟨(Nat.le_of_ble_eq_true rfl), (Nat.le_of_ble_eq_true rfl)⟩) ⟨q_blind, q_preM [.ref (x), .int (qI (p0)), .ref (oa)] hK hN hP hD [0, 2] (by decide) rfl⟩ rfl rfl hl.1 rfl (lv_room (Nat.le_of_ble_eq_true rfl)) dL_law_1259 ⟨(by show cells + 0 ≤ 601024; omega), (by show slots + 0 ≤ 7293034; omega)⟩) rfl rfl (by decide) (fun r_1259 u_1259 H locs h_1259 hP hD hS => ?_)
    obtain ⟨rfl, h_1259⟩ := h_1259
    have hP : va_P D vwCl [M9, u_1259, [(oa, aJ cy 1 (qu (g) 0 ((qI (rmT T p0.toNat)).toInt64)))]].flatten H := hP
    have hD : va_D A [M9, u_1259, [(oa, aJ cy 1 (qu (g) 0 ((qI (rmT T p0.toNat)).toInt64)))]].flatten := hD
    refine lv_istore (lv' := [(5, .int (qI (0))), (0, .ref (b)), (1, .ref (x)), (2, .ref (mo)), (3, .ref (oa)), (4, .int (qI (((6 * t : Nat) : Int))))]) hx hb dL_law_1262 hl (by decide) rfl (fun ls hl => ?_)
    refine lv_aload_n hx hb dL_law_1264 rfl (lv_at hl 3 rfl) ?_
    refine lv_aload_n hx hb dL_law_1265 rfl (lv_at hl 1 rfl) ?_
    refine lv_iload hx hb dL_law_1266 (lv_at hl 5 rfl) ?_
    refine q_iconst hx hb dL_law_1268 ?_
    refine q_iadd hx hb dL_law_1269 ?_
    refine q_sld (j := 6 * t + 1) hx hb hX hbl hbA hS (by omega) ep0 dL_law_1270 ?_
    refine q_backi [0] [1, 2] (br := [u_1259, [(oa, aJ cy 1 (qu (g) 0 ((qI (rmT T p0.toNat)).toInt64)))]]) hP hD hS hA (va_runV (As := [.int (qI (p0))]) (rest := []) ⟨hx, hb, hml, hown, hg⟩ (c_X8_ifRemoved l D cy mo mz msv mtx mmo mif mmg mtn mie mme mrd mas T hz HZ len tx th _ gT.1 hM9 p0 p0.toNat (by omega) _) (cv_L_152 hg rfl rfl ⟨(Nat.le_of_ble_eq_true rfl), (Nat.le_of_ble_eq_true rfl)⟩) ⟨q_blind, va_recv hK (fl_blk hP 0 rfl) (ci := 8) (q0 := 0) rfl hfsM, q_preM _ hK hN hP hD [0] (by decide) rfl⟩ rfl rfl hl.1 rfl (lv_room (Nat.le_of_ble_eq_true rfl)) dL_law_1271 ⟨(by show _ + 0 ≤ 601024; omega), (by show _ + 0 ≤ 7293034; omega)⟩) rfl rfl (by decide) (fun r_1271 u_1271 H locs h_1271 hP hD hS => ?_)
    have hP : va_P D vwCl [u_1259, [(oa, aJ cy 1 (qu (g) 0 ((qI (rmT T p0.toNat)).toInt64)))], u_1271].flatten H := hP
    have hD : va_D A [u_1259, [(oa, aJ cy 1 (qu (g) 0 ((qI (rmT T p0.toNat)).toInt64)))], u_1271].flatten := hD
    obtain ⟨rfl, h_1271⟩ := h_1271
    obtain ⟨fs_1271, hfs_1271⟩ := MW_at h_1271
    have gk9 : gOk (T) := gT.1
    refine lv_istore (lv' := [(6, .int (qI (rmT T p0.toNat))), (5, .int (qI (0))), (0, .ref (b)), (1, .ref (x)), (2, .ref (mo)), (3, .ref (oa)), (4, .int (qI (((6 * t : Nat) : Int))))]) hx hb dL_law_1274 hl (by decide) rfl (fun ls hl => ?_)
    refine lv_aload_n hx hb dL_law_1276 rfl (lv_at hl 4 rfl) ?_
    refine q_backi [2] [0, 1] (br := [u_1259, [(oa, aJ cy 1 (qu (g) 0 ((qI (rmT T p0.toNat)).toInt64)))]]) hP hD hS hA (va_runV (As := []) (rest := []) ⟨hx, hb, hml, hown, hg⟩ (c_X8_thrown l D cy mo mz msv mtx mmo mif mmg mtn mie mme mrd mas T hz HZ len tx 0 _ gk9 h_1271 _) (cv_L_85 hg rfl rfl ⟨(Nat.le_of_ble_eq_true rfl), (Nat.le_of_ble_eq_true rfl)⟩) ⟨q_blind, va_recv hK (fl_blk hP 2 rfl) (ci := 8) (q0 := 0) rfl hfs_1271, q_preM _ hK hN hP hD [2] (by decide) rfl⟩ rfl rfl hl.1 rfl (lv_room (Nat.le_of_ble_eq_true rfl)) dL_law_1277 ⟨(by show _ + 0 ≤ 601024; omega), (by show _ + 0 ≤ 7293034; omega)⟩) rfl rfl (by decide) (fun r_1277 u_1277 H locs h_1277 hP hD hS => ?_)
    have hP : va_P D vwCl [u_1259, [(oa, aJ cy 1 (qu (g) 0 ((qI (rmT T p0.toNat)).toInt64)))], u_1277].flatten H := hP
    have hD : va_D A [u_1259, [(oa, aJ cy 1 (qu (g) 0 ((qI (rmT T p0.toNat)).toInt64)))], u_1277].flatten := hD
    obtain ⟨rfl, h_1277⟩ := h_1277
    refine lv_iload hx hb dL_law_1280 (lv_at hl 1 rfl) ?_
    refine q_icmp_eq (tgt := 1287) hx hb dL_law_1282 (by decide) (by omega) (fun c_1282 => ?_) (fun c_1282 => ?_)
    · skip
      refine lv_iload hx hb dL_law_1287 (lv_at hl 1 rfl) ?_
      refine q_if_ne (tgt := 1304) hx hb dL_law_1289 (by decide) (by omega) (fun c_1289 => ?_) (fun c_1289 => ?_)
      · skip
        exact absurd c_1289 (by decide)
      · skip
        refine lv_aload_n hx hb dL_law_1292 rfl (lv_at hl 5 rfl) ?_
        refine q_iconst hx hb dL_law_1293 ?_
        refine q_laldW (j := 0) (v := (qI (rmT T p0.toNat)).toInt64) hx hb hK (fl_blk hP 1 rfl) 0 rfl (by omega) (qu_s _ _ _) dL_law_1294 ?_
        refine lv_iload hx hb dL_law_1295 (lv_at hl 0 rfl) ?_
        refine lv_i2l hx hb dL_law_1297 rfl ?_
        refine q_lcmp0 hx hb dL_law_1298 ?_
        refine q_if_eq (tgt := 1304) hx hb dL_law_1299 (by decide) (by omega) (fun c_1299 => ?_) (fun c_1299 => ?_)
        · skip
          refine lv_goto (tgt := 1420) hx hb dL_law_1304 (by decide) ?_
          have hP := fl_sub (bs' := [u_1259, u_1277, [(oa, aJ cy 1 (qu (g) 0 ((qI (rmT T p0.toNat)).toInt64)))]]) hP [0, 2, 1] rfl
          have hD := fl_subD (bs' := [u_1259, u_1277, [(oa, aJ cy 1 (qu (g) 0 ((qI (rmT T p0.toNat)).toInt64)))]]) hD [0, 2, 1] (by decide) rfl
          refine W.widen (k := cells + 1) (n := slots + 6) (by omega) (by omega) ?_
          exact kk T hz HZ len tx 0 _ _ _ _ _ _ ⟨⟨la, lv9, ls9, fa, xh, xs, la2, lv92, ls92, fb, fw, bu, ta, rc, re, gb, oc, oe, rs, rc2, re2, gb2, oc2, oe2, rs2, rr, ad, h_1259⟩, ⟨mz, msv, mtx, mmo, mif, mmg, mtn, mie, mme, mrd, mas, h_1277⟩, ⟨gT.1, gT3⟩, hHG, (by omega)⟩ hP hD hS (lv_sub hl [2, 3, 4, 5, 6] rfl)
        · skip
          exact absurd c_1299 (by decide)
    · skip
      exact absurd c_1282 (by decide)
  · skip
    refine lv_aload_n hx hb dL_law_1251 rfl (lv_at hl 1 rfl) ?_
    refine lv_aload_n hx hb dL_law_1252 rfl (lv_at hl 0 rfl) ?_
    refine lv_iload hx hb dL_law_1253 (lv_at hl 4 rfl) ?_
    refine q_iconst hx hb dL_law_1255 ?_
    refine q_iadd hx hb dL_law_1256 ?_
    refine q_sld (j := 6 * t + 1) hx hb hX hbl hbA hS (by omega) ep0 dL_law_1257 ?_
    refine lv_aload_n hx hb dL_law_1258 rfl (lv_at hl 3 rfl) ?_
    refine q_backiX (mc := 1) (ms := 6) [0, 2] [1] (br := [M9]) hP hD hS hA (vx_runSW (As := [.ref (x), .int (qI (p0)), .ref (oa)]) (rest := []) ⟨hx, hb, hml, hown, hg⟩ (c_L_ifRemoved_no1 l hlt9 D cy x la lv9 ls9 fa xh xs la2 lv92 ls92 fb fw bu ta rc re gb oc oe rs rc2 re2 gb2 oc2 oe2 rs2 rr ad T hz HZ len tx _ gT.1 hC9 oa _ p0 (by omega) (by omega) _) (csW_L_150 hg rfl rfl ⟨(Nat.le_of_ble_eq_true rfl), (Nat.le_of_ble_eq_true rfl)⟩) ⟨q_blindW, fun U hU hU9 => ⟨rfl, (q_preM [.ref (x), .int (qI (p0)), .ref (oa)] hK hN hP hD [0, 2] (by decide) rfl U hU hU9).2, hEx9.step hU9 (by rw [hU]; exact hS.2.1) (fl_free hD hS hA [0, 2] rfl), hNc9.moved hU9.alike⟩⟩ rfl rfl hl.1 rfl (lv_room (Nat.le_of_ble_eq_true rfl)) dL_law_1259 ⟨(by show cells + 1 ≤ 601024; omega), (by show slots + 6 ≤ 7293034; omega)⟩) rfl rfl (by decide) (fun r_1259 u_1259 H locs h_1259 hP hD hS => ?_)
    obtain ⟨rfl, h_1259⟩ := h_1259
    have hP : va_P D vwCl [M9, u_1259, [(oa, aJ cy 1 (g))]].flatten H := hP
    have hD : va_D A [M9, u_1259, [(oa, aJ cy 1 (g))]].flatten := hD
    refine lv_istore (lv' := [(5, .int (qI (1))), (0, .ref (b)), (1, .ref (x)), (2, .ref (mo)), (3, .ref (oa)), (4, .int (qI (((6 * t : Nat) : Int))))]) hx hb dL_law_1262 hl (by decide) rfl (fun ls hl => ?_)
    refine lv_aload_n hx hb dL_law_1264 rfl (lv_at hl 3 rfl) ?_
    refine lv_aload_n hx hb dL_law_1265 rfl (lv_at hl 1 rfl) ?_
    refine lv_iload hx hb dL_law_1266 (lv_at hl 5 rfl) ?_
    refine q_iconst hx hb dL_law_1268 ?_
    refine q_iadd hx hb dL_law_1269 ?_
    refine q_sld (j := 6 * t + 1) hx hb hX hbl hbA hS (by omega) ep0 dL_law_1270 ?_
    refine q_backi [0] [1, 2] (br := [u_1259, [(oa, aJ cy 1 (g))]]) hP hD hS hA (va_runV (As := [.int (qI (p0))]) (rest := []) ⟨hx, hb, hml, hown, hg⟩ (c_X8_ifRemoved_no1 l D cy mo mz msv mtx mmo mif mmg mtn mie mme mrd mas T hz HZ len tx th _ gT.1 hM9 p0 (by omega) (by omega) _) (cv_L_152 hg rfl rfl ⟨(Nat.le_of_ble_eq_true rfl), (Nat.le_of_ble_eq_true rfl)⟩) ⟨q_blind, va_recv hK (fl_blk hP 0 rfl) (ci := 8) (q0 := 0) rfl hfsM, q_preM _ hK hN hP hD [0] (by decide) rfl⟩ rfl rfl hl.1 rfl (lv_room (Nat.le_of_ble_eq_true rfl)) dL_law_1271 ⟨(by show _ + 0 ≤ 601024; omega), (by show _ + 0 ≤ 7293034; omega)⟩) rfl rfl (by decide) (fun r_1271 u_1271 H locs h_1271 hP hD hS => ?_)
    have hP : va_P D vwCl [u_1259, [(oa, aJ cy 1 (g))], u_1271].flatten H := hP
    have hD : va_D A [u_1259, [(oa, aJ cy 1 (g))], u_1271].flatten := hD
    obtain ⟨fs_1271, hfs_1271⟩ := MW_at h_1271
    have gk9 : gOk (T) := gT.1
    refine lv_istore (lv' := [(6, .int (r_1271)), (5, .int (qI (1))), (0, .ref (b)), (1, .ref (x)), (2, .ref (mo)), (3, .ref (oa)), (4, .int (qI (((6 * t : Nat) : Int))))]) hx hb dL_law_1274 hl (by decide) rfl (fun ls hl => ?_)
    refine lv_aload_n hx hb dL_law_1276 rfl (lv_at hl 4 rfl) ?_
    refine q_backi [2] [0, 1] (br := [u_1259, [(oa, aJ cy 1 (g))]]) hP hD hS hA (va_runV (As := []) (rest := []) ⟨hx, hb, hml, hown, hg⟩ (c_X8_thrown l D cy mo mz msv mtx mmo mif mmg mtn mie mme mrd mas T hz HZ len tx 1 _ gk9 h_1271 _) (cv_L_85 hg rfl rfl ⟨(Nat.le_of_ble_eq_true rfl), (Nat.le_of_ble_eq_true rfl)⟩) ⟨q_blind, va_recv hK (fl_blk hP 2 rfl) (ci := 8) (q0 := 0) rfl hfs_1271, q_preM _ hK hN hP hD [2] (by decide) rfl⟩ rfl rfl hl.1 rfl (lv_room (Nat.le_of_ble_eq_true rfl)) dL_law_1277 ⟨(by show _ + 0 ≤ 601024; omega), (by show _ + 0 ≤ 7293034; omega)⟩) rfl rfl (by decide) (fun r_1277 u_1277 H locs h_1277 hP hD hS => ?_)
    have hP : va_P D vwCl [u_1259, [(oa, aJ cy 1 (g))], u_1277].flatten H := hP
    have hD : va_D A [u_1259, [(oa, aJ cy 1 (g))], u_1277].flatten := hD
    obtain ⟨rfl, h_1277⟩ := h_1277
    refine lv_iload hx hb dL_law_1280 (lv_at hl 1 rfl) ?_
    refine q_icmp_eq (tgt := 1287) hx hb dL_law_1282 (by decide) (by omega) (fun c_1282 => ?_) (fun c_1282 => ?_)
    · skip
      refine lv_iload hx hb dL_law_1287 (lv_at hl 1 rfl) ?_
      refine q_if_ne (tgt := 1304) hx hb dL_law_1289 (by decide) (by omega) (fun c_1289 => ?_) (fun c_1289 => ?_)
      · skip
        refine lv_goto (tgt := 1420) hx hb dL_law_1304 (by decide) ?_
        have hP := fl_sub (bs' := [u_1259, u_1277, [(oa, aJ cy 1 (g))]]) hP [0, 2, 1] rfl
        have hD := fl_subD (bs' := [u_1259, u_1277, [(oa, aJ cy 1 (g))]]) hD [0, 2, 1] (by decide) rfl
        exact kk T hz HZ len tx 1 _ _ _ _ _ _ ⟨⟨la, lv9, ls9, fa, xh, xs, la2, lv92, ls92, fb, fw, bu, ta, rc, re, gb, oc, oe, rs, rc2, re2, gb2, oc2, oe2, rs2, rr, ad, h_1259⟩, ⟨mz, msv, mtx, mmo, mif, mmg, mtn, mie, mme, mrd, mas, h_1277⟩, gT, hHG, (by omega)⟩ hP hD hS (lv_sub hl [2, 3, 4, 5, 6] rfl)
      · skip
        exact absurd c_1289 (by decide)
    · skip
      exact absurd c_1282 (by decide)

set_option maxRecDepth 100000 in
set_option maxHeartbeats 4000000 in
theorem lw_neededStrength {p : Program} {l : Launch} {e : Env} {s : State} {m : MethodId} {below : List Frame} {meth : Method} {c : Code} {b L : Nat} {sc9 : Nat → Int32} {D : va_G} {cy : Nat → ClassId} {A : Nat → Prop} {Q : State → Prop} (hlt9 : l.stackTraces = false) (B9 : lwB p s m c b L sc9 D cy A) {x mo oa t : Nat} (ht9 : 6 * t + 6 ≤ L) {T : LSt} {hz : Nat} {HZ : Nat → LSt} {len : Nat} {tx : Nat → Int} {th : Int} {W9 M9 : va_W} {g : Nat → Int64} {cells slots : Nat} (hr9 : cells ≤ 1000 ∧ slots ≤ 8000) (hI9 : lwI cy x mo T hz HZ len tx th W9 M9) {H : Heap} {locs : List Loc} {ls : Array Slot} (hP : va_P D vwCl [W9, M9, [(oa, aJ cy 1 g)]].flatten H) (hD : va_D A [W9, M9, [(oa, aJ cy 1 g)]].flatten) (hS : va_S A s.heap H locs) (hl : lv_has ls 9 (lwL b x mo oa t)) (kk : lwK p l e s m below meth c b D cy A Q x mo oa t cells slots) : W p l e room_1 s m #[Value.ref b] below meth c H locs cells slots Q (F0 m 1307 ls []) := by
  obtain ⟨hx, hb, hml, hown, hg, hX, hbl, hbA, hA, hK, hN, hEx9, hNc9, hL9⟩ := B9
  obtain ⟨⟨la, lv9, ls9, fa, xh, xs, la2, lv92, ls92, fb, fw, bu, ta, rc, re, gb, oc, oe, rs, rc2, re2, gb2, oc2, oe2, rs2, rr, ad, hC9⟩, ⟨mz, msv, mtx, mmo, mif, mmg, mtn, mie, mme, mrd, mas, hM9⟩, gT, hHG, hln9⟩ := hI9
  have gT3 := gT.2
  have gN16 : lN9 T ≤ 16 := gT.1.2.2.1.1
  obtain ⟨fsC, hfsC⟩ := CW_at hC9
  obtain ⟨fsM, hfsM⟩ := MW_at hM9
  have hl : lv_has ls 9 [(0, .ref (b)), (1, .ref (x)), (2, .ref (mo)), (3, .ref (oa)), (4, .int (qI (((6 * t : Nat) : Int))))] := hl
  obtain ⟨p0, ep0⟩ : ∃ z : Int, (sc9 (6 * t + 1)).toInt = z := ⟨_, rfl⟩
  have r0 : -2147483648 ≤ p0 ∧ p0 < 2147483648 := by rw [← ep0]; exact ⟨Int32.le_toInt _, Int32.toInt_lt _⟩
  by_cases cA9 : 0 ≤ p0 ∧ p0 < (lN9 T : Int)
  · skip
    refine lv_aload_n hx hb dL_law_1307 rfl (lv_at hl 1 rfl) ?_
    refine lv_aload_n hx hb dL_law_1308 rfl (lv_at hl 0 rfl) ?_
    refine lv_iload hx hb dL_law_1309 (lv_at hl 4 rfl) ?_
    refine q_iconst hx hb dL_law_1311 ?_
    refine q_iadd hx hb dL_law_1312 ?_
    refine q_sld (j := 6 * t + 1) hx hb hX hbl hbA hS (by omega) ep0 dL_law_1313 ?_
    refine lv_aload_n hx hb dL_law_1314 rfl (lv_at hl 3 rfl) ?_
    refine q_backiX (mc := 0) (ms := 0) [0, 2] [1] (br := [M9]) hP hD hS hA (vx_runSW (As := [.ref (x), .int (qI (p0)), .ref (oa)]) (rest := []) ⟨hx, hb, hml, hown, hg⟩ (c_L_neededStrength l D cy x la lv9 ls9 fa xh xs la2 lv92 ls92 fb fw bu ta rc re gb oc oe rs rc2 re2 gb2 oc2 oe2 rs2 rr ad T hz HZ len tx _ gT.1 hC9 oa _ p0 p0.toNat (by omega) _) (csW_L_153 hg rfl rfl ⟨(Nat.le_of_ble_eq_true rfl), (Nat.le_of_ble_eq_true rfl)⟩) ⟨q_blind, q_preM [.ref (x), .int (qI (p0)), .ref (oa)] hK hN hP hD [0, 2] (by decide) rfl⟩ rfl rfl hl.1 rfl (lv_room (Nat.le_of_ble_eq_true rfl)) dL_law_1315 ⟨(by show cells + 0 ≤ 601024; omega), (by show slots + 0 ≤ 7293034; omega)⟩) rfl rfl (by decide) (fun r_1315 u_1315 H locs h_1315 hP hD hS => ?_)
    obtain ⟨rfl, h_1315⟩ := h_1315
    have hP : va_P D vwCl [M9, u_1315, [(oa, aJ cy 1 (qu (g) 0 ((qI (nsT T p0.toNat)).toInt64)))]].flatten H := hP
    have hD : va_D A [M9, u_1315, [(oa, aJ cy 1 (qu (g) 0 ((qI (nsT T p0.toNat)).toInt64)))]].flatten := hD
    refine lv_istore (lv' := [(5, .int (qI (0))), (0, .ref (b)), (1, .ref (x)), (2, .ref (mo)), (3, .ref (oa)), (4, .int (qI (((6 * t : Nat) : Int))))]) hx hb dL_law_1318 hl (by decide) rfl (fun ls hl => ?_)
    refine lv_aload_n hx hb dL_law_1320 rfl (lv_at hl 3 rfl) ?_
    refine lv_aload_n hx hb dL_law_1321 rfl (lv_at hl 1 rfl) ?_
    refine lv_iload hx hb dL_law_1322 (lv_at hl 5 rfl) ?_
    refine q_iconst hx hb dL_law_1324 ?_
    refine q_iadd hx hb dL_law_1325 ?_
    refine q_sld (j := 6 * t + 1) hx hb hX hbl hbA hS (by omega) ep0 dL_law_1326 ?_
    refine q_backi [0] [1, 2] (br := [u_1315, [(oa, aJ cy 1 (qu (g) 0 ((qI (nsT T p0.toNat)).toInt64)))]]) hP hD hS hA (va_runV (As := [.int (qI (p0))]) (rest := []) ⟨hx, hb, hml, hown, hg⟩ (c_X8_neededStrength l D cy mo mz msv mtx mmo mif mmg mtn mie mme mrd mas T hz HZ len tx th _ gT.1 hM9 p0 p0.toNat (by omega) _) (cv_L_155 hg rfl rfl ⟨(Nat.le_of_ble_eq_true rfl), (Nat.le_of_ble_eq_true rfl)⟩) ⟨q_blind, va_recv hK (fl_blk hP 0 rfl) (ci := 8) (q0 := 0) rfl hfsM, q_preM _ hK hN hP hD [0] (by decide) rfl⟩ rfl rfl hl.1 rfl (lv_room (Nat.le_of_ble_eq_true rfl)) dL_law_1327 ⟨(by show _ + 0 ≤ 601024; omega), (by show _ + 0 ≤ 7293034; omega)⟩) rfl rfl (by decide) (fun r_1327 u_1327 H locs h_1327 hP hD hS => ?_)
    have hP : va_P D vwCl [u_1315, [(oa, aJ cy 1 (qu (g) 0 ((qI (nsT T p0.toNat)).toInt64)))], u_1327].flatten H := hP
    have hD : va_D A [u_1315, [(oa, aJ cy 1 (qu (g) 0 ((qI (nsT T p0.toNat)).toInt64)))], u_1327].flatten := hD
    obtain ⟨rfl, h_1327⟩ := h_1327
    obtain ⟨fs_1327, hfs_1327⟩ := MW_at h_1327
    have gk9 : gOk (T) := gT.1
    refine lv_istore (lv' := [(6, .int (qI (nsT T p0.toNat))), (5, .int (qI (0))), (0, .ref (b)), (1, .ref (x)), (2, .ref (mo)), (3, .ref (oa)), (4, .int (qI (((6 * t : Nat) : Int))))]) hx hb dL_law_1330 hl (by decide) rfl (fun ls hl => ?_)
    refine lv_aload_n hx hb dL_law_1332 rfl (lv_at hl 4 rfl) ?_
    refine q_backi [2] [0, 1] (br := [u_1315, [(oa, aJ cy 1 (qu (g) 0 ((qI (nsT T p0.toNat)).toInt64)))]]) hP hD hS hA (va_runV (As := []) (rest := []) ⟨hx, hb, hml, hown, hg⟩ (c_X8_thrown l D cy mo mz msv mtx mmo mif mmg mtn mie mme mrd mas T hz HZ len tx 0 _ gk9 h_1327 _) (cv_L_85 hg rfl rfl ⟨(Nat.le_of_ble_eq_true rfl), (Nat.le_of_ble_eq_true rfl)⟩) ⟨q_blind, va_recv hK (fl_blk hP 2 rfl) (ci := 8) (q0 := 0) rfl hfs_1327, q_preM _ hK hN hP hD [2] (by decide) rfl⟩ rfl rfl hl.1 rfl (lv_room (Nat.le_of_ble_eq_true rfl)) dL_law_1333 ⟨(by show _ + 0 ≤ 601024; omega), (by show _ + 0 ≤ 7293034; omega)⟩) rfl rfl (by decide) (fun r_1333 u_1333 H locs h_1333 hP hD hS => ?_)
    have hP : va_P D vwCl [u_1315, [(oa, aJ cy 1 (qu (g) 0 ((qI (nsT T p0.toNat)).toInt64)))], u_1333].flatten H := hP
    have hD : va_D A [u_1315, [(oa, aJ cy 1 (qu (g) 0 ((qI (nsT T p0.toNat)).toInt64)))], u_1333].flatten := hD
    obtain ⟨rfl, h_1333⟩ := h_1333
    refine lv_iload hx hb dL_law_1336 (lv_at hl 1 rfl) ?_
    refine q_icmp_eq (tgt := 1343) hx hb dL_law_1338 (by decide) (by omega) (fun c_1338 => ?_) (fun c_1338 => ?_)
    · skip
      refine lv_iload hx hb dL_law_1343 (lv_at hl 1 rfl) ?_
      refine q_if_ne (tgt := 1360) hx hb dL_law_1345 (by decide) (by omega) (fun c_1345 => ?_) (fun c_1345 => ?_)
      · skip
        exact absurd c_1345 (by decide)
      · skip
        refine lv_aload_n hx hb dL_law_1348 rfl (lv_at hl 5 rfl) ?_
        refine q_iconst hx hb dL_law_1349 ?_
        refine q_laldW (j := 0) (v := (qI (nsT T p0.toNat)).toInt64) hx hb hK (fl_blk hP 1 rfl) 0 rfl (by omega) (qu_s _ _ _) dL_law_1350 ?_
        refine lv_iload hx hb dL_law_1351 (lv_at hl 0 rfl) ?_
        refine lv_i2l hx hb dL_law_1353 rfl ?_
        refine q_lcmp0 hx hb dL_law_1354 ?_
        refine q_if_eq (tgt := 1360) hx hb dL_law_1355 (by decide) (by omega) (fun c_1355 => ?_) (fun c_1355 => ?_)
        · skip
          refine lv_goto (tgt := 1420) hx hb dL_law_1360 (by decide) ?_
          have hP := fl_sub (bs' := [u_1315, u_1333, [(oa, aJ cy 1 (qu (g) 0 ((qI (nsT T p0.toNat)).toInt64)))]]) hP [0, 2, 1] rfl
          have hD := fl_subD (bs' := [u_1315, u_1333, [(oa, aJ cy 1 (qu (g) 0 ((qI (nsT T p0.toNat)).toInt64)))]]) hD [0, 2, 1] (by decide) rfl
          refine W.widen (k := cells + 1) (n := slots + 6) (by omega) (by omega) ?_
          exact kk T hz HZ len tx 0 _ _ _ _ _ _ ⟨⟨la, lv9, ls9, fa, xh, xs, la2, lv92, ls92, fb, fw, bu, ta, rc, re, gb, oc, oe, rs, rc2, re2, gb2, oc2, oe2, rs2, rr, ad, h_1315⟩, ⟨mz, msv, mtx, mmo, mif, mmg, mtn, mie, mme, mrd, mas, h_1333⟩, ⟨gT.1, gT3⟩, hHG, (by omega)⟩ hP hD hS (lv_sub hl [2, 3, 4, 5, 6] rfl)
        · skip
          exact absurd c_1355 (by decide)
    · skip
      exact absurd c_1338 (by decide)
  · skip
    refine lv_aload_n hx hb dL_law_1307 rfl (lv_at hl 1 rfl) ?_
    refine lv_aload_n hx hb dL_law_1308 rfl (lv_at hl 0 rfl) ?_
    refine lv_iload hx hb dL_law_1309 (lv_at hl 4 rfl) ?_
    refine q_iconst hx hb dL_law_1311 ?_
    refine q_iadd hx hb dL_law_1312 ?_
    refine q_sld (j := 6 * t + 1) hx hb hX hbl hbA hS (by omega) ep0 dL_law_1313 ?_
    refine lv_aload_n hx hb dL_law_1314 rfl (lv_at hl 3 rfl) ?_
    refine q_backiX (mc := 1) (ms := 6) [0, 2] [1] (br := [M9]) hP hD hS hA (vx_runSW (As := [.ref (x), .int (qI (p0)), .ref (oa)]) (rest := []) ⟨hx, hb, hml, hown, hg⟩ (c_L_neededStrength_no1 l hlt9 D cy x la lv9 ls9 fa xh xs la2 lv92 ls92 fb fw bu ta rc re gb oc oe rs rc2 re2 gb2 oc2 oe2 rs2 rr ad T hz HZ len tx _ gT.1 hC9 oa _ p0 (by omega) (by omega) _) (csW_L_153 hg rfl rfl ⟨(Nat.le_of_ble_eq_true rfl), (Nat.le_of_ble_eq_true rfl)⟩) ⟨q_blindW, fun U hU hU9 => ⟨rfl, (q_preM [.ref (x), .int (qI (p0)), .ref (oa)] hK hN hP hD [0, 2] (by decide) rfl U hU hU9).2, hEx9.step hU9 (by rw [hU]; exact hS.2.1) (fl_free hD hS hA [0, 2] rfl), hNc9.moved hU9.alike⟩⟩ rfl rfl hl.1 rfl (lv_room (Nat.le_of_ble_eq_true rfl)) dL_law_1315 ⟨(by show cells + 1 ≤ 601024; omega), (by show slots + 6 ≤ 7293034; omega)⟩) rfl rfl (by decide) (fun r_1315 u_1315 H locs h_1315 hP hD hS => ?_)
    obtain ⟨rfl, h_1315⟩ := h_1315
    have hP : va_P D vwCl [M9, u_1315, [(oa, aJ cy 1 (g))]].flatten H := hP
    have hD : va_D A [M9, u_1315, [(oa, aJ cy 1 (g))]].flatten := hD
    refine lv_istore (lv' := [(5, .int (qI (1))), (0, .ref (b)), (1, .ref (x)), (2, .ref (mo)), (3, .ref (oa)), (4, .int (qI (((6 * t : Nat) : Int))))]) hx hb dL_law_1318 hl (by decide) rfl (fun ls hl => ?_)
    refine lv_aload_n hx hb dL_law_1320 rfl (lv_at hl 3 rfl) ?_
    refine lv_aload_n hx hb dL_law_1321 rfl (lv_at hl 1 rfl) ?_
    refine lv_iload hx hb dL_law_1322 (lv_at hl 5 rfl) ?_
    refine q_iconst hx hb dL_law_1324 ?_
    refine q_iadd hx hb dL_law_1325 ?_
    refine q_sld (j := 6 * t + 1) hx hb hX hbl hbA hS (by omega) ep0 dL_law_1326 ?_
    refine q_backi [0] [1, 2] (br := [u_1315, [(oa, aJ cy 1 (g))]]) hP hD hS hA (va_runV (As := [.int (qI (p0))]) (rest := []) ⟨hx, hb, hml, hown, hg⟩ (c_X8_neededStrength_no1 l D cy mo mz msv mtx mmo mif mmg mtn mie mme mrd mas T hz HZ len tx th _ gT.1 hM9 p0 (by omega) (by omega) _) (cv_L_155 hg rfl rfl ⟨(Nat.le_of_ble_eq_true rfl), (Nat.le_of_ble_eq_true rfl)⟩) ⟨q_blind, va_recv hK (fl_blk hP 0 rfl) (ci := 8) (q0 := 0) rfl hfsM, q_preM _ hK hN hP hD [0] (by decide) rfl⟩ rfl rfl hl.1 rfl (lv_room (Nat.le_of_ble_eq_true rfl)) dL_law_1327 ⟨(by show _ + 0 ≤ 601024; omega), (by show _ + 0 ≤ 7293034; omega)⟩) rfl rfl (by decide) (fun r_1327 u_1327 H locs h_1327 hP hD hS => ?_)
    have hP : va_P D vwCl [u_1315, [(oa, aJ cy 1 (g))], u_1327].flatten H := hP
    have hD : va_D A [u_1315, [(oa, aJ cy 1 (g))], u_1327].flatten := hD
    obtain ⟨fs_1327, hfs_1327⟩ := MW_at h_1327
    have gk9 : gOk (T) := gT.1
    refine lv_istore (lv' := [(6, .int (r_1327)), (5, .int (qI (1))), (0, .ref (b)), (1, .ref (x)), (2, .ref (mo)), (3, .ref (oa)), (4, .int (qI (((6 * t : Nat) : Int))))]) hx hb dL_law_1330 hl (by decide) rfl (fun ls hl => ?_)
    refine lv_aload_n hx hb dL_law_1332 rfl (lv_at hl 4 rfl) ?_
    refine q_backi [2] [0, 1] (br := [u_1315, [(oa, aJ cy 1 (g))]]) hP hD hS hA (va_runV (As := []) (rest := []) ⟨hx, hb, hml, hown, hg⟩ (c_X8_thrown l D cy mo mz msv mtx mmo mif mmg mtn mie mme mrd mas T hz HZ len tx 1 _ gk9 h_1327 _) (cv_L_85 hg rfl rfl ⟨(Nat.le_of_ble_eq_true rfl), (Nat.le_of_ble_eq_true rfl)⟩) ⟨q_blind, va_recv hK (fl_blk hP 2 rfl) (ci := 8) (q0 := 0) rfl hfs_1327, q_preM _ hK hN hP hD [2] (by decide) rfl⟩ rfl rfl hl.1 rfl (lv_room (Nat.le_of_ble_eq_true rfl)) dL_law_1333 ⟨(by show _ + 0 ≤ 601024; omega), (by show _ + 0 ≤ 7293034; omega)⟩) rfl rfl (by decide) (fun r_1333 u_1333 H locs h_1333 hP hD hS => ?_)
    have hP : va_P D vwCl [u_1315, [(oa, aJ cy 1 (g))], u_1333].flatten H := hP
    have hD : va_D A [u_1315, [(oa, aJ cy 1 (g))], u_1333].flatten := hD
    obtain ⟨rfl, h_1333⟩ := h_1333
    refine lv_iload hx hb dL_law_1336 (lv_at hl 1 rfl) ?_
    refine q_icmp_eq (tgt := 1343) hx hb dL_law_1338 (by decide) (by omega) (fun c_1338 => ?_) (fun c_1338 => ?_)
    · skip
      refine lv_iload hx hb dL_law_1343 (lv_at hl 1 rfl) ?_
      refine q_if_ne (tgt := 1360) hx hb dL_law_1345 (by decide) (by omega) (fun c_1345 => ?_) (fun c_1345 => ?_)
      · skip
        refine lv_goto (tgt := 1420) hx hb dL_law_1360 (by decide) ?_
        have hP := fl_sub (bs' := [u_1315, u_1333, [(oa, aJ cy 1 (g))]]) hP [0, 2, 1] rfl
        have hD := fl_subD (bs' := [u_1315, u_1333, [(oa, aJ cy 1 (g))]]) hD [0, 2, 1] (by decide) rfl
        exact kk T hz HZ len tx 1 _ _ _ _ _ _ ⟨⟨la, lv9, ls9, fa, xh, xs, la2, lv92, ls92, fb, fw, bu, ta, rc, re, gb, oc, oe, rs, rc2, re2, gb2, oc2, oe2, rs2, rr, ad, h_1315⟩, ⟨mz, msv, mtx, mmo, mif, mmg, mtn, mie, mme, mrd, mas, h_1333⟩, gT, hHG, (by omega)⟩ hP hD hS (lv_sub hl [2, 3, 4, 5, 6] rfl)
      · skip
        exact absurd c_1345 (by decide)
    · skip
      exact absurd c_1338 (by decide)

set_option maxRecDepth 100000 in
set_option maxHeartbeats 4000000 in
theorem lw_freedom {p : Program} {l : Launch} {e : Env} {s : State} {m : MethodId} {below : List Frame} {meth : Method} {c : Code} {b L : Nat} {sc9 : Nat → Int32} {D : va_G} {cy : Nat → ClassId} {A : Nat → Prop} {Q : State → Prop} (hlt9 : l.stackTraces = false) (B9 : lwB p s m c b L sc9 D cy A) {x mo oa t : Nat} (ht9 : 6 * t + 6 ≤ L) {T : LSt} {hz : Nat} {HZ : Nat → LSt} {len : Nat} {tx : Nat → Int} {th : Int} {W9 M9 : va_W} {g : Nat → Int64} {cells slots : Nat} (hr9 : cells ≤ 1000 ∧ slots ≤ 8000) (hI9 : lwI cy x mo T hz HZ len tx th W9 M9) {H : Heap} {locs : List Loc} {ls : Array Slot} (hP : va_P D vwCl [W9, M9, [(oa, aJ cy 1 g)]].flatten H) (hD : va_D A [W9, M9, [(oa, aJ cy 1 g)]].flatten) (hS : va_S A s.heap H locs) (hl : lv_has ls 9 (lwL b x mo oa t)) (kk : lwK p l e s m below meth c b D cy A Q x mo oa t cells slots) : W p l e room_1 s m #[Value.ref b] below meth c H locs cells slots Q (F0 m 1363 ls []) := by
  obtain ⟨hx, hb, hml, hown, hg, hX, hbl, hbA, hA, hK, hN, hEx9, hNc9, hL9⟩ := B9
  obtain ⟨⟨la, lv9, ls9, fa, xh, xs, la2, lv92, ls92, fb, fw, bu, ta, rc, re, gb, oc, oe, rs, rc2, re2, gb2, oc2, oe2, rs2, rr, ad, hC9⟩, ⟨mz, msv, mtx, mmo, mif, mmg, mtn, mie, mme, mrd, mas, hM9⟩, gT, hHG, hln9⟩ := hI9
  have gT3 := gT.2
  have gN16 : lN9 T ≤ 16 := gT.1.2.2.1.1
  obtain ⟨fsC, hfsC⟩ := CW_at hC9
  obtain ⟨fsM, hfsM⟩ := MW_at hM9
  have hl : lv_has ls 9 [(0, .ref (b)), (1, .ref (x)), (2, .ref (mo)), (3, .ref (oa)), (4, .int (qI (((6 * t : Nat) : Int))))] := hl
  have wr9 := wid_rng gT.1 10 (by omega)
  have fr9 := fr_use (w := (widS (lC T) (lN9 T) (lE T) (lM T) 10).toNat) (by omega)
  rw [show (((widS (lC T) (lN9 T) (lE T) (lM T) 10).toNat : Nat) : Int) = widS (lC T) (lN9 T) (lE T) (lM T) 10 by omega] at fr9
  refine lv_aload_n hx hb dL_law_1363 rfl (lv_at hl 1 rfl) ?_
  refine q_backf [0] [1, 2] (br := [M9, [(oa, aJ cy 1 (g))]]) hP hD hS hA (va_runV (As := []) (rest := []) ⟨hx, hb, hml, hown, hg⟩ (c_X7_freedomW l D cy x la lv9 ls9 fa xh xs la2 lv92 ls92 fb fw bu ta rc re gb oc oe rs rc2 re2 gb2 oc2 oe2 rs2 rr ad T hz HZ len tx _ gT.1 hC9  _) (cv_L_156 hg rfl rfl ⟨(Nat.le_of_ble_eq_true rfl), (Nat.le_of_ble_eq_true rfl)⟩) ⟨q_blind, va_recv hK (fl_blk hP 0 rfl) (ci := 7) (q0 := 0) rfl hfsC, q_preM _ hK hN hP hD [0] (by decide) rfl⟩ rfl rfl hl.1 rfl (lv_room (Nat.le_of_ble_eq_true rfl)) dL_law_1364 ⟨(by show _ + 0 ≤ 601024; omega), (by show _ + 0 ≤ 7293034; omega)⟩) rfl rfl (by decide) (fun r_1364 u_1364 H locs h_1364 hP hD hS => ?_)
  have hP : va_P D vwCl [M9, [(oa, aJ cy 1 (g))], u_1364].flatten H := hP
  have hD : va_D A [M9, [(oa, aJ cy 1 (g))], u_1364].flatten := hD
  obtain ⟨rfl, h_1364⟩ := h_1364
  refine lv_f2d hx hb dL_law_1367 fr9.2.2.2.1 ?_
  refine lv_dstore (lv' := [(5, .double (FP.f2d (frW (widS (lC T) (lN9 T) (lE T) (lM T) 10)))), (0, .ref (b)), (1, .ref (x)), (2, .ref (mo)), (3, .ref (oa)), (4, .int (qI (((6 * t : Nat) : Int))))]) hx hb dL_law_1368 hl (by decide) rfl (fun ls hl => ?_)
  refine lv_aload_n hx hb dL_law_1370 rfl (lv_at hl 3 rfl) ?_
  refine q_backf [0] [1, 2] (br := [[(oa, aJ cy 1 (g))], u_1364]) hP hD hS hA (va_runV (As := []) (rest := []) ⟨hx, hb, hml, hown, hg⟩ (c_X8_freedom l D cy mo mz msv mtx mmo mif mmg mtn mie mme mrd mas T hz HZ len tx th _ gT.1 hM9  _) (cv_L_160 hg rfl rfl ⟨(Nat.le_of_ble_eq_true rfl), (Nat.le_of_ble_eq_true rfl)⟩) ⟨q_blind, va_recv hK (fl_blk hP 0 rfl) (ci := 8) (q0 := 0) rfl hfsM, q_preM _ hK hN hP hD [0] (by decide) rfl⟩ rfl rfl hl.1 rfl (lv_room (Nat.le_of_ble_eq_true rfl)) dL_law_1371 ⟨(by show _ + 0 ≤ 601024; omega), (by show _ + 0 ≤ 7293034; omega)⟩) rfl rfl (by decide) (fun r_1371 u_1371 H locs h_1371 hP hD hS => ?_)
  have hP : va_P D vwCl [[(oa, aJ cy 1 (g))], u_1364, u_1371].flatten H := hP
  have hD : va_D A [[(oa, aJ cy 1 (g))], u_1364, u_1371].flatten := hD
  obtain ⟨rfl, h_1371⟩ := h_1371
  refine lv_f2d hx hb dL_law_1374 fr9.2.2.2.1 ?_
  refine lv_dstore (lv' := [(7, .double (FP.f2d (frW (widS (lC T) (lN9 T) (lE T) (lM T) 10)))), (5, .double (FP.f2d (frW (widS (lC T) (lN9 T) (lE T) (lM T) 10)))), (0, .ref (b)), (1, .ref (x)), (2, .ref (mo)), (3, .ref (oa)), (4, .int (qI (((6 * t : Nat) : Int))))]) hx hb dL_law_1375 hl (by decide) rfl (fun ls hl => ?_)
  refine lv_dload hx hb dL_law_1377 (lv_at hl 1 rfl) ?_
  refine lv_dload hx hb dL_law_1379 (lv_at hl 0 rfl) ?_
  refine lv_dcmp hx hb dL_law_1381 ?_
  refine q_top (v2 := .int (qI 0)) (congrArg Value.int fr9.2.2.2.2.1) ?_
  refine q_if_eq (tgt := 1403) hx hb dL_law_1382 (by decide) (by omega) (fun c_1382 => ?_) (fun c_1382 => ?_)
  · skip
    refine lv_goto (tgt := 1420) hx hb dL_law_1403 (by decide) ?_
    have hP := fl_sub (bs' := [u_1364, u_1371, [(oa, aJ cy 1 (g))]]) hP [1, 2, 0] rfl
    have hD := fl_subD (bs' := [u_1364, u_1371, [(oa, aJ cy 1 (g))]]) hD [1, 2, 0] (by decide) rfl
    refine W.widen (k := cells + 1) (n := slots + 6) (by omega) (by omega) ?_
    exact kk T hz HZ len tx 0 _ _ _ _ _ _ ⟨⟨la, lv9, ls9, fa, xh, xs, la2, lv92, ls92, fb, fw, bu, ta, rc, re, gb, oc, oe, rs, rc2, re2, gb2, oc2, oe2, rs2, rr, ad, h_1364⟩, ⟨mz, msv, mtx, mmo, mif, mmg, mtn, mie, mme, mrd, mas, h_1371⟩, ⟨gT.1, gT3⟩, hHG, (by omega)⟩ hP hD hS (lv_sub hl [2, 3, 4, 5, 6] rfl)
  · skip
    exact absurd c_1382 (by decide)

set_option maxRecDepth 100000 in
set_option maxHeartbeats 4000000 in
theorem lw_digest {p : Program} {l : Launch} {e : Env} {s : State} {m : MethodId} {below : List Frame} {meth : Method} {c : Code} {b L : Nat} {sc9 : Nat → Int32} {D : va_G} {cy : Nat → ClassId} {A : Nat → Prop} {Q : State → Prop} (hlt9 : l.stackTraces = false) (B9 : lwB p s m c b L sc9 D cy A) {x mo oa t : Nat} (ht9 : 6 * t + 6 ≤ L) {T : LSt} {hz : Nat} {HZ : Nat → LSt} {len : Nat} {tx : Nat → Int} {th : Int} {W9 M9 : va_W} {g : Nat → Int64} {cells slots : Nat} (hr9 : cells ≤ 1000 ∧ slots ≤ 8000) (hI9 : lwI cy x mo T hz HZ len tx th W9 M9) {H : Heap} {locs : List Loc} {ls : Array Slot} (hP : va_P D vwCl [W9, M9, [(oa, aJ cy 1 g)]].flatten H) (hD : va_D A [W9, M9, [(oa, aJ cy 1 g)]].flatten) (hS : va_S A s.heap H locs) (hl : lv_has ls 9 (lwL b x mo oa t)) (kk : lwK p l e s m below meth c b D cy A Q x mo oa t cells slots) : W p l e room_1 s m #[Value.ref b] below meth c H locs cells slots Q (F0 m 1406 ls []) := by
  obtain ⟨hx, hb, hml, hown, hg, hX, hbl, hbA, hA, hK, hN, hEx9, hNc9, hL9⟩ := B9
  obtain ⟨⟨la, lv9, ls9, fa, xh, xs, la2, lv92, ls92, fb, fw, bu, ta, rc, re, gb, oc, oe, rs, rc2, re2, gb2, oc2, oe2, rs2, rr, ad, hC9⟩, ⟨mz, msv, mtx, mmo, mif, mmg, mtn, mie, mme, mrd, mas, hM9⟩, gT, hHG, hln9⟩ := hI9
  have gT3 := gT.2
  have gN16 : lN9 T ≤ 16 := gT.1.2.2.1.1
  obtain ⟨fsC, hfsC⟩ := CW_at hC9
  obtain ⟨fsM, hfsM⟩ := MW_at hM9
  have hl : lv_has ls 9 [(0, .ref (b)), (1, .ref (x)), (2, .ref (mo)), (3, .ref (oa)), (4, .int (qI (((6 * t : Nat) : Int))))] := hl
  refine lv_aload_n hx hb dL_law_1406 rfl (lv_at hl 1 rfl) ?_
  refine q_backl [0] [1, 2] (br := [M9, [(oa, aJ cy 1 (g))]]) hP hD hS hA (va_runV (As := []) (rest := []) ⟨hx, hb, hml, hown, hg⟩ (c_X7_digestW l D cy x la lv9 ls9 fa xh xs la2 lv92 ls92 fb fw bu ta rc re gb oc oe rs rc2 re2 gb2 oc2 oe2 rs2 rr ad T hz HZ len tx _ gT.1 hC9  _) (cv_L_161 hg rfl rfl ⟨(Nat.le_of_ble_eq_true rfl), (Nat.le_of_ble_eq_true rfl)⟩) ⟨q_blind, va_recv hK (fl_blk hP 0 rfl) (ci := 7) (q0 := 0) rfl hfsC, q_preM _ hK hN hP hD [0] (by decide) rfl⟩ rfl rfl hl.1 rfl (lv_room (Nat.le_of_ble_eq_true rfl)) dL_law_1407 ⟨(by show _ + 0 ≤ 601024; omega), (by show _ + 0 ≤ 7293034; omega)⟩) rfl rfl (by decide) (fun r_1407 u_1407 H locs h_1407 hP hD hS => ?_)
  have hP : va_P D vwCl [M9, [(oa, aJ cy 1 (g))], u_1407].flatten H := hP
  have hD : va_D A [M9, [(oa, aJ cy 1 (g))], u_1407].flatten := hD
  obtain ⟨rfl, h_1407⟩ := h_1407
  refine lv_aload_n hx hb dL_law_1410 rfl (lv_at hl 2 rfl) ?_
  refine q_backl [0] [1, 2] (br := [[(oa, aJ cy 1 (g))], u_1407]) hP hD hS hA (va_runV (As := []) (rest := [.long (dgT T hz tx len)]) ⟨hx, hb, hml, hown, hg⟩ (c_X8_digest l D cy mo mz msv mtx mmo mif mmg mtn mie mme mrd mas T hz HZ len tx th _ gT.1 hM9  _) (cv_L_165 hg rfl rfl ⟨(Nat.le_of_ble_eq_true rfl), (Nat.le_of_ble_eq_true rfl)⟩) ⟨q_blind, va_recv hK (fl_blk hP 0 rfl) (ci := 8) (q0 := 0) rfl hfsM, q_preM _ hK hN hP hD [0] (by decide) rfl⟩ rfl rfl hl.1 rfl (lv_room (Nat.le_of_ble_eq_true rfl)) dL_law_1411 ⟨(by show _ + 0 ≤ 601024; omega), (by show _ + 0 ≤ 7293034; omega)⟩) rfl rfl (by decide) (fun r_1411 u_1411 H locs h_1411 hP hD hS => ?_)
  have hP : va_P D vwCl [[(oa, aJ cy 1 (g))], u_1407, u_1411].flatten H := hP
  have hD : va_D A [[(oa, aJ cy 1 (g))], u_1407, u_1411].flatten := hD
  obtain ⟨rfl, h_1411⟩ := h_1411
  refine q_lcmp0 hx hb dL_law_1414 ?_
  refine q_if_eq (tgt := 1420) hx hb dL_law_1415 (by decide) (by omega) (fun c_1415 => ?_) (fun c_1415 => ?_)
  · skip
    have hP := fl_sub (bs' := [u_1407, u_1411, [(oa, aJ cy 1 (g))]]) hP [1, 2, 0] rfl
    have hD := fl_subD (bs' := [u_1407, u_1411, [(oa, aJ cy 1 (g))]]) hD [1, 2, 0] (by decide) rfl
    refine W.widen (k := cells + 1) (n := slots + 6) (by omega) (by omega) ?_
    exact kk T hz HZ len tx 0 _ _ _ _ _ _ ⟨⟨la, lv9, ls9, fa, xh, xs, la2, lv92, ls92, fb, fw, bu, ta, rc, re, gb, oc, oe, rs, rc2, re2, gb2, oc2, oe2, rs2, rr, ad, h_1407⟩, ⟨mz, msv, mtx, mmo, mif, mmg, mtn, mie, mme, mrd, mas, h_1411⟩, ⟨gT.1, gT3⟩, hHG, (by omega)⟩ hP hD hS (lv_sub hl [0, 1, 2, 3, 4] rfl)
  · skip
    exact absurd c_1415 (by decide)
