set_option maxRecDepth 100000 in
set_option maxHeartbeats 4000000 in
theorem c_L_fill (l : Launch) (D : va_G) (cy : Nat → ClassId) (am aa ab an : Nat) (u : L4) (bd : Nat) (M G : Nat → Nat → Int) (k nn : Nat) (hW : qWR G nn) (hk : k < nn) (hu : lB u bd M) (hbd : bd + 2 ≤ 64) (p0 p1 p2 p3 : Int) (h0 : p0 = G 0 k) (h1 : p1 = (oN (G 1 k) : Int)) (h2 : p2 = G 2 k) (h3 : p3 = G 3 k) (sz : Nat) : qCM l yL_fill (.code yL_fill cL_fill 10 (some .int)) 3 2 22 [.int (qI (p0)), .int (qI (p1)), .int (qI (p2)), .int (qI (p3)), .ref (am), .ref (aa), .ref (ab), .ref (an)] D cy [[(am, aI cy 2 (u.1))], [(aa, aI cy 64 (u.2.1))], [(ab, aI cy 64 (u.2.2.1))], [(an, aI cy 64 (u.2.2.2))]] sz (va_Qi (S := L4) (fun r v => r = qI (oMg M G k) ∧ v.1 1 = ((oOk M G k).toNat : Int) ∧ lB v (bd + 2) (oM M G k)) (qB D cy [[(am, aI cy 2 (u.1))], [(aa, aI cy 64 (u.2.1))], [(ab, aI cy 64 (u.2.2.1))], [(an, aI cy 64 (u.2.2.2))]] sz (fun u => [[(am, aI cy 2 (u.1))], [(aa, aI cy 64 (u.2.1))], [(ab, aI cy 64 (u.2.2.1))], [(an, aI cy 64 (u.2.2.2))]])) (va_A [[(am, aI cy 2 (u.1))], [(aa, aI cy 64 (u.2.1))], [(ab, aI cy 64 (u.2.2.1))], [(an, aI cy 64 (u.2.2.2))]].flatten sz)) := by
  refine q_ofKi (S := L4) (b1 := fun u => [[(am, aI cy 2 (u.1))], [(aa, aI cy 64 (u.2.1))], [(ab, aI cy 64 (u.2.2.1))], [(an, aI cy 64 (u.2.2.2))]]) (post := fun r v => r = qI (oMg M G k) ∧ v.1 1 = ((oOk M G k).toNat : Int) ∧ lB v (bd + 2) (oM M G k)) (by decide +kernel) (Nat.le_of_ble_eq_true rfl) ?_
  intro p e s m args below meth c Q A hx hb hml hown hg hQ hK hN hD hA H locs ls hP hS hl
  have hown : s.vm.findClass RL = some m.cls := hown
  have hl : lv_has ls 10 [(0, .int (qI (p0))), (1, .int (qI (p1))), (2, .int (qI (p2))), (3, .int (qI (p3))), (4, .ref (am)), (5, .ref (aa)), (6, .ref (ab)), (7, .ref (an))] := hl
  obtain ⟨n, hm, hn, hR⟩ := hu
  have C := hR.1
  obtain ⟨w0, w1, w2, w3, w4, w5⟩ := hW k hk
  have ho := oN_lt w1
  have b1 := C.2.2 (G 0 k).toNat (oN (G 1 k)) (by omega) ho
  have b2 := C.2.2 (oN (G 1 k)) (G 0 k).toNat ho (by omega)
  refine lv_iload_n hx hb dL_fill_0 rfl (lv_at hl 0 rfl) ?_
  refine lv_iload_n hx hb dL_fill_1 rfl (lv_at hl 1 rfl) ?_
  refine lv_aload hx hb dL_fill_2 (lv_at hl 4 rfl) ?_
  refine lv_aload hx hb dL_fill_4 (lv_at hl 5 rfl) ?_
  refine lv_aload hx hb dL_fill_6 (lv_at hl 6 rfl) ?_
  refine lv_aload hx hb dL_fill_8 (lv_at hl 7 rfl) ?_
  refine q_backKi (mc := 1) (ms := 11) [0, 1, 2, 3] [] (br := []) hP hD hS hA (va_runS (As := [.int (qI (p0)), .int (qI (p1)), .ref (am), .ref (aa), .ref (ab), .ref (an)]) (rest := []) ⟨hx, hb, hml, hown, hg⟩ (c_L_most l D cy am aa ab an u.1 u.2.1 u.2.2.1 u.2.2.2 n M ⟨hm, by omega⟩ hR _ _ ((G 0 k).toNat) (oN (G 1 k)) (by omega) (by omega) _) (cs_L_8 hg rfl rfl ⟨(Nat.le_of_ble_eq_true rfl), (Nat.le_of_ble_eq_true rfl)⟩) ⟨q_blind, q_preM _ hK hN hP hD [0, 1, 2, 3] (by decide) rfl⟩ rfl rfl hl.1 rfl (lv_room (Nat.le_of_ble_eq_true rfl)) dL_fill_10 ⟨(show 0 + 1 ≤ 2 by omega), (show 0 + 11 ≤ 22 by omega)⟩) rfl rfl (by decide) (fun r_10 u_10 H locs h_10 hP hD hS => ?_)
  have hP : va_P D vwCl [[(am, aI cy 2 (u.1))], [(aa, aI cy 64 (u.2.1))], [(ab, aI cy 64 (u.2.2.1))], [(an, aI cy 64 (u.2.2.2))]].flatten H := hP
  have hD : va_D A [[(am, aI cy 2 (u.1))], [(aa, aI cy 64 (u.2.1))], [(ab, aI cy 64 (u.2.2.1))], [(an, aI cy 64 (u.2.2.2))]].flatten := hD
  subst h_10
  refine lv_istore (lv' := [(8, .int (qI (M ((G 0 k).toNat) (oN (G 1 k))))), (0, .int (qI (p0))), (1, .int (qI (p1))), (2, .int (qI (p2))), (3, .int (qI (p3))), (4, .ref (am)), (5, .ref (aa)), (6, .ref (ab)), (7, .ref (an))]) hx hb dL_fill_13 hl (by decide) rfl (fun ls hl => ?_)
  refine lv_iload_n hx hb dL_fill_15 rfl (lv_at hl 2 rfl) ?_
  refine lv_iload_n hx hb dL_fill_16 rfl (lv_at hl 1 rfl) ?_
  refine lv_aload hx hb dL_fill_17 (lv_at hl 5 rfl) ?_
  refine lv_aload hx hb dL_fill_19 (lv_at hl 6 rfl) ?_
  refine lv_aload hx hb dL_fill_21 (lv_at hl 7 rfl) ?_
  refine lv_aload hx hb dL_fill_23 (lv_at hl 8 rfl) ?_
  refine q_backKi (mc := 1) (ms := 11) [0, 1, 2, 3] [] (br := []) hP hD hS hA (va_runS (As := [.int (qI (p1)), .int (qI (p0)), .ref (am), .ref (aa), .ref (ab), .ref (an)]) (rest := []) ⟨hx, hb, hml, hown, hg⟩ (c_L_most l D cy am aa ab an u.1 u.2.1 u.2.2.1 u.2.2.2 n M ⟨hm, by omega⟩ hR _ _ (oN (G 1 k)) ((G 0 k).toNat) (by omega) (by omega) _) (cs_L_8 hg rfl rfl ⟨(Nat.le_of_ble_eq_true rfl), (Nat.le_of_ble_eq_true rfl)⟩) ⟨q_blind, q_preM _ hK hN hP hD [0, 1, 2, 3] (by decide) rfl⟩ rfl rfl hl.1 rfl (lv_room (Nat.le_of_ble_eq_true rfl)) dL_fill_25 ⟨(show 1 + 1 ≤ 2 by omega), (show 11 + 11 ≤ 22 by omega)⟩) rfl rfl (by decide) (fun r_25 u_25 H locs h_25 hP hD hS => ?_)
  have hP : va_P D vwCl [[(am, aI cy 2 (u.1))], [(aa, aI cy 64 (u.2.1))], [(ab, aI cy 64 (u.2.2.1))], [(an, aI cy 64 (u.2.2.2))]].flatten H := hP
  have hD : va_D A [[(am, aI cy 2 (u.1))], [(aa, aI cy 64 (u.2.1))], [(ab, aI cy 64 (u.2.2.1))], [(an, aI cy 64 (u.2.2.2))]].flatten := hD
  subst h_25
  refine q_ineg hx hb dL_fill_28 ?_
  refine lv_istore (lv' := [(9, .int (qI (-(M (oN (G 1 k)) ((G 0 k).toNat))))), (8, .int (qI (M ((G 0 k).toNat) (oN (G 1 k))))), (0, .int (qI (p0))), (1, .int (qI (p1))), (2, .int (qI (p2))), (3, .int (qI (p3))), (4, .ref (am)), (5, .ref (aa)), (6, .ref (ab)), (7, .ref (an))]) hx hb dL_fill_29 hl (by decide) rfl (fun ls hl => ?_)
  have K_61 : ∀ (m1 : Nat → Int), (m1 0 = (n : Int)) → (m1 1 = ((oOk M G k).toNat : Int)) → ∀ (H : Heap) (locs : List Loc) (ls : Array Slot), va_P D vwCl [[(am, aI cy 2 (m1))], [(aa, aI cy 64 (u.2.1))], [(ab, aI cy 64 (u.2.2.1))], [(an, aI cy 64 (u.2.2.2))]].flatten H → va_D A [[(am, aI cy 2 (m1))], [(aa, aI cy 64 (u.2.1))], [(ab, aI cy 64 (u.2.2.1))], [(an, aI cy 64 (u.2.2.2))]].flatten → va_S A s.heap H locs → lv_has ls 10 [(9, .int (qI (-(M (oN (G 1 k)) ((G 0 k).toNat))))), (8, .int (qI (M ((G 0 k).toNat) (oN (G 1 k))))), (0, .int (qI (p0))), (1, .int (qI (p1))), (2, .int (qI (p2))), (3, .int (qI (p3))), (4, .ref (am)), (5, .ref (aa)), (6, .ref (ab)), (7, .ref (an))] → W p l e (qrc 3 2 22) s m args below meth c H locs (2) (22) Q (F0 m 61 ls []) := by
    intro m1 hm1 ho1 H locs ls hP hD hS hl
    refine lv_aload hx hb dL_fill_61 (lv_at hl 6 rfl) ?_
    refine q_iconst hx hb dL_fill_63 ?_
    refine q_iald (j := 1) hx hb hK (fl_blk hP 0 rfl) 0 rfl (by omega) dL_fill_64 ?_
    have z9 : (oOk M G k).toNat ≤ 1 := by cases oOk M G k <;> decide
    refine q_if_ne (tgt := 86) hx hb dL_fill_65 (by decide) (by omega) (fun c_65 => ?_) (fun c_65 => ?_)
    · skip
      have ho9 := tn1 ho1 c_65
      rcases (show p2 = 0 ∨ p2 = 1 ∨ p2 = 2 by omega) with e9 | e9 | e9
      · subst e9
        have hl : lv_has ls 10 [(9, .int (qI (-(M (oN (G 1 k)) ((G 0 k).toNat))))), (8, .int (qI (M ((G 0 k).toNat) (oN (G 1 k))))), (0, .int (qI (p0))), (1, .int (qI (p1))), (2, .int (qI (0))), (3, .int (qI (p3))), (4, .ref (am)), (5, .ref (aa)), (6, .ref (ab)), (7, .ref (an))] := hl
        have ho9 := tn1 ho1 c_65
        refine lv_iload_n hx hb dL_fill_86 rfl (lv_at hl 4 rfl) ?_
        refine q_iconst hx hb dL_fill_87 ?_
        refine q_icmp_ge (tgt := 105) hx hb dL_fill_88 (by decide) (by omega) (fun c_88 => ?_) (fun c_88 => ?_)
        · skip
          exact absurd c_88 (by decide)
        · skip
          refine lv_iload_n hx hb dL_fill_91 rfl (lv_at hl 2 rfl) ?_
          refine lv_iload_n hx hb dL_fill_92 rfl (lv_at hl 3 rfl) ?_
          refine lv_iload_n hx hb dL_fill_93 rfl (lv_at hl 5 rfl) ?_
          refine lv_aload hx hb dL_fill_94 (lv_at hl 6 rfl) ?_
          refine lv_aload hx hb dL_fill_96 (lv_at hl 7 rfl) ?_
          refine lv_aload hx hb dL_fill_98 (lv_at hl 8 rfl) ?_
          refine lv_aload hx hb dL_fill_100 (lv_at hl 9 rfl) ?_
          refine q_backKv (mc := 0) (ms := 0) [0, 1, 2, 3] [] (br := []) hP hD hS hA (va_runS (As := [.int (qI (p0)), .int (qI (p1)), .int (qI (p3)), .ref (am), .ref (aa), .ref (ab), .ref (an)]) (rest := []) ⟨hx, hb, hml, hown, hg⟩ (c_L_bind l D cy am aa ab an m1 u.2.1 u.2.2.1 u.2.2.2 n ⟨hm1, by omega⟩ _ _ _ _) (cs_L_14 hg rfl rfl ⟨(Nat.le_of_ble_eq_true rfl), (Nat.le_of_ble_eq_true rfl)⟩) ⟨q_blind, q_preM _ hK hN hP hD [0, 1, 2, 3] (by decide) rfl⟩ rfl rfl hl.1 rfl (lv_room (Nat.le_of_ble_eq_true rfl)) dL_fill_102 ⟨(show 2 + 0 ≤ 2 by omega), (show 22 + 0 ≤ 22 by omega)⟩) rfl rfl (by decide) (fun u_102 H locs h_102 hP hD hS => ?_)
          have hP : va_P D vwCl [[(am, aI cy 2 (qu m1 0 ((m1 0) + (1))))], [(aa, aI cy 64 (qu u.2.1 n (p0)))], [(ab, aI cy 64 (qu u.2.2.1 n (p1)))], [(an, aI cy 64 (qu u.2.2.2 n (p3)))]].flatten H := hP
          have hD : va_D A [[(am, aI cy 2 (qu m1 0 ((m1 0) + (1))))], [(aa, aI cy 64 (qu u.2.1 n (p0)))], [(ab, aI cy 64 (qu u.2.2.1 n (p1)))], [(an, aI cy 64 (qu u.2.2.2 n (p3)))]].flatten := hD
          refine lv_iload_n hx hb dL_fill_105 rfl (lv_at hl 4 rfl) ?_
          refine q_if_le (tgt := 124) hx hb dL_fill_106 (by decide) (by omega) (fun c_106 => ?_) (fun c_106 => ?_)
          · skip
            refine lv_iload_n hx hb dL_fill_124 rfl (lv_at hl 4 rfl) ?_
            refine q_iconst hx hb dL_fill_125 ?_
            refine q_icmp_ne (tgt := 137) hx hb dL_fill_126 (by decide) (by omega) (fun c_126 => ?_) (fun c_126 => ?_)
            · skip
              refine lv_iload_n hx hb dL_fill_137 rfl (lv_at hl 4 rfl) ?_
              refine q_if_ne (tgt := 158) hx hb dL_fill_138 (by decide) (by omega) (fun c_138 => ?_) (fun c_138 => ?_)
              · skip
                exact absurd c_138 (by decide)
              · skip
                refine lv_iload hx hb dL_fill_141 (lv_at hl 1 rfl) ?_
                refine lv_iload_n hx hb dL_fill_143 rfl (lv_at hl 5 rfl) ?_
                refine q_icmp_le (tgt := 154) hx hb dL_fill_144 (by decide) (by omega) (fun c_144 => ?_) (fun c_144 => ?_)
                · skip
                  refine q_iconst hx hb dL_fill_154 ?_
                  refine lv_goto (tgt := 172) hx hb dL_fill_155 (by decide) ?_
                  exact hQ _ _ _ _ _ (qu m1 0 ((m1 0) + (1)), qu u.2.1 n (p0), qu u.2.2.1 n (p1), qu u.2.2.2 n (p3)) ⟨(by rw [oMg_yes ho9]; unfold narV; congr 1; (repeat' split) <;> omega), (by show (qu m1 0 ((m1 0) + (1))) 1 = _; rw [qu_n _ _ (by decide)]; exact ho1), n + 1, (by show (qu m1 0 ((m1 0) + (1))) 0 = _; rw [qu_s]; omega), (by omega), cR_f0 hR hW hk ho9 (by omega) h0 h1 h3⟩ hP hD hS dL_fill_172
                · skip
                  refine lv_iload hx hb dL_fill_147 (lv_at hl 1 rfl) ?_
                  refine lv_iload_n hx hb dL_fill_149 rfl (lv_at hl 5 rfl) ?_
                  refine q_isub hx hb dL_fill_150 ?_
                  refine lv_goto (tgt := 172) hx hb dL_fill_151 (by decide) ?_
                  exact hQ _ _ _ _ _ (qu m1 0 ((m1 0) + (1)), qu u.2.1 n (p0), qu u.2.2.1 n (p1), qu u.2.2.2 n (p3)) ⟨(by rw [oMg_yes ho9]; unfold narV; congr 1; (repeat' split) <;> omega), (by show (qu m1 0 ((m1 0) + (1))) 1 = _; rw [qu_n _ _ (by decide)]; exact ho1), n + 1, (by show (qu m1 0 ((m1 0) + (1))) 0 = _; rw [qu_s]; omega), (by omega), cR_f0 hR hW hk ho9 (by omega) h0 h1 h3⟩ hP hD hS dL_fill_172
            · skip
              exact absurd c_126 (by decide)
          · skip
            exact absurd c_106 (by decide)
      · subst e9
        have hl : lv_has ls 10 [(9, .int (qI (-(M (oN (G 1 k)) ((G 0 k).toNat))))), (8, .int (qI (M ((G 0 k).toNat) (oN (G 1 k))))), (0, .int (qI (p0))), (1, .int (qI (p1))), (2, .int (qI (1))), (3, .int (qI (p3))), (4, .ref (am)), (5, .ref (aa)), (6, .ref (ab)), (7, .ref (an))] := hl
        have ho9 := tn1 ho1 c_65
        refine lv_iload_n hx hb dL_fill_86 rfl (lv_at hl 4 rfl) ?_
        refine q_iconst hx hb dL_fill_87 ?_
        refine q_icmp_ge (tgt := 105) hx hb dL_fill_88 (by decide) (by omega) (fun c_88 => ?_) (fun c_88 => ?_)
        · skip
          exact absurd c_88 (by decide)
        · skip
          refine lv_iload_n hx hb dL_fill_91 rfl (lv_at hl 2 rfl) ?_
          refine lv_iload_n hx hb dL_fill_92 rfl (lv_at hl 3 rfl) ?_
          refine lv_iload_n hx hb dL_fill_93 rfl (lv_at hl 5 rfl) ?_
          refine lv_aload hx hb dL_fill_94 (lv_at hl 6 rfl) ?_
          refine lv_aload hx hb dL_fill_96 (lv_at hl 7 rfl) ?_
          refine lv_aload hx hb dL_fill_98 (lv_at hl 8 rfl) ?_
          refine lv_aload hx hb dL_fill_100 (lv_at hl 9 rfl) ?_
          refine q_backKv (mc := 0) (ms := 0) [0, 1, 2, 3] [] (br := []) hP hD hS hA (va_runS (As := [.int (qI (p0)), .int (qI (p1)), .int (qI (p3)), .ref (am), .ref (aa), .ref (ab), .ref (an)]) (rest := []) ⟨hx, hb, hml, hown, hg⟩ (c_L_bind l D cy am aa ab an m1 u.2.1 u.2.2.1 u.2.2.2 n ⟨hm1, by omega⟩ _ _ _ _) (cs_L_14 hg rfl rfl ⟨(Nat.le_of_ble_eq_true rfl), (Nat.le_of_ble_eq_true rfl)⟩) ⟨q_blind, q_preM _ hK hN hP hD [0, 1, 2, 3] (by decide) rfl⟩ rfl rfl hl.1 rfl (lv_room (Nat.le_of_ble_eq_true rfl)) dL_fill_102 ⟨(show 2 + 0 ≤ 2 by omega), (show 22 + 0 ≤ 22 by omega)⟩) rfl rfl (by decide) (fun u_102 H locs h_102 hP hD hS => ?_)
          have hP : va_P D vwCl [[(am, aI cy 2 (qu m1 0 ((m1 0) + (1))))], [(aa, aI cy 64 (qu u.2.1 n (p0)))], [(ab, aI cy 64 (qu u.2.2.1 n (p1)))], [(an, aI cy 64 (qu u.2.2.2 n (p3)))]].flatten H := hP
          have hD : va_D A [[(am, aI cy 2 (qu m1 0 ((m1 0) + (1))))], [(aa, aI cy 64 (qu u.2.1 n (p0)))], [(ab, aI cy 64 (qu u.2.2.1 n (p1)))], [(an, aI cy 64 (qu u.2.2.2 n (p3)))]].flatten := hD
          refine lv_iload_n hx hb dL_fill_105 rfl (lv_at hl 4 rfl) ?_
          refine q_if_le (tgt := 124) hx hb dL_fill_106 (by decide) (by omega) (fun c_106 => ?_) (fun c_106 => ?_)
          · skip
            exact absurd c_106 (by decide)
          · skip
            refine lv_iload_n hx hb dL_fill_109 rfl (lv_at hl 3 rfl) ?_
            refine lv_iload_n hx hb dL_fill_110 rfl (lv_at hl 2 rfl) ?_
            refine lv_iload_n hx hb dL_fill_111 rfl (lv_at hl 5 rfl) ?_
            refine q_ineg hx hb dL_fill_112 ?_
            refine lv_aload hx hb dL_fill_113 (lv_at hl 6 rfl) ?_
            refine lv_aload hx hb dL_fill_115 (lv_at hl 7 rfl) ?_
            refine lv_aload hx hb dL_fill_117 (lv_at hl 8 rfl) ?_
            refine lv_aload hx hb dL_fill_119 (lv_at hl 9 rfl) ?_
            refine q_backKv (mc := 0) (ms := 0) [0, 1, 2, 3] [] (br := []) hP hD hS hA (va_runS (As := [.int (qI (p1)), .int (qI (p0)), .int (qI (-(p3))), .ref (am), .ref (aa), .ref (ab), .ref (an)]) (rest := []) ⟨hx, hb, hml, hown, hg⟩ (c_L_bind l D cy am aa ab an (qu m1 0 ((m1 0) + (1))) (qu u.2.1 n (p0)) (qu u.2.2.1 n (p1)) (qu u.2.2.2 n (p3)) (n + 1) ⟨(by rw [qu_s]; omega), by omega⟩ _ _ _ _) (cs_L_14 hg rfl rfl ⟨(Nat.le_of_ble_eq_true rfl), (Nat.le_of_ble_eq_true rfl)⟩) ⟨q_blind, q_preM _ hK hN hP hD [0, 1, 2, 3] (by decide) rfl⟩ rfl rfl hl.1 rfl (lv_room (Nat.le_of_ble_eq_true rfl)) dL_fill_121 ⟨(show 2 + 0 ≤ 2 by omega), (show 22 + 0 ≤ 22 by omega)⟩) rfl rfl (by decide) (fun u_121 H locs h_121 hP hD hS => ?_)
            have hP : va_P D vwCl [[(am, aI cy 2 (qu (qu m1 0 ((m1 0) + (1))) 0 (((qu m1 0 ((m1 0) + (1))) 0) + (1))))], [(aa, aI cy 64 (qu (qu u.2.1 n (p0)) (n + 1) (p1)))], [(ab, aI cy 64 (qu (qu u.2.2.1 n (p1)) (n + 1) (p0)))], [(an, aI cy 64 (qu (qu u.2.2.2 n (p3)) (n + 1) (-(p3))))]].flatten H := hP
            have hD : va_D A [[(am, aI cy 2 (qu (qu m1 0 ((m1 0) + (1))) 0 (((qu m1 0 ((m1 0) + (1))) 0) + (1))))], [(aa, aI cy 64 (qu (qu u.2.1 n (p0)) (n + 1) (p1)))], [(ab, aI cy 64 (qu (qu u.2.2.1 n (p1)) (n + 1) (p0)))], [(an, aI cy 64 (qu (qu u.2.2.2 n (p3)) (n + 1) (-(p3))))]].flatten := hD
            refine lv_iload_n hx hb dL_fill_124 rfl (lv_at hl 4 rfl) ?_
            refine q_iconst hx hb dL_fill_125 ?_
            refine q_icmp_ne (tgt := 137) hx hb dL_fill_126 (by decide) (by omega) (fun c_126 => ?_) (fun c_126 => ?_)
            · skip
              exact absurd c_126 (by decide)
            · skip
              refine lv_iload hx hb dL_fill_129 (lv_at hl 1 rfl) ?_
              refine lv_iload hx hb dL_fill_131 (lv_at hl 0 rfl) ?_
              refine q_isub hx hb dL_fill_133 ?_
              refine lv_goto (tgt := 172) hx hb dL_fill_134 (by decide) ?_
              exact hQ _ _ _ _ _ (qu (qu m1 0 ((m1 0) + (1))) 0 (((qu m1 0 ((m1 0) + (1))) 0) + (1)), qu (qu u.2.1 n (p0)) (n + 1) (p1), qu (qu u.2.2.1 n (p1)) (n + 1) (p0), qu (qu u.2.2.2 n (p3)) (n + 1) (-(p3))) ⟨(by rw [oMg_yes ho9]; unfold narV; congr 1; (repeat' split) <;> omega), (by show (qu (qu m1 0 ((m1 0) + (1))) 0 (((qu m1 0 ((m1 0) + (1))) 0) + (1))) 1 = _; rw [qu_n _ _ (by decide)]; rw [qu_n _ _ (by decide)]; exact ho1), n + 1 + 1, (by show (qu (qu m1 0 ((m1 0) + (1))) 0 (((qu m1 0 ((m1 0) + (1))) 0) + (1))) 0 = _; rw [qu_s, qu_s]; omega), (by omega), cR_f1 hR hW hk ho9 (by omega) h0 h1 h3⟩ hP hD hS dL_fill_172
      · subst e9
        have hl : lv_has ls 10 [(9, .int (qI (-(M (oN (G 1 k)) ((G 0 k).toNat))))), (8, .int (qI (M ((G 0 k).toNat) (oN (G 1 k))))), (0, .int (qI (p0))), (1, .int (qI (p1))), (2, .int (qI (2))), (3, .int (qI (p3))), (4, .ref (am)), (5, .ref (aa)), (6, .ref (ab)), (7, .ref (an))] := hl
        have ho9 := tn1 ho1 c_65
        refine lv_iload_n hx hb dL_fill_86 rfl (lv_at hl 4 rfl) ?_
        refine q_iconst hx hb dL_fill_87 ?_
        refine q_icmp_ge (tgt := 105) hx hb dL_fill_88 (by decide) (by omega) (fun c_88 => ?_) (fun c_88 => ?_)
        · skip
          refine lv_iload_n hx hb dL_fill_105 rfl (lv_at hl 4 rfl) ?_
          refine q_if_le (tgt := 124) hx hb dL_fill_106 (by decide) (by omega) (fun c_106 => ?_) (fun c_106 => ?_)
          · skip
            exact absurd c_106 (by decide)
          · skip
            refine lv_iload_n hx hb dL_fill_109 rfl (lv_at hl 3 rfl) ?_
            refine lv_iload_n hx hb dL_fill_110 rfl (lv_at hl 2 rfl) ?_
            refine lv_iload_n hx hb dL_fill_111 rfl (lv_at hl 5 rfl) ?_
            refine q_ineg hx hb dL_fill_112 ?_
            refine lv_aload hx hb dL_fill_113 (lv_at hl 6 rfl) ?_
            refine lv_aload hx hb dL_fill_115 (lv_at hl 7 rfl) ?_
            refine lv_aload hx hb dL_fill_117 (lv_at hl 8 rfl) ?_
            refine lv_aload hx hb dL_fill_119 (lv_at hl 9 rfl) ?_
            refine q_backKv (mc := 0) (ms := 0) [0, 1, 2, 3] [] (br := []) hP hD hS hA (va_runS (As := [.int (qI (p1)), .int (qI (p0)), .int (qI (-(p3))), .ref (am), .ref (aa), .ref (ab), .ref (an)]) (rest := []) ⟨hx, hb, hml, hown, hg⟩ (c_L_bind l D cy am aa ab an m1 u.2.1 u.2.2.1 u.2.2.2 n ⟨hm1, by omega⟩ _ _ _ _) (cs_L_14 hg rfl rfl ⟨(Nat.le_of_ble_eq_true rfl), (Nat.le_of_ble_eq_true rfl)⟩) ⟨q_blind, q_preM _ hK hN hP hD [0, 1, 2, 3] (by decide) rfl⟩ rfl rfl hl.1 rfl (lv_room (Nat.le_of_ble_eq_true rfl)) dL_fill_121 ⟨(show 2 + 0 ≤ 2 by omega), (show 22 + 0 ≤ 22 by omega)⟩) rfl rfl (by decide) (fun u_121 H locs h_121 hP hD hS => ?_)
            have hP : va_P D vwCl [[(am, aI cy 2 (qu m1 0 ((m1 0) + (1))))], [(aa, aI cy 64 (qu u.2.1 n (p1)))], [(ab, aI cy 64 (qu u.2.2.1 n (p0)))], [(an, aI cy 64 (qu u.2.2.2 n (-(p3))))]].flatten H := hP
            have hD : va_D A [[(am, aI cy 2 (qu m1 0 ((m1 0) + (1))))], [(aa, aI cy 64 (qu u.2.1 n (p1)))], [(ab, aI cy 64 (qu u.2.2.1 n (p0)))], [(an, aI cy 64 (qu u.2.2.2 n (-(p3))))]].flatten := hD
            refine lv_iload_n hx hb dL_fill_124 rfl (lv_at hl 4 rfl) ?_
            refine q_iconst hx hb dL_fill_125 ?_
            refine q_icmp_ne (tgt := 137) hx hb dL_fill_126 (by decide) (by omega) (fun c_126 => ?_) (fun c_126 => ?_)
            · skip
              refine lv_iload_n hx hb dL_fill_137 rfl (lv_at hl 4 rfl) ?_
              refine q_if_ne (tgt := 158) hx hb dL_fill_138 (by decide) (by omega) (fun c_138 => ?_) (fun c_138 => ?_)
              · skip
                refine lv_iload_n hx hb dL_fill_158 rfl (lv_at hl 5 rfl) ?_
                refine lv_iload hx hb dL_fill_159 (lv_at hl 0 rfl) ?_
                refine q_icmp_le (tgt := 171) hx hb dL_fill_161 (by decide) (by omega) (fun c_161 => ?_) (fun c_161 => ?_)
                · skip
                  refine q_iconst hx hb dL_fill_171 ?_
                  exact hQ _ _ _ _ _ (qu m1 0 ((m1 0) + (1)), qu u.2.1 n (p1), qu u.2.2.1 n (p0), qu u.2.2.2 n (-(p3))) ⟨(by rw [oMg_yes ho9]; unfold narV; congr 1; (repeat' split) <;> omega), (by show (qu m1 0 ((m1 0) + (1))) 1 = _; rw [qu_n _ _ (by decide)]; exact ho1), n + 1, (by show (qu m1 0 ((m1 0) + (1))) 0 = _; rw [qu_s]; omega), (by omega), cR_f2 hR hW hk ho9 (by omega) h0 h1 h3⟩ hP hD hS dL_fill_172
                · skip
                  refine lv_iload_n hx hb dL_fill_164 rfl (lv_at hl 5 rfl) ?_
                  refine lv_iload hx hb dL_fill_165 (lv_at hl 0 rfl) ?_
                  refine q_isub hx hb dL_fill_167 ?_
                  refine lv_goto (tgt := 172) hx hb dL_fill_168 (by decide) ?_
                  exact hQ _ _ _ _ _ (qu m1 0 ((m1 0) + (1)), qu u.2.1 n (p1), qu u.2.2.1 n (p0), qu u.2.2.2 n (-(p3))) ⟨(by rw [oMg_yes ho9]; unfold narV; congr 1; (repeat' split) <;> omega), (by show (qu m1 0 ((m1 0) + (1))) 1 = _; rw [qu_n _ _ (by decide)]; exact ho1), n + 1, (by show (qu m1 0 ((m1 0) + (1))) 0 = _; rw [qu_s]; omega), (by omega), cR_f2 hR hW hk ho9 (by omega) h0 h1 h3⟩ hP hD hS dL_fill_172
              · skip
                exact absurd c_138 (by decide)
            · skip
              exact absurd c_126 (by decide)
        · skip
          exact absurd c_88 (by decide)
    · skip
      have ho9 := tn0 ho1 c_65
      refine lv_iload_n hx hb dL_fill_68 rfl (lv_at hl 5 rfl) ?_
      refine lv_iload hx hb dL_fill_69 (lv_at hl 0 rfl) ?_
      refine q_icmp_ge (tgt := 81) hx hb dL_fill_71 (by decide) (by omega) (fun c_71 => ?_) (fun c_71 => ?_)
      · skip
        refine lv_iload hx hb dL_fill_81 (lv_at hl 1 rfl) ?_
        refine lv_iload_n hx hb dL_fill_83 rfl (lv_at hl 5 rfl) ?_
        refine q_isub hx hb dL_fill_84 ?_
        exact hQ _ _ _ _ _ (_, _, _, _) ⟨(by rw [oMg_no ho9]; unfold misV; (split <;> congr 1 <;> omega)), (by rw [← ho1]), n, hm1, (by omega), (by rw [oM_no ho9]; exact hR)⟩ hP hD hS dL_fill_85
      · skip
        refine lv_iload hx hb dL_fill_74 (lv_at hl 0 rfl) ?_
        refine lv_iload_n hx hb dL_fill_76 rfl (lv_at hl 5 rfl) ?_
        refine q_isub hx hb dL_fill_77 ?_
        refine lv_goto (tgt := 85) hx hb dL_fill_78 (by decide) ?_
        exact hQ _ _ _ _ _ (_, _, _, _) ⟨(by rw [oMg_no ho9]; unfold misV; (split <;> congr 1 <;> omega)), (by rw [← ho1]), n, hm1, (by omega), (by rw [oM_no ho9]; exact hR)⟩ hP hD hS dL_fill_85
  refine lv_aload hx hb dL_fill_31 (lv_at hl 6 rfl) ?_
  refine q_iconst hx hb dL_fill_33 ?_
  refine lv_iload_n hx hb dL_fill_34 rfl (lv_at hl 4 rfl) ?_
  refine q_if_eq (tgt := 44) hx hb dL_fill_35 (by decide) (by omega) (fun c_35 => ?_) (fun c_35 => ?_)
  · skip
    refine lv_iload_n hx hb dL_fill_44 rfl (lv_at hl 4 rfl) ?_
    refine q_iconst hx hb dL_fill_45 ?_
    refine q_icmp_eq (tgt := 55) hx hb dL_fill_46 (by decide) (by omega) (fun c_46 => ?_) (fun c_46 => ?_)
    · skip
      refine q_iconst hx hb dL_fill_55 ?_
      refine lv_goto (tgt := 60) hx hb dL_fill_56 (by decide) ?_
      refine qb_iast (j := 1) hx hb hK hP hD hS 0 0 rfl rfl (by omega) dL_fill_60 (fun H locs hP hD hS => ?_)
      have hP : va_P D vwCl [[(am, aI cy 2 (qu u.1 1 (1)))], [(aa, aI cy 64 (u.2.1))], [(ab, aI cy 64 (u.2.2.1))], [(an, aI cy 64 (u.2.2.2))]].flatten H := hP
      have hD : va_D A [[(am, aI cy 2 (qu u.1 1 (1)))], [(aa, aI cy 64 (u.2.1))], [(ab, aI cy 64 (u.2.2.1))], [(an, aI cy 64 (u.2.2.2))]].flatten := hD
      exact K_61 _ (by rw [qu_n _ _ (by decide)]; exact hm) (by rw [qu_s, show oOk M G k = true from chB_iff.mpr ⟨by omega, by omega⟩]; rfl) _ _ _ hP hD hS (lv_sub hl [0, 1, 2, 3, 4, 5, 6, 7, 8, 9] rfl)
    · skip
      refine lv_iload_n hx hb dL_fill_49 rfl (lv_at hl 5 rfl) ?_
      refine lv_iload hx hb dL_fill_50 (lv_at hl 0 rfl) ?_
      refine q_icmp_lt (tgt := 59) hx hb dL_fill_52 (by decide) (by omega) (fun c_52 => ?_) (fun c_52 => ?_)
      · skip
        refine q_iconst hx hb dL_fill_59 ?_
        refine qb_iast (j := 1) hx hb hK hP hD hS 0 0 rfl rfl (by omega) dL_fill_60 (fun H locs hP hD hS => ?_)
        have hP : va_P D vwCl [[(am, aI cy 2 (qu u.1 1 (0)))], [(aa, aI cy 64 (u.2.1))], [(ab, aI cy 64 (u.2.2.1))], [(an, aI cy 64 (u.2.2.2))]].flatten H := hP
        have hD : va_D A [[(am, aI cy 2 (qu u.1 1 (0)))], [(aa, aI cy 64 (u.2.1))], [(ab, aI cy 64 (u.2.2.1))], [(an, aI cy 64 (u.2.2.2))]].flatten := hD
        exact K_61 _ (by rw [qu_n _ _ (by decide)]; exact hm) (by rw [qu_s, show oOk M G k = false from Bool.eq_false_iff.mpr (fun h => by obtain ⟨z1, z2⟩ := chB_iff.mp h; omega)]; rfl) _ _ _ hP hD hS (lv_sub hl [0, 1, 2, 3, 4, 5, 6, 7, 8, 9] rfl)
      · skip
        refine q_iconst hx hb dL_fill_55 ?_
        refine lv_goto (tgt := 60) hx hb dL_fill_56 (by decide) ?_
        refine qb_iast (j := 1) hx hb hK hP hD hS 0 0 rfl rfl (by omega) dL_fill_60 (fun H locs hP hD hS => ?_)
        have hP : va_P D vwCl [[(am, aI cy 2 (qu u.1 1 (1)))], [(aa, aI cy 64 (u.2.1))], [(ab, aI cy 64 (u.2.2.1))], [(an, aI cy 64 (u.2.2.2))]].flatten H := hP
        have hD : va_D A [[(am, aI cy 2 (qu u.1 1 (1)))], [(aa, aI cy 64 (u.2.1))], [(ab, aI cy 64 (u.2.2.1))], [(an, aI cy 64 (u.2.2.2))]].flatten := hD
        exact K_61 _ (by rw [qu_n _ _ (by decide)]; exact hm) (by rw [qu_s, show oOk M G k = true from chB_iff.mpr ⟨by omega, by omega⟩]; rfl) _ _ _ hP hD hS (lv_sub hl [0, 1, 2, 3, 4, 5, 6, 7, 8, 9] rfl)
  · skip
    refine lv_iload_n hx hb dL_fill_38 rfl (lv_at hl 5 rfl) ?_
    refine lv_iload hx hb dL_fill_39 (lv_at hl 1 rfl) ?_
    refine q_icmp_gt (tgt := 59) hx hb dL_fill_41 (by decide) (by omega) (fun c_41 => ?_) (fun c_41 => ?_)
    · skip
      refine q_iconst hx hb dL_fill_59 ?_
      refine qb_iast (j := 1) hx hb hK hP hD hS 0 0 rfl rfl (by omega) dL_fill_60 (fun H locs hP hD hS => ?_)
      have hP : va_P D vwCl [[(am, aI cy 2 (qu u.1 1 (0)))], [(aa, aI cy 64 (u.2.1))], [(ab, aI cy 64 (u.2.2.1))], [(an, aI cy 64 (u.2.2.2))]].flatten H := hP
      have hD : va_D A [[(am, aI cy 2 (qu u.1 1 (0)))], [(aa, aI cy 64 (u.2.1))], [(ab, aI cy 64 (u.2.2.1))], [(an, aI cy 64 (u.2.2.2))]].flatten := hD
      exact K_61 _ (by rw [qu_n _ _ (by decide)]; exact hm) (by rw [qu_s, show oOk M G k = false from Bool.eq_false_iff.mpr (fun h => by obtain ⟨z1, z2⟩ := chB_iff.mp h; omega)]; rfl) _ _ _ hP hD hS (lv_sub hl [0, 1, 2, 3, 4, 5, 6, 7, 8, 9] rfl)
    · skip
      refine lv_iload_n hx hb dL_fill_44 rfl (lv_at hl 4 rfl) ?_
      refine q_iconst hx hb dL_fill_45 ?_
      refine q_icmp_eq (tgt := 55) hx hb dL_fill_46 (by decide) (by omega) (fun c_46 => ?_) (fun c_46 => ?_)
      · skip
        refine q_iconst hx hb dL_fill_55 ?_
        refine lv_goto (tgt := 60) hx hb dL_fill_56 (by decide) ?_
        refine qb_iast (j := 1) hx hb hK hP hD hS 0 0 rfl rfl (by omega) dL_fill_60 (fun H locs hP hD hS => ?_)
        have hP : va_P D vwCl [[(am, aI cy 2 (qu u.1 1 (1)))], [(aa, aI cy 64 (u.2.1))], [(ab, aI cy 64 (u.2.2.1))], [(an, aI cy 64 (u.2.2.2))]].flatten H := hP
        have hD : va_D A [[(am, aI cy 2 (qu u.1 1 (1)))], [(aa, aI cy 64 (u.2.1))], [(ab, aI cy 64 (u.2.2.1))], [(an, aI cy 64 (u.2.2.2))]].flatten := hD
        exact K_61 _ (by rw [qu_n _ _ (by decide)]; exact hm) (by rw [qu_s, show oOk M G k = true from chB_iff.mpr ⟨by omega, by omega⟩]; rfl) _ _ _ hP hD hS (lv_sub hl [0, 1, 2, 3, 4, 5, 6, 7, 8, 9] rfl)
      · skip
        refine lv_iload_n hx hb dL_fill_49 rfl (lv_at hl 5 rfl) ?_
        refine lv_iload hx hb dL_fill_50 (lv_at hl 0 rfl) ?_
        refine q_icmp_lt (tgt := 59) hx hb dL_fill_52 (by decide) (by omega) (fun c_52 => ?_) (fun c_52 => ?_)
        · skip
          refine q_iconst hx hb dL_fill_59 ?_
          refine qb_iast (j := 1) hx hb hK hP hD hS 0 0 rfl rfl (by omega) dL_fill_60 (fun H locs hP hD hS => ?_)
          have hP : va_P D vwCl [[(am, aI cy 2 (qu u.1 1 (0)))], [(aa, aI cy 64 (u.2.1))], [(ab, aI cy 64 (u.2.2.1))], [(an, aI cy 64 (u.2.2.2))]].flatten H := hP
          have hD : va_D A [[(am, aI cy 2 (qu u.1 1 (0)))], [(aa, aI cy 64 (u.2.1))], [(ab, aI cy 64 (u.2.2.1))], [(an, aI cy 64 (u.2.2.2))]].flatten := hD
          exact K_61 _ (by rw [qu_n _ _ (by decide)]; exact hm) (by rw [qu_s, show oOk M G k = false from Bool.eq_false_iff.mpr (fun h => by obtain ⟨z1, z2⟩ := chB_iff.mp h; omega)]; rfl) _ _ _ hP hD hS (lv_sub hl [0, 1, 2, 3, 4, 5, 6, 7, 8, 9] rfl)
        · skip
          refine q_iconst hx hb dL_fill_55 ?_
          refine lv_goto (tgt := 60) hx hb dL_fill_56 (by decide) ?_
          refine qb_iast (j := 1) hx hb hK hP hD hS 0 0 rfl rfl (by omega) dL_fill_60 (fun H locs hP hD hS => ?_)
          have hP : va_P D vwCl [[(am, aI cy 2 (qu u.1 1 (1)))], [(aa, aI cy 64 (u.2.1))], [(ab, aI cy 64 (u.2.2.1))], [(an, aI cy 64 (u.2.2.2))]].flatten H := hP
          have hD : va_D A [[(am, aI cy 2 (qu u.1 1 (1)))], [(aa, aI cy 64 (u.2.1))], [(ab, aI cy 64 (u.2.2.1))], [(an, aI cy 64 (u.2.2.2))]].flatten := hD
          exact K_61 _ (by rw [qu_n _ _ (by decide)]; exact hm) (by rw [qu_s, show oOk M G k = true from chB_iff.mpr ⟨by omega, by omega⟩]; rfl) _ _ _ hP hD hS (lv_sub hl [0, 1, 2, 3, 4, 5, 6, 7, 8, 9] rfl)
