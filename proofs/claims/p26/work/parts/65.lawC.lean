set_option maxRecDepth 100000 in
set_option maxHeartbeats 4000000 in
theorem c_L_all (l : Launch) (D : va_G) (cy : Nat → ClassId) (xc xe xd xi xf am aa ab an : Nat) (co ed dd fi fe : Nat → Int) (u : L4) (C : Nat → Nat → Int) (nc : Nat) (E : Nat → Nat → Int) (ne : Nat) (hC : qWR C nc) (hE : qWR E ne) (hc : nc ≤ 9) (he : ne ≤ 4) (hco : rC C nc co) (hed : rE E ne ed) (hdd : dd 0 = (nc : Int) ∧ dd 1 = (ne : Int)) (le : Nat) (hle : 3 * ne ≤ le ∧ le ≤ 12) (p0 : Int) (hp : -100 ≤ p0 ∧ p0 ≤ 100) (sz : Nat) : qCM l yL_all (.code yL_all cL_all 13 none) 4 104 1144 [.int (qI (p0)), .ref (xc), .ref (xe), .ref (xd), .ref (xi), .ref (xf), .ref (am), .ref (aa), .ref (ab), .ref (an)] D cy [[(xc, aI cy 45 (co))], [(xe, aI cy le (ed))], [(xd, aI cy 2 (dd))], [(xi, aI cy 27 (fi))], [(xf, aI cy 8 (fe))], [(am, aI cy 2 (u.1))], [(aa, aI cy 64 (u.2.1))], [(ab, aI cy 64 (u.2.2.1))], [(an, aI cy 64 (u.2.2.2))]] sz (va_Qv (S := (Nat → Int) × (Nat → Int) × L4) (fun v => aP C nc E ne p0 v.1 v.2.1 v.2.2) (qB D cy [[(xc, aI cy 45 (co))], [(xe, aI cy le (ed))], [(xd, aI cy 2 (dd))], [(xi, aI cy 27 (fi))], [(xf, aI cy 8 (fe))], [(am, aI cy 2 (u.1))], [(aa, aI cy 64 (u.2.1))], [(ab, aI cy 64 (u.2.2.1))], [(an, aI cy 64 (u.2.2.2))]] sz (fun v => [[(xc, aI cy 45 (co))], [(xe, aI cy le (ed))], [(xd, aI cy 2 (dd))], [(xi, aI cy 27 (v.1))], [(xf, aI cy 8 (v.2.1))], [(am, aI cy 2 (v.2.2.1))], [(aa, aI cy 64 (v.2.2.2.1))], [(ab, aI cy 64 (v.2.2.2.2.1))], [(an, aI cy 64 (v.2.2.2.2.2))]])) (va_A [[(xc, aI cy 45 (co))], [(xe, aI cy le (ed))], [(xd, aI cy 2 (dd))], [(xi, aI cy 27 (fi))], [(xf, aI cy 8 (fe))], [(am, aI cy 2 (u.1))], [(aa, aI cy 64 (u.2.1))], [(ab, aI cy 64 (u.2.2.1))], [(an, aI cy 64 (u.2.2.2))]].flatten sz)) := by
  refine q_ofKv (S := (Nat → Int) × (Nat → Int) × L4) (b1 := fun v => [[(xc, aI cy 45 (co))], [(xe, aI cy le (ed))], [(xd, aI cy 2 (dd))], [(xi, aI cy 27 (v.1))], [(xf, aI cy 8 (v.2.1))], [(am, aI cy 2 (v.2.2.1))], [(aa, aI cy 64 (v.2.2.2.1))], [(ab, aI cy 64 (v.2.2.2.2.1))], [(an, aI cy 64 (v.2.2.2.2.2))]]) (post := fun v => aP C nc E ne p0 v.1 v.2.1 v.2.2) (by decide +kernel) (Nat.le_of_ble_eq_true rfl) ?_
  intro p e s m args below meth c Q A hx hb hml hown hg hQ hK hN hD hA H locs ls hP hS hl
  have hown : s.vm.findClass RL = some m.cls := hown
  have hl : lv_has ls 13 [(0, .int (qI (p0))), (1, .ref (xc)), (2, .ref (xe)), (3, .ref (xd)), (4, .ref (xi)), (5, .ref (xf)), (6, .ref (am)), (7, .ref (aa)), (8, .ref (ab)), (9, .ref (an))] := hl
  refine lv_aload hx hb dL_all_0 (lv_at hl 6 rfl) ?_
  refine q_iconst hx hb dL_all_2 ?_
  refine q_iconst hx hb dL_all_3 ?_
  refine qb_iast (j := 0) hx hb hK hP hD hS 5 0 rfl rfl (by omega) dL_all_4 (fun H locs hP hD hS => ?_)
  have hP : va_P D vwCl [[(xc, aI cy 45 (co))], [(xe, aI cy le (ed))], [(xd, aI cy 2 (dd))], [(xi, aI cy 27 (fi))], [(xf, aI cy 8 (fe))], [(am, aI cy 2 (qu u.1 0 (0)))], [(aa, aI cy 64 (u.2.1))], [(ab, aI cy 64 (u.2.2.1))], [(an, aI cy 64 (u.2.2.2))]].flatten H := hP
  have hD : va_D A [[(xc, aI cy 45 (co))], [(xe, aI cy le (ed))], [(xd, aI cy 2 (dd))], [(xi, aI cy 27 (fi))], [(xf, aI cy 8 (fe))], [(am, aI cy 2 (qu u.1 0 (0)))], [(aa, aI cy 64 (u.2.1))], [(ab, aI cy 64 (u.2.2.1))], [(an, aI cy 64 (u.2.2.2))]].flatten := hD
  refine q_iconst hx hb dL_all_5 ?_
  refine lv_istore (lv' := [(10, .int (qI (0))), (0, .int (qI (p0))), (1, .ref (xc)), (2, .ref (xe)), (3, .ref (xd)), (4, .ref (xi)), (5, .ref (xf)), (6, .ref (am)), (7, .ref (aa)), (8, .ref (ab)), (9, .ref (an))]) hx hb dL_all_6 hl (by decide) rfl (fun ls hl => ?_)
  refine q_iconst hx hb dL_all_8 ?_
  refine lv_istore (lv' := [(11, .int (qI (3))), (10, .int (qI (0))), (0, .int (qI (p0))), (1, .ref (xc)), (2, .ref (xe)), (3, .ref (xd)), (4, .ref (xi)), (5, .ref (xf)), (6, .ref (am)), (7, .ref (aa)), (8, .ref (ab)), (9, .ref (an))]) hx hb dL_all_9 hl (by decide) rfl (fun ls hl => ?_)
  have L_11 : ∀ (n_11 j : Nat) (x3 : Int) (t1 : Int) (f1 : Nat → Int) (g1 : Nat → Int) (u1 : L4), j ≤ 4 → 4 + 1 ≤ j + n_11 → (x3 = 3 - (j : Int)) → (aR nc ne (pcs C p0 j 0) (pes E j 0) (loS E ne C nc p0 j S00) f1 g1 u1 t1) → ∀ (H : Heap) (locs : List Loc) (ls : Array Slot), va_P D vwCl [[(xc, aI cy 45 (co))], [(xe, aI cy le (ed))], [(xd, aI cy 2 (dd))], [(xi, aI cy 27 (f1))], [(xf, aI cy 8 (g1))], [(am, aI cy 2 (u1.1))], [(aa, aI cy 64 (u1.2.1))], [(ab, aI cy 64 (u1.2.2.1))], [(an, aI cy 64 (u1.2.2.2))]].flatten H → va_D A [[(xc, aI cy 45 (co))], [(xe, aI cy le (ed))], [(xd, aI cy 2 (dd))], [(xi, aI cy 27 (f1))], [(xf, aI cy 8 (g1))], [(am, aI cy 2 (u1.1))], [(aa, aI cy 64 (u1.2.1))], [(ab, aI cy 64 (u1.2.2.1))], [(an, aI cy 64 (u1.2.2.2))]].flatten → va_S A s.heap H locs → lv_has ls 13 [(0, .int (qI (p0))), (1, .ref (xc)), (2, .ref (xe)), (3, .ref (xd)), (4, .ref (xi)), (5, .ref (xf)), (6, .ref (am)), (7, .ref (aa)), (8, .ref (ab)), (9, .ref (an)), (10, .int (qI (t1))), (11, .int (qI (x3)))] → W p l e (qrc 4 104 1144) s m args below meth c H locs (26 * j) (286 * j) Q (F0 m 11 ls []) := by
    intro n_11
    induction n_11 with
    | zero => intro j _ _ _ _ _ h1 h2; exact absurd h2 (by omega)
    | succ n_11 ih_11 =>
      intro j x3 t1 f1 g1 u1 hk_11 hn_11 hx3 hI H locs ls hP hD hS hl
      refine lv_iload hx hb dL_all_11 (lv_at hl 11 rfl) ?_
      refine q_if_lt (tgt := 220) hx hb dL_all_13 (by decide) (by omega) (fun c_13 => ?_) (fun c_13 => ?_)
      · skip
        refine W.widen (k := 104) (n := 1144) (by omega) (by omega) ?_
        exact hQ _ _ _ _ (f1, g1, u1) (aR_end hC hE hc he (by have e : j = 4 := (by omega); rw [e] at hI; exact hI)) hP hD hS dL_all_220
      · skip
        refine q_iconst hx hb dL_all_16 ?_
        refine lv_istore (lv' := [(12, .int (qI (0))), (0, .int (qI (p0))), (1, .ref (xc)), (2, .ref (xe)), (3, .ref (xd)), (4, .ref (xi)), (5, .ref (xf)), (6, .ref (am)), (7, .ref (aa)), (8, .ref (ab)), (9, .ref (an)), (10, .int (qI (t1))), (11, .int (qI (x3)))]) hx hb dL_all_17 hl (by decide) rfl (fun ls hl => ?_)
        have L_19 : ∀ (n_19 k2 : Nat) (t2 : Int) (g2 : Nat → Int) (u2 : L4), k2 ≤ ne → ne + 1 ≤ k2 + n_19 → (aR nc ne (pcs C p0 j 0) (pes E j k2) (loE E (3 - (j : Int)) k2 (loS E ne C nc p0 j S00)) f1 g2 u2 t2) → ∀ (H : Heap) (locs : List Loc) (ls : Array Slot), va_P D vwCl [[(xc, aI cy 45 (co))], [(xe, aI cy le (ed))], [(xd, aI cy 2 (dd))], [(xi, aI cy 27 (f1))], [(xf, aI cy 8 (g2))], [(am, aI cy 2 (u2.1))], [(aa, aI cy 64 (u2.2.1))], [(ab, aI cy 64 (u2.2.2.1))], [(an, aI cy 64 (u2.2.2.2))]].flatten H → va_D A [[(xc, aI cy 45 (co))], [(xe, aI cy le (ed))], [(xd, aI cy 2 (dd))], [(xi, aI cy 27 (f1))], [(xf, aI cy 8 (g2))], [(am, aI cy 2 (u2.1))], [(aa, aI cy 64 (u2.2.1))], [(ab, aI cy 64 (u2.2.2.1))], [(an, aI cy 64 (u2.2.2.2))]].flatten → va_S A s.heap H locs → lv_has ls 13 [(0, .int (qI (p0))), (1, .ref (xc)), (2, .ref (xe)), (3, .ref (xd)), (4, .ref (xi)), (5, .ref (xf)), (6, .ref (am)), (7, .ref (aa)), (8, .ref (ab)), (9, .ref (an)), (10, .int (qI (t2))), (11, .int (qI (x3))), (12, .int (qI (((k2 : Nat) : Int))))] → W p l e (qrc 4 104 1144) s m args below meth c H locs (26 * j + 2 * k2) (286 * j + 22 * k2) Q (F0 m 19 ls []) := by
          intro n_19
          induction n_19 with
          | zero => intro k2 _ _ _ h1 h2; exact absurd h2 (by omega)
          | succ n_19 ih_19 =>
            intro k2 t2 g2 u2 hk_19 hn_19 hE9 H locs ls hP hD hS hl
            refine lv_iload hx hb dL_all_19 (lv_at hl 12 rfl) ?_
            refine lv_aload_n hx hb dL_all_21 rfl (lv_at hl 3 rfl) ?_
            refine q_iconst hx hb dL_all_22 ?_
            refine q_iald (j := 1) hx hb hK (fl_blk hP 2 rfl) 0 rfl (by omega) dL_all_23 ?_
            refine q_icmp_ge (tgt := 100) hx hb dL_all_24 (by decide) (by omega) (fun c_24 => ?_) (fun c_24 => ?_)
            · skip
              refine q_iconst hx hb dL_all_100 ?_
              refine lv_istore (lv' := [(12, .int (qI (0))), (0, .int (qI (p0))), (1, .ref (xc)), (2, .ref (xe)), (3, .ref (xd)), (4, .ref (xi)), (5, .ref (xf)), (6, .ref (am)), (7, .ref (aa)), (8, .ref (ab)), (9, .ref (an)), (10, .int (qI (t2))), (11, .int (qI (x3)))]) hx hb dL_all_101 hl (by decide) rfl (fun ls hl => ?_)
              have L_103 : ∀ (n_103 k3 : Nat) (t3 : Int) (f3 : Nat → Int) (u3 : L4), k3 ≤ nc → nc + 1 ≤ k3 + n_103 → (aR nc ne (pcs C p0 j k3) (pes E j ne) (loC C p0 (3 - (j : Int)) k3 (loE E (3 - (j : Int)) ne (loS E ne C nc p0 j S00))) f3 g2 u3 t3) → ∀ (H : Heap) (locs : List Loc) (ls : Array Slot), va_P D vwCl [[(xc, aI cy 45 (co))], [(xe, aI cy le (ed))], [(xd, aI cy 2 (dd))], [(xi, aI cy 27 (f3))], [(xf, aI cy 8 (g2))], [(am, aI cy 2 (u3.1))], [(aa, aI cy 64 (u3.2.1))], [(ab, aI cy 64 (u3.2.2.1))], [(an, aI cy 64 (u3.2.2.2))]].flatten H → va_D A [[(xc, aI cy 45 (co))], [(xe, aI cy le (ed))], [(xd, aI cy 2 (dd))], [(xi, aI cy 27 (f3))], [(xf, aI cy 8 (g2))], [(am, aI cy 2 (u3.1))], [(aa, aI cy 64 (u3.2.1))], [(ab, aI cy 64 (u3.2.2.1))], [(an, aI cy 64 (u3.2.2.2))]].flatten → va_S A s.heap H locs → lv_has ls 13 [(0, .int (qI (p0))), (1, .ref (xc)), (2, .ref (xe)), (3, .ref (xd)), (4, .ref (xi)), (5, .ref (xf)), (6, .ref (am)), (7, .ref (aa)), (8, .ref (ab)), (9, .ref (an)), (10, .int (qI (t3))), (11, .int (qI (x3))), (12, .int (qI (((k3 : Nat) : Int))))] → W p l e (qrc 4 104 1144) s m args below meth c H locs (26 * j + 8 + 2 * k3) (286 * j + 88 + 22 * k3) Q (F0 m 103 ls []) := by
                intro n_103
                induction n_103 with
                | zero => intro k3 _ _ _ h1 h2; exact absurd h2 (by omega)
                | succ n_103 ih_103 =>
                  intro k3 t3 f3 u3 hk_103 hn_103 hC9 H locs ls hP hD hS hl
                  refine lv_iload hx hb dL_all_103 (lv_at hl 12 rfl) ?_
                  refine lv_aload_n hx hb dL_all_105 rfl (lv_at hl 3 rfl) ?_
                  refine q_iconst hx hb dL_all_106 ?_
                  refine q_iald (j := 0) hx hb hK (fl_blk hP 2 rfl) 0 rfl (by omega) dL_all_107 ?_
                  refine q_icmp_ge (tgt := 214) hx hb dL_all_108 (by decide) (by omega) (fun c_108 => ?_) (fun c_108 => ?_)
                  · skip
                    refine q_iinc (k := 11) (lv' := [(11, .int (qI ((x3) + (-1)))), (0, .int (qI (p0))), (1, .ref (xc)), (2, .ref (xe)), (3, .ref (xd)), (4, .ref (xi)), (5, .ref (xf)), (6, .ref (am)), (7, .ref (aa)), (8, .ref (ab)), (9, .ref (an)), (10, .int (qI (t3))), (12, .int (qI (((k3 : Nat) : Int))))]) hx hb dL_all_214 hl rfl (by decide) rfl (fun ls hl => ?_)
                    refine lv_goto (tgt := 11) hx hb dL_all_217 (by decide) ?_
                    refine W.widen (k := 26 * (j + 1)) (n := 286 * (j + 1)) (by omega) (by omega) ?_
                    exact ih_11 (j + 1) _ _ _ _ _ (by omega) (by omega) (by omega) (aR_next (by have e : k3 = nc := (by omega); rw [e] at hC9; exact hC9)) _ _ _ hP hD hS (lv_sub hl [1, 2, 3, 4, 5, 6, 7, 8, 9, 10, 11, 0] rfl)
                  · skip
                    have hq := hco k3 (by omega)
                    have hq2 := hC k3 (by omega)
                    have hT := loS_TC (E := E) (C := C) (ne := ne) (nc := nc) (but := p0) (j := j) (k := k3) (by omega)
                    have h9 := hC9.1
                    refine lv_iload hx hb dL_all_111 (lv_at hl 12 rfl) ?_
                    refine lv_iload_n hx hb dL_all_113 rfl (lv_at hl 0 rfl) ?_
                    refine q_icmp_eq (tgt := 208) hx hb dL_all_114 (by decide) (by omega) (fun c_114 => ?_) (fun c_114 => ?_)
                    · skip
                      refine q_iinc (k := 12) (lv' := [(12, .int (qI ((((k3 : Nat) : Int)) + (1)))), (0, .int (qI (p0))), (1, .ref (xc)), (2, .ref (xe)), (3, .ref (xd)), (4, .ref (xi)), (5, .ref (xf)), (6, .ref (am)), (7, .ref (aa)), (8, .ref (ab)), (9, .ref (an)), (10, .int (qI (t3))), (11, .int (qI (x3)))]) hx hb dL_all_208 hl rfl (by decide) rfl (fun ls hl => ?_)
                      refine lv_goto (tgt := 103) hx hb dL_all_211 (by decide) ?_
                      refine W.widen (k := 26 * j + 8 + 2 * (k3 + 1)) (n := 286 * j + 88 + 22 * (k3 + 1)) (by omega) (by omega) ?_
                      exact ih_103 (k3 + 1) _ _ _ (by omega) (by omega) (aR_Cs hC9 (by omega)) _ _ _ hP hD hS (lv_sub hl [1, 2, 3, 4, 5, 6, 7, 8, 9, 10, 11, 12, 0] rfl)
                    · skip
                      refine lv_aload_n hx hb dL_all_117 rfl (lv_at hl 1 rfl) ?_
                      refine q_iconst hx hb dL_all_118 ?_
                      refine lv_iload hx hb dL_all_119 (lv_at hl 12 rfl) ?_
                      refine q_imul hx hb dL_all_121 ?_
                      refine q_iconst hx hb dL_all_122 ?_
                      refine q_iadd hx hb dL_all_123 ?_
                      refine q_iald (j := ((5 * k3) + 4)) hx hb hK (fl_blk hP 0 rfl) 0 rfl (by omega) dL_all_124 ?_
                      refine lv_iload hx hb dL_all_125 (lv_at hl 11 rfl) ?_
                      refine q_icmp_eq (tgt := 133) hx hb dL_all_127 (by decide) (by omega) (fun c_127 => ?_) (fun c_127 => ?_)
                      · skip
                        refine lv_aload hx hb dL_all_133 (lv_at hl 4 rfl) ?_
                        refine q_iconst hx hb dL_all_135 ?_
                        refine lv_iload hx hb dL_all_136 (lv_at hl 12 rfl) ?_
                        refine q_imul hx hb dL_all_138 ?_
                        refine q_iconst hx hb dL_all_139 ?_
                        refine q_iadd hx hb dL_all_140 ?_
                        refine lv_aload_n hx hb dL_all_141 rfl (lv_at hl 1 rfl) ?_
                        refine q_iconst hx hb dL_all_142 ?_
                        refine lv_iload hx hb dL_all_143 (lv_at hl 12 rfl) ?_
                        refine q_imul hx hb dL_all_145 ?_
                        refine q_iald (j := (5 * k3)) hx hb hK (fl_blk hP 0 rfl) 0 rfl (by omega) dL_all_146 ?_
                        refine lv_aload_n hx hb dL_all_147 rfl (lv_at hl 1 rfl) ?_
                        refine q_iconst hx hb dL_all_148 ?_
                        refine lv_iload hx hb dL_all_149 (lv_at hl 12 rfl) ?_
                        refine q_imul hx hb dL_all_151 ?_
                        refine q_iconst hx hb dL_all_152 ?_
                        refine q_iadd hx hb dL_all_153 ?_
                        refine q_iald (j := ((5 * k3) + 1)) hx hb hK (fl_blk hP 0 rfl) 0 rfl (by omega) dL_all_154 ?_
                        refine lv_aload_n hx hb dL_all_155 rfl (lv_at hl 1 rfl) ?_
                        refine q_iconst hx hb dL_all_156 ?_
                        refine lv_iload hx hb dL_all_157 (lv_at hl 12 rfl) ?_
                        refine q_imul hx hb dL_all_159 ?_
                        refine q_iconst hx hb dL_all_160 ?_
                        refine q_iadd hx hb dL_all_161 ?_
                        refine q_iald (j := ((5 * k3) + 2)) hx hb hK (fl_blk hP 0 rfl) 0 rfl (by omega) dL_all_162 ?_
                        refine lv_aload_n hx hb dL_all_163 rfl (lv_at hl 1 rfl) ?_
                        refine q_iconst hx hb dL_all_164 ?_
                        refine lv_iload hx hb dL_all_165 (lv_at hl 12 rfl) ?_
                        refine q_imul hx hb dL_all_167 ?_
                        refine q_iconst hx hb dL_all_168 ?_
                        refine q_iadd hx hb dL_all_169 ?_
                        refine q_iald (j := ((5 * k3) + 3)) hx hb hK (fl_blk hP 0 rfl) 0 rfl (by omega) dL_all_170 ?_
                        refine lv_aload hx hb dL_all_171 (lv_at hl 6 rfl) ?_
                        refine lv_aload hx hb dL_all_173 (lv_at hl 7 rfl) ?_
                        refine lv_aload hx hb dL_all_175 (lv_at hl 8 rfl) ?_
                        refine lv_aload hx hb dL_all_177 (lv_at hl 9 rfl) ?_
                        refine q_backKi (mc := 2) (ms := 22) [5, 6, 7, 8] [0, 1, 2, 3, 4] (br := [[(xc, aI cy 45 (co))], [(xe, aI cy le (ed))], [(xd, aI cy 2 (dd))], [(xi, aI cy 27 (f3))], [(xf, aI cy 8 (g2))]]) hP hD hS hA (va_runS (As := [.int (qI (co (5 * k3))), .int (qI (co ((5 * k3) + 1))), .int (qI (co ((5 * k3) + 2))), .int (qI (co ((5 * k3) + 3))), .ref (am), .ref (aa), .ref (ab), .ref (an)]) (rest := [.int (qI (((3) * (((k3 : Nat) : Int))) + (1))), .ref (xi)]) ⟨hx, hb, hml, hown, hg⟩ (c_L_fill l D cy am aa ab an u3 (2 * t3.toNat) (fM (loC C p0 (3 - (j : Int)) k3 (loE E (3 - (j : Int)) ne (loS E ne C nc p0 j S00)))) C k3 nc hC (by omega) hC9.2.1 (by omega) _ _ _ _ hq.1 hq.2.1 hq.2.2.1 hq.2.2.2.1 _) (cs_L_18 hg rfl rfl ⟨(Nat.le_of_ble_eq_true rfl), (Nat.le_of_ble_eq_true rfl)⟩) ⟨q_blind, q_preM _ hK hN hP hD [5, 6, 7, 8] (by decide) rfl⟩ rfl rfl hl.1 rfl (lv_room (Nat.le_of_ble_eq_true rfl)) dL_all_179 ⟨(show 26 * j + 8 + 2 * k3 + 2 ≤ 104 by omega), (show 286 * j + 88 + 22 * k3 + 22 ≤ 1144 by omega)⟩) rfl rfl (by decide) (fun r_179 u_179 H locs h_179 hP hD hS => ?_)
                        have hP : va_P D vwCl [[(xc, aI cy 45 (co))], [(xe, aI cy le (ed))], [(xd, aI cy 2 (dd))], [(xi, aI cy 27 (f3))], [(xf, aI cy 8 (g2))], [(am, aI cy 2 (u_179.1))], [(aa, aI cy 64 (u_179.2.1))], [(ab, aI cy 64 (u_179.2.2.1))], [(an, aI cy 64 (u_179.2.2.2))]].flatten H := hP
                        have hD : va_D A [[(xc, aI cy 45 (co))], [(xe, aI cy le (ed))], [(xd, aI cy 2 (dd))], [(xi, aI cy 27 (f3))], [(xf, aI cy 8 (g2))], [(am, aI cy 2 (u_179.1))], [(aa, aI cy 64 (u_179.2.1))], [(ab, aI cy 64 (u_179.2.2.1))], [(an, aI cy 64 (u_179.2.2.2))]].flatten := hD
                        obtain ⟨rfl, h_179⟩ := h_179
                        refine qb_iast (j := ((3 * k3) + 1)) hx hb hK hP hD hS 3 0 rfl rfl (by omega) dL_all_182 (fun H locs hP hD hS => ?_)
                        have hP : va_P D vwCl [[(xc, aI cy 45 (co))], [(xe, aI cy le (ed))], [(xd, aI cy 2 (dd))], [(xi, aI cy 27 (qu f3 ((3 * k3) + 1) (oMg (fM (loC C p0 (3 - (j : Int)) k3 (loE E (3 - (j : Int)) ne (loS E ne C nc p0 j S00)))) C k3)))], [(xf, aI cy 8 (g2))], [(am, aI cy 2 (u_179.1))], [(aa, aI cy 64 (u_179.2.1))], [(ab, aI cy 64 (u_179.2.2.1))], [(an, aI cy 64 (u_179.2.2.2))]].flatten H := hP
                        have hD : va_D A [[(xc, aI cy 45 (co))], [(xe, aI cy le (ed))], [(xd, aI cy 2 (dd))], [(xi, aI cy 27 (qu f3 ((3 * k3) + 1) (oMg (fM (loC C p0 (3 - (j : Int)) k3 (loE E (3 - (j : Int)) ne (loS E ne C nc p0 j S00)))) C k3)))], [(xf, aI cy 8 (g2))], [(am, aI cy 2 (u_179.1))], [(aa, aI cy 64 (u_179.2.1))], [(ab, aI cy 64 (u_179.2.2.1))], [(an, aI cy 64 (u_179.2.2.2))]].flatten := hD
                        refine lv_aload hx hb dL_all_183 (lv_at hl 4 rfl) ?_
                        refine q_iconst hx hb dL_all_185 ?_
                        refine lv_iload hx hb dL_all_186 (lv_at hl 12 rfl) ?_
                        refine q_imul hx hb dL_all_188 ?_
                        refine lv_aload hx hb dL_all_189 (lv_at hl 6 rfl) ?_
                        refine q_iconst hx hb dL_all_191 ?_
                        refine q_iald (j := 1) hx hb hK (fl_blk hP 5 rfl) 0 rfl (by omega) dL_all_192 ?_
                        refine qb_iast (j := (3 * k3)) hx hb hK hP hD hS 3 0 rfl rfl (by omega) dL_all_193 (fun H locs hP hD hS => ?_)
                        have hP : va_P D vwCl [[(xc, aI cy 45 (co))], [(xe, aI cy le (ed))], [(xd, aI cy 2 (dd))], [(xi, aI cy 27 (qu (qu f3 ((3 * k3) + 1) (oMg (fM (loC C p0 (3 - (j : Int)) k3 (loE E (3 - (j : Int)) ne (loS E ne C nc p0 j S00)))) C k3)) (3 * k3) (u_179.1 1)))], [(xf, aI cy 8 (g2))], [(am, aI cy 2 (u_179.1))], [(aa, aI cy 64 (u_179.2.1))], [(ab, aI cy 64 (u_179.2.2.1))], [(an, aI cy 64 (u_179.2.2.2))]].flatten H := hP
                        have hD : va_D A [[(xc, aI cy 45 (co))], [(xe, aI cy le (ed))], [(xd, aI cy 2 (dd))], [(xi, aI cy 27 (qu (qu f3 ((3 * k3) + 1) (oMg (fM (loC C p0 (3 - (j : Int)) k3 (loE E (3 - (j : Int)) ne (loS E ne C nc p0 j S00)))) C k3)) (3 * k3) (u_179.1 1)))], [(xf, aI cy 8 (g2))], [(am, aI cy 2 (u_179.1))], [(aa, aI cy 64 (u_179.2.1))], [(ab, aI cy 64 (u_179.2.2.1))], [(an, aI cy 64 (u_179.2.2.2))]].flatten := hD
                        refine lv_aload hx hb dL_all_194 (lv_at hl 4 rfl) ?_
                        refine q_iconst hx hb dL_all_196 ?_
                        refine lv_iload hx hb dL_all_197 (lv_at hl 12 rfl) ?_
                        refine q_imul hx hb dL_all_199 ?_
                        refine q_iconst hx hb dL_all_200 ?_
                        refine q_iadd hx hb dL_all_201 ?_
                        refine lv_iload hx hb dL_all_202 (lv_at hl 10 rfl) ?_
                        refine q_iinc (k := 10) (lv' := [(10, .int (qI ((t3) + (1)))), (0, .int (qI (p0))), (1, .ref (xc)), (2, .ref (xe)), (3, .ref (xd)), (4, .ref (xi)), (5, .ref (xf)), (6, .ref (am)), (7, .ref (aa)), (8, .ref (ab)), (9, .ref (an)), (11, .int (qI (x3))), (12, .int (qI (((k3 : Nat) : Int))))]) hx hb dL_all_204 hl rfl (by decide) rfl (fun ls hl => ?_)
                        refine qb_iast (j := ((3 * k3) + 2)) hx hb hK hP hD hS 3 0 rfl rfl (by omega) dL_all_207 (fun H locs hP hD hS => ?_)
                        have hP : va_P D vwCl [[(xc, aI cy 45 (co))], [(xe, aI cy le (ed))], [(xd, aI cy 2 (dd))], [(xi, aI cy 27 (qu (qu (qu f3 ((3 * k3) + 1) (oMg (fM (loC C p0 (3 - (j : Int)) k3 (loE E (3 - (j : Int)) ne (loS E ne C nc p0 j S00)))) C k3)) (3 * k3) (u_179.1 1)) ((3 * k3) + 2) (t3)))], [(xf, aI cy 8 (g2))], [(am, aI cy 2 (u_179.1))], [(aa, aI cy 64 (u_179.2.1))], [(ab, aI cy 64 (u_179.2.2.1))], [(an, aI cy 64 (u_179.2.2.2))]].flatten H := hP
                        have hD : va_D A [[(xc, aI cy 45 (co))], [(xe, aI cy le (ed))], [(xd, aI cy 2 (dd))], [(xi, aI cy 27 (qu (qu (qu f3 ((3 * k3) + 1) (oMg (fM (loC C p0 (3 - (j : Int)) k3 (loE E (3 - (j : Int)) ne (loS E ne C nc p0 j S00)))) C k3)) (3 * k3) (u_179.1 1)) ((3 * k3) + 2) (t3)))], [(xf, aI cy 8 (g2))], [(am, aI cy 2 (u_179.1))], [(aa, aI cy 64 (u_179.2.1))], [(ab, aI cy 64 (u_179.2.2.1))], [(an, aI cy 64 (u_179.2.2.2))]].flatten := hD
                        refine q_iinc (k := 12) (lv' := [(12, .int (qI ((((k3 : Nat) : Int)) + (1)))), (10, .int (qI ((t3) + (1)))), (0, .int (qI (p0))), (1, .ref (xc)), (2, .ref (xe)), (3, .ref (xd)), (4, .ref (xi)), (5, .ref (xf)), (6, .ref (am)), (7, .ref (aa)), (8, .ref (ab)), (9, .ref (an)), (11, .int (qI (x3)))]) hx hb dL_all_208 hl rfl (by decide) rfl (fun ls hl => ?_)
                        refine lv_goto (tgt := 103) hx hb dL_all_211 (by decide) ?_
                        refine W.widen (k := 26 * j + 8 + 2 * (k3 + 1)) (n := 286 * j + 88 + 22 * (k3 + 1)) (by omega) (by omega) ?_
                        exact ih_103 (k3 + 1) _ _ _ (by omega) (by omega) (aR_Ct hC9 c_114 (by omega) h_179) _ _ _ hP hD hS (lv_sub hl [2, 3, 4, 5, 6, 7, 8, 9, 10, 11, 1, 12, 0] rfl)
                      · skip
                        refine lv_goto (tgt := 208) hx hb dL_all_130 (by decide) ?_
                        refine q_iinc (k := 12) (lv' := [(12, .int (qI ((((k3 : Nat) : Int)) + (1)))), (0, .int (qI (p0))), (1, .ref (xc)), (2, .ref (xe)), (3, .ref (xd)), (4, .ref (xi)), (5, .ref (xf)), (6, .ref (am)), (7, .ref (aa)), (8, .ref (ab)), (9, .ref (an)), (10, .int (qI (t3))), (11, .int (qI (x3)))]) hx hb dL_all_208 hl rfl (by decide) rfl (fun ls hl => ?_)
                        refine lv_goto (tgt := 103) hx hb dL_all_211 (by decide) ?_
                        refine W.widen (k := 26 * j + 8 + 2 * (k3 + 1)) (n := 286 * j + 88 + 22 * (k3 + 1)) (by omega) (by omega) ?_
                        exact ih_103 (k3 + 1) _ _ _ (by omega) (by omega) (aR_Cs hC9 (by omega)) _ _ _ hP hD hS (lv_sub hl [1, 2, 3, 4, 5, 6, 7, 8, 9, 10, 11, 12, 0] rfl)
              refine W.widen (k := 26 * j + 8 + 2 * 0) (n := 286 * j + 88 + 22 * 0) (by omega) (by omega) ?_
              exact L_103 (nc + 1) (0) (t2) (f1) (u2) (by omega) (by omega) (by have e : k2 = ne := (by omega); rw [e] at hE9; exact hE9) _ _ _ hP hD hS (lv_sub hl [1, 2, 3, 4, 5, 6, 7, 8, 9, 10, 11, 12, 0] rfl)
            · skip
              have hq := hed k2 (by omega)
              have hq2 := hE k2 (by omega)
              have hT := loS_TE (E := E) (C := C) (ne := ne) (nc := nc) (but := p0) (j := j) (k := k2) (by omega)
              have h9 := hE9.1
              refine lv_aload_n hx hb dL_all_27 rfl (lv_at hl 2 rfl) ?_
              refine q_iconst hx hb dL_all_28 ?_
              refine lv_iload hx hb dL_all_29 (lv_at hl 12 rfl) ?_
              refine q_imul hx hb dL_all_31 ?_
              refine q_iconst hx hb dL_all_32 ?_
              refine q_iadd hx hb dL_all_33 ?_
              refine q_iald (j := ((3 * k2) + 2)) hx hb hK (fl_blk hP 1 rfl) 0 rfl (by omega) dL_all_34 ?_
              refine lv_iload hx hb dL_all_35 (lv_at hl 11 rfl) ?_
              refine q_icmp_eq (tgt := 43) hx hb dL_all_37 (by decide) (by omega) (fun c_37 => ?_) (fun c_37 => ?_)
              · skip
                refine lv_aload hx hb dL_all_43 (lv_at hl 5 rfl) ?_
                refine q_iconst hx hb dL_all_45 ?_
                refine lv_iload hx hb dL_all_46 (lv_at hl 12 rfl) ?_
                refine q_imul hx hb dL_all_48 ?_
                refine q_iconst hx hb dL_all_49 ?_
                refine q_iadd hx hb dL_all_50 ?_
                refine lv_aload_n hx hb dL_all_51 rfl (lv_at hl 2 rfl) ?_
                refine q_iconst hx hb dL_all_52 ?_
                refine lv_iload hx hb dL_all_53 (lv_at hl 12 rfl) ?_
                refine q_imul hx hb dL_all_55 ?_
                refine q_iald (j := (3 * k2)) hx hb hK (fl_blk hP 1 rfl) 0 rfl (by omega) dL_all_56 ?_
                refine q_bipush hx hb dL_all_57 (by decide) ?_
                refine q_iconst hx hb dL_all_59 ?_
                refine lv_aload_n hx hb dL_all_60 rfl (lv_at hl 2 rfl) ?_
                refine q_iconst hx hb dL_all_61 ?_
                refine lv_iload hx hb dL_all_62 (lv_at hl 12 rfl) ?_
                refine q_imul hx hb dL_all_64 ?_
                refine q_iconst hx hb dL_all_65 ?_
                refine q_iadd hx hb dL_all_66 ?_
                refine q_iald (j := ((3 * k2) + 1)) hx hb hK (fl_blk hP 1 rfl) 0 rfl (by omega) dL_all_67 ?_
                refine lv_aload hx hb dL_all_68 (lv_at hl 6 rfl) ?_
                refine lv_aload hx hb dL_all_70 (lv_at hl 7 rfl) ?_
                refine lv_aload hx hb dL_all_72 (lv_at hl 8 rfl) ?_
                refine lv_aload hx hb dL_all_74 (lv_at hl 9 rfl) ?_
                refine q_backKi (mc := 2) (ms := 22) [5, 6, 7, 8] [0, 1, 2, 3, 4] (br := [[(xc, aI cy 45 (co))], [(xe, aI cy le (ed))], [(xd, aI cy 2 (dd))], [(xi, aI cy 27 (f1))], [(xf, aI cy 8 (g2))]]) hP hD hS hA (va_runS (As := [.int (qI (ed (3 * k2))), .int (qI (10)), .int (qI (1)), .int (qI (ed ((3 * k2) + 1))), .ref (am), .ref (aa), .ref (ab), .ref (an)]) (rest := [.int (qI (((2) * (((k2 : Nat) : Int))) + (1))), .ref (xf)]) ⟨hx, hb, hml, hown, hg⟩ (c_L_fill l D cy am aa ab an u2 (2 * t2.toNat) (fM (loE E (3 - (j : Int)) k2 (loS E ne C nc p0 j S00))) E k2 ne hE (by omega) hE9.2.1 (by omega) _ _ _ _ hq.1.1 (by rw [hq.2.1]; rfl) hq.2.2.symm hq.1.2.1 _) (cs_L_18 hg rfl rfl ⟨(Nat.le_of_ble_eq_true rfl), (Nat.le_of_ble_eq_true rfl)⟩) ⟨q_blind, q_preM _ hK hN hP hD [5, 6, 7, 8] (by decide) rfl⟩ rfl rfl hl.1 rfl (lv_room (Nat.le_of_ble_eq_true rfl)) dL_all_76 ⟨(show 26 * j + 2 * k2 + 2 ≤ 104 by omega), (show 286 * j + 22 * k2 + 22 ≤ 1144 by omega)⟩) rfl rfl (by decide) (fun r_76 u_76 H locs h_76 hP hD hS => ?_)
                have hP : va_P D vwCl [[(xc, aI cy 45 (co))], [(xe, aI cy le (ed))], [(xd, aI cy 2 (dd))], [(xi, aI cy 27 (f1))], [(xf, aI cy 8 (g2))], [(am, aI cy 2 (u_76.1))], [(aa, aI cy 64 (u_76.2.1))], [(ab, aI cy 64 (u_76.2.2.1))], [(an, aI cy 64 (u_76.2.2.2))]].flatten H := hP
                have hD : va_D A [[(xc, aI cy 45 (co))], [(xe, aI cy le (ed))], [(xd, aI cy 2 (dd))], [(xi, aI cy 27 (f1))], [(xf, aI cy 8 (g2))], [(am, aI cy 2 (u_76.1))], [(aa, aI cy 64 (u_76.2.1))], [(ab, aI cy 64 (u_76.2.2.1))], [(an, aI cy 64 (u_76.2.2.2))]].flatten := hD
                obtain ⟨rfl, h_76⟩ := h_76
                refine qb_iast (j := ((2 * k2) + 1)) hx hb hK hP hD hS 4 0 rfl rfl (by omega) dL_all_79 (fun H locs hP hD hS => ?_)
                have hP : va_P D vwCl [[(xc, aI cy 45 (co))], [(xe, aI cy le (ed))], [(xd, aI cy 2 (dd))], [(xi, aI cy 27 (f1))], [(xf, aI cy 8 (qu g2 ((2 * k2) + 1) (oMg (fM (loE E (3 - (j : Int)) k2 (loS E ne C nc p0 j S00))) E k2)))], [(am, aI cy 2 (u_76.1))], [(aa, aI cy 64 (u_76.2.1))], [(ab, aI cy 64 (u_76.2.2.1))], [(an, aI cy 64 (u_76.2.2.2))]].flatten H := hP
                have hD : va_D A [[(xc, aI cy 45 (co))], [(xe, aI cy le (ed))], [(xd, aI cy 2 (dd))], [(xi, aI cy 27 (f1))], [(xf, aI cy 8 (qu g2 ((2 * k2) + 1) (oMg (fM (loE E (3 - (j : Int)) k2 (loS E ne C nc p0 j S00))) E k2)))], [(am, aI cy 2 (u_76.1))], [(aa, aI cy 64 (u_76.2.1))], [(ab, aI cy 64 (u_76.2.2.1))], [(an, aI cy 64 (u_76.2.2.2))]].flatten := hD
                refine lv_aload hx hb dL_all_80 (lv_at hl 5 rfl) ?_
                refine q_iconst hx hb dL_all_82 ?_
                refine lv_iload hx hb dL_all_83 (lv_at hl 12 rfl) ?_
                refine q_imul hx hb dL_all_85 ?_
                refine lv_aload hx hb dL_all_86 (lv_at hl 6 rfl) ?_
                refine q_iconst hx hb dL_all_88 ?_
                refine q_iald (j := 1) hx hb hK (fl_blk hP 5 rfl) 0 rfl (by omega) dL_all_89 ?_
                refine qb_iast (j := (2 * k2)) hx hb hK hP hD hS 4 0 rfl rfl (by omega) dL_all_90 (fun H locs hP hD hS => ?_)
                have hP : va_P D vwCl [[(xc, aI cy 45 (co))], [(xe, aI cy le (ed))], [(xd, aI cy 2 (dd))], [(xi, aI cy 27 (f1))], [(xf, aI cy 8 (qu (qu g2 ((2 * k2) + 1) (oMg (fM (loE E (3 - (j : Int)) k2 (loS E ne C nc p0 j S00))) E k2)) (2 * k2) (u_76.1 1)))], [(am, aI cy 2 (u_76.1))], [(aa, aI cy 64 (u_76.2.1))], [(ab, aI cy 64 (u_76.2.2.1))], [(an, aI cy 64 (u_76.2.2.2))]].flatten H := hP
                have hD : va_D A [[(xc, aI cy 45 (co))], [(xe, aI cy le (ed))], [(xd, aI cy 2 (dd))], [(xi, aI cy 27 (f1))], [(xf, aI cy 8 (qu (qu g2 ((2 * k2) + 1) (oMg (fM (loE E (3 - (j : Int)) k2 (loS E ne C nc p0 j S00))) E k2)) (2 * k2) (u_76.1 1)))], [(am, aI cy 2 (u_76.1))], [(aa, aI cy 64 (u_76.2.1))], [(ab, aI cy 64 (u_76.2.2.1))], [(an, aI cy 64 (u_76.2.2.2))]].flatten := hD
                refine q_iinc (k := 10) (lv' := [(10, .int (qI ((t2) + (1)))), (0, .int (qI (p0))), (1, .ref (xc)), (2, .ref (xe)), (3, .ref (xd)), (4, .ref (xi)), (5, .ref (xf)), (6, .ref (am)), (7, .ref (aa)), (8, .ref (ab)), (9, .ref (an)), (11, .int (qI (x3))), (12, .int (qI (((k2 : Nat) : Int))))]) hx hb dL_all_91 hl rfl (by decide) rfl (fun ls hl => ?_)
                refine q_iinc (k := 12) (lv' := [(12, .int (qI ((((k2 : Nat) : Int)) + (1)))), (10, .int (qI ((t2) + (1)))), (0, .int (qI (p0))), (1, .ref (xc)), (2, .ref (xe)), (3, .ref (xd)), (4, .ref (xi)), (5, .ref (xf)), (6, .ref (am)), (7, .ref (aa)), (8, .ref (ab)), (9, .ref (an)), (11, .int (qI (x3)))]) hx hb dL_all_94 hl rfl (by decide) rfl (fun ls hl => ?_)
                refine lv_goto (tgt := 19) hx hb dL_all_97 (by decide) ?_
                refine W.widen (k := 26 * j + 2 * (k2 + 1)) (n := 286 * j + 22 * (k2 + 1)) (by omega) (by omega) ?_
                exact ih_19 (k2 + 1) _ _ _ (by omega) (by omega) (aR_Et hE9 (by omega) h_76) _ _ _ hP hD hS (lv_sub hl [2, 3, 4, 5, 6, 7, 8, 9, 10, 11, 1, 12, 0] rfl)
              · skip
                refine lv_goto (tgt := 94) hx hb dL_all_40 (by decide) ?_
                refine q_iinc (k := 12) (lv' := [(12, .int (qI ((((k2 : Nat) : Int)) + (1)))), (0, .int (qI (p0))), (1, .ref (xc)), (2, .ref (xe)), (3, .ref (xd)), (4, .ref (xi)), (5, .ref (xf)), (6, .ref (am)), (7, .ref (aa)), (8, .ref (ab)), (9, .ref (an)), (10, .int (qI (t2))), (11, .int (qI (x3)))]) hx hb dL_all_94 hl rfl (by decide) rfl (fun ls hl => ?_)
                refine lv_goto (tgt := 19) hx hb dL_all_97 (by decide) ?_
                refine W.widen (k := 26 * j + 2 * (k2 + 1)) (n := 286 * j + 22 * (k2 + 1)) (by omega) (by omega) ?_
                exact ih_19 (k2 + 1) _ _ _ (by omega) (by omega) (aR_Es hE9 (by omega)) _ _ _ hP hD hS (lv_sub hl [1, 2, 3, 4, 5, 6, 7, 8, 9, 10, 11, 12, 0] rfl)
        refine W.widen (k := 26 * j + 2 * 0) (n := 286 * j + 22 * 0) (by omega) (by omega) ?_
        exact L_19 (ne + 1) (0) (t1) (g1) (u1) (by omega) (by omega) hI _ _ _ hP hD hS (lv_sub hl [1, 2, 3, 4, 5, 6, 7, 8, 9, 10, 11, 12, 0] rfl)
  refine W.widen (k := 26 * 0) (n := 286 * 0) (by omega) (by omega) ?_
  exact L_11 (4 + 1) (0) (3) (0) (fi) (fe) ((qu u.1 0 0, u.2.1, u.2.2.1, u.2.2.2)) (by omega) (by omega) (by omega) (aR_0 hC hE (show qu u.1 0 0 0 = 0 from qu_s _ _ _)) _ _ _ hP hD hS (lv_sub hl [2, 3, 4, 5, 6, 7, 8, 9, 10, 11, 1, 0] rfl)
