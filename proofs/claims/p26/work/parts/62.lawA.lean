set_option maxRecDepth 100000 in
set_option maxHeartbeats 4000000 in
theorem c_L_at (l : Launch) (D : va_G) (cy : Nat → ClassId) (p0 p1 : Int) (x9 n9 : Nat) (h0 : p0 = (x9 : Int) ∧ x9 < 2147483648) (h1 : p1 = (n9 : Int) ∧ 0 < n9 ∧ n9 < 2147483648) : qRd l yL_at (.code yL_at cL_at 2 (some .int)) 1 [.int (qI (p0)), .int (qI (p1))] D cy [] (vp_Si (fun v => v = qI ((x9 / 2 % n9 : Nat) : Int))) := by
  refine q_ofRi (by decide +kernel) (Nat.le_of_ble_eq_true rfl) ?_
  intro p e s m args below meth c Q hx hb hml hown hg hQ hK hN hP ls hl
  have hown : s.vm.findClass RL = some m.cls := hown
  have hl : lv_has ls 2 [(0, .int (qI (p0))), (1, .int (qI (p1)))] := hl
  refine lv_iload_n hx hb dL_at_0 rfl (lv_at hl 0 rfl) ?_
  refine q_iconst hx hb dL_at_1 ?_
  refine q_iushr (F := x9) (k := 1) hx hb (by omega) dL_at_2 ?_
  refine lv_iload_n hx hb dL_at_3 rfl (lv_at hl 1 rfl) ?_
  have e9 : x9 / 2 ^ 1 ≤ x9 := Nat.div_le_self _ _
  refine q_irem (F := (x9) / 2 ^ (1)) (k := n9) hx hb (by omega) dL_at_4 ?_
  exact hQ _ _ _ rfl dL_at_5

set_option maxRecDepth 100000 in
set_option maxHeartbeats 4000000 in
theorem c_L_bind (l : Launch) (D : va_G) (cy : Nat → ClassId) (am aa ab an : Nat) (mf ca cb cn : Nat → Int) (n : Nat) (hm : mf 0 = (n : Int) ∧ n < 64) (p0 p1 p2 : Int) (sz : Nat) : qCM l yL_bind (.code yL_bind cL_bind 7 none) 1 0 0 [.int (qI (p0)), .int (qI (p1)), .int (qI (p2)), .ref (am), .ref (aa), .ref (ab), .ref (an)] D cy [[(am, aI cy 2 (mf))], [(aa, aI cy 64 (ca))], [(ab, aI cy 64 (cb))], [(an, aI cy 64 (cn))]] sz (va_Qv (S := Unit) (fun _ => True) (qB D cy [[(am, aI cy 2 (mf))], [(aa, aI cy 64 (ca))], [(ab, aI cy 64 (cb))], [(an, aI cy 64 (cn))]] sz (fun _ => [[(am, aI cy 2 (qu mf 0 ((mf 0) + (1))))], [(aa, aI cy 64 (qu ca n p0))], [(ab, aI cy 64 (qu cb n p1))], [(an, aI cy 64 (qu cn n p2))]])) (va_A [[(am, aI cy 2 (mf))], [(aa, aI cy 64 (ca))], [(ab, aI cy 64 (cb))], [(an, aI cy 64 (cn))]].flatten sz)) := by
  refine q_ofKv (S := Unit) (b1 := fun _ => [[(am, aI cy 2 (qu mf 0 ((mf 0) + (1))))], [(aa, aI cy 64 (qu ca n p0))], [(ab, aI cy 64 (qu cb n p1))], [(an, aI cy 64 (qu cn n p2))]]) (post := fun _ => True) (by decide +kernel) (Nat.le_of_ble_eq_true rfl) ?_
  intro p e s m args below meth c Q A hx hb hml hown hg hQ hK hN hD hA H locs ls hP hS hl
  have hown : s.vm.findClass RL = some m.cls := hown
  have hl : lv_has ls 7 [(0, .int (qI (p0))), (1, .int (qI (p1))), (2, .int (qI (p2))), (3, .ref (am)), (4, .ref (aa)), (5, .ref (ab)), (6, .ref (an))] := hl
  refine lv_aload hx hb dL_bind_0 (lv_at hl 4 rfl) ?_
  refine lv_aload_n hx hb dL_bind_2 rfl (lv_at hl 3 rfl) ?_
  refine q_iconst hx hb dL_bind_3 ?_
  refine q_iald (j := 0) hx hb hK (fl_blk hP 0 rfl) 0 rfl (by omega) dL_bind_4 ?_
  refine lv_iload_n hx hb dL_bind_5 rfl (lv_at hl 0 rfl) ?_
  refine qb_iast (j := n) hx hb hK hP hD hS 1 0 rfl rfl (by omega) dL_bind_6 (fun H locs hP hD hS => ?_)
  have hP : va_P D vwCl [[(am, aI cy 2 (mf))], [(aa, aI cy 64 (qu ca n (p0)))], [(ab, aI cy 64 (cb))], [(an, aI cy 64 (cn))]].flatten H := hP
  have hD : va_D A [[(am, aI cy 2 (mf))], [(aa, aI cy 64 (qu ca n (p0)))], [(ab, aI cy 64 (cb))], [(an, aI cy 64 (cn))]].flatten := hD
  refine lv_aload hx hb dL_bind_7 (lv_at hl 5 rfl) ?_
  refine lv_aload_n hx hb dL_bind_9 rfl (lv_at hl 3 rfl) ?_
  refine q_iconst hx hb dL_bind_10 ?_
  refine q_iald (j := 0) hx hb hK (fl_blk hP 0 rfl) 0 rfl (by omega) dL_bind_11 ?_
  refine lv_iload_n hx hb dL_bind_12 rfl (lv_at hl 1 rfl) ?_
  refine qb_iast (j := n) hx hb hK hP hD hS 2 0 rfl rfl (by omega) dL_bind_13 (fun H locs hP hD hS => ?_)
  have hP : va_P D vwCl [[(am, aI cy 2 (mf))], [(aa, aI cy 64 (qu ca n (p0)))], [(ab, aI cy 64 (qu cb n (p1)))], [(an, aI cy 64 (cn))]].flatten H := hP
  have hD : va_D A [[(am, aI cy 2 (mf))], [(aa, aI cy 64 (qu ca n (p0)))], [(ab, aI cy 64 (qu cb n (p1)))], [(an, aI cy 64 (cn))]].flatten := hD
  refine lv_aload hx hb dL_bind_14 (lv_at hl 6 rfl) ?_
  refine lv_aload_n hx hb dL_bind_16 rfl (lv_at hl 3 rfl) ?_
  refine q_iconst hx hb dL_bind_17 ?_
  refine q_iald (j := 0) hx hb hK (fl_blk hP 0 rfl) 0 rfl (by omega) dL_bind_18 ?_
  refine lv_iload_n hx hb dL_bind_19 rfl (lv_at hl 2 rfl) ?_
  refine qb_iast (j := n) hx hb hK hP hD hS 3 0 rfl rfl (by omega) dL_bind_20 (fun H locs hP hD hS => ?_)
  have hP : va_P D vwCl [[(am, aI cy 2 (mf))], [(aa, aI cy 64 (qu ca n (p0)))], [(ab, aI cy 64 (qu cb n (p1)))], [(an, aI cy 64 (qu cn n (p2)))]].flatten H := hP
  have hD : va_D A [[(am, aI cy 2 (mf))], [(aa, aI cy 64 (qu ca n (p0)))], [(ab, aI cy 64 (qu cb n (p1)))], [(an, aI cy 64 (qu cn n (p2)))]].flatten := hD
  refine lv_aload_n hx hb dL_bind_21 rfl (lv_at hl 3 rfl) ?_
  refine q_iconst hx hb dL_bind_22 ?_
  refine lv_dup2_11 hx hb dL_bind_23 rfl rfl ?_
  refine q_iald (j := 0) hx hb hK (fl_blk hP 0 rfl) 0 rfl (by omega) dL_bind_24 ?_
  refine q_iconst hx hb dL_bind_25 ?_
  refine q_iadd hx hb dL_bind_26 ?_
  refine qb_iast (j := 0) hx hb hK hP hD hS 0 0 rfl rfl (by omega) dL_bind_27 (fun H locs hP hD hS => ?_)
  have hP : va_P D vwCl [[(am, aI cy 2 (qu mf 0 ((mf 0) + (1))))], [(aa, aI cy 64 (qu ca n (p0)))], [(ab, aI cy 64 (qu cb n (p1)))], [(an, aI cy 64 (qu cn n (p2)))]].flatten H := hP
  have hD : va_D A [[(am, aI cy 2 (qu mf 0 ((mf 0) + (1))))], [(aa, aI cy 64 (qu ca n (p0)))], [(ab, aI cy 64 (qu cb n (p1)))], [(an, aI cy 64 (qu cn n (p2)))]].flatten := hD
  exact hQ _ _ _ _ () trivial hP hD hS dL_bind_28

set_option maxRecDepth 100000 in
set_option maxHeartbeats 4000000 in
theorem c_L_most (l : Launch) (D : va_G) (cy : Nat → ClassId) (am aa ab an : Nat) (mf ca cb cn : Nat → Int) (n : Nat) (M : Nat → Nat → Int) (hm : mf 0 = (n : Int) ∧ n ≤ 64) (hR : cR ca cb cn n M) (p0 p1 : Int) (i j : Nat) (h0 : p0 = (i : Int) ∧ i < 11) (h1 : p1 = (j : Int) ∧ j < 11) (sz : Nat) : qCM l yL_most (.code yL_most cL_most 9 (some .int)) 2 1 11 [.int (qI (p0)), .int (qI (p1)), .ref (am), .ref (aa), .ref (ab), .ref (an)] D cy [[(am, aI cy 2 (mf))], [(aa, aI cy 64 (ca))], [(ab, aI cy 64 (cb))], [(an, aI cy 64 (cn))]] sz (va_Qi (S := Unit) (fun r _ => r = qI (M i j)) (qB D cy [[(am, aI cy 2 (mf))], [(aa, aI cy 64 (ca))], [(ab, aI cy 64 (cb))], [(an, aI cy 64 (cn))]] sz (fun _ => [[(am, aI cy 2 (mf))], [(aa, aI cy 64 (ca))], [(ab, aI cy 64 (cb))], [(an, aI cy 64 (cn))]])) (va_A [[(am, aI cy 2 (mf))], [(aa, aI cy 64 (ca))], [(ab, aI cy 64 (cb))], [(an, aI cy 64 (cn))]].flatten sz)) := by
  refine q_ofKi (S := Unit) (b1 := fun _ => [[(am, aI cy 2 (mf))], [(aa, aI cy 64 (ca))], [(ab, aI cy 64 (cb))], [(an, aI cy 64 (cn))]]) (post := fun r _ => r = qI (M i j)) (by decide +kernel) (Nat.le_of_ble_eq_true rfl) ?_
  intro p e s m args below meth c Q A hx hb hml hown hg hQ hK hN hD hA H locs ls hP hS hl
  have hown : s.vm.findClass RL = some m.cls := hown
  have hl : lv_has ls 9 [(0, .int (qI (p0))), (1, .int (qI (p1))), (2, .ref (am)), (3, .ref (aa)), (4, .ref (ab)), (5, .ref (an))] := hl
  have C := hR.1
  have hj9 := h1.2
  refine lv_iload_n hx hb dL_most_0 rfl (lv_at hl 0 rfl) ?_
  refine lv_iload_n hx hb dL_most_1 rfl (lv_at hl 1 rfl) ?_
  refine q_icmp_ne (tgt := 7) hx hb dL_most_2 (by decide) (by omega) (fun c_2 => ?_) (fun c_2 => ?_)
  · skip
    refine q_bipush hx hb dL_most_7 (by decide) ?_
    refine qb_newI (N := 11) hx hb hg hK hP hD hS hA (by omega) (show 0 + 1 ≤ 1 by omega) (show 0 + 11 ≤ 11 by omega) dL_most_9 (fun q_9 H hP hD hS => ?_)
    have hP : va_P D vwCl [[(am, aI cy 2 (mf))], [(aa, aI cy 64 (ca))], [(ab, aI cy 64 (cb))], [(an, aI cy 64 (cn))], [(q_9, aI cy 11 (fun _ => 0))]].flatten H := hP
    have hD : va_D A [[(am, aI cy 2 (mf))], [(aa, aI cy 64 (ca))], [(ab, aI cy 64 (cb))], [(an, aI cy 64 (cn))], [(q_9, aI cy 11 (fun _ => 0))]].flatten := hD
    refine lv_astore (lv' := [(6, .ref (q_9)), (0, .int (qI (p0))), (1, .int (qI (p1))), (2, .ref (am)), (3, .ref (aa)), (4, .ref (ab)), (5, .ref (an))]) hx hb dL_most_11 hl (by decide) rfl (fun ls hl => ?_)
    refine q_iconst hx hb dL_most_13 ?_
    refine lv_istore (lv' := [(7, .int (qI (0))), (6, .ref (q_9)), (0, .int (qI (p0))), (1, .int (qI (p1))), (2, .ref (am)), (3, .ref (aa)), (4, .ref (ab)), (5, .ref (an))]) hx hb dL_most_14 hl (by decide) rfl (fun ls hl => ?_)
    have L_16 : ∀ (n_16 k1 : Nat) (d1 : Nat → Int), k1 ≤ 11 → 11 + 1 ≤ k1 + n_16 → (∀ q, q < k1 → d1 q = tg0 q j) → ∀ (H : Heap) (locs : List Loc) (ls : Array Slot), va_P D vwCl [[(am, aI cy 2 (mf))], [(aa, aI cy 64 (ca))], [(ab, aI cy 64 (cb))], [(an, aI cy 64 (cn))], [(q_9, aI cy 11 (d1))]].flatten H → va_D A [[(am, aI cy 2 (mf))], [(aa, aI cy 64 (ca))], [(ab, aI cy 64 (cb))], [(an, aI cy 64 (cn))], [(q_9, aI cy 11 (d1))]].flatten → va_S A s.heap H locs → lv_has ls 9 [(0, .int (qI (p0))), (1, .int (qI (p1))), (2, .ref (am)), (3, .ref (aa)), (4, .ref (ab)), (5, .ref (an)), (6, .ref (q_9)), (7, .int (qI (((k1 : Nat) : Int))))] → W p l e (qrc 2 1 11) s m args below meth c H locs (1) (11) Q (F0 m 16 ls []) := by
      intro n_16
      induction n_16 with
      | zero => intro k1 _ h1 h2; exact absurd h2 (by omega)
      | succ n_16 ih_16 =>
        intro k1 d1 hk_16 hn_16 hi1 H locs ls hP hD hS hl
        refine lv_iload hx hb dL_most_16 (lv_at hl 7 rfl) ?_
        refine q_bipush hx hb dL_most_18 (by decide) ?_
        refine q_icmp_ge (tgt := 66) hx hb dL_most_20 (by decide) (by omega) (fun c_20 => ?_) (fun c_20 => ?_)
        · skip
          refine q_iconst hx hb dL_most_66 ?_
          refine lv_istore (lv' := [(7, .int (qI (1))), (0, .int (qI (p0))), (1, .int (qI (p1))), (2, .ref (am)), (3, .ref (aa)), (4, .ref (ab)), (5, .ref (an)), (6, .ref (q_9))]) hx hb dL_most_67 hl (by decide) rfl (fun ls hl => ?_)
          have L_69 : ∀ (n_69 kk : Nat) (d2 : Nat → Int) (g2 : Int), kk ≤ 44001 → 44001 + 1 ≤ kk + n_69 → (mW M j ca cb cn n kk d2 g2) → ∀ (H : Heap) (locs : List Loc) (ls : Array Slot), va_P D vwCl [[(am, aI cy 2 (mf))], [(aa, aI cy 64 (ca))], [(ab, aI cy 64 (cb))], [(an, aI cy 64 (cn))], [(q_9, aI cy 11 (d2))]].flatten H → va_D A [[(am, aI cy 2 (mf))], [(aa, aI cy 64 (ca))], [(ab, aI cy 64 (cb))], [(an, aI cy 64 (cn))], [(q_9, aI cy 11 (d2))]].flatten → va_S A s.heap H locs → lv_has ls 9 [(0, .int (qI (p0))), (1, .int (qI (p1))), (2, .ref (am)), (3, .ref (aa)), (4, .ref (ab)), (5, .ref (an)), (6, .ref (q_9)), (7, .int (qI (g2)))] → W p l e (qrc 2 1 11) s m args below meth c H locs (1) (11) Q (F0 m 69 ls []) := by
            intro n_69
            induction n_69 with
            | zero => intro kk _ _ h1 h2; exact absurd h2 (by omega)
            | succ n_69 ih_69 =>
              intro kk d2 g2 hk_69 hn_69 hw H locs ls hP hD hS hl
              have hg2 := hw.2.1
              refine lv_iload hx hb dL_most_69 (lv_at hl 7 rfl) ?_
              refine q_if_eq (tgt := 232) hx hb dL_most_71 (by decide) (by omega) (fun c_71 => ?_) (fun c_71 => ?_)
              · skip
                refine lv_aload hx hb dL_most_232 (lv_at hl 6 rfl) ?_
                refine lv_iload_n hx hb dL_most_234 rfl (lv_at hl 0 rfl) ?_
                refine q_iald (j := i) hx hb hK (fl_blk hP 4 rfl) 0 rfl (by omega) dL_most_235 ?_
                have hP := fl_sub (bs' := [[(am, aI cy 2 (mf))], [(aa, aI cy 64 (ca))], [(ab, aI cy 64 (cb))], [(an, aI cy 64 (cn))]]) hP [0, 1, 2, 3] rfl
                have hD := fl_subD (bs' := [[(am, aI cy 2 (mf))], [(aa, aI cy 64 (ca))], [(ab, aI cy 64 (cb))], [(an, aI cy 64 (cn))]]) hD [0, 1, 2, 3] (by decide) rfl
                exact hQ _ _ _ _ _ () (by rw [mW_end hR hj9 hw c_71 (by omega)]) hP hD hS dL_most_236
              · skip
                refine q_iconst hx hb dL_most_74 ?_
                refine lv_istore (lv' := [(7, .int (qI (0))), (0, .int (qI (p0))), (1, .int (qI (p1))), (2, .ref (am)), (3, .ref (aa)), (4, .ref (ab)), (5, .ref (an)), (6, .ref (q_9))]) hx hb dL_most_75 hl (by decide) rfl (fun ls hl => ?_)
                refine q_iconst hx hb dL_most_77 ?_
                refine lv_istore (lv' := [(8, .int (qI (0))), (7, .int (qI (0))), (0, .int (qI (p0))), (1, .int (qI (p1))), (2, .ref (am)), (3, .ref (aa)), (4, .ref (ab)), (5, .ref (an)), (6, .ref (q_9))]) hx hb dL_most_78 hl (by decide) rfl (fun ls hl => ?_)
                have L_80 : ∀ (n_80 k3 : Nat) (d3 : Nat → Int) (g3 : Int), k3 ≤ n → n + 1 ≤ k3 + n_80 → (mS M j ca cb cn k3 d2 d3 g3) → ∀ (H : Heap) (locs : List Loc) (ls : Array Slot), va_P D vwCl [[(am, aI cy 2 (mf))], [(aa, aI cy 64 (ca))], [(ab, aI cy 64 (cb))], [(an, aI cy 64 (cn))], [(q_9, aI cy 11 (d3))]].flatten H → va_D A [[(am, aI cy 2 (mf))], [(aa, aI cy 64 (ca))], [(ab, aI cy 64 (cb))], [(an, aI cy 64 (cn))], [(q_9, aI cy 11 (d3))]].flatten → va_S A s.heap H locs → lv_has ls 9 [(0, .int (qI (p0))), (1, .int (qI (p1))), (2, .ref (am)), (3, .ref (aa)), (4, .ref (ab)), (5, .ref (an)), (6, .ref (q_9)), (7, .int (qI (g3))), (8, .int (qI (((k3 : Nat) : Int))))] → W p l e (qrc 2 1 11) s m args below meth c H locs (1) (11) Q (F0 m 80 ls []) := by
                  intro n_80
                  induction n_80 with
                  | zero => intro k3 _ _ h1 h2; exact absurd h2 (by omega)
                  | succ n_80 ih_80 =>
                    intro k3 d3 g3 hk_80 hn_80 hs H locs ls hP hD hS hl
                    refine lv_iload hx hb dL_most_80 (lv_at hl 8 rfl) ?_
                    refine lv_aload_n hx hb dL_most_82 rfl (lv_at hl 2 rfl) ?_
                    refine q_iconst hx hb dL_most_83 ?_
                    refine q_iald (j := 0) hx hb hK (fl_blk hP 0 rfl) 0 rfl (by omega) dL_most_84 ?_
                    refine q_icmp_ge (tgt := 145) hx hb dL_most_85 (by decide) (by omega) (fun c_85 => ?_) (fun c_85 => ?_)
                    · skip
                      refine q_iconst hx hb dL_most_145 ?_
                      refine lv_istore (lv' := [(8, .int (qI (0))), (0, .int (qI (p0))), (1, .int (qI (p1))), (2, .ref (am)), (3, .ref (aa)), (4, .ref (ab)), (5, .ref (an)), (6, .ref (q_9)), (7, .int (qI (g3)))]) hx hb dL_most_146 hl (by decide) rfl (fun ls hl => ?_)
                      have L_148 : ∀ (n_148 k4 : Nat) (d4 : Nat → Int) (g4 : Int), k4 ≤ 10 → 10 + 1 ≤ k4 + n_148 → (mT M j ca cb cn n k4 d2 d4 g4) → ∀ (H : Heap) (locs : List Loc) (ls : Array Slot), va_P D vwCl [[(am, aI cy 2 (mf))], [(aa, aI cy 64 (ca))], [(ab, aI cy 64 (cb))], [(an, aI cy 64 (cn))], [(q_9, aI cy 11 (d4))]].flatten H → va_D A [[(am, aI cy 2 (mf))], [(aa, aI cy 64 (ca))], [(ab, aI cy 64 (cb))], [(an, aI cy 64 (cn))], [(q_9, aI cy 11 (d4))]].flatten → va_S A s.heap H locs → lv_has ls 9 [(0, .int (qI (p0))), (1, .int (qI (p1))), (2, .ref (am)), (3, .ref (aa)), (4, .ref (ab)), (5, .ref (an)), (6, .ref (q_9)), (7, .int (qI (g4))), (8, .int (qI (((k4 : Nat) : Int))))] → W p l e (qrc 2 1 11) s m args below meth c H locs (1) (11) Q (F0 m 148 ls []) := by
                        intro n_148
                        induction n_148 with
                        | zero => intro k4 _ _ h1 h2; exact absurd h2 (by omega)
                        | succ n_148 ih_148 =>
                          intro k4 d4 g4 hk_148 hn_148 ht H locs ls hP hD hS hl
                          refine lv_iload hx hb dL_most_148 (lv_at hl 8 rfl) ?_
                          refine q_bipush hx hb dL_most_150 (by decide) ?_
                          refine q_icmp_ge (tgt := 229) hx hb dL_most_152 (by decide) (by omega) (fun c_152 => ?_) (fun c_152 => ?_)
                          · skip
                            refine lv_goto (tgt := 69) hx hb dL_most_229 (by decide) ?_
                            have hw9 := mW_step hw c_71 ht (by omega)
                            have hn9 := mW_n C hj9 hw9
                            exact ih_69 (kk + 1) _ _ (by omega) (by omega) hw9 _ _ _ hP hD hS (lv_sub hl [0, 1, 2, 3, 4, 5, 6, 7] rfl)
                          · skip
                            have r3 := ht.1.1 10 (by omega)
                            have t3 := C.2.2 10 j (by omega) hj9
                            have r4 := ht.1.1 k4 (by omega)
                            have t4 := C.2.2 k4 j (by omega) hj9
                            have K_189 : ∀ (d5 : Nat → Int) (g5 : Int), (mH M j ca cb cn n k4 d2 d5 g5) → ∀ (H : Heap) (locs : List Loc) (ls : Array Slot), va_P D vwCl [[(am, aI cy 2 (mf))], [(aa, aI cy 64 (ca))], [(ab, aI cy 64 (cb))], [(an, aI cy 64 (cn))], [(q_9, aI cy 11 (d5))]].flatten H → va_D A [[(am, aI cy 2 (mf))], [(aa, aI cy 64 (ca))], [(ab, aI cy 64 (cb))], [(an, aI cy 64 (cn))], [(q_9, aI cy 11 (d5))]].flatten → va_S A s.heap H locs → lv_has ls 9 [(7, .int (qI (g5))), (0, .int (qI (p0))), (1, .int (qI (p1))), (2, .ref (am)), (3, .ref (aa)), (4, .ref (ab)), (5, .ref (an)), (6, .ref (q_9)), (8, .int (qI (((k4 : Nat) : Int))))] → W p l e (qrc 2 1 11) s m args below meth c H locs (1) (11) Q (F0 m 189 ls []) := by
                              intro d5 g5 hh H locs ls hP hD hS hl
                              have r5 := hh.1.1.1 10 (by omega)
                              have t5 := C.2.2 10 j (by omega) hj9
                              have r6 := hh.1.1.1 k4 (by omega)
                              have t6 := C.2.2 k4 j (by omega) hj9
                              refine lv_aload hx hb dL_most_189 (lv_at hl 7 rfl) ?_
                              refine lv_iload hx hb dL_most_191 (lv_at hl 8 rfl) ?_
                              refine q_iald (j := k4) hx hb hK (fl_blk hP 4 rfl) 0 rfl (by omega) dL_most_193 ?_
                              refine q_sipush hx hb dL_most_194 (by decide) ?_
                              refine q_iadd hx hb dL_most_197 ?_
                              refine lv_aload hx hb dL_most_198 (lv_at hl 7 rfl) ?_
                              refine q_bipush hx hb dL_most_200 (by decide) ?_
                              refine q_iald (j := 10) hx hb hK (fl_blk hP 4 rfl) 0 rfl (by omega) dL_most_202 ?_
                              refine q_icmp_ge (tgt := 223) hx hb dL_most_203 (by decide) (by omega) (fun c_203 => ?_) (fun c_203 => ?_)
                              · skip
                                refine q_iinc (k := 8) (lv' := [(8, .int (qI ((((k4 : Nat) : Int)) + (1)))), (7, .int (qI (g5))), (0, .int (qI (p0))), (1, .int (qI (p1))), (2, .ref (am)), (3, .ref (aa)), (4, .ref (ab)), (5, .ref (an)), (6, .ref (q_9))]) hx hb dL_most_223 hl rfl (by decide) rfl (fun ls hl => ?_)
                                refine lv_goto (tgt := 148) hx hb dL_most_226 (by decide) ?_
                                exact ih_148 (k4 + 1) _ _ (by omega) (by omega) (mT_skip hh c_203) _ _ _ hP hD hS (lv_sub hl [2, 3, 4, 5, 6, 7, 8, 1, 0] rfl)
                              · skip
                                refine lv_aload hx hb dL_most_206 (lv_at hl 7 rfl) ?_
                                refine q_bipush hx hb dL_most_208 (by decide) ?_
                                refine lv_aload hx hb dL_most_210 (lv_at hl 7 rfl) ?_
                                refine lv_iload hx hb dL_most_212 (lv_at hl 8 rfl) ?_
                                refine q_iald (j := k4) hx hb hK (fl_blk hP 4 rfl) 0 rfl (by omega) dL_most_214 ?_
                                refine q_sipush hx hb dL_most_215 (by decide) ?_
                                refine q_iadd hx hb dL_most_218 ?_
                                refine qb_iast (j := 10) hx hb hK hP hD hS 4 0 rfl rfl (by omega) dL_most_219 (fun H locs hP hD hS => ?_)
                                have hP : va_P D vwCl [[(am, aI cy 2 (mf))], [(aa, aI cy 64 (ca))], [(ab, aI cy 64 (cb))], [(an, aI cy 64 (cn))], [(q_9, aI cy 11 (qu d5 10 ((d5 k4) + (1000))))]].flatten H := hP
                                have hD : va_D A [[(am, aI cy 2 (mf))], [(aa, aI cy 64 (ca))], [(ab, aI cy 64 (cb))], [(an, aI cy 64 (cn))], [(q_9, aI cy 11 (qu d5 10 ((d5 k4) + (1000))))]].flatten := hD
                                refine q_iconst hx hb dL_most_220 ?_
                                refine lv_istore (lv' := [(7, .int (qI (1))), (0, .int (qI (p0))), (1, .int (qI (p1))), (2, .ref (am)), (3, .ref (aa)), (4, .ref (ab)), (5, .ref (an)), (6, .ref (q_9)), (8, .int (qI (((k4 : Nat) : Int))))]) hx hb dL_most_221 hl (by decide) rfl (fun ls hl => ?_)
                                refine q_iinc (k := 8) (lv' := [(8, .int (qI ((((k4 : Nat) : Int)) + (1)))), (7, .int (qI (1))), (0, .int (qI (p0))), (1, .int (qI (p1))), (2, .ref (am)), (3, .ref (aa)), (4, .ref (ab)), (5, .ref (an)), (6, .ref (q_9))]) hx hb dL_most_223 hl rfl (by decide) rfl (fun ls hl => ?_)
                                refine lv_goto (tgt := 148) hx hb dL_most_226 (by decide) ?_
                                exact ih_148 (k4 + 1) _ _ (by omega) (by omega) (mT_take C hj9 hh (by omega) c_203) _ _ _ hP hD hS (lv_sub hl [2, 3, 4, 5, 6, 7, 8, 1, 0] rfl)
                            have r3 := ht.1.1 10 (by omega)
                            have t3 := C.2.2 10 j (by omega) hj9
                            have r4 := ht.1.1 k4 (by omega)
                            have t4 := C.2.2 k4 j (by omega) hj9
                            refine lv_aload hx hb dL_most_155 (lv_at hl 6 rfl) ?_
                            refine q_bipush hx hb dL_most_157 (by decide) ?_
                            refine q_iald (j := 10) hx hb hK (fl_blk hP 4 rfl) 0 rfl (by omega) dL_most_159 ?_
                            refine q_sipush hx hb dL_most_160 (by decide) ?_
                            refine q_iadd hx hb dL_most_163 ?_
                            refine lv_aload hx hb dL_most_164 (lv_at hl 6 rfl) ?_
                            refine lv_iload hx hb dL_most_166 (lv_at hl 8 rfl) ?_
                            refine q_iald (j := k4) hx hb hK (fl_blk hP 4 rfl) 0 rfl (by omega) dL_most_168 ?_
                            refine q_icmp_ge (tgt := 189) hx hb dL_most_169 (by decide) (by omega) (fun c_169 => ?_) (fun c_169 => ?_)
                            · skip
                              exact K_189 _ _ (mH_skip ht c_169) _ _ _ hP hD hS (lv_sub hl [7, 0, 1, 2, 3, 4, 5, 6, 8] rfl)
                            · skip
                              refine lv_aload hx hb dL_most_172 (lv_at hl 6 rfl) ?_
                              refine lv_iload hx hb dL_most_174 (lv_at hl 8 rfl) ?_
                              refine lv_aload hx hb dL_most_176 (lv_at hl 6 rfl) ?_
                              refine q_bipush hx hb dL_most_178 (by decide) ?_
                              refine q_iald (j := 10) hx hb hK (fl_blk hP 4 rfl) 0 rfl (by omega) dL_most_180 ?_
                              refine q_sipush hx hb dL_most_181 (by decide) ?_
                              refine q_iadd hx hb dL_most_184 ?_
                              refine qb_iast (j := k4) hx hb hK hP hD hS 4 0 rfl rfl (by omega) dL_most_185 (fun H locs hP hD hS => ?_)
                              have hP : va_P D vwCl [[(am, aI cy 2 (mf))], [(aa, aI cy 64 (ca))], [(ab, aI cy 64 (cb))], [(an, aI cy 64 (cn))], [(q_9, aI cy 11 (qu d4 k4 ((d4 10) + (1000))))]].flatten H := hP
                              have hD : va_D A [[(am, aI cy 2 (mf))], [(aa, aI cy 64 (ca))], [(ab, aI cy 64 (cb))], [(an, aI cy 64 (cn))], [(q_9, aI cy 11 (qu d4 k4 ((d4 10) + (1000))))]].flatten := hD
                              refine q_iconst hx hb dL_most_186 ?_
                              refine lv_istore (lv' := [(7, .int (qI (1))), (0, .int (qI (p0))), (1, .int (qI (p1))), (2, .ref (am)), (3, .ref (aa)), (4, .ref (ab)), (5, .ref (an)), (6, .ref (q_9)), (8, .int (qI (((k4 : Nat) : Int))))]) hx hb dL_most_187 hl (by decide) rfl (fun ls hl => ?_)
                              exact K_189 _ _ (mH_take C hj9 ht (by omega) c_169) _ _ _ hP hD hS (lv_sub hl [0, 1, 2, 3, 4, 5, 6, 7, 8] rfl)
                      exact L_148 (10 + 1) (0) (d3) (g3) (by omega) (by omega) (mT_0 hs (by omega)) _ _ _ hP hD hS (lv_sub hl [1, 2, 3, 4, 5, 6, 7, 8, 0] rfl)
                    · skip
                      have hq := hR.2.1 k3 (by omega)
                      have r1 := hs.1.1 (cb k3).toNat (by omega)
                      have t1 := C.2.2 (cb k3).toNat j (by omega) hj9
                      have r2 := hs.1.1 (ca k3).toNat (by omega)
                      have t2 := C.2.2 (ca k3).toNat j (by omega) hj9
                      refine lv_aload hx hb dL_most_88 (lv_at hl 6 rfl) ?_
                      refine lv_aload hx hb dL_most_90 (lv_at hl 4 rfl) ?_
                      refine lv_iload hx hb dL_most_92 (lv_at hl 8 rfl) ?_
                      refine q_iald (j := k3) hx hb hK (fl_blk hP 2 rfl) 0 rfl (by omega) dL_most_94 ?_
                      refine q_iald (j := (cb k3).toNat) hx hb hK (fl_blk hP 4 rfl) 0 rfl (by omega) dL_most_95 ?_
                      refine lv_aload hx hb dL_most_96 (lv_at hl 5 rfl) ?_
                      refine lv_iload hx hb dL_most_98 (lv_at hl 8 rfl) ?_
                      refine q_iald (j := k3) hx hb hK (fl_blk hP 3 rfl) 0 rfl (by omega) dL_most_100 ?_
                      refine q_iadd hx hb dL_most_101 ?_
                      refine lv_aload hx hb dL_most_102 (lv_at hl 6 rfl) ?_
                      refine lv_aload_n hx hb dL_most_104 rfl (lv_at hl 3 rfl) ?_
                      refine lv_iload hx hb dL_most_105 (lv_at hl 8 rfl) ?_
                      refine q_iald (j := k3) hx hb hK (fl_blk hP 1 rfl) 0 rfl (by omega) dL_most_107 ?_
                      refine q_iald (j := (ca k3).toNat) hx hb hK (fl_blk hP 4 rfl) 0 rfl (by omega) dL_most_108 ?_
                      refine q_icmp_lt (tgt := 115) hx hb dL_most_109 (by decide) (by omega) (fun c_109 => ?_) (fun c_109 => ?_)
                      · skip
                        refine lv_aload hx hb dL_most_115 (lv_at hl 6 rfl) ?_
                        refine lv_aload_n hx hb dL_most_117 rfl (lv_at hl 3 rfl) ?_
                        refine lv_iload hx hb dL_most_118 (lv_at hl 8 rfl) ?_
                        refine q_iald (j := k3) hx hb hK (fl_blk hP 1 rfl) 0 rfl (by omega) dL_most_120 ?_
                        refine lv_aload hx hb dL_most_121 (lv_at hl 6 rfl) ?_
                        refine lv_aload hx hb dL_most_123 (lv_at hl 4 rfl) ?_
                        refine lv_iload hx hb dL_most_125 (lv_at hl 8 rfl) ?_
                        refine q_iald (j := k3) hx hb hK (fl_blk hP 2 rfl) 0 rfl (by omega) dL_most_127 ?_
                        refine q_iald (j := (cb k3).toNat) hx hb hK (fl_blk hP 4 rfl) 0 rfl (by omega) dL_most_128 ?_
                        refine lv_aload hx hb dL_most_129 (lv_at hl 5 rfl) ?_
                        refine lv_iload hx hb dL_most_131 (lv_at hl 8 rfl) ?_
                        refine q_iald (j := k3) hx hb hK (fl_blk hP 3 rfl) 0 rfl (by omega) dL_most_133 ?_
                        refine q_iadd hx hb dL_most_134 ?_
                        refine qb_iast (j := (ca k3).toNat) hx hb hK hP hD hS 4 0 rfl rfl (by omega) dL_most_135 (fun H locs hP hD hS => ?_)
                        have hP : va_P D vwCl [[(am, aI cy 2 (mf))], [(aa, aI cy 64 (ca))], [(ab, aI cy 64 (cb))], [(an, aI cy 64 (cn))], [(q_9, aI cy 11 (qu d3 ((ca k3).toNat) ((d3 ((cb k3).toNat)) + (cn k3))))]].flatten H := hP
                        have hD : va_D A [[(am, aI cy 2 (mf))], [(aa, aI cy 64 (ca))], [(ab, aI cy 64 (cb))], [(an, aI cy 64 (cn))], [(q_9, aI cy 11 (qu d3 ((ca k3).toNat) ((d3 ((cb k3).toNat)) + (cn k3))))]].flatten := hD
                        refine q_iconst hx hb dL_most_136 ?_
                        refine lv_istore (lv' := [(7, .int (qI (1))), (0, .int (qI (p0))), (1, .int (qI (p1))), (2, .ref (am)), (3, .ref (aa)), (4, .ref (ab)), (5, .ref (an)), (6, .ref (q_9)), (8, .int (qI (((k3 : Nat) : Int))))]) hx hb dL_most_137 hl (by decide) rfl (fun ls hl => ?_)
                        refine q_iinc (k := 8) (lv' := [(8, .int (qI ((((k3 : Nat) : Int)) + (1)))), (7, .int (qI (1))), (0, .int (qI (p0))), (1, .int (qI (p1))), (2, .ref (am)), (3, .ref (aa)), (4, .ref (ab)), (5, .ref (an)), (6, .ref (q_9))]) hx hb dL_most_139 hl rfl (by decide) rfl (fun ls hl => ?_)
                        refine lv_goto (tgt := 80) hx hb dL_most_142 (by decide) ?_
                        exact ih_80 (k3 + 1) _ _ (by omega) (by omega) (mS_take hR hj9 hs (by omega) c_109) _ _ _ hP hD hS (lv_sub hl [2, 3, 4, 5, 6, 7, 8, 1, 0] rfl)
                      · skip
                        refine lv_goto (tgt := 139) hx hb dL_most_112 (by decide) ?_
                        refine q_iinc (k := 8) (lv' := [(8, .int (qI ((((k3 : Nat) : Int)) + (1)))), (0, .int (qI (p0))), (1, .int (qI (p1))), (2, .ref (am)), (3, .ref (aa)), (4, .ref (ab)), (5, .ref (an)), (6, .ref (q_9)), (7, .int (qI (g3)))]) hx hb dL_most_139 hl rfl (by decide) rfl (fun ls hl => ?_)
                        refine lv_goto (tgt := 80) hx hb dL_most_142 (by decide) ?_
                        exact ih_80 (k3 + 1) _ _ (by omega) (by omega) (mS_skip hs c_109) _ _ _ hP hD hS (lv_sub hl [1, 2, 3, 4, 5, 6, 7, 8, 0] rfl)
                exact L_80 (n + 1) (0) (d2) (0) (by omega) (by omega) (mS_0 hw.1) _ _ _ hP hD hS (lv_sub hl [2, 3, 4, 5, 6, 7, 8, 1, 0] rfl)
          exact L_69 (44001 + 1) (0) (d1) (1) (by omega) (by omega) (mW_0 C hj9 (mI_init C hj9 (fun q hq => hi1 q (by omega)))) _ _ _ hP hD hS (lv_sub hl [1, 2, 3, 4, 5, 6, 7, 0] rfl)
        · skip
          refine lv_aload hx hb dL_most_23 (lv_at hl 6 rfl) ?_
          refine lv_iload hx hb dL_most_25 (lv_at hl 7 rfl) ?_
          have K_59 : ∀ (v : Int), (v = tg0 k1 j) → W p l e (qrc 2 1 11) s m args below meth c H locs (1) (11) Q (F0 m 59 ls [.int (qI (v)), .int (qI (((k1 : Nat) : Int))), .ref (q_9)]) := by
            intro v hv
            refine qb_iast (j := k1) hx hb hK hP hD hS 4 0 rfl rfl (by omega) dL_most_59 (fun H locs hP hD hS => ?_)
            have hP : va_P D vwCl [[(am, aI cy 2 (mf))], [(aa, aI cy 64 (ca))], [(ab, aI cy 64 (cb))], [(an, aI cy 64 (cn))], [(q_9, aI cy 11 (qu d1 k1 (v)))]].flatten H := hP
            have hD : va_D A [[(am, aI cy 2 (mf))], [(aa, aI cy 64 (ca))], [(ab, aI cy 64 (cb))], [(an, aI cy 64 (cn))], [(q_9, aI cy 11 (qu d1 k1 (v)))]].flatten := hD
            refine q_iinc (k := 7) (lv' := [(7, .int (qI ((((k1 : Nat) : Int)) + (1)))), (0, .int (qI (p0))), (1, .int (qI (p1))), (2, .ref (am)), (3, .ref (aa)), (4, .ref (ab)), (5, .ref (an)), (6, .ref (q_9))]) hx hb dL_most_60 hl rfl (by decide) rfl (fun ls hl => ?_)
            refine lv_goto (tgt := 16) hx hb dL_most_63 (by decide) ?_
            exact ih_16 (k1 + 1) _ (by omega) (by omega) (fun q hq => if e : q = k1 then (by rw [e, qu_s]; exact hv) else (by rw [qu_n _ _ e]; exact hi1 q (by omega))) _ _ _ hP hD hS (lv_sub hl [1, 2, 3, 4, 5, 6, 7, 0] rfl)
          refine lv_iload hx hb dL_most_27 (lv_at hl 7 rfl) ?_
          refine lv_iload_n hx hb dL_most_29 rfl (lv_at hl 1 rfl) ?_
          refine q_icmp_ne (tgt := 37) hx hb dL_most_30 (by decide) (by omega) (fun c_30 => ?_) (fun c_30 => ?_)
          · skip
            refine lv_iload hx hb dL_most_37 (lv_at hl 7 rfl) ?_
            refine q_bipush hx hb dL_most_39 (by decide) ?_
            refine q_icmp_eq (tgt := 50) hx hb dL_most_41 (by decide) (by omega) (fun c_41 => ?_) (fun c_41 => ?_)
            · skip
              refine q_sipush hx hb dL_most_50 (by decide) ?_
              refine lv_goto (tgt := 59) hx hb dL_most_53 (by decide) ?_
              exact K_59 1000 (by unfold tg0; rw [if_neg (by omega), if_pos (by omega)])
            · skip
              refine lv_iload_n hx hb dL_most_44 rfl (lv_at hl 1 rfl) ?_
              refine q_bipush hx hb dL_most_45 (by decide) ?_
              refine q_icmp_ne (tgt := 56) hx hb dL_most_47 (by decide) (by omega) (fun c_47 => ?_) (fun c_47 => ?_)
              · skip
                refine q_sipush hx hb dL_most_56 (by decide) ?_
                exact K_59 2000 (by unfold tg0; rw [if_neg (by omega), if_neg (by omega)])
              · skip
                refine q_sipush hx hb dL_most_50 (by decide) ?_
                refine lv_goto (tgt := 59) hx hb dL_most_53 (by decide) ?_
                exact K_59 1000 (by unfold tg0; rw [if_neg (by omega), if_pos (by omega)])
          · skip
            refine q_iconst hx hb dL_most_33 ?_
            refine lv_goto (tgt := 59) hx hb dL_most_34 (by decide) ?_
            exact K_59 0 (by rw [show k1 = j by omega]; exact (if_pos rfl).symm)
    exact L_16 (11 + 1) (0) _ (by omega) (by omega) (fun q hq => absurd hq (Nat.not_lt_zero q)) _ _ _ hP hD hS (lv_sub hl [2, 3, 4, 5, 6, 7, 1, 0] rfl)
  · skip
    refine q_iconst hx hb dL_most_5 ?_
    refine W.widen (k := 1) (n := 11) (by omega) (by omega) ?_
    exact hQ _ _ _ _ _ () (by rw [show i = j by omega, C.2.1 j hj9]) hP hD hS dL_most_6
