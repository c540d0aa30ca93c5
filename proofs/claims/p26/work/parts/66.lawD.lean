/-! ===== the law: settle, lay, other, holds ===== -/
theorem lay_new {E : Nat → Nat → Int} {ne : Nat} {ed : Nat → Int} {x w s : Int} (h : rE E ne ed) (e : edOf E x ne = -1) : rE (wfE E ne x w s) (wfN E ne x) (qu (qu (qu ed (3 * ne) x) (3 * ne + 1) w) (3 * ne + 2) s) := by
  have e1 : wfN E ne x = ne + 1 := by unfold wfN; rw [if_pos e]
  have e2 : ∀ f i, wfE E ne x w s f i = if i = ne then row5 x (-1) 1 w s f else E f i := fun f i => by unfold wfE; rw [if_pos e]
  intro k hk
  rw [e1] at hk
  simp only [e2]
  by_cases g : k = ne
  · simp only [if_pos g]
    rw [g, qu_s, qu_n _ _ (show 3 * ne ≠ 3 * ne + 2 by omega), qu_n _ _ (show 3 * ne ≠ 3 * ne + 1 by omega), qu_s, qu_n _ _ (show 3 * ne + 1 ≠ 3 * ne + 2 by omega), qu_s]
    exact ⟨⟨rfl, rfl, rfl⟩, rfl, rfl⟩
  · simp only [if_neg g]
    have q := h k (by omega)
    rw [qu_n _ _ (show 3 * k ≠ 3 * ne + 2 by omega), qu_n _ _ (show 3 * k ≠ 3 * ne + 1 by omega), qu_n _ _ (show 3 * k ≠ 3 * ne by omega), qu_n _ _ (show 3 * k + 1 ≠ 3 * ne + 2 by omega), qu_n _ _ (show 3 * k + 1 ≠ 3 * ne + 1 by omega), qu_n _ _ (show 3 * k + 1 ≠ 3 * ne by omega), qu_n _ _ (show 3 * k + 2 ≠ 3 * ne + 2 by omega), qu_n _ _ (show 3 * k + 2 ≠ 3 * ne + 1 by omega), qu_n _ _ (show 3 * k + 2 ≠ 3 * ne by omega)]
    exact q
theorem lay_old {E : Nat → Nat → Int} {ne j : Nat} {ed : Nat → Int} {x w s : Int} (h : rE E ne ed) (hj : j < ne) (e : edOf E x ne = (j : Int)) (hx : E 0 j = x) : rE (wfE E ne x w s) (wfN E ne x) (qu (qu (qu ed (3 * j) x) (3 * j + 1) w) (3 * j + 2) s) := by
  have e0 : edOf E x ne ≠ -1 := by rw [e]; omega
  have e1 : wfN E ne x = ne := by unfold wfN; rw [if_neg e0]
  have e2 : ∀ f i, wfE E ne x w s f i = if i = j then (if f = 3 then w else if f = 4 then s else E f i) else E f i := fun f i => by
    unfold wfE
    rw [if_neg e0, e, Int.toNat_natCast]
  intro k hk
  rw [e1] at hk
  simp only [e2]
  have q := h k hk
  by_cases g : k = j
  · simp only [if_pos g]
    rw [g] at q ⊢
    rw [qu_s, qu_n _ _ (show 3 * j ≠ 3 * j + 2 by omega), qu_n _ _ (show 3 * j ≠ 3 * j + 1 by omega), qu_s, qu_n _ _ (show 3 * j + 1 ≠ 3 * j + 2 by omega), qu_s]
    exact ⟨⟨hx.symm, rfl, rfl⟩, q.2.1, q.2.2⟩
  · simp only [if_neg g]
    rw [qu_n _ _ (show 3 * k ≠ 3 * j + 2 by omega), qu_n _ _ (show 3 * k ≠ 3 * j + 1 by omega), qu_n _ _ (show 3 * k ≠ 3 * j by omega), qu_n _ _ (show 3 * k + 1 ≠ 3 * j + 2 by omega), qu_n _ _ (show 3 * k + 1 ≠ 3 * j + 1 by omega), qu_n _ _ (show 3 * k + 1 ≠ 3 * j by omega), qu_n _ _ (show 3 * k + 2 ≠ 3 * j + 2 by omega), qu_n _ _ (show 3 * k + 2 ≠ 3 * j + 1 by omega), qu_n _ _ (show 3 * k + 2 ≠ 3 * j by omega)]
    exact q

set_option maxRecDepth 100000 in
set_option maxHeartbeats 4000000 in
theorem c_L_settle (l : Launch) (D : va_G) (cy : Nat → ClassId) (xv xc xe xd am aa ab an : Nat) (va co ed dd : Nat → Int) (u : L4) (C : Nat → Nat → Int) (nc : Nat) (E : Nat → Nat → Int) (ne : Nat) (hC : qWR C nc) (hE : qWR E ne) (hc : nc ≤ 9) (he : ne ≤ 4) (hco : rC C nc co) (hed : rE E ne ed) (hdd : dd 0 = (nc : Int) ∧ dd 1 = (ne : Int)) (le : Nat) (hle : 3 * ne ≤ le ∧ le ≤ 12) (v st : Nat → Int) (hv : ∀ i, i < 10 → va i = v i) (hs : ∀ i, i < 10 → va (10 + i) = st i) (hV : qV v) (hst : ∀ i, i < 10 → 0 ≤ st i ∧ st i ≤ 9) (sz : Nat) : qCM l yL_settle (.code yL_settle cL_settle 14 none) 6 306 3379 [.ref (xv), .ref (xc), .ref (xe), .ref (xd), .ref (am), .ref (aa), .ref (ab), .ref (an)] D cy [[(xv, aI cy 20 (va))], [(xc, aI cy 45 (co))], [(xe, aI cy le (ed))], [(xd, aI cy 2 (dd))], [(am, aI cy 2 (u.1))], [(aa, aI cy 64 (u.2.1))], [(ab, aI cy 64 (u.2.2.1))], [(an, aI cy 64 (u.2.2.2))]] sz (va_Qv (S := (Nat → Int) × L4) (fun z => (∀ i, i < 10 → z.1 i = setv v st C nc E ne i) ∧ ∀ i, i < 10 → z.1 (10 + i) = st i) (qB D cy [[(xv, aI cy 20 (va))], [(xc, aI cy 45 (co))], [(xe, aI cy le (ed))], [(xd, aI cy 2 (dd))], [(am, aI cy 2 (u.1))], [(aa, aI cy 64 (u.2.1))], [(ab, aI cy 64 (u.2.2.1))], [(an, aI cy 64 (u.2.2.2))]] sz (fun z => [[(xv, aI cy 20 (z.1))], [(xc, aI cy 45 (co))], [(xe, aI cy le (ed))], [(xd, aI cy 2 (dd))], [(am, aI cy 2 (z.2.1))], [(aa, aI cy 64 (z.2.2.1))], [(ab, aI cy 64 (z.2.2.2.1))], [(an, aI cy 64 (z.2.2.2.2))]])) (va_A [[(xv, aI cy 20 (va))], [(xc, aI cy 45 (co))], [(xe, aI cy le (ed))], [(xd, aI cy 2 (dd))], [(am, aI cy 2 (u.1))], [(aa, aI cy 64 (u.2.1))], [(ab, aI cy 64 (u.2.2.1))], [(an, aI cy 64 (u.2.2.2))]].flatten sz)) := by
  refine q_ofKv (S := (Nat → Int) × L4) (b1 := fun z => [[(xv, aI cy 20 (z.1))], [(xc, aI cy 45 (co))], [(xe, aI cy le (ed))], [(xd, aI cy 2 (dd))], [(am, aI cy 2 (z.2.1))], [(aa, aI cy 64 (z.2.2.1))], [(ab, aI cy 64 (z.2.2.2.1))], [(an, aI cy 64 (z.2.2.2.2))]]) (post := fun z => (∀ i, i < 10 → z.1 i = setv v st C nc E ne i) ∧ ∀ i, i < 10 → z.1 (10 + i) = st i) (by decide +kernel) (Nat.le_of_ble_eq_true rfl) ?_
  intro p e s m args below meth c Q A hx hb hml hown hg hQ hK hN hD hA H locs ls hP hS hl
  have hown : s.vm.findClass RL = some m.cls := hown
  have hl : lv_has ls 14 [(0, .ref (xv)), (1, .ref (xc)), (2, .ref (xe)), (3, .ref (xd)), (4, .ref (am)), (5, .ref (aa)), (6, .ref (ab)), (7, .ref (an))] := hl
  refine q_bipush hx hb dL_settle_0 (by decide) ?_
  refine qb_newI (N := 27) hx hb hg hK hP hD hS hA (by omega) (show 0 + 1 ≤ 306 by omega) (show 0 + 27 ≤ 3379 by omega) dL_settle_2 (fun q_2 H hP hD hS => ?_)
  have hP : va_P D vwCl [[(xv, aI cy 20 (va))], [(xc, aI cy 45 (co))], [(xe, aI cy le (ed))], [(xd, aI cy 2 (dd))], [(am, aI cy 2 (u.1))], [(aa, aI cy 64 (u.2.1))], [(ab, aI cy 64 (u.2.2.1))], [(an, aI cy 64 (u.2.2.2))], [(q_2, aI cy 27 (fun _ => 0))]].flatten H := hP
  have hD : va_D A [[(xv, aI cy 20 (va))], [(xc, aI cy 45 (co))], [(xe, aI cy le (ed))], [(xd, aI cy 2 (dd))], [(am, aI cy 2 (u.1))], [(aa, aI cy 64 (u.2.1))], [(ab, aI cy 64 (u.2.2.1))], [(an, aI cy 64 (u.2.2.2))], [(q_2, aI cy 27 (fun _ => 0))]].flatten := hD
  refine lv_astore (lv' := [(8, .ref (q_2)), (0, .ref (xv)), (1, .ref (xc)), (2, .ref (xe)), (3, .ref (xd)), (4, .ref (am)), (5, .ref (aa)), (6, .ref (ab)), (7, .ref (an))]) hx hb dL_settle_4 hl (by decide) rfl (fun ls hl => ?_)
  refine q_bipush hx hb dL_settle_6 (by decide) ?_
  refine qb_newI (N := 8) hx hb hg hK hP hD hS hA (by omega) (show 1 + 1 ≤ 306 by omega) (show 27 + 8 ≤ 3379 by omega) dL_settle_8 (fun q_8 H hP hD hS => ?_)
  have hP : va_P D vwCl [[(xv, aI cy 20 (va))], [(xc, aI cy 45 (co))], [(xe, aI cy le (ed))], [(xd, aI cy 2 (dd))], [(am, aI cy 2 (u.1))], [(aa, aI cy 64 (u.2.1))], [(ab, aI cy 64 (u.2.2.1))], [(an, aI cy 64 (u.2.2.2))], [(q_2, aI cy 27 (fun _ => 0))], [(q_8, aI cy 8 (fun _ => 0))]].flatten H := hP
  have hD : va_D A [[(xv, aI cy 20 (va))], [(xc, aI cy 45 (co))], [(xe, aI cy le (ed))], [(xd, aI cy 2 (dd))], [(am, aI cy 2 (u.1))], [(aa, aI cy 64 (u.2.1))], [(ab, aI cy 64 (u.2.2.1))], [(an, aI cy 64 (u.2.2.2))], [(q_2, aI cy 27 (fun _ => 0))], [(q_8, aI cy 8 (fun _ => 0))]].flatten := hD
  refine lv_astore (lv' := [(9, .ref (q_8)), (8, .ref (q_2)), (0, .ref (xv)), (1, .ref (xc)), (2, .ref (xe)), (3, .ref (xd)), (4, .ref (am)), (5, .ref (aa)), (6, .ref (ab)), (7, .ref (an))]) hx hb dL_settle_10 hl (by decide) rfl (fun ls hl => ?_)
  refine q_iconst hx hb dL_settle_12 ?_
  refine lv_aload_n hx hb dL_settle_13 rfl (lv_at hl 3 rfl) ?_
  refine lv_aload_n hx hb dL_settle_14 rfl (lv_at hl 4 rfl) ?_
  refine lv_aload_n hx hb dL_settle_15 rfl (lv_at hl 5 rfl) ?_
  refine lv_aload hx hb dL_settle_16 (lv_at hl 1 rfl) ?_
  refine lv_aload hx hb dL_settle_18 (lv_at hl 0 rfl) ?_
  refine lv_aload hx hb dL_settle_20 (lv_at hl 6 rfl) ?_
  refine lv_aload hx hb dL_settle_22 (lv_at hl 7 rfl) ?_
  refine lv_aload hx hb dL_settle_24 (lv_at hl 8 rfl) ?_
  refine lv_aload hx hb dL_settle_26 (lv_at hl 9 rfl) ?_
  refine q_backKv (mc := 104) (ms := 1144) [1, 2, 3, 8, 9, 4, 5, 6, 7] [0] (br := [[(xv, aI cy 20 (va))]]) hP hD hS hA (va_runS (As := [.int (qI (-1)), .ref (xc), .ref (xe), .ref (xd), .ref (q_2), .ref (q_8), .ref (am), .ref (aa), .ref (ab), .ref (an)]) (rest := []) ⟨hx, hb, hml, hown, hg⟩ (c_L_all l D cy xc xe xd q_2 q_8 am aa ab an co ed dd (fun _ => 0) (fun _ => 0) u C nc E ne hC hE hc he hco hed hdd le hle (-1) (by omega) _) (cs_L_22 hg rfl rfl ⟨(Nat.le_of_ble_eq_true rfl), (Nat.le_of_ble_eq_true rfl)⟩) ⟨q_blind, q_preM _ hK hN hP hD [1, 2, 3, 8, 9, 4, 5, 6, 7] (by decide) rfl⟩ rfl rfl hl.1 rfl (lv_room (Nat.le_of_ble_eq_true rfl)) dL_settle_28 ⟨(show 2 + 104 ≤ 306 by omega), (show 35 + 1144 ≤ 3379 by omega)⟩) rfl rfl (by decide) (fun u_28 H locs h_28 hP hD hS => ?_)
  have hP : va_P D vwCl [[(xv, aI cy 20 (va))], [(xc, aI cy 45 (co))], [(xe, aI cy le (ed))], [(xd, aI cy 2 (dd))], [(q_2, aI cy 27 (u_28.1))], [(q_8, aI cy 8 (u_28.2.1))], [(am, aI cy 2 (u_28.2.2.1))], [(aa, aI cy 64 (u_28.2.2.2.1))], [(ab, aI cy 64 (u_28.2.2.2.2.1))], [(an, aI cy 64 (u_28.2.2.2.2.2))]].flatten H := hP
  have hD : va_D A [[(xv, aI cy 20 (va))], [(xc, aI cy 45 (co))], [(xe, aI cy le (ed))], [(xd, aI cy 2 (dd))], [(q_2, aI cy 27 (u_28.1))], [(q_8, aI cy 8 (u_28.2.1))], [(am, aI cy 2 (u_28.2.2.1))], [(aa, aI cy 64 (u_28.2.2.2.1))], [(ab, aI cy 64 (u_28.2.2.2.2.1))], [(an, aI cy 64 (u_28.2.2.2.2.2))]].flatten := hD
  refine q_bipush hx hb dL_settle_31 (by decide) ?_
  refine lv_istore (lv' := [(10, .int (qI (9))), (9, .ref (q_8)), (8, .ref (q_2)), (0, .ref (xv)), (1, .ref (xc)), (2, .ref (xe)), (3, .ref (xd)), (4, .ref (am)), (5, .ref (aa)), (6, .ref (ab)), (7, .ref (an))]) hx hb dL_settle_33 hl (by decide) rfl (fun ls hl => ?_)
  have L_35 : ∀ (n_35 j : Nat) (x3 : Int) (w1 : Nat → Int) (u1 : L4), j ≤ 10 → 10 + 1 ≤ j + n_35 → (x3 = 9 - (j : Int)) → (sR st (seS st j (v, fM (fil C nc E ne (-1)))) w1 u1 (26 + 2 * cnt (stg st j) 10)) → ∀ (H : Heap) (locs : List Loc) (ls : Array Slot), va_P D vwCl [[(xv, aI cy 20 (w1))], [(xc, aI cy 45 (co))], [(xe, aI cy le (ed))], [(xd, aI cy 2 (dd))], [(am, aI cy 2 (u1.1))], [(aa, aI cy 64 (u1.2.1))], [(ab, aI cy 64 (u1.2.2.1))], [(an, aI cy 64 (u1.2.2.2))], [(q_2, aI cy 27 (u_28.1))], [(q_8, aI cy 8 (u_28.2.1))]].flatten H → va_D A [[(xv, aI cy 20 (w1))], [(xc, aI cy 45 (co))], [(xe, aI cy le (ed))], [(xd, aI cy 2 (dd))], [(am, aI cy 2 (u1.1))], [(aa, aI cy 64 (u1.2.1))], [(ab, aI cy 64 (u1.2.2.1))], [(an, aI cy 64 (u1.2.2.2))], [(q_2, aI cy 27 (u_28.1))], [(q_8, aI cy 8 (u_28.2.1))]].flatten → va_S A s.heap H locs → lv_has ls 14 [(0, .ref (xv)), (1, .ref (xc)), (2, .ref (xe)), (3, .ref (xd)), (4, .ref (am)), (5, .ref (aa)), (6, .ref (ab)), (7, .ref (an)), (8, .ref (q_2)), (9, .ref (q_8)), (10, .int (qI (x3)))] → W p l e (qrc 6 306 3379) s m args below meth c H locs (106 + 20 * j) (1179 + 220 * j) Q (F0 m 35 ls []) := by
    intro n_35
    induction n_35 with
    | zero => intro j _ _ _ h1 h2; exact absurd h2 (by omega)
    | succ n_35 ih_35 =>
      intro j x3 w1 u1 hk_35 hn_35 hx3 hI H locs ls hP hD hS hl
      have cl9 := (fil_ok (but := -1) hE hC (Nat.le_trans he (by decide)) (Nat.le_trans hc (by decide))).1
      refine lv_iload hx hb dL_settle_35 (lv_at hl 10 rfl) ?_
      refine q_if_lt (tgt := 187) hx hb dL_settle_37 (by decide) (by omega) (fun c_37 => ?_) (fun c_37 => ?_)
      · skip
        have hP := fl_sub (bs' := [[(xv, aI cy 20 (w1))], [(xc, aI cy 45 (co))], [(xe, aI cy le (ed))], [(xd, aI cy 2 (dd))], [(am, aI cy 2 (u1.1))], [(aa, aI cy 64 (u1.2.1))], [(ab, aI cy 64 (u1.2.2.1))], [(an, aI cy 64 (u1.2.2.2))]]) hP [0, 1, 2, 3, 4, 5, 6, 7] rfl
        have hD := fl_subD (bs' := [[(xv, aI cy 20 (w1))], [(xc, aI cy 45 (co))], [(xe, aI cy le (ed))], [(xd, aI cy 2 (dd))], [(am, aI cy 2 (u1.1))], [(aa, aI cy 64 (u1.2.1))], [(ab, aI cy 64 (u1.2.2.1))], [(an, aI cy 64 (u1.2.2.2))]]) hD [0, 1, 2, 3, 4, 5, 6, 7] (by decide) rfl
        refine W.widen (k := 306) (n := 3379) (by omega) (by omega) ?_
        exact hQ _ _ _ _ (w1, u1) (by have e : j = 10 := (by omega); rw [e] at hI; exact ⟨hI.1, hI.2.1⟩) hP hD hS dL_settle_187
      · skip
        refine q_iconst hx hb dL_settle_40 ?_
        refine lv_istore (lv' := [(11, .int (qI (0))), (0, .ref (xv)), (1, .ref (xc)), (2, .ref (xe)), (3, .ref (xd)), (4, .ref (am)), (5, .ref (aa)), (6, .ref (ab)), (7, .ref (an)), (8, .ref (q_2)), (9, .ref (q_8)), (10, .int (qI (x3)))]) hx hb dL_settle_41 hl (by decide) rfl (fun ls hl => ?_)
        have L_43 : ∀ (n_43 k : Nat) (w2 : Nat → Int) (u2 : L4), k ≤ 10 → 10 + 1 ≤ k + n_43 → (sR st (seL st (9 - (j : Int)) k (seS st j (v, fM (fil C nc E ne (-1))))) w2 u2 (26 + 2 * (cnt (stg st j) 10 + cnt (ste st j) k))) → ∀ (H : Heap) (locs : List Loc) (ls : Array Slot), va_P D vwCl [[(xv, aI cy 20 (w2))], [(xc, aI cy 45 (co))], [(xe, aI cy le (ed))], [(xd, aI cy 2 (dd))], [(am, aI cy 2 (u2.1))], [(aa, aI cy 64 (u2.2.1))], [(ab, aI cy 64 (u2.2.2.1))], [(an, aI cy 64 (u2.2.2.2))], [(q_2, aI cy 27 (u_28.1))], [(q_8, aI cy 8 (u_28.2.1))]].flatten H → va_D A [[(xv, aI cy 20 (w2))], [(xc, aI cy 45 (co))], [(xe, aI cy le (ed))], [(xd, aI cy 2 (dd))], [(am, aI cy 2 (u2.1))], [(aa, aI cy 64 (u2.2.1))], [(ab, aI cy 64 (u2.2.2.1))], [(an, aI cy 64 (u2.2.2.2))], [(q_2, aI cy 27 (u_28.1))], [(q_8, aI cy 8 (u_28.2.1))]].flatten → va_S A s.heap H locs → lv_has ls 14 [(0, .ref (xv)), (1, .ref (xc)), (2, .ref (xe)), (3, .ref (xd)), (4, .ref (am)), (5, .ref (aa)), (6, .ref (ab)), (7, .ref (an)), (8, .ref (q_2)), (9, .ref (q_8)), (10, .int (qI (x3))), (11, .int (qI (((k : Nat) : Int))))] → W p l e (qrc 6 306 3379) s m args below meth c H locs (106 + 20 * j + 2 * k) (1179 + 220 * j + 22 * k) Q (F0 m 43 ls []) := by
          intro n_43
          induction n_43 with
          | zero => intro k _ _ h1 h2; exact absurd h2 (by omega)
          | succ n_43 ih_43 =>
            intro k w2 u2 hk_43 hn_43 hK9 H locs ls hP hD hS hl
            refine lv_iload hx hb dL_settle_43 (lv_at hl 11 rfl) ?_
            refine q_bipush hx hb dL_settle_45 (by decide) ?_
            refine q_icmp_ge (tgt := 181) hx hb dL_settle_47 (by decide) (by omega) (fun c_47 => ?_) (fun c_47 => ?_)
            · skip
              refine q_iinc (k := 10) (lv' := [(10, .int (qI ((x3) + (-1)))), (0, .ref (xv)), (1, .ref (xc)), (2, .ref (xe)), (3, .ref (xd)), (4, .ref (am)), (5, .ref (aa)), (6, .ref (ab)), (7, .ref (an)), (8, .ref (q_2)), (9, .ref (q_8)), (11, .int (qI (((k : Nat) : Int))))]) hx hb dL_settle_181 hl rfl (by decide) rfl (fun ls hl => ?_)
              refine lv_goto (tgt := 35) hx hb dL_settle_184 (by decide) ?_
              refine W.widen (k := 106 + 20 * (j + 1)) (n := 1179 + 220 * (j + 1)) (by omega) (by omega) ?_
              exact ih_35 (j + 1) _ _ _ (by omega) (by omega) (by omega) (sR_next (by have e : k = 10 := (by omega); rw [e] at hK9; exact hK9)) _ _ _ hP hD hS (lv_sub hl [1, 2, 3, 4, 5, 6, 7, 8, 9, 10, 0] rfl)
            · skip
              have hsk0 := hK9.2.1 k (by omega)
              have hst0 := hst k (by omega)
              refine lv_aload_n hx hb dL_settle_50 rfl (lv_at hl 0 rfl) ?_
              refine q_bipush hx hb dL_settle_51 (by decide) ?_
              refine lv_iload hx hb dL_settle_53 (lv_at hl 11 rfl) ?_
              refine q_iadd hx hb dL_settle_55 ?_
              refine q_iald (j := (10 + k)) hx hb hK (fl_blk hP 0 rfl) 0 rfl (by omega) dL_settle_56 ?_
              refine lv_iload hx hb dL_settle_57 (lv_at hl 10 rfl) ?_
              refine q_icmp_eq (tgt := 65) hx hb dL_settle_59 (by decide) (by omega) (fun c_59 => ?_) (fun c_59 => ?_)
              · skip
                have hsk : st k = 9 - (j : Int) := by omega
                obtain ⟨n, hn1, hn2, hR⟩ := hK9.2.2
                have hso := seL_ok (st := st) (v := 9 - (j : Int)) (seS_ok (st := st) (S := (v, fM (fil C nc E ne (-1)))) ⟨cl9, hV⟩ j) k (by omega)
                have hst9 := stg_lim (st := st) (j := j) (k := k) (by omega) hsk
                have C9 := hR.1
                have b1 := C9.2.2 k 10 (by omega) (by decide)
                have b2 := C9.2.2 10 k (by decide) (by omega)
                have b3 := C9.1 k k 10 (by omega) (by omega) (by decide)
                have b4 := C9.2.1 k (by omega)
                have b5 := hso.2 k (by omega)
                have b6 := hK9.1 k (by omega)
                refine lv_iload hx hb dL_settle_65 (lv_at hl 11 rfl) ?_
                refine q_bipush hx hb dL_settle_67 (by decide) ?_
                refine lv_aload hx hb dL_settle_69 (lv_at hl 4 rfl) ?_
                refine lv_aload hx hb dL_settle_71 (lv_at hl 5 rfl) ?_
                refine lv_aload hx hb dL_settle_73 (lv_at hl 6 rfl) ?_
                refine lv_aload hx hb dL_settle_75 (lv_at hl 7 rfl) ?_
                refine q_backKi (mc := 1) (ms := 11) [4, 5, 6, 7] [0, 1, 2, 3, 8, 9] (br := [[(xv, aI cy 20 (w2))], [(xc, aI cy 45 (co))], [(xe, aI cy le (ed))], [(xd, aI cy 2 (dd))], [(q_2, aI cy 27 (u_28.1))], [(q_8, aI cy 8 (u_28.2.1))]]) hP hD hS hA (va_runS (As := [.int (qI (((k : Nat) : Int))), .int (qI (10)), .ref (am), .ref (aa), .ref (ab), .ref (an)]) (rest := []) ⟨hx, hb, hml, hown, hg⟩ (c_L_most l D cy am aa ab an u2.1 u2.2.1 u2.2.2.1 u2.2.2.2 n (seL st (9 - (j : Int)) k (seS st j (v, fM (fil C nc E ne (-1))))).2 ⟨hn1, by omega⟩ hR _ _ k 10 (by omega) (by omega) _) (cs_L_8 hg rfl rfl ⟨(Nat.le_of_ble_eq_true rfl), (Nat.le_of_ble_eq_true rfl)⟩) ⟨q_blind, q_preM _ hK hN hP hD [4, 5, 6, 7] (by decide) rfl⟩ rfl rfl hl.1 rfl (lv_room (Nat.le_of_ble_eq_true rfl)) dL_settle_77 ⟨(show 106 + 20 * j + 2 * k + 1 ≤ 306 by omega), (show 1179 + 220 * j + 22 * k + 11 ≤ 3379 by omega)⟩) rfl rfl (by decide) (fun r_77 u_77 H locs h_77 hP hD hS => ?_)
                have hP : va_P D vwCl [[(xv, aI cy 20 (w2))], [(xc, aI cy 45 (co))], [(xe, aI cy le (ed))], [(xd, aI cy 2 (dd))], [(q_2, aI cy 27 (u_28.1))], [(q_8, aI cy 8 (u_28.2.1))], [(am, aI cy 2 (u2.1))], [(aa, aI cy 64 (u2.2.1))], [(ab, aI cy 64 (u2.2.2.1))], [(an, aI cy 64 (u2.2.2.2))]].flatten H := hP
                have hD : va_D A [[(xv, aI cy 20 (w2))], [(xc, aI cy 45 (co))], [(xe, aI cy le (ed))], [(xd, aI cy 2 (dd))], [(q_2, aI cy 27 (u_28.1))], [(q_8, aI cy 8 (u_28.2.1))], [(am, aI cy 2 (u2.1))], [(aa, aI cy 64 (u2.2.1))], [(ab, aI cy 64 (u2.2.2.1))], [(an, aI cy 64 (u2.2.2.2))]].flatten := hD
                subst h_77
                refine lv_istore (lv' := [(12, .int (qI (((seL st (9 - (j : Int)) k (seS st j (v, fM (fil C nc E ne (-1))))).2) k 10))), (0, .ref (xv)), (1, .ref (xc)), (2, .ref (xe)), (3, .ref (xd)), (4, .ref (am)), (5, .ref (aa)), (6, .ref (ab)), (7, .ref (an)), (8, .ref (q_2)), (9, .ref (q_8)), (10, .int (qI (x3))), (11, .int (qI (((k : Nat) : Int))))]) hx hb dL_settle_80 hl (by decide) rfl (fun ls hl => ?_)
                refine q_bipush hx hb dL_settle_82 (by decide) ?_
                refine lv_iload hx hb dL_settle_84 (lv_at hl 12 rfl) ?_
                refine lv_aload hx hb dL_settle_86 (lv_at hl 5 rfl) ?_
                refine lv_aload hx hb dL_settle_88 (lv_at hl 6 rfl) ?_
                refine lv_aload hx hb dL_settle_90 (lv_at hl 7 rfl) ?_
                refine lv_aload hx hb dL_settle_92 (lv_at hl 8 rfl) ?_
                refine q_backKi (mc := 1) (ms := 11) [6, 7, 8, 9] [0, 1, 2, 3, 4, 5] (br := [[(xv, aI cy 20 (w2))], [(xc, aI cy 45 (co))], [(xe, aI cy le (ed))], [(xd, aI cy 2 (dd))], [(q_2, aI cy 27 (u_28.1))], [(q_8, aI cy 8 (u_28.2.1))]]) hP hD hS hA (va_runS (As := [.int (qI (10)), .int (qI (((k : Nat) : Int))), .ref (am), .ref (aa), .ref (ab), .ref (an)]) (rest := []) ⟨hx, hb, hml, hown, hg⟩ (c_L_most l D cy am aa ab an u2.1 u2.2.1 u2.2.2.1 u2.2.2.2 n (seL st (9 - (j : Int)) k (seS st j (v, fM (fil C nc E ne (-1))))).2 ⟨hn1, by omega⟩ hR _ _ 10 k (by omega) (by omega) _) (cs_L_8 hg rfl rfl ⟨(Nat.le_of_ble_eq_true rfl), (Nat.le_of_ble_eq_true rfl)⟩) ⟨q_blind, q_preM _ hK hN hP hD [6, 7, 8, 9] (by decide) rfl⟩ rfl rfl hl.1 rfl (lv_room (Nat.le_of_ble_eq_true rfl)) dL_settle_94 ⟨(show 106 + 20 * j + 2 * k + 1 + 1 ≤ 306 by omega), (show 1179 + 220 * j + 22 * k + 11 + 11 ≤ 3379 by omega)⟩) rfl rfl (by decide) (fun r_94 u_94 H locs h_94 hP hD hS => ?_)
                have hP : va_P D vwCl [[(xv, aI cy 20 (w2))], [(xc, aI cy 45 (co))], [(xe, aI cy le (ed))], [(xd, aI cy 2 (dd))], [(q_2, aI cy 27 (u_28.1))], [(q_8, aI cy 8 (u_28.2.1))], [(am, aI cy 2 (u2.1))], [(aa, aI cy 64 (u2.2.1))], [(ab, aI cy 64 (u2.2.2.1))], [(an, aI cy 64 (u2.2.2.2))]].flatten H := hP
                have hD : va_D A [[(xv, aI cy 20 (w2))], [(xc, aI cy 45 (co))], [(xe, aI cy le (ed))], [(xd, aI cy 2 (dd))], [(q_2, aI cy 27 (u_28.1))], [(q_8, aI cy 8 (u_28.2.1))], [(am, aI cy 2 (u2.1))], [(aa, aI cy 64 (u2.2.1))], [(ab, aI cy 64 (u2.2.2.1))], [(an, aI cy 64 (u2.2.2.2))]].flatten := hD
                subst h_94
                refine q_ineg hx hb dL_settle_97 ?_
                refine lv_istore (lv' := [(13, .int (qI (-(((seL st (9 - (j : Int)) k (seS st j (v, fM (fil C nc E ne (-1))))).2) 10 k)))), (12, .int (qI (((seL st (9 - (j : Int)) k (seS st j (v, fM (fil C nc E ne (-1))))).2) k 10))), (0, .ref (xv)), (1, .ref (xc)), (2, .ref (xe)), (3, .ref (xd)), (4, .ref (am)), (5, .ref (aa)), (6, .ref (ab)), (7, .ref (an)), (8, .ref (q_2)), (9, .ref (q_8)), (10, .int (qI (x3))), (11, .int (qI (((k : Nat) : Int))))]) hx hb dL_settle_98 hl (by decide) rfl (fun ls hl => ?_)
                refine lv_aload_n hx hb dL_settle_100 rfl (lv_at hl 2 rfl) ?_
                refine lv_iload hx hb dL_settle_101 (lv_at hl 13 rfl) ?_
                have K_135 : ∀ (z9 : Int), (z9 = clv (w2 k) (-((seL st (9 - (j : Int)) k (seS st j (v, fM (fil C nc E ne (-1))))).2 10 k)) ((seL st (9 - (j : Int)) k (seS st j (v, fM (fil C nc E ne (-1))))).2 k 10)) → W p l e (qrc 6 306 3379) s m args below meth c H locs (106 + 20 * j + 2 * k + 1 + 1) (1179 + 220 * j + 22 * k + 11 + 11) Q (F0 m 135 ls [.int (qI (z9)), .int (qI (((k : Nat) : Int))), .ref (xv)]) := by
                  intro z9 hz
                  refine qb_iast (j := k) hx hb hK hP hD hS 0 0 rfl rfl (by omega) dL_settle_135 (fun H locs hP hD hS => ?_)
                  have hP : va_P D vwCl [[(xv, aI cy 20 (qu w2 k (z9)))], [(xc, aI cy 45 (co))], [(xe, aI cy le (ed))], [(xd, aI cy 2 (dd))], [(q_2, aI cy 27 (u_28.1))], [(q_8, aI cy 8 (u_28.2.1))], [(am, aI cy 2 (u2.1))], [(aa, aI cy 64 (u2.2.1))], [(ab, aI cy 64 (u2.2.2.1))], [(an, aI cy 64 (u2.2.2.2))]].flatten H := hP
                  have hD : va_D A [[(xv, aI cy 20 (qu w2 k (z9)))], [(xc, aI cy 45 (co))], [(xe, aI cy le (ed))], [(xd, aI cy 2 (dd))], [(q_2, aI cy 27 (u_28.1))], [(q_8, aI cy 8 (u_28.2.1))], [(am, aI cy 2 (u2.1))], [(aa, aI cy 64 (u2.2.1))], [(ab, aI cy 64 (u2.2.2.1))], [(an, aI cy 64 (u2.2.2.2))]].flatten := hD
                  refine lv_iload hx hb dL_settle_136 (lv_at hl 13 rfl) ?_
                  refine q_bipush hx hb dL_settle_138 (by decide) ?_
                  refine lv_aload_n hx hb dL_settle_140 rfl (lv_at hl 2 rfl) ?_
                  refine lv_iload hx hb dL_settle_141 (lv_at hl 13 rfl) ?_
                  refine q_iald (j := k) hx hb hK (fl_blk hP 0 rfl) 0 rfl (by omega) dL_settle_143 ?_
                  refine q_topZ (y := z9) (qu_s _ _ _) ?_
                  refine lv_aload hx hb dL_settle_144 (lv_at hl 6 rfl) ?_
                  refine lv_aload hx hb dL_settle_146 (lv_at hl 7 rfl) ?_
                  refine lv_aload hx hb dL_settle_148 (lv_at hl 8 rfl) ?_
                  refine lv_aload hx hb dL_settle_150 (lv_at hl 9 rfl) ?_
                  refine q_backKv (mc := 0) (ms := 0) [6, 7, 8, 9] [0, 1, 2, 3, 4, 5] (br := [[(xv, aI cy 20 (qu w2 k (z9)))], [(xc, aI cy 45 (co))], [(xe, aI cy le (ed))], [(xd, aI cy 2 (dd))], [(q_2, aI cy 27 (u_28.1))], [(q_8, aI cy 8 (u_28.2.1))]]) hP hD hS hA (va_runS (As := [.int (qI (((k : Nat) : Int))), .int (qI (10)), .int (qI (z9)), .ref (am), .ref (aa), .ref (ab), .ref (an)]) (rest := []) ⟨hx, hb, hml, hown, hg⟩ (c_L_bind l D cy am aa ab an u2.1 u2.2.1 u2.2.2.1 u2.2.2.2 n ⟨hn1, by omega⟩ _ _ _ _) (cs_L_14 hg rfl rfl ⟨(Nat.le_of_ble_eq_true rfl), (Nat.le_of_ble_eq_true rfl)⟩) ⟨q_blind, q_preM _ hK hN hP hD [6, 7, 8, 9] (by decide) rfl⟩ rfl rfl hl.1 rfl (lv_room (Nat.le_of_ble_eq_true rfl)) dL_settle_152 ⟨(show 106 + 20 * j + 2 * k + 1 + 1 + 0 ≤ 306 by omega), (show 1179 + 220 * j + 22 * k + 11 + 11 + 0 ≤ 3379 by omega)⟩) rfl rfl (by decide) (fun u_152 H locs h_152 hP hD hS => ?_)
                  have hP : va_P D vwCl [[(xv, aI cy 20 (qu w2 k (z9)))], [(xc, aI cy 45 (co))], [(xe, aI cy le (ed))], [(xd, aI cy 2 (dd))], [(q_2, aI cy 27 (u_28.1))], [(q_8, aI cy 8 (u_28.2.1))], [(am, aI cy 2 (qu u2.1 0 ((u2.1 0) + (1))))], [(aa, aI cy 64 (qu u2.2.1 n (((k : Nat) : Int))))], [(ab, aI cy 64 (qu u2.2.2.1 n (10)))], [(an, aI cy 64 (qu u2.2.2.2 n (z9)))]].flatten H := hP
                  have hD : va_D A [[(xv, aI cy 20 (qu w2 k (z9)))], [(xc, aI cy 45 (co))], [(xe, aI cy le (ed))], [(xd, aI cy 2 (dd))], [(q_2, aI cy 27 (u_28.1))], [(q_8, aI cy 8 (u_28.2.1))], [(am, aI cy 2 (qu u2.1 0 ((u2.1 0) + (1))))], [(aa, aI cy 64 (qu u2.2.1 n (((k : Nat) : Int))))], [(ab, aI cy 64 (qu u2.2.2.1 n (10)))], [(an, aI cy 64 (qu u2.2.2.2 n (z9)))]].flatten := hD
                  refine q_bipush hx hb dL_settle_155 (by decide) ?_
                  refine lv_iload hx hb dL_settle_157 (lv_at hl 13 rfl) ?_
                  refine lv_aload_n hx hb dL_settle_159 rfl (lv_at hl 2 rfl) ?_
                  refine lv_iload hx hb dL_settle_160 (lv_at hl 13 rfl) ?_
                  refine q_iald (j := k) hx hb hK (fl_blk hP 0 rfl) 0 rfl (by omega) dL_settle_162 ?_
                  refine q_topZ (y := z9) (qu_s _ _ _) ?_
                  refine q_ineg hx hb dL_settle_163 ?_
                  refine lv_aload hx hb dL_settle_164 (lv_at hl 6 rfl) ?_
                  refine lv_aload hx hb dL_settle_166 (lv_at hl 7 rfl) ?_
                  refine lv_aload hx hb dL_settle_168 (lv_at hl 8 rfl) ?_
                  refine lv_aload hx hb dL_settle_170 (lv_at hl 9 rfl) ?_
                  refine q_backKv (mc := 0) (ms := 0) [6, 7, 8, 9] [0, 1, 2, 3, 4, 5] (br := [[(xv, aI cy 20 (qu w2 k (z9)))], [(xc, aI cy 45 (co))], [(xe, aI cy le (ed))], [(xd, aI cy 2 (dd))], [(q_2, aI cy 27 (u_28.1))], [(q_8, aI cy 8 (u_28.2.1))]]) hP hD hS hA (va_runS (As := [.int (qI (10)), .int (qI (((k : Nat) : Int))), .int (qI (-(z9))), .ref (am), .ref (aa), .ref (ab), .ref (an)]) (rest := []) ⟨hx, hb, hml, hown, hg⟩ (c_L_bind l D cy am aa ab an (qu u2.1 0 ((u2.1 0) + (1))) (qu u2.2.1 n (((k : Nat) : Int))) (qu u2.2.2.1 n (10)) (qu u2.2.2.2 n (z9)) (n + 1) ⟨(by rw [qu_s]; omega), by omega⟩ _ _ _ _) (cs_L_14 hg rfl rfl ⟨(Nat.le_of_ble_eq_true rfl), (Nat.le_of_ble_eq_true rfl)⟩) ⟨q_blind, q_preM _ hK hN hP hD [6, 7, 8, 9] (by decide) rfl⟩ rfl rfl hl.1 rfl (lv_room (Nat.le_of_ble_eq_true rfl)) dL_settle_172 ⟨(show 106 + 20 * j + 2 * k + 1 + 1 + 0 ≤ 306 by omega), (show 1179 + 220 * j + 22 * k + 11 + 11 + 0 ≤ 3379 by omega)⟩) rfl rfl (by decide) (fun u_172 H locs h_172 hP hD hS => ?_)
                  have hP : va_P D vwCl [[(xv, aI cy 20 (qu w2 k (z9)))], [(xc, aI cy 45 (co))], [(xe, aI cy le (ed))], [(xd, aI cy 2 (dd))], [(q_2, aI cy 27 (u_28.1))], [(q_8, aI cy 8 (u_28.2.1))], [(am, aI cy 2 (qu (qu u2.1 0 ((u2.1 0) + (1))) 0 (((qu u2.1 0 ((u2.1 0) + (1))) 0) + (1))))], [(aa, aI cy 64 (qu (qu u2.2.1 n (((k : Nat) : Int))) (n + 1) (10)))], [(ab, aI cy 64 (qu (qu u2.2.2.1 n (10)) (n + 1) (((k : Nat) : Int))))], [(an, aI cy 64 (qu (qu u2.2.2.2 n (z9)) (n + 1) (-(z9))))]].flatten H := hP
                  have hD : va_D A [[(xv, aI cy 20 (qu w2 k (z9)))], [(xc, aI cy 45 (co))], [(xe, aI cy le (ed))], [(xd, aI cy 2 (dd))], [(q_2, aI cy 27 (u_28.1))], [(q_8, aI cy 8 (u_28.2.1))], [(am, aI cy 2 (qu (qu u2.1 0 ((u2.1 0) + (1))) 0 (((qu u2.1 0 ((u2.1 0) + (1))) 0) + (1))))], [(aa, aI cy 64 (qu (qu u2.2.1 n (((k : Nat) : Int))) (n + 1) (10)))], [(ab, aI cy 64 (qu (qu u2.2.2.1 n (10)) (n + 1) (((k : Nat) : Int))))], [(an, aI cy 64 (qu (qu u2.2.2.2 n (z9)) (n + 1) (-(z9))))]].flatten := hD
                  refine q_iinc (k := 13) (lv' := [(11, .int (qI ((((k : Nat) : Int)) + (1)))), (13, .int (qI (-(((seL st (9 - (j : Int)) k (seS st j (v, fM (fil C nc E ne (-1))))).2) 10 k)))), (12, .int (qI (((seL st (9 - (j : Int)) k (seS st j (v, fM (fil C nc E ne (-1))))).2) k 10))), (0, .ref (xv)), (1, .ref (xc)), (2, .ref (xe)), (3, .ref (xd)), (4, .ref (am)), (5, .ref (aa)), (6, .ref (ab)), (7, .ref (an)), (8, .ref (q_2)), (9, .ref (q_8)), (10, .int (qI (x3)))]) hx hb dL_settle_175 hl rfl (by decide) rfl (fun ls hl => ?_)
                  refine lv_goto (tgt := 43) hx hb dL_settle_178 (by decide) ?_
                  refine W.widen (k := 106 + 20 * j + 2 * (k + 1)) (n := 1179 + 220 * j + 22 * (k + 1)) (by omega) (by omega) ?_
                  have hP := fl_sub (bs' := [[(xv, aI cy 20 (qu w2 k (z9)))], [(xc, aI cy 45 (co))], [(xe, aI cy le (ed))], [(xd, aI cy 2 (dd))], [(am, aI cy 2 (qu (qu u2.1 0 ((u2.1 0) + (1))) 0 (((qu u2.1 0 ((u2.1 0) + (1))) 0) + (1))))], [(aa, aI cy 64 (qu (qu u2.2.1 n (((k : Nat) : Int))) (n + 1) (10)))], [(ab, aI cy 64 (qu (qu u2.2.2.1 n (10)) (n + 1) (((k : Nat) : Int))))], [(an, aI cy 64 (qu (qu u2.2.2.2 n (z9)) (n + 1) (-(z9))))], [(q_2, aI cy 27 (u_28.1))], [(q_8, aI cy 8 (u_28.2.1))]]) hP [0, 1, 2, 3, 6, 7, 8, 9, 4, 5] rfl
                  have hD := fl_subD (bs' := [[(xv, aI cy 20 (qu w2 k (z9)))], [(xc, aI cy 45 (co))], [(xe, aI cy le (ed))], [(xd, aI cy 2 (dd))], [(am, aI cy 2 (qu (qu u2.1 0 ((u2.1 0) + (1))) 0 (((qu u2.1 0 ((u2.1 0) + (1))) 0) + (1))))], [(aa, aI cy 64 (qu (qu u2.2.1 n (((k : Nat) : Int))) (n + 1) (10)))], [(ab, aI cy 64 (qu (qu u2.2.2.1 n (10)) (n + 1) (((k : Nat) : Int))))], [(an, aI cy 64 (qu (qu u2.2.2.2 n (z9)) (n + 1) (-(z9))))], [(q_2, aI cy 27 (u_28.1))], [(q_8, aI cy 8 (u_28.2.1))]]) hD [0, 1, 2, 3, 6, 7, 8, 9, 4, 5] (by decide) rfl
                  exact ih_43 (k + 1) (qu w2 k z9) (((qu (qu u2.1 0 ((u2.1 0) + (1))) 0 (((qu u2.1 0 ((u2.1 0) + (1))) 0) + (1))), (qu (qu u2.2.1 n (((k : Nat) : Int))) (n + 1) (10)), (qu (qu u2.2.2.1 n (10)) (n + 1) (((k : Nat) : Int))), (qu (qu u2.2.2.2 n (z9)) (n + 1) (-(z9))))) (by omega) (by omega) (sR_t hso (by omega) hsk ⟨hK9.1, hK9.2.1⟩ ⟨(by rw [qu_s, qu_s]; omega), hn2⟩ hR hz rfl rfl) _ _ _ hP hD hS (lv_sub hl [3, 4, 5, 6, 7, 8, 9, 10, 11, 12, 13, 0] rfl)
                refine lv_aload_n hx hb dL_settle_103 rfl (lv_at hl 2 rfl) ?_
                refine lv_iload hx hb dL_settle_104 (lv_at hl 13 rfl) ?_
                refine q_iald (j := k) hx hb hK (fl_blk hP 0 rfl) 0 rfl (by omega) dL_settle_106 ?_
                refine lv_iload hx hb dL_settle_107 (lv_at hl 1 rfl) ?_
                refine q_icmp_le (tgt := 117) hx hb dL_settle_109 (by decide) (by omega) (fun c_109 => ?_) (fun c_109 => ?_)
                · skip
                  refine lv_aload_n hx hb dL_settle_117 rfl (lv_at hl 2 rfl) ?_
                  refine lv_iload hx hb dL_settle_118 (lv_at hl 13 rfl) ?_
                  refine q_iald (j := k) hx hb hK (fl_blk hP 0 rfl) 0 rfl (by omega) dL_settle_120 ?_
                  refine lv_iload hx hb dL_settle_121 (lv_at hl 0 rfl) ?_
                  refine q_icmp_ge (tgt := 131) hx hb dL_settle_123 (by decide) (by omega) (fun c_123 => ?_) (fun c_123 => ?_)
                  · skip
                    refine lv_aload_n hx hb dL_settle_131 rfl (lv_at hl 2 rfl) ?_
                    refine lv_iload hx hb dL_settle_132 (lv_at hl 13 rfl) ?_
                    refine q_iald (j := k) hx hb hK (fl_blk hP 0 rfl) 0 rfl (by omega) dL_settle_134 ?_
                    exact K_135 (w2 k) (by unfold clv; (repeat' split) <;> omega)
                  · skip
                    refine lv_iload hx hb dL_settle_126 (lv_at hl 0 rfl) ?_
                    refine lv_goto (tgt := 135) hx hb dL_settle_128 (by decide) ?_
                    exact K_135 (-(((seL st (9 - (j : Int)) k (seS st j (v, fM (fil C nc E ne (-1))))).2) 10 k)) (by unfold clv; (repeat' split) <;> omega)
                · skip
                  refine lv_iload hx hb dL_settle_112 (lv_at hl 1 rfl) ?_
                  refine lv_goto (tgt := 135) hx hb dL_settle_114 (by decide) ?_
                  exact K_135 (((seL st (9 - (j : Int)) k (seS st j (v, fM (fil C nc E ne (-1))))).2) k 10) (by unfold clv; (repeat' split) <;> omega)
              · skip
                refine lv_goto (tgt := 175) hx hb dL_settle_62 (by decide) ?_
                refine q_iinc (k := 11) (lv' := [(11, .int (qI ((((k : Nat) : Int)) + (1)))), (0, .ref (xv)), (1, .ref (xc)), (2, .ref (xe)), (3, .ref (xd)), (4, .ref (am)), (5, .ref (aa)), (6, .ref (ab)), (7, .ref (an)), (8, .ref (q_2)), (9, .ref (q_8)), (10, .int (qI (x3)))]) hx hb dL_settle_175 hl rfl (by decide) rfl (fun ls hl => ?_)
                refine lv_goto (tgt := 43) hx hb dL_settle_178 (by decide) ?_
                refine W.widen (k := 106 + 20 * j + 2 * (k + 1)) (n := 1179 + 220 * j + 22 * (k + 1)) (by omega) (by omega) ?_
                exact ih_43 (k + 1) _ _ (by omega) (by omega) (sR_s hK9 (by omega)) _ _ _ hP hD hS (lv_sub hl [1, 2, 3, 4, 5, 6, 7, 8, 9, 10, 11, 0] rfl)
        refine W.widen (k := 106 + 20 * j + 2 * 0) (n := 1179 + 220 * j + 22 * 0) (by omega) (by omega) ?_
        exact L_43 (10 + 1) (0) (w1) (u1) (by omega) (by omega) (hI.mono (by omega)) _ _ _ hP hD hS (lv_sub hl [1, 2, 3, 4, 5, 6, 7, 8, 9, 10, 11, 0] rfl)
  refine W.widen (k := 106 + 20 * 0) (n := 1179 + 220 * 0) (by omega) (by omega) ?_
  have hP := fl_sub (bs' := [[(xv, aI cy 20 (va))], [(xc, aI cy 45 (co))], [(xe, aI cy le (ed))], [(xd, aI cy 2 (dd))], [(am, aI cy 2 (u_28.2.2.1))], [(aa, aI cy 64 (u_28.2.2.2.1))], [(ab, aI cy 64 (u_28.2.2.2.2.1))], [(an, aI cy 64 (u_28.2.2.2.2.2))], [(q_2, aI cy 27 (u_28.1))], [(q_8, aI cy 8 (u_28.2.1))]]) hP [0, 1, 2, 3, 6, 7, 8, 9, 4, 5] rfl
  have hD := fl_subD (bs' := [[(xv, aI cy 20 (va))], [(xc, aI cy 45 (co))], [(xe, aI cy le (ed))], [(xd, aI cy 2 (dd))], [(am, aI cy 2 (u_28.2.2.1))], [(aa, aI cy 64 (u_28.2.2.2.1))], [(ab, aI cy 64 (u_28.2.2.2.2.1))], [(an, aI cy 64 (u_28.2.2.2.2.2))], [(q_2, aI cy 27 (u_28.1))], [(q_8, aI cy 8 (u_28.2.1))]]) hD [0, 1, 2, 3, 6, 7, 8, 9, 4, 5] (by decide) rfl
  exact L_35 (10 + 1) (0) (9) (va) (u_28.2.2) (by omega) (by omega) (by omega) ⟨hv, hs, h_28.2.2.mono (by omega)⟩ _ _ _ hP hD hS (lv_sub hl [3, 4, 5, 6, 7, 8, 9, 10, 2, 1, 0] rfl)

set_option maxRecDepth 100000 in
set_option maxHeartbeats 4000000 in
theorem c_L_lay (l : Launch) (D : va_G) (cy : Nat → ClassId) (xe xd : Nat) (ed dd : Nat → Int) (E : Nat → Nat → Int) (ne : Nat) (hed : rE E ne ed) (hdd : dd 1 = (ne : Int)) (le : Nat) (p0 p1 p2 : Int) (hp0 : 0 ≤ p0 ∧ p0 ≤ 9) (hE : qWR E ne) (hle : 3 * wfN E ne p0 ≤ le ∧ le ≤ 12) (sz : Nat) : qCM l yL_lay (.code yL_lay cL_lay 6 none) 1 0 0 [.int (qI (p0)), .int (qI (p1)), .int (qI (p2)), .ref (xe), .ref (xd)] D cy [[(xe, aI cy le (ed))], [(xd, aI cy 2 (dd))]] sz (va_Qv (S := (Nat → Int) × (Nat → Int)) (fun z => rE (wfE E ne p0 p1 p2) (wfN E ne p0) z.1 ∧ z.2 1 = (wfN E ne p0 : Int) ∧ z.2 0 = dd 0) (qB D cy [[(xe, aI cy le (ed))], [(xd, aI cy 2 (dd))]] sz (fun z => [[(xe, aI cy le (z.1))], [(xd, aI cy 2 (z.2))]])) (va_A [[(xe, aI cy le (ed))], [(xd, aI cy 2 (dd))]].flatten sz)) := by
  refine q_ofKv (S := (Nat → Int) × (Nat → Int)) (b1 := fun z => [[(xe, aI cy le (z.1))], [(xd, aI cy 2 (z.2))]]) (post := fun z => rE (wfE E ne p0 p1 p2) (wfN E ne p0) z.1 ∧ z.2 1 = (wfN E ne p0 : Int) ∧ z.2 0 = dd 0) (by decide +kernel) (Nat.le_of_ble_eq_true rfl) ?_
  intro p e s m args below meth c Q A hx hb hml hown hg hQ hK hN hD hA H locs ls hP hS hl
  have hown : s.vm.findClass RL = some m.cls := hown
  have hl : lv_has ls 6 [(0, .int (qI (p0))), (1, .int (qI (p1))), (2, .int (qI (p2))), (3, .ref (xe)), (4, .ref (xd))] := hl
  have hw9 : ne ≤ wfN E ne p0 ∧ (edOf E p0 ne = -1 → wfN E ne p0 = ne + 1) := by
    unfold wfN
    constructor
    · split <;> omega
    · intro h
      rw [if_pos h]
  refine q_iconst hx hb dL_lay_0 ?_
  refine lv_istore (lv' := [(5, .int (qI (0))), (0, .int (qI (p0))), (1, .int (qI (p1))), (2, .int (qI (p2))), (3, .ref (xe)), (4, .ref (xd))]) hx hb dL_lay_1 hl (by decide) rfl (fun ls hl => ?_)
  have L_3 : ∀ (n_3 k : Nat), k ≤ ne → ne + 1 ≤ k + n_3 → (edOf E p0 k = -1) → ∀ (H : Heap) (locs : List Loc) (ls : Array Slot), va_P D vwCl [[(xe, aI cy le (ed))], [(xd, aI cy 2 (dd))]].flatten H → va_D A [[(xe, aI cy le (ed))], [(xd, aI cy 2 (dd))]].flatten → va_S A s.heap H locs → lv_has ls 6 [(0, .int (qI (p0))), (1, .int (qI (p1))), (2, .int (qI (p2))), (3, .ref (xe)), (4, .ref (xd)), (5, .int (qI (((k : Nat) : Int))))] → W p l e (qrc 1 0 0) s m args below meth c H locs (0) (0) Q (F0 m 3 ls []) := by
    intro n_3
    induction n_3 with
    | zero => intro k h1 h2; exact absurd h2 (by omega)
    | succ n_3 ih_3 =>
      intro k hk_3 hn_3 hI H locs ls hP hD hS hl
      refine lv_iload hx hb dL_lay_3 (lv_at hl 5 rfl) ?_
      refine lv_aload hx hb dL_lay_5 (lv_at hl 4 rfl) ?_
      refine q_iconst hx hb dL_lay_7 ?_
      refine q_iald (j := 1) hx hb hK (fl_blk hP 1 rfl) 0 rfl (by omega) dL_lay_8 ?_
      refine q_icmp_ge (tgt := 28) hx hb dL_lay_9 (by decide) (by omega) (fun c_9 => ?_) (fun c_9 => ?_)
      · skip
        have hw8 : k = ne → edOf E p0 ne = -1 := fun e => by rw [← e]; exact hI
        rcases (show k = ne ∨ (k < ne ∧ E 0 k = p0) by omega) with e9 | e9
        · skip
          have hw8 : k = ne → edOf E p0 ne = -1 := fun e => by rw [← e]; exact hI
          refine lv_aload hx hb dL_lay_28 (lv_at hl 4 rfl) ?_
          refine q_iconst hx hb dL_lay_30 ?_
          refine lv_iload hx hb dL_lay_31 (lv_at hl 5 rfl) ?_
          refine lv_aload hx hb dL_lay_33 (lv_at hl 4 rfl) ?_
          refine q_iconst hx hb dL_lay_35 ?_
          refine q_iald (j := 1) hx hb hK (fl_blk hP 1 rfl) 0 rfl (by omega) dL_lay_36 ?_
          refine q_icmp_ne (tgt := 47) hx hb dL_lay_37 (by decide) (by omega) (fun c_37 => ?_) (fun c_37 => ?_)
          · skip
            exact absurd c_37 (by omega)
          · skip
            refine lv_iload hx hb dL_lay_40 (lv_at hl 5 rfl) ?_
            refine q_iconst hx hb dL_lay_42 ?_
            refine q_iadd hx hb dL_lay_43 ?_
            refine lv_goto (tgt := 51) hx hb dL_lay_44 (by decide) ?_
            refine qb_iast (j := 1) hx hb hK hP hD hS 1 0 rfl rfl (by omega) dL_lay_51 (fun H locs hP hD hS => ?_)
            have hP : va_P D vwCl [[(xe, aI cy le (ed))], [(xd, aI cy 2 (qu dd 1 ((((k : Nat) : Int)) + (1))))]].flatten H := hP
            have hD : va_D A [[(xe, aI cy le (ed))], [(xd, aI cy 2 (qu dd 1 ((((k : Nat) : Int)) + (1))))]].flatten := hD
            refine lv_aload_n hx hb dL_lay_52 rfl (lv_at hl 3 rfl) ?_
            refine q_iconst hx hb dL_lay_53 ?_
            refine lv_iload hx hb dL_lay_54 (lv_at hl 5 rfl) ?_
            refine q_imul hx hb dL_lay_56 ?_
            refine lv_iload_n hx hb dL_lay_57 rfl (lv_at hl 0 rfl) ?_
            refine qb_iast (j := (3 * k)) hx hb hK hP hD hS 0 0 rfl rfl (by omega) dL_lay_58 (fun H locs hP hD hS => ?_)
            have hP : va_P D vwCl [[(xe, aI cy le (qu ed (3 * k) (p0)))], [(xd, aI cy 2 (qu dd 1 ((((k : Nat) : Int)) + (1))))]].flatten H := hP
            have hD : va_D A [[(xe, aI cy le (qu ed (3 * k) (p0)))], [(xd, aI cy 2 (qu dd 1 ((((k : Nat) : Int)) + (1))))]].flatten := hD
            refine lv_aload_n hx hb dL_lay_59 rfl (lv_at hl 3 rfl) ?_
            refine q_iconst hx hb dL_lay_60 ?_
            refine lv_iload hx hb dL_lay_61 (lv_at hl 5 rfl) ?_
            refine q_imul hx hb dL_lay_63 ?_
            refine q_iconst hx hb dL_lay_64 ?_
            refine q_iadd hx hb dL_lay_65 ?_
            refine lv_iload_n hx hb dL_lay_66 rfl (lv_at hl 1 rfl) ?_
            refine qb_iast (j := ((3 * k) + 1)) hx hb hK hP hD hS 0 0 rfl rfl (by omega) dL_lay_67 (fun H locs hP hD hS => ?_)
            have hP : va_P D vwCl [[(xe, aI cy le (qu (qu ed (3 * k) (p0)) ((3 * k) + 1) (p1)))], [(xd, aI cy 2 (qu dd 1 ((((k : Nat) : Int)) + (1))))]].flatten H := hP
            have hD : va_D A [[(xe, aI cy le (qu (qu ed (3 * k) (p0)) ((3 * k) + 1) (p1)))], [(xd, aI cy 2 (qu dd 1 ((((k : Nat) : Int)) + (1))))]].flatten := hD
            refine lv_aload_n hx hb dL_lay_68 rfl (lv_at hl 3 rfl) ?_
            refine q_iconst hx hb dL_lay_69 ?_
            refine lv_iload hx hb dL_lay_70 (lv_at hl 5 rfl) ?_
            refine q_imul hx hb dL_lay_72 ?_
            refine q_iconst hx hb dL_lay_73 ?_
            refine q_iadd hx hb dL_lay_74 ?_
            refine lv_iload_n hx hb dL_lay_75 rfl (lv_at hl 2 rfl) ?_
            refine qb_iast (j := ((3 * k) + 2)) hx hb hK hP hD hS 0 0 rfl rfl (by omega) dL_lay_76 (fun H locs hP hD hS => ?_)
            have hP : va_P D vwCl [[(xe, aI cy le (qu (qu (qu ed (3 * k) (p0)) ((3 * k) + 1) (p1)) ((3 * k) + 2) (p2)))], [(xd, aI cy 2 (qu dd 1 ((((k : Nat) : Int)) + (1))))]].flatten H := hP
            have hD : va_D A [[(xe, aI cy le (qu (qu (qu ed (3 * k) (p0)) ((3 * k) + 1) (p1)) ((3 * k) + 2) (p2)))], [(xd, aI cy 2 (qu dd 1 ((((k : Nat) : Int)) + (1))))]].flatten := hD
            exact hQ _ _ _ _ ((qu (qu (qu ed (3 * k) (p0)) ((3 * k) + 1) (p1)) ((3 * k) + 2) (p2)), (qu dd 1 ((((k : Nat) : Int)) + (1)))) ⟨(by rw [show k = ne by omega]; exact lay_new hed (by rw [← show k = ne by omega]; exact hI)), (by show ((qu dd 1 ((((k : Nat) : Int)) + (1)))) 1 = _; rw [qu_s]; unfold wfN; rw [if_pos (by rw [← show k = ne by omega]; exact hI)]; omega), (show ((qu dd 1 ((((k : Nat) : Int)) + (1)))) 0 = dd 0 from qu_n _ _ (show (0 : Nat) ≠ 1 by decide))⟩ hP hD hS dL_lay_77
        · skip
          have hw8 : k = ne → edOf E p0 ne = -1 := fun e => by rw [← e]; exact hI
          refine lv_aload hx hb dL_lay_28 (lv_at hl 4 rfl) ?_
          refine q_iconst hx hb dL_lay_30 ?_
          refine lv_iload hx hb dL_lay_31 (lv_at hl 5 rfl) ?_
          refine lv_aload hx hb dL_lay_33 (lv_at hl 4 rfl) ?_
          refine q_iconst hx hb dL_lay_35 ?_
          refine q_iald (j := 1) hx hb hK (fl_blk hP 1 rfl) 0 rfl (by omega) dL_lay_36 ?_
          refine q_icmp_ne (tgt := 47) hx hb dL_lay_37 (by decide) (by omega) (fun c_37 => ?_) (fun c_37 => ?_)
          · skip
            refine lv_aload hx hb dL_lay_47 (lv_at hl 4 rfl) ?_
            refine q_iconst hx hb dL_lay_49 ?_
            refine q_iald (j := 1) hx hb hK (fl_blk hP 1 rfl) 0 rfl (by omega) dL_lay_50 ?_
            refine qb_iast (j := 1) hx hb hK hP hD hS 1 0 rfl rfl (by omega) dL_lay_51 (fun H locs hP hD hS => ?_)
            have hP : va_P D vwCl [[(xe, aI cy le (ed))], [(xd, aI cy 2 (qu dd 1 (dd 1)))]].flatten H := hP
            have hD : va_D A [[(xe, aI cy le (ed))], [(xd, aI cy 2 (qu dd 1 (dd 1)))]].flatten := hD
            refine lv_aload_n hx hb dL_lay_52 rfl (lv_at hl 3 rfl) ?_
            refine q_iconst hx hb dL_lay_53 ?_
            refine lv_iload hx hb dL_lay_54 (lv_at hl 5 rfl) ?_
            refine q_imul hx hb dL_lay_56 ?_
            refine lv_iload_n hx hb dL_lay_57 rfl (lv_at hl 0 rfl) ?_
            refine qb_iast (j := (3 * k)) hx hb hK hP hD hS 0 0 rfl rfl (by omega) dL_lay_58 (fun H locs hP hD hS => ?_)
            have hP : va_P D vwCl [[(xe, aI cy le (qu ed (3 * k) (p0)))], [(xd, aI cy 2 (qu dd 1 (dd 1)))]].flatten H := hP
            have hD : va_D A [[(xe, aI cy le (qu ed (3 * k) (p0)))], [(xd, aI cy 2 (qu dd 1 (dd 1)))]].flatten := hD
            refine lv_aload_n hx hb dL_lay_59 rfl (lv_at hl 3 rfl) ?_
            refine q_iconst hx hb dL_lay_60 ?_
            refine lv_iload hx hb dL_lay_61 (lv_at hl 5 rfl) ?_
            refine q_imul hx hb dL_lay_63 ?_
            refine q_iconst hx hb dL_lay_64 ?_
            refine q_iadd hx hb dL_lay_65 ?_
            refine lv_iload_n hx hb dL_lay_66 rfl (lv_at hl 1 rfl) ?_
            refine qb_iast (j := ((3 * k) + 1)) hx hb hK hP hD hS 0 0 rfl rfl (by omega) dL_lay_67 (fun H locs hP hD hS => ?_)
            have hP : va_P D vwCl [[(xe, aI cy le (qu (qu ed (3 * k) (p0)) ((3 * k) + 1) (p1)))], [(xd, aI cy 2 (qu dd 1 (dd 1)))]].flatten H := hP
            have hD : va_D A [[(xe, aI cy le (qu (qu ed (3 * k) (p0)) ((3 * k) + 1) (p1)))], [(xd, aI cy 2 (qu dd 1 (dd 1)))]].flatten := hD
            refine lv_aload_n hx hb dL_lay_68 rfl (lv_at hl 3 rfl) ?_
            refine q_iconst hx hb dL_lay_69 ?_
            refine lv_iload hx hb dL_lay_70 (lv_at hl 5 rfl) ?_
            refine q_imul hx hb dL_lay_72 ?_
            refine q_iconst hx hb dL_lay_73 ?_
            refine q_iadd hx hb dL_lay_74 ?_
            refine lv_iload_n hx hb dL_lay_75 rfl (lv_at hl 2 rfl) ?_
            refine qb_iast (j := ((3 * k) + 2)) hx hb hK hP hD hS 0 0 rfl rfl (by omega) dL_lay_76 (fun H locs hP hD hS => ?_)
            have hP : va_P D vwCl [[(xe, aI cy le (qu (qu (qu ed (3 * k) (p0)) ((3 * k) + 1) (p1)) ((3 * k) + 2) (p2)))], [(xd, aI cy 2 (qu dd 1 (dd 1)))]].flatten H := hP
            have hD : va_D A [[(xe, aI cy le (qu (qu (qu ed (3 * k) (p0)) ((3 * k) + 1) (p1)) ((3 * k) + 2) (p2)))], [(xd, aI cy 2 (qu dd 1 (dd 1)))]].flatten := hD
            exact hQ _ _ _ _ ((qu (qu (qu ed (3 * k) (p0)) ((3 * k) + 1) (p1)) ((3 * k) + 2) (p2)), (qu dd 1 (dd 1))) ⟨lay_old hed (by omega) (edOf_at hI (by omega) ne (by omega)) (by omega), (by show ((qu dd 1 (dd 1))) 1 = _; rw [qu_s]; unfold wfN; rw [if_neg (by rw [edOf_at hI (by omega) ne (by omega)]; omega)]; omega), (show ((qu dd 1 (dd 1))) 0 = dd 0 from qu_n _ _ (show (0 : Nat) ≠ 1 by decide))⟩ hP hD hS dL_lay_77
          · skip
            exact absurd c_37 (by omega)
      · skip
        have hq := hed k (by omega)
        have hq2 := hE k (by omega)
        refine lv_aload_n hx hb dL_lay_12 rfl (lv_at hl 3 rfl) ?_
        refine q_iconst hx hb dL_lay_13 ?_
        refine lv_iload hx hb dL_lay_14 (lv_at hl 5 rfl) ?_
        refine q_imul hx hb dL_lay_16 ?_
        refine q_iald (j := (3 * k)) hx hb hK (fl_blk hP 0 rfl) 0 rfl (by omega) dL_lay_17 ?_
        refine lv_iload_n hx hb dL_lay_18 rfl (lv_at hl 0 rfl) ?_
        refine q_icmp_eq (tgt := 28) hx hb dL_lay_19 (by decide) (by omega) (fun c_19 => ?_) (fun c_19 => ?_)
        · skip
          have hw8 : k = ne → edOf E p0 ne = -1 := fun e => by rw [← e]; exact hI
          rcases (show k = ne ∨ (k < ne ∧ E 0 k = p0) by omega) with e9 | e9
          · skip
            have hw8 : k = ne → edOf E p0 ne = -1 := fun e => by rw [← e]; exact hI
            refine lv_aload hx hb dL_lay_28 (lv_at hl 4 rfl) ?_
            refine q_iconst hx hb dL_lay_30 ?_
            refine lv_iload hx hb dL_lay_31 (lv_at hl 5 rfl) ?_
            refine lv_aload hx hb dL_lay_33 (lv_at hl 4 rfl) ?_
            refine q_iconst hx hb dL_lay_35 ?_
            refine q_iald (j := 1) hx hb hK (fl_blk hP 1 rfl) 0 rfl (by omega) dL_lay_36 ?_
            refine q_icmp_ne (tgt := 47) hx hb dL_lay_37 (by decide) (by omega) (fun c_37 => ?_) (fun c_37 => ?_)
            · skip
              exact absurd c_37 (by omega)
            · skip
              refine lv_iload hx hb dL_lay_40 (lv_at hl 5 rfl) ?_
              refine q_iconst hx hb dL_lay_42 ?_
              refine q_iadd hx hb dL_lay_43 ?_
              refine lv_goto (tgt := 51) hx hb dL_lay_44 (by decide) ?_
              refine qb_iast (j := 1) hx hb hK hP hD hS 1 0 rfl rfl (by omega) dL_lay_51 (fun H locs hP hD hS => ?_)
              have hP : va_P D vwCl [[(xe, aI cy le (ed))], [(xd, aI cy 2 (qu dd 1 ((((k : Nat) : Int)) + (1))))]].flatten H := hP
              have hD : va_D A [[(xe, aI cy le (ed))], [(xd, aI cy 2 (qu dd 1 ((((k : Nat) : Int)) + (1))))]].flatten := hD
              refine lv_aload_n hx hb dL_lay_52 rfl (lv_at hl 3 rfl) ?_
              refine q_iconst hx hb dL_lay_53 ?_
              refine lv_iload hx hb dL_lay_54 (lv_at hl 5 rfl) ?_
              refine q_imul hx hb dL_lay_56 ?_
              refine lv_iload_n hx hb dL_lay_57 rfl (lv_at hl 0 rfl) ?_
              refine qb_iast (j := (3 * k)) hx hb hK hP hD hS 0 0 rfl rfl (by omega) dL_lay_58 (fun H locs hP hD hS => ?_)
              have hP : va_P D vwCl [[(xe, aI cy le (qu ed (3 * k) (p0)))], [(xd, aI cy 2 (qu dd 1 ((((k : Nat) : Int)) + (1))))]].flatten H := hP
              have hD : va_D A [[(xe, aI cy le (qu ed (3 * k) (p0)))], [(xd, aI cy 2 (qu dd 1 ((((k : Nat) : Int)) + (1))))]].flatten := hD
              refine lv_aload_n hx hb dL_lay_59 rfl (lv_at hl 3 rfl) ?_
              refine q_iconst hx hb dL_lay_60 ?_
              refine lv_iload hx hb dL_lay_61 (lv_at hl 5 rfl) ?_
              refine q_imul hx hb dL_lay_63 ?_
              refine q_iconst hx hb dL_lay_64 ?_
              refine q_iadd hx hb dL_lay_65 ?_
              refine lv_iload_n hx hb dL_lay_66 rfl (lv_at hl 1 rfl) ?_
              refine qb_iast (j := ((3 * k) + 1)) hx hb hK hP hD hS 0 0 rfl rfl (by omega) dL_lay_67 (fun H locs hP hD hS => ?_)
              have hP : va_P D vwCl [[(xe, aI cy le (qu (qu ed (3 * k) (p0)) ((3 * k) + 1) (p1)))], [(xd, aI cy 2 (qu dd 1 ((((k : Nat) : Int)) + (1))))]].flatten H := hP
              have hD : va_D A [[(xe, aI cy le (qu (qu ed (3 * k) (p0)) ((3 * k) + 1) (p1)))], [(xd, aI cy 2 (qu dd 1 ((((k : Nat) : Int)) + (1))))]].flatten := hD
              refine lv_aload_n hx hb dL_lay_68 rfl (lv_at hl 3 rfl) ?_
              refine q_iconst hx hb dL_lay_69 ?_
              refine lv_iload hx hb dL_lay_70 (lv_at hl 5 rfl) ?_
              refine q_imul hx hb dL_lay_72 ?_
              refine q_iconst hx hb dL_lay_73 ?_
              refine q_iadd hx hb dL_lay_74 ?_
              refine lv_iload_n hx hb dL_lay_75 rfl (lv_at hl 2 rfl) ?_
              refine qb_iast (j := ((3 * k) + 2)) hx hb hK hP hD hS 0 0 rfl rfl (by omega) dL_lay_76 (fun H locs hP hD hS => ?_)
              have hP : va_P D vwCl [[(xe, aI cy le (qu (qu (qu ed (3 * k) (p0)) ((3 * k) + 1) (p1)) ((3 * k) + 2) (p2)))], [(xd, aI cy 2 (qu dd 1 ((((k : Nat) : Int)) + (1))))]].flatten H := hP
              have hD : va_D A [[(xe, aI cy le (qu (qu (qu ed (3 * k) (p0)) ((3 * k) + 1) (p1)) ((3 * k) + 2) (p2)))], [(xd, aI cy 2 (qu dd 1 ((((k : Nat) : Int)) + (1))))]].flatten := hD
              exact hQ _ _ _ _ ((qu (qu (qu ed (3 * k) (p0)) ((3 * k) + 1) (p1)) ((3 * k) + 2) (p2)), (qu dd 1 ((((k : Nat) : Int)) + (1)))) ⟨(by rw [show k = ne by omega]; exact lay_new hed (by rw [← show k = ne by omega]; exact hI)), (by show ((qu dd 1 ((((k : Nat) : Int)) + (1)))) 1 = _; rw [qu_s]; unfold wfN; rw [if_pos (by rw [← show k = ne by omega]; exact hI)]; omega), (show ((qu dd 1 ((((k : Nat) : Int)) + (1)))) 0 = dd 0 from qu_n _ _ (show (0 : Nat) ≠ 1 by decide))⟩ hP hD hS dL_lay_77
          · skip
            have hw8 : k = ne → edOf E p0 ne = -1 := fun e => by rw [← e]; exact hI
            refine lv_aload hx hb dL_lay_28 (lv_at hl 4 rfl) ?_
            refine q_iconst hx hb dL_lay_30 ?_
            refine lv_iload hx hb dL_lay_31 (lv_at hl 5 rfl) ?_
            refine lv_aload hx hb dL_lay_33 (lv_at hl 4 rfl) ?_
            refine q_iconst hx hb dL_lay_35 ?_
            refine q_iald (j := 1) hx hb hK (fl_blk hP 1 rfl) 0 rfl (by omega) dL_lay_36 ?_
            refine q_icmp_ne (tgt := 47) hx hb dL_lay_37 (by decide) (by omega) (fun c_37 => ?_) (fun c_37 => ?_)
            · skip
              refine lv_aload hx hb dL_lay_47 (lv_at hl 4 rfl) ?_
              refine q_iconst hx hb dL_lay_49 ?_
              refine q_iald (j := 1) hx hb hK (fl_blk hP 1 rfl) 0 rfl (by omega) dL_lay_50 ?_
              refine qb_iast (j := 1) hx hb hK hP hD hS 1 0 rfl rfl (by omega) dL_lay_51 (fun H locs hP hD hS => ?_)
              have hP : va_P D vwCl [[(xe, aI cy le (ed))], [(xd, aI cy 2 (qu dd 1 (dd 1)))]].flatten H := hP
              have hD : va_D A [[(xe, aI cy le (ed))], [(xd, aI cy 2 (qu dd 1 (dd 1)))]].flatten := hD
              refine lv_aload_n hx hb dL_lay_52 rfl (lv_at hl 3 rfl) ?_
              refine q_iconst hx hb dL_lay_53 ?_
              refine lv_iload hx hb dL_lay_54 (lv_at hl 5 rfl) ?_
              refine q_imul hx hb dL_lay_56 ?_
              refine lv_iload_n hx hb dL_lay_57 rfl (lv_at hl 0 rfl) ?_
              refine qb_iast (j := (3 * k)) hx hb hK hP hD hS 0 0 rfl rfl (by omega) dL_lay_58 (fun H locs hP hD hS => ?_)
              have hP : va_P D vwCl [[(xe, aI cy le (qu ed (3 * k) (p0)))], [(xd, aI cy 2 (qu dd 1 (dd 1)))]].flatten H := hP
              have hD : va_D A [[(xe, aI cy le (qu ed (3 * k) (p0)))], [(xd, aI cy 2 (qu dd 1 (dd 1)))]].flatten := hD
              refine lv_aload_n hx hb dL_lay_59 rfl (lv_at hl 3 rfl) ?_
              refine q_iconst hx hb dL_lay_60 ?_
              refine lv_iload hx hb dL_lay_61 (lv_at hl 5 rfl) ?_
              refine q_imul hx hb dL_lay_63 ?_
              refine q_iconst hx hb dL_lay_64 ?_
              refine q_iadd hx hb dL_lay_65 ?_
              refine lv_iload_n hx hb dL_lay_66 rfl (lv_at hl 1 rfl) ?_
              refine qb_iast (j := ((3 * k) + 1)) hx hb hK hP hD hS 0 0 rfl rfl (by omega) dL_lay_67 (fun H locs hP hD hS => ?_)
              have hP : va_P D vwCl [[(xe, aI cy le (qu (qu ed (3 * k) (p0)) ((3 * k) + 1) (p1)))], [(xd, aI cy 2 (qu dd 1 (dd 1)))]].flatten H := hP
              have hD : va_D A [[(xe, aI cy le (qu (qu ed (3 * k) (p0)) ((3 * k) + 1) (p1)))], [(xd, aI cy 2 (qu dd 1 (dd 1)))]].flatten := hD
              refine lv_aload_n hx hb dL_lay_68 rfl (lv_at hl 3 rfl) ?_
              refine q_iconst hx hb dL_lay_69 ?_
              refine lv_iload hx hb dL_lay_70 (lv_at hl 5 rfl) ?_
              refine q_imul hx hb dL_lay_72 ?_
              refine q_iconst hx hb dL_lay_73 ?_
              refine q_iadd hx hb dL_lay_74 ?_
              refine lv_iload_n hx hb dL_lay_75 rfl (lv_at hl 2 rfl) ?_
              refine qb_iast (j := ((3 * k) + 2)) hx hb hK hP hD hS 0 0 rfl rfl (by omega) dL_lay_76 (fun H locs hP hD hS => ?_)
              have hP : va_P D vwCl [[(xe, aI cy le (qu (qu (qu ed (3 * k) (p0)) ((3 * k) + 1) (p1)) ((3 * k) + 2) (p2)))], [(xd, aI cy 2 (qu dd 1 (dd 1)))]].flatten H := hP
              have hD : va_D A [[(xe, aI cy le (qu (qu (qu ed (3 * k) (p0)) ((3 * k) + 1) (p1)) ((3 * k) + 2) (p2)))], [(xd, aI cy 2 (qu dd 1 (dd 1)))]].flatten := hD
              exact hQ _ _ _ _ ((qu (qu (qu ed (3 * k) (p0)) ((3 * k) + 1) (p1)) ((3 * k) + 2) (p2)), (qu dd 1 (dd 1))) ⟨lay_old hed (by omega) (edOf_at hI (by omega) ne (by omega)) (by omega), (by show ((qu dd 1 (dd 1))) 1 = _; rw [qu_s]; unfold wfN; rw [if_neg (by rw [edOf_at hI (by omega) ne (by omega)]; omega)]; omega), (show ((qu dd 1 (dd 1))) 0 = dd 0 from qu_n _ _ (show (0 : Nat) ≠ 1 by decide))⟩ hP hD hS dL_lay_77
            · skip
              exact absurd c_37 (by omega)
        · skip
          refine q_iinc (k := 5) (lv' := [(5, .int (qI ((((k : Nat) : Int)) + (1)))), (0, .int (qI (p0))), (1, .int (qI (p1))), (2, .int (qI (p2))), (3, .ref (xe)), (4, .ref (xd))]) hx hb dL_lay_22 hl rfl (by decide) rfl (fun ls hl => ?_)
          refine lv_goto (tgt := 3) hx hb dL_lay_25 (by decide) ?_
          exact ih_3 (k + 1)  (by omega) (by omega) (edOf_step hI (by omega)) _ _ _ hP hD hS (lv_sub hl [1, 2, 3, 4, 5, 0] rfl)
  exact L_3 (ne + 1) (0)  (by omega) (by omega) rfl _ _ _ hP hD hS (lv_sub hl [1, 2, 3, 4, 5, 0] rfl)

set_option maxRecDepth 100000 in
set_option maxHeartbeats 4000000 in
theorem c_L_other (l : Launch) (D : va_G) (cy : Nat → ClassId) (xv : Nat) (va : Nat → Int) (p0 : Int) (hp0 : 0 ≤ p0 ∧ p0 ≤ 10) : qRd l yL_other (.code yL_other cL_other 2 (some .int)) 1 [.int (qI (p0)), .ref (xv)] D cy [[(xv, aI cy 20 (va))]] (vp_Si (fun r => r = qI (if p0 = 10 then 0 else va p0.toNat))) := by
  refine q_ofRi (by decide +kernel) (Nat.le_of_ble_eq_true rfl) ?_
  intro p e s m args below meth c Q hx hb hml hown hg hQ hK hN hP ls hl
  have hown : s.vm.findClass RL = some m.cls := hown
  have hl : lv_has ls 2 [(0, .int (qI (p0))), (1, .ref (xv))] := hl
  refine lv_iload_n hx hb dL_other_0 rfl (lv_at hl 0 rfl) ?_
  refine q_bipush hx hb dL_other_1 (by decide) ?_
  refine q_icmp_ne (tgt := 10) hx hb dL_other_3 (by decide) (by omega) (fun c_3 => ?_) (fun c_3 => ?_)
  · skip
    refine lv_aload_n hx hb dL_other_10 rfl (lv_at hl 1 rfl) ?_
    refine lv_iload_n hx hb dL_other_11 rfl (lv_at hl 0 rfl) ?_
    refine q_iald (j := (p0).toNat) hx hb hK (fl_blk hP 0 rfl) 0 rfl (by omega) dL_other_12 ?_
    exact hQ _ _ _ (congrArg qI (by rw [if_neg (by omega)])) dL_other_13
  · skip
    refine q_iconst hx hb dL_other_6 ?_
    refine lv_goto (tgt := 13) hx hb dL_other_7 (by decide) ?_
    exact hQ _ _ _ (congrArg qI (by rw [if_pos (by omega)])) dL_other_13

set_option maxRecDepth 100000 in
set_option maxHeartbeats 4000000 in
theorem c_L_holds (l : Launch) (D : va_G) (cy : Nat → ClassId) (xv xc : Nat) (va co v : Nat → Int) (C : Nat → Nat → Int) (nc : Nat) (hC : qWR C nc) (hc : nc ≤ 9) (hco : rC C nc co) (hv : ∀ i, i < 10 → va i = v i) (hV : qV v) (k : Nat) (p0 : Int) (hp0 : p0 = (k : Int) ∧ k < nc) : qRd l yL_holds (.code yL_holds cL_holds 4 (some .boolean)) 2 [.int (qI (p0)), .ref (xv), .ref (xc)] D cy [[(xv, aI cy 20 (va))], [(xc, aI cy 45 (co))]] (vp_Si (fun r => ∃ b : Bool, r = qz b ∧ (fun b => b = hoB v C k) b)) := by
  refine q_ofRz (post := fun b => b = hoB v C k) (by decide +kernel) (Nat.le_of_ble_eq_true rfl) ?_
  intro p e s m args below meth c Q hx hb hml hown hg hQ hK hN hP ls hl
  have hown : s.vm.findClass RL = some m.cls := hown
  have hl : lv_has ls 4 [(0, .int (qI (p0))), (1, .ref (xv)), (2, .ref (xc))] := hl
  have hk9 := hp0.2
  have hq := hco k hk9
  obtain ⟨w0, w1, w2, w3, w4, w5⟩ := hC k hk9
  have ho := oN_lt w1
  have v0 := hv (C 0 k).toNat (by omega)
  have r0 := hV (C 0 k).toNat (by omega)
  obtain ⟨d9, hd8⟩ : ∃ d9, d9 = hoD v C k := ⟨_, rfl⟩
  have hd9 : hoB v C k = chB (C 2 k) (C 3 k) d9 d9 := by rw [hd8]; rfl
  have he9 : va (co (5 * k)).toNat - (if co (5 * k + 1) = 10 then 0 else va (co (5 * k + 1)).toNat) = d9 := by
    rw [hd8, hq.1, hq.2.1, v0]
    unfold hoD oN
    by_cases e : C 1 k = -1
    · rw [if_pos e, if_pos e, if_pos (show ((10 : Nat) : Int) = 10 from rfl)]
    · rw [if_neg e, if_neg e, if_neg (by omega), Int.toNat_natCast, hv (C 1 k).toNat (by omega)]
  have hd7 : -2000 ≤ d9 ∧ d9 ≤ 2000 := by
    rw [hd8]
    unfold hoD
    by_cases e : C 1 k = -1
    · rw [if_pos e]
      omega
    · rw [if_neg e]
      have r1 := hV (C 1 k).toNat (by omega)
      omega
  refine lv_aload_n hx hb dL_holds_0 rfl (lv_at hl 1 rfl) ?_
  refine lv_aload_n hx hb dL_holds_1 rfl (lv_at hl 2 rfl) ?_
  refine q_iconst hx hb dL_holds_2 ?_
  refine lv_iload_n hx hb dL_holds_3 rfl (lv_at hl 0 rfl) ?_
  refine q_imul hx hb dL_holds_4 ?_
  refine q_iald (j := (5 * k)) hx hb hK (fl_blk hP 1 rfl) 0 rfl (by omega) dL_holds_5 ?_
  refine q_iald (j := (co (5 * k)).toNat) hx hb hK (fl_blk hP 0 rfl) 0 rfl (by omega) dL_holds_6 ?_
  refine lv_aload_n hx hb dL_holds_7 rfl (lv_at hl 2 rfl) ?_
  refine q_iconst hx hb dL_holds_8 ?_
  refine lv_iload_n hx hb dL_holds_9 rfl (lv_at hl 0 rfl) ?_
  refine q_imul hx hb dL_holds_10 ?_
  refine q_iconst hx hb dL_holds_11 ?_
  refine q_iadd hx hb dL_holds_12 ?_
  refine q_iald (j := ((5 * k) + 1)) hx hb hK (fl_blk hP 1 rfl) 0 rfl (by omega) dL_holds_13 ?_
  refine lv_aload_n hx hb dL_holds_14 rfl (lv_at hl 1 rfl) ?_
  refine q_readi (va_runS (As := [.int (qI (co ((5 * k) + 1))), .ref (xv)]) (rest := [.int (qI (va ((co (5 * k)).toNat)))]) ⟨hx, hb, hml, hown, hg⟩ (c_L_other l D cy xv va _ (by omega)) (cs_L_26 hg rfl rfl ⟨by decide, by decide⟩) ⟨q_blind0, q_preR _ hK hN hP [0] rfl⟩ rfl rfl hl.1 rfl (lv_room (Nat.le_of_ble_eq_true rfl)) dL_holds_15 ⟨by decide, by decide⟩) (fun r_15 h_15 => ?_)
  subst h_15
  refine q_isub hx hb dL_holds_18 ?_
  refine q_topZ (y := d9) (by exact he9) ?_
  refine lv_istore_n (lv' := [(3, .int (qI (d9))), (0, .int (qI (p0))), (1, .ref (xv)), (2, .ref (xc))]) hx hb dL_holds_19 rfl hl (by decide) rfl (fun ls hl => ?_)
  refine lv_aload_n hx hb dL_holds_20 rfl (lv_at hl 3 rfl) ?_
  refine q_iconst hx hb dL_holds_21 ?_
  refine lv_iload_n hx hb dL_holds_22 rfl (lv_at hl 1 rfl) ?_
  refine q_imul hx hb dL_holds_23 ?_
  refine q_iconst hx hb dL_holds_24 ?_
  refine q_iadd hx hb dL_holds_25 ?_
  refine q_iald (j := ((5 * k) + 2)) hx hb hK (fl_blk hP 1 rfl) 0 rfl (by omega) dL_holds_26 ?_
  refine q_if_ne (tgt := 49) hx hb dL_holds_27 (by decide) (by omega) (fun c_27 => ?_) (fun c_27 => ?_)
  · skip
    refine lv_aload_n hx hb dL_holds_49 rfl (lv_at hl 3 rfl) ?_
    refine q_iconst hx hb dL_holds_50 ?_
    refine lv_iload_n hx hb dL_holds_51 rfl (lv_at hl 1 rfl) ?_
    refine q_imul hx hb dL_holds_52 ?_
    refine q_iconst hx hb dL_holds_53 ?_
    refine q_iadd hx hb dL_holds_54 ?_
    refine q_iald (j := ((5 * k) + 2)) hx hb hK (fl_blk hP 1 rfl) 0 rfl (by omega) dL_holds_55 ?_
    refine q_iconst hx hb dL_holds_56 ?_
    refine q_icmp_ne (tgt := 79) hx hb dL_holds_57 (by decide) (by omega) (fun c_57 => ?_) (fun c_57 => ?_)
    · skip
      refine lv_iload_n hx hb dL_holds_79 rfl (lv_at hl 0 rfl) ?_
      refine lv_aload_n hx hb dL_holds_80 rfl (lv_at hl 3 rfl) ?_
      refine q_iconst hx hb dL_holds_81 ?_
      refine lv_iload_n hx hb dL_holds_82 rfl (lv_at hl 1 rfl) ?_
      refine q_imul hx hb dL_holds_83 ?_
      refine q_iconst hx hb dL_holds_84 ?_
      refine q_iadd hx hb dL_holds_85 ?_
      refine q_iald (j := ((5 * k) + 3)) hx hb hK (fl_blk hP 1 rfl) 0 rfl (by omega) dL_holds_86 ?_
      refine q_icmp_lt (tgt := 94) hx hb dL_holds_87 (by decide) (by omega) (fun c_87 => ?_) (fun c_87 => ?_)
      · skip
        refine q_iconst hx hb dL_holds_94 ?_
        exact hQ _ _ false (by rw [hd9]; exact (Bool.eq_false_iff.mpr (fun h => by obtain ⟨z1, z2⟩ := chB_iff.mp h; omega)).symm) dL_holds_95
      · skip
        refine q_iconst hx hb dL_holds_90 ?_
        refine lv_goto (tgt := 95) hx hb dL_holds_91 (by decide) ?_
        exact hQ _ _ true (by rw [hd9]; exact (chB_iff.mpr ⟨by omega, by omega⟩).symm) dL_holds_95
    · skip
      refine lv_iload_n hx hb dL_holds_60 rfl (lv_at hl 0 rfl) ?_
      refine lv_aload_n hx hb dL_holds_61 rfl (lv_at hl 3 rfl) ?_
      refine q_iconst hx hb dL_holds_62 ?_
      refine lv_iload_n hx hb dL_holds_63 rfl (lv_at hl 1 rfl) ?_
      refine q_imul hx hb dL_holds_64 ?_
      refine q_iconst hx hb dL_holds_65 ?_
      refine q_iadd hx hb dL_holds_66 ?_
      refine q_iald (j := ((5 * k) + 3)) hx hb hK (fl_blk hP 1 rfl) 0 rfl (by omega) dL_holds_67 ?_
      refine q_icmp_ne (tgt := 75) hx hb dL_holds_68 (by decide) (by omega) (fun c_68 => ?_) (fun c_68 => ?_)
      · skip
        refine q_iconst hx hb dL_holds_75 ?_
        refine lv_goto (tgt := 95) hx hb dL_holds_76 (by decide) ?_
        exact hQ _ _ false (by rw [hd9]; exact (Bool.eq_false_iff.mpr (fun h => by obtain ⟨z1, z2⟩ := chB_iff.mp h; omega)).symm) dL_holds_95
      · skip
        refine q_iconst hx hb dL_holds_71 ?_
        refine lv_goto (tgt := 95) hx hb dL_holds_72 (by decide) ?_
        exact hQ _ _ true (by rw [hd9]; exact (chB_iff.mpr ⟨by omega, by omega⟩).symm) dL_holds_95
  · skip
    refine lv_iload_n hx hb dL_holds_30 rfl (lv_at hl 0 rfl) ?_
    refine lv_aload_n hx hb dL_holds_31 rfl (lv_at hl 3 rfl) ?_
    refine q_iconst hx hb dL_holds_32 ?_
    refine lv_iload_n hx hb dL_holds_33 rfl (lv_at hl 1 rfl) ?_
    refine q_imul hx hb dL_holds_34 ?_
    refine q_iconst hx hb dL_holds_35 ?_
    refine q_iadd hx hb dL_holds_36 ?_
    refine q_iald (j := ((5 * k) + 3)) hx hb hK (fl_blk hP 1 rfl) 0 rfl (by omega) dL_holds_37 ?_
    refine q_icmp_gt (tgt := 45) hx hb dL_holds_38 (by decide) (by omega) (fun c_38 => ?_) (fun c_38 => ?_)
    · skip
      refine q_iconst hx hb dL_holds_45 ?_
      refine lv_goto (tgt := 95) hx hb dL_holds_46 (by decide) ?_
      exact hQ _ _ false (by rw [hd9]; exact (Bool.eq_false_iff.mpr (fun h => by obtain ⟨z1, z2⟩ := chB_iff.mp h; omega)).symm) dL_holds_95
    · skip
      refine q_iconst hx hb dL_holds_41 ?_
      refine lv_goto (tgt := 95) hx hb dL_holds_42 (by decide) ?_
      exact hQ _ _ true (by rw [hd9]; exact (chB_iff.mpr ⟨by omega, by omega⟩).symm) dL_holds_95
