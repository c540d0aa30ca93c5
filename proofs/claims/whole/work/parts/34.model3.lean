theorem edL_step {E : Nat → Nat → Int} {x : Int} {n k : Nat} (hD : ∀ i j, i < n → j < n → E 0 i = E 0 j → i = j) (hk : k < n) (h : E 0 k = x) : edOf E x (k + 1) = (k : Int) := by
  have er := edOf_rng E x k
  simp only [edOf]
  by_cases e : edOf E x k ≠ -1
  · have h2 := edOf_is e
    have := hD (edOf E x k).toNat k (by omega) hk (by rw [h2, h])
    omega
  · rw [if_neg e, if_pos h]
theorem edN_step {E : Nat → Nat → Int} {x : Int} {k : Nat} (h : E 0 k ≠ x) : edOf E x (k + 1) = edOf E x k := by
  simp only [edOf]
  by_cases e : edOf E x k ≠ -1
  · rw [if_pos e]
  · rw [if_neg e, if_neg h]
    omega

set_option maxRecDepth 100000 in
set_option maxHeartbeats 4000000 in
theorem c_X8_editOf (l : Launch) (D : va_G) (cy : Nat → ClassId) (mo mz msv mtx mmo mif mmg mtn mie mme mrd mas : Nat) (th sv ml tu : Int) (fi : Bool) (ro sp it : Int) (bl : Bool) (hh : Int64) (z : Nat → Int) (nc ne : Nat) (hnc : z 20 = (nc : Int)) (hne : z 101 = (ne : Int)) (hc : nc ≤ 16) (he : ne ≤ 4) (hC : qWR (zC z) nc) (hE : qWR (zE z) ne) (hD : ∀ i j, i < ne → j < ne → zE z 0 i = zE z 0 j → i = j) (x9 : Int) (hx9 : -1000000 ≤ x9 ∧ x9 ≤ 1000000) : qRd l yX8_editOf (.code yX8_editOf cX8_editOf 4 (some .int)) 2 [.ref (mo), .int (qI (x9))] D cy [[(mo, .inr (8, [.int (qI (th)), .ref (mz), .int (qI (sv)), .ref (msv), .int (qI (ml)), .ref (mtx), .ref (mmo), .int (qI (tu)), .ref (mif), .ref (mmg), .ref (mtn), .ref (mie), .ref (mme), .int (qz (fi)), .int (qI (ro)), .int (qI (sp)), .int (qI (it)), .int (qz (bl)), .ref (mrd), .ref (mas), .long (hh)]))], [(mz, aI cy 115 (z))]] (vp_Si (fun r => r = qI (edOf (zE z) x9 ne))) := by
  refine q_ofRi (by decide +kernel) (Nat.le_of_ble_eq_true rfl) ?_
  intro p e s m args below meth c Q hx hb hml hown hg hQ hK hN hP ls hl
  have hown : s.vm.findClass RX8 = some m.cls := hown
  have hl : lv_has ls 4 [(0, .ref (mo)), (1, .int (qI (x9)))] := hl
  refine q_iconst hx hb dX8_editOf_0 ?_
  refine lv_istore_n (lv' := [(2, .int (qI (-1))), (0, .ref (mo)), (1, .int (qI (x9)))]) hx hb dX8_editOf_1 rfl hl (by decide) rfl (fun ls hl => ?_)
  refine q_iconst hx hb dX8_editOf_2 ?_
  refine lv_istore_n (lv' := [(3, .int (qI (0))), (2, .int (qI (-1))), (0, .ref (mo)), (1, .int (qI (x9)))]) hx hb dX8_editOf_3 rfl hl (by decide) rfl (fun ls hl => ?_)
  have L_4 : ∀ (n_4 k : Nat) (y : Int), k ≤ ne → ne + 1 ≤ k + n_4 → (y = edOf (zE z) x9 k) → ∀ (ls : Array Slot), lv_has ls 4 [(0, .ref (mo)), (1, .int (qI (x9))), (2, .int (qI (y))), (3, .int (qI (((k : Nat) : Int))))] → W p l e (qrm 2) s m args below meth c s.heap [] 0 0 Q (F0 m 4 ls []) := by
    intro n_4
    induction n_4 with
    | zero => intro k _ h1 h2; exact absurd h2 (by omega)
    | succ n_4 ih_4 =>
      intro k y hk_4 hn_4 hy ls hl
      refine lv_iload_n hx hb dX8_editOf_4 rfl (lv_at hl 3 rfl) ?_
      refine lv_aload_n hx hb dX8_editOf_5 rfl (lv_at hl 0 rfl) ?_
      refine gf_X8_7 hx hb hg hown hK (fl_blk hP 0 rfl) 0 rfl rfl dX8_editOf_6 ?_
      refine q_bipush hx hb dX8_editOf_9 (by decide) ?_
      refine q_iald (j := 101) hx hb hK (fl_blk hP 1 rfl) 0 rfl (by omega) dX8_editOf_11 ?_
      refine q_icmp_ge (tgt := 37) hx hb dX8_editOf_12 (by decide) (by omega) (fun c_12 => ?_) (fun c_12 => ?_)
      · skip
        refine lv_iload_n hx hb dX8_editOf_37 rfl (lv_at hl 2 rfl) ?_
        exact hQ _ _ _ (by rw [hy, show k = ne by omega]) dX8_editOf_38
      · skip
        have er := edOf_rng (zE z) x9 k
        refine lv_aload_n hx hb dX8_editOf_15 rfl (lv_at hl 0 rfl) ?_
        refine lv_iload_n hx hb dX8_editOf_16 rfl (lv_at hl 3 rfl) ?_
        refine q_iconst hx hb dX8_editOf_17 ?_
        refine q_readi (va_runV (As := [.int (qI (((k : Nat) : Int))), .int (qI (0))]) (rest := []) ⟨hx, hb, hml, hown, hg⟩ (c_X8_ofEdit l D cy mo mz msv mtx mmo mif mmg mtn mie mme mrd mas (th) (sv) (ml) (tu) (fi) (ro) (sp) (it) (bl) (hh) (z) _ _ k 0 (by omega) (by omega)) (cv_X8_66 hg rfl rfl ⟨by decide, by decide⟩) ⟨q_blind0, va_recv hK (fl_blk hP 0 rfl) (ci := 8) (q0 := 0) rfl rfl, q_preR _ hK hN hP [0, 1] rfl⟩ rfl rfl hl.1 rfl (lv_room (Nat.le_of_ble_eq_true rfl)) dX8_editOf_18 ⟨by decide, by decide⟩) (fun r_18 h_18 => ?_)
        subst h_18
        refine lv_iload_n hx hb dX8_editOf_21 rfl (lv_at hl 1 rfl) ?_
        have hw := hE k (by omega)
        have e0 : z (102 + 3 * k + 0) = zE z 0 k := rfl
        have er := edOf_rng (zE z) x9 k
        refine q_icmp_ne (tgt := 29) hx hb dX8_editOf_22 (by decide) (by omega) (fun c_22 => ?_) (fun c_22 => ?_)
        · skip
          refine lv_iload_n hx hb dX8_editOf_29 rfl (lv_at hl 2 rfl) ?_
          refine lv_istore_n (lv' := [(2, .int (qI (y))), (0, .ref (mo)), (1, .int (qI (x9))), (3, .int (qI (((k : Nat) : Int))))]) hx hb dX8_editOf_30 rfl hl (by decide) rfl (fun ls hl => ?_)
          refine q_iinc (k := 3) (lv' := [(3, .int (qI ((((k : Nat) : Int)) + (1)))), (2, .int (qI (y))), (0, .ref (mo)), (1, .int (qI (x9)))]) hx hb dX8_editOf_31 hl rfl (by decide) rfl (fun ls hl => ?_)
          refine lv_goto (tgt := 4) hx hb dX8_editOf_34 (by decide) ?_
          exact ih_4 (k + 1) _ (by omega) (by omega) (hy.trans (edN_step c_22).symm) _ (lv_sub hl [2, 3, 1, 0] rfl)
        · skip
          refine lv_iload_n hx hb dX8_editOf_25 rfl (lv_at hl 3 rfl) ?_
          refine lv_goto (tgt := 30) hx hb dX8_editOf_26 (by decide) ?_
          refine lv_istore_n (lv' := [(2, .int (qI (((k : Nat) : Int)))), (0, .ref (mo)), (1, .int (qI (x9))), (3, .int (qI (((k : Nat) : Int))))]) hx hb dX8_editOf_30 rfl hl (by decide) rfl (fun ls hl => ?_)
          refine q_iinc (k := 3) (lv' := [(3, .int (qI ((((k : Nat) : Int)) + (1)))), (2, .int (qI (((k : Nat) : Int)))), (0, .ref (mo)), (1, .int (qI (x9)))]) hx hb dX8_editOf_31 hl rfl (by decide) rfl (fun ls hl => ?_)
          refine lv_goto (tgt := 4) hx hb dX8_editOf_34 (by decide) ?_
          exact ih_4 (k + 1) _ (by omega) (by omega) (edL_step hD (by omega) c_22).symm _ (lv_sub hl [2, 3, 1, 0] rfl)
  exact L_4 (ne + 1) (0) _ (by omega) (by omega) rfl _ (lv_sub hl [2, 3, 1, 0] rfl)

set_option maxRecDepth 100000 in
set_option maxHeartbeats 4000000 in
theorem c_X8_withPlace (l : Launch) (D : va_G) (cy : Nat → ClassId) (mo mz msv mtx mmo mif mmg mtn mie mme mrd mas : Nat) (th sv ml tu : Int) (fi : Bool) (ro sp it : Int) (bl : Bool) (hh : Int64) (z : Nat → Int) (nc ne : Nat) (hnc : z 20 = (nc : Int)) (hne : z 101 = (ne : Int)) (hc : nc ≤ 16) (he : ne ≤ 4) (hC : qWR (zC z) nc) (hE : qWR (zE z) ne) (x9 : Int) (hx9 : 0 ≤ x9 ∧ x9 ≤ 9) : qRd l yX8_withPlace (.code yX8_withPlace cX8_withPlace 4 (some .int)) 2 [.ref (mo), .int (qI (x9))] D cy [[(mo, .inr (8, [.int (qI (th)), .ref (mz), .int (qI (sv)), .ref (msv), .int (qI (ml)), .ref (mtx), .ref (mmo), .int (qI (tu)), .ref (mif), .ref (mmg), .ref (mtn), .ref (mie), .ref (mme), .int (qz (fi)), .int (qI (ro)), .int (qI (sp)), .int (qI (it)), .int (qz (bl)), .ref (mrd), .ref (mas), .long (hh)]))], [(mz, aI cy 115 (z))]] (vp_Si (fun r => r = qI ((cnt (fun i => decide (zC z 0 i = x9 ∨ zC z 1 i = x9)) nc : Nat) : Int))) := by
  refine q_ofRi (by decide +kernel) (Nat.le_of_ble_eq_true rfl) ?_
  intro p e s m args below meth c Q hx hb hml hown hg hQ hK hN hP ls hl
  have hown : s.vm.findClass RX8 = some m.cls := hown
  have hl : lv_has ls 4 [(0, .ref (mo)), (1, .int (qI (x9)))] := hl
  refine q_iconst hx hb dX8_withPlace_0 ?_
  refine lv_istore_n (lv' := [(2, .int (qI (0))), (0, .ref (mo)), (1, .int (qI (x9)))]) hx hb dX8_withPlace_1 rfl hl (by decide) rfl (fun ls hl => ?_)
  refine q_iconst hx hb dX8_withPlace_2 ?_
  refine lv_istore_n (lv' := [(3, .int (qI (0))), (2, .int (qI (0))), (0, .ref (mo)), (1, .int (qI (x9)))]) hx hb dX8_withPlace_3 rfl hl (by decide) rfl (fun ls hl => ?_)
  have L_4 : ∀ (n_4 k : Nat) (y : Nat), k ≤ nc → nc + 1 ≤ k + n_4 → (y = cnt (fun i => decide (zC z 0 i = x9 ∨ zC z 1 i = x9)) k) → (y ≤ k) → ∀ (ls : Array Slot), lv_has ls 4 [(0, .ref (mo)), (1, .int (qI (x9))), (2, .int (qI (((y : Nat) : Int)))), (3, .int (qI (((k : Nat) : Int))))] → W p l e (qrm 2) s m args below meth c s.heap [] 0 0 Q (F0 m 4 ls []) := by
    intro n_4
    induction n_4 with
    | zero => intro k _ h1 h2; exact absurd h2 (by omega)
    | succ n_4 ih_4 =>
      intro k y hk_4 hn_4 hy hy2 ls hl
      refine lv_iload_n hx hb dX8_withPlace_4 rfl (lv_at hl 3 rfl) ?_
      refine lv_aload_n hx hb dX8_withPlace_5 rfl (lv_at hl 0 rfl) ?_
      refine gf_X8_7 hx hb hg hown hK (fl_blk hP 0 rfl) 0 rfl rfl dX8_withPlace_6 ?_
      refine q_bipush hx hb dX8_withPlace_9 (by decide) ?_
      refine q_iald (j := 20) hx hb hK (fl_blk hP 1 rfl) 0 rfl (by omega) dX8_withPlace_11 ?_
      refine q_icmp_ge (tgt := 49) hx hb dX8_withPlace_12 (by decide) (by omega) (fun c_12 => ?_) (fun c_12 => ?_)
      · skip
        refine lv_iload_n hx hb dX8_withPlace_49 rfl (lv_at hl 2 rfl) ?_
        exact hQ _ _ _ (by rw [hy, show k = nc by omega]) dX8_withPlace_50
      · skip
        refine lv_iload_n hx hb dX8_withPlace_15 rfl (lv_at hl 2 rfl) ?_
        refine lv_aload_n hx hb dX8_withPlace_16 rfl (lv_at hl 0 rfl) ?_
        refine lv_iload_n hx hb dX8_withPlace_17 rfl (lv_at hl 3 rfl) ?_
        refine q_iconst hx hb dX8_withPlace_18 ?_
        refine q_readi (va_runV (As := [.int (qI (((k : Nat) : Int))), .int (qI (0))]) (rest := [.int (qI (((y : Nat) : Int)))]) ⟨hx, hb, hml, hown, hg⟩ (c_X8_of l D cy mo mz msv mtx mmo mif mmg mtn mie mme mrd mas (th) (sv) (ml) (tu) (fi) (ro) (sp) (it) (bl) (hh) (z) _ _ k 0 (by omega) (by omega)) (cv_X8_74 hg rfl rfl ⟨by decide, by decide⟩) ⟨q_blind0, va_recv hK (fl_blk hP 0 rfl) (ci := 8) (q0 := 0) rfl rfl, q_preR _ hK hN hP [0, 1] rfl⟩ rfl rfl hl.1 rfl (lv_room (Nat.le_of_ble_eq_true rfl)) dX8_withPlace_19 ⟨by decide, by decide⟩) (fun r_19 h_19 => ?_)
        subst h_19
        have hw := hC k (by omega)
        refine lv_iload_n hx hb dX8_withPlace_22 rfl (lv_at hl 1 rfl) ?_
        refine q_icmp_eq (tgt := 36) hx hb dX8_withPlace_23 (by decide) (by omega) (fun c_23 => ?_) (fun c_23 => ?_)
        · skip
          refine q_iconst hx hb dX8_withPlace_36 ?_
          refine lv_goto (tgt := 41) hx hb dX8_withPlace_37 (by decide) ?_
          refine q_iadd hx hb dX8_withPlace_41 ?_
          refine lv_istore_n (lv' := [(2, .int (qI ((((y : Nat) : Int)) + (1)))), (0, .ref (mo)), (1, .int (qI (x9))), (3, .int (qI (((k : Nat) : Int))))]) hx hb dX8_withPlace_42 rfl hl (by decide) rfl (fun ls hl => ?_)
          refine q_iinc (k := 3) (lv' := [(3, .int (qI ((((k : Nat) : Int)) + (1)))), (2, .int (qI ((((y : Nat) : Int)) + (1)))), (0, .ref (mo)), (1, .int (qI (x9)))]) hx hb dX8_withPlace_43 hl rfl (by decide) rfl (fun ls hl => ?_)
          refine lv_goto (tgt := 4) hx hb dX8_withPlace_46 (by decide) ?_
          exact ih_4 (k + 1) ((y + 1)) (by omega) (by omega) (cnt_up hy (decide_eq_true (by omega))) (by omega) _ (lv_sub hl [2, 3, 1, 0] rfl)
        · skip
          refine lv_aload_n hx hb dX8_withPlace_26 rfl (lv_at hl 0 rfl) ?_
          refine lv_iload_n hx hb dX8_withPlace_27 rfl (lv_at hl 3 rfl) ?_
          refine q_iconst hx hb dX8_withPlace_28 ?_
          refine q_readi (va_runV (As := [.int (qI (((k : Nat) : Int))), .int (qI (1))]) (rest := [.int (qI (((y : Nat) : Int)))]) ⟨hx, hb, hml, hown, hg⟩ (c_X8_of l D cy mo mz msv mtx mmo mif mmg mtn mie mme mrd mas (th) (sv) (ml) (tu) (fi) (ro) (sp) (it) (bl) (hh) (z) _ _ k 1 (by omega) (by omega)) (cv_X8_74 hg rfl rfl ⟨by decide, by decide⟩) ⟨q_blind0, va_recv hK (fl_blk hP 0 rfl) (ci := 8) (q0 := 0) rfl rfl, q_preR _ hK hN hP [0, 1] rfl⟩ rfl rfl hl.1 rfl (lv_room (Nat.le_of_ble_eq_true rfl)) dX8_withPlace_29 ⟨by decide, by decide⟩) (fun r_29 h_29 => ?_)
          subst h_29
          refine lv_iload_n hx hb dX8_withPlace_32 rfl (lv_at hl 1 rfl) ?_
          refine q_icmp_ne (tgt := 40) hx hb dX8_withPlace_33 (by decide) (by omega) (fun c_33 => ?_) (fun c_33 => ?_)
          · skip
            refine q_iconst hx hb dX8_withPlace_40 ?_
            refine q_iadd hx hb dX8_withPlace_41 ?_
            refine lv_istore_n (lv' := [(2, .int (qI ((((y : Nat) : Int)) + (0)))), (0, .ref (mo)), (1, .int (qI (x9))), (3, .int (qI (((k : Nat) : Int))))]) hx hb dX8_withPlace_42 rfl hl (by decide) rfl (fun ls hl => ?_)
            refine q_iinc (k := 3) (lv' := [(3, .int (qI ((((k : Nat) : Int)) + (1)))), (2, .int (qI ((((y : Nat) : Int)) + (0)))), (0, .ref (mo)), (1, .int (qI (x9)))]) hx hb dX8_withPlace_43 hl rfl (by decide) rfl (fun ls hl => ?_)
            refine lv_goto (tgt := 4) hx hb dX8_withPlace_46 (by decide) ?_
            exact ih_4 (k + 1) ((y + 0)) (by omega) (by omega) (cnt_no hy (decide_eq_false (by omega))) (by omega) _ (lv_sub hl [2, 3, 1, 0] rfl)
          · skip
            refine q_iconst hx hb dX8_withPlace_36 ?_
            refine lv_goto (tgt := 41) hx hb dX8_withPlace_37 (by decide) ?_
            refine q_iadd hx hb dX8_withPlace_41 ?_
            refine lv_istore_n (lv' := [(2, .int (qI ((((y : Nat) : Int)) + (1)))), (0, .ref (mo)), (1, .int (qI (x9))), (3, .int (qI (((k : Nat) : Int))))]) hx hb dX8_withPlace_42 rfl hl (by decide) rfl (fun ls hl => ?_)
            refine q_iinc (k := 3) (lv' := [(3, .int (qI ((((k : Nat) : Int)) + (1)))), (2, .int (qI ((((y : Nat) : Int)) + (1)))), (0, .ref (mo)), (1, .int (qI (x9)))]) hx hb dX8_withPlace_43 hl rfl (by decide) rfl (fun ls hl => ?_)
            refine lv_goto (tgt := 4) hx hb dX8_withPlace_46 (by decide) ?_
            exact ih_4 (k + 1) ((y + 1)) (by omega) (by omega) (cnt_up hy (decide_eq_true (by omega))) (by omega) _ (lv_sub hl [2, 3, 1, 0] rfl)
  exact L_4 (nc + 1) (0) (0) (by omega) (by omega) rfl (by omega) _ (lv_sub hl [2, 3, 1, 0] rfl)

set_option maxRecDepth 100000 in
set_option maxHeartbeats 4000000 in
theorem c_X8_holds (l : Launch) (D : va_G) (cy : Nat → ClassId) (mo mz msv mtx mmo mif mmg mtn mie mme mrd mas : Nat) (th sv ml tu : Int) (fi : Bool) (ro sp it : Int) (bl : Bool) (hh : Int64) (z : Nat → Int) (nc ne : Nat) (hnc : z 20 = (nc : Int)) (hne : z 101 = (ne : Int)) (hc : nc ≤ 16) (he : ne ≤ 4) (hC : qWR (zC z) nc) (hE : qWR (zE z) ne) (hV : qV z) (x9 : Int) (k : Nat) (hk : x9 = (k : Int) ∧ k < nc) : qRd l yX8_holds (.code yX8_holds cX8_holds 4 (some .boolean)) 2 [.ref (mo), .int (qI (x9))] D cy [[(mo, .inr (8, [.int (qI (th)), .ref (mz), .int (qI (sv)), .ref (msv), .int (qI (ml)), .ref (mtx), .ref (mmo), .int (qI (tu)), .ref (mif), .ref (mmg), .ref (mtn), .ref (mie), .ref (mme), .int (qz (fi)), .int (qI (ro)), .int (qI (sp)), .int (qI (it)), .int (qz (bl)), .ref (mrd), .ref (mas), .long (hh)]))], [(mz, aI cy 115 (z))]] (vp_Si (fun r => ∃ b : Bool, r = qz b ∧ (fun b => b = true ↔ hoB z (zC z) k = true) b)) := by
  refine q_ofRz (post := fun b => b = true ↔ hoB z (zC z) k = true) (by decide +kernel) (Nat.le_of_ble_eq_true rfl) ?_
  intro p e s m args below meth c Q hx hb hml hown hg hQ hK hN hP ls hl
  have hown : s.vm.findClass RX8 = some m.cls := hown
  have hl : lv_has ls 4 [(0, .ref (mo)), (1, .int (qI (x9)))] := hl
  have hk1 := hk.1
  have hk2 := hk.2
  have hw := hC k hk2
  have b0 := hV (zC z 0 k).toNat (by omega)
  have d9 : zC z 1 k ≠ -1 → -1000 ≤ z (zC z 1 k).toNat ∧ z (zC z 1 k).toNat ≤ 1000 := fun h => hV _ (by omega)
  refine lv_aload_n hx hb dX8_holds_0 rfl (lv_at hl 0 rfl) ?_
  refine gf_X8_7 hx hb hg hown hK (fl_blk hP 0 rfl) 0 rfl rfl dX8_holds_1 ?_
  refine lv_aload_n hx hb dX8_holds_4 rfl (lv_at hl 0 rfl) ?_
  refine lv_iload_n hx hb dX8_holds_5 rfl (lv_at hl 1 rfl) ?_
  refine q_iconst hx hb dX8_holds_6 ?_
  refine q_readi (va_runV (As := [.int (qI (x9)), .int (qI (0))]) (rest := [.ref (mz)]) ⟨hx, hb, hml, hown, hg⟩ (c_X8_of l D cy mo mz msv mtx mmo mif mmg mtn mie mme mrd mas (th) (sv) (ml) (tu) (fi) (ro) (sp) (it) (bl) (hh) (z) _ _ k 0 (by omega) (by omega)) (cv_X8_74 hg rfl rfl ⟨by decide, by decide⟩) ⟨q_blind0, va_recv hK (fl_blk hP 0 rfl) (ci := 8) (q0 := 0) rfl rfl, q_preR _ hK hN hP [0, 1] rfl⟩ rfl rfl hl.1 rfl (lv_room (Nat.le_of_ble_eq_true rfl)) dX8_holds_7 ⟨by decide, by decide⟩) (fun r_7 h_7 => ?_)
  subst h_7
  refine q_iald (j := (zC z 0 k).toNat) hx hb hK (fl_blk hP 1 rfl) 0 rfl (by omega) dX8_holds_10 ?_
  refine lv_aload_n hx hb dX8_holds_11 rfl (lv_at hl 0 rfl) ?_
  refine lv_iload_n hx hb dX8_holds_12 rfl (lv_at hl 1 rfl) ?_
  refine q_iconst hx hb dX8_holds_13 ?_
  refine q_readi (va_runV (As := [.int (qI (x9)), .int (qI (1))]) (rest := [.int (qI (z ((zC z 0 k).toNat)))]) ⟨hx, hb, hml, hown, hg⟩ (c_X8_of l D cy mo mz msv mtx mmo mif mmg mtn mie mme mrd mas (th) (sv) (ml) (tu) (fi) (ro) (sp) (it) (bl) (hh) (z) _ _ k 1 (by omega) (by omega)) (cv_X8_74 hg rfl rfl ⟨by decide, by decide⟩) ⟨q_blind0, va_recv hK (fl_blk hP 0 rfl) (ci := 8) (q0 := 0) rfl rfl, q_preR _ hK hN hP [0, 1] rfl⟩ rfl rfl hl.1 rfl (lv_room (Nat.le_of_ble_eq_true rfl)) dX8_holds_14 ⟨by decide, by decide⟩) (fun r_14 h_14 => ?_)
  subst h_14
  refine q_iconst hx hb dX8_holds_17 ?_
  refine q_icmp_ne (tgt := 25) hx hb dX8_holds_18 (by decide) (by omega) (fun c_18 => ?_) (fun c_18 => ?_)
  · skip
    have d9 := d9 c_18
    refine lv_aload_n hx hb dX8_holds_25 rfl (lv_at hl 0 rfl) ?_
    refine gf_X8_7 hx hb hg hown hK (fl_blk hP 0 rfl) 0 rfl rfl dX8_holds_26 ?_
    refine lv_aload_n hx hb dX8_holds_29 rfl (lv_at hl 0 rfl) ?_
    refine lv_iload_n hx hb dX8_holds_30 rfl (lv_at hl 1 rfl) ?_
    refine q_iconst hx hb dX8_holds_31 ?_
    refine q_readi (va_runV (As := [.int (qI (x9)), .int (qI (1))]) (rest := [.ref (mz), .int (qI (z ((zC z 0 k).toNat)))]) ⟨hx, hb, hml, hown, hg⟩ (c_X8_of l D cy mo mz msv mtx mmo mif mmg mtn mie mme mrd mas (th) (sv) (ml) (tu) (fi) (ro) (sp) (it) (bl) (hh) (z) _ _ k 1 (by omega) (by omega)) (cv_X8_74 hg rfl rfl ⟨by decide, by decide⟩) ⟨q_blind0, va_recv hK (fl_blk hP 0 rfl) (ci := 8) (q0 := 0) rfl rfl, q_preR _ hK hN hP [0, 1] rfl⟩ rfl rfl hl.1 rfl (lv_room (Nat.le_of_ble_eq_true rfl)) dX8_holds_32 ⟨by decide, by decide⟩) (fun r_32 h_32 => ?_)
    subst h_32
    refine q_iald (j := (zC z 1 k).toNat) hx hb hK (fl_blk hP 1 rfl) 0 rfl (by omega) dX8_holds_35 ?_
    refine q_isub hx hb dX8_holds_36 ?_
    refine lv_istore_n (lv' := [(2, .int (qI ((z ((zC z 0 k).toNat)) - (z ((zC z 1 k).toNat))))), (0, .ref (mo)), (1, .int (qI (x9)))]) hx hb dX8_holds_37 rfl hl (by decide) rfl (fun ls hl => ?_)
    refine lv_aload_n hx hb dX8_holds_38 rfl (lv_at hl 1 rfl) ?_
    refine lv_iload_n hx hb dX8_holds_39 rfl (lv_at hl 2 rfl) ?_
    refine q_iconst hx hb dX8_holds_40 ?_
    refine q_readi (va_runV (As := [.int (qI (x9)), .int (qI (2))]) (rest := []) ⟨hx, hb, hml, hown, hg⟩ (c_X8_of l D cy mo mz msv mtx mmo mif mmg mtn mie mme mrd mas (th) (sv) (ml) (tu) (fi) (ro) (sp) (it) (bl) (hh) (z) _ _ k 2 (by omega) (by omega)) (cv_X8_74 hg rfl rfl ⟨by decide, by decide⟩) ⟨q_blind0, va_recv hK (fl_blk hP 0 rfl) (ci := 8) (q0 := 0) rfl rfl, q_preR _ hK hN hP [0, 1] rfl⟩ rfl rfl hl.1 rfl (lv_room (Nat.le_of_ble_eq_true rfl)) dX8_holds_41 ⟨by decide, by decide⟩) (fun r_41 h_41 => ?_)
    subst h_41
    refine lv_istore_n (lv' := [(3, .int (qI (zC z 2 k))), (2, .int (qI ((z ((zC z 0 k).toNat)) - (z ((zC z 1 k).toNat))))), (0, .ref (mo)), (1, .int (qI (x9)))]) hx hb dX8_holds_44 rfl hl (by decide) rfl (fun ls hl => ?_)
    refine lv_iload_n hx hb dX8_holds_45 rfl (lv_at hl 0 rfl) ?_
    refine q_if_ne (tgt := 67) hx hb dX8_holds_46 (by decide) (by omega) (fun c_46 => ?_) (fun c_46 => ?_)
    · skip
      refine lv_iload_n hx hb dX8_holds_67 rfl (lv_at hl 0 rfl) ?_
      refine q_iconst hx hb dX8_holds_68 ?_
      refine q_icmp_ne (tgt := 90) hx hb dX8_holds_69 (by decide) (by omega) (fun c_69 => ?_) (fun c_69 => ?_)
      · skip
        refine lv_iload_n hx hb dX8_holds_90 rfl (lv_at hl 1 rfl) ?_
        refine lv_aload_n hx hb dX8_holds_91 rfl (lv_at hl 2 rfl) ?_
        refine lv_iload_n hx hb dX8_holds_92 rfl (lv_at hl 3 rfl) ?_
        refine q_iconst hx hb dX8_holds_93 ?_
        refine q_readi (va_runV (As := [.int (qI (x9)), .int (qI (3))]) (rest := [.int (qI ((z ((zC z 0 k).toNat)) - (z ((zC z 1 k).toNat))))]) ⟨hx, hb, hml, hown, hg⟩ (c_X8_of l D cy mo mz msv mtx mmo mif mmg mtn mie mme mrd mas (th) (sv) (ml) (tu) (fi) (ro) (sp) (it) (bl) (hh) (z) _ _ k 3 (by omega) (by omega)) (cv_X8_74 hg rfl rfl ⟨by decide, by decide⟩) ⟨q_blind0, va_recv hK (fl_blk hP 0 rfl) (ci := 8) (q0 := 0) rfl rfl, q_preR _ hK hN hP [0, 1] rfl⟩ rfl rfl hl.1 rfl (lv_room (Nat.le_of_ble_eq_true rfl)) dX8_holds_94 ⟨by decide, by decide⟩) (fun r_94 h_94 => ?_)
        subst h_94
        refine q_icmp_lt (tgt := 104) hx hb dX8_holds_97 (by decide) (by omega) (fun c_97 => ?_) (fun c_97 => ?_)
        · skip
          refine q_iconst hx hb dX8_holds_104 ?_
          have e9 : hoD z (zC z) k = (z ((zC z 0 k).toNat)) - (z ((zC z 1 k).toNat)) := by unfold hoD; rw [if_neg c_18]
          exact hQ _ _ false (iff_of_false (by decide) (by unfold hoB; rw [chB_iff]; unfold chP; omega)) dX8_holds_105
        · skip
          refine q_iconst hx hb dX8_holds_100 ?_
          refine lv_goto (tgt := 105) hx hb dX8_holds_101 (by decide) ?_
          have e9 : hoD z (zC z) k = (z ((zC z 0 k).toNat)) - (z ((zC z 1 k).toNat)) := by unfold hoD; rw [if_neg c_18]
          exact hQ _ _ true (iff_of_true rfl (by unfold hoB; rw [chB_iff]; unfold chP; omega)) dX8_holds_105
      · skip
        refine lv_iload_n hx hb dX8_holds_72 rfl (lv_at hl 1 rfl) ?_
        refine lv_aload_n hx hb dX8_holds_73 rfl (lv_at hl 2 rfl) ?_
        refine lv_iload_n hx hb dX8_holds_74 rfl (lv_at hl 3 rfl) ?_
        refine q_iconst hx hb dX8_holds_75 ?_
        refine q_readi (va_runV (As := [.int (qI (x9)), .int (qI (3))]) (rest := [.int (qI ((z ((zC z 0 k).toNat)) - (z ((zC z 1 k).toNat))))]) ⟨hx, hb, hml, hown, hg⟩ (c_X8_of l D cy mo mz msv mtx mmo mif mmg mtn mie mme mrd mas (th) (sv) (ml) (tu) (fi) (ro) (sp) (it) (bl) (hh) (z) _ _ k 3 (by omega) (by omega)) (cv_X8_74 hg rfl rfl ⟨by decide, by decide⟩) ⟨q_blind0, va_recv hK (fl_blk hP 0 rfl) (ci := 8) (q0 := 0) rfl rfl, q_preR _ hK hN hP [0, 1] rfl⟩ rfl rfl hl.1 rfl (lv_room (Nat.le_of_ble_eq_true rfl)) dX8_holds_76 ⟨by decide, by decide⟩) (fun r_76 h_76 => ?_)
        subst h_76
        refine q_icmp_ne (tgt := 86) hx hb dX8_holds_79 (by decide) (by omega) (fun c_79 => ?_) (fun c_79 => ?_)
        · skip
          refine q_iconst hx hb dX8_holds_86 ?_
          refine lv_goto (tgt := 105) hx hb dX8_holds_87 (by decide) ?_
          have e9 : hoD z (zC z) k = (z ((zC z 0 k).toNat)) - (z ((zC z 1 k).toNat)) := by unfold hoD; rw [if_neg c_18]
          exact hQ _ _ false (iff_of_false (by decide) (by unfold hoB; rw [chB_iff]; unfold chP; omega)) dX8_holds_105
        · skip
          refine q_iconst hx hb dX8_holds_82 ?_
          refine lv_goto (tgt := 105) hx hb dX8_holds_83 (by decide) ?_
          have e9 : hoD z (zC z) k = (z ((zC z 0 k).toNat)) - (z ((zC z 1 k).toNat)) := by unfold hoD; rw [if_neg c_18]
          exact hQ _ _ true (iff_of_true rfl (by unfold hoB; rw [chB_iff]; unfold chP; omega)) dX8_holds_105
    · skip
      refine lv_iload_n hx hb dX8_holds_49 rfl (lv_at hl 1 rfl) ?_
      refine lv_aload_n hx hb dX8_holds_50 rfl (lv_at hl 2 rfl) ?_
      refine lv_iload_n hx hb dX8_holds_51 rfl (lv_at hl 3 rfl) ?_
      refine q_iconst hx hb dX8_holds_52 ?_
      refine q_readi (va_runV (As := [.int (qI (x9)), .int (qI (3))]) (rest := [.int (qI ((z ((zC z 0 k).toNat)) - (z ((zC z 1 k).toNat))))]) ⟨hx, hb, hml, hown, hg⟩ (c_X8_of l D cy mo mz msv mtx mmo mif mmg mtn mie mme mrd mas (th) (sv) (ml) (tu) (fi) (ro) (sp) (it) (bl) (hh) (z) _ _ k 3 (by omega) (by omega)) (cv_X8_74 hg rfl rfl ⟨by decide, by decide⟩) ⟨q_blind0, va_recv hK (fl_blk hP 0 rfl) (ci := 8) (q0 := 0) rfl rfl, q_preR _ hK hN hP [0, 1] rfl⟩ rfl rfl hl.1 rfl (lv_room (Nat.le_of_ble_eq_true rfl)) dX8_holds_53 ⟨by decide, by decide⟩) (fun r_53 h_53 => ?_)
      subst h_53
      refine q_icmp_gt (tgt := 63) hx hb dX8_holds_56 (by decide) (by omega) (fun c_56 => ?_) (fun c_56 => ?_)
      · skip
        refine q_iconst hx hb dX8_holds_63 ?_
        refine lv_goto (tgt := 105) hx hb dX8_holds_64 (by decide) ?_
        have e9 : hoD z (zC z) k = (z ((zC z 0 k).toNat)) - (z ((zC z 1 k).toNat)) := by unfold hoD; rw [if_neg c_18]
        exact hQ _ _ false (iff_of_false (by decide) (by unfold hoB; rw [chB_iff]; unfold chP; omega)) dX8_holds_105
      · skip
        refine q_iconst hx hb dX8_holds_59 ?_
        refine lv_goto (tgt := 105) hx hb dX8_holds_60 (by decide) ?_
        have e9 : hoD z (zC z) k = (z ((zC z 0 k).toNat)) - (z ((zC z 1 k).toNat)) := by unfold hoD; rw [if_neg c_18]
        exact hQ _ _ true (iff_of_true rfl (by unfold hoB; rw [chB_iff]; unfold chP; omega)) dX8_holds_105
  · skip
    refine q_iconst hx hb dX8_holds_21 ?_
    refine lv_goto (tgt := 36) hx hb dX8_holds_22 (by decide) ?_
    refine q_isub hx hb dX8_holds_36 ?_
    refine lv_istore_n (lv' := [(2, .int (qI ((z ((zC z 0 k).toNat)) - (0)))), (0, .ref (mo)), (1, .int (qI (x9)))]) hx hb dX8_holds_37 rfl hl (by decide) rfl (fun ls hl => ?_)
    refine lv_aload_n hx hb dX8_holds_38 rfl (lv_at hl 1 rfl) ?_
    refine lv_iload_n hx hb dX8_holds_39 rfl (lv_at hl 2 rfl) ?_
    refine q_iconst hx hb dX8_holds_40 ?_
    refine q_readi (va_runV (As := [.int (qI (x9)), .int (qI (2))]) (rest := []) ⟨hx, hb, hml, hown, hg⟩ (c_X8_of l D cy mo mz msv mtx mmo mif mmg mtn mie mme mrd mas (th) (sv) (ml) (tu) (fi) (ro) (sp) (it) (bl) (hh) (z) _ _ k 2 (by omega) (by omega)) (cv_X8_74 hg rfl rfl ⟨by decide, by decide⟩) ⟨q_blind0, va_recv hK (fl_blk hP 0 rfl) (ci := 8) (q0 := 0) rfl rfl, q_preR _ hK hN hP [0, 1] rfl⟩ rfl rfl hl.1 rfl (lv_room (Nat.le_of_ble_eq_true rfl)) dX8_holds_41 ⟨by decide, by decide⟩) (fun r_41 h_41 => ?_)
    subst h_41
    refine lv_istore_n (lv' := [(3, .int (qI (zC z 2 k))), (2, .int (qI ((z ((zC z 0 k).toNat)) - (0)))), (0, .ref (mo)), (1, .int (qI (x9)))]) hx hb dX8_holds_44 rfl hl (by decide) rfl (fun ls hl => ?_)
    refine lv_iload_n hx hb dX8_holds_45 rfl (lv_at hl 0 rfl) ?_
    refine q_if_ne (tgt := 67) hx hb dX8_holds_46 (by decide) (by omega) (fun c_46 => ?_) (fun c_46 => ?_)
    · skip
      refine lv_iload_n hx hb dX8_holds_67 rfl (lv_at hl 0 rfl) ?_
      refine q_iconst hx hb dX8_holds_68 ?_
      refine q_icmp_ne (tgt := 90) hx hb dX8_holds_69 (by decide) (by omega) (fun c_69 => ?_) (fun c_69 => ?_)
      · skip
        refine lv_iload_n hx hb dX8_holds_90 rfl (lv_at hl 1 rfl) ?_
        refine lv_aload_n hx hb dX8_holds_91 rfl (lv_at hl 2 rfl) ?_
        refine lv_iload_n hx hb dX8_holds_92 rfl (lv_at hl 3 rfl) ?_
        refine q_iconst hx hb dX8_holds_93 ?_
        refine q_readi (va_runV (As := [.int (qI (x9)), .int (qI (3))]) (rest := [.int (qI ((z ((zC z 0 k).toNat)) - (0)))]) ⟨hx, hb, hml, hown, hg⟩ (c_X8_of l D cy mo mz msv mtx mmo mif mmg mtn mie mme mrd mas (th) (sv) (ml) (tu) (fi) (ro) (sp) (it) (bl) (hh) (z) _ _ k 3 (by omega) (by omega)) (cv_X8_74 hg rfl rfl ⟨by decide, by decide⟩) ⟨q_blind0, va_recv hK (fl_blk hP 0 rfl) (ci := 8) (q0 := 0) rfl rfl, q_preR _ hK hN hP [0, 1] rfl⟩ rfl rfl hl.1 rfl (lv_room (Nat.le_of_ble_eq_true rfl)) dX8_holds_94 ⟨by decide, by decide⟩) (fun r_94 h_94 => ?_)
        subst h_94
        refine q_icmp_lt (tgt := 104) hx hb dX8_holds_97 (by decide) (by omega) (fun c_97 => ?_) (fun c_97 => ?_)
        · skip
          refine q_iconst hx hb dX8_holds_104 ?_
          have e9 : hoD z (zC z) k = (z ((zC z 0 k).toNat)) - (0) := by unfold hoD; rw [if_pos c_18]
          exact hQ _ _ false (iff_of_false (by decide) (by unfold hoB; rw [chB_iff]; unfold chP; omega)) dX8_holds_105
        · skip
          refine q_iconst hx hb dX8_holds_100 ?_
          refine lv_goto (tgt := 105) hx hb dX8_holds_101 (by decide) ?_
          have e9 : hoD z (zC z) k = (z ((zC z 0 k).toNat)) - (0) := by unfold hoD; rw [if_pos c_18]
          exact hQ _ _ true (iff_of_true rfl (by unfold hoB; rw [chB_iff]; unfold chP; omega)) dX8_holds_105
      · skip
        refine lv_iload_n hx hb dX8_holds_72 rfl (lv_at hl 1 rfl) ?_
        refine lv_aload_n hx hb dX8_holds_73 rfl (lv_at hl 2 rfl) ?_
        refine lv_iload_n hx hb dX8_holds_74 rfl (lv_at hl 3 rfl) ?_
        refine q_iconst hx hb dX8_holds_75 ?_
        refine q_readi (va_runV (As := [.int (qI (x9)), .int (qI (3))]) (rest := [.int (qI ((z ((zC z 0 k).toNat)) - (0)))]) ⟨hx, hb, hml, hown, hg⟩ (c_X8_of l D cy mo mz msv mtx mmo mif mmg mtn mie mme mrd mas (th) (sv) (ml) (tu) (fi) (ro) (sp) (it) (bl) (hh) (z) _ _ k 3 (by omega) (by omega)) (cv_X8_74 hg rfl rfl ⟨by decide, by decide⟩) ⟨q_blind0, va_recv hK (fl_blk hP 0 rfl) (ci := 8) (q0 := 0) rfl rfl, q_preR _ hK hN hP [0, 1] rfl⟩ rfl rfl hl.1 rfl (lv_room (Nat.le_of_ble_eq_true rfl)) dX8_holds_76 ⟨by decide, by decide⟩) (fun r_76 h_76 => ?_)
        subst h_76
        refine q_icmp_ne (tgt := 86) hx hb dX8_holds_79 (by decide) (by omega) (fun c_79 => ?_) (fun c_79 => ?_)
        · skip
          refine q_iconst hx hb dX8_holds_86 ?_
          refine lv_goto (tgt := 105) hx hb dX8_holds_87 (by decide) ?_
          have e9 : hoD z (zC z) k = (z ((zC z 0 k).toNat)) - (0) := by unfold hoD; rw [if_pos c_18]
          exact hQ _ _ false (iff_of_false (by decide) (by unfold hoB; rw [chB_iff]; unfold chP; omega)) dX8_holds_105
        · skip
          refine q_iconst hx hb dX8_holds_82 ?_
          refine lv_goto (tgt := 105) hx hb dX8_holds_83 (by decide) ?_
          have e9 : hoD z (zC z) k = (z ((zC z 0 k).toNat)) - (0) := by unfold hoD; rw [if_pos c_18]
          exact hQ _ _ true (iff_of_true rfl (by unfold hoB; rw [chB_iff]; unfold chP; omega)) dX8_holds_105
    · skip
      refine lv_iload_n hx hb dX8_holds_49 rfl (lv_at hl 1 rfl) ?_
      refine lv_aload_n hx hb dX8_holds_50 rfl (lv_at hl 2 rfl) ?_
      refine lv_iload_n hx hb dX8_holds_51 rfl (lv_at hl 3 rfl) ?_
      refine q_iconst hx hb dX8_holds_52 ?_
      refine q_readi (va_runV (As := [.int (qI (x9)), .int (qI (3))]) (rest := [.int (qI ((z ((zC z 0 k).toNat)) - (0)))]) ⟨hx, hb, hml, hown, hg⟩ (c_X8_of l D cy mo mz msv mtx mmo mif mmg mtn mie mme mrd mas (th) (sv) (ml) (tu) (fi) (ro) (sp) (it) (bl) (hh) (z) _ _ k 3 (by omega) (by omega)) (cv_X8_74 hg rfl rfl ⟨by decide, by decide⟩) ⟨q_blind0, va_recv hK (fl_blk hP 0 rfl) (ci := 8) (q0 := 0) rfl rfl, q_preR _ hK hN hP [0, 1] rfl⟩ rfl rfl hl.1 rfl (lv_room (Nat.le_of_ble_eq_true rfl)) dX8_holds_53 ⟨by decide, by decide⟩) (fun r_53 h_53 => ?_)
      subst h_53
      refine q_icmp_gt (tgt := 63) hx hb dX8_holds_56 (by decide) (by omega) (fun c_56 => ?_) (fun c_56 => ?_)
      · skip
        refine q_iconst hx hb dX8_holds_63 ?_
        refine lv_goto (tgt := 105) hx hb dX8_holds_64 (by decide) ?_
        have e9 : hoD z (zC z) k = (z ((zC z 0 k).toNat)) - (0) := by unfold hoD; rw [if_pos c_18]
        exact hQ _ _ false (iff_of_false (by decide) (by unfold hoB; rw [chB_iff]; unfold chP; omega)) dX8_holds_105
      · skip
        refine q_iconst hx hb dX8_holds_59 ?_
        refine lv_goto (tgt := 105) hx hb dX8_holds_60 (by decide) ?_
        have e9 : hoD z (zC z) k = (z ((zC z 0 k).toNat)) - (0) := by unfold hoD; rw [if_pos c_18]
        exact hQ _ _ true (iff_of_true rfl (by unfold hoB; rw [chB_iff]; unfold chP; omega)) dX8_holds_105

set_option maxRecDepth 100000 in
set_option maxHeartbeats 4000000 in
theorem c_X8_holding (l : Launch) (D : va_G) (cy : Nat → ClassId) (mo mz msv mtx mmo mif mmg mtn mie mme mrd mas : Nat) (th sv ml tu : Int) (fi : Bool) (ro sp it : Int) (bl : Bool) (hh : Int64) (z : Nat → Int) (nc ne : Nat) (hnc : z 20 = (nc : Int)) (hne : z 101 = (ne : Int)) (hc : nc ≤ 16) (he : ne ≤ 4) (hC : qWR (zC z) nc) (hE : qWR (zE z) ne) (hV : qV z) : qRd l yX8_holding (.code yX8_holding cX8_holding 3 (some .int)) 3 [.ref (mo)] D cy [[(mo, .inr (8, [.int (qI (th)), .ref (mz), .int (qI (sv)), .ref (msv), .int (qI (ml)), .ref (mtx), .ref (mmo), .int (qI (tu)), .ref (mif), .ref (mmg), .ref (mtn), .ref (mie), .ref (mme), .int (qz (fi)), .int (qI (ro)), .int (qI (sp)), .int (qI (it)), .int (qz (bl)), .ref (mrd), .ref (mas), .long (hh)]))], [(mz, aI cy 115 (z))]] (vp_Si (fun r => r = qI ((cnt (hoB z (zC z)) nc : Nat) : Int))) := by
  refine q_ofRi (by decide +kernel) (Nat.le_of_ble_eq_true rfl) ?_
  intro p e s m args below meth c Q hx hb hml hown hg hQ hK hN hP ls hl
  have hown : s.vm.findClass RX8 = some m.cls := hown
  have hl : lv_has ls 3 [(0, .ref (mo))] := hl
  refine q_iconst hx hb dX8_holding_0 ?_
  refine lv_istore_n (lv' := [(1, .int (qI (0))), (0, .ref (mo))]) hx hb dX8_holding_1 rfl hl (by decide) rfl (fun ls hl => ?_)
  refine q_iconst hx hb dX8_holding_2 ?_
  refine lv_istore_n (lv' := [(2, .int (qI (0))), (1, .int (qI (0))), (0, .ref (mo))]) hx hb dX8_holding_3 rfl hl (by decide) rfl (fun ls hl => ?_)
  have L_4 : ∀ (n_4 k : Nat) (y : Nat), k ≤ nc → nc + 1 ≤ k + n_4 → (y = cnt (hoB z (zC z)) k) → (y ≤ k) → ∀ (ls : Array Slot), lv_has ls 3 [(0, .ref (mo)), (1, .int (qI (((y : Nat) : Int)))), (2, .int (qI (((k : Nat) : Int))))] → W p l e (qrm 3) s m args below meth c s.heap [] 0 0 Q (F0 m 4 ls []) := by
    intro n_4
    induction n_4 with
    | zero => intro k _ h1 h2; exact absurd h2 (by omega)
    | succ n_4 ih_4 =>
      intro k y hk_4 hn_4 hy hy2 ls hl
      refine lv_iload_n hx hb dX8_holding_4 rfl (lv_at hl 2 rfl) ?_
      refine lv_aload_n hx hb dX8_holding_5 rfl (lv_at hl 0 rfl) ?_
      refine gf_X8_7 hx hb hg hown hK (fl_blk hP 0 rfl) 0 rfl rfl dX8_holding_6 ?_
      refine q_bipush hx hb dX8_holding_9 (by decide) ?_
      refine q_iald (j := 20) hx hb hK (fl_blk hP 1 rfl) 0 rfl (by omega) dX8_holding_11 ?_
      refine q_icmp_ge (tgt := 37) hx hb dX8_holding_12 (by decide) (by omega) (fun c_12 => ?_) (fun c_12 => ?_)
      · skip
        refine lv_iload_n hx hb dX8_holding_37 rfl (lv_at hl 1 rfl) ?_
        exact hQ _ _ _ (by rw [hy, show k = nc by omega]) dX8_holding_38
      · skip
        refine lv_iload_n hx hb dX8_holding_15 rfl (lv_at hl 1 rfl) ?_
        refine lv_aload_n hx hb dX8_holding_16 rfl (lv_at hl 0 rfl) ?_
        refine lv_iload_n hx hb dX8_holding_17 rfl (lv_at hl 2 rfl) ?_
        refine q_readz (va_runV (As := [.int (qI (((k : Nat) : Int)))]) (rest := [.int (qI (((y : Nat) : Int)))]) ⟨hx, hb, hml, hown, hg⟩ (c_X8_holds l D cy mo mz msv mtx mmo mif mmg mtn mie mme mrd mas (th) (sv) (ml) (tu) (fi) (ro) (sp) (it) (bl) (hh) (z) nc ne hnc hne hc he hC hE hV _ k (by omega)) (cv_X8_179 hg rfl rfl ⟨by decide, by decide⟩) ⟨q_blind0, va_recv hK (fl_blk hP 0 rfl) (ci := 8) (q0 := 0) rfl rfl, q_preR _ hK hN hP [0, 1] rfl⟩ rfl rfl hl.1 rfl (lv_room (Nat.le_of_ble_eq_true rfl)) dX8_holding_18 ⟨by decide, by decide⟩) (fun b_18 h_18 => ?_)
        refine q_ifz_eq (tgt := 28) hx hb dX8_holding_21 (by decide) (fun c_21 => ?_) (fun c_21 => ?_)
        · skip
          have g_21 := mt (h_18).mpr (by rw [c_21]; decide)
          refine q_iconst hx hb dX8_holding_28 ?_
          refine q_iadd hx hb dX8_holding_29 ?_
          refine lv_istore_n (lv' := [(1, .int (qI ((((y : Nat) : Int)) + (0)))), (0, .ref (mo)), (2, .int (qI (((k : Nat) : Int))))]) hx hb dX8_holding_30 rfl hl (by decide) rfl (fun ls hl => ?_)
          refine q_iinc (k := 2) (lv' := [(2, .int (qI ((((k : Nat) : Int)) + (1)))), (1, .int (qI ((((y : Nat) : Int)) + (0)))), (0, .ref (mo))]) hx hb dX8_holding_31 hl rfl (by decide) rfl (fun ls hl => ?_)
          refine lv_goto (tgt := 4) hx hb dX8_holding_34 (by decide) ?_
          exact ih_4 (k + 1) ((y + 0)) (by omega) (by omega) (cnt_no hy (Bool.eq_false_iff.mpr g_21)) (by omega) _ (lv_sub hl [2, 1, 0] rfl)
        · skip
          have g_21 := (h_18).mp c_21
          refine q_iconst hx hb dX8_holding_24 ?_
          refine lv_goto (tgt := 29) hx hb dX8_holding_25 (by decide) ?_
          refine q_iadd hx hb dX8_holding_29 ?_
          refine lv_istore_n (lv' := [(1, .int (qI ((((y : Nat) : Int)) + (1)))), (0, .ref (mo)), (2, .int (qI (((k : Nat) : Int))))]) hx hb dX8_holding_30 rfl hl (by decide) rfl (fun ls hl => ?_)
          refine q_iinc (k := 2) (lv' := [(2, .int (qI ((((k : Nat) : Int)) + (1)))), (1, .int (qI ((((y : Nat) : Int)) + (1)))), (0, .ref (mo))]) hx hb dX8_holding_31 hl rfl (by decide) rfl (fun ls hl => ?_)
          refine lv_goto (tgt := 4) hx hb dX8_holding_34 (by decide) ?_
          exact ih_4 (k + 1) ((y + 1)) (by omega) (by omega) (cnt_up hy g_21) (by omega) _ (lv_sub hl [2, 1, 0] rfl)
  exact L_4 (nc + 1) (0) (0) (by omega) (by omega) rfl (by omega) _ (lv_sub hl [2, 1, 0] rfl)

set_option maxRecDepth 100000 in
set_option maxHeartbeats 4000000 in
theorem c_X8_values (l : Launch) (D : va_G) (cy : Nat → ClassId) (mo mz msv mtx mmo mif mmg mtn mie mme mrd mas : Nat) (th sv ml tu : Int) (fi : Bool) (ro sp it : Int) (bl : Bool) (hh : Int64) (z : Nat → Int) (hV : qV z) : qRd l yX8_values (.code yX8_values cX8_values 3 (some .int)) 1 [.ref (mo)] D cy [[(mo, .inr (8, [.int (qI (th)), .ref (mz), .int (qI (sv)), .ref (msv), .int (qI (ml)), .ref (mtx), .ref (mmo), .int (qI (tu)), .ref (mif), .ref (mmg), .ref (mtn), .ref (mie), .ref (mme), .int (qz (fi)), .int (qI (ro)), .int (qI (sp)), .int (qI (it)), .int (qz (bl)), .ref (mrd), .ref (mas), .long (hh)]))], [(mz, aI cy 115 (z))]] (vp_Si (fun r => r = qI (sumV z 10))) := by
  refine q_ofRi (by decide +kernel) (Nat.le_of_ble_eq_true rfl) ?_
  intro p e s m args below meth c Q hx hb hml hown hg hQ hK hN hP ls hl
  have hown : s.vm.findClass RX8 = some m.cls := hown
  have hl : lv_has ls 3 [(0, .ref (mo))] := hl
  refine q_iconst hx hb dX8_values_0 ?_
  refine lv_istore_n (lv' := [(1, .int (qI (0))), (0, .ref (mo))]) hx hb dX8_values_1 rfl hl (by decide) rfl (fun ls hl => ?_)
  refine q_iconst hx hb dX8_values_2 ?_
  refine lv_istore_n (lv' := [(2, .int (qI (0))), (1, .int (qI (0))), (0, .ref (mo))]) hx hb dX8_values_3 rfl hl (by decide) rfl (fun ls hl => ?_)
  have L_4 : ∀ (n_4 k : Nat) (y : Int), k ≤ 10 → 10 + 1 ≤ k + n_4 → (y = sumV z k) → ∀ (ls : Array Slot), lv_has ls 3 [(0, .ref (mo)), (1, .int (qI (y))), (2, .int (qI (((k : Nat) : Int))))] → W p l e (qrm 1) s m args below meth c s.heap [] 0 0 Q (F0 m 4 ls []) := by
    intro n_4
    induction n_4 with
    | zero => intro k _ h1 h2; exact absurd h2 (by omega)
    | succ n_4 ih_4 =>
      intro k y hk_4 hn_4 hy ls hl
      refine lv_iload_n hx hb dX8_values_4 rfl (lv_at hl 2 rfl) ?_
      refine q_bipush hx hb dX8_values_5 (by decide) ?_
      refine q_icmp_ge (tgt := 25) hx hb dX8_values_7 (by decide) (by omega) (fun c_7 => ?_) (fun c_7 => ?_)
      · skip
        refine lv_iload_n hx hb dX8_values_25 rfl (lv_at hl 1 rfl) ?_
        exact hQ _ _ _ (by rw [hy, show k = 10 by omega]) dX8_values_26
      · skip
        refine lv_iload_n hx hb dX8_values_10 rfl (lv_at hl 1 rfl) ?_
        refine lv_aload_n hx hb dX8_values_11 rfl (lv_at hl 0 rfl) ?_
        refine gf_X8_7 hx hb hg hown hK (fl_blk hP 0 rfl) 0 rfl rfl dX8_values_12 ?_
        refine lv_iload_n hx hb dX8_values_15 rfl (lv_at hl 2 rfl) ?_
        refine q_iald (j := k) hx hb hK (fl_blk hP 1 rfl) 0 rfl (by omega) dX8_values_16 ?_
        refine q_iadd hx hb dX8_values_17 ?_
        refine lv_istore_n (lv' := [(1, .int (qI ((y) + (z k)))), (0, .ref (mo)), (2, .int (qI (((k : Nat) : Int))))]) hx hb dX8_values_18 rfl hl (by decide) rfl (fun ls hl => ?_)
        refine q_iinc (k := 2) (lv' := [(2, .int (qI ((((k : Nat) : Int)) + (1)))), (1, .int (qI ((y) + (z k)))), (0, .ref (mo))]) hx hb dX8_values_19 hl rfl (by decide) rfl (fun ls hl => ?_)
        refine lv_goto (tgt := 4) hx hb dX8_values_22 (by decide) ?_
        exact ih_4 (k + 1) _ (by omega) (by omega) (by rw [hy]; rfl) _ (lv_sub hl [2, 1, 0] rfl)
  exact L_4 (10 + 1) (0) (0) (by omega) (by omega) rfl _ (lv_sub hl [2, 1, 0] rfl)

set_option maxRecDepth 100000 in
set_option maxHeartbeats 4000000 in
theorem c_X8_filledMany (l : Launch) (D : va_G) (cy : Nat → ClassId) (mo mz msv mtx mmo mif mmg mtn mie mme mrd mas : Nat) (th sv ml tu : Int) (fi : Bool) (ro sp it : Int) (bl : Bool) (hh : Int64) (z : Nat → Int) (nc ne : Nat) (hnc : z 20 = (nc : Int)) (hc : nc ≤ 16) (isF : Nat → Bool) (but : Int) (hbut : -1 ≤ but ∧ but ≤ 16) : qRd l yX8_filledMany (.code yX8_filledMany cX8_filledMany 4 (some .int)) 1 [.ref (mo), .int (qI (but))] D cy [[(mo, .inr (8, [.int (qI (th)), .ref (mz), .int (qI (sv)), .ref (msv), .int (qI (ml)), .ref (mtx), .ref (mmo), .int (qI (tu)), .ref (mif), .ref (mmg), .ref (mtn), .ref (mie), .ref (mme), .int (qz (fi)), .int (qI (ro)), .int (qI (sp)), .int (qI (it)), .int (qz (bl)), .ref (mrd), .ref (mas), .long (hh)]))], [(mz, aI cy 115 (z))], [(mif, aZ cy 16 (isF))]] (vp_Si (fun r => r = qI ((cnt (fun i => decide ((i : Int) ≠ but) && isF i) nc : Nat) : Int))) := by
  refine q_ofRi (by decide +kernel) (Nat.le_of_ble_eq_true rfl) ?_
  intro p e s m args below meth c Q hx hb hml hown hg hQ hK hN hP ls hl
  have hown : s.vm.findClass RX8 = some m.cls := hown
  have hl : lv_has ls 4 [(0, .ref (mo)), (1, .int (qI (but)))] := hl
  refine q_iconst hx hb dX8_filledMany_0 ?_
  refine lv_istore_n (lv' := [(2, .int (qI (0))), (0, .ref (mo)), (1, .int (qI (but)))]) hx hb dX8_filledMany_1 rfl hl (by decide) rfl (fun ls hl => ?_)
  refine q_iconst hx hb dX8_filledMany_2 ?_
  refine lv_istore_n (lv' := [(3, .int (qI (0))), (2, .int (qI (0))), (0, .ref (mo)), (1, .int (qI (but)))]) hx hb dX8_filledMany_3 rfl hl (by decide) rfl (fun ls hl => ?_)
  have L_4 : ∀ (n_4 k : Nat) (y : Nat), k ≤ nc → nc + 1 ≤ k + n_4 → (y = cnt (fun i => decide ((i : Int) ≠ but) && isF i) k) → (y ≤ k) → ∀ (ls : Array Slot), lv_has ls 4 [(0, .ref (mo)), (1, .int (qI (but))), (2, .int (qI (((y : Nat) : Int)))), (3, .int (qI (((k : Nat) : Int))))] → W p l e (qrm 1) s m args below meth c s.heap [] 0 0 Q (F0 m 4 ls []) := by
    intro n_4
    induction n_4 with
    | zero => intro k _ h1 h2; exact absurd h2 (by omega)
    | succ n_4 ih_4 =>
      intro k y hk_4 hn_4 hy hy2 ls hl
      refine lv_iload_n hx hb dX8_filledMany_4 rfl (lv_at hl 3 rfl) ?_
      refine lv_aload_n hx hb dX8_filledMany_5 rfl (lv_at hl 0 rfl) ?_
      refine gf_X8_7 hx hb hg hown hK (fl_blk hP 0 rfl) 0 rfl rfl dX8_filledMany_6 ?_
      refine q_bipush hx hb dX8_filledMany_9 (by decide) ?_
      refine q_iald (j := 20) hx hb hK (fl_blk hP 1 rfl) 0 rfl (by omega) dX8_filledMany_11 ?_
      refine q_icmp_ge (tgt := 43) hx hb dX8_filledMany_12 (by decide) (by omega) (fun c_12 => ?_) (fun c_12 => ?_)
      · skip
        refine lv_iload_n hx hb dX8_filledMany_43 rfl (lv_at hl 2 rfl) ?_
        exact hQ _ _ _ (by rw [hy, show k = nc by omega]) dX8_filledMany_44
      · skip
        refine lv_iload_n hx hb dX8_filledMany_15 rfl (lv_at hl 2 rfl) ?_
        refine lv_iload_n hx hb dX8_filledMany_16 rfl (lv_at hl 3 rfl) ?_
        refine lv_iload_n hx hb dX8_filledMany_17 rfl (lv_at hl 1 rfl) ?_
        refine q_icmp_eq (tgt := 34) hx hb dX8_filledMany_18 (by decide) (by omega) (fun c_18 => ?_) (fun c_18 => ?_)
        · skip
          refine q_iconst hx hb dX8_filledMany_34 ?_
          refine q_iadd hx hb dX8_filledMany_35 ?_
          refine lv_istore_n (lv' := [(2, .int (qI ((((y : Nat) : Int)) + (0)))), (0, .ref (mo)), (1, .int (qI (but))), (3, .int (qI (((k : Nat) : Int))))]) hx hb dX8_filledMany_36 rfl hl (by decide) rfl (fun ls hl => ?_)
          refine q_iinc (k := 3) (lv' := [(3, .int (qI ((((k : Nat) : Int)) + (1)))), (2, .int (qI ((((y : Nat) : Int)) + (0)))), (0, .ref (mo)), (1, .int (qI (but)))]) hx hb dX8_filledMany_37 hl rfl (by decide) rfl (fun ls hl => ?_)
          refine lv_goto (tgt := 4) hx hb dX8_filledMany_40 (by decide) ?_
          exact ih_4 (k + 1) ((y + 0)) (by omega) (by omega) (cnt_no hy (by rw [decide_eq_false (by omega)]; rfl)) (by omega) _ (lv_sub hl [2, 3, 1, 0] rfl)
        · skip
          refine lv_aload_n hx hb dX8_filledMany_21 rfl (lv_at hl 0 rfl) ?_
          refine gf_X8_22 hx hb hg hown hK (fl_blk hP 0 rfl) 0 rfl rfl dX8_filledMany_22 ?_
          refine lv_iload_n hx hb dX8_filledMany_25 rfl (lv_at hl 3 rfl) ?_
          refine q_zald (j := k) hx hb hK (fl_blk hP 2 rfl) 0 rfl (by omega) dX8_filledMany_26 ?_
          refine q_ifz_eq (tgt := 34) hx hb dX8_filledMany_27 (by decide) (fun c_27 => ?_) (fun c_27 => ?_)
          · skip
            refine q_iconst hx hb dX8_filledMany_34 ?_
            refine q_iadd hx hb dX8_filledMany_35 ?_
            refine lv_istore_n (lv' := [(2, .int (qI ((((y : Nat) : Int)) + (0)))), (0, .ref (mo)), (1, .int (qI (but))), (3, .int (qI (((k : Nat) : Int))))]) hx hb dX8_filledMany_36 rfl hl (by decide) rfl (fun ls hl => ?_)
            refine q_iinc (k := 3) (lv' := [(3, .int (qI ((((k : Nat) : Int)) + (1)))), (2, .int (qI ((((y : Nat) : Int)) + (0)))), (0, .ref (mo)), (1, .int (qI (but)))]) hx hb dX8_filledMany_37 hl rfl (by decide) rfl (fun ls hl => ?_)
            refine lv_goto (tgt := 4) hx hb dX8_filledMany_40 (by decide) ?_
            exact ih_4 (k + 1) ((y + 0)) (by omega) (by omega) (cnt_no hy (by rw [c_27, Bool.and_false])) (by omega) _ (lv_sub hl [2, 3, 1, 0] rfl)
          · skip
            refine q_iconst hx hb dX8_filledMany_30 ?_
            refine lv_goto (tgt := 35) hx hb dX8_filledMany_31 (by decide) ?_
            refine q_iadd hx hb dX8_filledMany_35 ?_
            refine lv_istore_n (lv' := [(2, .int (qI ((((y : Nat) : Int)) + (1)))), (0, .ref (mo)), (1, .int (qI (but))), (3, .int (qI (((k : Nat) : Int))))]) hx hb dX8_filledMany_36 rfl hl (by decide) rfl (fun ls hl => ?_)
            refine q_iinc (k := 3) (lv' := [(3, .int (qI ((((k : Nat) : Int)) + (1)))), (2, .int (qI ((((y : Nat) : Int)) + (1)))), (0, .ref (mo)), (1, .int (qI (but)))]) hx hb dX8_filledMany_37 hl rfl (by decide) rfl (fun ls hl => ?_)
            refine lv_goto (tgt := 4) hx hb dX8_filledMany_40 (by decide) ?_
            exact ih_4 (k + 1) ((y + 1)) (by omega) (by omega) (cnt_up hy (by rw [decide_eq_true c_18, c_27]; rfl)) (by omega) _ (lv_sub hl [2, 3, 1, 0] rfl)
  exact L_4 (nc + 1) (0) (0) (by omega) (by omega) rfl (by omega) _ (lv_sub hl [2, 3, 1, 0] rfl)

set_option maxRecDepth 100000 in
set_option maxHeartbeats 4000000 in
theorem c_X8_filledEdits (l : Launch) (D : va_G) (cy : Nat → ClassId) (mo mz msv mtx mmo mif mmg mtn mie mme mrd mas : Nat) (th sv ml tu : Int) (fi : Bool) (ro sp it : Int) (bl : Bool) (hh : Int64) (z : Nat → Int) (nc ne : Nat) (hne : z 101 = (ne : Int)) (he : ne ≤ 4) (isE : Nat → Bool) : qRd l yX8_filledEdits (.code yX8_filledEdits cX8_filledEdits 3 (some .int)) 1 [.ref (mo)] D cy [[(mo, .inr (8, [.int (qI (th)), .ref (mz), .int (qI (sv)), .ref (msv), .int (qI (ml)), .ref (mtx), .ref (mmo), .int (qI (tu)), .ref (mif), .ref (mmg), .ref (mtn), .ref (mie), .ref (mme), .int (qz (fi)), .int (qI (ro)), .int (qI (sp)), .int (qI (it)), .int (qz (bl)), .ref (mrd), .ref (mas), .long (hh)]))], [(mz, aI cy 115 (z))], [(mie, aZ cy 4 (isE))]] (vp_Si (fun r => r = qI ((cnt isE ne : Nat) : Int))) := by
  refine q_ofRi (by decide +kernel) (Nat.le_of_ble_eq_true rfl) ?_
  intro p e s m args below meth c Q hx hb hml hown hg hQ hK hN hP ls hl
  have hown : s.vm.findClass RX8 = some m.cls := hown
  have hl : lv_has ls 3 [(0, .ref (mo))] := hl
  refine q_iconst hx hb dX8_filledEdits_0 ?_
  refine lv_istore_n (lv' := [(1, .int (qI (0))), (0, .ref (mo))]) hx hb dX8_filledEdits_1 rfl hl (by decide) rfl (fun ls hl => ?_)
  refine q_iconst hx hb dX8_filledEdits_2 ?_
  refine lv_istore_n (lv' := [(2, .int (qI (0))), (1, .int (qI (0))), (0, .ref (mo))]) hx hb dX8_filledEdits_3 rfl hl (by decide) rfl (fun ls hl => ?_)
  have L_4 : ∀ (n_4 k : Nat) (y : Nat), k ≤ ne → ne + 1 ≤ k + n_4 → (y = cnt (isE) k) → (y ≤ k) → ∀ (ls : Array Slot), lv_has ls 3 [(0, .ref (mo)), (1, .int (qI (((y : Nat) : Int)))), (2, .int (qI (((k : Nat) : Int))))] → W p l e (qrm 1) s m args below meth c s.heap [] 0 0 Q (F0 m 4 ls []) := by
    intro n_4
    induction n_4 with
    | zero => intro k _ h1 h2; exact absurd h2 (by omega)
    | succ n_4 ih_4 =>
      intro k y hk_4 hn_4 hy hy2 ls hl
      refine lv_iload_n hx hb dX8_filledEdits_4 rfl (lv_at hl 2 rfl) ?_
      refine lv_aload_n hx hb dX8_filledEdits_5 rfl (lv_at hl 0 rfl) ?_
      refine gf_X8_7 hx hb hg hown hK (fl_blk hP 0 rfl) 0 rfl rfl dX8_filledEdits_6 ?_
      refine q_bipush hx hb dX8_filledEdits_9 (by decide) ?_
      refine q_iald (j := 101) hx hb hK (fl_blk hP 1 rfl) 0 rfl (by omega) dX8_filledEdits_11 ?_
      refine q_icmp_ge (tgt := 38) hx hb dX8_filledEdits_12 (by decide) (by omega) (fun c_12 => ?_) (fun c_12 => ?_)
      · skip
        refine lv_iload_n hx hb dX8_filledEdits_38 rfl (lv_at hl 1 rfl) ?_
        exact hQ _ _ _ (by rw [hy, show k = ne by omega]) dX8_filledEdits_39
      · skip
        refine lv_iload_n hx hb dX8_filledEdits_15 rfl (lv_at hl 1 rfl) ?_
        refine lv_aload_n hx hb dX8_filledEdits_16 rfl (lv_at hl 0 rfl) ?_
        refine gf_X8_32 hx hb hg hown hK (fl_blk hP 0 rfl) 0 rfl rfl dX8_filledEdits_17 ?_
        refine lv_iload_n hx hb dX8_filledEdits_20 rfl (lv_at hl 2 rfl) ?_
        refine q_zald (j := k) hx hb hK (fl_blk hP 2 rfl) 0 rfl (by omega) dX8_filledEdits_21 ?_
        refine q_ifz_eq (tgt := 29) hx hb dX8_filledEdits_22 (by decide) (fun c_22 => ?_) (fun c_22 => ?_)
        · skip
          refine q_iconst hx hb dX8_filledEdits_29 ?_
          refine q_iadd hx hb dX8_filledEdits_30 ?_
          refine lv_istore_n (lv' := [(1, .int (qI ((((y : Nat) : Int)) + (0)))), (0, .ref (mo)), (2, .int (qI (((k : Nat) : Int))))]) hx hb dX8_filledEdits_31 rfl hl (by decide) rfl (fun ls hl => ?_)
          refine q_iinc (k := 2) (lv' := [(2, .int (qI ((((k : Nat) : Int)) + (1)))), (1, .int (qI ((((y : Nat) : Int)) + (0)))), (0, .ref (mo))]) hx hb dX8_filledEdits_32 hl rfl (by decide) rfl (fun ls hl => ?_)
          refine lv_goto (tgt := 4) hx hb dX8_filledEdits_35 (by decide) ?_
          exact ih_4 (k + 1) ((y + 0)) (by omega) (by omega) (cnt_no hy c_22) (by omega) _ (lv_sub hl [2, 1, 0] rfl)
        · skip
          refine q_iconst hx hb dX8_filledEdits_25 ?_
          refine lv_goto (tgt := 30) hx hb dX8_filledEdits_26 (by decide) ?_
          refine q_iadd hx hb dX8_filledEdits_30 ?_
          refine lv_istore_n (lv' := [(1, .int (qI ((((y : Nat) : Int)) + (1)))), (0, .ref (mo)), (2, .int (qI (((k : Nat) : Int))))]) hx hb dX8_filledEdits_31 rfl hl (by decide) rfl (fun ls hl => ?_)
          refine q_iinc (k := 2) (lv' := [(2, .int (qI ((((k : Nat) : Int)) + (1)))), (1, .int (qI ((((y : Nat) : Int)) + (1)))), (0, .ref (mo))]) hx hb dX8_filledEdits_32 hl rfl (by decide) rfl (fun ls hl => ?_)
          refine lv_goto (tgt := 4) hx hb dX8_filledEdits_35 (by decide) ?_
          exact ih_4 (k + 1) ((y + 1)) (by omega) (by omega) (cnt_up hy c_22) (by omega) _ (lv_sub hl [2, 1, 0] rfl)
  exact L_4 (ne + 1) (0) (0) (by omega) (by omega) rfl (by omega) _ (lv_sub hl [2, 1, 0] rfl)

set_option maxRecDepth 100000 in
set_option maxHeartbeats 4000000 in
theorem c_X8_fixed (l : Launch) (D : va_G) (cy : Nat → ClassId) (mo mz msv mtx mmo mif mmg mtn mie mme mrd mas : Nat) (th sv ml tu : Int) (fi : Bool) (ro sp it : Int) (bl : Bool) (hh : Int64) (g : Nat → Int) (C : qCl (mM g)) : qRd l yX8_fixed (.code yX8_fixed cX8_fixed 3 (some .int)) 2 [.ref (mo)] D cy [[(mo, .inr (8, [.int (qI (th)), .ref (mz), .int (qI (sv)), .ref (msv), .int (qI (ml)), .ref (mtx), .ref (mmo), .int (qI (tu)), .ref (mif), .ref (mmg), .ref (mtn), .ref (mie), .ref (mme), .int (qz (fi)), .int (qI (ro)), .int (qI (sp)), .int (qI (it)), .int (qz (bl)), .ref (mrd), .ref (mas), .long (hh)]))], [(mmo, aI cy 121 (g))]] (vp_Si (fun r => r = qI ((cnt (fun p => decide (-(mM g 10 p) = mM g p 10)) 10 : Nat) : Int))) := by
  refine q_ofRi (by decide +kernel) (Nat.le_of_ble_eq_true rfl) ?_
  intro p e s m args below meth c Q hx hb hml hown hg hQ hK hN hP ls hl
  have hown : s.vm.findClass RX8 = some m.cls := hown
  have hl : lv_has ls 3 [(0, .ref (mo))] := hl
  refine q_iconst hx hb dX8_fixed_0 ?_
  refine lv_istore_n (lv' := [(1, .int (qI (0))), (0, .ref (mo))]) hx hb dX8_fixed_1 rfl hl (by decide) rfl (fun ls hl => ?_)
  refine q_iconst hx hb dX8_fixed_2 ?_
  refine lv_istore_n (lv' := [(2, .int (qI (0))), (1, .int (qI (0))), (0, .ref (mo))]) hx hb dX8_fixed_3 rfl hl (by decide) rfl (fun ls hl => ?_)
  have L_4 : ∀ (n_4 k : Nat) (y : Nat), k ≤ 10 → 10 + 1 ≤ k + n_4 → (y = cnt (fun p => decide (-(mM g 10 p) = mM g p 10)) k) → (y ≤ k) → ∀ (ls : Array Slot), lv_has ls 3 [(0, .ref (mo)), (1, .int (qI (((y : Nat) : Int)))), (2, .int (qI (((k : Nat) : Int))))] → W p l e (qrm 2) s m args below meth c s.heap [] 0 0 Q (F0 m 4 ls []) := by
    intro n_4
    induction n_4 with
    | zero => intro k _ h1 h2; exact absurd h2 (by omega)
    | succ n_4 ih_4 =>
      intro k y hk_4 hn_4 hy hy2 ls hl
      refine lv_iload_n hx hb dX8_fixed_4 rfl (lv_at hl 2 rfl) ?_
      refine q_bipush hx hb dX8_fixed_5 (by decide) ?_
      refine q_icmp_ge (tgt := 37) hx hb dX8_fixed_7 (by decide) (by omega) (fun c_7 => ?_) (fun c_7 => ?_)
      · skip
        refine lv_iload_n hx hb dX8_fixed_37 rfl (lv_at hl 1 rfl) ?_
        exact hQ _ _ _ (by rw [hy, show k = 10 by omega]) dX8_fixed_38
      · skip
        refine lv_iload_n hx hb dX8_fixed_10 rfl (lv_at hl 1 rfl) ?_
        refine lv_aload_n hx hb dX8_fixed_11 rfl (lv_at hl 0 rfl) ?_
        refine lv_iload_n hx hb dX8_fixed_12 rfl (lv_at hl 2 rfl) ?_
        refine q_readi (va_runV (As := [.int (qI (((k : Nat) : Int)))]) (rest := [.int (qI (((y : Nat) : Int)))]) ⟨hx, hb, hml, hown, hg⟩ (c_X8_least l D cy mo mz msv mtx mmo mif mmg mtn mie mme mrd mas (th) (sv) (ml) (tu) (fi) (ro) (sp) (it) (bl) (hh) (g) _ k (by omega)) (cv_X8_81 hg rfl rfl ⟨by decide, by decide⟩) ⟨q_blind0, va_recv hK (fl_blk hP 0 rfl) (ci := 8) (q0 := 0) rfl rfl, q_preR _ hK hN hP [0, 1] rfl⟩ rfl rfl hl.1 rfl (lv_room (Nat.le_of_ble_eq_true rfl)) dX8_fixed_13 ⟨by decide, by decide⟩) (fun r_13 h_13 => ?_)
        subst h_13
        refine lv_aload_n hx hb dX8_fixed_16 rfl (lv_at hl 0 rfl) ?_
        refine lv_iload_n hx hb dX8_fixed_17 rfl (lv_at hl 2 rfl) ?_
        refine q_readi (va_runV (As := [.int (qI (((k : Nat) : Int)))]) (rest := [.int (qI (-(mM g 10 k))), .int (qI (((y : Nat) : Int)))]) ⟨hx, hb, hml, hown, hg⟩ (c_X8_greatest l D cy mo mz msv mtx mmo mif mmg mtn mie mme mrd mas (th) (sv) (ml) (tu) (fi) (ro) (sp) (it) (bl) (hh) (g) _ k (by omega)) (cv_X8_85 hg rfl rfl ⟨by decide, by decide⟩) ⟨q_blind0, va_recv hK (fl_blk hP 0 rfl) (ci := 8) (q0 := 0) rfl rfl, q_preR _ hK hN hP [0, 1] rfl⟩ rfl rfl hl.1 rfl (lv_room (Nat.le_of_ble_eq_true rfl)) dX8_fixed_18 ⟨by decide, by decide⟩) (fun r_18 h_18 => ?_)
        subst h_18
        have b1 := C.2.2 k 10 (by omega) (by omega)
        have b2 := C.2.2 10 k (by omega) (by omega)
        refine q_icmp_ne (tgt := 28) hx hb dX8_fixed_21 (by decide) (by omega) (fun c_21 => ?_) (fun c_21 => ?_)
        · skip
          refine q_iconst hx hb dX8_fixed_28 ?_
          refine q_iadd hx hb dX8_fixed_29 ?_
          refine lv_istore_n (lv' := [(1, .int (qI ((((y : Nat) : Int)) + (0)))), (0, .ref (mo)), (2, .int (qI (((k : Nat) : Int))))]) hx hb dX8_fixed_30 rfl hl (by decide) rfl (fun ls hl => ?_)
          refine q_iinc (k := 2) (lv' := [(2, .int (qI ((((k : Nat) : Int)) + (1)))), (1, .int (qI ((((y : Nat) : Int)) + (0)))), (0, .ref (mo))]) hx hb dX8_fixed_31 hl rfl (by decide) rfl (fun ls hl => ?_)
          refine lv_goto (tgt := 4) hx hb dX8_fixed_34 (by decide) ?_
          exact ih_4 (k + 1) ((y + 0)) (by omega) (by omega) (cnt_no hy (decide_eq_false c_21)) (by omega) _ (lv_sub hl [2, 1, 0] rfl)
        · skip
          refine q_iconst hx hb dX8_fixed_24 ?_
          refine lv_goto (tgt := 29) hx hb dX8_fixed_25 (by decide) ?_
          refine q_iadd hx hb dX8_fixed_29 ?_
          refine lv_istore_n (lv' := [(1, .int (qI ((((y : Nat) : Int)) + (1)))), (0, .ref (mo)), (2, .int (qI (((k : Nat) : Int))))]) hx hb dX8_fixed_30 rfl hl (by decide) rfl (fun ls hl => ?_)
          refine q_iinc (k := 2) (lv' := [(2, .int (qI ((((k : Nat) : Int)) + (1)))), (1, .int (qI ((((y : Nat) : Int)) + (1)))), (0, .ref (mo))]) hx hb dX8_fixed_31 hl rfl (by decide) rfl (fun ls hl => ?_)
          refine lv_goto (tgt := 4) hx hb dX8_fixed_34 (by decide) ?_
          exact ih_4 (k + 1) ((y + 1)) (by omega) (by omega) (cnt_up hy (decide_eq_true c_21)) (by omega) _ (lv_sub hl [2, 1, 0] rfl)
  exact L_4 (10 + 1) (0) (0) (by omega) (by omega) rfl (by omega) _ (lv_sub hl [2, 1, 0] rfl)

theorem bef_or {F c : Nat} {p : Nat → Bool} (h : F < 65536 ∧ ∀ i, F.testBit i = (decide (i < c) && p i)) (hc : c < 16) (hp : p c = true) : F ||| 1 * 2 ^ c < 65536 ∧ ∀ i, (F ||| 1 * 2 ^ c).testBit i = (decide (i < c + 1) && p i) := by
  rw [Nat.one_mul]
  refine ⟨Nat.or_lt_two_pow (n := 16) h.1 (Nat.pow_lt_pow_right (a := 2) (by decide) hc), fun i => ?_⟩
  rw [Nat.testBit_or, h.2 i, Nat.testBit_two_pow]
  by_cases e : c = i
  · subst e
    simp [hp]
  · by_cases e2 : i < c
    · simp [e, e2, Nat.lt_succ_of_lt e2]
    · simp [e, e2, show ¬ i < c + 1 by omega]
theorem bef_no {F c : Nat} {p : Nat → Bool} (h : F < 65536 ∧ ∀ i, F.testBit i = (decide (i < c) && p i)) (hp : p c = false) : F ||| 0 < 65536 ∧ ∀ i, (F ||| 0).testBit i = (decide (i < c + 1) && p i) := by
  rw [Nat.or_zero]
  refine ⟨h.1, fun i => ?_⟩
  rw [h.2 i]
  by_cases e : i = c
  · subst e
    simp [hp]
  · by_cases e2 : i < c
    · simp [e2, Nat.lt_succ_of_lt e2]
    · simp [e2, show ¬ i < c + 1 by omega]
def cuB (C : Nat → Nat → Int) (nc : Nat) (E : Nat → Nat → Int) (ne k i : Nat) : Bool := fOC (fil C nc E ne (-1)) i && decide (fTC (fil C nc E ne (-1)) i < fTC (fil C nc E ne (-1)) k)

set_option maxRecDepth 100000 in
set_option maxHeartbeats 4000000 in
theorem c_X8_culprits (l : Launch) (D : va_G) (cy : Nat → ClassId) (mo mz msv mtx mmo mif mmg mtn mie mme mrd mas : Nat) (th sv ml tu : Int) (fi : Bool) (ro sp it : Int) (bl : Bool) (hh : Int64) (z : Nat → Int) (nc ne : Nat) (g : Nat → Int) (isF : Nat → Bool) (mg tn : Nat → Int) (isE : Nat → Bool) (mE : Nat → Int) (hnc : z 20 = (nc : Int)) (hne : z 101 = (ne : Int)) (hc : nc ≤ 16) (he : ne ≤ 4) (hC : qWR (zC z) nc) (hE : qWR (zE z) ne) (hM : mCan z nc ne (-1) g isF mg tn isE mE) (x9 : Int) (k : Nat) (hk : x9 = (k : Int) ∧ k < nc) (sz : Nat) : qMet l yX8_culprits (.code yX8_culprits cX8_culprits 5 (some .int)) 5 [.ref (mo), .int (qI (x9))] D cy [[(mo, .inr (8, [.int (qI (th)), .ref (mz), .int (qI (sv)), .ref (msv), .int (qI (ml)), .ref (mtx), .ref (mmo), .int (qI (tu)), .ref (mif), .ref (mmg), .ref (mtn), .ref (mie), .ref (mme), .int (qz (fi)), .int (qI (ro)), .int (qI (sp)), .int (qI (it)), .int (qz (bl)), .ref (mrd), .ref (mas), .long (hh)]))], [(mz, aI cy 115 (z))], [(mmo, aI cy 121 (g))], [(mif, aZ cy 16 (isF))], [(mmg, aI cy 16 (mg))], [(mtn, aI cy 16 (tn))], [(mie, aZ cy 4 (isE))], [(mme, aI cy 4 (mE))]] sz (va_Qi (S := (Nat → Int) × Int × (Nat → Bool) × (Nat → Int) × (Nat → Int) × (Nat → Bool) × (Nat → Int) × Bool × Int) (fun r u => r = qI ((culA (zC z) nc (zE z) ne k : Nat) : Int) ∧ mCan z nc ne (-1) u.1 u.2.2.1 u.2.2.2.1 u.2.2.2.2.1 u.2.2.2.2.2.1 u.2.2.2.2.2.2.1) (qB D cy [[(mo, .inr (8, [.int (qI (th)), .ref (mz), .int (qI (sv)), .ref (msv), .int (qI (ml)), .ref (mtx), .ref (mmo), .int (qI (tu)), .ref (mif), .ref (mmg), .ref (mtn), .ref (mie), .ref (mme), .int (qz (fi)), .int (qI (ro)), .int (qI (sp)), .int (qI (it)), .int (qz (bl)), .ref (mrd), .ref (mas), .long (hh)]))], [(mz, aI cy 115 (z))], [(mmo, aI cy 121 (g))], [(mif, aZ cy 16 (isF))], [(mmg, aI cy 16 (mg))], [(mtn, aI cy 16 (tn))], [(mie, aZ cy 4 (isE))], [(mme, aI cy 4 (mE))]] sz (fun u => [[(mo, .inr (8, [.int (qI (th)), .ref (mz), .int (qI (sv)), .ref (msv), .int (qI (ml)), .ref (mtx), .ref (mmo), .int (qI (u.2.1)), .ref (mif), .ref (mmg), .ref (mtn), .ref (mie), .ref (mme), .int (qz (u.2.2.2.2.2.2.2.1)), .int (qI (u.2.2.2.2.2.2.2.2)), .int (qI (sp)), .int (qI (it)), .int (qz (bl)), .ref (mrd), .ref (mas), .long (hh)]))], [(mz, aI cy 115 (z))], [(mmo, aI cy 121 (u.1))], [(mif, aZ cy 16 (u.2.2.1))], [(mmg, aI cy 16 (u.2.2.2.1))], [(mtn, aI cy 16 (u.2.2.2.2.1))], [(mie, aZ cy 4 (u.2.2.2.2.2.1))], [(mme, aI cy 4 (u.2.2.2.2.2.2.1))]])) (va_A [[(mo, .inr (8, [.int (qI (th)), .ref (mz), .int (qI (sv)), .ref (msv), .int (qI (ml)), .ref (mtx), .ref (mmo), .int (qI (tu)), .ref (mif), .ref (mmg), .ref (mtn), .ref (mie), .ref (mme), .int (qz (fi)), .int (qI (ro)), .int (qI (sp)), .int (qI (it)), .int (qz (bl)), .ref (mrd), .ref (mas), .long (hh)]))], [(mz, aI cy 115 (z))], [(mmo, aI cy 121 (g))], [(mif, aZ cy 16 (isF))], [(mmg, aI cy 16 (mg))], [(mtn, aI cy 16 (tn))], [(mie, aZ cy 4 (isE))], [(mme, aI cy 4 (mE))]].flatten sz)) := by
  refine q_ofMi (S := (Nat → Int) × Int × (Nat → Bool) × (Nat → Int) × (Nat → Int) × (Nat → Bool) × (Nat → Int) × Bool × Int) (b1 := fun u => [[(mo, .inr (8, [.int (qI (th)), .ref (mz), .int (qI (sv)), .ref (msv), .int (qI (ml)), .ref (mtx), .ref (mmo), .int (qI (u.2.1)), .ref (mif), .ref (mmg), .ref (mtn), .ref (mie), .ref (mme), .int (qz (u.2.2.2.2.2.2.2.1)), .int (qI (u.2.2.2.2.2.2.2.2)), .int (qI (sp)), .int (qI (it)), .int (qz (bl)), .ref (mrd), .ref (mas), .long (hh)]))], [(mz, aI cy 115 (z))], [(mmo, aI cy 121 (u.1))], [(mif, aZ cy 16 (u.2.2.1))], [(mmg, aI cy 16 (u.2.2.2.1))], [(mtn, aI cy 16 (u.2.2.2.2.1))], [(mie, aZ cy 4 (u.2.2.2.2.2.1))], [(mme, aI cy 4 (u.2.2.2.2.2.2.1))]]) (post := fun r u => r = qI ((culA (zC z) nc (zE z) ne k : Nat) : Int) ∧ mCan z nc ne (-1) u.1 u.2.2.1 u.2.2.2.1 u.2.2.2.2.1 u.2.2.2.2.2.1 u.2.2.2.2.2.2.1) (by decide +kernel) (Nat.le_of_ble_eq_true rfl) ?_
  intro p e s m args below meth c Q A hx hb hml hown hg hQ hK hN hD hA H locs ls hP hS hl
  have hown : s.vm.findClass RX8 = some m.cls := hown
  have hl : lv_has ls 5 [(0, .ref (mo)), (1, .int (qI (x9)))] := hl
  have hk1 := hk.1
  have hk2 := hk.2
  have tnR : ∀ i, i < nc → 0 ≤ tn i ∧ tn i ≤ 1000 := fun i hi => by rw [(hM.2.1 i hi (by omega)).2.2]; exact fil_turn hE hC (by omega) hc i
  refine lv_aload_n hx hb dX8_culprits_0 rfl (lv_at hl 0 rfl) ?_
  refine gf_X8_22 hx hb hg hown hK (fl_blk hP 0 rfl) 0 rfl rfl dX8_culprits_1 ?_
  refine lv_iload_n hx hb dX8_culprits_4 rfl (lv_at hl 1 rfl) ?_
  refine q_zald (j := k) hx hb hK (fl_blk hP 3 rfl) 0 rfl (by omega) dX8_culprits_5 ?_
  refine q_ifz_eq (tgt := 11) hx hb dX8_culprits_6 (by decide) (fun c_6 => ?_) (fun c_6 => ?_)
  · skip
    refine q_iconst hx hb dX8_culprits_11 ?_
    refine lv_istore_n (lv' := [(2, .int (qI (0))), (0, .ref (mo)), (1, .int (qI (x9)))]) hx hb dX8_culprits_12 rfl hl (by decide) rfl (fun ls hl => ?_)
    refine q_iconst hx hb dX8_culprits_13 ?_
    refine lv_istore_n (lv' := [(3, .int (qI (0))), (2, .int (qI (0))), (0, .ref (mo)), (1, .int (qI (x9)))]) hx hb dX8_culprits_14 rfl hl (by decide) rfl (fun ls hl => ?_)
    refine q_iconst hx hb dX8_culprits_15 ?_
    refine lv_istore (lv' := [(4, .int (qI (0))), (3, .int (qI (0))), (2, .int (qI (0))), (0, .ref (mo)), (1, .int (qI (x9)))]) hx hb dX8_culprits_16 hl (by decide) rfl (fun ls hl => ?_)
    have L_18 : ∀ (n_18 c9 : Nat) (y : Nat), c9 ≤ nc → nc + 1 ≤ c9 + n_18 → (y < 65536 ∧ ∀ i, y.testBit i = (decide (i < c9) && cuB (zC z) nc (zE z) ne k i)) → ∀ (H : Heap) (locs : List Loc) (ls : Array Slot), va_P D vwCl [[(mo, .inr (8, [.int (qI (th)), .ref (mz), .int (qI (sv)), .ref (msv), .int (qI (ml)), .ref (mtx), .ref (mmo), .int (qI (tu)), .ref (mif), .ref (mmg), .ref (mtn), .ref (mie), .ref (mme), .int (qz (fi)), .int (qI (ro)), .int (qI (sp)), .int (qI (it)), .int (qz (bl)), .ref (mrd), .ref (mas), .long (hh)]))], [(mz, aI cy 115 (z))], [(mmo, aI cy 121 (g))], [(mif, aZ cy 16 (isF))], [(mmg, aI cy 16 (mg))], [(mtn, aI cy 16 (tn))], [(mie, aZ cy 4 (isE))], [(mme, aI cy 4 (mE))]].flatten H → va_D A [[(mo, .inr (8, [.int (qI (th)), .ref (mz), .int (qI (sv)), .ref (msv), .int (qI (ml)), .ref (mtx), .ref (mmo), .int (qI (tu)), .ref (mif), .ref (mmg), .ref (mtn), .ref (mie), .ref (mme), .int (qz (fi)), .int (qI (ro)), .int (qI (sp)), .int (qI (it)), .int (qz (bl)), .ref (mrd), .ref (mas), .long (hh)]))], [(mz, aI cy 115 (z))], [(mmo, aI cy 121 (g))], [(mif, aZ cy 16 (isF))], [(mmg, aI cy 16 (mg))], [(mtn, aI cy 16 (tn))], [(mie, aZ cy 4 (isE))], [(mme, aI cy 4 (mE))]].flatten → va_S A s.heap H locs → lv_has ls 5 [(0, .ref (mo)), (1, .int (qI (x9))), (2, .int (qI (((y : Nat) : Int)))), (3, .int (qI (0))), (4, .int (qI (((c9 : Nat) : Int))))] → W p l e (qrm 5) s m args below meth c H locs 0 0 Q (F0 m 18 ls []) := by
      intro n_18
      induction n_18 with
      | zero => intro c9 _ h1 h2; exact absurd h2 (by omega)
      | succ n_18 ih_18 =>
        intro c9 y hk_18 hn_18 hy H locs ls hP hD hS hl
        refine lv_iload hx hb dX8_culprits_18 (lv_at hl 4 rfl) ?_
        refine lv_aload_n hx hb dX8_culprits_20 rfl (lv_at hl 0 rfl) ?_
        refine gf_X8_7 hx hb hg hown hK (fl_blk hP 0 rfl) 0 rfl rfl dX8_culprits_21 ?_
        refine q_bipush hx hb dX8_culprits_24 (by decide) ?_
        refine q_iald (j := 20) hx hb hK (fl_blk hP 1 rfl) 0 rfl (by omega) dX8_culprits_26 ?_
        refine q_icmp_ge (tgt := 73) hx hb dX8_culprits_27 (by decide) (by omega) (fun c_27 => ?_) (fun c_27 => ?_)
        · skip
          have hbe : y < 65536 ∧ ∀ i, y.testBit i = (decide (i < nc) && cuB (zC z) nc (zE z) ne k i) := by have q := hy; rw [show c9 = nc by omega] at q; exact q
          refine q_iconst hx hb dX8_culprits_73 ?_
          refine lv_istore (lv' := [(4, .int (qI (0))), (0, .ref (mo)), (1, .int (qI (x9))), (2, .int (qI (((y : Nat) : Int)))), (3, .int (qI (0)))]) hx hb dX8_culprits_74 hl (by decide) rfl (fun ls hl => ?_)
          have L_76 : ∀ (n_76 c9 : Nat) (y5 : Nat) (t1 : Int) (g1 : Nat → Int) (isF1 : Nat → Bool) (mg1 : Nat → Int) (tn1 : Nat → Int) (isE1 : Nat → Bool) (mE1 : Nat → Int) (fi1 : Bool) (ro1 : Int), c9 ≤ nc → nc + 1 ≤ c9 + n_76 → (y5 = culN (zC z) nc (zE z) ne k c9) → ∀ (H : Heap) (locs : List Loc) (ls : Array Slot), va_P D vwCl [[(mo, .inr (8, [.int (qI (th)), .ref (mz), .int (qI (sv)), .ref (msv), .int (qI (ml)), .ref (mtx), .ref (mmo), .int (qI (t1)), .ref (mif), .ref (mmg), .ref (mtn), .ref (mie), .ref (mme), .int (qz (fi1)), .int (qI (ro1)), .int (qI (sp)), .int (qI (it)), .int (qz (bl)), .ref (mrd), .ref (mas), .long (hh)]))], [(mz, aI cy 115 (z))], [(mmo, aI cy 121 (g1))], [(mif, aZ cy 16 (isF1))], [(mmg, aI cy 16 (mg1))], [(mtn, aI cy 16 (tn1))], [(mie, aZ cy 4 (isE1))], [(mme, aI cy 4 (mE1))]].flatten H → va_D A [[(mo, .inr (8, [.int (qI (th)), .ref (mz), .int (qI (sv)), .ref (msv), .int (qI (ml)), .ref (mtx), .ref (mmo), .int (qI (t1)), .ref (mif), .ref (mmg), .ref (mtn), .ref (mie), .ref (mme), .int (qz (fi1)), .int (qI (ro1)), .int (qI (sp)), .int (qI (it)), .int (qz (bl)), .ref (mrd), .ref (mas), .long (hh)]))], [(mz, aI cy 115 (z))], [(mmo, aI cy 121 (g1))], [(mif, aZ cy 16 (isF1))], [(mmg, aI cy 16 (mg1))], [(mtn, aI cy 16 (tn1))], [(mie, aZ cy 4 (isE1))], [(mme, aI cy 4 (mE1))]].flatten → va_S A s.heap H locs → lv_has ls 5 [(0, .ref (mo)), (1, .int (qI (x9))), (2, .int (qI (((y : Nat) : Int)))), (3, .int (qI (((y5 : Nat) : Int)))), (4, .int (qI (((c9 : Nat) : Int))))] → W p l e (qrm 5) s m args below meth c H locs 0 0 Q (F0 m 76 ls []) := by
            intro n_76
            induction n_76 with
            | zero => intro c9 _ _ _ _ _ _ _ _ _ _ h1 h2; exact absurd h2 (by omega)
            | succ n_76 ih_76 =>
              intro c9 y5 t1 g1 isF1 mg1 tn1 isE1 mE1 fi1 ro1 hk_76 hn_76 hy5 H locs ls hP hD hS hl
              refine lv_iload hx hb dX8_culprits_76 (lv_at hl 4 rfl) ?_
              refine lv_aload_n hx hb dX8_culprits_78 rfl (lv_at hl 0 rfl) ?_
              refine gf_X8_7 hx hb hg hown hK (fl_blk hP 0 rfl) 0 rfl rfl dX8_culprits_79 ?_
              refine q_bipush hx hb dX8_culprits_82 (by decide) ?_
              refine q_iald (j := 20) hx hb hK (fl_blk hP 1 rfl) 0 rfl (by omega) dX8_culprits_84 ?_
              refine q_icmp_ge (tgt := 130) hx hb dX8_culprits_85 (by decide) (by omega) (fun c_85 => ?_) (fun c_85 => ?_)
              · skip
                refine lv_aload_n hx hb dX8_culprits_130 rfl (lv_at hl 0 rfl) ?_
                refine q_iconst hx hb dX8_culprits_131 ?_
                refine q_backv [0, 1, 2, 3, 4, 5, 6, 7] [] (br := []) hP hD hS hA (va_runV (As := [.int (qI (-1))]) (rest := []) ⟨hx, hb, hml, hown, hg⟩ (c_X8_fill l D cy mo mz msv mtx mmo mif mmg mtn mie mme mrd mas (th) (sv) (ml) (t1) (fi1) (ro1) (sp) (it) (bl) (hh) (z) nc ne (g1) (isF1) (mg1) (tn1) (isE1) (mE1) hnc hne hc he hC hE (-1) (by omega) _) (cv_X8_77 hg rfl rfl ⟨by decide, by decide⟩) ⟨q_blind, va_recv hK (fl_blk hP 0 rfl) (ci := 8) (q0 := 0) rfl rfl, q_preM _ hK hN hP hD [0, 1, 2, 3, 4, 5, 6, 7] (by decide) rfl⟩ rfl rfl hl.1 rfl (lv_room (Nat.le_of_ble_eq_true rfl)) dX8_culprits_132 ⟨by decide, by decide⟩) rfl rfl (by decide) (fun u_132 H locs h_132 hP hD hS => ?_)
                have hP : va_P D vwCl [[(mo, .inr (8, [.int (qI (th)), .ref (mz), .int (qI (sv)), .ref (msv), .int (qI (ml)), .ref (mtx), .ref (mmo), .int (qI (u_132.2.1)), .ref (mif), .ref (mmg), .ref (mtn), .ref (mie), .ref (mme), .int (qz (u_132.2.2.2.2.2.2.2.1)), .int (qI (u_132.2.2.2.2.2.2.2.2)), .int (qI (sp)), .int (qI (it)), .int (qz (bl)), .ref (mrd), .ref (mas), .long (hh)]))], [(mz, aI cy 115 (z))], [(mmo, aI cy 121 (u_132.1))], [(mif, aZ cy 16 (u_132.2.2.1))], [(mmg, aI cy 16 (u_132.2.2.2.1))], [(mtn, aI cy 16 (u_132.2.2.2.2.1))], [(mie, aZ cy 4 (u_132.2.2.2.2.2.1))], [(mme, aI cy 4 (u_132.2.2.2.2.2.2.1))]].flatten H := hP
                have hD : va_D A [[(mo, .inr (8, [.int (qI (th)), .ref (mz), .int (qI (sv)), .ref (msv), .int (qI (ml)), .ref (mtx), .ref (mmo), .int (qI (u_132.2.1)), .ref (mif), .ref (mmg), .ref (mtn), .ref (mie), .ref (mme), .int (qz (u_132.2.2.2.2.2.2.2.1)), .int (qI (u_132.2.2.2.2.2.2.2.2)), .int (qI (sp)), .int (qI (it)), .int (qz (bl)), .ref (mrd), .ref (mas), .long (hh)]))], [(mz, aI cy 115 (z))], [(mmo, aI cy 121 (u_132.1))], [(mif, aZ cy 16 (u_132.2.2.1))], [(mmg, aI cy 16 (u_132.2.2.2.1))], [(mtn, aI cy 16 (u_132.2.2.2.2.1))], [(mie, aZ cy 4 (u_132.2.2.2.2.2.1))], [(mme, aI cy 4 (u_132.2.2.2.2.2.2.1))]].flatten := hD
                refine lv_iload_n hx hb dX8_culprits_135 rfl (lv_at hl 3 rfl) ?_
                exact hQ _ _ _ _ _ u_132 ⟨by unfold culA; rw [if_neg (by rw [← (hM.2.1 k hk2 (by omega)).1, c_6]; decide), hy5, show c9 = nc by omega], h_132⟩ hP hD hS dX8_culprits_136
              · skip
                refine lv_iload_n hx hb dX8_culprits_88 rfl (lv_at hl 2 rfl) ?_
                refine lv_iload hx hb dX8_culprits_89 (lv_at hl 4 rfl) ?_
                refine q_ishr (F := y) (k := c9) hx hb (by omega) dX8_culprits_91 ?_
                refine q_iconst hx hb dX8_culprits_92 ?_
                refine q_iand (F := (y) / 2 ^ (c9)) (k := 1) hx hb (by omega) dX8_culprits_93 ?_
                refine q_iconst hx hb dX8_culprits_94 ?_
                have z3 : (y / 2 ^ c9 &&& 1) ≤ 1 := Nat.and_le_right
                refine q_icmp_ne (tgt := 124) hx hb dX8_culprits_95 (by decide) (by omega) (fun c_95 => ?_) (fun c_95 => ?_)
                · skip
                  have k9 : cuB (zC z) nc (zE z) ne k c9 = false := by have q := (hbe.2 c9).symm.trans (tN0' c_95); rwa [decide_eq_true (by omega : c9 < nc), Bool.true_and] at q
                  refine q_iinc (k := 4) (lv' := [(4, .int (qI ((((c9 : Nat) : Int)) + (1)))), (0, .ref (mo)), (1, .int (qI (x9))), (2, .int (qI (((y : Nat) : Int)))), (3, .int (qI (((y5 : Nat) : Int))))]) hx hb dX8_culprits_124 hl rfl (by decide) rfl (fun ls hl => ?_)
                  refine lv_goto (tgt := 76) hx hb dX8_culprits_127 (by decide) ?_
                  exact ih_76 (c9 + 1) (y5) _ _ _ _ _ _ _ _ _ (by omega) (by omega) (cul_no hy5 (by unfold culB; rw [show (fOC (fil (zC z) nc (zE z) ne (-1)) c9 && decide (fTC (fil (zC z) nc (zE z) ne (-1)) c9 < fTC (fil (zC z) nc (zE z) ne (-1)) k)) = false from k9]; rfl)) _ _ _ hP hD hS (lv_sub hl [1, 2, 3, 4, 0] rfl)
                · skip
                  have k9 : cuB (zC z) nc (zE z) ne k c9 = true := by have q := (hbe.2 c9).symm.trans (tN1' c_95); rwa [decide_eq_true (by omega : c9 < nc), Bool.true_and] at q
                  have kne : c9 ≠ k := by intro q; subst q; have q2 : fOC (fil (zC z) nc (zE z) ne (-1)) c9 = true := (Bool.and_eq_true _ _ |>.mp k9).1; rw [← (hM.2.1 c9 (by omega) (by omega)).1, c_6] at q2; exact absurd q2 (by decide)
                  refine lv_aload_n hx hb dX8_culprits_98 rfl (lv_at hl 0 rfl) ?_
                  refine lv_iload hx hb dX8_culprits_99 (lv_at hl 4 rfl) ?_
                  refine q_backv [0, 1, 2, 3, 4, 5, 6, 7] [] (br := []) hP hD hS hA (va_runV (As := [.int (qI (((c9 : Nat) : Int)))]) (rest := []) ⟨hx, hb, hml, hown, hg⟩ (c_X8_fill l D cy mo mz msv mtx mmo mif mmg mtn mie mme mrd mas (th) (sv) (ml) (t1) (fi1) (ro1) (sp) (it) (bl) (hh) (z) nc ne (g1) (isF1) (mg1) (tn1) (isE1) (mE1) hnc hne hc he hC hE (((c9 : Nat) : Int)) (by omega) _) (cv_X8_77 hg rfl rfl ⟨by decide, by decide⟩) ⟨q_blind, va_recv hK (fl_blk hP 0 rfl) (ci := 8) (q0 := 0) rfl rfl, q_preM _ hK hN hP hD [0, 1, 2, 3, 4, 5, 6, 7] (by decide) rfl⟩ rfl rfl hl.1 rfl (lv_room (Nat.le_of_ble_eq_true rfl)) dX8_culprits_101 ⟨by decide, by decide⟩) rfl rfl (by decide) (fun u_101 H locs h_101 hP hD hS => ?_)
                  have hP : va_P D vwCl [[(mo, .inr (8, [.int (qI (th)), .ref (mz), .int (qI (sv)), .ref (msv), .int (qI (ml)), .ref (mtx), .ref (mmo), .int (qI (u_101.2.1)), .ref (mif), .ref (mmg), .ref (mtn), .ref (mie), .ref (mme), .int (qz (u_101.2.2.2.2.2.2.2.1)), .int (qI (u_101.2.2.2.2.2.2.2.2)), .int (qI (sp)), .int (qI (it)), .int (qz (bl)), .ref (mrd), .ref (mas), .long (hh)]))], [(mz, aI cy 115 (z))], [(mmo, aI cy 121 (u_101.1))], [(mif, aZ cy 16 (u_101.2.2.1))], [(mmg, aI cy 16 (u_101.2.2.2.1))], [(mtn, aI cy 16 (u_101.2.2.2.2.1))], [(mie, aZ cy 4 (u_101.2.2.2.2.2.1))], [(mme, aI cy 4 (u_101.2.2.2.2.2.2.1))]].flatten H := hP
                  have hD : va_D A [[(mo, .inr (8, [.int (qI (th)), .ref (mz), .int (qI (sv)), .ref (msv), .int (qI (ml)), .ref (mtx), .ref (mmo), .int (qI (u_101.2.1)), .ref (mif), .ref (mmg), .ref (mtn), .ref (mie), .ref (mme), .int (qz (u_101.2.2.2.2.2.2.2.1)), .int (qI (u_101.2.2.2.2.2.2.2.2)), .int (qI (sp)), .int (qI (it)), .int (qz (bl)), .ref (mrd), .ref (mas), .long (hh)]))], [(mz, aI cy 115 (z))], [(mmo, aI cy 121 (u_101.1))], [(mif, aZ cy 16 (u_101.2.2.1))], [(mmg, aI cy 16 (u_101.2.2.2.1))], [(mtn, aI cy 16 (u_101.2.2.2.2.1))], [(mie, aZ cy 4 (u_101.2.2.2.2.2.1))], [(mme, aI cy 4 (u_101.2.2.2.2.2.2.1))]].flatten := hD
                  refine lv_iload_n hx hb dX8_culprits_104 rfl (lv_at hl 3 rfl) ?_
                  refine lv_aload_n hx hb dX8_culprits_105 rfl (lv_at hl 0 rfl) ?_
                  refine gf_X8_22 hx hb hg hown hK (fl_blk hP 0 rfl) 0 rfl rfl dX8_culprits_106 ?_
                  refine lv_iload_n hx hb dX8_culprits_109 rfl (lv_at hl 1 rfl) ?_
                  refine q_zald (j := k) hx hb hK (fl_blk hP 3 rfl) 0 rfl (by omega) dX8_culprits_110 ?_
                  refine q_ifz_eq (tgt := 121) hx hb dX8_culprits_111 (by decide) (fun c_111 => ?_) (fun c_111 => ?_)
                  · skip
                    have m9 : fOC (fil (zC z) nc (zE z) ne (c9 : Int)) k = false := (h_101.2.1 k hk2 (by omega)).1.symm.trans c_111
                    refine q_iconst hx hb dX8_culprits_121 ?_
                    refine q_ior (F := y5) (k := 0) hx hb (by omega) dX8_culprits_122 ?_
                    refine lv_istore_n (lv' := [(3, .int (qI ((((y5) ||| (0) : Nat) : Int)))), (0, .ref (mo)), (1, .int (qI (x9))), (2, .int (qI (((y : Nat) : Int)))), (4, .int (qI (((c9 : Nat) : Int))))]) hx hb dX8_culprits_123 rfl hl (by decide) rfl (fun ls hl => ?_)
                    refine q_iinc (k := 4) (lv' := [(4, .int (qI ((((c9 : Nat) : Int)) + (1)))), (3, .int (qI ((((y5) ||| (0) : Nat) : Int)))), (0, .ref (mo)), (1, .int (qI (x9))), (2, .int (qI (((y : Nat) : Int))))]) hx hb dX8_culprits_124 hl rfl (by decide) rfl (fun ls hl => ?_)
                    refine lv_goto (tgt := 76) hx hb dX8_culprits_127 (by decide) ?_
                    exact ih_76 (c9 + 1) ((y5) ||| (0)) _ _ _ _ _ _ _ _ _ (by omega) (by omega) ((Nat.or_zero y5).trans (cul_no hy5 (by unfold culB; rw [show (fOC (fil (zC z) nc (zE z) ne (-1)) c9 && decide (fTC (fil (zC z) nc (zE z) ne (-1)) c9 < fTC (fil (zC z) nc (zE z) ne (-1)) k)) = true from k9]; exact m9))) _ _ _ hP hD hS (lv_sub hl [2, 3, 4, 1, 0] rfl)
                  · skip
                    have m9 : fOC (fil (zC z) nc (zE z) ne (c9 : Int)) k = true := (h_101.2.1 k hk2 (by omega)).1.symm.trans c_111
                    refine q_iconst hx hb dX8_culprits_114 ?_
                    refine lv_iload hx hb dX8_culprits_115 (lv_at hl 4 rfl) ?_
                    refine q_ishl (F := 1) (k := c9) hx hb (by omega) (by have := Nat.pow_lt_pow_right (a := 2) (by decide) (show c9 < 16 by omega); omega) dX8_culprits_117 ?_
                    refine lv_goto (tgt := 122) hx hb dX8_culprits_118 (by decide) ?_
                    refine q_ior (F := y5) (k := (1) * 2 ^ (c9)) hx hb (by omega) dX8_culprits_122 ?_
                    refine lv_istore_n (lv' := [(3, .int (qI ((((y5) ||| ((1) * 2 ^ (c9)) : Nat) : Int)))), (0, .ref (mo)), (1, .int (qI (x9))), (2, .int (qI (((y : Nat) : Int)))), (4, .int (qI (((c9 : Nat) : Int))))]) hx hb dX8_culprits_123 rfl hl (by decide) rfl (fun ls hl => ?_)
                    refine q_iinc (k := 4) (lv' := [(4, .int (qI ((((c9 : Nat) : Int)) + (1)))), (3, .int (qI ((((y5) ||| ((1) * 2 ^ (c9)) : Nat) : Int)))), (0, .ref (mo)), (1, .int (qI (x9))), (2, .int (qI (((y : Nat) : Int))))]) hx hb dX8_culprits_124 hl rfl (by decide) rfl (fun ls hl => ?_)
                    refine lv_goto (tgt := 76) hx hb dX8_culprits_127 (by decide) ?_
                    exact ih_76 (c9 + 1) ((y5) ||| ((1) * 2 ^ (c9))) _ _ _ _ _ _ _ _ _ (by omega) (by omega) ((congrArg (fun z => y5 ||| z) (Nat.one_mul _)).trans (cul_up hy5 (by unfold culB; rw [show (fOC (fil (zC z) nc (zE z) ne (-1)) c9 && decide (fTC (fil (zC z) nc (zE z) ne (-1)) c9 < fTC (fil (zC z) nc (zE z) ne (-1)) k)) = true from k9]; exact m9))) _ _ _ hP hD hS (lv_sub hl [2, 3, 4, 1, 0] rfl)
          exact L_76 (nc + 1) (0) (0) _ _ _ _ _ _ _ _ _ (by omega) (by omega) rfl _ _ _ hP hD hS (lv_sub hl [1, 2, 3, 4, 0] rfl)
        · skip
          refine lv_iload_n hx hb dX8_culprits_30 rfl (lv_at hl 2 rfl) ?_
          refine lv_aload_n hx hb dX8_culprits_31 rfl (lv_at hl 0 rfl) ?_
          refine gf_X8_22 hx hb hg hown hK (fl_blk hP 0 rfl) 0 rfl rfl dX8_culprits_32 ?_
          refine lv_iload hx hb dX8_culprits_35 (lv_at hl 4 rfl) ?_
          refine q_zald (j := c9) hx hb hK (fl_blk hP 3 rfl) 0 rfl (by omega) dX8_culprits_37 ?_
          refine q_ifz_eq (tgt := 64) hx hb dX8_culprits_38 (by decide) (fun c_38 => ?_) (fun c_38 => ?_)
          · skip
            have t1 : fOC (fil (zC z) nc (zE z) ne (-1)) c9 = false := (hM.2.1 c9 (by omega) (by omega)).1.symm.trans c_38
            refine q_iconst hx hb dX8_culprits_64 ?_
            refine q_ior (F := y) (k := 0) hx hb (by omega) dX8_culprits_65 ?_
            refine lv_istore_n (lv' := [(2, .int (qI ((((y) ||| (0) : Nat) : Int)))), (0, .ref (mo)), (1, .int (qI (x9))), (3, .int (qI (0))), (4, .int (qI (((c9 : Nat) : Int))))]) hx hb dX8_culprits_66 rfl hl (by decide) rfl (fun ls hl => ?_)
            refine q_iinc (k := 4) (lv' := [(4, .int (qI ((((c9 : Nat) : Int)) + (1)))), (2, .int (qI ((((y) ||| (0) : Nat) : Int)))), (0, .ref (mo)), (1, .int (qI (x9))), (3, .int (qI (0)))]) hx hb dX8_culprits_67 hl rfl (by decide) rfl (fun ls hl => ?_)
            refine lv_goto (tgt := 18) hx hb dX8_culprits_70 (by decide) ?_
            exact ih_18 (c9 + 1) ((y) ||| (0)) (by omega) (by omega) (bef_no hy (by unfold cuB; rw [t1]; rfl)) _ _ _ hP hD hS (lv_sub hl [2, 3, 1, 4, 0] rfl)
          · skip
            have t1 : fOC (fil (zC z) nc (zE z) ne (-1)) c9 = true := (hM.2.1 c9 (by omega) (by omega)).1.symm.trans c_38
            have b1 := tnR c9 (by omega)
            have b2 := tnR k hk2
            refine lv_aload_n hx hb dX8_culprits_41 rfl (lv_at hl 0 rfl) ?_
            refine gf_X8_29 hx hb hg hown hK (fl_blk hP 0 rfl) 0 rfl rfl dX8_culprits_42 ?_
            refine lv_iload hx hb dX8_culprits_45 (lv_at hl 4 rfl) ?_
            refine q_iald (j := c9) hx hb hK (fl_blk hP 5 rfl) 0 rfl (by omega) dX8_culprits_47 ?_
            refine lv_aload_n hx hb dX8_culprits_48 rfl (lv_at hl 0 rfl) ?_
            refine gf_X8_29 hx hb hg hown hK (fl_blk hP 0 rfl) 0 rfl rfl dX8_culprits_49 ?_
            refine lv_iload_n hx hb dX8_culprits_52 rfl (lv_at hl 1 rfl) ?_
            refine q_iald (j := k) hx hb hK (fl_blk hP 5 rfl) 0 rfl (by omega) dX8_culprits_53 ?_
            refine q_icmp_ge (tgt := 64) hx hb dX8_culprits_54 (by decide) (by omega) (fun c_54 => ?_) (fun c_54 => ?_)
            · skip
              have t2 : ¬ fTC (fil (zC z) nc (zE z) ne (-1)) c9 < fTC (fil (zC z) nc (zE z) ne (-1)) k := by rw [← (hM.2.1 c9 (by omega) (by omega)).2.2, ← (hM.2.1 k hk2 (by omega)).2.2]; omega
              refine q_iconst hx hb dX8_culprits_64 ?_
              refine q_ior (F := y) (k := 0) hx hb (by omega) dX8_culprits_65 ?_
              refine lv_istore_n (lv' := [(2, .int (qI ((((y) ||| (0) : Nat) : Int)))), (0, .ref (mo)), (1, .int (qI (x9))), (3, .int (qI (0))), (4, .int (qI (((c9 : Nat) : Int))))]) hx hb dX8_culprits_66 rfl hl (by decide) rfl (fun ls hl => ?_)
              refine q_iinc (k := 4) (lv' := [(4, .int (qI ((((c9 : Nat) : Int)) + (1)))), (2, .int (qI ((((y) ||| (0) : Nat) : Int)))), (0, .ref (mo)), (1, .int (qI (x9))), (3, .int (qI (0)))]) hx hb dX8_culprits_67 hl rfl (by decide) rfl (fun ls hl => ?_)
              refine lv_goto (tgt := 18) hx hb dX8_culprits_70 (by decide) ?_
              exact ih_18 (c9 + 1) ((y) ||| (0)) (by omega) (by omega) (bef_no hy (by unfold cuB; rw [decide_eq_false t2, Bool.and_false])) _ _ _ hP hD hS (lv_sub hl [2, 3, 1, 4, 0] rfl)
            · skip
              have t2 : fTC (fil (zC z) nc (zE z) ne (-1)) c9 < fTC (fil (zC z) nc (zE z) ne (-1)) k := by rw [← (hM.2.1 c9 (by omega) (by omega)).2.2, ← (hM.2.1 k hk2 (by omega)).2.2]; omega
              refine q_iconst hx hb dX8_culprits_57 ?_
              refine lv_iload hx hb dX8_culprits_58 (lv_at hl 4 rfl) ?_
              refine q_ishl (F := 1) (k := c9) hx hb (by omega) (by have := Nat.pow_lt_pow_right (a := 2) (by decide) (show c9 < 16 by omega); omega) dX8_culprits_60 ?_
              refine lv_goto (tgt := 65) hx hb dX8_culprits_61 (by decide) ?_
              refine q_ior (F := y) (k := (1) * 2 ^ (c9)) hx hb (by omega) dX8_culprits_65 ?_
              refine lv_istore_n (lv' := [(2, .int (qI ((((y) ||| ((1) * 2 ^ (c9)) : Nat) : Int)))), (0, .ref (mo)), (1, .int (qI (x9))), (3, .int (qI (0))), (4, .int (qI (((c9 : Nat) : Int))))]) hx hb dX8_culprits_66 rfl hl (by decide) rfl (fun ls hl => ?_)
              refine q_iinc (k := 4) (lv' := [(4, .int (qI ((((c9 : Nat) : Int)) + (1)))), (2, .int (qI ((((y) ||| ((1) * 2 ^ (c9)) : Nat) : Int)))), (0, .ref (mo)), (1, .int (qI (x9))), (3, .int (qI (0)))]) hx hb dX8_culprits_67 hl rfl (by decide) rfl (fun ls hl => ?_)
              refine lv_goto (tgt := 18) hx hb dX8_culprits_70 (by decide) ?_
              exact ih_18 (c9 + 1) ((y) ||| ((1) * 2 ^ (c9))) (by omega) (by omega) (bef_or hy (by omega) (by unfold cuB; rw [t1, decide_eq_true t2]; rfl)) _ _ _ hP hD hS (lv_sub hl [2, 3, 1, 4, 0] rfl)
    exact L_18 (nc + 1) (0) (0) (by omega) (by omega) ⟨by decide, fun i => by rw [Nat.zero_testBit]; simp⟩ _ _ _ hP hD hS (lv_sub hl [3, 4, 2, 1, 0] rfl)
  · skip
    refine q_iconst hx hb dX8_culprits_9 ?_
    exact hQ _ _ _ _ _ (g, tu, isF, mg, tn, isE, mE, fi, ro) ⟨by unfold culA; rw [if_pos ((hM.2.1 k hk2 (by omega)).1.symm.trans c_6)]; rfl, hM⟩ hP hD hS dX8_culprits_10
