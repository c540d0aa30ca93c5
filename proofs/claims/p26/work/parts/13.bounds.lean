def limI (M : Nat → Nat → Int) (a b : Nat) (n : Int) (k t : Nat) (M2 : Nat → Nat → Int) : Prop := ∀ i j, i < 11 → j < 11 → M2 i j = if i < k ∨ (i = k ∧ j < t) then tg M a b n i j else M i j
theorem limI_0 {M : Nat → Nat → Int} {a b : Nat} {n : Int} : limI M a b n 0 0 M := fun i j _ _ => by rw [if_neg (by omega)]
theorem limI_step {M M2 : Nat → Nat → Int} {a b k t : Nat} {n v : Int} (h : limI M a b n k t M2) (hv : v = tg M a b n k t) : limI M a b n k (t + 1) (qu M2 k (qu (M2 k) t v)) := by
  intro i j hi hj
  by_cases e1 : i = k
  · subst e1
    rw [qu_s]
    by_cases e2 : j = t
    · subst e2
      rw [qu_s, if_pos (by omega), hv]
    · rw [qu_n _ _ e2, h i j hi hj]
      by_cases e3 : j < t
      · rw [if_pos (by omega), if_pos (by omega)]
      · rw [if_neg (by omega), if_neg (by omega)]
  · rw [qu_n _ _ e1, h i j hi hj]
    by_cases e3 : i < k
    · rw [if_pos (by omega), if_pos (by omega)]
    · rw [if_neg (by omega), if_neg (by omega)]
theorem limI_next {M M2 : Nat → Nat → Int} {a b k t : Nat} {n : Int} (h : limI M a b n k t M2) (ht : 11 ≤ t) : limI M a b n (k + 1) 0 M2 := by
  intro i j hi hj
  rw [h i j hi hj]
  by_cases e3 : i ≤ k
  · rw [if_pos (by omega), if_pos (by omega)]
  · rw [if_neg (by omega), if_neg (by omega)]
theorem limI_skip {M M2 : Nat → Nat → Int} {a b k : Nat} {n : Int} (h : limI M a b n k 0 M2) (hs : ∀ j, j < 11 → tg M a b n k j = M k j) : limI M a b n (k + 1) 0 M2 := by
  intro i j hi hj
  rw [h i j hi hj]
  by_cases e3 : i < k
  · rw [if_pos (by omega), if_pos (by omega)]
  · by_cases e4 : i = k
    · subst e4
      rw [if_neg (by omega), if_pos (by omega), hs j hj]
    · rw [if_neg (by omega), if_neg (by omega)]
theorem limI_cur {M M2 : Nat → Nat → Int} {a b k t j : Nat} {n : Int} (h : limI M a b n k t M2) (hk : k < 11) (hj : j < 11) (ht : t ≤ j) : M2 k j = M k j := by rw [h k j hk hj, if_neg (by omega)]
theorem limI_a {M M2 : Nat → Nat → Int} {a b k t i : Nat} {n : Int} (h : limI M a b n k t M2) (hi : i < 11) (ha : a < 11) (h0 : 0 ≤ n + M b a) : M2 i a = M i a := by
  rw [h i a hi ha]
  split
  · exact tg_a h0
  · rfl
theorem limI_b {M M2 : Nat → Nat → Int} {a b k t j : Nat} {n : Int} (h : limI M a b n k t M2) (hj : j < 11) (hb : b < 11) (h0 : 0 ≤ n + M b a) : M2 b j = M b j := by
  rw [h b j hb hj]
  split
  · exact tg_b h0
  · rfl
theorem limI_end {M M2 : Nat → Nat → Int} {a b k : Nat} {n : Int} (h : limI M a b n k 0 M2) (hk : 11 ≤ k) : qEq M2 (tg M a b n) := fun i j hi hj => by rw [h i j hi hj, if_pos (by omega)]

set_option maxRecDepth 100000 in
set_option maxHeartbeats 4000000 in
theorem c_X0_greatest (l : Launch) (D : va_G) (cy : Nat → ClassId) (r : Nat → Nat) (M : Nat → Nat → Int) (x y : Int) (i j : Nat) (hi : x = (i : Int) ∧ i < 11) (hj : y = (j : Int) ∧ j < 11) : qRd l yX0_greatest (.code yX0_greatest cX0_greatest 3 (some .int)) 1 [.ref (r 0), .int (qI (x)), .int (qI (y))] D cy [qBo cy r (M)] (vp_Si (fun v => v = qI (M i j))) := by
  refine q_ofRi (by decide +kernel) (Nat.le_of_ble_eq_true rfl) ?_
  intro p e s m args below meth c Q hx hb hml hown hg hQ hK hN hP ls hl
  have hown : s.vm.findClass RX0 = some m.cls := hown
  have hl : lv_has ls 3 [(0, .ref (r 0)), (1, .int (qI (x))), (2, .int (qI (y)))] := hl
  refine lv_aload_n hx hb dX0_greatest_0 rfl (lv_at hl 0 rfl) ?_
  refine gf_X0_11 hx hb hg hown hK (fl_blk hP 0 rfl) 0 rfl rfl dX0_greatest_1 ?_
  refine lv_iload_n hx hb dX0_greatest_4 rfl (lv_at hl 1 rfl) ?_
  refine q_aald (j := i) (v := r (2 + (i))) hx hb hK (fl_blk hP 0 rfl) 1 rfl (by omega) (if_pos (by omega)) dX0_greatest_5 ?_
  refine lv_iload_n hx hb dX0_greatest_6 rfl (lv_at hl 2 rfl) ?_
  refine q_iald (j := j) hx hb hK (fl_blk hP 0 rfl) (2 + (i)) (qBo_row (by omega)) (by omega) dX0_greatest_7 ?_
  exact hQ _ _ _ rfl dX0_greatest_8

set_option maxRecDepth 100000 in
set_option maxHeartbeats 4000000 in
theorem c_X0_least (l : Launch) (D : va_G) (cy : Nat → ClassId) (r : Nat → Nat) (M : Nat → Nat → Int) (x y : Int) (i j : Nat) (hi : x = (i : Int) ∧ i < 11) (hj : y = (j : Int) ∧ j < 11) : qRd l yX0_least (.code yX0_least cX0_least 3 (some .int)) 1 [.ref (r 0), .int (qI (x)), .int (qI (y))] D cy [qBo cy r (M)] (vp_Si (fun v => v = qI (-(M j i)))) := by
  refine q_ofRi (by decide +kernel) (Nat.le_of_ble_eq_true rfl) ?_
  intro p e s m args below meth c Q hx hb hml hown hg hQ hK hN hP ls hl
  have hown : s.vm.findClass RX0 = some m.cls := hown
  have hl : lv_has ls 3 [(0, .ref (r 0)), (1, .int (qI (x))), (2, .int (qI (y)))] := hl
  refine lv_aload_n hx hb dX0_least_0 rfl (lv_at hl 0 rfl) ?_
  refine gf_X0_11 hx hb hg hown hK (fl_blk hP 0 rfl) 0 rfl rfl dX0_least_1 ?_
  refine lv_iload_n hx hb dX0_least_4 rfl (lv_at hl 2 rfl) ?_
  refine q_aald (j := j) (v := r (2 + (j))) hx hb hK (fl_blk hP 0 rfl) 1 rfl (by omega) (if_pos (by omega)) dX0_least_5 ?_
  refine lv_iload_n hx hb dX0_least_6 rfl (lv_at hl 1 rfl) ?_
  refine q_iald (j := i) hx hb hK (fl_blk hP 0 rfl) (2 + (j)) (qBo_row (by omega)) (by omega) dX0_least_7 ?_
  refine q_ineg hx hb dX0_least_8 ?_
  exact hQ _ _ _ rfl dX0_least_9

set_option maxRecDepth 100000 in
set_option maxHeartbeats 4000000 in
theorem c_X0_width (l : Launch) (D : va_G) (cy : Nat → ClassId) (r : Nat → Nat) (M : Nat → Nat → Int) (x : Int) (i : Nat) (hi : x = (i : Int) ∧ i < 11) : qRd l yX0_width (.code yX0_width cX0_width 2 (some .int)) 2 [.ref (r 0), .int (qI (x))] D cy [qBo cy r (M)] (vp_Si (fun v => v = qI (M i 10 - (-(M 10 i))))) := by
  refine q_ofRi (by decide +kernel) (Nat.le_of_ble_eq_true rfl) ?_
  intro p e s m args below meth c Q hx hb hml hown hg hQ hK hN hP ls hl
  have hown : s.vm.findClass RX0 = some m.cls := hown
  have hl : lv_has ls 2 [(0, .ref (r 0)), (1, .int (qI (x)))] := hl
  refine lv_aload_n hx hb dX0_width_0 rfl (lv_at hl 0 rfl) ?_
  refine lv_iload_n hx hb dX0_width_1 rfl (lv_at hl 1 rfl) ?_
  refine q_bipush hx hb dX0_width_2 (by decide) ?_
  refine q_readi (va_runV (As := [.int (qI (x)), .int (qI (10))]) (rest := []) ⟨hx, hb, hml, hown, hg⟩ (c_X0_greatest l D cy (r) (M) _ _ i 10 (by omega) (by omega)) (cv_X0_19 hg rfl rfl ⟨by decide, by decide⟩) ⟨q_blind0, va_recv hK (fl_blk hP 0 rfl) (ci := 0) (q0 := 0) rfl rfl, q_preR _ hK hN hP [0] rfl⟩ rfl rfl hl.1 rfl (lv_room (Nat.le_of_ble_eq_true rfl)) dX0_width_4 ⟨by decide, by decide⟩) (fun r_4 h_4 => ?_)
  subst h_4
  refine lv_aload_n hx hb dX0_width_7 rfl (lv_at hl 0 rfl) ?_
  refine lv_iload_n hx hb dX0_width_8 rfl (lv_at hl 1 rfl) ?_
  refine q_bipush hx hb dX0_width_9 (by decide) ?_
  refine q_readi (va_runV (As := [.int (qI (x)), .int (qI (10))]) (rest := [.int (qI (M i 10))]) ⟨hx, hb, hml, hown, hg⟩ (c_X0_least l D cy (r) (M) _ _ i 10 (by omega) (by omega)) (cv_X0_22 hg rfl rfl ⟨by decide, by decide⟩) ⟨q_blind0, va_recv hK (fl_blk hP 0 rfl) (ci := 0) (q0 := 0) rfl rfl, q_preR _ hK hN hP [0] rfl⟩ rfl rfl hl.1 rfl (lv_room (Nat.le_of_ble_eq_true rfl)) dX0_width_11 ⟨by decide, by decide⟩) (fun r_11 h_11 => ?_)
  subst h_11
  refine q_isub hx hb dX0_width_14 ?_
  exact hQ _ _ _ rfl dX0_width_15

set_option maxRecDepth 100000 in
set_option maxHeartbeats 4000000 in
theorem c_X0_limit (l : Launch) (D : va_G) (cy : Nat → ClassId) (r : Nat → Nat) (M : Nat → Nat → Int) (x y n : Int) (a b : Nat) (hx1 : x = (a : Int) ∧ a < 11) (hy1 : y = (b : Int) ∧ b < 11) (C : qCl M) (hf : 0 ≤ n + M b a) (hn : -4000 ≤ n ∧ n ≤ 4000) (sz : Nat) : qMet l yX0_limit (.code yX0_limit cX0_limit 9 none) 1 [.ref (r 0), .int (qI (x)), .int (qI (y)), .int (qI (n))] D cy [qBo cy r (M)] sz (va_Qv (S := Nat → Nat → Int) (fun M2 => qEq M2 (tg M a b n)) (qB D cy [qBo cy r (M)] sz (fun M2 => [qBo cy r M2])) (va_A [qBo cy r (M)].flatten sz)) := by
  refine q_ofMv (S := Nat → Nat → Int) (b1 := fun M2 => [qBo cy r M2]) (post := fun M2 => qEq M2 (tg M a b n)) (by decide +kernel) (Nat.le_of_ble_eq_true rfl) ?_
  intro p e s m args below meth c Q A hx hb hml hown hg hQ hK hN hD hA H locs ls hP hS hl
  have hown : s.vm.findClass RX0 = some m.cls := hown
  have hl : lv_has ls 9 [(0, .ref (r 0)), (1, .int (qI (x))), (2, .int (qI (y))), (3, .int (qI (n)))] := hl
  have ha9 := hx1.2
  have hb9 := hy1.2
  have b0 := C.2.2 a b ha9 hb9
  refine lv_iload_n hx hb dX0_limit_0 rfl (lv_at hl 3 rfl) ?_
  refine lv_aload_n hx hb dX0_limit_1 rfl (lv_at hl 0 rfl) ?_
  refine gf_X0_11 hx hb hg hown hK (fl_blk hP 0 rfl) 0 rfl rfl dX0_limit_2 ?_
  refine lv_iload_n hx hb dX0_limit_5 rfl (lv_at hl 1 rfl) ?_
  refine q_aald (j := a) (v := r (2 + (a))) hx hb hK (fl_blk hP 0 rfl) 1 rfl (by omega) (if_pos (by omega)) dX0_limit_6 ?_
  refine lv_iload_n hx hb dX0_limit_7 rfl (lv_at hl 2 rfl) ?_
  refine q_iald (j := b) hx hb hK (fl_blk hP 0 rfl) (2 + (a)) (qBo_row (by omega)) (by omega) dX0_limit_8 ?_
  refine q_icmp_lt (tgt := 13) hx hb dX0_limit_9 (by decide) (by omega) (fun c_9 => ?_) (fun c_9 => ?_)
  · skip
    refine q_iconst hx hb dX0_limit_13 ?_
    refine lv_istore (lv' := [(4, .int (qI (0))), (0, .ref (r 0)), (1, .int (qI (x))), (2, .int (qI (y))), (3, .int (qI (n)))]) hx hb dX0_limit_14 hl (by decide) rfl (fun ls hl => ?_)
    have L_16 : ∀ (n_16 k : Nat) (M1 : Nat → Nat → Int), k ≤ 11 → 11 + 1 ≤ k + n_16 → (limI M a b n k 0 M1) → ∀ (H : Heap) (locs : List Loc) (ls : Array Slot), va_P D vwCl [qBo cy r (M1)].flatten H → va_D A [qBo cy r (M1)].flatten → va_S A s.heap H locs → lv_has ls 9 [(0, .ref (r 0)), (1, .int (qI (x))), (2, .int (qI (y))), (3, .int (qI (n))), (4, .int (qI (((k : Nat) : Int))))] → W p l e (qrm 1) s m args below meth c H locs 0 0 Q (F0 m 16 ls []) := by
      intro n_16
      induction n_16 with
      | zero => intro k _ h1 h2; exact absurd h2 (by omega)
      | succ n_16 ih_16 =>
        intro k M1 hk_16 hn_16 hI H locs ls hP hD hS hl
        refine lv_iload hx hb dX0_limit_16 (lv_at hl 4 rfl) ?_
        refine q_bipush hx hb dX0_limit_18 (by decide) ?_
        refine q_icmp_ge (tgt := 138) hx hb dX0_limit_20 (by decide) (by omega) (fun c_20 => ?_) (fun c_20 => ?_)
        · skip
          exact hQ _ _ _ _ _ (limI_end hI (by omega)) hP hD hS dX0_limit_138
        · skip
          have e1 := limI_a hI (i := k) (by omega) ha9 hf
          have e2 := limI_cur hI (j := b) (by omega) hb9 (by omega)
          have b1 := C.2.2 k a (by omega) ha9
          have b2 := C.2.2 k b (by omega) hb9
          refine lv_aload_n hx hb dX0_limit_23 rfl (lv_at hl 0 rfl) ?_
          refine gf_X0_11 hx hb hg hown hK (fl_blk hP 0 rfl) 0 rfl rfl dX0_limit_24 ?_
          refine lv_iload hx hb dX0_limit_27 (lv_at hl 4 rfl) ?_
          refine q_aald (j := k) (v := r (2 + (k))) hx hb hK (fl_blk hP 0 rfl) 1 rfl (by omega) (if_pos (by omega)) dX0_limit_29 ?_
          refine lv_iload_n hx hb dX0_limit_30 rfl (lv_at hl 1 rfl) ?_
          refine q_iald (j := a) hx hb hK (fl_blk hP 0 rfl) (2 + (k)) (qBo_row (by omega)) (by omega) dX0_limit_31 ?_
          refine lv_iload_n hx hb dX0_limit_32 rfl (lv_at hl 3 rfl) ?_
          refine q_iadd hx hb dX0_limit_33 ?_
          refine lv_istore (lv' := [(5, .int (qI ((M1 k a) + (n)))), (0, .ref (r 0)), (1, .int (qI (x))), (2, .int (qI (y))), (3, .int (qI (n))), (4, .int (qI (((k : Nat) : Int))))]) hx hb dX0_limit_34 hl (by decide) rfl (fun ls hl => ?_)
          refine lv_iload hx hb dX0_limit_36 (lv_at hl 0 rfl) ?_
          refine lv_aload_n hx hb dX0_limit_38 rfl (lv_at hl 1 rfl) ?_
          refine gf_X0_11 hx hb hg hown hK (fl_blk hP 0 rfl) 0 rfl rfl dX0_limit_39 ?_
          refine lv_iload hx hb dX0_limit_42 (lv_at hl 5 rfl) ?_
          refine q_aald (j := k) (v := r (2 + (k))) hx hb hK (fl_blk hP 0 rfl) 1 rfl (by omega) (if_pos (by omega)) dX0_limit_44 ?_
          refine lv_iload_n hx hb dX0_limit_45 rfl (lv_at hl 3 rfl) ?_
          refine q_iald (j := b) hx hb hK (fl_blk hP 0 rfl) (2 + (k)) (qBo_row (by omega)) (by omega) dX0_limit_46 ?_
          refine q_icmp_ge (tgt := 54) hx hb dX0_limit_47 (by decide) (by omega) (fun c_47 => ?_) (fun c_47 => ?_)
          · skip
            refine q_iconst hx hb dX0_limit_54 ?_
            refine lv_istore (lv' := [(6, .int (qI (0))), (5, .int (qI ((M1 k a) + (n)))), (0, .ref (r 0)), (1, .int (qI (x))), (2, .int (qI (y))), (3, .int (qI (n))), (4, .int (qI (((k : Nat) : Int))))]) hx hb dX0_limit_55 hl (by decide) rfl (fun ls hl => ?_)
            refine q_iconst hx hb dX0_limit_57 ?_
            refine lv_istore (lv' := [(7, .int (qI (0))), (6, .int (qI (0))), (5, .int (qI ((M1 k a) + (n)))), (0, .ref (r 0)), (1, .int (qI (x))), (2, .int (qI (y))), (3, .int (qI (n))), (4, .int (qI (((k : Nat) : Int))))]) hx hb dX0_limit_58 hl (by decide) rfl (fun ls hl => ?_)
            refine lv_iload hx hb dX0_limit_60 (lv_at hl 1 rfl) ?_
            refine q_if_eq (tgt := 132) hx hb dX0_limit_62 (by decide) (by omega) (fun c_62 => ?_) (fun c_62 => ?_)
            · skip
              refine q_iinc (k := 7) (lv' := [(4, .int (qI ((((k : Nat) : Int)) + (1)))), (7, .int (qI (0))), (6, .int (qI (0))), (5, .int (qI ((M1 k a) + (n)))), (0, .ref (r 0)), (1, .int (qI (x))), (2, .int (qI (y))), (3, .int (qI (n)))]) hx hb dX0_limit_132 hl rfl (by decide) rfl (fun ls hl => ?_)
              refine lv_goto (tgt := 16) hx hb dX0_limit_135 (by decide) ?_
              exact ih_16 (k + 1) _ (by omega) (by omega) (by first | exact limI_next hJ (by omega) | exact limI_skip hI (fun j hj => tg_row C hb9 (by omega) hj (by omega))) _ _ _ hP hD hS (lv_sub hl [4, 5, 6, 7, 0] rfl)
            · skip
              exact absurd c_62 (by decide)
          · skip
            refine q_iconst hx hb dX0_limit_50 ?_
            refine lv_goto (tgt := 55) hx hb dX0_limit_51 (by decide) ?_
            refine lv_istore (lv' := [(6, .int (qI (1))), (5, .int (qI ((M1 k a) + (n)))), (0, .ref (r 0)), (1, .int (qI (x))), (2, .int (qI (y))), (3, .int (qI (n))), (4, .int (qI (((k : Nat) : Int))))]) hx hb dX0_limit_55 hl (by decide) rfl (fun ls hl => ?_)
            refine q_iconst hx hb dX0_limit_57 ?_
            refine lv_istore (lv' := [(7, .int (qI (0))), (6, .int (qI (1))), (5, .int (qI ((M1 k a) + (n)))), (0, .ref (r 0)), (1, .int (qI (x))), (2, .int (qI (y))), (3, .int (qI (n))), (4, .int (qI (((k : Nat) : Int))))]) hx hb dX0_limit_58 hl (by decide) rfl (fun ls hl => ?_)
            have L_60 : ∀ (n_60 t : Nat) (M2 : Nat → Nat → Int), t ≤ 11 → 11 + 1 ≤ t + n_60 → (limI M a b n k t M2) → ∀ (H : Heap) (locs : List Loc) (ls : Array Slot), va_P D vwCl [qBo cy r (M2)].flatten H → va_D A [qBo cy r (M2)].flatten → va_S A s.heap H locs → lv_has ls 9 [(0, .ref (r 0)), (1, .int (qI (x))), (2, .int (qI (y))), (3, .int (qI (n))), (4, .int (qI (((k : Nat) : Int)))), (5, .int (qI ((M1 k a) + (n)))), (6, .int (qI (1))), (7, .int (qI (((t : Nat) : Int))))] → W p l e (qrm 1) s m args below meth c H locs 0 0 Q (F0 m 60 ls []) := by
              intro n_60
              induction n_60 with
              | zero => intro t _ h1 h2; exact absurd h2 (by omega)
              | succ n_60 ih_60 =>
                intro t M2 hk_60 hn_60 hJ H locs ls hP hD hS hl
                refine lv_iload hx hb dX0_limit_60 (lv_at hl 6 rfl) ?_
                refine q_if_eq (tgt := 132) hx hb dX0_limit_62 (by decide) (by omega) (fun c_62 => ?_) (fun c_62 => ?_)
                · skip
                  exact absurd c_62 (by decide)
                · skip
                  refine lv_iload hx hb dX0_limit_65 (lv_at hl 7 rfl) ?_
                  refine q_bipush hx hb dX0_limit_67 (by decide) ?_
                  refine q_icmp_ge (tgt := 132) hx hb dX0_limit_69 (by decide) (by omega) (fun c_69 => ?_) (fun c_69 => ?_)
                  · skip
                    refine q_iinc (k := 4) (lv' := [(4, .int (qI ((((k : Nat) : Int)) + (1)))), (0, .ref (r 0)), (1, .int (qI (x))), (2, .int (qI (y))), (3, .int (qI (n))), (5, .int (qI ((M1 k a) + (n)))), (6, .int (qI (1))), (7, .int (qI (((t : Nat) : Int))))]) hx hb dX0_limit_132 hl rfl (by decide) rfl (fun ls hl => ?_)
                    refine lv_goto (tgt := 16) hx hb dX0_limit_135 (by decide) ?_
                    exact ih_16 (k + 1) _ (by omega) (by omega) (by first | exact limI_next hJ (by omega) | exact limI_skip hI (fun j hj => tg_row C hb9 (by omega) hj (by omega))) _ _ _ hP hD hS (lv_sub hl [1, 2, 3, 4, 0] rfl)
                  · skip
                    have e3 := limI_b hJ (j := t) (by omega) hb9 hf
                    have e4 := limI_cur hJ (j := t) (by omega) (by omega) (Nat.le_refl t)
                    have b3 := C.2.2 b t hb9 (by omega)
                    have b4 := C.2.2 k t (by omega) (by omega)
                    refine lv_iload hx hb dX0_limit_72 (lv_at hl 5 rfl) ?_
                    refine lv_aload_n hx hb dX0_limit_74 rfl (lv_at hl 0 rfl) ?_
                    refine gf_X0_11 hx hb hg hown hK (fl_blk hP 0 rfl) 0 rfl rfl dX0_limit_75 ?_
                    refine lv_iload_n hx hb dX0_limit_78 rfl (lv_at hl 2 rfl) ?_
                    refine q_aald (j := b) (v := r (2 + (b))) hx hb hK (fl_blk hP 0 rfl) 1 rfl (by omega) (if_pos (by omega)) dX0_limit_79 ?_
                    refine lv_iload hx hb dX0_limit_80 (lv_at hl 7 rfl) ?_
                    refine q_iald (j := t) hx hb hK (fl_blk hP 0 rfl) (2 + (b)) (qBo_row (by omega)) (by omega) dX0_limit_82 ?_
                    refine q_iadd hx hb dX0_limit_83 ?_
                    refine lv_istore (lv' := [(8, .int (qI (((M1 k a) + (n)) + (M2 b t)))), (0, .ref (r 0)), (1, .int (qI (x))), (2, .int (qI (y))), (3, .int (qI (n))), (4, .int (qI (((k : Nat) : Int)))), (5, .int (qI ((M1 k a) + (n)))), (6, .int (qI (1))), (7, .int (qI (((t : Nat) : Int))))]) hx hb dX0_limit_84 hl (by decide) rfl (fun ls hl => ?_)
                    refine lv_aload_n hx hb dX0_limit_86 rfl (lv_at hl 1 rfl) ?_
                    refine gf_X0_11 hx hb hg hown hK (fl_blk hP 0 rfl) 0 rfl rfl dX0_limit_87 ?_
                    refine lv_iload hx hb dX0_limit_90 (lv_at hl 5 rfl) ?_
                    refine q_aald (j := k) (v := r (2 + (k))) hx hb hK (fl_blk hP 0 rfl) 1 rfl (by omega) (if_pos (by omega)) dX0_limit_92 ?_
                    refine lv_iload hx hb dX0_limit_93 (lv_at hl 8 rfl) ?_
                    refine lv_iload hx hb dX0_limit_95 (lv_at hl 0 rfl) ?_
                    refine lv_aload_n hx hb dX0_limit_97 rfl (lv_at hl 1 rfl) ?_
                    refine gf_X0_11 hx hb hg hown hK (fl_blk hP 0 rfl) 0 rfl rfl dX0_limit_98 ?_
                    refine lv_iload hx hb dX0_limit_101 (lv_at hl 5 rfl) ?_
                    refine q_aald (j := k) (v := r (2 + (k))) hx hb hK (fl_blk hP 0 rfl) 1 rfl (by omega) (if_pos (by omega)) dX0_limit_103 ?_
                    refine lv_iload hx hb dX0_limit_104 (lv_at hl 8 rfl) ?_
                    refine q_iald (j := t) hx hb hK (fl_blk hP 0 rfl) (2 + (k)) (qBo_row (by omega)) (by omega) dX0_limit_106 ?_
                    refine q_icmp_ge (tgt := 115) hx hb dX0_limit_107 (by decide) (by omega) (fun c_107 => ?_) (fun c_107 => ?_)
                    · skip
                      refine lv_aload_n hx hb dX0_limit_115 rfl (lv_at hl 1 rfl) ?_
                      refine gf_X0_11 hx hb hg hown hK (fl_blk hP 0 rfl) 0 rfl rfl dX0_limit_116 ?_
                      refine lv_iload hx hb dX0_limit_119 (lv_at hl 5 rfl) ?_
                      refine q_aald (j := k) (v := r (2 + (k))) hx hb hK (fl_blk hP 0 rfl) 1 rfl (by omega) (if_pos (by omega)) dX0_limit_121 ?_
                      refine lv_iload hx hb dX0_limit_122 (lv_at hl 8 rfl) ?_
                      refine q_iald (j := t) hx hb hK (fl_blk hP 0 rfl) (2 + (k)) (qBo_row (by omega)) (by omega) dX0_limit_124 ?_
                      refine qb_iastB (k := k) (j := t) hx hb hK hP hD hS 0 rfl (by omega) dX0_limit_125 (fun H locs hP hD hS => ?_)
                      have hP : va_P D vwCl [qBo cy r (qu M2 k (qu (M2 k) t (M2 k t)))].flatten H := hP
                      have hD : va_D A [qBo cy r (qu M2 k (qu (M2 k) t (M2 k t)))].flatten := hD
                      refine q_iinc (k := 8) (lv' := [(7, .int (qI ((((t : Nat) : Int)) + (1)))), (8, .int (qI (((M1 k a) + (n)) + (M2 b t)))), (0, .ref (r 0)), (1, .int (qI (x))), (2, .int (qI (y))), (3, .int (qI (n))), (4, .int (qI (((k : Nat) : Int)))), (5, .int (qI ((M1 k a) + (n)))), (6, .int (qI (1)))]) hx hb dX0_limit_126 hl rfl (by decide) rfl (fun ls hl => ?_)
                      refine lv_goto (tgt := 60) hx hb dX0_limit_129 (by decide) ?_
                      exact ih_60 (t + 1) _ (by omega) (by omega) (limI_step hJ (by unfold tg; split <;> omega)) _ _ _ hP hD hS (lv_sub hl [2, 3, 4, 5, 6, 7, 8, 0] rfl)
                    · skip
                      refine lv_iload hx hb dX0_limit_110 (lv_at hl 0 rfl) ?_
                      refine lv_goto (tgt := 125) hx hb dX0_limit_112 (by decide) ?_
                      refine qb_iastB (k := k) (j := t) hx hb hK hP hD hS 0 rfl (by omega) dX0_limit_125 (fun H locs hP hD hS => ?_)
                      have hP : va_P D vwCl [qBo cy r (qu M2 k (qu (M2 k) t (((M1 k a) + (n)) + (M2 b t))))].flatten H := hP
                      have hD : va_D A [qBo cy r (qu M2 k (qu (M2 k) t (((M1 k a) + (n)) + (M2 b t))))].flatten := hD
                      refine q_iinc (k := 8) (lv' := [(7, .int (qI ((((t : Nat) : Int)) + (1)))), (8, .int (qI (((M1 k a) + (n)) + (M2 b t)))), (0, .ref (r 0)), (1, .int (qI (x))), (2, .int (qI (y))), (3, .int (qI (n))), (4, .int (qI (((k : Nat) : Int)))), (5, .int (qI ((M1 k a) + (n)))), (6, .int (qI (1)))]) hx hb dX0_limit_126 hl rfl (by decide) rfl (fun ls hl => ?_)
                      refine lv_goto (tgt := 60) hx hb dX0_limit_129 (by decide) ?_
                      exact ih_60 (t + 1) _ (by omega) (by omega) (limI_step hJ (by unfold tg; split <;> omega)) _ _ _ hP hD hS (lv_sub hl [2, 3, 4, 5, 6, 7, 8, 0] rfl)
            exact L_60 (11 + 1) (0) (M1) (by omega) (by omega) hI _ _ _ hP hD hS (lv_sub hl [3, 4, 5, 6, 7, 2, 1, 0] rfl)
    exact L_16 (11 + 1) (0) (M) (by omega) (by omega) limI_0 _ _ _ hP hD hS (lv_sub hl [1, 2, 3, 4, 0] rfl)
  · skip
    exact hQ _ _ _ _ _ (fun i j hi hj => (tg_skip C ha9 hb9 (by omega) hi hj).symm) hP hD hS dX0_limit_12

def fiI (N : Nat → Nat → Int) (k t : Nat) (M2 : Nat → Nat → Int) : Prop := ∀ i j, i < 11 → j < 11 → (i < k ∨ (i = k ∧ j < t)) → M2 i j = N i j
theorem fiI_0 {N M : Nat → Nat → Int} : fiI N 0 0 M := fun i j _ _ h => by omega
theorem fiI_step {N M2 : Nat → Nat → Int} {k t : Nat} {v : Int} (h : fiI N k t M2) (hv : v = N k t) : fiI N k (t + 1) (qu M2 k (qu (M2 k) t v)) := by
  intro i j hi hj hh
  by_cases e1 : i = k
  · subst e1
    rw [qu_s]
    by_cases e2 : j = t
    · subst e2
      rw [qu_s, hv]
    · rw [qu_n _ _ e2]
      exact h i j hi hj (by omega)
  · rw [qu_n _ _ e1]
    exact h i j hi hj (by omega)
theorem fiI_next {N M2 : Nat → Nat → Int} {k t : Nat} (h : fiI N k t M2) (ht : 11 ≤ t) : fiI N (k + 1) 0 M2 := fun i j hi hj hh => h i j hi hj (by omega)
theorem fiI_end {N M2 : Nat → Nat → Int} {k : Nat} (h : fiI N k 0 M2) (hk : 11 ≤ k) : qEq M2 N := fun i j hi hj => h i j hi hj (by omega)

set_option maxRecDepth 100000 in
set_option maxHeartbeats 4000000 in
theorem c_X0_open (l : Launch) (D : va_G) (cy : Nat → ClassId) (r : Nat → Nat) (M : Nat → Nat → Int) (sz : Nat) : qMet l yX0_open (.code yX0_open cX0_open 4 none) 1 [.ref (r 0)] D cy [qBo cy r (M)] sz (va_Qv (S := Nat → Nat → Int) (fun M2 => qEq M2 tg0) (qB D cy [qBo cy r (M)] sz (fun M2 => [qBo cy r M2])) (va_A [qBo cy r (M)].flatten sz)) := by
  refine q_ofMv (S := Nat → Nat → Int) (b1 := fun M2 => [qBo cy r M2]) (post := fun M2 => qEq M2 tg0) (by decide +kernel) (Nat.le_of_ble_eq_true rfl) ?_
  intro p e s m args below meth c Q A hx hb hml hown hg hQ hK hN hD hA H locs ls hP hS hl
  have hown : s.vm.findClass RX0 = some m.cls := hown
  have hl : lv_has ls 4 [(0, .ref (r 0))] := hl
  refine q_iconst hx hb dX0_open_0 ?_
  refine lv_istore_n (lv' := [(1, .int (qI (0))), (0, .ref (r 0))]) hx hb dX0_open_1 rfl hl (by decide) rfl (fun ls hl => ?_)
  have L_2 : ∀ (n_2 k : Nat) (M1 : Nat → Nat → Int), k ≤ 11 → 11 + 1 ≤ k + n_2 → (fiI tg0 k 0 M1) → ∀ (H : Heap) (locs : List Loc) (ls : Array Slot), va_P D vwCl [qBo cy r (M1)].flatten H → va_D A [qBo cy r (M1)].flatten → va_S A s.heap H locs → lv_has ls 4 [(0, .ref (r 0)), (1, .int (qI (((k : Nat) : Int))))] → W p l e (qrm 1) s m args below meth c H locs 0 0 Q (F0 m 2 ls []) := by
    intro n_2
    induction n_2 with
    | zero => intro k _ h1 h2; exact absurd h2 (by omega)
    | succ n_2 ih_2 =>
      intro k M1 hk_2 hn_2 hI H locs ls hP hD hS hl
      refine lv_iload_n hx hb dX0_open_2 rfl (lv_at hl 1 rfl) ?_
      refine q_bipush hx hb dX0_open_3 (by decide) ?_
      refine q_icmp_ge (tgt := 76) hx hb dX0_open_5 (by decide) (by omega) (fun c_5 => ?_) (fun c_5 => ?_)
      · skip
        exact hQ _ _ _ _ _ (fiI_end hI (by omega)) hP hD hS dX0_open_76
      · skip
        refine q_iconst hx hb dX0_open_8 ?_
        refine lv_istore_n (lv' := [(2, .int (qI (0))), (0, .ref (r 0)), (1, .int (qI (((k : Nat) : Int))))]) hx hb dX0_open_9 rfl hl (by decide) rfl (fun ls hl => ?_)
        have L_10 : ∀ (n_10 t : Nat) (M2 : Nat → Nat → Int), t ≤ 11 → 11 + 1 ≤ t + n_10 → (fiI tg0 k t M2) → ∀ (H : Heap) (locs : List Loc) (ls : Array Slot), va_P D vwCl [qBo cy r (M2)].flatten H → va_D A [qBo cy r (M2)].flatten → va_S A s.heap H locs → lv_has ls 4 [(0, .ref (r 0)), (1, .int (qI (((k : Nat) : Int)))), (2, .int (qI (((t : Nat) : Int))))] → W p l e (qrm 1) s m args below meth c H locs 0 0 Q (F0 m 10 ls []) := by
          intro n_10
          induction n_10 with
          | zero => intro t _ h1 h2; exact absurd h2 (by omega)
          | succ n_10 ih_10 =>
            intro t M2 hk_10 hn_10 hJ H locs ls hP hD hS hl
            refine lv_iload_n hx hb dX0_open_10 rfl (lv_at hl 2 rfl) ?_
            refine q_bipush hx hb dX0_open_11 (by decide) ?_
            refine q_icmp_ge (tgt := 70) hx hb dX0_open_13 (by decide) (by omega) (fun c_13 => ?_) (fun c_13 => ?_)
            · skip
              refine q_iinc (k := 1) (lv' := [(1, .int (qI ((((k : Nat) : Int)) + (1)))), (0, .ref (r 0)), (2, .int (qI (((t : Nat) : Int))))]) hx hb dX0_open_70 hl rfl (by decide) rfl (fun ls hl => ?_)
              refine lv_goto (tgt := 2) hx hb dX0_open_73 (by decide) ?_
              exact ih_2 (k + 1) _ (by omega) (by omega) (fiI_next hJ (by omega)) _ _ _ hP hD hS (lv_sub hl [1, 0] rfl)
            · skip
              refine lv_iload_n hx hb dX0_open_16 rfl (lv_at hl 1 rfl) ?_
              refine q_bipush hx hb dX0_open_17 (by decide) ?_
              refine q_icmp_eq (tgt := 28) hx hb dX0_open_19 (by decide) (by omega) (fun c_19 => ?_) (fun c_19 => ?_)
              · skip
                refine q_iconst hx hb dX0_open_28 ?_
                refine lv_goto (tgt := 33) hx hb dX0_open_29 (by decide) ?_
                refine lv_istore_n (lv' := [(3, .int (qI (1))), (0, .ref (r 0)), (1, .int (qI (((k : Nat) : Int)))), (2, .int (qI (((t : Nat) : Int))))]) hx hb dX0_open_33 rfl hl (by decide) rfl (fun ls hl => ?_)
                refine lv_aload_n hx hb dX0_open_34 rfl (lv_at hl 1 rfl) ?_
                refine gf_X0_11 hx hb hg hown hK (fl_blk hP 0 rfl) 0 rfl rfl dX0_open_35 ?_
                refine lv_iload_n hx hb dX0_open_38 rfl (lv_at hl 2 rfl) ?_
                refine q_aald (j := k) (v := r (2 + (k))) hx hb hK (fl_blk hP 0 rfl) 1 rfl (by omega) (if_pos (by omega)) dX0_open_39 ?_
                refine lv_iload_n hx hb dX0_open_40 rfl (lv_at hl 3 rfl) ?_
                refine lv_iload_n hx hb dX0_open_41 rfl (lv_at hl 2 rfl) ?_
                refine lv_iload_n hx hb dX0_open_42 rfl (lv_at hl 3 rfl) ?_
                refine q_icmp_ne (tgt := 50) hx hb dX0_open_43 (by decide) (by omega) (fun c_43 => ?_) (fun c_43 => ?_)
                · skip
                  refine lv_iload_n hx hb dX0_open_50 rfl (lv_at hl 0 rfl) ?_
                  refine q_if_eq (tgt := 60) hx hb dX0_open_51 (by decide) (by omega) (fun c_51 => ?_) (fun c_51 => ?_)
                  · skip
                    exact absurd c_51 (by decide)
                  · skip
                    refine q_sipush hx hb dX0_open_54 (by decide) ?_
                    refine lv_goto (tgt := 63) hx hb dX0_open_57 (by decide) ?_
                    refine qb_iastB (k := k) (j := t) hx hb hK hP hD hS 0 rfl (by omega) dX0_open_63 (fun H locs hP hD hS => ?_)
                    have hP : va_P D vwCl [qBo cy r (qu M2 k (qu (M2 k) t (1000)))].flatten H := hP
                    have hD : va_D A [qBo cy r (qu M2 k (qu (M2 k) t (1000)))].flatten := hD
                    refine q_iinc (k := 3) (lv' := [(2, .int (qI ((((t : Nat) : Int)) + (1)))), (3, .int (qI (1))), (0, .ref (r 0)), (1, .int (qI (((k : Nat) : Int))))]) hx hb dX0_open_64 hl rfl (by decide) rfl (fun ls hl => ?_)
                    refine lv_goto (tgt := 10) hx hb dX0_open_67 (by decide) ?_
                    exact ih_10 (t + 1) _ (by omega) (by omega) (fiI_step hJ (by simp only [tg0]; repeat' split <;> omega)) _ _ _ hP hD hS (lv_sub hl [2, 3, 0] rfl)
                · skip
                  refine q_iconst hx hb dX0_open_46 ?_
                  refine lv_goto (tgt := 63) hx hb dX0_open_47 (by decide) ?_
                  refine qb_iastB (k := k) (j := t) hx hb hK hP hD hS 0 rfl (by omega) dX0_open_63 (fun H locs hP hD hS => ?_)
                  have hP : va_P D vwCl [qBo cy r (qu M2 k (qu (M2 k) t (0)))].flatten H := hP
                  have hD : va_D A [qBo cy r (qu M2 k (qu (M2 k) t (0)))].flatten := hD
                  refine q_iinc (k := 3) (lv' := [(2, .int (qI ((((t : Nat) : Int)) + (1)))), (3, .int (qI (1))), (0, .ref (r 0)), (1, .int (qI (((k : Nat) : Int))))]) hx hb dX0_open_64 hl rfl (by decide) rfl (fun ls hl => ?_)
                  refine lv_goto (tgt := 10) hx hb dX0_open_67 (by decide) ?_
                  exact ih_10 (t + 1) _ (by omega) (by omega) (fiI_step hJ (by simp only [tg0]; repeat' split <;> omega)) _ _ _ hP hD hS (lv_sub hl [2, 3, 0] rfl)
              · skip
                refine lv_iload_n hx hb dX0_open_22 rfl (lv_at hl 2 rfl) ?_
                refine q_bipush hx hb dX0_open_23 (by decide) ?_
                refine q_icmp_ne (tgt := 32) hx hb dX0_open_25 (by decide) (by omega) (fun c_25 => ?_) (fun c_25 => ?_)
                · skip
                  refine q_iconst hx hb dX0_open_32 ?_
                  refine lv_istore_n (lv' := [(3, .int (qI (0))), (0, .ref (r 0)), (1, .int (qI (((k : Nat) : Int)))), (2, .int (qI (((t : Nat) : Int))))]) hx hb dX0_open_33 rfl hl (by decide) rfl (fun ls hl => ?_)
                  refine lv_aload_n hx hb dX0_open_34 rfl (lv_at hl 1 rfl) ?_
                  refine gf_X0_11 hx hb hg hown hK (fl_blk hP 0 rfl) 0 rfl rfl dX0_open_35 ?_
                  refine lv_iload_n hx hb dX0_open_38 rfl (lv_at hl 2 rfl) ?_
                  refine q_aald (j := k) (v := r (2 + (k))) hx hb hK (fl_blk hP 0 rfl) 1 rfl (by omega) (if_pos (by omega)) dX0_open_39 ?_
                  refine lv_iload_n hx hb dX0_open_40 rfl (lv_at hl 3 rfl) ?_
                  refine lv_iload_n hx hb dX0_open_41 rfl (lv_at hl 2 rfl) ?_
                  refine lv_iload_n hx hb dX0_open_42 rfl (lv_at hl 3 rfl) ?_
                  refine q_icmp_ne (tgt := 50) hx hb dX0_open_43 (by decide) (by omega) (fun c_43 => ?_) (fun c_43 => ?_)
                  · skip
                    refine lv_iload_n hx hb dX0_open_50 rfl (lv_at hl 0 rfl) ?_
                    refine q_if_eq (tgt := 60) hx hb dX0_open_51 (by decide) (by omega) (fun c_51 => ?_) (fun c_51 => ?_)
                    · skip
                      refine q_sipush hx hb dX0_open_60 (by decide) ?_
                      refine qb_iastB (k := k) (j := t) hx hb hK hP hD hS 0 rfl (by omega) dX0_open_63 (fun H locs hP hD hS => ?_)
                      have hP : va_P D vwCl [qBo cy r (qu M2 k (qu (M2 k) t (2000)))].flatten H := hP
                      have hD : va_D A [qBo cy r (qu M2 k (qu (M2 k) t (2000)))].flatten := hD
                      refine q_iinc (k := 3) (lv' := [(2, .int (qI ((((t : Nat) : Int)) + (1)))), (3, .int (qI (0))), (0, .ref (r 0)), (1, .int (qI (((k : Nat) : Int))))]) hx hb dX0_open_64 hl rfl (by decide) rfl (fun ls hl => ?_)
                      refine lv_goto (tgt := 10) hx hb dX0_open_67 (by decide) ?_
                      exact ih_10 (t + 1) _ (by omega) (by omega) (fiI_step hJ (by simp only [tg0]; repeat' split <;> omega)) _ _ _ hP hD hS (lv_sub hl [2, 3, 0] rfl)
                    · skip
                      exact absurd c_51 (by decide)
                  · skip
                    refine q_iconst hx hb dX0_open_46 ?_
                    refine lv_goto (tgt := 63) hx hb dX0_open_47 (by decide) ?_
                    refine qb_iastB (k := k) (j := t) hx hb hK hP hD hS 0 rfl (by omega) dX0_open_63 (fun H locs hP hD hS => ?_)
                    have hP : va_P D vwCl [qBo cy r (qu M2 k (qu (M2 k) t (0)))].flatten H := hP
                    have hD : va_D A [qBo cy r (qu M2 k (qu (M2 k) t (0)))].flatten := hD
                    refine q_iinc (k := 3) (lv' := [(2, .int (qI ((((t : Nat) : Int)) + (1)))), (3, .int (qI (0))), (0, .ref (r 0)), (1, .int (qI (((k : Nat) : Int))))]) hx hb dX0_open_64 hl rfl (by decide) rfl (fun ls hl => ?_)
                    refine lv_goto (tgt := 10) hx hb dX0_open_67 (by decide) ?_
                    exact ih_10 (t + 1) _ (by omega) (by omega) (fiI_step hJ (by simp only [tg0]; repeat' split <;> omega)) _ _ _ hP hD hS (lv_sub hl [2, 3, 0] rfl)
                · skip
                  refine q_iconst hx hb dX0_open_28 ?_
                  refine lv_goto (tgt := 33) hx hb dX0_open_29 (by decide) ?_
                  refine lv_istore_n (lv' := [(3, .int (qI (1))), (0, .ref (r 0)), (1, .int (qI (((k : Nat) : Int)))), (2, .int (qI (((t : Nat) : Int))))]) hx hb dX0_open_33 rfl hl (by decide) rfl (fun ls hl => ?_)
                  refine lv_aload_n hx hb dX0_open_34 rfl (lv_at hl 1 rfl) ?_
                  refine gf_X0_11 hx hb hg hown hK (fl_blk hP 0 rfl) 0 rfl rfl dX0_open_35 ?_
                  refine lv_iload_n hx hb dX0_open_38 rfl (lv_at hl 2 rfl) ?_
                  refine q_aald (j := k) (v := r (2 + (k))) hx hb hK (fl_blk hP 0 rfl) 1 rfl (by omega) (if_pos (by omega)) dX0_open_39 ?_
                  refine lv_iload_n hx hb dX0_open_40 rfl (lv_at hl 3 rfl) ?_
                  refine lv_iload_n hx hb dX0_open_41 rfl (lv_at hl 2 rfl) ?_
                  refine lv_iload_n hx hb dX0_open_42 rfl (lv_at hl 3 rfl) ?_
                  refine q_icmp_ne (tgt := 50) hx hb dX0_open_43 (by decide) (by omega) (fun c_43 => ?_) (fun c_43 => ?_)
                  · skip
                    refine lv_iload_n hx hb dX0_open_50 rfl (lv_at hl 0 rfl) ?_
                    refine q_if_eq (tgt := 60) hx hb dX0_open_51 (by decide) (by omega) (fun c_51 => ?_) (fun c_51 => ?_)
                    · skip
                      exact absurd c_51 (by decide)
                    · skip
                      refine q_sipush hx hb dX0_open_54 (by decide) ?_
                      refine lv_goto (tgt := 63) hx hb dX0_open_57 (by decide) ?_
                      refine qb_iastB (k := k) (j := t) hx hb hK hP hD hS 0 rfl (by omega) dX0_open_63 (fun H locs hP hD hS => ?_)
                      have hP : va_P D vwCl [qBo cy r (qu M2 k (qu (M2 k) t (1000)))].flatten H := hP
                      have hD : va_D A [qBo cy r (qu M2 k (qu (M2 k) t (1000)))].flatten := hD
                      refine q_iinc (k := 3) (lv' := [(2, .int (qI ((((t : Nat) : Int)) + (1)))), (3, .int (qI (1))), (0, .ref (r 0)), (1, .int (qI (((k : Nat) : Int))))]) hx hb dX0_open_64 hl rfl (by decide) rfl (fun ls hl => ?_)
                      refine lv_goto (tgt := 10) hx hb dX0_open_67 (by decide) ?_
                      exact ih_10 (t + 1) _ (by omega) (by omega) (fiI_step hJ (by simp only [tg0]; repeat' split <;> omega)) _ _ _ hP hD hS (lv_sub hl [2, 3, 0] rfl)
                  · skip
                    refine q_iconst hx hb dX0_open_46 ?_
                    refine lv_goto (tgt := 63) hx hb dX0_open_47 (by decide) ?_
                    refine qb_iastB (k := k) (j := t) hx hb hK hP hD hS 0 rfl (by omega) dX0_open_63 (fun H locs hP hD hS => ?_)
                    have hP : va_P D vwCl [qBo cy r (qu M2 k (qu (M2 k) t (0)))].flatten H := hP
                    have hD : va_D A [qBo cy r (qu M2 k (qu (M2 k) t (0)))].flatten := hD
                    refine q_iinc (k := 3) (lv' := [(2, .int (qI ((((t : Nat) : Int)) + (1)))), (3, .int (qI (1))), (0, .ref (r 0)), (1, .int (qI (((k : Nat) : Int))))]) hx hb dX0_open_64 hl rfl (by decide) rfl (fun ls hl => ?_)
                    refine lv_goto (tgt := 10) hx hb dX0_open_67 (by decide) ?_
                    exact ih_10 (t + 1) _ (by omega) (by omega) (fiI_step hJ (by simp only [tg0]; repeat' split <;> omega)) _ _ _ hP hD hS (lv_sub hl [2, 3, 0] rfl)
        exact L_10 (11 + 1) (0) (M1) (by omega) (by omega) hI _ _ _ hP hD hS (lv_sub hl [1, 2, 0] rfl)
  exact L_2 (11 + 1) (0) (M) (by omega) (by omega) fiI_0 _ _ _ hP hD hS (lv_sub hl [1, 0] rfl)

set_option maxRecDepth 100000 in
set_option maxHeartbeats 4000000 in
theorem c_X0_copyFrom (l : Launch) (D : va_G) (cy : Nat → ClassId) (r r2 : Nat → Nat) (M N : Nat → Nat → Int) (sz : Nat) : qMet l yX0_copyFrom (.code yX0_copyFrom cX0_copyFrom 4 none) 1 [.ref (r 0), .ref (r2 0)] D cy [qBo cy r (M), qBo cy r2 (N)] sz (va_Qv (S := Nat → Nat → Int) (fun M2 => qEq M2 N) (qB D cy [qBo cy r (M), qBo cy r2 (N)] sz (fun M2 => [qBo cy r M2, qBo cy r2 N])) (va_A [qBo cy r (M), qBo cy r2 (N)].flatten sz)) := by
  refine q_ofMv (S := Nat → Nat → Int) (b1 := fun M2 => [qBo cy r M2, qBo cy r2 N]) (post := fun M2 => qEq M2 N) (by decide +kernel) (Nat.le_of_ble_eq_true rfl) ?_
  intro p e s m args below meth c Q A hx hb hml hown hg hQ hK hN hD hA H locs ls hP hS hl
  have hown : s.vm.findClass RX0 = some m.cls := hown
  have hl : lv_has ls 4 [(0, .ref (r 0)), (1, .ref (r2 0))] := hl
  refine q_iconst hx hb dX0_copyFrom_0 ?_
  refine lv_istore_n (lv' := [(2, .int (qI (0))), (0, .ref (r 0)), (1, .ref (r2 0))]) hx hb dX0_copyFrom_1 rfl hl (by decide) rfl (fun ls hl => ?_)
  have L_2 : ∀ (n_2 k : Nat) (M1 : Nat → Nat → Int), k ≤ 11 → 11 + 1 ≤ k + n_2 → (fiI N k 0 M1) → ∀ (H : Heap) (locs : List Loc) (ls : Array Slot), va_P D vwCl [qBo cy r (M1), qBo cy r2 (N)].flatten H → va_D A [qBo cy r (M1), qBo cy r2 (N)].flatten → va_S A s.heap H locs → lv_has ls 4 [(0, .ref (r 0)), (1, .ref (r2 0)), (2, .int (qI (((k : Nat) : Int))))] → W p l e (qrm 1) s m args below meth c H locs 0 0 Q (F0 m 2 ls []) := by
    intro n_2
    induction n_2 with
    | zero => intro k _ h1 h2; exact absurd h2 (by omega)
    | succ n_2 ih_2 =>
      intro k M1 hk_2 hn_2 hI H locs ls hP hD hS hl
      refine lv_iload_n hx hb dX0_copyFrom_2 rfl (lv_at hl 2 rfl) ?_
      refine q_bipush hx hb dX0_copyFrom_3 (by decide) ?_
      refine q_icmp_ge (tgt := 44) hx hb dX0_copyFrom_5 (by decide) (by omega) (fun c_5 => ?_) (fun c_5 => ?_)
      · skip
        exact hQ _ _ _ _ _ (fiI_end hI (by omega)) hP hD hS dX0_copyFrom_44
      · skip
        refine q_iconst hx hb dX0_copyFrom_8 ?_
        refine lv_istore_n (lv' := [(3, .int (qI (0))), (0, .ref (r 0)), (1, .ref (r2 0)), (2, .int (qI (((k : Nat) : Int))))]) hx hb dX0_copyFrom_9 rfl hl (by decide) rfl (fun ls hl => ?_)
        have L_10 : ∀ (n_10 t : Nat) (M2 : Nat → Nat → Int), t ≤ 11 → 11 + 1 ≤ t + n_10 → (fiI N k t M2) → ∀ (H : Heap) (locs : List Loc) (ls : Array Slot), va_P D vwCl [qBo cy r (M2), qBo cy r2 (N)].flatten H → va_D A [qBo cy r (M2), qBo cy r2 (N)].flatten → va_S A s.heap H locs → lv_has ls 4 [(0, .ref (r 0)), (1, .ref (r2 0)), (2, .int (qI (((k : Nat) : Int)))), (3, .int (qI (((t : Nat) : Int))))] → W p l e (qrm 1) s m args below meth c H locs 0 0 Q (F0 m 10 ls []) := by
          intro n_10
          induction n_10 with
          | zero => intro t _ h1 h2; exact absurd h2 (by omega)
          | succ n_10 ih_10 =>
            intro t M2 hk_10 hn_10 hJ H locs ls hP hD hS hl
            refine lv_iload_n hx hb dX0_copyFrom_10 rfl (lv_at hl 3 rfl) ?_
            refine q_bipush hx hb dX0_copyFrom_11 (by decide) ?_
            refine q_icmp_ge (tgt := 38) hx hb dX0_copyFrom_13 (by decide) (by omega) (fun c_13 => ?_) (fun c_13 => ?_)
            · skip
              refine q_iinc (k := 2) (lv' := [(2, .int (qI ((((k : Nat) : Int)) + (1)))), (0, .ref (r 0)), (1, .ref (r2 0)), (3, .int (qI (((t : Nat) : Int))))]) hx hb dX0_copyFrom_38 hl rfl (by decide) rfl (fun ls hl => ?_)
              refine lv_goto (tgt := 2) hx hb dX0_copyFrom_41 (by decide) ?_
              exact ih_2 (k + 1) _ (by omega) (by omega) (fiI_next hJ (by omega)) _ _ _ hP hD hS (lv_sub hl [1, 2, 0] rfl)
            · skip
              refine lv_aload_n hx hb dX0_copyFrom_16 rfl (lv_at hl 0 rfl) ?_
              refine gf_X0_11 hx hb hg hown hK (fl_blk hP 0 rfl) 0 rfl rfl dX0_copyFrom_17 ?_
              refine lv_iload_n hx hb dX0_copyFrom_20 rfl (lv_at hl 2 rfl) ?_
              refine q_aald (j := k) (v := r (2 + (k))) hx hb hK (fl_blk hP 0 rfl) 1 rfl (by omega) (if_pos (by omega)) dX0_copyFrom_21 ?_
              refine lv_iload_n hx hb dX0_copyFrom_22 rfl (lv_at hl 3 rfl) ?_
              refine lv_aload_n hx hb dX0_copyFrom_23 rfl (lv_at hl 1 rfl) ?_
              refine gf_X0_11 hx hb hg hown hK (fl_blk hP 1 rfl) 0 rfl rfl dX0_copyFrom_24 ?_
              refine lv_iload_n hx hb dX0_copyFrom_27 rfl (lv_at hl 2 rfl) ?_
              refine q_aald (j := k) (v := r2 (2 + (k))) hx hb hK (fl_blk hP 1 rfl) 1 rfl (by omega) (if_pos (by omega)) dX0_copyFrom_28 ?_
              refine lv_iload_n hx hb dX0_copyFrom_29 rfl (lv_at hl 3 rfl) ?_
              refine q_iald (j := t) hx hb hK (fl_blk hP 1 rfl) (2 + (k)) (qBo_row (by omega)) (by omega) dX0_copyFrom_30 ?_
              refine qb_iastB (k := k) (j := t) hx hb hK hP hD hS 0 rfl (by omega) dX0_copyFrom_31 (fun H locs hP hD hS => ?_)
              have hP : va_P D vwCl [qBo cy r (qu M2 k (qu (M2 k) t (N k t))), qBo cy r2 (N)].flatten H := hP
              have hD : va_D A [qBo cy r (qu M2 k (qu (M2 k) t (N k t))), qBo cy r2 (N)].flatten := hD
              refine q_iinc (k := 3) (lv' := [(3, .int (qI ((((t : Nat) : Int)) + (1)))), (0, .ref (r 0)), (1, .ref (r2 0)), (2, .int (qI (((k : Nat) : Int))))]) hx hb dX0_copyFrom_32 hl rfl (by decide) rfl (fun ls hl => ?_)
              refine lv_goto (tgt := 10) hx hb dX0_copyFrom_35 (by decide) ?_
              exact ih_10 (t + 1) _ (by omega) (by omega) (fiI_step hJ rfl) _ _ _ hP hD hS (lv_sub hl [1, 2, 3, 0] rfl)
        exact L_10 (11 + 1) (0) (M1) (by omega) (by omega) hI _ _ _ hP hD hS (lv_sub hl [1, 2, 3, 0] rfl)
  exact L_2 (11 + 1) (0) (M) (by omega) (by omega) fiI_0 _ _ _ hP hD hS (lv_sub hl [1, 2, 0] rfl)
