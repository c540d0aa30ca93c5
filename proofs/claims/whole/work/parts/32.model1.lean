/-! ===== the reference: its greatest differences in one row ===== -/
def mM (g : Nat → Int) : Nat → Nat → Int := fun i j => g (11 * i + j)
theorem mM_up {g : Nat → Int} {k t i j : Nat} {v : Int} (ht : t < 11) (hj : j < 11) : mM (qu g (11 * k + t) v) i j = if i = k ∧ j = t then v else mM g i j := by
  unfold mM
  by_cases e : i = k ∧ j = t
  · obtain ⟨rfl, rfl⟩ := e
    rw [qu_s, if_pos ⟨rfl, rfl⟩]
  · rw [qu_n _ _ (by omega), if_neg e]
theorem limA_step {M : Nat → Nat → Int} {g : Nat → Int} {a b k t : Nat} {n v : Int} (h : limI M a b n k t (mM g)) (ht : t < 11) (hv : v = tg M a b n k t) : limI M a b n k (t + 1) (mM (qu g (11 * k + t) v)) := by
  intro i j hi hj
  rw [mM_up ht hj]
  by_cases e : i = k ∧ j = t
  · obtain ⟨rfl, rfl⟩ := e
    rw [if_pos ⟨rfl, rfl⟩, if_pos (by omega), hv]
  · rw [if_neg e, h i j hi hj]
    by_cases e3 : i < k ∨ (i = k ∧ j < t)
    · rw [if_pos e3, if_pos (by omega)]
    · rw [if_neg e3, if_neg (by omega)]

set_option maxRecDepth 100000 in
set_option maxHeartbeats 4000000 in
theorem c_X8_bind (l : Launch) (D : va_G) (cy : Nat → ClassId) (mo mz msv mtx mmo mif mmg mtn mie mme mrd mas : Nat) (th sv ml tu : Int) (fi : Bool) (ro sp it : Int) (bl : Bool) (hh : Int64) (g : Nat → Int) (q1 q2 n : Int) (a b : Nat) (h1 : q1 = (a : Int) ∧ a < 11) (h2 : q2 = (b : Int) ∧ b < 11) (C : qCl (mM g)) (hf : 0 ≤ n + mM g b a) (hn : -4000 ≤ n ∧ n ≤ 4000) (sz : Nat) : qMet l yX8_bind (.code yX8_bind cX8_bind 7 none) 1 [.ref (mo), .int (qI (q1)), .int (qI (q2)), .int (qI (n))] D cy [[(mo, .inr (8, [.int (qI (th)), .ref (mz), .int (qI (sv)), .ref (msv), .int (qI (ml)), .ref (mtx), .ref (mmo), .int (qI (tu)), .ref (mif), .ref (mmg), .ref (mtn), .ref (mie), .ref (mme), .int (qz (fi)), .int (qI (ro)), .int (qI (sp)), .int (qI (it)), .int (qz (bl)), .ref (mrd), .ref (mas), .long (hh)]))], [(mmo, aI cy 121 (g))]] sz (va_Qv (S := Nat → Int) (fun g2 => qEq (mM g2) (tg (mM g) a b n)) (qB D cy [[(mo, .inr (8, [.int (qI (th)), .ref (mz), .int (qI (sv)), .ref (msv), .int (qI (ml)), .ref (mtx), .ref (mmo), .int (qI (tu)), .ref (mif), .ref (mmg), .ref (mtn), .ref (mie), .ref (mme), .int (qz (fi)), .int (qI (ro)), .int (qI (sp)), .int (qI (it)), .int (qz (bl)), .ref (mrd), .ref (mas), .long (hh)]))], [(mmo, aI cy 121 (g))]] sz (fun g2 => [[(mo, .inr (8, [.int (qI (th)), .ref (mz), .int (qI (sv)), .ref (msv), .int (qI (ml)), .ref (mtx), .ref (mmo), .int (qI (tu)), .ref (mif), .ref (mmg), .ref (mtn), .ref (mie), .ref (mme), .int (qz (fi)), .int (qI (ro)), .int (qI (sp)), .int (qI (it)), .int (qz (bl)), .ref (mrd), .ref (mas), .long (hh)]))], [(mmo, aI cy 121 (g2))]])) (va_A [[(mo, .inr (8, [.int (qI (th)), .ref (mz), .int (qI (sv)), .ref (msv), .int (qI (ml)), .ref (mtx), .ref (mmo), .int (qI (tu)), .ref (mif), .ref (mmg), .ref (mtn), .ref (mie), .ref (mme), .int (qz (fi)), .int (qI (ro)), .int (qI (sp)), .int (qI (it)), .int (qz (bl)), .ref (mrd), .ref (mas), .long (hh)]))], [(mmo, aI cy 121 (g))]].flatten sz)) := by
  refine q_ofMv (S := Nat → Int) (b1 := fun g2 => [[(mo, .inr (8, [.int (qI (th)), .ref (mz), .int (qI (sv)), .ref (msv), .int (qI (ml)), .ref (mtx), .ref (mmo), .int (qI (tu)), .ref (mif), .ref (mmg), .ref (mtn), .ref (mie), .ref (mme), .int (qz (fi)), .int (qI (ro)), .int (qI (sp)), .int (qI (it)), .int (qz (bl)), .ref (mrd), .ref (mas), .long (hh)]))], [(mmo, aI cy 121 (g2))]]) (post := fun g2 => qEq (mM g2) (tg (mM g) a b n)) (by decide +kernel) (Nat.le_of_ble_eq_true rfl) ?_
  intro p e s m args below meth c Q A hx hb hml hown hg hQ hK hN hD hA H locs ls hP hS hl
  have hown : s.vm.findClass RX8 = some m.cls := hown
  have hl : lv_has ls 7 [(0, .ref (mo)), (1, .int (qI (q1))), (2, .int (qI (q2))), (3, .int (qI (n)))] := hl
  have ha9 := h1.2
  have hb9 := h2.2
  refine q_iconst hx hb dX8_bind_0 ?_
  refine lv_istore (lv' := [(4, .int (qI (0))), (0, .ref (mo)), (1, .int (qI (q1))), (2, .int (qI (q2))), (3, .int (qI (n)))]) hx hb dX8_bind_1 hl (by decide) rfl (fun ls hl => ?_)
  have L_3 : ∀ (n_3 k : Nat) (g1 : Nat → Int), k ≤ 11 → 11 + 1 ≤ k + n_3 → (limI (mM g) a b n k 0 (mM g1)) → ∀ (H : Heap) (locs : List Loc) (ls : Array Slot), va_P D vwCl [[(mo, .inr (8, [.int (qI (th)), .ref (mz), .int (qI (sv)), .ref (msv), .int (qI (ml)), .ref (mtx), .ref (mmo), .int (qI (tu)), .ref (mif), .ref (mmg), .ref (mtn), .ref (mie), .ref (mme), .int (qz (fi)), .int (qI (ro)), .int (qI (sp)), .int (qI (it)), .int (qz (bl)), .ref (mrd), .ref (mas), .long (hh)]))], [(mmo, aI cy 121 (g1))]].flatten H → va_D A [[(mo, .inr (8, [.int (qI (th)), .ref (mz), .int (qI (sv)), .ref (msv), .int (qI (ml)), .ref (mtx), .ref (mmo), .int (qI (tu)), .ref (mif), .ref (mmg), .ref (mtn), .ref (mie), .ref (mme), .int (qz (fi)), .int (qI (ro)), .int (qI (sp)), .int (qI (it)), .int (qz (bl)), .ref (mrd), .ref (mas), .long (hh)]))], [(mmo, aI cy 121 (g1))]].flatten → va_S A s.heap H locs → lv_has ls 7 [(0, .ref (mo)), (1, .int (qI (q1))), (2, .int (qI (q2))), (3, .int (qI (n))), (4, .int (qI (((k : Nat) : Int))))] → W p l e (qrm 1) s m args below meth c H locs 0 0 Q (F0 m 3 ls []) := by
    intro n_3
    induction n_3 with
    | zero => intro k _ h1 h2; exact absurd h2 (by omega)
    | succ n_3 ih_3 =>
      intro k g1 hk_3 hn_3 hI H locs ls hP hD hS hl
      refine lv_iload hx hb dX8_bind_3 (lv_at hl 4 rfl) ?_
      refine q_bipush hx hb dX8_bind_5 (by decide) ?_
      refine q_icmp_ge (tgt := 110) hx hb dX8_bind_7 (by decide) (by omega) (fun c_7 => ?_) (fun c_7 => ?_)
      · skip
        exact hQ _ _ _ _ _ (limI_end hI (by omega)) hP hD hS dX8_bind_110
      · skip
        refine q_iconst hx hb dX8_bind_10 ?_
        refine lv_istore (lv' := [(5, .int (qI (0))), (0, .ref (mo)), (1, .int (qI (q1))), (2, .int (qI (q2))), (3, .int (qI (n))), (4, .int (qI (((k : Nat) : Int))))]) hx hb dX8_bind_11 hl (by decide) rfl (fun ls hl => ?_)
        have L_13 : ∀ (n_13 t : Nat) (g2 : Nat → Int), t ≤ 11 → 11 + 1 ≤ t + n_13 → (limI (mM g) a b n k t (mM g2)) → ∀ (H : Heap) (locs : List Loc) (ls : Array Slot), va_P D vwCl [[(mo, .inr (8, [.int (qI (th)), .ref (mz), .int (qI (sv)), .ref (msv), .int (qI (ml)), .ref (mtx), .ref (mmo), .int (qI (tu)), .ref (mif), .ref (mmg), .ref (mtn), .ref (mie), .ref (mme), .int (qz (fi)), .int (qI (ro)), .int (qI (sp)), .int (qI (it)), .int (qz (bl)), .ref (mrd), .ref (mas), .long (hh)]))], [(mmo, aI cy 121 (g2))]].flatten H → va_D A [[(mo, .inr (8, [.int (qI (th)), .ref (mz), .int (qI (sv)), .ref (msv), .int (qI (ml)), .ref (mtx), .ref (mmo), .int (qI (tu)), .ref (mif), .ref (mmg), .ref (mtn), .ref (mie), .ref (mme), .int (qz (fi)), .int (qI (ro)), .int (qI (sp)), .int (qI (it)), .int (qz (bl)), .ref (mrd), .ref (mas), .long (hh)]))], [(mmo, aI cy 121 (g2))]].flatten → va_S A s.heap H locs → lv_has ls 7 [(0, .ref (mo)), (1, .int (qI (q1))), (2, .int (qI (q2))), (3, .int (qI (n))), (4, .int (qI (((k : Nat) : Int)))), (5, .int (qI (((t : Nat) : Int))))] → W p l e (qrm 1) s m args below meth c H locs 0 0 Q (F0 m 13 ls []) := by
          intro n_13
          induction n_13 with
          | zero => intro t _ h1 h2; exact absurd h2 (by omega)
          | succ n_13 ih_13 =>
            intro t g2 hk_13 hn_13 hJ H locs ls hP hD hS hl
            refine lv_iload hx hb dX8_bind_13 (lv_at hl 5 rfl) ?_
            refine q_bipush hx hb dX8_bind_15 (by decide) ?_
            refine q_icmp_ge (tgt := 104) hx hb dX8_bind_17 (by decide) (by omega) (fun c_17 => ?_) (fun c_17 => ?_)
            · skip
              refine q_iinc (k := 4) (lv' := [(4, .int (qI ((((k : Nat) : Int)) + (1)))), (0, .ref (mo)), (1, .int (qI (q1))), (2, .int (qI (q2))), (3, .int (qI (n))), (5, .int (qI (((t : Nat) : Int))))]) hx hb dX8_bind_104 hl rfl (by decide) rfl (fun ls hl => ?_)
              refine lv_goto (tgt := 3) hx hb dX8_bind_107 (by decide) ?_
              exact ih_3 (k + 1) _ (by omega) (by omega) (limI_next hJ (by omega)) _ _ _ hP hD hS (lv_sub hl [1, 2, 3, 4, 0] rfl)
            · skip
              have e1 : g2 (11 * k + a) = mM g k a := limI_a hJ (i := k) (by omega) ha9 hf
              have e3 : g2 (11 * b + t) = mM g b t := limI_b hJ (j := t) (by omega) hb9 hf
              have e4 : g2 (11 * k + t) = mM g k t := limI_cur hJ (j := t) (by omega) (by omega) (Nat.le_refl t)
              have b1 := C.2.2 k a (by omega) ha9
              have b3 := C.2.2 b t hb9 (by omega)
              have b4 := C.2.2 k t (by omega) (by omega)
              refine lv_aload_n hx hb dX8_bind_20 rfl (lv_at hl 0 rfl) ?_
              refine gf_X8_19 hx hb hg hown hK (fl_blk hP 0 rfl) 0 rfl rfl dX8_bind_21 ?_
              refine q_bipush hx hb dX8_bind_24 (by decide) ?_
              refine lv_iload hx hb dX8_bind_26 (lv_at hl 4 rfl) ?_
              refine q_imul hx hb dX8_bind_28 ?_
              refine lv_iload_n hx hb dX8_bind_29 rfl (lv_at hl 1 rfl) ?_
              refine q_iadd hx hb dX8_bind_30 ?_
              refine q_iald (j := ((11 * k) + a)) hx hb hK (fl_blk hP 1 rfl) 0 rfl (by omega) dX8_bind_31 ?_
              refine lv_iload_n hx hb dX8_bind_32 rfl (lv_at hl 3 rfl) ?_
              refine q_iadd hx hb dX8_bind_33 ?_
              refine lv_aload_n hx hb dX8_bind_34 rfl (lv_at hl 0 rfl) ?_
              refine gf_X8_19 hx hb hg hown hK (fl_blk hP 0 rfl) 0 rfl rfl dX8_bind_35 ?_
              refine q_bipush hx hb dX8_bind_38 (by decide) ?_
              refine lv_iload_n hx hb dX8_bind_40 rfl (lv_at hl 2 rfl) ?_
              refine q_imul hx hb dX8_bind_41 ?_
              refine lv_iload hx hb dX8_bind_42 (lv_at hl 5 rfl) ?_
              refine q_iadd hx hb dX8_bind_44 ?_
              refine q_iald (j := ((11 * b) + t)) hx hb hK (fl_blk hP 1 rfl) 0 rfl (by omega) dX8_bind_45 ?_
              refine q_iadd hx hb dX8_bind_46 ?_
              refine lv_istore (lv' := [(6, .int (qI (((g2 ((11 * k) + a)) + (n)) + (g2 ((11 * b) + t))))), (0, .ref (mo)), (1, .int (qI (q1))), (2, .int (qI (q2))), (3, .int (qI (n))), (4, .int (qI (((k : Nat) : Int)))), (5, .int (qI (((t : Nat) : Int))))]) hx hb dX8_bind_47 hl (by decide) rfl (fun ls hl => ?_)
              refine lv_aload_n hx hb dX8_bind_49 rfl (lv_at hl 1 rfl) ?_
              refine gf_X8_19 hx hb hg hown hK (fl_blk hP 0 rfl) 0 rfl rfl dX8_bind_50 ?_
              refine q_bipush hx hb dX8_bind_53 (by decide) ?_
              refine lv_iload hx hb dX8_bind_55 (lv_at hl 5 rfl) ?_
              refine q_imul hx hb dX8_bind_57 ?_
              refine lv_iload hx hb dX8_bind_58 (lv_at hl 6 rfl) ?_
              refine q_iadd hx hb dX8_bind_60 ?_
              refine lv_iload hx hb dX8_bind_61 (lv_at hl 0 rfl) ?_
              refine lv_aload_n hx hb dX8_bind_63 rfl (lv_at hl 1 rfl) ?_
              refine gf_X8_19 hx hb hg hown hK (fl_blk hP 0 rfl) 0 rfl rfl dX8_bind_64 ?_
              refine q_bipush hx hb dX8_bind_67 (by decide) ?_
              refine lv_iload hx hb dX8_bind_69 (lv_at hl 5 rfl) ?_
              refine q_imul hx hb dX8_bind_71 ?_
              refine lv_iload hx hb dX8_bind_72 (lv_at hl 6 rfl) ?_
              refine q_iadd hx hb dX8_bind_74 ?_
              refine q_iald (j := ((11 * k) + t)) hx hb hK (fl_blk hP 1 rfl) 0 rfl (by omega) dX8_bind_75 ?_
              refine q_icmp_ge (tgt := 84) hx hb dX8_bind_76 (by decide) (by omega) (fun c_76 => ?_) (fun c_76 => ?_)
              · skip
                refine lv_aload_n hx hb dX8_bind_84 rfl (lv_at hl 1 rfl) ?_
                refine gf_X8_19 hx hb hg hown hK (fl_blk hP 0 rfl) 0 rfl rfl dX8_bind_85 ?_
                refine q_bipush hx hb dX8_bind_88 (by decide) ?_
                refine lv_iload hx hb dX8_bind_90 (lv_at hl 5 rfl) ?_
                refine q_imul hx hb dX8_bind_92 ?_
                refine lv_iload hx hb dX8_bind_93 (lv_at hl 6 rfl) ?_
                refine q_iadd hx hb dX8_bind_95 ?_
                refine q_iald (j := ((11 * k) + t)) hx hb hK (fl_blk hP 1 rfl) 0 rfl (by omega) dX8_bind_96 ?_
                refine qb_iast (j := ((11 * k) + t)) hx hb hK hP hD hS 1 0 rfl rfl (by omega) dX8_bind_97 (fun H locs hP hD hS => ?_)
                have hP : va_P D vwCl [[(mo, .inr (8, [.int (qI (th)), .ref (mz), .int (qI (sv)), .ref (msv), .int (qI (ml)), .ref (mtx), .ref (mmo), .int (qI (tu)), .ref (mif), .ref (mmg), .ref (mtn), .ref (mie), .ref (mme), .int (qz (fi)), .int (qI (ro)), .int (qI (sp)), .int (qI (it)), .int (qz (bl)), .ref (mrd), .ref (mas), .long (hh)]))], [(mmo, aI cy 121 (qu g2 ((11 * k) + t) (g2 ((11 * k) + t))))]].flatten H := hP
                have hD : va_D A [[(mo, .inr (8, [.int (qI (th)), .ref (mz), .int (qI (sv)), .ref (msv), .int (qI (ml)), .ref (mtx), .ref (mmo), .int (qI (tu)), .ref (mif), .ref (mmg), .ref (mtn), .ref (mie), .ref (mme), .int (qz (fi)), .int (qI (ro)), .int (qI (sp)), .int (qI (it)), .int (qz (bl)), .ref (mrd), .ref (mas), .long (hh)]))], [(mmo, aI cy 121 (qu g2 ((11 * k) + t) (g2 ((11 * k) + t))))]].flatten := hD
                refine q_iinc (k := 6) (lv' := [(5, .int (qI ((((t : Nat) : Int)) + (1)))), (6, .int (qI (((g2 ((11 * k) + a)) + (n)) + (g2 ((11 * b) + t))))), (0, .ref (mo)), (1, .int (qI (q1))), (2, .int (qI (q2))), (3, .int (qI (n))), (4, .int (qI (((k : Nat) : Int))))]) hx hb dX8_bind_98 hl rfl (by decide) rfl (fun ls hl => ?_)
                refine lv_goto (tgt := 13) hx hb dX8_bind_101 (by decide) ?_
                exact ih_13 (t + 1) _ (by omega) (by omega) (limA_step hJ (by omega) (by unfold tg; split <;> omega)) _ _ _ hP hD hS (lv_sub hl [2, 3, 4, 5, 6, 0] rfl)
              · skip
                refine lv_iload hx hb dX8_bind_79 (lv_at hl 0 rfl) ?_
                refine lv_goto (tgt := 97) hx hb dX8_bind_81 (by decide) ?_
                refine qb_iast (j := ((11 * k) + t)) hx hb hK hP hD hS 1 0 rfl rfl (by omega) dX8_bind_97 (fun H locs hP hD hS => ?_)
                have hP : va_P D vwCl [[(mo, .inr (8, [.int (qI (th)), .ref (mz), .int (qI (sv)), .ref (msv), .int (qI (ml)), .ref (mtx), .ref (mmo), .int (qI (tu)), .ref (mif), .ref (mmg), .ref (mtn), .ref (mie), .ref (mme), .int (qz (fi)), .int (qI (ro)), .int (qI (sp)), .int (qI (it)), .int (qz (bl)), .ref (mrd), .ref (mas), .long (hh)]))], [(mmo, aI cy 121 (qu g2 ((11 * k) + t) (((g2 ((11 * k) + a)) + (n)) + (g2 ((11 * b) + t)))))]].flatten H := hP
                have hD : va_D A [[(mo, .inr (8, [.int (qI (th)), .ref (mz), .int (qI (sv)), .ref (msv), .int (qI (ml)), .ref (mtx), .ref (mmo), .int (qI (tu)), .ref (mif), .ref (mmg), .ref (mtn), .ref (mie), .ref (mme), .int (qz (fi)), .int (qI (ro)), .int (qI (sp)), .int (qI (it)), .int (qz (bl)), .ref (mrd), .ref (mas), .long (hh)]))], [(mmo, aI cy 121 (qu g2 ((11 * k) + t) (((g2 ((11 * k) + a)) + (n)) + (g2 ((11 * b) + t)))))]].flatten := hD
                refine q_iinc (k := 6) (lv' := [(5, .int (qI ((((t : Nat) : Int)) + (1)))), (6, .int (qI (((g2 ((11 * k) + a)) + (n)) + (g2 ((11 * b) + t))))), (0, .ref (mo)), (1, .int (qI (q1))), (2, .int (qI (q2))), (3, .int (qI (n))), (4, .int (qI (((k : Nat) : Int))))]) hx hb dX8_bind_98 hl rfl (by decide) rfl (fun ls hl => ?_)
                refine lv_goto (tgt := 13) hx hb dX8_bind_101 (by decide) ?_
                exact ih_13 (t + 1) _ (by omega) (by omega) (limA_step hJ (by omega) (by unfold tg; split <;> omega)) _ _ _ hP hD hS (lv_sub hl [2, 3, 4, 5, 6, 0] rfl)
        exact L_13 (11 + 1) (0) (g1) (by omega) (by omega) hI _ _ _ hP hD hS (lv_sub hl [1, 2, 3, 4, 5, 0] rfl)
  exact L_3 (11 + 1) (0) (g) (by omega) (by omega) limI_0 _ _ _ hP hD hS (lv_sub hl [1, 2, 3, 4, 0] rfl)

set_option maxRecDepth 100000 in
set_option maxHeartbeats 4000000 in
theorem c_X8_least (l : Launch) (D : va_G) (cy : Nat → ClassId) (mo mz msv mtx mmo mif mmg mtn mie mme mrd mas : Nat) (th sv ml tu : Int) (fi : Bool) (ro sp it : Int) (bl : Bool) (hh : Int64) (g : Nat → Int) (q1 : Int) (a : Nat) (h1 : q1 = (a : Int) ∧ a < 11) : qRd l yX8_least (.code yX8_least cX8_least 2 (some .int)) 1 [.ref (mo), .int (qI (q1))] D cy [[(mo, .inr (8, [.int (qI (th)), .ref (mz), .int (qI (sv)), .ref (msv), .int (qI (ml)), .ref (mtx), .ref (mmo), .int (qI (tu)), .ref (mif), .ref (mmg), .ref (mtn), .ref (mie), .ref (mme), .int (qz (fi)), .int (qI (ro)), .int (qI (sp)), .int (qI (it)), .int (qz (bl)), .ref (mrd), .ref (mas), .long (hh)]))], [(mmo, aI cy 121 (g))]] (vp_Si (fun r => r = qI (-(mM g 10 a)))) := by
  refine q_ofRi (by decide +kernel) (Nat.le_of_ble_eq_true rfl) ?_
  intro p e s m args below meth c Q hx hb hml hown hg hQ hK hN hP ls hl
  have hown : s.vm.findClass RX8 = some m.cls := hown
  have hl : lv_has ls 2 [(0, .ref (mo)), (1, .int (qI (q1)))] := hl
  refine lv_aload_n hx hb dX8_least_0 rfl (lv_at hl 0 rfl) ?_
  refine gf_X8_19 hx hb hg hown hK (fl_blk hP 0 rfl) 0 rfl rfl dX8_least_1 ?_
  refine q_bipush hx hb dX8_least_4 (by decide) ?_
  refine lv_iload_n hx hb dX8_least_6 rfl (lv_at hl 1 rfl) ?_
  refine q_iadd hx hb dX8_least_7 ?_
  refine q_iald (j := (110 + a)) hx hb hK (fl_blk hP 1 rfl) 0 rfl (by omega) dX8_least_8 ?_
  refine q_ineg hx hb dX8_least_9 ?_
  exact hQ _ _ _ rfl dX8_least_10

set_option maxRecDepth 100000 in
set_option maxHeartbeats 4000000 in
theorem c_X8_greatest (l : Launch) (D : va_G) (cy : Nat → ClassId) (mo mz msv mtx mmo mif mmg mtn mie mme mrd mas : Nat) (th sv ml tu : Int) (fi : Bool) (ro sp it : Int) (bl : Bool) (hh : Int64) (g : Nat → Int) (q1 : Int) (a : Nat) (h1 : q1 = (a : Int) ∧ a < 11) : qRd l yX8_greatest (.code yX8_greatest cX8_greatest 2 (some .int)) 1 [.ref (mo), .int (qI (q1))] D cy [[(mo, .inr (8, [.int (qI (th)), .ref (mz), .int (qI (sv)), .ref (msv), .int (qI (ml)), .ref (mtx), .ref (mmo), .int (qI (tu)), .ref (mif), .ref (mmg), .ref (mtn), .ref (mie), .ref (mme), .int (qz (fi)), .int (qI (ro)), .int (qI (sp)), .int (qI (it)), .int (qz (bl)), .ref (mrd), .ref (mas), .long (hh)]))], [(mmo, aI cy 121 (g))]] (vp_Si (fun r => r = qI (mM g a 10))) := by
  refine q_ofRi (by decide +kernel) (Nat.le_of_ble_eq_true rfl) ?_
  intro p e s m args below meth c Q hx hb hml hown hg hQ hK hN hP ls hl
  have hown : s.vm.findClass RX8 = some m.cls := hown
  have hl : lv_has ls 2 [(0, .ref (mo)), (1, .int (qI (q1)))] := hl
  refine lv_aload_n hx hb dX8_greatest_0 rfl (lv_at hl 0 rfl) ?_
  refine gf_X8_19 hx hb hg hown hK (fl_blk hP 0 rfl) 0 rfl rfl dX8_greatest_1 ?_
  refine q_bipush hx hb dX8_greatest_4 (by decide) ?_
  refine lv_iload_n hx hb dX8_greatest_6 rfl (lv_at hl 1 rfl) ?_
  refine q_imul hx hb dX8_greatest_7 ?_
  refine q_bipush hx hb dX8_greatest_8 (by decide) ?_
  refine q_iadd hx hb dX8_greatest_10 ?_
  refine q_iald (j := ((11 * a) + 10)) hx hb hK (fl_blk hP 1 rfl) 0 rfl (by omega) dX8_greatest_11 ?_
  exact hQ _ _ _ rfl dX8_greatest_12

/-! the layout that the row z tells -/
def zC (z : Nat → Int) : Nat → Nat → Int := fun f k => z (21 + 5 * k + f)
def zE (z : Nat → Int) : Nat → Nat → Int := fun f k => row5 (z (102 + 3 * k)) (-1) 1 (z (102 + 3 * k + 1)) (z (102 + 3 * k + 2)) f
def zS (z : Nat → Int) : LSt := (z, (fun i => z (10 + i)), zC z, (z 20).toNat, zE z, (z 101).toNat)

set_option maxRecDepth 100000 in
set_option maxHeartbeats 4000000 in
theorem c_X8_of (l : Launch) (D : va_G) (cy : Nat → ClassId) (mo mz msv mtx mmo mif mmg mtn mie mme mrd mas : Nat) (th sv ml tu : Int) (fi : Bool) (ro sp it : Int) (bl : Bool) (hh : Int64) (z : Nat → Int) (q1 q2 : Int) (k f : Nat) (h1 : q1 = (k : Int) ∧ k < 16) (h2 : q2 = (f : Int) ∧ f < 5) : qRd l yX8_of (.code yX8_of cX8_of 3 (some .int)) 1 [.ref (mo), .int (qI (q1)), .int (qI (q2))] D cy [[(mo, .inr (8, [.int (qI (th)), .ref (mz), .int (qI (sv)), .ref (msv), .int (qI (ml)), .ref (mtx), .ref (mmo), .int (qI (tu)), .ref (mif), .ref (mmg), .ref (mtn), .ref (mie), .ref (mme), .int (qz (fi)), .int (qI (ro)), .int (qI (sp)), .int (qI (it)), .int (qz (bl)), .ref (mrd), .ref (mas), .long (hh)]))], [(mz, aI cy 115 (z))]] (vp_Si (fun r => r = qI (zC z f k))) := by
  refine q_ofRi (by decide +kernel) (Nat.le_of_ble_eq_true rfl) ?_
  intro p e s m args below meth c Q hx hb hml hown hg hQ hK hN hP ls hl
  have hown : s.vm.findClass RX8 = some m.cls := hown
  have hl : lv_has ls 3 [(0, .ref (mo)), (1, .int (qI (q1))), (2, .int (qI (q2)))] := hl
  refine lv_aload_n hx hb dX8_of_0 rfl (lv_at hl 0 rfl) ?_
  refine gf_X8_7 hx hb hg hown hK (fl_blk hP 0 rfl) 0 rfl rfl dX8_of_1 ?_
  refine q_bipush hx hb dX8_of_4 (by decide) ?_
  refine q_iconst hx hb dX8_of_6 ?_
  refine lv_iload_n hx hb dX8_of_7 rfl (lv_at hl 1 rfl) ?_
  refine q_imul hx hb dX8_of_8 ?_
  refine q_iadd hx hb dX8_of_9 ?_
  refine lv_iload_n hx hb dX8_of_10 rfl (lv_at hl 2 rfl) ?_
  refine q_iadd hx hb dX8_of_11 ?_
  refine q_iald (j := ((21 + (5 * k)) + f)) hx hb hK (fl_blk hP 1 rfl) 0 rfl (by omega) dX8_of_12 ?_
  exact hQ _ _ _ rfl dX8_of_13

set_option maxRecDepth 100000 in
set_option maxHeartbeats 4000000 in
theorem c_X8_ofEdit (l : Launch) (D : va_G) (cy : Nat → ClassId) (mo mz msv mtx mmo mif mmg mtn mie mme mrd mas : Nat) (th sv ml tu : Int) (fi : Bool) (ro sp it : Int) (bl : Bool) (hh : Int64) (z : Nat → Int) (q1 q2 : Int) (k f : Nat) (h1 : q1 = (k : Int) ∧ k < 4) (h2 : q2 = (f : Int) ∧ f < 3) : qRd l yX8_ofEdit (.code yX8_ofEdit cX8_ofEdit 3 (some .int)) 1 [.ref (mo), .int (qI (q1)), .int (qI (q2))] D cy [[(mo, .inr (8, [.int (qI (th)), .ref (mz), .int (qI (sv)), .ref (msv), .int (qI (ml)), .ref (mtx), .ref (mmo), .int (qI (tu)), .ref (mif), .ref (mmg), .ref (mtn), .ref (mie), .ref (mme), .int (qz (fi)), .int (qI (ro)), .int (qI (sp)), .int (qI (it)), .int (qz (bl)), .ref (mrd), .ref (mas), .long (hh)]))], [(mz, aI cy 115 (z))]] (vp_Si (fun r => r = qI (z (102 + 3 * k + f)))) := by
  refine q_ofRi (by decide +kernel) (Nat.le_of_ble_eq_true rfl) ?_
  intro p e s m args below meth c Q hx hb hml hown hg hQ hK hN hP ls hl
  have hown : s.vm.findClass RX8 = some m.cls := hown
  have hl : lv_has ls 3 [(0, .ref (mo)), (1, .int (qI (q1))), (2, .int (qI (q2)))] := hl
  refine lv_aload_n hx hb dX8_ofEdit_0 rfl (lv_at hl 0 rfl) ?_
  refine gf_X8_7 hx hb hg hown hK (fl_blk hP 0 rfl) 0 rfl rfl dX8_ofEdit_1 ?_
  refine q_bipush hx hb dX8_ofEdit_4 (by decide) ?_
  refine q_iconst hx hb dX8_ofEdit_6 ?_
  refine lv_iload_n hx hb dX8_ofEdit_7 rfl (lv_at hl 1 rfl) ?_
  refine q_imul hx hb dX8_ofEdit_8 ?_
  refine q_iadd hx hb dX8_ofEdit_9 ?_
  refine lv_iload_n hx hb dX8_ofEdit_10 rfl (lv_at hl 2 rfl) ?_
  refine q_iadd hx hb dX8_ofEdit_11 ?_
  refine q_iald (j := ((102 + (3 * k)) + f)) hx hb hK (fl_blk hP 1 rfl) 0 rfl (by omega) dX8_ofEdit_12 ?_
  exact hQ _ _ _ rfl dX8_ofEdit_13

set_option maxRecDepth 100000 in
set_option maxHeartbeats 4000000 in
theorem c_X8_fillOne (l : Launch) (D : va_G) (cy : Nat → ClassId) (mo mz msv mtx mmo mif mmg mtn mie mme mrd mas : Nat) (th sv ml tu : Int) (fi : Bool) (ro sp it : Int) (bl : Bool) (hh : Int64) (g : Nat → Int) (q0 q1 q2 q3 : Int) (G : Nat → Nat → Int) (k n : Nat) (e0 : q0 = G 0 k) (e1 : q1 = G 1 k) (e2 : q2 = G 2 k) (e3 : q3 = G 3 k) (hk : k < n) (hW : qWR G n) (C : qCl (mM g)) (sz : Nat) : qMet l yX8_fillOne (.code yX8_fillOne cX8_fillOne 12 none) 2 [.ref (mo), .int (qI (q0)), .int (qI (q1)), .int (qI (q2)), .int (qI (q3))] D cy [[(mo, .inr (8, [.int (qI (th)), .ref (mz), .int (qI (sv)), .ref (msv), .int (qI (ml)), .ref (mtx), .ref (mmo), .int (qI (tu)), .ref (mif), .ref (mmg), .ref (mtn), .ref (mie), .ref (mme), .int (qz (fi)), .int (qI (ro)), .int (qI (sp)), .int (qI (it)), .int (qz (bl)), .ref (mrd), .ref (mas), .long (hh)]))], [(mmo, aI cy 121 (g))]] sz (va_Qv (S := (Nat → Int) × Bool × Int) (fun u => qEq (mM u.1) (oM (mM g) G k) ∧ u.2.1 = oOk (mM g) G k ∧ u.2.2 = oMg (mM g) G k) (qB D cy [[(mo, .inr (8, [.int (qI (th)), .ref (mz), .int (qI (sv)), .ref (msv), .int (qI (ml)), .ref (mtx), .ref (mmo), .int (qI (tu)), .ref (mif), .ref (mmg), .ref (mtn), .ref (mie), .ref (mme), .int (qz (fi)), .int (qI (ro)), .int (qI (sp)), .int (qI (it)), .int (qz (bl)), .ref (mrd), .ref (mas), .long (hh)]))], [(mmo, aI cy 121 (g))]] sz (fun u => [[(mo, .inr (8, [.int (qI (th)), .ref (mz), .int (qI (sv)), .ref (msv), .int (qI (ml)), .ref (mtx), .ref (mmo), .int (qI (tu)), .ref (mif), .ref (mmg), .ref (mtn), .ref (mie), .ref (mme), .int (qz (u.2.1)), .int (qI (u.2.2)), .int (qI (sp)), .int (qI (it)), .int (qz (bl)), .ref (mrd), .ref (mas), .long (hh)]))], [(mmo, aI cy 121 (u.1))]])) (va_A [[(mo, .inr (8, [.int (qI (th)), .ref (mz), .int (qI (sv)), .ref (msv), .int (qI (ml)), .ref (mtx), .ref (mmo), .int (qI (tu)), .ref (mif), .ref (mmg), .ref (mtn), .ref (mie), .ref (mme), .int (qz (fi)), .int (qI (ro)), .int (qI (sp)), .int (qI (it)), .int (qz (bl)), .ref (mrd), .ref (mas), .long (hh)]))], [(mmo, aI cy 121 (g))]].flatten sz)) := by
  refine q_ofMv (S := (Nat → Int) × Bool × Int) (b1 := fun u => [[(mo, .inr (8, [.int (qI (th)), .ref (mz), .int (qI (sv)), .ref (msv), .int (qI (ml)), .ref (mtx), .ref (mmo), .int (qI (tu)), .ref (mif), .ref (mmg), .ref (mtn), .ref (mie), .ref (mme), .int (qz (u.2.1)), .int (qI (u.2.2)), .int (qI (sp)), .int (qI (it)), .int (qz (bl)), .ref (mrd), .ref (mas), .long (hh)]))], [(mmo, aI cy 121 (u.1))]]) (post := fun u => qEq (mM u.1) (oM (mM g) G k) ∧ u.2.1 = oOk (mM g) G k ∧ u.2.2 = oMg (mM g) G k) (by decide +kernel) (Nat.le_of_ble_eq_true rfl) ?_
  intro p e s m args below meth c Q A hx hb hml hown hg hQ hK hN hD hA H locs ls hP hS hl
  have hown : s.vm.findClass RX8 = some m.cls := hown
  have hl : lv_has ls 12 [(0, .ref (mo)), (1, .int (qI (q0))), (2, .int (qI (q1))), (3, .int (qI (q2))), (4, .int (qI (q3)))] := hl
  obtain ⟨w0, w1, w2, w3, w4, w5⟩ := hW k hk
  have ho := oN_lt w1
  have hl9 : (G 0 k).toNat < 11 := by omega
  have b1 := C.2.2 _ _ hl9 ho
  have b2 := C.2.2 _ _ ho hl9
  have d1 : g (11 * (G 0 k).toNat + oN (G 1 k)) = mM g (G 0 k).toNat (oN (G 1 k)) := rfl
  have d2 : g (11 * oN (G 1 k) + (G 0 k).toNat) = mM g (oN (G 1 k)) (G 0 k).toNat := rfl
  have K_11 : W p l e (qrm 2) s m args below meth c H locs 0 0 Q (F0 m 11 ls [.int (qI (((oN (G 1 k) : Nat) : Int)))]) := by
    refine lv_istore (lv' := [(5, .int (qI (((oN (G 1 k) : Nat) : Int)))), (0, .ref (mo)), (1, .int (qI (q0))), (2, .int (qI (q1))), (3, .int (qI (q2))), (4, .int (qI (q3)))]) hx hb dX8_fillOne_11 hl (by decide) rfl (fun ls hl => ?_)
    refine lv_aload_n hx hb dX8_fillOne_13 rfl (lv_at hl 1 rfl) ?_
    refine gf_X8_19 hx hb hg hown hK (fl_blk hP 0 rfl) 0 rfl rfl dX8_fillOne_14 ?_
    refine q_bipush hx hb dX8_fillOne_17 (by decide) ?_
    refine lv_iload_n hx hb dX8_fillOne_19 rfl (lv_at hl 2 rfl) ?_
    refine q_imul hx hb dX8_fillOne_20 ?_
    refine lv_iload hx hb dX8_fillOne_21 (lv_at hl 0 rfl) ?_
    refine q_iadd hx hb dX8_fillOne_23 ?_
    refine q_iald (j := ((11 * (G 0 k).toNat) + oN (G 1 k))) hx hb hK (fl_blk hP 1 rfl) 0 rfl (by omega) dX8_fillOne_24 ?_
    refine lv_istore (lv' := [(6, .int (qI (g ((11 * (G 0 k).toNat) + oN (G 1 k))))), (5, .int (qI (((oN (G 1 k) : Nat) : Int)))), (0, .ref (mo)), (1, .int (qI (q0))), (2, .int (qI (q1))), (3, .int (qI (q2))), (4, .int (qI (q3)))]) hx hb dX8_fillOne_25 hl (by decide) rfl (fun ls hl => ?_)
    refine lv_aload_n hx hb dX8_fillOne_27 rfl (lv_at hl 2 rfl) ?_
    refine gf_X8_19 hx hb hg hown hK (fl_blk hP 0 rfl) 0 rfl rfl dX8_fillOne_28 ?_
    refine q_bipush hx hb dX8_fillOne_31 (by decide) ?_
    refine lv_iload hx hb dX8_fillOne_33 (lv_at hl 1 rfl) ?_
    refine q_imul hx hb dX8_fillOne_35 ?_
    refine lv_iload_n hx hb dX8_fillOne_36 rfl (lv_at hl 3 rfl) ?_
    refine q_iadd hx hb dX8_fillOne_37 ?_
    refine q_iald (j := ((11 * oN (G 1 k)) + (G 0 k).toNat)) hx hb hK (fl_blk hP 1 rfl) 0 rfl (by omega) dX8_fillOne_38 ?_
    refine q_ineg hx hb dX8_fillOne_39 ?_
    refine lv_istore (lv' := [(7, .int (qI (-(g ((11 * oN (G 1 k)) + (G 0 k).toNat))))), (6, .int (qI (g ((11 * (G 0 k).toNat) + oN (G 1 k))))), (5, .int (qI (((oN (G 1 k) : Nat) : Int)))), (0, .ref (mo)), (1, .int (qI (q0))), (2, .int (qI (q1))), (3, .int (qI (q2))), (4, .int (qI (q3)))]) hx hb dX8_fillOne_40 hl (by decide) rfl (fun ls hl => ?_)
    have K_58 : ∀ (b8 : Bool), (b8 = true ↔ q2 ≠ 0 ∧ mM g (G 0 k).toNat (oN (G 1 k)) < q3) → W p l e (qrm 2) s m args below meth c H locs 0 0 Q (F0 m 58 ls [.int (qz (b8))]) := by
      intro b8 hb8
      refine lv_istore (lv' := [(8, .int (qz (b8))), (7, .int (qI (-(g ((11 * oN (G 1 k)) + (G 0 k).toNat))))), (6, .int (qI (g ((11 * (G 0 k).toNat) + oN (G 1 k))))), (5, .int (qI (((oN (G 1 k) : Nat) : Int)))), (0, .ref (mo)), (1, .int (qI (q0))), (2, .int (qI (q1))), (3, .int (qI (q2))), (4, .int (qI (q3)))]) hx hb dX8_fillOne_58 hl (by decide) rfl (fun ls hl => ?_)
      have K_77 : ∀ (b9 : Bool), (b9 = true ↔ q2 ≠ 2 ∧ q3 < -(mM g (oN (G 1 k)) (G 0 k).toNat)) → W p l e (qrm 2) s m args below meth c H locs 0 0 Q (F0 m 77 ls [.int (qz (b9))]) := by
        intro b9 hb9
        refine lv_istore (lv' := [(9, .int (qz (b9))), (8, .int (qz (b8))), (7, .int (qI (-(g ((11 * oN (G 1 k)) + (G 0 k).toNat))))), (6, .int (qI (g ((11 * (G 0 k).toNat) + oN (G 1 k))))), (5, .int (qI (((oN (G 1 k) : Nat) : Int)))), (0, .ref (mo)), (1, .int (qI (q0))), (2, .int (qI (q1))), (3, .int (qI (q2))), (4, .int (qI (q3)))]) hx hb dX8_fillOne_77 hl (by decide) rfl (fun ls hl => ?_)
        refine lv_aload_n hx hb dX8_fillOne_79 rfl (lv_at hl 5 rfl) ?_
        have K_95 : ∀ (b10 : Bool), (b10 = true ↔ chP (G 2 k) (G 3 k) (-(mM g (oN (G 1 k)) (G 0 k).toNat)) (mM g (G 0 k).toNat (oN (G 1 k)))) → W p l e (qrm 2) s m args below meth c H locs 0 0 Q (F0 m 95 ls [.int (qz (b10)), .ref (mo)]) := by
          intro b10 hb10
          refine pf_X8_52 hx hb hg hown hK hP hD hS 0 0 rfl rfl (qz_nar _) (qz_fit _) (Nat.le_of_ble_eq_true rfl) dX8_fillOne_95 (fun H locs hP hD hS => ?_)
          have hP : va_P D vwCl [[(mo, .inr (8, [.int (qI (th)), .ref (mz), .int (qI (sv)), .ref (msv), .int (qI (ml)), .ref (mtx), .ref (mmo), .int (qI (tu)), .ref (mif), .ref (mmg), .ref (mtn), .ref (mie), .ref (mme), .int (qz (b10)), .int (qI (ro)), .int (qI (sp)), .int (qI (it)), .int (qz (bl)), .ref (mrd), .ref (mas), .long (hh)]))], [(mmo, aI cy 121 (g))]].flatten H := hP
          have hD : va_D A [[(mo, .inr (8, [.int (qI (th)), .ref (mz), .int (qI (sv)), .ref (msv), .int (qI (ml)), .ref (mtx), .ref (mmo), .int (qI (tu)), .ref (mif), .ref (mmg), .ref (mtn), .ref (mie), .ref (mme), .int (qz (b10)), .int (qI (ro)), .int (qI (sp)), .int (qI (it)), .int (qz (bl)), .ref (mrd), .ref (mas), .long (hh)]))], [(mmo, aI cy 121 (g))]].flatten := hD
          refine lv_aload_n hx hb dX8_fillOne_98 rfl (lv_at hl 5 rfl) ?_
          refine gf_X8_52 hx hb hg hown hK (fl_blk hP 0 rfl) 0 rfl rfl dX8_fillOne_99 ?_
          refine q_ifz_ne (tgt := 130) hx hb dX8_fillOne_102 (by decide) (fun c_102 => ?_) (fun c_102 => ?_)
          · skip
            have g_102 := (hb10).mp c_102
            have ok9 : oOk (mM g) G k = true := chB_iff.mpr (hb10.mp c_102)
            obtain ⟨-, -, n1, n2⟩ := oM_need C hW hk ok9
            have K_147 : ∀ (w9 : Int), ((0 < mM g (G 0 k).toNat (oN (G 1 k)) - q3 ∧ w9 = mM g (G 0 k).toNat (oN (G 1 k)) - q3) ∨ (mM g (G 0 k).toNat (oN (G 1 k)) - q3 ≤ 0 ∧ w9 = 0)) → W p l e (qrm 2) s m args below meth c H locs 0 0 Q (F0 m 147 ls [.int (qI (w9))]) := by
              intro w9 hw9
              refine lv_istore (lv' := [(10, .int (qI (w9))), (9, .int (qz (b9))), (8, .int (qz (b8))), (7, .int (qI (-(g ((11 * oN (G 1 k)) + (G 0 k).toNat))))), (6, .int (qI (g ((11 * (G 0 k).toNat) + oN (G 1 k))))), (5, .int (qI (((oN (G 1 k) : Nat) : Int)))), (0, .ref (mo)), (1, .int (qI (q0))), (2, .int (qI (q1))), (3, .int (qI (q2))), (4, .int (qI (q3)))]) hx hb dX8_fillOne_147 hl (by decide) rfl (fun ls hl => ?_)
              have K_166 : ∀ (x9 : Int), ((0 < q3 - (-(mM g (oN (G 1 k)) (G 0 k).toNat)) ∧ x9 = q3 - (-(mM g (oN (G 1 k)) (G 0 k).toNat))) ∨ (q3 - (-(mM g (oN (G 1 k)) (G 0 k).toNat)) ≤ 0 ∧ x9 = 0)) → W p l e (qrm 2) s m args below meth c H locs 0 0 Q (F0 m 166 ls [.int (qI (x9))]) := by
                intro x9 hx9
                refine lv_istore (lv' := [(11, .int (qI (x9))), (10, .int (qI (w9))), (9, .int (qz (b9))), (8, .int (qz (b8))), (7, .int (qI (-(g ((11 * oN (G 1 k)) + (G 0 k).toNat))))), (6, .int (qI (g ((11 * (G 0 k).toNat) + oN (G 1 k))))), (5, .int (qI (((oN (G 1 k) : Nat) : Int)))), (0, .ref (mo)), (1, .int (qI (q0))), (2, .int (qI (q1))), (3, .int (qI (q2))), (4, .int (qI (q3)))]) hx hb dX8_fillOne_166 hl (by decide) rfl (fun ls hl => ?_)
                refine lv_aload_n hx hb dX8_fillOne_168 rfl (lv_at hl 7 rfl) ?_
                have K_193 : W p l e (qrm 2) s m args below meth c H locs 0 0 Q (F0 m 193 ls [.int (qI (narV (G 2 k) (G 3 k) (-(mM g (oN (G 1 k)) (G 0 k).toNat)) (mM g (G 0 k).toNat (oN (G 1 k))))), .ref (mo)]) := by
                  refine pf_X8_56 hx hb hg hown hK hP hD hS 0 0 rfl rfl rfl rfl (Nat.le_of_ble_eq_true rfl) dX8_fillOne_193 (fun H locs hP hD hS => ?_)
                  have hP : va_P D vwCl [[(mo, .inr (8, [.int (qI (th)), .ref (mz), .int (qI (sv)), .ref (msv), .int (qI (ml)), .ref (mtx), .ref (mmo), .int (qI (tu)), .ref (mif), .ref (mmg), .ref (mtn), .ref (mie), .ref (mme), .int (qz (b10)), .int (qI (narV (G 2 k) (G 3 k) (-(mM g (oN (G 1 k)) (G 0 k).toNat)) (mM g (G 0 k).toNat (oN (G 1 k))))), .int (qI (sp)), .int (qI (it)), .int (qz (bl)), .ref (mrd), .ref (mas), .long (hh)]))], [(mmo, aI cy 121 (g))]].flatten H := hP
                  have hD : va_D A [[(mo, .inr (8, [.int (qI (th)), .ref (mz), .int (qI (sv)), .ref (msv), .int (qI (ml)), .ref (mtx), .ref (mmo), .int (qI (tu)), .ref (mif), .ref (mmg), .ref (mtn), .ref (mie), .ref (mme), .int (qz (b10)), .int (qI (narV (G 2 k) (G 3 k) (-(mM g (oN (G 1 k)) (G 0 k).toNat)) (mM g (G 0 k).toNat (oN (G 1 k))))), .int (qI (sp)), .int (qI (it)), .int (qz (bl)), .ref (mrd), .ref (mas), .long (hh)]))], [(mmo, aI cy 121 (g))]].flatten := hD
                  refine lv_iload_n hx hb dX8_fillOne_196 rfl (lv_at hl 10 rfl) ?_
                  refine q_iconst hx hb dX8_fillOne_197 ?_
                  refine q_icmp_eq (tgt := 210) hx hb dX8_fillOne_198 (by decide) (by omega) (fun c_198 => ?_) (fun c_198 => ?_)
                  · skip
                    refine lv_iload_n hx hb dX8_fillOne_210 rfl (lv_at hl 10 rfl) ?_
                    refine q_if_eq (tgt := 224) hx hb dX8_fillOne_211 (by decide) (by omega) (fun c_211 => ?_) (fun c_211 => ?_)
                    · skip
                      exact hQ _ _ _ _ (g, b10, narV (G 2 k) (G 3 k) (-(mM g (oN (G 1 k)) (G 0 k).toNat)) (mM g (G 0 k).toNat (oN (G 1 k)))) ⟨(by exact absurd c_211 (by omega)), by rw [c_102, ok9], by unfold oMg; rw [if_pos ok9]⟩ hP hD hS dX8_fillOne_224
                    · skip
                      have n2 := n2 (by omega)
                      have r2 : mM g (G 0 k).toNat (oN (G 1 k)) = oM1 (mM g) G k (G 0 k).toNat (oN (G 1 k)) := by unfold oM1; rw [if_pos (by omega)]
                      refine lv_aload_n hx hb dX8_fillOne_214 rfl (lv_at hl 7 rfl) ?_
                      refine lv_iload hx hb dX8_fillOne_215 (lv_at hl 6 rfl) ?_
                      refine lv_iload_n hx hb dX8_fillOne_217 rfl (lv_at hl 8 rfl) ?_
                      refine lv_iload hx hb dX8_fillOne_218 (lv_at hl 11 rfl) ?_
                      refine q_ineg hx hb dX8_fillOne_220 ?_
                      refine q_backv [0, 1] [] (br := []) hP hD hS hA (va_runV (As := [.int (qI (((oN (G 1 k) : Nat) : Int))), .int (qI (q0)), .int (qI (-(q3)))]) (rest := []) ⟨hx, hb, hml, hown, hg⟩ (c_X8_bind l D cy mo mz msv mtx mmo mif mmg mtn mie mme mrd mas (th) (sv) (ml) (tu) (b10) (narV (G 2 k) (G 3 k) (-(mM g (oN (G 1 k)) (G 0 k).toNat)) (mM g (G 0 k).toNat (oN (G 1 k)))) (sp) (it) (bl) (hh) (g) _ _ _ (oN (G 1 k)) ((G 0 k).toNat) (by omega) (by omega) C (by omega) (by omega) _) (cv_X8_59 hg rfl rfl ⟨by decide, by decide⟩) ⟨q_blind, va_recv hK (fl_blk hP 0 rfl) (ci := 8) (q0 := 0) rfl rfl, q_preM _ hK hN hP hD [0, 1] (by decide) rfl⟩ rfl rfl hl.1 rfl (lv_room (Nat.le_of_ble_eq_true rfl)) dX8_fillOne_221 ⟨by decide, by decide⟩) rfl rfl (by decide) (fun u_221 H locs h_221 hP hD hS => ?_)
                      have hP : va_P D vwCl [[(mo, .inr (8, [.int (qI (th)), .ref (mz), .int (qI (sv)), .ref (msv), .int (qI (ml)), .ref (mtx), .ref (mmo), .int (qI (tu)), .ref (mif), .ref (mmg), .ref (mtn), .ref (mie), .ref (mme), .int (qz (b10)), .int (qI (narV (G 2 k) (G 3 k) (-(mM g (oN (G 1 k)) (G 0 k).toNat)) (mM g (G 0 k).toNat (oN (G 1 k))))), .int (qI (sp)), .int (qI (it)), .int (qz (bl)), .ref (mrd), .ref (mas), .long (hh)]))], [(mmo, aI cy 121 (u_221))]].flatten H := hP
                      have hD : va_D A [[(mo, .inr (8, [.int (qI (th)), .ref (mz), .int (qI (sv)), .ref (msv), .int (qI (ml)), .ref (mtx), .ref (mmo), .int (qI (tu)), .ref (mif), .ref (mmg), .ref (mtn), .ref (mie), .ref (mme), .int (qz (b10)), .int (qI (narV (G 2 k) (G 3 k) (-(mM g (oN (G 1 k)) (G 0 k).toNat)) (mM g (G 0 k).toNat (oN (G 1 k))))), .int (qI (sp)), .int (qI (it)), .int (qz (bl)), .ref (mrd), .ref (mas), .long (hh)]))], [(mmo, aI cy 121 (u_221))]].flatten := hD
                      rw [e3] at h_221
                      exact hQ _ _ _ _ (u_221, b10, narV (G 2 k) (G 3 k) (-(mM g (oN (G 1 k)) (G 0 k).toNat)) (mM g (G 0 k).toNat (oN (G 1 k)))) ⟨(by unfold oM; rw [if_pos ok9, if_neg (by omega)]; refine h_221.trans ?_; first | (refine qEq.tg ?_ ho hl9 _; unfold oM1; rw [if_neg (by omega)]; exact h_207) | (refine qEq.tg ?_ ho hl9 _; unfold oM1; rw [if_pos (by omega)]; exact qEq.rfl')), by rw [c_102, ok9], by unfold oMg; rw [if_pos ok9]⟩ hP hD hS dX8_fillOne_224
                  · skip
                    have n1 := n1 (by omega)
                    refine lv_aload_n hx hb dX8_fillOne_201 rfl (lv_at hl 7 rfl) ?_
                    refine lv_iload_n hx hb dX8_fillOne_202 rfl (lv_at hl 8 rfl) ?_
                    refine lv_iload hx hb dX8_fillOne_203 (lv_at hl 6 rfl) ?_
                    refine lv_iload hx hb dX8_fillOne_205 (lv_at hl 11 rfl) ?_
                    refine q_backv [0, 1] [] (br := []) hP hD hS hA (va_runV (As := [.int (qI (q0)), .int (qI (((oN (G 1 k) : Nat) : Int))), .int (qI (q3))]) (rest := []) ⟨hx, hb, hml, hown, hg⟩ (c_X8_bind l D cy mo mz msv mtx mmo mif mmg mtn mie mme mrd mas (th) (sv) (ml) (tu) (b10) (narV (G 2 k) (G 3 k) (-(mM g (oN (G 1 k)) (G 0 k).toNat)) (mM g (G 0 k).toNat (oN (G 1 k)))) (sp) (it) (bl) (hh) (g) _ _ _ ((G 0 k).toNat) (oN (G 1 k)) (by omega) (by omega) C (by omega) (by omega) _) (cv_X8_59 hg rfl rfl ⟨by decide, by decide⟩) ⟨q_blind, va_recv hK (fl_blk hP 0 rfl) (ci := 8) (q0 := 0) rfl rfl, q_preM _ hK hN hP hD [0, 1] (by decide) rfl⟩ rfl rfl hl.1 rfl (lv_room (Nat.le_of_ble_eq_true rfl)) dX8_fillOne_207 ⟨by decide, by decide⟩) rfl rfl (by decide) (fun u_207 H locs h_207 hP hD hS => ?_)
                    have hP : va_P D vwCl [[(mo, .inr (8, [.int (qI (th)), .ref (mz), .int (qI (sv)), .ref (msv), .int (qI (ml)), .ref (mtx), .ref (mmo), .int (qI (tu)), .ref (mif), .ref (mmg), .ref (mtn), .ref (mie), .ref (mme), .int (qz (b10)), .int (qI (narV (G 2 k) (G 3 k) (-(mM g (oN (G 1 k)) (G 0 k).toNat)) (mM g (G 0 k).toNat (oN (G 1 k))))), .int (qI (sp)), .int (qI (it)), .int (qz (bl)), .ref (mrd), .ref (mas), .long (hh)]))], [(mmo, aI cy 121 (u_207))]].flatten H := hP
                    have hD : va_D A [[(mo, .inr (8, [.int (qI (th)), .ref (mz), .int (qI (sv)), .ref (msv), .int (qI (ml)), .ref (mtx), .ref (mmo), .int (qI (tu)), .ref (mif), .ref (mmg), .ref (mtn), .ref (mie), .ref (mme), .int (qz (b10)), .int (qI (narV (G 2 k) (G 3 k) (-(mM g (oN (G 1 k)) (G 0 k).toNat)) (mM g (G 0 k).toNat (oN (G 1 k))))), .int (qI (sp)), .int (qI (it)), .int (qz (bl)), .ref (mrd), .ref (mas), .long (hh)]))], [(mmo, aI cy 121 (u_207))]].flatten := hD
                    rw [e3] at h_207
                    refine lv_iload_n hx hb dX8_fillOne_210 rfl (lv_at hl 10 rfl) ?_
                    refine q_if_eq (tgt := 224) hx hb dX8_fillOne_211 (by decide) (by omega) (fun c_211 => ?_) (fun c_211 => ?_)
                    · skip
                      exact hQ _ _ _ _ (u_207, b10, narV (G 2 k) (G 3 k) (-(mM g (oN (G 1 k)) (G 0 k).toNat)) (mM g (G 0 k).toNat (oN (G 1 k)))) ⟨(by unfold oM oM1; rw [if_pos ok9, if_pos (by omega), if_neg (by omega)]; exact h_207), by rw [c_102, ok9], by unfold oMg; rw [if_pos ok9]⟩ hP hD hS dX8_fillOne_224
                    · skip
                      have n2 := n2 (by omega)
                      have r2 : mM u_207 (G 0 k).toNat (oN (G 1 k)) = oM1 (mM g) G k (G 0 k).toNat (oN (G 1 k)) := by rw [h_207 _ _ hl9 ho]; unfold oM1; rw [if_neg (by omega)]
                      have c2 : qCl (mM u_207) := qEq.cl (h_207.symm) (tg_cl C hl9 ho n1)
                      refine lv_aload_n hx hb dX8_fillOne_214 rfl (lv_at hl 7 rfl) ?_
                      refine lv_iload hx hb dX8_fillOne_215 (lv_at hl 6 rfl) ?_
                      refine lv_iload_n hx hb dX8_fillOne_217 rfl (lv_at hl 8 rfl) ?_
                      refine lv_iload hx hb dX8_fillOne_218 (lv_at hl 11 rfl) ?_
                      refine q_ineg hx hb dX8_fillOne_220 ?_
                      refine q_backv [0, 1] [] (br := []) hP hD hS hA (va_runV (As := [.int (qI (((oN (G 1 k) : Nat) : Int))), .int (qI (q0)), .int (qI (-(q3)))]) (rest := []) ⟨hx, hb, hml, hown, hg⟩ (c_X8_bind l D cy mo mz msv mtx mmo mif mmg mtn mie mme mrd mas (th) (sv) (ml) (tu) (b10) (narV (G 2 k) (G 3 k) (-(mM g (oN (G 1 k)) (G 0 k).toNat)) (mM g (G 0 k).toNat (oN (G 1 k)))) (sp) (it) (bl) (hh) (u_207) _ _ _ (oN (G 1 k)) ((G 0 k).toNat) (by omega) (by omega) c2 (by omega) (by omega) _) (cv_X8_59 hg rfl rfl ⟨by decide, by decide⟩) ⟨q_blind, va_recv hK (fl_blk hP 0 rfl) (ci := 8) (q0 := 0) rfl rfl, q_preM _ hK hN hP hD [0, 1] (by decide) rfl⟩ rfl rfl hl.1 rfl (lv_room (Nat.le_of_ble_eq_true rfl)) dX8_fillOne_221 ⟨by decide, by decide⟩) rfl rfl (by decide) (fun u_221 H locs h_221 hP hD hS => ?_)
                      have hP : va_P D vwCl [[(mo, .inr (8, [.int (qI (th)), .ref (mz), .int (qI (sv)), .ref (msv), .int (qI (ml)), .ref (mtx), .ref (mmo), .int (qI (tu)), .ref (mif), .ref (mmg), .ref (mtn), .ref (mie), .ref (mme), .int (qz (b10)), .int (qI (narV (G 2 k) (G 3 k) (-(mM g (oN (G 1 k)) (G 0 k).toNat)) (mM g (G 0 k).toNat (oN (G 1 k))))), .int (qI (sp)), .int (qI (it)), .int (qz (bl)), .ref (mrd), .ref (mas), .long (hh)]))], [(mmo, aI cy 121 (u_221))]].flatten H := hP
                      have hD : va_D A [[(mo, .inr (8, [.int (qI (th)), .ref (mz), .int (qI (sv)), .ref (msv), .int (qI (ml)), .ref (mtx), .ref (mmo), .int (qI (tu)), .ref (mif), .ref (mmg), .ref (mtn), .ref (mie), .ref (mme), .int (qz (b10)), .int (qI (narV (G 2 k) (G 3 k) (-(mM g (oN (G 1 k)) (G 0 k).toNat)) (mM g (G 0 k).toNat (oN (G 1 k))))), .int (qI (sp)), .int (qI (it)), .int (qz (bl)), .ref (mrd), .ref (mas), .long (hh)]))], [(mmo, aI cy 121 (u_221))]].flatten := hD
                      rw [e3] at h_221
                      exact hQ _ _ _ _ (u_221, b10, narV (G 2 k) (G 3 k) (-(mM g (oN (G 1 k)) (G 0 k).toNat)) (mM g (G 0 k).toNat (oN (G 1 k)))) ⟨(by unfold oM; rw [if_pos ok9, if_neg (by omega)]; refine h_221.trans ?_; first | (refine qEq.tg ?_ ho hl9 _; unfold oM1; rw [if_neg (by omega)]; exact h_207) | (refine qEq.tg ?_ ho hl9 _; unfold oM1; rw [if_pos (by omega)]; exact qEq.rfl')), by rw [c_102, ok9], by unfold oMg; rw [if_pos ok9]⟩ hP hD hS dX8_fillOne_224
                refine lv_iload_n hx hb dX8_fillOne_169 rfl (lv_at hl 10 rfl) ?_
                refine q_iconst hx hb dX8_fillOne_170 ?_
                refine q_icmp_ne (tgt := 182) hx hb dX8_fillOne_171 (by decide) (by omega) (fun c_171 => ?_) (fun c_171 => ?_)
                · skip
                  refine lv_iload_n hx hb dX8_fillOne_182 rfl (lv_at hl 10 rfl) ?_
                  refine q_if_ne (tgt := 191) hx hb dX8_fillOne_183 (by decide) (by omega) (fun c_183 => ?_) (fun c_183 => ?_)
                  · skip
                    refine lv_iload hx hb dX8_fillOne_191 (lv_at hl 0 rfl) ?_
                    refine q_topZ (y := narV (G 2 k) (G 3 k) (-(mM g (oN (G 1 k)) (G 0 k).toNat)) (mM g (G 0 k).toNat (oN (G 1 k)))) (by unfold narV; (repeat' split) <;> omega) ?_
                    exact K_193 
                  · skip
                    refine lv_iload hx hb dX8_fillOne_186 (lv_at hl 1 rfl) ?_
                    refine lv_goto (tgt := 193) hx hb dX8_fillOne_188 (by decide) ?_
                    refine q_topZ (y := narV (G 2 k) (G 3 k) (-(mM g (oN (G 1 k)) (G 0 k).toNat)) (mM g (G 0 k).toNat (oN (G 1 k)))) (by unfold narV; (repeat' split) <;> omega) ?_
                    exact K_193 
                · skip
                  refine lv_iload hx hb dX8_fillOne_174 (lv_at hl 5 rfl) ?_
                  refine lv_iload hx hb dX8_fillOne_176 (lv_at hl 4 rfl) ?_
                  refine q_isub hx hb dX8_fillOne_178 ?_
                  refine lv_goto (tgt := 193) hx hb dX8_fillOne_179 (by decide) ?_
                  refine q_topZ (y := narV (G 2 k) (G 3 k) (-(mM g (oN (G 1 k)) (G 0 k).toNat)) (mM g (G 0 k).toNat (oN (G 1 k)))) (by unfold narV; (repeat' split) <;> omega) ?_
                  exact K_193 
              refine lv_iload hx hb dX8_fillOne_149 (lv_at hl 10 rfl) ?_
              refine lv_iload hx hb dX8_fillOne_151 (lv_at hl 3 rfl) ?_
              refine q_isub hx hb dX8_fillOne_153 ?_
              refine q_if_le (tgt := 165) hx hb dX8_fillOne_154 (by decide) (by omega) (fun c_154 => ?_) (fun c_154 => ?_)
              · skip
                refine q_iconst hx hb dX8_fillOne_165 ?_
                exact K_166 (0) (by omega)
              · skip
                refine lv_iload hx hb dX8_fillOne_157 (lv_at hl 10 rfl) ?_
                refine lv_iload hx hb dX8_fillOne_159 (lv_at hl 3 rfl) ?_
                refine q_isub hx hb dX8_fillOne_161 ?_
                refine lv_goto (tgt := 166) hx hb dX8_fillOne_162 (by decide) ?_
                exact K_166 ((q3) - (-(g ((11 * oN (G 1 k)) + (G 0 k).toNat)))) (by omega)
            have ok9 : oOk (mM g) G k = true := chB_iff.mpr (hb10.mp c_102)
            obtain ⟨-, -, n1, n2⟩ := oM_need C hW hk ok9
            refine lv_iload hx hb dX8_fillOne_130 (lv_at hl 3 rfl) ?_
            refine lv_iload hx hb dX8_fillOne_132 (lv_at hl 9 rfl) ?_
            refine q_isub hx hb dX8_fillOne_134 ?_
            refine q_if_le (tgt := 146) hx hb dX8_fillOne_135 (by decide) (by omega) (fun c_135 => ?_) (fun c_135 => ?_)
            · skip
              refine q_iconst hx hb dX8_fillOne_146 ?_
              exact K_147 (0) (by omega)
            · skip
              refine lv_iload hx hb dX8_fillOne_138 (lv_at hl 3 rfl) ?_
              refine lv_iload hx hb dX8_fillOne_140 (lv_at hl 9 rfl) ?_
              refine q_isub hx hb dX8_fillOne_142 ?_
              refine lv_goto (tgt := 147) hx hb dX8_fillOne_143 (by decide) ?_
              exact K_147 ((g ((11 * (G 0 k).toNat) + oN (G 1 k))) - (q3)) (by omega)
          · skip
            have g_102 := mt (hb10).mpr (by rw [c_102]; decide)
            refine lv_aload_n hx hb dX8_fillOne_105 rfl (lv_at hl 5 rfl) ?_
            have K_126 : W p l e (qrm 2) s m args below meth c H locs 0 0 Q (F0 m 126 ls [.int (qI (misV (G 3 k) (-(mM g (oN (G 1 k)) (G 0 k).toNat)) (mM g (G 0 k).toNat (oN (G 1 k))))), .ref (mo)]) := by
              refine pf_X8_56 hx hb hg hown hK hP hD hS 0 0 rfl rfl rfl rfl (Nat.le_of_ble_eq_true rfl) dX8_fillOne_126 (fun H locs hP hD hS => ?_)
              have hP : va_P D vwCl [[(mo, .inr (8, [.int (qI (th)), .ref (mz), .int (qI (sv)), .ref (msv), .int (qI (ml)), .ref (mtx), .ref (mmo), .int (qI (tu)), .ref (mif), .ref (mmg), .ref (mtn), .ref (mie), .ref (mme), .int (qz (b10)), .int (qI (misV (G 3 k) (-(mM g (oN (G 1 k)) (G 0 k).toNat)) (mM g (G 0 k).toNat (oN (G 1 k))))), .int (qI (sp)), .int (qI (it)), .int (qz (bl)), .ref (mrd), .ref (mas), .long (hh)]))], [(mmo, aI cy 121 (g))]].flatten H := hP
              have hD : va_D A [[(mo, .inr (8, [.int (qI (th)), .ref (mz), .int (qI (sv)), .ref (msv), .int (qI (ml)), .ref (mtx), .ref (mmo), .int (qI (tu)), .ref (mif), .ref (mmg), .ref (mtn), .ref (mie), .ref (mme), .int (qz (b10)), .int (qI (misV (G 3 k) (-(mM g (oN (G 1 k)) (G 0 k).toNat)) (mM g (G 0 k).toNat (oN (G 1 k))))), .int (qI (sp)), .int (qI (it)), .int (qz (bl)), .ref (mrd), .ref (mas), .long (hh)]))], [(mmo, aI cy 121 (g))]].flatten := hD
              have ok9 : oOk (mM g) G k = false := by rcases h9 : oOk (mM g) G k with _ | _; rfl; exact absurd (hb10.mpr (chB_iff.mp h9)) (by rw [c_102]; decide)
              exact hQ _ _ _ _ (g, b10, misV (G 3 k) (-(mM g (oN (G 1 k)) (G 0 k).toNat)) (mM g (G 0 k).toNat (oN (G 1 k)))) ⟨by unfold oM; rw [if_neg (by rw [ok9]; decide)]; exact qEq.rfl', by rw [c_102, ok9], by unfold oMg; rw [if_neg (by rw [ok9]; decide)]⟩ hP hD hS dX8_fillOne_129
            refine lv_iload hx hb dX8_fillOne_106 (lv_at hl 9 rfl) ?_
            refine lv_iload hx hb dX8_fillOne_108 (lv_at hl 2 rfl) ?_
            refine q_icmp_ge (tgt := 121) hx hb dX8_fillOne_110 (by decide) (by omega) (fun c_110 => ?_) (fun c_110 => ?_)
            · skip
              refine lv_iload hx hb dX8_fillOne_121 (lv_at hl 3 rfl) ?_
              refine lv_iload hx hb dX8_fillOne_123 (lv_at hl 9 rfl) ?_
              refine q_isub hx hb dX8_fillOne_125 ?_
              refine q_topZ (y := misV (G 3 k) (-(mM g (oN (G 1 k)) (G 0 k).toNat)) (mM g (G 0 k).toNat (oN (G 1 k)))) (by unfold misV; split <;> omega) ?_
              exact K_126 
            · skip
              refine lv_iload hx hb dX8_fillOne_113 (lv_at hl 2 rfl) ?_
              refine lv_iload hx hb dX8_fillOne_115 (lv_at hl 9 rfl) ?_
              refine q_isub hx hb dX8_fillOne_117 ?_
              refine lv_goto (tgt := 126) hx hb dX8_fillOne_118 (by decide) ?_
              refine q_topZ (y := misV (G 3 k) (-(mM g (oN (G 1 k)) (G 0 k).toNat)) (mM g (G 0 k).toNat (oN (G 1 k)))) (by unfold misV; split <;> omega) ?_
              exact K_126 
        refine lv_iload hx hb dX8_fillOne_80 (lv_at hl 1 rfl) ?_
        refine q_ifz_ne (tgt := 94) hx hb dX8_fillOne_82 (by decide) (fun c_82 => ?_) (fun c_82 => ?_)
        · skip
          have g_82 := (hb8).mp c_82
          refine q_iconst hx hb dX8_fillOne_94 ?_
          refine q_bool (b := false) rfl ?_
          exact K_95 false (iff_of_false (by decide) (by unfold chP; omega))
        · skip
          have g_82 := mt (hb8).mpr (by rw [c_82]; decide)
          refine lv_iload hx hb dX8_fillOne_85 (lv_at hl 0 rfl) ?_
          refine q_ifz_ne (tgt := 94) hx hb dX8_fillOne_87 (by decide) (fun c_87 => ?_) (fun c_87 => ?_)
          · skip
            have g_87 := (hb9).mp c_87
            refine q_iconst hx hb dX8_fillOne_94 ?_
            refine q_bool (b := false) rfl ?_
            exact K_95 false (iff_of_false (by decide) (by unfold chP; omega))
          · skip
            have g_87 := mt (hb9).mpr (by rw [c_87]; decide)
            refine q_iconst hx hb dX8_fillOne_90 ?_
            refine lv_goto (tgt := 95) hx hb dX8_fillOne_91 (by decide) ?_
            refine q_bool (b := true) rfl ?_
            exact K_95 true (iff_of_true rfl (by unfold chP; omega))
      refine lv_iload_n hx hb dX8_fillOne_60 rfl (lv_at hl 7 rfl) ?_
      refine q_iconst hx hb dX8_fillOne_61 ?_
      refine q_icmp_eq (tgt := 76) hx hb dX8_fillOne_62 (by decide) (by omega) (fun c_62 => ?_) (fun c_62 => ?_)
      · skip
        refine q_iconst hx hb dX8_fillOne_76 ?_
        refine q_bool (b := false) rfl ?_
        exact K_77 false (iff_of_false (by decide) (by omega))
      · skip
        refine lv_iload hx hb dX8_fillOne_65 (lv_at hl 8 rfl) ?_
        refine lv_iload hx hb dX8_fillOne_67 (lv_at hl 1 rfl) ?_
        refine q_icmp_ge (tgt := 76) hx hb dX8_fillOne_69 (by decide) (by omega) (fun c_69 => ?_) (fun c_69 => ?_)
        · skip
          refine q_iconst hx hb dX8_fillOne_76 ?_
          refine q_bool (b := false) rfl ?_
          exact K_77 false (iff_of_false (by decide) (by omega))
        · skip
          refine q_iconst hx hb dX8_fillOne_72 ?_
          refine lv_goto (tgt := 77) hx hb dX8_fillOne_73 (by decide) ?_
          refine q_bool (b := true) rfl ?_
          exact K_77 true (iff_of_true rfl (by omega))
    refine lv_iload_n hx hb dX8_fillOne_42 rfl (lv_at hl 6 rfl) ?_
    refine q_if_eq (tgt := 57) hx hb dX8_fillOne_43 (by decide) (by omega) (fun c_43 => ?_) (fun c_43 => ?_)
    · skip
      refine q_iconst hx hb dX8_fillOne_57 ?_
      refine q_bool (b := false) rfl ?_
      exact K_58 false (iff_of_false (by decide) (by omega))
    · skip
      refine lv_iload hx hb dX8_fillOne_46 (lv_at hl 7 rfl) ?_
      refine lv_iload hx hb dX8_fillOne_48 (lv_at hl 1 rfl) ?_
      refine q_icmp_le (tgt := 57) hx hb dX8_fillOne_50 (by decide) (by omega) (fun c_50 => ?_) (fun c_50 => ?_)
      · skip
        refine q_iconst hx hb dX8_fillOne_57 ?_
        refine q_bool (b := false) rfl ?_
        exact K_58 false (iff_of_false (by decide) (by omega))
      · skip
        refine q_iconst hx hb dX8_fillOne_53 ?_
        refine lv_goto (tgt := 58) hx hb dX8_fillOne_54 (by decide) ?_
        refine q_bool (b := true) rfl ?_
        exact K_58 true (iff_of_true rfl (by omega))
  refine lv_iload_n hx hb dX8_fillOne_0 rfl (lv_at hl 2 rfl) ?_
  refine q_iconst hx hb dX8_fillOne_1 ?_
  refine q_icmp_ne (tgt := 10) hx hb dX8_fillOne_2 (by decide) (by omega) (fun c_2 => ?_) (fun c_2 => ?_)
  · skip
    refine lv_iload_n hx hb dX8_fillOne_10 rfl (lv_at hl 2 rfl) ?_
    refine q_topZ (y := ((oN (G 1 k) : Nat) : Int)) (by rw [← e1]; unfold oN; split <;> omega) ?_
    exact K_11 
  · skip
    refine q_bipush hx hb dX8_fillOne_5 (by decide) ?_
    refine lv_goto (tgt := 11) hx hb dX8_fillOne_7 (by decide) ?_
    refine q_topZ (y := ((oN (G 1 k) : Nat) : Int)) (by rw [← e1]; unfold oN; split <;> omega) ?_
    exact K_11 
