/-- a right place's node -/
def oN (r : Int) : Nat := if r = -1 then 10 else r.toNat
theorem oN_lt {r : Int} (h : -1 ≤ r ∧ r ≤ 9) : oN r < 11 := by unfold oN; split <;> omega
def chB (sg n lo hi : Int) : Bool := (decide (sg = 2) || decide (lo ≤ n)) && (decide (sg = 0) || decide (n ≤ hi))
theorem chB_iff {sg n lo hi : Int} : chB sg n lo hi = true ↔ chP sg n lo hi := by simp [chB, chP]

set_option maxRecDepth 100000 in
set_option maxHeartbeats 4000000 in
theorem c_X5_rightNode (l : Launch) (D : va_G) (cy : Nat → ClassId) (r : Nat → Nat) (G : Nat → Nat → Int) (n : Nat) (x : Int) (k : Nat) (hk : x = (k : Int) ∧ k < n) (hn : n ≤ 16) (hW : qWR G n) : qRd l yX5_rightNode (.code yX5_rightNode cX5_rightNode 2 (some .int)) 1 [.ref (r 0), .int (qI (x))] D cy [qRu cy r (G) (((n : Nat) : Int))] (vp_Si (fun v => v = qI ((oN (G 1 k) : Nat) : Int))) := by
  refine q_ofRi (by decide +kernel) (Nat.le_of_ble_eq_true rfl) ?_
  intro p e s m args below meth c Q hx hb hml hown hg hQ hK hN hP ls hl
  have hown : s.vm.findClass RX5 = some m.cls := hown
  have hl : lv_has ls 2 [(0, .ref (r 0)), (1, .int (qI (x)))] := hl
  have hw := hW k hk.2
  have hk1 := hk.1
  have hk2 := hk.2
  refine lv_aload_n hx hb dX5_rightNode_0 rfl (lv_at hl 0 rfl) ?_
  refine gf_X5_15 hx hb hg hown hK (fl_blk hP 0 rfl) 0 rfl rfl dX5_rightNode_1 ?_
  refine lv_iload_n hx hb dX5_rightNode_4 rfl (lv_at hl 1 rfl) ?_
  refine q_iald (j := k) hx hb hK (fl_blk hP 0 rfl) 2 rfl (by omega) dX5_rightNode_5 ?_
  refine q_iconst hx hb dX5_rightNode_6 ?_
  refine q_icmp_ne (tgt := 15) hx hb dX5_rightNode_7 (by decide) (by omega) (fun c_7 => ?_) (fun c_7 => ?_)
  · skip
    refine lv_aload_n hx hb dX5_rightNode_15 rfl (lv_at hl 0 rfl) ?_
    refine gf_X5_15 hx hb hg hown hK (fl_blk hP 0 rfl) 0 rfl rfl dX5_rightNode_16 ?_
    refine lv_iload_n hx hb dX5_rightNode_19 rfl (lv_at hl 1 rfl) ?_
    refine q_iald (j := k) hx hb hK (fl_blk hP 0 rfl) 2 rfl (by omega) dX5_rightNode_20 ?_
    exact hQ _ _ _ (congrArg qI (by unfold oN; split <;> omega)) dX5_rightNode_21
  · skip
    refine q_bipush hx hb dX5_rightNode_10 (by decide) ?_
    refine lv_goto (tgt := 21) hx hb dX5_rightNode_12 (by decide) ?_
    exact hQ _ _ _ (congrArg qI (by unfold oN; split <;> omega)) dX5_rightNode_21

set_option maxRecDepth 100000 in
set_option maxHeartbeats 4000000 in
theorem c_X5_canHold (l : Launch) (D : va_G) (cy : Nat → ClassId) (r : Nat → Nat) (G : Nat → Nat → Int) (n : Nat) (x : Int) (k : Nat) (hk : x = (k : Int) ∧ k < n) (hn : n ≤ 16) (hW : qWR G n) (lo hi : Int) (hb9 : (-8000 ≤ lo ∧ lo ≤ 8000) ∧ (-8000 ≤ hi ∧ hi ≤ 8000)) : qRd l yX5_canHold (.code yX5_canHold cX5_canHold 6 (some .boolean)) 1 [.ref (r 0), .int (qI (x)), .int (qI (lo)), .int (qI (hi))] D cy [qRu cy r (G) (((n : Nat) : Int))] (vp_Si (fun r => ∃ b : Bool, r = qz b ∧ (fun b => b = true ↔ chP (G 2 k) (G 3 k) lo hi) b)) := by
  refine q_ofRz (post := fun b => b = true ↔ chP (G 2 k) (G 3 k) lo hi) (by decide +kernel) (Nat.le_of_ble_eq_true rfl) ?_
  intro p e s m args below meth c Q hx hb hml hown hg hQ hK hN hP ls hl
  have hown : s.vm.findClass RX5 = some m.cls := hown
  have hl : lv_has ls 6 [(0, .ref (r 0)), (1, .int (qI (x))), (2, .int (qI (lo))), (3, .int (qI (hi)))] := hl
  have hw := hW k hk.2
  have hk1 := hk.1
  have hk2 := hk.2
  refine lv_aload_n hx hb dX5_canHold_0 rfl (lv_at hl 0 rfl) ?_
  refine gf_X5_18 hx hb hg hown hK (fl_blk hP 0 rfl) 0 rfl rfl dX5_canHold_1 ?_
  refine lv_iload_n hx hb dX5_canHold_4 rfl (lv_at hl 1 rfl) ?_
  refine q_iald (j := k) hx hb hK (fl_blk hP 0 rfl) 3 rfl (by omega) dX5_canHold_5 ?_
  refine q_iconst hx hb dX5_canHold_6 ?_
  refine q_icmp_eq (tgt := 20) hx hb dX5_canHold_7 (by decide) (by omega) (fun c_7 => ?_) (fun c_7 => ?_)
  · skip
    refine q_iconst hx hb dX5_canHold_20 ?_
    refine lv_goto (tgt := 25) hx hb dX5_canHold_21 (by decide) ?_
    refine lv_istore (lv' := [(4, .int (qI (1))), (0, .ref (r 0)), (1, .int (qI (x))), (2, .int (qI (lo))), (3, .int (qI (hi)))]) hx hb dX5_canHold_25 hl (by decide) rfl (fun ls hl => ?_)
    refine lv_aload_n hx hb dX5_canHold_27 rfl (lv_at hl 1 rfl) ?_
    refine gf_X5_18 hx hb hg hown hK (fl_blk hP 0 rfl) 0 rfl rfl dX5_canHold_28 ?_
    refine lv_iload_n hx hb dX5_canHold_31 rfl (lv_at hl 2 rfl) ?_
    refine q_iald (j := k) hx hb hK (fl_blk hP 0 rfl) 3 rfl (by omega) dX5_canHold_32 ?_
    refine q_if_eq (tgt := 46) hx hb dX5_canHold_33 (by decide) (by omega) (fun c_33 => ?_) (fun c_33 => ?_)
    · skip
      refine q_iconst hx hb dX5_canHold_46 ?_
      refine lv_goto (tgt := 51) hx hb dX5_canHold_47 (by decide) ?_
      refine lv_istore (lv' := [(5, .int (qI (1))), (4, .int (qI (1))), (0, .ref (r 0)), (1, .int (qI (x))), (2, .int (qI (lo))), (3, .int (qI (hi)))]) hx hb dX5_canHold_51 hl (by decide) rfl (fun ls hl => ?_)
      refine lv_iload hx hb dX5_canHold_53 (lv_at hl 1 rfl) ?_
      refine q_if_eq (tgt := 67) hx hb dX5_canHold_55 (by decide) (by omega) (fun c_55 => ?_) (fun c_55 => ?_)
      · skip
        exact absurd c_55 (by decide)
      · skip
        refine lv_iload hx hb dX5_canHold_58 (lv_at hl 0 rfl) ?_
        refine q_if_eq (tgt := 67) hx hb dX5_canHold_60 (by decide) (by omega) (fun c_60 => ?_) (fun c_60 => ?_)
        · skip
          exact absurd c_60 (by decide)
        · skip
          refine q_iconst hx hb dX5_canHold_63 ?_
          refine lv_goto (tgt := 68) hx hb dX5_canHold_64 (by decide) ?_
          exact hQ _ _ true (iff_of_true rfl (by unfold chP; omega)) dX5_canHold_68
    · skip
      refine lv_iload_n hx hb dX5_canHold_36 rfl (lv_at hl 4 rfl) ?_
      refine lv_aload_n hx hb dX5_canHold_37 rfl (lv_at hl 1 rfl) ?_
      refine gf_X5_21 hx hb hg hown hK (fl_blk hP 0 rfl) 0 rfl rfl dX5_canHold_38 ?_
      refine lv_iload_n hx hb dX5_canHold_41 rfl (lv_at hl 2 rfl) ?_
      refine q_iald (j := k) hx hb hK (fl_blk hP 0 rfl) 4 rfl (by omega) dX5_canHold_42 ?_
      refine q_icmp_lt (tgt := 50) hx hb dX5_canHold_43 (by decide) (by omega) (fun c_43 => ?_) (fun c_43 => ?_)
      · skip
        refine q_iconst hx hb dX5_canHold_50 ?_
        refine lv_istore (lv' := [(5, .int (qI (0))), (4, .int (qI (1))), (0, .ref (r 0)), (1, .int (qI (x))), (2, .int (qI (lo))), (3, .int (qI (hi)))]) hx hb dX5_canHold_51 hl (by decide) rfl (fun ls hl => ?_)
        refine lv_iload hx hb dX5_canHold_53 (lv_at hl 1 rfl) ?_
        refine q_if_eq (tgt := 67) hx hb dX5_canHold_55 (by decide) (by omega) (fun c_55 => ?_) (fun c_55 => ?_)
        · skip
          exact absurd c_55 (by decide)
        · skip
          refine lv_iload hx hb dX5_canHold_58 (lv_at hl 0 rfl) ?_
          refine q_if_eq (tgt := 67) hx hb dX5_canHold_60 (by decide) (by omega) (fun c_60 => ?_) (fun c_60 => ?_)
          · skip
            refine q_iconst hx hb dX5_canHold_67 ?_
            exact hQ _ _ false (iff_of_false (by decide) (by unfold chP; omega)) dX5_canHold_68
          · skip
            exact absurd c_60 (by decide)
      · skip
        refine q_iconst hx hb dX5_canHold_46 ?_
        refine lv_goto (tgt := 51) hx hb dX5_canHold_47 (by decide) ?_
        refine lv_istore (lv' := [(5, .int (qI (1))), (4, .int (qI (1))), (0, .ref (r 0)), (1, .int (qI (x))), (2, .int (qI (lo))), (3, .int (qI (hi)))]) hx hb dX5_canHold_51 hl (by decide) rfl (fun ls hl => ?_)
        refine lv_iload hx hb dX5_canHold_53 (lv_at hl 1 rfl) ?_
        refine q_if_eq (tgt := 67) hx hb dX5_canHold_55 (by decide) (by omega) (fun c_55 => ?_) (fun c_55 => ?_)
        · skip
          exact absurd c_55 (by decide)
        · skip
          refine lv_iload hx hb dX5_canHold_58 (lv_at hl 0 rfl) ?_
          refine q_if_eq (tgt := 67) hx hb dX5_canHold_60 (by decide) (by omega) (fun c_60 => ?_) (fun c_60 => ?_)
          · skip
            exact absurd c_60 (by decide)
          · skip
            refine q_iconst hx hb dX5_canHold_63 ?_
            refine lv_goto (tgt := 68) hx hb dX5_canHold_64 (by decide) ?_
            exact hQ _ _ true (iff_of_true rfl (by unfold chP; omega)) dX5_canHold_68
  · skip
    refine lv_iload_n hx hb dX5_canHold_10 rfl (lv_at hl 2 rfl) ?_
    refine lv_aload_n hx hb dX5_canHold_11 rfl (lv_at hl 0 rfl) ?_
    refine gf_X5_21 hx hb hg hown hK (fl_blk hP 0 rfl) 0 rfl rfl dX5_canHold_12 ?_
    refine lv_iload_n hx hb dX5_canHold_15 rfl (lv_at hl 1 rfl) ?_
    refine q_iald (j := k) hx hb hK (fl_blk hP 0 rfl) 4 rfl (by omega) dX5_canHold_16 ?_
    refine q_icmp_gt (tgt := 24) hx hb dX5_canHold_17 (by decide) (by omega) (fun c_17 => ?_) (fun c_17 => ?_)
    · skip
      refine q_iconst hx hb dX5_canHold_24 ?_
      refine lv_istore (lv' := [(4, .int (qI (0))), (0, .ref (r 0)), (1, .int (qI (x))), (2, .int (qI (lo))), (3, .int (qI (hi)))]) hx hb dX5_canHold_25 hl (by decide) rfl (fun ls hl => ?_)
      refine lv_aload_n hx hb dX5_canHold_27 rfl (lv_at hl 1 rfl) ?_
      refine gf_X5_18 hx hb hg hown hK (fl_blk hP 0 rfl) 0 rfl rfl dX5_canHold_28 ?_
      refine lv_iload_n hx hb dX5_canHold_31 rfl (lv_at hl 2 rfl) ?_
      refine q_iald (j := k) hx hb hK (fl_blk hP 0 rfl) 3 rfl (by omega) dX5_canHold_32 ?_
      refine q_if_eq (tgt := 46) hx hb dX5_canHold_33 (by decide) (by omega) (fun c_33 => ?_) (fun c_33 => ?_)
      · skip
        refine q_iconst hx hb dX5_canHold_46 ?_
        refine lv_goto (tgt := 51) hx hb dX5_canHold_47 (by decide) ?_
        refine lv_istore (lv' := [(5, .int (qI (1))), (4, .int (qI (0))), (0, .ref (r 0)), (1, .int (qI (x))), (2, .int (qI (lo))), (3, .int (qI (hi)))]) hx hb dX5_canHold_51 hl (by decide) rfl (fun ls hl => ?_)
        refine lv_iload hx hb dX5_canHold_53 (lv_at hl 1 rfl) ?_
        refine q_if_eq (tgt := 67) hx hb dX5_canHold_55 (by decide) (by omega) (fun c_55 => ?_) (fun c_55 => ?_)
        · skip
          refine q_iconst hx hb dX5_canHold_67 ?_
          exact hQ _ _ false (iff_of_false (by decide) (by unfold chP; omega)) dX5_canHold_68
        · skip
          exact absurd c_55 (by decide)
      · skip
        refine lv_iload_n hx hb dX5_canHold_36 rfl (lv_at hl 4 rfl) ?_
        refine lv_aload_n hx hb dX5_canHold_37 rfl (lv_at hl 1 rfl) ?_
        refine gf_X5_21 hx hb hg hown hK (fl_blk hP 0 rfl) 0 rfl rfl dX5_canHold_38 ?_
        refine lv_iload_n hx hb dX5_canHold_41 rfl (lv_at hl 2 rfl) ?_
        refine q_iald (j := k) hx hb hK (fl_blk hP 0 rfl) 4 rfl (by omega) dX5_canHold_42 ?_
        refine q_icmp_lt (tgt := 50) hx hb dX5_canHold_43 (by decide) (by omega) (fun c_43 => ?_) (fun c_43 => ?_)
        · skip
          refine q_iconst hx hb dX5_canHold_50 ?_
          refine lv_istore (lv' := [(5, .int (qI (0))), (4, .int (qI (0))), (0, .ref (r 0)), (1, .int (qI (x))), (2, .int (qI (lo))), (3, .int (qI (hi)))]) hx hb dX5_canHold_51 hl (by decide) rfl (fun ls hl => ?_)
          refine lv_iload hx hb dX5_canHold_53 (lv_at hl 1 rfl) ?_
          refine q_if_eq (tgt := 67) hx hb dX5_canHold_55 (by decide) (by omega) (fun c_55 => ?_) (fun c_55 => ?_)
          · skip
            refine q_iconst hx hb dX5_canHold_67 ?_
            exact hQ _ _ false (iff_of_false (by decide) (by unfold chP; omega)) dX5_canHold_68
          · skip
            exact absurd c_55 (by decide)
        · skip
          refine q_iconst hx hb dX5_canHold_46 ?_
          refine lv_goto (tgt := 51) hx hb dX5_canHold_47 (by decide) ?_
          refine lv_istore (lv' := [(5, .int (qI (1))), (4, .int (qI (0))), (0, .ref (r 0)), (1, .int (qI (x))), (2, .int (qI (lo))), (3, .int (qI (hi)))]) hx hb dX5_canHold_51 hl (by decide) rfl (fun ls hl => ?_)
          refine lv_iload hx hb dX5_canHold_53 (lv_at hl 1 rfl) ?_
          refine q_if_eq (tgt := 67) hx hb dX5_canHold_55 (by decide) (by omega) (fun c_55 => ?_) (fun c_55 => ?_)
          · skip
            refine q_iconst hx hb dX5_canHold_67 ?_
            exact hQ _ _ false (iff_of_false (by decide) (by unfold chP; omega)) dX5_canHold_68
          · skip
            exact absurd c_55 (by decide)
    · skip
      refine q_iconst hx hb dX5_canHold_20 ?_
      refine lv_goto (tgt := 25) hx hb dX5_canHold_21 (by decide) ?_
      refine lv_istore (lv' := [(4, .int (qI (1))), (0, .ref (r 0)), (1, .int (qI (x))), (2, .int (qI (lo))), (3, .int (qI (hi)))]) hx hb dX5_canHold_25 hl (by decide) rfl (fun ls hl => ?_)
      refine lv_aload_n hx hb dX5_canHold_27 rfl (lv_at hl 1 rfl) ?_
      refine gf_X5_18 hx hb hg hown hK (fl_blk hP 0 rfl) 0 rfl rfl dX5_canHold_28 ?_
      refine lv_iload_n hx hb dX5_canHold_31 rfl (lv_at hl 2 rfl) ?_
      refine q_iald (j := k) hx hb hK (fl_blk hP 0 rfl) 3 rfl (by omega) dX5_canHold_32 ?_
      refine q_if_eq (tgt := 46) hx hb dX5_canHold_33 (by decide) (by omega) (fun c_33 => ?_) (fun c_33 => ?_)
      · skip
        refine q_iconst hx hb dX5_canHold_46 ?_
        refine lv_goto (tgt := 51) hx hb dX5_canHold_47 (by decide) ?_
        refine lv_istore (lv' := [(5, .int (qI (1))), (4, .int (qI (1))), (0, .ref (r 0)), (1, .int (qI (x))), (2, .int (qI (lo))), (3, .int (qI (hi)))]) hx hb dX5_canHold_51 hl (by decide) rfl (fun ls hl => ?_)
        refine lv_iload hx hb dX5_canHold_53 (lv_at hl 1 rfl) ?_
        refine q_if_eq (tgt := 67) hx hb dX5_canHold_55 (by decide) (by omega) (fun c_55 => ?_) (fun c_55 => ?_)
        · skip
          exact absurd c_55 (by decide)
        · skip
          refine lv_iload hx hb dX5_canHold_58 (lv_at hl 0 rfl) ?_
          refine q_if_eq (tgt := 67) hx hb dX5_canHold_60 (by decide) (by omega) (fun c_60 => ?_) (fun c_60 => ?_)
          · skip
            exact absurd c_60 (by decide)
          · skip
            refine q_iconst hx hb dX5_canHold_63 ?_
            refine lv_goto (tgt := 68) hx hb dX5_canHold_64 (by decide) ?_
            exact hQ _ _ true (iff_of_true rfl (by unfold chP; omega)) dX5_canHold_68
      · skip
        refine lv_iload_n hx hb dX5_canHold_36 rfl (lv_at hl 4 rfl) ?_
        refine lv_aload_n hx hb dX5_canHold_37 rfl (lv_at hl 1 rfl) ?_
        refine gf_X5_21 hx hb hg hown hK (fl_blk hP 0 rfl) 0 rfl rfl dX5_canHold_38 ?_
        refine lv_iload_n hx hb dX5_canHold_41 rfl (lv_at hl 2 rfl) ?_
        refine q_iald (j := k) hx hb hK (fl_blk hP 0 rfl) 4 rfl (by omega) dX5_canHold_42 ?_
        refine q_icmp_lt (tgt := 50) hx hb dX5_canHold_43 (by decide) (by omega) (fun c_43 => ?_) (fun c_43 => ?_)
        · skip
          refine q_iconst hx hb dX5_canHold_50 ?_
          refine lv_istore (lv' := [(5, .int (qI (0))), (4, .int (qI (1))), (0, .ref (r 0)), (1, .int (qI (x))), (2, .int (qI (lo))), (3, .int (qI (hi)))]) hx hb dX5_canHold_51 hl (by decide) rfl (fun ls hl => ?_)
          refine lv_iload hx hb dX5_canHold_53 (lv_at hl 1 rfl) ?_
          refine q_if_eq (tgt := 67) hx hb dX5_canHold_55 (by decide) (by omega) (fun c_55 => ?_) (fun c_55 => ?_)
          · skip
            exact absurd c_55 (by decide)
          · skip
            refine lv_iload hx hb dX5_canHold_58 (lv_at hl 0 rfl) ?_
            refine q_if_eq (tgt := 67) hx hb dX5_canHold_60 (by decide) (by omega) (fun c_60 => ?_) (fun c_60 => ?_)
            · skip
              refine q_iconst hx hb dX5_canHold_67 ?_
              exact hQ _ _ false (iff_of_false (by decide) (by unfold chP; omega)) dX5_canHold_68
            · skip
              exact absurd c_60 (by decide)
        · skip
          refine q_iconst hx hb dX5_canHold_46 ?_
          refine lv_goto (tgt := 51) hx hb dX5_canHold_47 (by decide) ?_
          refine lv_istore (lv' := [(5, .int (qI (1))), (4, .int (qI (1))), (0, .ref (r 0)), (1, .int (qI (x))), (2, .int (qI (lo))), (3, .int (qI (hi)))]) hx hb dX5_canHold_51 hl (by decide) rfl (fun ls hl => ?_)
          refine lv_iload hx hb dX5_canHold_53 (lv_at hl 1 rfl) ?_
          refine q_if_eq (tgt := 67) hx hb dX5_canHold_55 (by decide) (by omega) (fun c_55 => ?_) (fun c_55 => ?_)
          · skip
            exact absurd c_55 (by decide)
          · skip
            refine lv_iload hx hb dX5_canHold_58 (lv_at hl 0 rfl) ?_
            refine q_if_eq (tgt := 67) hx hb dX5_canHold_60 (by decide) (by omega) (fun c_60 => ?_) (fun c_60 => ?_)
            · skip
              exact absurd c_60 (by decide)
            · skip
              refine q_iconst hx hb dX5_canHold_63 ?_
              refine lv_goto (tgt := 68) hx hb dX5_canHold_64 (by decide) ?_
              exact hQ _ _ true (iff_of_true rfl (by unfold chP; omega)) dX5_canHold_68

set_option maxRecDepth 100000 in
set_option maxHeartbeats 4000000 in
theorem c_X5_narrowing (l : Launch) (D : va_G) (cy : Nat → ClassId) (r : Nat → Nat) (G : Nat → Nat → Int) (n : Nat) (x : Int) (k : Nat) (hk : x = (k : Int) ∧ k < n) (hn : n ≤ 16) (hW : qWR G n) (lo hi : Int) (hb9 : (-8000 ≤ lo ∧ lo ≤ 8000) ∧ (-8000 ≤ hi ∧ hi ≤ 8000)) : qRd l yX5_narrowing (.code yX5_narrowing cX5_narrowing 4 (some .int)) 1 [.ref (r 0), .int (qI (x)), .int (qI (lo)), .int (qI (hi))] D cy [qRu cy r (G) (((n : Nat) : Int))] (vp_Si (fun v => v = qI (narV (G 2 k) (G 3 k) lo hi))) := by
  refine q_ofRi (by decide +kernel) (Nat.le_of_ble_eq_true rfl) ?_
  intro p e s m args below meth c Q hx hb hml hown hg hQ hK hN hP ls hl
  have hown : s.vm.findClass RX5 = some m.cls := hown
  have hl : lv_has ls 4 [(0, .ref (r 0)), (1, .int (qI (x))), (2, .int (qI (lo))), (3, .int (qI (hi)))] := hl
  have hw := hW k hk.2
  have hk1 := hk.1
  have hk2 := hk.2
  refine lv_aload_n hx hb dX5_narrowing_0 rfl (lv_at hl 0 rfl) ?_
  refine gf_X5_18 hx hb hg hown hK (fl_blk hP 0 rfl) 0 rfl rfl dX5_narrowing_1 ?_
  refine lv_iload_n hx hb dX5_narrowing_4 rfl (lv_at hl 1 rfl) ?_
  refine q_iald (j := k) hx hb hK (fl_blk hP 0 rfl) 3 rfl (by omega) dX5_narrowing_5 ?_
  rcases (show (G 2) k = 0 ∨ (G 2) k = 1 ∨ (G 2) k = 2 by omega) with c_6 | c_6 | c_6
  · refine q_lookup (off := 26) (tgt := 32) hx hb (0) c_6 dX5_narrowing_6 (by decide) ?_
    refine lv_iload_n hx hb dX5_narrowing_32 rfl (lv_at hl 3 rfl) ?_
    refine lv_aload_n hx hb dX5_narrowing_33 rfl (lv_at hl 0 rfl) ?_
    refine gf_X5_21 hx hb hg hown hK (fl_blk hP 0 rfl) 0 rfl rfl dX5_narrowing_34 ?_
    refine lv_iload_n hx hb dX5_narrowing_37 rfl (lv_at hl 1 rfl) ?_
    refine q_iald (j := k) hx hb hK (fl_blk hP 0 rfl) 4 rfl (by omega) dX5_narrowing_38 ?_
    refine q_icmp_le (tgt := 53) hx hb dX5_narrowing_39 (by decide) (by omega) (fun c_39 => ?_) (fun c_39 => ?_)
    · skip
      refine q_iconst hx hb dX5_narrowing_53 ?_
      exact hQ _ _ _ (congrArg qI (by unfold narV; repeat' split <;> omega)) dX5_narrowing_54
    · skip
      refine lv_iload_n hx hb dX5_narrowing_42 rfl (lv_at hl 3 rfl) ?_
      refine lv_aload_n hx hb dX5_narrowing_43 rfl (lv_at hl 0 rfl) ?_
      refine gf_X5_21 hx hb hg hown hK (fl_blk hP 0 rfl) 0 rfl rfl dX5_narrowing_44 ?_
      refine lv_iload_n hx hb dX5_narrowing_47 rfl (lv_at hl 1 rfl) ?_
      refine q_iald (j := k) hx hb hK (fl_blk hP 0 rfl) 4 rfl (by omega) dX5_narrowing_48 ?_
      refine q_isub hx hb dX5_narrowing_49 ?_
      refine lv_goto (tgt := 54) hx hb dX5_narrowing_50 (by decide) ?_
      exact hQ _ _ _ (congrArg qI (by unfold narV; repeat' split <;> omega)) dX5_narrowing_54
  · refine q_lookup (off := 49) (tgt := 55) hx hb (1) c_6 dX5_narrowing_6 (by decide) ?_
    refine lv_iload_n hx hb dX5_narrowing_55 rfl (lv_at hl 3 rfl) ?_
    refine lv_iload_n hx hb dX5_narrowing_56 rfl (lv_at hl 2 rfl) ?_
    refine q_isub hx hb dX5_narrowing_57 ?_
    exact hQ _ _ _ (congrArg qI (by unfold narV; repeat' split <;> omega)) dX5_narrowing_58
  · refine q_lookup (off := 53) (tgt := 59) hx hb (2) c_6 dX5_narrowing_6 (by decide) ?_
    refine lv_aload_n hx hb dX5_narrowing_59 rfl (lv_at hl 0 rfl) ?_
    refine gf_X5_21 hx hb hg hown hK (fl_blk hP 0 rfl) 0 rfl rfl dX5_narrowing_60 ?_
    refine lv_iload_n hx hb dX5_narrowing_63 rfl (lv_at hl 1 rfl) ?_
    refine q_iald (j := k) hx hb hK (fl_blk hP 0 rfl) 4 rfl (by omega) dX5_narrowing_64 ?_
    refine lv_iload_n hx hb dX5_narrowing_65 rfl (lv_at hl 2 rfl) ?_
    refine q_icmp_le (tgt := 80) hx hb dX5_narrowing_66 (by decide) (by omega) (fun c_66 => ?_) (fun c_66 => ?_)
    · skip
      refine q_iconst hx hb dX5_narrowing_80 ?_
      exact hQ _ _ _ (congrArg qI (by unfold narV; repeat' split <;> omega)) dX5_narrowing_81
    · skip
      refine lv_aload_n hx hb dX5_narrowing_69 rfl (lv_at hl 0 rfl) ?_
      refine gf_X5_21 hx hb hg hown hK (fl_blk hP 0 rfl) 0 rfl rfl dX5_narrowing_70 ?_
      refine lv_iload_n hx hb dX5_narrowing_73 rfl (lv_at hl 1 rfl) ?_
      refine q_iald (j := k) hx hb hK (fl_blk hP 0 rfl) 4 rfl (by omega) dX5_narrowing_74 ?_
      refine lv_iload_n hx hb dX5_narrowing_75 rfl (lv_at hl 2 rfl) ?_
      refine q_isub hx hb dX5_narrowing_76 ?_
      refine lv_goto (tgt := 81) hx hb dX5_narrowing_77 (by decide) ?_
      exact hQ _ _ _ (congrArg qI (by unfold narV; repeat' split <;> omega)) dX5_narrowing_81

set_option maxRecDepth 100000 in
set_option maxHeartbeats 4000000 in
theorem c_X5_missing (l : Launch) (D : va_G) (cy : Nat → ClassId) (r : Nat → Nat) (G : Nat → Nat → Int) (n : Nat) (x : Int) (k : Nat) (hk : x = (k : Int) ∧ k < n) (hn : n ≤ 16) (hW : qWR G n) (lo hi : Int) (hb9 : (-8000 ≤ lo ∧ lo ≤ 8000) ∧ (-8000 ≤ hi ∧ hi ≤ 8000)) : qRd l yX5_missing (.code yX5_missing cX5_missing 4 (some .int)) 1 [.ref (r 0), .int (qI (x)), .int (qI (lo)), .int (qI (hi))] D cy [qRu cy r (G) (((n : Nat) : Int))] (vp_Si (fun v => v = qI (misV (G 3 k) lo hi))) := by
  refine q_ofRi (by decide +kernel) (Nat.le_of_ble_eq_true rfl) ?_
  intro p e s m args below meth c Q hx hb hml hown hg hQ hK hN hP ls hl
  have hown : s.vm.findClass RX5 = some m.cls := hown
  have hl : lv_has ls 4 [(0, .ref (r 0)), (1, .int (qI (x))), (2, .int (qI (lo))), (3, .int (qI (hi)))] := hl
  have hw := hW k hk.2
  have hk1 := hk.1
  have hk2 := hk.2
  refine lv_aload_n hx hb dX5_missing_0 rfl (lv_at hl 0 rfl) ?_
  refine gf_X5_21 hx hb hg hown hK (fl_blk hP 0 rfl) 0 rfl rfl dX5_missing_1 ?_
  refine lv_iload_n hx hb dX5_missing_4 rfl (lv_at hl 1 rfl) ?_
  refine q_iald (j := k) hx hb hK (fl_blk hP 0 rfl) 4 rfl (by omega) dX5_missing_5 ?_
  refine lv_iload_n hx hb dX5_missing_6 rfl (lv_at hl 2 rfl) ?_
  refine q_icmp_ge (tgt := 21) hx hb dX5_missing_7 (by decide) (by omega) (fun c_7 => ?_) (fun c_7 => ?_)
  · skip
    refine lv_iload_n hx hb dX5_missing_21 rfl (lv_at hl 3 rfl) ?_
    refine lv_aload_n hx hb dX5_missing_22 rfl (lv_at hl 0 rfl) ?_
    refine gf_X5_21 hx hb hg hown hK (fl_blk hP 0 rfl) 0 rfl rfl dX5_missing_23 ?_
    refine lv_iload_n hx hb dX5_missing_26 rfl (lv_at hl 1 rfl) ?_
    refine q_iald (j := k) hx hb hK (fl_blk hP 0 rfl) 4 rfl (by omega) dX5_missing_27 ?_
    refine q_isub hx hb dX5_missing_28 ?_
    exact hQ _ _ _ (congrArg qI (by unfold misV; split <;> omega)) dX5_missing_29
  · skip
    refine lv_iload_n hx hb dX5_missing_10 rfl (lv_at hl 2 rfl) ?_
    refine lv_aload_n hx hb dX5_missing_11 rfl (lv_at hl 0 rfl) ?_
    refine gf_X5_21 hx hb hg hown hK (fl_blk hP 0 rfl) 0 rfl rfl dX5_missing_12 ?_
    refine lv_iload_n hx hb dX5_missing_15 rfl (lv_at hl 1 rfl) ?_
    refine q_iald (j := k) hx hb hK (fl_blk hP 0 rfl) 4 rfl (by omega) dX5_missing_16 ?_
    refine q_isub hx hb dX5_missing_17 ?_
    refine lv_goto (tgt := 29) hx hb dX5_missing_18 (by decide) ?_
    exact hQ _ _ _ (congrArg qI (by unfold misV; split <;> omega)) dX5_missing_29

set_option maxRecDepth 100000 in
set_option maxHeartbeats 4000000 in
theorem c_X5_rowsWith (l : Launch) (D : va_G) (cy : Nat → ClassId) (r : Nat → Nat) (G : Nat → Nat → Int) (n : Nat) (x : Int) (hx1 : 0 ≤ x ∧ x ≤ 9) (hn : n ≤ 16) (hW : qWR G n) : qRd l yX5_rowsWith (.code yX5_rowsWith cX5_rowsWith 4 (some .int)) 1 [.ref (r 0), .int (qI (x))] D cy [qRu cy r (G) (((n : Nat) : Int))] (vp_Si (fun v => v = qI ((cnt (fun i => decide (G 0 i = x ∨ G 1 i = x)) n : Nat) : Int))) := by
  refine q_ofRi (by decide +kernel) (Nat.le_of_ble_eq_true rfl) ?_
  intro p e s m args below meth c Q hx hb hml hown hg hQ hK hN hP ls hl
  have hown : s.vm.findClass RX5 = some m.cls := hown
  have hl : lv_has ls 4 [(0, .ref (r 0)), (1, .int (qI (x)))] := hl
  refine q_iconst hx hb dX5_rowsWith_0 ?_
  refine lv_istore_n (lv' := [(2, .int (qI (0))), (0, .ref (r 0)), (1, .int (qI (x)))]) hx hb dX5_rowsWith_1 rfl hl (by decide) rfl (fun ls hl => ?_)
  refine q_iconst hx hb dX5_rowsWith_2 ?_
  refine lv_istore_n (lv' := [(3, .int (qI (0))), (2, .int (qI (0))), (0, .ref (r 0)), (1, .int (qI (x)))]) hx hb dX5_rowsWith_3 rfl hl (by decide) rfl (fun ls hl => ?_)
  have L_4 : ∀ (n_4 k : Nat) (y : Nat), k ≤ n → n + 1 ≤ k + n_4 → (y = cnt (fun i => decide (G 0 i = x ∨ G 1 i = x)) k) → (y ≤ k) → ∀ (ls : Array Slot), lv_has ls 4 [(0, .ref (r 0)), (1, .int (qI (x))), (2, .int (qI (((y : Nat) : Int)))), (3, .int (qI (((k : Nat) : Int))))] → W p l e (qrm 1) s m args below meth c s.heap [] 0 0 Q (F0 m 4 ls []) := by
    intro n_4
    induction n_4 with
    | zero => intro k _ h1 h2; exact absurd h2 (by omega)
    | succ n_4 ih_4 =>
      intro k y hk_4 hn_4 hy hy2 ls hl
      refine lv_iload_n hx hb dX5_rowsWith_4 rfl (lv_at hl 3 rfl) ?_
      refine lv_aload_n hx hb dX5_rowsWith_5 rfl (lv_at hl 0 rfl) ?_
      refine gf_X5_27 hx hb hg hown hK (fl_blk hP 0 rfl) 0 rfl rfl dX5_rowsWith_6 ?_
      refine q_icmp_ge (tgt := 41) hx hb dX5_rowsWith_9 (by decide) (by omega) (fun c_9 => ?_) (fun c_9 => ?_)
      · skip
        refine lv_iload_n hx hb dX5_rowsWith_41 rfl (lv_at hl 2 rfl) ?_
        exact hQ _ _ _ (by rw [hy, show k = n by omega]) dX5_rowsWith_42
      · skip
        have hw := hW k (by omega)
        refine lv_aload_n hx hb dX5_rowsWith_12 rfl (lv_at hl 0 rfl) ?_
        refine gf_X5_9 hx hb hg hown hK (fl_blk hP 0 rfl) 0 rfl rfl dX5_rowsWith_13 ?_
        refine lv_iload_n hx hb dX5_rowsWith_16 rfl (lv_at hl 3 rfl) ?_
        refine q_iald (j := k) hx hb hK (fl_blk hP 0 rfl) 1 rfl (by omega) dX5_rowsWith_17 ?_
        refine lv_iload_n hx hb dX5_rowsWith_18 rfl (lv_at hl 1 rfl) ?_
        refine q_icmp_eq (tgt := 32) hx hb dX5_rowsWith_19 (by decide) (by omega) (fun c_19 => ?_) (fun c_19 => ?_)
        · skip
          refine q_iinc (k := 2) (lv' := [(2, .int (qI ((((y : Nat) : Int)) + (1)))), (0, .ref (r 0)), (1, .int (qI (x))), (3, .int (qI (((k : Nat) : Int))))]) hx hb dX5_rowsWith_32 hl rfl (by decide) rfl (fun ls hl => ?_)
          refine q_iinc (k := 3) (lv' := [(3, .int (qI ((((k : Nat) : Int)) + (1)))), (2, .int (qI ((((y : Nat) : Int)) + (1)))), (0, .ref (r 0)), (1, .int (qI (x)))]) hx hb dX5_rowsWith_35 hl rfl (by decide) rfl (fun ls hl => ?_)
          refine lv_goto (tgt := 4) hx hb dX5_rowsWith_38 (by decide) ?_
          exact ih_4 (k + 1) ((y + 1)) (by omega) (by omega) (by simp only [cnt, ← hy]; split <;> simp_all <;> omega) (by omega) _ (lv_sub hl [2, 3, 1, 0] rfl)
        · skip
          refine lv_aload_n hx hb dX5_rowsWith_22 rfl (lv_at hl 0 rfl) ?_
          refine gf_X5_15 hx hb hg hown hK (fl_blk hP 0 rfl) 0 rfl rfl dX5_rowsWith_23 ?_
          refine lv_iload_n hx hb dX5_rowsWith_26 rfl (lv_at hl 3 rfl) ?_
          refine q_iald (j := k) hx hb hK (fl_blk hP 0 rfl) 2 rfl (by omega) dX5_rowsWith_27 ?_
          refine lv_iload_n hx hb dX5_rowsWith_28 rfl (lv_at hl 1 rfl) ?_
          refine q_icmp_ne (tgt := 35) hx hb dX5_rowsWith_29 (by decide) (by omega) (fun c_29 => ?_) (fun c_29 => ?_)
          · skip
            refine q_iinc (k := 3) (lv' := [(3, .int (qI ((((k : Nat) : Int)) + (1)))), (0, .ref (r 0)), (1, .int (qI (x))), (2, .int (qI (((y : Nat) : Int))))]) hx hb dX5_rowsWith_35 hl rfl (by decide) rfl (fun ls hl => ?_)
            refine lv_goto (tgt := 4) hx hb dX5_rowsWith_38 (by decide) ?_
            exact ih_4 (k + 1) (y) (by omega) (by omega) (by simp only [cnt, ← hy]; split <;> simp_all <;> omega) (by omega) _ (lv_sub hl [1, 2, 3, 0] rfl)
          · skip
            refine q_iinc (k := 2) (lv' := [(2, .int (qI ((((y : Nat) : Int)) + (1)))), (0, .ref (r 0)), (1, .int (qI (x))), (3, .int (qI (((k : Nat) : Int))))]) hx hb dX5_rowsWith_32 hl rfl (by decide) rfl (fun ls hl => ?_)
            refine q_iinc (k := 3) (lv' := [(3, .int (qI ((((k : Nat) : Int)) + (1)))), (2, .int (qI ((((y : Nat) : Int)) + (1)))), (0, .ref (r 0)), (1, .int (qI (x)))]) hx hb dX5_rowsWith_35 hl rfl (by decide) rfl (fun ls hl => ?_)
            refine lv_goto (tgt := 4) hx hb dX5_rowsWith_38 (by decide) ?_
            exact ih_4 (k + 1) ((y + 1)) (by omega) (by omega) (by simp only [cnt, ← hy]; split <;> simp_all <;> omega) (by omega) _ (lv_sub hl [2, 3, 1, 0] rfl)
  exact L_4 (n + 1) (0) (0) (by omega) (by omega) rfl (by omega) _ (lv_sub hl [2, 3, 1, 0] rfl)

set_option maxRecDepth 100000 in
set_option maxHeartbeats 4000000 in
theorem c_X5_push (l : Launch) (D : va_G) (cy : Nat → ClassId) (r : Nat → Nat) (G : Nat → Nat → Int) (n : Nat) (v0 v1 v2 v3 v4 : Int) (hn : n < 16) (sz : Nat) : qMet l yX5_push (.code yX5_push cX5_push 6 none) 1 [.ref (r 0), .int (qI (v0)), .int (qI (v1)), .int (qI (v2)), .int (qI (v3)), .int (qI (v4))] D cy [qRu cy r (G) (((n : Nat) : Int))] sz (va_Qv (S := Nat → Nat → Int) (fun G2 => ∀ f i, f < 5 → G2 f i = if i = n then row5 v0 v1 v2 v3 v4 f else G f i) (qB D cy [qRu cy r (G) (((n : Nat) : Int))] sz (fun G2 => [qRu cy r G2 ((n + 1 : Nat) : Int)])) (va_A [qRu cy r (G) (((n : Nat) : Int))].flatten sz)) := by
  refine q_ofMv (S := Nat → Nat → Int) (b1 := fun G2 => [qRu cy r G2 ((n + 1 : Nat) : Int)]) (post := fun G2 => ∀ f i, f < 5 → G2 f i = if i = n then row5 v0 v1 v2 v3 v4 f else G f i) (by decide +kernel) (Nat.le_of_ble_eq_true rfl) ?_
  intro p e s m args below meth c Q A hx hb hml hown hg hQ hK hN hD hA H locs ls hP hS hl
  have hown : s.vm.findClass RX5 = some m.cls := hown
  have hl : lv_has ls 6 [(0, .ref (r 0)), (1, .int (qI (v0))), (2, .int (qI (v1))), (3, .int (qI (v2))), (4, .int (qI (v3))), (5, .int (qI (v4)))] := hl
  refine lv_aload_n hx hb dX5_push_0 rfl (lv_at hl 0 rfl) ?_
  refine gf_X5_27 hx hb hg hown hK (fl_blk hP 0 rfl) 0 rfl rfl dX5_push_1 ?_
  refine q_bipush hx hb dX5_push_4 (by decide) ?_
  refine q_icmp_lt (tgt := 10) hx hb dX5_push_6 (by decide) (by omega) (fun c_6 => ?_) (fun c_6 => ?_)
  · skip
    refine lv_aload_n hx hb dX5_push_10 rfl (lv_at hl 0 rfl) ?_
    refine gf_X5_9 hx hb hg hown hK (fl_blk hP 0 rfl) 0 rfl rfl dX5_push_11 ?_
    refine lv_aload_n hx hb dX5_push_14 rfl (lv_at hl 0 rfl) ?_
    refine gf_X5_27 hx hb hg hown hK (fl_blk hP 0 rfl) 0 rfl rfl dX5_push_15 ?_
    refine lv_iload_n hx hb dX5_push_18 rfl (lv_at hl 1 rfl) ?_
    refine qb_iast (j := n) hx hb hK hP hD hS 0 1 rfl rfl (by omega) dX5_push_19 (fun H locs hP hD hS => ?_)
    have hP : va_P D vwCl [qRu cy r (qu (G) 0 (qu (G 0) n (v0))) (((n : Nat) : Int))].flatten H := hP
    have hD : va_D A [qRu cy r (qu (G) 0 (qu (G 0) n (v0))) (((n : Nat) : Int))].flatten := hD
    refine lv_aload_n hx hb dX5_push_20 rfl (lv_at hl 0 rfl) ?_
    refine gf_X5_15 hx hb hg hown hK (fl_blk hP 0 rfl) 0 rfl rfl dX5_push_21 ?_
    refine lv_aload_n hx hb dX5_push_24 rfl (lv_at hl 0 rfl) ?_
    refine gf_X5_27 hx hb hg hown hK (fl_blk hP 0 rfl) 0 rfl rfl dX5_push_25 ?_
    refine lv_iload_n hx hb dX5_push_28 rfl (lv_at hl 2 rfl) ?_
    refine qb_iast (j := n) hx hb hK hP hD hS 0 2 rfl rfl (by omega) dX5_push_29 (fun H locs hP hD hS => ?_)
    have hP : va_P D vwCl [qRu cy r (qu (qu (G) 0 (qu (G 0) n (v0))) 1 (qu (qu (G) 0 (qu (G 0) n (v0)) 1) n (v1))) (((n : Nat) : Int))].flatten H := hP
    have hD : va_D A [qRu cy r (qu (qu (G) 0 (qu (G 0) n (v0))) 1 (qu (qu (G) 0 (qu (G 0) n (v0)) 1) n (v1))) (((n : Nat) : Int))].flatten := hD
    refine lv_aload_n hx hb dX5_push_30 rfl (lv_at hl 0 rfl) ?_
    refine gf_X5_18 hx hb hg hown hK (fl_blk hP 0 rfl) 0 rfl rfl dX5_push_31 ?_
    refine lv_aload_n hx hb dX5_push_34 rfl (lv_at hl 0 rfl) ?_
    refine gf_X5_27 hx hb hg hown hK (fl_blk hP 0 rfl) 0 rfl rfl dX5_push_35 ?_
    refine lv_iload_n hx hb dX5_push_38 rfl (lv_at hl 3 rfl) ?_
    refine qb_iast (j := n) hx hb hK hP hD hS 0 3 rfl rfl (by omega) dX5_push_39 (fun H locs hP hD hS => ?_)
    have hP : va_P D vwCl [qRu cy r (qu (qu (qu (G) 0 (qu (G 0) n (v0))) 1 (qu (qu (G) 0 (qu (G 0) n (v0)) 1) n (v1))) 2 (qu (qu (qu (G) 0 (qu (G 0) n (v0))) 1 (qu (qu (G) 0 (qu (G 0) n (v0)) 1) n (v1)) 2) n (v2))) (((n : Nat) : Int))].flatten H := hP
    have hD : va_D A [qRu cy r (qu (qu (qu (G) 0 (qu (G 0) n (v0))) 1 (qu (qu (G) 0 (qu (G 0) n (v0)) 1) n (v1))) 2 (qu (qu (qu (G) 0 (qu (G 0) n (v0))) 1 (qu (qu (G) 0 (qu (G 0) n (v0)) 1) n (v1)) 2) n (v2))) (((n : Nat) : Int))].flatten := hD
    refine lv_aload_n hx hb dX5_push_40 rfl (lv_at hl 0 rfl) ?_
    refine gf_X5_21 hx hb hg hown hK (fl_blk hP 0 rfl) 0 rfl rfl dX5_push_41 ?_
    refine lv_aload_n hx hb dX5_push_44 rfl (lv_at hl 0 rfl) ?_
    refine gf_X5_27 hx hb hg hown hK (fl_blk hP 0 rfl) 0 rfl rfl dX5_push_45 ?_
    refine lv_iload hx hb dX5_push_48 (lv_at hl 4 rfl) ?_
    refine qb_iast (j := n) hx hb hK hP hD hS 0 4 rfl rfl (by omega) dX5_push_50 (fun H locs hP hD hS => ?_)
    have hP : va_P D vwCl [qRu cy r (qu (qu (qu (qu (G) 0 (qu (G 0) n (v0))) 1 (qu (qu (G) 0 (qu (G 0) n (v0)) 1) n (v1))) 2 (qu (qu (qu (G) 0 (qu (G 0) n (v0))) 1 (qu (qu (G) 0 (qu (G 0) n (v0)) 1) n (v1)) 2) n (v2))) 3 (qu (qu (qu (qu (G) 0 (qu (G 0) n (v0))) 1 (qu (qu (G) 0 (qu (G 0) n (v0)) 1) n (v1))) 2 (qu (qu (qu (G) 0 (qu (G 0) n (v0))) 1 (qu (qu (G) 0 (qu (G 0) n (v0)) 1) n (v1)) 2) n (v2)) 3) n (v3))) (((n : Nat) : Int))].flatten H := hP
    have hD : va_D A [qRu cy r (qu (qu (qu (qu (G) 0 (qu (G 0) n (v0))) 1 (qu (qu (G) 0 (qu (G 0) n (v0)) 1) n (v1))) 2 (qu (qu (qu (G) 0 (qu (G 0) n (v0))) 1 (qu (qu (G) 0 (qu (G 0) n (v0)) 1) n (v1)) 2) n (v2))) 3 (qu (qu (qu (qu (G) 0 (qu (G 0) n (v0))) 1 (qu (qu (G) 0 (qu (G 0) n (v0)) 1) n (v1))) 2 (qu (qu (qu (G) 0 (qu (G 0) n (v0))) 1 (qu (qu (G) 0 (qu (G 0) n (v0)) 1) n (v1)) 2) n (v2)) 3) n (v3))) (((n : Nat) : Int))].flatten := hD
    refine lv_aload_n hx hb dX5_push_51 rfl (lv_at hl 0 rfl) ?_
    refine gf_X5_24 hx hb hg hown hK (fl_blk hP 0 rfl) 0 rfl rfl dX5_push_52 ?_
    refine lv_aload_n hx hb dX5_push_55 rfl (lv_at hl 0 rfl) ?_
    refine gf_X5_27 hx hb hg hown hK (fl_blk hP 0 rfl) 0 rfl rfl dX5_push_56 ?_
    refine lv_iload hx hb dX5_push_59 (lv_at hl 5 rfl) ?_
    refine qb_iast (j := n) hx hb hK hP hD hS 0 5 rfl rfl (by omega) dX5_push_61 (fun H locs hP hD hS => ?_)
    have hP : va_P D vwCl [qRu cy r (qu (qu (qu (qu (qu (G) 0 (qu (G 0) n (v0))) 1 (qu (qu (G) 0 (qu (G 0) n (v0)) 1) n (v1))) 2 (qu (qu (qu (G) 0 (qu (G 0) n (v0))) 1 (qu (qu (G) 0 (qu (G 0) n (v0)) 1) n (v1)) 2) n (v2))) 3 (qu (qu (qu (qu (G) 0 (qu (G 0) n (v0))) 1 (qu (qu (G) 0 (qu (G 0) n (v0)) 1) n (v1))) 2 (qu (qu (qu (G) 0 (qu (G 0) n (v0))) 1 (qu (qu (G) 0 (qu (G 0) n (v0)) 1) n (v1)) 2) n (v2)) 3) n (v3))) 4 (qu (qu (qu (qu (qu (G) 0 (qu (G 0) n (v0))) 1 (qu (qu (G) 0 (qu (G 0) n (v0)) 1) n (v1))) 2 (qu (qu (qu (G) 0 (qu (G 0) n (v0))) 1 (qu (qu (G) 0 (qu (G 0) n (v0)) 1) n (v1)) 2) n (v2))) 3 (qu (qu (qu (qu (G) 0 (qu (G 0) n (v0))) 1 (qu (qu (G) 0 (qu (G 0) n (v0)) 1) n (v1))) 2 (qu (qu (qu (G) 0 (qu (G 0) n (v0))) 1 (qu (qu (G) 0 (qu (G 0) n (v0)) 1) n (v1)) 2) n (v2)) 3) n (v3)) 4) n (v4))) (((n : Nat) : Int))].flatten H := hP
    have hD : va_D A [qRu cy r (qu (qu (qu (qu (qu (G) 0 (qu (G 0) n (v0))) 1 (qu (qu (G) 0 (qu (G 0) n (v0)) 1) n (v1))) 2 (qu (qu (qu (G) 0 (qu (G 0) n (v0))) 1 (qu (qu (G) 0 (qu (G 0) n (v0)) 1) n (v1)) 2) n (v2))) 3 (qu (qu (qu (qu (G) 0 (qu (G 0) n (v0))) 1 (qu (qu (G) 0 (qu (G 0) n (v0)) 1) n (v1))) 2 (qu (qu (qu (G) 0 (qu (G 0) n (v0))) 1 (qu (qu (G) 0 (qu (G 0) n (v0)) 1) n (v1)) 2) n (v2)) 3) n (v3))) 4 (qu (qu (qu (qu (qu (G) 0 (qu (G 0) n (v0))) 1 (qu (qu (G) 0 (qu (G 0) n (v0)) 1) n (v1))) 2 (qu (qu (qu (G) 0 (qu (G 0) n (v0))) 1 (qu (qu (G) 0 (qu (G 0) n (v0)) 1) n (v1)) 2) n (v2))) 3 (qu (qu (qu (qu (G) 0 (qu (G 0) n (v0))) 1 (qu (qu (G) 0 (qu (G 0) n (v0)) 1) n (v1))) 2 (qu (qu (qu (G) 0 (qu (G 0) n (v0))) 1 (qu (qu (G) 0 (qu (G 0) n (v0)) 1) n (v1)) 2) n (v2)) 3) n (v3)) 4) n (v4))) (((n : Nat) : Int))].flatten := hD
    refine lv_aload_n hx hb dX5_push_62 rfl (lv_at hl 0 rfl) ?_
    refine lv_dup hx hb dX5_push_63 rfl ?_
    refine gf_X5_27 hx hb hg hown hK (fl_blk hP 0 rfl) 0 rfl rfl dX5_push_64 ?_
    refine q_iconst hx hb dX5_push_67 ?_
    refine q_iadd hx hb dX5_push_68 ?_
    refine pf_X5_27 hx hb hg hown hK hP hD hS 0 0 rfl rfl rfl rfl (Nat.le_of_ble_eq_true rfl) dX5_push_69 (fun H locs hP hD hS => ?_)
    have hP : va_P D vwCl [qRu cy r (qu (qu (qu (qu (qu (G) 0 (qu (G 0) n (v0))) 1 (qu (qu (G) 0 (qu (G 0) n (v0)) 1) n (v1))) 2 (qu (qu (qu (G) 0 (qu (G 0) n (v0))) 1 (qu (qu (G) 0 (qu (G 0) n (v0)) 1) n (v1)) 2) n (v2))) 3 (qu (qu (qu (qu (G) 0 (qu (G 0) n (v0))) 1 (qu (qu (G) 0 (qu (G 0) n (v0)) 1) n (v1))) 2 (qu (qu (qu (G) 0 (qu (G 0) n (v0))) 1 (qu (qu (G) 0 (qu (G 0) n (v0)) 1) n (v1)) 2) n (v2)) 3) n (v3))) 4 (qu (qu (qu (qu (qu (G) 0 (qu (G 0) n (v0))) 1 (qu (qu (G) 0 (qu (G 0) n (v0)) 1) n (v1))) 2 (qu (qu (qu (G) 0 (qu (G 0) n (v0))) 1 (qu (qu (G) 0 (qu (G 0) n (v0)) 1) n (v1)) 2) n (v2))) 3 (qu (qu (qu (qu (G) 0 (qu (G 0) n (v0))) 1 (qu (qu (G) 0 (qu (G 0) n (v0)) 1) n (v1))) 2 (qu (qu (qu (G) 0 (qu (G 0) n (v0))) 1 (qu (qu (G) 0 (qu (G 0) n (v0)) 1) n (v1)) 2) n (v2)) 3) n (v3)) 4) n (v4))) ((((n : Nat) : Int)) + (1))].flatten H := hP
    have hD : va_D A [qRu cy r (qu (qu (qu (qu (qu (G) 0 (qu (G 0) n (v0))) 1 (qu (qu (G) 0 (qu (G 0) n (v0)) 1) n (v1))) 2 (qu (qu (qu (G) 0 (qu (G 0) n (v0))) 1 (qu (qu (G) 0 (qu (G 0) n (v0)) 1) n (v1)) 2) n (v2))) 3 (qu (qu (qu (qu (G) 0 (qu (G 0) n (v0))) 1 (qu (qu (G) 0 (qu (G 0) n (v0)) 1) n (v1))) 2 (qu (qu (qu (G) 0 (qu (G 0) n (v0))) 1 (qu (qu (G) 0 (qu (G 0) n (v0)) 1) n (v1)) 2) n (v2)) 3) n (v3))) 4 (qu (qu (qu (qu (qu (G) 0 (qu (G 0) n (v0))) 1 (qu (qu (G) 0 (qu (G 0) n (v0)) 1) n (v1))) 2 (qu (qu (qu (G) 0 (qu (G 0) n (v0))) 1 (qu (qu (G) 0 (qu (G 0) n (v0)) 1) n (v1)) 2) n (v2))) 3 (qu (qu (qu (qu (G) 0 (qu (G 0) n (v0))) 1 (qu (qu (G) 0 (qu (G 0) n (v0)) 1) n (v1))) 2 (qu (qu (qu (G) 0 (qu (G 0) n (v0))) 1 (qu (qu (G) 0 (qu (G 0) n (v0)) 1) n (v1)) 2) n (v2)) 3) n (v3)) 4) n (v4))) ((((n : Nat) : Int)) + (1))].flatten := hD
    exact hQ _ _ _ _ _ (by intro f i hf; rcases (show f = 0 ∨ f = 1 ∨ f = 2 ∨ f = 3 ∨ f = 4 by omega) with rfl | rfl | rfl | rfl | rfl <;> simp [qu, row5]) hP hD hS dX5_push_72
  · skip
    exact absurd c_6 (by omega)

set_option maxRecDepth 100000 in
set_option maxHeartbeats 4000000 in
theorem c_X5_pushRowOf (l : Launch) (D : va_G) (cy : Nat → ClassId) (r : Nat → Nat) (G : Nat → Nat → Int) (n : Nat) (r2 : Nat → Nat) (G2 : Nat → Nat → Int) (n2 : Int) (x : Int) (k : Nat) (hn : n < 16) (hk : x = (k : Int) ∧ k < 16) (sz : Nat) : qMet l yX5_pushRowOf (.code yX5_pushRowOf cX5_pushRowOf 3 none) 2 [.ref (r 0), .ref (r2 0), .int (qI (x))] D cy [qRu cy r (G) (((n : Nat) : Int)), qRu cy r2 (G2) (n2)] sz (va_Qv (S := Nat → Nat → Int) (fun G3 => ∀ f i, f < 5 → G3 f i = if i = n then G2 f k else G f i) (qB D cy [qRu cy r (G) (((n : Nat) : Int)), qRu cy r2 (G2) (n2)] sz (fun G3 => [qRu cy r G3 ((n + 1 : Nat) : Int), qRu cy r2 G2 n2])) (va_A [qRu cy r (G) (((n : Nat) : Int)), qRu cy r2 (G2) (n2)].flatten sz)) := by
  refine q_ofMv (S := Nat → Nat → Int) (b1 := fun G3 => [qRu cy r G3 ((n + 1 : Nat) : Int), qRu cy r2 G2 n2]) (post := fun G3 => ∀ f i, f < 5 → G3 f i = if i = n then G2 f k else G f i) (by decide +kernel) (Nat.le_of_ble_eq_true rfl) ?_
  intro p e s m args below meth c Q A hx hb hml hown hg hQ hK hN hD hA H locs ls hP hS hl
  have hown : s.vm.findClass RX5 = some m.cls := hown
  have hl : lv_has ls 3 [(0, .ref (r 0)), (1, .ref (r2 0)), (2, .int (qI (x)))] := hl
  refine lv_aload_n hx hb dX5_pushRowOf_0 rfl (lv_at hl 0 rfl) ?_
  refine lv_aload_n hx hb dX5_pushRowOf_1 rfl (lv_at hl 1 rfl) ?_
  refine gf_X5_9 hx hb hg hown hK (fl_blk hP 1 rfl) 0 rfl rfl dX5_pushRowOf_2 ?_
  refine lv_iload_n hx hb dX5_pushRowOf_5 rfl (lv_at hl 2 rfl) ?_
  refine q_iald (j := k) hx hb hK (fl_blk hP 1 rfl) 1 rfl (by omega) dX5_pushRowOf_6 ?_
  refine lv_aload_n hx hb dX5_pushRowOf_7 rfl (lv_at hl 1 rfl) ?_
  refine gf_X5_15 hx hb hg hown hK (fl_blk hP 1 rfl) 0 rfl rfl dX5_pushRowOf_8 ?_
  refine lv_iload_n hx hb dX5_pushRowOf_11 rfl (lv_at hl 2 rfl) ?_
  refine q_iald (j := k) hx hb hK (fl_blk hP 1 rfl) 2 rfl (by omega) dX5_pushRowOf_12 ?_
  refine lv_aload_n hx hb dX5_pushRowOf_13 rfl (lv_at hl 1 rfl) ?_
  refine gf_X5_18 hx hb hg hown hK (fl_blk hP 1 rfl) 0 rfl rfl dX5_pushRowOf_14 ?_
  refine lv_iload_n hx hb dX5_pushRowOf_17 rfl (lv_at hl 2 rfl) ?_
  refine q_iald (j := k) hx hb hK (fl_blk hP 1 rfl) 3 rfl (by omega) dX5_pushRowOf_18 ?_
  refine lv_aload_n hx hb dX5_pushRowOf_19 rfl (lv_at hl 1 rfl) ?_
  refine gf_X5_21 hx hb hg hown hK (fl_blk hP 1 rfl) 0 rfl rfl dX5_pushRowOf_20 ?_
  refine lv_iload_n hx hb dX5_pushRowOf_23 rfl (lv_at hl 2 rfl) ?_
  refine q_iald (j := k) hx hb hK (fl_blk hP 1 rfl) 4 rfl (by omega) dX5_pushRowOf_24 ?_
  refine lv_aload_n hx hb dX5_pushRowOf_25 rfl (lv_at hl 1 rfl) ?_
  refine gf_X5_24 hx hb hg hown hK (fl_blk hP 1 rfl) 0 rfl rfl dX5_pushRowOf_26 ?_
  refine lv_iload_n hx hb dX5_pushRowOf_29 rfl (lv_at hl 2 rfl) ?_
  refine q_iald (j := k) hx hb hK (fl_blk hP 1 rfl) 5 rfl (by omega) dX5_pushRowOf_30 ?_
  refine q_backv [0] [1] (br := [qRu cy r2 (G2) (n2)]) hP hD hS hA (va_runV (As := [.int (qI ((G2 0) k)), .int (qI ((G2 1) k)), .int (qI ((G2 2) k)), .int (qI ((G2 3) k)), .int (qI ((G2 4) k))]) (rest := []) ⟨hx, hb, hml, hown, hg⟩ (c_X5_push l D cy (r) (G) n _ _ _ _ _ (by omega) _) (cv_X5_31 hg rfl rfl ⟨by decide, by decide⟩) ⟨q_blind, va_recv hK (fl_blk hP 0 rfl) (ci := 5) (q0 := 0) rfl rfl, q_preM _ hK hN hP hD [0] (by decide) rfl⟩ rfl rfl hl.1 rfl (lv_room (Nat.le_of_ble_eq_true rfl)) dX5_pushRowOf_31 ⟨by decide, by decide⟩) rfl rfl (by decide) (fun u_31 H locs h_31 hP hD hS => ?_)
  have hP : va_P D vwCl [qRu cy r2 (G2) (n2), qRu cy r (u_31) (((n + 1 : Nat) : Int))].flatten H := hP
  have hD : va_D A [qRu cy r2 (G2) (n2), qRu cy r (u_31) (((n + 1 : Nat) : Int))].flatten := hD
  have hP := fl_sub (bs' := [qRu cy r (u_31) (((n + 1 : Nat) : Int)), qRu cy r2 (G2) (n2)]) hP [1, 0] rfl
  have hD := fl_subD (bs' := [qRu cy r (u_31) (((n + 1 : Nat) : Int)), qRu cy r2 (G2) (n2)]) hD [1, 0] (by decide) rfl
  exact hQ _ _ _ _ _ (by intro f i hf; rw [h_31 f i hf]; rcases (show f = 0 ∨ f = 1 ∨ f = 2 ∨ f = 3 ∨ f = 4 by omega) with rfl | rfl | rfl | rfl | rfl <;> rfl) hP hD hS dX5_pushRowOf_34

set_option maxRecDepth 100000 in
set_option maxHeartbeats 4000000 in
theorem c_X5_pushRowOf_self (l : Launch) (D : va_G) (cy : Nat → ClassId) (r : Nat → Nat) (G : Nat → Nat → Int) (n : Nat) (x : Int) (k : Nat) (hn : n < 16) (hk : x = (k : Int) ∧ k < 16) (sz : Nat) : qMet l yX5_pushRowOf (.code yX5_pushRowOf cX5_pushRowOf 3 none) 2 [.ref (r 0), .ref (r 0), .int (qI (x))] D cy [qRu cy r (G) (((n : Nat) : Int))] sz (va_Qv (S := Nat → Nat → Int) (fun G3 => ∀ f i, f < 5 → G3 f i = if i = n then G f k else G f i) (qB D cy [qRu cy r (G) (((n : Nat) : Int))] sz (fun G3 => [qRu cy r G3 ((n + 1 : Nat) : Int)])) (va_A [qRu cy r (G) (((n : Nat) : Int))].flatten sz)) := by
  refine q_ofMv (S := Nat → Nat → Int) (b1 := fun G3 => [qRu cy r G3 ((n + 1 : Nat) : Int)]) (post := fun G3 => ∀ f i, f < 5 → G3 f i = if i = n then G f k else G f i) (by decide +kernel) (Nat.le_of_ble_eq_true rfl) ?_
  intro p e s m args below meth c Q A hx hb hml hown hg hQ hK hN hD hA H locs ls hP hS hl
  have hown : s.vm.findClass RX5 = some m.cls := hown
  have hl : lv_has ls 3 [(0, .ref (r 0)), (1, .ref (r 0)), (2, .int (qI (x)))] := hl
  refine lv_aload_n hx hb dX5_pushRowOf_0 rfl (lv_at hl 0 rfl) ?_
  refine lv_aload_n hx hb dX5_pushRowOf_1 rfl (lv_at hl 1 rfl) ?_
  refine gf_X5_9 hx hb hg hown hK (fl_blk hP 0 rfl) 0 rfl rfl dX5_pushRowOf_2 ?_
  refine lv_iload_n hx hb dX5_pushRowOf_5 rfl (lv_at hl 2 rfl) ?_
  refine q_iald (j := k) hx hb hK (fl_blk hP 0 rfl) 1 rfl (by omega) dX5_pushRowOf_6 ?_
  refine lv_aload_n hx hb dX5_pushRowOf_7 rfl (lv_at hl 1 rfl) ?_
  refine gf_X5_15 hx hb hg hown hK (fl_blk hP 0 rfl) 0 rfl rfl dX5_pushRowOf_8 ?_
  refine lv_iload_n hx hb dX5_pushRowOf_11 rfl (lv_at hl 2 rfl) ?_
  refine q_iald (j := k) hx hb hK (fl_blk hP 0 rfl) 2 rfl (by omega) dX5_pushRowOf_12 ?_
  refine lv_aload_n hx hb dX5_pushRowOf_13 rfl (lv_at hl 1 rfl) ?_
  refine gf_X5_18 hx hb hg hown hK (fl_blk hP 0 rfl) 0 rfl rfl dX5_pushRowOf_14 ?_
  refine lv_iload_n hx hb dX5_pushRowOf_17 rfl (lv_at hl 2 rfl) ?_
  refine q_iald (j := k) hx hb hK (fl_blk hP 0 rfl) 3 rfl (by omega) dX5_pushRowOf_18 ?_
  refine lv_aload_n hx hb dX5_pushRowOf_19 rfl (lv_at hl 1 rfl) ?_
  refine gf_X5_21 hx hb hg hown hK (fl_blk hP 0 rfl) 0 rfl rfl dX5_pushRowOf_20 ?_
  refine lv_iload_n hx hb dX5_pushRowOf_23 rfl (lv_at hl 2 rfl) ?_
  refine q_iald (j := k) hx hb hK (fl_blk hP 0 rfl) 4 rfl (by omega) dX5_pushRowOf_24 ?_
  refine lv_aload_n hx hb dX5_pushRowOf_25 rfl (lv_at hl 1 rfl) ?_
  refine gf_X5_24 hx hb hg hown hK (fl_blk hP 0 rfl) 0 rfl rfl dX5_pushRowOf_26 ?_
  refine lv_iload_n hx hb dX5_pushRowOf_29 rfl (lv_at hl 2 rfl) ?_
  refine q_iald (j := k) hx hb hK (fl_blk hP 0 rfl) 5 rfl (by omega) dX5_pushRowOf_30 ?_
  refine q_backv [0] [] (br := []) hP hD hS hA (va_runV (As := [.int (qI ((G 0) k)), .int (qI ((G 1) k)), .int (qI ((G 2) k)), .int (qI ((G 3) k)), .int (qI ((G 4) k))]) (rest := []) ⟨hx, hb, hml, hown, hg⟩ (c_X5_push l D cy (r) (G) n _ _ _ _ _ (by omega) _) (cv_X5_31 hg rfl rfl ⟨by decide, by decide⟩) ⟨q_blind, va_recv hK (fl_blk hP 0 rfl) (ci := 5) (q0 := 0) rfl rfl, q_preM _ hK hN hP hD [0] (by decide) rfl⟩ rfl rfl hl.1 rfl (lv_room (Nat.le_of_ble_eq_true rfl)) dX5_pushRowOf_31 ⟨by decide, by decide⟩) rfl rfl (by decide) (fun u_31 H locs h_31 hP hD hS => ?_)
  have hP : va_P D vwCl [qRu cy r (u_31) (((n + 1 : Nat) : Int))].flatten H := hP
  have hD : va_D A [qRu cy r (u_31) (((n + 1 : Nat) : Int))].flatten := hD
  exact hQ _ _ _ _ _ (by intro f i hf; rw [h_31 f i hf]; rcases (show f = 0 ∨ f = 1 ∨ f = 2 ∨ f = 3 ∨ f = 4 by omega) with rfl | rfl | rfl | rfl | rfl <;> rfl) hP hD hS dX5_pushRowOf_34

set_option maxRecDepth 100000 in
set_option maxHeartbeats 4000000 in
theorem c_X5_drop (l : Launch) (D : va_G) (cy : Nat → ClassId) (r : Nat → Nat) (G : Nat → Nat → Int) (n : Nat) (x : Int) (k : Nat) (hk : x = (k : Int) ∧ k < n) (hn : n ≤ 16) (sz : Nat) : qMet l yX5_drop (.code yX5_drop cX5_drop 4 none) 3 [.ref (r 0), .int (qI (x))] D cy [qRu cy r (G) (((n : Nat) : Int))] sz (va_Qv (S := Nat → Nat → Int) (fun G3 => ∀ f i, f < 5 → i < n - 1 → G3 f i = if i < k then G f i else G f (i + 1)) (qB D cy [qRu cy r (G) (((n : Nat) : Int))] sz (fun G3 => [qRu cy r G3 ((n - 1 : Nat) : Int)])) (va_A [qRu cy r (G) (((n : Nat) : Int))].flatten sz)) := by
  refine q_ofMv (S := Nat → Nat → Int) (b1 := fun G3 => [qRu cy r G3 ((n - 1 : Nat) : Int)]) (post := fun G3 => ∀ f i, f < 5 → i < n - 1 → G3 f i = if i < k then G f i else G f (i + 1)) (by decide +kernel) (Nat.le_of_ble_eq_true rfl) ?_
  intro p e s m args below meth c Q A hx hb hml hown hg hQ hK hN hD hA H locs ls hP hS hl
  have hown : s.vm.findClass RX5 = some m.cls := hown
  have hl : lv_has ls 4 [(0, .ref (r 0)), (1, .int (qI (x)))] := hl
  have hk1 := hk.1
  have hk2 := hk.2
  refine lv_aload_n hx hb dX5_drop_0 rfl (lv_at hl 0 rfl) ?_
  refine gf_X5_27 hx hb hg hown hK (fl_blk hP 0 rfl) 0 rfl rfl dX5_drop_1 ?_
  refine lv_istore_n (lv' := [(2, .int (qI (((n : Nat) : Int)))), (0, .ref (r 0)), (1, .int (qI (x)))]) hx hb dX5_drop_4 rfl hl (by decide) rfl (fun ls hl => ?_)
  refine lv_aload_n hx hb dX5_drop_5 rfl (lv_at hl 1 rfl) ?_
  refine lv_iload_n hx hb dX5_drop_6 rfl (lv_at hl 2 rfl) ?_
  refine pf_X5_27 hx hb hg hown hK hP hD hS 0 0 rfl rfl rfl rfl (Nat.le_of_ble_eq_true rfl) dX5_drop_7 (fun H locs hP hD hS => ?_)
  have hP : va_P D vwCl [qRu cy r (G) (x)].flatten H := hP
  have hD : va_D A [qRu cy r (G) (x)].flatten := hD
  refine lv_iload_n hx hb dX5_drop_10 rfl (lv_at hl 2 rfl) ?_
  refine q_iconst hx hb dX5_drop_11 ?_
  refine q_iadd hx hb dX5_drop_12 ?_
  refine lv_istore_n (lv' := [(3, .int (qI ((x) + (1)))), (2, .int (qI (((n : Nat) : Int)))), (0, .ref (r 0)), (1, .int (qI (x)))]) hx hb dX5_drop_13 rfl hl (by decide) rfl (fun ls hl => ?_)
  have L_14 : ∀ (n_14 u : Nat) (G1 : Nat → Nat → Int) (y : Int) (z : Int), u ≤ (n - 1 - k) → (n - 1 - k) + 1 ≤ u + n_14 → (∀ f i, f < 5 → G1 f i = if i < k then G f i else if i < k + u then G f (i + 1) else G f i) → (y = ((k + 1 + u : Nat) : Int)) → (z = ((k + u : Nat) : Int)) → ∀ (H : Heap) (locs : List Loc) (ls : Array Slot), va_P D vwCl [qRu cy r (G1) (z)].flatten H → va_D A [qRu cy r (G1) (z)].flatten → va_S A s.heap H locs → lv_has ls 4 [(0, .ref (r 0)), (2, .int (qI (((n : Nat) : Int)))), (3, .int (qI (y)))] → W p l e (qrm 3) s m args below meth c H locs 0 0 Q (F0 m 14 ls []) := by
    intro n_14
    induction n_14 with
    | zero => intro u _ _ _ h1 h2; exact absurd h2 (by omega)
    | succ n_14 ih_14 =>
      intro u G1 y z hk_14 hn_14 hG hy hz H locs ls hP hD hS hl
      have hk1 := hk.1
      have hk2 := hk.2
      subst hz
      refine lv_iload_n hx hb dX5_drop_14 rfl (lv_at hl 2 rfl) ?_
      refine lv_iload_n hx hb dX5_drop_15 rfl (lv_at hl 1 rfl) ?_
      refine q_icmp_ge (tgt := 31) hx hb dX5_drop_16 (by decide) (by omega) (fun c_16 => ?_) (fun c_16 => ?_)
      · skip
        have e9 : k + u = n - 1 := by omega
        rw [e9] at hP hD
        exact hQ _ _ _ _ _ (by intro f i hf hi; rw [hG f i hf]; (repeat' split) <;> first | rfl | (exfalso; omega)) hP hD hS dX5_drop_31
      · skip
        refine lv_aload_n hx hb dX5_drop_19 rfl (lv_at hl 0 rfl) ?_
        refine lv_aload_n hx hb dX5_drop_20 rfl (lv_at hl 0 rfl) ?_
        refine lv_iload_n hx hb dX5_drop_21 rfl (lv_at hl 2 rfl) ?_
        refine q_backv [0] [] (br := []) hP hD hS hA (va_runV (As := [.ref (r 0), .int (qI (y))]) (rest := []) ⟨hx, hb, hml, hown, hg⟩ (c_X5_pushRowOf_self l D cy (r) (G1) (k + u) _ (k + 1 + u) (by omega) (by omega) _) (cv_X5_35 hg rfl rfl ⟨by decide, by decide⟩) ⟨q_blind, va_recv hK (fl_blk hP 0 rfl) (ci := 5) (q0 := 0) rfl rfl, q_preM _ hK hN hP hD [0] (by decide) rfl⟩ rfl rfl hl.1 rfl (lv_room (Nat.le_of_ble_eq_true rfl)) dX5_drop_22 ⟨by decide, by decide⟩) rfl rfl (by decide) (fun u_22 H locs h_22 hP hD hS => ?_)
        have hP : va_P D vwCl [qRu cy r (u_22) ((((k + u) + 1 : Nat) : Int))].flatten H := hP
        have hD : va_D A [qRu cy r (u_22) ((((k + u) + 1 : Nat) : Int))].flatten := hD
        refine q_iinc (k := 2) (lv' := [(3, .int (qI ((y) + (1)))), (0, .ref (r 0)), (2, .int (qI (((n : Nat) : Int))))]) hx hb dX5_drop_25 hl rfl (by decide) rfl (fun ls hl => ?_)
        refine lv_goto (tgt := 14) hx hb dX5_drop_28 (by decide) ?_
        exact ih_14 (u + 1) _ _ _ (by omega) (by omega) (by intro f i hf; rw [h_22 f i hf, hG f _ hf, hG f i hf]; (repeat' split) <;> first | rfl | (exfalso; omega) | (congr 1; omega)) (by omega) (by omega) _ _ _ hP hD hS (lv_sub hl [1, 2, 0] rfl)
  exact L_14 ((n - 1 - k) + 1) (0) (G) _ _ (by omega) (by omega) (by intro f i hf; (repeat' split) <;> first | rfl | (exfalso; omega)) (by omega) (by omega) _ _ _ hP hD hS (lv_sub hl [2, 1, 0] rfl)

set_option maxRecDepth 100000 in
set_option maxHeartbeats 4000000 in
theorem c_X5_copyFrom (l : Launch) (D : va_G) (cy : Nat → ClassId) (r : Nat → Nat) (G : Nat → Nat → Int) (n : Int) (r2 : Nat → Nat) (G2 : Nat → Nat → Int) (n2 : Nat) (hn : n2 ≤ 16) (sz : Nat) : qMet l yX5_copyFrom (.code yX5_copyFrom cX5_copyFrom 3 none) 3 [.ref (r 0), .ref (r2 0)] D cy [qRu cy r (G) (n), qRu cy r2 (G2) (((n2 : Nat) : Int))] sz (va_Qv (S := Nat → Nat → Int) (fun G3 => ∀ f i, f < 5 → i < n2 → G3 f i = G2 f i) (qB D cy [qRu cy r (G) (n), qRu cy r2 (G2) (((n2 : Nat) : Int))] sz (fun G3 => [qRu cy r G3 (n2 : Int), qRu cy r2 G2 (n2 : Int)])) (va_A [qRu cy r (G) (n), qRu cy r2 (G2) (((n2 : Nat) : Int))].flatten sz)) := by
  refine q_ofMv (S := Nat → Nat → Int) (b1 := fun G3 => [qRu cy r G3 (n2 : Int), qRu cy r2 G2 (n2 : Int)]) (post := fun G3 => ∀ f i, f < 5 → i < n2 → G3 f i = G2 f i) (by decide +kernel) (Nat.le_of_ble_eq_true rfl) ?_
  intro p e s m args below meth c Q A hx hb hml hown hg hQ hK hN hD hA H locs ls hP hS hl
  have hown : s.vm.findClass RX5 = some m.cls := hown
  have hl : lv_has ls 3 [(0, .ref (r 0)), (1, .ref (r2 0))] := hl
  refine lv_aload_n hx hb dX5_copyFrom_0 rfl (lv_at hl 0 rfl) ?_
  refine q_iconst hx hb dX5_copyFrom_1 ?_
  refine pf_X5_27 hx hb hg hown hK hP hD hS 0 0 rfl rfl rfl rfl (Nat.le_of_ble_eq_true rfl) dX5_copyFrom_2 (fun H locs hP hD hS => ?_)
  have hP : va_P D vwCl [qRu cy r (G) (0), qRu cy r2 (G2) (((n2 : Nat) : Int))].flatten H := hP
  have hD : va_D A [qRu cy r (G) (0), qRu cy r2 (G2) (((n2 : Nat) : Int))].flatten := hD
  refine q_iconst hx hb dX5_copyFrom_5 ?_
  refine lv_istore_n (lv' := [(2, .int (qI (0))), (0, .ref (r 0)), (1, .ref (r2 0))]) hx hb dX5_copyFrom_6 rfl hl (by decide) rfl (fun ls hl => ?_)
  have L_7 : ∀ (n_7 k : Nat) (G1 : Nat → Nat → Int) (z : Int), k ≤ n2 → n2 + 1 ≤ k + n_7 → (∀ f i, f < 5 → i < k → G1 f i = G2 f i) → (z = (k : Int)) → ∀ (H : Heap) (locs : List Loc) (ls : Array Slot), va_P D vwCl [qRu cy r (G1) (z), qRu cy r2 (G2) (((n2 : Nat) : Int))].flatten H → va_D A [qRu cy r (G1) (z), qRu cy r2 (G2) (((n2 : Nat) : Int))].flatten → va_S A s.heap H locs → lv_has ls 3 [(0, .ref (r 0)), (1, .ref (r2 0)), (2, .int (qI (((k : Nat) : Int))))] → W p l e (qrm 3) s m args below meth c H locs 0 0 Q (F0 m 7 ls []) := by
    intro n_7
    induction n_7 with
    | zero => intro k _ _ h1 h2; exact absurd h2 (by omega)
    | succ n_7 ih_7 =>
      intro k G1 z hk_7 hn_7 hG hz H locs ls hP hD hS hl
      subst hz
      refine lv_iload_n hx hb dX5_copyFrom_7 rfl (lv_at hl 2 rfl) ?_
      refine lv_aload_n hx hb dX5_copyFrom_8 rfl (lv_at hl 1 rfl) ?_
      refine gf_X5_27 hx hb hg hown hK (fl_blk hP 1 rfl) 0 rfl rfl dX5_copyFrom_9 ?_
      refine q_icmp_ge (tgt := 27) hx hb dX5_copyFrom_12 (by decide) (by omega) (fun c_12 => ?_) (fun c_12 => ?_)
      · skip
        have e9 : k = n2 := by omega
        subst e9
        exact hQ _ _ _ _ _ hG hP hD hS dX5_copyFrom_27
      · skip
        refine lv_aload_n hx hb dX5_copyFrom_15 rfl (lv_at hl 0 rfl) ?_
        refine lv_aload_n hx hb dX5_copyFrom_16 rfl (lv_at hl 1 rfl) ?_
        refine lv_iload_n hx hb dX5_copyFrom_17 rfl (lv_at hl 2 rfl) ?_
        refine q_backv [0, 1] [] (br := []) hP hD hS hA (va_runV (As := [.ref (r2 0), .int (qI (((k : Nat) : Int)))]) (rest := []) ⟨hx, hb, hml, hown, hg⟩ (c_X5_pushRowOf l D cy (r) (G1) k (r2) (G2) (((n2 : Nat) : Int)) _ k (by omega) (by omega) _) (cv_X5_35 hg rfl rfl ⟨by decide, by decide⟩) ⟨q_blind, va_recv hK (fl_blk hP 0 rfl) (ci := 5) (q0 := 0) rfl rfl, q_preM _ hK hN hP hD [0, 1] (by decide) rfl⟩ rfl rfl hl.1 rfl (lv_room (Nat.le_of_ble_eq_true rfl)) dX5_copyFrom_18 ⟨by decide, by decide⟩) rfl rfl (by decide) (fun u_18 H locs h_18 hP hD hS => ?_)
        have hP : va_P D vwCl [qRu cy r (u_18) (((k + 1 : Nat) : Int)), qRu cy r2 (G2) (((n2 : Nat) : Int))].flatten H := hP
        have hD : va_D A [qRu cy r (u_18) (((k + 1 : Nat) : Int)), qRu cy r2 (G2) (((n2 : Nat) : Int))].flatten := hD
        refine q_iinc (k := 2) (lv' := [(2, .int (qI ((((k : Nat) : Int)) + (1)))), (0, .ref (r 0)), (1, .ref (r2 0))]) hx hb dX5_copyFrom_21 hl rfl (by decide) rfl (fun ls hl => ?_)
        refine lv_goto (tgt := 7) hx hb dX5_copyFrom_24 (by decide) ?_
        exact ih_7 (k + 1) _ _ (by omega) (by omega) (by intro f i hf hi; rw [h_18 f i hf]; by_cases e9 : i = k; (rw [if_pos e9, e9]); (rw [if_neg e9]; exact hG f i hf (by omega))) (by omega) _ _ _ hP hD hS (lv_sub hl [1, 2, 0] rfl)
  exact L_7 (n2 + 1) (0) (G) _ (by omega) (by omega) (by intro f i hf hi; omega) (by omega) _ _ _ hP hD hS (lv_sub hl [1, 2, 0] rfl)
