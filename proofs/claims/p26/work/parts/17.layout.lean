/-! ===== layouts ===== -/
def edOf (E : Nat → Nat → Int) (x : Int) : Nat → Int
  | 0 => -1
  | n + 1 => if edOf E x n ≠ -1 then edOf E x n else if E 0 n = x then (n : Int) else -1
theorem edOf_rng (E : Nat → Nat → Int) (x : Int) : ∀ n : Nat, -1 ≤ edOf E x n ∧ edOf E x n < n
  | 0 => by simp [edOf]
  | n + 1 => by
    have h := edOf_rng E x n
    simp only [edOf]
    (repeat' split) <;> omega
theorem edOf_at {E : Nat → Nat → Int} {x : Int} {k : Nat} (h : edOf E x k = -1) (h2 : E 0 k = x) : ∀ n : Nat, k < n → edOf E x n = (k : Int)
  | 0, hk => by omega
  | n + 1, hk => by
    by_cases e : k = n
    · subst e
      simp [edOf, h, h2]
    · have ih := edOf_at h h2 n (by omega)
      simp only [edOf, ih]
      rw [if_pos (by omega)]
theorem edOf_step {E : Nat → Nat → Int} {x : Int} {k : Nat} (h : edOf E x k = -1) (h2 : E 0 k ≠ x) : edOf E x (k + 1) = -1 := by simp [edOf, h, h2]
theorem edOf_is {E : Nat → Nat → Int} {x : Int} : ∀ {n : Nat}, edOf E x n ≠ -1 → E 0 (edOf E x n).toNat = x
  | 0, h => absurd rfl h
  | n + 1, h => by
    simp only [edOf] at h ⊢
    split
    · rename_i g
      exact edOf_is g
    · rename_i g
      rw [if_neg g] at h
      split
      · rename_i g2
        simpa using g2
      · rename_i g2
        rw [if_neg g2] at h
        exact absurd rfl h
/-- the edits behind a wish -/
def wfN (E : Nat → Nat → Int) (ne : Nat) (x : Int) : Nat := if edOf E x ne = -1 then ne + 1 else ne
def wfE (E : Nat → Nat → Int) (ne : Nat) (x w s : Int) : Nat → Nat → Int := fun f i => if edOf E x ne = -1 then (if i = ne then row5 x (-1) 1 w s f else E f i) else if i = (edOf E x ne).toNat then (if f = 3 then w else if f = 4 then s else E f i) else E f i
/-- the difference that a condition speaks of -/
def hoD (v : Nat → Int) (C : Nat → Nat → Int) (k : Nat) : Int := v (C 0 k).toNat - (if C 1 k = -1 then 0 else v (C 1 k).toNat)
/-- values, stays, conditions and how many, edits and how many -/
abbrev LSt : Type := (Nat → Int) × (Nat → Int) × (Nat → Nat → Int) × Nat × (Nat → Nat → Int) × Nat
abbrev lV (S : LSt) : Nat → Int := S.1
abbrev lT (S : LSt) : Nat → Int := S.2.1
abbrev lC (S : LSt) : Nat → Nat → Int := S.2.2.1
abbrev lN9 (S : LSt) : Nat := S.2.2.2.1
abbrev lE (S : LSt) : Nat → Nat → Int := S.2.2.2.2.1
abbrev lM (S : LSt) : Nat := S.2.2.2.2.2
def LEq (S T : LSt) : Prop := (∀ i, i < 10 → lV S i = lV T i) ∧ (∀ i, i < 10 → lT S i = lT T i) ∧ lN9 S = lN9 T ∧ (∀ f i, f < 5 → i < lN9 T → lC S f i = lC T f i) ∧ lM S = lM T ∧ ∀ f i, f < 5 → i < lM T → lE S f i = lE T f i
theorem LEq.rf (S : LSt) : LEq S S := ⟨fun _ _ => rfl, fun _ _ => rfl, rfl, fun _ _ _ _ => rfl, rfl, fun _ _ _ _ => rfl⟩
theorem LEq.tr {S T U : LSt} (h : LEq S T) (g : LEq T U) : LEq S U := ⟨fun i hi => (h.1 i hi).trans (g.1 i hi), fun i hi => (h.2.1 i hi).trans (g.2.1 i hi), h.2.2.1.trans g.2.2.1, fun f i hf hi => (h.2.2.2.1 f i hf (by rw [g.2.2.1]; exact hi)).trans (g.2.2.2.1 f i hf hi), h.2.2.2.2.1.trans g.2.2.2.2.1, fun f i hf hi => (h.2.2.2.2.2 f i hf (by rw [g.2.2.2.2.1]; exact hi)).trans (g.2.2.2.2.2 f i hf hi)⟩
theorem LEq.sy {S T : LSt} (h : LEq S T) : LEq T S := ⟨fun i hi => (h.1 i hi).symm, fun i hi => (h.2.1 i hi).symm, h.2.2.1.symm, fun f i hf hi => (h.2.2.2.1 f i hf (by rw [← h.2.2.1]; exact hi)).symm, h.2.2.2.2.1.symm, fun f i hf hi => (h.2.2.2.2.2 f i hf (by rw [← h.2.2.2.2.1]; exact hi)).symm⟩

theorem cpI {v v2 : Nat → Int} {k : Nat} (h : ∀ i, i < k → v i = v2 i) : ∀ i, i < k + 1 → qu v k (v2 k) i = v2 i := by
  intro i hi
  by_cases e : i = k
  · subst e
    rw [qu_s]
  · rw [qu_n _ _ e]
    exact h i (by omega)

set_option maxRecDepth 100000 in
set_option maxHeartbeats 4000000 in
theorem c_X4_filledOne (l : Launch) (D : va_G) (cy : Nat → ClassId) (o : Nat → Nat) (F : Nat) (hF : F < 65536) (x : Int) (k : Nat) (hk : x = (k : Int) ∧ k < 16) : qRd l yX4_filledOne (.code yX4_filledOne cX4_filledOne 2 (some .int)) 1 [.ref (o 0), .int (qI (x))] D cy [[(o 0, .inr (4, [.int (qI (((F : Nat) : Int))), .ref (o 1), .ref (o 2)]))]] (vp_Si (fun v => v = qI (((F.testBit k).toNat : Nat) : Int))) := by
  refine q_ofRi (by decide +kernel) (Nat.le_of_ble_eq_true rfl) ?_
  intro p e s m args below meth c Q hx hb hml hown hg hQ hK hN hP ls hl
  have hown : s.vm.findClass RX4 = some m.cls := hown
  have hl : lv_has ls 2 [(0, .ref (o 0)), (1, .int (qI (x)))] := hl
  refine lv_aload_n hx hb dX4_filledOne_0 rfl (lv_at hl 0 rfl) ?_
  refine gf_X4_18 hx hb hg hown hK (fl_blk hP 0 rfl) 0 rfl rfl dX4_filledOne_1 ?_
  refine lv_iload_n hx hb dX4_filledOne_4 rfl (lv_at hl 1 rfl) ?_
  refine q_ishr (F := F) (k := k) hx hb (by omega) dX4_filledOne_5 ?_
  refine q_iconst hx hb dX4_filledOne_6 ?_
  refine q_iand (F := (F) / 2 ^ (k)) (k := 1) hx hb (by omega) dX4_filledOne_7 ?_
  exact hQ _ _ _ (congrArg (fun n : Nat => qI (n : Int)) (by rw [Nat.and_one_is_mod, Nat.toNat_testBit])) dX4_filledOne_8

set_option maxRecDepth 100000 in
set_option maxHeartbeats 4000000 in
theorem c_X3_editOf (l : Launch) (D : va_G) (cy : Nat → ClassId) (la lv9 ls9 : Nat) (rc re : Nat → Nat) (E : Nat → Nat → Int) (ne : Nat) (x : Int) (hx9 : -1000000 ≤ x ∧ x ≤ 1000000) (he : ne ≤ 16) (hE : qWR E ne) : qRd l yX3_editOf (.code yX3_editOf cX3_editOf 3 (some .int)) 1 [.ref (la), .int (qI (x))] D cy [[(la, .inr (3, [.ref (lv9), .ref (ls9), .ref (rc 0), .ref (re 0)]))], qRu cy re (E) (((ne : Nat) : Int))] (vp_Si (fun v => v = qI (edOf E x ne))) := by
  refine q_ofRi (by decide +kernel) (Nat.le_of_ble_eq_true rfl) ?_
  intro p e s m args below meth c Q hx hb hml hown hg hQ hK hN hP ls hl
  have hown : s.vm.findClass RX3 = some m.cls := hown
  have hl : lv_has ls 3 [(0, .ref (la)), (1, .int (qI (x)))] := hl
  refine q_iconst hx hb dX3_editOf_0 ?_
  refine lv_istore_n (lv' := [(2, .int (qI (0))), (0, .ref (la)), (1, .int (qI (x)))]) hx hb dX3_editOf_1 rfl hl (by decide) rfl (fun ls hl => ?_)
  have L_2 : ∀ (n_2 k : Nat), k ≤ ne → ne + 1 ≤ k + n_2 → (edOf E x k = -1) → ∀ (ls : Array Slot), lv_has ls 3 [(0, .ref (la)), (1, .int (qI (x))), (2, .int (qI (((k : Nat) : Int))))] → W p l e (qrm 1) s m args below meth c s.heap [] 0 0 Q (F0 m 2 ls []) := by
    intro n_2
    induction n_2 with
    | zero => intro k h1 h2; exact absurd h2 (by omega)
    | succ n_2 ih_2 =>
      intro k hk_2 hn_2 hI ls hl
      refine lv_iload_n hx hb dX3_editOf_2 rfl (lv_at hl 2 rfl) ?_
      refine lv_aload_n hx hb dX3_editOf_3 rfl (lv_at hl 0 rfl) ?_
      refine gf_X3_25 hx hb hg hown hK (fl_blk hP 0 rfl) 0 rfl rfl dX3_editOf_4 ?_
      refine gf_X3_32 hx hb hg hown hK (fl_blk hP 1 rfl) 0 rfl rfl dX3_editOf_7 ?_
      refine q_icmp_ge (tgt := 34) hx hb dX3_editOf_10 (by decide) (by omega) (fun c_10 => ?_) (fun c_10 => ?_)
      · skip
        refine q_iconst hx hb dX3_editOf_34 ?_
        exact hQ _ _ _ (congrArg qI (by rw [← show k = ne by omega]; exact hI.symm)) dX3_editOf_35
      · skip
        have hw := hE k (by omega)
        refine lv_aload_n hx hb dX3_editOf_13 rfl (lv_at hl 0 rfl) ?_
        refine gf_X3_25 hx hb hg hown hK (fl_blk hP 0 rfl) 0 rfl rfl dX3_editOf_14 ?_
        refine gf_X3_36 hx hb hg hown hK (fl_blk hP 1 rfl) 0 rfl rfl dX3_editOf_17 ?_
        refine lv_iload_n hx hb dX3_editOf_20 rfl (lv_at hl 2 rfl) ?_
        refine q_iald (j := k) hx hb hK (fl_blk hP 1 rfl) 1 rfl (by omega) dX3_editOf_21 ?_
        refine lv_iload_n hx hb dX3_editOf_22 rfl (lv_at hl 1 rfl) ?_
        refine q_icmp_ne (tgt := 28) hx hb dX3_editOf_23 (by decide) (by omega) (fun c_23 => ?_) (fun c_23 => ?_)
        · skip
          refine q_iinc (k := 2) (lv' := [(2, .int (qI ((((k : Nat) : Int)) + (1)))), (0, .ref (la)), (1, .int (qI (x)))]) hx hb dX3_editOf_28 hl rfl (by decide) rfl (fun ls hl => ?_)
          refine lv_goto (tgt := 2) hx hb dX3_editOf_31 (by decide) ?_
          exact ih_2 (k + 1)  (by omega) (by omega) (edOf_step hI c_23) _ (lv_sub hl [1, 2, 0] rfl)
        · skip
          refine lv_iload_n hx hb dX3_editOf_26 rfl (lv_at hl 2 rfl) ?_
          exact hQ _ _ _ (congrArg qI (edOf_at hI c_23 ne (by omega)).symm) dX3_editOf_27
  exact L_2 (ne + 1) (0)  (by omega) (by omega) rfl _ (lv_sub hl [1, 2, 0] rfl)

set_option maxRecDepth 100000 in
set_option maxHeartbeats 4000000 in
theorem c_X3_wishFor (l : Launch) (D : va_G) (cy : Nat → ClassId) (la lv9 ls9 : Nat) (rc re : Nat → Nat) (E : Nat → Nat → Int) (ne : Nat) (x w9 s9 : Int) (hx9 : -1000000 ≤ x ∧ x ≤ 1000000) (he : ne < 16) (hE : qWR E ne) (sz : Nat) : qMet l yX3_wishFor (.code yX3_wishFor cX3_wishFor 5 none) 3 [.ref (la), .int (qI (x)), .int (qI (w9)), .int (qI (s9))] D cy [[(la, .inr (3, [.ref (lv9), .ref (ls9), .ref (rc 0), .ref (re 0)]))], qRu cy re (E) (((ne : Nat) : Int))] sz (va_Qv (S := (Nat → Nat → Int) × Nat) (fun u => u.2 = wfN E ne x ∧ ∀ f i, f < 5 → i < u.2 → u.1 f i = wfE E ne x w9 s9 f i) (qB D cy [[(la, .inr (3, [.ref (lv9), .ref (ls9), .ref (rc 0), .ref (re 0)]))], qRu cy re (E) (((ne : Nat) : Int))] sz (fun u => [[(la, .inr (3, [.ref (lv9), .ref (ls9), .ref (rc 0), .ref (re 0)]))], qRu cy re u.1 (u.2 : Int)])) (va_A [[(la, .inr (3, [.ref (lv9), .ref (ls9), .ref (rc 0), .ref (re 0)]))], qRu cy re (E) (((ne : Nat) : Int))].flatten sz)) := by
  refine q_ofMv (S := (Nat → Nat → Int) × Nat) (b1 := fun u => [[(la, .inr (3, [.ref (lv9), .ref (ls9), .ref (rc 0), .ref (re 0)]))], qRu cy re u.1 (u.2 : Int)]) (post := fun u => u.2 = wfN E ne x ∧ ∀ f i, f < 5 → i < u.2 → u.1 f i = wfE E ne x w9 s9 f i) (by decide +kernel) (Nat.le_of_ble_eq_true rfl) ?_
  intro p e s m args below meth c Q A hx hb hml hown hg hQ hK hN hD hA H locs ls hP hS hl
  have hown : s.vm.findClass RX3 = some m.cls := hown
  have hl : lv_has ls 5 [(0, .ref (la)), (1, .int (qI (x))), (2, .int (qI (w9))), (3, .int (qI (s9)))] := hl
  refine lv_aload_n hx hb dX3_wishFor_0 rfl (lv_at hl 0 rfl) ?_
  refine lv_iload_n hx hb dX3_wishFor_1 rfl (lv_at hl 1 rfl) ?_
  refine q_readi (va_runV (As := [.int (qI (x))]) (rest := []) ⟨hx, hb, hml, hown, hg⟩ (c_X3_editOf l D cy la lv9 ls9 rc re E ne _ (by omega) (by omega) hE) (cv_X3_39 hg rfl rfl ⟨by decide, by decide⟩) ⟨q_blind0, va_recv hK (fl_blk hP 0 rfl) (ci := 3) (q0 := 0) rfl rfl, q_preR _ hK hN hP [0, 1] rfl⟩ rfl rfl hl.1 rfl (lv_room (Nat.le_of_ble_eq_true rfl)) dX3_wishFor_2 ⟨by decide, by decide⟩) (fun r_2 h_2 => ?_)
  subst h_2
  have er := edOf_rng E x ne
  refine lv_istore (lv' := [(4, .int (qI (edOf E (x) ne))), (0, .ref (la)), (1, .int (qI (x))), (2, .int (qI (w9))), (3, .int (qI (s9)))]) hx hb dX3_wishFor_5 hl (by decide) rfl (fun ls hl => ?_)
  refine lv_iload hx hb dX3_wishFor_7 (lv_at hl 0 rfl) ?_
  refine q_iconst hx hb dX3_wishFor_9 ?_
  refine q_icmp_ne (tgt := 28) hx hb dX3_wishFor_10 (by decide) (by omega) (fun c_10 => ?_) (fun c_10 => ?_)
  · skip
    refine lv_aload_n hx hb dX3_wishFor_28 rfl (lv_at hl 1 rfl) ?_
    refine gf_X3_25 hx hb hg hown hK (fl_blk hP 0 rfl) 0 rfl rfl dX3_wishFor_29 ?_
    refine gf_X3_47 hx hb hg hown hK (fl_blk hP 1 rfl) 0 rfl rfl dX3_wishFor_32 ?_
    refine lv_iload hx hb dX3_wishFor_35 (lv_at hl 0 rfl) ?_
    refine lv_iload_n hx hb dX3_wishFor_37 rfl (lv_at hl 3 rfl) ?_
    refine qb_iast (j := (edOf E (x) ne).toNat) hx hb hK hP hD hS 1 4 rfl rfl (by omega) dX3_wishFor_38 (fun H locs hP hD hS => ?_)
    have hP : va_P D vwCl [[(la, .inr (3, [.ref (lv9), .ref (ls9), .ref (rc 0), .ref (re 0)]))], qRu cy re (qu (E) 3 (qu (E 3) ((edOf E (x) ne).toNat) (w9))) (((ne : Nat) : Int))].flatten H := hP
    have hD : va_D A [[(la, .inr (3, [.ref (lv9), .ref (ls9), .ref (rc 0), .ref (re 0)]))], qRu cy re (qu (E) 3 (qu (E 3) ((edOf E (x) ne).toNat) (w9))) (((ne : Nat) : Int))].flatten := hD
    refine lv_aload_n hx hb dX3_wishFor_39 rfl (lv_at hl 1 rfl) ?_
    refine gf_X3_25 hx hb hg hown hK (fl_blk hP 0 rfl) 0 rfl rfl dX3_wishFor_40 ?_
    refine gf_X3_50 hx hb hg hown hK (fl_blk hP 1 rfl) 0 rfl rfl dX3_wishFor_43 ?_
    refine lv_iload hx hb dX3_wishFor_46 (lv_at hl 0 rfl) ?_
    refine lv_iload_n hx hb dX3_wishFor_48 rfl (lv_at hl 4 rfl) ?_
    refine qb_iast (j := (edOf E (x) ne).toNat) hx hb hK hP hD hS 1 5 rfl rfl (by omega) dX3_wishFor_49 (fun H locs hP hD hS => ?_)
    have hP : va_P D vwCl [[(la, .inr (3, [.ref (lv9), .ref (ls9), .ref (rc 0), .ref (re 0)]))], qRu cy re (qu (qu (E) 3 (qu (E 3) ((edOf E (x) ne).toNat) (w9))) 4 (qu (qu (E) 3 (qu (E 3) ((edOf E (x) ne).toNat) (w9)) 4) ((edOf E (x) ne).toNat) (s9))) (((ne : Nat) : Int))].flatten H := hP
    have hD : va_D A [[(la, .inr (3, [.ref (lv9), .ref (ls9), .ref (rc 0), .ref (re 0)]))], qRu cy re (qu (qu (E) 3 (qu (E 3) ((edOf E (x) ne).toNat) (w9))) 4 (qu (qu (E) 3 (qu (E 3) ((edOf E (x) ne).toNat) (w9)) 4) ((edOf E (x) ne).toNat) (s9))) (((ne : Nat) : Int))].flatten := hD
    refine hQ _ _ _ _ (qu (qu (E) 3 (qu (E 3) ((edOf E (x) ne).toNat) (w9))) 4 (qu (qu (E) 3 (qu (E 3) ((edOf E (x) ne).toNat) (w9)) 4) ((edOf E (x) ne).toNat) (s9)), ne) ⟨by unfold wfN; rw [if_neg c_10], fun f i hf hi => ?_⟩ hP hD hS dX3_wishFor_50
    unfold wfE; rw [if_neg c_10]
    rcases (show f = 0 ∨ f = 1 ∨ f = 2 ∨ f = 3 ∨ f = 4 by omega) with rfl | rfl | rfl | rfl | rfl <;> simp [qu]
  · skip
    refine lv_aload_n hx hb dX3_wishFor_13 rfl (lv_at hl 1 rfl) ?_
    refine gf_X3_25 hx hb hg hown hK (fl_blk hP 0 rfl) 0 rfl rfl dX3_wishFor_14 ?_
    refine lv_iload_n hx hb dX3_wishFor_17 rfl (lv_at hl 2 rfl) ?_
    refine q_iconst hx hb dX3_wishFor_18 ?_
    refine q_iconst hx hb dX3_wishFor_19 ?_
    refine lv_iload_n hx hb dX3_wishFor_20 rfl (lv_at hl 3 rfl) ?_
    refine lv_iload_n hx hb dX3_wishFor_21 rfl (lv_at hl 4 rfl) ?_
    refine q_backv [1] [0] (br := [[(la, .inr (3, [.ref (lv9), .ref (ls9), .ref (rc 0), .ref (re 0)]))]]) hP hD hS hA (va_runV (As := [.int (qI (x)), .int (qI (-1)), .int (qI (1)), .int (qI (w9)), .int (qI (s9))]) (rest := []) ⟨hx, hb, hml, hown, hg⟩ (c_X5_push l D cy (re) (E) ne _ _ _ _ _ (by omega) _) (cv_X3_43 hg rfl rfl ⟨by decide, by decide⟩) ⟨q_blind, va_recv hK (fl_blk hP 1 rfl) (ci := 5) (q0 := 0) rfl rfl, q_preM _ hK hN hP hD [1] (by decide) rfl⟩ rfl rfl hl.1 rfl (lv_room (Nat.le_of_ble_eq_true rfl)) dX3_wishFor_22 ⟨by decide, by decide⟩) rfl rfl (by decide) (fun u_22 H locs h_22 hP hD hS => ?_)
    have hP : va_P D vwCl [[(la, .inr (3, [.ref (lv9), .ref (ls9), .ref (rc 0), .ref (re 0)]))], qRu cy re (u_22) (((ne + 1 : Nat) : Int))].flatten H := hP
    have hD : va_D A [[(la, .inr (3, [.ref (lv9), .ref (ls9), .ref (rc 0), .ref (re 0)]))], qRu cy re (u_22) (((ne + 1 : Nat) : Int))].flatten := hD
    refine lv_goto (tgt := 50) hx hb dX3_wishFor_25 (by decide) ?_
    refine hQ _ _ _ _ (u_22, ne + 1) ⟨by unfold wfN; rw [if_pos c_10], fun f i hf hi => ?_⟩ hP hD hS dX3_wishFor_50
    refine (h_22 f i hf).trans ?_; unfold wfE; rw [if_pos c_10]

set_option maxRecDepth 100000 in
set_option maxHeartbeats 4000000 in
theorem c_X3_holds (l : Launch) (D : va_G) (cy : Nat → ClassId) (la lv9 ls9 : Nat) (rc re : Nat → Nat) (v : Nat → Int) (C : Nat → Nat → Int) (nc : Nat) (hV : qV v) (hC : qWR C nc) (hc : nc ≤ 16) (x : Int) (k : Nat) (hk : x = (k : Int) ∧ k < nc) : qRd l yX3_holds (.code yX3_holds cX3_holds 4 (some .boolean)) 2 [.ref (la), .int (qI (x))] D cy [[(la, .inr (3, [.ref (lv9), .ref (ls9), .ref (rc 0), .ref (re 0)]))], [(lv9, aI cy 10 (v))], qRu cy rc (C) (((nc : Nat) : Int))] (vp_Si (fun r => ∃ b : Bool, r = qz b ∧ (fun b => b = true ↔ chP (C 2 k) (C 3 k) (hoD v C k) (hoD v C k)) b)) := by
  refine q_ofRz (post := fun b => b = true ↔ chP (C 2 k) (C 3 k) (hoD v C k) (hoD v C k)) (by decide +kernel) (Nat.le_of_ble_eq_true rfl) ?_
  intro p e s m args below meth c Q hx hb hml hown hg hQ hK hN hP ls hl
  have hown : s.vm.findClass RX3 = some m.cls := hown
  have hl : lv_has ls 4 [(0, .ref (la)), (1, .int (qI (x)))] := hl
  have hk1 := hk.1
  have hk2 := hk.2
  have hw := hC k hk2
  have b0 := hV (C 0 k).toNat (by omega)
  have d9 : C 1 k ≠ -1 → -1000 ≤ v (C 1 k).toNat ∧ v (C 1 k).toNat ≤ 1000 := fun h => hV _ (by omega)
  refine lv_aload_n hx hb dX3_holds_0 rfl (lv_at hl 0 rfl) ?_
  refine gf_X3_21 hx hb hg hown hK (fl_blk hP 0 rfl) 0 rfl rfl dX3_holds_1 ?_
  refine gf_X3_53 hx hb hg hown hK (fl_blk hP 2 rfl) 0 rfl rfl dX3_holds_4 ?_
  refine lv_iload_n hx hb dX3_holds_7 rfl (lv_at hl 1 rfl) ?_
  refine q_iald (j := k) hx hb hK (fl_blk hP 2 rfl) 2 rfl (by omega) dX3_holds_8 ?_
  refine lv_istore_n (lv' := [(2, .int (qI ((C 1) k))), (0, .ref (la)), (1, .int (qI (x)))]) hx hb dX3_holds_9 rfl hl (by decide) rfl (fun ls hl => ?_)
  refine lv_aload_n hx hb dX3_holds_10 rfl (lv_at hl 1 rfl) ?_
  refine gf_X3_9 hx hb hg hown hK (fl_blk hP 0 rfl) 0 rfl rfl dX3_holds_11 ?_
  refine lv_aload_n hx hb dX3_holds_14 rfl (lv_at hl 1 rfl) ?_
  refine gf_X3_21 hx hb hg hown hK (fl_blk hP 0 rfl) 0 rfl rfl dX3_holds_15 ?_
  refine gf_X3_36 hx hb hg hown hK (fl_blk hP 2 rfl) 0 rfl rfl dX3_holds_18 ?_
  refine lv_iload_n hx hb dX3_holds_21 rfl (lv_at hl 2 rfl) ?_
  refine q_iald (j := k) hx hb hK (fl_blk hP 2 rfl) 1 rfl (by omega) dX3_holds_22 ?_
  refine q_iald (j := (C 0 k).toNat) hx hb hK (fl_blk hP 1 rfl) 0 rfl (by omega) dX3_holds_23 ?_
  refine lv_iload_n hx hb dX3_holds_24 rfl (lv_at hl 0 rfl) ?_
  refine q_iconst hx hb dX3_holds_25 ?_
  refine q_icmp_ne (tgt := 33) hx hb dX3_holds_26 (by decide) (by omega) (fun c_26 => ?_) (fun c_26 => ?_)
  · skip
    have d9 := d9 c_26
    refine lv_aload_n hx hb dX3_holds_33 rfl (lv_at hl 1 rfl) ?_
    refine gf_X3_9 hx hb hg hown hK (fl_blk hP 0 rfl) 0 rfl rfl dX3_holds_34 ?_
    refine lv_iload_n hx hb dX3_holds_37 rfl (lv_at hl 0 rfl) ?_
    refine q_iald (j := (C 1 k).toNat) hx hb hK (fl_blk hP 1 rfl) 0 rfl (by omega) dX3_holds_38 ?_
    refine q_isub hx hb dX3_holds_39 ?_
    refine lv_istore_n (lv' := [(3, .int (qI ((v ((C 0 k).toNat)) - (v ((C 1 k).toNat))))), (2, .int (qI (C 1 k))), (0, .ref (la)), (1, .int (qI (x)))]) hx hb dX3_holds_40 rfl hl (by decide) rfl (fun ls hl => ?_)
    refine lv_aload_n hx hb dX3_holds_41 rfl (lv_at hl 2 rfl) ?_
    refine gf_X3_21 hx hb hg hown hK (fl_blk hP 0 rfl) 0 rfl rfl dX3_holds_42 ?_
    refine lv_iload_n hx hb dX3_holds_45 rfl (lv_at hl 3 rfl) ?_
    refine lv_iload_n hx hb dX3_holds_46 rfl (lv_at hl 0 rfl) ?_
    refine lv_iload_n hx hb dX3_holds_47 rfl (lv_at hl 0 rfl) ?_
    refine q_readz (va_runV (As := [.int (qI (x)), .int (qI ((v ((C 0 k).toNat)) - (v ((C 1 k).toNat)))), .int (qI ((v ((C 0 k).toNat)) - (v ((C 1 k).toNat))))]) (rest := []) ⟨hx, hb, hml, hown, hg⟩ (c_X5_canHold l D cy (rc) (C) nc _ k ⟨by omega, by omega⟩ hc hC _ _ (by omega)) (cv_X3_56 hg rfl rfl ⟨by decide, by decide⟩) ⟨q_blind0, va_recv hK (fl_blk hP 2 rfl) (ci := 5) (q0 := 0) rfl rfl, q_preR _ hK hN hP [2] rfl⟩ rfl rfl hl.1 rfl (lv_room (Nat.le_of_ble_eq_true rfl)) dX3_holds_48 ⟨by decide, by decide⟩) (fun b_48 h_48 => ?_)
    have e9 : hoD v C k = (v ((C 0 k).toNat)) - (v ((C 1 k).toNat)) := by unfold hoD; rw [if_neg c_26]
    exact hQ _ _ _ (by rw [e9]; exact h_48) dX3_holds_51
  · skip
    refine q_iconst hx hb dX3_holds_29 ?_
    refine lv_goto (tgt := 39) hx hb dX3_holds_30 (by decide) ?_
    refine q_isub hx hb dX3_holds_39 ?_
    refine lv_istore_n (lv' := [(3, .int (qI ((v ((C 0 k).toNat)) - (0)))), (2, .int (qI (C 1 k))), (0, .ref (la)), (1, .int (qI (x)))]) hx hb dX3_holds_40 rfl hl (by decide) rfl (fun ls hl => ?_)
    refine lv_aload_n hx hb dX3_holds_41 rfl (lv_at hl 2 rfl) ?_
    refine gf_X3_21 hx hb hg hown hK (fl_blk hP 0 rfl) 0 rfl rfl dX3_holds_42 ?_
    refine lv_iload_n hx hb dX3_holds_45 rfl (lv_at hl 3 rfl) ?_
    refine lv_iload_n hx hb dX3_holds_46 rfl (lv_at hl 0 rfl) ?_
    refine lv_iload_n hx hb dX3_holds_47 rfl (lv_at hl 0 rfl) ?_
    refine q_readz (va_runV (As := [.int (qI (x)), .int (qI ((v ((C 0 k).toNat)) - (0))), .int (qI ((v ((C 0 k).toNat)) - (0)))]) (rest := []) ⟨hx, hb, hml, hown, hg⟩ (c_X5_canHold l D cy (rc) (C) nc _ k ⟨by omega, by omega⟩ hc hC _ _ (by omega)) (cv_X3_56 hg rfl rfl ⟨by decide, by decide⟩) ⟨q_blind0, va_recv hK (fl_blk hP 2 rfl) (ci := 5) (q0 := 0) rfl rfl, q_preR _ hK hN hP [2] rfl⟩ rfl rfl hl.1 rfl (lv_room (Nat.le_of_ble_eq_true rfl)) dX3_holds_48 ⟨by decide, by decide⟩) (fun b_48 h_48 => ?_)
    have e9 : hoD v C k = (v ((C 0 k).toNat)) - (0) := by unfold hoD; rw [if_pos c_26]
    exact hQ _ _ _ (by rw [e9]; exact h_48) dX3_holds_51

set_option maxRecDepth 100000 in
set_option maxHeartbeats 4000000 in
theorem c_X3_copyFrom (l : Launch) (D : va_G) (cy : Nat → ClassId) (la lv9 ls9 : Nat) (rc re : Nat → Nat) (v st : Nat → Int) (C : Nat → Nat → Int) (nc : Int) (E : Nat → Nat → Int) (ne : Int) (la2 lv92 ls92 : Nat) (rc2 re2 : Nat → Nat) (v2 st2 : Nat → Int) (C2 : Nat → Nat → Int) (nc2 : Nat) (E2 : Nat → Nat → Int) (ne2 : Nat) (hc2 : nc2 ≤ 16) (he2 : ne2 ≤ 16) (sz : Nat) : qMet l yX3_copyFrom (.code yX3_copyFrom cX3_copyFrom 3 none) 4 [.ref (la), .ref (la2)] D cy [[(la, .inr (3, [.ref (lv9), .ref (ls9), .ref (rc 0), .ref (re 0)]))], [(lv9, aI cy 10 (v))], [(ls9, aI cy 10 (st))], qRu cy rc (C) (nc), qRu cy re (E) (ne), [(la2, .inr (3, [.ref (lv92), .ref (ls92), .ref (rc2 0), .ref (re2 0)]))], [(lv92, aI cy 10 (v2))], [(ls92, aI cy 10 (st2))], qRu cy rc2 (C2) (((nc2 : Nat) : Int)), qRu cy re2 (E2) (((ne2 : Nat) : Int))] sz (va_Qv (S := LSt) (fun u => LEq u (v2, st2, C2, nc2, E2, ne2) ∧ lN9 u = nc2 ∧ lM u = ne2) (qB D cy [[(la, .inr (3, [.ref (lv9), .ref (ls9), .ref (rc 0), .ref (re 0)]))], [(lv9, aI cy 10 (v))], [(ls9, aI cy 10 (st))], qRu cy rc (C) (nc), qRu cy re (E) (ne), [(la2, .inr (3, [.ref (lv92), .ref (ls92), .ref (rc2 0), .ref (re2 0)]))], [(lv92, aI cy 10 (v2))], [(ls92, aI cy 10 (st2))], qRu cy rc2 (C2) (((nc2 : Nat) : Int)), qRu cy re2 (E2) (((ne2 : Nat) : Int))] sz (fun u => [[(la, .inr (3, [.ref (lv9), .ref (ls9), .ref (rc 0), .ref (re 0)]))], [(lv9, aI cy 10 (u.1))], [(ls9, aI cy 10 (u.2.1))], qRu cy rc (u.2.2.1) (((nc2 : Nat) : Int)), qRu cy re (u.2.2.2.2.1) (((ne2 : Nat) : Int)), [(la2, .inr (3, [.ref (lv92), .ref (ls92), .ref (rc2 0), .ref (re2 0)]))], [(lv92, aI cy 10 (v2))], [(ls92, aI cy 10 (st2))], qRu cy rc2 (C2) (((nc2 : Nat) : Int)), qRu cy re2 (E2) (((ne2 : Nat) : Int))])) (va_A [[(la, .inr (3, [.ref (lv9), .ref (ls9), .ref (rc 0), .ref (re 0)]))], [(lv9, aI cy 10 (v))], [(ls9, aI cy 10 (st))], qRu cy rc (C) (nc), qRu cy re (E) (ne), [(la2, .inr (3, [.ref (lv92), .ref (ls92), .ref (rc2 0), .ref (re2 0)]))], [(lv92, aI cy 10 (v2))], [(ls92, aI cy 10 (st2))], qRu cy rc2 (C2) (((nc2 : Nat) : Int)), qRu cy re2 (E2) (((ne2 : Nat) : Int))].flatten sz)) := by
  refine q_ofMv (S := LSt) (b1 := fun u => [[(la, .inr (3, [.ref (lv9), .ref (ls9), .ref (rc 0), .ref (re 0)]))], [(lv9, aI cy 10 (u.1))], [(ls9, aI cy 10 (u.2.1))], qRu cy rc (u.2.2.1) (((nc2 : Nat) : Int)), qRu cy re (u.2.2.2.2.1) (((ne2 : Nat) : Int)), [(la2, .inr (3, [.ref (lv92), .ref (ls92), .ref (rc2 0), .ref (re2 0)]))], [(lv92, aI cy 10 (v2))], [(ls92, aI cy 10 (st2))], qRu cy rc2 (C2) (((nc2 : Nat) : Int)), qRu cy re2 (E2) (((ne2 : Nat) : Int))]) (post := fun u => LEq u (v2, st2, C2, nc2, E2, ne2) ∧ lN9 u = nc2 ∧ lM u = ne2) (by decide +kernel) (Nat.le_of_ble_eq_true rfl) ?_
  intro p e s m args below meth c Q A hx hb hml hown hg hQ hK hN hD hA H locs ls hP hS hl
  have hown : s.vm.findClass RX3 = some m.cls := hown
  have hl : lv_has ls 3 [(0, .ref (la)), (1, .ref (la2))] := hl
  refine q_iconst hx hb dX3_copyFrom_0 ?_
  refine lv_istore_n (lv' := [(2, .int (qI (0))), (0, .ref (la)), (1, .ref (la2))]) hx hb dX3_copyFrom_1 rfl hl (by decide) rfl (fun ls hl => ?_)
  have L_2 : ∀ (n_2 k : Nat) (v1 : Nat → Int) (st1 : Nat → Int), k ≤ 10 → 10 + 1 ≤ k + n_2 → ((∀ i, i < k → v1 i = v2 i) ∧ (∀ i, i < k → st1 i = st2 i)) → ∀ (H : Heap) (locs : List Loc) (ls : Array Slot), va_P D vwCl [[(la, .inr (3, [.ref (lv9), .ref (ls9), .ref (rc 0), .ref (re 0)]))], [(lv9, aI cy 10 (v1))], [(ls9, aI cy 10 (st1))], qRu cy rc (C) (nc), qRu cy re (E) (ne), [(la2, .inr (3, [.ref (lv92), .ref (ls92), .ref (rc2 0), .ref (re2 0)]))], [(lv92, aI cy 10 (v2))], [(ls92, aI cy 10 (st2))], qRu cy rc2 (C2) (((nc2 : Nat) : Int)), qRu cy re2 (E2) (((ne2 : Nat) : Int))].flatten H → va_D A [[(la, .inr (3, [.ref (lv9), .ref (ls9), .ref (rc 0), .ref (re 0)]))], [(lv9, aI cy 10 (v1))], [(ls9, aI cy 10 (st1))], qRu cy rc (C) (nc), qRu cy re (E) (ne), [(la2, .inr (3, [.ref (lv92), .ref (ls92), .ref (rc2 0), .ref (re2 0)]))], [(lv92, aI cy 10 (v2))], [(ls92, aI cy 10 (st2))], qRu cy rc2 (C2) (((nc2 : Nat) : Int)), qRu cy re2 (E2) (((ne2 : Nat) : Int))].flatten → va_S A s.heap H locs → lv_has ls 3 [(0, .ref (la)), (1, .ref (la2)), (2, .int (qI (((k : Nat) : Int))))] → W p l e (qrm 4) s m args below meth c H locs 0 0 Q (F0 m 2 ls []) := by
    intro n_2
    induction n_2 with
    | zero => intro k _ _ h1 h2; exact absurd h2 (by omega)
    | succ n_2 ih_2 =>
      intro k v1 st1 hk_2 hn_2 hI H locs ls hP hD hS hl
      refine lv_iload_n hx hb dX3_copyFrom_2 rfl (lv_at hl 2 rfl) ?_
      refine q_bipush hx hb dX3_copyFrom_3 (by decide) ?_
      refine q_icmp_ge (tgt := 38) hx hb dX3_copyFrom_5 (by decide) (by omega) (fun c_5 => ?_) (fun c_5 => ?_)
      · skip
        refine lv_aload_n hx hb dX3_copyFrom_38 rfl (lv_at hl 0 rfl) ?_
        refine gf_X3_21 hx hb hg hown hK (fl_blk hP 0 rfl) 0 rfl rfl dX3_copyFrom_39 ?_
        refine lv_aload_n hx hb dX3_copyFrom_42 rfl (lv_at hl 1 rfl) ?_
        refine gf_X3_21 hx hb hg hown hK (fl_blk hP 5 rfl) 0 rfl rfl dX3_copyFrom_43 ?_
        refine q_backv [3, 8] [0, 1, 2, 4, 5, 6, 7, 9] (br := [[(la, .inr (3, [.ref (lv9), .ref (ls9), .ref (rc 0), .ref (re 0)]))], [(lv9, aI cy 10 (v1))], [(ls9, aI cy 10 (st1))], qRu cy re (E) (ne), [(la2, .inr (3, [.ref (lv92), .ref (ls92), .ref (rc2 0), .ref (re2 0)]))], [(lv92, aI cy 10 (v2))], [(ls92, aI cy 10 (st2))], qRu cy re2 (E2) (((ne2 : Nat) : Int))]) hP hD hS hA (va_runV (As := [.ref (rc2 0)]) (rest := []) ⟨hx, hb, hml, hown, hg⟩ (c_X5_copyFrom l D cy (rc) (C) (nc) (rc2) (C2) nc2 hc2 _) (cv_X3_28 hg rfl rfl ⟨by decide, by decide⟩) ⟨q_blind, va_recv hK (fl_blk hP 3 rfl) (ci := 5) (q0 := 0) rfl rfl, q_preM _ hK hN hP hD [3, 8] (by decide) rfl⟩ rfl rfl hl.1 rfl (lv_room (Nat.le_of_ble_eq_true rfl)) dX3_copyFrom_46 ⟨by decide, by decide⟩) rfl rfl (by decide) (fun u_46 H locs h_46 hP hD hS => ?_)
        have hP : va_P D vwCl [[(la, .inr (3, [.ref (lv9), .ref (ls9), .ref (rc 0), .ref (re 0)]))], [(lv9, aI cy 10 (v1))], [(ls9, aI cy 10 (st1))], qRu cy re (E) (ne), [(la2, .inr (3, [.ref (lv92), .ref (ls92), .ref (rc2 0), .ref (re2 0)]))], [(lv92, aI cy 10 (v2))], [(ls92, aI cy 10 (st2))], qRu cy re2 (E2) (((ne2 : Nat) : Int)), qRu cy rc (u_46) (((nc2 : Nat) : Int)), qRu cy rc2 (C2) (((nc2 : Nat) : Int))].flatten H := hP
        have hD : va_D A [[(la, .inr (3, [.ref (lv9), .ref (ls9), .ref (rc 0), .ref (re 0)]))], [(lv9, aI cy 10 (v1))], [(ls9, aI cy 10 (st1))], qRu cy re (E) (ne), [(la2, .inr (3, [.ref (lv92), .ref (ls92), .ref (rc2 0), .ref (re2 0)]))], [(lv92, aI cy 10 (v2))], [(ls92, aI cy 10 (st2))], qRu cy re2 (E2) (((ne2 : Nat) : Int)), qRu cy rc (u_46) (((nc2 : Nat) : Int)), qRu cy rc2 (C2) (((nc2 : Nat) : Int))].flatten := hD
        refine lv_aload_n hx hb dX3_copyFrom_49 rfl (lv_at hl 0 rfl) ?_
        refine gf_X3_25 hx hb hg hown hK (fl_blk hP 0 rfl) 0 rfl rfl dX3_copyFrom_50 ?_
        refine lv_aload_n hx hb dX3_copyFrom_53 rfl (lv_at hl 1 rfl) ?_
        refine gf_X3_25 hx hb hg hown hK (fl_blk hP 4 rfl) 0 rfl rfl dX3_copyFrom_54 ?_
        refine q_backv [3, 7] [0, 1, 2, 4, 5, 6, 8, 9] (br := [[(la, .inr (3, [.ref (lv9), .ref (ls9), .ref (rc 0), .ref (re 0)]))], [(lv9, aI cy 10 (v1))], [(ls9, aI cy 10 (st1))], [(la2, .inr (3, [.ref (lv92), .ref (ls92), .ref (rc2 0), .ref (re2 0)]))], [(lv92, aI cy 10 (v2))], [(ls92, aI cy 10 (st2))], qRu cy rc (u_46) (((nc2 : Nat) : Int)), qRu cy rc2 (C2) (((nc2 : Nat) : Int))]) hP hD hS hA (va_runV (As := [.ref (re2 0)]) (rest := []) ⟨hx, hb, hml, hown, hg⟩ (c_X5_copyFrom l D cy (re) (E) (ne) (re2) (E2) ne2 he2 _) (cv_X3_28 hg rfl rfl ⟨by decide, by decide⟩) ⟨q_blind, va_recv hK (fl_blk hP 3 rfl) (ci := 5) (q0 := 0) rfl rfl, q_preM _ hK hN hP hD [3, 7] (by decide) rfl⟩ rfl rfl hl.1 rfl (lv_room (Nat.le_of_ble_eq_true rfl)) dX3_copyFrom_57 ⟨by decide, by decide⟩) rfl rfl (by decide) (fun u_57 H locs h_57 hP hD hS => ?_)
        have hP : va_P D vwCl [[(la, .inr (3, [.ref (lv9), .ref (ls9), .ref (rc 0), .ref (re 0)]))], [(lv9, aI cy 10 (v1))], [(ls9, aI cy 10 (st1))], [(la2, .inr (3, [.ref (lv92), .ref (ls92), .ref (rc2 0), .ref (re2 0)]))], [(lv92, aI cy 10 (v2))], [(ls92, aI cy 10 (st2))], qRu cy rc (u_46) (((nc2 : Nat) : Int)), qRu cy rc2 (C2) (((nc2 : Nat) : Int)), qRu cy re (u_57) (((ne2 : Nat) : Int)), qRu cy re2 (E2) (((ne2 : Nat) : Int))].flatten H := hP
        have hD : va_D A [[(la, .inr (3, [.ref (lv9), .ref (ls9), .ref (rc 0), .ref (re 0)]))], [(lv9, aI cy 10 (v1))], [(ls9, aI cy 10 (st1))], [(la2, .inr (3, [.ref (lv92), .ref (ls92), .ref (rc2 0), .ref (re2 0)]))], [(lv92, aI cy 10 (v2))], [(ls92, aI cy 10 (st2))], qRu cy rc (u_46) (((nc2 : Nat) : Int)), qRu cy rc2 (C2) (((nc2 : Nat) : Int)), qRu cy re (u_57) (((ne2 : Nat) : Int)), qRu cy re2 (E2) (((ne2 : Nat) : Int))].flatten := hD
        have hP := fl_sub (bs' := [[(la, .inr (3, [.ref (lv9), .ref (ls9), .ref (rc 0), .ref (re 0)]))], [(lv9, aI cy 10 (v1))], [(ls9, aI cy 10 (st1))], qRu cy rc (u_46) (((nc2 : Nat) : Int)), qRu cy re (u_57) (((ne2 : Nat) : Int)), [(la2, .inr (3, [.ref (lv92), .ref (ls92), .ref (rc2 0), .ref (re2 0)]))], [(lv92, aI cy 10 (v2))], [(ls92, aI cy 10 (st2))], qRu cy rc2 (C2) (((nc2 : Nat) : Int)), qRu cy re2 (E2) (((ne2 : Nat) : Int))]) hP [0, 1, 2, 6, 8, 3, 4, 5, 7, 9] rfl
        have hD := fl_subD (bs' := [[(la, .inr (3, [.ref (lv9), .ref (ls9), .ref (rc 0), .ref (re 0)]))], [(lv9, aI cy 10 (v1))], [(ls9, aI cy 10 (st1))], qRu cy rc (u_46) (((nc2 : Nat) : Int)), qRu cy re (u_57) (((ne2 : Nat) : Int)), [(la2, .inr (3, [.ref (lv92), .ref (ls92), .ref (rc2 0), .ref (re2 0)]))], [(lv92, aI cy 10 (v2))], [(ls92, aI cy 10 (st2))], qRu cy rc2 (C2) (((nc2 : Nat) : Int)), qRu cy re2 (E2) (((ne2 : Nat) : Int))]) hD [0, 1, 2, 6, 8, 3, 4, 5, 7, 9] (by decide) rfl
        exact hQ _ _ _ _ (v1, st1, u_46, nc2, u_57, ne2) ⟨⟨fun i hi => hI.1 i (by omega), fun i hi => hI.2 i (by omega), rfl, h_46, rfl, h_57⟩, rfl, rfl⟩ hP hD hS dX3_copyFrom_60
      · skip
        refine lv_aload_n hx hb dX3_copyFrom_8 rfl (lv_at hl 0 rfl) ?_
        refine gf_X3_9 hx hb hg hown hK (fl_blk hP 0 rfl) 0 rfl rfl dX3_copyFrom_9 ?_
        refine lv_iload_n hx hb dX3_copyFrom_12 rfl (lv_at hl 2 rfl) ?_
        refine lv_aload_n hx hb dX3_copyFrom_13 rfl (lv_at hl 1 rfl) ?_
        refine gf_X3_9 hx hb hg hown hK (fl_blk hP 5 rfl) 0 rfl rfl dX3_copyFrom_14 ?_
        refine lv_iload_n hx hb dX3_copyFrom_17 rfl (lv_at hl 2 rfl) ?_
        refine q_iald (j := k) hx hb hK (fl_blk hP 6 rfl) 0 rfl (by omega) dX3_copyFrom_18 ?_
        refine qb_iast (j := k) hx hb hK hP hD hS 1 0 rfl rfl (by omega) dX3_copyFrom_19 (fun H locs hP hD hS => ?_)
        have hP : va_P D vwCl [[(la, .inr (3, [.ref (lv9), .ref (ls9), .ref (rc 0), .ref (re 0)]))], [(lv9, aI cy 10 (qu v1 k (v2 k)))], [(ls9, aI cy 10 (st1))], qRu cy rc (C) (nc), qRu cy re (E) (ne), [(la2, .inr (3, [.ref (lv92), .ref (ls92), .ref (rc2 0), .ref (re2 0)]))], [(lv92, aI cy 10 (v2))], [(ls92, aI cy 10 (st2))], qRu cy rc2 (C2) (((nc2 : Nat) : Int)), qRu cy re2 (E2) (((ne2 : Nat) : Int))].flatten H := hP
        have hD : va_D A [[(la, .inr (3, [.ref (lv9), .ref (ls9), .ref (rc 0), .ref (re 0)]))], [(lv9, aI cy 10 (qu v1 k (v2 k)))], [(ls9, aI cy 10 (st1))], qRu cy rc (C) (nc), qRu cy re (E) (ne), [(la2, .inr (3, [.ref (lv92), .ref (ls92), .ref (rc2 0), .ref (re2 0)]))], [(lv92, aI cy 10 (v2))], [(ls92, aI cy 10 (st2))], qRu cy rc2 (C2) (((nc2 : Nat) : Int)), qRu cy re2 (E2) (((ne2 : Nat) : Int))].flatten := hD
        refine lv_aload_n hx hb dX3_copyFrom_20 rfl (lv_at hl 0 rfl) ?_
        refine gf_X3_15 hx hb hg hown hK (fl_blk hP 0 rfl) 0 rfl rfl dX3_copyFrom_21 ?_
        refine lv_iload_n hx hb dX3_copyFrom_24 rfl (lv_at hl 2 rfl) ?_
        refine lv_aload_n hx hb dX3_copyFrom_25 rfl (lv_at hl 1 rfl) ?_
        refine gf_X3_15 hx hb hg hown hK (fl_blk hP 5 rfl) 0 rfl rfl dX3_copyFrom_26 ?_
        refine lv_iload_n hx hb dX3_copyFrom_29 rfl (lv_at hl 2 rfl) ?_
        refine q_iald (j := k) hx hb hK (fl_blk hP 7 rfl) 0 rfl (by omega) dX3_copyFrom_30 ?_
        refine qb_iast (j := k) hx hb hK hP hD hS 2 0 rfl rfl (by omega) dX3_copyFrom_31 (fun H locs hP hD hS => ?_)
        have hP : va_P D vwCl [[(la, .inr (3, [.ref (lv9), .ref (ls9), .ref (rc 0), .ref (re 0)]))], [(lv9, aI cy 10 (qu v1 k (v2 k)))], [(ls9, aI cy 10 (qu st1 k (st2 k)))], qRu cy rc (C) (nc), qRu cy re (E) (ne), [(la2, .inr (3, [.ref (lv92), .ref (ls92), .ref (rc2 0), .ref (re2 0)]))], [(lv92, aI cy 10 (v2))], [(ls92, aI cy 10 (st2))], qRu cy rc2 (C2) (((nc2 : Nat) : Int)), qRu cy re2 (E2) (((ne2 : Nat) : Int))].flatten H := hP
        have hD : va_D A [[(la, .inr (3, [.ref (lv9), .ref (ls9), .ref (rc 0), .ref (re 0)]))], [(lv9, aI cy 10 (qu v1 k (v2 k)))], [(ls9, aI cy 10 (qu st1 k (st2 k)))], qRu cy rc (C) (nc), qRu cy re (E) (ne), [(la2, .inr (3, [.ref (lv92), .ref (ls92), .ref (rc2 0), .ref (re2 0)]))], [(lv92, aI cy 10 (v2))], [(ls92, aI cy 10 (st2))], qRu cy rc2 (C2) (((nc2 : Nat) : Int)), qRu cy re2 (E2) (((ne2 : Nat) : Int))].flatten := hD
        refine q_iinc (k := 2) (lv' := [(2, .int (qI ((((k : Nat) : Int)) + (1)))), (0, .ref (la)), (1, .ref (la2))]) hx hb dX3_copyFrom_32 hl rfl (by decide) rfl (fun ls hl => ?_)
        refine lv_goto (tgt := 2) hx hb dX3_copyFrom_35 (by decide) ?_
        exact ih_2 (k + 1) _ _ (by omega) (by omega) ⟨cpI hI.1, cpI hI.2⟩ _ _ _ hP hD hS (lv_sub hl [1, 2, 0] rfl)
  exact L_2 (10 + 1) (0) _ _ (by omega) (by omega) ⟨fun i hi => absurd hi (Nat.not_lt_zero i), fun i hi => absurd hi (Nat.not_lt_zero i)⟩ _ _ _ hP hD hS (lv_sub hl [1, 2, 0] rfl)
