theorem qz_fit (b : Bool) : fits .boolean (.int (qz b)) = true := by cases b <;> rfl
theorem cnt_up {p : Nat → Bool} {k y : Nat} (hy : y = cnt p k) (h : p k = true) : y + 1 = cnt p (k + 1) := by show _ = cnt p k + _; rw [if_pos h, ← hy]
theorem cnt_no {p : Nat → Bool} {k y : Nat} (hy : y = cnt p k) (h : p k = false) : y = cnt p (k + 1) := by show _ = cnt p k + _; rw [if_neg (by rw [h]; decide), ← hy]; rfl

set_option maxRecDepth 100000 in
set_option maxHeartbeats 4000000 in
theorem c_X7_fillAnew (l : Launch) (D : va_G) (cy : Nat → ClassId) (x la lv9 ls9 fa xh xs la2 lv92 ls92 fb fw bu ta : Nat) (rc re gb oc oe rs rc2 re2 gb2 oc2 oe2 rs2 rr : Nat → Nat) (ad : Nat → Nat → Nat) (kw : Bool) (len : Int) (v st : Nat → Int) (C : Nat → Nat → Int) (nc : Nat) (E : Nat → Nat → Int) (ne : Nat) (tt : Int) (M : Nat → Nat → Int) (FC : Int) (mgC tnC : Nat → Int) (FE : Int) (mgE tnE : Nat → Int) (hE : qWR E ne) (hC : qWR C nc) (he : ne ≤ 16) (hc : nc ≤ 16) (sz : Nat) : qMet l yX7_fillAnew (.code yX7_fillAnew cX7_fillAnew 1 none) 5 [.ref (x)] D cy [[(x, .inr (7, [.ref (la), .ref (fa), .ref (xh), .ref (la2), .ref (fb), .ref (fw), .int (qz (kw)), .ref (bu), .int (qI (len)), .ref (ta)]))], [(fa, .inr (1, [.ref (gb 0), .ref (oc 0), .ref (oe 0), .ref (rs 0), .int (qI (tt))]))], qBo cy gb (M), qOu cy oc (FC) (mgC) (tnC), qOu cy oe (FE) (mgE) (tnE), [(la, .inr (3, [.ref (lv9), .ref (ls9), .ref (rc 0), .ref (re 0)]))], qRu cy rc (C) (((nc : Nat) : Int)), qRu cy re (E) (((ne : Nat) : Int))] sz (va_Qv (S := (Nat → Nat → Int) × Int × Nat × (Nat → Int) × (Nat → Int) × Nat × (Nat → Int) × (Nat → Int)) (fun u => fCan C nc E ne (-1) u.1 u.2.2.1 u.2.2.2.1 u.2.2.2.2.1 u.2.2.2.2.2.1 u.2.2.2.2.2.2.1) (qB D cy [[(x, .inr (7, [.ref (la), .ref (fa), .ref (xh), .ref (la2), .ref (fb), .ref (fw), .int (qz (kw)), .ref (bu), .int (qI (len)), .ref (ta)]))], [(fa, .inr (1, [.ref (gb 0), .ref (oc 0), .ref (oe 0), .ref (rs 0), .int (qI (tt))]))], qBo cy gb (M), qOu cy oc (FC) (mgC) (tnC), qOu cy oe (FE) (mgE) (tnE), [(la, .inr (3, [.ref (lv9), .ref (ls9), .ref (rc 0), .ref (re 0)]))], qRu cy rc (C) (((nc : Nat) : Int)), qRu cy re (E) (((ne : Nat) : Int))] sz (fun u => [[(x, .inr (7, [.ref (la), .ref (fa), .ref (xh), .ref (la2), .ref (fb), .ref (fw), .int (qz (false)), .ref (bu), .int (qI (len)), .ref (ta)]))], [(fa, .inr (1, [.ref (gb 0), .ref (oc 0), .ref (oe 0), .ref (rs 0), .int (qI (u.2.1))]))], qBo cy gb (u.1), qOu cy oc (u.2.2.1 : Int) (u.2.2.2.1) (u.2.2.2.2.1), qOu cy oe (u.2.2.2.2.2.1 : Int) (u.2.2.2.2.2.2.1) (u.2.2.2.2.2.2.2), [(la, .inr (3, [.ref (lv9), .ref (ls9), .ref (rc 0), .ref (re 0)]))], qRu cy rc (C) (((nc : Nat) : Int)), qRu cy re (E) (((ne : Nat) : Int))])) (va_A [[(x, .inr (7, [.ref (la), .ref (fa), .ref (xh), .ref (la2), .ref (fb), .ref (fw), .int (qz (kw)), .ref (bu), .int (qI (len)), .ref (ta)]))], [(fa, .inr (1, [.ref (gb 0), .ref (oc 0), .ref (oe 0), .ref (rs 0), .int (qI (tt))]))], qBo cy gb (M), qOu cy oc (FC) (mgC) (tnC), qOu cy oe (FE) (mgE) (tnE), [(la, .inr (3, [.ref (lv9), .ref (ls9), .ref (rc 0), .ref (re 0)]))], qRu cy rc (C) (((nc : Nat) : Int)), qRu cy re (E) (((ne : Nat) : Int))].flatten sz)) := by
  refine q_ofMv (S := (Nat → Nat → Int) × Int × Nat × (Nat → Int) × (Nat → Int) × Nat × (Nat → Int) × (Nat → Int)) (b1 := fun u => [[(x, .inr (7, [.ref (la), .ref (fa), .ref (xh), .ref (la2), .ref (fb), .ref (fw), .int (qz (false)), .ref (bu), .int (qI (len)), .ref (ta)]))], [(fa, .inr (1, [.ref (gb 0), .ref (oc 0), .ref (oe 0), .ref (rs 0), .int (qI (u.2.1))]))], qBo cy gb (u.1), qOu cy oc (u.2.2.1 : Int) (u.2.2.2.1) (u.2.2.2.2.1), qOu cy oe (u.2.2.2.2.2.1 : Int) (u.2.2.2.2.2.2.1) (u.2.2.2.2.2.2.2), [(la, .inr (3, [.ref (lv9), .ref (ls9), .ref (rc 0), .ref (re 0)]))], qRu cy rc (C) (((nc : Nat) : Int)), qRu cy re (E) (((ne : Nat) : Int))]) (post := fun u => fCan C nc E ne (-1) u.1 u.2.2.1 u.2.2.2.1 u.2.2.2.2.1 u.2.2.2.2.2.1 u.2.2.2.2.2.2.1) (by decide +kernel) (Nat.le_of_ble_eq_true rfl) ?_
  intro p e s m args below meth c Q A hx hb hml hown hg hQ hK hN hD hA H locs ls hP hS hl
  have hown : s.vm.findClass RX7 = some m.cls := hown
  have hl : lv_has ls 1 [(0, .ref (x))] := hl
  refine lv_aload_n hx hb dX7_fillAnew_0 rfl (lv_at hl 0 rfl) ?_
  refine gf_X7_19 hx hb hg hown hK (fl_blk hP 0 rfl) 0 rfl rfl dX7_fillAnew_1 ?_
  refine lv_aload_n hx hb dX7_fillAnew_4 rfl (lv_at hl 0 rfl) ?_
  refine gf_X7_12 hx hb hg hown hK (fl_blk hP 0 rfl) 0 rfl rfl dX7_fillAnew_5 ?_
  refine q_iconst hx hb dX7_fillAnew_8 ?_
  refine q_backv [1, 2, 3, 4, 5, 6, 7] [0] (br := [[(x, .inr (7, [.ref (la), .ref (fa), .ref (xh), .ref (la2), .ref (fb), .ref (fw), .int (qz (kw)), .ref (bu), .int (qI (len)), .ref (ta)]))]]) hP hD hS hA (va_runV (As := [.ref (la), .int (qI (-1))]) (rest := []) ⟨hx, hb, hml, hown, hg⟩ (c_X1_fill l D cy fa gb oc oe (rs 0) (tt) (M) (FC) (mgC) (tnC) (FE) (mgE) (tnE) la lv9 ls9 rc re (C) nc (E) ne (-1) (by omega) hE hC he hc _) (cv_X7_197 hg rfl rfl ⟨by decide, by decide⟩) ⟨q_blind, va_recv hK (fl_blk hP 1 rfl) (ci := 1) (q0 := 0) rfl rfl, q_preM _ hK hN hP hD [1, 2, 3, 4, 5, 6, 7] (by decide) rfl⟩ rfl rfl hl.1 rfl (lv_room (Nat.le_of_ble_eq_true rfl)) dX7_fillAnew_9 ⟨by decide, by decide⟩) rfl rfl (by decide) (fun u_9 H locs h_9 hP hD hS => ?_)
  have hP : va_P D vwCl [[(x, .inr (7, [.ref (la), .ref (fa), .ref (xh), .ref (la2), .ref (fb), .ref (fw), .int (qz (kw)), .ref (bu), .int (qI (len)), .ref (ta)]))], [(fa, .inr (1, [.ref (gb 0), .ref (oc 0), .ref (oe 0), .ref (rs 0), .int (qI (u_9.2.1))]))], qBo cy gb (u_9.1), qOu cy oc (u_9.2.2.1 : Int) (u_9.2.2.2.1) (u_9.2.2.2.2.1), qOu cy oe (u_9.2.2.2.2.2.1 : Int) (u_9.2.2.2.2.2.2.1) (u_9.2.2.2.2.2.2.2), [(la, .inr (3, [.ref (lv9), .ref (ls9), .ref (rc 0), .ref (re 0)]))], qRu cy rc (C) (((nc : Nat) : Int)), qRu cy re (E) (((ne : Nat) : Int))].flatten H := hP
  have hD : va_D A [[(x, .inr (7, [.ref (la), .ref (fa), .ref (xh), .ref (la2), .ref (fb), .ref (fw), .int (qz (kw)), .ref (bu), .int (qI (len)), .ref (ta)]))], [(fa, .inr (1, [.ref (gb 0), .ref (oc 0), .ref (oe 0), .ref (rs 0), .int (qI (u_9.2.1))]))], qBo cy gb (u_9.1), qOu cy oc (u_9.2.2.1 : Int) (u_9.2.2.2.1) (u_9.2.2.2.2.1), qOu cy oe (u_9.2.2.2.2.2.1 : Int) (u_9.2.2.2.2.2.2.1) (u_9.2.2.2.2.2.2.2), [(la, .inr (3, [.ref (lv9), .ref (ls9), .ref (rc 0), .ref (re 0)]))], qRu cy rc (C) (((nc : Nat) : Int)), qRu cy re (E) (((ne : Nat) : Int))].flatten := hD
  refine lv_aload_n hx hb dX7_fillAnew_12 rfl (lv_at hl 0 rfl) ?_
  refine q_iconst hx hb dX7_fillAnew_13 ?_
  refine q_bool (b := false) rfl ?_
  refine pf_X7_263 hx hb hg hown hK hP hD hS 0 0 rfl rfl (qz_nar _) (qz_fit _) (Nat.le_of_ble_eq_true rfl) dX7_fillAnew_14 (fun H locs hP hD hS => ?_)
  have hP : va_P D vwCl [[(x, .inr (7, [.ref (la), .ref (fa), .ref (xh), .ref (la2), .ref (fb), .ref (fw), .int (qz (false)), .ref (bu), .int (qI (len)), .ref (ta)]))], [(fa, .inr (1, [.ref (gb 0), .ref (oc 0), .ref (oe 0), .ref (rs 0), .int (qI (u_9.2.1))]))], qBo cy gb (u_9.1), qOu cy oc (u_9.2.2.1 : Int) (u_9.2.2.2.1) (u_9.2.2.2.2.1), qOu cy oe (u_9.2.2.2.2.2.1 : Int) (u_9.2.2.2.2.2.2.1) (u_9.2.2.2.2.2.2.2), [(la, .inr (3, [.ref (lv9), .ref (ls9), .ref (rc 0), .ref (re 0)]))], qRu cy rc (C) (((nc : Nat) : Int)), qRu cy re (E) (((ne : Nat) : Int))].flatten H := hP
  have hD : va_D A [[(x, .inr (7, [.ref (la), .ref (fa), .ref (xh), .ref (la2), .ref (fb), .ref (fw), .int (qz (false)), .ref (bu), .int (qI (len)), .ref (ta)]))], [(fa, .inr (1, [.ref (gb 0), .ref (oc 0), .ref (oe 0), .ref (rs 0), .int (qI (u_9.2.1))]))], qBo cy gb (u_9.1), qOu cy oc (u_9.2.2.1 : Int) (u_9.2.2.2.1) (u_9.2.2.2.2.1), qOu cy oe (u_9.2.2.2.2.2.1 : Int) (u_9.2.2.2.2.2.2.1) (u_9.2.2.2.2.2.2.2), [(la, .inr (3, [.ref (lv9), .ref (ls9), .ref (rc 0), .ref (re 0)]))], qRu cy rc (C) (((nc : Nat) : Int)), qRu cy re (E) (((ne : Nat) : Int))].flatten := hD
  exact hQ _ _ _ _ u_9 (fRel.can hE hC he hc h_9) hP hD hS dX7_fillAnew_17

set_option maxRecDepth 100000 in
set_option maxHeartbeats 4000000 in
theorem c_X7_fillAndSettle (l : Launch) (D : va_G) (cy : Nat → ClassId) (x la lv9 ls9 fa xh xs la2 lv92 ls92 fb fw bu ta : Nat) (rc re gb oc oe rs rc2 re2 gb2 oc2 oe2 rs2 rr : Nat → Nat) (ad : Nat → Nat → Nat) (kw : Bool) (len : Int) (v st : Nat → Int) (C : Nat → Nat → Int) (nc : Nat) (E : Nat → Nat → Int) (ne : Nat) (tt : Int) (M : Nat → Nat → Int) (FC : Int) (mgC tnC : Nat → Int) (FE : Int) (mgE tnE : Nat → Int) (N : Nat → Nat → Int) (hE : qWR E ne) (hC : qWR C nc) (he : ne ≤ 16) (hc : nc ≤ 16) (hV : qV v) (hst : ∀ i, i < 10 → 0 ≤ st i ∧ st i ≤ 9) (sz : Nat) : qMet l yX7_fillAndSettle (.code yX7_fillAndSettle cX7_fillAndSettle 1 none) 6 [.ref (x)] D cy [[(x, .inr (7, [.ref (la), .ref (fa), .ref (xh), .ref (la2), .ref (fb), .ref (fw), .int (qz (kw)), .ref (bu), .int (qI (len)), .ref (ta)]))], [(fa, .inr (1, [.ref (gb 0), .ref (oc 0), .ref (oe 0), .ref (rs 0), .int (qI (tt))]))], qBo cy gb (M), qOu cy oc (FC) (mgC) (tnC), qOu cy oe (FE) (mgE) (tnE), qBo cy rs (N), [(la, .inr (3, [.ref (lv9), .ref (ls9), .ref (rc 0), .ref (re 0)]))], [(lv9, aI cy 10 (v))], [(ls9, aI cy 10 (st))], qRu cy rc (C) (((nc : Nat) : Int)), qRu cy re (E) (((ne : Nat) : Int))] sz (va_Qv (S := ((Nat → Nat → Int) × Int × Nat × (Nat → Int) × (Nat → Int) × Nat × (Nat → Int) × (Nat → Int)) × (Nat → Int) × (Nat → Nat → Int)) (fun u => fCan C nc E ne (-1) u.1.1 u.1.2.2.1 u.1.2.2.2.1 u.1.2.2.2.2.1 u.1.2.2.2.2.2.1 u.1.2.2.2.2.2.2.1 ∧ ∀ i, i < 10 → u.2.1 i = setv v st C nc E ne i) (qB D cy [[(x, .inr (7, [.ref (la), .ref (fa), .ref (xh), .ref (la2), .ref (fb), .ref (fw), .int (qz (kw)), .ref (bu), .int (qI (len)), .ref (ta)]))], [(fa, .inr (1, [.ref (gb 0), .ref (oc 0), .ref (oe 0), .ref (rs 0), .int (qI (tt))]))], qBo cy gb (M), qOu cy oc (FC) (mgC) (tnC), qOu cy oe (FE) (mgE) (tnE), qBo cy rs (N), [(la, .inr (3, [.ref (lv9), .ref (ls9), .ref (rc 0), .ref (re 0)]))], [(lv9, aI cy 10 (v))], [(ls9, aI cy 10 (st))], qRu cy rc (C) (((nc : Nat) : Int)), qRu cy re (E) (((ne : Nat) : Int))] sz (fun u => [[(x, .inr (7, [.ref (la), .ref (fa), .ref (xh), .ref (la2), .ref (fb), .ref (fw), .int (qz (false)), .ref (bu), .int (qI (len)), .ref (ta)]))], [(fa, .inr (1, [.ref (gb 0), .ref (oc 0), .ref (oe 0), .ref (rs 0), .int (qI (u.1.2.1))]))], qBo cy gb (u.1.1), qOu cy oc (u.1.2.2.1 : Int) (u.1.2.2.2.1) (u.1.2.2.2.2.1), qOu cy oe (u.1.2.2.2.2.2.1 : Int) (u.1.2.2.2.2.2.2.1) (u.1.2.2.2.2.2.2.2), qBo cy rs (u.2.2), [(la, .inr (3, [.ref (lv9), .ref (ls9), .ref (rc 0), .ref (re 0)]))], [(lv9, aI cy 10 (u.2.1))], [(ls9, aI cy 10 (st))], qRu cy rc (C) (((nc : Nat) : Int)), qRu cy re (E) (((ne : Nat) : Int))])) (va_A [[(x, .inr (7, [.ref (la), .ref (fa), .ref (xh), .ref (la2), .ref (fb), .ref (fw), .int (qz (kw)), .ref (bu), .int (qI (len)), .ref (ta)]))], [(fa, .inr (1, [.ref (gb 0), .ref (oc 0), .ref (oe 0), .ref (rs 0), .int (qI (tt))]))], qBo cy gb (M), qOu cy oc (FC) (mgC) (tnC), qOu cy oe (FE) (mgE) (tnE), qBo cy rs (N), [(la, .inr (3, [.ref (lv9), .ref (ls9), .ref (rc 0), .ref (re 0)]))], [(lv9, aI cy 10 (v))], [(ls9, aI cy 10 (st))], qRu cy rc (C) (((nc : Nat) : Int)), qRu cy re (E) (((ne : Nat) : Int))].flatten sz)) := by
  refine q_ofMv (S := ((Nat → Nat → Int) × Int × Nat × (Nat → Int) × (Nat → Int) × Nat × (Nat → Int) × (Nat → Int)) × (Nat → Int) × (Nat → Nat → Int)) (b1 := fun u => [[(x, .inr (7, [.ref (la), .ref (fa), .ref (xh), .ref (la2), .ref (fb), .ref (fw), .int (qz (false)), .ref (bu), .int (qI (len)), .ref (ta)]))], [(fa, .inr (1, [.ref (gb 0), .ref (oc 0), .ref (oe 0), .ref (rs 0), .int (qI (u.1.2.1))]))], qBo cy gb (u.1.1), qOu cy oc (u.1.2.2.1 : Int) (u.1.2.2.2.1) (u.1.2.2.2.2.1), qOu cy oe (u.1.2.2.2.2.2.1 : Int) (u.1.2.2.2.2.2.2.1) (u.1.2.2.2.2.2.2.2), qBo cy rs (u.2.2), [(la, .inr (3, [.ref (lv9), .ref (ls9), .ref (rc 0), .ref (re 0)]))], [(lv9, aI cy 10 (u.2.1))], [(ls9, aI cy 10 (st))], qRu cy rc (C) (((nc : Nat) : Int)), qRu cy re (E) (((ne : Nat) : Int))]) (post := fun u => fCan C nc E ne (-1) u.1.1 u.1.2.2.1 u.1.2.2.2.1 u.1.2.2.2.2.1 u.1.2.2.2.2.2.1 u.1.2.2.2.2.2.2.1 ∧ ∀ i, i < 10 → u.2.1 i = setv v st C nc E ne i) (by decide +kernel) (Nat.le_of_ble_eq_true rfl) ?_
  intro p e s m args below meth c Q A hx hb hml hown hg hQ hK hN hD hA H locs ls hP hS hl
  have hown : s.vm.findClass RX7 = some m.cls := hown
  have hl : lv_has ls 1 [(0, .ref (x))] := hl
  refine lv_aload_n hx hb dX7_fillAndSettle_0 rfl (lv_at hl 0 rfl) ?_
  refine q_backv [0, 1, 2, 3, 4, 6, 9, 10] [5, 7, 8] (br := [qBo cy rs (N), [(lv9, aI cy 10 (v))], [(ls9, aI cy 10 (st))]]) hP hD hS hA (va_runV (As := []) (rest := []) ⟨hx, hb, hml, hown, hg⟩ (c_X7_fillAnew l D cy x la lv9 ls9 fa xh xs la2 lv92 ls92 fb fw bu ta rc re gb oc oe rs rc2 re2 gb2 oc2 oe2 rs2 rr ad (kw) (len) (v) (st) (C) nc (E) ne (tt) (M) (FC) (mgC) (tnC) (FE) (mgE) (tnE) hE hC he hc _) (cv_X7_141 hg rfl rfl ⟨by decide, by decide⟩) ⟨q_blind, va_recv hK (fl_blk hP 0 rfl) (ci := 7) (q0 := 0) rfl rfl, q_preM _ hK hN hP hD [0, 1, 2, 3, 4, 6, 9, 10] (by decide) rfl⟩ rfl rfl hl.1 rfl (lv_room (Nat.le_of_ble_eq_true rfl)) dX7_fillAndSettle_1 ⟨by decide, by decide⟩) rfl rfl (by decide) (fun u_1 H locs h_1 hP hD hS => ?_)
  have hP : va_P D vwCl [qBo cy rs (N), [(lv9, aI cy 10 (v))], [(ls9, aI cy 10 (st))], [(x, .inr (7, [.ref (la), .ref (fa), .ref (xh), .ref (la2), .ref (fb), .ref (fw), .int (qz (false)), .ref (bu), .int (qI (len)), .ref (ta)]))], [(fa, .inr (1, [.ref (gb 0), .ref (oc 0), .ref (oe 0), .ref (rs 0), .int (qI (u_1.2.1))]))], qBo cy gb (u_1.1), qOu cy oc (u_1.2.2.1 : Int) (u_1.2.2.2.1) (u_1.2.2.2.2.1), qOu cy oe (u_1.2.2.2.2.2.1 : Int) (u_1.2.2.2.2.2.2.1) (u_1.2.2.2.2.2.2.2), [(la, .inr (3, [.ref (lv9), .ref (ls9), .ref (rc 0), .ref (re 0)]))], qRu cy rc (C) (((nc : Nat) : Int)), qRu cy re (E) (((ne : Nat) : Int))].flatten H := hP
  have hD : va_D A [qBo cy rs (N), [(lv9, aI cy 10 (v))], [(ls9, aI cy 10 (st))], [(x, .inr (7, [.ref (la), .ref (fa), .ref (xh), .ref (la2), .ref (fb), .ref (fw), .int (qz (false)), .ref (bu), .int (qI (len)), .ref (ta)]))], [(fa, .inr (1, [.ref (gb 0), .ref (oc 0), .ref (oe 0), .ref (rs 0), .int (qI (u_1.2.1))]))], qBo cy gb (u_1.1), qOu cy oc (u_1.2.2.1 : Int) (u_1.2.2.2.1) (u_1.2.2.2.2.1), qOu cy oe (u_1.2.2.2.2.2.1 : Int) (u_1.2.2.2.2.2.2.1) (u_1.2.2.2.2.2.2.2), [(la, .inr (3, [.ref (lv9), .ref (ls9), .ref (rc 0), .ref (re 0)]))], qRu cy rc (C) (((nc : Nat) : Int)), qRu cy re (E) (((ne : Nat) : Int))].flatten := hD
  have cl9 : qCl u_1.1 := qEq.cl h_1.1.symm (fil_ok hE hC he hc).1
  refine lv_aload_n hx hb dX7_fillAndSettle_4 rfl (lv_at hl 0 rfl) ?_
  refine gf_X7_19 hx hb hg hown hK (fl_blk hP 3 rfl) 0 rfl rfl dX7_fillAndSettle_5 ?_
  refine lv_aload_n hx hb dX7_fillAndSettle_8 rfl (lv_at hl 0 rfl) ?_
  refine gf_X7_12 hx hb hg hown hK (fl_blk hP 3 rfl) 0 rfl rfl dX7_fillAndSettle_9 ?_
  refine q_backv [4, 5, 0, 8, 1, 2] [3, 6, 7, 9, 10] (br := [[(x, .inr (7, [.ref (la), .ref (fa), .ref (xh), .ref (la2), .ref (fb), .ref (fw), .int (qz (false)), .ref (bu), .int (qI (len)), .ref (ta)]))], qOu cy oc (u_1.2.2.1 : Int) (u_1.2.2.2.1) (u_1.2.2.2.2.1), qOu cy oe (u_1.2.2.2.2.2.1 : Int) (u_1.2.2.2.2.2.2.1) (u_1.2.2.2.2.2.2.2), qRu cy rc (C) (((nc : Nat) : Int)), qRu cy re (E) (((ne : Nat) : Int))]) hP hD hS hA (va_runV (As := [.ref (la)]) (rest := []) ⟨hx, hb, hml, hown, hg⟩ (c_X1_settle l D cy fa gb rs oc oe (u_1.2.1) (u_1.1) (N) la lv9 ls9 (rc 0) (re 0) (v) (st) cl9 hV hst _) (cv_X7_201 hg rfl rfl ⟨by decide, by decide⟩) ⟨q_blind, va_recv hK (fl_blk hP 4 rfl) (ci := 1) (q0 := 0) rfl rfl, q_preM _ hK hN hP hD [4, 5, 0, 8, 1, 2] (by decide) rfl⟩ rfl rfl hl.1 rfl (lv_room (Nat.le_of_ble_eq_true rfl)) dX7_fillAndSettle_12 ⟨by decide, by decide⟩) rfl rfl (by decide) (fun u_12 H locs h_12 hP hD hS => ?_)
  have hP : va_P D vwCl [[(x, .inr (7, [.ref (la), .ref (fa), .ref (xh), .ref (la2), .ref (fb), .ref (fw), .int (qz (false)), .ref (bu), .int (qI (len)), .ref (ta)]))], qOu cy oc (u_1.2.2.1 : Int) (u_1.2.2.2.1) (u_1.2.2.2.2.1), qOu cy oe (u_1.2.2.2.2.2.1 : Int) (u_1.2.2.2.2.2.2.1) (u_1.2.2.2.2.2.2.2), qRu cy rc (C) (((nc : Nat) : Int)), qRu cy re (E) (((ne : Nat) : Int)), [(fa, .inr (1, [.ref (gb 0), .ref (oc 0), .ref (oe 0), .ref (rs 0), .int (qI (u_1.2.1))]))], qBo cy gb (u_1.1), qBo cy rs (u_12.2), [(la, .inr (3, [.ref (lv9), .ref (ls9), .ref (rc 0), .ref (re 0)]))], [(lv9, aI cy 10 (u_12.1))], [(ls9, aI cy 10 (st))]].flatten H := hP
  have hD : va_D A [[(x, .inr (7, [.ref (la), .ref (fa), .ref (xh), .ref (la2), .ref (fb), .ref (fw), .int (qz (false)), .ref (bu), .int (qI (len)), .ref (ta)]))], qOu cy oc (u_1.2.2.1 : Int) (u_1.2.2.2.1) (u_1.2.2.2.2.1), qOu cy oe (u_1.2.2.2.2.2.1 : Int) (u_1.2.2.2.2.2.2.1) (u_1.2.2.2.2.2.2.2), qRu cy rc (C) (((nc : Nat) : Int)), qRu cy re (E) (((ne : Nat) : Int)), [(fa, .inr (1, [.ref (gb 0), .ref (oc 0), .ref (oe 0), .ref (rs 0), .int (qI (u_1.2.1))]))], qBo cy gb (u_1.1), qBo cy rs (u_12.2), [(la, .inr (3, [.ref (lv9), .ref (ls9), .ref (rc 0), .ref (re 0)]))], [(lv9, aI cy 10 (u_12.1))], [(ls9, aI cy 10 (st))]].flatten := hD
  have hP := fl_sub (bs' := [[(x, .inr (7, [.ref (la), .ref (fa), .ref (xh), .ref (la2), .ref (fb), .ref (fw), .int (qz (false)), .ref (bu), .int (qI (len)), .ref (ta)]))], [(fa, .inr (1, [.ref (gb 0), .ref (oc 0), .ref (oe 0), .ref (rs 0), .int (qI (u_1.2.1))]))], qBo cy gb (u_1.1), qOu cy oc (u_1.2.2.1 : Int) (u_1.2.2.2.1) (u_1.2.2.2.2.1), qOu cy oe (u_1.2.2.2.2.2.1 : Int) (u_1.2.2.2.2.2.2.1) (u_1.2.2.2.2.2.2.2), qBo cy rs (u_12.2), [(la, .inr (3, [.ref (lv9), .ref (ls9), .ref (rc 0), .ref (re 0)]))], [(lv9, aI cy 10 (u_12.1))], [(ls9, aI cy 10 (st))], qRu cy rc (C) (((nc : Nat) : Int)), qRu cy re (E) (((ne : Nat) : Int))]) hP [0, 5, 6, 1, 2, 7, 8, 9, 10, 3, 4] rfl
  have hD := fl_subD (bs' := [[(x, .inr (7, [.ref (la), .ref (fa), .ref (xh), .ref (la2), .ref (fb), .ref (fw), .int (qz (false)), .ref (bu), .int (qI (len)), .ref (ta)]))], [(fa, .inr (1, [.ref (gb 0), .ref (oc 0), .ref (oe 0), .ref (rs 0), .int (qI (u_1.2.1))]))], qBo cy gb (u_1.1), qOu cy oc (u_1.2.2.1 : Int) (u_1.2.2.2.1) (u_1.2.2.2.2.1), qOu cy oe (u_1.2.2.2.2.2.1 : Int) (u_1.2.2.2.2.2.2.1) (u_1.2.2.2.2.2.2.2), qBo cy rs (u_12.2), [(la, .inr (3, [.ref (lv9), .ref (ls9), .ref (rc 0), .ref (re 0)]))], [(lv9, aI cy 10 (u_12.1))], [(ls9, aI cy 10 (st))], qRu cy rc (C) (((nc : Nat) : Int)), qRu cy re (E) (((ne : Nat) : Int))]) hD [0, 5, 6, 1, 2, 7, 8, 9, 10, 3, 4] (by decide) rfl
  exact hQ _ _ _ _ (u_1, u_12.1, u_12.2) ⟨h_1, setv_eq h_1.1 h_12.1⟩ hP hD hS dX7_fillAndSettle_15

set_option maxRecDepth 100000 in
set_option maxHeartbeats 4000000 in
theorem c_X7_knowWithout (l : Launch) (D : va_G) (cy : Nat → ClassId) (x la lv9 ls9 fa xh xs la2 lv92 ls92 fb fw bu ta : Nat) (rc re gb oc oe rs rc2 re2 gb2 oc2 oe2 rs2 rr : Nat → Nat) (ad : Nat → Nat → Nat) (kw : Bool) (len : Int) (v st : Nat → Int) (C : Nat → Nat → Int) (nc : Nat) (E : Nat → Nat → Int) (ne : Nat) (t1 : Int) (M1 : Nat → Nat → Int) (F1 : Int) (g1 q1 : Nat → Int) (G1 : Int) (e1 y1 : Nat → Int) (w1 : Nat → Int) (hE : qWR E ne) (hC : qWR C nc) (he : ne ≤ 16) (hc : nc ≤ 16) (hkw : kw = true → kWo C nc E ne w1 nc) (sz : Nat) : qMet l yX7_knowWithout (.code yX7_knowWithout cX7_knowWithout 2 none) 5 [.ref (x)] D cy [[(x, .inr (7, [.ref (la), .ref (fa), .ref (xh), .ref (la2), .ref (fb), .ref (fw), .int (qz (kw)), .ref (bu), .int (qI (len)), .ref (ta)]))], [(fb, .inr (1, [.ref (gb2 0), .ref (oc2 0), .ref (oe2 0), .ref (rs2 0), .int (qI (t1))]))], qBo cy gb2 (M1), qOu cy oc2 (F1) (g1) (q1), qOu cy oe2 (G1) (e1) (y1), [(la, .inr (3, [.ref (lv9), .ref (ls9), .ref (rc 0), .ref (re 0)]))], qRu cy rc (C) (((nc : Nat) : Int)), qRu cy re (E) (((ne : Nat) : Int)), [(fw, aI cy 16 (w1))]] sz (va_Qv (S := Int × (Nat → Nat → Int) × Int × (Nat → Int) × (Nat → Int) × Int × (Nat → Int) × (Nat → Int) × (Nat → Int)) (fun u => kWo C nc E ne u.2.2.2.2.2.2.2.2 nc) (qB D cy [[(x, .inr (7, [.ref (la), .ref (fa), .ref (xh), .ref (la2), .ref (fb), .ref (fw), .int (qz (kw)), .ref (bu), .int (qI (len)), .ref (ta)]))], [(fb, .inr (1, [.ref (gb2 0), .ref (oc2 0), .ref (oe2 0), .ref (rs2 0), .int (qI (t1))]))], qBo cy gb2 (M1), qOu cy oc2 (F1) (g1) (q1), qOu cy oe2 (G1) (e1) (y1), [(la, .inr (3, [.ref (lv9), .ref (ls9), .ref (rc 0), .ref (re 0)]))], qRu cy rc (C) (((nc : Nat) : Int)), qRu cy re (E) (((ne : Nat) : Int)), [(fw, aI cy 16 (w1))]] sz (fun u => [[(x, .inr (7, [.ref (la), .ref (fa), .ref (xh), .ref (la2), .ref (fb), .ref (fw), .int (qz (true)), .ref (bu), .int (qI (len)), .ref (ta)]))], [(fb, .inr (1, [.ref (gb2 0), .ref (oc2 0), .ref (oe2 0), .ref (rs2 0), .int (qI (u.1))]))], qBo cy gb2 (u.2.1), qOu cy oc2 (u.2.2.1) (u.2.2.2.1) (u.2.2.2.2.1), qOu cy oe2 (u.2.2.2.2.2.1) (u.2.2.2.2.2.2.1) (u.2.2.2.2.2.2.2.1), [(la, .inr (3, [.ref (lv9), .ref (ls9), .ref (rc 0), .ref (re 0)]))], qRu cy rc (C) (((nc : Nat) : Int)), qRu cy re (E) (((ne : Nat) : Int)), [(fw, aI cy 16 (u.2.2.2.2.2.2.2.2))]])) (va_A [[(x, .inr (7, [.ref (la), .ref (fa), .ref (xh), .ref (la2), .ref (fb), .ref (fw), .int (qz (kw)), .ref (bu), .int (qI (len)), .ref (ta)]))], [(fb, .inr (1, [.ref (gb2 0), .ref (oc2 0), .ref (oe2 0), .ref (rs2 0), .int (qI (t1))]))], qBo cy gb2 (M1), qOu cy oc2 (F1) (g1) (q1), qOu cy oe2 (G1) (e1) (y1), [(la, .inr (3, [.ref (lv9), .ref (ls9), .ref (rc 0), .ref (re 0)]))], qRu cy rc (C) (((nc : Nat) : Int)), qRu cy re (E) (((ne : Nat) : Int)), [(fw, aI cy 16 (w1))]].flatten sz)) := by
  refine q_ofMv (S := Int × (Nat → Nat → Int) × Int × (Nat → Int) × (Nat → Int) × Int × (Nat → Int) × (Nat → Int) × (Nat → Int)) (b1 := fun u => [[(x, .inr (7, [.ref (la), .ref (fa), .ref (xh), .ref (la2), .ref (fb), .ref (fw), .int (qz (true)), .ref (bu), .int (qI (len)), .ref (ta)]))], [(fb, .inr (1, [.ref (gb2 0), .ref (oc2 0), .ref (oe2 0), .ref (rs2 0), .int (qI (u.1))]))], qBo cy gb2 (u.2.1), qOu cy oc2 (u.2.2.1) (u.2.2.2.1) (u.2.2.2.2.1), qOu cy oe2 (u.2.2.2.2.2.1) (u.2.2.2.2.2.2.1) (u.2.2.2.2.2.2.2.1), [(la, .inr (3, [.ref (lv9), .ref (ls9), .ref (rc 0), .ref (re 0)]))], qRu cy rc (C) (((nc : Nat) : Int)), qRu cy re (E) (((ne : Nat) : Int)), [(fw, aI cy 16 (u.2.2.2.2.2.2.2.2))]]) (post := fun u => kWo C nc E ne u.2.2.2.2.2.2.2.2 nc) (by decide +kernel) (Nat.le_of_ble_eq_true rfl) ?_
  intro p e s m args below meth c Q A hx hb hml hown hg hQ hK hN hD hA H locs ls hP hS hl
  have hown : s.vm.findClass RX7 = some m.cls := hown
  have hl : lv_has ls 2 [(0, .ref (x))] := hl
  refine lv_aload_n hx hb dX7_knowWithout_0 rfl (lv_at hl 0 rfl) ?_
  refine gf_X7_263 hx hb hg hown hK (fl_blk hP 0 rfl) 0 rfl rfl dX7_knowWithout_1 ?_
  refine q_ifz_eq (tgt := 8) hx hb dX7_knowWithout_4 (by decide) (fun c_4 => ?_) (fun c_4 => ?_)
  · skip
    refine q_iconst hx hb dX7_knowWithout_8 ?_
    refine lv_istore_n (lv' := [(1, .int (qI (0))), (0, .ref (x))]) hx hb dX7_knowWithout_9 rfl hl (by decide) rfl (fun ls hl => ?_)
    have L_10 : ∀ (n_10 k : Nat) (t19 : Int) (M19 : Nat → Nat → Int) (F19 : Int) (g19 : Nat → Int) (q19 : Nat → Int) (G19 : Int) (e19 : Nat → Int) (y19 : Nat → Int) (w19 : Nat → Int), k ≤ nc → nc + 1 ≤ k + n_10 → (kWo C nc E ne w19 k) → ∀ (H : Heap) (locs : List Loc) (ls : Array Slot), va_P D vwCl [[(x, .inr (7, [.ref (la), .ref (fa), .ref (xh), .ref (la2), .ref (fb), .ref (fw), .int (qz (kw)), .ref (bu), .int (qI (len)), .ref (ta)]))], [(fb, .inr (1, [.ref (gb2 0), .ref (oc2 0), .ref (oe2 0), .ref (rs2 0), .int (qI (t19))]))], qBo cy gb2 (M19), qOu cy oc2 (F19) (g19) (q19), qOu cy oe2 (G19) (e19) (y19), [(la, .inr (3, [.ref (lv9), .ref (ls9), .ref (rc 0), .ref (re 0)]))], qRu cy rc (C) (((nc : Nat) : Int)), qRu cy re (E) (((ne : Nat) : Int)), [(fw, aI cy 16 (w19))]].flatten H → va_D A [[(x, .inr (7, [.ref (la), .ref (fa), .ref (xh), .ref (la2), .ref (fb), .ref (fw), .int (qz (kw)), .ref (bu), .int (qI (len)), .ref (ta)]))], [(fb, .inr (1, [.ref (gb2 0), .ref (oc2 0), .ref (oe2 0), .ref (rs2 0), .int (qI (t19))]))], qBo cy gb2 (M19), qOu cy oc2 (F19) (g19) (q19), qOu cy oe2 (G19) (e19) (y19), [(la, .inr (3, [.ref (lv9), .ref (ls9), .ref (rc 0), .ref (re 0)]))], qRu cy rc (C) (((nc : Nat) : Int)), qRu cy re (E) (((ne : Nat) : Int)), [(fw, aI cy 16 (w19))]].flatten → va_S A s.heap H locs → lv_has ls 2 [(0, .ref (x)), (1, .int (qI (((k : Nat) : Int))))] → W p l e (qrm 5) s m args below meth c H locs 0 0 Q (F0 m 10 ls []) := by
      intro n_10
      induction n_10 with
      | zero => intro k _ _ _ _ _ _ _ _ _ h1 h2; exact absurd h2 (by omega)
      | succ n_10 ih_10 =>
        intro k t19 M19 F19 g19 q19 G19 e19 y19 w19 hk_10 hn_10 hw9 H locs ls hP hD hS hl
        refine lv_iload_n hx hb dX7_knowWithout_10 rfl (lv_at hl 1 rfl) ?_
        refine lv_aload_n hx hb dX7_knowWithout_11 rfl (lv_at hl 0 rfl) ?_
        refine gf_X7_12 hx hb hg hown hK (fl_blk hP 0 rfl) 0 rfl rfl dX7_knowWithout_12 ?_
        refine gf_X7_71 hx hb hg hown hK (fl_blk hP 5 rfl) 0 rfl rfl dX7_knowWithout_15 ?_
        refine gf_X7_75 hx hb hg hown hK (fl_blk hP 6 rfl) 0 rfl rfl dX7_knowWithout_18 ?_
        refine q_icmp_ge (tgt := 58) hx hb dX7_knowWithout_21 (by decide) (by omega) (fun c_21 => ?_) (fun c_21 => ?_)
        · skip
          refine lv_aload_n hx hb dX7_knowWithout_58 rfl (lv_at hl 0 rfl) ?_
          refine q_iconst hx hb dX7_knowWithout_59 ?_
          refine q_bool (b := true) rfl ?_
          refine pf_X7_263 hx hb hg hown hK hP hD hS 0 0 rfl rfl (qz_nar _) (qz_fit _) (Nat.le_of_ble_eq_true rfl) dX7_knowWithout_60 (fun H locs hP hD hS => ?_)
          have hP : va_P D vwCl [[(x, .inr (7, [.ref (la), .ref (fa), .ref (xh), .ref (la2), .ref (fb), .ref (fw), .int (qz (true)), .ref (bu), .int (qI (len)), .ref (ta)]))], [(fb, .inr (1, [.ref (gb2 0), .ref (oc2 0), .ref (oe2 0), .ref (rs2 0), .int (qI (t19))]))], qBo cy gb2 (M19), qOu cy oc2 (F19) (g19) (q19), qOu cy oe2 (G19) (e19) (y19), [(la, .inr (3, [.ref (lv9), .ref (ls9), .ref (rc 0), .ref (re 0)]))], qRu cy rc (C) (((nc : Nat) : Int)), qRu cy re (E) (((ne : Nat) : Int)), [(fw, aI cy 16 (w19))]].flatten H := hP
          have hD : va_D A [[(x, .inr (7, [.ref (la), .ref (fa), .ref (xh), .ref (la2), .ref (fb), .ref (fw), .int (qz (true)), .ref (bu), .int (qI (len)), .ref (ta)]))], [(fb, .inr (1, [.ref (gb2 0), .ref (oc2 0), .ref (oe2 0), .ref (rs2 0), .int (qI (t19))]))], qBo cy gb2 (M19), qOu cy oc2 (F19) (g19) (q19), qOu cy oe2 (G19) (e19) (y19), [(la, .inr (3, [.ref (lv9), .ref (ls9), .ref (rc 0), .ref (re 0)]))], qRu cy rc (C) (((nc : Nat) : Int)), qRu cy re (E) (((ne : Nat) : Int)), [(fw, aI cy 16 (w19))]].flatten := hD
          exact hQ _ _ _ _ (t19, M19, F19, g19, q19, G19, e19, y19, w19) ((show k = nc by omega) ▸ hw9) hP hD hS dX7_knowWithout_63
        · skip
          refine lv_aload_n hx hb dX7_knowWithout_24 rfl (lv_at hl 0 rfl) ?_
          refine gf_X7_33 hx hb hg hown hK (fl_blk hP 0 rfl) 0 rfl rfl dX7_knowWithout_25 ?_
          refine lv_aload_n hx hb dX7_knowWithout_28 rfl (lv_at hl 0 rfl) ?_
          refine gf_X7_12 hx hb hg hown hK (fl_blk hP 0 rfl) 0 rfl rfl dX7_knowWithout_29 ?_
          refine lv_iload_n hx hb dX7_knowWithout_32 rfl (lv_at hl 1 rfl) ?_
          refine q_backv [1, 2, 3, 4, 5, 6, 7] [0, 8] (br := [[(x, .inr (7, [.ref (la), .ref (fa), .ref (xh), .ref (la2), .ref (fb), .ref (fw), .int (qz (kw)), .ref (bu), .int (qI (len)), .ref (ta)]))], [(fw, aI cy 16 (w19))]]) hP hD hS hA (va_runV (As := [.ref (la), .int (qI (((k : Nat) : Int)))]) (rest := []) ⟨hx, hb, hml, hown, hg⟩ (c_X1_fill l D cy fb gb2 oc2 oe2 (rs2 0) (t19) (M19) (F19) (g19) (q19) (G19) (e19) (y19) la lv9 ls9 rc re (C) nc (E) ne (((k : Nat) : Int)) (by omega) hE hC he hc _) (cv_X7_197 hg rfl rfl ⟨by decide, by decide⟩) ⟨q_blind, va_recv hK (fl_blk hP 1 rfl) (ci := 1) (q0 := 0) rfl rfl, q_preM _ hK hN hP hD [1, 2, 3, 4, 5, 6, 7] (by decide) rfl⟩ rfl rfl hl.1 rfl (lv_room (Nat.le_of_ble_eq_true rfl)) dX7_knowWithout_33 ⟨by decide, by decide⟩) rfl rfl (by decide) (fun u_33 H locs h_33 hP hD hS => ?_)
          have hP : va_P D vwCl [[(x, .inr (7, [.ref (la), .ref (fa), .ref (xh), .ref (la2), .ref (fb), .ref (fw), .int (qz (kw)), .ref (bu), .int (qI (len)), .ref (ta)]))], [(fw, aI cy 16 (w19))], [(fb, .inr (1, [.ref (gb2 0), .ref (oc2 0), .ref (oe2 0), .ref (rs2 0), .int (qI (u_33.2.1))]))], qBo cy gb2 (u_33.1), qOu cy oc2 (u_33.2.2.1 : Int) (u_33.2.2.2.1) (u_33.2.2.2.2.1), qOu cy oe2 (u_33.2.2.2.2.2.1 : Int) (u_33.2.2.2.2.2.2.1) (u_33.2.2.2.2.2.2.2), [(la, .inr (3, [.ref (lv9), .ref (ls9), .ref (rc 0), .ref (re 0)]))], qRu cy rc (C) (((nc : Nat) : Int)), qRu cy re (E) (((ne : Nat) : Int))].flatten H := hP
          have hD : va_D A [[(x, .inr (7, [.ref (la), .ref (fa), .ref (xh), .ref (la2), .ref (fb), .ref (fw), .int (qz (kw)), .ref (bu), .int (qI (len)), .ref (ta)]))], [(fw, aI cy 16 (w19))], [(fb, .inr (1, [.ref (gb2 0), .ref (oc2 0), .ref (oe2 0), .ref (rs2 0), .int (qI (u_33.2.1))]))], qBo cy gb2 (u_33.1), qOu cy oc2 (u_33.2.2.1 : Int) (u_33.2.2.2.1) (u_33.2.2.2.2.1), qOu cy oe2 (u_33.2.2.2.2.2.1 : Int) (u_33.2.2.2.2.2.2.1) (u_33.2.2.2.2.2.2.2), [(la, .inr (3, [.ref (lv9), .ref (ls9), .ref (rc 0), .ref (re 0)]))], qRu cy rc (C) (((nc : Nat) : Int)), qRu cy re (E) (((ne : Nat) : Int))].flatten := hD
          refine lv_aload_n hx hb dX7_knowWithout_36 rfl (lv_at hl 0 rfl) ?_
          refine gf_X7_36 hx hb hg hown hK (fl_blk hP 0 rfl) 0 rfl rfl dX7_knowWithout_37 ?_
          refine lv_iload_n hx hb dX7_knowWithout_40 rfl (lv_at hl 1 rfl) ?_
          refine lv_aload_n hx hb dX7_knowWithout_41 rfl (lv_at hl 0 rfl) ?_
          refine gf_X7_33 hx hb hg hown hK (fl_blk hP 0 rfl) 0 rfl rfl dX7_knowWithout_42 ?_
          refine gf_X7_98 hx hb hg hown hK (fl_blk hP 2 rfl) 0 rfl rfl dX7_knowWithout_45 ?_
          refine gf_X7_267 hx hb hg hown hK (fl_blk hP 4 rfl) 0 rfl rfl dX7_knowWithout_48 ?_
          refine qb_iast (j := k) hx hb hK hP hD hS 1 0 rfl rfl (by omega) dX7_knowWithout_51 (fun H locs hP hD hS => ?_)
          have hP : va_P D vwCl [[(x, .inr (7, [.ref (la), .ref (fa), .ref (xh), .ref (la2), .ref (fb), .ref (fw), .int (qz (kw)), .ref (bu), .int (qI (len)), .ref (ta)]))], [(fw, aI cy 16 (qu w19 k (u_33.2.2.1 : Int)))], [(fb, .inr (1, [.ref (gb2 0), .ref (oc2 0), .ref (oe2 0), .ref (rs2 0), .int (qI (u_33.2.1))]))], qBo cy gb2 (u_33.1), qOu cy oc2 (u_33.2.2.1 : Int) (u_33.2.2.2.1) (u_33.2.2.2.2.1), qOu cy oe2 (u_33.2.2.2.2.2.1 : Int) (u_33.2.2.2.2.2.2.1) (u_33.2.2.2.2.2.2.2), [(la, .inr (3, [.ref (lv9), .ref (ls9), .ref (rc 0), .ref (re 0)]))], qRu cy rc (C) (((nc : Nat) : Int)), qRu cy re (E) (((ne : Nat) : Int))].flatten H := hP
          have hD : va_D A [[(x, .inr (7, [.ref (la), .ref (fa), .ref (xh), .ref (la2), .ref (fb), .ref (fw), .int (qz (kw)), .ref (bu), .int (qI (len)), .ref (ta)]))], [(fw, aI cy 16 (qu w19 k (u_33.2.2.1 : Int)))], [(fb, .inr (1, [.ref (gb2 0), .ref (oc2 0), .ref (oe2 0), .ref (rs2 0), .int (qI (u_33.2.1))]))], qBo cy gb2 (u_33.1), qOu cy oc2 (u_33.2.2.1 : Int) (u_33.2.2.2.1) (u_33.2.2.2.2.1), qOu cy oe2 (u_33.2.2.2.2.2.1 : Int) (u_33.2.2.2.2.2.2.1) (u_33.2.2.2.2.2.2.2), [(la, .inr (3, [.ref (lv9), .ref (ls9), .ref (rc 0), .ref (re 0)]))], qRu cy rc (C) (((nc : Nat) : Int)), qRu cy re (E) (((ne : Nat) : Int))].flatten := hD
          refine q_iinc (k := 1) (lv' := [(1, .int (qI ((((k : Nat) : Int)) + (1)))), (0, .ref (x))]) hx hb dX7_knowWithout_52 hl rfl (by decide) rfl (fun ls hl => ?_)
          refine lv_goto (tgt := 10) hx hb dX7_knowWithout_55 (by decide) ?_
          have hP := fl_sub (bs' := [[(x, .inr (7, [.ref (la), .ref (fa), .ref (xh), .ref (la2), .ref (fb), .ref (fw), .int (qz (kw)), .ref (bu), .int (qI (len)), .ref (ta)]))], [(fb, .inr (1, [.ref (gb2 0), .ref (oc2 0), .ref (oe2 0), .ref (rs2 0), .int (qI (u_33.2.1))]))], qBo cy gb2 (u_33.1), qOu cy oc2 (u_33.2.2.1 : Int) (u_33.2.2.2.1) (u_33.2.2.2.2.1), qOu cy oe2 (u_33.2.2.2.2.2.1 : Int) (u_33.2.2.2.2.2.2.1) (u_33.2.2.2.2.2.2.2), [(la, .inr (3, [.ref (lv9), .ref (ls9), .ref (rc 0), .ref (re 0)]))], qRu cy rc (C) (((nc : Nat) : Int)), qRu cy re (E) (((ne : Nat) : Int)), [(fw, aI cy 16 (qu w19 k (u_33.2.2.1 : Int)))]]) hP [0, 2, 3, 4, 5, 6, 7, 8, 1] rfl
          have hD := fl_subD (bs' := [[(x, .inr (7, [.ref (la), .ref (fa), .ref (xh), .ref (la2), .ref (fb), .ref (fw), .int (qz (kw)), .ref (bu), .int (qI (len)), .ref (ta)]))], [(fb, .inr (1, [.ref (gb2 0), .ref (oc2 0), .ref (oe2 0), .ref (rs2 0), .int (qI (u_33.2.1))]))], qBo cy gb2 (u_33.1), qOu cy oc2 (u_33.2.2.1 : Int) (u_33.2.2.2.1) (u_33.2.2.2.2.1), qOu cy oe2 (u_33.2.2.2.2.2.1 : Int) (u_33.2.2.2.2.2.2.1) (u_33.2.2.2.2.2.2.2), [(la, .inr (3, [.ref (lv9), .ref (ls9), .ref (rc 0), .ref (re 0)]))], qRu cy rc (C) (((nc : Nat) : Int)), qRu cy re (E) (((ne : Nat) : Int)), [(fw, aI cy 16 (qu w19 k (u_33.2.2.1 : Int)))]]) hD [0, 2, 3, 4, 5, 6, 7, 8, 1] (by decide) rfl
          exact ih_10 (k + 1) _ _ _ _ _ _ _ _ _ (by omega) (by omega) (kWo.step hw9 (fRel.can hE hC he hc h_33).2.1) _ _ _ hP hD hS (lv_sub hl [1, 0] rfl)
    exact L_10 (nc + 1) (0) _ _ _ _ _ _ _ _ _ (by omega) (by omega) (fun k hk => absurd hk (Nat.not_lt_zero k)) _ _ _ hP hD hS (lv_sub hl [1, 0] rfl)
  · skip
    subst c_4
    exact hQ _ _ _ _ (t1, M1, F1, g1, q1, G1, e1, y1, w1) (hkw rfl) hP hD hS dX7_knowWithout_7

set_option maxRecDepth 100000 in
set_option maxHeartbeats 4000000 in
theorem c_X4_filledOneO (l : Launch) (D : va_G) (cy : Nat → ClassId) (o : Nat → Nat) (F : Nat) (mg tn : Nat → Int) (hF : F < 65536) (q9 : Int) (k : Nat) (hk : q9 = (k : Int) ∧ k < 16) : qRd l yX4_filledOne (.code yX4_filledOne cX4_filledOne 2 (some .int)) 1 [.ref (o 0), .int (qI (q9))] D cy [qOu cy o (((F : Nat) : Int)) (mg) (tn)] (vp_Si (fun v => v = qI (((F.testBit k).toNat : Nat) : Int))) := by
  refine q_ofRi (by decide +kernel) (Nat.le_of_ble_eq_true rfl) ?_
  intro p e s m args below meth c Q hx hb hml hown hg hQ hK hN hP ls hl
  have hown : s.vm.findClass RX4 = some m.cls := hown
  have hl : lv_has ls 2 [(0, .ref (o 0)), (1, .int (qI (q9)))] := hl
  refine lv_aload_n hx hb dX4_filledOne_0 rfl (lv_at hl 0 rfl) ?_
  refine gf_X4_18 hx hb hg hown hK (fl_blk hP 0 rfl) 0 rfl rfl dX4_filledOne_1 ?_
  refine lv_iload_n hx hb dX4_filledOne_4 rfl (lv_at hl 1 rfl) ?_
  refine q_ishr (F := F) (k := k) hx hb (by omega) dX4_filledOne_5 ?_
  refine q_iconst hx hb dX4_filledOne_6 ?_
  refine q_iand (F := (F) / 2 ^ (k)) (k := 1) hx hb (by omega) dX4_filledOne_7 ?_
  exact hQ _ _ _ (congrArg (fun n : Nat => qI (n : Int)) bitN) dX4_filledOne_8

set_option maxRecDepth 100000 in
set_option maxHeartbeats 4000000 in
theorem c_X7_fixedPlaces (l : Launch) (D : va_G) (cy : Nat → ClassId) (x la lv9 ls9 fa xh xs la2 lv92 ls92 fb fw bu ta : Nat) (rc re gb oc oe rs rc2 re2 gb2 oc2 oe2 rs2 rr : Nat → Nat) (ad : Nat → Nat → Nat) (kw : Bool) (len : Int) (v st : Nat → Int) (C : Nat → Nat → Int) (nc : Nat) (E : Nat → Nat → Int) (ne : Nat) (tt : Int) (M : Nat → Nat → Int) (FC : Nat) (mgC tnC : Nat → Int) (FE : Nat) (mgE tnE : Nat → Int) (hF : fCan C nc E ne (-1) M FC mgC tnC FE mgE) (hE : qWR E ne) (hC : qWR C nc) (he : ne ≤ 16) (hc : nc ≤ 16) : qRd l yX7_fixedPlaces (.code yX7_fixedPlaces cX7_fixedPlaces 3 (some .int)) 3 [.ref (x)] D cy [[(x, .inr (7, [.ref (la), .ref (fa), .ref (xh), .ref (la2), .ref (fb), .ref (fw), .int (qz (kw)), .ref (bu), .int (qI (len)), .ref (ta)]))], [(fa, .inr (1, [.ref (gb 0), .ref (oc 0), .ref (oe 0), .ref (rs 0), .int (qI (tt))]))], qBo cy gb (M)] (vp_Si (fun r => r = qI ((cnt (fixB C nc E ne) 10 : Nat) : Int))) := by
  refine q_ofRi (by decide +kernel) (Nat.le_of_ble_eq_true rfl) ?_
  intro p e s m args below meth c Q hx hb hml hown hg hQ hK hN hP ls hl
  have hown : s.vm.findClass RX7 = some m.cls := hown
  have hl : lv_has ls 3 [(0, .ref (x))] := hl
  refine q_iconst hx hb dX7_fixedPlaces_0 ?_
  refine lv_istore_n (lv' := [(1, .int (qI (0))), (0, .ref (x))]) hx hb dX7_fixedPlaces_1 rfl hl (by decide) rfl (fun ls hl => ?_)
  refine q_iconst hx hb dX7_fixedPlaces_2 ?_
  refine lv_istore_n (lv' := [(2, .int (qI (0))), (1, .int (qI (0))), (0, .ref (x))]) hx hb dX7_fixedPlaces_3 rfl hl (by decide) rfl (fun ls hl => ?_)
  have L_4 : ∀ (n_4 k : Nat) (y : Nat), k ≤ 10 → 10 + 1 ≤ k + n_4 → (y = cnt (fixB C nc E ne) k) → (y ≤ k) → ∀ (ls : Array Slot), lv_has ls 3 [(0, .ref (x)), (1, .int (qI (((y : Nat) : Int)))), (2, .int (qI (((k : Nat) : Int))))] → W p l e (qrm 3) s m args below meth c s.heap [] 0 0 Q (F0 m 4 ls []) := by
    intro n_4
    induction n_4 with
    | zero => intro k _ h1 h2; exact absurd h2 (by omega)
    | succ n_4 ih_4 =>
      intro k y hk_4 hn_4 hy hy2 ls hl
      refine lv_iload_n hx hb dX7_fixedPlaces_4 rfl (lv_at hl 2 rfl) ?_
      refine q_bipush hx hb dX7_fixedPlaces_5 (by decide) ?_
      refine q_icmp_ge (tgt := 33) hx hb dX7_fixedPlaces_7 (by decide) (by omega) (fun c_7 => ?_) (fun c_7 => ?_)
      · skip
        refine lv_iload_n hx hb dX7_fixedPlaces_33 rfl (lv_at hl 1 rfl) ?_
        exact hQ _ _ _ (by rw [hy, show k = 10 by omega]) dX7_fixedPlaces_34
      · skip
        have e1 := hF.1 k 10 (by omega) (by omega)
        have e2 := hF.1 10 k (by omega) (by omega)
        have b1 := (fil_ok (but := -1) hE hC he hc).1.2.2 k 10 (by omega) (by omega)
        have b2 := (fil_ok (but := -1) hE hC he hc).1.2.2 10 k (by omega) (by omega)
        rw [← e1] at b1
        rw [← e2] at b2
        refine lv_aload_n hx hb dX7_fixedPlaces_10 rfl (lv_at hl 0 rfl) ?_
        refine gf_X7_19 hx hb hg hown hK (fl_blk hP 0 rfl) 0 rfl rfl dX7_fixedPlaces_11 ?_
        refine gf_X7_182 hx hb hg hown hK (fl_blk hP 1 rfl) 0 rfl rfl dX7_fixedPlaces_14 ?_
        refine lv_iload_n hx hb dX7_fixedPlaces_17 rfl (lv_at hl 2 rfl) ?_
        refine q_readi (va_runV (As := [.int (qI (((k : Nat) : Int)))]) (rest := []) ⟨hx, hb, hml, hown, hg⟩ (c_X0_width l D cy (gb) (M) _ k (by omega)) (cv_X7_212 hg rfl rfl ⟨by decide, by decide⟩) ⟨q_blind0, va_recv hK (fl_blk hP 2 rfl) (ci := 0) (q0 := 0) rfl rfl, q_preR _ hK hN hP [2] rfl⟩ rfl rfl hl.1 rfl (lv_room (Nat.le_of_ble_eq_true rfl)) dX7_fixedPlaces_18 ⟨by decide, by decide⟩) (fun r_18 h_18 => ?_)
        subst h_18
        refine q_if_ne (tgt := 27) hx hb dX7_fixedPlaces_21 (by decide) (by omega) (fun c_21 => ?_) (fun c_21 => ?_)
        · skip
          refine q_iinc (k := 2) (lv' := [(2, .int (qI ((((k : Nat) : Int)) + (1)))), (0, .ref (x)), (1, .int (qI (((y : Nat) : Int))))]) hx hb dX7_fixedPlaces_27 hl rfl (by decide) rfl (fun ls hl => ?_)
          refine lv_goto (tgt := 4) hx hb dX7_fixedPlaces_30 (by decide) ?_
          exact ih_4 (k + 1) (y) (by omega) (by omega) (cnt_no hy (decide_eq_false (by omega))) (by omega) _ (lv_sub hl [1, 2, 0] rfl)
        · skip
          refine q_iinc (k := 1) (lv' := [(1, .int (qI ((((y : Nat) : Int)) + (1)))), (0, .ref (x)), (2, .int (qI (((k : Nat) : Int))))]) hx hb dX7_fixedPlaces_24 hl rfl (by decide) rfl (fun ls hl => ?_)
          refine q_iinc (k := 2) (lv' := [(2, .int (qI ((((k : Nat) : Int)) + (1)))), (1, .int (qI ((((y : Nat) : Int)) + (1)))), (0, .ref (x))]) hx hb dX7_fixedPlaces_27 hl rfl (by decide) rfl (fun ls hl => ?_)
          refine lv_goto (tgt := 4) hx hb dX7_fixedPlaces_30 (by decide) ?_
          exact ih_4 (k + 1) ((y + 1)) (by omega) (by omega) (cnt_up hy (decide_eq_true (by omega))) (by omega) _ (lv_sub hl [2, 1, 0] rfl)
  exact L_4 (10 + 1) (0) (0) (by omega) (by omega) rfl (by omega) _ (lv_sub hl [2, 1, 0] rfl)

set_option maxRecDepth 100000 in
set_option maxHeartbeats 4000000 in
theorem c_X7_conditionsThatHold (l : Launch) (D : va_G) (cy : Nat → ClassId) (x la lv9 ls9 fa xh xs la2 lv92 ls92 fb fw bu ta : Nat) (rc re gb oc oe rs rc2 re2 gb2 oc2 oe2 rs2 rr : Nat → Nat) (ad : Nat → Nat → Nat) (kw : Bool) (len : Int) (v st : Nat → Int) (C : Nat → Nat → Int) (nc : Nat) (E : Nat → Nat → Int) (ne : Nat) (hE : qWR E ne) (hC : qWR C nc) (he : ne ≤ 16) (hc : nc ≤ 16) (hV : qV v) : qRd l yX7_conditionsThatHold (.code yX7_conditionsThatHold cX7_conditionsThatHold 3 (some .int)) 3 [.ref (x)] D cy [[(x, .inr (7, [.ref (la), .ref (fa), .ref (xh), .ref (la2), .ref (fb), .ref (fw), .int (qz (kw)), .ref (bu), .int (qI (len)), .ref (ta)]))], [(la, .inr (3, [.ref (lv9), .ref (ls9), .ref (rc 0), .ref (re 0)]))], [(lv9, aI cy 10 (v))], qRu cy rc (C) (((nc : Nat) : Int))] (vp_Si (fun r => r = qI ((cnt (hoB v C) nc : Nat) : Int))) := by
  refine q_ofRi (by decide +kernel) (Nat.le_of_ble_eq_true rfl) ?_
  intro p e s m args below meth c Q hx hb hml hown hg hQ hK hN hP ls hl
  have hown : s.vm.findClass RX7 = some m.cls := hown
  have hl : lv_has ls 3 [(0, .ref (x))] := hl
  refine q_iconst hx hb dX7_conditionsThatHold_0 ?_
  refine lv_istore_n (lv' := [(1, .int (qI (0))), (0, .ref (x))]) hx hb dX7_conditionsThatHold_1 rfl hl (by decide) rfl (fun ls hl => ?_)
  refine q_iconst hx hb dX7_conditionsThatHold_2 ?_
  refine lv_istore_n (lv' := [(2, .int (qI (0))), (1, .int (qI (0))), (0, .ref (x))]) hx hb dX7_conditionsThatHold_3 rfl hl (by decide) rfl (fun ls hl => ?_)
  have L_4 : ∀ (n_4 k : Nat) (y : Nat), k ≤ nc → nc + 1 ≤ k + n_4 → (y = cnt (hoB v C) k) → (y ≤ k) → ∀ (ls : Array Slot), lv_has ls 3 [(0, .ref (x)), (1, .int (qI (((y : Nat) : Int)))), (2, .int (qI (((k : Nat) : Int))))] → W p l e (qrm 3) s m args below meth c s.heap [] 0 0 Q (F0 m 4 ls []) := by
    intro n_4
    induction n_4 with
    | zero => intro k _ h1 h2; exact absurd h2 (by omega)
    | succ n_4 ih_4 =>
      intro k y hk_4 hn_4 hy hy2 ls hl
      refine lv_iload_n hx hb dX7_conditionsThatHold_4 rfl (lv_at hl 2 rfl) ?_
      refine lv_aload_n hx hb dX7_conditionsThatHold_5 rfl (lv_at hl 0 rfl) ?_
      refine gf_X7_12 hx hb hg hown hK (fl_blk hP 0 rfl) 0 rfl rfl dX7_conditionsThatHold_6 ?_
      refine gf_X7_71 hx hb hg hown hK (fl_blk hP 1 rfl) 0 rfl rfl dX7_conditionsThatHold_9 ?_
      refine gf_X7_75 hx hb hg hown hK (fl_blk hP 3 rfl) 0 rfl rfl dX7_conditionsThatHold_12 ?_
      refine q_icmp_ge (tgt := 38) hx hb dX7_conditionsThatHold_15 (by decide) (by omega) (fun c_15 => ?_) (fun c_15 => ?_)
      · skip
        refine lv_iload_n hx hb dX7_conditionsThatHold_38 rfl (lv_at hl 1 rfl) ?_
        exact hQ _ _ _ (by rw [hy, show k = nc by omega]) dX7_conditionsThatHold_39
      · skip
        refine lv_aload_n hx hb dX7_conditionsThatHold_18 rfl (lv_at hl 0 rfl) ?_
        refine gf_X7_12 hx hb hg hown hK (fl_blk hP 0 rfl) 0 rfl rfl dX7_conditionsThatHold_19 ?_
        refine lv_iload_n hx hb dX7_conditionsThatHold_22 rfl (lv_at hl 2 rfl) ?_
        refine q_readz (va_runV (As := [.int (qI (((k : Nat) : Int)))]) (rest := []) ⟨hx, hb, hml, hown, hg⟩ (c_X3_holds l D cy la lv9 ls9 rc re v C nc hV hC hc _ k (by omega)) (cv_X7_300 hg rfl rfl ⟨by decide, by decide⟩) ⟨q_blind0, va_recv hK (fl_blk hP 1 rfl) (ci := 3) (q0 := 0) rfl rfl, q_preR _ hK hN hP [1, 2, 3] rfl⟩ rfl rfl hl.1 rfl (lv_room (Nat.le_of_ble_eq_true rfl)) dX7_conditionsThatHold_23 ⟨by decide, by decide⟩) (fun b_23 h_23 => ?_)
        refine q_ifz_eq (tgt := 32) hx hb dX7_conditionsThatHold_26 (by decide) (fun c_26 => ?_) (fun c_26 => ?_)
        · skip
          have g_26 := mt (h_23).mpr (by rw [c_26]; decide)
          refine q_iinc (k := 2) (lv' := [(2, .int (qI ((((k : Nat) : Int)) + (1)))), (0, .ref (x)), (1, .int (qI (((y : Nat) : Int))))]) hx hb dX7_conditionsThatHold_32 hl rfl (by decide) rfl (fun ls hl => ?_)
          refine lv_goto (tgt := 4) hx hb dX7_conditionsThatHold_35 (by decide) ?_
          exact ih_4 (k + 1) (y) (by omega) (by omega) (cnt_no hy (Bool.eq_false_iff.mpr (fun q => g_26 (chB_iff.mp q)))) (by omega) _ (lv_sub hl [1, 2, 0] rfl)
        · skip
          have g_26 := (h_23).mp c_26
          refine q_iinc (k := 1) (lv' := [(1, .int (qI ((((y : Nat) : Int)) + (1)))), (0, .ref (x)), (2, .int (qI (((k : Nat) : Int))))]) hx hb dX7_conditionsThatHold_29 hl rfl (by decide) rfl (fun ls hl => ?_)
          refine q_iinc (k := 2) (lv' := [(2, .int (qI ((((k : Nat) : Int)) + (1)))), (1, .int (qI ((((y : Nat) : Int)) + (1)))), (0, .ref (x))]) hx hb dX7_conditionsThatHold_32 hl rfl (by decide) rfl (fun ls hl => ?_)
          refine lv_goto (tgt := 4) hx hb dX7_conditionsThatHold_35 (by decide) ?_
          exact ih_4 (k + 1) ((y + 1)) (by omega) (by omega) (cnt_up hy (chB_iff.mpr g_26)) (by omega) _ (lv_sub hl [2, 1, 0] rfl)
  exact L_4 (nc + 1) (0) (0) (by omega) (by omega) rfl (by omega) _ (lv_sub hl [2, 1, 0] rfl)

set_option maxRecDepth 100000 in
set_option maxHeartbeats 4000000 in
theorem c_X7_sumOfValues (l : Launch) (D : va_G) (cy : Nat → ClassId) (x la lv9 ls9 fa xh xs la2 lv92 ls92 fb fw bu ta : Nat) (rc re gb oc oe rs rc2 re2 gb2 oc2 oe2 rs2 rr : Nat → Nat) (ad : Nat → Nat → Nat) (kw : Bool) (len : Int) (v st : Nat → Int) (C : Nat → Nat → Int) (nc : Nat) (E : Nat → Nat → Int) (ne : Nat) (hV : qV v) : qRd l yX7_sumOfValues (.code yX7_sumOfValues cX7_sumOfValues 3 (some .int)) 1 [.ref (x)] D cy [[(x, .inr (7, [.ref (la), .ref (fa), .ref (xh), .ref (la2), .ref (fb), .ref (fw), .int (qz (kw)), .ref (bu), .int (qI (len)), .ref (ta)]))], [(la, .inr (3, [.ref (lv9), .ref (ls9), .ref (rc 0), .ref (re 0)]))], [(lv9, aI cy 10 (v))]] (vp_Si (fun r => r = qI (sumV v 10))) := by
  refine q_ofRi (by decide +kernel) (Nat.le_of_ble_eq_true rfl) ?_
  intro p e s m args below meth c Q hx hb hml hown hg hQ hK hN hP ls hl
  have hown : s.vm.findClass RX7 = some m.cls := hown
  have hl : lv_has ls 3 [(0, .ref (x))] := hl
  refine q_iconst hx hb dX7_sumOfValues_0 ?_
  refine lv_istore_n (lv' := [(1, .int (qI (0))), (0, .ref (x))]) hx hb dX7_sumOfValues_1 rfl hl (by decide) rfl (fun ls hl => ?_)
  refine q_iconst hx hb dX7_sumOfValues_2 ?_
  refine lv_istore_n (lv' := [(2, .int (qI (0))), (1, .int (qI (0))), (0, .ref (x))]) hx hb dX7_sumOfValues_3 rfl hl (by decide) rfl (fun ls hl => ?_)
  have L_4 : ∀ (n_4 k : Nat) (y : Int), k ≤ 10 → 10 + 1 ≤ k + n_4 → (y = sumV v k) → ∀ (ls : Array Slot), lv_has ls 3 [(0, .ref (x)), (1, .int (qI (y))), (2, .int (qI (((k : Nat) : Int))))] → W p l e (qrm 1) s m args below meth c s.heap [] 0 0 Q (F0 m 4 ls []) := by
    intro n_4
    induction n_4 with
    | zero => intro k _ h1 h2; exact absurd h2 (by omega)
    | succ n_4 ih_4 =>
      intro k y hk_4 hn_4 hy ls hl
      refine lv_iload_n hx hb dX7_sumOfValues_4 rfl (lv_at hl 2 rfl) ?_
      refine q_bipush hx hb dX7_sumOfValues_5 (by decide) ?_
      refine q_icmp_ge (tgt := 28) hx hb dX7_sumOfValues_7 (by decide) (by omega) (fun c_7 => ?_) (fun c_7 => ?_)
      · skip
        refine lv_iload_n hx hb dX7_sumOfValues_28 rfl (lv_at hl 1 rfl) ?_
        exact hQ _ _ _ (by rw [hy, show k = 10 by omega]) dX7_sumOfValues_29
      · skip
        refine lv_iload_n hx hb dX7_sumOfValues_10 rfl (lv_at hl 1 rfl) ?_
        refine lv_aload_n hx hb dX7_sumOfValues_11 rfl (lv_at hl 0 rfl) ?_
        refine gf_X7_12 hx hb hg hown hK (fl_blk hP 0 rfl) 0 rfl rfl dX7_sumOfValues_12 ?_
        refine gf_X7_138 hx hb hg hown hK (fl_blk hP 1 rfl) 0 rfl rfl dX7_sumOfValues_15 ?_
        refine lv_iload_n hx hb dX7_sumOfValues_18 rfl (lv_at hl 2 rfl) ?_
        refine q_iald (j := k) hx hb hK (fl_blk hP 2 rfl) 0 rfl (by omega) dX7_sumOfValues_19 ?_
        refine q_iadd hx hb dX7_sumOfValues_20 ?_
        refine lv_istore_n (lv' := [(1, .int (qI ((y) + (v k)))), (0, .ref (x)), (2, .int (qI (((k : Nat) : Int))))]) hx hb dX7_sumOfValues_21 rfl hl (by decide) rfl (fun ls hl => ?_)
        refine q_iinc (k := 2) (lv' := [(2, .int (qI ((((k : Nat) : Int)) + (1)))), (1, .int (qI ((y) + (v k)))), (0, .ref (x))]) hx hb dX7_sumOfValues_22 hl rfl (by decide) rfl (fun ls hl => ?_)
        refine lv_goto (tgt := 4) hx hb dX7_sumOfValues_25 (by decide) ?_
        exact ih_4 (k + 1) _ (by omega) (by omega) (by rw [hy]; rfl) _ (lv_sub hl [2, 1, 0] rfl)
  exact L_4 (10 + 1) (0) (0) (by omega) (by omega) rfl _ (lv_sub hl [2, 1, 0] rfl)

set_option maxRecDepth 100000 in
set_option maxHeartbeats 4000000 in
theorem c_X7_placesNotAt (l : Launch) (D : va_G) (cy : Nat → ClassId) (x la lv9 ls9 fa xh xs la2 lv92 ls92 fb fw bu ta : Nat) (rc re gb oc oe rs rc2 re2 gb2 oc2 oe2 rs2 rr : Nat → Nat) (ad : Nat → Nat → Nat) (kw : Bool) (len : Int) (v st : Nat → Int) (C : Nat → Nat → Int) (nc : Nat) (E : Nat → Nat → Int) (ne : Nat) (hV : qV v) (z9 : Int) (hz : -1000 ≤ z9 ∧ z9 ≤ 1000) : qRd l yX7_placesNotAt (.code yX7_placesNotAt cX7_placesNotAt 4 (some .int)) 1 [.ref (x), .int (qI (z9))] D cy [[(x, .inr (7, [.ref (la), .ref (fa), .ref (xh), .ref (la2), .ref (fb), .ref (fw), .int (qz (kw)), .ref (bu), .int (qI (len)), .ref (ta)]))], [(la, .inr (3, [.ref (lv9), .ref (ls9), .ref (rc 0), .ref (re 0)]))], [(lv9, aI cy 10 (v))]] (vp_Si (fun r => r = qI ((cnt (fun i => decide (v i ≠ z9)) 10 : Nat) : Int))) := by
  refine q_ofRi (by decide +kernel) (Nat.le_of_ble_eq_true rfl) ?_
  intro p e s m args below meth c Q hx hb hml hown hg hQ hK hN hP ls hl
  have hown : s.vm.findClass RX7 = some m.cls := hown
  have hl : lv_has ls 4 [(0, .ref (x)), (1, .int (qI (z9)))] := hl
  refine q_iconst hx hb dX7_placesNotAt_0 ?_
  refine lv_istore_n (lv' := [(2, .int (qI (0))), (0, .ref (x)), (1, .int (qI (z9)))]) hx hb dX7_placesNotAt_1 rfl hl (by decide) rfl (fun ls hl => ?_)
  refine q_iconst hx hb dX7_placesNotAt_2 ?_
  refine lv_istore_n (lv' := [(3, .int (qI (0))), (2, .int (qI (0))), (0, .ref (x)), (1, .int (qI (z9)))]) hx hb dX7_placesNotAt_3 rfl hl (by decide) rfl (fun ls hl => ?_)
  have L_4 : ∀ (n_4 k : Nat) (y : Nat), k ≤ 10 → 10 + 1 ≤ k + n_4 → (y = cnt (fun i => decide (v i ≠ z9)) k) → (y ≤ k) → ∀ (ls : Array Slot), lv_has ls 4 [(0, .ref (x)), (1, .int (qI (z9))), (2, .int (qI (((y : Nat) : Int)))), (3, .int (qI (((k : Nat) : Int))))] → W p l e (qrm 1) s m args below meth c s.heap [] 0 0 Q (F0 m 4 ls []) := by
    intro n_4
    induction n_4 with
    | zero => intro k _ h1 h2; exact absurd h2 (by omega)
    | succ n_4 ih_4 =>
      intro k y hk_4 hn_4 hy hy2 ls hl
      refine lv_iload_n hx hb dX7_placesNotAt_4 rfl (lv_at hl 3 rfl) ?_
      refine q_bipush hx hb dX7_placesNotAt_5 (by decide) ?_
      refine q_icmp_ge (tgt := 32) hx hb dX7_placesNotAt_7 (by decide) (by omega) (fun c_7 => ?_) (fun c_7 => ?_)
      · skip
        refine lv_iload_n hx hb dX7_placesNotAt_32 rfl (lv_at hl 2 rfl) ?_
        exact hQ _ _ _ (by rw [hy, show k = 10 by omega]) dX7_placesNotAt_33
      · skip
        refine lv_aload_n hx hb dX7_placesNotAt_10 rfl (lv_at hl 0 rfl) ?_
        refine gf_X7_12 hx hb hg hown hK (fl_blk hP 0 rfl) 0 rfl rfl dX7_placesNotAt_11 ?_
        refine gf_X7_138 hx hb hg hown hK (fl_blk hP 1 rfl) 0 rfl rfl dX7_placesNotAt_14 ?_
        refine lv_iload_n hx hb dX7_placesNotAt_17 rfl (lv_at hl 3 rfl) ?_
        refine q_iald (j := k) hx hb hK (fl_blk hP 2 rfl) 0 rfl (by omega) dX7_placesNotAt_18 ?_
        refine lv_iload_n hx hb dX7_placesNotAt_19 rfl (lv_at hl 1 rfl) ?_
        have b1 := hV k (by omega)
        refine q_icmp_eq (tgt := 26) hx hb dX7_placesNotAt_20 (by decide) (by omega) (fun c_20 => ?_) (fun c_20 => ?_)
        · skip
          refine q_iinc (k := 3) (lv' := [(3, .int (qI ((((k : Nat) : Int)) + (1)))), (0, .ref (x)), (1, .int (qI (z9))), (2, .int (qI (((y : Nat) : Int))))]) hx hb dX7_placesNotAt_26 hl rfl (by decide) rfl (fun ls hl => ?_)
          refine lv_goto (tgt := 4) hx hb dX7_placesNotAt_29 (by decide) ?_
          exact ih_4 (k + 1) (y) (by omega) (by omega) (cnt_no hy (decide_eq_false (by omega))) (by omega) _ (lv_sub hl [1, 2, 3, 0] rfl)
        · skip
          refine q_iinc (k := 2) (lv' := [(2, .int (qI ((((y : Nat) : Int)) + (1)))), (0, .ref (x)), (1, .int (qI (z9))), (3, .int (qI (((k : Nat) : Int))))]) hx hb dX7_placesNotAt_23 hl rfl (by decide) rfl (fun ls hl => ?_)
          refine q_iinc (k := 3) (lv' := [(3, .int (qI ((((k : Nat) : Int)) + (1)))), (2, .int (qI ((((y : Nat) : Int)) + (1)))), (0, .ref (x)), (1, .int (qI (z9)))]) hx hb dX7_placesNotAt_26 hl rfl (by decide) rfl (fun ls hl => ?_)
          refine lv_goto (tgt := 4) hx hb dX7_placesNotAt_29 (by decide) ?_
          exact ih_4 (k + 1) ((y + 1)) (by omega) (by omega) (cnt_up hy (decide_eq_true c_20)) (by omega) _ (lv_sub hl [2, 3, 1, 0] rfl)
  exact L_4 (10 + 1) (0) (0) (by omega) (by omega) rfl (by omega) _ (lv_sub hl [2, 3, 1, 0] rfl)
