theorem q_max_X1_118 {p : Program} {l : Launch} {e : Env} {R : Room} {s : State} {m : MethodId} {args : Array Value} {below : List Frame} {meth : Method} {c : Code} {H : Heap} {locs : List Loc} {cells slots : Nat} {Q : State → Prop} {cc : ByteArray} {pc : Nat} {ls : Array Slot} {rest : List Value} (hx : p.tables.exec = Jvm.exec) (hb : c.code = cc) (hg : ∀ w ∈ wG, w.before args s = true) (hml : c.maxLocals = ls.size) (hown : s.vm.findClass RX1 = some m.cls) (hR : 1 ≤ R.frames ∧ (rest.map fun v => v.category).sum + 13 ≤ R.locals ∧ cells ≤ R.cells ∧ slots ≤ R.slots) {x y : Int} (hr : (-2147483648 ≤ x ∧ x < 2147483648) ∧ (-2147483648 ≤ y ∧ y < 2147483648)) (hdg : decode cc pc = .ok (.invokestatic 118, 3)) (kk : W p l e R s m args below meth c H locs cells slots Q (F0 m (pc + 3) ls (.int (qI (if x < y then y else x)) :: rest))) : W p l e R s m args below meth c H locs cells slots Q (F0 m pc ls (.int (qI y) :: .int (qI x) :: rest)) := by
  refine va_mmax hx hb hml hown (hg _ m_85) (hg _ m_86) (hg _ m_87) (hg _ m_88) hR.1 hR.2.1 hR.2.2.1 hR.2.2.2 hdg ?_
  have e9 := qI_lt hr
  have e8 : (if qI x < qI y then qI y else qI x) = qI (if x < y then y else x) := by
    by_cases h : x < y
    · rw [if_pos (e9.mpr h), if_pos h]
    · rw [if_neg (fun q => h (e9.mp q)), if_neg h]
  rw [e8]
  exact kk
theorem q_min_X1_123 {p : Program} {l : Launch} {e : Env} {R : Room} {s : State} {m : MethodId} {args : Array Value} {below : List Frame} {meth : Method} {c : Code} {H : Heap} {locs : List Loc} {cells slots : Nat} {Q : State → Prop} {cc : ByteArray} {pc : Nat} {ls : Array Slot} {rest : List Value} (hx : p.tables.exec = Jvm.exec) (hb : c.code = cc) (hg : ∀ w ∈ wG, w.before args s = true) (hml : c.maxLocals = ls.size) (hown : s.vm.findClass RX1 = some m.cls) (hR : 1 ≤ R.frames ∧ (rest.map fun v => v.category).sum + 13 ≤ R.locals ∧ cells ≤ R.cells ∧ slots ≤ R.slots) {x y : Int} (hr : (-2147483648 ≤ x ∧ x < 2147483648) ∧ (-2147483648 ≤ y ∧ y < 2147483648)) (hdg : decode cc pc = .ok (.invokestatic 123, 3)) (kk : W p l e R s m args below meth c H locs cells slots Q (F0 m (pc + 3) ls (.int (qI (if y < x then y else x)) :: rest))) : W p l e R s m args below meth c H locs cells slots Q (F0 m pc ls (.int (qI y) :: .int (qI x) :: rest)) := by
  refine va_mmin hx hb hml hown (hg _ m_89) (hg _ m_90) (hg _ m_87) (hg _ m_91) hR.1 hR.2.1 hR.2.2.1 hR.2.2.2 hdg ?_
  have e9 := qI_lt hr.symm
  have e8 : (if qI y < qI x then qI y else qI x) = qI (if y < x then y else x) := by
    by_cases h : y < x
    · rw [if_pos (e9.mpr h), if_pos h]
    · rw [if_neg (fun q => h (e9.mp q)), if_neg h]
  rw [e8]
  exact kk
theorem q_min_X2_29 {p : Program} {l : Launch} {e : Env} {R : Room} {s : State} {m : MethodId} {args : Array Value} {below : List Frame} {meth : Method} {c : Code} {H : Heap} {locs : List Loc} {cells slots : Nat} {Q : State → Prop} {cc : ByteArray} {pc : Nat} {ls : Array Slot} {rest : List Value} (hx : p.tables.exec = Jvm.exec) (hb : c.code = cc) (hg : ∀ w ∈ wG, w.before args s = true) (hml : c.maxLocals = ls.size) (hown : s.vm.findClass RX2 = some m.cls) (hR : 1 ≤ R.frames ∧ (rest.map fun v => v.category).sum + 13 ≤ R.locals ∧ cells ≤ R.cells ∧ slots ≤ R.slots) {x y : Int} (hr : (-2147483648 ≤ x ∧ x < 2147483648) ∧ (-2147483648 ≤ y ∧ y < 2147483648)) (hdg : decode cc pc = .ok (.invokestatic 29, 3)) (kk : W p l e R s m args below meth c H locs cells slots Q (F0 m (pc + 3) ls (.int (qI (if y < x then y else x)) :: rest))) : W p l e R s m args below meth c H locs cells slots Q (F0 m pc ls (.int (qI y) :: .int (qI x) :: rest)) := by
  refine va_mmin hx hb hml hown (hg _ m_138) (hg _ m_90) (hg _ m_87) (hg _ m_91) hR.1 hR.2.1 hR.2.2.1 hR.2.2.2 hdg ?_
  have e9 := qI_lt hr.symm
  have e8 : (if qI y < qI x then qI y else qI x) = qI (if y < x then y else x) := by
    by_cases h : y < x
    · rw [if_pos (e9.mpr h), if_pos h]
    · rw [if_neg (fun q => h (e9.mp q)), if_neg h]
  rw [e8]
  exact kk
/-! ===== settling ===== -/
def clv (v lo hi : Int) : Int := if v < lo then lo else if hi < v then hi else v
abbrev SE : Type := (Nat → Int) × (Nat → Nat → Int)
def seP (k : Nat) (S : SE) : SE := (qu S.1 k (clv (S.1 k) (-(S.2 10 k)) (S.2 k 10)), tg (tg S.2 k 10 (clv (S.1 k) (-(S.2 10 k)) (S.2 k 10))) 10 k (-(clv (S.1 k) (-(S.2 10 k)) (S.2 k 10))))
def seL (st : Nat → Int) (v : Int) : Nat → SE → SE
  | 0, S => S
  | k + 1, S => if st k = v then seP k (seL st v k S) else seL st v k S
def seS (st : Nat → Int) : Nat → SE → SE
  | 0, S => S
  | j + 1, S => seL st (9 - j) 10 (seS st j S)
/-- values in range -/
def qV (v : Nat → Int) : Prop := ∀ k, k < 10 → -1000 ≤ v k ∧ v k ≤ 1000
def seOk (S : SE) : Prop := qCl S.2 ∧ qV S.1
theorem cl_need {M : Nat → Nat → Int} (C : qCl M) {k : Nat} (hk : k < 10) {v : Int} (hv : -1000 ≤ v ∧ v ≤ 1000) : 0 ≤ clv v (-(M 10 k)) (M k 10) + M 10 k ∧ clv v (-(M 10 k)) (M k 10) ≤ M k 10 ∧ -1000 ≤ clv v (-(M 10 k)) (M k 10) ∧ clv v (-(M 10 k)) (M k 10) ≤ 1000 := by
  have h1 := C.1 k k 10 (by omega) (by omega) (by omega)
  have h2 := C.2.1 k (by omega)
  have h3 := C.2.2 10 k (by omega) (by omega)
  have h4 := C.2.2 k 10 (by omega) (by omega)
  unfold clv
  refine ⟨?_, ?_, ?_, ?_⟩ <;> (repeat' split) <;> omega
theorem seP_ok {S : SE} (h : seOk S) {k : Nat} (hk : k < 10) : seOk (seP k S) := by
  obtain ⟨h1, h2⟩ := h
  obtain ⟨n1, n2, n3, n4⟩ := cl_need h1 hk (h2 k hk)
  refine ⟨tg_cl (tg_cl h1 (by omega) (by omega) n1) (by omega) (by omega) ?_, fun i hi => ?_⟩
  · rw [tg_ab h1 (by omega) (by omega) n2]
    omega
  · show -1000 ≤ qu S.1 k _ i ∧ qu S.1 k _ i ≤ 1000
    by_cases e : i = k
    · subst e
      rw [qu_s]
      exact ⟨n3, n4⟩
    · rw [qu_n _ _ e]
      exact h2 i hi
theorem seL_ok {st : Nat → Int} {v : Int} {S : SE} (h : seOk S) : ∀ k : Nat, k ≤ 10 → seOk (seL st v k S)
  | 0, _ => h
  | k + 1, hk => by
    have ih := seL_ok (st := st) (v := v) h k (by omega)
    simp only [seL]
    split
    · exact seP_ok ih (by omega)
    · exact ih
theorem seS_ok {st : Nat → Int} {S : SE} (h : seOk S) : ∀ j : Nat, seOk (seS st j S)
  | 0 => h
  | j + 1 => seL_ok (seS_ok h j) 10 (Nat.le_refl _)
theorem seP_eq {S T : SE} (h : S.1 = T.1 ∧ qEq S.2 T.2) {k : Nat} (hk : k < 10) : (seP k S).1 = (seP k T).1 ∧ qEq (seP k S).2 (seP k T).2 := by
  obtain ⟨h1, h2⟩ := h
  have e1 := h2 10 k (by omega) (by omega)
  have e2 := h2 k 10 (by omega) (by omega)
  refine ⟨?_, ?_⟩
  · show qu S.1 k _ = qu T.1 k _
    rw [h1, e1, e2]
  · show qEq (tg (tg S.2 k 10 _) 10 k _) (tg (tg T.2 k 10 _) 10 k _)
    rw [h1, e1, e2]
    exact (h2.tg (by omega) (by omega) _).tg (by omega) (by omega) _
/-- values that agree on the ten places settle alike -/
theorem seP_eq2 {S T : SE} (h : (∀ i, i < 10 → S.1 i = T.1 i) ∧ qEq S.2 T.2) {k : Nat} (hk : k < 10) : (∀ i, i < 10 → (seP k S).1 i = (seP k T).1 i) ∧ qEq (seP k S).2 (seP k T).2 := by
  obtain ⟨h1, h2⟩ := h
  have e1 := h2 10 k (by omega) (by omega)
  have e2 := h2 k 10 (by omega) (by omega)
  have e3 := h1 k hk
  refine ⟨fun i hi => ?_, ?_⟩
  · show qu S.1 k _ i = qu T.1 k _ i
    rw [e1, e2, e3]
    by_cases e : i = k
    · subst e
      rw [qu_s, qu_s]
    · rw [qu_n _ _ e, qu_n _ _ e]
      exact h1 i hi
  · show qEq (tg (tg S.2 k 10 _) 10 k _) (tg (tg T.2 k 10 _) 10 k _)
    rw [e3, e1, e2]
    exact (h2.tg (by omega) (by omega) _).tg (by omega) (by omega) _
theorem seL_eq2 {st st2 : Nat → Int} (hs : ∀ i, i < 10 → st i = st2 i) {v : Int} {S T : SE} (h : (∀ i, i < 10 → S.1 i = T.1 i) ∧ qEq S.2 T.2) : ∀ k : Nat, k ≤ 10 → (∀ i, i < 10 → (seL st v k S).1 i = (seL st2 v k T).1 i) ∧ qEq (seL st v k S).2 (seL st2 v k T).2
  | 0, _ => h
  | k + 1, hk => by
    have ih := seL_eq2 hs (v := v) h k (by omega)
    simp only [seL]
    rw [hs k (by omega)]
    split
    · exact seP_eq2 ih (by omega)
    · exact ih
theorem seS_eq2 {st st2 : Nat → Int} (hs : ∀ i, i < 10 → st i = st2 i) {S T : SE} (h : (∀ i, i < 10 → S.1 i = T.1 i) ∧ qEq S.2 T.2) : ∀ j : Nat, (∀ i, i < 10 → (seS st j S).1 i = (seS st2 j T).1 i) ∧ qEq (seS st j S).2 (seS st2 j T).2
  | 0 => h
  | j + 1 => seL_eq2 hs (seS_eq2 hs h j) 10 (Nat.le_refl _)

set_option maxRecDepth 100000 in
set_option maxHeartbeats 4000000 in
theorem c_X1_settleOne (l : Launch) (D : va_G) (cy : Nat → ClassId) (f : Nat) (bb oc oe : Nat) (b : Nat → Nat) (t : Int) (M : Nat → Nat → Int) (la lv9 ls9 rc re : Nat) (v : Nat → Int) (x : Int) (k : Nat) (hk : x = (k : Int) ∧ k < 10) (C : qCl M) (hV : qV v) (sz : Nat) : qMet l yX1_settleOne (.code yX1_settleOne cX1_settleOne 5 none) 3 [.ref (f), .ref (la), .int (qI (x))] D cy [[(f, .inr (1, [.ref (bb), .ref (oc), .ref (oe), .ref (b 0), .int (qI (t))]))], qBo cy b (M), [(la, .inr (3, [.ref (lv9), .ref (ls9), .ref (rc), .ref (re)]))], [(lv9, aI cy 10 (v))]] sz (va_Qv (S := (Nat → Int) × (Nat → Nat → Int)) (fun u => u.1 = (seP k (v, M)).1 ∧ qEq u.2 (seP k (v, M)).2) (qB D cy [[(f, .inr (1, [.ref (bb), .ref (oc), .ref (oe), .ref (b 0), .int (qI (t))]))], qBo cy b (M), [(la, .inr (3, [.ref (lv9), .ref (ls9), .ref (rc), .ref (re)]))], [(lv9, aI cy 10 (v))]] sz (fun u => [[(f, .inr (1, [.ref (bb), .ref (oc), .ref (oe), .ref (b 0), .int (qI (t))]))], qBo cy b (u.2), [(la, .inr (3, [.ref (lv9), .ref (ls9), .ref (rc), .ref (re)]))], [(lv9, aI cy 10 (u.1))]])) (va_A [[(f, .inr (1, [.ref (bb), .ref (oc), .ref (oe), .ref (b 0), .int (qI (t))]))], qBo cy b (M), [(la, .inr (3, [.ref (lv9), .ref (ls9), .ref (rc), .ref (re)]))], [(lv9, aI cy 10 (v))]].flatten sz)) := by
  refine q_ofMv (S := (Nat → Int) × (Nat → Nat → Int)) (b1 := fun u => [[(f, .inr (1, [.ref (bb), .ref (oc), .ref (oe), .ref (b 0), .int (qI (t))]))], qBo cy b (u.2), [(la, .inr (3, [.ref (lv9), .ref (ls9), .ref (rc), .ref (re)]))], [(lv9, aI cy 10 (u.1))]]) (post := fun u => u.1 = (seP k (v, M)).1 ∧ qEq u.2 (seP k (v, M)).2) (by decide +kernel) (Nat.le_of_ble_eq_true rfl) ?_
  intro p e s m args below meth c Q A hx hb hml hown hg hQ hK hN hD hA H locs ls hP hS hl
  have hown : s.vm.findClass RX1 = some m.cls := hown
  have hl : lv_has ls 5 [(0, .ref (f)), (1, .ref (la)), (2, .int (qI (x)))] := hl
  have hk1 := hk.1
  have hk2 := hk.2
  have b1 := C.2.2 k 10 (by omega) (by omega)
  have b2 := C.2.2 10 k (by omega) (by omega)
  have b3 := hV k hk2
  have b4 := C.1 k k 10 (by omega) (by omega) (by omega)
  have b5 := C.2.1 k (by omega)
  obtain ⟨w9, hw9⟩ : ∃ w9, w9 = clv (v k) (-(M 10 k)) (M k 10) := ⟨_, rfl⟩
  obtain ⟨n1, n2, n3, n4⟩ := cl_need C hk2 b3
  rw [← hw9] at n1 n2 n3 n4
  refine lv_aload_n hx hb dX1_settleOne_0 rfl (lv_at hl 1 rfl) ?_
  refine gf_X1_115 hx hb hg hown hK (fl_blk hP 2 rfl) 0 rfl rfl dX1_settleOne_1 ?_
  refine lv_iload_n hx hb dX1_settleOne_4 rfl (lv_at hl 2 rfl) ?_
  refine q_iald (j := k) hx hb hK (fl_blk hP 3 rfl) 0 rfl (by omega) dX1_settleOne_5 ?_
  refine lv_aload_n hx hb dX1_settleOne_6 rfl (lv_at hl 0 rfl) ?_
  refine gf_X1_28 hx hb hg hown hK (fl_blk hP 0 rfl) 0 rfl rfl dX1_settleOne_7 ?_
  refine lv_iload_n hx hb dX1_settleOne_10 rfl (lv_at hl 2 rfl) ?_
  refine q_bipush hx hb dX1_settleOne_11 (by decide) ?_
  refine q_readi (va_runV (As := [.int (qI (x)), .int (qI (10))]) (rest := [.int (qI (v k))]) ⟨hx, hb, hml, hown, hg⟩ (c_X0_least l D cy (b) (M) _ _ k 10 (by omega) (by omega)) (cv_X1_70 hg rfl rfl ⟨by decide, by decide⟩) ⟨q_blind0, va_recv hK (fl_blk hP 1 rfl) (ci := 0) (q0 := 0) rfl rfl, q_preR _ hK hN hP [1] rfl⟩ rfl rfl hl.1 rfl (lv_room (Nat.le_of_ble_eq_true rfl)) dX1_settleOne_13 ⟨by decide, by decide⟩) (fun r_13 h_13 => ?_)
  subst h_13
  refine q_max_X1_118 (rest := []) hx hb hg (hml.trans hl.1.symm) hown ⟨by decide, Nat.le_of_ble_eq_true rfl, by decide, by decide⟩ (by first | omega | (constructor <;> (repeat' split) <;> omega)) dX1_settleOne_16 ?_
  refine lv_istore_n (lv' := [(3, .int (qI (if v k < -(M 10 k) then -(M 10 k) else v k))), (0, .ref (f)), (1, .ref (la)), (2, .int (qI (x)))]) hx hb dX1_settleOne_19 rfl hl (by decide) rfl (fun ls hl => ?_)
  refine lv_iload_n hx hb dX1_settleOne_20 rfl (lv_at hl 0 rfl) ?_
  refine lv_aload_n hx hb dX1_settleOne_21 rfl (lv_at hl 1 rfl) ?_
  refine gf_X1_28 hx hb hg hown hK (fl_blk hP 0 rfl) 0 rfl rfl dX1_settleOne_22 ?_
  refine lv_iload_n hx hb dX1_settleOne_25 rfl (lv_at hl 3 rfl) ?_
  refine q_bipush hx hb dX1_settleOne_26 (by decide) ?_
  refine q_readi (va_runV (As := [.int (qI (x)), .int (qI (10))]) (rest := [.int (qI (if v k < -(M 10 k) then -(M 10 k) else v k))]) ⟨hx, hb, hml, hown, hg⟩ (c_X0_greatest l D cy (b) (M) _ _ k 10 (by omega) (by omega)) (cv_X1_74 hg rfl rfl ⟨by decide, by decide⟩) ⟨q_blind0, va_recv hK (fl_blk hP 1 rfl) (ci := 0) (q0 := 0) rfl rfl, q_preR _ hK hN hP [1] rfl⟩ rfl rfl hl.1 rfl (lv_room (Nat.le_of_ble_eq_true rfl)) dX1_settleOne_28 ⟨by decide, by decide⟩) (fun r_28 h_28 => ?_)
  subst h_28
  refine q_min_X1_123 (rest := []) hx hb hg (hml.trans hl.1.symm) hown ⟨by decide, Nat.le_of_ble_eq_true rfl, by decide, by decide⟩ (by first | omega | (constructor <;> (repeat' split) <;> omega)) dX1_settleOne_31 ?_
  refine q_topZ (y := w9) (by rw [hw9]; unfold clv; (repeat' split) <;> omega) ?_
  refine lv_istore (lv' := [(4, .int (qI (w9))), (3, .int (qI (if v k < -(M 10 k) then -(M 10 k) else v k))), (0, .ref (f)), (1, .ref (la)), (2, .int (qI (x)))]) hx hb dX1_settleOne_34 hl (by decide) rfl (fun ls hl => ?_)
  refine lv_aload_n hx hb dX1_settleOne_36 rfl (lv_at hl 3 rfl) ?_
  refine gf_X1_115 hx hb hg hown hK (fl_blk hP 2 rfl) 0 rfl rfl dX1_settleOne_37 ?_
  refine lv_iload_n hx hb dX1_settleOne_40 rfl (lv_at hl 4 rfl) ?_
  refine lv_iload hx hb dX1_settleOne_41 (lv_at hl 0 rfl) ?_
  refine qb_iast (j := k) hx hb hK hP hD hS 3 0 rfl rfl (by omega) dX1_settleOne_43 (fun H locs hP hD hS => ?_)
  have hP : va_P D vwCl [[(f, .inr (1, [.ref (bb), .ref (oc), .ref (oe), .ref (b 0), .int (qI (t))]))], qBo cy b (M), [(la, .inr (3, [.ref (lv9), .ref (ls9), .ref (rc), .ref (re)]))], [(lv9, aI cy 10 (qu v k (w9)))]].flatten H := hP
  have hD : va_D A [[(f, .inr (1, [.ref (bb), .ref (oc), .ref (oe), .ref (b 0), .int (qI (t))]))], qBo cy b (M), [(la, .inr (3, [.ref (lv9), .ref (ls9), .ref (rc), .ref (re)]))], [(lv9, aI cy 10 (qu v k (w9)))]].flatten := hD
  refine lv_aload_n hx hb dX1_settleOne_44 rfl (lv_at hl 2 rfl) ?_
  refine gf_X1_28 hx hb hg hown hK (fl_blk hP 0 rfl) 0 rfl rfl dX1_settleOne_45 ?_
  refine lv_iload_n hx hb dX1_settleOne_48 rfl (lv_at hl 4 rfl) ?_
  refine q_bipush hx hb dX1_settleOne_49 (by decide) ?_
  refine lv_iload hx hb dX1_settleOne_51 (lv_at hl 0 rfl) ?_
  refine q_backv [1] [0, 2, 3] (br := [[(f, .inr (1, [.ref (bb), .ref (oc), .ref (oe), .ref (b 0), .int (qI (t))]))], [(la, .inr (3, [.ref (lv9), .ref (ls9), .ref (rc), .ref (re)]))], [(lv9, aI cy 10 (qu v k (w9)))]]) hP hD hS hA (va_runV (As := [.int (qI (x)), .int (qI (10)), .int (qI (w9))]) (rest := []) ⟨hx, hb, hml, hown, hg⟩ (c_X0_limit l D cy (b) (M) _ _ _ k 10 (by omega) (by omega) C (by omega) (by omega) _) (cv_X1_100 hg rfl rfl ⟨by decide, by decide⟩) ⟨q_blind, va_recv hK (fl_blk hP 1 rfl) (ci := 0) (q0 := 0) rfl rfl, q_preM _ hK hN hP hD [1] (by decide) rfl⟩ rfl rfl hl.1 rfl (lv_room (Nat.le_of_ble_eq_true rfl)) dX1_settleOne_53 ⟨by decide, by decide⟩) rfl rfl (by decide) (fun u_53 H locs h_53 hP hD hS => ?_)
  have hP : va_P D vwCl [[(f, .inr (1, [.ref (bb), .ref (oc), .ref (oe), .ref (b 0), .int (qI (t))]))], [(la, .inr (3, [.ref (lv9), .ref (ls9), .ref (rc), .ref (re)]))], [(lv9, aI cy 10 (qu v k (w9)))], qBo cy b (u_53)].flatten H := hP
  have hD : va_D A [[(f, .inr (1, [.ref (bb), .ref (oc), .ref (oe), .ref (b 0), .int (qI (t))]))], [(la, .inr (3, [.ref (lv9), .ref (ls9), .ref (rc), .ref (re)]))], [(lv9, aI cy 10 (qu v k (w9)))], qBo cy b (u_53)].flatten := hD
  have c2 : qCl u_53 := qEq.cl h_53.symm (tg_cl C (by omega) (by omega) n1)
  have e2 : u_53 k 10 = w9 := by rw [h_53 _ _ (by omega) (by omega), tg_ab C (by omega) (by omega) n2]
  refine lv_aload_n hx hb dX1_settleOne_56 rfl (lv_at hl 2 rfl) ?_
  refine gf_X1_28 hx hb hg hown hK (fl_blk hP 0 rfl) 0 rfl rfl dX1_settleOne_57 ?_
  refine q_bipush hx hb dX1_settleOne_60 (by decide) ?_
  refine lv_iload_n hx hb dX1_settleOne_62 rfl (lv_at hl 4 rfl) ?_
  refine lv_iload hx hb dX1_settleOne_63 (lv_at hl 0 rfl) ?_
  refine q_ineg hx hb dX1_settleOne_65 ?_
  refine q_backv [3] [0, 1, 2] (br := [[(f, .inr (1, [.ref (bb), .ref (oc), .ref (oe), .ref (b 0), .int (qI (t))]))], [(la, .inr (3, [.ref (lv9), .ref (ls9), .ref (rc), .ref (re)]))], [(lv9, aI cy 10 (qu v k (w9)))]]) hP hD hS hA (va_runV (As := [.int (qI (10)), .int (qI (x)), .int (qI (-(w9)))]) (rest := []) ⟨hx, hb, hml, hown, hg⟩ (c_X0_limit l D cy (b) (u_53) _ _ _ 10 k (by omega) (by omega) c2 (by omega) (by omega) _) (cv_X1_100 hg rfl rfl ⟨by decide, by decide⟩) ⟨q_blind, va_recv hK (fl_blk hP 3 rfl) (ci := 0) (q0 := 0) rfl rfl, q_preM _ hK hN hP hD [3] (by decide) rfl⟩ rfl rfl hl.1 rfl (lv_room (Nat.le_of_ble_eq_true rfl)) dX1_settleOne_66 ⟨by decide, by decide⟩) rfl rfl (by decide) (fun u_66 H locs h_66 hP hD hS => ?_)
  have hP : va_P D vwCl [[(f, .inr (1, [.ref (bb), .ref (oc), .ref (oe), .ref (b 0), .int (qI (t))]))], [(la, .inr (3, [.ref (lv9), .ref (ls9), .ref (rc), .ref (re)]))], [(lv9, aI cy 10 (qu v k (w9)))], qBo cy b (u_66)].flatten H := hP
  have hD : va_D A [[(f, .inr (1, [.ref (bb), .ref (oc), .ref (oe), .ref (b 0), .int (qI (t))]))], [(la, .inr (3, [.ref (lv9), .ref (ls9), .ref (rc), .ref (re)]))], [(lv9, aI cy 10 (qu v k (w9)))], qBo cy b (u_66)].flatten := hD
  have hP := fl_sub (bs' := [[(f, .inr (1, [.ref (bb), .ref (oc), .ref (oe), .ref (b 0), .int (qI (t))]))], qBo cy b (u_66), [(la, .inr (3, [.ref (lv9), .ref (ls9), .ref (rc), .ref (re)]))], [(lv9, aI cy 10 (qu v k (w9)))]]) hP [0, 3, 1, 2] rfl
  have hD := fl_subD (bs' := [[(f, .inr (1, [.ref (bb), .ref (oc), .ref (oe), .ref (b 0), .int (qI (t))]))], qBo cy b (u_66), [(la, .inr (3, [.ref (lv9), .ref (ls9), .ref (rc), .ref (re)]))], [(lv9, aI cy 10 (qu v k (w9)))]]) hD [0, 3, 1, 2] (by decide) rfl
  exact hQ _ _ _ _ (qu v k w9, u_66) ⟨by subst hw9; rfl, by subst hw9; exact h_66.trans (h_53.tg (by omega) (by omega) _)⟩ hP hD hS dX1_settleOne_69

set_option maxRecDepth 100000 in
set_option maxHeartbeats 4000000 in
theorem c_X1_settle (l : Launch) (D : va_G) (cy : Nat → ClassId) (f : Nat) (b rs oc oe : Nat → Nat) (t : Int) (M N : Nat → Nat → Int) (la lv9 ls9 rc re : Nat) (v st : Nat → Int) (C : qCl M) (hV : qV v) (hst : ∀ i, i < 10 → 0 ≤ st i ∧ st i ≤ 9) (sz : Nat) : qMet l yX1_settle (.code yX1_settle cX1_settle 4 none) 4 [.ref (f), .ref (la)] D cy [[(f, .inr (1, [.ref (b 0), .ref (oc 0), .ref (oe 0), .ref (rs 0), .int (qI (t))]))], qBo cy b (M), qBo cy rs (N), [(la, .inr (3, [.ref (lv9), .ref (ls9), .ref (rc), .ref (re)]))], [(lv9, aI cy 10 (v))], [(ls9, aI cy 10 (st))]] sz (va_Qv (S := (Nat → Int) × (Nat → Nat → Int)) (fun u => u.1 = (seS st 10 (v, M)).1 ∧ qEq u.2 (seS st 10 (v, M)).2) (qB D cy [[(f, .inr (1, [.ref (b 0), .ref (oc 0), .ref (oe 0), .ref (rs 0), .int (qI (t))]))], qBo cy b (M), qBo cy rs (N), [(la, .inr (3, [.ref (lv9), .ref (ls9), .ref (rc), .ref (re)]))], [(lv9, aI cy 10 (v))], [(ls9, aI cy 10 (st))]] sz (fun u => [[(f, .inr (1, [.ref (b 0), .ref (oc 0), .ref (oe 0), .ref (rs 0), .int (qI (t))]))], qBo cy b (M), qBo cy rs (u.2), [(la, .inr (3, [.ref (lv9), .ref (ls9), .ref (rc), .ref (re)]))], [(lv9, aI cy 10 (u.1))], [(ls9, aI cy 10 (st))]])) (va_A [[(f, .inr (1, [.ref (b 0), .ref (oc 0), .ref (oe 0), .ref (rs 0), .int (qI (t))]))], qBo cy b (M), qBo cy rs (N), [(la, .inr (3, [.ref (lv9), .ref (ls9), .ref (rc), .ref (re)]))], [(lv9, aI cy 10 (v))], [(ls9, aI cy 10 (st))]].flatten sz)) := by
  refine q_ofMv (S := (Nat → Int) × (Nat → Nat → Int)) (b1 := fun u => [[(f, .inr (1, [.ref (b 0), .ref (oc 0), .ref (oe 0), .ref (rs 0), .int (qI (t))]))], qBo cy b (M), qBo cy rs (u.2), [(la, .inr (3, [.ref (lv9), .ref (ls9), .ref (rc), .ref (re)]))], [(lv9, aI cy 10 (u.1))], [(ls9, aI cy 10 (st))]]) (post := fun u => u.1 = (seS st 10 (v, M)).1 ∧ qEq u.2 (seS st 10 (v, M)).2) (by decide +kernel) (Nat.le_of_ble_eq_true rfl) ?_
  intro p e s m args below meth c Q A hx hb hml hown hg hQ hK hN hD hA H locs ls hP hS hl
  have hown : s.vm.findClass RX1 = some m.cls := hown
  have hl : lv_has ls 4 [(0, .ref (f)), (1, .ref (la))] := hl
  refine lv_aload_n hx hb dX1_settle_0 rfl (lv_at hl 0 rfl) ?_
  refine gf_X1_28 hx hb hg hown hK (fl_blk hP 0 rfl) 0 rfl rfl dX1_settle_1 ?_
  refine lv_aload_n hx hb dX1_settle_4 rfl (lv_at hl 0 rfl) ?_
  refine gf_X1_12 hx hb hg hown hK (fl_blk hP 0 rfl) 0 rfl rfl dX1_settle_5 ?_
  refine q_backv [2, 1] [0, 3, 4, 5] (br := [[(f, .inr (1, [.ref (b 0), .ref (oc 0), .ref (oe 0), .ref (rs 0), .int (qI (t))]))], [(la, .inr (3, [.ref (lv9), .ref (ls9), .ref (rc), .ref (re)]))], [(lv9, aI cy 10 (v))], [(ls9, aI cy 10 (st))]]) hP hD hS hA (va_runV (As := [.ref (b 0)]) (rest := []) ⟨hx, hb, hml, hown, hg⟩ (c_X0_copyFrom l D cy (rs) (b) (N) (M) _) (cv_X1_104 hg rfl rfl ⟨by decide, by decide⟩) ⟨q_blind, va_recv hK (fl_blk hP 2 rfl) (ci := 0) (q0 := 0) rfl rfl, q_preM _ hK hN hP hD [2, 1] (by decide) rfl⟩ rfl rfl hl.1 rfl (lv_room (Nat.le_of_ble_eq_true rfl)) dX1_settle_8 ⟨by decide, by decide⟩) rfl rfl (by decide) (fun u_8 H locs h_8 hP hD hS => ?_)
  have hP : va_P D vwCl [[(f, .inr (1, [.ref (b 0), .ref (oc 0), .ref (oe 0), .ref (rs 0), .int (qI (t))]))], [(la, .inr (3, [.ref (lv9), .ref (ls9), .ref (rc), .ref (re)]))], [(lv9, aI cy 10 (v))], [(ls9, aI cy 10 (st))], qBo cy rs (u_8), qBo cy b (M)].flatten H := hP
  have hD : va_D A [[(f, .inr (1, [.ref (b 0), .ref (oc 0), .ref (oe 0), .ref (rs 0), .int (qI (t))]))], [(la, .inr (3, [.ref (lv9), .ref (ls9), .ref (rc), .ref (re)]))], [(lv9, aI cy 10 (v))], [(ls9, aI cy 10 (st))], qBo cy rs (u_8), qBo cy b (M)].flatten := hD
  refine q_bipush hx hb dX1_settle_11 (by decide) ?_
  refine lv_istore_n (lv' := [(2, .int (qI (9))), (0, .ref (f)), (1, .ref (la))]) hx hb dX1_settle_13 rfl hl (by decide) rfl (fun ls hl => ?_)
  have L_14 : ∀ (n_14 j : Nat) (x3 : Int) (N1 : Nat → Nat → Int) (v1 : Nat → Int), j ≤ 10 → 10 + 1 ≤ j + n_14 → (x3 = 9 - (j : Int)) → (v1 = (seS st j (v, M)).1 ∧ qEq N1 (seS st j (v, M)).2) → ∀ (H : Heap) (locs : List Loc) (ls : Array Slot), va_P D vwCl [[(f, .inr (1, [.ref (b 0), .ref (oc 0), .ref (oe 0), .ref (rs 0), .int (qI (t))]))], qBo cy b (M), qBo cy rs (N1), [(la, .inr (3, [.ref (lv9), .ref (ls9), .ref (rc), .ref (re)]))], [(lv9, aI cy 10 (v1))], [(ls9, aI cy 10 (st))]].flatten H → va_D A [[(f, .inr (1, [.ref (b 0), .ref (oc 0), .ref (oe 0), .ref (rs 0), .int (qI (t))]))], qBo cy b (M), qBo cy rs (N1), [(la, .inr (3, [.ref (lv9), .ref (ls9), .ref (rc), .ref (re)]))], [(lv9, aI cy 10 (v1))], [(ls9, aI cy 10 (st))]].flatten → va_S A s.heap H locs → lv_has ls 4 [(0, .ref (f)), (1, .ref (la)), (2, .int (qI (x3)))] → W p l e (qrm 4) s m args below meth c H locs 0 0 Q (F0 m 14 ls []) := by
    intro n_14
    induction n_14 with
    | zero => intro j _ _ _ h1 h2; exact absurd h2 (by omega)
    | succ n_14 ih_14 =>
      intro j x3 N1 v1 hk_14 hn_14 hx3 hR H locs ls hP hD hS hl
      refine lv_iload_n hx hb dX1_settle_14 rfl (lv_at hl 2 rfl) ?_
      refine q_if_lt (tgt := 54) hx hb dX1_settle_15 (by decide) (by omega) (fun c_15 => ?_) (fun c_15 => ?_)
      · skip
        have e9 : j = 10 := by omega
        subst e9
        exact hQ _ _ _ _ (_, _) hR hP hD hS dX1_settle_54
      · skip
        refine q_iconst hx hb dX1_settle_18 ?_
        refine lv_istore_n (lv' := [(3, .int (qI (0))), (0, .ref (f)), (1, .ref (la)), (2, .int (qI (x3)))]) hx hb dX1_settle_19 rfl hl (by decide) rfl (fun ls hl => ?_)
        have L_20 : ∀ (n_20 k : Nat) (N1 : Nat → Nat → Int) (v1 : Nat → Int), k ≤ 10 → 10 + 1 ≤ k + n_20 → (v1 = (seL st (9 - (j : Int)) k (seS st j (v, M))).1 ∧ qEq N1 (seL st (9 - (j : Int)) k (seS st j (v, M))).2) → ∀ (H : Heap) (locs : List Loc) (ls : Array Slot), va_P D vwCl [[(f, .inr (1, [.ref (b 0), .ref (oc 0), .ref (oe 0), .ref (rs 0), .int (qI (t))]))], qBo cy b (M), qBo cy rs (N1), [(la, .inr (3, [.ref (lv9), .ref (ls9), .ref (rc), .ref (re)]))], [(lv9, aI cy 10 (v1))], [(ls9, aI cy 10 (st))]].flatten H → va_D A [[(f, .inr (1, [.ref (b 0), .ref (oc 0), .ref (oe 0), .ref (rs 0), .int (qI (t))]))], qBo cy b (M), qBo cy rs (N1), [(la, .inr (3, [.ref (lv9), .ref (ls9), .ref (rc), .ref (re)]))], [(lv9, aI cy 10 (v1))], [(ls9, aI cy 10 (st))]].flatten → va_S A s.heap H locs → lv_has ls 4 [(0, .ref (f)), (1, .ref (la)), (2, .int (qI (x3))), (3, .int (qI (((k : Nat) : Int))))] → W p l e (qrm 4) s m args below meth c H locs 0 0 Q (F0 m 20 ls []) := by
          intro n_20
          induction n_20 with
          | zero => intro k _ _ h1 h2; exact absurd h2 (by omega)
          | succ n_20 ih_20 =>
            intro k N1 v1 hk_20 hn_20 hR H locs ls hP hD hS hl
            have so := seS_ok (st := st) (S := (v, M)) ⟨C, hV⟩ j
            have so := seL_ok (st := st) (v := 9 - j) so k hk_20
            have cl9 : qCl N1 := qEq.cl hR.2.symm so.1
            have hv9 : qV v1 := by rw [hR.1]; exact so.2
            refine lv_iload_n hx hb dX1_settle_20 rfl (lv_at hl 3 rfl) ?_
            refine q_bipush hx hb dX1_settle_21 (by decide) ?_
            refine q_icmp_ge (tgt := 48) hx hb dX1_settle_23 (by decide) (by omega) (fun c_23 => ?_) (fun c_23 => ?_)
            · skip
              refine q_iinc (k := 2) (lv' := [(2, .int (qI ((x3) + (-1)))), (0, .ref (f)), (1, .ref (la)), (3, .int (qI (((k : Nat) : Int))))]) hx hb dX1_settle_48 hl rfl (by decide) rfl (fun ls hl => ?_)
              refine lv_goto (tgt := 14) hx hb dX1_settle_51 (by decide) ?_
              exact ih_14 (j + 1) _ _ _ (by omega) (by omega) (by omega) (by subst hx3; rw [show k = 10 by omega] at hR; exact hR) _ _ _ hP hD hS (lv_sub hl [1, 2, 0] rfl)
            · skip
              have hw := hst k (by omega)
              refine lv_aload_n hx hb dX1_settle_26 rfl (lv_at hl 1 rfl) ?_
              refine gf_X1_108 hx hb hg hown hK (fl_blk hP 3 rfl) 0 rfl rfl dX1_settle_27 ?_
              refine lv_iload_n hx hb dX1_settle_30 rfl (lv_at hl 3 rfl) ?_
              refine q_iald (j := k) hx hb hK (fl_blk hP 5 rfl) 0 rfl (by omega) dX1_settle_31 ?_
              refine lv_iload_n hx hb dX1_settle_32 rfl (lv_at hl 2 rfl) ?_
              refine q_icmp_ne (tgt := 42) hx hb dX1_settle_33 (by decide) (by omega) (fun c_33 => ?_) (fun c_33 => ?_)
              · skip
                refine q_iinc (k := 3) (lv' := [(3, .int (qI ((((k : Nat) : Int)) + (1)))), (0, .ref (f)), (1, .ref (la)), (2, .int (qI (x3)))]) hx hb dX1_settle_42 hl rfl (by decide) rfl (fun ls hl => ?_)
                refine lv_goto (tgt := 20) hx hb dX1_settle_45 (by decide) ?_
                exact ih_20 (k + 1) _ _ (by omega) (by omega) (by simp only [seL]; rw [if_neg (by omega)]; exact hR) _ _ _ hP hD hS (lv_sub hl [1, 2, 3, 0] rfl)
              · skip
                refine lv_aload_n hx hb dX1_settle_36 rfl (lv_at hl 0 rfl) ?_
                refine lv_aload_n hx hb dX1_settle_37 rfl (lv_at hl 1 rfl) ?_
                refine lv_iload_n hx hb dX1_settle_38 rfl (lv_at hl 3 rfl) ?_
                refine q_backv [0, 2, 3, 4] [1, 5] (br := [qBo cy b (M), [(ls9, aI cy 10 (st))]]) hP hD hS hA (va_runV (As := [.ref (la), .int (qI (((k : Nat) : Int)))]) (rest := []) ⟨hx, hb, hml, hown, hg⟩ (c_X1_settleOne l D cy f (b 0) (oc 0) (oe 0) rs t N1 la lv9 ls9 rc re v1 _ k (by omega) cl9 hv9 _) (cv_X1_111 hg rfl rfl ⟨by decide, by decide⟩) ⟨q_blind, va_recv hK (fl_blk hP 0 rfl) (ci := 1) (q0 := 0) rfl rfl, q_preM _ hK hN hP hD [0, 2, 3, 4] (by decide) rfl⟩ rfl rfl hl.1 rfl (lv_room (Nat.le_of_ble_eq_true rfl)) dX1_settle_39 ⟨by decide, by decide⟩) rfl rfl (by decide) (fun u_39 H locs h_39 hP hD hS => ?_)
                have hP : va_P D vwCl [qBo cy b (M), [(ls9, aI cy 10 (st))], [(f, .inr (1, [.ref (b 0), .ref (oc 0), .ref (oe 0), .ref (rs 0), .int (qI (t))]))], qBo cy rs (u_39.2), [(la, .inr (3, [.ref (lv9), .ref (ls9), .ref (rc), .ref (re)]))], [(lv9, aI cy 10 (u_39.1))]].flatten H := hP
                have hD : va_D A [qBo cy b (M), [(ls9, aI cy 10 (st))], [(f, .inr (1, [.ref (b 0), .ref (oc 0), .ref (oe 0), .ref (rs 0), .int (qI (t))]))], qBo cy rs (u_39.2), [(la, .inr (3, [.ref (lv9), .ref (ls9), .ref (rc), .ref (re)]))], [(lv9, aI cy 10 (u_39.1))]].flatten := hD
                refine q_iinc (k := 3) (lv' := [(3, .int (qI ((((k : Nat) : Int)) + (1)))), (0, .ref (f)), (1, .ref (la)), (2, .int (qI (x3)))]) hx hb dX1_settle_42 hl rfl (by decide) rfl (fun ls hl => ?_)
                refine lv_goto (tgt := 20) hx hb dX1_settle_45 (by decide) ?_
                have hP := fl_sub (bs' := [[(f, .inr (1, [.ref (b 0), .ref (oc 0), .ref (oe 0), .ref (rs 0), .int (qI (t))]))], qBo cy b (M), qBo cy rs (u_39.2), [(la, .inr (3, [.ref (lv9), .ref (ls9), .ref (rc), .ref (re)]))], [(lv9, aI cy 10 (u_39.1))], [(ls9, aI cy 10 (st))]]) hP [2, 0, 3, 4, 5, 1] rfl
                have hD := fl_subD (bs' := [[(f, .inr (1, [.ref (b 0), .ref (oc 0), .ref (oe 0), .ref (rs 0), .int (qI (t))]))], qBo cy b (M), qBo cy rs (u_39.2), [(la, .inr (3, [.ref (lv9), .ref (ls9), .ref (rc), .ref (re)]))], [(lv9, aI cy 10 (u_39.1))], [(ls9, aI cy 10 (st))]]) hD [2, 0, 3, 4, 5, 1] (by decide) rfl
                exact ih_20 (k + 1) _ _ (by omega) (by omega) (by simp only [seL]; rw [if_pos (by omega)]; obtain ⟨g1, g2⟩ := seP_eq (S := (v1, N1)) hR (k := k) (by omega); exact ⟨h_39.1.trans g1, h_39.2.trans g2⟩) _ _ _ hP hD hS (lv_sub hl [1, 2, 3, 0] rfl)
        exact L_20 (10 + 1) (0) _ _ (by omega) (by omega) hR _ _ _ hP hD hS (lv_sub hl [1, 2, 3, 0] rfl)
  have hP := fl_sub (bs' := [[(f, .inr (1, [.ref (b 0), .ref (oc 0), .ref (oe 0), .ref (rs 0), .int (qI (t))]))], qBo cy b (M), qBo cy rs (u_8), [(la, .inr (3, [.ref (lv9), .ref (ls9), .ref (rc), .ref (re)]))], [(lv9, aI cy 10 (v))], [(ls9, aI cy 10 (st))]]) hP [0, 5, 4, 1, 2, 3] rfl
  have hD := fl_subD (bs' := [[(f, .inr (1, [.ref (b 0), .ref (oc 0), .ref (oe 0), .ref (rs 0), .int (qI (t))]))], qBo cy b (M), qBo cy rs (u_8), [(la, .inr (3, [.ref (lv9), .ref (ls9), .ref (rc), .ref (re)]))], [(lv9, aI cy 10 (v))], [(ls9, aI cy 10 (st))]]) hD [0, 5, 4, 1, 2, 3] (by decide) rfl
  exact L_14 (10 + 1) (0) _ _ _ (by omega) (by omega) (by omega) ⟨rfl, h_8⟩ _ _ _ hP hD hS (lv_sub hl [1, 2, 0] rfl)
