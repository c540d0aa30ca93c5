theorem q_ofRl {l : Launch} {y : MethodName} {cc : ByteArray} {nL d : Nat} {avs : List Value} {D : va_G} {cy : Nat → ClassId} {bs : List va_W} {post : Int64 → Prop} (hy : plainName y.cls = true) (hlen : (lg_sl avs).length ≤ nL)
    (body : ∀ (p : Program) (e : Env) (s : State) (m : MethodId) (args : Array Value) (below : List Frame) (meth : Method) (c : Code) (Q : State → Prop), p.tables.exec = Jvm.exec → c.code = cc → c.maxLocals = nL → s.vm.findClass y.cls = some m.cls → (∀ w ∈ wG, w.before args s = true) →
      (∀ (pc : Nat) (ls : Array Slot) (r : Int64), post r → decode cc pc = .ok (.lreturn, 1) → W p l e (qrm d) s m args below meth c s.heap [] 0 0 Q (F0 m pc ls [.long r])) →
      va_K D vwCl (qT cy) s → qNe s → va_P D vwCl bs.flatten s.heap → ∀ ls : Array Slot, lv_has ls nL (lv_args 0 avs) → W p l e (qrm d) s m args below meth c s.heap [] 0 0 Q (F0 m 0 ls [])) :
    qRd l y (.code y cc nL (some .long)) d avs D cy bs (vp_Sl post) := by
  refine Met.ofW (cc := cc) (maxL := nL) (ret := some .long) hy rfl ?_
  intro p e s m args below meth c s₁ B hml hv
  obtain ⟨rfl, hP, hK, hN⟩ := hv
  have hts := atoms_spec (ws := .code y cc nL (some .long) :: wG) B.pre
  have hl := lv_entry avs (n := nL) hlen
  rw [lg_entry_eq]
  exact body p e s m _ below meth c _ B.exec B.bytes hml (findClass_of_methodNamed B.named) (fun w h => hts w (List.mem_cons_of_mem _ h)) (fun pc ls r h1 h5 => W.lret B.exec B.bytes B.returns (fun t ht hW => ⟨r, rfl, h1, ht⟩) (fun _ h => by cases h) h5) hK hN hP _ hl

theorem q_ofRf {l : Launch} {y : MethodName} {cc : ByteArray} {nL d : Nat} {avs : List Value} {D : va_G} {cy : Nat → ClassId} {bs : List va_W} {post : UInt32 → Prop} (hy : plainName y.cls = true) (hlen : (lg_sl avs).length ≤ nL)
    (body : ∀ (p : Program) (e : Env) (s : State) (m : MethodId) (args : Array Value) (below : List Frame) (meth : Method) (c : Code) (Q : State → Prop), p.tables.exec = Jvm.exec → c.code = cc → c.maxLocals = nL → s.vm.findClass y.cls = some m.cls → (∀ w ∈ wG, w.before args s = true) →
      (∀ (pc : Nat) (ls : Array Slot) (r : UInt32), post r → decode cc pc = .ok (.freturn, 1) → W p l e (qrm d) s m args below meth c s.heap [] 0 0 Q (F0 m pc ls [.float r])) →
      va_K D vwCl (qT cy) s → qNe s → va_P D vwCl bs.flatten s.heap → ∀ ls : Array Slot, lv_has ls nL (lv_args 0 avs) → W p l e (qrm d) s m args below meth c s.heap [] 0 0 Q (F0 m 0 ls [])) :
    qRd l y (.code y cc nL (some .float)) d avs D cy bs (vp_Sf post) := by
  refine Met.ofW (cc := cc) (maxL := nL) (ret := some .float) hy rfl ?_
  intro p e s m args below meth c s₁ B hml hv
  obtain ⟨rfl, hP, hK, hN⟩ := hv
  have hts := atoms_spec (ws := .code y cc nL (some .float) :: wG) B.pre
  have hl := lv_entry avs (n := nL) hlen
  rw [lg_entry_eq]
  exact body p e s m _ below meth c _ B.exec B.bytes hml (findClass_of_methodNamed B.named) (fun w h => hts w (List.mem_cons_of_mem _ h)) (fun pc ls r h1 h5 => W.fret (hlocks := B.notSynchronized) B.exec B.bytes B.returns (fun t ht hW => ⟨r, rfl, h1, ht⟩) (fun _ h => by cases h) h5) hK hN hP _ hl

theorem q_readl {p : Program} {l : Launch} {e : Env} {R : Room} {s : State} {m : MethodId} {args : Array Value} {below : List Frame} {meth : Method} {c : Code} {H : Heap} {locs : List Loc} {cells slots : Nat} {Q : State → Prop} {pc : Nat} {ls : Array Slot} {rest st0 : List Value} {a : Array Value} {post : Int64 → Prop} (hr : va_Run p l e R s m args below meth c H locs cells slots 0 0 (F0 m pc ls st0) rest (vp_Sl post a) (fun _ => False)) (kk : ∀ r : Int64, post r → W p l e R s m args below meth c H locs cells slots Q (F0 m (pc + 3) ls (.long r :: rest))) : W p l e R s m args below meth c H locs cells slots Q (F0 m pc ls st0) := vp_callSl (q_run_R hr) kk

theorem q_readf {p : Program} {l : Launch} {e : Env} {R : Room} {s : State} {m : MethodId} {args : Array Value} {below : List Frame} {meth : Method} {c : Code} {H : Heap} {locs : List Loc} {cells slots : Nat} {Q : State → Prop} {pc : Nat} {ls : Array Slot} {rest st0 : List Value} {a : Array Value} {post : UInt32 → Prop} (hr : va_Run p l e R s m args below meth c H locs cells slots 0 0 (F0 m pc ls st0) rest (vp_Sf post a) (fun _ => False)) (kk : ∀ r : UInt32, post r → W p l e R s m args below meth c H locs cells slots Q (F0 m (pc + 3) ls (.float r :: rest))) : W p l e R s m args below meth c H locs cells slots Q (F0 m pc ls st0) := vp_callSf (q_run_R hr) kk

set_option maxRecDepth 100000 in
set_option maxHeartbeats 4000000 in
theorem c_X7_isWithin (l : Launch) (D : va_G) (cy : Nat → ClassId) (v lo hi : Int) (h9 : (-2147483648 ≤ v ∧ v < 2147483648) ∧ (-2147483648 ≤ lo ∧ lo < 2147483648) ∧ (-2147483648 ≤ hi ∧ hi < 2147483648)) : qRd l yX7_isWithin (.code yX7_isWithin cX7_isWithin 3 (some .boolean)) 1 [.int (qI (v)), .int (qI (lo)), .int (qI (hi))] D cy [] (vp_Si (fun r => ∃ b : Bool, r = qz b ∧ (fun b => b = true ↔ lo ≤ v ∧ v ≤ hi) b)) := by
  refine q_ofRz (post := fun b => b = true ↔ lo ≤ v ∧ v ≤ hi) (by decide +kernel) (Nat.le_of_ble_eq_true rfl) ?_
  intro p e s m args below meth c Q hx hb hml hown hg hQ hK hN hP ls hl
  have hown : s.vm.findClass RX7 = some m.cls := hown
  have hl : lv_has ls 3 [(0, .int (qI (v))), (1, .int (qI (lo))), (2, .int (qI (hi)))] := hl
  refine lv_iload_n hx hb dX7_isWithin_0 rfl (lv_at hl 1 rfl) ?_
  refine lv_iload_n hx hb dX7_isWithin_1 rfl (lv_at hl 0 rfl) ?_
  refine q_icmp_gt (tgt := 14) hx hb dX7_isWithin_2 (by decide) (by omega) (fun c_2 => ?_) (fun c_2 => ?_)
  · skip
    refine q_iconst hx hb dX7_isWithin_14 ?_
    exact hQ _ _ false (iff_of_false (by decide) (by omega)) dX7_isWithin_15
  · skip
    refine lv_iload_n hx hb dX7_isWithin_5 rfl (lv_at hl 0 rfl) ?_
    refine lv_iload_n hx hb dX7_isWithin_6 rfl (lv_at hl 2 rfl) ?_
    refine q_icmp_gt (tgt := 14) hx hb dX7_isWithin_7 (by decide) (by omega) (fun c_7 => ?_) (fun c_7 => ?_)
    · skip
      refine q_iconst hx hb dX7_isWithin_14 ?_
      exact hQ _ _ false (iff_of_false (by decide) (by omega)) dX7_isWithin_15
    · skip
      refine q_iconst hx hb dX7_isWithin_10 ?_
      refine lv_goto (tgt := 15) hx hb dX7_isWithin_11 (by decide) ?_
      exact hQ _ _ true (iff_of_true rfl (by omega)) dX7_isWithin_15

set_option maxRecDepth 100000 in
set_option maxHeartbeats 4000000 in
theorem c_X7_isPlace (l : Launch) (D : va_G) (cy : Nat → ClassId) (v : Int) (h9 : (-2147483648 ≤ v ∧ v < 2147483648)) : qRd l yX7_isPlace (.code yX7_isPlace cX7_isPlace 1 (some .boolean)) 2 [.int (qI (v))] D cy [] (vp_Si (fun r => ∃ b : Bool, r = qz b ∧ (fun b => b = true ↔ 0 ≤ v ∧ v ≤ 9) b)) := by
  refine q_ofRz (post := fun b => b = true ↔ 0 ≤ v ∧ v ≤ 9) (by decide +kernel) (Nat.le_of_ble_eq_true rfl) ?_
  intro p e s m args below meth c Q hx hb hml hown hg hQ hK hN hP ls hl
  have hown : s.vm.findClass RX7 = some m.cls := hown
  have hl : lv_has ls 1 [(0, .int (qI (v)))] := hl
  refine lv_iload_n hx hb dX7_isPlace_0 rfl (lv_at hl 0 rfl) ?_
  refine q_iconst hx hb dX7_isPlace_1 ?_
  refine q_bipush hx hb dX7_isPlace_2 (by decide) ?_
  refine q_readz (va_runS (As := [.int (qI (v)), .int (qI (0)), .int (qI (9))]) (rest := []) ⟨hx, hb, hml, hown, hg⟩ (c_X7_isWithin l D cy _ _ _ (by omega)) (cs_X7_58 hg rfl rfl ⟨by decide, by decide⟩) ⟨q_blind0, q_preR _ hK hN hP [] rfl⟩ rfl rfl hl.1 rfl (lv_room (Nat.le_of_ble_eq_true rfl)) dX7_isPlace_4 ⟨by decide, by decide⟩) (fun b_4 h_4 => ?_)
  exact hQ _ _ _ (h_4.trans (by omega)) dX7_isPlace_7

set_option maxRecDepth 100000 in
set_option maxHeartbeats 4000000 in
theorem c_X7_isValue (l : Launch) (D : va_G) (cy : Nat → ClassId) (v : Int) (h9 : (-2147483648 ≤ v ∧ v < 2147483648)) : qRd l yX7_isValue (.code yX7_isValue cX7_isValue 1 (some .boolean)) 2 [.int (qI (v))] D cy [] (vp_Si (fun r => ∃ b : Bool, r = qz b ∧ (fun b => b = true ↔ -1000 ≤ v ∧ v ≤ 1000) b)) := by
  refine q_ofRz (post := fun b => b = true ↔ -1000 ≤ v ∧ v ≤ 1000) (by decide +kernel) (Nat.le_of_ble_eq_true rfl) ?_
  intro p e s m args below meth c Q hx hb hml hown hg hQ hK hN hP ls hl
  have hown : s.vm.findClass RX7 = some m.cls := hown
  have hl : lv_has ls 1 [(0, .int (qI (v)))] := hl
  refine lv_iload_n hx hb dX7_isValue_0 rfl (lv_at hl 0 rfl) ?_
  refine q_sipush hx hb dX7_isValue_1 (by decide) ?_
  refine q_sipush hx hb dX7_isValue_4 (by decide) ?_
  refine q_readz (va_runS (As := [.int (qI (v)), .int (qI (-1000)), .int (qI (1000))]) (rest := []) ⟨hx, hb, hml, hown, hg⟩ (c_X7_isWithin l D cy _ _ _ (by omega)) (cs_X7_58 hg rfl rfl ⟨by decide, by decide⟩) ⟨q_blind0, q_preR _ hK hN hP [] rfl⟩ rfl rfl hl.1 rfl (lv_room (Nat.le_of_ble_eq_true rfl)) dX7_isValue_7 ⟨by decide, by decide⟩) (fun b_7 h_7 => ?_)
  exact hQ _ _ _ (h_7.trans (by omega)) dX7_isValue_10

set_option maxRecDepth 100000 in
set_option maxHeartbeats 4000000 in
theorem c_X7_isNumber (l : Launch) (D : va_G) (cy : Nat → ClassId) (v : Int) (h9 : (-2147483648 ≤ v ∧ v < 2147483648)) : qRd l yX7_isNumber (.code yX7_isNumber cX7_isNumber 1 (some .boolean)) 2 [.int (qI (v))] D cy [] (vp_Si (fun r => ∃ b : Bool, r = qz b ∧ (fun b => b = true ↔ -2000 ≤ v ∧ v ≤ 2000) b)) := by
  refine q_ofRz (post := fun b => b = true ↔ -2000 ≤ v ∧ v ≤ 2000) (by decide +kernel) (Nat.le_of_ble_eq_true rfl) ?_
  intro p e s m args below meth c Q hx hb hml hown hg hQ hK hN hP ls hl
  have hown : s.vm.findClass RX7 = some m.cls := hown
  have hl : lv_has ls 1 [(0, .int (qI (v)))] := hl
  refine lv_iload_n hx hb dX7_isNumber_0 rfl (lv_at hl 0 rfl) ?_
  refine q_sipush hx hb dX7_isNumber_1 (by decide) ?_
  refine q_sipush hx hb dX7_isNumber_4 (by decide) ?_
  refine q_readz (va_runS (As := [.int (qI (v)), .int (qI (-2000)), .int (qI (2000))]) (rest := []) ⟨hx, hb, hml, hown, hg⟩ (c_X7_isWithin l D cy _ _ _ (by omega)) (cs_X7_58 hg rfl rfl ⟨by decide, by decide⟩) ⟨q_blind0, q_preR _ hK hN hP [] rfl⟩ rfl rfl hl.1 rfl (lv_room (Nat.le_of_ble_eq_true rfl)) dX7_isNumber_7 ⟨by decide, by decide⟩) (fun b_7 h_7 => ?_)
  exact hQ _ _ _ (h_7.trans (by omega)) dX7_isNumber_10

set_option maxRecDepth 100000 in
set_option maxHeartbeats 4000000 in
theorem c_X7_isStrength (l : Launch) (D : va_G) (cy : Nat → ClassId) (v : Int) (h9 : (-2147483648 ≤ v ∧ v < 2147483648)) : qRd l yX7_isStrength (.code yX7_isStrength cX7_isStrength 1 (some .boolean)) 2 [.int (qI (v))] D cy [] (vp_Si (fun r => ∃ b : Bool, r = qz b ∧ (fun b => b = true ↔ 0 ≤ v ∧ v ≤ 3) b)) := by
  refine q_ofRz (post := fun b => b = true ↔ 0 ≤ v ∧ v ≤ 3) (by decide +kernel) (Nat.le_of_ble_eq_true rfl) ?_
  intro p e s m args below meth c Q hx hb hml hown hg hQ hK hN hP ls hl
  have hown : s.vm.findClass RX7 = some m.cls := hown
  have hl : lv_has ls 1 [(0, .int (qI (v)))] := hl
  refine lv_iload_n hx hb dX7_isStrength_0 rfl (lv_at hl 0 rfl) ?_
  refine q_iconst hx hb dX7_isStrength_1 ?_
  refine q_iconst hx hb dX7_isStrength_2 ?_
  refine q_readz (va_runS (As := [.int (qI (v)), .int (qI (0)), .int (qI (3))]) (rest := []) ⟨hx, hb, hml, hown, hg⟩ (c_X7_isWithin l D cy _ _ _ (by omega)) (cs_X7_58 hg rfl rfl ⟨by decide, by decide⟩) ⟨q_blind0, q_preR _ hK hN hP [] rfl⟩ rfl rfl hl.1 rfl (lv_room (Nat.le_of_ble_eq_true rfl)) dX7_isStrength_3 ⟨by decide, by decide⟩) (fun b_3 h_3 => ?_)
  exact hQ _ _ _ (h_3.trans (by omega)) dX7_isStrength_6
