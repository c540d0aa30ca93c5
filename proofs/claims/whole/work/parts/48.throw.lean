/-! ===== refusals: what a throw stands on ===== -/
abbrev NX : List String := ["java/lang/RuntimeException", "java/lang/Exception"]
abbrev EI : String := "java/lang/IndexOutOfBoundsException"
abbrev EA : String := "java/lang/IllegalArgumentException"
abbrev ES : String := "java/lang/IllegalStateException"
abbrev TI : String := "there is no such place, condition or edit"
abbrev TA : String := "an argument is out of range, or the buffer is not a complete text"
abbrev TS : String := "there is no room for it, or nothing to undo"
abbrev dcl (n : String) : Cond := .declares ⟨n, "<init>", "(Ljava/lang/String;)V"⟩
/-- the room of a method that throws -/
abbrev qrx (d : Nat) : Room := { frames := d, cells := 1, slots := 6, locals := 30 * d }
/-- what a throw asks of the world; A: the cells that may change -/
def qEx (A : Nat → Prop) (U : State) : Prop := (vx_Zq Bundle.tN "UNASSIGNED_STACK" Bundle.steD A U U.heap ∧ vx_Zq Bundle.tN "SUPPRESSED_SENTINEL" Bundle.listD A U U.heap) ∧ (va_Nw (.castable EI EI) U ∧ va_Nw (.castable EA EA) U ∧ va_Nw (.castable ES ES) U) ∧ (va_Nw (dcl "java/lang/RuntimeException") U ∧ va_Nw (dcl "java/lang/Exception") U ∧ va_Nw (dcl "java/lang/Throwable") U) ∧ (∃ a, vk_R RX7 248 TI a U) ∧ (∃ a, vk_R RX7 255 TA a U) ∧ ∃ a, vk_R RX7 260 TS a U
theorem qEx.step {A B : Nat → Prop} {s U : State} (hW : s.WarmedH U.vm) (h : qEx A s) (hk : ∀ a : Nat, a < s.heap.size → ¬ A a → U.heap[a]? = s.heap[a]?) (hB : ∀ q, B q → A q) : qEx B U := by
  obtain ⟨⟨h1, h2⟩, ⟨c1, c2, c3⟩, ⟨d1, d2, d3⟩, ⟨a1, r1⟩, ⟨a2, r2⟩, ⟨a3, r3⟩⟩ := h
  exact ⟨⟨((vx_Zq.moved hW.alike h1).kept hk).narrow hB, ((vx_Zq.moved hW.alike h2).kept hk).narrow hB⟩, ⟨c1.warmC hW, c2.warmC hW, c3.warmC hW⟩, ⟨d1.warmD hW, d2.warmD hW, d3.warmD hW⟩, ⟨a1, r1.warm hW⟩, ⟨a2, r2.warm hW⟩, ⟨a3, r3.warm hW⟩⟩
theorem qEx.same {A : Nat → Prop} {s U : State} (hv : s.vm = U.vm) (hh : s.heap = U.heap) (h : qEx A s) : qEx A U := h.step (by rw [← hv]; exact State.WarmedH.refl s) (fun a _ _ => by rw [hh]) (fun _ q => q)

set_option maxRecDepth 100000 in
theorem xg_0 : GoodIn lw_tbl ((Cond.classLink RX7 246 EI :: Cond.initialized EI :: vx_atS RX7 250 EI NX).filter goodWord) := goodIn_of _ (by decide +kernel)
set_option maxRecDepth 100000 in
theorem xb_0 : ((vx_atS RX7 250 EI NX).filter (fun w => !goodWord w)).all (fun w => decide (w ∈ [Cond.castable EI EI, dcl "java/lang/RuntimeException", dcl "java/lang/Exception", dcl "java/lang/Throwable"])) = true := by decide +kernel
set_option maxRecDepth 100000 in
theorem xo_0 : (Cond.classLink RX7 246 EI :: Cond.initialized EI :: vx_atS RX7 250 EI NX).all vx_ot = true := by decide +kernel
theorem xw_0 {args : Array Value} {s : State} (hg : ∀ w ∈ wG, w.before args s = true) {w : Cond} (h : w ∈ (Cond.classLink RX7 246 EI :: Cond.initialized EI :: vx_atS RX7 250 EI NX)) (g : goodWord w = true) : w.before args s = true := hg w (List.mem_filter.mpr ⟨(xg_0 w (List.mem_filter.mpr ⟨h, g⟩)).1, g⟩)
set_option maxRecDepth 100000 in
set_option maxHeartbeats 4000000 in
/-- needIndex(false) throws EI -/
theorem x_X7_needIndex (l : Launch) (hst : l.stackTraces = false) : vx_Met l yX7_needIndex (.code yX7_needIndex cX7_needIndex 1 none :: wG) (qrx 6) (va_Pc [.int (qz (false))] (qEx (fun _ => False))) (fun _ _ _ _ => False) (vx_X (S := Unit) (fun _ => True) (fun E _ _ => E = EI) (fun _ => False)) 1 6 (fun _ => False) := by
  refine vx_ofW (cc := cX7_needIndex) (maxL := 1) (ret := none) (by decide +kernel) rfl ?_
  intro p e s m args below meth c s₁ B hml hno hv
  obtain ⟨rfl, hE⟩ := hv
  have hts := atoms_spec (ws := .code yX7_needIndex cX7_needIndex 1 none :: wG) B.pre
  have hg : ∀ w ∈ wG, w.before #[.int (qz false)] s = true := fun w h => hts w (List.mem_cons_of_mem _ h)
  have hl := lv_entry [.int (qz false)] (n := 1) (by decide)
  have hx := B.exec
  have hb := B.bytes
  have hown : s.vm.findClass RX7 = some m.cls := findClass_of_methodNamed B.named
  obtain ⟨⟨h1, h2⟩, ⟨k1, k2, k3⟩, ⟨d1, d2, d3⟩, ⟨a1, r1⟩, ⟨a2, r2⟩, ⟨a3, r3⟩⟩ := hE
  rw [lg_entry_eq]
  refine lv_iload_n hx hb dX7_needIndex_0 rfl (lv_at hl 0 rfl) ?_
  refine q_ifz_ne (tgt := 14) hx hb dX7_needIndex_1 (by decide) (fun c_1 => absurd c_1 (by decide)) (fun c_1 => ?_)
  refine vx_throwS hx hb hst (own := RX7) (cls := EI) (text := TI) (names := NX) (ik := 246) (is := 248) (ic := 250) (A := fun _ => False) hown (by decide +kernel) (by decide +kernel) (xw_0 hg List.mem_cons_self (by decide +kernel)) (xw_0 hg (List.mem_cons_of_mem _ List.mem_cons_self) (by decide +kernel)) r1 ?_ (fun w h => List.all_eq_true.mp xo_0 w h) h1 h2 va_S.rf (hl.1.trans hml.symm) dX7_needIndex_4 dX7_needIndex_7 dX7_needIndex_8 dX7_needIndex_10 dX7_needIndex_13 (fun x hx => absurd (hno x hx) id) (by decide) (by decide) (by decide) (by decide) B.notSynchronized ?_ (fun _ h => nomatch h) (by decide) (by decide)
  · refine vx_hat (B := [Cond.castable EI EI, dcl "java/lang/RuntimeException", dcl "java/lang/Exception", dcl "java/lang/Throwable"]) (fun w h => ?_) (fun w h => of_decide_eq_true (List.all_eq_true.mp xb_0 w h)) (fun w h => ?_)
    · obtain ⟨q1, q2⟩ := List.mem_filter.mp h
      exact xw_0 hg (List.mem_cons_of_mem _ (List.mem_cons_of_mem _ q1)) q2
    · simp only [List.mem_cons, List.not_mem_nil, or_false] at h
      rcases h with rfl | rfl | rfl | rfl
      · exact va_Nw.use rfl k1
      · exact va_Nw.use rfl d1
      · exact va_Nw.use rfl d2
      · exact va_Nw.use rfl d3
  · intro t _ e1 e2
    exact ⟨(), trivial, rfl, e1, fun q hq _ => e2 q hq⟩

set_option maxRecDepth 100000 in
theorem xg_1 : GoodIn lw_tbl ((Cond.classLink RX7 253 EA :: Cond.initialized EA :: vx_atS RX7 257 EA NX).filter goodWord) := goodIn_of _ (by decide +kernel)
set_option maxRecDepth 100000 in
theorem xb_1 : ((vx_atS RX7 257 EA NX).filter (fun w => !goodWord w)).all (fun w => decide (w ∈ [Cond.castable EA EA, dcl "java/lang/RuntimeException", dcl "java/lang/Exception", dcl "java/lang/Throwable"])) = true := by decide +kernel
set_option maxRecDepth 100000 in
theorem xo_1 : (Cond.classLink RX7 253 EA :: Cond.initialized EA :: vx_atS RX7 257 EA NX).all vx_ot = true := by decide +kernel
theorem xw_1 {args : Array Value} {s : State} (hg : ∀ w ∈ wG, w.before args s = true) {w : Cond} (h : w ∈ (Cond.classLink RX7 253 EA :: Cond.initialized EA :: vx_atS RX7 257 EA NX)) (g : goodWord w = true) : w.before args s = true := hg w (List.mem_filter.mpr ⟨(xg_1 w (List.mem_filter.mpr ⟨h, g⟩)).1, g⟩)
set_option maxRecDepth 100000 in
set_option maxHeartbeats 4000000 in
/-- needArgument(false) throws EA -/
theorem x_X7_needArgument (l : Launch) (hst : l.stackTraces = false) : vx_Met l yX7_needArgument (.code yX7_needArgument cX7_needArgument 1 none :: wG) (qrx 6) (va_Pc [.int (qz (false))] (qEx (fun _ => False))) (fun _ _ _ _ => False) (vx_X (S := Unit) (fun _ => True) (fun E _ _ => E = EA) (fun _ => False)) 1 6 (fun _ => False) := by
  refine vx_ofW (cc := cX7_needArgument) (maxL := 1) (ret := none) (by decide +kernel) rfl ?_
  intro p e s m args below meth c s₁ B hml hno hv
  obtain ⟨rfl, hE⟩ := hv
  have hts := atoms_spec (ws := .code yX7_needArgument cX7_needArgument 1 none :: wG) B.pre
  have hg : ∀ w ∈ wG, w.before #[.int (qz false)] s = true := fun w h => hts w (List.mem_cons_of_mem _ h)
  have hl := lv_entry [.int (qz false)] (n := 1) (by decide)
  have hx := B.exec
  have hb := B.bytes
  have hown : s.vm.findClass RX7 = some m.cls := findClass_of_methodNamed B.named
  obtain ⟨⟨h1, h2⟩, ⟨k1, k2, k3⟩, ⟨d1, d2, d3⟩, ⟨a1, r1⟩, ⟨a2, r2⟩, ⟨a3, r3⟩⟩ := hE
  rw [lg_entry_eq]
  refine lv_iload_n hx hb dX7_needArgument_0 rfl (lv_at hl 0 rfl) ?_
  refine q_ifz_ne (tgt := 14) hx hb dX7_needArgument_1 (by decide) (fun c_1 => absurd c_1 (by decide)) (fun c_1 => ?_)
  refine vx_throwS hx hb hst (own := RX7) (cls := EA) (text := TA) (names := NX) (ik := 253) (is := 255) (ic := 257) (A := fun _ => False) hown (by decide +kernel) (by decide +kernel) (xw_1 hg List.mem_cons_self (by decide +kernel)) (xw_1 hg (List.mem_cons_of_mem _ List.mem_cons_self) (by decide +kernel)) r2 ?_ (fun w h => List.all_eq_true.mp xo_1 w h) h1 h2 va_S.rf (hl.1.trans hml.symm) dX7_needArgument_4 dX7_needArgument_7 dX7_needArgument_8 dX7_needArgument_10 dX7_needArgument_13 (fun x hx => absurd (hno x hx) id) (by decide) (by decide) (by decide) (by decide) B.notSynchronized ?_ (fun _ h => nomatch h) (by decide) (by decide)
  · refine vx_hat (B := [Cond.castable EA EA, dcl "java/lang/RuntimeException", dcl "java/lang/Exception", dcl "java/lang/Throwable"]) (fun w h => ?_) (fun w h => of_decide_eq_true (List.all_eq_true.mp xb_1 w h)) (fun w h => ?_)
    · obtain ⟨q1, q2⟩ := List.mem_filter.mp h
      exact xw_1 hg (List.mem_cons_of_mem _ (List.mem_cons_of_mem _ q1)) q2
    · simp only [List.mem_cons, List.not_mem_nil, or_false] at h
      rcases h with rfl | rfl | rfl | rfl
      · exact va_Nw.use rfl k2
      · exact va_Nw.use rfl d1
      · exact va_Nw.use rfl d2
      · exact va_Nw.use rfl d3
  · intro t _ e1 e2
    exact ⟨(), trivial, rfl, e1, fun q hq _ => e2 q hq⟩

set_option maxRecDepth 100000 in
theorem xg_2 : GoodIn lw_tbl ((Cond.classLink RX7 258 ES :: Cond.initialized ES :: vx_atS RX7 262 ES NX).filter goodWord) := goodIn_of _ (by decide +kernel)
set_option maxRecDepth 100000 in
theorem xb_2 : ((vx_atS RX7 262 ES NX).filter (fun w => !goodWord w)).all (fun w => decide (w ∈ [Cond.castable ES ES, dcl "java/lang/RuntimeException", dcl "java/lang/Exception", dcl "java/lang/Throwable"])) = true := by decide +kernel
set_option maxRecDepth 100000 in
theorem xo_2 : (Cond.classLink RX7 258 ES :: Cond.initialized ES :: vx_atS RX7 262 ES NX).all vx_ot = true := by decide +kernel
theorem xw_2 {args : Array Value} {s : State} (hg : ∀ w ∈ wG, w.before args s = true) {w : Cond} (h : w ∈ (Cond.classLink RX7 258 ES :: Cond.initialized ES :: vx_atS RX7 262 ES NX)) (g : goodWord w = true) : w.before args s = true := hg w (List.mem_filter.mpr ⟨(xg_2 w (List.mem_filter.mpr ⟨h, g⟩)).1, g⟩)
set_option maxRecDepth 100000 in
set_option maxHeartbeats 4000000 in
/-- needState(false) throws ES -/
theorem x_X7_needState (l : Launch) (hst : l.stackTraces = false) : vx_Met l yX7_needState (.code yX7_needState cX7_needState 1 none :: wG) (qrx 6) (va_Pc [.int (qz (false))] (qEx (fun _ => False))) (fun _ _ _ _ => False) (vx_X (S := Unit) (fun _ => True) (fun E _ _ => E = ES) (fun _ => False)) 1 6 (fun _ => False) := by
  refine vx_ofW (cc := cX7_needState) (maxL := 1) (ret := none) (by decide +kernel) rfl ?_
  intro p e s m args below meth c s₁ B hml hno hv
  obtain ⟨rfl, hE⟩ := hv
  have hts := atoms_spec (ws := .code yX7_needState cX7_needState 1 none :: wG) B.pre
  have hg : ∀ w ∈ wG, w.before #[.int (qz false)] s = true := fun w h => hts w (List.mem_cons_of_mem _ h)
  have hl := lv_entry [.int (qz false)] (n := 1) (by decide)
  have hx := B.exec
  have hb := B.bytes
  have hown : s.vm.findClass RX7 = some m.cls := findClass_of_methodNamed B.named
  obtain ⟨⟨h1, h2⟩, ⟨k1, k2, k3⟩, ⟨d1, d2, d3⟩, ⟨a1, r1⟩, ⟨a2, r2⟩, ⟨a3, r3⟩⟩ := hE
  rw [lg_entry_eq]
  refine lv_iload_n hx hb dX7_needState_0 rfl (lv_at hl 0 rfl) ?_
  refine q_ifz_ne (tgt := 15) hx hb dX7_needState_1 (by decide) (fun c_1 => absurd c_1 (by decide)) (fun c_1 => ?_)
  refine vx_throwSW hx hb hst (own := RX7) (cls := ES) (text := TS) (names := NX) (ik := 258) (is := 260) (ic := 262) (A := fun _ => False) hown (by decide +kernel) (by decide +kernel) (xw_2 hg List.mem_cons_self (by decide +kernel)) (xw_2 hg (List.mem_cons_of_mem _ List.mem_cons_self) (by decide +kernel)) r3 ?_ (fun w h => List.all_eq_true.mp xo_2 w h) h1 h2 va_S.rf (hl.1.trans hml.symm) dX7_needState_4 dX7_needState_7 dX7_needState_8 dX7_needState_11 dX7_needState_14 (fun x hx => absurd (hno x hx) id) (by decide) (by decide) (by decide) (by decide) B.notSynchronized ?_ (fun _ h => nomatch h) (by decide) (by decide)
  · refine vx_hat (B := [Cond.castable ES ES, dcl "java/lang/RuntimeException", dcl "java/lang/Exception", dcl "java/lang/Throwable"]) (fun w h => ?_) (fun w h => of_decide_eq_true (List.all_eq_true.mp xb_2 w h)) (fun w h => ?_)
    · obtain ⟨q1, q2⟩ := List.mem_filter.mp h
      exact xw_2 hg (List.mem_cons_of_mem _ (List.mem_cons_of_mem _ q1)) q2
    · simp only [List.mem_cons, List.not_mem_nil, or_false] at h
      rcases h with rfl | rfl | rfl | rfl
      · exact va_Nw.use rfl k3
      · exact va_Nw.use rfl d1
      · exact va_Nw.use rfl d2
      · exact va_Nw.use rfl d3
  · intro t _ e1 e2
    exact ⟨(), trivial, rfl, e1, fun q hq _ => e2 q hq⟩
