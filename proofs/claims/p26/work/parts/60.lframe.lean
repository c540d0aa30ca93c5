/-! ===== contracts of methods that make cells ===== -/
abbrev qCM (l : Launch) (y : MethodName) (w : Cond) (d k n : Nat) (avs : List Value) (D : va_G) (cy : Nat → ClassId) (bs : List va_W) (sz : Nat) (Qc : Array Value → State → Outcome → State → Prop) : Prop := Met l y (w :: wG) (qrc d k n) (va_Pc avs (qP D cy bs sz)) Qc k n (va_A bs.flatten sz)
section QOC
variable {S : Type} {l : Launch} {y : MethodName} {cc : ByteArray} {nL d k n sz : Nat} {avs : List Value} {D : va_G} {cy : Nat → ClassId} {bs : List va_W} {b1 : S → List va_W}
theorem q_ofKi {post : Int32 → S → Prop} (hy : plainName y.cls = true) (hlen : (lg_sl avs).length ≤ nL)
    (body : ∀ (p : Program) (e : Env) (s : State) (m : MethodId) (args : Array Value) (below : List Frame) (meth : Method) (c : Code) (Q : State → Prop) (A : Nat → Prop), p.tables.exec = Jvm.exec → c.code = cc → c.maxLocals = nL → s.vm.findClass y.cls = some m.cls → (∀ w ∈ wG, w.before args s = true) →
      (∀ (pc : Nat) (H : Heap) (locs : List Loc) (ls : Array Slot) (r : Int32) (u : S), post r u → va_P D vwCl (b1 u).flatten H → va_D A (b1 u).flatten → va_S A s.heap H locs → decode cc pc = .ok (.ireturn, 1) → W p l e (qrc d k n) s m args below meth c H locs k n Q (F0 m pc ls [.int r])) →
      va_K D vwCl (qT cy) s → qNe s → va_D A bs.flatten → (∀ q, s.heap.size ≤ q → A q) → ∀ (H : Heap) (locs : List Loc) (ls : Array Slot), va_P D vwCl bs.flatten H → va_S A s.heap H locs → lv_has ls nL (lv_args 0 avs) → W p l e (qrc d k n) s m args below meth c H locs 0 0 Q (F0 m 0 ls [])) :
    qCM l y (.code y cc nL (some .int)) d k n avs D cy bs sz (va_Qi post (qB D cy bs sz b1) (va_A bs.flatten sz)) := by
  refine Met.ofW (cc := cc) (maxL := nL) (ret := some .int) hy rfl ?_
  intro p e s m args below meth c s₁ B hml hv
  obtain ⟨rfl, hsz, hP, hK, hN, hD0⟩ := hv
  subst hsz
  have hts := atoms_spec (ws := .code y cc nL (some .int) :: wG) B.pre
  have hl := lv_entry avs (n := nL) hlen
  rw [lg_entry_eq]
  exact body p e s m _ below meth c _ _ B.exec B.bytes hml (findClass_of_methodNamed B.named) (fun w h => hts w (List.mem_cons_of_mem _ h)) (fun pc H locs ls r u h1 h2 h3 h4 h5 => W.iret B.exec B.bytes B.returns (fun t ht hW => ⟨⟨r, u, rfl, h1, by rw [ht]; exact h2, va_K.moved hW.alike hK, h3⟩, h4.F ht⟩) h4.2.2 h5) hK hN hD0.self (fun q h => Or.inr h) _ _ _ hP va_S.rf hl
theorem q_ofKv {post : S → Prop} (hy : plainName y.cls = true) (hlen : (lg_sl avs).length ≤ nL)
    (body : ∀ (p : Program) (e : Env) (s : State) (m : MethodId) (args : Array Value) (below : List Frame) (meth : Method) (c : Code) (Q : State → Prop) (A : Nat → Prop), p.tables.exec = Jvm.exec → c.code = cc → c.maxLocals = nL → s.vm.findClass y.cls = some m.cls → (∀ w ∈ wG, w.before args s = true) →
      (∀ (pc : Nat) (H : Heap) (locs : List Loc) (ls : Array Slot) (u : S), post u → va_P D vwCl (b1 u).flatten H → va_D A (b1 u).flatten → va_S A s.heap H locs → decode cc pc = .ok (.return_, 1) → W p l e (qrc d k n) s m args below meth c H locs k n Q (F0 m pc ls [])) →
      va_K D vwCl (qT cy) s → qNe s → va_D A bs.flatten → (∀ q, s.heap.size ≤ q → A q) → ∀ (H : Heap) (locs : List Loc) (ls : Array Slot), va_P D vwCl bs.flatten H → va_S A s.heap H locs → lv_has ls nL (lv_args 0 avs) → W p l e (qrc d k n) s m args below meth c H locs 0 0 Q (F0 m 0 ls [])) :
    qCM l y (.code y cc nL none) d k n avs D cy bs sz (va_Qv post (qB D cy bs sz b1) (va_A bs.flatten sz)) := by
  refine Met.ofW (cc := cc) (maxL := nL) (ret := none) hy rfl ?_
  intro p e s m args below meth c s₁ B hml hv
  obtain ⟨rfl, hsz, hP, hK, hN, hD0⟩ := hv
  subst hsz
  have hts := atoms_spec (ws := .code y cc nL none :: wG) B.pre
  have hl := lv_entry avs (n := nL) hlen
  rw [lg_entry_eq]
  exact body p e s m _ below meth c _ _ B.exec B.bytes hml (findClass_of_methodNamed B.named) (fun w h => hts w (List.mem_cons_of_mem _ h)) (fun pc H locs ls u h1 h2 h3 h4 h5 => W.vret B.exec B.bytes B.returns (fun t ht hW => ⟨⟨u, rfl, h1, by rw [ht]; exact h2, va_K.moved hW.alike hK, h3⟩, h4.F ht⟩) h4.2.2 h5) hK hN hD0.self (fun q h => Or.inr h) _ _ _ hP va_S.rf hl
theorem q_ofKz {post : Bool → S → Prop} (hy : plainName y.cls = true) (hlen : (lg_sl avs).length ≤ nL)
    (body : ∀ (p : Program) (e : Env) (s : State) (m : MethodId) (args : Array Value) (below : List Frame) (meth : Method) (c : Code) (Q : State → Prop) (A : Nat → Prop), p.tables.exec = Jvm.exec → c.code = cc → c.maxLocals = nL → s.vm.findClass y.cls = some m.cls → (∀ w ∈ wG, w.before args s = true) →
      (∀ (pc : Nat) (H : Heap) (locs : List Loc) (ls : Array Slot) (r : Bool) (u : S), post r u → va_P D vwCl (b1 u).flatten H → va_D A (b1 u).flatten → va_S A s.heap H locs → decode cc pc = .ok (.ireturn, 1) → W p l e (qrc d k n) s m args below meth c H locs k n Q (F0 m pc ls [.int (qz r)])) →
      va_K D vwCl (qT cy) s → qNe s → va_D A bs.flatten → (∀ q, s.heap.size ≤ q → A q) → ∀ (H : Heap) (locs : List Loc) (ls : Array Slot), va_P D vwCl bs.flatten H → va_S A s.heap H locs → lv_has ls nL (lv_args 0 avs) → W p l e (qrc d k n) s m args below meth c H locs 0 0 Q (F0 m 0 ls [])) :
    qCM l y (.code y cc nL (some .boolean)) d k n avs D cy bs sz (va_Qi (fun r u => ∃ b : Bool, r = qz b ∧ post b u) (qB D cy bs sz b1) (va_A bs.flatten sz)) := by
  refine Met.ofW (cc := cc) (maxL := nL) (ret := some .boolean) hy rfl ?_
  intro p e s m args below meth c s₁ B hml hv
  obtain ⟨rfl, hsz, hP, hK, hN, hD0⟩ := hv
  subst hsz
  have hts := atoms_spec (ws := .code y cc nL (some .boolean) :: wG) B.pre
  have hl := lv_entry avs (n := nL) hlen
  rw [lg_entry_eq]
  exact body p e s m _ below meth c _ _ B.exec B.bytes hml (findClass_of_methodNamed B.named) (fun w h => hts w (List.mem_cons_of_mem _ h)) (fun pc H locs ls r u h1 h2 h3 h4 h5 => W.zret B.exec B.bytes B.returns (qz_nar r) (fun t ht hW => ⟨⟨qz r, u, rfl, ⟨r, rfl, h1⟩, by rw [ht]; exact h2, va_K.moved hW.alike hK, h3⟩, h4.F ht⟩) h4.2.2 h5) hK hN hD0.self (fun q h => Or.inr h) _ _ _ hP va_S.rf hl
end QOC
section QCB
variable {p : Program} {l : Launch} {e : Env} {R : Room} {s : State} {m : MethodId} {args : Array Value} {below : List Frame} {meth : Method} {c : Code} {H : Heap} {locs : List Loc} {cells slots mc ms : Nat} {Q : State → Prop}
variable {cc : ByteArray} {pc : Nat} {ls : Array Slot} {rest st0 : List Value} {D : va_G} {A0 : Nat → Prop} {a : Array Value} {H0 : Heap} {cy : Nat → ClassId} {bs bc br : List va_W}
theorem q_backKi {S : Type} {post : Int32 → S → Prop} {b1 : S → List va_W} (isC isR : List Nat) (hP : va_P D vwCl bs.flatten H) (hD : va_D A0 bs.flatten) (hS : va_S A0 H0 H locs) (hA : ∀ q, H0.size ≤ q → A0 q)
    (hr : va_Run p l e R s m args below meth c H locs cells slots mc ms (F0 m pc ls st0) rest (va_Qi post (qB D cy bc H.size b1) (va_A bc.flatten H.size) a) (va_A bc.flatten H.size))
    (hC : isC.map (fun i => bs[i]?) = bc.map some) (hR : isR.map (fun i => bs[i]?) = br.map some) (hn : va_nd (isR ++ isC) = true)
    (kk : ∀ (r : Int32) (u : S) (H1 : Heap) (locs1 : List Loc), post r u → va_P D vwCl (br ++ b1 u).flatten H1 → va_D A0 (br ++ b1 u).flatten → va_S A0 H0 H1 locs1 → W p l e R s m args below meth c H1 locs1 (cells + mc) (slots + ms) Q (F0 m (pc + 3) ls (.int r :: rest))) : W p l e R s m args below meth c H locs cells slots Q (F0 m pc ls st0) := by
  have hF := fl_free hD hS hA isC hC
  refine va_calli hr hS (fun q _ h => hF q h) hF (fun r u t H1 locs1 ht hvm hw hB hz hk hS1 => ?_)
  obtain ⟨hP1, hK1, hD1⟩ := hB
  rw [ht] at hP1
  obtain ⟨h1, h2⟩ := fl_join hP hD isC isR hC hR hn hk hF hP1 hD1
  exact kk r u H1 locs1 hw h1 h2 hS1
theorem q_backKv {S : Type} {post : S → Prop} {b1 : S → List va_W} (isC isR : List Nat) (hP : va_P D vwCl bs.flatten H) (hD : va_D A0 bs.flatten) (hS : va_S A0 H0 H locs) (hA : ∀ q, H0.size ≤ q → A0 q)
    (hr : va_Run p l e R s m args below meth c H locs cells slots mc ms (F0 m pc ls st0) rest (va_Qv post (qB D cy bc H.size b1) (va_A bc.flatten H.size) a) (va_A bc.flatten H.size))
    (hC : isC.map (fun i => bs[i]?) = bc.map some) (hR : isR.map (fun i => bs[i]?) = br.map some) (hn : va_nd (isR ++ isC) = true)
    (kk : ∀ (u : S) (H1 : Heap) (locs1 : List Loc), post u → va_P D vwCl (br ++ b1 u).flatten H1 → va_D A0 (br ++ b1 u).flatten → va_S A0 H0 H1 locs1 → W p l e R s m args below meth c H1 locs1 (cells + mc) (slots + ms) Q (F0 m (pc + 3) ls rest)) : W p l e R s m args below meth c H locs cells slots Q (F0 m pc ls st0) := by
  have hF := fl_free hD hS hA isC hC
  refine va_callv hr hS (fun q _ h => hF q h) hF (fun u t H1 locs1 ht hvm hw hB hz hk hS1 => ?_)
  obtain ⟨hP1, hK1, hD1⟩ := hB
  rw [ht] at hP1
  obtain ⟨h1, h2⟩ := fl_join hP hD isC isR hC hR hn hk hF hP1 hD1
  exact kk u H1 locs1 hw h1 h2 hS1
theorem q_backKz {S : Type} {post : Bool → S → Prop} {b1 : S → List va_W} (isC isR : List Nat) (hP : va_P D vwCl bs.flatten H) (hD : va_D A0 bs.flatten) (hS : va_S A0 H0 H locs) (hA : ∀ q, H0.size ≤ q → A0 q)
    (hr : va_Run p l e R s m args below meth c H locs cells slots mc ms (F0 m pc ls st0) rest (va_Qi (fun r u => ∃ b : Bool, r = qz b ∧ post b u) (qB D cy bc H.size b1) (va_A bc.flatten H.size) a) (va_A bc.flatten H.size))
    (hC : isC.map (fun i => bs[i]?) = bc.map some) (hR : isR.map (fun i => bs[i]?) = br.map some) (hn : va_nd (isR ++ isC) = true)
    (kk : ∀ (r : Bool) (u : S) (H1 : Heap) (locs1 : List Loc), post r u → va_P D vwCl (br ++ b1 u).flatten H1 → va_D A0 (br ++ b1 u).flatten → va_S A0 H0 H1 locs1 → W p l e R s m args below meth c H1 locs1 (cells + mc) (slots + ms) Q (F0 m (pc + 3) ls (.int (qz r) :: rest))) : W p l e R s m args below meth c H locs cells slots Q (F0 m pc ls st0) :=
  q_backKi isC isR hP hD hS hA hr hC hR hn (fun r u H1 locs1 hw h1 h2 h3 => by obtain ⟨b, rfl, hb⟩ := hw; exact kk b u H1 locs1 hb h1 h2 h3)
end QCB
