/-! ===== the law's wrappers: a call that answers or is refused ===== -/
section QOW
variable {S : Type} {l : Launch} {y : MethodName} {cc : ByteArray} {nL d sz : Nat} {avs : List Value} {D : va_G} {cy : Nat → ClassId} {bs : List va_W} {b1 : S → List va_W}
theorem q_ofMiW {hh : List (Nat × Nat × Nat × Nat)} {post : Int32 → S → Prop} (hy : plainName y.cls = true) (hlen : (lg_sl avs).length ≤ nL)
    (body : ∀ (p : Program) (e : Env) (s : State) (m : MethodId) (args : Array Value) (below : List Frame) (meth : Method) (c : Code) (Q : State → Prop) (A : Nat → Prop), p.tables.exec = Jvm.exec → c.code = cc → c.maxLocals = nL → s.vm.findClass y.cls = some m.cls → (∀ w ∈ wG, w.before args s = true) →
      (∀ (pc : Nat) (H : Heap) (locs : List Loc) (ls : Array Slot) (r : Int32) (u : S), post r u → va_P D vwCl (b1 u).flatten H → va_D A (b1 u).flatten → va_S A s.heap H locs → decode cc pc = .ok (.ireturn, 1) → W p l e (qrm d) s m args below meth c H locs 0 0 Q (F0 m pc ls [.int r])) →
      va_K D vwCl (qT cy) s → qNe s → va_D A bs.flatten → (∀ q, s.heap.size ≤ q → A q) → ∀ (H : Heap) (locs : List Loc) (ls : Array Slot), va_P D vwCl bs.flatten H → va_S A s.heap H locs → lv_has ls nL (lv_args 0 avs) → W p l e (qrm d) s m args below meth c H locs 0 0 Q (F0 m 0 ls [])) :
    qMet l y (.codeWith y cc nL (some .int) hh) d avs D cy bs sz (va_Qi post (qB D cy bs sz b1) (va_A bs.flatten sz)) := by
  refine va_MetW (cc := cc) (maxL := nL) (ret := some .int) (hh := hh) hy rfl ?_
  intro p e s m args below meth c s₁ B hml hv
  obtain ⟨rfl, hsz, hP, hK, hN, hD0⟩ := hv
  subst hsz
  have hts := atoms_spec (ws := .codeWith y cc nL (some .int) hh :: wG) B.pre
  have hl := lv_entry avs (n := nL) hlen
  rw [lg_entry_eq]
  exact body p e s m _ below meth c _ _ B.exec B.bytes hml (findClass_of_methodNamed B.named) (fun w h => hts w (List.mem_cons_of_mem _ h)) (fun pc H locs ls r u h1 h2 h3 h4 h5 => W.iret B.exec B.bytes B.returns (fun t ht hW => ⟨⟨r, u, rfl, h1, by rw [ht]; exact h2, va_K.moved hW.alike hK, h3⟩, h4.F ht⟩) h4.2.2 h5) hK hN hD0.self (fun q h => Or.inr h) _ _ _ hP va_S.rf hl
/-- which of the three isn't which -/
def qNc (U : State) : Prop := va_Nc EA EI U ∧ va_Nc ES EI U ∧ va_Nc ES EA U
theorem qNc.moved {s U : State} (hv : s.vm.Alike U.vm) (h : qNc s) : qNc U := ⟨h.1.moved hv, h.2.1.moved hv, h.2.2.moved hv⟩
/-- a wrapper whose call is refused: it returns, with one new cell of six slots -/
abbrev qMx (l : Launch) (y : MethodName) (w : Cond) (d : Nat) (avs : List Value) (D : va_G) (cy : Nat → ClassId) (bs : List va_W) (sz : Nat) (Qc : Array Value → State → Outcome → State → Prop) : Prop := Met l y (w :: wG) (qrx d) (va_Pc avs (fun U => qP D cy bs sz U ∧ qEx (va_A bs.flatten sz) U ∧ qNc U)) Qc 1 6 (va_A bs.flatten sz)
theorem q_blindW {A : Nat → Prop} : FrameBlind (va_Pc avs (fun U => qP D cy bs sz U ∧ qEx A U ∧ qNc U)) := fun a U g mk q => ⟨q.1, (q_blind (avs := avs) a U g mk ⟨q.1, q.2.1⟩).2, qEx.same (s := U) (U := U.calling g mk a) rfl rfl q.2.2.1, qNc.moved (s := U) (U := U.calling g mk a) (Vm.Alike.refl U.vm) q.2.2.2⟩
theorem q_ofMiX {hh : List (Nat × Nat × Nat × Nat)} {post : Int32 → S → Prop} (hy : plainName y.cls = true) (hlen : (lg_sl avs).length ≤ nL)
    (body : ∀ (p : Program) (e : Env) (s : State) (m : MethodId) (args : Array Value) (below : List Frame) (meth : Method) (c : Code) (Q : State → Prop) (A : Nat → Prop), p.tables.exec = Jvm.exec → c.code = cc → c.maxLocals = nL → s.vm.findClass y.cls = some m.cls → (∀ w ∈ wG, w.before args s = true) →
      (∀ (pc : Nat) (H : Heap) (locs : List Loc) (ls : Array Slot) (r : Int32) (u : S), post r u → va_P D vwCl (b1 u).flatten H → va_D A (b1 u).flatten → va_S A s.heap H locs → decode cc pc = .ok (.ireturn, 1) → W p l e (qrx d) s m args below meth c H locs 1 6 Q (F0 m pc ls [.int r])) →
      va_K D vwCl (qT cy) s → qNe s → va_D A bs.flatten → (∀ q, s.heap.size ≤ q → A q) → qEx A s → qNc s → c.exceptionTable.toList = tableOf hh → ∀ (H : Heap) (locs : List Loc) (ls : Array Slot), va_P D vwCl bs.flatten H → va_S A s.heap H locs → lv_has ls nL (lv_args 0 avs) → W p l e (qrx d) s m args below meth c H locs 0 0 Q (F0 m 0 ls [])) :
    qMx l y (.codeWith y cc nL (some .int) hh) d avs D cy bs sz (va_Qi post (qB D cy bs sz b1) (va_A bs.flatten sz)) := by
  refine va_MetW (cc := cc) (maxL := nL) (ret := some .int) (hh := hh) hy rfl ?_
  intro p e s m args below meth c s₁ B hml hv
  obtain ⟨rfl, ⟨hsz, hP, hK, hN, hD0⟩, hE, hNc⟩ := hv
  subst hsz
  have hts := atoms_spec (ws := .codeWith y cc nL (some .int) hh :: wG) B.pre
  have hl := lv_entry avs (n := nL) hlen
  have ht := vx_table (x := y) B (hts _ List.mem_cons_self)
  rw [lg_entry_eq]
  exact body p e s m _ below meth c _ _ B.exec B.bytes hml (findClass_of_methodNamed B.named) (fun w h => hts w (List.mem_cons_of_mem _ h)) (fun pc H locs ls r u h1 h2 h3 h4 h5 => W.iret B.exec B.bytes B.returns (fun t ht hW => ⟨⟨r, u, rfl, h1, by rw [ht]; exact h2, va_K.moved hW.alike hK, h3⟩, h4.F ht⟩) h4.2.2 h5) hK hN hD0.self (fun q h => Or.inr h) hE hNc ht _ _ _ hP va_S.rf hl
end QOW
section QTW
variable {p : Program} {l : Launch} {e : Env} {R : Room} {s : State} {m : MethodId} {args : Array Value} {below : List Frame} {meth : Method} {c : Code} {H : Heap} {locs : List Loc} {Q : State → Prop}
/-- a call that throws, its world changed -/
theorem q_thrownW {S : Type} {post : S → Prop} {b1 : S → List va_W} {E : String} {pc : Nat} {ls : Array Slot} {st0 rest : List Value} {A0 : Nat → Prop} {H0 : Heap} {D : va_G} {cy : Nat → ClassId} {bs bc br : List va_W} (isC isR : List Nat) (hP : va_P D vwCl bs.flatten H) (hD : va_D A0 bs.flatten) (hS : va_S A0 H0 H locs) (hA : ∀ q, H0.size ≤ q → A0 q)
    (hr : vx_Run p l e R s m args below meth c H locs 0 0 1 6 (F0 m pc ls st0) rest (fun _ _ _ => False) (vx_X (S := S) post (fun E9 u t => E9 = E ∧ qB D cy bc H.size b1 u t) (va_A bc.flatten H.size)) (va_A bc.flatten H.size))
    (hC : isC.map (fun i => bs[i]?) = bc.map some) (hR : isR.map (fun i => bs[i]?) = br.map some) (hn : va_nd (isR ++ isC) = true)
    (kx : ∀ (u : S) (ce : Cell) (q9 : Addr) (H1 : Heap) (locs1 : List Loc), post u → va_P D vwCl (br ++ b1 u).flatten H1 → va_D A0 (br ++ b1 u).flatten → va_S A0 H0 H1 locs1 → H1[q9]? = some ce → ce.vm = .none → s.vm.findClass E = some ce.cls → vx_W p l e R s m args below meth c H1 locs1 1 6 Q (F0 m pc ls rest) q9) : W p l e R s m args below meth c H locs 0 0 Q (F0 m pc ls st0) := by
  have hF := fl_free hD hS hA isC hC
  intro T hT X
  rcases hr T hT X with ⟨v, st₀, t, T', L, h0, X', hL, e1, e2, hf, st⟩ | ⟨q, st₀, t, T', L, E9, ce, h0, X', hL, e1, e2, ⟨u, hp, ⟨rfl, hP1, hK1, hD1⟩, hFr⟩, hce, hcv, hcl, st⟩
  · exact hf.elim
  · obtain ⟨k1, k2, k3⟩ := vx_keep (A1 := va_A bc.flatten H.size) h0 e1 hS (fun q _ h => hF q h) hF hL hFr
    rw [← e1] at hP1
    obtain ⟨h1, h2⟩ := fl_join hP hD isC isR hC hR hn k2 hF hP1 hD1
    obtain ⟨t2, a1, b2⟩ := kx u ce q T'.heap (locs ++ L) hp h1 h2 k3 (by rw [e1]; exact hce) hcv hcl T' rfl X'
    exact ⟨t2, st.trans a1, b2⟩
end QTW

section QBJ
variable {p : Program} {l : Launch} {e : Env} {R : Room} {s : State} {m : MethodId} {args : Array Value} {below : List Frame} {meth : Method} {c : Code} {H : Heap} {locs : List Loc} {cells slots : Nat} {Q : State → Prop}
variable {cc : ByteArray} {pc : Nat} {ls : Array Slot} {rest : List Value} {D : va_G} {cl : List vw_C} {A : Nat → Prop} {a : Nat} {H0 : Heap} {cy : Nat → ClassId} {bs : List va_W} {b : va_W}
/-- what a store left, in blocks -/
theorem qb_last (hx : p.tables.exec = Jvm.exec) (hb : c.code = cc) (hK : va_K D cl (qT cy) s) (hP : va_P D cl bs.flatten H) (hD : va_D A bs.flatten) (hS : va_S A H0 H locs) (i0 q0 : Nat) {n j : Nat} {g : Nat → Int64} (hi : bs[i0]? = some b) (ha : b[q0]? = some (a, .inl (cy 4, n, .inr (.inl g)))) {i : Int} {x : Int64} (hin : i = (j : Int) ∧ j < n ∧ n < 2147483648) (hdg : decode cc pc = .ok (.lastore, 1)) (kk : ∀ (H1 : Heap) (locs1 : List Loc), va_P D cl (bs.set i0 (b.set q0 (a, .inl (cy 4, n, .inr (.inl (qu g j x)))))).flatten H1 → va_D A (bs.set i0 (b.set q0 (a, .inl (cy 4, n, .inr (.inl (qu g j x)))))).flatten → va_S A H0 H1 locs1 → W p l e R s m args below meth c H1 locs1 cells slots Q (F0 m (pc + 1) ls rest)) : W p l e R s m args below meth c H locs cells slots Q (F0 m pc ls (.long x :: .int (qI i) :: .ref a :: rest)) :=
  va_last hx hb hK hP hD hS _ 4 (fl_at hi ha) rfl (qI_in hin) hdg (fun H1 locs1 h1 h2 h3 => by
    rw [qI_cl ⟨hin.1, by omega⟩] at h1 h2
    exact kk H1 locs1 (fl_put (X := fun w => va_P D cl w H1) hi ha h1) (fl_put (X := fun w => va_D A w) hi ha h2) h3)
end QBJ
/-- a long array -/
abbrev aJ (cy : Nat → ClassId) (n : Nat) (g : Nat → Int64) : va_E := .inl (cy 4, n, .inr (.inl g))
