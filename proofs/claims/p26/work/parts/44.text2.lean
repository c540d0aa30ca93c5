section QOH
variable {S : Type} {l : Launch} {y : MethodName} {cc : ByteArray} {nL d sz : Nat} {avs : List Value} {D : va_G} {cy : Nat → ClassId} {bs : List va_W} {b1 : S → List va_W}
theorem q_ofMf {post : UInt32 → S → Prop} (hy : plainName y.cls = true) (hlen : (lg_sl avs).length ≤ nL)
    (body : ∀ (p : Program) (e : Env) (s : State) (m : MethodId) (args : Array Value) (below : List Frame) (meth : Method) (c : Code) (Q : State → Prop) (A : Nat → Prop), p.tables.exec = Jvm.exec → c.code = cc → c.maxLocals = nL → s.vm.findClass y.cls = some m.cls → (∀ w ∈ wG, w.before args s = true) →
      (∀ (pc : Nat) (H : Heap) (locs : List Loc) (ls : Array Slot) (r : UInt32) (u : S), post r u → va_P D vwCl (b1 u).flatten H → va_D A (b1 u).flatten → va_S A s.heap H locs → decode cc pc = .ok (.freturn, 1) → W p l e (qrm d) s m args below meth c H locs 0 0 Q (F0 m pc ls [.float r])) →
      va_K D vwCl (qT cy) s → qNe s → va_D A bs.flatten → (∀ q, s.heap.size ≤ q → A q) → ∀ (H : Heap) (locs : List Loc) (ls : Array Slot), va_P D vwCl bs.flatten H → va_S A s.heap H locs → lv_has ls nL (lv_args 0 avs) → W p l e (qrm d) s m args below meth c H locs 0 0 Q (F0 m 0 ls [])) :
    qMet l y (.code y cc nL (some .float)) d avs D cy bs sz (va_Qf post (qB D cy bs sz b1) (va_A bs.flatten sz)) := by
  refine Met.ofW (cc := cc) (maxL := nL) (ret := some .float) hy rfl ?_
  intro p e s m args below meth c s₁ B hml hv
  obtain ⟨rfl, hsz, hP, hK, hN, hD0⟩ := hv
  subst hsz
  have hts := atoms_spec (ws := .code y cc nL (some .float) :: wG) B.pre
  have hl := lv_entry avs (n := nL) hlen
  rw [lg_entry_eq]
  exact body p e s m _ below meth c _ _ B.exec B.bytes hml (findClass_of_methodNamed B.named) (fun w h => hts w (List.mem_cons_of_mem _ h)) (fun pc H locs ls r u h1 h2 h3 h4 h5 => W.fret (hlocks := B.notSynchronized) B.exec B.bytes B.returns (fun t ht hW => ⟨⟨r, u, rfl, h1, by rw [ht]; exact h2, va_K.moved hW.alike hK, h3⟩, h4.F ht⟩) h4.2.2 h5) hK hN hD0.self (fun q h => Or.inr h) _ _ _ hP va_S.rf hl
end QOH
section QCN
variable {p : Program} {l : Launch} {e : Env} {R : Room} {s : State} {m : MethodId} {args : Array Value} {below : List Frame} {meth : Method} {c : Code} {H : Heap} {locs : List Loc} {cells slots : Nat} {Q : State → Prop}
variable {cc : ByteArray} {pc : Nat} {ls : Array Slot} {rest st0 : List Value} {D : va_G} {A0 : Nat → Prop} {a : Array Value} {H0 : Heap} {cy : Nat → ClassId} {bs bc br : List va_W}
theorem q_backf {S : Type} {post : UInt32 → S → Prop} {b1 : S → List va_W} (isC isR : List Nat) (hP : va_P D vwCl bs.flatten H) (hD : va_D A0 bs.flatten) (hS : va_S A0 H0 H locs) (hA : ∀ q, H0.size ≤ q → A0 q)
    (hr : va_Run p l e R s m args below meth c H locs cells slots 0 0 (F0 m pc ls st0) rest (va_Qf post (qB D cy bc H.size b1) (va_A bc.flatten H.size) a) (va_A bc.flatten H.size))
    (hC : isC.map (fun i => bs[i]?) = bc.map some) (hR : isR.map (fun i => bs[i]?) = br.map some) (hn : va_nd (isR ++ isC) = true)
    (kk : ∀ (r : UInt32) (u : S) (H1 : Heap) (locs1 : List Loc), post r u → va_P D vwCl (br ++ b1 u).flatten H1 → va_D A0 (br ++ b1 u).flatten → va_S A0 H0 H1 locs1 → W p l e R s m args below meth c H1 locs1 cells slots Q (F0 m (pc + 3) ls (.float r :: rest))) : W p l e R s m args below meth c H locs cells slots Q (F0 m pc ls st0) := by
  have hF := fl_free hD hS hA isC hC
  refine va_callf hr hS (fun q _ h => hF q h) hF (fun r u t H1 locs1 ht hvm hw hB hz hk hS1 => ?_)
  obtain ⟨hP1, hK1, hD1⟩ := hB
  rw [ht] at hP1
  obtain ⟨h1, h2⟩ := fl_join hP hD isC isR hC hR hn hk hF hP1 hD1
  exact kk r u H1 locs1 hw h1 h2 hS1
end QCN
theorem q_ofWF {l : Launch} {y : MethodName} {ws ws' : List Cond} {rm : Room} {Pc : Array Value → State → Prop} {Qc : Array Value → State → Outcome → State → Prop} {mc ms : Nat} {free : Addr → Prop} {cc : ByteArray} {maxL : Nat} {ret : Option FieldType}
    (hy : plainFor y = true) (hw : ws = Cond.code y cc maxL ret :: ws')
    (body : ∀ p e s m args below meth c s₁, BodyLoose p l y (headSpec ws rm) cc maxL ret e s m args below meth c s₁ → c.maxLocals = maxL → Pc args s →
      W p l e (headSpec ws rm).room s m args below meth c s.heap [] 0 0 (MQ below Qc args s mc ms free) (entryFrame m args maxL)) : Met l y ws rm Pc Qc mc ms free := by
  refine MetFree.of_bodyRF (code := cc) (maxLocals := maxL) (ret := ret) hy ?_ ?_
  · intro args s m h hn
    obtain ⟨meth, c, h1, h2, h3, h4, h5, h6, -, -⟩ := Cond.code_spec hn (atoms_spec (ws := ws) h _ (by rw [hw]; exact List.mem_cons_self))
    exact ⟨meth, c, h1, h2, h3, h4, h5, h6⟩
  · intro p e s m args below meth c s₁ B hml hP _ hent
    have hh0 : s₁.heap = s.heap := by rw [B.state]; rfl
    obtain ⟨t, a1, o, b1, b2, b3⟩ := body p e s m args below meth c s₁ B hml hP s₁ hh0 (Stand.of_body B)
    exact ⟨t, o, hent.trans a1, b1, b2, ⟨b3.1, b3.2⟩⟩
section QOX
variable {S : Type} {l : Launch} {y : MethodName} {cc : ByteArray} {nL d sz : Nat} {avs : List Value} {D : va_G} {cy : Nat → ClassId} {bs : List va_W} {b1 : S → List va_W}
theorem q_ofRiF {post : Int32 → Prop} (hy : plainFor y = true) (hlen : (lg_sl avs).length ≤ nL)
    (body : ∀ (p : Program) (e : Env) (s : State) (m : MethodId) (args : Array Value) (below : List Frame) (meth : Method) (c : Code) (Q : State → Prop), p.tables.exec = Jvm.exec → c.code = cc → c.maxLocals = nL → s.vm.findClass y.cls = some m.cls → (∀ w ∈ wG, w.before args s = true) →
      (∀ (pc : Nat) (ls : Array Slot) (r : Int32), post r → decode cc pc = .ok (.ireturn, 1) → W p l e (qrm d) s m args below meth c s.heap [] 0 0 Q (F0 m pc ls [.int r])) →
      va_K D vwCl (qT cy) s → qNe s → va_P D vwCl bs.flatten s.heap → ∀ ls : Array Slot, lv_has ls nL (lv_args 0 avs) → W p l e (qrm d) s m args below meth c s.heap [] 0 0 Q (F0 m 0 ls [])) :
    qRd l y (.code y cc nL (some .int)) d avs D cy bs (vp_Si post) := by
  refine q_ofWF (cc := cc) (maxL := nL) (ret := some .int) hy rfl ?_
  intro p e s m args below meth c s₁ B hml hv
  obtain ⟨rfl, hP, hK, hN⟩ := hv
  have hts := atoms_spec (ws := .code y cc nL (some .int) :: wG) B.pre
  have hl := lv_entry avs (n := nL) hlen
  rw [lg_entry_eq]
  exact body p e s m _ below meth c _ B.exec B.bytes hml (findClass_of_methodNamed B.named) (fun w h => hts w (List.mem_cons_of_mem _ h)) (fun pc ls r h1 h5 => W.iret B.exec B.bytes B.returns (fun t ht hW => ⟨r, rfl, h1, ht⟩) (fun _ h => by cases h) h5) hK hN hP _ hl
theorem q_ofRzF {post : Bool → Prop} (hy : plainFor y = true) (hlen : (lg_sl avs).length ≤ nL)
    (body : ∀ (p : Program) (e : Env) (s : State) (m : MethodId) (args : Array Value) (below : List Frame) (meth : Method) (c : Code) (Q : State → Prop), p.tables.exec = Jvm.exec → c.code = cc → c.maxLocals = nL → s.vm.findClass y.cls = some m.cls → (∀ w ∈ wG, w.before args s = true) →
      (∀ (pc : Nat) (ls : Array Slot) (r : Bool), post r → decode cc pc = .ok (.ireturn, 1) → W p l e (qrm d) s m args below meth c s.heap [] 0 0 Q (F0 m pc ls [.int (qz r)])) →
      va_K D vwCl (qT cy) s → qNe s → va_P D vwCl bs.flatten s.heap → ∀ ls : Array Slot, lv_has ls nL (lv_args 0 avs) → W p l e (qrm d) s m args below meth c s.heap [] 0 0 Q (F0 m 0 ls [])) :
    qRd l y (.code y cc nL (some .boolean)) d avs D cy bs (vp_Si (fun r => ∃ b : Bool, r = qz b ∧ post b)) := by
  refine q_ofWF (cc := cc) (maxL := nL) (ret := some .boolean) hy rfl ?_
  intro p e s m args below meth c s₁ B hml hv
  obtain ⟨rfl, hP, hK, hN⟩ := hv
  have hts := atoms_spec (ws := .code y cc nL (some .boolean) :: wG) B.pre
  have hl := lv_entry avs (n := nL) hlen
  rw [lg_entry_eq]
  exact body p e s m _ below meth c _ B.exec B.bytes hml (findClass_of_methodNamed B.named) (fun w h => hts w (List.mem_cons_of_mem _ h)) (fun pc ls r h1 h5 => W.zret B.exec B.bytes B.returns (qz_nar r) (fun t ht hW => ⟨qz r, rfl, ⟨r, rfl, h1⟩, ht⟩) (fun _ h => by cases h) h5) hK hN hP _ hl
end QOX

set_option maxRecDepth 100000 in
set_option maxHeartbeats 4000000 in
theorem c_X7_freedomW (l : Launch) (D : va_G) (cy : Nat → ClassId) (x la lv9 ls9 fa xh xs la2 lv92 ls92 fb fw bu ta : Nat) (rc re gb oc oe rs rc2 re2 gb2 oc2 oe2 rs2 rr : Nat → Nat) (ad : Nat → Nat → Nat) (T : LSt) (hz : Nat) (HZ : Nat → LSt) (len : Nat) (tx : Nat → Int) (W : va_W) (hG : gOk T) (hW : CW cy x la lv9 ls9 fa xh xs la2 lv92 ls92 fb fw bu ta rc re gb oc oe rs rc2 re2 gb2 oc2 oe2 rs2 rr ad T hz HZ len tx W)  (sz : Nat) : qMet l yX7_freedom (.code yX7_freedom cX7_freedom 3 (some .float)) 7 [.ref (x)] D cy [W] sz (va_Qf (S := va_W) (fun r u => r = frW (widS (lC T) (lN9 T) (lE T) (lM T) 10) ∧ CW cy x la lv9 ls9 fa xh xs la2 lv92 ls92 fb fw bu ta rc re gb oc oe rs rc2 re2 gb2 oc2 oe2 rs2 rr ad T hz HZ len tx u) (qB D cy [W] sz (fun u => [u])) (va_A [W].flatten sz)) := by
  refine q_ofMf (S := va_W) (b1 := fun u => [u]) (post := fun r u => r = frW (widS (lC T) (lN9 T) (lE T) (lM T) 10) ∧ CW cy x la lv9 ls9 fa xh xs la2 lv92 ls92 fb fw bu ta rc re gb oc oe rs rc2 re2 gb2 oc2 oe2 rs2 rr ad T hz HZ len tx u) (by decide +kernel) (Nat.le_of_ble_eq_true rfl) ?_
  intro p e s m args below meth c Q A hx hb hml hown hg hQ hK hN hD hA H locs ls hP hS hl
  have hown : s.vm.findClass RX7 = some m.cls := hown
  have hl : lv_has ls 3 [(0, .ref (x))] := hl
  have hW0 := hW
  obtain ⟨kw, v, st, C, nc, E, ne, tt, M, FC, mgC, tnC, FE, mgE, tnE, N, nx, Z, wo, v2, st2, C2, n2, E2, m2, t1, M1, F1, g1, q1, G1, e1, y1, N1, bf, a9, l9, r9, s9, n9, f9, t9, Gr, nr, rfl, hL, hF, hkw, hH, hB⟩ := hW
  obtain ⟨gV, gT, ⟨hc, hC⟩, ⟨he, hE⟩, gE, gD⟩ := hG.eq hL
  have hV : qV v := gV
  have hst : ∀ i, i < 10 → 0 ≤ st i ∧ st i ≤ 9 := gT
  have hc : nc ≤ 16 := hc
  have hC : qWR C nc := hC
  have he4 : ne ≤ 4 := he
  have he : ne ≤ 16 := Nat.le_trans he (by decide)
  have hE : qWR E ne := hE
  obtain ⟨hnx, hhz, hZ, hHZ⟩ := hH
  obtain ⟨hln, hbf, htx⟩ := hB
  have en : nc = lN9 T := hL.2.2.1
  have em : ne = lM T := hL.2.2.2.2.1
  rw [fl_open] at hP hD
  have hP : va_P D vwCl [[(x, .inr (7, [.ref (la), .ref (fa), .ref (xh), .ref (la2), .ref (fb), .ref (fw), .int (qz (kw)), .ref (bu), .int (qI (((len : Nat) : Int))), .ref (ta)]))], [(la, .inr (3, [.ref (lv9), .ref (ls9), .ref (rc 0), .ref (re 0)]))], [(lv9, aI cy 10 (v))], [(ls9, aI cy 10 (st))], qRu cy rc (C) (((nc : Nat) : Int)), qRu cy re (E) (((ne : Nat) : Int)), [(fa, .inr (1, [.ref (gb 0), .ref (oc 0), .ref (oe 0), .ref (rs 0), .int (qI (tt))]))], qBo cy gb (M), qOu cy oc (((FC : Nat) : Int)) (mgC) (tnC), qOu cy oe (((FE : Nat) : Int)) (mgE) (tnE), qBo cy rs (N), qHi cy xh xs ad nx hz Z, [(fw, aI cy 16 (wo))], [(la2, .inr (3, [.ref (lv92), .ref (ls92), .ref (rc2 0), .ref (re2 0)]))], [(lv92, aI cy 10 (v2))], [(ls92, aI cy 10 (st2))], qRu cy rc2 (C2) (n2), qRu cy re2 (E2) (m2), [(fb, .inr (1, [.ref (gb2 0), .ref (oc2 0), .ref (oe2 0), .ref (rs2 0), .int (qI (t1))]))], qBo cy gb2 (M1), qOu cy oc2 (F1) (g1) (q1), qOu cy oe2 (G1) (e1) (y1), qBo cy rs2 (N1), [(bu, aI cy 60 (bf))], [(ta, .inr (6, [.ref (rr 0), .int (qI (a9)), .int (qI (l9)), .int (qI (r9)), .int (qI (s9)), .int (qI (n9)), .int (qI (f9)), .int (qI (t9))]))], qRu cy rr (Gr) (nr)].flatten H := hP
  have hD : va_D A [[(x, .inr (7, [.ref (la), .ref (fa), .ref (xh), .ref (la2), .ref (fb), .ref (fw), .int (qz (kw)), .ref (bu), .int (qI (((len : Nat) : Int))), .ref (ta)]))], [(la, .inr (3, [.ref (lv9), .ref (ls9), .ref (rc 0), .ref (re 0)]))], [(lv9, aI cy 10 (v))], [(ls9, aI cy 10 (st))], qRu cy rc (C) (((nc : Nat) : Int)), qRu cy re (E) (((ne : Nat) : Int)), [(fa, .inr (1, [.ref (gb 0), .ref (oc 0), .ref (oe 0), .ref (rs 0), .int (qI (tt))]))], qBo cy gb (M), qOu cy oc (((FC : Nat) : Int)) (mgC) (tnC), qOu cy oe (((FE : Nat) : Int)) (mgE) (tnE), qBo cy rs (N), qHi cy xh xs ad nx hz Z, [(fw, aI cy 16 (wo))], [(la2, .inr (3, [.ref (lv92), .ref (ls92), .ref (rc2 0), .ref (re2 0)]))], [(lv92, aI cy 10 (v2))], [(ls92, aI cy 10 (st2))], qRu cy rc2 (C2) (n2), qRu cy re2 (E2) (m2), [(fb, .inr (1, [.ref (gb2 0), .ref (oc2 0), .ref (oe2 0), .ref (rs2 0), .int (qI (t1))]))], qBo cy gb2 (M1), qOu cy oc2 (F1) (g1) (q1), qOu cy oe2 (G1) (e1) (y1), qBo cy rs2 (N1), [(bu, aI cy 60 (bf))], [(ta, .inr (6, [.ref (rr 0), .int (qI (a9)), .int (qI (l9)), .int (qI (r9)), .int (qI (s9)), .int (qI (n9)), .int (qI (f9)), .int (qI (t9))]))], qRu cy rr (Gr) (nr)].flatten := hD
  refine q_iconst hx hb dX7_freedom_0 ?_
  refine lv_istore_n (lv' := [(1, .int (qI (0))), (0, .ref (x))]) hx hb dX7_freedom_1 rfl hl (by decide) rfl (fun ls hl => ?_)
  refine q_iconst hx hb dX7_freedom_2 ?_
  refine lv_istore_n (lv' := [(2, .int (qI (0))), (1, .int (qI (0))), (0, .ref (x))]) hx hb dX7_freedom_3 rfl hl (by decide) rfl (fun ls hl => ?_)
  have L_4 : ∀ (n_4 k : Nat) (y : Int), k ≤ 10 → 10 + 1 ≤ k + n_4 → (y = widS C nc E ne k) → (0 ≤ y ∧ y ≤ 2000 * k) → ∀ (H : Heap) (locs : List Loc) (ls : Array Slot), va_P D vwCl [[(x, .inr (7, [.ref (la), .ref (fa), .ref (xh), .ref (la2), .ref (fb), .ref (fw), .int (qz (kw)), .ref (bu), .int (qI (((len : Nat) : Int))), .ref (ta)]))], [(la, .inr (3, [.ref (lv9), .ref (ls9), .ref (rc 0), .ref (re 0)]))], [(lv9, aI cy 10 (v))], [(ls9, aI cy 10 (st))], qRu cy rc (C) (((nc : Nat) : Int)), qRu cy re (E) (((ne : Nat) : Int)), [(fa, .inr (1, [.ref (gb 0), .ref (oc 0), .ref (oe 0), .ref (rs 0), .int (qI (tt))]))], qBo cy gb (M), qOu cy oc (((FC : Nat) : Int)) (mgC) (tnC), qOu cy oe (((FE : Nat) : Int)) (mgE) (tnE), qBo cy rs (N), qHi cy xh xs ad nx hz Z, [(fw, aI cy 16 (wo))], [(la2, .inr (3, [.ref (lv92), .ref (ls92), .ref (rc2 0), .ref (re2 0)]))], [(lv92, aI cy 10 (v2))], [(ls92, aI cy 10 (st2))], qRu cy rc2 (C2) (n2), qRu cy re2 (E2) (m2), [(fb, .inr (1, [.ref (gb2 0), .ref (oc2 0), .ref (oe2 0), .ref (rs2 0), .int (qI (t1))]))], qBo cy gb2 (M1), qOu cy oc2 (F1) (g1) (q1), qOu cy oe2 (G1) (e1) (y1), qBo cy rs2 (N1), [(bu, aI cy 60 (bf))], [(ta, .inr (6, [.ref (rr 0), .int (qI (a9)), .int (qI (l9)), .int (qI (r9)), .int (qI (s9)), .int (qI (n9)), .int (qI (f9)), .int (qI (t9))]))], qRu cy rr (Gr) (nr)].flatten H → va_D A [[(x, .inr (7, [.ref (la), .ref (fa), .ref (xh), .ref (la2), .ref (fb), .ref (fw), .int (qz (kw)), .ref (bu), .int (qI (((len : Nat) : Int))), .ref (ta)]))], [(la, .inr (3, [.ref (lv9), .ref (ls9), .ref (rc 0), .ref (re 0)]))], [(lv9, aI cy 10 (v))], [(ls9, aI cy 10 (st))], qRu cy rc (C) (((nc : Nat) : Int)), qRu cy re (E) (((ne : Nat) : Int)), [(fa, .inr (1, [.ref (gb 0), .ref (oc 0), .ref (oe 0), .ref (rs 0), .int (qI (tt))]))], qBo cy gb (M), qOu cy oc (((FC : Nat) : Int)) (mgC) (tnC), qOu cy oe (((FE : Nat) : Int)) (mgE) (tnE), qBo cy rs (N), qHi cy xh xs ad nx hz Z, [(fw, aI cy 16 (wo))], [(la2, .inr (3, [.ref (lv92), .ref (ls92), .ref (rc2 0), .ref (re2 0)]))], [(lv92, aI cy 10 (v2))], [(ls92, aI cy 10 (st2))], qRu cy rc2 (C2) (n2), qRu cy re2 (E2) (m2), [(fb, .inr (1, [.ref (gb2 0), .ref (oc2 0), .ref (oe2 0), .ref (rs2 0), .int (qI (t1))]))], qBo cy gb2 (M1), qOu cy oc2 (F1) (g1) (q1), qOu cy oe2 (G1) (e1) (y1), qBo cy rs2 (N1), [(bu, aI cy 60 (bf))], [(ta, .inr (6, [.ref (rr 0), .int (qI (a9)), .int (qI (l9)), .int (qI (r9)), .int (qI (s9)), .int (qI (n9)), .int (qI (f9)), .int (qI (t9))]))], qRu cy rr (Gr) (nr)].flatten → va_S A s.heap H locs → lv_has ls 3 [(0, .ref (x)), (1, .int (qI (y))), (2, .int (qI (((k : Nat) : Int))))] → W p l e (qrm 7) s m args below meth c H locs 0 0 Q (F0 m 4 ls []) := by
    intro n_4
    induction n_4 with
    | zero => intro k _ h1 h2; exact absurd h2 (by omega)
    | succ n_4 ih_4 =>
      intro k y hk_4 hn_4 hy hy2 H locs ls hP hD hS hl
      refine lv_iload_n hx hb dX7_freedom_4 rfl (lv_at hl 2 rfl) ?_
      refine q_bipush hx hb dX7_freedom_5 (by decide) ?_
      refine q_icmp_ge (tgt := 30) hx hb dX7_freedom_7 (by decide) (by omega) (fun c_7 => ?_) (fun c_7 => ?_)
      · skip
        have e9 : k = 10 := by omega
        subst e9
        have fr9 := fr_use (w := y.toNat) (by omega)
        rw [show ((y.toNat : Nat) : Int) = y by omega] at fr9
        refine lv_iload_n hx hb dX7_freedom_30 rfl (lv_at hl 1 rfl) ?_
        refine lv_i2f hx hb dX7_freedom_31 ?_
        refine lv_ldcf hx hb hown (hg _ m_352) dX7_freedom_32 ?_
        refine lv_fdiv hx hb dX7_freedom_34 fr9.2.2.1 ?_
        have hP : va_P D vwCl [(clsB cy x la lv9 ls9 fa xh xs la2 lv92 ls92 fb fw bu ta rc re gb oc oe rs rc2 re2 gb2 oc2 oe2 rs2 rr ad (kw) (len) (v) (st) (C) (nc) (E) (ne) (tt) (M) (FC) (mgC) (tnC) (FE) (mgE) (tnE) (N) (nx) (hz) (Z) (wo) (v2) (st2) (C2) (n2) (E2) (m2) (t1) (M1) (F1) (g1) (q1) (G1) (e1) (y1) (N1) (bf) (a9) (l9) (r9) (s9) (n9) (f9) (t9) (Gr) (nr)).flatten].flatten H := by rw [fl_open]; exact hP
        have hD : va_D A [(clsB cy x la lv9 ls9 fa xh xs la2 lv92 ls92 fb fw bu ta rc re gb oc oe rs rc2 re2 gb2 oc2 oe2 rs2 rr ad (kw) (len) (v) (st) (C) (nc) (E) (ne) (tt) (M) (FC) (mgC) (tnC) (FE) (mgE) (tnE) (N) (nx) (hz) (Z) (wo) (v2) (st2) (C2) (n2) (E2) (m2) (t1) (M1) (F1) (g1) (q1) (G1) (e1) (y1) (N1) (bf) (a9) (l9) (r9) (s9) (n9) (f9) (t9) (Gr) (nr)).flatten].flatten := by rw [fl_open]; exact hD
        exact hQ _ _ _ _ _ ((clsB cy x la lv9 ls9 fa xh xs la2 lv92 ls92 fb fw bu ta rc re gb oc oe rs rc2 re2 gb2 oc2 oe2 rs2 rr ad (kw) (len) (v) (st) (C) (nc) (E) (ne) (tt) (M) (FC) (mgC) (tnC) (FE) (mgE) (tnE) (N) (nx) (hz) (Z) (wo) (v2) (st2) (C2) (n2) (E2) (m2) (t1) (M1) (F1) (g1) (q1) (G1) (e1) (y1) (N1) (bf) (a9) (l9) (r9) (s9) (n9) (f9) (t9) (Gr) (nr)).flatten) ⟨by rw [← widS_eq hL 10, ← hy]; rfl, hW0⟩ hP hD hS dX7_freedom_35
      · skip
        have e1 := hF.1 k 10 (by omega) (by omega)
        have e2 := hF.1 10 k (by omega) (by omega)
        have cl := (fil_ok (but := -1) hE hC he hc).1
        have b1 := cl.2.2 k 10 (by omega) (by omega)
        have b2 := cl.2.2 10 k (by omega) (by omega)
        have b3 := cl.1 k k 10 (by omega) (by omega) (by omega)
        have b4 := cl.2.1 k (by omega)
        rw [← e1] at b1 b3
        rw [← e2] at b2 b3
        refine lv_iload_n hx hb dX7_freedom_10 rfl (lv_at hl 1 rfl) ?_
        refine lv_aload_n hx hb dX7_freedom_11 rfl (lv_at hl 0 rfl) ?_
        refine gf_X7_19 hx hb hg hown hK (fl_blk hP 0 rfl) 0 rfl rfl dX7_freedom_12 ?_
        refine gf_X7_182 hx hb hg hown hK (fl_blk hP 6 rfl) 0 rfl rfl dX7_freedom_15 ?_
        refine lv_iload_n hx hb dX7_freedom_18 rfl (lv_at hl 2 rfl) ?_
        refine q_readi (va_runV (As := [.int (qI (((k : Nat) : Int)))]) (rest := [.int (qI (y))]) ⟨hx, hb, hml, hown, hg⟩ (c_X0_width l D cy (gb) (M) _ k (by omega)) (cv_X7_212 hg rfl rfl ⟨by decide, by decide⟩) ⟨q_blind0, va_recv hK (fl_blk hP 7 rfl) (ci := 0) (q0 := 0) rfl rfl, q_preR _ hK hN hP [7] rfl⟩ rfl rfl hl.1 rfl (lv_room (Nat.le_of_ble_eq_true rfl)) dX7_freedom_19 ⟨by decide, by decide⟩) (fun r_19 h_19 => ?_)
        subst h_19
        refine q_iadd hx hb dX7_freedom_22 ?_
        refine lv_istore_n (lv' := [(1, .int (qI ((y) + (M k 10 - (-(M 10 k)))))), (0, .ref (x)), (2, .int (qI (((k : Nat) : Int))))]) hx hb dX7_freedom_23 rfl hl (by decide) rfl (fun ls hl => ?_)
        refine q_iinc (k := 2) (lv' := [(2, .int (qI ((((k : Nat) : Int)) + (1)))), (1, .int (qI ((y) + (M k 10 - (-(M 10 k)))))), (0, .ref (x))]) hx hb dX7_freedom_24 hl rfl (by decide) rfl (fun ls hl => ?_)
        refine lv_goto (tgt := 4) hx hb dX7_freedom_27 (by decide) ?_
        exact ih_4 (k + 1) _ (by omega) (by omega) (by show _ = widS C nc E ne k + _; rw [← hy, ← e1, ← e2]) (by omega) _ _ _ hP hD hS (lv_sub hl [2, 1, 0] rfl)
  exact L_4 (10 + 1) (0) (0) (by omega) (by omega) rfl (by omega) _ _ _ hP hD hS (lv_sub hl [2, 1, 0] rfl)
