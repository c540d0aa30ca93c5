/-! ===== the law: its script, its loop ===== -/
section QOP
variable {S : Type} {l : Launch} {y : MethodName} {cc : ByteArray} {nL d sz : Nat} {avs : List Value} {D : va_G} {cy : Nat → ClassId} {bs : List va_W} {b1 : S → List va_W}
theorem q_ofRp {post : Int32 → Prop} {Bp : State → Prop} (hy : plainName y.cls = true) (hlen : (lg_sl avs).length ≤ nL)
    (body : ∀ (p : Program) (e : Env) (s : State) (m : MethodId) (args : Array Value) (below : List Frame) (meth : Method) (c : Code) (Q : State → Prop), p.tables.exec = Jvm.exec → c.code = cc → c.maxLocals = nL → s.vm.findClass y.cls = some m.cls → (∀ w ∈ wG, w.before args s = true) →
      (∀ (pc : Nat) (ls : Array Slot) (r : Int32), post r → decode cc pc = .ok (.ireturn, 1) → W p l e (qrm d) s m args below meth c s.heap [] 0 0 Q (F0 m pc ls [.int r])) →
      Bp s → ∀ ls : Array Slot, lv_has ls nL (lv_args 0 avs) → W p l e (qrm d) s m args below meth c s.heap [] 0 0 Q (F0 m 0 ls [])) :
    Met l y (.code y cc nL (some .int) :: wG) (qrm d) (va_Pc avs Bp) (vp_Si post) 0 0 (fun _ => False) := by
  refine Met.ofW (cc := cc) (maxL := nL) (ret := some .int) hy rfl ?_
  intro p e s m args below meth c s₁ B hml hv
  obtain ⟨rfl, hB9⟩ := hv
  have hts := atoms_spec (ws := .code y cc nL (some .int) :: wG) B.pre
  have hl := lv_entry avs (n := nL) hlen
  rw [lg_entry_eq]
  exact body p e s m _ below meth c _ B.exec B.bytes hml (findClass_of_methodNamed B.named) (fun w h => hts w (List.mem_cons_of_mem _ h)) (fun pc ls r h1 h5 => W.iret B.exec B.bytes B.returns (fun t ht hW => ⟨r, rfl, h1, ht⟩) (fun _ h => by cases h) h5) hB9 _ hl
end QOP
section QSL
variable {p : Program} {l : Launch} {e : Env} {R : Room} {s : State} {m : MethodId} {args : Array Value} {below : List Frame} {meth : Method} {c : Code} {H : Heap} {locs : List Loc} {cells slots : Nat} {Q : State → Prop} {cc : ByteArray} {pc : Nat} {ls : Array Slot} {rest : List Value} {A0 : Nat → Prop} {H0 : Heap}
theorem q_sld (hx : p.tables.exec = Jvm.exec) (hb : c.code = cc) {b L : Nat} {xs : Nat → Int32} (hX : va_X b L xs s H0) (hbl : b < H0.size) (hbA : ¬ A0 b) (hS : va_S A0 H0 H locs) {i z : Int} {j : Nat} (hin : i = (j : Int) ∧ j < L ∧ L < 2147483648) (hz : (xs j).toInt = z) (hdg : decode cc pc = .ok (.iaload, 1))
    (kk : W p l e R s m args below meth c H locs cells slots Q (F0 m (pc + 1) ls (.int (qI z) :: rest))) : W p l e R s m args below meth c H locs cells slots Q (F0 m pc ls (.int (qI i) :: .ref b :: rest)) :=
  va_sld hx hb hX hbl hbA hS (qI_in hin) hdg (by rw [qI_cl ⟨hin.1, by omega⟩]; rw [← hz, qI_self] at kk; exact kk)
theorem q_slen (hx : p.tables.exec = Jvm.exec) (hb : c.code = cc) {b L : Nat} {xs : Nat → Int32} (hX : va_X b L xs s H0) (hbl : b < H0.size) (hbA : ¬ A0 b) (hS : va_S A0 H0 H locs) (hdg : decode cc pc = .ok (.arraylength, 1))
    (kk : W p l e R s m args below meth c H locs cells slots Q (F0 m (pc + 1) ls (.int (qI (L : Int)) :: rest))) : W p l e R s m args below meth c H locs cells slots Q (F0 m pc ls (.ref b :: rest)) :=
  va_slen hx hb hX hbl hbA hS hdg (by rw [qI_nat]; exact kk)
end QSL
theorem q_blindX {avs : List Value} {b L : Nat} {xs : Nat → Int32} : FrameBlind (va_Pc avs (fun U => va_X b L xs U U.heap)) := fun a U g mk q => ⟨q.1, va_X.moved (u := U) (U := U.calling g mk a) (Vm.Alike.refl U.vm) q.2⟩
theorem andM (x : Int32) : ∃ k : Nat, k < 2147483648 ∧ x &&& qI 2147483647 = qI (k : Int) := by
  refine ⟨(x &&& qI 2147483647).toBitVec.toNat, ?_, ?_⟩
  · rw [Int32.toBitVec_and, BitVec.toNat_and]
    exact Nat.lt_of_le_of_lt Nat.and_le_right (by decide +kernel)
  · rw [← qI_nat]
    apply Int32.toBitVec_inj.mp
    show _ = BitVec.ofNat 32 _
    rw [BitVec.ofNat_toNat, BitVec.setWidth_eq]

theorem CW_hz {cy : Nat → ClassId} {x la lv9 ls9 fa xh xs la2 lv92 ls92 fb fw bu ta : Nat} {rc re gb oc oe rs rc2 re2 gb2 oc2 oe2 rs2 rr : Nat → Nat} {ad : Nat → Nat → Nat} {T : LSt} {hz : Nat} {HZ : Nat → LSt} {len : Nat} {tx : Nat → Int} {W : va_W} (hW : CW cy x la lv9 ls9 fa xh xs la2 lv92 ls92 fb fw bu ta rc re gb oc oe rs rc2 re2 gb2 oc2 oe2 rs2 rr ad T hz HZ len tx W) : hz ≤ 8 := by
  obtain ⟨_, _, _, _, _, _, _, _, _, _, _, _, _, _, _, _, _, _, _, _, _, _, _, _, _, _, _, _, _, _, _, _, _, _, _, _, _, _, _, _, _, _, _, _, -, -, -, -, ⟨-, h, -⟩, -⟩ := hW
  exact h
theorem w1_s {w : Nat → Int} {k : Nat} (h : ∀ q, w q = if 10 ≤ q ∧ q < 10 + k then 5 else 0) : ∀ q, qu w (10 + k) 5 q = if 10 ≤ q ∧ q < 10 + (k + 1) then 5 else 0 := by
  intro q
  by_cases e : q = 10 + k
  · rw [e, qu_s, if_pos (by omega)]
  · rw [qu_n _ _ e, h]
    by_cases g : 10 ≤ q ∧ q < 10 + k
    · rw [if_pos g, if_pos (by omega)]
    · rw [if_neg g, if_neg (by omega)]

set_option maxRecDepth 100000 in
set_option maxHeartbeats 4000000 in
theorem c_L_cell (l : Launch) (b L : Nat) (sc9 : Nat → Int32) (hL : L < 2147483648) (p0 : Int) (k : Nat) (hp : p0 = (k : Int) ∧ k < 2147483648) : Met l yL_cell (.code yL_cell cL_cell 2 (some .int) :: wG) (qrm 1) (va_Pc [.ref (b), .int (qI (p0))] (fun U => va_X b L sc9 U U.heap)) (vp_Si (fun _ => True)) 0 0 (fun _ => False) := by
  refine q_ofRp (by decide +kernel) (Nat.le_of_ble_eq_true rfl) ?_
  intro p e s m args below meth c Q hx hb hml hown hg hQ hX ls hl
  have hown : s.vm.findClass RL = some m.cls := hown
  have hl : lv_has ls 2 [(0, .ref (b)), (1, .int (qI (p0)))] := hl
  have hbl : b < s.heap.size := by
    obtain ⟨scr, h1, -⟩ := hX
    exact (Array.getElem?_eq_some_iff.mp h1).1
  have hS : va_S (fun _ => False) s.heap s.heap [] := va_S.rf
  refine lv_iload_n hx hb dL_cell_0 rfl (lv_at hl 1 rfl) ?_
  refine lv_aload_n hx hb dL_cell_1 rfl (lv_at hl 0 rfl) ?_
  refine q_slen hx hb hX hbl (fun h => h) hS dL_cell_2 ?_
  refine q_icmp_ge (tgt := 12) hx hb dL_cell_3 (by decide) (by omega) (fun c_3 => ?_) (fun c_3 => ?_)
  · skip
    refine lv_ldc hx hb hown (hg _ m_356) dL_cell_12 ?_
    refine q_top (v2 := .int (qI 1816402316)) rfl ?_
    refine lv_iload_n hx hb dL_cell_14 rfl (lv_at hl 1 rfl) ?_
    refine q_iconst hx hb dL_cell_15 ?_
    refine q_iadd hx hb dL_cell_16 ?_
    refine q_imul hx hb dL_cell_17 ?_
    exact hQ _ _ _ trivial dL_cell_18
  · skip
    refine lv_aload_n hx hb dL_cell_6 rfl (lv_at hl 0 rfl) ?_
    refine lv_iload_n hx hb dL_cell_7 rfl (lv_at hl 1 rfl) ?_
    refine q_sld (j := k) hx hb hX hbl (fun h => h) hS (by omega) rfl dL_cell_8 ?_
    refine lv_goto (tgt := 18) hx hb dL_cell_9 (by decide) ?_
    exact hQ _ _ _ trivial dL_cell_18

set_option maxRecDepth 100000 in
set_option maxHeartbeats 4000000 in
theorem lw_go {p : Program} {l : Launch} {e : Env} {s : State} {m : MethodId} {below : List Frame} {meth : Method} {c : Code} {b L : Nat} {sc9 : Nat → Int32} {D : va_G} {cy : Nat → ClassId} {A : Nat → Prop} {Q : State → Prop} (hx : p.tables.exec = Jvm.exec) (hb : c.code = cL_law) (hml : c.maxLocals = 13) (hown : s.vm.findClass RL = some m.cls) (hg : ∀ w ∈ wG, w.before #[Value.ref b] s = true) (hX : va_X b L sc9 s s.heap) (hbl : b < s.heap.size) (hbA : ¬ A b) (hA : ∀ q, s.heap.size ≤ q → A q) (hK : va_K D vwCl (qT cy) s) (hN : qNe s) (hCx : qCx s) (hL9 : L < 2147483648) (kend : ∀ (H : Heap) (locs : List Loc) (ls : Array Slot), va_S A s.heap H locs → W p l e room_1 s m #[Value.ref b] below meth c H locs 185417 2047149 Q (F0 m 247 ls [])) {ls : Array Slot} (hl : lv_has ls 13 [(0, .ref (b))]) : W p l e room_1 s m #[Value.ref b] below meth c s.heap [] 0 0 Q (F0 m 0 ls []) := by
  have hP : va_P D vwCl ([] : List va_W).flatten s.heap := fun k q h => by cases h
  have hD : va_D A ([] : List va_W).flatten := ⟨fun i j p q h => (by cases h), fun k q h => (by cases h)⟩
  have hS : va_S A s.heap s.heap [] := va_S.rf
  refine qb_new (ci := 7) (fs := [.null, .null, .null, .null, .null, .null, .int (qz (false)), .null, .int (qI (0)), .null]) hx hb hg f_X7 tyX7 tyX7_ok hown m_441 m_442 m_191 hK hP hD hS hA rfl (by decide +kernel) (show 0 + 1 ≤ 600086 by omega) (show 0 + 10 ≤ 7301442 by omega) dL_law_0 (fun x H hP hD hS => ?_)
  have hP : va_P D vwCl [[(x, .inr (7, [.null, .null, .null, .null, .null, .null, .int (qz (false)), .null, .int (qI (0)), .null]))]].flatten H := hP
  have hD : va_D A [[(x, .inr (7, [.null, .null, .null, .null, .null, .null, .int (qz (false)), .null, .int (qI (0)), .null]))]].flatten := hD
  refine lv_dup hx hb dL_law_3 rfl ?_
  refine q_backC (mc := 227) (ms := 2823) [0] [] (br := []) hP hD hS hA (va_runI (As := []) (rest := [.ref (x)]) ⟨hx, hb, hml, hown, hg⟩ (c_X7_init l D cy x _) (ci_L_106 hg rfl rfl ⟨(Nat.le_of_ble_eq_true rfl), (Nat.le_of_ble_eq_true rfl)⟩) ⟨q_blindC, fun U hU hW => ⟨rfl, (q_preM [.ref (x)] hK hN hP hD [0] (by decide) rfl U hU hW).2, hCx.moved hW.alike⟩⟩ rfl rfl hl.1 rfl (lv_room (Nat.le_of_ble_eq_true rfl)) dL_law_4 ⟨(show 1 + 227 ≤ 600086 by omega), (show 10 + 2823 ≤ 7301442 by omega)⟩) rfl rfl (by decide) (fun u_4 H locs h_4 hP hD hS => ?_)
  obtain ⟨la, lv9, ls9, fa, xh, xs, la2, lv92, ls92, fb, fw, bu, ta, rc, re, gb, oc, oe, rs, rc2, re2, gb2, oc2, oe2, rs2, rr, ad, h_4⟩ := h_4
  obtain ⟨fsh_4, hfsh_4⟩ := CW_at h_4
  have hP : va_P D vwCl [u_4].flatten H := hP
  have hD : va_D A [u_4].flatten := hD
  refine lv_astore_n (lv' := [(1, .ref (x)), (0, .ref (b))]) hx hb dL_law_7 rfl hl (by decide) rfl (fun ls hl => ?_)
  refine q_bipush hx hb dL_law_8 (by decide) ?_
  refine qb_newI (N := 20) hx hb hg hK hP hD hS hA (by omega) (show 228 + 1 ≤ 600086 by omega) (show 2833 + 20 ≤ 7301442 by omega) dL_law_10 (fun q_10 H hP hD hS => ?_)
  have hP : va_P D vwCl [u_4, [(q_10, aI cy 20 (fun _ => 0))]].flatten H := hP
  have hD : va_D A [u_4, [(q_10, aI cy 20 (fun _ => 0))]].flatten := hD
  refine lv_astore_n (lv' := [(2, .ref (q_10)), (1, .ref (x)), (0, .ref (b))]) hx hb dL_law_12 rfl hl (by decide) rfl (fun ls hl => ?_)
  refine q_bipush hx hb dL_law_13 (by decide) ?_
  refine qb_newI (N := 45) hx hb hg hK hP hD hS hA (by omega) (show 229 + 1 ≤ 600086 by omega) (show 2853 + 45 ≤ 7301442 by omega) dL_law_15 (fun q_15 H hP hD hS => ?_)
  have hP : va_P D vwCl [u_4, [(q_10, aI cy 20 (fun _ => 0))], [(q_15, aI cy 45 (fun _ => 0))]].flatten H := hP
  have hD : va_D A [u_4, [(q_10, aI cy 20 (fun _ => 0))], [(q_15, aI cy 45 (fun _ => 0))]].flatten := hD
  refine lv_astore_n (lv' := [(3, .ref (q_15)), (2, .ref (q_10)), (1, .ref (x)), (0, .ref (b))]) hx hb dL_law_17 rfl hl (by decide) rfl (fun ls hl => ?_)
  refine q_bipush hx hb dL_law_18 (by decide) ?_
  refine qb_newI (N := 9) hx hb hg hK hP hD hS hA (by omega) (show 230 + 1 ≤ 600086 by omega) (show 2898 + 9 ≤ 7301442 by omega) dL_law_20 (fun q_20 H hP hD hS => ?_)
  have hP : va_P D vwCl [u_4, [(q_10, aI cy 20 (fun _ => 0))], [(q_15, aI cy 45 (fun _ => 0))], [(q_20, aI cy 9 (fun _ => 0))]].flatten H := hP
  have hD : va_D A [u_4, [(q_10, aI cy 20 (fun _ => 0))], [(q_15, aI cy 45 (fun _ => 0))], [(q_20, aI cy 9 (fun _ => 0))]].flatten := hD
  refine lv_astore (lv' := [(4, .ref (q_20)), (3, .ref (q_15)), (2, .ref (q_10)), (1, .ref (x)), (0, .ref (b))]) hx hb dL_law_22 hl (by decide) rfl (fun ls hl => ?_)
  refine q_iconst hx hb dL_law_24 ?_
  refine qb_newI (N := 2) hx hb hg hK hP hD hS hA (by omega) (show 231 + 1 ≤ 600086 by omega) (show 2907 + 2 ≤ 7301442 by omega) dL_law_25 (fun q_25 H hP hD hS => ?_)
  have hP : va_P D vwCl [u_4, [(q_10, aI cy 20 (fun _ => 0))], [(q_15, aI cy 45 (fun _ => 0))], [(q_20, aI cy 9 (fun _ => 0))], [(q_25, aI cy 2 (fun _ => 0))]].flatten H := hP
  have hD : va_D A [u_4, [(q_10, aI cy 20 (fun _ => 0))], [(q_15, aI cy 45 (fun _ => 0))], [(q_20, aI cy 9 (fun _ => 0))], [(q_25, aI cy 2 (fun _ => 0))]].flatten := hD
  refine lv_astore (lv' := [(5, .ref (q_25)), (4, .ref (q_20)), (3, .ref (q_15)), (2, .ref (q_10)), (1, .ref (x)), (0, .ref (b))]) hx hb dL_law_27 hl (by decide) rfl (fun ls hl => ?_)
  refine q_iconst hx hb dL_law_29 ?_
  refine qb_newI (N := 2) hx hb hg hK hP hD hS hA (by omega) (show 232 + 1 ≤ 600086 by omega) (show 2909 + 2 ≤ 7301442 by omega) dL_law_30 (fun q_30 H hP hD hS => ?_)
  have hP : va_P D vwCl [u_4, [(q_10, aI cy 20 (fun _ => 0))], [(q_15, aI cy 45 (fun _ => 0))], [(q_20, aI cy 9 (fun _ => 0))], [(q_25, aI cy 2 (fun _ => 0))], [(q_30, aI cy 2 (fun _ => 0))]].flatten H := hP
  have hD : va_D A [u_4, [(q_10, aI cy 20 (fun _ => 0))], [(q_15, aI cy 45 (fun _ => 0))], [(q_20, aI cy 9 (fun _ => 0))], [(q_25, aI cy 2 (fun _ => 0))], [(q_30, aI cy 2 (fun _ => 0))]].flatten := hD
  refine lv_astore (lv' := [(6, .ref (q_30)), (5, .ref (q_25)), (4, .ref (q_20)), (3, .ref (q_15)), (2, .ref (q_10)), (1, .ref (x)), (0, .ref (b))]) hx hb dL_law_32 hl (by decide) rfl (fun ls hl => ?_)
  refine q_bipush hx hb dL_law_34 (by decide) ?_
  refine qb_newI (N := 64) hx hb hg hK hP hD hS hA (by omega) (show 233 + 1 ≤ 600086 by omega) (show 2911 + 64 ≤ 7301442 by omega) dL_law_36 (fun q_36 H hP hD hS => ?_)
  have hP : va_P D vwCl [u_4, [(q_10, aI cy 20 (fun _ => 0))], [(q_15, aI cy 45 (fun _ => 0))], [(q_20, aI cy 9 (fun _ => 0))], [(q_25, aI cy 2 (fun _ => 0))], [(q_30, aI cy 2 (fun _ => 0))], [(q_36, aI cy 64 (fun _ => 0))]].flatten H := hP
  have hD : va_D A [u_4, [(q_10, aI cy 20 (fun _ => 0))], [(q_15, aI cy 45 (fun _ => 0))], [(q_20, aI cy 9 (fun _ => 0))], [(q_25, aI cy 2 (fun _ => 0))], [(q_30, aI cy 2 (fun _ => 0))], [(q_36, aI cy 64 (fun _ => 0))]].flatten := hD
  refine lv_astore (lv' := [(7, .ref (q_36)), (6, .ref (q_30)), (5, .ref (q_25)), (4, .ref (q_20)), (3, .ref (q_15)), (2, .ref (q_10)), (1, .ref (x)), (0, .ref (b))]) hx hb dL_law_38 hl (by decide) rfl (fun ls hl => ?_)
  refine q_bipush hx hb dL_law_40 (by decide) ?_
  refine qb_newI (N := 64) hx hb hg hK hP hD hS hA (by omega) (show 234 + 1 ≤ 600086 by omega) (show 2975 + 64 ≤ 7301442 by omega) dL_law_42 (fun q_42 H hP hD hS => ?_)
  have hP : va_P D vwCl [u_4, [(q_10, aI cy 20 (fun _ => 0))], [(q_15, aI cy 45 (fun _ => 0))], [(q_20, aI cy 9 (fun _ => 0))], [(q_25, aI cy 2 (fun _ => 0))], [(q_30, aI cy 2 (fun _ => 0))], [(q_36, aI cy 64 (fun _ => 0))], [(q_42, aI cy 64 (fun _ => 0))]].flatten H := hP
  have hD : va_D A [u_4, [(q_10, aI cy 20 (fun _ => 0))], [(q_15, aI cy 45 (fun _ => 0))], [(q_20, aI cy 9 (fun _ => 0))], [(q_25, aI cy 2 (fun _ => 0))], [(q_30, aI cy 2 (fun _ => 0))], [(q_36, aI cy 64 (fun _ => 0))], [(q_42, aI cy 64 (fun _ => 0))]].flatten := hD
  refine lv_astore (lv' := [(8, .ref (q_42)), (7, .ref (q_36)), (6, .ref (q_30)), (5, .ref (q_25)), (4, .ref (q_20)), (3, .ref (q_15)), (2, .ref (q_10)), (1, .ref (x)), (0, .ref (b))]) hx hb dL_law_44 hl (by decide) rfl (fun ls hl => ?_)
  refine q_bipush hx hb dL_law_46 (by decide) ?_
  refine qb_newI (N := 64) hx hb hg hK hP hD hS hA (by omega) (show 235 + 1 ≤ 600086 by omega) (show 3039 + 64 ≤ 7301442 by omega) dL_law_48 (fun q_48 H hP hD hS => ?_)
  have hP : va_P D vwCl [u_4, [(q_10, aI cy 20 (fun _ => 0))], [(q_15, aI cy 45 (fun _ => 0))], [(q_20, aI cy 9 (fun _ => 0))], [(q_25, aI cy 2 (fun _ => 0))], [(q_30, aI cy 2 (fun _ => 0))], [(q_36, aI cy 64 (fun _ => 0))], [(q_42, aI cy 64 (fun _ => 0))], [(q_48, aI cy 64 (fun _ => 0))]].flatten H := hP
  have hD : va_D A [u_4, [(q_10, aI cy 20 (fun _ => 0))], [(q_15, aI cy 45 (fun _ => 0))], [(q_20, aI cy 9 (fun _ => 0))], [(q_25, aI cy 2 (fun _ => 0))], [(q_30, aI cy 2 (fun _ => 0))], [(q_36, aI cy 64 (fun _ => 0))], [(q_42, aI cy 64 (fun _ => 0))], [(q_48, aI cy 64 (fun _ => 0))]].flatten := hD
  refine lv_astore (lv' := [(9, .ref (q_48)), (8, .ref (q_42)), (7, .ref (q_36)), (6, .ref (q_30)), (5, .ref (q_25)), (4, .ref (q_20)), (3, .ref (q_15)), (2, .ref (q_10)), (1, .ref (x)), (0, .ref (b))]) hx hb dL_law_50 hl (by decide) rfl (fun ls hl => ?_)
  refine q_iconst hx hb dL_law_52 ?_
  refine lv_istore (lv' := [(10, .int (qI (0))), (9, .ref (q_48)), (8, .ref (q_42)), (7, .ref (q_36)), (6, .ref (q_30)), (5, .ref (q_25)), (4, .ref (q_20)), (3, .ref (q_15)), (2, .ref (q_10)), (1, .ref (x)), (0, .ref (b))]) hx hb dL_law_53 hl (by decide) rfl (fun ls hl => ?_)
  have L_55 : ∀ (n_55 k1 : Nat) (w1 : Nat → Int), k1 ≤ 10 → 10 + 1 ≤ k1 + n_55 → (∀ q, w1 q = if 10 ≤ q ∧ q < 10 + k1 then 5 else 0) → ∀ (H : Heap) (locs : List Loc) (ls : Array Slot), va_P D vwCl [u_4, [(q_10, aI cy 20 (w1))], [(q_15, aI cy 45 (fun _ => 0))], [(q_20, aI cy 9 (fun _ => 0))], [(q_25, aI cy 2 (fun _ => 0))], [(q_30, aI cy 2 (fun _ => 0))], [(q_36, aI cy 64 (fun _ => 0))], [(q_42, aI cy 64 (fun _ => 0))], [(q_48, aI cy 64 (fun _ => 0))]].flatten H → va_D A [u_4, [(q_10, aI cy 20 (w1))], [(q_15, aI cy 45 (fun _ => 0))], [(q_20, aI cy 9 (fun _ => 0))], [(q_25, aI cy 2 (fun _ => 0))], [(q_30, aI cy 2 (fun _ => 0))], [(q_36, aI cy 64 (fun _ => 0))], [(q_42, aI cy 64 (fun _ => 0))], [(q_48, aI cy 64 (fun _ => 0))]].flatten → va_S A s.heap H locs → lv_has ls 13 [(0, .ref (b)), (1, .ref (x)), (2, .ref (q_10)), (3, .ref (q_15)), (4, .ref (q_20)), (5, .ref (q_25)), (6, .ref (q_30)), (7, .ref (q_36)), (8, .ref (q_42)), (9, .ref (q_48)), (10, .int (qI (((k1 : Nat) : Int))))] → W p l e room_1 s m #[Value.ref b] below meth c H locs (236) (3103) Q (F0 m 55 ls []) := by
    intro n_55
    induction n_55 with
    | zero => intro k1 _ h1 h2; exact absurd h2 (by omega)
    | succ n_55 ih_55 =>
      intro k1 w1 hk_55 hn_55 hw1 H locs ls hP hD hS hl
      refine lv_iload hx hb dL_law_55 (lv_at hl 10 rfl) ?_
      refine q_bipush hx hb dL_law_57 (by decide) ?_
      refine q_icmp_ge (tgt := 76) hx hb dL_law_59 (by decide) (by omega) (fun c_59 => ?_) (fun c_59 => ?_)
      · skip
        have hL0 : lwR T0 w1 (fun _ => 0) (fun _ => 0) (fun _ => 0) := ⟨fun i hi => by rw [hw1, if_neg (by omega)]; rfl, fun i hi => by rw [hw1, if_pos (by omega)]; rfl, fun k hk => absurd hk (Nat.not_lt_zero k), fun k hk => absurd hk (Nat.not_lt_zero k), rfl, rfl⟩
        refine lv_aload_n hx hb dL_law_76 rfl (lv_at hl 1 rfl) ?_
        refine q_iconst hx hb dL_law_77 ?_
        refine lv_aload_n hx hb dL_law_78 rfl (lv_at hl 2 rfl) ?_
        refine lv_aload_n hx hb dL_law_79 rfl (lv_at hl 3 rfl) ?_
        refine lv_aload hx hb dL_law_80 (lv_at hl 4 rfl) ?_
        refine lv_aload hx hb dL_law_82 (lv_at hl 5 rfl) ?_
        refine q_backKz (mc := 8565) (ms := 94394) [0, 1, 2, 3, 4] [5, 6, 7, 8] (br := [[(q_30, aI cy 2 (fun _ => 0))], [(q_36, aI cy 64 (fun _ => 0))], [(q_42, aI cy 64 (fun _ => 0))], [(q_48, aI cy 64 (fun _ => 0))]]) hP hD hS hA (va_runS (As := [.ref (x), .int (qI (0)), .ref (q_10), .ref (q_15), .ref (q_20), .ref (q_25)]) (rest := []) ⟨hx, hb, hml, hown, hg⟩ (c_L_told l D cy x la lv9 ls9 fa xh xs la2 lv92 ls92 fb fw bu ta rc re gb oc oe rs rc2 re2 gb2 oc2 oe2 rs2 rr ad T0 0 (fun _ => T0) 0 z1 _ T0_ok h_4 q_10 q_15 q_20 q_25 w1 (fun _ => 0) (fun _ => 0) (fun _ => 0) hL0 (by decide) (by decide) _ 0 (by omega) _) (cs_L_107 hg rfl rfl ⟨(Nat.le_of_ble_eq_true rfl), (Nat.le_of_ble_eq_true rfl)⟩) ⟨q_blind, q_preM _ hK hN hP hD [0, 1, 2, 3, 4] (by decide) rfl⟩ rfl rfl hl.1 rfl (lv_room (Nat.le_of_ble_eq_true rfl)) dL_law_84 ⟨(show 236 + 8565 ≤ 600086 by omega), (show 3103 + 94394 ≤ 7301442 by omega)⟩) rfl rfl (by decide) (fun b_84 u_84 H locs h_84 hP hD hS => ?_)
        obtain ⟨rfl, h_84⟩ := h_84
        obtain ⟨fsh_84, hfsh_84⟩ := CW_at h_84
        have hP : va_P D vwCl [[(q_30, aI cy 2 (fun _ => 0))], [(q_36, aI cy 64 (fun _ => 0))], [(q_42, aI cy 64 (fun _ => 0))], [(q_48, aI cy 64 (fun _ => 0))], u_84, [(q_10, aI cy 20 (w1))], [(q_15, aI cy 45 (fun _ => 0))], [(q_20, aI cy 9 (fun _ => 0))], [(q_25, aI cy 2 (fun _ => 0))]].flatten H := hP
        have hD : va_D A [[(q_30, aI cy 2 (fun _ => 0))], [(q_36, aI cy 64 (fun _ => 0))], [(q_42, aI cy 64 (fun _ => 0))], [(q_48, aI cy 64 (fun _ => 0))], u_84, [(q_10, aI cy 20 (w1))], [(q_15, aI cy 45 (fun _ => 0))], [(q_20, aI cy 9 (fun _ => 0))], [(q_25, aI cy 2 (fun _ => 0))]].flatten := hD
        refine q_ifz_eq (tgt := 98) hx hb dL_law_87 (by decide) (fun c_87 => ?_) (fun c_87 => ?_)
        · skip
          exact absurd c_87 (by decide)
        · skip
          refine lv_aload_n hx hb dL_law_90 rfl (lv_at hl 1 rfl) ?_
          refine q_iconst hx hb dL_law_91 ?_
          refine q_backKi (mc := 0) (ms := 0) [4] [0, 1, 2, 3, 5, 6, 7, 8] (br := [[(q_30, aI cy 2 (fun _ => 0))], [(q_36, aI cy 64 (fun _ => 0))], [(q_42, aI cy 64 (fun _ => 0))], [(q_48, aI cy 64 (fun _ => 0))], [(q_10, aI cy 20 (w1))], [(q_15, aI cy 45 (fun _ => 0))], [(q_20, aI cy 9 (fun _ => 0))], [(q_25, aI cy 2 (fun _ => 0))]]) hP hD hS hA (va_runV (As := [.int (qI (4))]) (rest := []) ⟨hx, hb, hml, hown, hg⟩ (c_X7_count l D cy x la lv9 ls9 fa xh xs la2 lv92 ls92 fb fw bu ta rc re gb oc oe rs rc2 re2 gb2 oc2 oe2 rs2 rr ad T0 0 (fun _ => T0) 0 z1 _ T0_ok h_84 _ (by omega) _) (cv_L_57 hg rfl rfl ⟨(Nat.le_of_ble_eq_true rfl), (Nat.le_of_ble_eq_true rfl)⟩) ⟨q_blind, va_recv hK (fl_blk hP 4 rfl) (ci := 7) (q0 := 0) rfl hfsh_84, q_preM _ hK hN hP hD [4] (by decide) rfl⟩ rfl rfl hl.1 rfl (lv_room (Nat.le_of_ble_eq_true rfl)) dL_law_92 ⟨(show 8801 + 0 ≤ 600086 by omega), (show 97497 + 0 ≤ 7301442 by omega)⟩) rfl rfl (by decide) (fun r_92 u_92 H locs h_92 hP hD hS => ?_)
          have hP : va_P D vwCl [[(q_30, aI cy 2 (fun _ => 0))], [(q_36, aI cy 64 (fun _ => 0))], [(q_42, aI cy 64 (fun _ => 0))], [(q_48, aI cy 64 (fun _ => 0))], [(q_10, aI cy 20 (w1))], [(q_15, aI cy 45 (fun _ => 0))], [(q_20, aI cy 9 (fun _ => 0))], [(q_25, aI cy 2 (fun _ => 0))], u_92].flatten H := hP
          have hD : va_D A [[(q_30, aI cy 2 (fun _ => 0))], [(q_36, aI cy 64 (fun _ => 0))], [(q_42, aI cy 64 (fun _ => 0))], [(q_48, aI cy 64 (fun _ => 0))], [(q_10, aI cy 20 (w1))], [(q_15, aI cy 45 (fun _ => 0))], [(q_20, aI cy 9 (fun _ => 0))], [(q_25, aI cy 2 (fun _ => 0))], u_92].flatten := hD
          obtain ⟨rfl, h_92⟩ := h_92
          obtain ⟨fs_92, hfs_92⟩ := CW_at h_92
          refine q_topZ (y := 0) (ct_4 T0 0) ?_
          refine q_if_eq (tgt := 100) hx hb dL_law_95 (by decide) (by omega) (fun c_95 => ?_) (fun c_95 => ?_)
          · skip
            refine q_iconst hx hb dL_law_100 ?_
            refine lv_istore (lv' := [(10, .int (qI (0))), (0, .ref (b)), (1, .ref (x)), (2, .ref (q_10)), (3, .ref (q_15)), (4, .ref (q_20)), (5, .ref (q_25)), (6, .ref (q_30)), (7, .ref (q_36)), (8, .ref (q_42)), (9, .ref (q_48))]) hx hb dL_law_101 hl (by decide) rfl (fun ls hl => ?_)
            have L_103 : ∀ (n_103 t9 : Nat) (T : LSt) (hz : Nat) (HZ : Nat → LSt) (W1 : va_W) (v1 : Nat → Int) (c1 : Nat → Int) (e1 : Nat → Int) (d1 : Nat → Int) (u1 : L4), t9 ≤ 18 → 18 + 1 ≤ t9 + n_103 → (CW cy x la lv9 ls9 fa xh xs la2 lv92 ls92 fb fw bu ta rc re gb oc oe rs rc2 re2 gb2 oc2 oe2 rs2 rr ad T hz HZ 0 z1 W1) → (lwO T v1 c1 e1 d1) → (1 ≤ t9 → 1 ≤ hz) → (t9 = 0 → lN9 T = 0) → ∀ (H : Heap) (locs : List Loc) (ls : Array Slot), va_P D vwCl [W1, [(q_10, aI cy 20 (v1))], [(q_15, aI cy 45 (c1))], [(q_20, aI cy 9 (e1))], [(q_25, aI cy 2 (d1))], [(q_30, aI cy 2 (u1.1))], [(q_36, aI cy 64 (u1.2.1))], [(q_42, aI cy 64 (u1.2.2.1))], [(q_48, aI cy 64 (u1.2.2.2))]].flatten H → va_D A [W1, [(q_10, aI cy 20 (v1))], [(q_15, aI cy 45 (c1))], [(q_20, aI cy 9 (e1))], [(q_25, aI cy 2 (d1))], [(q_30, aI cy 2 (u1.1))], [(q_36, aI cy 64 (u1.2.1))], [(q_42, aI cy 64 (u1.2.2.1))], [(q_48, aI cy 64 (u1.2.2.2))]].flatten → va_S A s.heap H locs → lv_has ls 13 [(0, .ref (b)), (1, .ref (x)), (2, .ref (q_10)), (3, .ref (q_15)), (4, .ref (q_20)), (5, .ref (q_25)), (6, .ref (q_30)), (7, .ref (q_36)), (8, .ref (q_42)), (9, .ref (q_48)), (10, .int (qI (((t9 : Nat) : Int))))] → W p l e room_1 s m #[Value.ref b] below meth c H locs (8801 + 9812 * t9) (97497 + 108314 * t9) Q (F0 m 103 ls []) := by
              intro n_103
              induction n_103 with
              | zero => intro t9 _ _ _ _ _ _ _ _ _ h1 h2; exact absurd h2 (by omega)
              | succ n_103 ih_103 =>
                intro t9 T hz HZ W1 v1 c1 e1 d1 u1 hk_103 hn_103 hW1 hO hz1 hT0 H locs ls hP hD hS hl
                obtain ⟨fsW1, hfsW1⟩ := CW_at hW1
                refine lv_iload hx hb dL_law_103 (lv_at hl 10 rfl) ?_
                refine q_bipush hx hb dL_law_105 (by decide) ?_
                refine q_icmp_ge (tgt := 239) hx hb dL_law_107 (by decide) (by omega) (fun c_107 => ?_) (fun c_107 => ?_)
                · skip
                  have hz3 := hz1 (by omega)
                  have hz8 := CW_hz hW1
                  refine lv_aload_n hx hb dL_law_239 rfl (lv_at hl 1 rfl) ?_
                  refine q_iconst hx hb dL_law_240 ?_
                  refine q_backKi (mc := 0) (ms := 0) [0] [1, 2, 3, 4, 5, 6, 7, 8] (br := [[(q_10, aI cy 20 (v1))], [(q_15, aI cy 45 (c1))], [(q_20, aI cy 9 (e1))], [(q_25, aI cy 2 (d1))], [(q_30, aI cy 2 (u1.1))], [(q_36, aI cy 64 (u1.2.1))], [(q_42, aI cy 64 (u1.2.2.1))], [(q_48, aI cy 64 (u1.2.2.2))]]) hP hD hS hA (va_runV (As := [.int (qI (4))]) (rest := []) ⟨hx, hb, hml, hown, hg⟩ (c_X7_count l D cy x la lv9 ls9 fa xh xs la2 lv92 ls92 fb fw bu ta rc re gb oc oe rs rc2 re2 gb2 oc2 oe2 rs2 rr ad T hz HZ 0 z1 _ hO.1 hW1 _ (by omega) _) (cv_L_57 hg rfl rfl ⟨(Nat.le_of_ble_eq_true rfl), (Nat.le_of_ble_eq_true rfl)⟩) ⟨q_blind, va_recv hK (fl_blk hP 0 rfl) (ci := 7) (q0 := 0) rfl hfsW1, q_preM _ hK hN hP hD [0] (by decide) rfl⟩ rfl rfl hl.1 rfl (lv_room (Nat.le_of_ble_eq_true rfl)) dL_law_241 ⟨(show 8801 + 9812 * t9 + 0 ≤ 600086 by omega), (show 97497 + 108314 * t9 + 0 ≤ 7301442 by omega)⟩) rfl rfl (by decide) (fun r_241 u_241 H locs h_241 hP hD hS => ?_)
                  have hP : va_P D vwCl [[(q_10, aI cy 20 (v1))], [(q_15, aI cy 45 (c1))], [(q_20, aI cy 9 (e1))], [(q_25, aI cy 2 (d1))], [(q_30, aI cy 2 (u1.1))], [(q_36, aI cy 64 (u1.2.1))], [(q_42, aI cy 64 (u1.2.2.1))], [(q_48, aI cy 64 (u1.2.2.2))], u_241].flatten H := hP
                  have hD : va_D A [[(q_10, aI cy 20 (v1))], [(q_15, aI cy 45 (c1))], [(q_20, aI cy 9 (e1))], [(q_25, aI cy 2 (d1))], [(q_30, aI cy 2 (u1.1))], [(q_36, aI cy 64 (u1.2.1))], [(q_42, aI cy 64 (u1.2.2.1))], [(q_48, aI cy 64 (u1.2.2.2))], u_241].flatten := hD
                  obtain ⟨rfl, h_241⟩ := h_241
                  obtain ⟨fs_241, hfs_241⟩ := CW_at h_241
                  refine q_topZ (y := ((hz : Nat) : Int)) (ct_4 T hz) ?_
                  refine q_if_le (tgt := 251) hx hb dL_law_244 (by decide) (by omega) (fun c_244 => ?_) (fun c_244 => ?_)
                  · skip
                    exact absurd c_244 (by omega)
                  · skip
                    refine W.widen (k := 185417) (n := 2047149) (by omega) (by omega) ?_
                    exact kend H locs ls hS
                · skip
                  refine lv_aload_n hx hb dL_law_110 rfl (lv_at hl 0 rfl) ?_
                  refine q_iconst hx hb dL_law_111 ?_
                  refine lv_iload hx hb dL_law_112 (lv_at hl 10 rfl) ?_
                  refine q_imul hx hb dL_law_114 ?_
                  refine q_readi (va_runS (As := [.ref (b), .int (qI ((2) * (((t9 : Nat) : Int))))]) (rest := []) ⟨hx, hb, hml, hown, hg⟩ (c_L_cell l b L sc9 hL9 _ (2 * t9) (by omega)) (cs_L_111 hg rfl rfl ⟨(Nat.le_of_ble_eq_true rfl), (Nat.le_of_ble_eq_true rfl)⟩) ⟨q_blindX, fun U hU hW => ⟨rfl, by show va_X b L sc9 U U.heap; rw [hU]; exact va_X.moved hW.alike (va_X.kept hX (hS.2.1 b hbl hbA))⟩⟩ rfl rfl hl.1 rfl (lv_room (Nat.le_of_ble_eq_true rfl)) dL_law_115 ⟨(show 8801 + 9812 * t9 + 0 ≤ 600086 by omega), (show 97497 + 108314 * t9 + 0 ≤ 7301442 by omega)⟩) (fun r_115 _ => ?_)
                  refine lv_ldc hx hb hown (hg _ m_443) dL_law_118 ?_
                  refine q_top (v2 := .int (qI 2147483647)) rfl ?_
                  obtain ⟨x_120, lx_120, ex_120⟩ := andM r_115
                  refine lv_iand hx hb dL_law_120 ?_
                  refine q_top (v2 := .int (qI ((x_120 : Nat) : Int))) (congrArg Value.int ex_120) ?_
                  refine lv_istore (lv' := [(11, .int (qI (((x_120 : Nat) : Int)))), (0, .ref (b)), (1, .ref (x)), (2, .ref (q_10)), (3, .ref (q_15)), (4, .ref (q_20)), (5, .ref (q_25)), (6, .ref (q_30)), (7, .ref (q_36)), (8, .ref (q_42)), (9, .ref (q_48)), (10, .int (qI (((t9 : Nat) : Int))))]) hx hb dL_law_121 hl (by decide) rfl (fun ls hl => ?_)
                  refine lv_aload_n hx hb dL_law_123 rfl (lv_at hl 1 rfl) ?_
                  refine q_iconst hx hb dL_law_124 ?_
                  refine lv_iload hx hb dL_law_125 (lv_at hl 11 rfl) ?_
                  refine q_imul hx hb dL_law_127 ?_
                  refine q_iconst hx hb dL_law_128 ?_
                  refine q_iadd hx hb dL_law_129 ?_
                  refine q_readi (va_runS (As := [.ref (b), .int (qI (((2) * (((t9 : Nat) : Int))) + (1)))]) (rest := []) ⟨hx, hb, hml, hown, hg⟩ (c_L_cell l b L sc9 hL9 _ ((2 * t9) + 1) (by omega)) (cs_L_111 hg rfl rfl ⟨(Nat.le_of_ble_eq_true rfl), (Nat.le_of_ble_eq_true rfl)⟩) ⟨q_blindX, fun U hU hW => ⟨rfl, by show va_X b L sc9 U U.heap; rw [hU]; exact va_X.moved hW.alike (va_X.kept hX (hS.2.1 b hbl hbA))⟩⟩ rfl rfl hl.1 rfl (lv_room (Nat.le_of_ble_eq_true rfl)) dL_law_130 ⟨(show 8801 + 9812 * t9 + 0 ≤ 600086 by omega), (show 97497 + 108314 * t9 + 0 ≤ 7301442 by omega)⟩) (fun r_130 _ => ?_)
                  refine lv_ldc hx hb hown (hg _ m_443) dL_law_133 ?_
                  refine q_top (v2 := .int (qI 2147483647)) rfl ?_
                  obtain ⟨x_135, lx_135, ex_135⟩ := andM r_130
                  refine lv_iand hx hb dL_law_135 ?_
                  refine q_top (v2 := .int (qI ((x_135 : Nat) : Int))) (congrArg Value.int ex_135) ?_
                  refine lv_istore (lv' := [(12, .int (qI (((x_135 : Nat) : Int)))), (11, .int (qI (((x_120 : Nat) : Int)))), (0, .ref (b)), (1, .ref (x)), (2, .ref (q_10)), (3, .ref (q_15)), (4, .ref (q_20)), (5, .ref (q_25)), (6, .ref (q_30)), (7, .ref (q_36)), (8, .ref (q_42)), (9, .ref (q_48)), (10, .int (qI (((t9 : Nat) : Int))))]) hx hb dL_law_136 hl (by decide) rfl (fun ls hl => ?_)
                  refine lv_aload_n hx hb dL_law_138 rfl (lv_at hl 3 rfl) ?_
                  have K_159 : ∀ (a8 : Nat), (a8 < 100 ∧ (t9 < 3 → a8 = 0)) → W p l e room_1 s m #[Value.ref b] below meth c H locs (8801 + 9812 * t9) (97497 + 108314 * t9) Q (F0 m 159 ls [.int (qI (((a8 : Nat) : Int))), .ref (x)]) := by
                    intro a8 ha8
                    refine lv_iload hx hb dL_law_159 (lv_at hl 1 rfl) ?_
                    refine lv_iload hx hb dL_law_161 (lv_at hl 0 rfl) ?_
                    refine lv_aload_n hx hb dL_law_163 rfl (lv_at hl 4 rfl) ?_
                    refine lv_aload_n hx hb dL_law_164 rfl (lv_at hl 5 rfl) ?_
                    refine lv_aload hx hb dL_law_165 (lv_at hl 6 rfl) ?_
                    refine lv_aload hx hb dL_law_167 (lv_at hl 7 rfl) ?_
                    refine lv_aload hx hb dL_law_169 (lv_at hl 8 rfl) ?_
                    refine lv_aload hx hb dL_law_171 (lv_at hl 9 rfl) ?_
                    refine lv_aload hx hb dL_law_173 (lv_at hl 10 rfl) ?_
                    refine lv_aload hx hb dL_law_175 (lv_at hl 11 rfl) ?_
                    refine q_backKz (mc := 412) (ms := 4558) [0, 1, 2, 3, 4, 5, 6, 7, 8] [] (br := []) hP hD hS hA (va_runS (As := [.ref (x), .int (qI (((a8 : Nat) : Int))), .int (qI (((x_120 : Nat) : Int))), .int (qI (((x_135 : Nat) : Int))), .ref (q_10), .ref (q_15), .ref (q_20), .ref (q_25), .ref (q_30), .ref (q_36), .ref (q_42), .ref (q_48)]) (rest := []) ⟨hx, hb, hml, hown, hg⟩ (c_L_act l D cy x la lv9 ls9 fa xh xs la2 lv92 ls92 fb fw bu ta rc re gb oc oe rs rc2 re2 gb2 oc2 oe2 rs2 rr ad T hz HZ 0 z1 _ hO.1 hW1 q_10 q_15 q_20 q_25 q_30 q_36 q_42 q_48 v1 c1 e1 d1 u1 hO.2.2.2 hO.2.1 hO.2.2.1 _ _ _ a8 x_120 x_135 (by omega) (by omega) (by omega) _) (cs_L_116 hg rfl rfl ⟨(Nat.le_of_ble_eq_true rfl), (Nat.le_of_ble_eq_true rfl)⟩) ⟨q_blind, q_preM _ hK hN hP hD [0, 1, 2, 3, 4, 5, 6, 7, 8] (by decide) rfl⟩ rfl rfl hl.1 rfl (lv_room (Nat.le_of_ble_eq_true rfl)) dL_law_177 ⟨(show 8801 + 9812 * t9 + 412 ≤ 600086 by omega), (show 97497 + 108314 * t9 + 4558 ≤ 7301442 by omega)⟩) rfl rfl (by decide) (fun b_177 u_177 H locs h_177 hP hD hS => ?_)
                    obtain ⟨rfl, T2, hz2, HZ2, hW2, hO2, hm2, ha2⟩ := h_177
                    obtain ⟨fshW2, hfshW2⟩ := CW_at hW2
                    have hP : va_P D vwCl [u_177.1, [(q_10, aI cy 20 (u_177.2.1))], [(q_15, aI cy 45 (u_177.2.2.1))], [(q_20, aI cy 9 (u_177.2.2.2.1))], [(q_25, aI cy 2 (u_177.2.2.2.2.1))], [(q_30, aI cy 2 (u_177.2.2.2.2.2.1))], [(q_36, aI cy 64 (u_177.2.2.2.2.2.2.1))], [(q_42, aI cy 64 (u_177.2.2.2.2.2.2.2.1))], [(q_48, aI cy 64 (u_177.2.2.2.2.2.2.2.2))]].flatten H := hP
                    have hD : va_D A [u_177.1, [(q_10, aI cy 20 (u_177.2.1))], [(q_15, aI cy 45 (u_177.2.2.1))], [(q_20, aI cy 9 (u_177.2.2.2.1))], [(q_25, aI cy 2 (u_177.2.2.2.2.1))], [(q_30, aI cy 2 (u_177.2.2.2.2.2.1))], [(q_36, aI cy 64 (u_177.2.2.2.2.2.2.1))], [(q_42, aI cy 64 (u_177.2.2.2.2.2.2.2.1))], [(q_48, aI cy 64 (u_177.2.2.2.2.2.2.2.2))]].flatten := hD
                    refine q_ifz_eq (tgt := 200) hx hb dL_law_180 (by decide) (fun c_180 => ?_) (fun c_180 => ?_)
                    · skip
                      exact absurd c_180 (by decide)
                    · skip
                      have hy2 := Nat.div_le_self x_135 (2 ^ 2)
                      refine lv_aload_n hx hb dL_law_183 rfl (lv_at hl 3 rfl) ?_
                      refine lv_iload hx hb dL_law_184 (lv_at hl 0 rfl) ?_
                      refine q_iconst hx hb dL_law_186 ?_
                      refine q_ishr (F := x_135) (k := 2) hx hb (by omega) dL_law_187 ?_
                      refine lv_aload_n hx hb dL_law_188 rfl (lv_at hl 4 rfl) ?_
                      refine lv_aload_n hx hb dL_law_189 rfl (lv_at hl 5 rfl) ?_
                      refine lv_aload hx hb dL_law_190 (lv_at hl 6 rfl) ?_
                      refine lv_aload hx hb dL_law_192 (lv_at hl 7 rfl) ?_
                      refine q_backKz (mc := 8565) (ms := 94394) [0, 1, 2, 3, 4] [5, 6, 7, 8] (br := [[(q_30, aI cy 2 (u_177.2.2.2.2.2.1))], [(q_36, aI cy 64 (u_177.2.2.2.2.2.2.1))], [(q_42, aI cy 64 (u_177.2.2.2.2.2.2.2.1))], [(q_48, aI cy 64 (u_177.2.2.2.2.2.2.2.2))]]) hP hD hS hA (va_runS (As := [.ref (x), .int (qI ((((x_135) / 2 ^ (2) : Nat) : Int))), .ref (q_10), .ref (q_15), .ref (q_20), .ref (q_25)]) (rest := []) ⟨hx, hb, hml, hown, hg⟩ (c_L_told l D cy x la lv9 ls9 fa xh xs la2 lv92 ls92 fb fw bu ta rc re gb oc oe rs rc2 re2 gb2 oc2 oe2 rs2 rr ad T2 hz2 HZ2 0 z1 _ hO2.1 hW2 q_10 q_15 q_20 q_25 u_177.2.1 u_177.2.2.1 u_177.2.2.2.1 u_177.2.2.2.2.1 hO2.2.2.2 hO2.2.1 hO2.2.2.1 _ ((x_135) / 2 ^ (2)) (by omega) _) (cs_L_107 hg rfl rfl ⟨(Nat.le_of_ble_eq_true rfl), (Nat.le_of_ble_eq_true rfl)⟩) ⟨q_blind, q_preM _ hK hN hP hD [0, 1, 2, 3, 4] (by decide) rfl⟩ rfl rfl hl.1 rfl (lv_room (Nat.le_of_ble_eq_true rfl)) dL_law_194 ⟨(show 8801 + 9812 * t9 + 412 + 8565 ≤ 600086 by omega), (show 97497 + 108314 * t9 + 4558 + 94394 ≤ 7301442 by omega)⟩) rfl rfl (by decide) (fun b_194 u_194 H locs h_194 hP hD hS => ?_)
                      obtain ⟨rfl, h_194⟩ := h_194
                      obtain ⟨fsh_194, hfsh_194⟩ := CW_at h_194
                      have hP : va_P D vwCl [[(q_30, aI cy 2 (u_177.2.2.2.2.2.1))], [(q_36, aI cy 64 (u_177.2.2.2.2.2.2.1))], [(q_42, aI cy 64 (u_177.2.2.2.2.2.2.2.1))], [(q_48, aI cy 64 (u_177.2.2.2.2.2.2.2.2))], u_194, [(q_10, aI cy 20 (u_177.2.1))], [(q_15, aI cy 45 (u_177.2.2.1))], [(q_20, aI cy 9 (u_177.2.2.2.1))], [(q_25, aI cy 2 (u_177.2.2.2.2.1))]].flatten H := hP
                      have hD : va_D A [[(q_30, aI cy 2 (u_177.2.2.2.2.2.1))], [(q_36, aI cy 64 (u_177.2.2.2.2.2.2.1))], [(q_42, aI cy 64 (u_177.2.2.2.2.2.2.2.1))], [(q_48, aI cy 64 (u_177.2.2.2.2.2.2.2.2))], u_194, [(q_10, aI cy 20 (u_177.2.1))], [(q_15, aI cy 45 (u_177.2.2.1))], [(q_20, aI cy 9 (u_177.2.2.2.1))], [(q_25, aI cy 2 (u_177.2.2.2.2.1))]].flatten := hD
                      refine q_ifz_ne (tgt := 202) hx hb dL_law_197 (by decide) (fun c_197 => ?_) (fun c_197 => ?_)
                      · skip
                        refine lv_iload hx hb dL_law_202 (lv_at hl 12 rfl) ?_
                        refine q_iconst hx hb dL_law_204 ?_
                        refine q_irem (F := t9) (k := 5) hx hb (by omega) dL_law_205 ?_
                        refine q_iconst hx hb dL_law_206 ?_
                        refine q_icmp_ne (tgt := 233) hx hb dL_law_207 (by decide) (by omega) (fun c_207 => ?_) (fun c_207 => ?_)
                        · skip
                          refine q_iinc (k := 12) (lv' := [(10, .int (qI ((((t9 : Nat) : Int)) + (1)))), (12, .int (qI (((x_135 : Nat) : Int)))), (11, .int (qI (((x_120 : Nat) : Int)))), (0, .ref (b)), (1, .ref (x)), (2, .ref (q_10)), (3, .ref (q_15)), (4, .ref (q_20)), (5, .ref (q_25)), (6, .ref (q_30)), (7, .ref (q_36)), (8, .ref (q_42)), (9, .ref (q_48))]) hx hb dL_law_233 hl rfl (by decide) rfl (fun ls hl => ?_)
                          refine lv_goto (tgt := 103) hx hb dL_law_236 (by decide) ?_
                          refine W.widen (k := 8801 + 9812 * (t9 + 1)) (n := 97497 + 108314 * (t9 + 1)) (by omega) (by omega) ?_
                          have hP := fl_sub (bs' := [u_194, [(q_10, aI cy 20 (u_177.2.1))], [(q_15, aI cy 45 (u_177.2.2.1))], [(q_20, aI cy 9 (u_177.2.2.2.1))], [(q_25, aI cy 2 (u_177.2.2.2.2.1))], [(q_30, aI cy 2 (u_177.2.2.2.2.2.1))], [(q_36, aI cy 64 (u_177.2.2.2.2.2.2.1))], [(q_42, aI cy 64 (u_177.2.2.2.2.2.2.2.1))], [(q_48, aI cy 64 (u_177.2.2.2.2.2.2.2.2))]]) hP [4, 5, 6, 7, 8, 0, 1, 2, 3] rfl
                          have hD := fl_subD (bs' := [u_194, [(q_10, aI cy 20 (u_177.2.1))], [(q_15, aI cy 45 (u_177.2.2.1))], [(q_20, aI cy 9 (u_177.2.2.2.1))], [(q_25, aI cy 2 (u_177.2.2.2.2.1))], [(q_30, aI cy 2 (u_177.2.2.2.2.2.1))], [(q_36, aI cy 64 (u_177.2.2.2.2.2.2.1))], [(q_42, aI cy 64 (u_177.2.2.2.2.2.2.2.1))], [(q_48, aI cy 64 (u_177.2.2.2.2.2.2.2.2))]]) hD [4, 5, 6, 7, 8, 0, 1, 2, 3] (by decide) rfl
                          exact ih_103 (t9 + 1) (T2) (hz2) (HZ2) (u_194) (u_177.2.1) (u_177.2.2.1) (u_177.2.2.2.1) (u_177.2.2.2.2.1) (u_177.2.2.2.2.2) (by omega) (by omega) h_194 hO2 (fun _ => if e : t9 = 0 then ha2 (by omega) (by rw [hT0 e]; decide) else hm2 (hz1 (by omega))) (fun h => absurd h (by omega)) _ _ _ hP hD hS (lv_sub hl [3, 4, 5, 6, 7, 8, 9, 10, 11, 12, 0] rfl)
                        · skip
                          refine lv_aload_n hx hb dL_law_210 rfl (lv_at hl 3 rfl) ?_
                          refine lv_iload hx hb dL_law_211 (lv_at hl 0 rfl) ?_
                          refine q_iconst hx hb dL_law_213 ?_
                          refine q_ishr (F := x_135) (k := 2) hx hb (by omega) dL_law_214 ?_
                          refine lv_iload hx hb dL_law_215 (lv_at hl 1 rfl) ?_
                          refine q_iconst hx hb dL_law_217 ?_
                          refine q_ishr (F := x_120) (k := 2) hx hb (by omega) dL_law_218 ?_
                          refine lv_aload_n hx hb dL_law_219 rfl (lv_at hl 4 rfl) ?_
                          refine lv_aload_n hx hb dL_law_220 rfl (lv_at hl 5 rfl) ?_
                          refine lv_aload hx hb dL_law_221 (lv_at hl 6 rfl) ?_
                          refine lv_aload hx hb dL_law_223 (lv_at hl 7 rfl) ?_
                          refine q_backKz (mc := 835) (ms := 9362) [4, 5, 6, 7, 8] [0, 1, 2, 3] (br := [[(q_30, aI cy 2 (u_177.2.2.2.2.2.1))], [(q_36, aI cy 64 (u_177.2.2.2.2.2.2.1))], [(q_42, aI cy 64 (u_177.2.2.2.2.2.2.2.1))], [(q_48, aI cy 64 (u_177.2.2.2.2.2.2.2.2))]]) hP hD hS hA (va_runS (As := [.ref (x), .int (qI ((((x_135) / 2 ^ (2) : Nat) : Int))), .int (qI ((((x_120) / 2 ^ (2) : Nat) : Int))), .ref (q_10), .ref (q_15), .ref (q_20), .ref (q_25)]) (rest := []) ⟨hx, hb, hml, hown, hg⟩ (c_L_ahead l D cy x la lv9 ls9 fa xh xs la2 lv92 ls92 fb fw bu ta rc re gb oc oe rs rc2 re2 gb2 oc2 oe2 rs2 rr ad T2 hz2 HZ2 0 z1 _ hO2.1 h_194 q_10 q_15 q_20 q_25 u_177.2.1 u_177.2.2.1 u_177.2.2.2.1 u_177.2.2.2.2.1 hO2.2.2.2 hO2.2.1 hO2.2.2.1 _ _ ((x_135) / 2 ^ (2)) ((x_120) / 2 ^ (2)) (by omega) (by omega) _) (cs_L_120 hg rfl rfl ⟨(Nat.le_of_ble_eq_true rfl), (Nat.le_of_ble_eq_true rfl)⟩) ⟨q_blind, q_preM _ hK hN hP hD [4, 5, 6, 7, 8] (by decide) rfl⟩ rfl rfl hl.1 rfl (lv_room (Nat.le_of_ble_eq_true rfl)) dL_law_225 ⟨(show 8801 + 9812 * t9 + 412 + 8565 + 835 ≤ 600086 by omega), (show 97497 + 108314 * t9 + 4558 + 94394 + 9362 ≤ 7301442 by omega)⟩) rfl rfl (by decide) (fun b_225 u_225 H locs h_225 hP hD hS => ?_)
                          obtain ⟨rfl, h_225⟩ := h_225
                          obtain ⟨fsh_225, hfsh_225⟩ := CW_at h_225
                          have hP : va_P D vwCl [[(q_30, aI cy 2 (u_177.2.2.2.2.2.1))], [(q_36, aI cy 64 (u_177.2.2.2.2.2.2.1))], [(q_42, aI cy 64 (u_177.2.2.2.2.2.2.2.1))], [(q_48, aI cy 64 (u_177.2.2.2.2.2.2.2.2))], u_225, [(q_10, aI cy 20 (u_177.2.1))], [(q_15, aI cy 45 (u_177.2.2.1))], [(q_20, aI cy 9 (u_177.2.2.2.1))], [(q_25, aI cy 2 (u_177.2.2.2.2.1))]].flatten H := hP
                          have hD : va_D A [[(q_30, aI cy 2 (u_177.2.2.2.2.2.1))], [(q_36, aI cy 64 (u_177.2.2.2.2.2.2.1))], [(q_42, aI cy 64 (u_177.2.2.2.2.2.2.2.1))], [(q_48, aI cy 64 (u_177.2.2.2.2.2.2.2.2))], u_225, [(q_10, aI cy 20 (u_177.2.1))], [(q_15, aI cy 45 (u_177.2.2.1))], [(q_20, aI cy 9 (u_177.2.2.2.1))], [(q_25, aI cy 2 (u_177.2.2.2.2.1))]].flatten := hD
                          refine q_ifz_ne (tgt := 233) hx hb dL_law_228 (by decide) (fun c_228 => ?_) (fun c_228 => ?_)
                          · skip
                            refine q_iinc (k := 12) (lv' := [(10, .int (qI ((((t9 : Nat) : Int)) + (1)))), (12, .int (qI (((x_135 : Nat) : Int)))), (11, .int (qI (((x_120 : Nat) : Int)))), (0, .ref (b)), (1, .ref (x)), (2, .ref (q_10)), (3, .ref (q_15)), (4, .ref (q_20)), (5, .ref (q_25)), (6, .ref (q_30)), (7, .ref (q_36)), (8, .ref (q_42)), (9, .ref (q_48))]) hx hb dL_law_233 hl rfl (by decide) rfl (fun ls hl => ?_)
                            refine lv_goto (tgt := 103) hx hb dL_law_236 (by decide) ?_
                            refine W.widen (k := 8801 + 9812 * (t9 + 1)) (n := 97497 + 108314 * (t9 + 1)) (by omega) (by omega) ?_
                            have hP := fl_sub (bs' := [u_225, [(q_10, aI cy 20 (u_177.2.1))], [(q_15, aI cy 45 (u_177.2.2.1))], [(q_20, aI cy 9 (u_177.2.2.2.1))], [(q_25, aI cy 2 (u_177.2.2.2.2.1))], [(q_30, aI cy 2 (u_177.2.2.2.2.2.1))], [(q_36, aI cy 64 (u_177.2.2.2.2.2.2.1))], [(q_42, aI cy 64 (u_177.2.2.2.2.2.2.2.1))], [(q_48, aI cy 64 (u_177.2.2.2.2.2.2.2.2))]]) hP [4, 5, 6, 7, 8, 0, 1, 2, 3] rfl
                            have hD := fl_subD (bs' := [u_225, [(q_10, aI cy 20 (u_177.2.1))], [(q_15, aI cy 45 (u_177.2.2.1))], [(q_20, aI cy 9 (u_177.2.2.2.1))], [(q_25, aI cy 2 (u_177.2.2.2.2.1))], [(q_30, aI cy 2 (u_177.2.2.2.2.2.1))], [(q_36, aI cy 64 (u_177.2.2.2.2.2.2.1))], [(q_42, aI cy 64 (u_177.2.2.2.2.2.2.2.1))], [(q_48, aI cy 64 (u_177.2.2.2.2.2.2.2.2))]]) hD [4, 5, 6, 7, 8, 0, 1, 2, 3] (by decide) rfl
                            exact ih_103 (t9 + 1) (T2) (hz2) (HZ2) (u_225) (u_177.2.1) (u_177.2.2.1) (u_177.2.2.2.1) (u_177.2.2.2.2.1) (u_177.2.2.2.2.2) (by omega) (by omega) h_225 hO2 (fun _ => if e : t9 = 0 then ha2 (by omega) (by rw [hT0 e]; decide) else hm2 (hz1 (by omega))) (fun h => absurd h (by omega)) _ _ _ hP hD hS (lv_sub hl [3, 4, 5, 6, 7, 8, 9, 10, 11, 12, 0] rfl)
                          · skip
                            exact absurd c_228 (by decide)
                      · skip
                        exact absurd c_197 (by decide)
                  refine lv_iload hx hb dL_law_139 (lv_at hl 12 rfl) ?_
                  refine q_iconst hx hb dL_law_141 ?_
                  refine q_icmp_ge (tgt := 149) hx hb dL_law_142 (by decide) (by omega) (fun c_142 => ?_) (fun c_142 => ?_)
                  · skip
                    have hx13 := Nat.div_le_self x_120 (2 ^ 13)
                    refine lv_iload hx hb dL_law_149 (lv_at hl 1 rfl) ?_
                    refine q_bipush hx hb dL_law_151 (by decide) ?_
                    refine q_ishr (F := x_120) (k := 13) hx hb (by omega) dL_law_153 ?_
                    refine q_bipush hx hb dL_law_154 (by decide) ?_
                    refine q_readi (va_runS (As := [.int (qI ((((x_120) / 2 ^ (13) : Nat) : Int))), .int (qI (14))]) (rest := [.ref (x)]) ⟨hx, hb, hml, hown, hg⟩ (c_L_at l D cy _ _ ((x_120) / 2 ^ (13)) 14 (by omega) (by omega)) (cs_L_36 hg rfl rfl ⟨(Nat.le_of_ble_eq_true rfl), (Nat.le_of_ble_eq_true rfl)⟩) ⟨q_blind0, q_preR _ hK hN hP [] rfl⟩ rfl rfl hl.1 rfl (lv_room (Nat.le_of_ble_eq_true rfl)) dL_law_156 ⟨(show 8801 + 9812 * t9 + 0 ≤ 600086 by omega), (show 97497 + 108314 * t9 + 0 ≤ 7301442 by omega)⟩) (fun r_156 h_156 => ?_)
                    subst h_156
                    exact K_159 (((x_120) / 2 ^ (13)) / 2 % 14) ⟨by omega, fun h => absurd h (by omega)⟩
                  · skip
                    refine q_iconst hx hb dL_law_145 ?_
                    refine lv_goto (tgt := 159) hx hb dL_law_146 (by decide) ?_
                    exact K_159 0 ⟨by omega, fun _ => rfl⟩
            refine W.widen (k := 8801 + 9812 * 0) (n := 97497 + 108314 * 0) (by omega) (by omega) ?_
            have hP := fl_sub (bs' := [u_92, [(q_10, aI cy 20 (w1))], [(q_15, aI cy 45 (fun _ => 0))], [(q_20, aI cy 9 (fun _ => 0))], [(q_25, aI cy 2 (fun _ => 0))], [(q_30, aI cy 2 (fun _ => 0))], [(q_36, aI cy 64 (fun _ => 0))], [(q_42, aI cy 64 (fun _ => 0))], [(q_48, aI cy 64 (fun _ => 0))]]) hP [8, 4, 5, 6, 7, 0, 1, 2, 3] rfl
            have hD := fl_subD (bs' := [u_92, [(q_10, aI cy 20 (w1))], [(q_15, aI cy 45 (fun _ => 0))], [(q_20, aI cy 9 (fun _ => 0))], [(q_25, aI cy 2 (fun _ => 0))], [(q_30, aI cy 2 (fun _ => 0))], [(q_36, aI cy 64 (fun _ => 0))], [(q_42, aI cy 64 (fun _ => 0))], [(q_48, aI cy 64 (fun _ => 0))]]) hD [8, 4, 5, 6, 7, 0, 1, 2, 3] (by decide) rfl
            exact L_103 (18 + 1) (0) (T0) (0) (fun _ => T0) (u_92) (w1) (fun _ => 0) (fun _ => 0) (fun _ => 0) ((fun _ => 0, fun _ => 0, fun _ => 0, fun _ => 0)) (by omega) (by omega) h_92 ⟨T0_ok, by decide, by decide, hL0⟩ (fun h => absurd h (by omega)) (fun _ => rfl) _ _ _ hP hD hS (lv_sub hl [1, 2, 3, 4, 5, 6, 7, 8, 9, 10, 0] rfl)
          · skip
            exact absurd c_95 (by decide)
      · skip
        refine lv_aload_n hx hb dL_law_62 rfl (lv_at hl 2 rfl) ?_
        refine q_bipush hx hb dL_law_63 (by decide) ?_
        refine lv_iload hx hb dL_law_65 (lv_at hl 10 rfl) ?_
        refine q_iadd hx hb dL_law_67 ?_
        refine q_iconst hx hb dL_law_68 ?_
        refine qb_iast (j := (10 + k1)) hx hb hK hP hD hS 1 0 rfl rfl (by omega) dL_law_69 (fun H locs hP hD hS => ?_)
        have hP : va_P D vwCl [u_4, [(q_10, aI cy 20 (qu w1 (10 + k1) (5)))], [(q_15, aI cy 45 (fun _ => 0))], [(q_20, aI cy 9 (fun _ => 0))], [(q_25, aI cy 2 (fun _ => 0))], [(q_30, aI cy 2 (fun _ => 0))], [(q_36, aI cy 64 (fun _ => 0))], [(q_42, aI cy 64 (fun _ => 0))], [(q_48, aI cy 64 (fun _ => 0))]].flatten H := hP
        have hD : va_D A [u_4, [(q_10, aI cy 20 (qu w1 (10 + k1) (5)))], [(q_15, aI cy 45 (fun _ => 0))], [(q_20, aI cy 9 (fun _ => 0))], [(q_25, aI cy 2 (fun _ => 0))], [(q_30, aI cy 2 (fun _ => 0))], [(q_36, aI cy 64 (fun _ => 0))], [(q_42, aI cy 64 (fun _ => 0))], [(q_48, aI cy 64 (fun _ => 0))]].flatten := hD
        refine q_iinc (k := 10) (lv' := [(10, .int (qI ((((k1 : Nat) : Int)) + (1)))), (0, .ref (b)), (1, .ref (x)), (2, .ref (q_10)), (3, .ref (q_15)), (4, .ref (q_20)), (5, .ref (q_25)), (6, .ref (q_30)), (7, .ref (q_36)), (8, .ref (q_42)), (9, .ref (q_48))]) hx hb dL_law_70 hl rfl (by decide) rfl (fun ls hl => ?_)
        refine lv_goto (tgt := 55) hx hb dL_law_73 (by decide) ?_
        exact ih_55 (k1 + 1) (qu w1 (10 + k1) 5) (by omega) (by omega) (w1_s hw1) _ _ _ hP hD hS (lv_sub hl [1, 2, 3, 4, 5, 6, 7, 8, 9, 10, 0] rfl)
  exact L_55 (10 + 1) (0) (fun _ => 0) (by omega) (by omega) (fun q => by rw [if_neg (by omega)]) _ _ _ hP hD hS (lv_sub hl [10, 9, 8, 7, 6, 5, 4, 3, 2, 1, 0] rfl)
