theorem q_ldcwf0 {p : Program} {l : Launch} {e : Env} {R : Room} {s : State} {m : MethodId} {args : Array Value} {below : List Frame} {meth : Method} {c : Code} {locs : List Loc} {cells slots : Nat} {T : State} (X : Stand p l e R s m args below meth c T locs cells slots) (hexec : p.tables.exec = Jvm.exec) {index : Nat} {k : Class} {cf : ClassFile} {b : UInt32} (hk : s.vm.classes[m.cls]? = some k) (hcf : k.cf = some cf) (hc : cf.constantPool[index]? = some (.float b)) {g : JFrame} (hg : g.method = m) (hdg : decode c.code g.pc = .ok (.ldc_w index, 3)) :
    ∀ target, Steps p.tables e below (T.setTop { g with pc := g.pc + 3, stack := .float b :: g.stack }) target → Steps p.tables e below (T.setTop g) target := by
  obtain ⟨k', hk', he⟩ := X.warmed.alike.2.2 _ _ hk
  intro target hrest
  subst hg
  jvm_step X.here [hexec, hdg, Op.ldc_w.wp_float (s := T) (f := g) X.here.top hk' (by rw [he]; exact hcf) hc]
  exact hrest
theorem q_ldcwf {p : Program} {l : Launch} {e : Env} {R : Room} {s : State} {m : MethodId} {args : Array Value} {below : List Frame} {meth : Method} {c : Code} {H : Heap} {locs : List Loc} {cells slots : Nat} {Q : State → Prop} {cc : ByteArray} {pc : Nat} {ls : Array Slot} {rest : List Value} (hexec : p.tables.exec = Jvm.exec) (hb : c.code = cc) {own : String} {index : Nat} {v : UInt32} (hown : s.vm.findClass own = some m.cls) (hconst : (Jvm.Cond.constantFloat own index v).before args s = true) (hdg : decode cc pc = .ok (.ldc_w index, 3)) (k : W p l e R s m args below meth c H locs cells slots Q (F0 m (pc + 3) ls (.float v :: rest))) : W p l e R s m args below meth c H locs cells slots Q (F0 m pc ls rest) := by
  intro T hT X
  obtain ⟨t, a, b⟩ := k T hT X
  obtain ⟨k9, cf, hk, hcf, hcp⟩ := Cond.constantFloat_spec hown hconst
  exact ⟨t, q_ldcwf0 X hexec hk hcf hcp (g := F0 m pc ls rest) rfl (by rw [hb]; exact hdg) t a, b⟩
theorem bitL_step {n : Nat} {x : UInt32} {e : Nat} {q : UInt32 × Nat} (h : bitL (n + 1) x e = some q) : (Op.cmpValue (FP.fcmp x 1065353216) .g < 0 ∧ vf_n32 (FP.fmul x 1073741824) ∧ bitL n (FP.fmul x 1073741824) (e - 1) = some q) ∨ (¬ Op.cmpValue (FP.fcmp x 1065353216) .g < 0 ∧ q = (x, e)) := by
  simp only [bitL] at h
  by_cases g : Op.cmpValue (FP.fcmp x 1065353216) .g < 0
  · rw [if_pos g] at h
    by_cases g2 : ok32 (FP.fmul x 1073741824) = true
    · rw [if_pos g2] at h
      exact Or.inl ⟨g, ok32_n g2, h⟩
    · rw [if_neg g2] at h
      cases h
  · rw [if_neg g] at h
    exact Or.inr ⟨g, (Option.some.inj h).symm⟩
theorem bitR_spec {w : Int} {n : Nat} (h : bitR w = some n) : ∃ (x : UInt32) (e : Nat), bitL 20 (frW w) 127 = some (x, e) ∧ vf_n32 (FP.fsub x 1065353216) ∧ vf_n32 (FP.fmul (FP.fsub x 1065353216) 1258291200) ∧ 0 ≤ (FP.f2i (FP.fmul (FP.fsub x 1065353216) 1258291200)).toInt ∧ e * 2 ^ 23 ||| (FP.f2i (FP.fmul (FP.fsub x 1065353216) 1258291200)).toInt.toNat = n := by
  unfold bitR at h
  cases hb : bitL 20 (frW w) 127 with
  | none => rw [hb] at h; cases h
  | some q =>
    obtain ⟨x, e⟩ := q
    rw [hb] at h
    simp only [] at h
    split at h
    · rename_i g
      simp only [Bool.and_eq_true, decide_eq_true_eq] at g
      exact ⟨x, e, rfl, ok32_n g.1.1, ok32_n g.1.2, g.2, Option.some.inj h⟩
    · cases h

set_option maxRecDepth 100000 in
set_option maxHeartbeats 4000000 in
theorem c_X7_bitsOf (l : Launch) (D : va_G) (cy : Nat → ClassId) (w : Nat) (hw : w ≤ 20000) : qRd l yX7_bitsOf (.code yX7_bitsOf cX7_bitsOf 4 (some .int)) 1 [.float (frW ((w : Nat) : Int))] D cy [] (vp_Si (fun r => r = qI (((frW ((w : Nat) : Int)).toNat : Nat) : Int))) := by
  refine q_ofRi (by decide +kernel) (Nat.le_of_ble_eq_true rfl) ?_
  intro p e s m args below meth c Q hx hb hml hown hg hQ hK hN hP ls hl
  have hown : s.vm.findClass RX7 = some m.cls := hown
  have hl : lv_has ls 4 [(0, .float (frW ((w : Nat) : Int)))] := hl
  have f9 := fr_use hw
  refine lv_fload_n hx hb dX7_bitsOf_0 rfl (lv_at hl 0 rfl) ?_
  refine lv_fconst0 hx hb dX7_bitsOf_1 ?_
  refine q_top (v2 := .float 0) (congrArg Value.float fc0) ?_
  refine lv_fcmp hx hb dX7_bitsOf_2 ?_
  obtain ⟨z9, hz9⟩ : ∃ z9 : Int, z9 = if w = 0 then 0 else 1 := ⟨_, rfl⟩
  have hz1 : (w = 0 ∧ z9 = 0) ∨ (w ≠ 0 ∧ z9 = 1) := by subst hz9; by_cases e : w = 0; exact Or.inl ⟨e, if_pos e⟩; exact Or.inr ⟨e, if_neg e⟩
  refine q_top (v2 := .int (qI z9)) (congrArg Value.int (f9.2.2.2.2.2.2.1.trans (by rw [hz9]; by_cases e : w = 0; rw [if_pos e, if_pos e]; rfl; rw [if_neg e, if_neg e]; rfl))) ?_
  refine q_if_gt (tgt := 8) hx hb dX7_bitsOf_3 (by decide) (by omega) (fun c_3 => ?_) (fun c_3 => ?_)
  · skip
    obtain ⟨x9, y9, r1, r2, r3, r4, r5⟩ := bitR_spec (f9.2.2.2.2.2.2.2.2 (by omega))
    refine lv_fload_n hx hb dX7_bitsOf_8 rfl (lv_at hl 0 rfl) ?_
    refine lv_fstore_n (lv' := [(1, .float (frW ((w : Nat) : Int))), (0, .float (frW ((w : Nat) : Int)))]) hx hb dX7_bitsOf_9 rfl hl (by decide) rfl (fun ls hl => ?_)
    refine q_bipush hx hb dX7_bitsOf_10 (by decide) ?_
    refine lv_istore_n (lv' := [(2, .int (qI (127))), (1, .float (frW ((w : Nat) : Int))), (0, .float (frW ((w : Nat) : Int)))]) hx hb dX7_bitsOf_12 rfl hl (by decide) rfl (fun ls hl => ?_)
    refine q_iconst hx hb dX7_bitsOf_13 ?_
    refine lv_istore_n (lv' := [(3, .int (qI (0))), (2, .int (qI (127))), (1, .float (frW ((w : Nat) : Int))), (0, .float (frW ((w : Nat) : Int)))]) hx hb dX7_bitsOf_14 rfl hl (by decide) rfl (fun ls hl => ?_)
    have L_15 : ∀ (n_15 k : Nat) (m9 : UInt32) (e9 : Nat), k ≤ 126 → 126 + 1 ≤ k + n_15 → (k < 20) → (e9 + k = 127) → (bitL (20 - k) m9 e9 = some (x9, y9)) → ∀ (ls : Array Slot), lv_has ls 4 [(0, .float (frW ((w : Nat) : Int))), (1, .float (m9)), (2, .int (qI (((e9 : Nat) : Int)))), (3, .int (qI (((k : Nat) : Int))))] → W p l e (qrm 1) s m args below meth c s.heap [] 0 0 Q (F0 m 15 ls []) := by
      intro n_15
      induction n_15 with
      | zero => intro k _ _ h1 h2; exact absurd h2 (by omega)
      | succ n_15 ih_15 =>
        intro k m9 e9 hk_15 hn_15 hk20 he9 hb9 ls hl
        have b9 := hb9
        rw [show 20 - k = (19 - k) + 1 by omega] at b9
        have s9 := bitL_step b9
        refine lv_iload_n hx hb dX7_bitsOf_15 rfl (lv_at hl 3 rfl) ?_
        refine q_bipush hx hb dX7_bitsOf_16 (by decide) ?_
        refine q_icmp_ge (tgt := 40) hx hb dX7_bitsOf_18 (by decide) (by omega) (fun c_18 => ?_) (fun c_18 => ?_)
        · skip
          exact absurd c_18 (by omega)
        · skip
          refine lv_fload_n hx hb dX7_bitsOf_21 rfl (lv_at hl 1 rfl) ?_
          refine lv_fconst1 hx hb dX7_bitsOf_22 ?_
          refine q_top (v2 := .float 1065353216) (congrArg Value.float fc1) ?_
          refine lv_fcmp hx hb dX7_bitsOf_23 ?_
          obtain ⟨z8, hr8, e8⟩ := qI_of (Op.cmpValue (FP.fcmp (m9) (1065353216)) .g)
          refine q_top (v2 := .int (qI z8)) (congrArg Value.int e8) ?_
          have s8 : Op.cmpValue (FP.fcmp m9 1065353216) .g < 0 ↔ z8 < 0 := by rw [e8]; exact qI_lt (b := 0) ⟨hr8, by decide⟩
          refine q_if_ge (tgt := 40) hx hb dX7_bitsOf_24 (by decide) (by omega) (fun c_24 => ?_) (fun c_24 => ?_)
          · skip
            obtain ⟨g1, g2⟩ := s9.resolve_left (fun q => absurd (s8.mp q.1) (by omega))
            obtain ⟨rx, ry⟩ := Prod.mk.inj g2
            rw [rx] at r2 r3 r4 r5
            rw [ry] at r5
            refine lv_iload_n hx hb dX7_bitsOf_40 rfl (lv_at hl 2 rfl) ?_
            refine q_bipush hx hb dX7_bitsOf_41 (by decide) ?_
            refine q_ishl (F := e9) (k := 23) hx hb (by omega) (by omega) dX7_bitsOf_43 ?_
            refine lv_fload_n hx hb dX7_bitsOf_44 rfl (lv_at hl 1 rfl) ?_
            refine lv_fconst1 hx hb dX7_bitsOf_45 ?_
            refine q_top (v2 := .float 1065353216) (congrArg Value.float fc1) ?_
            refine lv_fsub hx hb dX7_bitsOf_46 r2 ?_
            refine q_ldcwf hx hb hown (hg _ m_438) dX7_bitsOf_47 ?_
            refine lv_fmul hx hb dX7_bitsOf_50 r3 ?_
            refine lv_f2i hx hb dX7_bitsOf_51 ?_
            refine q_top (v2 := .int (qI ((FP.f2i (FP.fmul (FP.fsub (m9) (1065353216)) (1258291200))).toInt.toNat : Nat))) (congrArg Value.int (by rw [show (((FP.f2i (FP.fmul (FP.fsub (m9) (1065353216)) (1258291200))).toInt.toNat : Nat) : Int) = (FP.f2i (FP.fmul (FP.fsub (m9) (1065353216)) (1258291200))).toInt by omega]; exact (qI_self _).symm)) ?_
            refine q_ior (F := (e9) * 2 ^ (23)) (k := (FP.f2i (FP.fmul (FP.fsub (m9) (1065353216)) (1258291200))).toInt.toNat) hx hb (by omega) dX7_bitsOf_52 ?_
            exact hQ _ _ _ (by rw [← r5]) dX7_bitsOf_53
          · skip
            obtain ⟨g1, g2, g3⟩ := s9.resolve_right (fun q => q.1 (s8.mpr (by omega)))
            have k9 : k + 1 < 20 := by rcases Nat.lt_or_ge (k + 1) 20 with q | q; exact q; rw [show 19 - k = 0 by omega] at g3; cases g3
            refine lv_fload_n hx hb dX7_bitsOf_27 rfl (lv_at hl 1 rfl) ?_
            refine lv_fconst2 hx hb dX7_bitsOf_28 ?_
            refine q_top (v2 := .float 1073741824) (congrArg Value.float fc2) ?_
            refine lv_fmul hx hb dX7_bitsOf_29 g2 ?_
            refine lv_fstore_n (lv' := [(1, .float (FP.fmul (m9) (1073741824))), (0, .float (frW ((w : Nat) : Int))), (2, .int (qI (((e9 : Nat) : Int)))), (3, .int (qI (((k : Nat) : Int))))]) hx hb dX7_bitsOf_30 rfl hl (by decide) rfl (fun ls hl => ?_)
            refine q_iinc (k := 2) (lv' := [(2, .int (qI ((((e9 : Nat) : Int)) + (-1)))), (1, .float (FP.fmul (m9) (1073741824))), (0, .float (frW ((w : Nat) : Int))), (3, .int (qI (((k : Nat) : Int))))]) hx hb dX7_bitsOf_31 hl rfl (by decide) rfl (fun ls hl => ?_)
            refine q_iinc (k := 3) (lv' := [(3, .int (qI ((((k : Nat) : Int)) + (1)))), (2, .int (qI ((((e9 : Nat) : Int)) + (-1)))), (1, .float (FP.fmul (m9) (1073741824))), (0, .float (frW ((w : Nat) : Int)))]) hx hb dX7_bitsOf_34 hl rfl (by decide) rfl (fun ls hl => ?_)
            refine lv_goto (tgt := 15) hx hb dX7_bitsOf_37 (by decide) ?_
            have q9 : ((e9 : Nat) : Int) + (-1) = ((e9 - 1 : Nat) : Int) := by omega
            rw [q9] at hl
            exact ih_15 (k + 1) (FP.fmul m9 1073741824) (e9 - 1) (by omega) (by omega) k9 (by omega) (by rw [show 20 - (k + 1) = 19 - k by omega]; exact g3) _ (lv_sub hl [3, 2, 1, 0] rfl)
    exact L_15 (126 + 1) (0) (frW ((w : Nat) : Int)) (127) (by omega) (by omega) (by omega) (by omega) r1 _ (lv_sub hl [3, 2, 1, 0] rfl)
  · skip
    refine q_iconst hx hb dX7_bitsOf_6 ?_
    exact hQ _ _ _ (by rw [f9.2.2.2.2.2.2.2.1 (by omega)]; rfl) dX7_bitsOf_7

set_option maxRecDepth 100000 in
set_option maxHeartbeats 4000000 in
theorem c_X7_mixed (l : Launch) (D : va_G) (cy : Nat → ClassId) (h0 : Int64) (z : Int) : qRd l yX7_mixed (.code yX7_mixed cX7_mixed 3 (some .long)) 1 [.long (h0), .int (qI (z))] D cy [] (vp_Sl (fun r => r = mx h0 z)) := by
  refine q_ofRl (by decide +kernel) (Nat.le_of_ble_eq_true rfl) ?_
  intro p e s m args below meth c Q hx hb hml hown hg hQ hK hN hP ls hl
  have hown : s.vm.findClass RX7 = some m.cls := hown
  have hl : lv_has ls 3 [(0, .long (h0)), (2, .int (qI (z)))] := hl
  refine lv_ldc2 hx hb hown (hg _ m_430) dX7_mixed_0 ?_
  refine lv_lload_n hx hb dX7_mixed_3 rfl (lv_at hl 0 rfl) ?_
  refine lv_lmul hx hb dX7_mixed_4 ?_
  refine lv_iload_n hx hb dX7_mixed_5 rfl (lv_at hl 1 rfl) ?_
  refine lv_i2l hx hb dX7_mixed_6 rfl ?_
  refine lv_ladd hx hb dX7_mixed_7 ?_
  exact hQ _ _ _ rfl dX7_mixed_8

theorem hsh_at {g : Nat → Int} {n : Nat} {h y : Int64} {z : Int} (hy : y = hsh g n h) (hz : z = g n) : mx y z = hsh g (n + 1) h := by subst hy; subst hz; rfl
/-- the conditions' part of the hash -/
def hcn (v : Nat → Int) (C : Nat → Nat → Int) (nc : Nat) (E : Nat → Nat → Int) (ne : Nat) : Nat → Int64 → Int64
  | 0, h => h
  | k + 1, h => mx (mx (hsh (fun w => coA v C nc E ne k (w : Int)) 10 (hcn v C nc E ne k h)) (rmA C nc E ne k)) (nsA C nc E ne k)
def plF (v st : Nat → Int) (C : Nat → Nat → Int) (nc : Nat) (E : Nat → Nat → Int) (ne : Nat) (i : Nat) : Int := plA v st C nc E ne (i / 6) ((i % 6 : Nat) : Int)
def edF (C : Nat → Nat → Int) (nc : Nat) (E : Nat → Nat → Int) (ne i : Nat) : Int := edA C nc E ne (i / 5) ((i % 5 : Nat) : Int)
def wdF (C : Nat → Nat → Int) (nc : Nat) (E : Nat → Nat → Int) (ne i : Nat) : Int := fM (fil C nc E ne (-1)) (i / 10) (i % 10)
def dgA (v st : Nat → Int) (C : Nat → Nat → Int) (nc : Nat) (E : Nat → Nat → Int) (ne hz : Nat) (bf : Nat → Int) (len : Nat) : Int64 :=
  hsh bf len (mx (mx (hsh (wdF C nc E ne) 100 (hsh (edF C nc E ne) (5 * ne) (hcn v C nc E ne nc (hsh (plF v st C nc E ne) 60 (hsh (fun w => ctA v C nc E ne hz (w : Int)) 8 2129))))) (((frW (widS C nc E ne 10)).toNat : Nat) : Int)) (len : Int))

set_option maxRecDepth 100000 in
set_option maxHeartbeats 4000000 in
theorem c_X7_withPlaces (l : Launch) (D : va_G) (cy : Nat → ClassId) (x la lv9 ls9 fa xh xs la2 lv92 ls92 fb fw bu ta : Nat) (rc re gb oc oe rs rc2 re2 gb2 oc2 oe2 rs2 rr : Nat → Nat) (ad : Nat → Nat → Nat) (kw : Bool) (len : Int) (v st : Nat → Int) (C : Nat → Nat → Int) (nc : Nat) (E : Nat → Nat → Int) (ne : Nat) (tt : Int) (M : Nat → Nat → Int) (FC : Nat) (mgC tnC : Nat → Int) (FE : Nat) (mgE tnE : Nat → Int) (hF : fCan C nc E ne (-1) M FC mgC tnC FE mgE) (hE : qWR E ne) (hC : qWR C nc) (he : ne ≤ 16) (hc : nc ≤ 16) (hV : qV v) (hst : ∀ i, i < 10 → 0 ≤ st i ∧ st i ≤ 9) (h0 : Int64) : qRd l yX7_withPlaces (.code yX7_withPlaces cX7_withPlaces 7 (some .long)) 3 [.ref (x), .long (h0)] D cy [[(x, .inr (7, [.ref (la), .ref (fa), .ref (xh), .ref (la2), .ref (fb), .ref (fw), .int (qz (kw)), .ref (bu), .int (qI (len)), .ref (ta)]))], [(la, .inr (3, [.ref (lv9), .ref (ls9), .ref (rc 0), .ref (re 0)]))], [(lv9, aI cy 10 (v))], [(ls9, aI cy 10 (st))], qRu cy rc (C) (((nc : Nat) : Int)), qRu cy re (E) (((ne : Nat) : Int)), [(fa, .inr (1, [.ref (gb 0), .ref (oc 0), .ref (oe 0), .ref (rs 0), .int (qI (tt))]))], qBo cy gb (M)] (vp_Sl (fun r => r = hsh (plF v st C nc E ne) 60 h0)) := by
  refine q_ofRl (by decide +kernel) (Nat.le_of_ble_eq_true rfl) ?_
  intro p e s m args below meth c Q hx hb hml hown hg hQ hK hN hP ls hl
  have hown : s.vm.findClass RX7 = some m.cls := hown
  have hl : lv_has ls 7 [(0, .ref (x)), (1, .long (h0))] := hl
  refine lv_lload_n hx hb dX7_withPlaces_0 rfl (lv_at hl 1 rfl) ?_
  refine lv_lstore_n (lv' := [(3, .long (h0)), (0, .ref (x)), (1, .long (h0))]) hx hb dX7_withPlaces_1 rfl hl (by decide) rfl (fun ls hl => ?_)
  refine q_iconst hx hb dX7_withPlaces_2 ?_
  refine lv_istore (lv' := [(5, .int (qI (0))), (3, .long (h0)), (0, .ref (x)), (1, .long (h0))]) hx hb dX7_withPlaces_3 hl (by decide) rfl (fun ls hl => ?_)
  have L_5 : ∀ (n_5 k : Nat) (y : Int64), k ≤ 10 → 10 + 1 ≤ k + n_5 → (y = hsh (plF v st C nc E ne) (6 * k) h0) → ∀ (ls : Array Slot), lv_has ls 7 [(0, .ref (x)), (1, .long (h0)), (3, .long (y)), (5, .int (qI (((k : Nat) : Int))))] → W p l e (qrm 3) s m args below meth c s.heap [] 0 0 Q (F0 m 5 ls []) := by
    intro n_5
    induction n_5 with
    | zero => intro k _ h1 h2; exact absurd h2 (by omega)
    | succ n_5 ih_5 =>
      intro k y hk_5 hn_5 hy ls hl
      refine lv_iload hx hb dX7_withPlaces_5 (lv_at hl 3 rfl) ?_
      refine q_bipush hx hb dX7_withPlaces_7 (by decide) ?_
      refine q_icmp_ge (tgt := 47) hx hb dX7_withPlaces_9 (by decide) (by omega) (fun c_9 => ?_) (fun c_9 => ?_)
      · skip
        refine lv_lload_n hx hb dX7_withPlaces_47 rfl (lv_at hl 2 rfl) ?_
        exact hQ _ _ _ (by rw [hy, show 6 * k = 60 by omega]) dX7_withPlaces_48
      · skip
        refine q_iconst hx hb dX7_withPlaces_12 ?_
        refine lv_istore (lv' := [(6, .int (qI (0))), (0, .ref (x)), (1, .long (h0)), (3, .long (y)), (5, .int (qI (((k : Nat) : Int))))]) hx hb dX7_withPlaces_13 hl (by decide) rfl (fun ls hl => ?_)
        have L_15 : ∀ (n_15 j : Nat) (y2 : Int64), j ≤ 6 → 6 + 1 ≤ j + n_15 → (y2 = hsh (plF v st C nc E ne) (6 * k + j) h0) → ∀ (ls : Array Slot), lv_has ls 7 [(0, .ref (x)), (1, .long (h0)), (3, .long (y2)), (5, .int (qI (((k : Nat) : Int)))), (6, .int (qI (((j : Nat) : Int))))] → W p l e (qrm 3) s m args below meth c s.heap [] 0 0 Q (F0 m 15 ls []) := by
          intro n_15
          induction n_15 with
          | zero => intro j _ h1 h2; exact absurd h2 (by omega)
          | succ n_15 ih_15 =>
            intro j y2 hk_15 hn_15 hy2 ls hl
            refine lv_iload hx hb dX7_withPlaces_15 (lv_at hl 4 rfl) ?_
            refine q_bipush hx hb dX7_withPlaces_17 (by decide) ?_
            refine q_icmp_ge (tgt := 41) hx hb dX7_withPlaces_19 (by decide) (by omega) (fun c_19 => ?_) (fun c_19 => ?_)
            · skip
              refine q_iinc (k := 3) (lv' := [(5, .int (qI ((((k : Nat) : Int)) + (1)))), (0, .ref (x)), (1, .long (h0)), (3, .long (y2)), (6, .int (qI (((j : Nat) : Int))))]) hx hb dX7_withPlaces_41 hl rfl (by decide) rfl (fun ls hl => ?_)
              refine lv_goto (tgt := 5) hx hb dX7_withPlaces_44 (by decide) ?_
              exact ih_5 (k + 1) _ (by omega) (by omega) (by rw [hy2, show 6 * k + j = 6 * (k + 1) by omega]) _ (lv_sub hl [1, 2, 3, 0] rfl)
            · skip
              refine lv_lload_n hx hb dX7_withPlaces_22 rfl (lv_at hl 2 rfl) ?_
              refine lv_aload_n hx hb dX7_withPlaces_23 rfl (lv_at hl 0 rfl) ?_
              refine lv_iload hx hb dX7_withPlaces_24 (lv_at hl 3 rfl) ?_
              refine lv_iload hx hb dX7_withPlaces_26 (lv_at hl 4 rfl) ?_
              refine q_readi (va_runV (As := [.int (qI (((k : Nat) : Int))), .int (qI (((j : Nat) : Int)))]) (rest := [.long (y2)]) ⟨hx, hb, hml, hown, hg⟩ (c_X7_placeProperty l D cy x la lv9 ls9 fa xh xs la2 lv92 ls92 fb fw bu ta rc re gb oc oe rs rc2 re2 gb2 oc2 oe2 rs2 rr ad (kw) (len) v st C nc E ne tt M FC mgC tnC FE mgE tnE hF hE hC he hc hV hst _ (((j : Nat) : Int)) k (by omega) (by omega)) (cv_X7_169 hg rfl rfl ⟨by decide, by decide⟩) ⟨q_blind0, va_recv hK (fl_blk hP 0 rfl) (ci := 7) (q0 := 0) rfl rfl, q_preR _ hK hN hP [0, 1, 2, 3, 4, 5, 6, 7] rfl⟩ rfl rfl hl.1 rfl (lv_room (Nat.le_of_ble_eq_true rfl)) dX7_withPlaces_28 ⟨by decide, by decide⟩) (fun r_28 h_28 => ?_)
              subst h_28
              refine q_readl (va_runS (As := [.long (y2), .int (qI (plA v st C nc E ne k (((j : Nat) : Int))))]) (rest := []) ⟨hx, hb, hml, hown, hg⟩ (c_X7_mixed l D cy (y2) (plA v st C nc E ne k (((j : Nat) : Int)))) (cs_X7_218 hg rfl rfl ⟨by decide, by decide⟩) ⟨q_blind0, q_preR _ hK hN hP [] rfl⟩ rfl rfl hl.1 rfl (lv_room (Nat.le_of_ble_eq_true rfl)) dX7_withPlaces_31 ⟨by decide, by decide⟩) (fun r_31 h_31 => ?_)
              subst h_31
              refine lv_lstore_n (lv' := [(3, .long (mx (y2) (plA v st C nc E ne k (((j : Nat) : Int))))), (0, .ref (x)), (1, .long (h0)), (5, .int (qI (((k : Nat) : Int)))), (6, .int (qI (((j : Nat) : Int))))]) hx hb dX7_withPlaces_34 rfl hl (by decide) rfl (fun ls hl => ?_)
              refine q_iinc (k := 4) (lv' := [(6, .int (qI ((((j : Nat) : Int)) + (1)))), (3, .long (mx (y2) (plA v st C nc E ne k (((j : Nat) : Int))))), (0, .ref (x)), (1, .long (h0)), (5, .int (qI (((k : Nat) : Int))))]) hx hb dX7_withPlaces_35 hl rfl (by decide) rfl (fun ls hl => ?_)
              refine lv_goto (tgt := 15) hx hb dX7_withPlaces_38 (by decide) ?_
              exact ih_15 (j + 1) _ (by omega) (by omega) (hsh_at (n := 6 * k + j) hy2 (by show _ = _; unfold plF; rw [show (6 * k + j) / 6 = k by omega, show (6 * k + j) % 6 = j by omega])) _ (lv_sub hl [2, 3, 1, 4, 0] rfl)
        exact L_15 (6 + 1) (0) _ (by omega) (by omega) hy _ (lv_sub hl [1, 2, 3, 4, 0] rfl)
  exact L_5 (10 + 1) (0) _ (by omega) (by omega) rfl _ (lv_sub hl [2, 3, 1, 0] rfl)

set_option maxRecDepth 100000 in
set_option maxHeartbeats 4000000 in
theorem c_X7_withEdits (l : Launch) (D : va_G) (cy : Nat → ClassId) (x la lv9 ls9 fa xh xs la2 lv92 ls92 fb fw bu ta : Nat) (rc re gb oc oe rs rc2 re2 gb2 oc2 oe2 rs2 rr : Nat → Nat) (ad : Nat → Nat → Nat) (kw : Bool) (len : Int) (v st : Nat → Int) (C : Nat → Nat → Int) (nc : Nat) (E : Nat → Nat → Int) (ne : Nat) (tt : Int) (M : Nat → Nat → Int) (FC : Nat) (mgC tnC : Nat → Int) (FE : Nat) (mgE tnE : Nat → Int) (hF : fCan C nc E ne (-1) M FC mgC tnC FE mgE) (hE : qWR E ne) (hC : qWR C nc) (he : ne ≤ 16) (hc : nc ≤ 16) (h0 : Int64) : qRd l yX7_withEdits (.code yX7_withEdits cX7_withEdits 7 (some .long)) 3 [.ref (x), .long (h0)] D cy [[(x, .inr (7, [.ref (la), .ref (fa), .ref (xh), .ref (la2), .ref (fb), .ref (fw), .int (qz (kw)), .ref (bu), .int (qI (len)), .ref (ta)]))], [(la, .inr (3, [.ref (lv9), .ref (ls9), .ref (rc 0), .ref (re 0)]))], qRu cy re (E) (((ne : Nat) : Int)), [(fa, .inr (1, [.ref (gb 0), .ref (oc 0), .ref (oe 0), .ref (rs 0), .int (qI (tt))]))], qOu cy oe (((FE : Nat) : Int)) (mgE) (tnE)] (vp_Sl (fun r => r = hsh (edF C nc E ne) (5 * ne) h0)) := by
  refine q_ofRl (by decide +kernel) (Nat.le_of_ble_eq_true rfl) ?_
  intro p e s m args below meth c Q hx hb hml hown hg hQ hK hN hP ls hl
  have hown : s.vm.findClass RX7 = some m.cls := hown
  have hl : lv_has ls 7 [(0, .ref (x)), (1, .long (h0))] := hl
  refine lv_lload_n hx hb dX7_withEdits_0 rfl (lv_at hl 1 rfl) ?_
  refine lv_lstore_n (lv' := [(3, .long (h0)), (0, .ref (x)), (1, .long (h0))]) hx hb dX7_withEdits_1 rfl hl (by decide) rfl (fun ls hl => ?_)
  refine q_iconst hx hb dX7_withEdits_2 ?_
  refine lv_istore (lv' := [(5, .int (qI (0))), (3, .long (h0)), (0, .ref (x)), (1, .long (h0))]) hx hb dX7_withEdits_3 hl (by decide) rfl (fun ls hl => ?_)
  have L_5 : ∀ (n_5 k : Nat) (y : Int64), k ≤ ne → ne + 1 ≤ k + n_5 → (y = hsh (edF C nc E ne) (5 * k) h0) → ∀ (ls : Array Slot), lv_has ls 7 [(0, .ref (x)), (1, .long (h0)), (3, .long (y)), (5, .int (qI (((k : Nat) : Int))))] → W p l e (qrm 3) s m args below meth c s.heap [] 0 0 Q (F0 m 5 ls []) := by
    intro n_5
    induction n_5 with
    | zero => intro k _ h1 h2; exact absurd h2 (by omega)
    | succ n_5 ih_5 =>
      intro k y hk_5 hn_5 hy ls hl
      refine lv_iload hx hb dX7_withEdits_5 (lv_at hl 3 rfl) ?_
      refine lv_aload_n hx hb dX7_withEdits_7 rfl (lv_at hl 0 rfl) ?_
      refine gf_X7_12 hx hb hg hown hK (fl_blk hP 0 rfl) 0 rfl rfl dX7_withEdits_8 ?_
      refine gf_X7_131 hx hb hg hown hK (fl_blk hP 1 rfl) 0 rfl rfl dX7_withEdits_11 ?_
      refine gf_X7_75 hx hb hg hown hK (fl_blk hP 2 rfl) 0 rfl rfl dX7_withEdits_14 ?_
      refine q_icmp_ge (tgt := 54) hx hb dX7_withEdits_17 (by decide) (by omega) (fun c_17 => ?_) (fun c_17 => ?_)
      · skip
        refine lv_lload_n hx hb dX7_withEdits_54 rfl (lv_at hl 2 rfl) ?_
        exact hQ _ _ _ (by rw [hy, show k = ne by omega]) dX7_withEdits_55
      · skip
        refine q_iconst hx hb dX7_withEdits_20 ?_
        refine lv_istore (lv' := [(6, .int (qI (0))), (0, .ref (x)), (1, .long (h0)), (3, .long (y)), (5, .int (qI (((k : Nat) : Int))))]) hx hb dX7_withEdits_21 hl (by decide) rfl (fun ls hl => ?_)
        have L_23 : ∀ (n_23 j : Nat) (y2 : Int64), j ≤ 5 → 5 + 1 ≤ j + n_23 → (y2 = hsh (edF C nc E ne) (5 * k + j) h0) → ∀ (ls : Array Slot), lv_has ls 7 [(0, .ref (x)), (1, .long (h0)), (3, .long (y2)), (5, .int (qI (((k : Nat) : Int)))), (6, .int (qI (((j : Nat) : Int))))] → W p l e (qrm 3) s m args below meth c s.heap [] 0 0 Q (F0 m 23 ls []) := by
          intro n_23
          induction n_23 with
          | zero => intro j _ h1 h2; exact absurd h2 (by omega)
          | succ n_23 ih_23 =>
            intro j y2 hk_23 hn_23 hy2 ls hl
            refine lv_iload hx hb dX7_withEdits_23 (lv_at hl 4 rfl) ?_
            refine q_iconst hx hb dX7_withEdits_25 ?_
            refine q_icmp_ge (tgt := 48) hx hb dX7_withEdits_26 (by decide) (by omega) (fun c_26 => ?_) (fun c_26 => ?_)
            · skip
              refine q_iinc (k := 3) (lv' := [(5, .int (qI ((((k : Nat) : Int)) + (1)))), (0, .ref (x)), (1, .long (h0)), (3, .long (y2)), (6, .int (qI (((j : Nat) : Int))))]) hx hb dX7_withEdits_48 hl rfl (by decide) rfl (fun ls hl => ?_)
              refine lv_goto (tgt := 5) hx hb dX7_withEdits_51 (by decide) ?_
              exact ih_5 (k + 1) _ (by omega) (by omega) (by rw [hy2, show 5 * k + j = 5 * (k + 1) by omega]) _ (lv_sub hl [1, 2, 3, 0] rfl)
            · skip
              refine lv_lload_n hx hb dX7_withEdits_29 rfl (lv_at hl 2 rfl) ?_
              refine lv_aload_n hx hb dX7_withEdits_30 rfl (lv_at hl 0 rfl) ?_
              refine lv_iload hx hb dX7_withEdits_31 (lv_at hl 3 rfl) ?_
              refine lv_iload hx hb dX7_withEdits_33 (lv_at hl 4 rfl) ?_
              refine q_readi (va_runV (As := [.int (qI (((k : Nat) : Int))), .int (qI (((j : Nat) : Int)))]) (rest := [.long (y2)]) ⟨hx, hb, hml, hown, hg⟩ (c_X7_editProperty l D cy x la lv9 ls9 fa xh xs la2 lv92 ls92 fb fw bu ta rc re gb oc oe rs rc2 re2 gb2 oc2 oe2 rs2 rr ad (kw) (len) v st C nc E ne tt M FC mgC tnC FE mgE tnE hF hE hC he hc _ (((j : Nat) : Int)) k (by omega) (by omega)) (cv_X7_179 hg rfl rfl ⟨by decide, by decide⟩) ⟨q_blind0, va_recv hK (fl_blk hP 0 rfl) (ci := 7) (q0 := 0) rfl rfl, q_preR _ hK hN hP [0, 1, 2, 3, 4] rfl⟩ rfl rfl hl.1 rfl (lv_room (Nat.le_of_ble_eq_true rfl)) dX7_withEdits_35 ⟨by decide, by decide⟩) (fun r_35 h_35 => ?_)
              subst h_35
              refine q_readl (va_runS (As := [.long (y2), .int (qI (edA C nc E ne k (((j : Nat) : Int))))]) (rest := []) ⟨hx, hb, hml, hown, hg⟩ (c_X7_mixed l D cy (y2) (edA C nc E ne k (((j : Nat) : Int)))) (cs_X7_218 hg rfl rfl ⟨by decide, by decide⟩) ⟨q_blind0, q_preR _ hK hN hP [] rfl⟩ rfl rfl hl.1 rfl (lv_room (Nat.le_of_ble_eq_true rfl)) dX7_withEdits_38 ⟨by decide, by decide⟩) (fun r_38 h_38 => ?_)
              subst h_38
              refine lv_lstore_n (lv' := [(3, .long (mx (y2) (edA C nc E ne k (((j : Nat) : Int))))), (0, .ref (x)), (1, .long (h0)), (5, .int (qI (((k : Nat) : Int)))), (6, .int (qI (((j : Nat) : Int))))]) hx hb dX7_withEdits_41 rfl hl (by decide) rfl (fun ls hl => ?_)
              refine q_iinc (k := 4) (lv' := [(6, .int (qI ((((j : Nat) : Int)) + (1)))), (3, .long (mx (y2) (edA C nc E ne k (((j : Nat) : Int))))), (0, .ref (x)), (1, .long (h0)), (5, .int (qI (((k : Nat) : Int))))]) hx hb dX7_withEdits_42 hl rfl (by decide) rfl (fun ls hl => ?_)
              refine lv_goto (tgt := 23) hx hb dX7_withEdits_45 (by decide) ?_
              exact ih_23 (j + 1) _ (by omega) (by omega) (hsh_at (n := 5 * k + j) hy2 (by show _ = _; unfold edF; rw [show (5 * k + j) / 5 = k by omega, show (5 * k + j) % 5 = j by omega])) _ (lv_sub hl [2, 3, 1, 4, 0] rfl)
        exact L_23 (5 + 1) (0) _ (by omega) (by omega) hy _ (lv_sub hl [1, 2, 3, 4, 0] rfl)
  exact L_5 (ne + 1) (0) _ (by omega) (by omega) rfl _ (lv_sub hl [2, 3, 1, 0] rfl)

set_option maxRecDepth 100000 in
set_option maxHeartbeats 4000000 in
theorem c_X7_withWidest (l : Launch) (D : va_G) (cy : Nat → ClassId) (x la lv9 ls9 fa xh xs la2 lv92 ls92 fb fw bu ta : Nat) (rc re gb oc oe rs rc2 re2 gb2 oc2 oe2 rs2 rr : Nat → Nat) (ad : Nat → Nat → Nat) (kw : Bool) (len : Int) (v st : Nat → Int) (C : Nat → Nat → Int) (nc : Nat) (E : Nat → Nat → Int) (ne : Nat) (tt : Int) (M : Nat → Nat → Int) (FC : Nat) (mgC tnC : Nat → Int) (FE : Nat) (mgE tnE : Nat → Int) (hF : fCan C nc E ne (-1) M FC mgC tnC FE mgE) (h0 : Int64) : qRd l yX7_withWidest (.code yX7_withWidest cX7_withWidest 7 (some .long)) 3 [.ref (x), .long (h0)] D cy [[(x, .inr (7, [.ref (la), .ref (fa), .ref (xh), .ref (la2), .ref (fb), .ref (fw), .int (qz (kw)), .ref (bu), .int (qI (len)), .ref (ta)]))], [(fa, .inr (1, [.ref (gb 0), .ref (oc 0), .ref (oe 0), .ref (rs 0), .int (qI (tt))]))], qBo cy gb (M)] (vp_Sl (fun r => r = hsh (wdF C nc E ne) 100 h0)) := by
  refine q_ofRl (by decide +kernel) (Nat.le_of_ble_eq_true rfl) ?_
  intro p e s m args below meth c Q hx hb hml hown hg hQ hK hN hP ls hl
  have hown : s.vm.findClass RX7 = some m.cls := hown
  have hl : lv_has ls 7 [(0, .ref (x)), (1, .long (h0))] := hl
  refine lv_lload_n hx hb dX7_withWidest_0 rfl (lv_at hl 1 rfl) ?_
  refine lv_lstore_n (lv' := [(3, .long (h0)), (0, .ref (x)), (1, .long (h0))]) hx hb dX7_withWidest_1 rfl hl (by decide) rfl (fun ls hl => ?_)
  refine q_iconst hx hb dX7_withWidest_2 ?_
  refine lv_istore (lv' := [(5, .int (qI (0))), (3, .long (h0)), (0, .ref (x)), (1, .long (h0))]) hx hb dX7_withWidest_3 hl (by decide) rfl (fun ls hl => ?_)
  have L_5 : ∀ (n_5 k : Nat) (y : Int64), k ≤ 10 → 10 + 1 ≤ k + n_5 → (y = hsh (wdF C nc E ne) (10 * k) h0) → ∀ (ls : Array Slot), lv_has ls 7 [(0, .ref (x)), (1, .long (h0)), (3, .long (y)), (5, .int (qI (((k : Nat) : Int))))] → W p l e (qrm 3) s m args below meth c s.heap [] 0 0 Q (F0 m 5 ls []) := by
    intro n_5
    induction n_5 with
    | zero => intro k _ h1 h2; exact absurd h2 (by omega)
    | succ n_5 ih_5 =>
      intro k y hk_5 hn_5 hy ls hl
      refine lv_iload hx hb dX7_withWidest_5 (lv_at hl 3 rfl) ?_
      refine q_bipush hx hb dX7_withWidest_7 (by decide) ?_
      refine q_icmp_ge (tgt := 53) hx hb dX7_withWidest_9 (by decide) (by omega) (fun c_9 => ?_) (fun c_9 => ?_)
      · skip
        refine lv_lload_n hx hb dX7_withWidest_53 rfl (lv_at hl 2 rfl) ?_
        exact hQ _ _ _ (by rw [hy, show 10 * k = 100 by omega]) dX7_withWidest_54
      · skip
        refine q_iconst hx hb dX7_withWidest_12 ?_
        refine lv_istore (lv' := [(6, .int (qI (0))), (0, .ref (x)), (1, .long (h0)), (3, .long (y)), (5, .int (qI (((k : Nat) : Int))))]) hx hb dX7_withWidest_13 hl (by decide) rfl (fun ls hl => ?_)
        have L_15 : ∀ (n_15 j : Nat) (y2 : Int64), j ≤ 10 → 10 + 1 ≤ j + n_15 → (y2 = hsh (wdF C nc E ne) (10 * k + j) h0) → ∀ (ls : Array Slot), lv_has ls 7 [(0, .ref (x)), (1, .long (h0)), (3, .long (y2)), (5, .int (qI (((k : Nat) : Int)))), (6, .int (qI (((j : Nat) : Int))))] → W p l e (qrm 3) s m args below meth c s.heap [] 0 0 Q (F0 m 15 ls []) := by
          intro n_15
          induction n_15 with
          | zero => intro j _ h1 h2; exact absurd h2 (by omega)
          | succ n_15 ih_15 =>
            intro j y2 hk_15 hn_15 hy2 ls hl
            refine lv_iload hx hb dX7_withWidest_15 (lv_at hl 4 rfl) ?_
            refine q_bipush hx hb dX7_withWidest_17 (by decide) ?_
            refine q_icmp_ge (tgt := 47) hx hb dX7_withWidest_19 (by decide) (by omega) (fun c_19 => ?_) (fun c_19 => ?_)
            · skip
              refine q_iinc (k := 3) (lv' := [(5, .int (qI ((((k : Nat) : Int)) + (1)))), (0, .ref (x)), (1, .long (h0)), (3, .long (y2)), (6, .int (qI (((j : Nat) : Int))))]) hx hb dX7_withWidest_47 hl rfl (by decide) rfl (fun ls hl => ?_)
              refine lv_goto (tgt := 5) hx hb dX7_withWidest_50 (by decide) ?_
              exact ih_5 (k + 1) _ (by omega) (by omega) (by rw [hy2, show 10 * k + j = 10 * (k + 1) by omega]) _ (lv_sub hl [1, 2, 3, 0] rfl)
            · skip
              refine lv_lload_n hx hb dX7_withWidest_22 rfl (lv_at hl 2 rfl) ?_
              refine lv_aload_n hx hb dX7_withWidest_23 rfl (lv_at hl 0 rfl) ?_
              refine gf_X7_19 hx hb hg hown hK (fl_blk hP 0 rfl) 0 rfl rfl dX7_withWidest_24 ?_
              refine gf_X7_182 hx hb hg hown hK (fl_blk hP 1 rfl) 0 rfl rfl dX7_withWidest_27 ?_
              refine lv_iload hx hb dX7_withWidest_30 (lv_at hl 3 rfl) ?_
              refine lv_iload hx hb dX7_withWidest_32 (lv_at hl 4 rfl) ?_
              refine q_readi (va_runV (As := [.int (qI (((k : Nat) : Int))), .int (qI (((j : Nat) : Int)))]) (rest := [.long (y2)]) ⟨hx, hb, hml, hown, hg⟩ (c_X0_greatest l D cy (gb) (M) _ _ k j (by omega) (by omega)) (cv_X7_186 hg rfl rfl ⟨by decide, by decide⟩) ⟨q_blind0, va_recv hK (fl_blk hP 2 rfl) (ci := 0) (q0 := 0) rfl rfl, q_preR _ hK hN hP [2] rfl⟩ rfl rfl hl.1 rfl (lv_room (Nat.le_of_ble_eq_true rfl)) dX7_withWidest_34 ⟨by decide, by decide⟩) (fun r_34 h_34 => ?_)
              subst h_34
              refine q_readl (va_runS (As := [.long (y2), .int (qI (M k j))]) (rest := []) ⟨hx, hb, hml, hown, hg⟩ (c_X7_mixed l D cy (y2) (M k j)) (cs_X7_218 hg rfl rfl ⟨by decide, by decide⟩) ⟨q_blind0, q_preR _ hK hN hP [] rfl⟩ rfl rfl hl.1 rfl (lv_room (Nat.le_of_ble_eq_true rfl)) dX7_withWidest_37 ⟨by decide, by decide⟩) (fun r_37 h_37 => ?_)
              subst h_37
              refine lv_lstore_n (lv' := [(3, .long (mx (y2) (M k j))), (0, .ref (x)), (1, .long (h0)), (5, .int (qI (((k : Nat) : Int)))), (6, .int (qI (((j : Nat) : Int))))]) hx hb dX7_withWidest_40 rfl hl (by decide) rfl (fun ls hl => ?_)
              refine q_iinc (k := 4) (lv' := [(6, .int (qI ((((j : Nat) : Int)) + (1)))), (3, .long (mx (y2) (M k j))), (0, .ref (x)), (1, .long (h0)), (5, .int (qI (((k : Nat) : Int))))]) hx hb dX7_withWidest_41 hl rfl (by decide) rfl (fun ls hl => ?_)
              refine lv_goto (tgt := 15) hx hb dX7_withWidest_44 (by decide) ?_
              exact ih_15 (j + 1) _ (by omega) (by omega) (hsh_at (n := 10 * k + j) hy2 (by unfold wdF; rw [show (10 * k + j) / 10 = k by omega, show (10 * k + j) % 10 = j by omega]; exact hF.1 k j (by omega) (by omega))) _ (lv_sub hl [2, 3, 1, 4, 0] rfl)
        exact L_15 (10 + 1) (0) _ (by omega) (by omega) hy _ (lv_sub hl [1, 2, 3, 4, 0] rfl)
  exact L_5 (10 + 1) (0) _ (by omega) (by omega) rfl _ (lv_sub hl [2, 3, 1, 0] rfl)

set_option maxRecDepth 100000 in
set_option maxHeartbeats 4000000 in
theorem c_X7_withBuffer (l : Launch) (D : va_G) (cy : Nat → ClassId) (x la lv9 ls9 fa xh xs la2 lv92 ls92 fb fw bu ta : Nat) (rc re gb oc oe rs rc2 re2 gb2 oc2 oe2 rs2 rr : Nat → Nat) (ad : Nat → Nat → Nat) (kw : Bool) (ln : Nat) (bf : Nat → Int) (hln : ln ≤ 60) (h0 : Int64) : qRd l yX7_withBuffer (.code yX7_withBuffer cX7_withBuffer 6 (some .long)) 2 [.ref (x), .long (h0)] D cy [[(x, .inr (7, [.ref (la), .ref (fa), .ref (xh), .ref (la2), .ref (fb), .ref (fw), .int (qz (kw)), .ref (bu), .int (qI (((ln : Nat) : Int))), .ref (ta)]))], [(bu, aI cy 60 (bf))]] (vp_Sl (fun r => r = hsh bf ln (mx h0 (ln : Int)))) := by
  refine q_ofRl (by decide +kernel) (Nat.le_of_ble_eq_true rfl) ?_
  intro p e s m args below meth c Q hx hb hml hown hg hQ hK hN hP ls hl
  have hown : s.vm.findClass RX7 = some m.cls := hown
  have hl : lv_has ls 6 [(0, .ref (x)), (1, .long (h0))] := hl
  refine lv_lload_n hx hb dX7_withBuffer_0 rfl (lv_at hl 1 rfl) ?_
  refine lv_aload_n hx hb dX7_withBuffer_1 rfl (lv_at hl 0 rfl) ?_
  refine gf_X7_147 hx hb hg hown hK (fl_blk hP 0 rfl) 0 rfl rfl dX7_withBuffer_2 ?_
  refine q_readl (va_runS (As := [.long (h0), .int (qI (((ln : Nat) : Int)))]) (rest := []) ⟨hx, hb, hml, hown, hg⟩ (c_X7_mixed l D cy (h0) (((ln : Nat) : Int))) (cs_X7_218 hg rfl rfl ⟨by decide, by decide⟩) ⟨q_blind0, q_preR _ hK hN hP [] rfl⟩ rfl rfl hl.1 rfl (lv_room (Nat.le_of_ble_eq_true rfl)) dX7_withBuffer_5 ⟨by decide, by decide⟩) (fun r_5 h_5 => ?_)
  subst h_5
  refine lv_lstore_n (lv' := [(3, .long (mx (h0) (((ln : Nat) : Int)))), (0, .ref (x)), (1, .long (h0))]) hx hb dX7_withBuffer_8 rfl hl (by decide) rfl (fun ls hl => ?_)
  refine q_iconst hx hb dX7_withBuffer_9 ?_
  refine lv_istore (lv' := [(5, .int (qI (0))), (3, .long (mx (h0) (((ln : Nat) : Int)))), (0, .ref (x)), (1, .long (h0))]) hx hb dX7_withBuffer_10 hl (by decide) rfl (fun ls hl => ?_)
  have L_12 : ∀ (n_12 k : Nat) (y : Int64), k ≤ ln → ln + 1 ≤ k + n_12 → (y = hsh bf k (mx h0 (ln : Int))) → ∀ (ls : Array Slot), lv_has ls 6 [(0, .ref (x)), (1, .long (h0)), (3, .long (y)), (5, .int (qI (((k : Nat) : Int))))] → W p l e (qrm 2) s m args below meth c s.heap [] 0 0 Q (F0 m 12 ls []) := by
    intro n_12
    induction n_12 with
    | zero => intro k _ h1 h2; exact absurd h2 (by omega)
    | succ n_12 ih_12 =>
      intro k y hk_12 hn_12 hy ls hl
      refine lv_iload hx hb dX7_withBuffer_12 (lv_at hl 3 rfl) ?_
      refine lv_aload_n hx hb dX7_withBuffer_14 rfl (lv_at hl 0 rfl) ?_
      refine gf_X7_147 hx hb hg hown hK (fl_blk hP 0 rfl) 0 rfl rfl dX7_withBuffer_15 ?_
      refine q_icmp_ge (tgt := 39) hx hb dX7_withBuffer_18 (by decide) (by omega) (fun c_18 => ?_) (fun c_18 => ?_)
      · skip
        refine lv_lload_n hx hb dX7_withBuffer_39 rfl (lv_at hl 2 rfl) ?_
        exact hQ _ _ _ (by rw [hy, show k = ln by omega]) dX7_withBuffer_40
      · skip
        refine lv_lload_n hx hb dX7_withBuffer_21 rfl (lv_at hl 2 rfl) ?_
        refine lv_aload_n hx hb dX7_withBuffer_22 rfl (lv_at hl 0 rfl) ?_
        refine gf_X7_40 hx hb hg hown hK (fl_blk hP 0 rfl) 0 rfl rfl dX7_withBuffer_23 ?_
        refine lv_iload hx hb dX7_withBuffer_26 (lv_at hl 3 rfl) ?_
        refine q_iald (j := k) hx hb hK (fl_blk hP 1 rfl) 0 rfl (by omega) dX7_withBuffer_28 ?_
        refine q_readl (va_runS (As := [.long (y), .int (qI (bf k))]) (rest := []) ⟨hx, hb, hml, hown, hg⟩ (c_X7_mixed l D cy (y) (bf k)) (cs_X7_218 hg rfl rfl ⟨by decide, by decide⟩) ⟨q_blind0, q_preR _ hK hN hP [] rfl⟩ rfl rfl hl.1 rfl (lv_room (Nat.le_of_ble_eq_true rfl)) dX7_withBuffer_29 ⟨by decide, by decide⟩) (fun r_29 h_29 => ?_)
        subst h_29
        refine lv_lstore_n (lv' := [(3, .long (mx (y) (bf k))), (0, .ref (x)), (1, .long (h0)), (5, .int (qI (((k : Nat) : Int))))]) hx hb dX7_withBuffer_32 rfl hl (by decide) rfl (fun ls hl => ?_)
        refine q_iinc (k := 3) (lv' := [(5, .int (qI ((((k : Nat) : Int)) + (1)))), (3, .long (mx (y) (bf k))), (0, .ref (x)), (1, .long (h0))]) hx hb dX7_withBuffer_33 hl rfl (by decide) rfl (fun ls hl => ?_)
        refine lv_goto (tgt := 12) hx hb dX7_withBuffer_36 (by decide) ?_
        exact ih_12 (k + 1) _ (by omega) (by omega) (hsh_at hy rfl) _ (lv_sub hl [2, 3, 1, 0] rfl)
  exact L_12 (ln + 1) (0) _ (by omega) (by omega) rfl _ (lv_sub hl [2, 3, 1, 0] rfl)

set_option maxRecDepth 100000 in
set_option maxHeartbeats 4000000 in
theorem c_X7_withConditions (l : Launch) (D : va_G) (cy : Nat → ClassId) (x la lv9 ls9 fa xh xs la2 lv92 ls92 fb fw bu ta : Nat) (rc re gb oc oe rs rc2 re2 gb2 oc2 oe2 rs2 rr : Nat → Nat) (ad : Nat → Nat → Nat) (kw : Bool) (len : Int) (v st : Nat → Int) (C : Nat → Nat → Int) (nc : Nat) (E : Nat → Nat → Int) (ne : Nat) (tt : Int) (M : Nat → Nat → Int) (FC : Nat) (mgC tnC : Nat → Int) (FE : Nat) (mgE tnE : Nat → Int) (hF : fCan C nc E ne (-1) M FC mgC tnC FE mgE) (hE : qWR E ne) (hC : qWR C nc) (he : ne ≤ 16) (hc : nc ≤ 16) (hV : qV v) (hst : ∀ i, i < 10 → 0 ≤ st i ∧ st i ≤ 9) (wo : Nat → Int) (hwo : kWo C nc E ne wo nc) (v2 st2 : Nat → Int) (C2 : Nat → Nat → Int) (n2 : Int) (E2 : Nat → Nat → Int) (m2 : Int) (t1 : Int) (M1 : Nat → Nat → Int) (F1 : Int) (g1 q1 : Nat → Int) (G1 : Int) (e1 y1 : Nat → Int) (h0 : Int64) (sz : Nat) : qMet l yX7_withConditions (.code yX7_withConditions cX7_withConditions 7 (some .long)) 6 [.ref (x), .long (h0)] D cy [[(x, .inr (7, [.ref (la), .ref (fa), .ref (xh), .ref (la2), .ref (fb), .ref (fw), .int (qz (kw)), .ref (bu), .int (qI (len)), .ref (ta)]))], [(la, .inr (3, [.ref (lv9), .ref (ls9), .ref (rc 0), .ref (re 0)]))], [(lv9, aI cy 10 (v))], [(ls9, aI cy 10 (st))], qRu cy rc (C) (((nc : Nat) : Int)), qRu cy re (E) (((ne : Nat) : Int)), [(fa, .inr (1, [.ref (gb 0), .ref (oc 0), .ref (oe 0), .ref (rs 0), .int (qI (tt))]))], qOu cy oc (((FC : Nat) : Int)) (mgC) (tnC), [(fw, aI cy 16 (wo))], [(la2, .inr (3, [.ref (lv92), .ref (ls92), .ref (rc2 0), .ref (re2 0)]))], [(lv92, aI cy 10 (v2))], [(ls92, aI cy 10 (st2))], qRu cy rc2 (C2) (n2), qRu cy re2 (E2) (m2), [(fb, .inr (1, [.ref (gb2 0), .ref (oc2 0), .ref (oe2 0), .ref (rs2 0), .int (qI (t1))]))], qBo cy gb2 (M1), qOu cy oc2 (F1) (g1) (q1), qOu cy oe2 (G1) (e1) (y1)] sz (va_Ql (S := (Nat → Int) × (Nat → Int) × (Nat → Nat → Int) × (Int) × (Nat → Nat → Int) × (Int) × (Int) × (Nat → Nat → Int) × (Int) × (Nat → Int) × (Nat → Int) × (Int) × (Nat → Int) × (Nat → Int)) (fun r u => r = hcn v C nc E ne nc h0) (qB D cy [[(x, .inr (7, [.ref (la), .ref (fa), .ref (xh), .ref (la2), .ref (fb), .ref (fw), .int (qz (kw)), .ref (bu), .int (qI (len)), .ref (ta)]))], [(la, .inr (3, [.ref (lv9), .ref (ls9), .ref (rc 0), .ref (re 0)]))], [(lv9, aI cy 10 (v))], [(ls9, aI cy 10 (st))], qRu cy rc (C) (((nc : Nat) : Int)), qRu cy re (E) (((ne : Nat) : Int)), [(fa, .inr (1, [.ref (gb 0), .ref (oc 0), .ref (oe 0), .ref (rs 0), .int (qI (tt))]))], qOu cy oc (((FC : Nat) : Int)) (mgC) (tnC), [(fw, aI cy 16 (wo))], [(la2, .inr (3, [.ref (lv92), .ref (ls92), .ref (rc2 0), .ref (re2 0)]))], [(lv92, aI cy 10 (v2))], [(ls92, aI cy 10 (st2))], qRu cy rc2 (C2) (n2), qRu cy re2 (E2) (m2), [(fb, .inr (1, [.ref (gb2 0), .ref (oc2 0), .ref (oe2 0), .ref (rs2 0), .int (qI (t1))]))], qBo cy gb2 (M1), qOu cy oc2 (F1) (g1) (q1), qOu cy oe2 (G1) (e1) (y1)] sz (fun u => [[(x, .inr (7, [.ref (la), .ref (fa), .ref (xh), .ref (la2), .ref (fb), .ref (fw), .int (qz (kw)), .ref (bu), .int (qI (len)), .ref (ta)]))], [(la, .inr (3, [.ref (lv9), .ref (ls9), .ref (rc 0), .ref (re 0)]))], [(lv9, aI cy 10 (v))], [(ls9, aI cy 10 (st))], qRu cy rc (C) (((nc : Nat) : Int)), qRu cy re (E) (((ne : Nat) : Int)), [(fa, .inr (1, [.ref (gb 0), .ref (oc 0), .ref (oe 0), .ref (rs 0), .int (qI (tt))]))], qOu cy oc (((FC : Nat) : Int)) (mgC) (tnC), [(fw, aI cy 16 (wo))], [(la2, .inr (3, [.ref (lv92), .ref (ls92), .ref (rc2 0), .ref (re2 0)]))], [(lv92, aI cy 10 (u.1))], [(ls92, aI cy 10 (u.2.1))], qRu cy rc2 (u.2.2.1) (u.2.2.2.1 : Int), qRu cy re2 (u.2.2.2.2.1) (u.2.2.2.2.2.1 : Int), [(fb, .inr (1, [.ref (gb2 0), .ref (oc2 0), .ref (oe2 0), .ref (rs2 0), .int (qI (u.2.2.2.2.2.2.1))]))], qBo cy gb2 (u.2.2.2.2.2.2.2.1), qOu cy oc2 (u.2.2.2.2.2.2.2.2.1 : Int) (u.2.2.2.2.2.2.2.2.2.1) (u.2.2.2.2.2.2.2.2.2.2.1), qOu cy oe2 (u.2.2.2.2.2.2.2.2.2.2.2.1 : Int) (u.2.2.2.2.2.2.2.2.2.2.2.2.1) (u.2.2.2.2.2.2.2.2.2.2.2.2.2)])) (va_A [[(x, .inr (7, [.ref (la), .ref (fa), .ref (xh), .ref (la2), .ref (fb), .ref (fw), .int (qz (kw)), .ref (bu), .int (qI (len)), .ref (ta)]))], [(la, .inr (3, [.ref (lv9), .ref (ls9), .ref (rc 0), .ref (re 0)]))], [(lv9, aI cy 10 (v))], [(ls9, aI cy 10 (st))], qRu cy rc (C) (((nc : Nat) : Int)), qRu cy re (E) (((ne : Nat) : Int)), [(fa, .inr (1, [.ref (gb 0), .ref (oc 0), .ref (oe 0), .ref (rs 0), .int (qI (tt))]))], qOu cy oc (((FC : Nat) : Int)) (mgC) (tnC), [(fw, aI cy 16 (wo))], [(la2, .inr (3, [.ref (lv92), .ref (ls92), .ref (rc2 0), .ref (re2 0)]))], [(lv92, aI cy 10 (v2))], [(ls92, aI cy 10 (st2))], qRu cy rc2 (C2) (n2), qRu cy re2 (E2) (m2), [(fb, .inr (1, [.ref (gb2 0), .ref (oc2 0), .ref (oe2 0), .ref (rs2 0), .int (qI (t1))]))], qBo cy gb2 (M1), qOu cy oc2 (F1) (g1) (q1), qOu cy oe2 (G1) (e1) (y1)].flatten sz)) := by
  refine q_ofMl (S := (Nat → Int) × (Nat → Int) × (Nat → Nat → Int) × (Int) × (Nat → Nat → Int) × (Int) × (Int) × (Nat → Nat → Int) × (Int) × (Nat → Int) × (Nat → Int) × (Int) × (Nat → Int) × (Nat → Int)) (b1 := fun u => [[(x, .inr (7, [.ref (la), .ref (fa), .ref (xh), .ref (la2), .ref (fb), .ref (fw), .int (qz (kw)), .ref (bu), .int (qI (len)), .ref (ta)]))], [(la, .inr (3, [.ref (lv9), .ref (ls9), .ref (rc 0), .ref (re 0)]))], [(lv9, aI cy 10 (v))], [(ls9, aI cy 10 (st))], qRu cy rc (C) (((nc : Nat) : Int)), qRu cy re (E) (((ne : Nat) : Int)), [(fa, .inr (1, [.ref (gb 0), .ref (oc 0), .ref (oe 0), .ref (rs 0), .int (qI (tt))]))], qOu cy oc (((FC : Nat) : Int)) (mgC) (tnC), [(fw, aI cy 16 (wo))], [(la2, .inr (3, [.ref (lv92), .ref (ls92), .ref (rc2 0), .ref (re2 0)]))], [(lv92, aI cy 10 (u.1))], [(ls92, aI cy 10 (u.2.1))], qRu cy rc2 (u.2.2.1) (u.2.2.2.1 : Int), qRu cy re2 (u.2.2.2.2.1) (u.2.2.2.2.2.1 : Int), [(fb, .inr (1, [.ref (gb2 0), .ref (oc2 0), .ref (oe2 0), .ref (rs2 0), .int (qI (u.2.2.2.2.2.2.1))]))], qBo cy gb2 (u.2.2.2.2.2.2.2.1), qOu cy oc2 (u.2.2.2.2.2.2.2.2.1 : Int) (u.2.2.2.2.2.2.2.2.2.1) (u.2.2.2.2.2.2.2.2.2.2.1), qOu cy oe2 (u.2.2.2.2.2.2.2.2.2.2.2.1 : Int) (u.2.2.2.2.2.2.2.2.2.2.2.2.1) (u.2.2.2.2.2.2.2.2.2.2.2.2.2)]) (post := fun r u => r = hcn v C nc E ne nc h0) (by decide +kernel) (Nat.le_of_ble_eq_true rfl) ?_
  intro p e s m args below meth c Q A hx hb hml hown hg hQ hK hN hD hA H locs ls hP hS hl
  have hown : s.vm.findClass RX7 = some m.cls := hown
  have hl : lv_has ls 7 [(0, .ref (x)), (1, .long (h0))] := hl
  refine lv_lload_n hx hb dX7_withConditions_0 rfl (lv_at hl 1 rfl) ?_
  refine lv_lstore_n (lv' := [(3, .long (h0)), (0, .ref (x)), (1, .long (h0))]) hx hb dX7_withConditions_1 rfl hl (by decide) rfl (fun ls hl => ?_)
  refine q_iconst hx hb dX7_withConditions_2 ?_
  refine lv_istore (lv' := [(5, .int (qI (0))), (3, .long (h0)), (0, .ref (x)), (1, .long (h0))]) hx hb dX7_withConditions_3 hl (by decide) rfl (fun ls hl => ?_)
  have L_5 : ∀ (n_5 k : Nat) (y : Int64) (w1 : Nat → Int) (w2 : Nat → Int) (C1 : Nat → Nat → Int) (n1 : Int) (E1 : Nat → Nat → Int) (m1 : Int) (t19 : Int) (M19 : Nat → Nat → Int) (F19 : Int) (g19 : Nat → Int) (q19 : Nat → Int) (G19 : Int) (e19 : Nat → Int) (y19 : Nat → Int), k ≤ nc → nc + 1 ≤ k + n_5 → (y = hcn v C nc E ne k h0) → ∀ (H : Heap) (locs : List Loc) (ls : Array Slot), va_P D vwCl [[(x, .inr (7, [.ref (la), .ref (fa), .ref (xh), .ref (la2), .ref (fb), .ref (fw), .int (qz (kw)), .ref (bu), .int (qI (len)), .ref (ta)]))], [(la, .inr (3, [.ref (lv9), .ref (ls9), .ref (rc 0), .ref (re 0)]))], [(lv9, aI cy 10 (v))], [(ls9, aI cy 10 (st))], qRu cy rc (C) (((nc : Nat) : Int)), qRu cy re (E) (((ne : Nat) : Int)), [(fa, .inr (1, [.ref (gb 0), .ref (oc 0), .ref (oe 0), .ref (rs 0), .int (qI (tt))]))], qOu cy oc (((FC : Nat) : Int)) (mgC) (tnC), [(fw, aI cy 16 (wo))], [(la2, .inr (3, [.ref (lv92), .ref (ls92), .ref (rc2 0), .ref (re2 0)]))], [(lv92, aI cy 10 (w1))], [(ls92, aI cy 10 (w2))], qRu cy rc2 (C1) (n1), qRu cy re2 (E1) (m1), [(fb, .inr (1, [.ref (gb2 0), .ref (oc2 0), .ref (oe2 0), .ref (rs2 0), .int (qI (t19))]))], qBo cy gb2 (M19), qOu cy oc2 (F19) (g19) (q19), qOu cy oe2 (G19) (e19) (y19)].flatten H → va_D A [[(x, .inr (7, [.ref (la), .ref (fa), .ref (xh), .ref (la2), .ref (fb), .ref (fw), .int (qz (kw)), .ref (bu), .int (qI (len)), .ref (ta)]))], [(la, .inr (3, [.ref (lv9), .ref (ls9), .ref (rc 0), .ref (re 0)]))], [(lv9, aI cy 10 (v))], [(ls9, aI cy 10 (st))], qRu cy rc (C) (((nc : Nat) : Int)), qRu cy re (E) (((ne : Nat) : Int)), [(fa, .inr (1, [.ref (gb 0), .ref (oc 0), .ref (oe 0), .ref (rs 0), .int (qI (tt))]))], qOu cy oc (((FC : Nat) : Int)) (mgC) (tnC), [(fw, aI cy 16 (wo))], [(la2, .inr (3, [.ref (lv92), .ref (ls92), .ref (rc2 0), .ref (re2 0)]))], [(lv92, aI cy 10 (w1))], [(ls92, aI cy 10 (w2))], qRu cy rc2 (C1) (n1), qRu cy re2 (E1) (m1), [(fb, .inr (1, [.ref (gb2 0), .ref (oc2 0), .ref (oe2 0), .ref (rs2 0), .int (qI (t19))]))], qBo cy gb2 (M19), qOu cy oc2 (F19) (g19) (q19), qOu cy oe2 (G19) (e19) (y19)].flatten → va_S A s.heap H locs → lv_has ls 7 [(0, .ref (x)), (1, .long (h0)), (3, .long (y)), (5, .int (qI (((k : Nat) : Int))))] → W p l e (qrm 6) s m args below meth c H locs 0 0 Q (F0 m 5 ls []) := by
    intro n_5
    induction n_5 with
    | zero => intro k _ _ _ _ _ _ _ _ _ _ _ _ _ _ _ h1 h2; exact absurd h2 (by omega)
    | succ n_5 ih_5 =>
      intro k y w1 w2 C1 n1 E1 m1 t19 M19 F19 g19 q19 G19 e19 y19 hk_5 hn_5 hy H locs ls hP hD hS hl
      refine lv_iload hx hb dX7_withConditions_5 (lv_at hl 3 rfl) ?_
      refine lv_aload_n hx hb dX7_withConditions_7 rfl (lv_at hl 0 rfl) ?_
      refine gf_X7_12 hx hb hg hown hK (fl_blk hP 0 rfl) 0 rfl rfl dX7_withConditions_8 ?_
      refine gf_X7_71 hx hb hg hown hK (fl_blk hP 1 rfl) 0 rfl rfl dX7_withConditions_11 ?_
      refine gf_X7_75 hx hb hg hown hK (fl_blk hP 4 rfl) 0 rfl rfl dX7_withConditions_14 ?_
      refine q_icmp_ge (tgt := 81) hx hb dX7_withConditions_17 (by decide) (by omega) (fun c_17 => ?_) (fun c_17 => ?_)
      · skip
        refine lv_lload_n hx hb dX7_withConditions_81 rfl (lv_at hl 2 rfl) ?_
        exact hQ _ _ _ _ _ (w1, w2, C1, (n1), E1, (m1), t19, M19, F19, g19, q19, G19, e19, y19) (by rw [hy, show k = nc by omega]) hP hD hS dX7_withConditions_82
      · skip
        refine q_iconst hx hb dX7_withConditions_20 ?_
        refine lv_istore (lv' := [(6, .int (qI (0))), (0, .ref (x)), (1, .long (h0)), (3, .long (y)), (5, .int (qI (((k : Nat) : Int))))]) hx hb dX7_withConditions_21 hl (by decide) rfl (fun ls hl => ?_)
        have L_23 : ∀ (n_23 j : Nat) (y2 : Int64), j ≤ 10 → 10 + 1 ≤ j + n_23 → (y2 = hsh (fun w => coA v C nc E ne k (w : Int)) j y) → ∀ (H : Heap) (locs : List Loc) (ls : Array Slot), va_P D vwCl [[(x, .inr (7, [.ref (la), .ref (fa), .ref (xh), .ref (la2), .ref (fb), .ref (fw), .int (qz (kw)), .ref (bu), .int (qI (len)), .ref (ta)]))], [(la, .inr (3, [.ref (lv9), .ref (ls9), .ref (rc 0), .ref (re 0)]))], [(lv9, aI cy 10 (v))], [(ls9, aI cy 10 (st))], qRu cy rc (C) (((nc : Nat) : Int)), qRu cy re (E) (((ne : Nat) : Int)), [(fa, .inr (1, [.ref (gb 0), .ref (oc 0), .ref (oe 0), .ref (rs 0), .int (qI (tt))]))], qOu cy oc (((FC : Nat) : Int)) (mgC) (tnC), [(fw, aI cy 16 (wo))], [(la2, .inr (3, [.ref (lv92), .ref (ls92), .ref (rc2 0), .ref (re2 0)]))], [(lv92, aI cy 10 (w1))], [(ls92, aI cy 10 (w2))], qRu cy rc2 (C1) (n1), qRu cy re2 (E1) (m1), [(fb, .inr (1, [.ref (gb2 0), .ref (oc2 0), .ref (oe2 0), .ref (rs2 0), .int (qI (t19))]))], qBo cy gb2 (M19), qOu cy oc2 (F19) (g19) (q19), qOu cy oe2 (G19) (e19) (y19)].flatten H → va_D A [[(x, .inr (7, [.ref (la), .ref (fa), .ref (xh), .ref (la2), .ref (fb), .ref (fw), .int (qz (kw)), .ref (bu), .int (qI (len)), .ref (ta)]))], [(la, .inr (3, [.ref (lv9), .ref (ls9), .ref (rc 0), .ref (re 0)]))], [(lv9, aI cy 10 (v))], [(ls9, aI cy 10 (st))], qRu cy rc (C) (((nc : Nat) : Int)), qRu cy re (E) (((ne : Nat) : Int)), [(fa, .inr (1, [.ref (gb 0), .ref (oc 0), .ref (oe 0), .ref (rs 0), .int (qI (tt))]))], qOu cy oc (((FC : Nat) : Int)) (mgC) (tnC), [(fw, aI cy 16 (wo))], [(la2, .inr (3, [.ref (lv92), .ref (ls92), .ref (rc2 0), .ref (re2 0)]))], [(lv92, aI cy 10 (w1))], [(ls92, aI cy 10 (w2))], qRu cy rc2 (C1) (n1), qRu cy re2 (E1) (m1), [(fb, .inr (1, [.ref (gb2 0), .ref (oc2 0), .ref (oe2 0), .ref (rs2 0), .int (qI (t19))]))], qBo cy gb2 (M19), qOu cy oc2 (F19) (g19) (q19), qOu cy oe2 (G19) (e19) (y19)].flatten → va_S A s.heap H locs → lv_has ls 7 [(0, .ref (x)), (1, .long (h0)), (3, .long (y2)), (5, .int (qI (((k : Nat) : Int)))), (6, .int (qI (((j : Nat) : Int))))] → W p l e (qrm 6) s m args below meth c H locs 0 0 Q (F0 m 23 ls []) := by
          intro n_23
          induction n_23 with
          | zero => intro j _ h1 h2; exact absurd h2 (by omega)
          | succ n_23 ih_23 =>
            intro j y2 hk_23 hn_23 hy2 H locs ls hP hD hS hl
            refine lv_iload hx hb dX7_withConditions_23 (lv_at hl 4 rfl) ?_
            refine q_bipush hx hb dX7_withConditions_25 (by decide) ?_
            refine q_icmp_ge (tgt := 49) hx hb dX7_withConditions_27 (by decide) (by omega) (fun c_27 => ?_) (fun c_27 => ?_)
            · skip
              refine lv_lload_n hx hb dX7_withConditions_49 rfl (lv_at hl 2 rfl) ?_
              refine lv_aload_n hx hb dX7_withConditions_50 rfl (lv_at hl 0 rfl) ?_
              refine gf_X7_36 hx hb hg hown hK (fl_blk hP 0 rfl) 0 rfl rfl dX7_withConditions_51 ?_
              refine lv_iload hx hb dX7_withConditions_54 (lv_at hl 3 rfl) ?_
              refine q_iald (j := k) hx hb hK (fl_blk hP 8 rfl) 0 rfl (by omega) dX7_withConditions_56 ?_
              obtain ⟨Fw, e9, f9, g9⟩ := hwo k (by omega)
              refine q_topZ (y := ((Fw : Nat) : Int)) e9 ?_
              refine q_readi (va_runS (As := [.int (qI (((Fw : Nat) : Int)))]) (rest := [.long (y2)]) ⟨hx, hb, hml, hown, hg⟩ (c_J6_bitCount_0f7a4 l D cy _ Fw (by omega) f9) (cs_X7_204 hg rfl rfl ⟨by decide, by decide⟩) ⟨q_blind0, q_preR _ hK hN hP [] rfl⟩ rfl rfl hl.1 rfl (lv_room (Nat.le_of_ble_eq_true rfl)) dX7_withConditions_57 ⟨by decide, by decide⟩) (fun r_57 h_57 => ?_)
              subst h_57
              refine q_topZ (y := rmA C nc E ne k) (by unfold rmA; rw [funext g9]) ?_
              refine q_readl (va_runS (As := [.long (y2), .int (qI (rmA C nc E ne k))]) (rest := []) ⟨hx, hb, hml, hown, hg⟩ (c_X7_mixed l D cy (y2) (rmA C nc E ne k)) (cs_X7_218 hg rfl rfl ⟨by decide, by decide⟩) ⟨q_blind0, q_preR _ hK hN hP [] rfl⟩ rfl rfl hl.1 rfl (lv_room (Nat.le_of_ble_eq_true rfl)) dX7_withConditions_60 ⟨by decide, by decide⟩) (fun r_60 h_60 => ?_)
              subst h_60
              refine lv_lstore_n (lv' := [(3, .long (mx (y2) (rmA C nc E ne k))), (0, .ref (x)), (1, .long (h0)), (5, .int (qI (((k : Nat) : Int)))), (6, .int (qI (((j : Nat) : Int))))]) hx hb dX7_withConditions_63 rfl hl (by decide) rfl (fun ls hl => ?_)
              refine lv_lload_n hx hb dX7_withConditions_64 rfl (lv_at hl 0 rfl) ?_
              refine lv_aload_n hx hb dX7_withConditions_65 rfl (lv_at hl 1 rfl) ?_
              refine lv_iload hx hb dX7_withConditions_66 (lv_at hl 3 rfl) ?_
              refine q_backi [0, 1, 2, 3, 4, 5, 9, 10, 11, 12, 13, 14, 15, 16, 17] [6, 7, 8] (br := [[(fa, .inr (1, [.ref (gb 0), .ref (oc 0), .ref (oe 0), .ref (rs 0), .int (qI (tt))]))], qOu cy oc (((FC : Nat) : Int)) (mgC) (tnC), [(fw, aI cy 16 (wo))]]) hP hD hS hA (va_runV (As := [.int (qI (((k : Nat) : Int)))]) (rest := [.long (mx (y2) (rmA C nc E ne k))]) ⟨hx, hb, hml, hown, hg⟩ (c_X7_leastFillingStrength l D cy x la lv9 ls9 fa xh xs la2 lv92 ls92 fb fw bu ta rc re gb oc oe rs rc2 re2 gb2 oc2 oe2 rs2 rr ad (kw) (len) v st C nc E ne hE hC he hc (w1) (w2) (C1) (n1) (E1) (m1) (t19) (M19) (F19) (g19) (q19) (G19) (e19) (y19) _ k (by omega) _) (cv_X7_209 hg rfl rfl ⟨by decide, by decide⟩) ⟨q_blind, va_recv hK (fl_blk hP 0 rfl) (ci := 7) (q0 := 0) rfl rfl, q_preM _ hK hN hP hD [0, 1, 2, 3, 4, 5, 9, 10, 11, 12, 13, 14, 15, 16, 17] (by decide) rfl⟩ rfl rfl hl.1 rfl (lv_room (Nat.le_of_ble_eq_true rfl)) dX7_withConditions_68 ⟨by decide, by decide⟩) rfl rfl (by decide) (fun r_68 u_68 H locs h_68 hP hD hS => ?_)
              have hP : va_P D vwCl [[(fa, .inr (1, [.ref (gb 0), .ref (oc 0), .ref (oe 0), .ref (rs 0), .int (qI (tt))]))], qOu cy oc (((FC : Nat) : Int)) (mgC) (tnC), [(fw, aI cy 16 (wo))], [(x, .inr (7, [.ref (la), .ref (fa), .ref (xh), .ref (la2), .ref (fb), .ref (fw), .int (qz (kw)), .ref (bu), .int (qI (len)), .ref (ta)]))], [(la, .inr (3, [.ref (lv9), .ref (ls9), .ref (rc 0), .ref (re 0)]))], [(lv9, aI cy 10 (v))], [(ls9, aI cy 10 (st))], qRu cy rc (C) (((nc : Nat) : Int)), qRu cy re (E) (((ne : Nat) : Int)), [(la2, .inr (3, [.ref (lv92), .ref (ls92), .ref (rc2 0), .ref (re2 0)]))], [(lv92, aI cy 10 (u_68.1))], [(ls92, aI cy 10 (u_68.2.1))], qRu cy rc2 (u_68.2.2.1) (u_68.2.2.2.1 : Int), qRu cy re2 (u_68.2.2.2.2.1) (u_68.2.2.2.2.2.1 : Int), [(fb, .inr (1, [.ref (gb2 0), .ref (oc2 0), .ref (oe2 0), .ref (rs2 0), .int (qI (u_68.2.2.2.2.2.2.1))]))], qBo cy gb2 (u_68.2.2.2.2.2.2.2.1), qOu cy oc2 (u_68.2.2.2.2.2.2.2.2.1 : Int) (u_68.2.2.2.2.2.2.2.2.2.1) (u_68.2.2.2.2.2.2.2.2.2.2.1), qOu cy oe2 (u_68.2.2.2.2.2.2.2.2.2.2.2.1 : Int) (u_68.2.2.2.2.2.2.2.2.2.2.2.2.1) (u_68.2.2.2.2.2.2.2.2.2.2.2.2.2)].flatten H := hP
              have hD : va_D A [[(fa, .inr (1, [.ref (gb 0), .ref (oc 0), .ref (oe 0), .ref (rs 0), .int (qI (tt))]))], qOu cy oc (((FC : Nat) : Int)) (mgC) (tnC), [(fw, aI cy 16 (wo))], [(x, .inr (7, [.ref (la), .ref (fa), .ref (xh), .ref (la2), .ref (fb), .ref (fw), .int (qz (kw)), .ref (bu), .int (qI (len)), .ref (ta)]))], [(la, .inr (3, [.ref (lv9), .ref (ls9), .ref (rc 0), .ref (re 0)]))], [(lv9, aI cy 10 (v))], [(ls9, aI cy 10 (st))], qRu cy rc (C) (((nc : Nat) : Int)), qRu cy re (E) (((ne : Nat) : Int)), [(la2, .inr (3, [.ref (lv92), .ref (ls92), .ref (rc2 0), .ref (re2 0)]))], [(lv92, aI cy 10 (u_68.1))], [(ls92, aI cy 10 (u_68.2.1))], qRu cy rc2 (u_68.2.2.1) (u_68.2.2.2.1 : Int), qRu cy re2 (u_68.2.2.2.2.1) (u_68.2.2.2.2.2.1 : Int), [(fb, .inr (1, [.ref (gb2 0), .ref (oc2 0), .ref (oe2 0), .ref (rs2 0), .int (qI (u_68.2.2.2.2.2.2.1))]))], qBo cy gb2 (u_68.2.2.2.2.2.2.2.1), qOu cy oc2 (u_68.2.2.2.2.2.2.2.2.1 : Int) (u_68.2.2.2.2.2.2.2.2.2.1) (u_68.2.2.2.2.2.2.2.2.2.2.1), qOu cy oe2 (u_68.2.2.2.2.2.2.2.2.2.2.2.1 : Int) (u_68.2.2.2.2.2.2.2.2.2.2.2.2.1) (u_68.2.2.2.2.2.2.2.2.2.2.2.2.2)].flatten := hD
              obtain ⟨rfl, h_68⟩ := h_68
              refine q_readl (va_runS (As := [.long (mx (y2) (rmA C nc E ne k)), .int (qI (nsA C nc E ne k))]) (rest := []) ⟨hx, hb, hml, hown, hg⟩ (c_X7_mixed l D cy (mx (y2) (rmA C nc E ne k)) (nsA C nc E ne k)) (cs_X7_218 hg rfl rfl ⟨by decide, by decide⟩) ⟨q_blind0, q_preR _ hK hN hP [] rfl⟩ rfl rfl hl.1 rfl (lv_room (Nat.le_of_ble_eq_true rfl)) dX7_withConditions_71 ⟨by decide, by decide⟩) (fun r_71 h_71 => ?_)
              subst h_71
              refine lv_lstore_n (lv' := [(3, .long (mx (mx (y2) (rmA C nc E ne k)) (nsA C nc E ne k))), (0, .ref (x)), (1, .long (h0)), (5, .int (qI (((k : Nat) : Int)))), (6, .int (qI (((j : Nat) : Int))))]) hx hb dX7_withConditions_74 rfl hl (by decide) rfl (fun ls hl => ?_)
              refine q_iinc (k := 3) (lv' := [(5, .int (qI ((((k : Nat) : Int)) + (1)))), (3, .long (mx (mx (y2) (rmA C nc E ne k)) (nsA C nc E ne k))), (0, .ref (x)), (1, .long (h0)), (6, .int (qI (((j : Nat) : Int))))]) hx hb dX7_withConditions_75 hl rfl (by decide) rfl (fun ls hl => ?_)
              refine lv_goto (tgt := 5) hx hb dX7_withConditions_78 (by decide) ?_
              have hP := fl_sub (bs' := [[(x, .inr (7, [.ref (la), .ref (fa), .ref (xh), .ref (la2), .ref (fb), .ref (fw), .int (qz (kw)), .ref (bu), .int (qI (len)), .ref (ta)]))], [(la, .inr (3, [.ref (lv9), .ref (ls9), .ref (rc 0), .ref (re 0)]))], [(lv9, aI cy 10 (v))], [(ls9, aI cy 10 (st))], qRu cy rc (C) (((nc : Nat) : Int)), qRu cy re (E) (((ne : Nat) : Int)), [(fa, .inr (1, [.ref (gb 0), .ref (oc 0), .ref (oe 0), .ref (rs 0), .int (qI (tt))]))], qOu cy oc (((FC : Nat) : Int)) (mgC) (tnC), [(fw, aI cy 16 (wo))], [(la2, .inr (3, [.ref (lv92), .ref (ls92), .ref (rc2 0), .ref (re2 0)]))], [(lv92, aI cy 10 (u_68.1))], [(ls92, aI cy 10 (u_68.2.1))], qRu cy rc2 (u_68.2.2.1) (u_68.2.2.2.1 : Int), qRu cy re2 (u_68.2.2.2.2.1) (u_68.2.2.2.2.2.1 : Int), [(fb, .inr (1, [.ref (gb2 0), .ref (oc2 0), .ref (oe2 0), .ref (rs2 0), .int (qI (u_68.2.2.2.2.2.2.1))]))], qBo cy gb2 (u_68.2.2.2.2.2.2.2.1), qOu cy oc2 (u_68.2.2.2.2.2.2.2.2.1 : Int) (u_68.2.2.2.2.2.2.2.2.2.1) (u_68.2.2.2.2.2.2.2.2.2.2.1), qOu cy oe2 (u_68.2.2.2.2.2.2.2.2.2.2.2.1 : Int) (u_68.2.2.2.2.2.2.2.2.2.2.2.2.1) (u_68.2.2.2.2.2.2.2.2.2.2.2.2.2)]) hP [3, 4, 5, 6, 7, 8, 0, 1, 2, 9, 10, 11, 12, 13, 14, 15, 16, 17] rfl
              have hD := fl_subD (bs' := [[(x, .inr (7, [.ref (la), .ref (fa), .ref (xh), .ref (la2), .ref (fb), .ref (fw), .int (qz (kw)), .ref (bu), .int (qI (len)), .ref (ta)]))], [(la, .inr (3, [.ref (lv9), .ref (ls9), .ref (rc 0), .ref (re 0)]))], [(lv9, aI cy 10 (v))], [(ls9, aI cy 10 (st))], qRu cy rc (C) (((nc : Nat) : Int)), qRu cy re (E) (((ne : Nat) : Int)), [(fa, .inr (1, [.ref (gb 0), .ref (oc 0), .ref (oe 0), .ref (rs 0), .int (qI (tt))]))], qOu cy oc (((FC : Nat) : Int)) (mgC) (tnC), [(fw, aI cy 16 (wo))], [(la2, .inr (3, [.ref (lv92), .ref (ls92), .ref (rc2 0), .ref (re2 0)]))], [(lv92, aI cy 10 (u_68.1))], [(ls92, aI cy 10 (u_68.2.1))], qRu cy rc2 (u_68.2.2.1) (u_68.2.2.2.1 : Int), qRu cy re2 (u_68.2.2.2.2.1) (u_68.2.2.2.2.2.1 : Int), [(fb, .inr (1, [.ref (gb2 0), .ref (oc2 0), .ref (oe2 0), .ref (rs2 0), .int (qI (u_68.2.2.2.2.2.2.1))]))], qBo cy gb2 (u_68.2.2.2.2.2.2.2.1), qOu cy oc2 (u_68.2.2.2.2.2.2.2.2.1 : Int) (u_68.2.2.2.2.2.2.2.2.2.1) (u_68.2.2.2.2.2.2.2.2.2.2.1), qOu cy oe2 (u_68.2.2.2.2.2.2.2.2.2.2.2.1 : Int) (u_68.2.2.2.2.2.2.2.2.2.2.2.2.1) (u_68.2.2.2.2.2.2.2.2.2.2.2.2.2)]) hD [3, 4, 5, 6, 7, 8, 0, 1, 2, 9, 10, 11, 12, 13, 14, 15, 16, 17] (by decide) rfl
              exact ih_5 (k + 1) _ _ _ _ _ _ _ _ _ _ _ _ _ _ _ (by omega) (by omega) (by rw [hy2, show j = 10 by omega, hy]; rfl) _ _ _ hP hD hS (lv_sub hl [2, 3, 1, 0] rfl)
            · skip
              refine lv_lload_n hx hb dX7_withConditions_30 rfl (lv_at hl 2 rfl) ?_
              refine lv_aload_n hx hb dX7_withConditions_31 rfl (lv_at hl 0 rfl) ?_
              refine lv_iload hx hb dX7_withConditions_32 (lv_at hl 3 rfl) ?_
              refine lv_iload hx hb dX7_withConditions_34 (lv_at hl 4 rfl) ?_
              refine q_readi (va_runV (As := [.int (qI (((k : Nat) : Int))), .int (qI (((j : Nat) : Int)))]) (rest := [.long (y2)]) ⟨hx, hb, hml, hown, hg⟩ (c_X7_conditionProperty l D cy x la lv9 ls9 fa xh xs la2 lv92 ls92 fb fw bu ta rc re gb oc oe rs rc2 re2 gb2 oc2 oe2 rs2 rr ad (kw) (len) v st C nc E ne tt M FC mgC tnC FE mgE tnE hF hE hC he hc hV hst (((j : Nat) : Int)) wo (fun _ => hwo) _ k (by omega) (by omega)) (cv_X7_176 hg rfl rfl ⟨by decide, by decide⟩) ⟨q_blind0, va_recv hK (fl_blk hP 0 rfl) (ci := 7) (q0 := 0) rfl rfl, q_preR _ hK hN hP [0, 1, 2, 4, 6, 7, 8] rfl⟩ rfl rfl hl.1 rfl (lv_room (Nat.le_of_ble_eq_true rfl)) dX7_withConditions_36 ⟨by decide, by decide⟩) (fun r_36 h_36 => ?_)
              subst h_36
              refine q_readl (va_runS (As := [.long (y2), .int (qI (coA v C nc E ne k (((j : Nat) : Int))))]) (rest := []) ⟨hx, hb, hml, hown, hg⟩ (c_X7_mixed l D cy (y2) (coA v C nc E ne k (((j : Nat) : Int)))) (cs_X7_218 hg rfl rfl ⟨by decide, by decide⟩) ⟨q_blind0, q_preR _ hK hN hP [] rfl⟩ rfl rfl hl.1 rfl (lv_room (Nat.le_of_ble_eq_true rfl)) dX7_withConditions_39 ⟨by decide, by decide⟩) (fun r_39 h_39 => ?_)
              subst h_39
              refine lv_lstore_n (lv' := [(3, .long (mx (y2) (coA v C nc E ne k (((j : Nat) : Int))))), (0, .ref (x)), (1, .long (h0)), (5, .int (qI (((k : Nat) : Int)))), (6, .int (qI (((j : Nat) : Int))))]) hx hb dX7_withConditions_42 rfl hl (by decide) rfl (fun ls hl => ?_)
              refine q_iinc (k := 4) (lv' := [(6, .int (qI ((((j : Nat) : Int)) + (1)))), (3, .long (mx (y2) (coA v C nc E ne k (((j : Nat) : Int))))), (0, .ref (x)), (1, .long (h0)), (5, .int (qI (((k : Nat) : Int))))]) hx hb dX7_withConditions_43 hl rfl (by decide) rfl (fun ls hl => ?_)
              refine lv_goto (tgt := 23) hx hb dX7_withConditions_46 (by decide) ?_
              exact ih_23 (j + 1) _ (by omega) (by omega) (hsh_at hy2 rfl) _ _ _ hP hD hS (lv_sub hl [2, 3, 1, 4, 0] rfl)
        exact L_23 (10 + 1) (0) _ (by omega) (by omega) rfl _ _ _ hP hD hS (lv_sub hl [1, 2, 3, 4, 0] rfl)
  exact L_5 (nc + 1) (0) _ _ _ _ _ _ _ _ _ _ _ _ _ _ _ (by omega) (by omega) rfl _ _ _ hP hD hS (lv_sub hl [2, 3, 1, 0] rfl)

set_option maxRecDepth 100000 in
set_option maxHeartbeats 4000000 in
theorem c_X7_digest (l : Launch) (D : va_G) (cy : Nat → ClassId) (x la lv9 ls9 fa xh xs la2 lv92 ls92 fb fw bu ta : Nat) (rc re gb oc oe rs rc2 re2 gb2 oc2 oe2 rs2 rr : Nat → Nat) (ad : Nat → Nat → Nat) (kw : Bool) (ln : Nat) (v st : Nat → Int) (C : Nat → Nat → Int) (nc : Nat) (E : Nat → Nat → Int) (ne : Nat) (tt : Int) (M : Nat → Nat → Int) (FC : Nat) (mgC tnC : Nat → Int) (FE : Nat) (mgE tnE : Nat → Int) (hF : fCan C nc E ne (-1) M FC mgC tnC FE mgE) (hE : qWR E ne) (hC : qWR C nc) (he : ne ≤ 16) (hc : nc ≤ 16) (hV : qV v) (hst : ∀ i, i < 10 → 0 ≤ st i ∧ st i ≤ 9) (nx hz : Nat) (Z : Nat → LSt) (wo : Nat → Int) (hkw : kw = true → kWo C nc E ne wo nc) (v2 st2 : Nat → Int) (C2 : Nat → Nat → Int) (n2 : Int) (E2 : Nat → Nat → Int) (m2 : Int) (t1 : Int) (M1 : Nat → Nat → Int) (F1 : Int) (g1 q1 : Nat → Int) (G1 : Int) (e1 y1 : Nat → Int) (bf : Nat → Int) (hln : ln ≤ 60) (sz : Nat) : qMet l yX7_digest (.code yX7_digest cX7_digest 4 (some .long)) 7 [.ref (x)] D cy [[(x, .inr (7, [.ref (la), .ref (fa), .ref (xh), .ref (la2), .ref (fb), .ref (fw), .int (qz (kw)), .ref (bu), .int (qI (((ln : Nat) : Int))), .ref (ta)]))], [(la, .inr (3, [.ref (lv9), .ref (ls9), .ref (rc 0), .ref (re 0)]))], [(lv9, aI cy 10 (v))], [(ls9, aI cy 10 (st))], qRu cy rc (C) (((nc : Nat) : Int)), qRu cy re (E) (((ne : Nat) : Int)), [(fa, .inr (1, [.ref (gb 0), .ref (oc 0), .ref (oe 0), .ref (rs 0), .int (qI (tt))]))], qBo cy gb (M), qOu cy oc (((FC : Nat) : Int)) (mgC) (tnC), qOu cy oe (((FE : Nat) : Int)) (mgE) (tnE), qHi cy xh xs ad nx hz Z, [(fw, aI cy 16 (wo))], [(la2, .inr (3, [.ref (lv92), .ref (ls92), .ref (rc2 0), .ref (re2 0)]))], [(lv92, aI cy 10 (v2))], [(ls92, aI cy 10 (st2))], qRu cy rc2 (C2) (n2), qRu cy re2 (E2) (m2), [(fb, .inr (1, [.ref (gb2 0), .ref (oc2 0), .ref (oe2 0), .ref (rs2 0), .int (qI (t1))]))], qBo cy gb2 (M1), qOu cy oc2 (F1) (g1) (q1), qOu cy oe2 (G1) (e1) (y1), [(bu, aI cy 60 (bf))]] sz (va_Ql (S := ((Nat → Int) × (Nat → Int) × (Nat → Nat → Int) × (Int) × (Nat → Nat → Int) × (Int) × (Int) × (Nat → Nat → Int) × (Int) × (Nat → Int) × (Nat → Int) × (Int) × (Nat → Int) × (Nat → Int)) × (Nat → Int)) (fun r u => r = dgA v st C nc E ne hz bf ln ∧ kWo C nc E ne u.2 nc) (qB D cy [[(x, .inr (7, [.ref (la), .ref (fa), .ref (xh), .ref (la2), .ref (fb), .ref (fw), .int (qz (kw)), .ref (bu), .int (qI (((ln : Nat) : Int))), .ref (ta)]))], [(la, .inr (3, [.ref (lv9), .ref (ls9), .ref (rc 0), .ref (re 0)]))], [(lv9, aI cy 10 (v))], [(ls9, aI cy 10 (st))], qRu cy rc (C) (((nc : Nat) : Int)), qRu cy re (E) (((ne : Nat) : Int)), [(fa, .inr (1, [.ref (gb 0), .ref (oc 0), .ref (oe 0), .ref (rs 0), .int (qI (tt))]))], qBo cy gb (M), qOu cy oc (((FC : Nat) : Int)) (mgC) (tnC), qOu cy oe (((FE : Nat) : Int)) (mgE) (tnE), qHi cy xh xs ad nx hz Z, [(fw, aI cy 16 (wo))], [(la2, .inr (3, [.ref (lv92), .ref (ls92), .ref (rc2 0), .ref (re2 0)]))], [(lv92, aI cy 10 (v2))], [(ls92, aI cy 10 (st2))], qRu cy rc2 (C2) (n2), qRu cy re2 (E2) (m2), [(fb, .inr (1, [.ref (gb2 0), .ref (oc2 0), .ref (oe2 0), .ref (rs2 0), .int (qI (t1))]))], qBo cy gb2 (M1), qOu cy oc2 (F1) (g1) (q1), qOu cy oe2 (G1) (e1) (y1), [(bu, aI cy 60 (bf))]] sz (fun u => [[(x, .inr (7, [.ref (la), .ref (fa), .ref (xh), .ref (la2), .ref (fb), .ref (fw), .int (qz (true)), .ref (bu), .int (qI (((ln : Nat) : Int))), .ref (ta)]))], [(la, .inr (3, [.ref (lv9), .ref (ls9), .ref (rc 0), .ref (re 0)]))], [(lv9, aI cy 10 (v))], [(ls9, aI cy 10 (st))], qRu cy rc (C) (((nc : Nat) : Int)), qRu cy re (E) (((ne : Nat) : Int)), [(fa, .inr (1, [.ref (gb 0), .ref (oc 0), .ref (oe 0), .ref (rs 0), .int (qI (tt))]))], qBo cy gb (M), qOu cy oc (((FC : Nat) : Int)) (mgC) (tnC), qOu cy oe (((FE : Nat) : Int)) (mgE) (tnE), qHi cy xh xs ad nx hz Z, [(fw, aI cy 16 (u.2))], [(la2, .inr (3, [.ref (lv92), .ref (ls92), .ref (rc2 0), .ref (re2 0)]))], [(lv92, aI cy 10 (u.1.1))], [(ls92, aI cy 10 (u.1.2.1))], qRu cy rc2 (u.1.2.2.1) (u.1.2.2.2.1 : Int), qRu cy re2 (u.1.2.2.2.2.1) (u.1.2.2.2.2.2.1 : Int), [(fb, .inr (1, [.ref (gb2 0), .ref (oc2 0), .ref (oe2 0), .ref (rs2 0), .int (qI (u.1.2.2.2.2.2.2.1))]))], qBo cy gb2 (u.1.2.2.2.2.2.2.2.1), qOu cy oc2 (u.1.2.2.2.2.2.2.2.2.1 : Int) (u.1.2.2.2.2.2.2.2.2.2.1) (u.1.2.2.2.2.2.2.2.2.2.2.1), qOu cy oe2 (u.1.2.2.2.2.2.2.2.2.2.2.2.1 : Int) (u.1.2.2.2.2.2.2.2.2.2.2.2.2.1) (u.1.2.2.2.2.2.2.2.2.2.2.2.2.2), [(bu, aI cy 60 (bf))]])) (va_A [[(x, .inr (7, [.ref (la), .ref (fa), .ref (xh), .ref (la2), .ref (fb), .ref (fw), .int (qz (kw)), .ref (bu), .int (qI (((ln : Nat) : Int))), .ref (ta)]))], [(la, .inr (3, [.ref (lv9), .ref (ls9), .ref (rc 0), .ref (re 0)]))], [(lv9, aI cy 10 (v))], [(ls9, aI cy 10 (st))], qRu cy rc (C) (((nc : Nat) : Int)), qRu cy re (E) (((ne : Nat) : Int)), [(fa, .inr (1, [.ref (gb 0), .ref (oc 0), .ref (oe 0), .ref (rs 0), .int (qI (tt))]))], qBo cy gb (M), qOu cy oc (((FC : Nat) : Int)) (mgC) (tnC), qOu cy oe (((FE : Nat) : Int)) (mgE) (tnE), qHi cy xh xs ad nx hz Z, [(fw, aI cy 16 (wo))], [(la2, .inr (3, [.ref (lv92), .ref (ls92), .ref (rc2 0), .ref (re2 0)]))], [(lv92, aI cy 10 (v2))], [(ls92, aI cy 10 (st2))], qRu cy rc2 (C2) (n2), qRu cy re2 (E2) (m2), [(fb, .inr (1, [.ref (gb2 0), .ref (oc2 0), .ref (oe2 0), .ref (rs2 0), .int (qI (t1))]))], qBo cy gb2 (M1), qOu cy oc2 (F1) (g1) (q1), qOu cy oe2 (G1) (e1) (y1), [(bu, aI cy 60 (bf))]].flatten sz)) := by
  refine q_ofMl (S := ((Nat → Int) × (Nat → Int) × (Nat → Nat → Int) × (Int) × (Nat → Nat → Int) × (Int) × (Int) × (Nat → Nat → Int) × (Int) × (Nat → Int) × (Nat → Int) × (Int) × (Nat → Int) × (Nat → Int)) × (Nat → Int)) (b1 := fun u => [[(x, .inr (7, [.ref (la), .ref (fa), .ref (xh), .ref (la2), .ref (fb), .ref (fw), .int (qz (true)), .ref (bu), .int (qI (((ln : Nat) : Int))), .ref (ta)]))], [(la, .inr (3, [.ref (lv9), .ref (ls9), .ref (rc 0), .ref (re 0)]))], [(lv9, aI cy 10 (v))], [(ls9, aI cy 10 (st))], qRu cy rc (C) (((nc : Nat) : Int)), qRu cy re (E) (((ne : Nat) : Int)), [(fa, .inr (1, [.ref (gb 0), .ref (oc 0), .ref (oe 0), .ref (rs 0), .int (qI (tt))]))], qBo cy gb (M), qOu cy oc (((FC : Nat) : Int)) (mgC) (tnC), qOu cy oe (((FE : Nat) : Int)) (mgE) (tnE), qHi cy xh xs ad nx hz Z, [(fw, aI cy 16 (u.2))], [(la2, .inr (3, [.ref (lv92), .ref (ls92), .ref (rc2 0), .ref (re2 0)]))], [(lv92, aI cy 10 (u.1.1))], [(ls92, aI cy 10 (u.1.2.1))], qRu cy rc2 (u.1.2.2.1) (u.1.2.2.2.1 : Int), qRu cy re2 (u.1.2.2.2.2.1) (u.1.2.2.2.2.2.1 : Int), [(fb, .inr (1, [.ref (gb2 0), .ref (oc2 0), .ref (oe2 0), .ref (rs2 0), .int (qI (u.1.2.2.2.2.2.2.1))]))], qBo cy gb2 (u.1.2.2.2.2.2.2.2.1), qOu cy oc2 (u.1.2.2.2.2.2.2.2.2.1 : Int) (u.1.2.2.2.2.2.2.2.2.2.1) (u.1.2.2.2.2.2.2.2.2.2.2.1), qOu cy oe2 (u.1.2.2.2.2.2.2.2.2.2.2.2.1 : Int) (u.1.2.2.2.2.2.2.2.2.2.2.2.2.1) (u.1.2.2.2.2.2.2.2.2.2.2.2.2.2), [(bu, aI cy 60 (bf))]]) (post := fun r u => r = dgA v st C nc E ne hz bf ln ∧ kWo C nc E ne u.2 nc) (by decide +kernel) (Nat.le_of_ble_eq_true rfl) ?_
  intro p e s m args below meth c Q A hx hb hml hown hg hQ hK hN hD hA H locs ls hP hS hl
  have hown : s.vm.findClass RX7 = some m.cls := hown
  have hl : lv_has ls 4 [(0, .ref (x))] := hl
  refine lv_aload_n hx hb dX7_digest_0 rfl (lv_at hl 0 rfl) ?_
  refine q_backv [0, 17, 18, 19, 20, 1, 4, 5, 11] [2, 3, 6, 7, 8, 9, 10, 12, 13, 14, 15, 16, 21] (br := [[(lv9, aI cy 10 (v))], [(ls9, aI cy 10 (st))], [(fa, .inr (1, [.ref (gb 0), .ref (oc 0), .ref (oe 0), .ref (rs 0), .int (qI (tt))]))], qBo cy gb (M), qOu cy oc (((FC : Nat) : Int)) (mgC) (tnC), qOu cy oe (((FE : Nat) : Int)) (mgE) (tnE), qHi cy xh xs ad nx hz Z, [(la2, .inr (3, [.ref (lv92), .ref (ls92), .ref (rc2 0), .ref (re2 0)]))], [(lv92, aI cy 10 (v2))], [(ls92, aI cy 10 (st2))], qRu cy rc2 (C2) (n2), qRu cy re2 (E2) (m2), [(bu, aI cy 60 (bf))]]) hP hD hS hA (va_runV (As := []) (rest := []) ⟨hx, hb, hml, hown, hg⟩ (c_X7_knowWithout l D cy x la lv9 ls9 fa xh xs la2 lv92 ls92 fb fw bu ta rc re gb oc oe rs rc2 re2 gb2 oc2 oe2 rs2 rr ad (kw) (((ln : Nat) : Int)) v st C nc E ne (t1) (M1) (F1) (g1) (q1) (G1) (e1) (y1) (wo) hE hC he hc hkw _) (cv_X7_173 hg rfl rfl ⟨by decide, by decide⟩) ⟨q_blind, va_recv hK (fl_blk hP 0 rfl) (ci := 7) (q0 := 0) rfl rfl, q_preM _ hK hN hP hD [0, 17, 18, 19, 20, 1, 4, 5, 11] (by decide) rfl⟩ rfl rfl hl.1 rfl (lv_room (Nat.le_of_ble_eq_true rfl)) dX7_digest_1 ⟨by decide, by decide⟩) rfl rfl (by decide) (fun u_1 H locs h_1 hP hD hS => ?_)
  have hP : va_P D vwCl [[(lv9, aI cy 10 (v))], [(ls9, aI cy 10 (st))], [(fa, .inr (1, [.ref (gb 0), .ref (oc 0), .ref (oe 0), .ref (rs 0), .int (qI (tt))]))], qBo cy gb (M), qOu cy oc (((FC : Nat) : Int)) (mgC) (tnC), qOu cy oe (((FE : Nat) : Int)) (mgE) (tnE), qHi cy xh xs ad nx hz Z, [(la2, .inr (3, [.ref (lv92), .ref (ls92), .ref (rc2 0), .ref (re2 0)]))], [(lv92, aI cy 10 (v2))], [(ls92, aI cy 10 (st2))], qRu cy rc2 (C2) (n2), qRu cy re2 (E2) (m2), [(bu, aI cy 60 (bf))], [(x, .inr (7, [.ref (la), .ref (fa), .ref (xh), .ref (la2), .ref (fb), .ref (fw), .int (qz (true)), .ref (bu), .int (qI (((ln : Nat) : Int))), .ref (ta)]))], [(fb, .inr (1, [.ref (gb2 0), .ref (oc2 0), .ref (oe2 0), .ref (rs2 0), .int (qI (u_1.1))]))], qBo cy gb2 (u_1.2.1), qOu cy oc2 (u_1.2.2.1) (u_1.2.2.2.1) (u_1.2.2.2.2.1), qOu cy oe2 (u_1.2.2.2.2.2.1) (u_1.2.2.2.2.2.2.1) (u_1.2.2.2.2.2.2.2.1), [(la, .inr (3, [.ref (lv9), .ref (ls9), .ref (rc 0), .ref (re 0)]))], qRu cy rc (C) (((nc : Nat) : Int)), qRu cy re (E) (((ne : Nat) : Int)), [(fw, aI cy 16 (u_1.2.2.2.2.2.2.2.2))]].flatten H := hP
  have hD : va_D A [[(lv9, aI cy 10 (v))], [(ls9, aI cy 10 (st))], [(fa, .inr (1, [.ref (gb 0), .ref (oc 0), .ref (oe 0), .ref (rs 0), .int (qI (tt))]))], qBo cy gb (M), qOu cy oc (((FC : Nat) : Int)) (mgC) (tnC), qOu cy oe (((FE : Nat) : Int)) (mgE) (tnE), qHi cy xh xs ad nx hz Z, [(la2, .inr (3, [.ref (lv92), .ref (ls92), .ref (rc2 0), .ref (re2 0)]))], [(lv92, aI cy 10 (v2))], [(ls92, aI cy 10 (st2))], qRu cy rc2 (C2) (n2), qRu cy re2 (E2) (m2), [(bu, aI cy 60 (bf))], [(x, .inr (7, [.ref (la), .ref (fa), .ref (xh), .ref (la2), .ref (fb), .ref (fw), .int (qz (true)), .ref (bu), .int (qI (((ln : Nat) : Int))), .ref (ta)]))], [(fb, .inr (1, [.ref (gb2 0), .ref (oc2 0), .ref (oe2 0), .ref (rs2 0), .int (qI (u_1.1))]))], qBo cy gb2 (u_1.2.1), qOu cy oc2 (u_1.2.2.1) (u_1.2.2.2.1) (u_1.2.2.2.2.1), qOu cy oe2 (u_1.2.2.2.2.2.1) (u_1.2.2.2.2.2.2.1) (u_1.2.2.2.2.2.2.2.1), [(la, .inr (3, [.ref (lv9), .ref (ls9), .ref (rc 0), .ref (re 0)]))], qRu cy rc (C) (((nc : Nat) : Int)), qRu cy re (E) (((ne : Nat) : Int)), [(fw, aI cy 16 (u_1.2.2.2.2.2.2.2.2))]].flatten := hD
  refine lv_ldc2 hx hb hown (hg _ m_441) dX7_digest_4 ?_
  refine lv_lstore_n (lv' := [(1, .long (2129)), (0, .ref (x))]) hx hb dX7_digest_7 rfl hl (by decide) rfl (fun ls hl => ?_)
  refine q_iconst hx hb dX7_digest_8 ?_
  refine lv_istore_n (lv' := [(3, .int (qI (0))), (1, .long (2129)), (0, .ref (x))]) hx hb dX7_digest_9 rfl hl (by decide) rfl (fun ls hl => ?_)
  have L_10 : ∀ (n_10 k : Nat) (y : Int64), k ≤ 8 → 8 + 1 ≤ k + n_10 → (y = hsh (fun w => ctA v C nc E ne hz (w : Int)) k 2129) → ∀ (H : Heap) (locs : List Loc) (ls : Array Slot), va_P D vwCl [[(lv9, aI cy 10 (v))], [(ls9, aI cy 10 (st))], [(fa, .inr (1, [.ref (gb 0), .ref (oc 0), .ref (oe 0), .ref (rs 0), .int (qI (tt))]))], qBo cy gb (M), qOu cy oc (((FC : Nat) : Int)) (mgC) (tnC), qOu cy oe (((FE : Nat) : Int)) (mgE) (tnE), qHi cy xh xs ad nx hz Z, [(la2, .inr (3, [.ref (lv92), .ref (ls92), .ref (rc2 0), .ref (re2 0)]))], [(lv92, aI cy 10 (v2))], [(ls92, aI cy 10 (st2))], qRu cy rc2 (C2) (n2), qRu cy re2 (E2) (m2), [(bu, aI cy 60 (bf))], [(x, .inr (7, [.ref (la), .ref (fa), .ref (xh), .ref (la2), .ref (fb), .ref (fw), .int (qz (true)), .ref (bu), .int (qI (((ln : Nat) : Int))), .ref (ta)]))], [(fb, .inr (1, [.ref (gb2 0), .ref (oc2 0), .ref (oe2 0), .ref (rs2 0), .int (qI (u_1.1))]))], qBo cy gb2 (u_1.2.1), qOu cy oc2 (u_1.2.2.1) (u_1.2.2.2.1) (u_1.2.2.2.2.1), qOu cy oe2 (u_1.2.2.2.2.2.1) (u_1.2.2.2.2.2.2.1) (u_1.2.2.2.2.2.2.2.1), [(la, .inr (3, [.ref (lv9), .ref (ls9), .ref (rc 0), .ref (re 0)]))], qRu cy rc (C) (((nc : Nat) : Int)), qRu cy re (E) (((ne : Nat) : Int)), [(fw, aI cy 16 (u_1.2.2.2.2.2.2.2.2))]].flatten H → va_D A [[(lv9, aI cy 10 (v))], [(ls9, aI cy 10 (st))], [(fa, .inr (1, [.ref (gb 0), .ref (oc 0), .ref (oe 0), .ref (rs 0), .int (qI (tt))]))], qBo cy gb (M), qOu cy oc (((FC : Nat) : Int)) (mgC) (tnC), qOu cy oe (((FE : Nat) : Int)) (mgE) (tnE), qHi cy xh xs ad nx hz Z, [(la2, .inr (3, [.ref (lv92), .ref (ls92), .ref (rc2 0), .ref (re2 0)]))], [(lv92, aI cy 10 (v2))], [(ls92, aI cy 10 (st2))], qRu cy rc2 (C2) (n2), qRu cy re2 (E2) (m2), [(bu, aI cy 60 (bf))], [(x, .inr (7, [.ref (la), .ref (fa), .ref (xh), .ref (la2), .ref (fb), .ref (fw), .int (qz (true)), .ref (bu), .int (qI (((ln : Nat) : Int))), .ref (ta)]))], [(fb, .inr (1, [.ref (gb2 0), .ref (oc2 0), .ref (oe2 0), .ref (rs2 0), .int (qI (u_1.1))]))], qBo cy gb2 (u_1.2.1), qOu cy oc2 (u_1.2.2.1) (u_1.2.2.2.1) (u_1.2.2.2.2.1), qOu cy oe2 (u_1.2.2.2.2.2.1) (u_1.2.2.2.2.2.2.1) (u_1.2.2.2.2.2.2.2.1), [(la, .inr (3, [.ref (lv9), .ref (ls9), .ref (rc 0), .ref (re 0)]))], qRu cy rc (C) (((nc : Nat) : Int)), qRu cy re (E) (((ne : Nat) : Int)), [(fw, aI cy 16 (u_1.2.2.2.2.2.2.2.2))]].flatten → va_S A s.heap H locs → lv_has ls 4 [(0, .ref (x)), (1, .long (y)), (3, .int (qI (((k : Nat) : Int))))] → W p l e (qrm 7) s m args below meth c H locs 0 0 Q (F0 m 10 ls []) := by
    intro n_10
    induction n_10 with
    | zero => intro k _ h1 h2; exact absurd h2 (by omega)
    | succ n_10 ih_10 =>
      intro k y hk_10 hn_10 hy H locs ls hP hD hS hl
      refine lv_iload_n hx hb dX7_digest_10 rfl (lv_at hl 2 rfl) ?_
      refine q_bipush hx hb dX7_digest_11 (by decide) ?_
      refine q_icmp_ge (tgt := 32) hx hb dX7_digest_13 (by decide) (by omega) (fun c_13 => ?_) (fun c_13 => ?_)
      · skip
        refine lv_aload_n hx hb dX7_digest_32 rfl (lv_at hl 0 rfl) ?_
        refine lv_lload_n hx hb dX7_digest_33 rfl (lv_at hl 1 rfl) ?_
        refine q_readl (va_runV (As := [.long (y)]) (rest := []) ⟨hx, hb, hml, hown, hg⟩ (c_X7_withPlaces l D cy x la lv9 ls9 fa xh xs la2 lv92 ls92 fb fw bu ta rc re gb oc oe rs rc2 re2 gb2 oc2 oe2 rs2 rr ad (true) (((ln : Nat) : Int)) v st C nc E ne tt M FC mgC tnC FE mgE tnE hF hE hC he hc hV hst (y)) (cv_X7_222 hg rfl rfl ⟨by decide, by decide⟩) ⟨q_blind0, va_recv hK (fl_blk hP 13 rfl) (ci := 7) (q0 := 0) rfl rfl, q_preR _ hK hN hP [13, 18, 0, 1, 19, 20, 2, 3] rfl⟩ rfl rfl hl.1 rfl (lv_room (Nat.le_of_ble_eq_true rfl)) dX7_digest_34 ⟨by decide, by decide⟩) (fun r_34 h_34 => ?_)
        subst h_34
        refine lv_lstore_n (lv' := [(1, .long (hsh (plF v st C nc E ne) 60 (y))), (0, .ref (x)), (3, .int (qI (((k : Nat) : Int))))]) hx hb dX7_digest_37 rfl hl (by decide) rfl (fun ls hl => ?_)
        refine lv_aload_n hx hb dX7_digest_38 rfl (lv_at hl 1 rfl) ?_
        refine lv_lload_n hx hb dX7_digest_39 rfl (lv_at hl 0 rfl) ?_
        refine q_backl [13, 18, 0, 1, 19, 20, 2, 4, 21, 7, 8, 9, 10, 11, 14, 15, 16, 17] [3, 5, 6, 12] (br := [qBo cy gb (M), qOu cy oe (((FE : Nat) : Int)) (mgE) (tnE), qHi cy xh xs ad nx hz Z, [(bu, aI cy 60 (bf))]]) hP hD hS hA (va_runV (As := [.long (hsh (plF v st C nc E ne) 60 (y))]) (rest := []) ⟨hx, hb, hml, hown, hg⟩ (c_X7_withConditions l D cy x la lv9 ls9 fa xh xs la2 lv92 ls92 fb fw bu ta rc re gb oc oe rs rc2 re2 gb2 oc2 oe2 rs2 rr ad (true) (((ln : Nat) : Int)) v st C nc E ne tt M FC mgC tnC FE mgE tnE hF hE hC he hc hV hst (u_1.2.2.2.2.2.2.2.2) h_1 (v2) (st2) (C2) (n2) (E2) (m2) (u_1.1) (u_1.2.1) (u_1.2.2.1) (u_1.2.2.2.1) (u_1.2.2.2.2.1) (u_1.2.2.2.2.2.1) (u_1.2.2.2.2.2.2.1) (u_1.2.2.2.2.2.2.2.1) (hsh (plF v st C nc E ne) 60 (y)) _) (cv_X7_226 hg rfl rfl ⟨by decide, by decide⟩) ⟨q_blind, va_recv hK (fl_blk hP 13 rfl) (ci := 7) (q0 := 0) rfl rfl, q_preM _ hK hN hP hD [13, 18, 0, 1, 19, 20, 2, 4, 21, 7, 8, 9, 10, 11, 14, 15, 16, 17] (by decide) rfl⟩ rfl rfl hl.1 rfl (lv_room (Nat.le_of_ble_eq_true rfl)) dX7_digest_40 ⟨by decide, by decide⟩) rfl rfl (by decide) (fun r_40 u_40 H locs h_40 hP hD hS => ?_)
        have hP : va_P D vwCl [qBo cy gb (M), qOu cy oe (((FE : Nat) : Int)) (mgE) (tnE), qHi cy xh xs ad nx hz Z, [(bu, aI cy 60 (bf))], [(x, .inr (7, [.ref (la), .ref (fa), .ref (xh), .ref (la2), .ref (fb), .ref (fw), .int (qz (true)), .ref (bu), .int (qI (((ln : Nat) : Int))), .ref (ta)]))], [(la, .inr (3, [.ref (lv9), .ref (ls9), .ref (rc 0), .ref (re 0)]))], [(lv9, aI cy 10 (v))], [(ls9, aI cy 10 (st))], qRu cy rc (C) (((nc : Nat) : Int)), qRu cy re (E) (((ne : Nat) : Int)), [(fa, .inr (1, [.ref (gb 0), .ref (oc 0), .ref (oe 0), .ref (rs 0), .int (qI (tt))]))], qOu cy oc (((FC : Nat) : Int)) (mgC) (tnC), [(fw, aI cy 16 (u_1.2.2.2.2.2.2.2.2))], [(la2, .inr (3, [.ref (lv92), .ref (ls92), .ref (rc2 0), .ref (re2 0)]))], [(lv92, aI cy 10 (u_40.1))], [(ls92, aI cy 10 (u_40.2.1))], qRu cy rc2 (u_40.2.2.1) (u_40.2.2.2.1 : Int), qRu cy re2 (u_40.2.2.2.2.1) (u_40.2.2.2.2.2.1 : Int), [(fb, .inr (1, [.ref (gb2 0), .ref (oc2 0), .ref (oe2 0), .ref (rs2 0), .int (qI (u_40.2.2.2.2.2.2.1))]))], qBo cy gb2 (u_40.2.2.2.2.2.2.2.1), qOu cy oc2 (u_40.2.2.2.2.2.2.2.2.1 : Int) (u_40.2.2.2.2.2.2.2.2.2.1) (u_40.2.2.2.2.2.2.2.2.2.2.1), qOu cy oe2 (u_40.2.2.2.2.2.2.2.2.2.2.2.1 : Int) (u_40.2.2.2.2.2.2.2.2.2.2.2.2.1) (u_40.2.2.2.2.2.2.2.2.2.2.2.2.2)].flatten H := hP
        have hD : va_D A [qBo cy gb (M), qOu cy oe (((FE : Nat) : Int)) (mgE) (tnE), qHi cy xh xs ad nx hz Z, [(bu, aI cy 60 (bf))], [(x, .inr (7, [.ref (la), .ref (fa), .ref (xh), .ref (la2), .ref (fb), .ref (fw), .int (qz (true)), .ref (bu), .int (qI (((ln : Nat) : Int))), .ref (ta)]))], [(la, .inr (3, [.ref (lv9), .ref (ls9), .ref (rc 0), .ref (re 0)]))], [(lv9, aI cy 10 (v))], [(ls9, aI cy 10 (st))], qRu cy rc (C) (((nc : Nat) : Int)), qRu cy re (E) (((ne : Nat) : Int)), [(fa, .inr (1, [.ref (gb 0), .ref (oc 0), .ref (oe 0), .ref (rs 0), .int (qI (tt))]))], qOu cy oc (((FC : Nat) : Int)) (mgC) (tnC), [(fw, aI cy 16 (u_1.2.2.2.2.2.2.2.2))], [(la2, .inr (3, [.ref (lv92), .ref (ls92), .ref (rc2 0), .ref (re2 0)]))], [(lv92, aI cy 10 (u_40.1))], [(ls92, aI cy 10 (u_40.2.1))], qRu cy rc2 (u_40.2.2.1) (u_40.2.2.2.1 : Int), qRu cy re2 (u_40.2.2.2.2.1) (u_40.2.2.2.2.2.1 : Int), [(fb, .inr (1, [.ref (gb2 0), .ref (oc2 0), .ref (oe2 0), .ref (rs2 0), .int (qI (u_40.2.2.2.2.2.2.1))]))], qBo cy gb2 (u_40.2.2.2.2.2.2.2.1), qOu cy oc2 (u_40.2.2.2.2.2.2.2.2.1 : Int) (u_40.2.2.2.2.2.2.2.2.2.1) (u_40.2.2.2.2.2.2.2.2.2.2.1), qOu cy oe2 (u_40.2.2.2.2.2.2.2.2.2.2.2.1 : Int) (u_40.2.2.2.2.2.2.2.2.2.2.2.2.1) (u_40.2.2.2.2.2.2.2.2.2.2.2.2.2)].flatten := hD
        obtain ⟨rfl, h_40⟩ := h_40
        refine lv_lstore_n (lv' := [(1, .long (hcn v C nc E ne nc (hsh (plF v st C nc E ne) 60 (y)))), (0, .ref (x)), (3, .int (qI (((k : Nat) : Int))))]) hx hb dX7_digest_43 rfl hl (by decide) rfl (fun ls hl => ?_)
        refine lv_aload_n hx hb dX7_digest_44 rfl (lv_at hl 1 rfl) ?_
        refine lv_lload_n hx hb dX7_digest_45 rfl (lv_at hl 0 rfl) ?_
        refine q_readl (va_runV (As := [.long (hcn v C nc E ne nc (hsh (plF v st C nc E ne) 60 (y)))]) (rest := []) ⟨hx, hb, hml, hown, hg⟩ (c_X7_withEdits l D cy x la lv9 ls9 fa xh xs la2 lv92 ls92 fb fw bu ta rc re gb oc oe rs rc2 re2 gb2 oc2 oe2 rs2 rr ad (true) (((ln : Nat) : Int)) v st C nc E ne tt M FC mgC tnC FE mgE tnE hF hE hC he hc (hcn v C nc E ne nc (hsh (plF v st C nc E ne) 60 (y)))) (cv_X7_229 hg rfl rfl ⟨by decide, by decide⟩) ⟨q_blind0, va_recv hK (fl_blk hP 4 rfl) (ci := 7) (q0 := 0) rfl rfl, q_preR _ hK hN hP [4, 5, 9, 10, 1] rfl⟩ rfl rfl hl.1 rfl (lv_room (Nat.le_of_ble_eq_true rfl)) dX7_digest_46 ⟨by decide, by decide⟩) (fun r_46 h_46 => ?_)
        subst h_46
        refine lv_lstore_n (lv' := [(1, .long (hsh (edF C nc E ne) (5 * ne) (hcn v C nc E ne nc (hsh (plF v st C nc E ne) 60 (y))))), (0, .ref (x)), (3, .int (qI (((k : Nat) : Int))))]) hx hb dX7_digest_49 rfl hl (by decide) rfl (fun ls hl => ?_)
        refine lv_aload_n hx hb dX7_digest_50 rfl (lv_at hl 1 rfl) ?_
        refine lv_lload_n hx hb dX7_digest_51 rfl (lv_at hl 0 rfl) ?_
        refine q_readl (va_runV (As := [.long (hsh (edF C nc E ne) (5 * ne) (hcn v C nc E ne nc (hsh (plF v st C nc E ne) 60 (y))))]) (rest := []) ⟨hx, hb, hml, hown, hg⟩ (c_X7_withWidest l D cy x la lv9 ls9 fa xh xs la2 lv92 ls92 fb fw bu ta rc re gb oc oe rs rc2 re2 gb2 oc2 oe2 rs2 rr ad (true) (((ln : Nat) : Int)) v st C nc E ne tt M FC mgC tnC FE mgE tnE hF (hsh (edF C nc E ne) (5 * ne) (hcn v C nc E ne nc (hsh (plF v st C nc E ne) 60 (y))))) (cv_X7_232 hg rfl rfl ⟨by decide, by decide⟩) ⟨q_blind0, va_recv hK (fl_blk hP 4 rfl) (ci := 7) (q0 := 0) rfl rfl, q_preR _ hK hN hP [4, 10, 0] rfl⟩ rfl rfl hl.1 rfl (lv_room (Nat.le_of_ble_eq_true rfl)) dX7_digest_52 ⟨by decide, by decide⟩) (fun r_52 h_52 => ?_)
        subst h_52
        refine lv_lstore_n (lv' := [(1, .long (hsh (wdF C nc E ne) 100 (hsh (edF C nc E ne) (5 * ne) (hcn v C nc E ne nc (hsh (plF v st C nc E ne) 60 (y)))))), (0, .ref (x)), (3, .int (qI (((k : Nat) : Int))))]) hx hb dX7_digest_55 rfl hl (by decide) rfl (fun ls hl => ?_)
        refine lv_lload_n hx hb dX7_digest_56 rfl (lv_at hl 0 rfl) ?_
        refine lv_aload_n hx hb dX7_digest_57 rfl (lv_at hl 1 rfl) ?_
        refine q_readf (va_runV (As := []) (rest := [.long (hsh (wdF C nc E ne) 100 (hsh (edF C nc E ne) (5 * ne) (hcn v C nc E ne nc (hsh (plF v st C nc E ne) 60 (y)))))]) ⟨hx, hb, hml, hown, hg⟩ (c_X7_freedom l D cy x la lv9 ls9 fa xh xs la2 lv92 ls92 fb fw bu ta rc re gb oc oe rs rc2 re2 gb2 oc2 oe2 rs2 rr ad (true) (((ln : Nat) : Int)) v st C nc E ne tt M FC mgC tnC FE mgE tnE hF hE hC he hc) (cv_X7_235 hg rfl rfl ⟨by decide, by decide⟩) ⟨q_blind0, va_recv hK (fl_blk hP 4 rfl) (ci := 7) (q0 := 0) rfl rfl, q_preR _ hK hN hP [4, 10, 0] rfl⟩ rfl rfl hl.1 rfl (lv_room (Nat.le_of_ble_eq_true rfl)) dX7_digest_58 ⟨by decide, by decide⟩) (fun r_58 h_58 => ?_)
        obtain ⟨rfl, h_58⟩ := h_58
        obtain ⟨Wn, hWn⟩ : ∃ Wn : Nat, widS C nc E ne 10 = (Wn : Int) := ⟨(widS C nc E ne 10).toNat, by omega⟩
        refine q_top (v2 := .float (frW ((Wn : Nat) : Int))) (congrArg (fun z => Value.float (frW z)) hWn) ?_
        refine q_readi (va_runS (As := [.float (frW ((Wn : Nat) : Int))]) (rest := [.long (hsh (wdF C nc E ne) 100 (hsh (edF C nc E ne) (5 * ne) (hcn v C nc E ne nc (hsh (plF v st C nc E ne) 60 (y)))))]) ⟨hx, hb, hml, hown, hg⟩ (c_X7_bitsOf l D cy Wn (by omega)) (cs_X7_239 hg rfl rfl ⟨by decide, by decide⟩) ⟨q_blind0, q_preR _ hK hN hP [] rfl⟩ rfl rfl hl.1 rfl (lv_room (Nat.le_of_ble_eq_true rfl)) dX7_digest_61 ⟨by decide, by decide⟩) (fun r_61 h_61 => ?_)
        subst h_61
        refine q_readl (va_runS (As := [.long (hsh (wdF C nc E ne) 100 (hsh (edF C nc E ne) (5 * ne) (hcn v C nc E ne nc (hsh (plF v st C nc E ne) 60 (y))))), .int (qI ((((frW ((Wn : Nat) : Int)).toNat : Nat) : Int)))]) (rest := []) ⟨hx, hb, hml, hown, hg⟩ (c_X7_mixed l D cy (hsh (wdF C nc E ne) 100 (hsh (edF C nc E ne) (5 * ne) (hcn v C nc E ne nc (hsh (plF v st C nc E ne) 60 (y))))) ((((frW ((Wn : Nat) : Int)).toNat : Nat) : Int))) (cs_X7_218 hg rfl rfl ⟨by decide, by decide⟩) ⟨q_blind0, q_preR _ hK hN hP [] rfl⟩ rfl rfl hl.1 rfl (lv_room (Nat.le_of_ble_eq_true rfl)) dX7_digest_64 ⟨by decide, by decide⟩) (fun r_64 h_64 => ?_)
        subst h_64
        refine lv_lstore_n (lv' := [(1, .long (mx (hsh (wdF C nc E ne) 100 (hsh (edF C nc E ne) (5 * ne) (hcn v C nc E ne nc (hsh (plF v st C nc E ne) 60 (y))))) ((((frW ((Wn : Nat) : Int)).toNat : Nat) : Int)))), (0, .ref (x)), (3, .int (qI (((k : Nat) : Int))))]) hx hb dX7_digest_67 rfl hl (by decide) rfl (fun ls hl => ?_)
        refine lv_aload_n hx hb dX7_digest_68 rfl (lv_at hl 1 rfl) ?_
        refine lv_lload_n hx hb dX7_digest_69 rfl (lv_at hl 0 rfl) ?_
        refine q_readl (va_runV (As := [.long (mx (hsh (wdF C nc E ne) 100 (hsh (edF C nc E ne) (5 * ne) (hcn v C nc E ne nc (hsh (plF v st C nc E ne) 60 (y))))) ((((frW ((Wn : Nat) : Int)).toNat : Nat) : Int)))]) (rest := []) ⟨hx, hb, hml, hown, hg⟩ (c_X7_withBuffer l D cy x la lv9 ls9 fa xh xs la2 lv92 ls92 fb fw bu ta rc re gb oc oe rs rc2 re2 gb2 oc2 oe2 rs2 rr ad (true) ln bf hln (mx (hsh (wdF C nc E ne) 100 (hsh (edF C nc E ne) (5 * ne) (hcn v C nc E ne nc (hsh (plF v st C nc E ne) 60 (y))))) ((((frW ((Wn : Nat) : Int)).toNat : Nat) : Int)))) (cv_X7_243 hg rfl rfl ⟨by decide, by decide⟩) ⟨q_blind0, va_recv hK (fl_blk hP 4 rfl) (ci := 7) (q0 := 0) rfl rfl, q_preR _ hK hN hP [4, 3] rfl⟩ rfl rfl hl.1 rfl (lv_room (Nat.le_of_ble_eq_true rfl)) dX7_digest_70 ⟨by decide, by decide⟩) (fun r_70 h_70 => ?_)
        subst h_70
        have hP := fl_sub (bs' := [[(x, .inr (7, [.ref (la), .ref (fa), .ref (xh), .ref (la2), .ref (fb), .ref (fw), .int (qz (true)), .ref (bu), .int (qI (((ln : Nat) : Int))), .ref (ta)]))], [(la, .inr (3, [.ref (lv9), .ref (ls9), .ref (rc 0), .ref (re 0)]))], [(lv9, aI cy 10 (v))], [(ls9, aI cy 10 (st))], qRu cy rc (C) (((nc : Nat) : Int)), qRu cy re (E) (((ne : Nat) : Int)), [(fa, .inr (1, [.ref (gb 0), .ref (oc 0), .ref (oe 0), .ref (rs 0), .int (qI (tt))]))], qBo cy gb (M), qOu cy oc (((FC : Nat) : Int)) (mgC) (tnC), qOu cy oe (((FE : Nat) : Int)) (mgE) (tnE), qHi cy xh xs ad nx hz Z, [(fw, aI cy 16 (u_1.2.2.2.2.2.2.2.2))], [(la2, .inr (3, [.ref (lv92), .ref (ls92), .ref (rc2 0), .ref (re2 0)]))], [(lv92, aI cy 10 (u_40.1))], [(ls92, aI cy 10 (u_40.2.1))], qRu cy rc2 (u_40.2.2.1) (u_40.2.2.2.1 : Int), qRu cy re2 (u_40.2.2.2.2.1) (u_40.2.2.2.2.2.1 : Int), [(fb, .inr (1, [.ref (gb2 0), .ref (oc2 0), .ref (oe2 0), .ref (rs2 0), .int (qI (u_40.2.2.2.2.2.2.1))]))], qBo cy gb2 (u_40.2.2.2.2.2.2.2.1), qOu cy oc2 (u_40.2.2.2.2.2.2.2.2.1 : Int) (u_40.2.2.2.2.2.2.2.2.2.1) (u_40.2.2.2.2.2.2.2.2.2.2.1), qOu cy oe2 (u_40.2.2.2.2.2.2.2.2.2.2.2.1 : Int) (u_40.2.2.2.2.2.2.2.2.2.2.2.2.1) (u_40.2.2.2.2.2.2.2.2.2.2.2.2.2), [(bu, aI cy 60 (bf))]]) hP [4, 5, 6, 7, 8, 9, 10, 0, 11, 1, 2, 12, 13, 14, 15, 16, 17, 18, 19, 20, 21, 3] rfl
        have hD := fl_subD (bs' := [[(x, .inr (7, [.ref (la), .ref (fa), .ref (xh), .ref (la2), .ref (fb), .ref (fw), .int (qz (true)), .ref (bu), .int (qI (((ln : Nat) : Int))), .ref (ta)]))], [(la, .inr (3, [.ref (lv9), .ref (ls9), .ref (rc 0), .ref (re 0)]))], [(lv9, aI cy 10 (v))], [(ls9, aI cy 10 (st))], qRu cy rc (C) (((nc : Nat) : Int)), qRu cy re (E) (((ne : Nat) : Int)), [(fa, .inr (1, [.ref (gb 0), .ref (oc 0), .ref (oe 0), .ref (rs 0), .int (qI (tt))]))], qBo cy gb (M), qOu cy oc (((FC : Nat) : Int)) (mgC) (tnC), qOu cy oe (((FE : Nat) : Int)) (mgE) (tnE), qHi cy xh xs ad nx hz Z, [(fw, aI cy 16 (u_1.2.2.2.2.2.2.2.2))], [(la2, .inr (3, [.ref (lv92), .ref (ls92), .ref (rc2 0), .ref (re2 0)]))], [(lv92, aI cy 10 (u_40.1))], [(ls92, aI cy 10 (u_40.2.1))], qRu cy rc2 (u_40.2.2.1) (u_40.2.2.2.1 : Int), qRu cy re2 (u_40.2.2.2.2.1) (u_40.2.2.2.2.2.1 : Int), [(fb, .inr (1, [.ref (gb2 0), .ref (oc2 0), .ref (oe2 0), .ref (rs2 0), .int (qI (u_40.2.2.2.2.2.2.1))]))], qBo cy gb2 (u_40.2.2.2.2.2.2.2.1), qOu cy oc2 (u_40.2.2.2.2.2.2.2.2.1 : Int) (u_40.2.2.2.2.2.2.2.2.2.1) (u_40.2.2.2.2.2.2.2.2.2.2.1), qOu cy oe2 (u_40.2.2.2.2.2.2.2.2.2.2.2.1 : Int) (u_40.2.2.2.2.2.2.2.2.2.2.2.2.1) (u_40.2.2.2.2.2.2.2.2.2.2.2.2.2), [(bu, aI cy 60 (bf))]]) hD [4, 5, 6, 7, 8, 9, 10, 0, 11, 1, 2, 12, 13, 14, 15, 16, 17, 18, 19, 20, 21, 3] (by decide) rfl
        exact hQ _ _ _ _ _ (u_40, u_1.2.2.2.2.2.2.2.2) ⟨by rw [hy, show k = 8 by omega]; unfold dgA; rw [hWn], h_1⟩ hP hD hS dX7_digest_73
      · skip
        refine lv_lload_n hx hb dX7_digest_16 rfl (lv_at hl 1 rfl) ?_
        refine lv_aload_n hx hb dX7_digest_17 rfl (lv_at hl 0 rfl) ?_
        refine lv_iload_n hx hb dX7_digest_18 rfl (lv_at hl 2 rfl) ?_
        refine q_readi (va_runV (As := [.int (qI (((k : Nat) : Int)))]) (rest := [.long (y)]) ⟨hx, hb, hml, hown, hg⟩ (c_X7_countOf l D cy x la lv9 ls9 fa xh xs la2 lv92 ls92 fb fw bu ta rc re gb oc oe rs rc2 re2 gb2 oc2 oe2 rs2 rr ad (true) (((ln : Nat) : Int)) v st C nc E ne tt M FC mgC tnC FE mgE tnE hF hE hC he hc hV hst nx hz Z _ (by omega)) (cv_X7_191 hg rfl rfl ⟨by decide, by decide⟩) ⟨q_blind0, va_recv hK (fl_blk hP 13 rfl) (ci := 7) (q0 := 0) rfl rfl, q_preR _ hK hN hP [13, 18, 0, 19, 20, 2, 3, 4, 5, 6] rfl⟩ rfl rfl hl.1 rfl (lv_room (Nat.le_of_ble_eq_true rfl)) dX7_digest_19 ⟨by decide, by decide⟩) (fun r_19 h_19 => ?_)
        subst h_19
        refine q_readl (va_runS (As := [.long (y), .int (qI (ctA v C nc E ne hz (((k : Nat) : Int))))]) (rest := []) ⟨hx, hb, hml, hown, hg⟩ (c_X7_mixed l D cy (y) (ctA v C nc E ne hz (((k : Nat) : Int)))) (cs_X7_218 hg rfl rfl ⟨by decide, by decide⟩) ⟨q_blind0, q_preR _ hK hN hP [] rfl⟩ rfl rfl hl.1 rfl (lv_room (Nat.le_of_ble_eq_true rfl)) dX7_digest_22 ⟨by decide, by decide⟩) (fun r_22 h_22 => ?_)
        subst h_22
        refine lv_lstore_n (lv' := [(1, .long (mx (y) (ctA v C nc E ne hz (((k : Nat) : Int))))), (0, .ref (x)), (3, .int (qI (((k : Nat) : Int))))]) hx hb dX7_digest_25 rfl hl (by decide) rfl (fun ls hl => ?_)
        refine q_iinc (k := 2) (lv' := [(3, .int (qI ((((k : Nat) : Int)) + (1)))), (1, .long (mx (y) (ctA v C nc E ne hz (((k : Nat) : Int))))), (0, .ref (x))]) hx hb dX7_digest_26 hl rfl (by decide) rfl (fun ls hl => ?_)
        refine lv_goto (tgt := 10) hx hb dX7_digest_29 (by decide) ?_
        exact ih_10 (k + 1) _ (by omega) (by omega) (hsh_at hy rfl) _ _ _ hP hD hS (lv_sub hl [2, 1, 0] rfl)
  exact L_10 (8 + 1) (0) _ (by omega) (by omega) rfl _ _ _ hP hD hS (lv_sub hl [2, 1, 0] rfl)
