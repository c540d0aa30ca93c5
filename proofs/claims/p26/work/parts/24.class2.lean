section QOG
variable {S : Type} {l : Launch} {y : MethodName} {cc : ByteArray} {nL d sz : Nat} {avs : List Value} {D : va_G} {cy : Nat → ClassId} {bs : List va_W} {b1 : S → List va_W}
theorem q_ofMl {post : Int64 → S → Prop} (hy : plainName y.cls = true) (hlen : (lg_sl avs).length ≤ nL)
    (body : ∀ (p : Program) (e : Env) (s : State) (m : MethodId) (args : Array Value) (below : List Frame) (meth : Method) (c : Code) (Q : State → Prop) (A : Nat → Prop), p.tables.exec = Jvm.exec → c.code = cc → c.maxLocals = nL → s.vm.findClass y.cls = some m.cls → (∀ w ∈ wG, w.before args s = true) →
      (∀ (pc : Nat) (H : Heap) (locs : List Loc) (ls : Array Slot) (r : Int64) (u : S), post r u → va_P D vwCl (b1 u).flatten H → va_D A (b1 u).flatten → va_S A s.heap H locs → decode cc pc = .ok (.lreturn, 1) → W p l e (qrm d) s m args below meth c H locs 0 0 Q (F0 m pc ls [.long r])) →
      va_K D vwCl (qT cy) s → qNe s → va_D A bs.flatten → (∀ q, s.heap.size ≤ q → A q) → ∀ (H : Heap) (locs : List Loc) (ls : Array Slot), va_P D vwCl bs.flatten H → va_S A s.heap H locs → lv_has ls nL (lv_args 0 avs) → W p l e (qrm d) s m args below meth c H locs 0 0 Q (F0 m 0 ls [])) :
    qMet l y (.code y cc nL (some .long)) d avs D cy bs sz (va_Ql post (qB D cy bs sz b1) (va_A bs.flatten sz)) := by
  refine Met.ofW (cc := cc) (maxL := nL) (ret := some .long) hy rfl ?_
  intro p e s m args below meth c s₁ B hml hv
  obtain ⟨rfl, hsz, hP, hK, hN, hD0⟩ := hv
  subst hsz
  have hts := atoms_spec (ws := .code y cc nL (some .long) :: wG) B.pre
  have hl := lv_entry avs (n := nL) hlen
  rw [lg_entry_eq]
  exact body p e s m _ below meth c _ _ B.exec B.bytes hml (findClass_of_methodNamed B.named) (fun w h => hts w (List.mem_cons_of_mem _ h)) (fun pc H locs ls r u h1 h2 h3 h4 h5 => W.lret B.exec B.bytes B.returns (fun t ht hW => ⟨⟨r, u, rfl, h1, by rw [ht]; exact h2, va_K.moved hW.alike hK, h3⟩, h4.F ht⟩) h4.2.2 h5) hK hN hD0.self (fun q h => Or.inr h) _ _ _ hP va_S.rf hl
end QOG
section QCM
variable {p : Program} {l : Launch} {e : Env} {R : Room} {s : State} {m : MethodId} {args : Array Value} {below : List Frame} {meth : Method} {c : Code} {H : Heap} {locs : List Loc} {cells slots : Nat} {Q : State → Prop}
variable {cc : ByteArray} {pc : Nat} {ls : Array Slot} {rest st0 : List Value} {D : va_G} {A0 : Nat → Prop} {a : Array Value} {H0 : Heap} {cy : Nat → ClassId} {bs bc br : List va_W}
theorem q_backl {S : Type} {post : Int64 → S → Prop} {b1 : S → List va_W} (isC isR : List Nat) (hP : va_P D vwCl bs.flatten H) (hD : va_D A0 bs.flatten) (hS : va_S A0 H0 H locs) (hA : ∀ q, H0.size ≤ q → A0 q)
    (hr : va_Run p l e R s m args below meth c H locs cells slots 0 0 (F0 m pc ls st0) rest (va_Ql post (qB D cy bc H.size b1) (va_A bc.flatten H.size) a) (va_A bc.flatten H.size))
    (hC : isC.map (fun i => bs[i]?) = bc.map some) (hR : isR.map (fun i => bs[i]?) = br.map some) (hn : va_nd (isR ++ isC) = true)
    (kk : ∀ (r : Int64) (u : S) (H1 : Heap) (locs1 : List Loc), post r u → va_P D vwCl (br ++ b1 u).flatten H1 → va_D A0 (br ++ b1 u).flatten → va_S A0 H0 H1 locs1 → W p l e R s m args below meth c H1 locs1 cells slots Q (F0 m (pc + 3) ls (.long r :: rest))) : W p l e R s m args below meth c H locs cells slots Q (F0 m pc ls st0) := by
  have hF := fl_free hD hS hA isC hC
  refine va_calll hr hS (fun q _ h => hF q h) hF (fun r u t H1 locs1 ht hvm hw hB hz hk hS1 => ?_)
  obtain ⟨hP1, hK1, hD1⟩ := hB
  rw [ht] at hP1
  obtain ⟨h1, h2⟩ := fl_join hP hD isC isR hC hR hn hk hF hP1 hD1
  exact kk r u H1 locs1 hw h1 h2 hS1
end QCM

theorem fc0 : FP.fconst0 = 0 := rfl
theorem fc1 : FP.fconst1 = 1065353216 := rfl
theorem fc2 : FP.fconst2 = 1073741824 := rfl
def mx (h : Int64) (z : Int) : Int64 := 31 * h + (qI z).toInt64
def hsh (g : Nat → Int) : Nat → Int64 → Int64
  | 0, h => h
  | n + 1, h => mx (hsh g n h) (g n)

set_option maxRecDepth 100000 in
set_option maxHeartbeats 4000000 in
theorem c_J6_bitCount_0f7a4 (l : Launch) (D : va_G) (cy : Nat → ClassId) (q9 : Int) (F : Nat) (hq : q9 = (F : Int)) (hF : F < 65536) : qRd l yJ6_bitCount_0f7a4 (.code yJ6_bitCount_0f7a4 cJ6_bitCount_0f7a4 1 (some .int)) 1 [.int (qI (q9))] D cy [] (vp_Si (fun r => r = qI ((cnt F.testBit 16 : Nat) : Int))) := by
  refine q_ofRi (by decide +kernel) (Nat.le_of_ble_eq_true rfl) ?_
  intro p e s m args below meth c Q hx hb hml hown hg hQ hK hN hP ls hl
  have hown : s.vm.findClass RJ6 = some m.cls := hown
  have hl : lv_has ls 1 [(0, .int (qI (q9)))] := hl
  refine lv_iload_n hx hb dJ6_bitCount_0f7a4_0 rfl (lv_at hl 0 rfl) ?_
  refine lv_iload_n hx hb dJ6_bitCount_0f7a4_1 rfl (lv_at hl 0 rfl) ?_
  refine q_iconst hx hb dJ6_bitCount_0f7a4_2 ?_
  refine q_iushr (F := F) (k := 1) hx hb (by omega) dJ6_bitCount_0f7a4_3 ?_
  refine lv_ldcw hx hb hown (hg _ m_316) dJ6_bitCount_0f7a4_4 ?_
  refine q_top (v2 := .int (qI 1431655765)) rfl ?_
  refine q_iand (F := (F) / 2 ^ (1)) (k := 1431655765) hx hb (by omega) dJ6_bitCount_0f7a4_7 ?_
  refine q_isub hx hb dJ6_bitCount_0f7a4_8 ?_
  have l1 := Nat.and_le_left (n := F / 2 ^ 1) (m := 1431655765)
  obtain ⟨a1, ha1⟩ : ∃ a1 : Nat, a1 = F - (F / 2 ^ 1 &&& 1431655765) := ⟨_, rfl⟩
  refine q_topZ (y := ((a1 : Nat) : Int)) (by omega) ?_
  refine lv_istore_n (lv' := [(0, .int (qI (((a1 : Nat) : Int))))]) hx hb dJ6_bitCount_0f7a4_9 rfl hl (by decide) rfl (fun ls hl => ?_)
  refine lv_iload_n hx hb dJ6_bitCount_0f7a4_10 rfl (lv_at hl 0 rfl) ?_
  refine lv_ldcw hx hb hown (hg _ m_317) dJ6_bitCount_0f7a4_11 ?_
  refine q_top (v2 := .int (qI 858993459)) rfl ?_
  refine q_iand (F := a1) (k := 858993459) hx hb (by omega) dJ6_bitCount_0f7a4_14 ?_
  refine lv_iload_n hx hb dJ6_bitCount_0f7a4_15 rfl (lv_at hl 0 rfl) ?_
  refine q_iconst hx hb dJ6_bitCount_0f7a4_16 ?_
  refine q_iushr (F := a1) (k := 2) hx hb (by omega) dJ6_bitCount_0f7a4_17 ?_
  refine lv_ldcw hx hb hown (hg _ m_317) dJ6_bitCount_0f7a4_18 ?_
  refine q_top (v2 := .int (qI 858993459)) rfl ?_
  refine q_iand (F := (a1) / 2 ^ (2)) (k := 858993459) hx hb (by omega) dJ6_bitCount_0f7a4_21 ?_
  refine q_iadd hx hb dJ6_bitCount_0f7a4_22 ?_
  have l2 := Nat.and_le_left (n := a1) (m := 858993459)
  have l3 := Nat.and_le_left (n := a1 / 2 ^ 2) (m := 858993459)
  obtain ⟨a2, ha2⟩ : ∃ a2 : Nat, a2 = (a1 &&& 858993459) + (a1 / 2 ^ 2 &&& 858993459) := ⟨_, rfl⟩
  refine q_topZ (y := ((a2 : Nat) : Int)) (by omega) ?_
  refine lv_istore_n (lv' := [(0, .int (qI (((a2 : Nat) : Int))))]) hx hb dJ6_bitCount_0f7a4_23 rfl hl (by decide) rfl (fun ls hl => ?_)
  refine lv_iload_n hx hb dJ6_bitCount_0f7a4_24 rfl (lv_at hl 0 rfl) ?_
  refine lv_iload_n hx hb dJ6_bitCount_0f7a4_25 rfl (lv_at hl 0 rfl) ?_
  refine q_iconst hx hb dJ6_bitCount_0f7a4_26 ?_
  refine q_iushr (F := a2) (k := 4) hx hb (by omega) dJ6_bitCount_0f7a4_27 ?_
  refine q_iadd hx hb dJ6_bitCount_0f7a4_28 ?_
  refine lv_ldcw hx hb hown (hg _ m_318) dJ6_bitCount_0f7a4_29 ?_
  refine q_top (v2 := .int (qI 252645135)) rfl ?_
  refine q_iand (F := (a2 + (a2) / 2 ^ (4))) (k := 252645135) hx hb (by omega) dJ6_bitCount_0f7a4_32 ?_
  have l4 := Nat.and_le_right (n := a2 + a2 / 2 ^ 4) (m := 252645135)
  obtain ⟨a3, ha3⟩ : ∃ a3 : Nat, a3 = (a2 + a2 / 2 ^ 4) &&& 252645135 := ⟨_, rfl⟩
  refine q_topZ (y := ((a3 : Nat) : Int)) (by omega) ?_
  refine lv_istore_n (lv' := [(0, .int (qI (((a3 : Nat) : Int))))]) hx hb dJ6_bitCount_0f7a4_33 rfl hl (by decide) rfl (fun ls hl => ?_)
  refine lv_iload_n hx hb dJ6_bitCount_0f7a4_34 rfl (lv_at hl 0 rfl) ?_
  refine lv_iload_n hx hb dJ6_bitCount_0f7a4_35 rfl (lv_at hl 0 rfl) ?_
  refine q_bipush hx hb dJ6_bitCount_0f7a4_36 (by decide) ?_
  refine q_iushr (F := a3) (k := 8) hx hb (by omega) dJ6_bitCount_0f7a4_38 ?_
  refine q_iadd hx hb dJ6_bitCount_0f7a4_39 ?_
  obtain ⟨a4, ha4⟩ : ∃ a4 : Nat, a4 = a3 + a3 / 2 ^ 8 := ⟨_, rfl⟩
  refine q_topZ (y := ((a4 : Nat) : Int)) (by omega) ?_
  refine lv_istore_n (lv' := [(0, .int (qI (((a4 : Nat) : Int))))]) hx hb dJ6_bitCount_0f7a4_40 rfl hl (by decide) rfl (fun ls hl => ?_)
  refine lv_iload_n hx hb dJ6_bitCount_0f7a4_41 rfl (lv_at hl 0 rfl) ?_
  refine lv_iload_n hx hb dJ6_bitCount_0f7a4_42 rfl (lv_at hl 0 rfl) ?_
  refine q_bipush hx hb dJ6_bitCount_0f7a4_43 (by decide) ?_
  refine q_iushr (F := a4) (k := 16) hx hb (by omega) dJ6_bitCount_0f7a4_45 ?_
  refine q_iadd hx hb dJ6_bitCount_0f7a4_46 ?_
  obtain ⟨a5, ha5⟩ : ∃ a5 : Nat, a5 = a4 + a4 / 2 ^ 16 := ⟨_, rfl⟩
  refine q_topZ (y := ((a5 : Nat) : Int)) (by omega) ?_
  refine lv_istore_n (lv' := [(0, .int (qI (((a5 : Nat) : Int))))]) hx hb dJ6_bitCount_0f7a4_47 rfl hl (by decide) rfl (fun ls hl => ?_)
  refine lv_iload_n hx hb dJ6_bitCount_0f7a4_48 rfl (lv_at hl 0 rfl) ?_
  refine q_bipush hx hb dJ6_bitCount_0f7a4_49 (by decide) ?_
  refine q_iand (F := a5) (k := 63) hx hb (by omega) dJ6_bitCount_0f7a4_51 ?_
  exact hQ _ _ _ (by rw [← pc_all hF, ha5, ha4, ha3, ha2, ha1]; rfl) dJ6_bitCount_0f7a4_52

theorem cul_up {C : Nat → Nat → Int} {nc : Nat} {E : Nat → Nat → Int} {ne k i y : Nat} (hy : y = culN C nc E ne k i) (h : culB C nc E ne k i = true) : y ||| 2 ^ i = culN C nc E ne k (i + 1) := by simp only [culN]; rw [if_pos h, ← hy]
theorem cul_no {C : Nat → Nat → Int} {nc : Nat} {E : Nat → Nat → Int} {ne k i y : Nat} (hy : y = culN C nc E ne k i) (h : culB C nc E ne k i = false) : y = culN C nc E ne k (i + 1) := by simp only [culN]; rw [if_neg (by rw [h]; decide), ← hy]
theorem tN1 {b : Bool} (h : ((b.toNat : Nat) : Int) = 1) : b = true := by cases b; simp at h; rfl
theorem tN0 {b : Bool} (h : ((b.toNat : Nat) : Int) ≠ 1) : b = false := by cases b; rfl; simp at h
theorem tN1' {F k : Nat} (h : ((F / 2 ^ k &&& 1 : Nat) : Int) = 1) : F.testBit k = true := by rw [bitN] at h; exact tN1 h
theorem tN0' {F k : Nat} (h : ((F / 2 ^ k &&& 1 : Nat) : Int) ≠ 1) : F.testBit k = false := by rw [bitN] at h; exact tN0 h

theorem fil_turn {C : Nat → Nat → Int} {nc : Nat} {E : Nat → Nat → Int} {ne : Nat} {but : Int} (hE : qWR E ne) (hC : qWR C nc) (he : ne ≤ 16) (hc : nc ≤ 16) (i : Nat) : 0 ≤ fTC (fil C nc E ne but) i ∧ fTC (fil C nc E ne but) i ≤ 1000 := by
  have kE : ∀ (str : Int) (S : FS) (b : Int) (k : Nat), k ≤ ne → (∀ i, 0 ≤ fTC S i ∧ fTC S i ≤ 1000) → ∀ i, 0 ≤ fTC (loE E str k S) i ∧ fTC (loE E str k S) i ≤ 1000 := by
    intro str S b k hk h i
    rw [(loE_out k).2.2.1]
    exact h i
  have kC : ∀ (str : Int) (S : FS) (b : Int) (k : Nat), k ≤ nc → fOk S b → b ≤ 900 → (∀ i, 0 ≤ fTC S i ∧ fTC S i ≤ 1000) → ∀ i, 0 ≤ fTC (loC C but str k S) i ∧ fTC (loC C but str k S) i ≤ 1000 := by
    intro str S b k
    induction k with
    | zero => intro _ _ _ h; exact h
    | succ k ih =>
      intro hk ho hb h i
      have o := loC_ok (but := but) (str := str) ho hC k (by omega)
      have ih := ih (by omega) ho hb h
      simp only [loC]
      split
      · show 0 ≤ qu (fTC (loC C but str k S)) k (fT (loC C but str k S)) i ∧ qu (fTC (loC C but str k S)) k (fT (loC C but str k S)) i ≤ 1000
        by_cases e : i = k
        · subst e
          rw [qu_s]
          have := o.2
          omega
        · rw [qu_n _ _ e]
          exact ih i
      · exact ih i
  have kS : ∀ j : Nat, j ≤ 4 → ∀ i, 0 ≤ fTC (loS E ne C nc but j (tg0, 0, fF, fz, fz, fF, fz)) i ∧ fTC (loS E ne C nc but j (tg0, 0, fF, fz, fz, fF, fz)) i ≤ 1000 := by
    intro j
    induction j with
    | zero => intro _ i; exact ⟨Int.le_refl 0, (by decide : (0 : Int) ≤ 1000)⟩
    | succ j ih =>
      intro hj
      have o := loS_ok (but := but) (E := E) (C := C) (ne := ne) (nc := nc) (S := (tg0, 0, fF, fz, fz, fF, fz)) (b := 0) ⟨tg0_cl, Int.le_refl 0, Int.le_refl 0⟩ hE hC he hc j
      have o2 := loE_ok (str := 3 - j) o hE ne (Nat.le_refl _)
      simp only [loS]
      exact kC _ _ _ nc (Nat.le_refl _) o2 (by omega) (kE _ _ 0 ne (Nat.le_refl _) (ih (by omega)))
  exact kS 4 (Nat.le_refl _) i

set_option maxRecDepth 100000 in
set_option maxHeartbeats 4000000 in
theorem c_X7_culpritsOf (l : Launch) (D : va_G) (cy : Nat → ClassId) (x la lv9 ls9 fa xh xs la2 lv92 ls92 fb fw bu ta : Nat) (rc re gb oc oe rs rc2 re2 gb2 oc2 oe2 rs2 rr : Nat → Nat) (ad : Nat → Nat → Nat) (kw : Bool) (len : Int) (v st : Nat → Int) (C : Nat → Nat → Int) (nc : Nat) (E : Nat → Nat → Int) (ne : Nat) (tt : Int) (M : Nat → Nat → Int) (FC : Nat) (mgC tnC : Nat → Int) (FE : Nat) (mgE tnE : Nat → Int) (hF : fCan C nc E ne (-1) M FC mgC tnC FE mgE) (hE : qWR E ne) (hC : qWR C nc) (he : ne ≤ 16) (hc : nc ≤ 16) (wo : Nat → Int) (hw : kWo C nc E ne wo nc) (z9 : Int) (k : Nat) (hk : z9 = (k : Int) ∧ k < nc) : qRd l yX7_culpritsOf (.code yX7_culpritsOf cX7_culpritsOf 6 (some .int)) 2 [.ref (x), .int (qI (z9))] D cy [[(x, .inr (7, [.ref (la), .ref (fa), .ref (xh), .ref (la2), .ref (fb), .ref (fw), .int (qz (kw)), .ref (bu), .int (qI (len)), .ref (ta)]))], [(fa, .inr (1, [.ref (gb 0), .ref (oc 0), .ref (oe 0), .ref (rs 0), .int (qI (tt))]))], qOu cy oc (((FC : Nat) : Int)) (mgC) (tnC), [(la, .inr (3, [.ref (lv9), .ref (ls9), .ref (rc 0), .ref (re 0)]))], qRu cy rc (C) (((nc : Nat) : Int)), [(fw, aI cy 16 (wo))]] (vp_Si (fun r => r = qI ((culA C nc E ne k : Nat) : Int))) := by
  refine q_ofRi (by decide +kernel) (Nat.le_of_ble_eq_true rfl) ?_
  intro p e s m args below meth c Q hx hb hml hown hg hQ hK hN hP ls hl
  have hown : s.vm.findClass RX7 = some m.cls := hown
  have hl : lv_has ls 6 [(0, .ref (x)), (1, .int (qI (z9)))] := hl
  have hk1 := hk.1
  have hk2 := hk.2
  have tnR : ∀ i, i < nc → 0 ≤ tnC i ∧ tnC i ≤ 1000 := fun i hi => by rw [(hF.2.2.1 i hi (by omega)).2]; exact fil_turn hE hC he hc i
  refine lv_aload_n hx hb dX7_culpritsOf_0 rfl (lv_at hl 0 rfl) ?_
  refine gf_X7_19 hx hb hg hown hK (fl_blk hP 0 rfl) 0 rfl rfl dX7_culpritsOf_1 ?_
  refine gf_X7_98 hx hb hg hown hK (fl_blk hP 1 rfl) 0 rfl rfl dX7_culpritsOf_4 ?_
  refine lv_astore_n (lv' := [(2, .ref (oc 0)), (0, .ref (x)), (1, .int (qI (z9)))]) hx hb dX7_culpritsOf_7 rfl hl (by decide) rfl (fun ls hl => ?_)
  refine lv_aload_n hx hb dX7_culpritsOf_8 rfl (lv_at hl 0 rfl) ?_
  refine lv_iload_n hx hb dX7_culpritsOf_9 rfl (lv_at hl 2 rfl) ?_
  refine q_readi (va_runV (As := [.int (qI (z9))]) (rest := []) ⟨hx, hb, hml, hown, hg⟩ (c_X4_filledOneO l D cy oc FC (mgC) (tnC) hF.2.1.1 _ k (by omega)) (cv_X7_102 hg rfl rfl ⟨by decide, by decide⟩) ⟨q_blind0, va_recv hK (fl_blk hP 2 rfl) (ci := 4) (q0 := 0) rfl rfl, q_preR _ hK hN hP [2] rfl⟩ rfl rfl hl.1 rfl (lv_room (Nat.le_of_ble_eq_true rfl)) dX7_culpritsOf_10 ⟨by decide, by decide⟩) (fun r_10 h_10 => ?_)
  subst h_10
  refine q_iconst hx hb dX7_culpritsOf_13 ?_
  have z1 : ((FC.testBit k).toNat) < 2 := by cases FC.testBit k <;> decide
  refine q_icmp_ne (tgt := 19) hx hb dX7_culpritsOf_14 (by decide) (by omega) (fun c_14 => ?_) (fun c_14 => ?_)
  · skip
    refine q_iconst hx hb dX7_culpritsOf_19 ?_
    refine lv_istore_n (lv' := [(3, .int (qI (0))), (2, .ref (oc 0)), (0, .ref (x)), (1, .int (qI (z9)))]) hx hb dX7_culpritsOf_20 rfl hl (by decide) rfl (fun ls hl => ?_)
    refine q_iconst hx hb dX7_culpritsOf_21 ?_
    refine lv_istore (lv' := [(4, .int (qI (0))), (3, .int (qI (0))), (2, .ref (oc 0)), (0, .ref (x)), (1, .int (qI (z9)))]) hx hb dX7_culpritsOf_22 hl (by decide) rfl (fun ls hl => ?_)
    have L_24 : ∀ (n_24 i : Nat) (y : Nat), i ≤ nc → nc + 1 ≤ i + n_24 → (y = culN C nc E ne k i) → ∀ (ls : Array Slot), lv_has ls 6 [(0, .ref (x)), (1, .int (qI (z9))), (2, .ref (oc 0)), (3, .int (qI (((y : Nat) : Int)))), (4, .int (qI (((i : Nat) : Int))))] → W p l e (qrm 2) s m args below meth c s.heap [] 0 0 Q (F0 m 24 ls []) := by
      intro n_24
      induction n_24 with
      | zero => intro i _ h1 h2; exact absurd h2 (by omega)
      | succ n_24 ih_24 =>
        intro i y hk_24 hn_24 hy ls hl
        refine lv_iload hx hb dX7_culpritsOf_24 (lv_at hl 4 rfl) ?_
        refine lv_aload_n hx hb dX7_culpritsOf_26 rfl (lv_at hl 0 rfl) ?_
        refine gf_X7_12 hx hb hg hown hK (fl_blk hP 0 rfl) 0 rfl rfl dX7_culpritsOf_27 ?_
        refine gf_X7_71 hx hb hg hown hK (fl_blk hP 3 rfl) 0 rfl rfl dX7_culpritsOf_30 ?_
        refine gf_X7_75 hx hb hg hown hK (fl_blk hP 4 rfl) 0 rfl rfl dX7_culpritsOf_33 ?_
        refine q_icmp_ge (tgt := 105) hx hb dX7_culpritsOf_36 (by decide) (by omega) (fun c_36 => ?_) (fun c_36 => ?_)
        · skip
          refine lv_iload_n hx hb dX7_culpritsOf_105 rfl (lv_at hl 3 rfl) ?_
          exact hQ _ _ _ (by unfold culA; rw [if_neg (by rw [← hF.2.1.2 k, tN0 c_14]; decide), hy, show i = nc by omega]) dX7_culpritsOf_106
        · skip
          refine lv_aload_n hx hb dX7_culpritsOf_39 rfl (lv_at hl 2 rfl) ?_
          refine lv_iload hx hb dX7_culpritsOf_40 (lv_at hl 4 rfl) ?_
          refine q_readi (va_runV (As := [.int (qI (((i : Nat) : Int)))]) (rest := []) ⟨hx, hb, hml, hown, hg⟩ (c_X4_filledOneO l D cy oc FC (mgC) (tnC) hF.2.1.1 _ i (by omega)) (cv_X7_102 hg rfl rfl ⟨by decide, by decide⟩) ⟨q_blind0, va_recv hK (fl_blk hP 2 rfl) (ci := 4) (q0 := 0) rfl rfl, q_preR _ hK hN hP [2] rfl⟩ rfl rfl hl.1 rfl (lv_room (Nat.le_of_ble_eq_true rfl)) dX7_culpritsOf_42 ⟨by decide, by decide⟩) (fun r_42 h_42 => ?_)
          subst h_42
          refine q_iconst hx hb dX7_culpritsOf_45 ?_
          have z2 : ((FC.testBit i).toNat) < 2 := by cases FC.testBit i <;> decide
          refine q_icmp_ne (tgt := 69) hx hb dX7_culpritsOf_46 (by decide) (by omega) (fun c_46 => ?_) (fun c_46 => ?_)
          · skip
            have t1 : fOC (fil C nc E ne (-1)) i = false := (hF.2.1.2 i).symm.trans (tN0 c_46)
            refine q_iconst hx hb dX7_culpritsOf_69 ?_
            refine lv_istore (lv' := [(5, .int (qI (0))), (0, .ref (x)), (1, .int (qI (z9))), (2, .ref (oc 0)), (3, .int (qI (((y : Nat) : Int)))), (4, .int (qI (((i : Nat) : Int))))]) hx hb dX7_culpritsOf_70 hl (by decide) rfl (fun ls hl => ?_)
            refine lv_iload hx hb dX7_culpritsOf_72 (lv_at hl 0 rfl) ?_
            refine q_if_eq (tgt := 99) hx hb dX7_culpritsOf_74 (by decide) (by omega) (fun c_74 => ?_) (fun c_74 => ?_)
            · skip
              refine q_iinc (k := 5) (lv' := [(4, .int (qI ((((i : Nat) : Int)) + (1)))), (5, .int (qI (0))), (0, .ref (x)), (1, .int (qI (z9))), (2, .ref (oc 0)), (3, .int (qI (((y : Nat) : Int))))]) hx hb dX7_culpritsOf_99 hl rfl (by decide) rfl (fun ls hl => ?_)
              refine lv_goto (tgt := 24) hx hb dX7_culpritsOf_102 (by decide) ?_
              exact ih_24 (i + 1) (y) (by omega) (by omega) (cul_no hy (by unfold culB; rw [t1]; rfl)) _ (lv_sub hl [2, 3, 4, 5, 0] rfl)
            · skip
              exact absurd c_74 (by decide)
          · skip
            have t1 : fOC (fil C nc E ne (-1)) i = true := (hF.2.1.2 i).symm.trans (tN1 c_46)
            have b1 := tnR i (by omega)
            have b2 := tnR k (by omega)
            refine lv_aload_n hx hb dX7_culpritsOf_49 rfl (lv_at hl 2 rfl) ?_
            refine gf_X7_294 hx hb hg hown hK (fl_blk hP 2 rfl) 0 rfl rfl dX7_culpritsOf_50 ?_
            refine lv_iload hx hb dX7_culpritsOf_53 (lv_at hl 4 rfl) ?_
            refine q_iald (j := i) hx hb hK (fl_blk hP 2 rfl) 2 rfl (by omega) dX7_culpritsOf_55 ?_
            refine lv_aload_n hx hb dX7_culpritsOf_56 rfl (lv_at hl 2 rfl) ?_
            refine gf_X7_294 hx hb hg hown hK (fl_blk hP 2 rfl) 0 rfl rfl dX7_culpritsOf_57 ?_
            refine lv_iload_n hx hb dX7_culpritsOf_60 rfl (lv_at hl 1 rfl) ?_
            refine q_iald (j := k) hx hb hK (fl_blk hP 2 rfl) 2 rfl (by omega) dX7_culpritsOf_61 ?_
            refine q_icmp_ge (tgt := 69) hx hb dX7_culpritsOf_62 (by decide) (by omega) (fun c_62 => ?_) (fun c_62 => ?_)
            · skip
              have t2 : ¬ fTC (fil C nc E ne (-1)) i < fTC (fil C nc E ne (-1)) k := by rw [← (hF.2.2.1 i (by omega) (by omega)).2, ← (hF.2.2.1 k (by omega) (by omega)).2]; omega
              refine q_iconst hx hb dX7_culpritsOf_69 ?_
              refine lv_istore (lv' := [(5, .int (qI (0))), (0, .ref (x)), (1, .int (qI (z9))), (2, .ref (oc 0)), (3, .int (qI (((y : Nat) : Int)))), (4, .int (qI (((i : Nat) : Int))))]) hx hb dX7_culpritsOf_70 hl (by decide) rfl (fun ls hl => ?_)
              refine lv_iload hx hb dX7_culpritsOf_72 (lv_at hl 0 rfl) ?_
              refine q_if_eq (tgt := 99) hx hb dX7_culpritsOf_74 (by decide) (by omega) (fun c_74 => ?_) (fun c_74 => ?_)
              · skip
                refine q_iinc (k := 5) (lv' := [(4, .int (qI ((((i : Nat) : Int)) + (1)))), (5, .int (qI (0))), (0, .ref (x)), (1, .int (qI (z9))), (2, .ref (oc 0)), (3, .int (qI (((y : Nat) : Int))))]) hx hb dX7_culpritsOf_99 hl rfl (by decide) rfl (fun ls hl => ?_)
                refine lv_goto (tgt := 24) hx hb dX7_culpritsOf_102 (by decide) ?_
                exact ih_24 (i + 1) (y) (by omega) (by omega) (cul_no hy (by unfold culB; rw [decide_eq_false t2, Bool.and_false]; rfl)) _ (lv_sub hl [2, 3, 4, 5, 0] rfl)
              · skip
                exact absurd c_74 (by decide)
            · skip
              have t2 : fTC (fil C nc E ne (-1)) i < fTC (fil C nc E ne (-1)) k := by rw [← (hF.2.2.1 i (by omega) (by omega)).2, ← (hF.2.2.1 k (by omega) (by omega)).2]; omega
              refine q_iconst hx hb dX7_culpritsOf_65 ?_
              refine lv_goto (tgt := 70) hx hb dX7_culpritsOf_66 (by decide) ?_
              refine lv_istore (lv' := [(5, .int (qI (1))), (0, .ref (x)), (1, .int (qI (z9))), (2, .ref (oc 0)), (3, .int (qI (((y : Nat) : Int)))), (4, .int (qI (((i : Nat) : Int))))]) hx hb dX7_culpritsOf_70 hl (by decide) rfl (fun ls hl => ?_)
              refine lv_iload hx hb dX7_culpritsOf_72 (lv_at hl 0 rfl) ?_
              refine q_if_eq (tgt := 99) hx hb dX7_culpritsOf_74 (by decide) (by omega) (fun c_74 => ?_) (fun c_74 => ?_)
              · skip
                exact absurd c_74 (by decide)
              · skip
                refine lv_aload_n hx hb dX7_culpritsOf_77 rfl (lv_at hl 1 rfl) ?_
                refine gf_X7_36 hx hb hg hown hK (fl_blk hP 0 rfl) 0 rfl rfl dX7_culpritsOf_78 ?_
                refine lv_iload hx hb dX7_culpritsOf_81 (lv_at hl 5 rfl) ?_
                refine q_iald (j := i) hx hb hK (fl_blk hP 5 rfl) 0 rfl (by omega) dX7_culpritsOf_83 ?_
                obtain ⟨Fw, e9, f9, g9⟩ := hw i (by omega)
                refine q_topZ (y := ((Fw : Nat) : Int)) e9 ?_
                refine lv_iload_n hx hb dX7_culpritsOf_84 rfl (lv_at hl 2 rfl) ?_
                refine q_ishr (F := Fw) (k := k) hx hb (by omega) dX7_culpritsOf_85 ?_
                refine q_iconst hx hb dX7_culpritsOf_86 ?_
                refine q_iand (F := (Fw) / 2 ^ (k)) (k := 1) hx hb (by omega) dX7_culpritsOf_87 ?_
                refine q_iconst hx hb dX7_culpritsOf_88 ?_
                have z3 : (Fw / 2 ^ k &&& 1) ≤ 1 := Nat.and_le_right
                refine q_icmp_ne (tgt := 99) hx hb dX7_culpritsOf_89 (by decide) (by omega) (fun c_89 => ?_) (fun c_89 => ?_)
                · skip
                  have t3 : fOC (fil C nc E ne (i : Int)) k = false := (g9 k).symm.trans (tN0' c_89)
                  refine q_iinc (k := 5) (lv' := [(4, .int (qI ((((i : Nat) : Int)) + (1)))), (5, .int (qI (1))), (0, .ref (x)), (1, .int (qI (z9))), (2, .ref (oc 0)), (3, .int (qI (((y : Nat) : Int))))]) hx hb dX7_culpritsOf_99 hl rfl (by decide) rfl (fun ls hl => ?_)
                  refine lv_goto (tgt := 24) hx hb dX7_culpritsOf_102 (by decide) ?_
                  exact ih_24 (i + 1) (y) (by omega) (by omega) (cul_no hy (by unfold culB; rw [t3, Bool.and_false])) _ (lv_sub hl [2, 3, 4, 5, 0] rfl)
                · skip
                  have t3 : fOC (fil C nc E ne (i : Int)) k = true := (g9 k).symm.trans (tN1' c_89)
                  refine lv_iload_n hx hb dX7_culpritsOf_92 rfl (lv_at hl 4 rfl) ?_
                  refine q_iconst hx hb dX7_culpritsOf_93 ?_
                  refine lv_iload hx hb dX7_culpritsOf_94 (lv_at hl 5 rfl) ?_
                  refine q_ishl (F := 1) (k := i) hx hb (by omega) (by have := Nat.pow_lt_pow_right (a := 2) (by decide) (show i < 16 by omega); omega) dX7_culpritsOf_96 ?_
                  refine q_ior (F := y) (k := (1) * 2 ^ (i)) hx hb (by omega) dX7_culpritsOf_97 ?_
                  refine lv_istore_n (lv' := [(3, .int (qI ((((y) ||| ((1) * 2 ^ (i)) : Nat) : Int)))), (5, .int (qI (1))), (0, .ref (x)), (1, .int (qI (z9))), (2, .ref (oc 0)), (4, .int (qI (((i : Nat) : Int))))]) hx hb dX7_culpritsOf_98 rfl hl (by decide) rfl (fun ls hl => ?_)
                  refine q_iinc (k := 5) (lv' := [(4, .int (qI ((((i : Nat) : Int)) + (1)))), (3, .int (qI ((((y) ||| ((1) * 2 ^ (i)) : Nat) : Int)))), (5, .int (qI (1))), (0, .ref (x)), (1, .int (qI (z9))), (2, .ref (oc 0))]) hx hb dX7_culpritsOf_99 hl rfl (by decide) rfl (fun ls hl => ?_)
                  refine lv_goto (tgt := 24) hx hb dX7_culpritsOf_102 (by decide) ?_
                  exact ih_24 (i + 1) (y ||| 1 * 2 ^ i) (by omega) (by omega) ((congrArg (fun z => y ||| z) (Nat.one_mul _)).trans (cul_up hy (by unfold culB; rw [t1, decide_eq_true t2, t3]; rfl))) _ (lv_sub hl [3, 4, 5, 1, 0] rfl)
    exact L_24 (nc + 1) (0) (0) (by omega) (by omega) rfl _ (lv_sub hl [3, 4, 2, 1, 0] rfl)
  · skip
    refine q_iconst hx hb dX7_culpritsOf_17 ?_
    exact hQ _ _ _ (by unfold culA; rw [if_pos ((hF.2.1.2 k).symm.trans (tN1 c_14))]; rfl) dX7_culpritsOf_18
