/-! ===== the reference's filling ===== -/
def mRel (S : FS) (g : Nat → Int) (t : Int) (isF : Nat → Bool) (mg tn : Nat → Int) (isE : Nat → Bool) (mE : Nat → Int) : Prop := qEq (mM g) (fM S) ∧ t = fT S ∧ isF = fOC S ∧ mg = fGC S ∧ tn = fTC S ∧ isE = fOE S ∧ mE = fGE S
theorem mRel.stC {S : FS} {g : Nat → Int} {t : Int} {isF : Nat → Bool} {mg tn : Nat → Int} {isE : Nat → Bool} {mE : Nat → Int} (h : mRel S g t isF mg tn isE mE) {C : Nat → Nat → Int} {n k : Nat} (hW : qWR C n) (hk : k < n) {u : (Nat → Int) × Bool × Int} (hu : qEq (mM u.1) (oM (mM g) C k) ∧ u.2.1 = oOk (mM g) C k ∧ u.2.2 = oMg (mM g) C k) : mRel (stC C k S) u.1 (t + 1) (qu isF k u.2.1) (qu mg k u.2.2) (qu tn k t) isE mE := by
  obtain ⟨h1, h2, h3, h4, h5, h6, h7⟩ := h
  obtain ⟨u1, u2, u3⟩ := hu
  refine ⟨u1.trans (oM_eq h1 hW hk), by rw [h2]; rfl, ?_, ?_, ?_, h6, h7⟩
  · rw [u2, h3, oOk_eq h1 hW hk]; rfl
  · rw [u3, h4, oMg_eq h1 hW hk]; rfl
  · rw [h5, h2]; rfl
theorem mRel.stE {S : FS} {g : Nat → Int} {t : Int} {isF : Nat → Bool} {mg tn : Nat → Int} {isE : Nat → Bool} {mE : Nat → Int} (h : mRel S g t isF mg tn isE mE) {E : Nat → Nat → Int} {n k : Nat} (hW : qWR E n) (hk : k < n) {u : (Nat → Int) × Bool × Int} (hu : qEq (mM u.1) (oM (mM g) E k) ∧ u.2.1 = oOk (mM g) E k ∧ u.2.2 = oMg (mM g) E k) : mRel (stE E k S) u.1 (t + 1) isF mg tn (qu isE k u.2.1) (qu mE k u.2.2) := by
  obtain ⟨h1, h2, h3, h4, h5, h6, h7⟩ := h
  obtain ⟨u1, u2, u3⟩ := hu
  refine ⟨u1.trans (oM_eq h1 hW hk), by rw [h2]; rfl, h3, h4, h5, ?_, ?_⟩
  · rw [u2, h6, oOk_eq h1 hW hk]; rfl
  · rw [u3, h7, oMg_eq h1 hW hk]; rfl
/-- what the reference holds of a filling -/
def mCan (z : Nat → Int) (nc ne : Nat) (but : Int) (g : Nat → Int) (isF : Nat → Bool) (mg tn : Nat → Int) (isE : Nat → Bool) (mE : Nat → Int) : Prop := qEq (mM g) (fM (fil (zC z) nc (zE z) ne but)) ∧ (∀ i, i < nc → (i : Int) ≠ but → isF i = fOC (fil (zC z) nc (zE z) ne but) i ∧ mg i = fGC (fil (zC z) nc (zE z) ne but) i ∧ tn i = fTC (fil (zC z) nc (zE z) ne but) i) ∧ ∀ i, i < ne → isE i = fOE (fil (zC z) nc (zE z) ne but) i ∧ mE i = fGE (fil (zC z) nc (zE z) ne but) i
theorem mRel.can {z : Nat → Int} {nc ne : Nat} {but : Int} {g : Nat → Int} {t : Int} {isF0 isF : Nat → Bool} {mg0 tn0 mg tn : Nat → Int} {isE0 isE : Nat → Bool} {mE0 mE : Nat → Int} (hC : qWR (zC z) nc) (hE : qWR (zE z) ne) (h : mRel (loS (zE z) ne (zC z) nc but 4 (tg0, 0, isF0, mg0, tn0, isE0, mE0)) g t isF mg tn isE mE) : mCan z nc ne but g isF mg tn isE mE := by
  obtain ⟨h1, h2, h3, h4, h5, h6, h7⟩ := h
  obtain ⟨g1, g2, g3⟩ := loS_ind (S := (tg0, 0, isF0, mg0, tn0, isE0, mE0)) (T := (tg0, 0, fF, fz, fz, fF, fz)) ⟨rfl, rfl⟩ (zE z) ne (zC z) nc but 4
  refine ⟨by rw [show fM (fil (zC z) nc (zE z) ne but) = _ from g1.1.symm]; exact h1, fun i hi hb => ?_, fun i hi => ?_⟩
  · have q := g2 i (Or.inl ⟨hi, hb, by have := hC i hi; omega, by have := hC i hi; omega⟩)
    exact ⟨by rw [h3]; exact q.1, by rw [h4]; exact q.2.1, by rw [h5]; exact q.2.2⟩
  · have q := g3 i (Or.inl ⟨hi, by have := hE i hi; omega, by have := hE i hi; omega⟩)
    exact ⟨by rw [h6]; exact q.1, by rw [h7]; exact q.2⟩

theorem ti_step {g : Nat → Int} {k : Nat} {v : Int} (h : ∀ m, m < k → g m = tg0 (m / 11) (m % 11)) (hv : v = tg0 (k / 11) (k % 11)) : ∀ m, m < k + 1 → qu g k v m = tg0 (m / 11) (m % 11) := by
  intro m hm
  by_cases e : m = k
  · subst e
    rw [qu_s, hv]
  · rw [qu_n _ _ e]
    exact h m (by omega)
theorem ti_end {g : Nat → Int} (h : ∀ m, m < 121 → g m = tg0 (m / 11) (m % 11)) : qEq (mM g) tg0 := by
  intro i j hi hj
  unfold mM
  rw [h _ (by omega), show (11 * i + j) / 11 = i by omega, show (11 * i + j) % 11 = j by omega]

set_option maxRecDepth 100000 in
set_option maxHeartbeats 4000000 in
theorem c_X8_fill (l : Launch) (D : va_G) (cy : Nat → ClassId) (mo mz msv mtx mmo mif mmg mtn mie mme mrd mas : Nat) (th sv ml tu : Int) (fi : Bool) (ro sp it : Int) (bl : Bool) (hh : Int64) (z : Nat → Int) (nc ne : Nat) (g : Nat → Int) (isF : Nat → Bool) (mg tn : Nat → Int) (isE : Nat → Bool) (mE : Nat → Int) (hnc : z 20 = (nc : Int)) (hne : z 101 = (ne : Int)) (hc : nc ≤ 16) (he : ne ≤ 4) (hC : qWR (zC z) nc) (hE : qWR (zE z) ne) (but : Int) (hbut : -1 ≤ but ∧ but ≤ 16) (sz : Nat) : qMet l yX8_fill (.code yX8_fill cX8_fill 5 none) 4 [.ref (mo), .int (qI (but))] D cy [[(mo, .inr (8, [.int (qI (th)), .ref (mz), .int (qI (sv)), .ref (msv), .int (qI (ml)), .ref (mtx), .ref (mmo), .int (qI (tu)), .ref (mif), .ref (mmg), .ref (mtn), .ref (mie), .ref (mme), .int (qz (fi)), .int (qI (ro)), .int (qI (sp)), .int (qI (it)), .int (qz (bl)), .ref (mrd), .ref (mas), .long (hh)]))], [(mz, aI cy 115 (z))], [(mmo, aI cy 121 (g))], [(mif, aZ cy 16 (isF))], [(mmg, aI cy 16 (mg))], [(mtn, aI cy 16 (tn))], [(mie, aZ cy 4 (isE))], [(mme, aI cy 4 (mE))]] sz (va_Qv (S := (Nat → Int) × Int × (Nat → Bool) × (Nat → Int) × (Nat → Int) × (Nat → Bool) × (Nat → Int) × Bool × Int) (fun u => mCan z nc ne but u.1 u.2.2.1 u.2.2.2.1 u.2.2.2.2.1 u.2.2.2.2.2.1 u.2.2.2.2.2.2.1) (qB D cy [[(mo, .inr (8, [.int (qI (th)), .ref (mz), .int (qI (sv)), .ref (msv), .int (qI (ml)), .ref (mtx), .ref (mmo), .int (qI (tu)), .ref (mif), .ref (mmg), .ref (mtn), .ref (mie), .ref (mme), .int (qz (fi)), .int (qI (ro)), .int (qI (sp)), .int (qI (it)), .int (qz (bl)), .ref (mrd), .ref (mas), .long (hh)]))], [(mz, aI cy 115 (z))], [(mmo, aI cy 121 (g))], [(mif, aZ cy 16 (isF))], [(mmg, aI cy 16 (mg))], [(mtn, aI cy 16 (tn))], [(mie, aZ cy 4 (isE))], [(mme, aI cy 4 (mE))]] sz (fun u => [[(mo, .inr (8, [.int (qI (th)), .ref (mz), .int (qI (sv)), .ref (msv), .int (qI (ml)), .ref (mtx), .ref (mmo), .int (qI (u.2.1)), .ref (mif), .ref (mmg), .ref (mtn), .ref (mie), .ref (mme), .int (qz (u.2.2.2.2.2.2.2.1)), .int (qI (u.2.2.2.2.2.2.2.2)), .int (qI (sp)), .int (qI (it)), .int (qz (bl)), .ref (mrd), .ref (mas), .long (hh)]))], [(mz, aI cy 115 (z))], [(mmo, aI cy 121 (u.1))], [(mif, aZ cy 16 (u.2.2.1))], [(mmg, aI cy 16 (u.2.2.2.1))], [(mtn, aI cy 16 (u.2.2.2.2.1))], [(mie, aZ cy 4 (u.2.2.2.2.2.1))], [(mme, aI cy 4 (u.2.2.2.2.2.2.1))]])) (va_A [[(mo, .inr (8, [.int (qI (th)), .ref (mz), .int (qI (sv)), .ref (msv), .int (qI (ml)), .ref (mtx), .ref (mmo), .int (qI (tu)), .ref (mif), .ref (mmg), .ref (mtn), .ref (mie), .ref (mme), .int (qz (fi)), .int (qI (ro)), .int (qI (sp)), .int (qI (it)), .int (qz (bl)), .ref (mrd), .ref (mas), .long (hh)]))], [(mz, aI cy 115 (z))], [(mmo, aI cy 121 (g))], [(mif, aZ cy 16 (isF))], [(mmg, aI cy 16 (mg))], [(mtn, aI cy 16 (tn))], [(mie, aZ cy 4 (isE))], [(mme, aI cy 4 (mE))]].flatten sz)) := by
  refine q_ofMv (S := (Nat → Int) × Int × (Nat → Bool) × (Nat → Int) × (Nat → Int) × (Nat → Bool) × (Nat → Int) × Bool × Int) (b1 := fun u => [[(mo, .inr (8, [.int (qI (th)), .ref (mz), .int (qI (sv)), .ref (msv), .int (qI (ml)), .ref (mtx), .ref (mmo), .int (qI (u.2.1)), .ref (mif), .ref (mmg), .ref (mtn), .ref (mie), .ref (mme), .int (qz (u.2.2.2.2.2.2.2.1)), .int (qI (u.2.2.2.2.2.2.2.2)), .int (qI (sp)), .int (qI (it)), .int (qz (bl)), .ref (mrd), .ref (mas), .long (hh)]))], [(mz, aI cy 115 (z))], [(mmo, aI cy 121 (u.1))], [(mif, aZ cy 16 (u.2.2.1))], [(mmg, aI cy 16 (u.2.2.2.1))], [(mtn, aI cy 16 (u.2.2.2.2.1))], [(mie, aZ cy 4 (u.2.2.2.2.2.1))], [(mme, aI cy 4 (u.2.2.2.2.2.2.1))]]) (post := fun u => mCan z nc ne but u.1 u.2.2.1 u.2.2.2.1 u.2.2.2.2.1 u.2.2.2.2.2.1 u.2.2.2.2.2.2.1) (by decide +kernel) (Nat.le_of_ble_eq_true rfl) ?_
  intro p e s m args below meth c Q A hx hb hml hown hg hQ hK hN hD hA H locs ls hP hS hl
  have hown : s.vm.findClass RX8 = some m.cls := hown
  have hl : lv_has ls 5 [(0, .ref (mo)), (1, .int (qI (but)))] := hl
  refine q_iconst hx hb dX8_fill_0 ?_
  refine lv_istore_n (lv' := [(2, .int (qI (0))), (0, .ref (mo)), (1, .int (qI (but)))]) hx hb dX8_fill_1 rfl hl (by decide) rfl (fun ls hl => ?_)
  have L_2 : ∀ (n_2 k : Nat) (g1 : Nat → Int), k ≤ 121 → 121 + 1 ≤ k + n_2 → (∀ m, m < k → g1 m = tg0 (m / 11) (m % 11)) → ∀ (H : Heap) (locs : List Loc) (ls : Array Slot), va_P D vwCl [[(mo, .inr (8, [.int (qI (th)), .ref (mz), .int (qI (sv)), .ref (msv), .int (qI (ml)), .ref (mtx), .ref (mmo), .int (qI (tu)), .ref (mif), .ref (mmg), .ref (mtn), .ref (mie), .ref (mme), .int (qz (fi)), .int (qI (ro)), .int (qI (sp)), .int (qI (it)), .int (qz (bl)), .ref (mrd), .ref (mas), .long (hh)]))], [(mz, aI cy 115 (z))], [(mmo, aI cy 121 (g1))], [(mif, aZ cy 16 (isF))], [(mmg, aI cy 16 (mg))], [(mtn, aI cy 16 (tn))], [(mie, aZ cy 4 (isE))], [(mme, aI cy 4 (mE))]].flatten H → va_D A [[(mo, .inr (8, [.int (qI (th)), .ref (mz), .int (qI (sv)), .ref (msv), .int (qI (ml)), .ref (mtx), .ref (mmo), .int (qI (tu)), .ref (mif), .ref (mmg), .ref (mtn), .ref (mie), .ref (mme), .int (qz (fi)), .int (qI (ro)), .int (qI (sp)), .int (qI (it)), .int (qz (bl)), .ref (mrd), .ref (mas), .long (hh)]))], [(mz, aI cy 115 (z))], [(mmo, aI cy 121 (g1))], [(mif, aZ cy 16 (isF))], [(mmg, aI cy 16 (mg))], [(mtn, aI cy 16 (tn))], [(mie, aZ cy 4 (isE))], [(mme, aI cy 4 (mE))]].flatten → va_S A s.heap H locs → lv_has ls 5 [(0, .ref (mo)), (1, .int (qI (but))), (2, .int (qI (((k : Nat) : Int))))] → W p l e (qrm 4) s m args below meth c H locs 0 0 Q (F0 m 2 ls []) := by
    intro n_2
    induction n_2 with
    | zero => intro k _ h1 h2; exact absurd h2 (by omega)
    | succ n_2 ih_2 =>
      intro k g1 hk_2 hn_2 hI H locs ls hP hD hS hl
      refine lv_iload_n hx hb dX8_fill_2 rfl (lv_at hl 2 rfl) ?_
      refine q_bipush hx hb dX8_fill_3 (by decide) ?_
      refine q_icmp_ge (tgt := 63) hx hb dX8_fill_5 (by decide) (by omega) (fun c_5 => ?_) (fun c_5 => ?_)
      · skip
        refine lv_aload_n hx hb dX8_fill_63 rfl (lv_at hl 0 rfl) ?_
        refine q_iconst hx hb dX8_fill_64 ?_
        refine pf_X8_63 hx hb hg hown hK hP hD hS 0 0 rfl rfl rfl rfl (Nat.le_of_ble_eq_true rfl) dX8_fill_65 (fun H locs hP hD hS => ?_)
        have hP : va_P D vwCl [[(mo, .inr (8, [.int (qI (th)), .ref (mz), .int (qI (sv)), .ref (msv), .int (qI (ml)), .ref (mtx), .ref (mmo), .int (qI (0)), .ref (mif), .ref (mmg), .ref (mtn), .ref (mie), .ref (mme), .int (qz (fi)), .int (qI (ro)), .int (qI (sp)), .int (qI (it)), .int (qz (bl)), .ref (mrd), .ref (mas), .long (hh)]))], [(mz, aI cy 115 (z))], [(mmo, aI cy 121 (g1))], [(mif, aZ cy 16 (isF))], [(mmg, aI cy 16 (mg))], [(mtn, aI cy 16 (tn))], [(mie, aZ cy 4 (isE))], [(mme, aI cy 4 (mE))]].flatten H := hP
        have hD : va_D A [[(mo, .inr (8, [.int (qI (th)), .ref (mz), .int (qI (sv)), .ref (msv), .int (qI (ml)), .ref (mtx), .ref (mmo), .int (qI (0)), .ref (mif), .ref (mmg), .ref (mtn), .ref (mie), .ref (mme), .int (qz (fi)), .int (qI (ro)), .int (qI (sp)), .int (qI (it)), .int (qz (bl)), .ref (mrd), .ref (mas), .long (hh)]))], [(mz, aI cy 115 (z))], [(mmo, aI cy 121 (g1))], [(mif, aZ cy 16 (isF))], [(mmg, aI cy 16 (mg))], [(mtn, aI cy 16 (tn))], [(mie, aZ cy 4 (isE))], [(mme, aI cy 4 (mE))]].flatten := hD
        refine q_iconst hx hb dX8_fill_68 ?_
        refine lv_istore_n (lv' := [(2, .int (qI (3))), (0, .ref (mo)), (1, .int (qI (but)))]) hx hb dX8_fill_69 rfl hl (by decide) rfl (fun ls hl => ?_)
        have L_70 : ∀ (n_70 j : Nat) (x3 : Int) (g1 : Nat → Int) (t1 : Int) (isF1 : Nat → Bool) (mg1 : Nat → Int) (tn1 : Nat → Int) (isE1 : Nat → Bool) (mE1 : Nat → Int) (fi1 : Bool) (ro1 : Int), j ≤ 4 → 4 + 1 ≤ j + n_70 → (x3 = 3 - (j : Int)) → (mRel (loS (zE z) ne (zC z) nc but j (tg0, 0, isF, mg, tn, isE, mE)) g1 t1 isF1 mg1 tn1 isE1 mE1) → ∀ (H : Heap) (locs : List Loc) (ls : Array Slot), va_P D vwCl [[(mo, .inr (8, [.int (qI (th)), .ref (mz), .int (qI (sv)), .ref (msv), .int (qI (ml)), .ref (mtx), .ref (mmo), .int (qI (t1)), .ref (mif), .ref (mmg), .ref (mtn), .ref (mie), .ref (mme), .int (qz (fi1)), .int (qI (ro1)), .int (qI (sp)), .int (qI (it)), .int (qz (bl)), .ref (mrd), .ref (mas), .long (hh)]))], [(mz, aI cy 115 (z))], [(mmo, aI cy 121 (g1))], [(mif, aZ cy 16 (isF1))], [(mmg, aI cy 16 (mg1))], [(mtn, aI cy 16 (tn1))], [(mie, aZ cy 4 (isE1))], [(mme, aI cy 4 (mE1))]].flatten H → va_D A [[(mo, .inr (8, [.int (qI (th)), .ref (mz), .int (qI (sv)), .ref (msv), .int (qI (ml)), .ref (mtx), .ref (mmo), .int (qI (t1)), .ref (mif), .ref (mmg), .ref (mtn), .ref (mie), .ref (mme), .int (qz (fi1)), .int (qI (ro1)), .int (qI (sp)), .int (qI (it)), .int (qz (bl)), .ref (mrd), .ref (mas), .long (hh)]))], [(mz, aI cy 115 (z))], [(mmo, aI cy 121 (g1))], [(mif, aZ cy 16 (isF1))], [(mmg, aI cy 16 (mg1))], [(mtn, aI cy 16 (tn1))], [(mie, aZ cy 4 (isE1))], [(mme, aI cy 4 (mE1))]].flatten → va_S A s.heap H locs → lv_has ls 5 [(0, .ref (mo)), (1, .int (qI (but))), (2, .int (qI (x3)))] → W p l e (qrm 4) s m args below meth c H locs 0 0 Q (F0 m 70 ls []) := by
          intro n_70
          induction n_70 with
          | zero => intro j _ _ _ _ _ _ _ _ _ _ h1 h2; exact absurd h2 (by omega)
          | succ n_70 ih_70 =>
            intro j x3 g1 t1 isF1 mg1 tn1 isE1 mE1 fi1 ro1 hk_70 hn_70 hx3 hR H locs ls hP hD hS hl
            refine lv_iload_n hx hb dX8_fill_70 rfl (lv_at hl 2 rfl) ?_
            refine q_if_lt (tgt := 259) hx hb dX8_fill_71 (by decide) (by omega) (fun c_71 => ?_) (fun c_71 => ?_)
            · skip
              have e9 : j = 4 := by omega
              subst e9
              exact hQ _ _ _ _ (g1, t1, isF1, mg1, tn1, isE1, mE1, fi1, ro1) (mRel.can hC hE hR) hP hD hS dX8_fill_259
            · skip
              refine q_iconst hx hb dX8_fill_74 ?_
              refine lv_istore_n (lv' := [(3, .int (qI (0))), (0, .ref (mo)), (1, .int (qI (but))), (2, .int (qI (x3)))]) hx hb dX8_fill_75 rfl hl (by decide) rfl (fun ls hl => ?_)
              have L_76 : ∀ (n_76 k : Nat) (g1 : Nat → Int) (t1 : Int) (isF1 : Nat → Bool) (mg1 : Nat → Int) (tn1 : Nat → Int) (isE1 : Nat → Bool) (mE1 : Nat → Int) (fi1 : Bool) (ro1 : Int), k ≤ ne → ne + 1 ≤ k + n_76 → (mRel (loE (zE z) (3 - (j : Int)) k (loS (zE z) ne (zC z) nc but j (tg0, 0, isF, mg, tn, isE, mE))) g1 t1 isF1 mg1 tn1 isE1 mE1) → ∀ (H : Heap) (locs : List Loc) (ls : Array Slot), va_P D vwCl [[(mo, .inr (8, [.int (qI (th)), .ref (mz), .int (qI (sv)), .ref (msv), .int (qI (ml)), .ref (mtx), .ref (mmo), .int (qI (t1)), .ref (mif), .ref (mmg), .ref (mtn), .ref (mie), .ref (mme), .int (qz (fi1)), .int (qI (ro1)), .int (qI (sp)), .int (qI (it)), .int (qz (bl)), .ref (mrd), .ref (mas), .long (hh)]))], [(mz, aI cy 115 (z))], [(mmo, aI cy 121 (g1))], [(mif, aZ cy 16 (isF1))], [(mmg, aI cy 16 (mg1))], [(mtn, aI cy 16 (tn1))], [(mie, aZ cy 4 (isE1))], [(mme, aI cy 4 (mE1))]].flatten H → va_D A [[(mo, .inr (8, [.int (qI (th)), .ref (mz), .int (qI (sv)), .ref (msv), .int (qI (ml)), .ref (mtx), .ref (mmo), .int (qI (t1)), .ref (mif), .ref (mmg), .ref (mtn), .ref (mie), .ref (mme), .int (qz (fi1)), .int (qI (ro1)), .int (qI (sp)), .int (qI (it)), .int (qz (bl)), .ref (mrd), .ref (mas), .long (hh)]))], [(mz, aI cy 115 (z))], [(mmo, aI cy 121 (g1))], [(mif, aZ cy 16 (isF1))], [(mmg, aI cy 16 (mg1))], [(mtn, aI cy 16 (tn1))], [(mie, aZ cy 4 (isE1))], [(mme, aI cy 4 (mE1))]].flatten → va_S A s.heap H locs → lv_has ls 5 [(0, .ref (mo)), (1, .int (qI (but))), (2, .int (qI (x3))), (3, .int (qI (((k : Nat) : Int))))] → W p l e (qrm 4) s m args below meth c H locs 0 0 Q (F0 m 76 ls []) := by
                intro n_76
                induction n_76 with
                | zero => intro k _ _ _ _ _ _ _ _ _ h1 h2; exact absurd h2 (by omega)
                | succ n_76 ih_76 =>
                  intro k g1 t1 isF1 mg1 tn1 isE1 mE1 fi1 ro1 hk_76 hn_76 hR H locs ls hP hD hS hl
                  have fo := loS_ok (but := but) (E := zE z) (C := zC z) (ne := ne) (nc := nc) (S := (tg0, 0, isF, mg, tn, isE, mE)) (b := 0) ⟨tg0_cl, Int.le_refl 0, Int.le_refl 0⟩ hE hC (by omega) hc j
                  have fo := loE_ok (str := 3 - j) fo hE k hk_76
                  have cl9 : qCl (mM g1) := qEq.cl hR.1.symm fo.1
                  have t9 := hR.2.1
                  have t8 := fo.2
                  refine lv_iload_n hx hb dX8_fill_76 rfl (lv_at hl 3 rfl) ?_
                  refine lv_aload_n hx hb dX8_fill_77 rfl (lv_at hl 0 rfl) ?_
                  refine gf_X8_7 hx hb hg hown hK (fl_blk hP 0 rfl) 0 rfl rfl dX8_fill_78 ?_
                  refine q_bipush hx hb dX8_fill_81 (by decide) ?_
                  refine q_iald (j := 101) hx hb hK (fl_blk hP 1 rfl) 0 rfl (by omega) dX8_fill_83 ?_
                  refine q_icmp_ge (tgt := 151) hx hb dX8_fill_84 (by decide) (by omega) (fun c_84 => ?_) (fun c_84 => ?_)
                  · skip
                    refine q_iconst hx hb dX8_fill_151 ?_
                    refine lv_istore_n (lv' := [(3, .int (qI (0))), (0, .ref (mo)), (1, .int (qI (but))), (2, .int (qI (x3)))]) hx hb dX8_fill_152 rfl hl (by decide) rfl (fun ls hl => ?_)
                    have L_153 : ∀ (n_153 k : Nat) (g1 : Nat → Int) (t1 : Int) (isF1 : Nat → Bool) (mg1 : Nat → Int) (tn1 : Nat → Int) (isE1 : Nat → Bool) (mE1 : Nat → Int) (fi1 : Bool) (ro1 : Int), k ≤ nc → nc + 1 ≤ k + n_153 → (mRel (loC (zC z) but (3 - (j : Int)) k (loE (zE z) (3 - (j : Int)) ne (loS (zE z) ne (zC z) nc but j (tg0, 0, isF, mg, tn, isE, mE)))) g1 t1 isF1 mg1 tn1 isE1 mE1) → ∀ (H : Heap) (locs : List Loc) (ls : Array Slot), va_P D vwCl [[(mo, .inr (8, [.int (qI (th)), .ref (mz), .int (qI (sv)), .ref (msv), .int (qI (ml)), .ref (mtx), .ref (mmo), .int (qI (t1)), .ref (mif), .ref (mmg), .ref (mtn), .ref (mie), .ref (mme), .int (qz (fi1)), .int (qI (ro1)), .int (qI (sp)), .int (qI (it)), .int (qz (bl)), .ref (mrd), .ref (mas), .long (hh)]))], [(mz, aI cy 115 (z))], [(mmo, aI cy 121 (g1))], [(mif, aZ cy 16 (isF1))], [(mmg, aI cy 16 (mg1))], [(mtn, aI cy 16 (tn1))], [(mie, aZ cy 4 (isE1))], [(mme, aI cy 4 (mE1))]].flatten H → va_D A [[(mo, .inr (8, [.int (qI (th)), .ref (mz), .int (qI (sv)), .ref (msv), .int (qI (ml)), .ref (mtx), .ref (mmo), .int (qI (t1)), .ref (mif), .ref (mmg), .ref (mtn), .ref (mie), .ref (mme), .int (qz (fi1)), .int (qI (ro1)), .int (qI (sp)), .int (qI (it)), .int (qz (bl)), .ref (mrd), .ref (mas), .long (hh)]))], [(mz, aI cy 115 (z))], [(mmo, aI cy 121 (g1))], [(mif, aZ cy 16 (isF1))], [(mmg, aI cy 16 (mg1))], [(mtn, aI cy 16 (tn1))], [(mie, aZ cy 4 (isE1))], [(mme, aI cy 4 (mE1))]].flatten → va_S A s.heap H locs → lv_has ls 5 [(0, .ref (mo)), (1, .int (qI (but))), (2, .int (qI (x3))), (3, .int (qI (((k : Nat) : Int))))] → W p l e (qrm 4) s m args below meth c H locs 0 0 Q (F0 m 153 ls []) := by
                      intro n_153
                      induction n_153 with
                      | zero => intro k _ _ _ _ _ _ _ _ _ h1 h2; exact absurd h2 (by omega)
                      | succ n_153 ih_153 =>
                        intro k g1 t1 isF1 mg1 tn1 isE1 mE1 fi1 ro1 hk_153 hn_153 hR H locs ls hP hD hS hl
                        have fo := loS_ok (but := but) (E := zE z) (C := zC z) (ne := ne) (nc := nc) (S := (tg0, 0, isF, mg, tn, isE, mE)) (b := 0) ⟨tg0_cl, Int.le_refl 0, Int.le_refl 0⟩ hE hC (by omega) hc j
                        have fo := loE_ok (str := 3 - j) fo hE ne (Nat.le_refl _)
                        have fo := loC_ok (but := but) (str := 3 - j) fo hC k hk_153
                        have cl9 : qCl (mM g1) := qEq.cl hR.1.symm fo.1
                        have t9 := hR.2.1
                        have t8 := fo.2
                        refine lv_iload_n hx hb dX8_fill_153 rfl (lv_at hl 3 rfl) ?_
                        refine lv_aload_n hx hb dX8_fill_154 rfl (lv_at hl 0 rfl) ?_
                        refine gf_X8_7 hx hb hg hown hK (fl_blk hP 0 rfl) 0 rfl rfl dX8_fill_155 ?_
                        refine q_bipush hx hb dX8_fill_158 (by decide) ?_
                        refine q_iald (j := 20) hx hb hK (fl_blk hP 1 rfl) 0 rfl (by omega) dX8_fill_160 ?_
                        refine q_icmp_ge (tgt := 253) hx hb dX8_fill_161 (by decide) (by omega) (fun c_161 => ?_) (fun c_161 => ?_)
                        · skip
                          refine q_iinc (k := 2) (lv' := [(2, .int (qI ((x3) + (-1)))), (0, .ref (mo)), (1, .int (qI (but))), (3, .int (qI (((k : Nat) : Int))))]) hx hb dX8_fill_253 hl rfl (by decide) rfl (fun ls hl => ?_)
                          refine lv_goto (tgt := 70) hx hb dX8_fill_256 (by decide) ?_
                          exact ih_70 (j + 1) _ _ _ _ _ _ _ _ _ _ (by omega) (by omega) (by omega) (by subst hx3; rw [show k = nc by omega] at hR; exact hR) _ _ _ hP hD hS (lv_sub hl [1, 2, 0] rfl)
                        · skip
                          refine lv_iload_n hx hb dX8_fill_164 rfl (lv_at hl 3 rfl) ?_
                          refine lv_iload_n hx hb dX8_fill_165 rfl (lv_at hl 1 rfl) ?_
                          refine q_icmp_eq (tgt := 247) hx hb dX8_fill_166 (by decide) (by omega) (fun c_166 => ?_) (fun c_166 => ?_)
                          · skip
                            refine q_iinc (k := 3) (lv' := [(3, .int (qI ((((k : Nat) : Int)) + (1)))), (0, .ref (mo)), (1, .int (qI (but))), (2, .int (qI (x3)))]) hx hb dX8_fill_247 hl rfl (by decide) rfl (fun ls hl => ?_)
                            refine lv_goto (tgt := 153) hx hb dX8_fill_250 (by decide) ?_
                            exact ih_153 (k + 1) _ _ _ _ _ _ _ _ _ (by omega) (by omega) (by show mRel (if zC z 4 k = 3 - (j : Int) ∧ (k : Int) ≠ but then _ else _) _ _ _ _ _ _ _; rw [if_neg (by omega)]; exact hR) _ _ _ hP hD hS (lv_sub hl [1, 2, 3, 0] rfl)
                          · skip
                            refine lv_aload_n hx hb dX8_fill_169 rfl (lv_at hl 0 rfl) ?_
                            refine lv_iload_n hx hb dX8_fill_170 rfl (lv_at hl 3 rfl) ?_
                            refine q_iconst hx hb dX8_fill_171 ?_
                            refine q_readi (va_runV (As := [.int (qI (((k : Nat) : Int))), .int (qI (4))]) (rest := []) ⟨hx, hb, hml, hown, hg⟩ (c_X8_of l D cy mo mz msv mtx mmo mif mmg mtn mie mme mrd mas (th) (sv) (ml) (t1) (fi1) (ro1) (sp) (it) (bl) (hh) (z) _ _ k 4 (by omega) (by omega)) (cv_X8_74 hg rfl rfl ⟨by decide, by decide⟩) ⟨q_blind0, va_recv hK (fl_blk hP 0 rfl) (ci := 8) (q0 := 0) rfl rfl, q_preR _ hK hN hP [0, 1] rfl⟩ rfl rfl hl.1 rfl (lv_room (Nat.le_of_ble_eq_true rfl)) dX8_fill_172 ⟨by decide, by decide⟩) (fun r_172 h_172 => ?_)
                            subst h_172
                            refine lv_iload_n hx hb dX8_fill_175 rfl (lv_at hl 2 rfl) ?_
                            have hw := hC k (by omega)
                            refine q_icmp_ne (tgt := 247) hx hb dX8_fill_176 (by decide) (by omega) (fun c_176 => ?_) (fun c_176 => ?_)
                            · skip
                              refine q_iinc (k := 3) (lv' := [(3, .int (qI ((((k : Nat) : Int)) + (1)))), (0, .ref (mo)), (1, .int (qI (but))), (2, .int (qI (x3)))]) hx hb dX8_fill_247 hl rfl (by decide) rfl (fun ls hl => ?_)
                              refine lv_goto (tgt := 153) hx hb dX8_fill_250 (by decide) ?_
                              exact ih_153 (k + 1) _ _ _ _ _ _ _ _ _ (by omega) (by omega) (by show mRel (if zC z 4 k = 3 - (j : Int) ∧ (k : Int) ≠ but then _ else _) _ _ _ _ _ _ _; rw [if_neg (by omega)]; exact hR) _ _ _ hP hD hS (lv_sub hl [1, 2, 3, 0] rfl)
                            · skip
                              refine lv_aload_n hx hb dX8_fill_179 rfl (lv_at hl 0 rfl) ?_
                              refine lv_aload_n hx hb dX8_fill_180 rfl (lv_at hl 0 rfl) ?_
                              refine lv_iload_n hx hb dX8_fill_181 rfl (lv_at hl 3 rfl) ?_
                              refine q_iconst hx hb dX8_fill_182 ?_
                              refine q_readi (va_runV (As := [.int (qI (((k : Nat) : Int))), .int (qI (0))]) (rest := [.ref (mo)]) ⟨hx, hb, hml, hown, hg⟩ (c_X8_of l D cy mo mz msv mtx mmo mif mmg mtn mie mme mrd mas (th) (sv) (ml) (t1) (fi1) (ro1) (sp) (it) (bl) (hh) (z) _ _ k 0 (by omega) (by omega)) (cv_X8_74 hg rfl rfl ⟨by decide, by decide⟩) ⟨q_blind0, va_recv hK (fl_blk hP 0 rfl) (ci := 8) (q0 := 0) rfl rfl, q_preR _ hK hN hP [0, 1] rfl⟩ rfl rfl hl.1 rfl (lv_room (Nat.le_of_ble_eq_true rfl)) dX8_fill_183 ⟨by decide, by decide⟩) (fun r_183 h_183 => ?_)
                              subst h_183
                              refine lv_aload_n hx hb dX8_fill_186 rfl (lv_at hl 0 rfl) ?_
                              refine lv_iload_n hx hb dX8_fill_187 rfl (lv_at hl 3 rfl) ?_
                              refine q_iconst hx hb dX8_fill_188 ?_
                              refine q_readi (va_runV (As := [.int (qI (((k : Nat) : Int))), .int (qI (1))]) (rest := [.int (qI (zC z 0 k)), .ref (mo)]) ⟨hx, hb, hml, hown, hg⟩ (c_X8_of l D cy mo mz msv mtx mmo mif mmg mtn mie mme mrd mas (th) (sv) (ml) (t1) (fi1) (ro1) (sp) (it) (bl) (hh) (z) _ _ k 1 (by omega) (by omega)) (cv_X8_74 hg rfl rfl ⟨by decide, by decide⟩) ⟨q_blind0, va_recv hK (fl_blk hP 0 rfl) (ci := 8) (q0 := 0) rfl rfl, q_preR _ hK hN hP [0, 1] rfl⟩ rfl rfl hl.1 rfl (lv_room (Nat.le_of_ble_eq_true rfl)) dX8_fill_189 ⟨by decide, by decide⟩) (fun r_189 h_189 => ?_)
                              subst h_189
                              refine lv_aload_n hx hb dX8_fill_192 rfl (lv_at hl 0 rfl) ?_
                              refine lv_iload_n hx hb dX8_fill_193 rfl (lv_at hl 3 rfl) ?_
                              refine q_iconst hx hb dX8_fill_194 ?_
                              refine q_readi (va_runV (As := [.int (qI (((k : Nat) : Int))), .int (qI (2))]) (rest := [.int (qI (zC z 1 k)), .int (qI (zC z 0 k)), .ref (mo)]) ⟨hx, hb, hml, hown, hg⟩ (c_X8_of l D cy mo mz msv mtx mmo mif mmg mtn mie mme mrd mas (th) (sv) (ml) (t1) (fi1) (ro1) (sp) (it) (bl) (hh) (z) _ _ k 2 (by omega) (by omega)) (cv_X8_74 hg rfl rfl ⟨by decide, by decide⟩) ⟨q_blind0, va_recv hK (fl_blk hP 0 rfl) (ci := 8) (q0 := 0) rfl rfl, q_preR _ hK hN hP [0, 1] rfl⟩ rfl rfl hl.1 rfl (lv_room (Nat.le_of_ble_eq_true rfl)) dX8_fill_195 ⟨by decide, by decide⟩) (fun r_195 h_195 => ?_)
                              subst h_195
                              refine lv_aload_n hx hb dX8_fill_198 rfl (lv_at hl 0 rfl) ?_
                              refine lv_iload_n hx hb dX8_fill_199 rfl (lv_at hl 3 rfl) ?_
                              refine q_iconst hx hb dX8_fill_200 ?_
                              refine q_readi (va_runV (As := [.int (qI (((k : Nat) : Int))), .int (qI (3))]) (rest := [.int (qI (zC z 2 k)), .int (qI (zC z 1 k)), .int (qI (zC z 0 k)), .ref (mo)]) ⟨hx, hb, hml, hown, hg⟩ (c_X8_of l D cy mo mz msv mtx mmo mif mmg mtn mie mme mrd mas (th) (sv) (ml) (t1) (fi1) (ro1) (sp) (it) (bl) (hh) (z) _ _ k 3 (by omega) (by omega)) (cv_X8_74 hg rfl rfl ⟨by decide, by decide⟩) ⟨q_blind0, va_recv hK (fl_blk hP 0 rfl) (ci := 8) (q0 := 0) rfl rfl, q_preR _ hK hN hP [0, 1] rfl⟩ rfl rfl hl.1 rfl (lv_room (Nat.le_of_ble_eq_true rfl)) dX8_fill_201 ⟨by decide, by decide⟩) (fun r_201 h_201 => ?_)
                              subst h_201
                              refine q_backv [0, 2] [1, 3, 4, 5, 6, 7] (br := [[(mz, aI cy 115 (z))], [(mif, aZ cy 16 (isF1))], [(mmg, aI cy 16 (mg1))], [(mtn, aI cy 16 (tn1))], [(mie, aZ cy 4 (isE1))], [(mme, aI cy 4 (mE1))]]) hP hD hS hA (va_runV (As := [.int (qI (zC z 0 k)), .int (qI (zC z 1 k)), .int (qI (zC z 2 k)), .int (qI (zC z 3 k))]) (rest := []) ⟨hx, hb, hml, hown, hg⟩ (c_X8_fillOne l D cy mo mz msv mtx mmo mif mmg mtn mie mme mrd mas (th) (sv) (ml) (t1) (fi1) (ro1) (sp) (it) (bl) (hh) g1 _ _ _ _ (zC z) k nc rfl rfl rfl rfl (by omega) hC cl9 _) (cv_X8_70 hg rfl rfl ⟨by decide, by decide⟩) ⟨q_blind, va_recv hK (fl_blk hP 0 rfl) (ci := 8) (q0 := 0) rfl rfl, q_preM _ hK hN hP hD [0, 2] (by decide) rfl⟩ rfl rfl hl.1 rfl (lv_room (Nat.le_of_ble_eq_true rfl)) dX8_fill_204 ⟨by decide, by decide⟩) rfl rfl (by decide) (fun u_204 H locs h_204 hP hD hS => ?_)
                              have hP : va_P D vwCl [[(mz, aI cy 115 (z))], [(mif, aZ cy 16 (isF1))], [(mmg, aI cy 16 (mg1))], [(mtn, aI cy 16 (tn1))], [(mie, aZ cy 4 (isE1))], [(mme, aI cy 4 (mE1))], [(mo, .inr (8, [.int (qI (th)), .ref (mz), .int (qI (sv)), .ref (msv), .int (qI (ml)), .ref (mtx), .ref (mmo), .int (qI (t1)), .ref (mif), .ref (mmg), .ref (mtn), .ref (mie), .ref (mme), .int (qz (u_204.2.1)), .int (qI (u_204.2.2)), .int (qI (sp)), .int (qI (it)), .int (qz (bl)), .ref (mrd), .ref (mas), .long (hh)]))], [(mmo, aI cy 121 (u_204.1))]].flatten H := hP
                              have hD : va_D A [[(mz, aI cy 115 (z))], [(mif, aZ cy 16 (isF1))], [(mmg, aI cy 16 (mg1))], [(mtn, aI cy 16 (tn1))], [(mie, aZ cy 4 (isE1))], [(mme, aI cy 4 (mE1))], [(mo, .inr (8, [.int (qI (th)), .ref (mz), .int (qI (sv)), .ref (msv), .int (qI (ml)), .ref (mtx), .ref (mmo), .int (qI (t1)), .ref (mif), .ref (mmg), .ref (mtn), .ref (mie), .ref (mme), .int (qz (u_204.2.1)), .int (qI (u_204.2.2)), .int (qI (sp)), .int (qI (it)), .int (qz (bl)), .ref (mrd), .ref (mas), .long (hh)]))], [(mmo, aI cy 121 (u_204.1))]].flatten := hD
                              refine lv_aload_n hx hb dX8_fill_207 rfl (lv_at hl 0 rfl) ?_
                              refine gf_X8_22 hx hb hg hown hK (fl_blk hP 6 rfl) 0 rfl rfl dX8_fill_208 ?_
                              refine lv_iload_n hx hb dX8_fill_211 rfl (lv_at hl 3 rfl) ?_
                              refine lv_aload_n hx hb dX8_fill_212 rfl (lv_at hl 0 rfl) ?_
                              refine gf_X8_52 hx hb hg hown hK (fl_blk hP 6 rfl) 0 rfl rfl dX8_fill_213 ?_
                              refine qb_zast (j := k) hx hb hK hP hD hS 1 0 rfl rfl (by omega) dX8_fill_216 (fun H locs hP hD hS => ?_)
                              have hP : va_P D vwCl [[(mz, aI cy 115 (z))], [(mif, aZ cy 16 (qu isF1 k (u_204.2.1)))], [(mmg, aI cy 16 (mg1))], [(mtn, aI cy 16 (tn1))], [(mie, aZ cy 4 (isE1))], [(mme, aI cy 4 (mE1))], [(mo, .inr (8, [.int (qI (th)), .ref (mz), .int (qI (sv)), .ref (msv), .int (qI (ml)), .ref (mtx), .ref (mmo), .int (qI (t1)), .ref (mif), .ref (mmg), .ref (mtn), .ref (mie), .ref (mme), .int (qz (u_204.2.1)), .int (qI (u_204.2.2)), .int (qI (sp)), .int (qI (it)), .int (qz (bl)), .ref (mrd), .ref (mas), .long (hh)]))], [(mmo, aI cy 121 (u_204.1))]].flatten H := hP
                              have hD : va_D A [[(mz, aI cy 115 (z))], [(mif, aZ cy 16 (qu isF1 k (u_204.2.1)))], [(mmg, aI cy 16 (mg1))], [(mtn, aI cy 16 (tn1))], [(mie, aZ cy 4 (isE1))], [(mme, aI cy 4 (mE1))], [(mo, .inr (8, [.int (qI (th)), .ref (mz), .int (qI (sv)), .ref (msv), .int (qI (ml)), .ref (mtx), .ref (mmo), .int (qI (t1)), .ref (mif), .ref (mmg), .ref (mtn), .ref (mie), .ref (mme), .int (qz (u_204.2.1)), .int (qI (u_204.2.2)), .int (qI (sp)), .int (qI (it)), .int (qz (bl)), .ref (mrd), .ref (mas), .long (hh)]))], [(mmo, aI cy 121 (u_204.1))]].flatten := hD
                              refine lv_aload_n hx hb dX8_fill_217 rfl (lv_at hl 0 rfl) ?_
                              refine gf_X8_26 hx hb hg hown hK (fl_blk hP 6 rfl) 0 rfl rfl dX8_fill_218 ?_
                              refine lv_iload_n hx hb dX8_fill_221 rfl (lv_at hl 3 rfl) ?_
                              refine lv_aload_n hx hb dX8_fill_222 rfl (lv_at hl 0 rfl) ?_
                              refine gf_X8_56 hx hb hg hown hK (fl_blk hP 6 rfl) 0 rfl rfl dX8_fill_223 ?_
                              refine qb_iast (j := k) hx hb hK hP hD hS 2 0 rfl rfl (by omega) dX8_fill_226 (fun H locs hP hD hS => ?_)
                              have hP : va_P D vwCl [[(mz, aI cy 115 (z))], [(mif, aZ cy 16 (qu isF1 k (u_204.2.1)))], [(mmg, aI cy 16 (qu mg1 k (u_204.2.2)))], [(mtn, aI cy 16 (tn1))], [(mie, aZ cy 4 (isE1))], [(mme, aI cy 4 (mE1))], [(mo, .inr (8, [.int (qI (th)), .ref (mz), .int (qI (sv)), .ref (msv), .int (qI (ml)), .ref (mtx), .ref (mmo), .int (qI (t1)), .ref (mif), .ref (mmg), .ref (mtn), .ref (mie), .ref (mme), .int (qz (u_204.2.1)), .int (qI (u_204.2.2)), .int (qI (sp)), .int (qI (it)), .int (qz (bl)), .ref (mrd), .ref (mas), .long (hh)]))], [(mmo, aI cy 121 (u_204.1))]].flatten H := hP
                              have hD : va_D A [[(mz, aI cy 115 (z))], [(mif, aZ cy 16 (qu isF1 k (u_204.2.1)))], [(mmg, aI cy 16 (qu mg1 k (u_204.2.2)))], [(mtn, aI cy 16 (tn1))], [(mie, aZ cy 4 (isE1))], [(mme, aI cy 4 (mE1))], [(mo, .inr (8, [.int (qI (th)), .ref (mz), .int (qI (sv)), .ref (msv), .int (qI (ml)), .ref (mtx), .ref (mmo), .int (qI (t1)), .ref (mif), .ref (mmg), .ref (mtn), .ref (mie), .ref (mme), .int (qz (u_204.2.1)), .int (qI (u_204.2.2)), .int (qI (sp)), .int (qI (it)), .int (qz (bl)), .ref (mrd), .ref (mas), .long (hh)]))], [(mmo, aI cy 121 (u_204.1))]].flatten := hD
                              refine lv_aload_n hx hb dX8_fill_227 rfl (lv_at hl 0 rfl) ?_
                              refine gf_X8_29 hx hb hg hown hK (fl_blk hP 6 rfl) 0 rfl rfl dX8_fill_228 ?_
                              refine lv_iload_n hx hb dX8_fill_231 rfl (lv_at hl 3 rfl) ?_
                              refine lv_aload_n hx hb dX8_fill_232 rfl (lv_at hl 0 rfl) ?_
                              refine gf_X8_63 hx hb hg hown hK (fl_blk hP 6 rfl) 0 rfl rfl dX8_fill_233 ?_
                              refine qb_iast (j := k) hx hb hK hP hD hS 3 0 rfl rfl (by omega) dX8_fill_236 (fun H locs hP hD hS => ?_)
                              have hP : va_P D vwCl [[(mz, aI cy 115 (z))], [(mif, aZ cy 16 (qu isF1 k (u_204.2.1)))], [(mmg, aI cy 16 (qu mg1 k (u_204.2.2)))], [(mtn, aI cy 16 (qu tn1 k (t1)))], [(mie, aZ cy 4 (isE1))], [(mme, aI cy 4 (mE1))], [(mo, .inr (8, [.int (qI (th)), .ref (mz), .int (qI (sv)), .ref (msv), .int (qI (ml)), .ref (mtx), .ref (mmo), .int (qI (t1)), .ref (mif), .ref (mmg), .ref (mtn), .ref (mie), .ref (mme), .int (qz (u_204.2.1)), .int (qI (u_204.2.2)), .int (qI (sp)), .int (qI (it)), .int (qz (bl)), .ref (mrd), .ref (mas), .long (hh)]))], [(mmo, aI cy 121 (u_204.1))]].flatten H := hP
                              have hD : va_D A [[(mz, aI cy 115 (z))], [(mif, aZ cy 16 (qu isF1 k (u_204.2.1)))], [(mmg, aI cy 16 (qu mg1 k (u_204.2.2)))], [(mtn, aI cy 16 (qu tn1 k (t1)))], [(mie, aZ cy 4 (isE1))], [(mme, aI cy 4 (mE1))], [(mo, .inr (8, [.int (qI (th)), .ref (mz), .int (qI (sv)), .ref (msv), .int (qI (ml)), .ref (mtx), .ref (mmo), .int (qI (t1)), .ref (mif), .ref (mmg), .ref (mtn), .ref (mie), .ref (mme), .int (qz (u_204.2.1)), .int (qI (u_204.2.2)), .int (qI (sp)), .int (qI (it)), .int (qz (bl)), .ref (mrd), .ref (mas), .long (hh)]))], [(mmo, aI cy 121 (u_204.1))]].flatten := hD
                              refine lv_aload_n hx hb dX8_fill_237 rfl (lv_at hl 0 rfl) ?_
                              refine lv_dup hx hb dX8_fill_238 rfl ?_
                              refine gf_X8_63 hx hb hg hown hK (fl_blk hP 6 rfl) 0 rfl rfl dX8_fill_239 ?_
                              refine q_iconst hx hb dX8_fill_242 ?_
                              refine q_iadd hx hb dX8_fill_243 ?_
                              refine pf_X8_63 hx hb hg hown hK hP hD hS 6 0 rfl rfl rfl rfl (Nat.le_of_ble_eq_true rfl) dX8_fill_244 (fun H locs hP hD hS => ?_)
                              have hP : va_P D vwCl [[(mz, aI cy 115 (z))], [(mif, aZ cy 16 (qu isF1 k (u_204.2.1)))], [(mmg, aI cy 16 (qu mg1 k (u_204.2.2)))], [(mtn, aI cy 16 (qu tn1 k (t1)))], [(mie, aZ cy 4 (isE1))], [(mme, aI cy 4 (mE1))], [(mo, .inr (8, [.int (qI (th)), .ref (mz), .int (qI (sv)), .ref (msv), .int (qI (ml)), .ref (mtx), .ref (mmo), .int (qI ((t1) + (1))), .ref (mif), .ref (mmg), .ref (mtn), .ref (mie), .ref (mme), .int (qz (u_204.2.1)), .int (qI (u_204.2.2)), .int (qI (sp)), .int (qI (it)), .int (qz (bl)), .ref (mrd), .ref (mas), .long (hh)]))], [(mmo, aI cy 121 (u_204.1))]].flatten H := hP
                              have hD : va_D A [[(mz, aI cy 115 (z))], [(mif, aZ cy 16 (qu isF1 k (u_204.2.1)))], [(mmg, aI cy 16 (qu mg1 k (u_204.2.2)))], [(mtn, aI cy 16 (qu tn1 k (t1)))], [(mie, aZ cy 4 (isE1))], [(mme, aI cy 4 (mE1))], [(mo, .inr (8, [.int (qI (th)), .ref (mz), .int (qI (sv)), .ref (msv), .int (qI (ml)), .ref (mtx), .ref (mmo), .int (qI ((t1) + (1))), .ref (mif), .ref (mmg), .ref (mtn), .ref (mie), .ref (mme), .int (qz (u_204.2.1)), .int (qI (u_204.2.2)), .int (qI (sp)), .int (qI (it)), .int (qz (bl)), .ref (mrd), .ref (mas), .long (hh)]))], [(mmo, aI cy 121 (u_204.1))]].flatten := hD
                              refine q_iinc (k := 3) (lv' := [(3, .int (qI ((((k : Nat) : Int)) + (1)))), (0, .ref (mo)), (1, .int (qI (but))), (2, .int (qI (x3)))]) hx hb dX8_fill_247 hl rfl (by decide) rfl (fun ls hl => ?_)
                              refine lv_goto (tgt := 153) hx hb dX8_fill_250 (by decide) ?_
                              have hP := fl_sub (bs' := [[(mo, .inr (8, [.int (qI (th)), .ref (mz), .int (qI (sv)), .ref (msv), .int (qI (ml)), .ref (mtx), .ref (mmo), .int (qI ((t1) + (1))), .ref (mif), .ref (mmg), .ref (mtn), .ref (mie), .ref (mme), .int (qz (u_204.2.1)), .int (qI (u_204.2.2)), .int (qI (sp)), .int (qI (it)), .int (qz (bl)), .ref (mrd), .ref (mas), .long (hh)]))], [(mz, aI cy 115 (z))], [(mmo, aI cy 121 (u_204.1))], [(mif, aZ cy 16 (qu isF1 k (u_204.2.1)))], [(mmg, aI cy 16 (qu mg1 k (u_204.2.2)))], [(mtn, aI cy 16 (qu tn1 k (t1)))], [(mie, aZ cy 4 (isE1))], [(mme, aI cy 4 (mE1))]]) hP [6, 0, 7, 1, 2, 3, 4, 5] rfl
                              have hD := fl_subD (bs' := [[(mo, .inr (8, [.int (qI (th)), .ref (mz), .int (qI (sv)), .ref (msv), .int (qI (ml)), .ref (mtx), .ref (mmo), .int (qI ((t1) + (1))), .ref (mif), .ref (mmg), .ref (mtn), .ref (mie), .ref (mme), .int (qz (u_204.2.1)), .int (qI (u_204.2.2)), .int (qI (sp)), .int (qI (it)), .int (qz (bl)), .ref (mrd), .ref (mas), .long (hh)]))], [(mz, aI cy 115 (z))], [(mmo, aI cy 121 (u_204.1))], [(mif, aZ cy 16 (qu isF1 k (u_204.2.1)))], [(mmg, aI cy 16 (qu mg1 k (u_204.2.2)))], [(mtn, aI cy 16 (qu tn1 k (t1)))], [(mie, aZ cy 4 (isE1))], [(mme, aI cy 4 (mE1))]]) hD [6, 0, 7, 1, 2, 3, 4, 5] (by decide) rfl
                              exact ih_153 (k + 1) _ _ _ _ _ _ _ _ _ (by omega) (by omega) (by show mRel (if zC z 4 k = 3 - (j : Int) ∧ (k : Int) ≠ but then _ else _) _ _ _ _ _ _ _; rw [if_pos (by omega)]; exact mRel.stC hR hC (by omega) h_204) _ _ _ hP hD hS (lv_sub hl [1, 2, 3, 0] rfl)
                    exact L_153 (nc + 1) (0) _ _ _ _ _ _ _ _ _ (by omega) (by omega) (by rw [show k = ne by omega] at hR; exact hR) _ _ _ hP hD hS (lv_sub hl [1, 2, 3, 0] rfl)
                  · skip
                    refine lv_aload_n hx hb dX8_fill_87 rfl (lv_at hl 0 rfl) ?_
                    refine lv_iload_n hx hb dX8_fill_88 rfl (lv_at hl 3 rfl) ?_
                    refine q_iconst hx hb dX8_fill_89 ?_
                    refine q_readi (va_runV (As := [.int (qI (((k : Nat) : Int))), .int (qI (2))]) (rest := []) ⟨hx, hb, hml, hown, hg⟩ (c_X8_ofEdit l D cy mo mz msv mtx mmo mif mmg mtn mie mme mrd mas (th) (sv) (ml) (t1) (fi1) (ro1) (sp) (it) (bl) (hh) (z) _ _ k 2 (by omega) (by omega)) (cv_X8_66 hg rfl rfl ⟨by decide, by decide⟩) ⟨q_blind0, va_recv hK (fl_blk hP 0 rfl) (ci := 8) (q0 := 0) rfl rfl, q_preR _ hK hN hP [0, 1] rfl⟩ rfl rfl hl.1 rfl (lv_room (Nat.le_of_ble_eq_true rfl)) dX8_fill_90 ⟨by decide, by decide⟩) (fun r_90 h_90 => ?_)
                    subst h_90
                    refine lv_iload_n hx hb dX8_fill_93 rfl (lv_at hl 2 rfl) ?_
                    have w4 : z (102 + 3 * k + 2) = zE z 4 k := rfl
                    have hw := hE k (by omega)
                    refine q_icmp_ne (tgt := 145) hx hb dX8_fill_94 (by decide) (by omega) (fun c_94 => ?_) (fun c_94 => ?_)
                    · skip
                      refine q_iinc (k := 3) (lv' := [(3, .int (qI ((((k : Nat) : Int)) + (1)))), (0, .ref (mo)), (1, .int (qI (but))), (2, .int (qI (x3)))]) hx hb dX8_fill_145 hl rfl (by decide) rfl (fun ls hl => ?_)
                      refine lv_goto (tgt := 76) hx hb dX8_fill_148 (by decide) ?_
                      exact ih_76 (k + 1) _ _ _ _ _ _ _ _ _ (by omega) (by omega) (by show mRel (if zE z 4 k = 3 - (j : Int) then _ else _) _ _ _ _ _ _ _; rw [if_neg (by omega)]; exact hR) _ _ _ hP hD hS (lv_sub hl [1, 2, 3, 0] rfl)
                    · skip
                      refine lv_aload_n hx hb dX8_fill_97 rfl (lv_at hl 0 rfl) ?_
                      refine lv_aload_n hx hb dX8_fill_98 rfl (lv_at hl 0 rfl) ?_
                      refine lv_iload_n hx hb dX8_fill_99 rfl (lv_at hl 3 rfl) ?_
                      refine q_iconst hx hb dX8_fill_100 ?_
                      refine q_readi (va_runV (As := [.int (qI (((k : Nat) : Int))), .int (qI (0))]) (rest := [.ref (mo)]) ⟨hx, hb, hml, hown, hg⟩ (c_X8_ofEdit l D cy mo mz msv mtx mmo mif mmg mtn mie mme mrd mas (th) (sv) (ml) (t1) (fi1) (ro1) (sp) (it) (bl) (hh) (z) _ _ k 0 (by omega) (by omega)) (cv_X8_66 hg rfl rfl ⟨by decide, by decide⟩) ⟨q_blind0, va_recv hK (fl_blk hP 0 rfl) (ci := 8) (q0 := 0) rfl rfl, q_preR _ hK hN hP [0, 1] rfl⟩ rfl rfl hl.1 rfl (lv_room (Nat.le_of_ble_eq_true rfl)) dX8_fill_101 ⟨by decide, by decide⟩) (fun r_101 h_101 => ?_)
                      subst h_101
                      refine q_iconst hx hb dX8_fill_104 ?_
                      refine q_iconst hx hb dX8_fill_105 ?_
                      refine lv_aload_n hx hb dX8_fill_106 rfl (lv_at hl 0 rfl) ?_
                      refine lv_iload_n hx hb dX8_fill_107 rfl (lv_at hl 3 rfl) ?_
                      refine q_iconst hx hb dX8_fill_108 ?_
                      refine q_readi (va_runV (As := [.int (qI (((k : Nat) : Int))), .int (qI (1))]) (rest := [.int (qI (1)), .int (qI (-1)), .int (qI (z (102 + 3 * k + 0))), .ref (mo)]) ⟨hx, hb, hml, hown, hg⟩ (c_X8_ofEdit l D cy mo mz msv mtx mmo mif mmg mtn mie mme mrd mas (th) (sv) (ml) (t1) (fi1) (ro1) (sp) (it) (bl) (hh) (z) _ _ k 1 (by omega) (by omega)) (cv_X8_66 hg rfl rfl ⟨by decide, by decide⟩) ⟨q_blind0, va_recv hK (fl_blk hP 0 rfl) (ci := 8) (q0 := 0) rfl rfl, q_preR _ hK hN hP [0, 1] rfl⟩ rfl rfl hl.1 rfl (lv_room (Nat.le_of_ble_eq_true rfl)) dX8_fill_109 ⟨by decide, by decide⟩) (fun r_109 h_109 => ?_)
                      subst h_109
                      refine q_backv [0, 2] [1, 3, 4, 5, 6, 7] (br := [[(mz, aI cy 115 (z))], [(mif, aZ cy 16 (isF1))], [(mmg, aI cy 16 (mg1))], [(mtn, aI cy 16 (tn1))], [(mie, aZ cy 4 (isE1))], [(mme, aI cy 4 (mE1))]]) hP hD hS hA (va_runV (As := [.int (qI (z (102 + 3 * k + 0))), .int (qI (-1)), .int (qI (1)), .int (qI (z (102 + 3 * k + 1)))]) (rest := []) ⟨hx, hb, hml, hown, hg⟩ (c_X8_fillOne l D cy mo mz msv mtx mmo mif mmg mtn mie mme mrd mas (th) (sv) (ml) (t1) (fi1) (ro1) (sp) (it) (bl) (hh) g1 _ _ _ _ (zE z) k ne rfl rfl rfl rfl (by omega) hE cl9 _) (cv_X8_70 hg rfl rfl ⟨by decide, by decide⟩) ⟨q_blind, va_recv hK (fl_blk hP 0 rfl) (ci := 8) (q0 := 0) rfl rfl, q_preM _ hK hN hP hD [0, 2] (by decide) rfl⟩ rfl rfl hl.1 rfl (lv_room (Nat.le_of_ble_eq_true rfl)) dX8_fill_112 ⟨by decide, by decide⟩) rfl rfl (by decide) (fun u_112 H locs h_112 hP hD hS => ?_)
                      have hP : va_P D vwCl [[(mz, aI cy 115 (z))], [(mif, aZ cy 16 (isF1))], [(mmg, aI cy 16 (mg1))], [(mtn, aI cy 16 (tn1))], [(mie, aZ cy 4 (isE1))], [(mme, aI cy 4 (mE1))], [(mo, .inr (8, [.int (qI (th)), .ref (mz), .int (qI (sv)), .ref (msv), .int (qI (ml)), .ref (mtx), .ref (mmo), .int (qI (t1)), .ref (mif), .ref (mmg), .ref (mtn), .ref (mie), .ref (mme), .int (qz (u_112.2.1)), .int (qI (u_112.2.2)), .int (qI (sp)), .int (qI (it)), .int (qz (bl)), .ref (mrd), .ref (mas), .long (hh)]))], [(mmo, aI cy 121 (u_112.1))]].flatten H := hP
                      have hD : va_D A [[(mz, aI cy 115 (z))], [(mif, aZ cy 16 (isF1))], [(mmg, aI cy 16 (mg1))], [(mtn, aI cy 16 (tn1))], [(mie, aZ cy 4 (isE1))], [(mme, aI cy 4 (mE1))], [(mo, .inr (8, [.int (qI (th)), .ref (mz), .int (qI (sv)), .ref (msv), .int (qI (ml)), .ref (mtx), .ref (mmo), .int (qI (t1)), .ref (mif), .ref (mmg), .ref (mtn), .ref (mie), .ref (mme), .int (qz (u_112.2.1)), .int (qI (u_112.2.2)), .int (qI (sp)), .int (qI (it)), .int (qz (bl)), .ref (mrd), .ref (mas), .long (hh)]))], [(mmo, aI cy 121 (u_112.1))]].flatten := hD
                      refine lv_aload_n hx hb dX8_fill_115 rfl (lv_at hl 0 rfl) ?_
                      refine gf_X8_32 hx hb hg hown hK (fl_blk hP 6 rfl) 0 rfl rfl dX8_fill_116 ?_
                      refine lv_iload_n hx hb dX8_fill_119 rfl (lv_at hl 3 rfl) ?_
                      refine lv_aload_n hx hb dX8_fill_120 rfl (lv_at hl 0 rfl) ?_
                      refine gf_X8_52 hx hb hg hown hK (fl_blk hP 6 rfl) 0 rfl rfl dX8_fill_121 ?_
                      refine qb_zast (j := k) hx hb hK hP hD hS 4 0 rfl rfl (by omega) dX8_fill_124 (fun H locs hP hD hS => ?_)
                      have hP : va_P D vwCl [[(mz, aI cy 115 (z))], [(mif, aZ cy 16 (isF1))], [(mmg, aI cy 16 (mg1))], [(mtn, aI cy 16 (tn1))], [(mie, aZ cy 4 (qu isE1 k (u_112.2.1)))], [(mme, aI cy 4 (mE1))], [(mo, .inr (8, [.int (qI (th)), .ref (mz), .int (qI (sv)), .ref (msv), .int (qI (ml)), .ref (mtx), .ref (mmo), .int (qI (t1)), .ref (mif), .ref (mmg), .ref (mtn), .ref (mie), .ref (mme), .int (qz (u_112.2.1)), .int (qI (u_112.2.2)), .int (qI (sp)), .int (qI (it)), .int (qz (bl)), .ref (mrd), .ref (mas), .long (hh)]))], [(mmo, aI cy 121 (u_112.1))]].flatten H := hP
                      have hD : va_D A [[(mz, aI cy 115 (z))], [(mif, aZ cy 16 (isF1))], [(mmg, aI cy 16 (mg1))], [(mtn, aI cy 16 (tn1))], [(mie, aZ cy 4 (qu isE1 k (u_112.2.1)))], [(mme, aI cy 4 (mE1))], [(mo, .inr (8, [.int (qI (th)), .ref (mz), .int (qI (sv)), .ref (msv), .int (qI (ml)), .ref (mtx), .ref (mmo), .int (qI (t1)), .ref (mif), .ref (mmg), .ref (mtn), .ref (mie), .ref (mme), .int (qz (u_112.2.1)), .int (qI (u_112.2.2)), .int (qI (sp)), .int (qI (it)), .int (qz (bl)), .ref (mrd), .ref (mas), .long (hh)]))], [(mmo, aI cy 121 (u_112.1))]].flatten := hD
                      refine lv_aload_n hx hb dX8_fill_125 rfl (lv_at hl 0 rfl) ?_
                      refine gf_X8_35 hx hb hg hown hK (fl_blk hP 6 rfl) 0 rfl rfl dX8_fill_126 ?_
                      refine lv_iload_n hx hb dX8_fill_129 rfl (lv_at hl 3 rfl) ?_
                      refine lv_aload_n hx hb dX8_fill_130 rfl (lv_at hl 0 rfl) ?_
                      refine gf_X8_56 hx hb hg hown hK (fl_blk hP 6 rfl) 0 rfl rfl dX8_fill_131 ?_
                      refine qb_iast (j := k) hx hb hK hP hD hS 5 0 rfl rfl (by omega) dX8_fill_134 (fun H locs hP hD hS => ?_)
                      have hP : va_P D vwCl [[(mz, aI cy 115 (z))], [(mif, aZ cy 16 (isF1))], [(mmg, aI cy 16 (mg1))], [(mtn, aI cy 16 (tn1))], [(mie, aZ cy 4 (qu isE1 k (u_112.2.1)))], [(mme, aI cy 4 (qu mE1 k (u_112.2.2)))], [(mo, .inr (8, [.int (qI (th)), .ref (mz), .int (qI (sv)), .ref (msv), .int (qI (ml)), .ref (mtx), .ref (mmo), .int (qI (t1)), .ref (mif), .ref (mmg), .ref (mtn), .ref (mie), .ref (mme), .int (qz (u_112.2.1)), .int (qI (u_112.2.2)), .int (qI (sp)), .int (qI (it)), .int (qz (bl)), .ref (mrd), .ref (mas), .long (hh)]))], [(mmo, aI cy 121 (u_112.1))]].flatten H := hP
                      have hD : va_D A [[(mz, aI cy 115 (z))], [(mif, aZ cy 16 (isF1))], [(mmg, aI cy 16 (mg1))], [(mtn, aI cy 16 (tn1))], [(mie, aZ cy 4 (qu isE1 k (u_112.2.1)))], [(mme, aI cy 4 (qu mE1 k (u_112.2.2)))], [(mo, .inr (8, [.int (qI (th)), .ref (mz), .int (qI (sv)), .ref (msv), .int (qI (ml)), .ref (mtx), .ref (mmo), .int (qI (t1)), .ref (mif), .ref (mmg), .ref (mtn), .ref (mie), .ref (mme), .int (qz (u_112.2.1)), .int (qI (u_112.2.2)), .int (qI (sp)), .int (qI (it)), .int (qz (bl)), .ref (mrd), .ref (mas), .long (hh)]))], [(mmo, aI cy 121 (u_112.1))]].flatten := hD
                      refine lv_aload_n hx hb dX8_fill_135 rfl (lv_at hl 0 rfl) ?_
                      refine lv_dup hx hb dX8_fill_136 rfl ?_
                      refine gf_X8_63 hx hb hg hown hK (fl_blk hP 6 rfl) 0 rfl rfl dX8_fill_137 ?_
                      refine q_iconst hx hb dX8_fill_140 ?_
                      refine q_iadd hx hb dX8_fill_141 ?_
                      refine pf_X8_63 hx hb hg hown hK hP hD hS 6 0 rfl rfl rfl rfl (Nat.le_of_ble_eq_true rfl) dX8_fill_142 (fun H locs hP hD hS => ?_)
                      have hP : va_P D vwCl [[(mz, aI cy 115 (z))], [(mif, aZ cy 16 (isF1))], [(mmg, aI cy 16 (mg1))], [(mtn, aI cy 16 (tn1))], [(mie, aZ cy 4 (qu isE1 k (u_112.2.1)))], [(mme, aI cy 4 (qu mE1 k (u_112.2.2)))], [(mo, .inr (8, [.int (qI (th)), .ref (mz), .int (qI (sv)), .ref (msv), .int (qI (ml)), .ref (mtx), .ref (mmo), .int (qI ((t1) + (1))), .ref (mif), .ref (mmg), .ref (mtn), .ref (mie), .ref (mme), .int (qz (u_112.2.1)), .int (qI (u_112.2.2)), .int (qI (sp)), .int (qI (it)), .int (qz (bl)), .ref (mrd), .ref (mas), .long (hh)]))], [(mmo, aI cy 121 (u_112.1))]].flatten H := hP
                      have hD : va_D A [[(mz, aI cy 115 (z))], [(mif, aZ cy 16 (isF1))], [(mmg, aI cy 16 (mg1))], [(mtn, aI cy 16 (tn1))], [(mie, aZ cy 4 (qu isE1 k (u_112.2.1)))], [(mme, aI cy 4 (qu mE1 k (u_112.2.2)))], [(mo, .inr (8, [.int (qI (th)), .ref (mz), .int (qI (sv)), .ref (msv), .int (qI (ml)), .ref (mtx), .ref (mmo), .int (qI ((t1) + (1))), .ref (mif), .ref (mmg), .ref (mtn), .ref (mie), .ref (mme), .int (qz (u_112.2.1)), .int (qI (u_112.2.2)), .int (qI (sp)), .int (qI (it)), .int (qz (bl)), .ref (mrd), .ref (mas), .long (hh)]))], [(mmo, aI cy 121 (u_112.1))]].flatten := hD
                      refine q_iinc (k := 3) (lv' := [(3, .int (qI ((((k : Nat) : Int)) + (1)))), (0, .ref (mo)), (1, .int (qI (but))), (2, .int (qI (x3)))]) hx hb dX8_fill_145 hl rfl (by decide) rfl (fun ls hl => ?_)
                      refine lv_goto (tgt := 76) hx hb dX8_fill_148 (by decide) ?_
                      have hP := fl_sub (bs' := [[(mo, .inr (8, [.int (qI (th)), .ref (mz), .int (qI (sv)), .ref (msv), .int (qI (ml)), .ref (mtx), .ref (mmo), .int (qI ((t1) + (1))), .ref (mif), .ref (mmg), .ref (mtn), .ref (mie), .ref (mme), .int (qz (u_112.2.1)), .int (qI (u_112.2.2)), .int (qI (sp)), .int (qI (it)), .int (qz (bl)), .ref (mrd), .ref (mas), .long (hh)]))], [(mz, aI cy 115 (z))], [(mmo, aI cy 121 (u_112.1))], [(mif, aZ cy 16 (isF1))], [(mmg, aI cy 16 (mg1))], [(mtn, aI cy 16 (tn1))], [(mie, aZ cy 4 (qu isE1 k (u_112.2.1)))], [(mme, aI cy 4 (qu mE1 k (u_112.2.2)))]]) hP [6, 0, 7, 1, 2, 3, 4, 5] rfl
                      have hD := fl_subD (bs' := [[(mo, .inr (8, [.int (qI (th)), .ref (mz), .int (qI (sv)), .ref (msv), .int (qI (ml)), .ref (mtx), .ref (mmo), .int (qI ((t1) + (1))), .ref (mif), .ref (mmg), .ref (mtn), .ref (mie), .ref (mme), .int (qz (u_112.2.1)), .int (qI (u_112.2.2)), .int (qI (sp)), .int (qI (it)), .int (qz (bl)), .ref (mrd), .ref (mas), .long (hh)]))], [(mz, aI cy 115 (z))], [(mmo, aI cy 121 (u_112.1))], [(mif, aZ cy 16 (isF1))], [(mmg, aI cy 16 (mg1))], [(mtn, aI cy 16 (tn1))], [(mie, aZ cy 4 (qu isE1 k (u_112.2.1)))], [(mme, aI cy 4 (qu mE1 k (u_112.2.2)))]]) hD [6, 0, 7, 1, 2, 3, 4, 5] (by decide) rfl
                      exact ih_76 (k + 1) _ _ _ _ _ _ _ _ _ (by omega) (by omega) (by show mRel (if zE z 4 k = 3 - (j : Int) then _ else _) _ _ _ _ _ _ _; rw [if_pos (by omega)]; exact mRel.stE hR hE (by omega) h_112) _ _ _ hP hD hS (lv_sub hl [1, 2, 3, 0] rfl)
              exact L_76 (ne + 1) (0) _ _ _ _ _ _ _ _ _ (by omega) (by omega) hR _ _ _ hP hD hS (lv_sub hl [1, 2, 3, 0] rfl)
        exact L_70 (4 + 1) (0) _ _ _ _ _ _ _ _ _ _ (by omega) (by omega) (by omega) ⟨ti_end (fun m hm => hI m (by omega)), rfl, rfl, rfl, rfl, rfl, rfl⟩ _ _ _ hP hD hS (lv_sub hl [1, 2, 0] rfl)
      · skip
        refine lv_iload_n hx hb dX8_fill_8 rfl (lv_at hl 2 rfl) ?_
        refine q_bipush hx hb dX8_fill_9 (by decide) ?_
        refine q_idiv (F := k) (k := 11) hx hb (by omega) dX8_fill_11 ?_
        refine lv_istore_n (lv' := [(3, .int (qI ((((k) / (11) : Nat) : Int)))), (0, .ref (mo)), (1, .int (qI (but))), (2, .int (qI (((k : Nat) : Int))))]) hx hb dX8_fill_12 rfl hl (by decide) rfl (fun ls hl => ?_)
        refine lv_iload_n hx hb dX8_fill_13 rfl (lv_at hl 3 rfl) ?_
        refine q_bipush hx hb dX8_fill_14 (by decide) ?_
        refine q_irem (F := k) (k := 11) hx hb (by omega) dX8_fill_16 ?_
        refine lv_istore (lv' := [(4, .int (qI ((((k) % (11) : Nat) : Int)))), (3, .int (qI ((((k) / (11) : Nat) : Int)))), (0, .ref (mo)), (1, .int (qI (but))), (2, .int (qI (((k : Nat) : Int))))]) hx hb dX8_fill_17 hl (by decide) rfl (fun ls hl => ?_)
        refine lv_aload_n hx hb dX8_fill_19 rfl (lv_at hl 2 rfl) ?_
        refine gf_X8_19 hx hb hg hown hK (fl_blk hP 0 rfl) 0 rfl rfl dX8_fill_20 ?_
        refine lv_iload_n hx hb dX8_fill_23 rfl (lv_at hl 4 rfl) ?_
        refine lv_iload_n hx hb dX8_fill_24 rfl (lv_at hl 1 rfl) ?_
        refine lv_iload hx hb dX8_fill_25 (lv_at hl 0 rfl) ?_
        refine q_icmp_ne (tgt := 34) hx hb dX8_fill_27 (by decide) (by omega) (fun c_27 => ?_) (fun c_27 => ?_)
        · skip
          refine lv_iload_n hx hb dX8_fill_34 rfl (lv_at hl 1 rfl) ?_
          refine q_bipush hx hb dX8_fill_35 (by decide) ?_
          refine q_icmp_eq (tgt := 47) hx hb dX8_fill_37 (by decide) (by omega) (fun c_37 => ?_) (fun c_37 => ?_)
          · skip
            refine q_sipush hx hb dX8_fill_47 (by decide) ?_
            refine lv_goto (tgt := 56) hx hb dX8_fill_50 (by decide) ?_
            refine qb_iast (j := k) hx hb hK hP hD hS 2 0 rfl rfl (by omega) dX8_fill_56 (fun H locs hP hD hS => ?_)
            have hP : va_P D vwCl [[(mo, .inr (8, [.int (qI (th)), .ref (mz), .int (qI (sv)), .ref (msv), .int (qI (ml)), .ref (mtx), .ref (mmo), .int (qI (tu)), .ref (mif), .ref (mmg), .ref (mtn), .ref (mie), .ref (mme), .int (qz (fi)), .int (qI (ro)), .int (qI (sp)), .int (qI (it)), .int (qz (bl)), .ref (mrd), .ref (mas), .long (hh)]))], [(mz, aI cy 115 (z))], [(mmo, aI cy 121 (qu g1 k (1000)))], [(mif, aZ cy 16 (isF))], [(mmg, aI cy 16 (mg))], [(mtn, aI cy 16 (tn))], [(mie, aZ cy 4 (isE))], [(mme, aI cy 4 (mE))]].flatten H := hP
            have hD : va_D A [[(mo, .inr (8, [.int (qI (th)), .ref (mz), .int (qI (sv)), .ref (msv), .int (qI (ml)), .ref (mtx), .ref (mmo), .int (qI (tu)), .ref (mif), .ref (mmg), .ref (mtn), .ref (mie), .ref (mme), .int (qz (fi)), .int (qI (ro)), .int (qI (sp)), .int (qI (it)), .int (qz (bl)), .ref (mrd), .ref (mas), .long (hh)]))], [(mz, aI cy 115 (z))], [(mmo, aI cy 121 (qu g1 k (1000)))], [(mif, aZ cy 16 (isF))], [(mmg, aI cy 16 (mg))], [(mtn, aI cy 16 (tn))], [(mie, aZ cy 4 (isE))], [(mme, aI cy 4 (mE))]].flatten := hD
            refine q_iinc (k := 4) (lv' := [(2, .int (qI ((((k : Nat) : Int)) + (1)))), (4, .int (qI ((((k) % (11) : Nat) : Int)))), (3, .int (qI ((((k) / (11) : Nat) : Int)))), (0, .ref (mo)), (1, .int (qI (but)))]) hx hb dX8_fill_57 hl rfl (by decide) rfl (fun ls hl => ?_)
            refine lv_goto (tgt := 2) hx hb dX8_fill_60 (by decide) ?_
            exact ih_2 (k + 1) _ (by omega) (by omega) (ti_step hI (by unfold tg0; (repeat' split) <;> omega)) _ _ _ hP hD hS (lv_sub hl [3, 4, 0] rfl)
          · skip
            refine lv_iload hx hb dX8_fill_40 (lv_at hl 0 rfl) ?_
            refine q_bipush hx hb dX8_fill_42 (by decide) ?_
            refine q_icmp_ne (tgt := 53) hx hb dX8_fill_44 (by decide) (by omega) (fun c_44 => ?_) (fun c_44 => ?_)
            · skip
              refine q_sipush hx hb dX8_fill_53 (by decide) ?_
              refine qb_iast (j := k) hx hb hK hP hD hS 2 0 rfl rfl (by omega) dX8_fill_56 (fun H locs hP hD hS => ?_)
              have hP : va_P D vwCl [[(mo, .inr (8, [.int (qI (th)), .ref (mz), .int (qI (sv)), .ref (msv), .int (qI (ml)), .ref (mtx), .ref (mmo), .int (qI (tu)), .ref (mif), .ref (mmg), .ref (mtn), .ref (mie), .ref (mme), .int (qz (fi)), .int (qI (ro)), .int (qI (sp)), .int (qI (it)), .int (qz (bl)), .ref (mrd), .ref (mas), .long (hh)]))], [(mz, aI cy 115 (z))], [(mmo, aI cy 121 (qu g1 k (2000)))], [(mif, aZ cy 16 (isF))], [(mmg, aI cy 16 (mg))], [(mtn, aI cy 16 (tn))], [(mie, aZ cy 4 (isE))], [(mme, aI cy 4 (mE))]].flatten H := hP
              have hD : va_D A [[(mo, .inr (8, [.int (qI (th)), .ref (mz), .int (qI (sv)), .ref (msv), .int (qI (ml)), .ref (mtx), .ref (mmo), .int (qI (tu)), .ref (mif), .ref (mmg), .ref (mtn), .ref (mie), .ref (mme), .int (qz (fi)), .int (qI (ro)), .int (qI (sp)), .int (qI (it)), .int (qz (bl)), .ref (mrd), .ref (mas), .long (hh)]))], [(mz, aI cy 115 (z))], [(mmo, aI cy 121 (qu g1 k (2000)))], [(mif, aZ cy 16 (isF))], [(mmg, aI cy 16 (mg))], [(mtn, aI cy 16 (tn))], [(mie, aZ cy 4 (isE))], [(mme, aI cy 4 (mE))]].flatten := hD
              refine q_iinc (k := 4) (lv' := [(2, .int (qI ((((k : Nat) : Int)) + (1)))), (4, .int (qI ((((k) % (11) : Nat) : Int)))), (3, .int (qI ((((k) / (11) : Nat) : Int)))), (0, .ref (mo)), (1, .int (qI (but)))]) hx hb dX8_fill_57 hl rfl (by decide) rfl (fun ls hl => ?_)
              refine lv_goto (tgt := 2) hx hb dX8_fill_60 (by decide) ?_
              exact ih_2 (k + 1) _ (by omega) (by omega) (ti_step hI (by unfold tg0; (repeat' split) <;> omega)) _ _ _ hP hD hS (lv_sub hl [3, 4, 0] rfl)
            · skip
              refine q_sipush hx hb dX8_fill_47 (by decide) ?_
              refine lv_goto (tgt := 56) hx hb dX8_fill_50 (by decide) ?_
              refine qb_iast (j := k) hx hb hK hP hD hS 2 0 rfl rfl (by omega) dX8_fill_56 (fun H locs hP hD hS => ?_)
              have hP : va_P D vwCl [[(mo, .inr (8, [.int (qI (th)), .ref (mz), .int (qI (sv)), .ref (msv), .int (qI (ml)), .ref (mtx), .ref (mmo), .int (qI (tu)), .ref (mif), .ref (mmg), .ref (mtn), .ref (mie), .ref (mme), .int (qz (fi)), .int (qI (ro)), .int (qI (sp)), .int (qI (it)), .int (qz (bl)), .ref (mrd), .ref (mas), .long (hh)]))], [(mz, aI cy 115 (z))], [(mmo, aI cy 121 (qu g1 k (1000)))], [(mif, aZ cy 16 (isF))], [(mmg, aI cy 16 (mg))], [(mtn, aI cy 16 (tn))], [(mie, aZ cy 4 (isE))], [(mme, aI cy 4 (mE))]].flatten H := hP
              have hD : va_D A [[(mo, .inr (8, [.int (qI (th)), .ref (mz), .int (qI (sv)), .ref (msv), .int (qI (ml)), .ref (mtx), .ref (mmo), .int (qI (tu)), .ref (mif), .ref (mmg), .ref (mtn), .ref (mie), .ref (mme), .int (qz (fi)), .int (qI (ro)), .int (qI (sp)), .int (qI (it)), .int (qz (bl)), .ref (mrd), .ref (mas), .long (hh)]))], [(mz, aI cy 115 (z))], [(mmo, aI cy 121 (qu g1 k (1000)))], [(mif, aZ cy 16 (isF))], [(mmg, aI cy 16 (mg))], [(mtn, aI cy 16 (tn))], [(mie, aZ cy 4 (isE))], [(mme, aI cy 4 (mE))]].flatten := hD
              refine q_iinc (k := 4) (lv' := [(2, .int (qI ((((k : Nat) : Int)) + (1)))), (4, .int (qI ((((k) % (11) : Nat) : Int)))), (3, .int (qI ((((k) / (11) : Nat) : Int)))), (0, .ref (mo)), (1, .int (qI (but)))]) hx hb dX8_fill_57 hl rfl (by decide) rfl (fun ls hl => ?_)
              refine lv_goto (tgt := 2) hx hb dX8_fill_60 (by decide) ?_
              exact ih_2 (k + 1) _ (by omega) (by omega) (ti_step hI (by unfold tg0; (repeat' split) <;> omega)) _ _ _ hP hD hS (lv_sub hl [3, 4, 0] rfl)
        · skip
          refine q_iconst hx hb dX8_fill_30 ?_
          refine lv_goto (tgt := 56) hx hb dX8_fill_31 (by decide) ?_
          refine qb_iast (j := k) hx hb hK hP hD hS 2 0 rfl rfl (by omega) dX8_fill_56 (fun H locs hP hD hS => ?_)
          have hP : va_P D vwCl [[(mo, .inr (8, [.int (qI (th)), .ref (mz), .int (qI (sv)), .ref (msv), .int (qI (ml)), .ref (mtx), .ref (mmo), .int (qI (tu)), .ref (mif), .ref (mmg), .ref (mtn), .ref (mie), .ref (mme), .int (qz (fi)), .int (qI (ro)), .int (qI (sp)), .int (qI (it)), .int (qz (bl)), .ref (mrd), .ref (mas), .long (hh)]))], [(mz, aI cy 115 (z))], [(mmo, aI cy 121 (qu g1 k (0)))], [(mif, aZ cy 16 (isF))], [(mmg, aI cy 16 (mg))], [(mtn, aI cy 16 (tn))], [(mie, aZ cy 4 (isE))], [(mme, aI cy 4 (mE))]].flatten H := hP
          have hD : va_D A [[(mo, .inr (8, [.int (qI (th)), .ref (mz), .int (qI (sv)), .ref (msv), .int (qI (ml)), .ref (mtx), .ref (mmo), .int (qI (tu)), .ref (mif), .ref (mmg), .ref (mtn), .ref (mie), .ref (mme), .int (qz (fi)), .int (qI (ro)), .int (qI (sp)), .int (qI (it)), .int (qz (bl)), .ref (mrd), .ref (mas), .long (hh)]))], [(mz, aI cy 115 (z))], [(mmo, aI cy 121 (qu g1 k (0)))], [(mif, aZ cy 16 (isF))], [(mmg, aI cy 16 (mg))], [(mtn, aI cy 16 (tn))], [(mie, aZ cy 4 (isE))], [(mme, aI cy 4 (mE))]].flatten := hD
          refine q_iinc (k := 4) (lv' := [(2, .int (qI ((((k : Nat) : Int)) + (1)))), (4, .int (qI ((((k) % (11) : Nat) : Int)))), (3, .int (qI ((((k) / (11) : Nat) : Int)))), (0, .ref (mo)), (1, .int (qI (but)))]) hx hb dX8_fill_57 hl rfl (by decide) rfl (fun ls hl => ?_)
          refine lv_goto (tgt := 2) hx hb dX8_fill_60 (by decide) ?_
          exact ih_2 (k + 1) _ (by omega) (by omega) (ti_step hI (by unfold tg0; (repeat' split) <;> omega)) _ _ _ hP hD hS (lv_sub hl [3, 4, 0] rfl)
  exact L_2 (121 + 1) (0) _ (by omega) (by omega) (fun m hm => absurd hm (Nat.not_lt_zero m)) _ _ _ hP hD hS (lv_sub hl [1, 2, 0] rfl)

theorem seL_far {st : Nat → Int} {v : Int} {S : SE} {i : Nat} (hi : 10 ≤ i) : ∀ k, k ≤ 10 → (seL st v k S).1 i = S.1 i
  | 0, _ => rfl
  | k + 1, hk => by
    simp only [seL]
    split
    · show qu (seL st v k S).1 k _ i = _
      rw [qu_n _ _ (by omega)]
      exact seL_far hi k (by omega)
    · exact seL_far hi k (by omega)
theorem seS_far {st : Nat → Int} {S : SE} {i : Nat} (hi : 10 ≤ i) : ∀ j, (seS st j S).1 i = S.1 i
  | 0 => rfl
  | j + 1 => by
    simp only [seS]
    rw [seL_far hi 10 (Nat.le_refl _)]
    exact seS_far hi j

set_option maxRecDepth 100000 in
set_option maxHeartbeats 4000000 in
theorem c_X8_settle (l : Launch) (D : va_G) (cy : Nat → ClassId) (mo mz msv mtx mmo mif mmg mtn mie mme mrd mas : Nat) (th sv ml tu : Int) (fi : Bool) (ro sp it : Int) (bl : Bool) (hh : Int64) (z : Nat → Int) (nc ne : Nat) (g : Nat → Int) (isF : Nat → Bool) (mg tn : Nat → Int) (isE : Nat → Bool) (mE : Nat → Int) (hnc : z 20 = (nc : Int)) (hne : z 101 = (ne : Int)) (hc : nc ≤ 16) (he : ne ≤ 4) (hC : qWR (zC z) nc) (hE : qWR (zE z) ne) (hV : qV z) (hst : ∀ i, i < 10 → 0 ≤ z (10 + i) ∧ z (10 + i) ≤ 9) (sz : Nat) : qMet l yX8_settle (.code yX8_settle cX8_settle 4 none) 5 [.ref (mo)] D cy [[(mo, .inr (8, [.int (qI (th)), .ref (mz), .int (qI (sv)), .ref (msv), .int (qI (ml)), .ref (mtx), .ref (mmo), .int (qI (tu)), .ref (mif), .ref (mmg), .ref (mtn), .ref (mie), .ref (mme), .int (qz (fi)), .int (qI (ro)), .int (qI (sp)), .int (qI (it)), .int (qz (bl)), .ref (mrd), .ref (mas), .long (hh)]))], [(mz, aI cy 115 (z))], [(mmo, aI cy 121 (g))], [(mif, aZ cy 16 (isF))], [(mmg, aI cy 16 (mg))], [(mtn, aI cy 16 (tn))], [(mie, aZ cy 4 (isE))], [(mme, aI cy 4 (mE))]] sz (va_Qv (S := (Nat → Int) × (Nat → Int) × (Nat → Int) × Int × (Nat → Bool) × (Nat → Int) × (Nat → Int) × (Nat → Bool) × (Nat → Int) × Bool × Int) (fun u => u.1 = setv z (fun i => z (10 + i)) (zC z) nc (zE z) ne ∧ mCan z nc ne (-1) u.2.2.1 u.2.2.2.2.1 u.2.2.2.2.2.1 u.2.2.2.2.2.2.1 u.2.2.2.2.2.2.2.1 u.2.2.2.2.2.2.2.2.1) (qB D cy [[(mo, .inr (8, [.int (qI (th)), .ref (mz), .int (qI (sv)), .ref (msv), .int (qI (ml)), .ref (mtx), .ref (mmo), .int (qI (tu)), .ref (mif), .ref (mmg), .ref (mtn), .ref (mie), .ref (mme), .int (qz (fi)), .int (qI (ro)), .int (qI (sp)), .int (qI (it)), .int (qz (bl)), .ref (mrd), .ref (mas), .long (hh)]))], [(mz, aI cy 115 (z))], [(mmo, aI cy 121 (g))], [(mif, aZ cy 16 (isF))], [(mmg, aI cy 16 (mg))], [(mtn, aI cy 16 (tn))], [(mie, aZ cy 4 (isE))], [(mme, aI cy 4 (mE))]] sz (fun u => [[(mo, .inr (8, [.int (qI (th)), .ref (mz), .int (qI (sv)), .ref (msv), .int (qI (ml)), .ref (mtx), .ref (mmo), .int (qI (u.2.2.2.1)), .ref (mif), .ref (mmg), .ref (mtn), .ref (mie), .ref (mme), .int (qz (u.2.2.2.2.2.2.2.2.2.1)), .int (qI (u.2.2.2.2.2.2.2.2.2.2)), .int (qI (sp)), .int (qI (it)), .int (qz (bl)), .ref (mrd), .ref (mas), .long (hh)]))], [(mz, aI cy 115 (u.1))], [(mmo, aI cy 121 (u.2.1))], [(mif, aZ cy 16 (u.2.2.2.2.1))], [(mmg, aI cy 16 (u.2.2.2.2.2.1))], [(mtn, aI cy 16 (u.2.2.2.2.2.2.1))], [(mie, aZ cy 4 (u.2.2.2.2.2.2.2.1))], [(mme, aI cy 4 (u.2.2.2.2.2.2.2.2.1))]])) (va_A [[(mo, .inr (8, [.int (qI (th)), .ref (mz), .int (qI (sv)), .ref (msv), .int (qI (ml)), .ref (mtx), .ref (mmo), .int (qI (tu)), .ref (mif), .ref (mmg), .ref (mtn), .ref (mie), .ref (mme), .int (qz (fi)), .int (qI (ro)), .int (qI (sp)), .int (qI (it)), .int (qz (bl)), .ref (mrd), .ref (mas), .long (hh)]))], [(mz, aI cy 115 (z))], [(mmo, aI cy 121 (g))], [(mif, aZ cy 16 (isF))], [(mmg, aI cy 16 (mg))], [(mtn, aI cy 16 (tn))], [(mie, aZ cy 4 (isE))], [(mme, aI cy 4 (mE))]].flatten sz)) := by
  refine q_ofMv (S := (Nat → Int) × (Nat → Int) × (Nat → Int) × Int × (Nat → Bool) × (Nat → Int) × (Nat → Int) × (Nat → Bool) × (Nat → Int) × Bool × Int) (b1 := fun u => [[(mo, .inr (8, [.int (qI (th)), .ref (mz), .int (qI (sv)), .ref (msv), .int (qI (ml)), .ref (mtx), .ref (mmo), .int (qI (u.2.2.2.1)), .ref (mif), .ref (mmg), .ref (mtn), .ref (mie), .ref (mme), .int (qz (u.2.2.2.2.2.2.2.2.2.1)), .int (qI (u.2.2.2.2.2.2.2.2.2.2)), .int (qI (sp)), .int (qI (it)), .int (qz (bl)), .ref (mrd), .ref (mas), .long (hh)]))], [(mz, aI cy 115 (u.1))], [(mmo, aI cy 121 (u.2.1))], [(mif, aZ cy 16 (u.2.2.2.2.1))], [(mmg, aI cy 16 (u.2.2.2.2.2.1))], [(mtn, aI cy 16 (u.2.2.2.2.2.2.1))], [(mie, aZ cy 4 (u.2.2.2.2.2.2.2.1))], [(mme, aI cy 4 (u.2.2.2.2.2.2.2.2.1))]]) (post := fun u => u.1 = setv z (fun i => z (10 + i)) (zC z) nc (zE z) ne ∧ mCan z nc ne (-1) u.2.2.1 u.2.2.2.2.1 u.2.2.2.2.2.1 u.2.2.2.2.2.2.1 u.2.2.2.2.2.2.2.1 u.2.2.2.2.2.2.2.2.1) (by decide +kernel) (Nat.le_of_ble_eq_true rfl) ?_
  intro p e s m args below meth c Q A hx hb hml hown hg hQ hK hN hD hA H locs ls hP hS hl
  have hown : s.vm.findClass RX8 = some m.cls := hown
  have hl : lv_has ls 4 [(0, .ref (mo))] := hl
  refine lv_aload_n hx hb dX8_settle_0 rfl (lv_at hl 0 rfl) ?_
  refine q_iconst hx hb dX8_settle_1 ?_
  refine q_backv [0, 1, 2, 3, 4, 5, 6, 7] [] (br := []) hP hD hS hA (va_runV (As := [.int (qI (-1))]) (rest := []) ⟨hx, hb, hml, hown, hg⟩ (c_X8_fill l D cy mo mz msv mtx mmo mif mmg mtn mie mme mrd mas (th) (sv) (ml) (tu) (fi) (ro) (sp) (it) (bl) (hh) (z) nc ne (g) (isF) (mg) (tn) (isE) (mE) hnc hne hc he hC hE (-1) (by omega) _) (cv_X8_77 hg rfl rfl ⟨by decide, by decide⟩) ⟨q_blind, va_recv hK (fl_blk hP 0 rfl) (ci := 8) (q0 := 0) rfl rfl, q_preM _ hK hN hP hD [0, 1, 2, 3, 4, 5, 6, 7] (by decide) rfl⟩ rfl rfl hl.1 rfl (lv_room (Nat.le_of_ble_eq_true rfl)) dX8_settle_2 ⟨by decide, by decide⟩) rfl rfl (by decide) (fun u_2 H locs h_2 hP hD hS => ?_)
  have hP : va_P D vwCl [[(mo, .inr (8, [.int (qI (th)), .ref (mz), .int (qI (sv)), .ref (msv), .int (qI (ml)), .ref (mtx), .ref (mmo), .int (qI (u_2.2.1)), .ref (mif), .ref (mmg), .ref (mtn), .ref (mie), .ref (mme), .int (qz (u_2.2.2.2.2.2.2.2.1)), .int (qI (u_2.2.2.2.2.2.2.2.2)), .int (qI (sp)), .int (qI (it)), .int (qz (bl)), .ref (mrd), .ref (mas), .long (hh)]))], [(mz, aI cy 115 (z))], [(mmo, aI cy 121 (u_2.1))], [(mif, aZ cy 16 (u_2.2.2.1))], [(mmg, aI cy 16 (u_2.2.2.2.1))], [(mtn, aI cy 16 (u_2.2.2.2.2.1))], [(mie, aZ cy 4 (u_2.2.2.2.2.2.1))], [(mme, aI cy 4 (u_2.2.2.2.2.2.2.1))]].flatten H := hP
  have hD : va_D A [[(mo, .inr (8, [.int (qI (th)), .ref (mz), .int (qI (sv)), .ref (msv), .int (qI (ml)), .ref (mtx), .ref (mmo), .int (qI (u_2.2.1)), .ref (mif), .ref (mmg), .ref (mtn), .ref (mie), .ref (mme), .int (qz (u_2.2.2.2.2.2.2.2.1)), .int (qI (u_2.2.2.2.2.2.2.2.2)), .int (qI (sp)), .int (qI (it)), .int (qz (bl)), .ref (mrd), .ref (mas), .long (hh)]))], [(mz, aI cy 115 (z))], [(mmo, aI cy 121 (u_2.1))], [(mif, aZ cy 16 (u_2.2.2.1))], [(mmg, aI cy 16 (u_2.2.2.2.1))], [(mtn, aI cy 16 (u_2.2.2.2.2.1))], [(mie, aZ cy 4 (u_2.2.2.2.2.2.1))], [(mme, aI cy 4 (u_2.2.2.2.2.2.2.1))]].flatten := hD
  have cl0 := (fil_ok (but := -1) hE hC (by omega : ne ≤ 16) hc).1
  refine q_bipush hx hb dX8_settle_5 (by decide) ?_
  refine lv_istore_n (lv' := [(1, .int (qI (9))), (0, .ref (mo))]) hx hb dX8_settle_7 rfl hl (by decide) rfl (fun ls hl => ?_)
  have L_8 : ∀ (n_8 j : Nat) (x3 : Int) (z1 : Nat → Int) (g1 : Nat → Int), j ≤ 10 → 10 + 1 ≤ j + n_8 → (x3 = 9 - (j : Int)) → (z1 = (seS (fun i => z (10 + i)) j (z, fM (fil (zC z) nc (zE z) ne (-1)))).1 ∧ qEq (mM g1) (seS (fun i => z (10 + i)) j (z, fM (fil (zC z) nc (zE z) ne (-1)))).2) → ∀ (H : Heap) (locs : List Loc) (ls : Array Slot), va_P D vwCl [[(mo, .inr (8, [.int (qI (th)), .ref (mz), .int (qI (sv)), .ref (msv), .int (qI (ml)), .ref (mtx), .ref (mmo), .int (qI (u_2.2.1)), .ref (mif), .ref (mmg), .ref (mtn), .ref (mie), .ref (mme), .int (qz (u_2.2.2.2.2.2.2.2.1)), .int (qI (u_2.2.2.2.2.2.2.2.2)), .int (qI (sp)), .int (qI (it)), .int (qz (bl)), .ref (mrd), .ref (mas), .long (hh)]))], [(mz, aI cy 115 (z1))], [(mmo, aI cy 121 (g1))], [(mif, aZ cy 16 (u_2.2.2.1))], [(mmg, aI cy 16 (u_2.2.2.2.1))], [(mtn, aI cy 16 (u_2.2.2.2.2.1))], [(mie, aZ cy 4 (u_2.2.2.2.2.2.1))], [(mme, aI cy 4 (u_2.2.2.2.2.2.2.1))]].flatten H → va_D A [[(mo, .inr (8, [.int (qI (th)), .ref (mz), .int (qI (sv)), .ref (msv), .int (qI (ml)), .ref (mtx), .ref (mmo), .int (qI (u_2.2.1)), .ref (mif), .ref (mmg), .ref (mtn), .ref (mie), .ref (mme), .int (qz (u_2.2.2.2.2.2.2.2.1)), .int (qI (u_2.2.2.2.2.2.2.2.2)), .int (qI (sp)), .int (qI (it)), .int (qz (bl)), .ref (mrd), .ref (mas), .long (hh)]))], [(mz, aI cy 115 (z1))], [(mmo, aI cy 121 (g1))], [(mif, aZ cy 16 (u_2.2.2.1))], [(mmg, aI cy 16 (u_2.2.2.2.1))], [(mtn, aI cy 16 (u_2.2.2.2.2.1))], [(mie, aZ cy 4 (u_2.2.2.2.2.2.1))], [(mme, aI cy 4 (u_2.2.2.2.2.2.2.1))]].flatten → va_S A s.heap H locs → lv_has ls 4 [(0, .ref (mo)), (1, .int (qI (x3)))] → W p l e (qrm 5) s m args below meth c H locs 0 0 Q (F0 m 8 ls []) := by
    intro n_8
    induction n_8 with
    | zero => intro j _ _ _ h1 h2; exact absurd h2 (by omega)
    | succ n_8 ih_8 =>
      intro j x3 z1 g1 hk_8 hn_8 hx3 hR H locs ls hP hD hS hl
      refine lv_iload_n hx hb dX8_settle_8 rfl (lv_at hl 1 rfl) ?_
      refine q_if_lt (tgt := 120) hx hb dX8_settle_9 (by decide) (by omega) (fun c_9 => ?_) (fun c_9 => ?_)
      · skip
        have e9 : j = 10 := by omega
        subst e9
        exact hQ _ _ _ _ (z1, g1, u_2) ⟨hR.1, h_2⟩ hP hD hS dX8_settle_120
      · skip
        refine q_iconst hx hb dX8_settle_12 ?_
        refine lv_istore_n (lv' := [(2, .int (qI (0))), (0, .ref (mo)), (1, .int (qI (x3)))]) hx hb dX8_settle_13 rfl hl (by decide) rfl (fun ls hl => ?_)
        have L_14 : ∀ (n_14 k : Nat) (z1 : Nat → Int) (g1 : Nat → Int), k ≤ 10 → 10 + 1 ≤ k + n_14 → (z1 = (seL (fun i => z (10 + i)) (9 - (j : Int)) k (seS (fun i => z (10 + i)) j (z, fM (fil (zC z) nc (zE z) ne (-1))))).1 ∧ qEq (mM g1) (seL (fun i => z (10 + i)) (9 - (j : Int)) k (seS (fun i => z (10 + i)) j (z, fM (fil (zC z) nc (zE z) ne (-1))))).2) → ∀ (H : Heap) (locs : List Loc) (ls : Array Slot), va_P D vwCl [[(mo, .inr (8, [.int (qI (th)), .ref (mz), .int (qI (sv)), .ref (msv), .int (qI (ml)), .ref (mtx), .ref (mmo), .int (qI (u_2.2.1)), .ref (mif), .ref (mmg), .ref (mtn), .ref (mie), .ref (mme), .int (qz (u_2.2.2.2.2.2.2.2.1)), .int (qI (u_2.2.2.2.2.2.2.2.2)), .int (qI (sp)), .int (qI (it)), .int (qz (bl)), .ref (mrd), .ref (mas), .long (hh)]))], [(mz, aI cy 115 (z1))], [(mmo, aI cy 121 (g1))], [(mif, aZ cy 16 (u_2.2.2.1))], [(mmg, aI cy 16 (u_2.2.2.2.1))], [(mtn, aI cy 16 (u_2.2.2.2.2.1))], [(mie, aZ cy 4 (u_2.2.2.2.2.2.1))], [(mme, aI cy 4 (u_2.2.2.2.2.2.2.1))]].flatten H → va_D A [[(mo, .inr (8, [.int (qI (th)), .ref (mz), .int (qI (sv)), .ref (msv), .int (qI (ml)), .ref (mtx), .ref (mmo), .int (qI (u_2.2.1)), .ref (mif), .ref (mmg), .ref (mtn), .ref (mie), .ref (mme), .int (qz (u_2.2.2.2.2.2.2.2.1)), .int (qI (u_2.2.2.2.2.2.2.2.2)), .int (qI (sp)), .int (qI (it)), .int (qz (bl)), .ref (mrd), .ref (mas), .long (hh)]))], [(mz, aI cy 115 (z1))], [(mmo, aI cy 121 (g1))], [(mif, aZ cy 16 (u_2.2.2.1))], [(mmg, aI cy 16 (u_2.2.2.2.1))], [(mtn, aI cy 16 (u_2.2.2.2.2.1))], [(mie, aZ cy 4 (u_2.2.2.2.2.2.1))], [(mme, aI cy 4 (u_2.2.2.2.2.2.2.1))]].flatten → va_S A s.heap H locs → lv_has ls 4 [(0, .ref (mo)), (1, .int (qI (x3))), (2, .int (qI (((k : Nat) : Int))))] → W p l e (qrm 5) s m args below meth c H locs 0 0 Q (F0 m 14 ls []) := by
          intro n_14
          induction n_14 with
          | zero => intro k _ _ h1 h2; exact absurd h2 (by omega)
          | succ n_14 ih_14 =>
            intro k z1 g1 hk_14 hn_14 hR H locs ls hP hD hS hl
            have so := seS_ok (st := (fun i => z (10 + i))) (S := (z, fM (fil (zC z) nc (zE z) ne (-1)))) ⟨cl0, hV⟩ j
            have so := seL_ok (st := (fun i => z (10 + i))) (v := 9 - j) so k hk_14
            have cl9 : qCl (mM g1) := qEq.cl hR.2.symm so.1
            have hv9 : qV z1 := by rw [hR.1]; exact so.2
            refine lv_iload_n hx hb dX8_settle_14 rfl (lv_at hl 2 rfl) ?_
            refine q_bipush hx hb dX8_settle_15 (by decide) ?_
            refine q_icmp_ge (tgt := 114) hx hb dX8_settle_17 (by decide) (by omega) (fun c_17 => ?_) (fun c_17 => ?_)
            · skip
              refine q_iinc (k := 1) (lv' := [(1, .int (qI ((x3) + (-1)))), (0, .ref (mo)), (2, .int (qI (((k : Nat) : Int))))]) hx hb dX8_settle_114 hl rfl (by decide) rfl (fun ls hl => ?_)
              refine lv_goto (tgt := 8) hx hb dX8_settle_117 (by decide) ?_
              exact ih_8 (j + 1) _ _ _ (by omega) (by omega) (by omega) (by subst hx3; rw [show k = 10 by omega] at hR; exact hR) _ _ _ hP hD hS (lv_sub hl [1, 0] rfl)
            · skip
              have hw := hst k (by omega)
              have z9 : z1 (10 + k) = z (10 + k) := by rw [hR.1]; rw [seL_far (by omega) k (by omega), seS_far (by omega)]
              have b1 := cl9.2.2 k 10 (by omega) (by omega)
              have b2 := cl9.2.2 10 k (by omega) (by omega)
              have b3 := hv9 k (by omega)
              have b4 := cl9.1 k k 10 (by omega) (by omega) (by omega)
              have b5 := cl9.2.1 k (by omega)
              obtain ⟨n1, n2, n3, n4⟩ := cl_need cl9 (k := k) (by omega) b3
              refine lv_aload_n hx hb dX8_settle_20 rfl (lv_at hl 0 rfl) ?_
              refine gf_X8_7 hx hb hg hown hK (fl_blk hP 0 rfl) 0 rfl rfl dX8_settle_21 ?_
              refine q_bipush hx hb dX8_settle_24 (by decide) ?_
              refine lv_iload_n hx hb dX8_settle_26 rfl (lv_at hl 2 rfl) ?_
              refine q_iadd hx hb dX8_settle_27 ?_
              refine q_iald (j := (10 + k)) hx hb hK (fl_blk hP 1 rfl) 0 rfl (by omega) dX8_settle_28 ?_
              refine lv_iload_n hx hb dX8_settle_29 rfl (lv_at hl 1 rfl) ?_
              refine q_icmp_ne (tgt := 108) hx hb dX8_settle_30 (by decide) (by omega) (fun c_30 => ?_) (fun c_30 => ?_)
              · skip
                refine q_iinc (k := 2) (lv' := [(2, .int (qI ((((k : Nat) : Int)) + (1)))), (0, .ref (mo)), (1, .int (qI (x3)))]) hx hb dX8_settle_108 hl rfl (by decide) rfl (fun ls hl => ?_)
                refine lv_goto (tgt := 14) hx hb dX8_settle_111 (by decide) ?_
                exact ih_14 (k + 1) _ _ (by omega) (by omega) (by simp only [seL]; rw [if_neg (by omega)]; exact hR) _ _ _ hP hD hS (lv_sub hl [1, 2, 0] rfl)
              · skip
                have K_83 : W p l e (qrm 5) s m args below meth c H locs 0 0 Q (F0 m 83 ls [.int (qI (clv (z1 k) (-(mM g1 10 k)) (mM g1 k 10)))]) := by
                  refine lv_istore_n (lv' := [(3, .int (qI (clv (z1 k) (-(mM g1 10 k)) (mM g1 k 10)))), (0, .ref (mo)), (1, .int (qI (x3))), (2, .int (qI (((k : Nat) : Int))))]) hx hb dX8_settle_83 rfl hl (by decide) rfl (fun ls hl => ?_)
                  refine lv_aload_n hx hb dX8_settle_84 rfl (lv_at hl 1 rfl) ?_
                  refine lv_iload_n hx hb dX8_settle_85 rfl (lv_at hl 3 rfl) ?_
                  refine q_bipush hx hb dX8_settle_86 (by decide) ?_
                  refine lv_iload_n hx hb dX8_settle_88 rfl (lv_at hl 0 rfl) ?_
                  refine q_backv [0, 2] [1, 3, 4, 5, 6, 7] (br := [[(mz, aI cy 115 (z1))], [(mif, aZ cy 16 (u_2.2.2.1))], [(mmg, aI cy 16 (u_2.2.2.2.1))], [(mtn, aI cy 16 (u_2.2.2.2.2.1))], [(mie, aZ cy 4 (u_2.2.2.2.2.2.1))], [(mme, aI cy 4 (u_2.2.2.2.2.2.2.1))]]) hP hD hS hA (va_runV (As := [.int (qI (((k : Nat) : Int))), .int (qI (10)), .int (qI (clv (z1 k) (-(mM g1 10 k)) (mM g1 k 10)))]) (rest := []) ⟨hx, hb, hml, hown, hg⟩ (c_X8_bind l D cy mo mz msv mtx mmo mif mmg mtn mie mme mrd mas (th) (sv) (ml) (u_2.2.1) (u_2.2.2.2.2.2.2.2.1) (u_2.2.2.2.2.2.2.2.2) (sp) (it) (bl) (hh) (g1) _ _ _ k 10 (by omega) (by omega) cl9 (by omega) (by omega) _) (cv_X8_59 hg rfl rfl ⟨by decide, by decide⟩) ⟨q_blind, va_recv hK (fl_blk hP 0 rfl) (ci := 8) (q0 := 0) rfl rfl, q_preM _ hK hN hP hD [0, 2] (by decide) rfl⟩ rfl rfl hl.1 rfl (lv_room (Nat.le_of_ble_eq_true rfl)) dX8_settle_89 ⟨by decide, by decide⟩) rfl rfl (by decide) (fun u_89 H locs h_89 hP hD hS => ?_)
                  have hP : va_P D vwCl [[(mz, aI cy 115 (z1))], [(mif, aZ cy 16 (u_2.2.2.1))], [(mmg, aI cy 16 (u_2.2.2.2.1))], [(mtn, aI cy 16 (u_2.2.2.2.2.1))], [(mie, aZ cy 4 (u_2.2.2.2.2.2.1))], [(mme, aI cy 4 (u_2.2.2.2.2.2.2.1))], [(mo, .inr (8, [.int (qI (th)), .ref (mz), .int (qI (sv)), .ref (msv), .int (qI (ml)), .ref (mtx), .ref (mmo), .int (qI (u_2.2.1)), .ref (mif), .ref (mmg), .ref (mtn), .ref (mie), .ref (mme), .int (qz (u_2.2.2.2.2.2.2.2.1)), .int (qI (u_2.2.2.2.2.2.2.2.2)), .int (qI (sp)), .int (qI (it)), .int (qz (bl)), .ref (mrd), .ref (mas), .long (hh)]))], [(mmo, aI cy 121 (u_89))]].flatten H := hP
                  have hD : va_D A [[(mz, aI cy 115 (z1))], [(mif, aZ cy 16 (u_2.2.2.1))], [(mmg, aI cy 16 (u_2.2.2.2.1))], [(mtn, aI cy 16 (u_2.2.2.2.2.1))], [(mie, aZ cy 4 (u_2.2.2.2.2.2.1))], [(mme, aI cy 4 (u_2.2.2.2.2.2.2.1))], [(mo, .inr (8, [.int (qI (th)), .ref (mz), .int (qI (sv)), .ref (msv), .int (qI (ml)), .ref (mtx), .ref (mmo), .int (qI (u_2.2.1)), .ref (mif), .ref (mmg), .ref (mtn), .ref (mie), .ref (mme), .int (qz (u_2.2.2.2.2.2.2.2.1)), .int (qI (u_2.2.2.2.2.2.2.2.2)), .int (qI (sp)), .int (qI (it)), .int (qz (bl)), .ref (mrd), .ref (mas), .long (hh)]))], [(mmo, aI cy 121 (u_89))]].flatten := hD
                  have c2 : qCl (mM u_89) := qEq.cl h_89.symm (tg_cl cl9 (by omega) (by omega) n1)
                  have e2 : mM u_89 k 10 = clv (z1 k) (-(mM g1 10 k)) (mM g1 k 10) := by rw [h_89 _ _ (by omega) (by omega), tg_ab cl9 (by omega) (by omega) n2]
                  refine lv_aload_n hx hb dX8_settle_92 rfl (lv_at hl 1 rfl) ?_
                  refine q_bipush hx hb dX8_settle_93 (by decide) ?_
                  refine lv_iload_n hx hb dX8_settle_95 rfl (lv_at hl 3 rfl) ?_
                  refine lv_iload_n hx hb dX8_settle_96 rfl (lv_at hl 0 rfl) ?_
                  refine q_ineg hx hb dX8_settle_97 ?_
                  refine q_backv [6, 7] [0, 1, 2, 3, 4, 5] (br := [[(mz, aI cy 115 (z1))], [(mif, aZ cy 16 (u_2.2.2.1))], [(mmg, aI cy 16 (u_2.2.2.2.1))], [(mtn, aI cy 16 (u_2.2.2.2.2.1))], [(mie, aZ cy 4 (u_2.2.2.2.2.2.1))], [(mme, aI cy 4 (u_2.2.2.2.2.2.2.1))]]) hP hD hS hA (va_runV (As := [.int (qI (10)), .int (qI (((k : Nat) : Int))), .int (qI (-(clv (z1 k) (-(mM g1 10 k)) (mM g1 k 10))))]) (rest := []) ⟨hx, hb, hml, hown, hg⟩ (c_X8_bind l D cy mo mz msv mtx mmo mif mmg mtn mie mme mrd mas (th) (sv) (ml) (u_2.2.1) (u_2.2.2.2.2.2.2.2.1) (u_2.2.2.2.2.2.2.2.2) (sp) (it) (bl) (hh) (u_89) _ _ _ 10 k (by omega) (by omega) c2 (by omega) (by omega) _) (cv_X8_59 hg rfl rfl ⟨by decide, by decide⟩) ⟨q_blind, va_recv hK (fl_blk hP 6 rfl) (ci := 8) (q0 := 0) rfl rfl, q_preM _ hK hN hP hD [6, 7] (by decide) rfl⟩ rfl rfl hl.1 rfl (lv_room (Nat.le_of_ble_eq_true rfl)) dX8_settle_98 ⟨by decide, by decide⟩) rfl rfl (by decide) (fun u_98 H locs h_98 hP hD hS => ?_)
                  have hP : va_P D vwCl [[(mz, aI cy 115 (z1))], [(mif, aZ cy 16 (u_2.2.2.1))], [(mmg, aI cy 16 (u_2.2.2.2.1))], [(mtn, aI cy 16 (u_2.2.2.2.2.1))], [(mie, aZ cy 4 (u_2.2.2.2.2.2.1))], [(mme, aI cy 4 (u_2.2.2.2.2.2.2.1))], [(mo, .inr (8, [.int (qI (th)), .ref (mz), .int (qI (sv)), .ref (msv), .int (qI (ml)), .ref (mtx), .ref (mmo), .int (qI (u_2.2.1)), .ref (mif), .ref (mmg), .ref (mtn), .ref (mie), .ref (mme), .int (qz (u_2.2.2.2.2.2.2.2.1)), .int (qI (u_2.2.2.2.2.2.2.2.2)), .int (qI (sp)), .int (qI (it)), .int (qz (bl)), .ref (mrd), .ref (mas), .long (hh)]))], [(mmo, aI cy 121 (u_98))]].flatten H := hP
                  have hD : va_D A [[(mz, aI cy 115 (z1))], [(mif, aZ cy 16 (u_2.2.2.1))], [(mmg, aI cy 16 (u_2.2.2.2.1))], [(mtn, aI cy 16 (u_2.2.2.2.2.1))], [(mie, aZ cy 4 (u_2.2.2.2.2.2.1))], [(mme, aI cy 4 (u_2.2.2.2.2.2.2.1))], [(mo, .inr (8, [.int (qI (th)), .ref (mz), .int (qI (sv)), .ref (msv), .int (qI (ml)), .ref (mtx), .ref (mmo), .int (qI (u_2.2.1)), .ref (mif), .ref (mmg), .ref (mtn), .ref (mie), .ref (mme), .int (qz (u_2.2.2.2.2.2.2.2.1)), .int (qI (u_2.2.2.2.2.2.2.2.2)), .int (qI (sp)), .int (qI (it)), .int (qz (bl)), .ref (mrd), .ref (mas), .long (hh)]))], [(mmo, aI cy 121 (u_98))]].flatten := hD
                  refine lv_aload_n hx hb dX8_settle_101 rfl (lv_at hl 1 rfl) ?_
                  refine gf_X8_7 hx hb hg hown hK (fl_blk hP 6 rfl) 0 rfl rfl dX8_settle_102 ?_
                  refine lv_iload_n hx hb dX8_settle_105 rfl (lv_at hl 3 rfl) ?_
                  refine lv_iload_n hx hb dX8_settle_106 rfl (lv_at hl 0 rfl) ?_
                  refine qb_iast (j := k) hx hb hK hP hD hS 0 0 rfl rfl (by omega) dX8_settle_107 (fun H locs hP hD hS => ?_)
                  have hP : va_P D vwCl [[(mz, aI cy 115 (qu z1 k (clv (z1 k) (-(mM g1 10 k)) (mM g1 k 10))))], [(mif, aZ cy 16 (u_2.2.2.1))], [(mmg, aI cy 16 (u_2.2.2.2.1))], [(mtn, aI cy 16 (u_2.2.2.2.2.1))], [(mie, aZ cy 4 (u_2.2.2.2.2.2.1))], [(mme, aI cy 4 (u_2.2.2.2.2.2.2.1))], [(mo, .inr (8, [.int (qI (th)), .ref (mz), .int (qI (sv)), .ref (msv), .int (qI (ml)), .ref (mtx), .ref (mmo), .int (qI (u_2.2.1)), .ref (mif), .ref (mmg), .ref (mtn), .ref (mie), .ref (mme), .int (qz (u_2.2.2.2.2.2.2.2.1)), .int (qI (u_2.2.2.2.2.2.2.2.2)), .int (qI (sp)), .int (qI (it)), .int (qz (bl)), .ref (mrd), .ref (mas), .long (hh)]))], [(mmo, aI cy 121 (u_98))]].flatten H := hP
                  have hD : va_D A [[(mz, aI cy 115 (qu z1 k (clv (z1 k) (-(mM g1 10 k)) (mM g1 k 10))))], [(mif, aZ cy 16 (u_2.2.2.1))], [(mmg, aI cy 16 (u_2.2.2.2.1))], [(mtn, aI cy 16 (u_2.2.2.2.2.1))], [(mie, aZ cy 4 (u_2.2.2.2.2.2.1))], [(mme, aI cy 4 (u_2.2.2.2.2.2.2.1))], [(mo, .inr (8, [.int (qI (th)), .ref (mz), .int (qI (sv)), .ref (msv), .int (qI (ml)), .ref (mtx), .ref (mmo), .int (qI (u_2.2.1)), .ref (mif), .ref (mmg), .ref (mtn), .ref (mie), .ref (mme), .int (qz (u_2.2.2.2.2.2.2.2.1)), .int (qI (u_2.2.2.2.2.2.2.2.2)), .int (qI (sp)), .int (qI (it)), .int (qz (bl)), .ref (mrd), .ref (mas), .long (hh)]))], [(mmo, aI cy 121 (u_98))]].flatten := hD
                  refine q_iinc (k := 3) (lv' := [(2, .int (qI ((((k : Nat) : Int)) + (1)))), (3, .int (qI (clv (z1 k) (-(mM g1 10 k)) (mM g1 k 10)))), (0, .ref (mo)), (1, .int (qI (x3)))]) hx hb dX8_settle_108 hl rfl (by decide) rfl (fun ls hl => ?_)
                  refine lv_goto (tgt := 14) hx hb dX8_settle_111 (by decide) ?_
                  have hP := fl_sub (bs' := [[(mo, .inr (8, [.int (qI (th)), .ref (mz), .int (qI (sv)), .ref (msv), .int (qI (ml)), .ref (mtx), .ref (mmo), .int (qI (u_2.2.1)), .ref (mif), .ref (mmg), .ref (mtn), .ref (mie), .ref (mme), .int (qz (u_2.2.2.2.2.2.2.2.1)), .int (qI (u_2.2.2.2.2.2.2.2.2)), .int (qI (sp)), .int (qI (it)), .int (qz (bl)), .ref (mrd), .ref (mas), .long (hh)]))], [(mz, aI cy 115 (qu z1 k (clv (z1 k) (-(mM g1 10 k)) (mM g1 k 10))))], [(mmo, aI cy 121 (u_98))], [(mif, aZ cy 16 (u_2.2.2.1))], [(mmg, aI cy 16 (u_2.2.2.2.1))], [(mtn, aI cy 16 (u_2.2.2.2.2.1))], [(mie, aZ cy 4 (u_2.2.2.2.2.2.1))], [(mme, aI cy 4 (u_2.2.2.2.2.2.2.1))]]) hP [6, 0, 7, 1, 2, 3, 4, 5] rfl
                  have hD := fl_subD (bs' := [[(mo, .inr (8, [.int (qI (th)), .ref (mz), .int (qI (sv)), .ref (msv), .int (qI (ml)), .ref (mtx), .ref (mmo), .int (qI (u_2.2.1)), .ref (mif), .ref (mmg), .ref (mtn), .ref (mie), .ref (mme), .int (qz (u_2.2.2.2.2.2.2.2.1)), .int (qI (u_2.2.2.2.2.2.2.2.2)), .int (qI (sp)), .int (qI (it)), .int (qz (bl)), .ref (mrd), .ref (mas), .long (hh)]))], [(mz, aI cy 115 (qu z1 k (clv (z1 k) (-(mM g1 10 k)) (mM g1 k 10))))], [(mmo, aI cy 121 (u_98))], [(mif, aZ cy 16 (u_2.2.2.1))], [(mmg, aI cy 16 (u_2.2.2.2.1))], [(mtn, aI cy 16 (u_2.2.2.2.2.1))], [(mie, aZ cy 4 (u_2.2.2.2.2.2.1))], [(mme, aI cy 4 (u_2.2.2.2.2.2.2.1))]]) hD [6, 0, 7, 1, 2, 3, 4, 5] (by decide) rfl
                  exact ih_14 (k + 1) _ _ (by omega) (by omega) (by simp only [seL]; rw [if_pos (by omega)]; have q := seP_eq (S := (z1, mM g1)) hR (k := k) (by omega); exact ⟨q.1, (h_98.trans (h_89.tg (by omega) (by omega) _)).trans q.2⟩) _ _ _ hP hD hS (lv_sub hl [2, 3, 0] rfl)
                refine lv_aload_n hx hb dX8_settle_33 rfl (lv_at hl 0 rfl) ?_
                refine gf_X8_7 hx hb hg hown hK (fl_blk hP 0 rfl) 0 rfl rfl dX8_settle_34 ?_
                refine lv_iload_n hx hb dX8_settle_37 rfl (lv_at hl 2 rfl) ?_
                refine q_iald (j := k) hx hb hK (fl_blk hP 1 rfl) 0 rfl (by omega) dX8_settle_38 ?_
                refine lv_aload_n hx hb dX8_settle_39 rfl (lv_at hl 0 rfl) ?_
                refine lv_iload_n hx hb dX8_settle_40 rfl (lv_at hl 2 rfl) ?_
                refine q_readi (va_runV (As := [.int (qI (((k : Nat) : Int)))]) (rest := [.int (qI (z1 k))]) ⟨hx, hb, hml, hown, hg⟩ (c_X8_least l D cy mo mz msv mtx mmo mif mmg mtn mie mme mrd mas (th) (sv) (ml) (u_2.2.1) (u_2.2.2.2.2.2.2.2.1) (u_2.2.2.2.2.2.2.2.2) (sp) (it) (bl) (hh) (g1) _ k (by omega)) (cv_X8_81 hg rfl rfl ⟨by decide, by decide⟩) ⟨q_blind0, va_recv hK (fl_blk hP 0 rfl) (ci := 8) (q0 := 0) rfl rfl, q_preR _ hK hN hP [0, 2] rfl⟩ rfl rfl hl.1 rfl (lv_room (Nat.le_of_ble_eq_true rfl)) dX8_settle_41 ⟨by decide, by decide⟩) (fun r_41 h_41 => ?_)
                subst h_41
                refine q_icmp_ge (tgt := 55) hx hb dX8_settle_44 (by decide) (by omega) (fun c_44 => ?_) (fun c_44 => ?_)
                · skip
                  refine lv_aload_n hx hb dX8_settle_55 rfl (lv_at hl 0 rfl) ?_
                  refine gf_X8_7 hx hb hg hown hK (fl_blk hP 0 rfl) 0 rfl rfl dX8_settle_56 ?_
                  refine lv_iload_n hx hb dX8_settle_59 rfl (lv_at hl 2 rfl) ?_
                  refine q_iald (j := k) hx hb hK (fl_blk hP 1 rfl) 0 rfl (by omega) dX8_settle_60 ?_
                  refine lv_aload_n hx hb dX8_settle_61 rfl (lv_at hl 0 rfl) ?_
                  refine lv_iload_n hx hb dX8_settle_62 rfl (lv_at hl 2 rfl) ?_
                  refine q_readi (va_runV (As := [.int (qI (((k : Nat) : Int)))]) (rest := [.int (qI (z1 k))]) ⟨hx, hb, hml, hown, hg⟩ (c_X8_greatest l D cy mo mz msv mtx mmo mif mmg mtn mie mme mrd mas (th) (sv) (ml) (u_2.2.1) (u_2.2.2.2.2.2.2.2.1) (u_2.2.2.2.2.2.2.2.2) (sp) (it) (bl) (hh) (g1) _ k (by omega)) (cv_X8_85 hg rfl rfl ⟨by decide, by decide⟩) ⟨q_blind0, va_recv hK (fl_blk hP 0 rfl) (ci := 8) (q0 := 0) rfl rfl, q_preR _ hK hN hP [0, 2] rfl⟩ rfl rfl hl.1 rfl (lv_room (Nat.le_of_ble_eq_true rfl)) dX8_settle_63 ⟨by decide, by decide⟩) (fun r_63 h_63 => ?_)
                  subst h_63
                  refine q_icmp_le (tgt := 77) hx hb dX8_settle_66 (by decide) (by omega) (fun c_66 => ?_) (fun c_66 => ?_)
                  · skip
                    refine lv_aload_n hx hb dX8_settle_77 rfl (lv_at hl 0 rfl) ?_
                    refine gf_X8_7 hx hb hg hown hK (fl_blk hP 0 rfl) 0 rfl rfl dX8_settle_78 ?_
                    refine lv_iload_n hx hb dX8_settle_81 rfl (lv_at hl 2 rfl) ?_
                    refine q_iald (j := k) hx hb hK (fl_blk hP 1 rfl) 0 rfl (by omega) dX8_settle_82 ?_
                    refine q_topZ (y := clv (z1 k) (-(mM g1 10 k)) (mM g1 k 10)) (by unfold clv; (repeat' split) <;> omega) ?_
                    exact K_83 
                  · skip
                    refine lv_aload_n hx hb dX8_settle_69 rfl (lv_at hl 0 rfl) ?_
                    refine lv_iload_n hx hb dX8_settle_70 rfl (lv_at hl 2 rfl) ?_
                    refine q_readi (va_runV (As := [.int (qI (((k : Nat) : Int)))]) (rest := []) ⟨hx, hb, hml, hown, hg⟩ (c_X8_greatest l D cy mo mz msv mtx mmo mif mmg mtn mie mme mrd mas (th) (sv) (ml) (u_2.2.1) (u_2.2.2.2.2.2.2.2.1) (u_2.2.2.2.2.2.2.2.2) (sp) (it) (bl) (hh) (g1) _ k (by omega)) (cv_X8_85 hg rfl rfl ⟨by decide, by decide⟩) ⟨q_blind0, va_recv hK (fl_blk hP 0 rfl) (ci := 8) (q0 := 0) rfl rfl, q_preR _ hK hN hP [0, 2] rfl⟩ rfl rfl hl.1 rfl (lv_room (Nat.le_of_ble_eq_true rfl)) dX8_settle_71 ⟨by decide, by decide⟩) (fun r_71 h_71 => ?_)
                    subst h_71
                    refine lv_goto (tgt := 83) hx hb dX8_settle_74 (by decide) ?_
                    refine q_topZ (y := clv (z1 k) (-(mM g1 10 k)) (mM g1 k 10)) (by unfold clv; (repeat' split) <;> omega) ?_
                    exact K_83 
                · skip
                  refine lv_aload_n hx hb dX8_settle_47 rfl (lv_at hl 0 rfl) ?_
                  refine lv_iload_n hx hb dX8_settle_48 rfl (lv_at hl 2 rfl) ?_
                  refine q_readi (va_runV (As := [.int (qI (((k : Nat) : Int)))]) (rest := []) ⟨hx, hb, hml, hown, hg⟩ (c_X8_least l D cy mo mz msv mtx mmo mif mmg mtn mie mme mrd mas (th) (sv) (ml) (u_2.2.1) (u_2.2.2.2.2.2.2.2.1) (u_2.2.2.2.2.2.2.2.2) (sp) (it) (bl) (hh) (g1) _ k (by omega)) (cv_X8_81 hg rfl rfl ⟨by decide, by decide⟩) ⟨q_blind0, va_recv hK (fl_blk hP 0 rfl) (ci := 8) (q0 := 0) rfl rfl, q_preR _ hK hN hP [0, 2] rfl⟩ rfl rfl hl.1 rfl (lv_room (Nat.le_of_ble_eq_true rfl)) dX8_settle_49 ⟨by decide, by decide⟩) (fun r_49 h_49 => ?_)
                  subst h_49
                  refine lv_goto (tgt := 83) hx hb dX8_settle_52 (by decide) ?_
                  refine q_topZ (y := clv (z1 k) (-(mM g1 10 k)) (mM g1 k 10)) (by unfold clv; (repeat' split) <;> omega) ?_
                  exact K_83 
        exact L_14 (10 + 1) (0) _ _ (by omega) (by omega) hR _ _ _ hP hD hS (lv_sub hl [1, 2, 0] rfl)
  exact L_8 (10 + 1) (0) _ _ _ (by omega) (by omega) (by omega) ⟨rfl, h_2.1⟩ _ _ _ hP hD hS (lv_sub hl [1, 0] rfl)
