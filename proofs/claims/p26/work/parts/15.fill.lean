/-! ===== filling: one rule ===== -/
def oOk (M G : Nat → Nat → Int) (k : Nat) : Bool := chB (G 2 k) (G 3 k) (-(M (oN (G 1 k)) (G 0 k).toNat)) (M (G 0 k).toNat (oN (G 1 k)))
def oMg (M G : Nat → Nat → Int) (k : Nat) : Int := if oOk M G k = true then narV (G 2 k) (G 3 k) (-(M (oN (G 1 k)) (G 0 k).toNat)) (M (G 0 k).toNat (oN (G 1 k))) else misV (G 3 k) (-(M (oN (G 1 k)) (G 0 k).toNat)) (M (G 0 k).toNat (oN (G 1 k)))
def oM1 (M G : Nat → Nat → Int) (k : Nat) : Nat → Nat → Int := if G 2 k = 2 then M else tg M (G 0 k).toNat (oN (G 1 k)) (G 3 k)
def oM (M G : Nat → Nat → Int) (k : Nat) : Nat → Nat → Int := if oOk M G k = true then (if G 2 k = 0 then oM1 M G k else tg (oM1 M G k) (oN (G 1 k)) (G 0 k).toNat (-(G 3 k))) else M
theorem tg_ab {M : Nat → Nat → Int} (C : qCl M) {a b : Nat} (ha : a < 11) (hb : b < 11) {n : Int} (h : n ≤ M a b) : tg M a b n a b = n := by
  have h1 := C.2.1 a ha
  have h2 := C.2.1 b hb
  unfold tg
  split <;> omega
/-- what each of the two limits needs -/
theorem oM_need {M G : Nat → Nat → Int} {k n : Nat} (C : qCl M) (hW : qWR G n) (hk : k < n) (h : oOk M G k = true) : (G 0 k).toNat < 11 ∧ oN (G 1 k) < 11 ∧ (G 2 k ≠ 2 → 0 ≤ G 3 k + M (oN (G 1 k)) (G 0 k).toNat) ∧ (G 2 k ≠ 0 → 0 ≤ -(G 3 k) + oM1 M G k (G 0 k).toNat (oN (G 1 k))) := by
  obtain ⟨w0, w1, w2, w3, w4, w5⟩ := hW k hk
  have ho := oN_lt w1
  have hl : (G 0 k).toNat < 11 := by omega
  have h2 := chB_iff.mp h
  obtain ⟨p1, p2⟩ := h2
  refine ⟨hl, ho, fun e => ?_, fun e => ?_⟩
  · rcases p1 with p1 | p1 <;> omega
  · unfold oM1
    rcases p2 with p2 | p2
    · omega
    · split
      · omega
      · rw [tg_ab C hl ho p2]
        omega
theorem oM1_cl {M G : Nat → Nat → Int} {k n : Nat} (C : qCl M) (hW : qWR G n) (hk : k < n) (h : oOk M G k = true) : qCl (oM1 M G k) := by
  obtain ⟨h1, h2, h3, h4⟩ := oM_need C hW hk h
  unfold oM1
  split
  · exact C
  · exact tg_cl C h1 h2 (h3 (by assumption))
theorem oM_cl {M G : Nat → Nat → Int} {k n : Nat} (C : qCl M) (hW : qWR G n) (hk : k < n) : qCl (oM M G k) := by
  unfold oM
  split
  · rename_i h
    obtain ⟨h1, h2, h3, h4⟩ := oM_need C hW hk h
    have c1 := oM1_cl C hW hk h
    split
    · exact c1
    · exact tg_cl c1 h2 h1 (h4 (by assumption))
  · exact C
theorem oOk_eq {M N G : Nat → Nat → Int} {k n : Nat} (h : qEq M N) (hW : qWR G n) (hk : k < n) : oOk M G k = oOk N G k := by
  obtain ⟨w0, w1, w2, w3, w4, w5⟩ := hW k hk
  have ho := oN_lt w1
  have hl : (G 0 k).toNat < 11 := by omega
  unfold oOk
  rw [h _ _ ho hl, h _ _ hl ho]
theorem oMg_eq {M N G : Nat → Nat → Int} {k n : Nat} (h : qEq M N) (hW : qWR G n) (hk : k < n) : oMg M G k = oMg N G k := by
  have e := oOk_eq h hW hk
  obtain ⟨w0, w1, w2, w3, w4, w5⟩ := hW k hk
  have ho := oN_lt w1
  have hl : (G 0 k).toNat < 11 := by omega
  unfold oMg
  rw [e, h _ _ ho hl, h _ _ hl ho]
theorem oM1_eq {M N G : Nat → Nat → Int} {k n : Nat} (h : qEq M N) (hW : qWR G n) (hk : k < n) : qEq (oM1 M G k) (oM1 N G k) := by
  obtain ⟨w0, w1, w2, w3, w4, w5⟩ := hW k hk
  have ho := oN_lt w1
  have hl : (G 0 k).toNat < 11 := by omega
  unfold oM1
  split
  · exact h
  · exact h.tg hl ho _
theorem oM_eq {M N G : Nat → Nat → Int} {k n : Nat} (h : qEq M N) (hW : qWR G n) (hk : k < n) : qEq (oM M G k) (oM N G k) := by
  have e := oOk_eq h hW hk
  have e1 := oM1_eq h hW hk
  obtain ⟨w0, w1, w2, w3, w4, w5⟩ := hW k hk
  have ho := oN_lt w1
  have hl : (G 0 k).toNat < 11 := by omega
  unfold oM
  rw [e]
  split
  · split
    · exact e1
    · exact e1.tg ho hl _
  · exact h
/-! ===== filling: all rules; what there is: M, turns, and of the conditions: filled, margin, turn; of the edits: filled, margin ===== -/
abbrev FS : Type := (Nat → Nat → Int) × Int × (Nat → Bool) × (Nat → Int) × (Nat → Int) × (Nat → Bool) × (Nat → Int)
abbrev fM (S : FS) : Nat → Nat → Int := S.1
abbrev fT (S : FS) : Int := S.2.1
abbrev fOC (S : FS) : Nat → Bool := S.2.2.1
abbrev fGC (S : FS) : Nat → Int := S.2.2.2.1
abbrev fTC (S : FS) : Nat → Int := S.2.2.2.2.1
abbrev fOE (S : FS) : Nat → Bool := S.2.2.2.2.2.1
abbrev fGE (S : FS) : Nat → Int := S.2.2.2.2.2.2
def stE (E : Nat → Nat → Int) (k : Nat) (S : FS) : FS := (oM (fM S) E k, fT S + 1, fOC S, fGC S, fTC S, qu (fOE S) k (oOk (fM S) E k), qu (fGE S) k (oMg (fM S) E k))
def stC (C : Nat → Nat → Int) (k : Nat) (S : FS) : FS := (oM (fM S) C k, fT S + 1, qu (fOC S) k (oOk (fM S) C k), qu (fGC S) k (oMg (fM S) C k), qu (fTC S) k (fT S), fOE S, fGE S)
def loE (E : Nat → Nat → Int) (str : Int) : Nat → FS → FS
  | 0, S => S
  | k + 1, S => if E 4 k = str then stE E k (loE E str k S) else loE E str k S
def loC (C : Nat → Nat → Int) (but str : Int) : Nat → FS → FS
  | 0, S => S
  | k + 1, S => if C 4 k = str ∧ (k : Int) ≠ but then stC C k (loC C but str k S) else loC C but str k S
def loS (E : Nat → Nat → Int) (ne : Nat) (C : Nat → Nat → Int) (nc : Nat) (but : Int) : Nat → FS → FS
  | 0, S => S
  | j + 1, S => loC C but (3 - j) nc (loE E (3 - j) ne (loS E ne C nc but j S))
/-- what every state on the way has -/
def fOk (S : FS) (b : Int) : Prop := qCl (fM S) ∧ 0 ≤ fT S ∧ fT S ≤ b
theorem stE_ok {E : Nat → Nat → Int} {k n : Nat} {S : FS} {b : Int} (h : fOk S b) (hW : qWR E n) (hk : k < n) : fOk (stE E k S) (b + 1) := ⟨oM_cl h.1 hW hk, by show 0 ≤ fT S + 1; have := h.2; omega, by show fT S + 1 ≤ b + 1; have := h.2; omega⟩
theorem stC_ok {C : Nat → Nat → Int} {k n : Nat} {S : FS} {b : Int} (h : fOk S b) (hW : qWR C n) (hk : k < n) : fOk (stC C k S) (b + 1) := ⟨oM_cl h.1 hW hk, by show 0 ≤ fT S + 1; have := h.2; omega, by show fT S + 1 ≤ b + 1; have := h.2; omega⟩
theorem fOk.mono {S : FS} {a b : Int} (h : fOk S a) (hab : a ≤ b) : fOk S b := ⟨h.1, h.2.1, by have := h.2.2; omega⟩
theorem loE_ok {E : Nat → Nat → Int} {str : Int} {n : Nat} {S : FS} {b : Int} (h : fOk S b) (hW : qWR E n) : ∀ k : Nat, k ≤ n → fOk (loE E str k S) (b + k)
  | 0, _ => h.mono (by omega)
  | k + 1, hk => by
    have ih := loE_ok (str := str) h hW k (by omega)
    simp only [loE]
    split
    · exact (stE_ok ih hW (by omega)).mono (by omega)
    · exact ih.mono (by omega)
theorem loC_ok {C : Nat → Nat → Int} {but str : Int} {n : Nat} {S : FS} {b : Int} (h : fOk S b) (hW : qWR C n) : ∀ k : Nat, k ≤ n → fOk (loC C but str k S) (b + k)
  | 0, _ => h.mono (by omega)
  | k + 1, hk => by
    have ih := loC_ok (but := but) (str := str) h hW k (by omega)
    simp only [loC]
    split
    · exact (stC_ok ih hW (by omega)).mono (by omega)
    · exact ih.mono (by omega)
theorem loS_ok {E C : Nat → Nat → Int} {ne nc : Nat} {but : Int} {S : FS} {b : Int} (h : fOk S b) (hE : qWR E ne) (hC : qWR C nc) (he : ne ≤ 16) (hc : nc ≤ 16) : ∀ j : Nat, fOk (loS E ne C nc but j S) (b + 32 * j)
  | 0 => h.mono (by omega)
  | j + 1 => by
    have ih := loS_ok (but := but) h hE hC he hc j
    have h1 := loE_ok (str := 3 - j) ih hE ne (Nat.le_refl _)
    have h2 := loC_ok (but := but) (str := 3 - j) h1 hC nc (Nat.le_refl _)
    simp only [loS]
    exact h2.mono (by omega)

set_option maxRecDepth 100000 in
set_option maxHeartbeats 4000000 in
theorem c_X1_fillOne (l : Launch) (D : va_G) (cy : Nat → ClassId) (f : Nat) (b o r : Nat → Nat) (oc oe rs : Nat) (t : Int) (M : Nat → Nat → Int) (F : Nat) (mg tn : Nat → Int) (G : Nat → Nat → Int) (n : Nat) (x : Int) (k : Nat) (hk : x = (k : Int) ∧ k < n) (hn : n ≤ 16) (hW : qWR G n) (C : qCl M) (ht : 0 ≤ t ∧ t < 10000) (sz : Nat) : qMet l yX1_fillOne (.code yX1_fillOne cX1_fillOne 8 none) 3 [.ref (f), .ref (r 0), .int (qI (x)), .ref (o 0)] D cy [[(f, .inr (1, [.ref (b 0), .ref (oc), .ref (oe), .ref (rs), .int (qI (t))]))], qBo cy b (M), qOu cy o (((F : Nat) : Int)) (mg) (tn), qRu cy r (G) (((n : Nat) : Int))] sz (va_Qv (S := (Nat → Nat → Int) × Nat × (Nat → Int) × (Nat → Int)) (fun u => qEq u.1 (oM M G k) ∧ u.2.1 = (if oOk M G k = true then F ||| 2 ^ k else F) ∧ u.2.2.1 = qu mg k (oMg M G k) ∧ u.2.2.2 = qu tn k t) (qB D cy [[(f, .inr (1, [.ref (b 0), .ref (oc), .ref (oe), .ref (rs), .int (qI (t))]))], qBo cy b (M), qOu cy o (((F : Nat) : Int)) (mg) (tn), qRu cy r (G) (((n : Nat) : Int))] sz (fun u => [[(f, .inr (1, [.ref (b 0), .ref (oc), .ref (oe), .ref (rs), .int (qI (t + 1))]))], qBo cy b u.1, qOu cy o (u.2.1 : Int) u.2.2.1 u.2.2.2, qRu cy r G (n : Int)])) (va_A [[(f, .inr (1, [.ref (b 0), .ref (oc), .ref (oe), .ref (rs), .int (qI (t))]))], qBo cy b (M), qOu cy o (((F : Nat) : Int)) (mg) (tn), qRu cy r (G) (((n : Nat) : Int))].flatten sz)) := by
  refine q_ofMv (S := (Nat → Nat → Int) × Nat × (Nat → Int) × (Nat → Int)) (b1 := fun u => [[(f, .inr (1, [.ref (b 0), .ref (oc), .ref (oe), .ref (rs), .int (qI (t + 1))]))], qBo cy b u.1, qOu cy o (u.2.1 : Int) u.2.2.1 u.2.2.2, qRu cy r G (n : Int)]) (post := fun u => qEq u.1 (oM M G k) ∧ u.2.1 = (if oOk M G k = true then F ||| 2 ^ k else F) ∧ u.2.2.1 = qu mg k (oMg M G k) ∧ u.2.2.2 = qu tn k t) (by decide +kernel) (Nat.le_of_ble_eq_true rfl) ?_
  intro p e s m args below meth c Q A hx hb hml hown hg hQ hK hN hD hA H locs ls hP hS hl
  have hown : s.vm.findClass RX1 = some m.cls := hown
  have hl : lv_has ls 8 [(0, .ref (f)), (1, .ref (r 0)), (2, .int (qI (x))), (3, .ref (o 0))] := hl
  have hk1 := hk.1
  have hk2 := hk.2
  obtain ⟨w0, w1, w2, w3, w4, w5⟩ := hW k hk2
  have ho := oN_lt w1
  have hl9 : (G 0 k).toNat < 11 := by omega
  have b1 := C.2.2 _ _ hl9 ho
  have b2 := C.2.2 _ _ ho hl9
  refine lv_aload_n hx hb dX1_fillOne_0 rfl (lv_at hl 1 rfl) ?_
  refine gf_X1_63 hx hb hg hown hK (fl_blk hP 3 rfl) 0 rfl rfl dX1_fillOne_1 ?_
  refine lv_iload_n hx hb dX1_fillOne_4 rfl (lv_at hl 2 rfl) ?_
  refine q_iald (j := k) hx hb hK (fl_blk hP 3 rfl) 1 rfl (by omega) dX1_fillOne_5 ?_
  refine lv_istore (lv' := [(4, .int (qI ((G 0) k))), (0, .ref (f)), (1, .ref (r 0)), (2, .int (qI (x))), (3, .ref (o 0))]) hx hb dX1_fillOne_6 hl (by decide) rfl (fun ls hl => ?_)
  refine lv_aload_n hx hb dX1_fillOne_8 rfl (lv_at hl 2 rfl) ?_
  refine lv_iload_n hx hb dX1_fillOne_9 rfl (lv_at hl 3 rfl) ?_
  refine q_readi (va_runV (As := [.int (qI (x))]) (rest := []) ⟨hx, hb, hml, hown, hg⟩ (c_X5_rightNode l D cy (r) (G) n _ k ⟨by omega, by omega⟩ (by omega) hW) (cv_X1_66 hg rfl rfl ⟨by decide, by decide⟩) ⟨q_blind0, va_recv hK (fl_blk hP 3 rfl) (ci := 5) (q0 := 0) rfl rfl, q_preR _ hK hN hP [3] rfl⟩ rfl rfl hl.1 rfl (lv_room (Nat.le_of_ble_eq_true rfl)) dX1_fillOne_10 ⟨by decide, by decide⟩) (fun r_10 h_10 => ?_)
  subst h_10
  refine lv_istore (lv' := [(5, .int (qI (((oN (G 1 k) : Nat) : Int)))), (4, .int (qI ((G 0) k))), (0, .ref (f)), (1, .ref (r 0)), (2, .int (qI (x))), (3, .ref (o 0))]) hx hb dX1_fillOne_13 hl (by decide) rfl (fun ls hl => ?_)
  refine lv_aload_n hx hb dX1_fillOne_15 rfl (lv_at hl 2 rfl) ?_
  refine gf_X1_12 hx hb hg hown hK (fl_blk hP 0 rfl) 0 rfl rfl dX1_fillOne_16 ?_
  refine lv_iload hx hb dX1_fillOne_19 (lv_at hl 1 rfl) ?_
  refine lv_iload hx hb dX1_fillOne_21 (lv_at hl 0 rfl) ?_
  refine q_readi (va_runV (As := [.int (qI ((G 0) k)), .int (qI (((oN (G 1 k) : Nat) : Int)))]) (rest := []) ⟨hx, hb, hml, hown, hg⟩ (c_X0_least l D cy (b) (M) _ _ (((G 0) k).toNat) (oN (G 1 k)) (by omega) (by omega)) (cv_X1_70 hg rfl rfl ⟨by decide, by decide⟩) ⟨q_blind0, va_recv hK (fl_blk hP 1 rfl) (ci := 0) (q0 := 0) rfl rfl, q_preR _ hK hN hP [1] rfl⟩ rfl rfl hl.1 rfl (lv_room (Nat.le_of_ble_eq_true rfl)) dX1_fillOne_23 ⟨by decide, by decide⟩) (fun r_23 h_23 => ?_)
  subst h_23
  refine lv_istore (lv' := [(6, .int (qI (-(M (oN (G 1 k)) (((G 0) k).toNat))))), (5, .int (qI (((oN (G 1 k) : Nat) : Int)))), (4, .int (qI ((G 0) k))), (0, .ref (f)), (1, .ref (r 0)), (2, .int (qI (x))), (3, .ref (o 0))]) hx hb dX1_fillOne_26 hl (by decide) rfl (fun ls hl => ?_)
  refine lv_aload_n hx hb dX1_fillOne_28 rfl (lv_at hl 3 rfl) ?_
  refine gf_X1_12 hx hb hg hown hK (fl_blk hP 0 rfl) 0 rfl rfl dX1_fillOne_29 ?_
  refine lv_iload hx hb dX1_fillOne_32 (lv_at hl 2 rfl) ?_
  refine lv_iload hx hb dX1_fillOne_34 (lv_at hl 1 rfl) ?_
  refine q_readi (va_runV (As := [.int (qI ((G 0) k)), .int (qI (((oN (G 1 k) : Nat) : Int)))]) (rest := []) ⟨hx, hb, hml, hown, hg⟩ (c_X0_greatest l D cy (b) (M) _ _ (((G 0) k).toNat) (oN (G 1 k)) (by omega) (by omega)) (cv_X1_74 hg rfl rfl ⟨by decide, by decide⟩) ⟨q_blind0, va_recv hK (fl_blk hP 1 rfl) (ci := 0) (q0 := 0) rfl rfl, q_preR _ hK hN hP [1] rfl⟩ rfl rfl hl.1 rfl (lv_room (Nat.le_of_ble_eq_true rfl)) dX1_fillOne_36 ⟨by decide, by decide⟩) (fun r_36 h_36 => ?_)
  subst h_36
  refine lv_istore (lv' := [(7, .int (qI (M (((G 0) k).toNat) (oN (G 1 k))))), (6, .int (qI (-(M (oN (G 1 k)) (((G 0) k).toNat))))), (5, .int (qI (((oN (G 1 k) : Nat) : Int)))), (4, .int (qI ((G 0) k))), (0, .ref (f)), (1, .ref (r 0)), (2, .int (qI (x))), (3, .ref (o 0))]) hx hb dX1_fillOne_39 hl (by decide) rfl (fun ls hl => ?_)
  refine lv_aload_n hx hb dX1_fillOne_41 rfl (lv_at hl 7 rfl) ?_
  refine gf_X1_77 hx hb hg hown hK (fl_blk hP 2 rfl) 0 rfl rfl dX1_fillOne_42 ?_
  refine lv_iload_n hx hb dX1_fillOne_45 rfl (lv_at hl 6 rfl) ?_
  refine lv_aload_n hx hb dX1_fillOne_46 rfl (lv_at hl 4 rfl) ?_
  refine gf_X1_38 hx hb hg hown hK (fl_blk hP 0 rfl) 0 rfl rfl dX1_fillOne_47 ?_
  refine qb_iast (j := k) hx hb hK hP hD hS 2 2 rfl rfl (by omega) dX1_fillOne_50 (fun H locs hP hD hS => ?_)
  have hP : va_P D vwCl [[(f, .inr (1, [.ref (b 0), .ref (oc), .ref (oe), .ref (rs), .int (qI (t))]))], qBo cy b (M), qOu cy o (((F : Nat) : Int)) (mg) (qu tn k (t)), qRu cy r (G) (((n : Nat) : Int))].flatten H := hP
  have hD : va_D A [[(f, .inr (1, [.ref (b 0), .ref (oc), .ref (oe), .ref (rs), .int (qI (t))]))], qBo cy b (M), qOu cy o (((F : Nat) : Int)) (mg) (qu tn k (t)), qRu cy r (G) (((n : Nat) : Int))].flatten := hD
  refine lv_aload_n hx hb dX1_fillOne_51 rfl (lv_at hl 4 rfl) ?_
  refine lv_dup hx hb dX1_fillOne_52 rfl ?_
  refine gf_X1_38 hx hb hg hown hK (fl_blk hP 0 rfl) 0 rfl rfl dX1_fillOne_53 ?_
  refine q_iconst hx hb dX1_fillOne_56 ?_
  refine q_iadd hx hb dX1_fillOne_57 ?_
  refine pf_X1_38 hx hb hg hown hK hP hD hS 0 0 rfl rfl rfl rfl (Nat.le_of_ble_eq_true rfl) dX1_fillOne_58 (fun H locs hP hD hS => ?_)
  have hP : va_P D vwCl [[(f, .inr (1, [.ref (b 0), .ref (oc), .ref (oe), .ref (rs), .int (qI ((t) + (1)))]))], qBo cy b (M), qOu cy o (((F : Nat) : Int)) (mg) (qu tn k (t)), qRu cy r (G) (((n : Nat) : Int))].flatten H := hP
  have hD : va_D A [[(f, .inr (1, [.ref (b 0), .ref (oc), .ref (oe), .ref (rs), .int (qI ((t) + (1)))]))], qBo cy b (M), qOu cy o (((F : Nat) : Int)) (mg) (qu tn k (t)), qRu cy r (G) (((n : Nat) : Int))].flatten := hD
  refine lv_aload_n hx hb dX1_fillOne_61 rfl (lv_at hl 5 rfl) ?_
  refine lv_iload_n hx hb dX1_fillOne_62 rfl (lv_at hl 6 rfl) ?_
  refine lv_iload hx hb dX1_fillOne_63 (lv_at hl 1 rfl) ?_
  refine lv_iload hx hb dX1_fillOne_65 (lv_at hl 0 rfl) ?_
  refine q_readz (va_runV (As := [.int (qI (x)), .int (qI (-(M (oN (G 1 k)) (((G 0) k).toNat)))), .int (qI (M (((G 0) k).toNat) (oN (G 1 k))))]) (rest := []) ⟨hx, hb, hml, hown, hg⟩ (c_X5_canHold l D cy (r) (G) n _ k ⟨by omega, by omega⟩ (by omega) hW _ _ (by omega)) (cv_X1_80 hg rfl rfl ⟨by decide, by decide⟩) ⟨q_blind0, va_recv hK (fl_blk hP 3 rfl) (ci := 5) (q0 := 0) rfl rfl, q_preR _ hK hN hP [3] rfl⟩ rfl rfl hl.1 rfl (lv_room (Nat.le_of_ble_eq_true rfl)) dX1_fillOne_67 ⟨by decide, by decide⟩) (fun b_67 h_67 => ?_)
  refine q_ifz_ne (tgt := 89) hx hb dX1_fillOne_70 (by decide) (fun c_70 => ?_) (fun c_70 => ?_)
  · skip
    have ok9 : oOk M G k = true := chB_iff.mpr (h_67.mp c_70)
    obtain ⟨-, -, n1, n2⟩ := oM_need C hW hk2 ok9
    refine lv_aload_n hx hb dX1_fillOne_89 rfl (lv_at hl 7 rfl) ?_
    refine lv_dup hx hb dX1_fillOne_90 rfl ?_
    refine gf_X1_34 hx hb hg hown hK (fl_blk hP 2 rfl) 0 rfl rfl dX1_fillOne_91 ?_
    refine q_iconst hx hb dX1_fillOne_94 ?_
    refine lv_iload_n hx hb dX1_fillOne_95 rfl (lv_at hl 6 rfl) ?_
    refine q_ishl (F := 1) (k := k) hx hb (by omega) (by have := Nat.pow_lt_pow_right (a := 2) (by decide) (show k < 16 by omega); omega) dX1_fillOne_96 ?_
    refine q_ior (F := F) (k := (1) * 2 ^ (k)) hx hb (by omega) dX1_fillOne_97 ?_
    refine pf_X1_34 hx hb hg hown hK hP hD hS 2 0 rfl rfl rfl rfl (Nat.le_of_ble_eq_true rfl) dX1_fillOne_98 (fun H locs hP hD hS => ?_)
    have hP : va_P D vwCl [[(f, .inr (1, [.ref (b 0), .ref (oc), .ref (oe), .ref (rs), .int (qI ((t) + (1)))]))], qBo cy b (M), qOu cy o ((((F) ||| ((1) * 2 ^ (k)) : Nat) : Int)) (mg) (qu tn k (t)), qRu cy r (G) (((n : Nat) : Int))].flatten H := hP
    have hD : va_D A [[(f, .inr (1, [.ref (b 0), .ref (oc), .ref (oe), .ref (rs), .int (qI ((t) + (1)))]))], qBo cy b (M), qOu cy o ((((F) ||| ((1) * 2 ^ (k)) : Nat) : Int)) (mg) (qu tn k (t)), qRu cy r (G) (((n : Nat) : Int))].flatten := hD
    refine lv_aload_n hx hb dX1_fillOne_101 rfl (lv_at hl 7 rfl) ?_
    refine gf_X1_84 hx hb hg hown hK (fl_blk hP 2 rfl) 0 rfl rfl dX1_fillOne_102 ?_
    refine lv_iload_n hx hb dX1_fillOne_105 rfl (lv_at hl 6 rfl) ?_
    refine lv_aload_n hx hb dX1_fillOne_106 rfl (lv_at hl 5 rfl) ?_
    refine lv_iload_n hx hb dX1_fillOne_107 rfl (lv_at hl 6 rfl) ?_
    refine lv_iload hx hb dX1_fillOne_108 (lv_at hl 1 rfl) ?_
    refine lv_iload hx hb dX1_fillOne_110 (lv_at hl 0 rfl) ?_
    refine q_readi (va_runV (As := [.int (qI (x)), .int (qI (-(M (oN (G 1 k)) (((G 0) k).toNat)))), .int (qI (M (((G 0) k).toNat) (oN (G 1 k))))]) (rest := [.int (qI (x)), .ref (o 1)]) ⟨hx, hb, hml, hown, hg⟩ (c_X5_narrowing l D cy (r) (G) n _ k ⟨by omega, by omega⟩ (by omega) hW _ _ (by omega)) (cv_X1_91 hg rfl rfl ⟨by decide, by decide⟩) ⟨q_blind0, va_recv hK (fl_blk hP 3 rfl) (ci := 5) (q0 := 0) rfl rfl, q_preR _ hK hN hP [3] rfl⟩ rfl rfl hl.1 rfl (lv_room (Nat.le_of_ble_eq_true rfl)) dX1_fillOne_112 ⟨by decide, by decide⟩) (fun r_112 h_112 => ?_)
    subst h_112
    refine qb_iast (j := k) hx hb hK hP hD hS 2 1 rfl rfl (by omega) dX1_fillOne_115 (fun H locs hP hD hS => ?_)
    have hP : va_P D vwCl [[(f, .inr (1, [.ref (b 0), .ref (oc), .ref (oe), .ref (rs), .int (qI ((t) + (1)))]))], qBo cy b (M), qOu cy o ((((F) ||| ((1) * 2 ^ (k)) : Nat) : Int)) (qu mg k (narV (G 2 k) (G 3 k) (-(M (oN (G 1 k)) (((G 0) k).toNat))) (M (((G 0) k).toNat) (oN (G 1 k))))) (qu tn k (t)), qRu cy r (G) (((n : Nat) : Int))].flatten H := hP
    have hD : va_D A [[(f, .inr (1, [.ref (b 0), .ref (oc), .ref (oe), .ref (rs), .int (qI ((t) + (1)))]))], qBo cy b (M), qOu cy o ((((F) ||| ((1) * 2 ^ (k)) : Nat) : Int)) (qu mg k (narV (G 2 k) (G 3 k) (-(M (oN (G 1 k)) (((G 0) k).toNat))) (M (((G 0) k).toNat) (oN (G 1 k))))) (qu tn k (t)), qRu cy r (G) (((n : Nat) : Int))].flatten := hD
    refine lv_aload_n hx hb dX1_fillOne_116 rfl (lv_at hl 5 rfl) ?_
    refine gf_X1_94 hx hb hg hown hK (fl_blk hP 3 rfl) 0 rfl rfl dX1_fillOne_117 ?_
    refine lv_iload_n hx hb dX1_fillOne_120 rfl (lv_at hl 6 rfl) ?_
    refine q_iald (j := k) hx hb hK (fl_blk hP 3 rfl) 3 rfl (by omega) dX1_fillOne_121 ?_
    refine q_iconst hx hb dX1_fillOne_122 ?_
    refine q_icmp_eq (tgt := 143) hx hb dX1_fillOne_123 (by decide) (by omega) (fun c_123 => ?_) (fun c_123 => ?_)
    · skip
      refine lv_aload_n hx hb dX1_fillOne_143 rfl (lv_at hl 5 rfl) ?_
      refine gf_X1_94 hx hb hg hown hK (fl_blk hP 3 rfl) 0 rfl rfl dX1_fillOne_144 ?_
      refine lv_iload_n hx hb dX1_fillOne_147 rfl (lv_at hl 6 rfl) ?_
      refine q_iald (j := k) hx hb hK (fl_blk hP 3 rfl) 3 rfl (by omega) dX1_fillOne_148 ?_
      refine q_if_eq (tgt := 170) hx hb dX1_fillOne_149 (by decide) (by omega) (fun c_149 => ?_) (fun c_149 => ?_)
      · skip
        refine hQ _ _ _ _ (_, (F) ||| ((1) * 2 ^ (k)), qu mg k (narV (G 2 k) (G 3 k) (-(M (oN (G 1 k)) (((G 0) k).toNat))) (M (((G 0) k).toNat) (oN (G 1 k)))), qu tn k (t)) ⟨(by exact absurd c_149 (by omega)), (by rw [if_pos ok9]; show F ||| 1 * 2 ^ k = F ||| 2 ^ k; rw [Nat.one_mul]), (by unfold oMg; rw [if_pos ok9]), rfl⟩ hP hD hS dX1_fillOne_170
      · skip
        have n2 := n2 (by omega)
        have e2 : M (G 0 k).toNat (oN (G 1 k)) = oM1 M G k (G 0 k).toNat (oN (G 1 k)) := by unfold oM1; rw [if_pos (by omega)]
        refine lv_aload_n hx hb dX1_fillOne_152 rfl (lv_at hl 4 rfl) ?_
        refine gf_X1_12 hx hb hg hown hK (fl_blk hP 0 rfl) 0 rfl rfl dX1_fillOne_153 ?_
        refine lv_iload hx hb dX1_fillOne_156 (lv_at hl 2 rfl) ?_
        refine lv_iload hx hb dX1_fillOne_158 (lv_at hl 3 rfl) ?_
        refine lv_aload_n hx hb dX1_fillOne_160 rfl (lv_at hl 5 rfl) ?_
        refine gf_X1_97 hx hb hg hown hK (fl_blk hP 3 rfl) 0 rfl rfl dX1_fillOne_161 ?_
        refine lv_iload_n hx hb dX1_fillOne_164 rfl (lv_at hl 6 rfl) ?_
        refine q_iald (j := k) hx hb hK (fl_blk hP 3 rfl) 4 rfl (by omega) dX1_fillOne_165 ?_
        refine q_ineg hx hb dX1_fillOne_166 ?_
        refine q_backv [1] [0, 2, 3] (br := [[(f, .inr (1, [.ref (b 0), .ref (oc), .ref (oe), .ref (rs), .int (qI ((t) + (1)))]))], qOu cy o ((((F) ||| ((1) * 2 ^ (k)) : Nat) : Int)) (qu mg k (narV (G 2 k) (G 3 k) (-(M (oN (G 1 k)) (((G 0) k).toNat))) (M (((G 0) k).toNat) (oN (G 1 k))))) (qu tn k (t)), qRu cy r (G) (((n : Nat) : Int))]) hP hD hS hA (va_runV (As := [.int (qI (((oN (G 1 k) : Nat) : Int))), .int (qI ((G 0) k)), .int (qI (-((G 3) k)))]) (rest := []) ⟨hx, hb, hml, hown, hg⟩ (c_X0_limit l D cy (b) (M) _ _ _ (oN (G 1 k)) (((G 0) k).toNat) (by omega) (by omega) C (by omega) (by omega) _) (cv_X1_100 hg rfl rfl ⟨by decide, by decide⟩) ⟨q_blind, va_recv hK (fl_blk hP 1 rfl) (ci := 0) (q0 := 0) rfl rfl, q_preM _ hK hN hP hD [1] (by decide) rfl⟩ rfl rfl hl.1 rfl (lv_room (Nat.le_of_ble_eq_true rfl)) dX1_fillOne_167 ⟨by decide, by decide⟩) rfl rfl (by decide) (fun u_167 H locs h_167 hP hD hS => ?_)
        have hP : va_P D vwCl [[(f, .inr (1, [.ref (b 0), .ref (oc), .ref (oe), .ref (rs), .int (qI ((t) + (1)))]))], qOu cy o ((((F) ||| ((1) * 2 ^ (k)) : Nat) : Int)) (qu mg k (narV (G 2 k) (G 3 k) (-(M (oN (G 1 k)) (((G 0) k).toNat))) (M (((G 0) k).toNat) (oN (G 1 k))))) (qu tn k (t)), qRu cy r (G) (((n : Nat) : Int)), qBo cy b (u_167)].flatten H := hP
        have hD : va_D A [[(f, .inr (1, [.ref (b 0), .ref (oc), .ref (oe), .ref (rs), .int (qI ((t) + (1)))]))], qOu cy o ((((F) ||| ((1) * 2 ^ (k)) : Nat) : Int)) (qu mg k (narV (G 2 k) (G 3 k) (-(M (oN (G 1 k)) (((G 0) k).toNat))) (M (((G 0) k).toNat) (oN (G 1 k))))) (qu tn k (t)), qRu cy r (G) (((n : Nat) : Int)), qBo cy b (u_167)].flatten := hD
        have hP := fl_sub (bs' := [[(f, .inr (1, [.ref (b 0), .ref (oc), .ref (oe), .ref (rs), .int (qI ((t) + (1)))]))], qBo cy b (u_167), qOu cy o ((((F) ||| ((1) * 2 ^ (k)) : Nat) : Int)) (qu mg k (narV (G 2 k) (G 3 k) (-(M (oN (G 1 k)) (((G 0) k).toNat))) (M (((G 0) k).toNat) (oN (G 1 k))))) (qu tn k (t)), qRu cy r (G) (((n : Nat) : Int))]) hP [0, 3, 1, 2] rfl
        have hD := fl_subD (bs' := [[(f, .inr (1, [.ref (b 0), .ref (oc), .ref (oe), .ref (rs), .int (qI ((t) + (1)))]))], qBo cy b (u_167), qOu cy o ((((F) ||| ((1) * 2 ^ (k)) : Nat) : Int)) (qu mg k (narV (G 2 k) (G 3 k) (-(M (oN (G 1 k)) (((G 0) k).toNat))) (M (((G 0) k).toNat) (oN (G 1 k))))) (qu tn k (t)), qRu cy r (G) (((n : Nat) : Int))]) hD [0, 3, 1, 2] (by decide) rfl
        refine hQ _ _ _ _ (_, (F) ||| ((1) * 2 ^ (k)), qu mg k (narV (G 2 k) (G 3 k) (-(M (oN (G 1 k)) (((G 0) k).toNat))) (M (((G 0) k).toNat) (oN (G 1 k)))), qu tn k (t)) ⟨(by unfold oM; rw [if_pos ok9, if_neg (by omega)]; refine h_167.trans ?_; first | (refine qEq.tg ?_ ho hl9 _; unfold oM1; rw [if_neg (by omega)]; exact h_140) | (refine qEq.tg ?_ ho hl9 _; unfold oM1; rw [if_pos (by omega)]; exact qEq.rfl')), (by rw [if_pos ok9]; show F ||| 1 * 2 ^ k = F ||| 2 ^ k; rw [Nat.one_mul]), (by unfold oMg; rw [if_pos ok9]), rfl⟩ hP hD hS dX1_fillOne_170
    · skip
      have n1 := n1 (by omega)
      refine lv_aload_n hx hb dX1_fillOne_126 rfl (lv_at hl 4 rfl) ?_
      refine gf_X1_12 hx hb hg hown hK (fl_blk hP 0 rfl) 0 rfl rfl dX1_fillOne_127 ?_
      refine lv_iload hx hb dX1_fillOne_130 (lv_at hl 3 rfl) ?_
      refine lv_iload hx hb dX1_fillOne_132 (lv_at hl 2 rfl) ?_
      refine lv_aload_n hx hb dX1_fillOne_134 rfl (lv_at hl 5 rfl) ?_
      refine gf_X1_97 hx hb hg hown hK (fl_blk hP 3 rfl) 0 rfl rfl dX1_fillOne_135 ?_
      refine lv_iload_n hx hb dX1_fillOne_138 rfl (lv_at hl 6 rfl) ?_
      refine q_iald (j := k) hx hb hK (fl_blk hP 3 rfl) 4 rfl (by omega) dX1_fillOne_139 ?_
      refine q_backv [1] [0, 2, 3] (br := [[(f, .inr (1, [.ref (b 0), .ref (oc), .ref (oe), .ref (rs), .int (qI ((t) + (1)))]))], qOu cy o ((((F) ||| ((1) * 2 ^ (k)) : Nat) : Int)) (qu mg k (narV (G 2 k) (G 3 k) (-(M (oN (G 1 k)) (((G 0) k).toNat))) (M (((G 0) k).toNat) (oN (G 1 k))))) (qu tn k (t)), qRu cy r (G) (((n : Nat) : Int))]) hP hD hS hA (va_runV (As := [.int (qI ((G 0) k)), .int (qI (((oN (G 1 k) : Nat) : Int))), .int (qI ((G 3) k))]) (rest := []) ⟨hx, hb, hml, hown, hg⟩ (c_X0_limit l D cy (b) (M) _ _ _ (((G 0) k).toNat) (oN (G 1 k)) (by omega) (by omega) C (by omega) (by omega) _) (cv_X1_100 hg rfl rfl ⟨by decide, by decide⟩) ⟨q_blind, va_recv hK (fl_blk hP 1 rfl) (ci := 0) (q0 := 0) rfl rfl, q_preM _ hK hN hP hD [1] (by decide) rfl⟩ rfl rfl hl.1 rfl (lv_room (Nat.le_of_ble_eq_true rfl)) dX1_fillOne_140 ⟨by decide, by decide⟩) rfl rfl (by decide) (fun u_140 H locs h_140 hP hD hS => ?_)
      have hP : va_P D vwCl [[(f, .inr (1, [.ref (b 0), .ref (oc), .ref (oe), .ref (rs), .int (qI ((t) + (1)))]))], qOu cy o ((((F) ||| ((1) * 2 ^ (k)) : Nat) : Int)) (qu mg k (narV (G 2 k) (G 3 k) (-(M (oN (G 1 k)) (((G 0) k).toNat))) (M (((G 0) k).toNat) (oN (G 1 k))))) (qu tn k (t)), qRu cy r (G) (((n : Nat) : Int)), qBo cy b (u_140)].flatten H := hP
      have hD : va_D A [[(f, .inr (1, [.ref (b 0), .ref (oc), .ref (oe), .ref (rs), .int (qI ((t) + (1)))]))], qOu cy o ((((F) ||| ((1) * 2 ^ (k)) : Nat) : Int)) (qu mg k (narV (G 2 k) (G 3 k) (-(M (oN (G 1 k)) (((G 0) k).toNat))) (M (((G 0) k).toNat) (oN (G 1 k))))) (qu tn k (t)), qRu cy r (G) (((n : Nat) : Int)), qBo cy b (u_140)].flatten := hD
      refine lv_aload_n hx hb dX1_fillOne_143 rfl (lv_at hl 5 rfl) ?_
      refine gf_X1_94 hx hb hg hown hK (fl_blk hP 2 rfl) 0 rfl rfl dX1_fillOne_144 ?_
      refine lv_iload_n hx hb dX1_fillOne_147 rfl (lv_at hl 6 rfl) ?_
      refine q_iald (j := k) hx hb hK (fl_blk hP 2 rfl) 3 rfl (by omega) dX1_fillOne_148 ?_
      refine q_if_eq (tgt := 170) hx hb dX1_fillOne_149 (by decide) (by omega) (fun c_149 => ?_) (fun c_149 => ?_)
      · skip
        have hP := fl_sub (bs' := [[(f, .inr (1, [.ref (b 0), .ref (oc), .ref (oe), .ref (rs), .int (qI ((t) + (1)))]))], qBo cy b (u_140), qOu cy o ((((F) ||| ((1) * 2 ^ (k)) : Nat) : Int)) (qu mg k (narV (G 2 k) (G 3 k) (-(M (oN (G 1 k)) (((G 0) k).toNat))) (M (((G 0) k).toNat) (oN (G 1 k))))) (qu tn k (t)), qRu cy r (G) (((n : Nat) : Int))]) hP [0, 3, 1, 2] rfl
        have hD := fl_subD (bs' := [[(f, .inr (1, [.ref (b 0), .ref (oc), .ref (oe), .ref (rs), .int (qI ((t) + (1)))]))], qBo cy b (u_140), qOu cy o ((((F) ||| ((1) * 2 ^ (k)) : Nat) : Int)) (qu mg k (narV (G 2 k) (G 3 k) (-(M (oN (G 1 k)) (((G 0) k).toNat))) (M (((G 0) k).toNat) (oN (G 1 k))))) (qu tn k (t)), qRu cy r (G) (((n : Nat) : Int))]) hD [0, 3, 1, 2] (by decide) rfl
        refine hQ _ _ _ _ (_, (F) ||| ((1) * 2 ^ (k)), qu mg k (narV (G 2 k) (G 3 k) (-(M (oN (G 1 k)) (((G 0) k).toNat))) (M (((G 0) k).toNat) (oN (G 1 k)))), qu tn k (t)) ⟨(by unfold oM oM1; rw [if_pos ok9, if_pos (by omega), if_neg (by omega)]; exact h_140), (by rw [if_pos ok9]; show F ||| 1 * 2 ^ k = F ||| 2 ^ k; rw [Nat.one_mul]), (by unfold oMg; rw [if_pos ok9]), rfl⟩ hP hD hS dX1_fillOne_170
      · skip
        have n2 := n2 (by omega)
        have e2 : u_140 (G 0 k).toNat (oN (G 1 k)) = oM1 M G k (G 0 k).toNat (oN (G 1 k)) := by rw [h_140 _ _ hl9 ho]; unfold oM1; rw [if_neg (by omega)]
        have c2 : qCl u_140 := qEq.cl (h_140.symm) (tg_cl C hl9 ho n1)
        refine lv_aload_n hx hb dX1_fillOne_152 rfl (lv_at hl 4 rfl) ?_
        refine gf_X1_12 hx hb hg hown hK (fl_blk hP 0 rfl) 0 rfl rfl dX1_fillOne_153 ?_
        refine lv_iload hx hb dX1_fillOne_156 (lv_at hl 2 rfl) ?_
        refine lv_iload hx hb dX1_fillOne_158 (lv_at hl 3 rfl) ?_
        refine lv_aload_n hx hb dX1_fillOne_160 rfl (lv_at hl 5 rfl) ?_
        refine gf_X1_97 hx hb hg hown hK (fl_blk hP 2 rfl) 0 rfl rfl dX1_fillOne_161 ?_
        refine lv_iload_n hx hb dX1_fillOne_164 rfl (lv_at hl 6 rfl) ?_
        refine q_iald (j := k) hx hb hK (fl_blk hP 2 rfl) 4 rfl (by omega) dX1_fillOne_165 ?_
        refine q_ineg hx hb dX1_fillOne_166 ?_
        refine q_backv [3] [0, 1, 2] (br := [[(f, .inr (1, [.ref (b 0), .ref (oc), .ref (oe), .ref (rs), .int (qI ((t) + (1)))]))], qOu cy o ((((F) ||| ((1) * 2 ^ (k)) : Nat) : Int)) (qu mg k (narV (G 2 k) (G 3 k) (-(M (oN (G 1 k)) (((G 0) k).toNat))) (M (((G 0) k).toNat) (oN (G 1 k))))) (qu tn k (t)), qRu cy r (G) (((n : Nat) : Int))]) hP hD hS hA (va_runV (As := [.int (qI (((oN (G 1 k) : Nat) : Int))), .int (qI ((G 0) k)), .int (qI (-((G 3) k)))]) (rest := []) ⟨hx, hb, hml, hown, hg⟩ (c_X0_limit l D cy (b) (u_140) _ _ _ (oN (G 1 k)) (((G 0) k).toNat) (by omega) (by omega) c2 (by omega) (by omega) _) (cv_X1_100 hg rfl rfl ⟨by decide, by decide⟩) ⟨q_blind, va_recv hK (fl_blk hP 3 rfl) (ci := 0) (q0 := 0) rfl rfl, q_preM _ hK hN hP hD [3] (by decide) rfl⟩ rfl rfl hl.1 rfl (lv_room (Nat.le_of_ble_eq_true rfl)) dX1_fillOne_167 ⟨by decide, by decide⟩) rfl rfl (by decide) (fun u_167 H locs h_167 hP hD hS => ?_)
        have hP : va_P D vwCl [[(f, .inr (1, [.ref (b 0), .ref (oc), .ref (oe), .ref (rs), .int (qI ((t) + (1)))]))], qOu cy o ((((F) ||| ((1) * 2 ^ (k)) : Nat) : Int)) (qu mg k (narV (G 2 k) (G 3 k) (-(M (oN (G 1 k)) (((G 0) k).toNat))) (M (((G 0) k).toNat) (oN (G 1 k))))) (qu tn k (t)), qRu cy r (G) (((n : Nat) : Int)), qBo cy b (u_167)].flatten H := hP
        have hD : va_D A [[(f, .inr (1, [.ref (b 0), .ref (oc), .ref (oe), .ref (rs), .int (qI ((t) + (1)))]))], qOu cy o ((((F) ||| ((1) * 2 ^ (k)) : Nat) : Int)) (qu mg k (narV (G 2 k) (G 3 k) (-(M (oN (G 1 k)) (((G 0) k).toNat))) (M (((G 0) k).toNat) (oN (G 1 k))))) (qu tn k (t)), qRu cy r (G) (((n : Nat) : Int)), qBo cy b (u_167)].flatten := hD
        have hP := fl_sub (bs' := [[(f, .inr (1, [.ref (b 0), .ref (oc), .ref (oe), .ref (rs), .int (qI ((t) + (1)))]))], qBo cy b (u_167), qOu cy o ((((F) ||| ((1) * 2 ^ (k)) : Nat) : Int)) (qu mg k (narV (G 2 k) (G 3 k) (-(M (oN (G 1 k)) (((G 0) k).toNat))) (M (((G 0) k).toNat) (oN (G 1 k))))) (qu tn k (t)), qRu cy r (G) (((n : Nat) : Int))]) hP [0, 3, 1, 2] rfl
        have hD := fl_subD (bs' := [[(f, .inr (1, [.ref (b 0), .ref (oc), .ref (oe), .ref (rs), .int (qI ((t) + (1)))]))], qBo cy b (u_167), qOu cy o ((((F) ||| ((1) * 2 ^ (k)) : Nat) : Int)) (qu mg k (narV (G 2 k) (G 3 k) (-(M (oN (G 1 k)) (((G 0) k).toNat))) (M (((G 0) k).toNat) (oN (G 1 k))))) (qu tn k (t)), qRu cy r (G) (((n : Nat) : Int))]) hD [0, 3, 1, 2] (by decide) rfl
        refine hQ _ _ _ _ (_, (F) ||| ((1) * 2 ^ (k)), qu mg k (narV (G 2 k) (G 3 k) (-(M (oN (G 1 k)) (((G 0) k).toNat))) (M (((G 0) k).toNat) (oN (G 1 k)))), qu tn k (t)) ⟨(by unfold oM; rw [if_pos ok9, if_neg (by omega)]; refine h_167.trans ?_; first | (refine qEq.tg ?_ ho hl9 _; unfold oM1; rw [if_neg (by omega)]; exact h_140) | (refine qEq.tg ?_ ho hl9 _; unfold oM1; rw [if_pos (by omega)]; exact qEq.rfl')), (by rw [if_pos ok9]; show F ||| 1 * 2 ^ k = F ||| 2 ^ k; rw [Nat.one_mul]), (by unfold oMg; rw [if_pos ok9]), rfl⟩ hP hD hS dX1_fillOne_170
  · skip
    have ok9 : oOk M G k = false := by rcases h9 : oOk M G k with _ | _; rfl; exact absurd (h_67.mpr (chB_iff.mp h9)) (by rw [c_70]; decide)
    refine lv_aload_n hx hb dX1_fillOne_73 rfl (lv_at hl 7 rfl) ?_
    refine gf_X1_84 hx hb hg hown hK (fl_blk hP 2 rfl) 0 rfl rfl dX1_fillOne_74 ?_
    refine lv_iload_n hx hb dX1_fillOne_77 rfl (lv_at hl 6 rfl) ?_
    refine lv_aload_n hx hb dX1_fillOne_78 rfl (lv_at hl 5 rfl) ?_
    refine lv_iload_n hx hb dX1_fillOne_79 rfl (lv_at hl 6 rfl) ?_
    refine lv_iload hx hb dX1_fillOne_80 (lv_at hl 1 rfl) ?_
    refine lv_iload hx hb dX1_fillOne_82 (lv_at hl 0 rfl) ?_
    refine q_readi (va_runV (As := [.int (qI (x)), .int (qI (-(M (oN (G 1 k)) (((G 0) k).toNat)))), .int (qI (M (((G 0) k).toNat) (oN (G 1 k))))]) (rest := [.int (qI (x)), .ref (o 1)]) ⟨hx, hb, hml, hown, hg⟩ (c_X5_missing l D cy (r) (G) n _ k ⟨by omega, by omega⟩ (by omega) hW _ _ (by omega)) (cv_X1_87 hg rfl rfl ⟨by decide, by decide⟩) ⟨q_blind0, va_recv hK (fl_blk hP 3 rfl) (ci := 5) (q0 := 0) rfl rfl, q_preR _ hK hN hP [3] rfl⟩ rfl rfl hl.1 rfl (lv_room (Nat.le_of_ble_eq_true rfl)) dX1_fillOne_84 ⟨by decide, by decide⟩) (fun r_84 h_84 => ?_)
    subst h_84
    refine qb_iast (j := k) hx hb hK hP hD hS 2 1 rfl rfl (by omega) dX1_fillOne_87 (fun H locs hP hD hS => ?_)
    have hP : va_P D vwCl [[(f, .inr (1, [.ref (b 0), .ref (oc), .ref (oe), .ref (rs), .int (qI ((t) + (1)))]))], qBo cy b (M), qOu cy o (((F : Nat) : Int)) (qu mg k (misV (G 3 k) (-(M (oN (G 1 k)) (((G 0) k).toNat))) (M (((G 0) k).toNat) (oN (G 1 k))))) (qu tn k (t)), qRu cy r (G) (((n : Nat) : Int))].flatten H := hP
    have hD : va_D A [[(f, .inr (1, [.ref (b 0), .ref (oc), .ref (oe), .ref (rs), .int (qI ((t) + (1)))]))], qBo cy b (M), qOu cy o (((F : Nat) : Int)) (qu mg k (misV (G 3 k) (-(M (oN (G 1 k)) (((G 0) k).toNat))) (M (((G 0) k).toNat) (oN (G 1 k))))) (qu tn k (t)), qRu cy r (G) (((n : Nat) : Int))].flatten := hD
    refine hQ _ _ _ _ (_, F, qu mg k (misV (G 3 k) (-(M (oN (G 1 k)) (((G 0) k).toNat))) (M (((G 0) k).toNat) (oN (G 1 k)))), qu tn k (t)) ⟨(by unfold oM; rw [if_neg (by rw [ok9]; decide)]; exact qEq.rfl'), (by rw [ok9]; rfl), (by unfold oMg; rw [if_neg (by rw [ok9]; decide)]), rfl⟩ hP hD hS dX1_fillOne_88

def fRel (S : FS) (M : Nat → Nat → Int) (t : Int) (FC : Nat) (mgC tnC : Nat → Int) (FE : Nat) (mgE : Nat → Int) : Prop := qEq M (fM S) ∧ t = fT S ∧ (FC < 65536 ∧ ∀ i, i < 16 → FC.testBit i = fOC S i) ∧ mgC = fGC S ∧ tnC = fTC S ∧ (FE < 65536 ∧ ∀ i, i < 16 → FE.testBit i = fOE S i) ∧ mgE = fGE S
theorem fBit {F k : Nat} {p : Nat → Bool} {b : Bool} (h : F < 65536 ∧ ∀ i, i < 16 → F.testBit i = p i) (h0 : p k = false ∨ b = true) (hk : k < 16) : (if b = true then F ||| 2 ^ k else F) < 65536 ∧ ∀ i, i < 16 → (if b = true then F ||| 2 ^ k else F).testBit i = qu p k b i := by
  have hp : 2 ^ k < 65536 := Nat.pow_lt_pow_right (a := 2) (by decide) hk
  have h9 : F ||| 2 ^ k < 65536 := Nat.or_lt_two_pow (n := 16) h.1 hp
  cases b with
  | false =>
    refine ⟨h.1, fun i hi => ?_⟩
    show F.testBit i = _
    rw [h.2 i hi]
    by_cases e : i = k
    · subst e
      rw [qu_s]
      rcases h0 with h0 | h0
      · exact h0
      · exact absurd h0 (by decide)
    · rw [qu_n _ _ e]
  | true =>
    refine ⟨h9, fun i hi => ?_⟩
    show (F ||| 2 ^ k).testBit i = _
    rw [Nat.testBit_or, h.2 i hi, Nat.testBit_two_pow]
    by_cases e : i = k
    · subst e
      rw [qu_s]
      simp
    · rw [qu_n _ _ e]
      simp [Ne.symm e]
theorem fRel.stC {S : FS} {M : Nat → Nat → Int} {t : Int} {FC : Nat} {mgC tnC : Nat → Int} {FE : Nat} {mgE : Nat → Int} (h : fRel S M t FC mgC tnC FE mgE) {C : Nat → Nat → Int} {n k : Nat} (hW : qWR C n) (hk : k < n) (hn : n ≤ 16) (h0 : fOC S k = false) {u : (Nat → Nat → Int) × Nat × (Nat → Int) × (Nat → Int)} (hu : qEq u.1 (oM M C k) ∧ u.2.1 = (if oOk M C k = true then FC ||| 2 ^ k else FC) ∧ u.2.2.1 = qu mgC k (oMg M C k) ∧ u.2.2.2 = qu tnC k t) : fRel (stC C k S) u.1 (t + 1) u.2.1 u.2.2.1 u.2.2.2 FE mgE := by
  obtain ⟨h1, h2, h3, h4, h5, h6, h7⟩ := h
  obtain ⟨u1, u2, u3, u4⟩ := hu
  have e1 := oOk_eq h1 hW hk
  refine ⟨u1.trans (oM_eq h1 hW hk), by rw [h2]; rfl, ?_, ?_, ?_, h6, h7⟩
  · rw [u2, e1]
    exact fBit h3 (Or.inl h0) (by omega)
  · rw [u3, h4, oMg_eq h1 hW hk]
    rfl
  · rw [u4, h5, h2]
    rfl
theorem fRel.stE {S : FS} {M : Nat → Nat → Int} {t : Int} {FC : Nat} {mgC tnC : Nat → Int} {FE : Nat} {mgE : Nat → Int} (h : fRel S M t FC mgC tnC FE mgE) {E : Nat → Nat → Int} {n k : Nat} (hW : qWR E n) (hk : k < n) (hn : n ≤ 16) (h0 : fOE S k = false) {tnE : Nat → Int} {u : (Nat → Nat → Int) × Nat × (Nat → Int) × (Nat → Int)} (hu : qEq u.1 (oM M E k) ∧ u.2.1 = (if oOk M E k = true then FE ||| 2 ^ k else FE) ∧ u.2.2.1 = qu mgE k (oMg M E k) ∧ u.2.2.2 = qu tnE k t) : fRel (stE E k S) u.1 (t + 1) FC mgC tnC u.2.1 u.2.2.1 := by
  obtain ⟨h1, h2, h3, h4, h5, h6, h7⟩ := h
  obtain ⟨u1, u2, u3, u4⟩ := hu
  have e1 := oOk_eq h1 hW hk
  refine ⟨u1.trans (oM_eq h1 hW hk), by rw [h2]; rfl, h3, h4, h5, ?_, ?_⟩
  · rw [u2, e1]
    exact fBit h6 (Or.inl h0) (by omega)
  · rw [u3, h7, oMg_eq h1 hW hk]
    rfl
/-- what has not had its turn is as it was -/
theorem loE_out {E : Nat → Nat → Int} {str : Int} {S : FS} : ∀ k : Nat, fOC (loE E str k S) = fOC S ∧ fGC (loE E str k S) = fGC S ∧ fTC (loE E str k S) = fTC S ∧ ∀ i, (k ≤ i ∨ E 4 i ≠ str) → fOE (loE E str k S) i = fOE S i ∧ fGE (loE E str k S) i = fGE S i
  | 0 => ⟨rfl, rfl, rfl, fun _ _ => ⟨rfl, rfl⟩⟩
  | k + 1 => by
    obtain ⟨h1, h2, h3, h4⟩ := loE_out (E := E) (str := str) (S := S) k
    simp only [loE]
    split
    · rename_i hs
      refine ⟨h1, h2, h3, fun i hi => ?_⟩
      have hne : i ≠ k := by
        intro e
        subst e
        rcases hi with hi | hi
        · omega
        · exact hi hs
      show qu (fOE _) k _ i = _ ∧ qu (fGE _) k _ i = _
      rw [qu_n _ _ hne, qu_n _ _ hne]
      exact h4 i (by rcases hi with hi | hi; exact Or.inl (by omega); exact Or.inr hi)
    · exact ⟨h1, h2, h3, fun i hi => h4 i (by rcases hi with hi | hi; exact Or.inl (by omega); exact Or.inr hi)⟩
theorem loC_out {C : Nat → Nat → Int} {but str : Int} {S : FS} : ∀ k : Nat, fOE (loC C but str k S) = fOE S ∧ fGE (loC C but str k S) = fGE S ∧ ∀ i, (k ≤ i ∨ C 4 i ≠ str ∨ (i : Int) = but) → fOC (loC C but str k S) i = fOC S i ∧ fGC (loC C but str k S) i = fGC S i ∧ fTC (loC C but str k S) i = fTC S i
  | 0 => ⟨rfl, rfl, fun _ _ => ⟨rfl, rfl, rfl⟩⟩
  | k + 1 => by
    obtain ⟨h1, h2, h4⟩ := loC_out (C := C) (but := but) (str := str) (S := S) k
    simp only [loC]
    split
    · rename_i hs
      refine ⟨h1, h2, fun i hi => ?_⟩
      have hne : i ≠ k := by
        intro e
        subst e
        rcases hi with hi | hi | hi
        · omega
        · exact hi hs.1
        · exact hs.2 hi
      show qu (fOC _) k _ i = _ ∧ qu (fGC _) k _ i = _ ∧ qu (fTC _) k _ i = _
      rw [qu_n _ _ hne, qu_n _ _ hne, qu_n _ _ hne]
      exact h4 i (by rcases hi with hi | hi; exact Or.inl (by omega); exact Or.inr hi)
    · exact ⟨h1, h2, fun i hi => h4 i (by rcases hi with hi | hi; exact Or.inl (by omega); exact Or.inr hi)⟩
theorem loS_out {E C : Nat → Nat → Int} {ne nc : Nat} {but : Int} {S : FS} : ∀ j : Nat, (∀ i, (ne ≤ i ∨ E 4 i ≤ 3 - j) → fOE (loS E ne C nc but j S) i = fOE S i ∧ fGE (loS E ne C nc but j S) i = fGE S i) ∧ ∀ i, (nc ≤ i ∨ C 4 i ≤ 3 - j ∨ (i : Int) = but) → fOC (loS E ne C nc but j S) i = fOC S i ∧ fGC (loS E ne C nc but j S) i = fGC S i ∧ fTC (loS E ne C nc but j S) i = fTC S i
  | 0 => ⟨fun _ _ => ⟨rfl, rfl⟩, fun _ _ => ⟨rfl, rfl, rfl⟩⟩
  | j + 1 => by
    obtain ⟨h1, h2⟩ := loS_out (E := E) (C := C) (ne := ne) (nc := nc) (but := but) (S := S) j
    obtain ⟨e1, e2, e3, e4⟩ := loE_out (E := E) (str := 3 - j) (S := loS E ne C nc but j S) ne
    obtain ⟨g1, g2, g4⟩ := loC_out (C := C) (but := but) (str := 3 - j) (S := loE E (3 - j) ne (loS E ne C nc but j S)) nc
    simp only [loS]
    refine ⟨fun i hi => ?_, fun i hi => ?_⟩
    · rw [g1, g2, (e4 i (by omega)).1, (e4 i (by omega)).2]
      exact h1 i (by omega)
    · obtain ⟨a1, a2, a3⟩ := g4 i (by omega)
      rw [a1, a2, a3, e1, e2, e3]
      exact h2 i (by omega)

set_option maxRecDepth 100000 in
set_option maxHeartbeats 4000000 in
theorem c_X1_fill (l : Launch) (D : va_G) (cy : Nat → ClassId) (f : Nat) (b oc oe : Nat → Nat) (rs : Nat) (t : Int) (M : Nat → Nat → Int) (FC : Int) (mgC tnC : Nat → Int) (FE : Int) (mgE tnE : Nat → Int) (la lv9 ls9 : Nat) (rc re : Nat → Nat) (C : Nat → Nat → Int) (nc : Nat) (E : Nat → Nat → Int) (ne : Nat) (but : Int) (hbut : -1 ≤ but ∧ but ≤ 16) (hE : qWR E ne) (hC : qWR C nc) (he : ne ≤ 16) (hc : nc ≤ 16) (sz : Nat) : qMet l yX1_fill (.code yX1_fill cX1_fill 5 none) 4 [.ref (f), .ref (la), .int (qI (but))] D cy [[(f, .inr (1, [.ref (b 0), .ref (oc 0), .ref (oe 0), .ref (rs), .int (qI (t))]))], qBo cy b (M), qOu cy oc (FC) (mgC) (tnC), qOu cy oe (FE) (mgE) (tnE), [(la, .inr (3, [.ref (lv9), .ref (ls9), .ref (rc 0), .ref (re 0)]))], qRu cy rc (C) (((nc : Nat) : Int)), qRu cy re (E) (((ne : Nat) : Int))] sz (va_Qv (S := (Nat → Nat → Int) × Int × Nat × (Nat → Int) × (Nat → Int) × Nat × (Nat → Int) × (Nat → Int)) (fun u => fRel (loS E ne C nc but 4 (tg0, 0, (fun _ => false), mgC, tnC, (fun _ => false), mgE)) u.1 u.2.1 u.2.2.1 u.2.2.2.1 u.2.2.2.2.1 u.2.2.2.2.2.1 u.2.2.2.2.2.2.1) (qB D cy [[(f, .inr (1, [.ref (b 0), .ref (oc 0), .ref (oe 0), .ref (rs), .int (qI (t))]))], qBo cy b (M), qOu cy oc (FC) (mgC) (tnC), qOu cy oe (FE) (mgE) (tnE), [(la, .inr (3, [.ref (lv9), .ref (ls9), .ref (rc 0), .ref (re 0)]))], qRu cy rc (C) (((nc : Nat) : Int)), qRu cy re (E) (((ne : Nat) : Int))] sz (fun u => [[(f, .inr (1, [.ref (b 0), .ref (oc 0), .ref (oe 0), .ref (rs), .int (qI (u.2.1))]))], qBo cy b (u.1), qOu cy oc (u.2.2.1 : Int) (u.2.2.2.1) (u.2.2.2.2.1), qOu cy oe (u.2.2.2.2.2.1 : Int) (u.2.2.2.2.2.2.1) (u.2.2.2.2.2.2.2), [(la, .inr (3, [.ref (lv9), .ref (ls9), .ref (rc 0), .ref (re 0)]))], qRu cy rc (C) (((nc : Nat) : Int)), qRu cy re (E) (((ne : Nat) : Int))])) (va_A [[(f, .inr (1, [.ref (b 0), .ref (oc 0), .ref (oe 0), .ref (rs), .int (qI (t))]))], qBo cy b (M), qOu cy oc (FC) (mgC) (tnC), qOu cy oe (FE) (mgE) (tnE), [(la, .inr (3, [.ref (lv9), .ref (ls9), .ref (rc 0), .ref (re 0)]))], qRu cy rc (C) (((nc : Nat) : Int)), qRu cy re (E) (((ne : Nat) : Int))].flatten sz)) := by
  refine q_ofMv (S := (Nat → Nat → Int) × Int × Nat × (Nat → Int) × (Nat → Int) × Nat × (Nat → Int) × (Nat → Int)) (b1 := fun u => [[(f, .inr (1, [.ref (b 0), .ref (oc 0), .ref (oe 0), .ref (rs), .int (qI (u.2.1))]))], qBo cy b (u.1), qOu cy oc (u.2.2.1 : Int) (u.2.2.2.1) (u.2.2.2.2.1), qOu cy oe (u.2.2.2.2.2.1 : Int) (u.2.2.2.2.2.2.1) (u.2.2.2.2.2.2.2), [(la, .inr (3, [.ref (lv9), .ref (ls9), .ref (rc 0), .ref (re 0)]))], qRu cy rc (C) (((nc : Nat) : Int)), qRu cy re (E) (((ne : Nat) : Int))]) (post := fun u => fRel (loS E ne C nc but 4 (tg0, 0, (fun _ => false), mgC, tnC, (fun _ => false), mgE)) u.1 u.2.1 u.2.2.1 u.2.2.2.1 u.2.2.2.2.1 u.2.2.2.2.2.1 u.2.2.2.2.2.2.1) (by decide +kernel) (Nat.le_of_ble_eq_true rfl) ?_
  intro p e s m args below meth c Q A hx hb hml hown hg hQ hK hN hD hA H locs ls hP hS hl
  have hown : s.vm.findClass RX1 = some m.cls := hown
  have hl : lv_has ls 5 [(0, .ref (f)), (1, .ref (la)), (2, .int (qI (but)))] := hl
  refine lv_aload_n hx hb dX1_fill_0 rfl (lv_at hl 0 rfl) ?_
  refine gf_X1_12 hx hb hg hown hK (fl_blk hP 0 rfl) 0 rfl rfl dX1_fill_1 ?_
  refine q_backv [1] [0, 2, 3, 4, 5, 6] (br := [[(f, .inr (1, [.ref (b 0), .ref (oc 0), .ref (oe 0), .ref (rs), .int (qI (t))]))], qOu cy oc (FC) (mgC) (tnC), qOu cy oe (FE) (mgE) (tnE), [(la, .inr (3, [.ref (lv9), .ref (ls9), .ref (rc 0), .ref (re 0)]))], qRu cy rc (C) (((nc : Nat) : Int)), qRu cy re (E) (((ne : Nat) : Int))]) hP hD hS hA (va_runV (As := []) (rest := []) ⟨hx, hb, hml, hown, hg⟩ (c_X0_open l D cy (b) (M) _) (cv_X1_31 hg rfl rfl ⟨by decide, by decide⟩) ⟨q_blind, va_recv hK (fl_blk hP 1 rfl) (ci := 0) (q0 := 0) rfl rfl, q_preM _ hK hN hP hD [1] (by decide) rfl⟩ rfl rfl hl.1 rfl (lv_room (Nat.le_of_ble_eq_true rfl)) dX1_fill_4 ⟨by decide, by decide⟩) rfl rfl (by decide) (fun u_4 H locs h_4 hP hD hS => ?_)
  have hP : va_P D vwCl [[(f, .inr (1, [.ref (b 0), .ref (oc 0), .ref (oe 0), .ref (rs), .int (qI (t))]))], qOu cy oc (FC) (mgC) (tnC), qOu cy oe (FE) (mgE) (tnE), [(la, .inr (3, [.ref (lv9), .ref (ls9), .ref (rc 0), .ref (re 0)]))], qRu cy rc (C) (((nc : Nat) : Int)), qRu cy re (E) (((ne : Nat) : Int)), qBo cy b (u_4)].flatten H := hP
  have hD : va_D A [[(f, .inr (1, [.ref (b 0), .ref (oc 0), .ref (oe 0), .ref (rs), .int (qI (t))]))], qOu cy oc (FC) (mgC) (tnC), qOu cy oe (FE) (mgE) (tnE), [(la, .inr (3, [.ref (lv9), .ref (ls9), .ref (rc 0), .ref (re 0)]))], qRu cy rc (C) (((nc : Nat) : Int)), qRu cy re (E) (((ne : Nat) : Int)), qBo cy b (u_4)].flatten := hD
  refine lv_aload_n hx hb dX1_fill_7 rfl (lv_at hl 0 rfl) ?_
  refine gf_X1_21 hx hb hg hown hK (fl_blk hP 0 rfl) 0 rfl rfl dX1_fill_8 ?_
  refine q_iconst hx hb dX1_fill_11 ?_
  refine pf_X1_34 hx hb hg hown hK hP hD hS 1 0 rfl rfl rfl rfl (Nat.le_of_ble_eq_true rfl) dX1_fill_12 (fun H locs hP hD hS => ?_)
  have hP : va_P D vwCl [[(f, .inr (1, [.ref (b 0), .ref (oc 0), .ref (oe 0), .ref (rs), .int (qI (t))]))], qOu cy oc (0) (mgC) (tnC), qOu cy oe (FE) (mgE) (tnE), [(la, .inr (3, [.ref (lv9), .ref (ls9), .ref (rc 0), .ref (re 0)]))], qRu cy rc (C) (((nc : Nat) : Int)), qRu cy re (E) (((ne : Nat) : Int)), qBo cy b (u_4)].flatten H := hP
  have hD : va_D A [[(f, .inr (1, [.ref (b 0), .ref (oc 0), .ref (oe 0), .ref (rs), .int (qI (t))]))], qOu cy oc (0) (mgC) (tnC), qOu cy oe (FE) (mgE) (tnE), [(la, .inr (3, [.ref (lv9), .ref (ls9), .ref (rc 0), .ref (re 0)]))], qRu cy rc (C) (((nc : Nat) : Int)), qRu cy re (E) (((ne : Nat) : Int)), qBo cy b (u_4)].flatten := hD
  refine lv_aload_n hx hb dX1_fill_15 rfl (lv_at hl 0 rfl) ?_
  refine gf_X1_25 hx hb hg hown hK (fl_blk hP 0 rfl) 0 rfl rfl dX1_fill_16 ?_
  refine q_iconst hx hb dX1_fill_19 ?_
  refine pf_X1_34 hx hb hg hown hK hP hD hS 2 0 rfl rfl rfl rfl (Nat.le_of_ble_eq_true rfl) dX1_fill_20 (fun H locs hP hD hS => ?_)
  have hP : va_P D vwCl [[(f, .inr (1, [.ref (b 0), .ref (oc 0), .ref (oe 0), .ref (rs), .int (qI (t))]))], qOu cy oc (0) (mgC) (tnC), qOu cy oe (0) (mgE) (tnE), [(la, .inr (3, [.ref (lv9), .ref (ls9), .ref (rc 0), .ref (re 0)]))], qRu cy rc (C) (((nc : Nat) : Int)), qRu cy re (E) (((ne : Nat) : Int)), qBo cy b (u_4)].flatten H := hP
  have hD : va_D A [[(f, .inr (1, [.ref (b 0), .ref (oc 0), .ref (oe 0), .ref (rs), .int (qI (t))]))], qOu cy oc (0) (mgC) (tnC), qOu cy oe (0) (mgE) (tnE), [(la, .inr (3, [.ref (lv9), .ref (ls9), .ref (rc 0), .ref (re 0)]))], qRu cy rc (C) (((nc : Nat) : Int)), qRu cy re (E) (((ne : Nat) : Int)), qBo cy b (u_4)].flatten := hD
  refine lv_aload_n hx hb dX1_fill_23 rfl (lv_at hl 0 rfl) ?_
  refine q_iconst hx hb dX1_fill_24 ?_
  refine pf_X1_38 hx hb hg hown hK hP hD hS 0 0 rfl rfl rfl rfl (Nat.le_of_ble_eq_true rfl) dX1_fill_25 (fun H locs hP hD hS => ?_)
  have hP : va_P D vwCl [[(f, .inr (1, [.ref (b 0), .ref (oc 0), .ref (oe 0), .ref (rs), .int (qI (0))]))], qOu cy oc (0) (mgC) (tnC), qOu cy oe (0) (mgE) (tnE), [(la, .inr (3, [.ref (lv9), .ref (ls9), .ref (rc 0), .ref (re 0)]))], qRu cy rc (C) (((nc : Nat) : Int)), qRu cy re (E) (((ne : Nat) : Int)), qBo cy b (u_4)].flatten H := hP
  have hD : va_D A [[(f, .inr (1, [.ref (b 0), .ref (oc 0), .ref (oe 0), .ref (rs), .int (qI (0))]))], qOu cy oc (0) (mgC) (tnC), qOu cy oe (0) (mgE) (tnE), [(la, .inr (3, [.ref (lv9), .ref (ls9), .ref (rc 0), .ref (re 0)]))], qRu cy rc (C) (((nc : Nat) : Int)), qRu cy re (E) (((ne : Nat) : Int)), qBo cy b (u_4)].flatten := hD
  refine q_iconst hx hb dX1_fill_28 ?_
  refine lv_istore_n (lv' := [(3, .int (qI (3))), (0, .ref (f)), (1, .ref (la)), (2, .int (qI (but)))]) hx hb dX1_fill_29 rfl hl (by decide) rfl (fun ls hl => ?_)
  have L_30 : ∀ (n_30 j : Nat) (x3 : Int) (M1 : Nat → Nat → Int) (t1 : Int) (FC1 : Nat) (mgC1 : Nat → Int) (tnC1 : Nat → Int) (FE1 : Nat) (mgE1 : Nat → Int) (tnE1 : Nat → Int), j ≤ 4 → 4 + 1 ≤ j + n_30 → (x3 = 3 - (j : Int)) → (fRel (loS E ne C nc but j (tg0, 0, (fun _ => false), mgC, tnC, (fun _ => false), mgE)) M1 t1 FC1 mgC1 tnC1 FE1 mgE1) → ∀ (H : Heap) (locs : List Loc) (ls : Array Slot), va_P D vwCl [[(f, .inr (1, [.ref (b 0), .ref (oc 0), .ref (oe 0), .ref (rs), .int (qI (t1))]))], qBo cy b (M1), qOu cy oc (((FC1 : Nat) : Int)) (mgC1) (tnC1), qOu cy oe (((FE1 : Nat) : Int)) (mgE1) (tnE1), [(la, .inr (3, [.ref (lv9), .ref (ls9), .ref (rc 0), .ref (re 0)]))], qRu cy rc (C) (((nc : Nat) : Int)), qRu cy re (E) (((ne : Nat) : Int))].flatten H → va_D A [[(f, .inr (1, [.ref (b 0), .ref (oc 0), .ref (oe 0), .ref (rs), .int (qI (t1))]))], qBo cy b (M1), qOu cy oc (((FC1 : Nat) : Int)) (mgC1) (tnC1), qOu cy oe (((FE1 : Nat) : Int)) (mgE1) (tnE1), [(la, .inr (3, [.ref (lv9), .ref (ls9), .ref (rc 0), .ref (re 0)]))], qRu cy rc (C) (((nc : Nat) : Int)), qRu cy re (E) (((ne : Nat) : Int))].flatten → va_S A s.heap H locs → lv_has ls 5 [(0, .ref (f)), (1, .ref (la)), (2, .int (qI (but))), (3, .int (qI (x3)))] → W p l e (qrm 4) s m args below meth c H locs 0 0 Q (F0 m 30 ls []) := by
    intro n_30
    induction n_30 with
    | zero => intro j _ _ _ _ _ _ _ _ _ h1 h2; exact absurd h2 (by omega)
    | succ n_30 ih_30 =>
      intro j x3 M1 t1 FC1 mgC1 tnC1 FE1 mgE1 tnE1 hk_30 hn_30 hx3 hR H locs ls hP hD hS hl
      refine lv_iload_n hx hb dX1_fill_30 rfl (lv_at hl 3 rfl) ?_
      refine q_if_lt (tgt := 144) hx hb dX1_fill_31 (by decide) (by omega) (fun c_31 => ?_) (fun c_31 => ?_)
      · skip
        have e9 : j = 4 := by omega
        subst e9
        exact hQ _ _ _ _ (_, _, _, _, _, _, _, _) hR hP hD hS dX1_fill_144
      · skip
        refine q_iconst hx hb dX1_fill_34 ?_
        refine lv_istore (lv' := [(4, .int (qI (0))), (0, .ref (f)), (1, .ref (la)), (2, .int (qI (but))), (3, .int (qI (x3)))]) hx hb dX1_fill_35 hl (by decide) rfl (fun ls hl => ?_)
        have L_37 : ∀ (n_37 k : Nat) (M1 : Nat → Nat → Int) (t1 : Int) (FC1 : Nat) (mgC1 : Nat → Int) (tnC1 : Nat → Int) (FE1 : Nat) (mgE1 : Nat → Int) (tnE1 : Nat → Int), k ≤ ne → ne + 1 ≤ k + n_37 → (fRel (loE E (3 - (j : Int)) k (loS E ne C nc but j (tg0, 0, (fun _ => false), mgC, tnC, (fun _ => false), mgE))) M1 t1 FC1 mgC1 tnC1 FE1 mgE1) → ∀ (H : Heap) (locs : List Loc) (ls : Array Slot), va_P D vwCl [[(f, .inr (1, [.ref (b 0), .ref (oc 0), .ref (oe 0), .ref (rs), .int (qI (t1))]))], qBo cy b (M1), qOu cy oc (((FC1 : Nat) : Int)) (mgC1) (tnC1), qOu cy oe (((FE1 : Nat) : Int)) (mgE1) (tnE1), [(la, .inr (3, [.ref (lv9), .ref (ls9), .ref (rc 0), .ref (re 0)]))], qRu cy rc (C) (((nc : Nat) : Int)), qRu cy re (E) (((ne : Nat) : Int))].flatten H → va_D A [[(f, .inr (1, [.ref (b 0), .ref (oc 0), .ref (oe 0), .ref (rs), .int (qI (t1))]))], qBo cy b (M1), qOu cy oc (((FC1 : Nat) : Int)) (mgC1) (tnC1), qOu cy oe (((FE1 : Nat) : Int)) (mgE1) (tnE1), [(la, .inr (3, [.ref (lv9), .ref (ls9), .ref (rc 0), .ref (re 0)]))], qRu cy rc (C) (((nc : Nat) : Int)), qRu cy re (E) (((ne : Nat) : Int))].flatten → va_S A s.heap H locs → lv_has ls 5 [(0, .ref (f)), (1, .ref (la)), (2, .int (qI (but))), (3, .int (qI (x3))), (4, .int (qI (((k : Nat) : Int))))] → W p l e (qrm 4) s m args below meth c H locs 0 0 Q (F0 m 37 ls []) := by
          intro n_37
          induction n_37 with
          | zero => intro k _ _ _ _ _ _ _ _ h1 h2; exact absurd h2 (by omega)
          | succ n_37 ih_37 =>
            intro k M1 t1 FC1 mgC1 tnC1 FE1 mgE1 tnE1 hk_37 hn_37 hR H locs ls hP hD hS hl
            have fo := loS_ok (but := but) (E := E) (C := C) (ne := ne) (nc := nc) (S := (tg0, 0, (fun _ => false), mgC, tnC, (fun _ => false), mgE)) (b := 0) ⟨tg0_cl, Int.le_refl 0, Int.le_refl 0⟩ hE hC he hc j
            have fo := loE_ok (str := 3 - j) fo hE k hk_37
            have cl9 : qCl M1 := qEq.cl hR.1.symm fo.1
            have t9 := hR.2.1
            have t8 := fo.2
            refine lv_iload hx hb dX1_fill_37 (lv_at hl 4 rfl) ?_
            refine lv_aload_n hx hb dX1_fill_39 rfl (lv_at hl 1 rfl) ?_
            refine gf_X1_41 hx hb hg hown hK (fl_blk hP 4 rfl) 0 rfl rfl dX1_fill_40 ?_
            refine gf_X1_47 hx hb hg hown hK (fl_blk hP 6 rfl) 0 rfl rfl dX1_fill_43 ?_
            refine q_icmp_ge (tgt := 83) hx hb dX1_fill_46 (by decide) (by omega) (fun c_46 => ?_) (fun c_46 => ?_)
            · skip
              refine q_iconst hx hb dX1_fill_83 ?_
              refine lv_istore (lv' := [(4, .int (qI (0))), (0, .ref (f)), (1, .ref (la)), (2, .int (qI (but))), (3, .int (qI (x3)))]) hx hb dX1_fill_84 hl (by decide) rfl (fun ls hl => ?_)
              have L_86 : ∀ (n_86 k : Nat) (M1 : Nat → Nat → Int) (t1 : Int) (FC1 : Nat) (mgC1 : Nat → Int) (tnC1 : Nat → Int) (FE1 : Nat) (mgE1 : Nat → Int) (tnE1 : Nat → Int), k ≤ nc → nc + 1 ≤ k + n_86 → (fRel (loC C but (3 - (j : Int)) k (loE E (3 - (j : Int)) ne (loS E ne C nc but j (tg0, 0, (fun _ => false), mgC, tnC, (fun _ => false), mgE)))) M1 t1 FC1 mgC1 tnC1 FE1 mgE1) → ∀ (H : Heap) (locs : List Loc) (ls : Array Slot), va_P D vwCl [[(f, .inr (1, [.ref (b 0), .ref (oc 0), .ref (oe 0), .ref (rs), .int (qI (t1))]))], qBo cy b (M1), qOu cy oc (((FC1 : Nat) : Int)) (mgC1) (tnC1), qOu cy oe (((FE1 : Nat) : Int)) (mgE1) (tnE1), [(la, .inr (3, [.ref (lv9), .ref (ls9), .ref (rc 0), .ref (re 0)]))], qRu cy rc (C) (((nc : Nat) : Int)), qRu cy re (E) (((ne : Nat) : Int))].flatten H → va_D A [[(f, .inr (1, [.ref (b 0), .ref (oc 0), .ref (oe 0), .ref (rs), .int (qI (t1))]))], qBo cy b (M1), qOu cy oc (((FC1 : Nat) : Int)) (mgC1) (tnC1), qOu cy oe (((FE1 : Nat) : Int)) (mgE1) (tnE1), [(la, .inr (3, [.ref (lv9), .ref (ls9), .ref (rc 0), .ref (re 0)]))], qRu cy rc (C) (((nc : Nat) : Int)), qRu cy re (E) (((ne : Nat) : Int))].flatten → va_S A s.heap H locs → lv_has ls 5 [(0, .ref (f)), (1, .ref (la)), (2, .int (qI (but))), (3, .int (qI (x3))), (4, .int (qI (((k : Nat) : Int))))] → W p l e (qrm 4) s m args below meth c H locs 0 0 Q (F0 m 86 ls []) := by
                intro n_86
                induction n_86 with
                | zero => intro k _ _ _ _ _ _ _ _ h1 h2; exact absurd h2 (by omega)
                | succ n_86 ih_86 =>
                  intro k M1 t1 FC1 mgC1 tnC1 FE1 mgE1 tnE1 hk_86 hn_86 hR H locs ls hP hD hS hl
                  have fo := loS_ok (but := but) (E := E) (C := C) (ne := ne) (nc := nc) (S := (tg0, 0, (fun _ => false), mgC, tnC, (fun _ => false), mgE)) (b := 0) ⟨tg0_cl, Int.le_refl 0, Int.le_refl 0⟩ hE hC he hc j
                  have fo := loE_ok (str := 3 - j) fo hE ne (Nat.le_refl _)
                  have fo := loC_ok (but := but) (str := 3 - j) fo hC k hk_86
                  have cl9 : qCl M1 := qEq.cl hR.1.symm fo.1
                  have t9 := hR.2.1
                  have t8 := fo.2
                  refine lv_iload hx hb dX1_fill_86 (lv_at hl 4 rfl) ?_
                  refine lv_aload_n hx hb dX1_fill_88 rfl (lv_at hl 1 rfl) ?_
                  refine gf_X1_60 hx hb hg hown hK (fl_blk hP 4 rfl) 0 rfl rfl dX1_fill_89 ?_
                  refine gf_X1_47 hx hb hg hown hK (fl_blk hP 5 rfl) 0 rfl rfl dX1_fill_92 ?_
                  refine q_icmp_ge (tgt := 138) hx hb dX1_fill_95 (by decide) (by omega) (fun c_95 => ?_) (fun c_95 => ?_)
                  · skip
                    refine q_iinc (k := 3) (lv' := [(3, .int (qI ((x3) + (-1)))), (0, .ref (f)), (1, .ref (la)), (2, .int (qI (but))), (4, .int (qI (((k : Nat) : Int))))]) hx hb dX1_fill_138 hl rfl (by decide) rfl (fun ls hl => ?_)
                    refine lv_goto (tgt := 30) hx hb dX1_fill_141 (by decide) ?_
                    exact ih_30 (j + 1) _ _ _ _ _ _ _ _ _ (by omega) (by omega) (by omega) (by subst hx3; rw [show k = nc by omega] at hR; exact hR) _ _ _ hP hD hS (lv_sub hl [1, 2, 3, 0] rfl)
                  · skip
                    have hw := hC k (by omega)
                    refine lv_aload_n hx hb dX1_fill_98 rfl (lv_at hl 1 rfl) ?_
                    refine gf_X1_60 hx hb hg hown hK (fl_blk hP 4 rfl) 0 rfl rfl dX1_fill_99 ?_
                    refine gf_X1_52 hx hb hg hown hK (fl_blk hP 5 rfl) 0 rfl rfl dX1_fill_102 ?_
                    refine lv_iload hx hb dX1_fill_105 (lv_at hl 4 rfl) ?_
                    refine q_iald (j := k) hx hb hK (fl_blk hP 5 rfl) 5 rfl (by omega) dX1_fill_107 ?_
                    refine lv_iload_n hx hb dX1_fill_108 rfl (lv_at hl 3 rfl) ?_
                    refine q_icmp_ne (tgt := 132) hx hb dX1_fill_109 (by decide) (by omega) (fun c_109 => ?_) (fun c_109 => ?_)
                    · skip
                      refine q_iinc (k := 4) (lv' := [(4, .int (qI ((((k : Nat) : Int)) + (1)))), (0, .ref (f)), (1, .ref (la)), (2, .int (qI (but))), (3, .int (qI (x3)))]) hx hb dX1_fill_132 hl rfl (by decide) rfl (fun ls hl => ?_)
                      refine lv_goto (tgt := 86) hx hb dX1_fill_135 (by decide) ?_
                      exact ih_86 (k + 1) _ _ _ _ _ _ _ _ (by omega) (by omega) (by show fRel (if C 4 k = 3 - (j : Int) ∧ (k : Int) ≠ but then _ else _) _ _ _ _ _ _ _; rw [if_neg (by omega)]; exact hR) _ _ _ hP hD hS (lv_sub hl [1, 2, 3, 4, 0] rfl)
                    · skip
                      refine lv_iload hx hb dX1_fill_112 (lv_at hl 4 rfl) ?_
                      refine lv_iload_n hx hb dX1_fill_114 rfl (lv_at hl 2 rfl) ?_
                      refine q_icmp_eq (tgt := 132) hx hb dX1_fill_115 (by decide) (by omega) (fun c_115 => ?_) (fun c_115 => ?_)
                      · skip
                        refine q_iinc (k := 4) (lv' := [(4, .int (qI ((((k : Nat) : Int)) + (1)))), (0, .ref (f)), (1, .ref (la)), (2, .int (qI (but))), (3, .int (qI (x3)))]) hx hb dX1_fill_132 hl rfl (by decide) rfl (fun ls hl => ?_)
                        refine lv_goto (tgt := 86) hx hb dX1_fill_135 (by decide) ?_
                        exact ih_86 (k + 1) _ _ _ _ _ _ _ _ (by omega) (by omega) (by show fRel (if C 4 k = 3 - (j : Int) ∧ (k : Int) ≠ but then _ else _) _ _ _ _ _ _ _; rw [if_neg (by omega)]; exact hR) _ _ _ hP hD hS (lv_sub hl [1, 2, 3, 4, 0] rfl)
                      · skip
                        have z9 : fOC (loC C but (3 - (j : Int)) k (loE E (3 - (j : Int)) ne (loS E ne C nc but j (tg0, 0, (fun _ => false), mgC, tnC, (fun _ => false), mgE)))) k = false := by rw [((loC_out k).2.2 k (Or.inl (Nat.le_refl k))).1, (loE_out ne).1, ((loS_out j).2 k (by omega)).1]
                        refine lv_aload_n hx hb dX1_fill_118 rfl (lv_at hl 0 rfl) ?_
                        refine lv_aload_n hx hb dX1_fill_119 rfl (lv_at hl 1 rfl) ?_
                        refine gf_X1_60 hx hb hg hown hK (fl_blk hP 4 rfl) 0 rfl rfl dX1_fill_120 ?_
                        refine lv_iload hx hb dX1_fill_123 (lv_at hl 4 rfl) ?_
                        refine lv_aload_n hx hb dX1_fill_125 rfl (lv_at hl 0 rfl) ?_
                        refine gf_X1_21 hx hb hg hown hK (fl_blk hP 0 rfl) 0 rfl rfl dX1_fill_126 ?_
                        refine q_backv [0, 1, 2, 5] [3, 4, 6] (br := [qOu cy oe (((FE1 : Nat) : Int)) (mgE1) (tnE1), [(la, .inr (3, [.ref (lv9), .ref (ls9), .ref (rc 0), .ref (re 0)]))], qRu cy re (E) (((ne : Nat) : Int))]) hP hD hS hA (va_runV (As := [.ref (rc 0), .int (qI (((k : Nat) : Int))), .ref (oc 0)]) (rest := []) ⟨hx, hb, hml, hown, hg⟩ (c_X1_fillOne l D cy f b oc rc _ _ rs (t1) (M1) FC1 (mgC1) (tnC1) C nc _ k (by omega) hc hC cl9 (by omega) _) (cv_X1_56 hg rfl rfl ⟨by decide, by decide⟩) ⟨q_blind, va_recv hK (fl_blk hP 0 rfl) (ci := 1) (q0 := 0) rfl rfl, q_preM _ hK hN hP hD [0, 1, 2, 5] (by decide) rfl⟩ rfl rfl hl.1 rfl (lv_room (Nat.le_of_ble_eq_true rfl)) dX1_fill_129 ⟨by decide, by decide⟩) rfl rfl (by decide) (fun u_129 H locs h_129 hP hD hS => ?_)
                        have hP : va_P D vwCl [qOu cy oe (((FE1 : Nat) : Int)) (mgE1) (tnE1), [(la, .inr (3, [.ref (lv9), .ref (ls9), .ref (rc 0), .ref (re 0)]))], qRu cy re (E) (((ne : Nat) : Int)), [(f, .inr (1, [.ref (b 0), .ref (oc 0), .ref (oe 0), .ref (rs), .int (qI (t1 + 1))]))], qBo cy b (u_129.1), qOu cy oc (((u_129.2.1 : Nat) : Int)) (u_129.2.2.1) (u_129.2.2.2), qRu cy rc (C) (((nc : Nat) : Int))].flatten H := hP
                        have hD : va_D A [qOu cy oe (((FE1 : Nat) : Int)) (mgE1) (tnE1), [(la, .inr (3, [.ref (lv9), .ref (ls9), .ref (rc 0), .ref (re 0)]))], qRu cy re (E) (((ne : Nat) : Int)), [(f, .inr (1, [.ref (b 0), .ref (oc 0), .ref (oe 0), .ref (rs), .int (qI (t1 + 1))]))], qBo cy b (u_129.1), qOu cy oc (((u_129.2.1 : Nat) : Int)) (u_129.2.2.1) (u_129.2.2.2), qRu cy rc (C) (((nc : Nat) : Int))].flatten := hD
                        refine q_iinc (k := 4) (lv' := [(4, .int (qI ((((k : Nat) : Int)) + (1)))), (0, .ref (f)), (1, .ref (la)), (2, .int (qI (but))), (3, .int (qI (x3)))]) hx hb dX1_fill_132 hl rfl (by decide) rfl (fun ls hl => ?_)
                        refine lv_goto (tgt := 86) hx hb dX1_fill_135 (by decide) ?_
                        have hP := fl_sub (bs' := [[(f, .inr (1, [.ref (b 0), .ref (oc 0), .ref (oe 0), .ref (rs), .int (qI (t1 + 1))]))], qBo cy b (u_129.1), qOu cy oc (((u_129.2.1 : Nat) : Int)) (u_129.2.2.1) (u_129.2.2.2), qOu cy oe (((FE1 : Nat) : Int)) (mgE1) (tnE1), [(la, .inr (3, [.ref (lv9), .ref (ls9), .ref (rc 0), .ref (re 0)]))], qRu cy rc (C) (((nc : Nat) : Int)), qRu cy re (E) (((ne : Nat) : Int))]) hP [3, 4, 5, 0, 1, 6, 2] rfl
                        have hD := fl_subD (bs' := [[(f, .inr (1, [.ref (b 0), .ref (oc 0), .ref (oe 0), .ref (rs), .int (qI (t1 + 1))]))], qBo cy b (u_129.1), qOu cy oc (((u_129.2.1 : Nat) : Int)) (u_129.2.2.1) (u_129.2.2.2), qOu cy oe (((FE1 : Nat) : Int)) (mgE1) (tnE1), [(la, .inr (3, [.ref (lv9), .ref (ls9), .ref (rc 0), .ref (re 0)]))], qRu cy rc (C) (((nc : Nat) : Int)), qRu cy re (E) (((ne : Nat) : Int))]) hD [3, 4, 5, 0, 1, 6, 2] (by decide) rfl
                        exact ih_86 (k + 1) _ _ _ _ _ _ _ _ (by omega) (by omega) (by show fRel (if C 4 k = 3 - (j : Int) ∧ (k : Int) ≠ but then _ else _) _ _ _ _ _ _ _; rw [if_pos (by omega)]; exact fRel.stC hR hC (by omega) hc z9 h_129) _ _ _ hP hD hS (lv_sub hl [1, 2, 3, 4, 0] rfl)
              exact L_86 (nc + 1) (0) _ _ _ _ _ _ _ _ (by omega) (by omega) (by rw [show k = ne by omega] at hR; exact hR) _ _ _ hP hD hS (lv_sub hl [1, 2, 3, 4, 0] rfl)
            · skip
              have hw := hE k (by omega)
              refine lv_aload_n hx hb dX1_fill_49 rfl (lv_at hl 1 rfl) ?_
              refine gf_X1_41 hx hb hg hown hK (fl_blk hP 4 rfl) 0 rfl rfl dX1_fill_50 ?_
              refine gf_X1_52 hx hb hg hown hK (fl_blk hP 6 rfl) 0 rfl rfl dX1_fill_53 ?_
              refine lv_iload hx hb dX1_fill_56 (lv_at hl 4 rfl) ?_
              refine q_iald (j := k) hx hb hK (fl_blk hP 6 rfl) 5 rfl (by omega) dX1_fill_58 ?_
              refine lv_iload_n hx hb dX1_fill_59 rfl (lv_at hl 3 rfl) ?_
              refine q_icmp_ne (tgt := 77) hx hb dX1_fill_60 (by decide) (by omega) (fun c_60 => ?_) (fun c_60 => ?_)
              · skip
                refine q_iinc (k := 4) (lv' := [(4, .int (qI ((((k : Nat) : Int)) + (1)))), (0, .ref (f)), (1, .ref (la)), (2, .int (qI (but))), (3, .int (qI (x3)))]) hx hb dX1_fill_77 hl rfl (by decide) rfl (fun ls hl => ?_)
                refine lv_goto (tgt := 37) hx hb dX1_fill_80 (by decide) ?_
                exact ih_37 (k + 1) _ _ _ _ _ _ _ _ (by omega) (by omega) (by show fRel (if E 4 k = 3 - (j : Int) then _ else _) _ _ _ _ _ _ _; rw [if_neg (by omega)]; exact hR) _ _ _ hP hD hS (lv_sub hl [1, 2, 3, 4, 0] rfl)
              · skip
                have z9 : fOE (loE E (3 - (j : Int)) k (loS E ne C nc but j (tg0, 0, (fun _ => false), mgC, tnC, (fun _ => false), mgE))) k = false := by rw [((loE_out k).2.2.2 k (Or.inl (Nat.le_refl k))).1, ((loS_out j).1 k (by omega)).1]
                refine lv_aload_n hx hb dX1_fill_63 rfl (lv_at hl 0 rfl) ?_
                refine lv_aload_n hx hb dX1_fill_64 rfl (lv_at hl 1 rfl) ?_
                refine gf_X1_41 hx hb hg hown hK (fl_blk hP 4 rfl) 0 rfl rfl dX1_fill_65 ?_
                refine lv_iload hx hb dX1_fill_68 (lv_at hl 4 rfl) ?_
                refine lv_aload_n hx hb dX1_fill_70 rfl (lv_at hl 0 rfl) ?_
                refine gf_X1_25 hx hb hg hown hK (fl_blk hP 0 rfl) 0 rfl rfl dX1_fill_71 ?_
                refine q_backv [0, 1, 3, 6] [2, 4, 5] (br := [qOu cy oc (((FC1 : Nat) : Int)) (mgC1) (tnC1), [(la, .inr (3, [.ref (lv9), .ref (ls9), .ref (rc 0), .ref (re 0)]))], qRu cy rc (C) (((nc : Nat) : Int))]) hP hD hS hA (va_runV (As := [.ref (re 0), .int (qI (((k : Nat) : Int))), .ref (oe 0)]) (rest := []) ⟨hx, hb, hml, hown, hg⟩ (c_X1_fillOne l D cy f b oe re _ _ rs (t1) (M1) FE1 (mgE1) (tnE1) E ne _ k (by omega) he hE cl9 (by omega) _) (cv_X1_56 hg rfl rfl ⟨by decide, by decide⟩) ⟨q_blind, va_recv hK (fl_blk hP 0 rfl) (ci := 1) (q0 := 0) rfl rfl, q_preM _ hK hN hP hD [0, 1, 3, 6] (by decide) rfl⟩ rfl rfl hl.1 rfl (lv_room (Nat.le_of_ble_eq_true rfl)) dX1_fill_74 ⟨by decide, by decide⟩) rfl rfl (by decide) (fun u_74 H locs h_74 hP hD hS => ?_)
                have hP : va_P D vwCl [qOu cy oc (((FC1 : Nat) : Int)) (mgC1) (tnC1), [(la, .inr (3, [.ref (lv9), .ref (ls9), .ref (rc 0), .ref (re 0)]))], qRu cy rc (C) (((nc : Nat) : Int)), [(f, .inr (1, [.ref (b 0), .ref (oc 0), .ref (oe 0), .ref (rs), .int (qI (t1 + 1))]))], qBo cy b (u_74.1), qOu cy oe (((u_74.2.1 : Nat) : Int)) (u_74.2.2.1) (u_74.2.2.2), qRu cy re (E) (((ne : Nat) : Int))].flatten H := hP
                have hD : va_D A [qOu cy oc (((FC1 : Nat) : Int)) (mgC1) (tnC1), [(la, .inr (3, [.ref (lv9), .ref (ls9), .ref (rc 0), .ref (re 0)]))], qRu cy rc (C) (((nc : Nat) : Int)), [(f, .inr (1, [.ref (b 0), .ref (oc 0), .ref (oe 0), .ref (rs), .int (qI (t1 + 1))]))], qBo cy b (u_74.1), qOu cy oe (((u_74.2.1 : Nat) : Int)) (u_74.2.2.1) (u_74.2.2.2), qRu cy re (E) (((ne : Nat) : Int))].flatten := hD
                refine q_iinc (k := 4) (lv' := [(4, .int (qI ((((k : Nat) : Int)) + (1)))), (0, .ref (f)), (1, .ref (la)), (2, .int (qI (but))), (3, .int (qI (x3)))]) hx hb dX1_fill_77 hl rfl (by decide) rfl (fun ls hl => ?_)
                refine lv_goto (tgt := 37) hx hb dX1_fill_80 (by decide) ?_
                have hP := fl_sub (bs' := [[(f, .inr (1, [.ref (b 0), .ref (oc 0), .ref (oe 0), .ref (rs), .int (qI (t1 + 1))]))], qBo cy b (u_74.1), qOu cy oc (((FC1 : Nat) : Int)) (mgC1) (tnC1), qOu cy oe (((u_74.2.1 : Nat) : Int)) (u_74.2.2.1) (u_74.2.2.2), [(la, .inr (3, [.ref (lv9), .ref (ls9), .ref (rc 0), .ref (re 0)]))], qRu cy rc (C) (((nc : Nat) : Int)), qRu cy re (E) (((ne : Nat) : Int))]) hP [3, 4, 0, 5, 1, 2, 6] rfl
                have hD := fl_subD (bs' := [[(f, .inr (1, [.ref (b 0), .ref (oc 0), .ref (oe 0), .ref (rs), .int (qI (t1 + 1))]))], qBo cy b (u_74.1), qOu cy oc (((FC1 : Nat) : Int)) (mgC1) (tnC1), qOu cy oe (((u_74.2.1 : Nat) : Int)) (u_74.2.2.1) (u_74.2.2.2), [(la, .inr (3, [.ref (lv9), .ref (ls9), .ref (rc 0), .ref (re 0)]))], qRu cy rc (C) (((nc : Nat) : Int)), qRu cy re (E) (((ne : Nat) : Int))]) hD [3, 4, 0, 5, 1, 2, 6] (by decide) rfl
                exact ih_37 (k + 1) _ _ _ _ _ _ _ _ (by omega) (by omega) (by show fRel (if E 4 k = 3 - (j : Int) then _ else _) _ _ _ _ _ _ _; rw [if_pos (by omega)]; exact fRel.stE hR hE (by omega) he z9 h_74) _ _ _ hP hD hS (lv_sub hl [1, 2, 3, 4, 0] rfl)
        exact L_37 (ne + 1) (0) _ _ _ _ _ _ _ _ (by omega) (by omega) hR _ _ _ hP hD hS (lv_sub hl [1, 2, 3, 4, 0] rfl)
  have hP := fl_sub (bs' := [[(f, .inr (1, [.ref (b 0), .ref (oc 0), .ref (oe 0), .ref (rs), .int (qI (0))]))], qBo cy b (u_4), qOu cy oc (0) (mgC) (tnC), qOu cy oe (0) (mgE) (tnE), [(la, .inr (3, [.ref (lv9), .ref (ls9), .ref (rc 0), .ref (re 0)]))], qRu cy rc (C) (((nc : Nat) : Int)), qRu cy re (E) (((ne : Nat) : Int))]) hP [0, 6, 1, 2, 3, 4, 5] rfl
  have hD := fl_subD (bs' := [[(f, .inr (1, [.ref (b 0), .ref (oc 0), .ref (oe 0), .ref (rs), .int (qI (0))]))], qBo cy b (u_4), qOu cy oc (0) (mgC) (tnC), qOu cy oe (0) (mgE) (tnE), [(la, .inr (3, [.ref (lv9), .ref (ls9), .ref (rc 0), .ref (re 0)]))], qRu cy rc (C) (((nc : Nat) : Int)), qRu cy re (E) (((ne : Nat) : Int))]) hD [0, 6, 1, 2, 3, 4, 5] (by decide) rfl
  exact L_30 (4 + 1) (0) _ _ _ (0) _ _ (0) _ _ (by omega) (by omega) (by omega) ⟨h_4, rfl, ⟨by decide, fun i _ => Nat.zero_testBit i⟩, rfl, rfl, ⟨by decide, fun i _ => Nat.zero_testBit i⟩, rfl⟩ _ _ _ hP hD hS (lv_sub hl [1, 2, 3, 0] rfl)
