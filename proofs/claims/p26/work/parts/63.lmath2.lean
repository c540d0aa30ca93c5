/-! ===== how far a filling is told by the law's arrays ===== -/
def aR (nc ne : Nat) (pc pe : Nat → Prop) (S : FS) (fi fe : Nat → Int) (u : L4) (t : Int) : Prop := (t = fT S ∧ 0 ≤ t) ∧ lB u (2 * t.toNat) (fM S) ∧ (∀ k, k < nc → pc k → fi (3 * k) = ((fOC S k).toNat : Int) ∧ fi (3 * k + 1) = fGC S k ∧ fi (3 * k + 2) = fTC S k) ∧ ∀ k, k < ne → pe k → fe (2 * k) = ((fOE S k).toNat : Int) ∧ fe (2 * k + 1) = fGE S k
def pcs (C : Nat → Nat → Int) (but : Int) (j kk : Nat) : Nat → Prop := fun k => (k : Int) ≠ but ∧ (3 - (j : Int) < C 4 k ∨ (C 4 k = 3 - (j : Int) ∧ k < kk))
def pes (E : Nat → Nat → Int) (j kk : Nat) : Nat → Prop := fun k => 3 - (j : Int) < E 4 k ∨ (E 4 k = 3 - (j : Int) ∧ k < kk)
theorem aR_0 {C E : Nat → Nat → Int} {nc ne : Nat} {but : Int} {fi fe : Nat → Int} {u : L4} (hC : qWR C nc) (hE : qWR E ne) (hu : u.1 0 = 0) : aR nc ne (pcs C but 0 0) (pes E 0 0) S00 fi fe u 0 := by
  refine ⟨⟨rfl, Int.le_refl 0⟩, ⟨0, hu, Nat.zero_le _, cR_0⟩, fun k hk h => ?_, fun k hk h => ?_⟩
  · have := hC k hk
    have h := h.2
    omega
  · have := hE k hk
    unfold pes at h
    omega
theorem aR_Es {nc ne : Nat} {pc : Nat → Prop} {E : Nat → Nat → Int} {j kk : Nat} {S : FS} {fi fe : Nat → Int} {u : L4} {t : Int} (h : aR nc ne pc (pes E j kk) (loE E (3 - (j : Int)) kk S) fi fe u t) (hs : E 4 kk ≠ 3 - (j : Int)) : aR nc ne pc (pes E j (kk + 1)) (loE E (3 - (j : Int)) (kk + 1) S) fi fe u t := by
  simp only [loE]
  rw [if_neg hs]
  refine ⟨h.1, h.2.1, h.2.2.1, fun k hk hp => h.2.2.2 k hk ?_⟩
  unfold pes at hp ⊢
  by_cases e : k = kk
  · rw [e] at hp ⊢
    omega
  · omega
theorem aR_Et {nc ne : Nat} {pc : Nat → Prop} {E : Nat → Nat → Int} {j kk : Nat} {S : FS} {fi fe : Nat → Int} {u v : L4} {t : Int} (h : aR nc ne pc (pes E j kk) (loE E (3 - (j : Int)) kk S) fi fe u t) (hs : E 4 kk = 3 - (j : Int)) (hv : v.1 1 = ((oOk (fM (loE E (3 - (j : Int)) kk S)) E kk).toNat : Int) ∧ lB v (2 * t.toNat + 2) (oM (fM (loE E (3 - (j : Int)) kk S)) E kk)) : aR nc ne pc (pes E j (kk + 1)) (loE E (3 - (j : Int)) (kk + 1) S) fi (qu (qu fe (2 * kk + 1) (oMg (fM (loE E (3 - (j : Int)) kk S)) E kk)) (2 * kk) (v.1 1)) v (t + 1) := by
  simp only [loE]
  rw [if_pos hs]
  obtain ⟨⟨h1, h0⟩, h2, h3, h4⟩ := h
  refine ⟨⟨?_, by omega⟩, hv.2.mono (by omega), h3, fun k hk hp => ?_⟩
  · show t + 1 = fT (loE E (3 - (j : Int)) kk S) + 1
    rw [h1]
  · show _ = (((qu (fOE (loE E (3 - (j : Int)) kk S)) kk (oOk (fM (loE E (3 - (j : Int)) kk S)) E kk) k).toNat : Nat) : Int) ∧ _ = qu (fGE (loE E (3 - (j : Int)) kk S)) kk (oMg (fM (loE E (3 - (j : Int)) kk S)) E kk) k
    by_cases e : k = kk
    · rw [e, qu_s, qu_s, qu_s, qu_n _ _ (show 2 * kk + 1 ≠ 2 * kk by omega), qu_s]
      exact ⟨hv.1, rfl⟩
    · rw [qu_n _ _ (show 2 * k ≠ 2 * kk by omega), qu_n _ _ (show 2 * k ≠ 2 * kk + 1 by omega), qu_n _ _ (show 2 * k + 1 ≠ 2 * kk by omega), qu_n _ _ (show 2 * k + 1 ≠ 2 * kk + 1 by omega), qu_n _ _ e, qu_n _ _ e]
      refine h4 k hk ?_
      unfold pes at hp ⊢
      omega
theorem aR_Cs {nc ne : Nat} {pe : Nat → Prop} {C : Nat → Nat → Int} {but : Int} {j kk : Nat} {S : FS} {fi fe : Nat → Int} {u : L4} {t : Int} (h : aR nc ne (pcs C but j kk) pe (loC C but (3 - (j : Int)) kk S) fi fe u t) (hs : (kk : Int) = but ∨ C 4 kk ≠ 3 - (j : Int)) : aR nc ne (pcs C but j (kk + 1)) pe (loC C but (3 - (j : Int)) (kk + 1) S) fi fe u t := by
  simp only [loC]
  rw [if_neg (by omega)]
  refine ⟨h.1, h.2.1, fun k hk hp => h.2.2.1 k hk ?_, h.2.2.2⟩
  unfold pcs at hp ⊢
  by_cases e : k = kk
  · rw [e] at hp ⊢
    omega
  · omega
theorem aR_Ct {nc ne : Nat} {pe : Nat → Prop} {C : Nat → Nat → Int} {but : Int} {j kk : Nat} {S : FS} {fi fe : Nat → Int} {u v : L4} {t : Int} (h : aR nc ne (pcs C but j kk) pe (loC C but (3 - (j : Int)) kk S) fi fe u t) (hb : (kk : Int) ≠ but) (hs : C 4 kk = 3 - (j : Int)) (hv : v.1 1 = ((oOk (fM (loC C but (3 - (j : Int)) kk S)) C kk).toNat : Int) ∧ lB v (2 * t.toNat + 2) (oM (fM (loC C but (3 - (j : Int)) kk S)) C kk)) : aR nc ne (pcs C but j (kk + 1)) pe (loC C but (3 - (j : Int)) (kk + 1) S) (qu (qu (qu fi (3 * kk + 1) (oMg (fM (loC C but (3 - (j : Int)) kk S)) C kk)) (3 * kk) (v.1 1)) (3 * kk + 2) t) fe v (t + 1) := by
  simp only [loC]
  rw [if_pos ⟨hs, hb⟩]
  obtain ⟨⟨h1, h0⟩, h2, h3, h4⟩ := h
  refine ⟨⟨?_, by omega⟩, hv.2.mono (by omega), fun k hk hp => ?_, h4⟩
  · show t + 1 = fT (loC C but (3 - (j : Int)) kk S) + 1
    rw [h1]
  · show _ = (((qu (fOC (loC C but (3 - (j : Int)) kk S)) kk (oOk (fM (loC C but (3 - (j : Int)) kk S)) C kk) k).toNat : Nat) : Int) ∧ _ = qu (fGC (loC C but (3 - (j : Int)) kk S)) kk (oMg (fM (loC C but (3 - (j : Int)) kk S)) C kk) k ∧ _ = qu (fTC (loC C but (3 - (j : Int)) kk S)) kk (fT (loC C but (3 - (j : Int)) kk S)) k
    by_cases e : k = kk
    · rw [e, qu_s, qu_s, qu_s, qu_s, qu_n _ _ (show 3 * kk ≠ 3 * kk + 2 by omega), qu_s, qu_n _ _ (show 3 * kk + 1 ≠ 3 * kk + 2 by omega), qu_n _ _ (show 3 * kk + 1 ≠ 3 * kk by omega), qu_s]
      exact ⟨hv.1, rfl, h1⟩
    · rw [qu_n _ _ (show 3 * k ≠ 3 * kk + 2 by omega), qu_n _ _ (show 3 * k ≠ 3 * kk by omega), qu_n _ _ (show 3 * k ≠ 3 * kk + 1 by omega), qu_n _ _ (show 3 * k + 1 ≠ 3 * kk + 2 by omega), qu_n _ _ (show 3 * k + 1 ≠ 3 * kk by omega), qu_n _ _ (show 3 * k + 1 ≠ 3 * kk + 1 by omega), qu_n _ _ (show 3 * k + 2 ≠ 3 * kk + 2 by omega), qu_n _ _ (show 3 * k + 2 ≠ 3 * kk by omega), qu_n _ _ (show 3 * k + 2 ≠ 3 * kk + 1 by omega), qu_n _ _ e, qu_n _ _ e, qu_n _ _ e]
      refine h3 k hk ?_
      unfold pcs at hp ⊢
      omega
theorem aR_next {nc ne : Nat} {C E : Nat → Nat → Int} {but : Int} {j : Nat} {S : FS} {fi fe : Nat → Int} {u : L4} {t : Int} (h : aR nc ne (pcs C but j nc) (pes E j ne) S fi fe u t) : aR nc ne (pcs C but (j + 1) 0) (pes E (j + 1) 0) S fi fe u t := by
  refine ⟨h.1, h.2.1, fun k hk hp => h.2.2.1 k hk ?_, fun k hk hp => h.2.2.2 k hk ?_⟩
  · unfold pcs at hp ⊢
    omega
  · unfold pes at hp ⊢
    omega
/-- all are filled but one, and told -/
def aP (C : Nat → Nat → Int) (nc : Nat) (E : Nat → Nat → Int) (ne : Nat) (but : Int) (fi fe : Nat → Int) (u : L4) : Prop := (∀ k, k < nc → (k : Int) ≠ but → fi (3 * k) = ((fOC (fil C nc E ne but) k).toNat : Int) ∧ fi (3 * k + 1) = fGC (fil C nc E ne but) k ∧ fi (3 * k + 2) = fTC (fil C nc E ne but) k) ∧ (∀ k, k < ne → fe (2 * k) = ((fOE (fil C nc E ne but) k).toNat : Int) ∧ fe (2 * k + 1) = fGE (fil C nc E ne but) k) ∧ lB u 26 (fM (fil C nc E ne but))
theorem aR_end {nc ne : Nat} {C E : Nat → Nat → Int} {but : Int} {fi fe : Nat → Int} {u : L4} {t : Int} (hC : qWR C nc) (hE : qWR E ne) (hc : nc ≤ 9) (he : ne ≤ 4) (h : aR nc ne (pcs C but 4 0) (pes E 4 0) (loS E ne C nc but 4 S00) fi fe u t) : aP C nc E ne but fi fe u := by
  obtain ⟨⟨h1, h0⟩, h2, h3, h4⟩ := h
  refine ⟨fun k hk hb => h3 k hk ⟨hb, Or.inl ?_⟩, fun k hk => h4 k hk (Or.inl ?_), h2.mono ?_⟩
  · have := hC k hk
    omega
  · have := hE k hk
    omega
  · have ht := loS_T (E := E) (C := C) (ne := ne) (nc := nc) (but := but) 4
    have := cnt_lm (p := sgt E 4) ne
    have := cnt_lm (p := sgt C 4) nc
    omega
/-- the law's rows of conditions, of edits -/
def rC (C : Nat → Nat → Int) (nc : Nat) (co : Nat → Int) : Prop := ∀ k, k < nc → co (5 * k) = C 0 k ∧ co (5 * k + 1) = (oN (C 1 k) : Int) ∧ co (5 * k + 2) = C 2 k ∧ co (5 * k + 3) = C 3 k ∧ co (5 * k + 4) = C 4 k
def rE (E : Nat → Nat → Int) (ne : Nat) (ed : Nat → Int) : Prop := ∀ k, k < ne → (ed (3 * k) = E 0 k ∧ ed (3 * k + 1) = E 3 k ∧ ed (3 * k + 2) = E 4 k) ∧ E 1 k = -1 ∧ E 2 k = 1
/-! settling -/
def stg (st : Nat → Int) (j : Nat) : Nat → Bool := fun i => decide (9 - (j : Int) < st i)
def ste (st : Nat → Int) (j : Nat) : Nat → Bool := fun i => decide (st i = 9 - (j : Int))
theorem stg_up {st : Nat → Int} {j : Nat} (n : Nat) : cnt (stg st j) n + cnt (ste st j) n ≤ cnt (stg st (j + 1)) n := cnt_two (fun i => by
  unfold stg ste
  simp only [decide_eq_true_eq, decide_eq_false_iff_not]
  refine ⟨fun h => ?_, fun h => ?_, fun h => ?_⟩ <;> omega) n
def sR (st : Nat → Int) (Z : SE) (w : Nat → Int) (u : L4) (b : Nat) : Prop := (∀ i, i < 10 → w i = Z.1 i) ∧ (∀ i, i < 10 → w (10 + i) = st i) ∧ lB u b Z.2
theorem sR.mono {st : Nat → Int} {Z : SE} {w : Nat → Int} {u : L4} {a b : Nat} (h : sR st Z w u a) (hab : a ≤ b) : sR st Z w u b := ⟨h.1, h.2.1, h.2.2.mono hab⟩
theorem stg_lim {st : Nat → Int} {j k : Nat} (hk : k < 10) (hs : st k = 9 - (j : Int)) : cnt (stg st j) 10 + cnt (ste st j) k + 1 ≤ 10 := by
  have h1 := stg_up (st := st) (j := j) 10
  have h2 := cnt_lm (p := stg st (j + 1)) 10
  have h3 := cnt_mn (p := ste st j) (k := k + 1) 10 (by omega)
  simp only [cnt] at h3
  rw [if_pos (show ste st j k = true from decide_eq_true hs)] at h3
  simp only [cnt] at h1 h2 ⊢
  omega
theorem sR_s {st : Nat → Int} {Z : SE} {w : Nat → Int} {u : L4} {j k : Nat} (h : sR st (seL st (9 - (j : Int)) k Z) w u (26 + 2 * (cnt (stg st j) 10 + cnt (ste st j) k))) (hs : st k ≠ 9 - (j : Int)) : sR st (seL st (9 - (j : Int)) (k + 1) Z) w u (26 + 2 * (cnt (stg st j) 10 + cnt (ste st j) (k + 1))) := by
  simp only [seL]
  rw [if_neg hs]
  refine h.mono ?_
  have := cnt_mn (p := ste st j) (k := k) (k + 1) (by omega)
  omega
theorem clv_eq {x l h : Int} (hl : l ≤ h) : (if h < x then h else if x < l then l else x) = clv x l h := by
  unfold clv
  (repeat' split) <;> omega
theorem sR_t {st : Nat → Int} {Z : SE} {w ca cb cn mf : Nat → Int} {j k n : Nat} {z x y : Int} (hZ : seOk (seL st (9 - (j : Int)) k Z)) (hk : k < 10) (hs : st k = 9 - (j : Int)) (hw : (∀ i, i < 10 → w i = (seL st (9 - (j : Int)) k Z).1 i) ∧ ∀ i, i < 10 → w (10 + i) = st i) (hn : mf 0 = ((n + 1 + 1 : Nat) : Int) ∧ n ≤ 26 + 2 * (cnt (stg st j) 10 + cnt (ste st j) k)) (R : cR ca cb cn n (seL st (9 - (j : Int)) k Z).2) (hz : z = clv (w k) (-((seL st (9 - (j : Int)) k Z).2 10 k)) ((seL st (9 - (j : Int)) k Z).2 k 10)) (hx : x = (k : Int)) (hy : y = ((10 : Nat) : Int)) : sR st (seL st (9 - (j : Int)) (k + 1) Z) (qu w k z) (mf, qu (qu ca n x) (n + 1) y, qu (qu cb n y) (n + 1) x, qu (qu cn n z) (n + 1) (-z)) (26 + 2 * (cnt (stg st j) 10 + cnt (ste st j) (k + 1))) := by
  simp only [seL]
  rw [if_pos hs]
  generalize seL st (9 - (j : Int)) k Z = Y at hZ hw R hz ⊢
  obtain ⟨h1, h2⟩ := hZ
  rw [hw.1 k hk] at hz
  obtain ⟨n1, n2, n3, n4⟩ := cl_need h1 hk (h2 k hk)
  rw [← hz] at n1 n2 n3 n4
  have e1 : (seP k Y).1 = qu Y.1 k z := by unfold seP; rw [hz]
  have e2 : (seP k Y).2 = tg (tg Y.2 k 10 z) 10 k (-z) := by unfold seP; rw [hz]
  refine ⟨fun i hi => ?_, fun i hi => ?_, n + 1 + 1, hn.1, ?_, ?_⟩
  · rw [e1]
    by_cases e : i = k
    · rw [e, qu_s, qu_s]
    · rw [qu_n _ _ e, qu_n _ _ e]
      exact hw.1 i hi
  · rw [qu_n _ _ (by omega)]
    exact hw.2 i hi
  · have h5 : cnt (ste st j) (k + 1) = cnt (ste st j) k + 1 := by
      simp only [cnt]
      rw [if_pos (show ste st j k = true from decide_eq_true hs)]
    omega
  · rw [e2]
    refine cR_bind (cR_bind R (by omega) (by decide) (by omega) n1 hx hy) (by decide) (by omega) (by omega) ?_ hy hx
    rw [tg_ab h1 (by omega) (by decide) n2]
    omega
theorem sR_next {st : Nat → Int} {Z : SE} {w : Nat → Int} {u : L4} {j : Nat} (h : sR st Z w u (26 + 2 * (cnt (stg st j) 10 + cnt (ste st j) 10))) : sR st Z w u (26 + 2 * cnt (stg st (j + 1)) 10) := by
  refine h.mono ?_
  have := stg_up (st := st) (j := j) 10
  omega
