/-! ===== a filling, told alone by the conditions and the edits ===== -/
def fz : Nat → Int := fun _ => 0
def fF : Nat → Bool := fun _ => false
def fil (C : Nat → Nat → Int) (nc : Nat) (E : Nat → Nat → Int) (ne : Nat) (but : Int) : FS := loS E ne C nc but 4 (tg0, 0, fF, fz, fz, fF, fz)
def eqC (S T : FS) (i : Nat) : Prop := fOC S i = fOC T i ∧ fGC S i = fGC T i ∧ fTC S i = fTC T i
def eqE (S T : FS) (i : Nat) : Prop := fOE S i = fOE T i ∧ fGE S i = fGE T i
def eqM (S T : FS) : Prop := fM S = fM T ∧ fT S = fT T
theorem stE_ind {S T : FS} (h : eqM S T) (E : Nat → Nat → Int) (k : Nat) : eqM (stE E k S) (stE E k T) ∧ (∀ i, eqC S T i → eqC (stE E k S) (stE E k T) i) ∧ ∀ i, (i = k ∨ eqE S T i) → eqE (stE E k S) (stE E k T) i := by
  obtain ⟨h1, h2⟩ := h
  refine ⟨⟨by show oM (fM S) E k = oM (fM T) E k; rw [h1], by show fT S + 1 = fT T + 1; rw [h2]⟩, fun i hi => hi, fun i hi => ?_⟩
  show qu (fOE S) k (oOk (fM S) E k) i = qu (fOE T) k (oOk (fM T) E k) i ∧ qu (fGE S) k (oMg (fM S) E k) i = qu (fGE T) k (oMg (fM T) E k) i
  rw [h1]
  by_cases e : i = k
  · subst e
    simp only [qu_s, and_self]
  · rw [qu_n _ _ e, qu_n _ _ e, qu_n _ _ e, qu_n _ _ e]
    rcases hi with hi | hi
    · exact absurd hi e
    · exact hi
theorem stC_ind {S T : FS} (h : eqM S T) (C : Nat → Nat → Int) (k : Nat) : eqM (stC C k S) (stC C k T) ∧ (∀ i, (i = k ∨ eqC S T i) → eqC (stC C k S) (stC C k T) i) ∧ ∀ i, eqE S T i → eqE (stC C k S) (stC C k T) i := by
  obtain ⟨h1, h2⟩ := h
  refine ⟨⟨by show oM (fM S) C k = oM (fM T) C k; rw [h1], by show fT S + 1 = fT T + 1; rw [h2]⟩, fun i hi => ?_, fun i hi => hi⟩
  show qu (fOC S) k (oOk (fM S) C k) i = qu (fOC T) k (oOk (fM T) C k) i ∧ qu (fGC S) k (oMg (fM S) C k) i = qu (fGC T) k (oMg (fM T) C k) i ∧ qu (fTC S) k (fT S) i = qu (fTC T) k (fT T) i
  rw [h1, h2]
  by_cases e : i = k
  · subst e
    simp only [qu_s, and_self]
  · rw [qu_n _ _ e, qu_n _ _ e, qu_n _ _ e, qu_n _ _ e, qu_n _ _ e, qu_n _ _ e]
    rcases hi with hi | hi
    · exact absurd hi e
    · exact hi
theorem loE_ind {S T : FS} (h : eqM S T) (E : Nat → Nat → Int) (str : Int) : ∀ k : Nat, eqM (loE E str k S) (loE E str k T) ∧ (∀ i, eqC S T i → eqC (loE E str k S) (loE E str k T) i) ∧ ∀ i, ((i < k ∧ E 4 i = str) ∨ eqE S T i) → eqE (loE E str k S) (loE E str k T) i
  | 0 => ⟨h, fun _ hi => hi, fun i hi => by rcases hi with hi | hi; exact absurd hi.1 (Nat.not_lt_zero i); exact hi⟩
  | k + 1 => by
    obtain ⟨a1, a2, a3⟩ := loE_ind h E str k
    simp only [loE]
    by_cases hs : E 4 k = str
    · rw [if_pos hs, if_pos hs]
      obtain ⟨b1, b2, b3⟩ := stE_ind a1 E k
      refine ⟨b1, fun i hi => b2 i (a2 i hi), fun i hi => b3 i ?_⟩
      by_cases e : i = k
      · exact Or.inl e
      · exact Or.inr (a3 i (by rcases hi with hi | hi; exact Or.inl ⟨by omega, hi.2⟩; exact Or.inr hi))
    · rw [if_neg hs, if_neg hs]
      refine ⟨a1, a2, fun i hi => a3 i ?_⟩
      rcases hi with hi | hi
      · by_cases e : i = k
        · subst e
          exact absurd hi.2 hs
        · exact Or.inl ⟨by omega, hi.2⟩
      · exact Or.inr hi
theorem loC_ind {S T : FS} (h : eqM S T) (C : Nat → Nat → Int) (but str : Int) : ∀ k : Nat, eqM (loC C but str k S) (loC C but str k T) ∧ (∀ i, ((i < k ∧ C 4 i = str ∧ (i : Int) ≠ but) ∨ eqC S T i) → eqC (loC C but str k S) (loC C but str k T) i) ∧ ∀ i, eqE S T i → eqE (loC C but str k S) (loC C but str k T) i
  | 0 => ⟨h, fun i hi => by rcases hi with hi | hi; exact absurd hi.1 (Nat.not_lt_zero i); exact hi, fun _ hi => hi⟩
  | k + 1 => by
    obtain ⟨a1, a2, a3⟩ := loC_ind h C but str k
    simp only [loC]
    by_cases hs : C 4 k = str ∧ (k : Int) ≠ but
    · rw [if_pos hs, if_pos hs]
      obtain ⟨b1, b2, b3⟩ := stC_ind a1 C k
      refine ⟨b1, fun i hi => b2 i ?_, fun i hi => b3 i (a3 i hi)⟩
      by_cases e : i = k
      · exact Or.inl e
      · exact Or.inr (a2 i (by rcases hi with hi | hi; exact Or.inl ⟨by omega, hi.2⟩; exact Or.inr hi))
    · rw [if_neg hs, if_neg hs]
      refine ⟨a1, fun i hi => a2 i ?_, a3⟩
      rcases hi with hi | hi
      · by_cases e : i = k
        · subst e
          exact absurd hi.2 hs
        · exact Or.inl ⟨by omega, hi.2⟩
      · exact Or.inr hi
theorem loS_ind {S T : FS} (h : eqM S T) (E : Nat → Nat → Int) (ne : Nat) (C : Nat → Nat → Int) (nc : Nat) (but : Int) : ∀ j : Nat, eqM (loS E ne C nc but j S) (loS E ne C nc but j T) ∧ (∀ i, ((i < nc ∧ (i : Int) ≠ but ∧ 3 - (j : Int) < C 4 i ∧ C 4 i ≤ 3) ∨ eqC S T i) → eqC (loS E ne C nc but j S) (loS E ne C nc but j T) i) ∧ ∀ i, ((i < ne ∧ 3 - (j : Int) < E 4 i ∧ E 4 i ≤ 3) ∨ eqE S T i) → eqE (loS E ne C nc but j S) (loS E ne C nc but j T) i
  | 0 => ⟨h, fun i hi => by rcases hi with hi | hi; exact absurd hi.2.2 (by omega); exact hi, fun i hi => by rcases hi with hi | hi; exact absurd hi.2 (by omega); exact hi⟩
  | j + 1 => by
    obtain ⟨a1, a2, a3⟩ := loS_ind h E ne C nc but j
    obtain ⟨b1, b2, b3⟩ := loE_ind a1 E (3 - j) ne
    obtain ⟨c1, c2, c3⟩ := loC_ind b1 C but (3 - j) nc
    simp only [loS]
    refine ⟨c1, fun i hi => c2 i ?_, fun i hi => c3 i (b3 i ?_)⟩
    · by_cases e : i < nc ∧ C 4 i = 3 - (j : Int) ∧ (i : Int) ≠ but
      · exact Or.inl e
      · refine Or.inr (b2 i (a2 i ?_))
        rcases hi with hi | hi
        · exact Or.inl ⟨hi.1, hi.2.1, by omega, hi.2.2.2⟩
        · exact Or.inr hi
    · by_cases e : i < ne ∧ E 4 i = 3 - (j : Int)
      · exact Or.inl e
      · refine Or.inr (a3 i ?_)
        rcases hi with hi | hi
        · exact Or.inl ⟨hi.1, by omega, hi.2.2⟩
        · exact Or.inr hi
/-! the same rows, the same filling -/
theorem oOk_cong {M C C2 : Nat → Nat → Int} {k : Nat} (h : ∀ f, f < 5 → C f k = C2 f k) : oOk M C k = oOk M C2 k := by
  unfold oOk
  rw [h 0 (by decide), h 1 (by decide), h 2 (by decide), h 3 (by decide)]
theorem oMg_cong {M C C2 : Nat → Nat → Int} {k : Nat} (h : ∀ f, f < 5 → C f k = C2 f k) : oMg M C k = oMg M C2 k := by
  unfold oMg
  rw [oOk_cong h, h 0 (by decide), h 1 (by decide), h 2 (by decide), h 3 (by decide)]
theorem oM1_cong {M C C2 : Nat → Nat → Int} {k : Nat} (h : ∀ f, f < 5 → C f k = C2 f k) : oM1 M C k = oM1 M C2 k := by
  unfold oM1
  rw [h 0 (by decide), h 1 (by decide), h 2 (by decide), h 3 (by decide)]
theorem oM_cong {M C C2 : Nat → Nat → Int} {k : Nat} (h : ∀ f, f < 5 → C f k = C2 f k) : oM M C k = oM M C2 k := by
  unfold oM
  rw [oOk_cong h, oM1_cong h, h 0 (by decide), h 1 (by decide), h 2 (by decide), h 3 (by decide)]
theorem stE_cong {E E2 : Nat → Nat → Int} {k : Nat} (h : ∀ f, f < 5 → E f k = E2 f k) (S : FS) : stE E k S = stE E2 k S := by
  unfold stE
  rw [oM_cong h, oOk_cong h, oMg_cong h]
theorem stC_cong {E E2 : Nat → Nat → Int} {k : Nat} (h : ∀ f, f < 5 → E f k = E2 f k) (S : FS) : stC E k S = stC E2 k S := by
  unfold stC
  rw [oM_cong h, oOk_cong h, oMg_cong h]
theorem loE_cong {E E2 : Nat → Nat → Int} {n : Nat} (h : ∀ f i, f < 5 → i < n → E f i = E2 f i) (str : Int) (S : FS) : ∀ k : Nat, k ≤ n → loE E str k S = loE E2 str k S
  | 0, _ => rfl
  | k + 1, hk => by
    simp only [loE]
    rw [loE_cong h str S k (by omega), h 4 k (by decide) (by omega), stE_cong (fun f hf => h f k hf (by omega))]
theorem loC_cong {C C2 : Nat → Nat → Int} {n : Nat} (h : ∀ f i, f < 5 → i < n → C f i = C2 f i) (but str : Int) (S : FS) : ∀ k : Nat, k ≤ n → loC C but str k S = loC C2 but str k S
  | 0, _ => rfl
  | k + 1, hk => by
    simp only [loC]
    rw [loC_cong h but str S k (by omega), h 4 k (by decide) (by omega), stC_cong (fun f hf => h f k hf (by omega))]
theorem loS_cong {E E2 C C2 : Nat → Nat → Int} {ne nc : Nat} (hE : ∀ f i, f < 5 → i < ne → E f i = E2 f i) (hC : ∀ f i, f < 5 → i < nc → C f i = C2 f i) (but : Int) (S : FS) : ∀ j : Nat, loS E ne C nc but j S = loS E2 ne C2 nc but j S
  | 0 => rfl
  | j + 1 => by
    simp only [loS]
    rw [loS_cong hE hC but S j, loE_cong hE _ _ ne (Nat.le_refl _), loC_cong hC _ _ _ nc (Nat.le_refl _)]
theorem fil_cong {E E2 C C2 : Nat → Nat → Int} {ne nc : Nat} (hE : ∀ f i, f < 5 → i < ne → E f i = E2 f i) (hC : ∀ f i, f < 5 → i < nc → C f i = C2 f i) (but : Int) : fil C nc E ne but = fil C2 nc E2 ne but := loS_cong hE hC but _ 4
theorem fil_ok {C : Nat → Nat → Int} {nc : Nat} {E : Nat → Nat → Int} {ne : Nat} {but : Int} (hE : qWR E ne) (hC : qWR C nc) (he : ne ≤ 16) (hc : nc ≤ 16) : qCl (fM (fil C nc E ne but)) ∧ 0 ≤ fT (fil C nc E ne but) ∧ fT (fil C nc E ne but) ≤ 128 := by
  have h := loS_ok (but := but) (E := E) (C := C) (ne := ne) (nc := nc) (S := (tg0, 0, fF, fz, fz, fF, fz)) (b := 0) ⟨tg0_cl, Int.le_refl 0, Int.le_refl 0⟩ hE hC he hc 4
  exact ⟨h.1, h.2.1, h.2.2⟩
theorem fil_outC {C : Nat → Nat → Int} {nc : Nat} {E : Nat → Nat → Int} {ne : Nat} {but : Int} {i : Nat} (h : nc ≤ i ∨ (i : Int) = but) : fOC (fil C nc E ne but) i = false := ((loS_out 4).2 i (by rcases h with h | h; exact Or.inl h; exact Or.inr (Or.inr h))).1
theorem fil_outE {C : Nat → Nat → Int} {nc : Nat} {E : Nat → Nat → Int} {ne : Nat} {but : Int} {i : Nat} (h : ne ≤ i) : fOE (fil C nc E ne but) i = false := ((loS_out 4).1 i (Or.inl h)).1
/-- what the class holds of a filling -/
def fCan (C : Nat → Nat → Int) (nc : Nat) (E : Nat → Nat → Int) (ne : Nat) (but : Int) (M : Nat → Nat → Int) (FC : Nat) (mgC tnC : Nat → Int) (FE : Nat) (mgE : Nat → Int) : Prop :=
  qEq M (fM (fil C nc E ne but)) ∧ (FC < 65536 ∧ ∀ i, FC.testBit i = fOC (fil C nc E ne but) i) ∧ (∀ i, i < nc → (i : Int) ≠ but → mgC i = fGC (fil C nc E ne but) i ∧ tnC i = fTC (fil C nc E ne but) i) ∧ (FE < 65536 ∧ ∀ i, FE.testBit i = fOE (fil C nc E ne but) i) ∧ ∀ i, i < ne → mgE i = fGE (fil C nc E ne but) i
theorem bit_far {F i : Nat} (h : F < 65536) (hi : 16 ≤ i) : F.testBit i = false := Nat.testBit_lt_two_pow (Nat.lt_of_lt_of_le h (show 2 ^ 16 ≤ 2 ^ i from Nat.pow_le_pow_right (n := 2) (by decide) hi))
theorem fRel.can {C : Nat → Nat → Int} {nc : Nat} {E : Nat → Nat → Int} {ne : Nat} {but : Int} {M : Nat → Nat → Int} {t : Int} {FC : Nat} {mgC tnC : Nat → Int} {FE : Nat} {mgE mg0 tn0 me0 : Nat → Int} (hE : qWR E ne) (hC : qWR C nc) (he : ne ≤ 16) (hc : nc ≤ 16) (h : fRel (loS E ne C nc but 4 (tg0, 0, (fun _ => false), mg0, tn0, (fun _ => false), me0)) M t FC mgC tnC FE mgE) : fCan C nc E ne but M FC mgC tnC FE mgE := by
  obtain ⟨h1, h2, h3, h4, h5, h6, h7⟩ := h
  obtain ⟨g1, g2, g3⟩ := loS_ind (S := (tg0, 0, (fun _ => false), mg0, tn0, (fun _ => false), me0)) (T := (tg0, 0, fF, fz, fz, fF, fz)) ⟨rfl, rfl⟩ E ne C nc but 4
  have o1 : ∀ i, fOC (loS E ne C nc but 4 (tg0, 0, (fun _ => false), mg0, tn0, (fun _ => false), me0)) i = fOC (fil C nc E ne but) i := by
    intro i
    by_cases e : i < nc ∧ (i : Int) ≠ but
    · exact (g2 i (Or.inl ⟨e.1, e.2, by have := hC i e.1; omega, by have := hC i e.1; omega⟩)).1
    · rw [fil_outC (by omega)]
      exact ((loS_out 4).2 i (by omega)).1
  have o2 : ∀ i, fOE (loS E ne C nc but 4 (tg0, 0, (fun _ => false), mg0, tn0, (fun _ => false), me0)) i = fOE (fil C nc E ne but) i := by
    intro i
    by_cases e : i < ne
    · exact (g3 i (Or.inl ⟨e, by have := hE i e; omega, by have := hE i e; omega⟩)).1
    · rw [fil_outE (by omega)]
      exact ((loS_out 4).1 i (Or.inl (by omega))).1
  refine ⟨by rw [show fM (fil C nc E ne but) = _ from g1.1.symm]; exact h1, ⟨h3.1, fun i => ?_⟩, fun i hi hb => ?_, ⟨h6.1, fun i => ?_⟩, fun i hi => ?_⟩
  · rcases Nat.lt_or_ge i 16 with q | q
    · rw [h3.2 i q]; exact o1 i
    · rw [bit_far h3.1 q, fil_outC (Or.inl (by omega))]
  · have := g2 i (Or.inl ⟨hi, hb, by have := hC i hi; omega, by have := hC i hi; omega⟩)
    exact ⟨by rw [h4]; exact this.2.1, by rw [h5]; exact this.2.2⟩
  · rcases Nat.lt_or_ge i 16 with q | q
    · rw [h6.2 i q]; exact o2 i
    · rw [bit_far h6.1 q, fil_outE (by omega)]
  · rw [h7]
    exact (g3 i (Or.inl ⟨hi, by have := hE i hi; omega, by have := hE i hi; omega⟩)).2
/-! ===== the answers, told alone by values, stays, conditions and edits ===== -/
def setv (v st : Nat → Int) (C : Nat → Nat → Int) (nc : Nat) (E : Nat → Nat → Int) (ne : Nat) : Nat → Int := (seS st 10 (v, fM (fil C nc E ne (-1)))).1
def plA (v st : Nat → Int) (C : Nat → Nat → Int) (nc : Nat) (E : Nat → Nat → Int) (ne : Nat) (p : Nat) (w : Int) : Int := if w = 0 then v p else if w = 1 then st p else if w = 2 then -(fM (fil C nc E ne (-1)) 10 p) else if w = 3 then fM (fil C nc E ne (-1)) p 10 else if w = 4 then ((cnt (fun i => decide (C 0 i = (p : Int) ∨ C 1 i = (p : Int))) nc : Nat) : Int) else edOf E (p : Int) ne
def culB (C : Nat → Nat → Int) (nc : Nat) (E : Nat → Nat → Int) (ne k i : Nat) : Bool := fOC (fil C nc E ne (-1)) i && decide (fTC (fil C nc E ne (-1)) i < fTC (fil C nc E ne (-1)) k) && fOC (fil C nc E ne (i : Int)) k
def culN (C : Nat → Nat → Int) (nc : Nat) (E : Nat → Nat → Int) (ne k : Nat) : Nat → Nat
  | 0 => 0
  | i + 1 => if culB C nc E ne k i = true then culN C nc E ne k i ||| 2 ^ i else culN C nc E ne k i
def culA (C : Nat → Nat → Int) (nc : Nat) (E : Nat → Nat → Int) (ne k : Nat) : Nat := if fOC (fil C nc E ne (-1)) k = true then 0 else culN C nc E ne k nc
theorem culN_lt {C : Nat → Nat → Int} {nc : Nat} {E : Nat → Nat → Int} {ne k : Nat} : ∀ n, n ≤ 16 → culN C nc E ne k n < 65536
  | 0, _ => (by decide : (0 : Nat) < 65536)
  | n + 1, h => by
    have ih := culN_lt (C := C) (nc := nc) (E := E) (ne := ne) (k := k) n (by omega)
    simp only [culN]
    split
    · exact Nat.or_lt_two_pow (n := 16) ih (Nat.pow_lt_pow_right (a := 2) (by decide) (by omega))
    · exact ih
def hoB (v : Nat → Int) (C : Nat → Nat → Int) (k : Nat) : Bool := chB (C 2 k) (C 3 k) (hoD v C k) (hoD v C k)
def coA (v : Nat → Int) (C : Nat → Nat → Int) (nc : Nat) (E : Nat → Nat → Int) (ne k : Nat) (w : Int) : Int := if w = 0 then C 0 k else if w = 1 then C 1 k else if w = 2 then C 2 k else if w = 3 then C 3 k else if w = 4 then C 4 k else if w = 5 then ((fOC (fil C nc E ne (-1)) k).toNat : Int) else if w = 6 then fGC (fil C nc E ne (-1)) k else if w = 7 then fTC (fil C nc E ne (-1)) k else if w = 8 then (culA C nc E ne k : Int) else ((hoB v C k).toNat : Int)
def edA (C : Nat → Nat → Int) (nc : Nat) (E : Nat → Nat → Int) (ne k : Nat) (w : Int) : Int := if w = 0 then E 0 k else if w = 1 then E 3 k else if w = 2 then E 4 k else if w = 3 then ((fOE (fil C nc E ne (-1)) k).toNat : Int) else fGE (fil C nc E ne (-1)) k
def sumV (v : Nat → Int) : Nat → Int
  | 0 => 0
  | n + 1 => sumV v n + v n
def fixB (C : Nat → Nat → Int) (nc : Nat) (E : Nat → Nat → Int) (ne p : Nat) : Bool := decide (fM (fil C nc E ne (-1)) p 10 - (-(fM (fil C nc E ne (-1)) 10 p)) = 0)
def ctA (v : Nat → Int) (C : Nat → Nat → Int) (nc : Nat) (E : Nat → Nat → Int) (ne hz : Nat) (w : Int) : Int := if w = 0 then (nc : Int) else if w = 1 then (cnt (fOC (fil C nc E ne (-1))) 16 : Int) else if w = 2 then (ne : Int) else if w = 3 then (cnt (fOE (fil C nc E ne (-1))) 16 : Int) else if w = 4 then (hz : Int) else if w = 5 then (cnt (fixB C nc E ne) 10 : Int) else if w = 6 then (cnt (hoB v C) nc : Int) else sumV v 10
def rmA (C : Nat → Nat → Int) (nc : Nat) (E : Nat → Nat → Int) (ne k : Nat) : Int := (cnt (fOC (fil C nc E ne (k : Int))) 16 : Int)
/-- conditions with another strength at k -/
def stW (C : Nat → Nat → Int) (k : Nat) (s : Int) : Nat → Nat → Int := qu C 4 (qu (C 4) k s)
def okS (C : Nat → Nat → Int) (nc : Nat) (E : Nat → Nat → Int) (ne k : Nat) (s : Int) : Bool := fOC (fil (stW C k s) nc E ne (-1)) k
def nsA (C : Nat → Nat → Int) (nc : Nat) (E : Nat → Nat → Int) (ne k : Nat) : Int := if okS C nc E ne k 0 = true then 0 else if okS C nc E ne k 1 = true then 1 else if okS C nc E ne k 2 = true then 2 else if okS C nc E ne k 3 = true then 3 else -1
def widS (C : Nat → Nat → Int) (nc : Nat) (E : Nat → Nat → Int) (ne : Nat) : Nat → Int
  | 0 => 0
  | n + 1 => widS C nc E ne n + (fM (fil C nc E ne (-1)) n 10 - (-(fM (fil C nc E ne (-1)) 10 n)))
/-- which conditions are filled without one of them, as bits -/
def kWo (C : Nat → Nat → Int) (nc : Nat) (E : Nat → Nat → Int) (ne : Nat) (w : Nat → Int) (n : Nat) : Prop := ∀ k, k < n → ∃ F : Nat, w k = (F : Int) ∧ F < 65536 ∧ ∀ i, F.testBit i = fOC (fil C nc E ne (k : Int)) i
theorem kWo.step {C : Nat → Nat → Int} {nc : Nat} {E : Nat → Nat → Int} {ne : Nat} {w : Nat → Int} {n F : Nat} (h : kWo C nc E ne w n) (hF : F < 65536 ∧ ∀ i, F.testBit i = fOC (fil C nc E ne (n : Int)) i) : kWo C nc E ne (qu w n (F : Int)) (n + 1) := by
  intro k hk
  by_cases e : k = n
  · subst e
    exact ⟨F, qu_s _ _ _, hF⟩
  · rw [qu_n _ _ e]
    exact h k (by omega)
theorem setv_eq {v st w : Nat → Int} {M : Nat → Nat → Int} {C : Nat → Nat → Int} {nc : Nat} {E : Nat → Nat → Int} {ne : Nat} (h : qEq M (fM (fil C nc E ne (-1)))) (hw : w = (seS st 10 (v, M)).1) : ∀ i, i < 10 → w i = setv v st C nc E ne i := by
  intro i hi
  rw [hw]
  exact (seS_eq2 (S := (v, M)) (T := (v, fM (fil C nc E ne (-1)))) (fun _ _ => rfl) ⟨fun _ _ => rfl, h⟩ 10).1 i hi
theorem bitN {F k : Nat} : F / 2 ^ k &&& 1 = (F.testBit k).toNat := by
  rw [Nat.and_one_is_mod, Nat.testBit_eq_decide_div_mod_eq]
  have h := Nat.mod_two_eq_zero_or_one (F / 2 ^ k)
  rcases h with h | h <;> simp [h]
