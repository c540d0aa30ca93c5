/-! ===== what an act does to the law's arrays ===== -/
theorem adE3 {T : LSt} {x w s : Int} (h : edOf (lE T) x (lM T) ≠ -1 ∨ lM T < 3) (h3 : lM T ≤ 3) : lM (adE T x w s) ≤ 3 := by
  show wfN (lE T) (lM T) x ≤ 3
  unfold wfN
  split <;> omega
theorem qu5 (co : Nat → Int) (n : Nat) (a b c d e : Int) : qu (qu (qu (qu (qu co n a) (n + 1) b) (n + 2) c) (n + 3) d) (n + 4) e n = a ∧ qu (qu (qu (qu (qu co n a) (n + 1) b) (n + 2) c) (n + 3) d) (n + 4) e (n + 1) = b ∧ qu (qu (qu (qu (qu co n a) (n + 1) b) (n + 2) c) (n + 3) d) (n + 4) e (n + 2) = c ∧ qu (qu (qu (qu (qu co n a) (n + 1) b) (n + 2) c) (n + 3) d) (n + 4) e (n + 3) = d ∧ qu (qu (qu (qu (qu co n a) (n + 1) b) (n + 2) c) (n + 3) d) (n + 4) e (n + 4) = e ∧ ∀ q, q < n → qu (qu (qu (qu (qu co n a) (n + 1) b) (n + 2) c) (n + 3) d) (n + 4) e q = co q := by
  refine ⟨?_, ?_, ?_, ?_, qu_s _ _ _, fun q hq => ?_⟩
  · rw [qu_n _ _ (by omega), qu_n _ _ (by omega), qu_n _ _ (by omega), qu_n _ _ (by omega), qu_s]
  · rw [qu_n _ _ (by omega), qu_n _ _ (by omega), qu_n _ _ (by omega), qu_s]
  · rw [qu_n _ _ (by omega), qu_n _ _ (by omega), qu_s]
  · rw [qu_n _ _ (by omega), qu_s]
  · rw [qu_n _ _ (by omega), qu_n _ _ (by omega), qu_n _ _ (by omega), qu_n _ _ (by omega), qu_n _ _ (by omega)]
theorem lw_add {T : LSt} {va co ed dd c1 d1 : Nat → Int} (h : lwR T va co ed dd) {l r s n t r0 : Int} (hr : r0 = (oN r : Int)) (h1 : c1 (5 * lN9 T) = l ∧ c1 (5 * lN9 T + 1) = r0 ∧ c1 (5 * lN9 T + 2) = s ∧ c1 (5 * lN9 T + 3) = n ∧ c1 (5 * lN9 T + 4) = t ∧ ∀ q, q < 5 * lN9 T → c1 q = co q) (h2 : d1 0 = (lN9 T : Int) + 1 ∧ d1 1 = dd 1) : lwR (adC T l r s n t) va c1 ed d1 := by
  obtain ⟨a1, a2, a3, a4, a5, a6⟩ := h
  refine ⟨a1, a2, fun k hk => ?_, a4, ?_, h2.2.trans a6⟩
  · have e : ∀ f, lC (adC T l r s n t) f k = if k = lN9 T then row5 l r s n t f else lC T f k := fun f => rfl
    simp only [e]
    have hk : k < lN9 T + 1 := hk
    by_cases g : k = lN9 T
    · simp only [if_pos g]
      rw [g]
      exact ⟨h1.1, h1.2.1.trans hr, h1.2.2.1, h1.2.2.2.1, h1.2.2.2.2.1⟩
    · simp only [if_neg g]
      have q := a3 k (by omega)
      have w := h1.2.2.2.2.2
      rw [w _ (by omega), w _ (by omega), w _ (by omega), w _ (by omega), w _ (by omega)]
      exact q
  · show d1 0 = ((lN9 T + 1 : Nat) : Int)
    omega
theorem rm_step {co c2 : Nat → Int} {a i : Nat} (h : ∀ q, c2 q = if a ≤ q ∧ q < a + i then co (q + 5) else co q) : ∀ q, qu c2 (a + i) (c2 (a + i + 5)) q = if a ≤ q ∧ q < a + (i + 1) then co (q + 5) else co q := by
  intro q
  by_cases e : q = a + i
  · rw [e, qu_s, h, if_neg (by omega), if_pos (by omega)]
  · rw [qu_n _ _ e, h]
    by_cases g : a ≤ q ∧ q < a + i
    · rw [if_pos g, if_pos (by omega)]
    · rw [if_neg g, if_neg (by omega)]
theorem lw_rm {T : LSt} {va co ed dd c2 d1 : Nat → Int} (h : lwR T va co ed dd) {k i : Nat} (hk : k < lN9 T) (hi : i = 5 * (lN9 T - 1 - k)) (h1 : ∀ q, c2 q = if 5 * k ≤ q ∧ q < 5 * k + i then co (q + 5) else co q) (h2 : d1 0 = (lN9 T : Int) - 1 ∧ d1 1 = dd 1) : lwR (rmC T k) va c2 ed d1 := by
  obtain ⟨a1, a2, a3, a4, a5, a6⟩ := h
  refine ⟨a1, a2, fun j hj => ?_, a4, ?_, h2.2.trans a6⟩
  · have e : ∀ f, lC (rmC T k) f j = if j < k then lC T f j else lC T f (j + 1) := fun f => rfl
    simp only [e]
    have hj : j < lN9 T - 1 := hj
    by_cases g : j < k
    · simp only [if_pos g]
      rw [h1, h1, h1, h1, h1, if_neg (by omega), if_neg (by omega), if_neg (by omega), if_neg (by omega), if_neg (by omega)]
      exact a3 j (by omega)
    · simp only [if_neg g]
      rw [h1, h1, h1, h1, h1, if_pos (by omega), if_pos (by omega), if_pos (by omega), if_pos (by omega), if_pos (by omega)]
      have q := a3 (j + 1) (by omega)
      rw [show 5 * (j + 1) = 5 * j + 5 by omega] at q
      exact ⟨q.1, by rw [show 5 * j + 1 + 5 = 5 * j + 5 + 1 by omega]; exact q.2.1, by rw [show 5 * j + 2 + 5 = 5 * j + 5 + 2 by omega]; exact q.2.2.1, by rw [show 5 * j + 3 + 5 = 5 * j + 5 + 3 by omega]; exact q.2.2.2.1, by rw [show 5 * j + 4 + 5 = 5 * j + 5 + 4 by omega]; exact q.2.2.2.2⟩
  · show d1 0 = ((lN9 T - 1 : Nat) : Int)
    omega
theorem lw_num {T : LSt} {va co ed dd : Nat → Int} (h : lwR T va co ed dd) {k : Nat} {z : Int} : lwR (chC T 3 k z) va (qu co (5 * k + 3) z) ed dd := by
  obtain ⟨a1, a2, a3, a4, a5, a6⟩ := h
  refine ⟨a1, a2, fun j hj => ?_, a4, a5, a6⟩
  have e3 : lC (chC T 3 k z) 3 = qu (lC T 3) k z := by
    show qu (lC T) 3 (qu (lC T 3) k z) 3 = _
    rw [qu_s]
  have e : ∀ f, f ≠ 3 → lC (chC T 3 k z) f = lC T f := fun f hf => by
    show qu (lC T) 3 (qu (lC T 3) k z) f = _
    rw [qu_n _ _ hf]
  have q := a3 j hj
  rw [e3, e 0 (by decide), e 1 (by decide), e 2 (by decide), e 4 (by decide), qu_n _ _ (show 5 * j ≠ 5 * k + 3 by omega), qu_n _ _ (show 5 * j + 1 ≠ 5 * k + 3 by omega), qu_n _ _ (show 5 * j + 2 ≠ 5 * k + 3 by omega), qu_n _ _ (show 5 * j + 4 ≠ 5 * k + 3 by omega)]
  refine ⟨q.1, q.2.1, q.2.2.1, ?_, q.2.2.2.2⟩
  by_cases g : j = k
  · rw [g, qu_s, qu_s]
  · rw [qu_n _ _ g, qu_n _ _ (by omega)]
    exact q.2.2.2.1
theorem lw_str9 {T : LSt} {va co ed dd : Nat → Int} (h : lwR T va co ed dd) {k : Nat} {z : Int} : lwR (chC T 4 k z) va (qu co (5 * k + 4) z) ed dd := by
  obtain ⟨a1, a2, a3, a4, a5, a6⟩ := h
  refine ⟨a1, a2, fun j hj => ?_, a4, a5, a6⟩
  have e3 : lC (chC T 4 k z) 4 = qu (lC T 4) k z := by
    show qu (lC T) 4 (qu (lC T 4) k z) 4 = _
    rw [qu_s]
  have e : ∀ f, f ≠ 4 → lC (chC T 4 k z) f = lC T f := fun f hf => by
    show qu (lC T) 4 (qu (lC T 4) k z) f = _
    rw [qu_n _ _ hf]
  have q := a3 j hj
  rw [e3, e 0 (by decide), e 1 (by decide), e 2 (by decide), e 3 (by decide), qu_n _ _ (show 5 * j ≠ 5 * k + 4 by omega), qu_n _ _ (show 5 * j + 1 ≠ 5 * k + 4 by omega), qu_n _ _ (show 5 * j + 2 ≠ 5 * k + 4 by omega), qu_n _ _ (show 5 * j + 3 ≠ 5 * k + 4 by omega)]
  refine ⟨q.1, q.2.1, q.2.2.1, q.2.2.2.1, ?_⟩
  by_cases g : j = k
  · rw [g, qu_s, qu_s]
  · rw [qu_n _ _ g, qu_n _ _ (by omega)]
    exact q.2.2.2.2
theorem lw_sty {T : LSt} {va co ed dd : Nat → Int} (h : lwR T va co ed dd) {k : Nat} {z : Int} : lwR (chT T k z) (qu va (10 + k) z) co ed dd := by
  obtain ⟨a1, a2, a3, a4, a5, a6⟩ := h
  refine ⟨fun i hi => ?_, fun i hi => ?_, a3, a4, a5, a6⟩
  · rw [qu_n _ _ (by omega)]
    exact a1 i hi
  · show _ = qu (lT T) k z i
    by_cases g : i = k
    · rw [g, qu_s, qu_s]
    · rw [qu_n _ _ g, qu_n _ _ (by omega)]
      exact a2 i hi
theorem lw_frv {T : LSt} {va co ed dd w : Nat → Int} (h : lwR T va co ed dd) {z : Int} (h1 : ∀ i, i < 10 → w i = z) (h2 : ∀ i, 10 ≤ i → w i = va i) : lwR (frV T z) w co ed dd := by
  obtain ⟨a1, a2, a3, a4, a5, a6⟩ := h
  exact ⟨h1, fun i hi => by rw [h2 (10 + i) (by omega)]; exact a2 i hi, a3, a4, a5, a6⟩
theorem lw_end {T : LSt} {va co ed dd d1 : Nat → Int} (h : lwR T va co ed dd) (h2 : d1 0 = dd 0 ∧ d1 1 = 0) : lwR (enE T) va co ed d1 := by
  obtain ⟨a1, a2, a3, a4, a5, a6⟩ := h
  exact ⟨a1, a2, a3, fun k hk => absurd hk (Nat.not_lt_zero k), h2.1.trans a5, h2.2⟩
theorem lw_lay {T : LSt} {va co ed dd e1 d1 : Nat → Int} (h : lwR T va co ed dd) {x w s : Int} (h2 : rE (wfE (lE T) (lM T) x w s) (wfN (lE T) (lM T) x) e1 ∧ d1 1 = (wfN (lE T) (lM T) x : Int) ∧ d1 0 = dd 0) : lwR (adE T x w s) va co e1 d1 := by
  obtain ⟨a1, a2, a3, a4, a5, a6⟩ := h
  exact ⟨a1, a2, a3, h2.1, h2.2.2.trans a5, h2.2.1⟩
theorem lw_set {T : LSt} {va co ed dd w : Nat → Int} (h : lwR T va co ed dd) (h2 : (∀ i, i < 10 → w i = setv (lV T) (lT T) (lC T) (lN9 T) (lE T) (lM T) i) ∧ ∀ i, i < 10 → w (10 + i) = lT T i) : lwR (seT T) w co ed dd := ⟨h2.1, h2.2, h.2.2⟩
def sfB (T : LSt) (z : Int) : Nat → Bool := fun i => decide (lV (seT T) i ≠ z)
/-- a state of both behind an act -/
def lwO (T : LSt) (va co ed dd : Nat → Int) : Prop := gOk T ∧ lN9 T ≤ 9 ∧ lM T ≤ 3 ∧ lwR T va co ed dd
