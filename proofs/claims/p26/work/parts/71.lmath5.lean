/-! ===== what the law's ahead compares ===== -/
theorem rC_st {C : Nat → Nat → Int} {nc k : Nat} {co c : Nat → Int} {z : Int} (h : rC C nc co) (hc : ∀ q, q ≠ 5 * k + 4 → c q = co q) : rC (stW C k z) nc (qu c (5 * k + 4) z) := by
  intro j hj
  have q := h j hj
  have e3 : stW C k z 4 = qu (C 4) k z := by
    unfold stW
    rw [qu_s]
  have e : ∀ f, f ≠ 4 → stW C k z f = C f := fun f hf => by
    unfold stW
    rw [qu_n _ _ hf]
  rw [e3, e 0 (by decide), e 1 (by decide), e 2 (by decide), e 3 (by decide), qu_n _ _ (show 5 * j ≠ 5 * k + 4 by omega), qu_n _ _ (show 5 * j + 1 ≠ 5 * k + 4 by omega), qu_n _ _ (show 5 * j + 2 ≠ 5 * k + 4 by omega), qu_n _ _ (show 5 * j + 3 ≠ 5 * k + 4 by omega), hc _ (by omega), hc _ (by omega), hc _ (by omega), hc _ (by omega)]
  refine ⟨q.1, q.2.1, q.2.2.1, q.2.2.2.1, ?_⟩
  by_cases g : j = k
  · rw [g, qu_s, qu_s]
  · rw [qu_n _ _ g, qu_n _ _ (by omega), hc _ (by omega)]
    exact q.2.2.2.2
def nsL (T : LSt) (k : Nat) : Nat → Int
  | 0 => -1
  | j + 1 => if okS (lC T) (lN9 T) (lE T) (lM T) k (3 - (j : Int)) = true then 3 - (j : Int) else nsL T k j
theorem nsL_rng (T : LSt) (k : Nat) : ∀ j : Nat, j ≤ 4 → -1 ≤ nsL T k j ∧ nsL T k j ≤ 3
  | 0, _ => ⟨Int.le_refl _, (by decide : (-1 : Int) ≤ 3)⟩
  | j + 1, h => by
    have ih := nsL_rng T k j (by omega)
    simp only [nsL]
    split <;> omega
theorem ns_4 (T : LSt) (k : Nat) : nsT T k = nsL T k 4 := rfl
theorem nsL_s {T : LSt} {k j : Nat} {x z : Int} (h : x = ((okS (lC T) (lN9 T) (lE T) (lM T) k (3 - (j : Int))).toNat : Int)) (hz : (x = 1 ∧ z = 3 - (j : Int)) ∨ (x ≠ 1 ∧ z = nsL T k j)) : z = nsL T k (j + 1) := by
  simp only [nsL]
  cases e : okS (lC T) (lN9 T) (lE T) (lM T) k (3 - (j : Int))
  · rw [e] at h
    rw [if_neg (by decide)]
    have h : x = 0 := h
    omega
  · rw [e] at h
    rw [if_pos rfl]
    have h : x = 1 := h
    omega
theorem rm_16 (T : LSt) (k : Nat) (h : lN9 T ≤ 16) : rmT T k = (cnt (fOC (fil (lC T) (lN9 T) (lE T) (lM T) (k : Int))) (lN9 T) : Int) := by
  unfold rmT rmA
  rw [cnt_far (fun i hi => fil_outC (Or.inl hi)) 16 h]
theorem co_back {co c : Nat → Int} {k : Nat} (hc : ∀ q, q ≠ k → c q = co q) : qu c k (co k) = co := by
  funext q
  by_cases e : q = k
  · rw [e, qu_s]
  · rw [qu_n _ _ e]
    exact hc q e
