/-! ===== greatest differences: what one more limit makes of them ===== -/
def tg (M : Nat → Nat → Int) (a b : Nat) (n : Int) : Nat → Nat → Int := fun i j => if M i a + n + M b j < M i j then M i a + n + M b j else M i j
/-- closed, with 0 on the diagonal, in range -/
def qCl (M : Nat → Nat → Int) : Prop := (∀ i j k, i < 11 → j < 11 → k < 11 → M i j ≤ M i k + M k j) ∧ (∀ i, i < 11 → M i i = 0) ∧ ∀ i j, i < 11 → j < 11 → -2000 ≤ M i j ∧ M i j ≤ 2000 ∧ ((i = 10 ∨ j = 10) → M i j ≤ 1000)
theorem tg_le {M : Nat → Nat → Int} {a b : Nat} {n : Int} {i j : Nat} : tg M a b n i j ≤ M i j := by
  unfold tg
  split <;> omega
theorem tg_le2 {M : Nat → Nat → Int} {a b : Nat} {n : Int} {i j : Nat} : tg M a b n i j ≤ M i a + n + M b j := by
  unfold tg
  split <;> omega
theorem tg_or {M : Nat → Nat → Int} {a b : Nat} {n : Int} {i j : Nat} : tg M a b n i j = M i j ∨ tg M a b n i j = M i a + n + M b j := by
  unfold tg
  split
  · exact Or.inr rfl
  · exact Or.inl rfl
theorem tg_same {M : Nat → Nat → Int} {a b : Nat} {n : Int} {i j : Nat} (h : M i j ≤ M i a + n + M b j) : tg M a b n i j = M i j := by
  unfold tg
  rw [if_neg (by omega)]
theorem tg_skip {M : Nat → Nat → Int} (C : qCl M) {a b : Nat} (ha : a < 11) (hb : b < 11) {n : Int} (h : M a b ≤ n) {i j : Nat} (hi : i < 11) (hj : j < 11) : tg M a b n i j = M i j := by
  have h1 := C.1 i j b hi hj hb
  have h2 := C.1 i b a hi hb ha
  exact tg_same (by omega)
theorem tg_row {M : Nat → Nat → Int} (C : qCl M) {a b : Nat} (hb : b < 11) {n : Int} {i j : Nat} (hi : i < 11) (hj : j < 11) (h : M i b ≤ M i a + n) : tg M a b n i j = M i j := by
  have h1 := C.1 i j b hi hj hb
  exact tg_same (by omega)
theorem tg_b {M : Nat → Nat → Int} {a b : Nat} {n : Int} {j : Nat} (h : 0 ≤ n + M b a) : tg M a b n b j = M b j := tg_same (by omega)
theorem tg_a {M : Nat → Nat → Int} {a b : Nat} {n : Int} {i : Nat} (h : 0 ≤ n + M b a) : tg M a b n i a = M i a := tg_same (by omega)
theorem tg_cl {M : Nat → Nat → Int} (C : qCl M) {a b : Nat} (ha : a < 11) (hb : b < 11) {n : Int} (h : 0 ≤ n + M b a) : qCl (tg M a b n) := by
  obtain ⟨c1, c2, c3⟩ := C
  have d : ∀ i, i < 11 → tg M a b n i i = 0 := by
    intro i hi
    have h1 := c1 b a i hb ha hi
    have h2 := c2 i hi
    rw [tg_same (by omega)]
    exact h2
  have t : ∀ i j k, i < 11 → j < 11 → k < 11 → tg M a b n i j ≤ tg M a b n i k + tg M a b n k j := by
    intro i j k hi hj hk
    have e1 := tg_le (M := M) (a := a) (b := b) (n := n) (i := i) (j := j)
    have e2 := tg_le2 (M := M) (a := a) (b := b) (n := n) (i := i) (j := j)
    have h1 := c1 i j k hi hj hk
    have h2 := c1 b j k hb hj hk
    have h3 := c1 i a k hi ha hk
    have h4 := c1 b a k hb ha hk
    rcases tg_or (M := M) (a := a) (b := b) (n := n) (i := i) (j := k) with g1 | g1 <;> rcases tg_or (M := M) (a := a) (b := b) (n := n) (i := k) (j := j) with g2 | g2 <;> omega
  refine ⟨t, d, fun i j hi hj => ?_⟩
  have e1 := tg_le (M := M) (a := a) (b := b) (n := n) (i := i) (j := j)
  have e2 := tg_le (M := M) (a := a) (b := b) (n := n) (i := j) (j := i)
  have h1 := t i i j hi hi hj
  have h2 := d i hi
  have h3 := c3 i j hi hj
  have h4 := c3 j i hj hi
  omega
/-- two matrices that agree where it counts -/
def qEq (M N : Nat → Nat → Int) : Prop := ∀ i j, i < 11 → j < 11 → M i j = N i j
theorem qEq.rfl' {M : Nat → Nat → Int} : qEq M M := fun _ _ _ _ => rfl
theorem qEq.symm {M N : Nat → Nat → Int} (h : qEq M N) : qEq N M := fun i j hi hj => (h i j hi hj).symm
theorem qEq.trans {M N K : Nat → Nat → Int} (h : qEq M N) (h2 : qEq N K) : qEq M K := fun i j hi hj => (h i j hi hj).trans (h2 i j hi hj)
theorem qEq.cl {M N : Nat → Nat → Int} (h : qEq M N) (C : qCl M) : qCl N := by
  obtain ⟨c1, c2, c3⟩ := C
  refine ⟨fun i j k hi hj hk => ?_, fun i hi => ?_, fun i j hi hj => ?_⟩
  · rw [← h i j hi hj, ← h i k hi hk, ← h k j hk hj]
    exact c1 i j k hi hj hk
  · rw [← h i i hi hi]
    exact c2 i hi
  · rw [← h i j hi hj]
    exact c3 i j hi hj
theorem qEq.tg {M N : Nat → Nat → Int} (h : qEq M N) {a b : Nat} (ha : a < 11) (hb : b < 11) (n : Int) : qEq (tg M a b n) (tg N a b n) := by
  intro i j hi hj
  show (if _ then _ else _) = (if _ then _ else _)
  rw [h i j hi hj, h i a hi ha, h b j hb hj]
/-- the start: nothing asked yet -/
def tg0 : Nat → Nat → Int := fun i j => if i = j then 0 else if i = 10 ∨ j = 10 then 1000 else 2000
theorem tg0_cl : qCl tg0 := by
  refine ⟨fun i j k hi hj hk => ?_, fun i hi => by simp [tg0], fun i j hi hj => ?_⟩
  · simp only [tg0]
    repeat' split
    all_goals omega
  · simp only [tg0]
    repeat' split
    all_goals omega
