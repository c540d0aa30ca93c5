/-! ===== a text, read from left to right ===== -/
def rd0 : RS := (0, 0, 0, 0, 0, 0, 0, (fun _ _ => 0), 0)
abbrev uA (u : RS) : Int := u.1
abbrev uL (u : RS) : Int := u.2.1
abbrev uR (u : RS) : Int := u.2.2.1
abbrev uS (u : RS) : Int := u.2.2.2.1
abbrev uN (u : RS) : Int := u.2.2.2.2.1
abbrev uF (u : RS) : Int := u.2.2.2.2.2.1
abbrev uT (u : RS) : Int := u.2.2.2.2.2.2.1
abbrev uG (u : RS) : Nat → Nat → Int := u.2.2.2.2.2.2.2.1
abbrev uK (u : RS) : Nat := u.2.2.2.2.2.2.2.2
def psh (a c : Int) : Bool := (decide (a = 6) || decide (a = 7) || decide (a = 9)) && decide (c = 59)
theorem psh_iff {a c : Int} : psh a c = true ↔ rdP a c := by simp [psh, rdP, or_assoc]
def rdNx (c : Int) (u : RS) : RS := (rdA (uA u) c, rdL (uA u) c (uL u), rdR (uA u) c (uR u), rdS (uA u) c (uS u), rdN (uA u) c (uN u), rdF (uA u) c (uF u), rdT (uA u) c (uT u), (if psh (uA u) c = true then fun g i => if i = uK u then row5 (uL u) (uR u) (uS u) (uF u * uN u) (uT u) g else uG u g i else uG u), if psh (uA u) c = true then uK u + 1 else uK u)
def rdSt (tx : Nat → Int) : Nat → RS
  | 0 => rd0
  | n + 1 => rdNx (tx n) (rdSt tx n)
def okAt (tx : Nat → Int) (i : Nat) : Prop := rdOk (uA (rdSt tx i)) (tx i) (uL (rdSt tx i)) (uN (rdSt tx i))
def isErr (tx : Nat → Int) (len e : Nat) : Prop := e ≤ len ∧ (∀ i, i < e → okAt tx i) ∧ (e < len → ¬ okAt tx e)
theorem isErr.uniq {tx : Nat → Int} {len e e2 : Nat} (h : isErr tx len e) (h2 : isErr tx len e2) : e = e2 := by
  rcases Nat.lt_trichotomy e e2 with g | g | g
  · exact absurd (h2.2.1 e g) (h.2.2 (by have := h2.1; omega))
  · exact g
  · exact absurd (h.2.1 e2 g) (h2.2.2 (by have := h.1; omega))
def rdFull (tx : Nat → Int) (len : Nat) : Prop := (∀ i, i < len → okAt tx i) ∧ (uA (rdSt tx len) = 6 ∨ uA (rdSt tx len) = 7 ∨ uA (rdSt tx len) = 9)
def ldG (tx : Nat → Int) (len : Nat) : Nat → Nat → Int := uG (rdNx 59 (rdSt tx len))
def ldK (tx : Nat → Int) (len : Nat) : Nat := uK (rdNx 59 (rdSt tx len))
def mnA (a : Int) : Int := if a = 0 then 0 else if a = 1 then 1 else if a = 2 then 2 else if a = 3 then 3 else if a = 4 then 2 else if a = 8 then 4 else if a = 9 then 5 else 3
/-- what every state on the way has -/
def rdI (u : RS) (n : Nat) : Prop := (0 ≤ uA u ∧ uA u ≤ 9) ∧ (uA u = 0 ∨ (0 ≤ uL u ∧ uL u ≤ 9 ∧ 0 ≤ uN u ∧ uN u ≤ 2000 ∧ 0 ≤ uT u ∧ uT u ≤ 3 ∧ (uF u = 1 ∨ uF u = -1) ∧ -1 ≤ uR u ∧ uR u ≤ 9 ∧ uR u ≠ uL u)) ∧ ((uA u = 1 ∨ uA u = 2) → uR u = -1) ∧ (4 ≤ uA u → 0 ≤ uS u ∧ uS u ≤ 2) ∧ ((uA u ≤ 5 ∨ uA u = 7) → uA u = 0 ∨ uN u = 0) ∧ (uA u = 6 → 1 ≤ uN u) ∧ (uA u = 5 → uF u = -1) ∧ ((1 ≤ uA u ∧ uA u ≤ 4) → uF u = 1) ∧ ((1 ≤ uA u ∧ uA u ≤ 8) → uT u = 1) ∧ 4 * (uK u : Int) + mnA (uA u) ≤ n ∧ ∀ i, i < uK u → qW1 (uG u) i
theorem rdI_0 : rdI rd0 0 := ⟨by decide, Or.inl rfl, fun h => by rcases h with h | h <;> exact absurd h (by decide), fun h => absurd h (by decide), fun _ => Or.inl rfl, fun h => absurd h (by decide), fun h => absurd h (by decide), fun h => absurd h.1 (by decide), fun h => absurd h.1 (by decide), by decide, fun i hi => absurd hi (Nat.not_lt_zero i)⟩
set_option maxHeartbeats 2000000 in
theorem rdI_step {u : RS} {n : Nat} {c : Int} (h : rdI u n) (ho : rdOk (uA u) c (uL u) (uN u)) : rdI (rdNx c u) (n + 1) := by
  obtain ⟨a, l, r, s, m, f, t, G, k⟩ := u
  obtain ⟨h1, h2, h3, h4, h5, h6, h7, h8, h9, h10, h11⟩ := h
  simp only [uA, uL, uR, uS, uN, uF, uT, uG, uK] at h1 h2 h3 h4 h5 h6 h7 h8 h9 h10 h11 ho
  have hG : psh a c = true → qW1 (fun g i => if i = k then row5 l r s (f * m) t g else G g i) k := by
    intro hp
    have hp := psh_iff.mp hp
    unfold rdP at hp
    refine qW1_eq (F := fun g _ => row5 l r s (f * m) t g) (j := 0) (fun g hg => if_pos rfl) ?_
    unfold qW1
    show (0 ≤ l ∧ l ≤ 9) ∧ (-1 ≤ r ∧ r ≤ 9) ∧ (0 ≤ s ∧ s ≤ 2) ∧ (-2000 ≤ f * m ∧ f * m ≤ 2000) ∧ (0 ≤ t ∧ t ≤ 3) ∧ l ≠ r
    have hf : f * m = m ∨ f * m = -m := by
      rcases h2 with h2 | h2
      · omega
      · rcases h2.2.2.2.2.2.2.1 with e | e
        · left; rw [e, Int.one_mul]
        · right; rw [e, Int.neg_one_mul]
    omega
  have rows : ∀ i, i < (if psh a c = true then k + 1 else k) → qW1 (if psh a c = true then fun g i => if i = k then row5 l r s (f * m) t g else G g i else G) i := by
    intro i hi
    by_cases hp : psh a c = true
    · rw [if_pos hp] at hi ⊢
      by_cases e : i = k
      · subst e
        exact hG hp
      · exact qW1_eq (F := G) (j := i) (fun g _ => if_neg e) (h11 i (by omega))
    · rw [if_neg hp] at hi ⊢
      exact h11 i hi
  have kk : ((if psh a c = true then k + 1 else k : Nat) : Int) = (k : Int) + (if (a = 6 ∨ a = 7 ∨ a = 9) ∧ c = 59 then 1 else 0) := by
    by_cases hp : psh a c = true
    · rw [if_pos hp, if_pos (show (a = 6 ∨ a = 7 ∨ a = 9) ∧ c = 59 from psh_iff.mp hp)]
      omega
    · rw [if_neg hp, if_neg (fun q : (a = 6 ∨ a = 7 ∨ a = 9) ∧ c = 59 => hp (psh_iff.mpr q))]
      omega
  have main : ∀ (k2 : Int), k2 = (k : Int) + (if (a = 6 ∨ a = 7 ∨ a = 9) ∧ c = 59 then 1 else 0) → (0 ≤ rdA a c ∧ rdA a c ≤ 9) ∧ (rdA a c = 0 ∨ (0 ≤ rdL a c l ∧ rdL a c l ≤ 9 ∧ 0 ≤ rdN a c m ∧ rdN a c m ≤ 2000 ∧ 0 ≤ rdT a c t ∧ rdT a c t ≤ 3 ∧ (rdF a c f = 1 ∨ rdF a c f = -1) ∧ -1 ≤ rdR a c r ∧ rdR a c r ≤ 9 ∧ rdR a c r ≠ rdL a c l)) ∧ ((rdA a c = 1 ∨ rdA a c = 2) → rdR a c r = -1) ∧ (4 ≤ rdA a c → 0 ≤ rdS a c s ∧ rdS a c s ≤ 2) ∧ ((rdA a c ≤ 5 ∨ rdA a c = 7) → rdA a c = 0 ∨ rdN a c m = 0) ∧ (rdA a c = 6 → 1 ≤ rdN a c m) ∧ (rdA a c = 5 → rdF a c f = -1) ∧ ((1 ≤ rdA a c ∧ rdA a c ≤ 4) → rdF a c f = 1) ∧ ((1 ≤ rdA a c ∧ rdA a c ≤ 8) → rdT a c t = 1) ∧ 4 * k2 + mnA (rdA a c) ≤ ((n + 1 : Nat) : Int) := by
    intro k2 hk2
    unfold mnA at h10
    rcases (show a = 0 ∨ a = 1 ∨ a = 2 ∨ a = 3 ∨ a = 4 ∨ a = 5 ∨ a = 6 ∨ a = 7 ∨ a = 8 ∨ a = 9 by omega) with e | e | e | e | e | e | e | e | e | e <;> subst e
    · rw [rdOk_0] at ho; simp [rdA, rdL, rdR, rdS, rdN, rdF, rdT, mnA] at *; omega
    · rw [rdOk_1] at ho
      by_cases e : c = 45
      · subst e; simp [rdA, rdL, rdR, rdS, rdN, rdF, rdT, mnA] at *; omega
      · simp [rdA, rdL, rdR, rdS, rdN, rdF, rdT, mnA, e] at *; omega
    · rw [rdOk_2] at ho; simp [rdA, rdL, rdR, rdS, rdN, rdF, rdT, mnA] at *; omega
    · rw [rdOk_3] at ho; simp [rdA, rdL, rdR, rdS, rdN, rdF, rdT, mnA] at *; omega
    · rw [rdOk_4] at ho
      by_cases e : c = 45
      · subst e; simp [rdA, rdL, rdR, rdS, rdN, rdF, rdT, mnA] at *; omega
      · by_cases e2 : c = 48
        · subst e2; simp [rdA, rdL, rdR, rdS, rdN, rdF, rdT, mnA] at *; omega
        · simp [rdA, rdL, rdR, rdS, rdN, rdF, rdT, mnA, e, e2] at ho h2 h3 h4 h5 h6 h7 h8 h9 h10 hk2 ⊢; omega
    · rw [rdOk_5] at ho; simp [rdA, rdL, rdR, rdS, rdN, rdF, rdT, mnA] at *; omega
    · rw [rdOk_6] at ho
      by_cases e : c = 33
      · subst e; simp [rdA, rdL, rdR, rdS, rdN, rdF, rdT, mnA] at *; omega
      · by_cases e2 : c = 59
        · subst e2; simp [rdA, rdL, rdR, rdS, rdN, rdF, rdT, mnA] at *; omega
        · have e3 : 48 ≤ c ∧ c ≤ 57 := by omega
          simp [rdA, rdL, rdR, rdS, rdN, rdF, rdT, mnA, e, e2, e3] at h2 h3 h4 h5 h6 h7 h8 h9 h10 hk2 ⊢; omega
    · rw [rdOk_7] at ho
      rcases ho with ho | ho <;> subst ho <;> simp [rdA, rdL, rdR, rdS, rdN, rdF, rdT, mnA] at * <;> omega
    · rw [rdOk_8] at ho; simp [rdA, rdL, rdR, rdS, rdN, rdF, rdT, mnA] at *; omega
    · rw [rdOk_9] at ho; subst ho; simp [rdA, rdL, rdR, rdS, rdN, rdF, rdT, mnA] at *; omega
  obtain ⟨g1, g2, g3, g4, g5, g6, g7, g8, g9, g10⟩ := main _ kk
  exact ⟨g1, g2, g3, g4, g5, g6, g7, g8, g9, g10, rows⟩
theorem rdI_at {tx : Nat → Int} : ∀ n, (∀ i, i < n → okAt tx i) → rdI (rdSt tx n) n
  | 0, _ => rdI_0
  | n + 1, h => rdI_step (rdI_at n (fun i hi => h i (by omega))) (h n (by omega))
/-- the reader's cells at a state of the way -/
def cRd (u : RS) (a l r s n f t : Int) (G : Nat → Nat → Int) (k : Nat) : Prop := a = uA u ∧ k = uK u ∧ (a ≠ 0 → l = uL u ∧ r = uR u ∧ n = uN u ∧ f = uF u ∧ t = uT u) ∧ (4 ≤ a → s = uS u) ∧ ∀ g i, g < 5 → i < k → G g i = uG u g i
theorem rdA_0 {a c l n : Int} (h : rdOk a c l n) : rdA a c = 0 ↔ rdP a c := by
  unfold rdP
  unfold rdOk at h
  unfold rdA
  (repeat' split) <;> omega
theorem cRd.step {u : RS} {a l r s n f t : Int} {G : Nat → Nat → Int} {k : Nat} {c : Int} {v : RS} {N : Nat} (h : cRd u a l r s n f t G k) (hI : rdI u N) (ho : rdOk (uA u) c (uL u) (uN u)) (hv : rdTo a l r s n f t G k c v) : cRd (rdNx c u) v.1 v.2.1 v.2.2.1 v.2.2.2.1 v.2.2.2.2.1 v.2.2.2.2.2.1 v.2.2.2.2.2.2.1 v.2.2.2.2.2.2.2.1 v.2.2.2.2.2.2.2.2 := by
  obtain ⟨rfl, rfl, h3, h4, h5⟩ := h
  obtain ⟨v1, v2, v3, v4, v5, v6, v7, v8⟩ := hv
  have hA := rdA_0 ho
  have hu := hI.1
  refine ⟨v1, ?_, fun hne => ?_, fun h4a => ?_, fun g i hg hi => ?_⟩
  · rcases v8 with ⟨p, q, -⟩ | ⟨p, q, -⟩
    · rw [q]; show _ = if psh (uA u) c = true then _ else _; rw [if_pos (psh_iff.mpr p)]
    · rw [q]; show _ = if psh (uA u) c = true then _ else _; rw [if_neg (fun z => p (psh_iff.mp z))]
  · rw [v1] at hne
    by_cases e : uA u = 0
    · refine ⟨?_, ?_, ?_, ?_, ?_⟩
      · rw [v2]; show rdL (uA u) c l = rdL (uA u) c (uL u); unfold rdL; rw [if_pos e, if_pos e]
      · rw [v3]; show rdR (uA u) c r = rdR (uA u) c (uR u); unfold rdR; rw [if_pos e, if_pos e]
      · rw [v5]; show rdN (uA u) c n = rdN (uA u) c (uN u); unfold rdN; rw [if_pos e, if_pos e]
      · rw [v6]; show rdF (uA u) c f = rdF (uA u) c (uF u); unfold rdF; rw [if_pos e, if_pos e]
      · rw [v7]; show rdT (uA u) c t = rdT (uA u) c (uT u); unfold rdT; rw [if_pos e, if_pos e]
    · obtain ⟨q1, q2, q3, q4, q5⟩ := h3 e
      exact ⟨by rw [v2, q1]; rfl, by rw [v3, q2]; rfl, by rw [v5, q3]; rfl, by rw [v6, q4]; rfl, by rw [v7, q5]; rfl⟩
  · rw [v1] at h4a
    rw [v4]
    show rdS (uA u) c s = rdS (uA u) c (uS u)
    by_cases e : 4 ≤ uA u
    · rw [h4 e]
    · unfold rdS
      unfold rdA at h4a
      have : (uA u = 1 ∧ c ≠ 45) ∨ uA u = 3 := by
        (repeat' split at h4a) <;> omega
      rw [if_pos this, if_pos this]
  · show v.2.2.2.2.2.2.2.1 g i = (if psh (uA u) c = true then (fun g i => if i = uK u then row5 (uL u) (uR u) (uS u) (uF u * uN u) (uT u) g else uG u g i) else uG u) g i
    rcases v8 with ⟨p, q, w⟩ | ⟨p, q, w⟩
    · rw [if_pos (psh_iff.mpr p), w g i hg]
      have p := p
      unfold rdP at p
      obtain ⟨q1, q2, q3, q4, q5⟩ := h3 (by omega)
      rw [h4 (by omega), q1, q2, q3, q4, q5]
      by_cases e : i = uK u
      · rw [if_pos e, if_pos e]
      · rw [if_neg e, if_neg e]
        exact h5 g i hg (by omega)
    · rw [if_neg (fun z => p (psh_iff.mp z)), w]
      exact h5 g i hg (by omega)
theorem cRd.ok {u : RS} {a l r s n f t : Int} {G : Nat → Nat → Int} {k : Nat} {c : Int} (h : cRd u a l r s n f t G k) : rdOk a c l n ↔ rdOk (uA u) c (uL u) (uN u) := by
  obtain ⟨rfl, -, h3, -, -⟩ := h
  by_cases e : uA u = 0
  · rw [e, rdOk_0, rdOk_0]
  · obtain ⟨q1, q2, q3, q4, q5⟩ := h3 e
    rw [q1, q3]
