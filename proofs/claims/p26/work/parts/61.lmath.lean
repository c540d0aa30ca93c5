/-! ===== p26's law: its lists of what is bound, and the greatest differences that keep to them ===== -/
def cR (ca cb cn : Nat → Int) (n : Nat) (M : Nat → Nat → Int) : Prop := qCl M ∧ (∀ k, k < n → (0 ≤ ca k ∧ ca k < 11) ∧ (0 ≤ cb k ∧ cb k < 11) ∧ (-2000 ≤ cn k ∧ cn k ≤ 2000) ∧ M (ca k).toNat (cb k).toNat ≤ cn k) ∧ ∀ f : Nat → Int, (∀ k, k < n → f (ca k).toNat - f (cb k).toNat ≤ cn k) → (∀ k, k < 10 → f k - f 10 ≤ 1000 ∧ f 10 - f k ≤ 1000) → ∀ i j, i < 11 → j < 11 → f i - f j ≤ M i j
theorem cR_0 {ca cb cn : Nat → Int} : cR ca cb cn 0 tg0 := by
  refine ⟨tg0_cl, fun k h => absurd h (Nat.not_lt_zero k), fun f _ hb i j hi hj => ?_⟩
  unfold tg0
  by_cases e : i = j
  · subst e
    rw [if_pos rfl]
    omega
  · rw [if_neg e]
    by_cases e2 : i = 10 ∨ j = 10
    · rw [if_pos e2]
      rcases e2 with e2 | e2
      · subst e2
        have := hb j (by omega)
        omega
      · subst e2
        have := hb i (by omega)
        omega
    · rw [if_neg e2]
      have h1 := hb i (by omega)
      have h2 := hb j (by omega)
      omega
theorem cR_bind {ca cb cn : Nat → Int} {n : Nat} {M : Nat → Nat → Int} (h : cR ca cb cn n M) {a b : Nat} (ha : a < 11) (hb : b < 11) {w : Int} (hw : -2000 ≤ w ∧ w ≤ 2000) (h0 : 0 ≤ w + M b a) {x y : Int} (hx : x = (a : Int)) (hy : y = (b : Int)) : cR (qu ca n x) (qu cb n y) (qu cn n w) (n + 1) (tg M a b w) := by
  obtain ⟨h1, h2, h3⟩ := h
  have d1 := h1.2.1 a ha
  have d2 := h1.2.1 b hb
  refine ⟨tg_cl h1 ha hb h0, fun k hk => ?_, fun f hf hbs i j hi hj => ?_⟩
  · by_cases e : k = n
    · rw [e, qu_s, qu_s, qu_s]
      have := tg_le2 (M := M) (a := a) (b := b) (n := w) (i := a) (j := b)
      refine ⟨by omega, by omega, hw, ?_⟩
      rw [hx, hy, Int.toNat_natCast, Int.toNat_natCast]
      omega
    · rw [qu_n _ _ e, qu_n _ _ e, qu_n _ _ e]
      have q := h2 k (by omega)
      have := tg_le (M := M) (a := a) (b := b) (n := w) (i := (ca k).toNat) (j := (cb k).toNat)
      exact ⟨q.1, q.2.1, q.2.2.1, by omega⟩
  · have q1 := h3 f (fun k hk => by
      have e : k ≠ n := by omega
      have := hf k (by omega)
      rw [qu_n _ _ e, qu_n _ _ e, qu_n _ _ e] at this
      exact this) hbs
    have q2 := hf n (by omega)
    rw [qu_s, qu_s, qu_s, hx, hy, Int.toNat_natCast, Int.toNat_natCast] at q2
    have e1 := q1 i j hi hj
    have e2 := q1 i a hi ha
    have e3 := q1 b j hb hj
    rcases tg_or (M := M) (a := a) (b := b) (n := w) (i := i) (j := j) with g | g <;> omega
theorem cR_eq {ca cb cn : Nat → Int} {n : Nat} {M N : Nat → Nat → Int} (h : cR ca cb cn n M) (e : qEq M N) : cR ca cb cn n N := by
  obtain ⟨h1, h2, h3⟩ := h
  refine ⟨e.cl h1, fun k hk => ?_, fun f hf hbs i j hi hj => by rw [← e i j hi hj]; exact h3 f hf hbs i j hi hj⟩
  have q := h2 k hk
  refine ⟨q.1, q.2.1, q.2.2.1, ?_⟩
  rw [← e _ _ (by omega) (by omega)]
  exact q.2.2.2
/-! going along what is bound -/
def mI (M : Nat → Nat → Int) (j : Nat) (b : Nat → Int) : Prop := (∀ q, q < 11 → M q j ≤ b q ∧ b q ≤ 2000) ∧ b j ≤ 0
theorem mI_step {M : Nat → Nat → Int} {j : Nat} {b : Nat → Int} (h : mI M j b) (C : qCl M) (hj : j < 11) {x y : Nat} (hx : x < 11) (hy : y < 11) {w : Int} (hw : M x y ≤ w) (hlt : b y + w < b x) : mI M j (qu b x (b y + w)) := by
  obtain ⟨h1, h2⟩ := h
  have t := C.1 x j y hx hj hy
  have q1 := h1 x hx
  have q2 := h1 y hy
  refine ⟨fun q hq => ?_, ?_⟩
  · by_cases e : q = x
    · rw [e, qu_s]
      omega
    · rw [qu_n _ _ e]
      exact h1 q hq
  · by_cases e : j = x
    · rw [e] at h2 ⊢
      rw [qu_s]
      omega
    · rw [qu_n _ _ e]
      exact h2
theorem sumV_qu {b : Nat → Int} {x : Nat} {v : Int} : ∀ n, sumV (qu b x v) n = if x < n then sumV b n - b x + v else sumV b n
  | 0 => (if_neg (Nat.not_lt_zero x)).symm
  | n + 1 => by
    show sumV (qu b x v) n + qu b x v n = if x < n + 1 then sumV b n + b n - b x + v else sumV b n + b n
    rw [sumV_qu n]
    by_cases e : n = x
    · rw [e, qu_s, if_neg (Nat.lt_irrefl _), if_pos (Nat.lt_succ_self _)]
      omega
    · rw [qu_n _ _ e]
      by_cases g : x < n
      · rw [if_pos g, if_pos (by omega)]
        omega
      · rw [if_neg g, if_neg (by omega)]
theorem sumV_drop {b : Nat → Int} {x : Nat} (hx : x < 11) {v : Int} (hv : v < b x) : sumV (qu b x v) 11 + 1 ≤ sumV b 11 := by
  rw [sumV_qu, if_pos hx]
  omega
theorem mI_sum {M : Nat → Nat → Int} {j : Nat} {b : Nat → Int} (h : mI M j b) (C : qCl M) (hj : j < 11) : -22000 ≤ sumV b 11 ∧ sumV b 11 ≤ 22000 := by
  have q : ∀ q, q < 11 → -2000 ≤ b q ∧ b q ≤ 2000 := fun q hq => by
    have a := h.1 q hq
    have c := C.2.2 q j hq hj
    omega
  have e : sumV b 11 = 0 + b 0 + b 1 + b 2 + b 3 + b 4 + b 5 + b 6 + b 7 + b 8 + b 9 + b 10 := rfl
  have q0 := q 0 (by decide)
  have q1 := q 1 (by decide)
  have q2 := q 2 (by decide)
  have q3 := q 3 (by decide)
  have q4 := q 4 (by decide)
  have q5 := q 5 (by decide)
  have q6 := q 6 (by decide)
  have q7 := q 7 (by decide)
  have q8 := q 8 (by decide)
  have q9 := q 9 (by decide)
  have q10 := q 10 (by decide)
  omega
theorem mI_end {M : Nat → Nat → Int} {j : Nat} {b ca cb cn : Nat → Int} {n : Nat} (h : mI M j b) (R : cR ca cb cn n M) (hj : j < 11) (s1 : ∀ k, k < n → b (ca k).toNat ≤ b (cb k).toNat + cn k) (s2 : ∀ k, k < 10 → b k ≤ b 10 + 1000 ∧ b 10 ≤ b k + 1000) {i : Nat} (hi : i < 11) : b i = M i j := by
  have q := R.2.2 b (fun k hk => by have := s1 k hk; omega) (fun k hk => by have := s2 k hk; omega) i j hi hj
  have e1 := h.1 i hi
  have e2 := h.1 j hj
  have e3 := R.1.2.1 j hj
  have e4 := h.2
  omega
theorem mI_init {M : Nat → Nat → Int} {j : Nat} {b : Nat → Int} (C : qCl M) (hj : j < 11) (hb : ∀ q, q < 11 → b q = tg0 q j) : mI M j b := by
  refine ⟨fun q hq => ?_, ?_⟩
  · rw [hb q hq]
    have c := C.2.2 q j hq hj
    have d := C.2.1 q hq
    unfold tg0
    by_cases e : q = j
    · rw [← e, if_pos rfl]
      omega
    · rw [if_neg e]
      by_cases e2 : q = 10 ∨ j = 10
      · rw [if_pos e2]
        have := c.2.2 e2
        omega
      · rw [if_neg e2]
        omega
  · rw [hb j hj]
    show (if j = j then _ else _) ≤ (0 : Int)
    rw [if_pos rfl]
    exact Int.le_refl 0
/-- one round: so far along the list -/
def mS (M : Nat → Nat → Int) (j : Nat) (ca cb cn : Nat → Int) (k : Nat) (b0 b : Nat → Int) (g : Int) : Prop := mI M j b ∧ (g = 0 ∨ g = 1) ∧ sumV b 11 + g ≤ sumV b0 11 ∧ (g = 0 → ∀ q, q < k → b (ca q).toNat ≤ b (cb q).toNat + cn q)
theorem mS_0 {M : Nat → Nat → Int} {j : Nat} {ca cb cn b : Nat → Int} (h : mI M j b) : mS M j ca cb cn 0 b b 0 := ⟨h, Or.inl rfl, by omega, fun _ q hq => absurd hq (Nat.not_lt_zero q)⟩
theorem mS_skip {M : Nat → Nat → Int} {j : Nat} {ca cb cn b0 b : Nat → Int} {k : Nat} {g : Int} (h : mS M j ca cb cn k b0 b g) (hs : b (ca k).toNat ≤ b (cb k).toNat + cn k) : mS M j ca cb cn (k + 1) b0 b g := by
  obtain ⟨h1, h2, h3, h4⟩ := h
  refine ⟨h1, h2, h3, fun e q hq => ?_⟩
  by_cases e2 : q = k
  · rw [e2]
    exact hs
  · exact h4 e q (by omega)
theorem mS_take {M : Nat → Nat → Int} {j : Nat} {ca cb cn b0 b : Nat → Int} {n k : Nat} {g : Int} (R : cR ca cb cn n M) (hj : j < 11) (h : mS M j ca cb cn k b0 b g) (hk : k < n) (hs : b (cb k).toNat + cn k < b (ca k).toNat) : mS M j ca cb cn (k + 1) b0 (qu b (ca k).toNat (b (cb k).toNat + cn k)) 1 := by
  obtain ⟨h1, h2, h3, h4⟩ := h
  have q := R.2.1 k hk
  have d := sumV_drop (b := b) (x := (ca k).toNat) (by omega) hs
  exact ⟨mI_step h1 R.1 hj (by omega) (by omega) q.2.2.2 hs, Or.inr rfl, by omega, fun e => absurd e (by decide)⟩
/-- .. and along the places -/
def mT (M : Nat → Nat → Int) (j : Nat) (ca cb cn : Nat → Int) (n k : Nat) (b0 b : Nat → Int) (g : Int) : Prop := mI M j b ∧ (g = 0 ∨ g = 1) ∧ sumV b 11 + g ≤ sumV b0 11 ∧ (g = 0 → (∀ q, q < n → b (ca q).toNat ≤ b (cb q).toNat + cn q) ∧ ∀ q, q < k → b q ≤ b 10 + 1000 ∧ b 10 ≤ b q + 1000)
def mH (M : Nat → Nat → Int) (j : Nat) (ca cb cn : Nat → Int) (n k : Nat) (b0 b : Nat → Int) (g : Int) : Prop := mT M j ca cb cn n k b0 b g ∧ (g = 0 → b k ≤ b 10 + 1000)
theorem mT_0 {M : Nat → Nat → Int} {j : Nat} {ca cb cn b0 b : Nat → Int} {n k : Nat} {g : Int} (h : mS M j ca cb cn k b0 b g) (hk : k = n) : mT M j ca cb cn n 0 b0 b g := by
  subst hk
  exact ⟨h.1, h.2.1, h.2.2.1, fun e => ⟨h.2.2.2 e, fun q hq => absurd hq (Nat.not_lt_zero q)⟩⟩
theorem mH_skip {M : Nat → Nat → Int} {j : Nat} {ca cb cn b0 b : Nat → Int} {n k : Nat} {g : Int} (h : mT M j ca cb cn n k b0 b g) (hs : b k ≤ b 10 + 1000) : mH M j ca cb cn n k b0 b g := ⟨h, fun _ => hs⟩
theorem mH_take {M : Nat → Nat → Int} {j : Nat} {ca cb cn b0 b : Nat → Int} {n k : Nat} {g : Int} (C : qCl M) (hj : j < 11) (h : mT M j ca cb cn n k b0 b g) (hk : k < 10) (hs : b 10 + 1000 < b k) : mH M j ca cb cn n k b0 (qu b k (b 10 + 1000)) 1 := by
  obtain ⟨h1, h2, h3, h4⟩ := h
  have c := (C.2.2 k 10 (by omega) (by decide)).2.2 (Or.inr rfl)
  have d := sumV_drop (b := b) (x := k) (by omega) hs
  exact ⟨⟨mI_step h1 C hj (by omega) (by decide) c hs, Or.inr rfl, by omega, fun e => absurd e (by decide)⟩, fun e => absurd e (by decide)⟩
theorem mT_skip {M : Nat → Nat → Int} {j : Nat} {ca cb cn b0 b : Nat → Int} {n k : Nat} {g : Int} (h : mH M j ca cb cn n k b0 b g) (hs : b 10 ≤ b k + 1000) : mT M j ca cb cn n (k + 1) b0 b g := by
  obtain ⟨⟨h1, h2, h3, h4⟩, h5⟩ := h
  refine ⟨h1, h2, h3, fun e => ⟨(h4 e).1, fun q hq => ?_⟩⟩
  by_cases e2 : q = k
  · rw [e2]
    exact ⟨h5 e, hs⟩
  · exact (h4 e).2 q (by omega)
theorem mT_take {M : Nat → Nat → Int} {j : Nat} {ca cb cn b0 b : Nat → Int} {n k : Nat} {g : Int} (C : qCl M) (hj : j < 11) (h : mH M j ca cb cn n k b0 b g) (hk : k < 10) (hs : b k + 1000 < b 10) : mT M j ca cb cn n (k + 1) b0 (qu b 10 (b k + 1000)) 1 := by
  obtain ⟨⟨h1, h2, h3, h4⟩, h5⟩ := h
  have c := (C.2.2 10 k (by decide) (by omega)).2.2 (Or.inl rfl)
  have d := sumV_drop (b := b) (x := 10) (by decide) hs
  exact ⟨mI_step h1 C hj (by decide) (by omega) c hs, Or.inr rfl, by omega, fun e => absurd e (by decide)⟩
/-- the rounds -/
def mW (M : Nat → Nat → Int) (j : Nat) (ca cb cn : Nat → Int) (n kk : Nat) (b : Nat → Int) (g : Int) : Prop := mI M j b ∧ (g = 0 ∨ g = 1) ∧ sumV b 11 + (kk : Int) + g ≤ 22001 ∧ (g = 0 → (∀ q, q < n → b (ca q).toNat ≤ b (cb q).toNat + cn q) ∧ ∀ q, q < 10 → b q ≤ b 10 + 1000 ∧ b 10 ≤ b q + 1000)
theorem mW_0 {M : Nat → Nat → Int} {j : Nat} {ca cb cn b : Nat → Int} {n : Nat} (C : qCl M) (hj : j < 11) (h : mI M j b) : mW M j ca cb cn n 0 b 1 := by
  have := mI_sum h C hj
  exact ⟨h, Or.inr rfl, by omega, fun e => absurd e (by decide)⟩
theorem mW_n {M : Nat → Nat → Int} {j : Nat} {ca cb cn b : Nat → Int} {n kk : Nat} {g : Int} (C : qCl M) (hj : j < 11) (h : mW M j ca cb cn n kk b g) : kk ≤ 44001 := by
  have := mI_sum h.1 C hj
  have := h.2.1
  have := h.2.2.1
  omega
theorem mW_step {M : Nat → Nat → Int} {j : Nat} {ca cb cn b b2 : Nat → Int} {n kk k : Nat} {g g2 : Int} (h : mW M j ca cb cn n kk b g) (hg : g ≠ 0) (h2 : mT M j ca cb cn n k b b2 g2) (hk : 10 ≤ k) : mW M j ca cb cn n (kk + 1) b2 g2 := by
  obtain ⟨a1, a2, a3, a4⟩ := h
  obtain ⟨b1, b2, b3, b4⟩ := h2
  exact ⟨b1, b2, by omega, fun e => ⟨(b4 e).1, fun q hq => (b4 e).2 q (by omega)⟩⟩
theorem mW_end {M : Nat → Nat → Int} {j : Nat} {ca cb cn b : Nat → Int} {n kk : Nat} {g : Int} (R : cR ca cb cn n M) (hj : j < 11) (h : mW M j ca cb cn n kk b g) (hg : g = 0) {i : Nat} (hi : i < 11) : b i = M i j := mI_end h.1 R hj (h.2.2.2 hg).1 (h.2.2.2 hg).2 hi
/-! one of them filled -/
theorem tn0 {b : Bool} {x : Int} (h : x = (b.toNat : Int)) (h0 : x = 0) : b = false := by
  cases b
  · rfl
  · exact absurd (h.symm.trans h0) (by decide)
theorem tn1 {b : Bool} {x : Int} (h : x = (b.toNat : Int)) (h0 : x ≠ 0) : b = true := by
  cases b
  · exact absurd h h0
  · rfl
abbrev L4 : Type := (Nat → Int) × (Nat → Int) × (Nat → Int) × (Nat → Int)
/-- at most b rows bind, and M tells what they leave -/
def lB (u : L4) (b : Nat) (M : Nat → Nat → Int) : Prop := ∃ n : Nat, u.1 0 = (n : Int) ∧ n ≤ b ∧ cR u.2.1 u.2.2.1 u.2.2.2 n M
theorem lB.mono {u : L4} {a b : Nat} {M : Nat → Nat → Int} (h : lB u a M) (hab : a ≤ b) : lB u b M := by
  obtain ⟨n, h1, h2, h3⟩ := h
  exact ⟨n, h1, by omega, h3⟩
theorem oMg_no {M G : Nat → Nat → Int} {k : Nat} (h : oOk M G k = false) : oMg M G k = misV (G 3 k) (-(M (oN (G 1 k)) (G 0 k).toNat)) (M (G 0 k).toNat (oN (G 1 k))) := by
  unfold oMg
  rw [h]
  rfl
theorem oMg_yes {M G : Nat → Nat → Int} {k : Nat} (h : oOk M G k = true) : oMg M G k = narV (G 2 k) (G 3 k) (-(M (oN (G 1 k)) (G 0 k).toNat)) (M (G 0 k).toNat (oN (G 1 k))) := by
  unfold oMg
  rw [h]
  rfl
theorem oM_no {M G : Nat → Nat → Int} {k : Nat} (h : oOk M G k = false) : oM M G k = M := by
  unfold oM
  rw [h]
  rfl
theorem cR_f0 {ca cb cn : Nat → Int} {n : Nat} {M G : Nat → Nat → Int} {k nn : Nat} (R : cR ca cb cn n M) (hW : qWR G nn) (hk : k < nn) (ho : oOk M G k = true) (hs : G 2 k = 0) {x y w : Int} (hx : x = G 0 k) (hy : y = (oN (G 1 k) : Int)) (hw : w = G 3 k) : cR (qu ca n x) (qu cb n y) (qu cn n w) (n + 1) (oM M G k) := by
  obtain ⟨w0, w1, w2, w3, w4, w5⟩ := hW k hk
  obtain ⟨h1, h2, h3, h4⟩ := oM_need R.1 hW hk ho
  have e : oM M G k = tg M (G 0 k).toNat (oN (G 1 k)) (G 3 k) := by
    unfold oM oM1
    rw [if_pos ho, if_pos hs, if_neg (by omega)]
  rw [e, hw]
  exact cR_bind R h1 h2 w3 (h3 (by omega)) (by omega) hy
theorem cR_f1 {ca cb cn : Nat → Int} {n : Nat} {M G : Nat → Nat → Int} {k nn : Nat} (R : cR ca cb cn n M) (hW : qWR G nn) (hk : k < nn) (ho : oOk M G k = true) (hs : G 2 k = 1) {x y w : Int} (hx : x = G 0 k) (hy : y = (oN (G 1 k) : Int)) (hw : w = G 3 k) : cR (qu (qu ca n x) (n + 1) y) (qu (qu cb n y) (n + 1) x) (qu (qu cn n w) (n + 1) (-w)) (n + 1 + 1) (oM M G k) := by
  obtain ⟨w0, w1, w2, w3, w4, w5⟩ := hW k hk
  obtain ⟨h1, h2, h3, h4⟩ := oM_need R.1 hW hk ho
  have e1 : oM1 M G k = tg M (G 0 k).toNat (oN (G 1 k)) (G 3 k) := by
    unfold oM1
    rw [if_neg (by omega)]
  have e : oM M G k = tg (tg M (G 0 k).toNat (oN (G 1 k)) (G 3 k)) (oN (G 1 k)) (G 0 k).toNat (-(G 3 k)) := by
    unfold oM
    rw [if_pos ho, if_neg (by omega), e1]
  have h4 := h4 (by omega)
  rw [e1] at h4
  rw [e, hw]
  exact cR_bind (cR_bind R h1 h2 w3 (h3 (by omega)) (by omega) hy) h2 h1 (by omega) h4 hy (by omega)
theorem cR_f2 {ca cb cn : Nat → Int} {n : Nat} {M G : Nat → Nat → Int} {k nn : Nat} (R : cR ca cb cn n M) (hW : qWR G nn) (hk : k < nn) (ho : oOk M G k = true) (hs : G 2 k = 2) {x y w : Int} (hx : x = G 0 k) (hy : y = (oN (G 1 k) : Int)) (hw : w = G 3 k) : cR (qu ca n y) (qu cb n x) (qu cn n (-w)) (n + 1) (oM M G k) := by
  obtain ⟨w0, w1, w2, w3, w4, w5⟩ := hW k hk
  obtain ⟨h1, h2, h3, h4⟩ := oM_need R.1 hW hk ho
  have e1 : oM1 M G k = M := by
    unfold oM1
    rw [if_pos hs]
  have e : oM M G k = tg M (oN (G 1 k)) (G 0 k).toNat (-(G 3 k)) := by
    unfold oM
    rw [if_pos ho, if_neg (by omega), e1]
  have h4 := h4 (by omega)
  rw [e1] at h4
  rw [e, hw]
  exact cR_bind R h2 h1 (by omega) h4 hy (by omega)
/-! how many have been filled -/
theorem cnt_lm {p : Nat → Bool} : ∀ n : Nat, cnt p n ≤ n
  | 0 => Nat.le_refl 0
  | n + 1 => by
    have ih := cnt_lm (p := p) n
    simp only [cnt]
    split <;> omega
theorem cnt_two {p q r : Nat → Bool} (h : ∀ i, (p i = true → r i = true) ∧ (q i = true → r i = true) ∧ (p i = true → q i = false)) : ∀ n : Nat, cnt p n + cnt q n ≤ cnt r n
  | 0 => Nat.le_refl 0
  | n + 1 => by
    have ih := cnt_two h n
    obtain ⟨h1, h2, h3⟩ := h n
    simp only [cnt]
    by_cases e : p n = true
    · rw [if_pos e, if_pos (h1 e), if_neg (by rw [h3 e]; decide)]
      omega
    · rw [if_neg e]
      by_cases e2 : q n = true
      · rw [if_pos e2, if_pos (h2 e2)]
        omega
      · rw [if_neg e2]
        split <;> omega
theorem cnt_mn {p : Nat → Bool} {k : Nat} : ∀ n : Nat, k ≤ n → cnt p k ≤ cnt p n
  | 0, h => by rw [show k = 0 by omega]; exact Nat.le_refl _
  | n + 1, h => by
    by_cases e : k = n + 1
    · rw [e]
      exact Nat.le_refl _
    · have ih := cnt_mn (p := p) (k := k) n (by omega)
      simp only [cnt]
      split <;> omega
def sgt (G : Nat → Nat → Int) (j : Nat) : Nat → Bool := fun i => decide (3 - (j : Int) < G 4 i)
def seq (G : Nat → Nat → Int) (j : Nat) : Nat → Bool := fun i => decide (G 4 i = 3 - (j : Int))
theorem sgt_up {G : Nat → Nat → Int} {j : Nat} (n : Nat) : cnt (sgt G j) n + cnt (seq G j) n ≤ cnt (sgt G (j + 1)) n := cnt_two (fun i => by
  unfold sgt seq
  simp only [decide_eq_true_eq, decide_eq_false_iff_not]
  refine ⟨fun h => ?_, fun h => ?_, fun h => ?_⟩ <;> omega) n
theorem loE_T {E : Nat → Nat → Int} {j : Nat} {S : FS} : ∀ k : Nat, fT (loE E (3 - (j : Int)) k S) ≤ fT S + (cnt (seq E j) k : Int)
  | 0 => by show fT S ≤ fT S + ((0 : Nat) : Int); omega
  | k + 1 => by
    have ih := loE_T (E := E) (j := j) (S := S) k
    simp only [loE, cnt]
    by_cases h : E 4 k = 3 - (j : Int)
    · rw [if_pos h, if_pos (show seq E j k = true from decide_eq_true h)]
      show fT (loE E (3 - (j : Int)) k S) + 1 ≤ _
      omega
    · rw [if_neg h]
      split <;> omega
theorem loC_T {C : Nat → Nat → Int} {but : Int} {j : Nat} {S : FS} : ∀ k : Nat, fT (loC C but (3 - (j : Int)) k S) ≤ fT S + (cnt (seq C j) k : Int)
  | 0 => by show fT S ≤ fT S + ((0 : Nat) : Int); omega
  | k + 1 => by
    have ih := loC_T (C := C) (but := but) (j := j) (S := S) k
    simp only [loC, cnt]
    by_cases h : C 4 k = 3 - (j : Int) ∧ (k : Int) ≠ but
    · rw [if_pos h, if_pos (show seq C j k = true from decide_eq_true h.1)]
      show fT (loC C but (3 - (j : Int)) k S) + 1 ≤ _
      omega
    · rw [if_neg h]
      split <;> omega
abbrev S00 : FS := (tg0, 0, fF, fz, fz, fF, fz)
theorem loS_T {E C : Nat → Nat → Int} {ne nc : Nat} {but : Int} : ∀ j : Nat, fT (loS E ne C nc but j S00) ≤ (cnt (sgt E j) ne : Int) + (cnt (sgt C j) nc : Int)
  | 0 => by show (0 : Int) ≤ _; omega
  | j + 1 => by
    have ih := loS_T (E := E) (C := C) (ne := ne) (nc := nc) (but := but) j
    have h1 := loE_T (E := E) (j := j) (S := loS E ne C nc but j S00) ne
    have h2 := loC_T (C := C) (but := but) (j := j) (S := loE E (3 - (j : Int)) ne (loS E ne C nc but j S00)) nc
    have h3 := sgt_up (G := E) (j := j) ne
    have h4 := sgt_up (G := C) (j := j) nc
    simp only [loS]
    omega
theorem loS_TE {E C : Nat → Nat → Int} {ne nc : Nat} {but : Int} {j k : Nat} (hk : k ≤ ne) : fT (loE E (3 - (j : Int)) k (loS E ne C nc but j S00)) ≤ (ne : Int) + nc := by
  have ih := loS_T (E := E) (C := C) (ne := ne) (nc := nc) (but := but) j
  have h1 := loE_T (E := E) (j := j) (S := loS E ne C nc but j S00) k
  have h2 := cnt_mn (p := seq E j) ne hk
  have h3 := sgt_up (G := E) (j := j) ne
  have h4 := cnt_lm (p := sgt E (j + 1)) ne
  have h5 := cnt_lm (p := sgt C j) nc
  omega
theorem loS_TC {E C : Nat → Nat → Int} {ne nc : Nat} {but : Int} {j k : Nat} (hk : k ≤ nc) : fT (loC C but (3 - (j : Int)) k (loE E (3 - (j : Int)) ne (loS E ne C nc but j S00))) ≤ (ne : Int) + nc := by
  have ih := loS_T (E := E) (C := C) (ne := ne) (nc := nc) (but := but) j
  have h1 := loE_T (E := E) (j := j) (S := loS E ne C nc but j S00) ne
  have h2 := loC_T (C := C) (but := but) (j := j) (S := loE E (3 - (j : Int)) ne (loS E ne C nc but j S00)) k
  have h3 := cnt_mn (p := seq C j) nc hk
  have h4 := sgt_up (G := E) (j := j) ne
  have h5 := sgt_up (G := C) (j := j) nc
  have h6 := cnt_lm (p := sgt E (j + 1)) ne
  have h7 := cnt_lm (p := sgt C (j + 1)) nc
  omega
