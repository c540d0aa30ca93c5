/-! ===== the reference reads a text ===== -/
def stp (a : Int) : Int := if a ≤ 6 then a else a - 1
def mRd (u : RS) (sp : Int) (it : Nat) (bl : Bool) (rd : Nat → Int) : Prop := sp = stp (uA u) ∧ it = uK u ∧ (uA u ≠ 0 → rd (5 * it) = uL u ∧ rd (5 * it + 1) = uR u ∧ rd (5 * it + 4) = uT u) ∧ (4 ≤ uA u → rd (5 * it + 2) = uS u ∧ (bl = true ↔ uF u = -1)) ∧ (6 ≤ uA u → rd (5 * it + 3) = uN u) ∧ ∀ g i, g < 5 → i < it → rd (5 * i + g) = uG u g i
theorem qu_id (f : Nat → Int) (i : Nat) : qu f i (f i) = f := by
  funext j
  by_cases e : j = i
  · subst e; rw [qu_s]
  · rw [qu_n _ _ e]
section MRD
variable {u : RS} {sp : Int} {k N : Nat} {bl : Bool} {rd : Nat → Int} {c : Int}
theorem mr_rows {k j : Nat} {rd : Nat → Int} {G : Nat → Nat → Int} {z : Int} (h : ∀ g i, g < 5 → i < k → rd (5 * i + g) = G g i) : ∀ g i, g < 5 → i < k → qu rd (5 * k + j) z (5 * i + g) = G g i := fun g i hg hi => by
  rw [qu_n _ _ (by omega)]
  exact h g i hg hi
theorem mr_left (h : mRd u sp k bl rd) (ha : uA u = 0) : mRd (rdNx c u) 1 k bl (qu (qu (qu rd (5 * k + 1) (-1)) (5 * k + 4) 1) (5 * k + 0) (c - 97)) := by
  obtain ⟨a, l, r, s, n, f, t, G, q⟩ := u
  obtain ⟨h1, h2, h3, h4, h5, h6⟩ := h
  simp only [uA, uL, uR, uS, uN, uF, uT, uG, uK] at *
  subst ha
  refine ⟨by simp [rdNx, uA, uL, uR, uS, uN, uF, uT, uG, uK, rdA, stp], by simp [rdNx, uA, uL, uR, uS, uN, uF, uT, uG, uK, psh]; exact h2, fun _ => ?_, fun z => absurd z (by simp [rdNx, uA, uL, uR, uS, uN, uF, uT, uG, uK, rdA]), fun z => absurd z (by simp [rdNx, uA, uL, uR, uS, uN, uF, uT, uG, uK, rdA]), ?_⟩
  · simp [rdNx, uA, uL, uR, uS, uN, uF, uT, uG, uK, rdL, rdR, rdT, qu]
  · simp only [rdNx, uA, uL, uR, uS, uN, uF, uT, uG, uK, psh]
    exact mr_rows (mr_rows (mr_rows h6))
theorem mr_minus (h : mRd u sp k bl rd) (ha : uA u = 1) (hc : c = 45) (hI : rdI u N) : mRd (rdNx c u) 2 k bl rd := by
  obtain ⟨a, l, r, s, n, f, t, G, q⟩ := u
  obtain ⟨h1, h2, h3, h4, h5, h6⟩ := h
  simp only [uA, uL, uR, uS, uN, uF, uT, uG, uK] at *
  subst ha
  subst hc
  refine ⟨by simp [rdNx, uA, uL, uR, uS, uN, uF, uT, uG, uK, rdA, stp], by simp [rdNx, uA, uL, uR, uS, uN, uF, uT, uG, uK, psh]; exact h2, fun _ => ?_, fun z => absurd z (by simp [rdNx, uA, uL, uR, uS, uN, uF, uT, uG, uK, rdA]), fun z => absurd z (by simp [rdNx, uA, uL, uR, uS, uN, uF, uT, uG, uK, rdA]), ?_⟩
  · simpa [rdNx, uA, uL, uR, uS, uN, uF, uT, uG, uK, rdL, rdR, rdT] using h3 (by decide)
  · simp only [rdNx, uA, uL, uR, uS, uN, uF, uT, uG, uK, psh]
    exact h6
theorem mr_sign (h : mRd u sp k bl rd) (ha : uA u = 1 ∨ uA u = 3) (hc : 60 ≤ c ∧ c ≤ 62) (hI : rdI u N) : mRd (rdNx c u) 4 k false (qu rd (5 * k + 2) (c - 60)) := by
  obtain ⟨a, l, r, s, n, f, t, G, q⟩ := u
  obtain ⟨h1, h2, h3, h4, h5, h6⟩ := h
  have hf := hI.2.2.2.2.2.2.2.1
  simp only [uA, uL, uR, uS, uN, uF, uT, uG, uK] at *
  have e1 : c ≠ 45 := by omega
  have e2 : c ≠ 59 := by omega
  have hf := hf (by omega)
  subst hf
  rcases ha with ha | ha <;> subst ha
  all_goals
    refine ⟨by simp [rdNx, uA, uL, uR, uS, uN, uF, uT, uG, uK, rdA, stp, e1], by simp [rdNx, uA, uL, uR, uS, uN, uF, uT, uG, uK, psh]; exact h2, fun _ => ?_, fun z => ?_, fun z => absurd z (by simp [rdNx, uA, uL, uR, uS, uN, uF, uT, uG, uK, rdA, e1]), ?_⟩
    · simpa [rdNx, uA, uL, uR, uS, uN, uF, uT, uG, uK, rdL, rdR, rdT, qu] using h3 (by decide)
    · simp [rdNx, uA, uL, uR, uS, uN, uF, uT, uG, uK, rdS, rdF, qu, e1]
    · simp only [rdNx, uA, uL, uR, uS, uN, uF, uT, uG, uK, psh]
      exact mr_rows h6
theorem mr_right (h : mRd u sp k bl rd) (ha : uA u = 2) : mRd (rdNx c u) 3 k bl (qu rd (5 * k + 1) (c - 97)) := by
  obtain ⟨a, l, r, s, n, f, t, G, q⟩ := u
  obtain ⟨h1, h2, h3, h4, h5, h6⟩ := h
  simp only [uA, uL, uR, uS, uN, uF, uT, uG, uK] at *
  subst ha
  refine ⟨by simp [rdNx, uA, uL, uR, uS, uN, uF, uT, uG, uK, rdA, stp], by simp [rdNx, uA, uL, uR, uS, uN, uF, uT, uG, uK, psh]; exact h2, fun _ => ?_, fun z => absurd z (by simp [rdNx, uA, uL, uR, uS, uN, uF, uT, uG, uK, rdA]), fun z => absurd z (by simp [rdNx, uA, uL, uR, uS, uN, uF, uT, uG, uK, rdA]), ?_⟩
  · have q := h3 (by decide)
    simpa [rdNx, uA, uL, uR, uS, uN, uF, uT, uG, uK, rdL, rdR, rdT, qu] using ⟨q.1, q.2.2⟩
  · simp only [rdNx, uA, uL, uR, uS, uN, uF, uT, uG, uK, psh]
    exact mr_rows h6
theorem mr_neg (h : mRd u sp k bl rd) (ha : uA u = 4) (hc : c = 45) : mRd (rdNx c u) 5 k true rd := by
  obtain ⟨a, l, r, s, n, f, t, G, q⟩ := u
  obtain ⟨h1, h2, h3, h4, h5, h6⟩ := h
  simp only [uA, uL, uR, uS, uN, uF, uT, uG, uK] at *
  subst ha
  subst hc
  refine ⟨by simp [rdNx, uA, uL, uR, uS, uN, uF, uT, uG, uK, rdA, stp], by simp [rdNx, uA, uL, uR, uS, uN, uF, uT, uG, uK, psh]; exact h2, fun _ => ?_, fun z => ?_, fun z => absurd z (by simp [rdNx, uA, uL, uR, uS, uN, uF, uT, uG, uK, rdA]), ?_⟩
  · simpa [rdNx, uA, uL, uR, uS, uN, uF, uT, uG, uK, rdL, rdR, rdT] using h3 (by decide)
  · simpa [rdNx, uA, uL, uR, uS, uN, uF, uT, uG, uK, rdS, rdF] using (h4 (by decide)).1
  · simp only [rdNx, uA, uL, uR, uS, uN, uF, uT, uG, uK, psh]
    exact h6
theorem mr_number (h : mRd u sp k bl rd) (ha : (uA u = 4 ∧ 48 ≤ c ∧ c ≤ 57) ∨ (uA u = 5 ∧ 49 ≤ c ∧ c ≤ 57)) (hI : rdI u N) : mRd (rdNx c u) 6 k bl (qu rd (5 * k + 3) (c - 48)) := by
  obtain ⟨a, l, r, s, n, f, t, G, q⟩ := u
  obtain ⟨h1, h2, h3, h4, h5, h6⟩ := h
  have hn := hI.2.2.2.2.1
  simp only [uA, uL, uR, uS, uN, uF, uT, uG, uK] at *
  have e1 : c ≠ 45 := by omega
  have hn : n = 0 := by
    have := hn (by omega)
    omega
  subst hn
  rcases ha with ⟨ha, g1, g2⟩ | ⟨ha, g1, g2⟩ <;> subst ha
  · refine ⟨?_, by simp [rdNx, uA, uL, uR, uS, uN, uF, uT, uG, uK, psh]; exact h2, fun _ => ?_, fun z => ?_, fun z => ?_, ?_⟩
    · by_cases e : c = 48 <;> simp [rdNx, uA, uL, uR, uS, uN, uF, uT, uG, uK, rdA, stp, e1, e]
    · simpa [rdNx, uA, uL, uR, uS, uN, uF, uT, uG, uK, rdL, rdR, rdT, qu] using h3 (by decide)
    · simpa [rdNx, uA, uL, uR, uS, uN, uF, uT, uG, uK, rdS, rdF, qu, e1] using h4 (by decide)
    · by_cases e : c = 48 <;> simp [rdNx, uA, uL, uR, uS, uN, uF, uT, uG, uK, rdN, qu, e1, e]
    · simp only [rdNx, uA, uL, uR, uS, uN, uF, uT, uG, uK, psh]
      exact mr_rows h6
  · refine ⟨by simp [rdNx, uA, uL, uR, uS, uN, uF, uT, uG, uK, rdA, stp, e1], by simp [rdNx, uA, uL, uR, uS, uN, uF, uT, uG, uK, psh]; exact h2, fun _ => ?_, fun z => ?_, fun z => ?_, ?_⟩
    · simpa [rdNx, uA, uL, uR, uS, uN, uF, uT, uG, uK, rdL, rdR, rdT, qu] using h3 (by decide)
    · simpa [rdNx, uA, uL, uR, uS, uN, uF, uT, uG, uK, rdS, rdF, qu, e1] using h4 (by decide)
    · simp [rdNx, uA, uL, uR, uS, uN, uF, uT, uG, uK, rdN, qu, e1]
    · simp only [rdNx, uA, uL, uR, uS, uN, uF, uT, uG, uK, psh]
      exact mr_rows h6
theorem mr_bang (h : mRd u sp k bl rd) (ha : uA u = 6 ∨ uA u = 7) (hc : c = 33) : mRd (rdNx c u) 7 k bl rd := by
  obtain ⟨a, l, r, s, n, f, t, G, q⟩ := u
  obtain ⟨h1, h2, h3, h4, h5, h6⟩ := h
  simp only [uA, uL, uR, uS, uN, uF, uT, uG, uK] at *
  subst hc
  rcases ha with ha | ha <;> subst ha
  all_goals
    refine ⟨by simp [rdNx, uA, uL, uR, uS, uN, uF, uT, uG, uK, rdA, stp], by simp [rdNx, uA, uL, uR, uS, uN, uF, uT, uG, uK, psh]; exact h2, fun _ => ?_, fun z => ?_, fun z => ?_, ?_⟩
    · simpa [rdNx, uA, uL, uR, uS, uN, uF, uT, uG, uK, rdL, rdR, rdT] using h3 (by decide)
    · simpa [rdNx, uA, uL, uR, uS, uN, uF, uT, uG, uK, rdS, rdF] using h4 (by decide)
    · simpa [rdNx, uA, uL, uR, uS, uN, uF, uT, uG, uK, rdN] using h5 (by decide)
    · simp only [rdNx, uA, uL, uR, uS, uN, uF, uT, uG, uK, psh]
      exact h6
theorem mr_digit (h : mRd u sp k bl rd) (ha : uA u = 6) (hc : 48 ≤ c ∧ c ≤ 57) : mRd (rdNx c u) 6 k bl (qu rd (5 * k + 3) (10 * rd (5 * k + 3) + c - 48)) := by
  obtain ⟨a, l, r, s, n, f, t, G, q⟩ := u
  obtain ⟨h1, h2, h3, h4, h5, h6⟩ := h
  simp only [uA, uL, uR, uS, uN, uF, uT, uG, uK] at *
  have e1 : c ≠ 33 := by omega
  have e2 : c ≠ 59 := by omega
  subst ha
  refine ⟨by simp [rdNx, uA, uL, uR, uS, uN, uF, uT, uG, uK, rdA, stp, e1, e2], by simp [rdNx, uA, uL, uR, uS, uN, uF, uT, uG, uK, psh, e2]; exact h2, fun _ => ?_, fun z => ?_, fun z => ?_, ?_⟩
  · simpa [rdNx, uA, uL, uR, uS, uN, uF, uT, uG, uK, rdL, rdR, rdT, qu] using h3 (by decide)
  · simpa [rdNx, uA, uL, uR, uS, uN, uF, uT, uG, uK, rdS, rdF, qu] using h4 (by decide)
  · simp [rdNx, uA, uL, uR, uS, uN, uF, uT, uG, uK, rdN, qu, hc, h5 (by decide)]
  · simp only [rdNx, uA, uL, uR, uS, uN, uF, uT, uG, uK, psh, e2]
    exact mr_rows h6
theorem mr_str (h : mRd u sp k bl rd) (ha : uA u = 8) : mRd (rdNx c u) 8 k bl (qu rd (5 * k + 4) (c - 48)) := by
  obtain ⟨a, l, r, s, n, f, t, G, q⟩ := u
  obtain ⟨h1, h2, h3, h4, h5, h6⟩ := h
  simp only [uA, uL, uR, uS, uN, uF, uT, uG, uK] at *
  subst ha
  refine ⟨by simp [rdNx, uA, uL, uR, uS, uN, uF, uT, uG, uK, rdA, stp], by simp [rdNx, uA, uL, uR, uS, uN, uF, uT, uG, uK, psh]; exact h2, fun _ => ?_, fun z => ?_, fun z => ?_, ?_⟩
  · have q := h3 (by decide)
    simpa [rdNx, uA, uL, uR, uS, uN, uF, uT, uG, uK, rdL, rdR, rdT, qu] using ⟨q.1, q.2.1⟩
  · simpa [rdNx, uA, uL, uR, uS, uN, uF, uT, uG, uK, rdS, rdF, qu] using h4 (by decide)
  · simpa [rdNx, uA, uL, uR, uS, uN, uF, uT, uG, uK, rdN, qu] using h5 (by decide)
  · simp only [rdNx, uA, uL, uR, uS, uN, uF, uT, uG, uK, psh]
    exact mr_rows h6
theorem mr_end (h : mRd u sp k bl rd) (ha : uA u = 6 ∨ uA u = 7 ∨ uA u = 9) (hI : rdI u N) : mRd (rdNx 59 u) 0 (k + 1) bl (qu rd (5 * k + 3) (if bl = true then -(rd (5 * k + 3)) else rd (5 * k + 3))) := by
  have hp : psh (uA u) 59 = true := psh_iff.mpr ⟨ha, rfl⟩
  have hf := hI.2.1
  obtain ⟨h1, h2, h3, h4, h5, h6⟩ := h
  have e0 : rdA (uA u) 59 = 0 := (rdA_0 (n := uN u) (l := uL u) (by unfold rdOk; omega)).mpr ⟨ha, rfl⟩
  obtain ⟨q1, q2, q3⟩ := h3 (by omega)
  obtain ⟨q4, q5⟩ := h4 (by omega)
  have q6 := h5 (by omega)
  refine ⟨by show 0 = stp (rdA (uA u) 59); rw [e0]; rfl, ?_, fun z => absurd e0 z, fun z => ?_, fun z => ?_, fun g i hg hi => ?_⟩
  · show k + 1 = if psh (uA u) 59 = true then uK u + 1 else uK u
    rw [if_pos hp, h2]
  · exact absurd (show 4 ≤ rdA (uA u) 59 from z) (by rw [e0]; decide)
  · exact absurd (show 6 ≤ rdA (uA u) 59 from z) (by rw [e0]; decide)
  · show _ = (if psh (uA u) 59 = true then (fun g i => if i = uK u then row5 (uL u) (uR u) (uS u) (uF u * uN u) (uT u) g else uG u g i) else uG u) g i
    rw [if_pos hp, ← h2]
    by_cases e : i = k
    · subst e
      rw [if_pos rfl]
      have hF : (if bl = true then -(rd (5 * i + 3)) else rd (5 * i + 3)) = uF u * uN u := by
        rw [q6]
        by_cases e : bl = true
        · rw [if_pos e, q5.mp e, Int.neg_one_mul]
        · rw [if_neg e]
          have : uF u = 1 := by
            have := mt q5.mpr e
            omega
          rw [this, Int.one_mul]
      rw [hF]
      rcases (show g = 0 ∨ g = 1 ∨ g = 2 ∨ g = 3 ∨ g = 4 by omega) with rfl | rfl | rfl | rfl | rfl
      · rw [qu_n _ _ (by omega)]; exact q1
      · rw [qu_n _ _ (by omega)]; exact q2
      · rw [qu_n _ _ (by omega)]; exact q4
      · rw [qu_s]; rfl
      · rw [qu_n _ _ (by omega)]; exact q3
    · rw [if_neg e, qu_n _ _ (by omega)]
      exact h6 g i hg (by omega)
end MRD
