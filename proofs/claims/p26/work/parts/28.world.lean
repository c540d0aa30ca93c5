def clsB (cy : Nat → ClassId) (x la lv9 ls9 fa xh xs la2 lv92 ls92 fb fw bu ta : Nat) (rc re gb oc oe rs rc2 re2 gb2 oc2 oe2 rs2 rr : Nat → Nat) (ad : Nat → Nat → Nat) (kw : Bool) (ln : Nat) (v st : Nat → Int) (C : Nat → Nat → Int) (nc : Nat) (E : Nat → Nat → Int) (ne : Nat) (tt : Int) (M : Nat → Nat → Int) (FC : Nat) (mgC tnC : Nat → Int) (FE : Nat) (mgE tnE : Nat → Int) (N : Nat → Nat → Int) (nx hz : Nat) (Z : Nat → LSt) (wo v2 st2 : Nat → Int) (C2 : Nat → Nat → Int) (n2 : Int) (E2 : Nat → Nat → Int) (m2 t1 : Int) (M1 : Nat → Nat → Int) (F1 : Int) (g1 q1 : Nat → Int) (G1 : Int) (e1 y1 : Nat → Int) (N1 : Nat → Nat → Int) (bf : Nat → Int) (a9 l9 r9 s9 n9 f9 t9 : Int) (Gr : Nat → Nat → Int) (nr : Int) : List va_W := [[(x, .inr (7, [.ref (la), .ref (fa), .ref (xh), .ref (la2), .ref (fb), .ref (fw), .int (qz (kw)), .ref (bu), .int (qI (((ln : Nat) : Int))), .ref (ta)]))], [(la, .inr (3, [.ref (lv9), .ref (ls9), .ref (rc 0), .ref (re 0)]))], [(lv9, aI cy 10 (v))], [(ls9, aI cy 10 (st))], qRu cy rc (C) (((nc : Nat) : Int)), qRu cy re (E) (((ne : Nat) : Int)), [(fa, .inr (1, [.ref (gb 0), .ref (oc 0), .ref (oe 0), .ref (rs 0), .int (qI (tt))]))], qBo cy gb (M), qOu cy oc (((FC : Nat) : Int)) (mgC) (tnC), qOu cy oe (((FE : Nat) : Int)) (mgE) (tnE), qBo cy rs (N), qHi cy xh xs ad nx hz Z, [(fw, aI cy 16 (wo))], [(la2, .inr (3, [.ref (lv92), .ref (ls92), .ref (rc2 0), .ref (re2 0)]))], [(lv92, aI cy 10 (v2))], [(ls92, aI cy 10 (st2))], qRu cy rc2 (C2) (n2), qRu cy re2 (E2) (m2), [(fb, .inr (1, [.ref (gb2 0), .ref (oc2 0), .ref (oe2 0), .ref (rs2 0), .int (qI (t1))]))], qBo cy gb2 (M1), qOu cy oc2 (F1) (g1) (q1), qOu cy oe2 (G1) (e1) (y1), qBo cy rs2 (N1), [(bu, aI cy 60 (bf))], [(ta, .inr (6, [.ref (rr 0), .int (qI (a9)), .int (qI (l9)), .int (qI (r9)), .int (qI (s9)), .int (qI (n9)), .int (qI (f9)), .int (qI (t9))]))], qRu cy rr (Gr) (nr)]
theorem fl_open {bs : List va_W} (L : List va_W) : (L.flatten :: bs).flatten = (L ++ bs).flatten := by simp
/-- the block W is a StrengthLayout that holds the layout T, hz saved ones (HZ 0 the latest), and the text tx of len characters -/
def CW (cy : Nat → ClassId) (x la lv9 ls9 fa xh xs la2 lv92 ls92 fb fw bu ta : Nat) (rc re gb oc oe rs rc2 re2 gb2 oc2 oe2 rs2 rr : Nat → Nat) (ad : Nat → Nat → Nat) (T : LSt) (hz : Nat) (HZ : Nat → LSt) (len : Nat) (tx : Nat → Int) (W : va_W) : Prop := ∃ (kw : Bool) (v st : Nat → Int) (C : Nat → Nat → Int) (nc : Nat) (E : Nat → Nat → Int) (ne : Nat) (tt : Int) (M : Nat → Nat → Int) (FC : Nat) (mgC tnC : Nat → Int) (FE : Nat) (mgE tnE : Nat → Int) (N : Nat → Nat → Int) (nx : Nat) (Z : Nat → LSt) (wo v2 st2 : Nat → Int) (C2 : Nat → Nat → Int) (n2 : Int) (E2 : Nat → Nat → Int) (m2 t1 : Int) (M1 : Nat → Nat → Int) (F1 : Int) (g1 q1 : Nat → Int) (G1 : Int) (e1 y1 : Nat → Int) (N1 : Nat → Nat → Int) (bf : Nat → Int) (a9 l9 r9 s9 n9 f9 t9 : Int) (Gr : Nat → Nat → Int) (nr : Int), W = (clsB cy x la lv9 ls9 fa xh xs la2 lv92 ls92 fb fw bu ta rc re gb oc oe rs rc2 re2 gb2 oc2 oe2 rs2 rr ad kw len v st C nc E ne tt M FC mgC tnC FE mgE tnE N nx hz Z wo v2 st2 C2 n2 E2 m2 t1 M1 F1 g1 q1 G1 e1 y1 N1 bf a9 l9 r9 s9 n9 f9 t9 Gr nr).flatten ∧ LEq (v, st, C, nc, E, ne) T ∧ fCan C nc E ne (-1) M FC mgC tnC FE mgE ∧ (kw = true → kWo C nc E ne wo nc) ∧ (nx < 8 ∧ hz ≤ 8 ∧ (∀ j, j < 8 → lN9 (Z j) ≤ 16 ∧ lM (Z j) ≤ 16) ∧ ∀ i, i < hz → LEq (Z ((nx + 7 - i) % 8)) (HZ i)) ∧ (len ≤ 60 ∧ (∀ i, i < len → bf i = tx i) ∧ ∀ i, i < len → 33 ≤ tx i ∧ tx i ≤ 126)


/-- one more saved state: the latest is T -/
def pushH (T : LSt) (HZ : Nat → LSt) : Nat → LSt := fun i => if i = 0 then T else HZ (i - 1)
theorem hist_push {Z HZ : Nat → LSt} {nx hz : Nat} {T u : LSt} (hnx : nx < 8) (hhz : hz ≤ 8) (h : ∀ i, i < hz → LEq (Z ((nx + 7 - i) % 8)) (HZ i)) (hu : LEq u T) : ∀ i, i < min (hz + 1) 8 → LEq (qu Z nx u (((nx + 1) % 8 + 7 - i) % 8)) (pushH T HZ i) := by
  intro i hi
  unfold pushH
  by_cases e : i = 0
  · subst e
    rw [if_pos rfl, show ((nx + 1) % 8 + 7 - 0) % 8 = nx by omega, qu_s]
    exact hu
  · rw [if_neg e, qu_n _ _ (by omega), show ((nx + 1) % 8 + 7 - i) % 8 = (nx + 7 - (i - 1)) % 8 by omega]
    exact h (i - 1) (by omega)
theorem hist_pop {Z HZ : Nat → LSt} {nx hz : Nat} (hnx : nx < 8) (hhz : 1 ≤ hz ∧ hz ≤ 8) (h : ∀ i, i < hz → LEq (Z ((nx + 7 - i) % 8)) (HZ i)) : ∀ i, i < hz - 1 → LEq (Z (((nx + 7) % 8 + 7 - i) % 8)) (HZ (i + 1)) := by
  intro i hi
  rw [show ((nx + 7) % 8 + 7 - i) % 8 = (nx + 7 - (i + 1)) % 8 by omega]
  exact h (i + 1) (by omega)
theorem hist_sz {Z : Nat → LSt} {nx : Nat} {u : LSt} (h : ∀ j, j < 8 → lN9 (Z j) ≤ 16 ∧ lM (Z j) ≤ 16) (hu : lN9 u ≤ 16 ∧ lM u ≤ 16) : ∀ j, j < 8 → lN9 (qu Z nx u j) ≤ 16 ∧ lM (qu Z nx u j) ≤ 16 := by
  intro j hj
  by_cases e : j = nx
  · subst e
    rw [qu_s]
    exact hu
  · rw [qu_n _ _ e]
    exact h j hj
/-! the changes keep a layout good -/
def qW1 (G : Nat → Nat → Int) (i : Nat) : Prop := (0 ≤ G 0 i ∧ G 0 i ≤ 9) ∧ (-1 ≤ G 1 i ∧ G 1 i ≤ 9) ∧ (0 ≤ G 2 i ∧ G 2 i ≤ 2) ∧ (-2000 ≤ G 3 i ∧ G 3 i ≤ 2000) ∧ (0 ≤ G 4 i ∧ G 4 i ≤ 3) ∧ G 0 i ≠ G 1 i
theorem qW1_eq {G F : Nat → Nat → Int} {i j : Nat} (h : ∀ f, f < 5 → G f i = F f j) (q : qW1 F j) : qW1 G i := by
  unfold qW1 at q ⊢
  rw [h 0 (by decide), h 1 (by decide), h 2 (by decide), h 3 (by decide), h 4 (by decide)]
  exact q
theorem adC_ok {T : LSt} (g : gOk T) {l r s n st : Int} (hn : lN9 T < 16) (h : (0 ≤ l ∧ l ≤ 9) ∧ (-1 ≤ r ∧ r ≤ 9) ∧ (0 ≤ s ∧ s ≤ 2) ∧ (-2000 ≤ n ∧ n ≤ 2000) ∧ (0 ≤ st ∧ st ≤ 3) ∧ l ≠ r) : gOk (adC T l r s n st) := by
  obtain ⟨h1, h2, h3, h4, h5, h6⟩ := g
  refine ⟨h1, h2, ⟨by show lN9 T + 1 ≤ 16; omega, fun i hi => ?_⟩, h4, h5, h6⟩
  have hi : i < lN9 T + 1 := hi
  by_cases e : i = lN9 T
  · exact qW1_eq (F := fun f _ => row5 l r s n st f) (j := 0) (fun f hf => if_pos e) h
  · exact qW1_eq (F := lC T) (j := i) (fun f hf => if_neg e) (h3.2 i (by omega))
theorem rmC_ok {T : LSt} (g : gOk T) (k : Nat) : gOk (rmC T k) := by
  obtain ⟨h1, h2, h3, h4, h5, h6⟩ := g
  refine ⟨h1, h2, ⟨by show lN9 T - 1 ≤ 16; omega, fun i hi => ?_⟩, h4, h5, h6⟩
  have hi : i < lN9 T - 1 := hi
  by_cases e : i < k
  · exact qW1_eq (F := lC T) (j := i) (fun f hf => if_pos e) (h3.2 i (by omega))
  · exact qW1_eq (F := lC T) (j := i + 1) (fun f hf => if_neg e) (h3.2 (i + 1) (by omega))
theorem chC4_ok {T : LSt} (g : gOk T) (k : Nat) {z : Int} (h : 0 ≤ z ∧ z ≤ 3) : gOk (chC T 4 k z) := by
  obtain ⟨h1, h2, h3, h4, h5, h6⟩ := g
  exact ⟨h1, h2, ⟨h3.1, qWR_stW h3.2 h⟩, h4, h5, h6⟩
theorem chC3_ok {T : LSt} (g : gOk T) (k : Nat) {z : Int} (h : -2000 ≤ z ∧ z ≤ 2000) : gOk (chC T 3 k z) := by
  obtain ⟨h1, h2, h3, h4, h5, h6⟩ := g
  refine ⟨h1, h2, ⟨h3.1, fun i hi => ?_⟩, h4, h5, h6⟩
  have q : qW1 (lC T) i := h3.2 i hi
  have e : ∀ f, f < 5 → qu (lC T) 3 (qu (lC T 3) k z) f i = if f = 3 ∧ i = k then z else lC T f i := by
    intro f hf
    by_cases e : f = 3
    · subst e
      rw [qu_s]
      by_cases e2 : i = k
      · subst e2
        rw [qu_s, if_pos ⟨rfl, rfl⟩]
      · rw [qu_n _ _ e2, if_neg (fun q => e2 q.2)]
    · rw [qu_n _ _ e, if_neg (fun q => e q.1)]
  refine qW1_eq (G := qu (lC T) 3 (qu (lC T 3) k z)) (F := fun f i => if f = 3 ∧ i = k then z else lC T f i) (j := i) e ?_
  unfold qW1 at q ⊢
  refine ⟨q.1, q.2.1, q.2.2.1, ?_, q.2.2.2.2⟩
  by_cases e2 : i = k
  · simp [e2]
    exact h
  · simp [e2]
    exact q.2.2.2.1
theorem chT_ok {T : LSt} (g : gOk T) (k : Nat) {z : Int} (h : 0 ≤ z ∧ z ≤ 9) : gOk (chT T k z) := by
  obtain ⟨h1, h2, h3, h4, h5, h6⟩ := g
  refine ⟨h1, fun i hi => ?_, h3, h4, h5, h6⟩
  show 0 ≤ qu (lT T) k z i ∧ qu (lT T) k z i ≤ 9
  by_cases e : i = k
  · subst e
    rw [qu_s]
    exact h
  · rw [qu_n _ _ e]
    exact h2 i hi
theorem edOf_none {E : Nat → Nat → Int} {x : Int} : ∀ {n : Nat}, edOf E x n = -1 → ∀ i, i < n → E 0 i ≠ x
  | 0, _, i, hi => absurd hi (Nat.not_lt_zero i)
  | n + 1, h, i, hi => by
    simp only [edOf] at h
    have er := edOf_rng E x n
    by_cases e : edOf E x n ≠ -1
    · rw [if_pos e] at h
      exact absurd h e
    · rw [if_neg e] at h
      by_cases e2 : E 0 n = x
      · rw [if_pos e2] at h
        omega
      · by_cases e3 : i = n
        · subst e3
          exact e2
        · exact edOf_none (n := n) (by omega) i (by omega)
theorem adE_ok {T : LSt} (g : gOk T) {x w s : Int} (hx : 0 ≤ x ∧ x ≤ 9) (hw : -1000 ≤ w ∧ w ≤ 1000) (hs : 0 ≤ s ∧ s ≤ 3) (hn : edOf (lE T) x (lM T) ≠ -1 ∨ lM T < 4) : gOk (adE T x w s) := by
  obtain ⟨h1, h2, h3, h4, h5, h6⟩ := g
  have er := edOf_rng (lE T) x (lM T)
  have eis : edOf (lE T) x (lM T) ≠ -1 → lE T 0 (edOf (lE T) x (lM T)).toNat = x := fun h => edOf_is h
  have eno : edOf (lE T) x (lM T) = -1 → ∀ i, i < lM T → lE T 0 i ≠ x := fun h => edOf_none h
  have f0 : ∀ i, i < wfN (lE T) (lM T) x → (wfE (lE T) (lM T) x w s 0 i = lE T 0 i ∧ i < lM T) ∨ (wfE (lE T) (lM T) x w s 0 i = x ∧ i = lM T ∧ edOf (lE T) x (lM T) = -1) := by
    intro i hi
    unfold wfN at hi
    unfold wfE
    by_cases e : edOf (lE T) x (lM T) = -1
    · rw [if_pos e] at hi ⊢
      by_cases e2 : i = lM T
      · rw [if_pos e2]
        exact Or.inr ⟨rfl, e2, e⟩
      · rw [if_neg e2]
        exact Or.inl ⟨rfl, by omega⟩
    · rw [if_neg e] at hi ⊢
      by_cases e2 : i = (edOf (lE T) x (lM T)).toNat
      · rw [if_pos e2]
        exact Or.inl ⟨rfl, hi⟩
      · rw [if_neg e2]
        exact Or.inl ⟨rfl, hi⟩
  have rest : ∀ i, i < wfN (lE T) (lM T) x → wfE (lE T) (lM T) x w s 1 i = -1 ∧ wfE (lE T) (lM T) x w s 2 i = 1 ∧ (-1000 ≤ wfE (lE T) (lM T) x w s 3 i ∧ wfE (lE T) (lM T) x w s 3 i ≤ 1000) ∧ (0 ≤ wfE (lE T) (lM T) x w s 4 i ∧ wfE (lE T) (lM T) x w s 4 i ≤ 3) := by
    intro i hi
    unfold wfN at hi
    unfold wfE
    by_cases e : edOf (lE T) x (lM T) = -1
    · rw [if_pos e] at hi
      simp only [if_pos e]
      by_cases e2 : i = lM T
      · simp only [if_pos e2]
        exact ⟨rfl, rfl, hw, hs⟩
      · simp only [if_neg e2]
        have q := h5 i (by omega)
        exact ⟨q.1, q.2.1, q.2.2, (h4.2 i (by omega)).2.2.2.2.1⟩
    · rw [if_neg e] at hi
      simp only [if_neg e]
      have q := h5 i hi
      by_cases e2 : i = (edOf (lE T) x (lM T)).toNat
      · simp only [if_pos e2]
        exact ⟨q.1, q.2.1, hw, hs⟩
      · simp only [if_neg e2]
        exact ⟨q.1, q.2.1, q.2.2, (h4.2 i hi).2.2.2.2.1⟩
  refine ⟨h1, h2, h3, ⟨?_, fun i hi => ?_⟩, fun i hi => ?_, fun i j hi hj e => ?_⟩
  · show wfN (lE T) (lM T) x ≤ 4
    unfold wfN
    split <;> omega
  · obtain ⟨r1, r2, r3, r4⟩ := rest i hi
    have r0 := f0 i hi
    show (0 ≤ wfE (lE T) (lM T) x w s 0 i ∧ wfE (lE T) (lM T) x w s 0 i ≤ 9) ∧ (-1 ≤ wfE (lE T) (lM T) x w s 1 i ∧ wfE (lE T) (lM T) x w s 1 i ≤ 9) ∧ (0 ≤ wfE (lE T) (lM T) x w s 2 i ∧ wfE (lE T) (lM T) x w s 2 i ≤ 2) ∧ (-2000 ≤ wfE (lE T) (lM T) x w s 3 i ∧ wfE (lE T) (lM T) x w s 3 i ≤ 2000) ∧ (0 ≤ wfE (lE T) (lM T) x w s 4 i ∧ wfE (lE T) (lM T) x w s 4 i ≤ 3) ∧ wfE (lE T) (lM T) x w s 0 i ≠ wfE (lE T) (lM T) x w s 1 i
    have r5 : 0 ≤ wfE (lE T) (lM T) x w s 0 i ∧ wfE (lE T) (lM T) x w s 0 i ≤ 9 := by
      rcases r0 with ⟨a, b⟩ | ⟨a, b⟩
      · rw [a]; exact (h4.2 i b).1
      · rw [a]; exact hx
    omega
  · obtain ⟨r1, r2, r3, r4⟩ := rest i hi
    exact ⟨r1, r2, r3.1, r3.2⟩
  · have e : wfE (lE T) (lM T) x w s 0 i = wfE (lE T) (lM T) x w s 0 j := e
    rcases f0 i hi with ⟨a1, b1⟩ | ⟨a1, b1, c1⟩ <;> rcases f0 j hj with ⟨a2, b2⟩ | ⟨a2, b2, c2⟩
    · exact h6 i j b1 b2 (by rw [← a1, ← a2]; exact e)
    · exact absurd (by rw [← a1, e, a2]) (eno c2 i b1)
    · exact absurd (by rw [← a2, ← e, a1]) (eno c1 j b2)
    · omega
theorem enE_ok {T : LSt} (g : gOk T) : gOk (enE T) := by
  obtain ⟨h1, h2, h3, h4, h5, h6⟩ := g
  exact ⟨h1, h2, h3, ⟨Nat.zero_le _, fun i hi => absurd hi (Nat.not_lt_zero i)⟩, fun i hi => absurd hi (Nat.not_lt_zero i), fun i j hi => absurd hi (Nat.not_lt_zero i)⟩
theorem frV_ok {T : LSt} (g : gOk T) {z : Int} (hz : -1000 ≤ z ∧ z ≤ 1000) : gOk (frV T z) := by
  obtain ⟨h1, h2, h3, h4, h5, h6⟩ := g
  exact ⟨fun _ _ => hz, h2, h3, h4, h5, h6⟩
theorem ldC_ok {T : LSt} (g : gOk T) {G : Nat → Nat → Int} {k : Nat} (hk : lN9 T + k ≤ 16) (hG : qWR G k) : gOk (ldC T G k) := by
  obtain ⟨h1, h2, h3, h4, h5, h6⟩ := g
  refine ⟨h1, h2, ⟨hk, fun i hi => ?_⟩, h4, h5, h6⟩
  have hi : i < lN9 T + k := hi
  by_cases e : i < lN9 T
  · exact qW1_eq (F := lC T) (j := i) (fun f hf => if_pos e) (h3.2 i e)
  · exact qW1_eq (F := G) (j := i - lN9 T) (fun f hf => if_neg e) (hG (i - lN9 T) (by omega))
