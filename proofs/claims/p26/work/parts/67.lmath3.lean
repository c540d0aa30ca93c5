/-! ===== what the law's told compares ===== -/
def lwR (T : LSt) (va co ed dd : Nat → Int) : Prop := (∀ i, i < 10 → va i = lV T i) ∧ (∀ i, i < 10 → va (10 + i) = lT T i) ∧ rC (lC T) (lN9 T) co ∧ rE (lE T) (lM T) ed ∧ dd 0 = (lN9 T : Int) ∧ dd 1 = (lM T : Int)
theorem cnt_s {P : Nat → Bool} {n : Nat} {z : Int} (h : (P n = true ∧ z = 1) ∨ (P n = false ∧ z = 0)) : ((cnt P n : Nat) : Int) + z = ((cnt P (n + 1) : Nat) : Int) := by
  simp only [cnt]
  rcases h with ⟨h1, h2⟩ | ⟨h1, h2⟩
  · rw [if_pos h1]
    omega
  · rw [if_neg (by rw [h1]; decide)]
    omega
theorem cnt_t {P : Nat → Bool} {n : Nat} {z : Int} (h : z = ((P n).toNat : Int)) : ((cnt P n : Nat) : Int) + z = ((cnt P (n + 1) : Nat) : Int) := by
  refine cnt_s ?_
  cases e : P n
  · rw [e] at h
    exact Or.inr ⟨rfl, h⟩
  · rw [e] at h
    exact Or.inl ⟨rfl, h⟩
theorem ed_s1 {E : Nat → Nat → Int} {x : Int} {k ne : Nat} (hk : k < ne) (hD : ∀ i j, i < ne → j < ne → E 0 i = E 0 j → i = j) (h : E 0 k = x) : (k : Int) = edOf E x (k + 1) := by
  have er := edOf_rng E x k
  have e : edOf E x k = -1 := by
    apply Classical.byContradiction
    intro g
    have g1 := edOf_is g
    have g2 := hD (edOf E x k).toNat k (by omega) hk (g1.trans h.symm)
    omega
  simp only [edOf]
  rw [e, if_neg (by decide), if_pos h]
theorem ed_s2 {E : Nat → Nat → Int} {x : Int} {k : Nat} (h : E 0 k ≠ x) : edOf E x k = edOf E x (k + 1) := by
  simp only [edOf]
  by_cases e : edOf E x k = -1
  · rw [if_neg (by rw [e]; decide), if_neg h, e]
  · rw [if_pos e]
theorem oN_or (r : Int) (h : -1 ≤ r) : (oN r = 10 ∧ r = -1) ∨ (r = (oN r : Int) ∧ r ≠ -1) := by
  unfold oN
  by_cases e : r = -1
  · rw [if_pos e]
    exact Or.inl ⟨rfl, e⟩
  · rw [if_neg e]
    exact Or.inr ⟨by omega, e⟩
theorem wid_rng {T : LSt} (g : gOk T) : ∀ n : Nat, n ≤ 10 → 0 ≤ widS (lC T) (lN9 T) (lE T) (lM T) n ∧ widS (lC T) (lN9 T) (lE T) (lM T) n ≤ 2000 * n
  | 0, _ => ⟨Int.le_refl 0, Int.le_refl 0⟩
  | n + 1, h => by
    have ih := wid_rng g n (by omega)
    have cl := (fil_ok (but := -1) g.2.2.2.1.2 g.2.2.1.2 (Nat.le_trans g.2.2.2.1.1 (by decide)) g.2.2.1.1).1
    have b1 := cl.2.2 n 10 (by omega) (by omega)
    have b2 := cl.2.2 10 n (by omega) (by omega)
    have b3 := cl.1 n n 10 (by omega) (by omega) (by omega)
    have b4 := cl.2.1 n (by omega)
    show 0 ≤ widS (lC T) (lN9 T) (lE T) (lM T) n + (_ - (-_)) ∧ widS (lC T) (lN9 T) (lE T) (lM T) n + (_ - (-_)) ≤ 2000 * ((n + 1 : Nat) : Int)
    omega
theorem sum_rng {v : Nat → Int} (h : qV v) : ∀ n : Nat, n ≤ 10 → -1000 * (n : Int) ≤ sumV v n ∧ sumV v n ≤ 1000 * n
  | 0, _ => ⟨Int.le_refl 0, Int.le_refl 0⟩
  | n + 1, hn => by
    have ih := sum_rng h n (by omega)
    have q := h n (by omega)
    show _ ≤ sumV v n + v n ∧ sumV v n + v n ≤ _
    omega
theorem CW_at {cy : Nat → ClassId} {x la lv9 ls9 fa xh xs la2 lv92 ls92 fb fw bu ta : Nat} {rc re gb oc oe rs rc2 re2 gb2 oc2 oe2 rs2 rr : Nat → Nat} {ad : Nat → Nat → Nat} {T : LSt} {hz : Nat} {HZ : Nat → LSt} {len : Nat} {tx : Nat → Int} {W : va_W} (hW : CW cy x la lv9 ls9 fa xh xs la2 lv92 ls92 fb fw bu ta rc re gb oc oe rs rc2 re2 gb2 oc2 oe2 rs2 rr ad T hz HZ len tx W) : ∃ fs, W[0]? = some (x, .inr (7, fs)) := by
  obtain ⟨_, _, _, _, _, _, _, _, _, _, _, _, _, _, _, _, _, _, _, _, _, _, _, _, _, _, _, _, _, _, _, _, _, _, _, _, _, _, _, _, _, _, _, _, rfl, -⟩ := hW
  exact ⟨_, rfl⟩
/-! the answers, one by one -/
theorem pl_0 (T : LSt) (p : Nat) : plT T p 0 = lV T p := by unfold plT plA; rw [if_pos rfl]
theorem pl_1 (T : LSt) (p : Nat) : plT T p 1 = lT T p := by unfold plT plA; rw [if_neg (by decide), if_pos rfl]
theorem pl_2 (T : LSt) (p : Nat) : plT T p 2 = -(fM (fil (lC T) (lN9 T) (lE T) (lM T) (-1)) 10 p) := by unfold plT plA; rw [if_neg (by decide), if_neg (by decide), if_pos rfl]
theorem pl_3 (T : LSt) (p : Nat) : plT T p 3 = fM (fil (lC T) (lN9 T) (lE T) (lM T) (-1)) p 10 := by unfold plT plA; rw [if_neg (by decide), if_neg (by decide), if_neg (by decide), if_pos rfl]
def wiB (T : LSt) (p : Nat) : Nat → Bool := fun i => decide (lC T 0 i = (p : Int) ∨ lC T 1 i = (p : Int))
theorem pl_4 (T : LSt) (p : Nat) : plT T p 4 = ((cnt (wiB T p) (lN9 T) : Nat) : Int) := by unfold plT plA; rw [if_neg (by decide), if_neg (by decide), if_neg (by decide), if_neg (by decide), if_pos rfl]; rfl
theorem pl_5 (T : LSt) (p : Nat) : plT T p 5 = edOf (lE T) (p : Int) (lM T) := by unfold plT plA; rw [if_neg (by decide), if_neg (by decide), if_neg (by decide), if_neg (by decide), if_neg (by decide)]
theorem ed_0 (T : LSt) (k : Nat) : edT T k 0 = lE T 0 k := by unfold edT edA; rw [if_pos rfl]
theorem ed_1 (T : LSt) (k : Nat) : edT T k 1 = lE T 3 k := by unfold edT edA; rw [if_neg (by decide), if_pos rfl]
theorem ed_2 (T : LSt) (k : Nat) : edT T k 2 = lE T 4 k := by unfold edT edA; rw [if_neg (by decide), if_neg (by decide), if_pos rfl]
theorem ed_3 (T : LSt) (k : Nat) : edT T k 3 = ((fOE (fil (lC T) (lN9 T) (lE T) (lM T) (-1)) k).toNat : Int) := by unfold edT edA; rw [if_neg (by decide), if_neg (by decide), if_neg (by decide), if_pos rfl]
theorem ed_4 (T : LSt) (k : Nat) : edT T k 4 = fGE (fil (lC T) (lN9 T) (lE T) (lM T) (-1)) k := by unfold edT edA; rw [if_neg (by decide), if_neg (by decide), if_neg (by decide), if_neg (by decide)]
theorem ed_i {T : LSt} {ed : Nat → Int} (h : rE (lE T) (lM T) ed) {k i : Nat} (hk : k < lM T) (hi : i < 3) : edT T k (i : Int) = ed (3 * k + i) := by
  have q := h k hk
  rcases (show i = 0 ∨ i = 1 ∨ i = 2 by omega) with e | e | e
  · subst e
    exact (ed_0 T k).trans q.1.1.symm
  · subst e
    exact (ed_1 T k).trans q.1.2.1.symm
  · subst e
    exact (ed_2 T k).trans q.1.2.2.symm
theorem cT_0 (T : LSt) (k : Nat) : coT T k 0 = lC T 0 k := by unfold coT coA; rw [if_pos rfl]
theorem cT_1 (T : LSt) (k : Nat) : coT T k 1 = lC T 1 k := by unfold coT coA; rw [if_neg (by decide), if_pos rfl]
theorem cT_2 (T : LSt) (k : Nat) : coT T k 2 = lC T 2 k := by unfold coT coA; rw [if_neg (by decide), if_neg (by decide), if_pos rfl]
theorem cT_3 (T : LSt) (k : Nat) : coT T k 3 = lC T 3 k := by unfold coT coA; rw [if_neg (by decide), if_neg (by decide), if_neg (by decide), if_pos rfl]
theorem cT_4 (T : LSt) (k : Nat) : coT T k 4 = lC T 4 k := by unfold coT coA; rw [if_neg (by decide), if_neg (by decide), if_neg (by decide), if_neg (by decide), if_pos rfl]
theorem cT_5 (T : LSt) (k : Nat) : coT T k 5 = ((fOC (fil (lC T) (lN9 T) (lE T) (lM T) (-1)) k).toNat : Int) := by unfold coT coA; rw [if_neg (by decide), if_neg (by decide), if_neg (by decide), if_neg (by decide), if_neg (by decide), if_pos rfl]
theorem cT_6 (T : LSt) (k : Nat) : coT T k 6 = fGC (fil (lC T) (lN9 T) (lE T) (lM T) (-1)) k := by unfold coT coA; rw [if_neg (by decide), if_neg (by decide), if_neg (by decide), if_neg (by decide), if_neg (by decide), if_neg (by decide), if_pos rfl]
theorem cT_7 (T : LSt) (k : Nat) : coT T k 7 = fTC (fil (lC T) (lN9 T) (lE T) (lM T) (-1)) k := by unfold coT coA; rw [if_neg (by decide), if_neg (by decide), if_neg (by decide), if_neg (by decide), if_neg (by decide), if_neg (by decide), if_neg (by decide), if_pos rfl]
theorem cT_8 (T : LSt) (k : Nat) : coT T k 8 = ((culA (lC T) (lN9 T) (lE T) (lM T) k : Nat) : Int) := by unfold coT coA; rw [if_neg (by decide), if_neg (by decide), if_neg (by decide), if_neg (by decide), if_neg (by decide), if_neg (by decide), if_neg (by decide), if_neg (by decide), if_pos rfl]
theorem cT_9 (T : LSt) (k : Nat) : coT T k 9 = ((hoB (lV T) (lC T) k).toNat : Int) := by unfold coT coA; rw [if_neg (by decide), if_neg (by decide), if_neg (by decide), if_neg (by decide), if_neg (by decide), if_neg (by decide), if_neg (by decide), if_neg (by decide), if_neg (by decide)]
theorem cT_i {T : LSt} {co : Nat → Int} (h : rC (lC T) (lN9 T) co) {k i : Nat} (hk : k < lN9 T) (hi : i < 5) : coT T k (i : Int) = if i = 1 then lC T 1 k else co (5 * k + i) := by
  have q := h k hk
  rcases (show i = 0 ∨ i = 1 ∨ i = 2 ∨ i = 3 ∨ i = 4 by omega) with e | e | e | e | e
  · subst e
    exact (cT_0 T k).trans q.1.symm
  · subst e
    exact cT_1 T k
  · subst e
    exact (cT_2 T k).trans q.2.2.1.symm
  · subst e
    exact (cT_3 T k).trans q.2.2.2.1.symm
  · subst e
    exact (cT_4 T k).trans q.2.2.2.2.symm
theorem ct_0 (T : LSt) (hz : Nat) : ctT T hz 0 = (lN9 T : Int) := by unfold ctT ctA; rw [if_pos rfl]
theorem ct_1 (T : LSt) (hz : Nat) (h : lN9 T ≤ 16) : ctT T hz 1 = (cnt (fOC (fil (lC T) (lN9 T) (lE T) (lM T) (-1))) (lN9 T) : Int) := by
  unfold ctT ctA
  rw [if_neg (by decide), if_pos rfl, cnt_far (fun i hi => fil_outC (Or.inl hi)) 16 h]
theorem ct_2 (T : LSt) (hz : Nat) : ctT T hz 2 = (lM T : Int) := by unfold ctT ctA; rw [if_neg (by decide), if_neg (by decide), if_pos rfl]
theorem ct_3 (T : LSt) (hz : Nat) (h : lM T ≤ 16) : ctT T hz 3 = (cnt (fOE (fil (lC T) (lN9 T) (lE T) (lM T) (-1))) (lM T) : Int) := by
  unfold ctT ctA
  rw [if_neg (by decide), if_neg (by decide), if_neg (by decide), if_pos rfl, cnt_far (fun i hi => fil_outE hi) 16 h]
theorem ct_4 (T : LSt) (hz : Nat) : ctT T hz 4 = (hz : Int) := by unfold ctT ctA; rw [if_neg (by decide), if_neg (by decide), if_neg (by decide), if_neg (by decide), if_pos rfl]
theorem ct_5 (T : LSt) (hz : Nat) : ctT T hz 5 = (cnt (fixB (lC T) (lN9 T) (lE T) (lM T)) 10 : Int) := by unfold ctT ctA; rw [if_neg (by decide), if_neg (by decide), if_neg (by decide), if_neg (by decide), if_neg (by decide), if_pos rfl]
theorem ct_6 (T : LSt) (hz : Nat) : ctT T hz 6 = (cnt (hoB (lV T) (lC T)) (lN9 T) : Int) := by unfold ctT ctA; rw [if_neg (by decide), if_neg (by decide), if_neg (by decide), if_neg (by decide), if_neg (by decide), if_neg (by decide), if_pos rfl]
theorem ct_7 (T : LSt) (hz : Nat) : ctT T hz 7 = sumV (lV T) 10 := by unfold ctT ctA; rw [if_neg (by decide), if_neg (by decide), if_neg (by decide), if_neg (by decide), if_neg (by decide), if_neg (by decide), if_neg (by decide)]
/-! each turn is another one -/
def tI (nc : Nat) (pc : Nat → Prop) (S : FS) : Prop := (∀ k, k < nc → pc k → fTC S k < fT S) ∧ ∀ i k, i < nc → k < nc → pc i → pc k → fTC S i = fTC S k → i = k
theorem loE_tc {E : Nat → Nat → Int} {str : Int} {S : FS} : ∀ n : Nat, fTC (loE E str n S) = fTC S ∧ fT S ≤ fT (loE E str n S)
  | 0 => ⟨rfl, Int.le_refl _⟩
  | n + 1 => by
    have ih := loE_tc (E := E) (str := str) (S := S) n
    simp only [loE]
    split
    · refine ⟨ih.1, ?_⟩
      show fT S ≤ fT (loE E str n S) + 1
      omega
    · exact ih
theorem tI_E {E : Nat → Nat → Int} {str : Int} {S : FS} {nc : Nat} {pc : Nat → Prop} (n : Nat) (h : tI nc pc S) : tI nc pc (loE E str n S) := by
  obtain ⟨e1, e2⟩ := loE_tc (E := E) (str := str) (S := S) n
  refine ⟨fun k hk hp => ?_, fun i k hi hk p1 p2 => ?_⟩
  · rw [e1]
    have := h.1 k hk hp
    omega
  · rw [e1]
    exact h.2 i k hi hk p1 p2
theorem tI_C {C : Nat → Nat → Int} {but : Int} {j nc : Nat} {S : FS} : ∀ kk : Nat, tI nc (pcs C but j 0) S → tI nc (pcs C but j kk) (loC C but (3 - (j : Int)) kk S)
  | 0, h => h
  | kk + 1, h => by
    have ih := tI_C (C := C) (but := but) (j := j) (nc := nc) (S := S) kk h
    simp only [loC]
    have back : ∀ k, k ≠ kk → pcs C but j (kk + 1) k → pcs C but j kk k := fun k hk hp => by
      unfold pcs at hp ⊢
      omega
    by_cases hs : C 4 kk = 3 - (j : Int) ∧ (kk : Int) ≠ but
    · rw [if_pos hs]
      generalize loC C but (3 - (j : Int)) kk S = Y at ih ⊢
      have eT : fT (stC C kk Y) = fT Y + 1 := rfl
      have e1 : fTC (stC C kk Y) kk = fT Y := qu_s _ _ _
      have e2 : ∀ k, k ≠ kk → fTC (stC C kk Y) k = fTC Y k := fun k hk => qu_n _ _ hk
      refine ⟨fun k hk hp => ?_, fun i k hi hk p1 p2 e => ?_⟩
      · by_cases g : k = kk
        · rw [g, e1]
          omega
        · rw [e2 k g]
          have := ih.1 k hk (back k g hp)
          omega
      · by_cases g1 : i = kk <;> by_cases g2 : k = kk
        · rw [g1, g2]
        · rw [g1, e1, e2 k g2] at e
          have := ih.1 k hk (back k g2 p2)
          omega
        · rw [g2, e1, e2 i g1] at e
          have := ih.1 i hi (back i g1 p1)
          omega
        · rw [e2 i g1, e2 k g2] at e
          exact ih.2 i k hi hk (back i g1 p1) (back k g2 p2) e
    · rw [if_neg hs]
      have all : ∀ k, pcs C but j (kk + 1) k → pcs C but j kk k := fun k hp => by
        by_cases g : k = kk
        · rw [g] at hp ⊢
          unfold pcs at hp ⊢
          omega
        · exact back k g hp
      exact ⟨fun k hk hp => ih.1 k hk (all k hp), fun i k hi hk p1 p2 => ih.2 i k hi hk (all i p1) (all k p2)⟩
theorem tI_S {C E : Nat → Nat → Int} {but : Int} {nc ne : Nat} (hC : qWR C nc) : ∀ j : Nat, tI nc (pcs C but j 0) (loS E ne C nc but j S00)
  | 0 => by
    have no : ∀ k, k < nc → ¬ pcs C but 0 0 k := fun k hk h => by
      have := hC k hk
      unfold pcs at h
      omega
    exact ⟨fun k hk hp => absurd hp (no k hk), fun i k hi hk p1 => absurd p1 (no i hi)⟩
  | j + 1 => by
    have ih := tI_S (E := E) (but := but) (ne := ne) hC j
    have h2 := tI_C (C := C) (but := but) (j := j) (nc := nc) nc (tI_E (E := E) (str := 3 - (j : Int)) ne ih)
    have all : ∀ k, k < nc → pcs C but (j + 1) 0 k → pcs C but j nc k := fun k hk hp => by
      unfold pcs at hp ⊢
      omega
    exact ⟨fun k hk hp => h2.1 k hk (all k hk hp), fun i k hi hk p1 p2 => h2.2 i k hi hk (all i hi p1) (all k hk p2)⟩
theorem turn_inj {C E : Nat → Nat → Int} {nc ne : Nat} (hC : qWR C nc) {i k : Nat} (hi : i < nc) (hk : k < nc) (e : fTC (fil C nc E ne (-1)) i = fTC (fil C nc E ne (-1)) k) : i = k := by
  have h := tI_S (E := E) (but := -1) (ne := ne) hC 4
  have a := hC i hi
  have b := hC k hk
  exact h.2 i k hi hk ⟨by omega, Or.inl (by omega)⟩ ⟨by omega, Or.inl (by omega)⟩ e
/-! culprits -/
def culL (T : LSt) (k n : Nat) : Nat := if fOC (fil (lC T) (lN9 T) (lE T) (lM T) (-1)) k = true then 0 else culN (lC T) (lN9 T) (lE T) (lM T) k n
theorem culL_0 (T : LSt) (k : Nat) : culL T k 0 = 0 := by
  unfold culL
  split <;> rfl
theorem culL_end {T : LSt} {k n : Nat} (h : fOC (fil (lC T) (lN9 T) (lE T) (lM T) (-1)) k = true ∨ n = lN9 T) : culL T k n = culA (lC T) (lN9 T) (lE T) (lM T) k := by
  unfold culL culA
  rcases h with h | h
  · rw [if_pos h, if_pos h]
  · rw [h]
theorem culL_s {T : LSt} {k n z : Nat} (hf : fOC (fil (lC T) (lN9 T) (lE T) (lM T) (-1)) k = false) (h : (culB (lC T) (lN9 T) (lE T) (lM T) k n = true ∧ z = 2 ^ n) ∨ (culB (lC T) (lN9 T) (lE T) (lM T) k n = false ∧ z = 0)) : culL T k n ||| z = culL T k (n + 1) := by
  unfold culL
  rw [if_neg (by rw [hf]; decide), if_neg (by rw [hf]; decide)]
  simp only [culN]
  rcases h with ⟨h1, h2⟩ | ⟨h1, h2⟩
  · rw [if_pos h1, h2]
  · rw [if_neg (by rw [h1]; decide), h2, Nat.or_zero]
theorem culL_no {T : LSt} {k n : Nat} (hf : fOC (fil (lC T) (lN9 T) (lE T) (lM T) (-1)) k = false) (h : culB (lC T) (lN9 T) (lE T) (lM T) k n = false) : culL T k n = culL T k (n + 1) := by
  rw [← culL_s hf (z := 0) (Or.inr ⟨h, rfl⟩), Nat.or_zero]
theorem culL_lt {T : LSt} {k n : Nat} (h : n ≤ 16) : culL T k n < 65536 := by
  unfold culL
  split
  · decide
  · exact culN_lt n h
theorem culB_no1 {T : LSt} {k n : Nat} (h : fOC (fil (lC T) (lN9 T) (lE T) (lM T) (-1)) n = false) : culB (lC T) (lN9 T) (lE T) (lM T) k n = false := by
  unfold culB
  rw [h]
  rfl
theorem culB_no2 {T : LSt} {k n : Nat} (h : fTC (fil (lC T) (lN9 T) (lE T) (lM T) (-1)) k < fTC (fil (lC T) (lN9 T) (lE T) (lM T) (-1)) n) : culB (lC T) (lN9 T) (lE T) (lM T) k n = false := by
  unfold culB
  rw [show decide (fTC (fil (lC T) (lN9 T) (lE T) (lM T) (-1)) n < fTC (fil (lC T) (lN9 T) (lE T) (lM T) (-1)) k) = false from decide_eq_false (by omega), Bool.and_false, Bool.false_and]
theorem culB_is {T : LSt} {k n : Nat} (hC : qWR (lC T) (lN9 T)) (hk : k < lN9 T) (hn : n < lN9 T) (hf : fOC (fil (lC T) (lN9 T) (lE T) (lM T) (-1)) k = false) (h1 : fOC (fil (lC T) (lN9 T) (lE T) (lM T) (-1)) n = true) (h2 : fTC (fil (lC T) (lN9 T) (lE T) (lM T) (-1)) n ≤ fTC (fil (lC T) (lN9 T) (lE T) (lM T) (-1)) k) : culB (lC T) (lN9 T) (lE T) (lM T) k n = fOC (fil (lC T) (lN9 T) (lE T) (lM T) (n : Int)) k ∧ n ≠ k := by
  have hne : n ≠ k := fun e => by rw [e, hf] at h1; exact absurd h1 (by decide)
  have h3 : fTC (fil (lC T) (lN9 T) (lE T) (lM T) (-1)) n ≠ fTC (fil (lC T) (lN9 T) (lE T) (lM T) (-1)) k := fun e => hne (turn_inj hC hn hk e)
  refine ⟨?_, hne⟩
  unfold culB
  rw [h1, show decide (fTC (fil (lC T) (lN9 T) (lE T) (lM T) (-1)) n < fTC (fil (lC T) (lN9 T) (lE T) (lM T) (-1)) k) = true from decide_eq_true (by omega), Bool.true_and, Bool.true_and]
/-! the turns' range -/
def tN (S : FS) : Prop := 0 ≤ fT S ∧ ∀ k, 0 ≤ fTC S k
theorem tN_E {E : Nat → Nat → Int} {str : Int} {S : FS} (h : tN S) : ∀ n : Nat, tN (loE E str n S)
  | 0 => h
  | n + 1 => by
    have ih := tN_E (E := E) (str := str) h n
    simp only [loE]
    split
    · refine ⟨?_, ih.2⟩
      show 0 ≤ fT (loE E str n S) + 1
      have := ih.1
      omega
    · exact ih
theorem tN_C {C : Nat → Nat → Int} {but str : Int} {S : FS} (h : tN S) : ∀ n : Nat, tN (loC C but str n S)
  | 0 => h
  | n + 1 => by
    have ih := tN_C (C := C) (but := but) (str := str) h n
    simp only [loC]
    split
    · refine ⟨?_, fun k => ?_⟩
      · show 0 ≤ fT (loC C but str n S) + 1
        have := ih.1
        omega
      · show 0 ≤ qu (fTC (loC C but str n S)) n (fT (loC C but str n S)) k
        by_cases e : k = n
        · rw [e, qu_s]
          exact ih.1
        · rw [qu_n _ _ e]
          exact ih.2 k
    · exact ih
theorem tN_S {E C : Nat → Nat → Int} {ne nc : Nat} {but : Int} : ∀ j : Nat, tN (loS E ne C nc but j S00)
  | 0 => ⟨Int.le_refl 0, fun _ => Int.le_refl 0⟩
  | j + 1 => tN_C (tN_E (tN_S j) ne) nc
theorem turn_rng {C E : Nat → Nat → Int} {nc ne : Nat} (hC : qWR C nc) (hE : qWR E ne) (he : ne ≤ 16) (hc : nc ≤ 16) {k : Nat} (hk : k < nc) : 0 ≤ fTC (fil C nc E ne (-1)) k ∧ fTC (fil C nc E ne (-1)) k < 128 := by
  have h1 := (tN_S (E := E) (C := C) (ne := ne) (nc := nc) (but := -1) 4).2 k
  have h2 := (tI_S (E := E) (but := -1) (ne := ne) hC 4).1 k hk ⟨by omega, Or.inl (by have := hC k hk; omega)⟩
  have h3 := (fil_ok (but := -1) hE hC he hc).2.2
  exact ⟨h1, Int.lt_of_lt_of_le h2 h3⟩
/-! a comparison of two that are one -/
section QEQ
variable {p : Program} {l : Launch} {e : Env} {R : Room} {s : State} {m : MethodId} {args : Array Value} {below : List Frame} {meth : Method} {c : Code} {H : Heap} {locs : List Loc} {cells slots : Nat} {Q : State → Prop} {cc : ByteArray} {pc : Nat} {ls : Array Slot} {rest : List Value}
theorem q_ne0 (hx : p.tables.exec = Jvm.exec) (hb : c.code = cc) {x y : Int} {off : Int} {tgt : Nat} (hdg : decode cc pc = .ok (.if_icmp .ne off, 3)) (ht : (pc : Int) + off = (tgt : Int)) (h : x = y) (kf : W p l e R s m args below meth c H locs cells slots Q (F0 m (pc + 3) ls rest)) : W p l e R s m args below meth c H locs cells slots Q (F0 m pc ls (.int (qI y) :: .int (qI x) :: rest)) := by
  subst h
  exact lv_icmp_ne hx hb hdg ht (fun h => absurd rfl h) (fun _ => kf)
theorem q_eq1 (hx : p.tables.exec = Jvm.exec) (hb : c.code = cc) {x y : Int} {off : Int} {tgt : Nat} (hdg : decode cc pc = .ok (.if_icmp .eq off, 3)) (ht : (pc : Int) + off = (tgt : Int)) (h : x = y) (kt : W p l e R s m args below meth c H locs cells slots Q (F0 m tgt ls rest)) : W p l e R s m args below meth c H locs cells slots Q (F0 m pc ls (.int (qI y) :: .int (qI x) :: rest)) := by
  subst h
  exact lv_icmp_eq hx hb hdg ht (fun _ => kt) (fun h => absurd rfl h)
end QEQ
