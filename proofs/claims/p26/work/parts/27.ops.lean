/-! ===== what a layout may be ===== -/
def gOk (T : LSt) : Prop := qV (lV T) ∧ (∀ i, i < 10 → 0 ≤ lT T i ∧ lT T i ≤ 9) ∧ (lN9 T ≤ 16 ∧ qWR (lC T) (lN9 T)) ∧ (lM T ≤ 4 ∧ qWR (lE T) (lM T)) ∧ (∀ i, i < lM T → lE T 1 i = -1 ∧ lE T 2 i = 1 ∧ -1000 ≤ lE T 3 i ∧ lE T 3 i ≤ 1000) ∧ ∀ i j, i < lM T → j < lM T → lE T 0 i = lE T 0 j → i = j
theorem gOk.eq {S T : LSt} (h : LEq S T) (g : gOk T) : gOk S := by
  obtain ⟨h1, h2, h3, h4, h5, h6⟩ := h
  obtain ⟨g1, g2, g3, g4, g5, g6⟩ := g
  refine ⟨fun k hk => by rw [h1 k hk]; exact g1 k hk, fun i hi => by rw [h2 i hi]; exact g2 i hi, ⟨by rw [h3]; exact g3.1, by rw [h3]; exact qWR_cong h4 g3.2⟩, ⟨by rw [h5]; exact g4.1, by rw [h5]; exact qWR_cong h6 g4.2⟩, fun i hi => ?_, fun i j hi hj e => ?_⟩
  · rw [h5] at hi
    rw [h6 1 i (by decide) hi, h6 2 i (by decide) hi, h6 3 i (by decide) hi]
    exact g5 i hi
  · rw [h5] at hi hj
    rw [h6 0 i (by decide) hi, h6 0 j (by decide) hj] at e
    exact g6 i j hi hj e
abbrev filS (T : LSt) (but : Int) : FS := fil (lC T) (lN9 T) (lE T) (lM T) but
theorem filS_eq {S T : LSt} (h : LEq S T) (but : Int) : filS S but = filS T but := by
  obtain ⟨h1, h2, h3, h4, h5, h6⟩ := h
  show fil (lC S) (lN9 S) (lE S) (lM S) but = fil (lC T) (lN9 T) (lE T) (lM T) but
  rw [h3, h5]
  exact fil_cong h6 h4 but
theorem cnt_ext {p q : Nat → Bool} : ∀ n : Nat, (∀ i, i < n → p i = q i) → cnt p n = cnt q n
  | 0, _ => rfl
  | n + 1, h => by
    simp only [cnt]
    rw [cnt_ext n (fun i hi => h i (by omega)), h n (by omega)]
theorem cnt_far {p : Nat → Bool} {n : Nat} (h : ∀ i, n ≤ i → p i = false) : ∀ m, n ≤ m → cnt p m = cnt p n
  | 0, hm => by rw [show n = 0 by omega]
  | m + 1, hm => by
    by_cases e : n = m + 1
    · rw [e]
    · simp only [cnt]
      rw [h m (by omega), cnt_far h m (by omega)]
      rfl
theorem edOf_ext {E F : Nat → Nat → Int} {x : Int} : ∀ n : Nat, (∀ i, i < n → E 0 i = F 0 i) → edOf E x n = edOf F x n
  | 0, _ => rfl
  | n + 1, h => by
    simp only [edOf]
    rw [edOf_ext n (fun i hi => h i (by omega)), h n (by omega)]
theorem sumV_ext {v w : Nat → Int} : ∀ n : Nat, (∀ i, i < n → v i = w i) → sumV v n = sumV w n
  | 0, _ => rfl
  | n + 1, h => by
    simp only [sumV]
    rw [sumV_ext n (fun i hi => h i (by omega)), h n (by omega)]
theorem hoD_ext {v w : Nat → Int} {C F : Nat → Nat → Int} {n k : Nat} (hv : ∀ i, i < 10 → v i = w i) (hC : ∀ f i, f < 5 → i < n → C f i = F f i) (hW : qWR F n) (hk : k < n) : hoD v C k = hoD w F k := by
  have h := hW k hk
  unfold hoD
  rw [hC 0 k (by decide) hk, hC 1 k (by decide) hk, hv (F 0 k).toNat (by omega)]
  by_cases e : F 1 k = -1
  · rw [if_pos e, if_pos e]
  · rw [if_neg e, if_neg e, hv (F 1 k).toNat (by omega)]
theorem hoB_ext {v w : Nat → Int} {C F : Nat → Nat → Int} {n k : Nat} (hv : ∀ i, i < 10 → v i = w i) (hC : ∀ f i, f < 5 → i < n → C f i = F f i) (hW : qWR F n) (hk : k < n) : hoB v C k = hoB w F k := by
  unfold hoB
  rw [hoD_ext hv hC hW hk, hC 2 k (by decide) hk, hC 3 k (by decide) hk]
/-! the answers for a layout -/
abbrev plT (T : LSt) := plA (lV T) (lT T) (lC T) (lN9 T) (lE T) (lM T)
abbrev coT (T : LSt) := coA (lV T) (lC T) (lN9 T) (lE T) (lM T)
abbrev edT (T : LSt) := edA (lC T) (lN9 T) (lE T) (lM T)
abbrev ctT (T : LSt) := ctA (lV T) (lC T) (lN9 T) (lE T) (lM T)
abbrev rmT (T : LSt) := rmA (lC T) (lN9 T) (lE T) (lM T)
abbrev nsT (T : LSt) := nsA (lC T) (lN9 T) (lE T) (lM T)
theorem plT_eq {S T : LSt} (h : LEq S T) {p : Nat} (hp : p < 10) (w : Int) : plT S p w = plT T p w := by
  have hf := filS_eq h (-1)
  obtain ⟨h1, h2, h3, h4, h5, h6⟩ := h
  unfold plT plA
  unfold filS at hf
  rw [hf, h1 p hp, h2 p hp, h3, h5, edOf_ext (lM T) (fun i hi => h6 0 i (by decide) hi), cnt_ext (lN9 T) (fun i hi => by rw [h4 0 i (by decide) hi, h4 1 i (by decide) hi])]
theorem culB_ext {C F : Nat → Nat → Int} {nc : Nat} {E K : Nat → Nat → Int} {ne k : Nat} (h : ∀ but, fil C nc E ne but = fil F nc K ne but) (i : Nat) : culB C nc E ne k i = culB F nc K ne k i := by
  unfold culB
  simp only [h]
theorem culN_ext {C F : Nat → Nat → Int} {nc : Nat} {E K : Nat → Nat → Int} {ne k : Nat} (h : ∀ but, fil C nc E ne but = fil F nc K ne but) : ∀ n, culN C nc E ne k n = culN F nc K ne k n
  | 0 => rfl
  | n + 1 => by
    simp only [culN]
    rw [culN_ext h n, culB_ext h n]
theorem coT_eq {S T : LSt} (h : LEq S T) (g : gOk T) {k : Nat} (hk : k < lN9 T) (w : Int) : coT S k w = coT T k w := by
  have hf := filS_eq h
  obtain ⟨h1, h2, h3, h4, h5, h6⟩ := h
  unfold filS at hf
  unfold coT coA culA
  rw [hf, h4 0 k (by decide) hk, h4 1 k (by decide) hk, h4 2 k (by decide) hk, h4 3 k (by decide) hk, h4 4 k (by decide) hk, hoB_ext h1 h4 g.2.2.1.2 hk]
  rw [h3, h5] at hf ⊢
  rw [culN_ext hf]
theorem edT_eq {S T : LSt} (h : LEq S T) {k : Nat} (hk : k < lM T) (w : Int) : edT S k w = edT T k w := by
  have hf := filS_eq h (-1)
  obtain ⟨h1, h2, h3, h4, h5, h6⟩ := h
  unfold filS at hf
  unfold edT edA
  rw [hf, h6 0 k (by decide) hk, h6 3 k (by decide) hk, h6 4 k (by decide) hk]
theorem ctT_eq {S T : LSt} (h : LEq S T) (g : gOk T) (hz : Nat) (w : Int) : ctT S hz w = ctT T hz w := by
  have hf := filS_eq h (-1)
  obtain ⟨h1, h2, h3, h4, h5, h6⟩ := h
  unfold filS at hf
  unfold ctT ctA fixB
  rw [hf, h3, h5, sumV_ext 10 h1, cnt_ext (p := hoB (lV S) (lC S)) (lN9 T) (fun i hi => hoB_ext h1 h4 g.2.2.1.2 hi)]
theorem rmT_eq {S T : LSt} (h : LEq S T) (k : Nat) : rmT S k = rmT T k := by
  have hf := filS_eq h (k : Int)
  unfold filS at hf
  unfold rmT rmA
  rw [hf]
theorem nsT_eq {S T : LSt} (h : LEq S T) (k : Nat) : nsT S k = nsT T k := by
  obtain ⟨h1, h2, h3, h4, h5, h6⟩ := h
  have key : ∀ s : Int, okS (lC S) (lN9 S) (lE S) (lM S) k s = okS (lC T) (lN9 T) (lE T) (lM T) k s := by
    intro s
    unfold okS
    rw [h3, h5, fil_cong h6 (C := stW (lC S) k s) (C2 := stW (lC T) k s) (fun f i hf hi => ?_) (-1)]
    unfold stW
    by_cases e : f = 4
    · subst e
      rw [qu_s, qu_s]
      by_cases e2 : i = k
      · subst e2
        rw [qu_s, qu_s]
      · rw [qu_n _ _ e2, qu_n _ _ e2]
        exact h4 4 i hf hi
    · rw [qu_n _ _ e, qu_n _ _ e]
      exact h4 f i hf hi
  unfold nsT nsA
  rw [key, key, key, key]
theorem widS_eq {S T : LSt} (h : LEq S T) : ∀ n, widS (lC S) (lN9 S) (lE S) (lM S) n = widS (lC T) (lN9 T) (lE T) (lM T) n
  | 0 => rfl
  | n + 1 => by
    have hf := filS_eq h (-1)
    unfold filS at hf
    simp only [widS]
    rw [widS_eq h n, hf]
theorem hsh_ext {g f : Nat → Int} {h : Int64} : ∀ n : Nat, (∀ i, i < n → g i = f i) → hsh g n h = hsh f n h
  | 0, _ => rfl
  | n + 1, e => by
    simp only [hsh]
    rw [hsh_ext n (fun i hi => e i (by omega)), e n (by omega)]
theorem hcn_ext {S T : LSt} (h : LEq S T) (g : gOk T) {q : Int64} : ∀ n : Nat, n ≤ lN9 T → hcn (lV S) (lC S) (lN9 S) (lE S) (lM S) n q = hcn (lV T) (lC T) (lN9 T) (lE T) (lM T) n q
  | 0, _ => rfl
  | n + 1, hn => by
    simp only [hcn]
    rw [hcn_ext h g n (by omega), show rmA (lC S) (lN9 S) (lE S) (lM S) n = rmA (lC T) (lN9 T) (lE T) (lM T) n from rmT_eq h n, show nsA (lC S) (lN9 S) (lE S) (lM S) n = nsA (lC T) (lN9 T) (lE T) (lM T) n from nsT_eq h n, hsh_ext 10 (fun i _ => coT_eq h g (by omega) (i : Int))]
abbrev dgT (T : LSt) := dgA (lV T) (lT T) (lC T) (lN9 T) (lE T) (lM T)
theorem dgT_eq {S T : LSt} (h : LEq S T) (g : gOk T) (hz : Nat) {bf tx : Nat → Int} {len : Nat} (hb : ∀ i, i < len → bf i = tx i) : dgT S hz bf len = dgT T hz tx len := by
  have hf := filS_eq h (-1)
  unfold dgT dgA
  rw [widS_eq h 10, hsh_ext len hb, show wdF (lC S) (lN9 S) (lE S) (lM S) = wdF (lC T) (lN9 T) (lE T) (lM T) from funext fun i => by unfold wdF; unfold filS at hf; rw [hf], show (fun w : Nat => ctA (lV S) (lC S) (lN9 S) (lE S) (lM S) hz (w : Int)) = fun w : Nat => ctA (lV T) (lC T) (lN9 T) (lE T) (lM T) hz (w : Int) from funext fun w => ctT_eq h g hz (w : Int)]
  rw [hsh_ext (g := plF (lV S) (lT S) (lC S) (lN9 S) (lE S) (lM S)) (f := plF (lV T) (lT T) (lC T) (lN9 T) (lE T) (lM T)) 60 (fun i hi => plT_eq h (by omega) _)]
  have e3 := h.2.2.1
  have e5 := h.2.2.2.2.1
  rw [show hcn (lV S) (lC S) (lN9 S) (lE S) (lM S) (lN9 S) = fun q => hcn (lV T) (lC T) (lN9 T) (lE T) (lM T) (lN9 T) q from funext fun q => by rw [e3]; rw [← e3] ; rw [hcn_ext h g (lN9 S) (by omega)]; rw [e3]]
  rw [hsh_ext (g := edF (lC S) (lN9 S) (lE S) (lM S)) (f := edF (lC T) (lN9 T) (lE T) (lM T)) (5 * lM S) (fun i hi => edT_eq h (by omega) _), e5]
/-! the changes of a layout -/
def seT (T : LSt) : LSt := (setv (lV T) (lT T) (lC T) (lN9 T) (lE T) (lM T), lT T, lC T, lN9 T, lE T, lM T)
theorem seT_eq {S T : LSt} (h : LEq S T) : LEq (seT S) (seT T) := by
  have hf := filS_eq h (-1)
  refine ⟨fun i hi => ?_, h.2.1, h.2.2.1, h.2.2.2.1, h.2.2.2.2.1, h.2.2.2.2.2⟩
  show setv _ _ _ _ _ _ i = setv _ _ _ _ _ _ i
  unfold setv
  unfold filS at hf
  rw [hf]
  exact (seS_eq2 (S := (lV S, fM (filS T (-1)))) (T := (lV T, fM (filS T (-1)))) h.2.1 ⟨h.1, fun _ _ _ _ => rfl⟩ 10).1 i hi
theorem se_fin {S T : LSt} {w : Nat → Int} (h : LEq S T) (hw : ∀ i, i < 10 → w i = setv (lV S) (lT S) (lC S) (lN9 S) (lE S) (lM S) i) : LEq (w, lT S, lC S, lN9 S, lE S, lM S) (seT T) := LEq.tr (T := seT S) ⟨hw, fun _ _ => rfl, rfl, fun _ _ _ _ => rfl, rfl, fun _ _ _ _ => rfl⟩ (seT_eq h)
theorem seT_gOk {T : LSt} (h : gOk T) : gOk (seT T) := by
  obtain ⟨h1, h2, h3, h4, h5, h6⟩ := h
  refine ⟨?_, h2, h3, h4, h5, h6⟩
  have cl := (fil_ok (but := -1) h4.2 h3.2 (by omega) h3.1).1
  exact (seS_ok (S := (lV T, fM (filS T (-1)))) ⟨cl, h1⟩ 10).2
def adC (T : LSt) (l r s n st : Int) : LSt := (lV T, lT T, (fun f i => if i = lN9 T then row5 l r s n st f else lC T f i), lN9 T + 1, lE T, lM T)
def rmC (T : LSt) (k : Nat) : LSt := (lV T, lT T, (fun f i => if i < k then lC T f i else lC T f (i + 1)), lN9 T - 1, lE T, lM T)
def chC (T : LSt) (f k : Nat) (z : Int) : LSt := (lV T, lT T, qu (lC T) f (qu (lC T f) k z), lN9 T, lE T, lM T)
def chT (T : LSt) (p : Nat) (z : Int) : LSt := (lV T, qu (lT T) p z, lC T, lN9 T, lE T, lM T)
def adE (T : LSt) (x w s : Int) : LSt := (lV T, lT T, lC T, lN9 T, wfE (lE T) (lM T) x w s, wfN (lE T) (lM T) x)
def enE (T : LSt) : LSt := (lV T, lT T, lC T, lN9 T, lE T, 0)
def frV (T : LSt) (z : Int) : LSt := ((fun _ => z), lT T, lC T, lN9 T, lE T, lM T)
def ldC (T : LSt) (G : Nat → Nat → Int) (k : Nat) : LSt := (lV T, lT T, (fun f i => if i < lN9 T then lC T f i else G f (i - lN9 T)), lN9 T + k, lE T, lM T)
theorem qu_eq {v w : Nat → Int} {n k : Nat} {z : Int} (h : ∀ i, i < n → v i = w i) : ∀ i, i < n → qu v k z i = qu w k z i := by
  intro i hi
  by_cases e : i = k
  · subst e
    rw [qu_s, qu_s]
  · rw [qu_n _ _ e, qu_n _ _ e]
    exact h i hi
theorem qu2_eq {C F : Nat → Nat → Int} {n k f0 : Nat} {z : Int} (h : ∀ f i, f < 5 → i < n → C f i = F f i) (h0 : f0 < 5) : ∀ f i, f < 5 → i < n → qu C f0 (qu (C f0) k z) f i = qu F f0 (qu (F f0) k z) f i := by
  intro f i hf hi
  by_cases e : f = f0
  · subst e
    rw [qu_s, qu_s]
    exact qu_eq (n := n) (fun j hj => h f j hf hj) i hi
  · rw [qu_n _ _ e, qu_n _ _ e]
    exact h f i hf hi
theorem adC_eq {S T : LSt} (h : LEq S T) (l r s n st : Int) : LEq (adC S l r s n st) (adC T l r s n st) := by
  obtain ⟨h1, h2, h3, h4, h5, h6⟩ := h
  refine ⟨h1, h2, by show lN9 S + 1 = lN9 T + 1; rw [h3], fun f i hf hi => ?_, h5, h6⟩
  show (if i = lN9 S then _ else lC S f i) = (if i = lN9 T then _ else lC T f i)
  have hi : i < lN9 T + 1 := hi
  rw [h3]
  by_cases e : i = lN9 T
  · rw [if_pos e, if_pos e]
  · rw [if_neg e, if_neg e]
    exact h4 f i hf (by omega)
theorem rmC_eq {S T : LSt} (h : LEq S T) (k : Nat) : LEq (rmC S k) (rmC T k) := by
  obtain ⟨h1, h2, h3, h4, h5, h6⟩ := h
  refine ⟨h1, h2, by show lN9 S - 1 = lN9 T - 1; rw [h3], fun f i hf hi => ?_, h5, h6⟩
  have hi : i < lN9 T - 1 := hi
  show (if i < k then lC S f i else lC S f (i + 1)) = (if i < k then lC T f i else lC T f (i + 1))
  rw [h4 f i hf (by omega), h4 f (i + 1) hf (by omega)]
theorem chC_eq {S T : LSt} (h : LEq S T) {f : Nat} (hf : f < 5) (k : Nat) (z : Int) : LEq (chC S f k z) (chC T f k z) := ⟨h.1, h.2.1, h.2.2.1, qu2_eq h.2.2.2.1 hf, h.2.2.2.2.1, h.2.2.2.2.2⟩
theorem chT_eq {S T : LSt} (h : LEq S T) (p : Nat) (z : Int) : LEq (chT S p z) (chT T p z) := ⟨h.1, qu_eq h.2.1, h.2.2.1, h.2.2.2.1, h.2.2.2.2.1, h.2.2.2.2.2⟩
theorem adE_eq {S T : LSt} (h : LEq S T) (x w s : Int) : LEq (adE S x w s) (adE T x w s) := by
  obtain ⟨h1, h2, h3, h4, h5, h6⟩ := h
  have e0 : edOf (lE S) x (lM S) = edOf (lE T) x (lM T) := by rw [h5]; exact edOf_ext (lM T) (fun i hi => h6 0 i (by decide) hi)
  refine ⟨h1, h2, h3, h4, by show wfN (lE S) (lM S) x = wfN (lE T) (lM T) x; unfold wfN; rw [e0, h5], fun f i hf hi => ?_⟩
  have hi : i < wfN (lE T) (lM T) x := hi
  show wfE (lE S) (lM S) x w s f i = wfE (lE T) (lM T) x w s f i
  have er := edOf_rng (lE T) x (lM T)
  unfold wfE
  unfold wfN at hi
  rw [e0, h5]
  by_cases e : edOf (lE T) x (lM T) = -1
  · rw [if_pos e, if_pos e]
    rw [if_pos e] at hi
    by_cases e2 : i = lM T
    · rw [if_pos e2, if_pos e2]
    · rw [if_neg e2, if_neg e2]
      exact h6 f i hf (by omega)
  · rw [if_neg e, if_neg e]
    rw [if_neg e] at hi
    rw [h6 f i hf hi]
theorem enE_eq {S T : LSt} (h : LEq S T) : LEq (enE S) (enE T) := ⟨h.1, h.2.1, h.2.2.1, h.2.2.2.1, rfl, fun f i _ hi => absurd hi (Nat.not_lt_zero i)⟩
theorem frV_eq {S T : LSt} (h : LEq S T) (z : Int) : LEq (frV S z) (frV T z) := ⟨fun _ _ => rfl, h.2⟩
theorem ldC_eq {S T : LSt} (h : LEq S T) {G F : Nat → Nat → Int} {k : Nat} (hG : ∀ f i, f < 5 → i < k → G f i = F f i) : LEq (ldC S G k) (ldC T F k) := by
  obtain ⟨h1, h2, h3, h4, h5, h6⟩ := h
  refine ⟨h1, h2, by show lN9 S + k = lN9 T + k; rw [h3], fun f i hf hi => ?_, h5, h6⟩
  have hi : i < lN9 T + k := hi
  show (if i < lN9 S then lC S f i else G f (i - lN9 S)) = (if i < lN9 T then lC T f i else F f (i - lN9 T))
  rw [h3]
  by_cases e : i < lN9 T
  · rw [if_pos e, if_pos e]
    exact h4 f i hf e
  · rw [if_neg e, if_neg e]
    exact hG f _ hf (by omega)
