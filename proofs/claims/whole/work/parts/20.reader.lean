/-! ===== reading a text, character by character ===== -/
def rdOk (a c l n : Int) : Prop := (a = 0 ∧ 97 ≤ c ∧ c ≤ 106) ∨ (a = 1 ∧ (c = 45 ∨ (60 ≤ c ∧ c ≤ 62))) ∨ (a = 2 ∧ 97 ≤ c ∧ c ≤ 106 ∧ c - 97 ≠ l) ∨ (a = 3 ∧ 60 ≤ c ∧ c ≤ 62) ∨ (a = 4 ∧ (c = 45 ∨ (48 ≤ c ∧ c ≤ 57))) ∨ (a = 5 ∧ 49 ≤ c ∧ c ≤ 57) ∨ (a = 6 ∧ ((48 ≤ c ∧ c ≤ 57 ∧ 10 * n + c - 48 ≤ 2000) ∨ c = 33 ∨ c = 59)) ∨ (a = 7 ∧ (c = 33 ∨ c = 59)) ∨ (a = 8 ∧ 48 ≤ c ∧ c ≤ 51) ∨ (a = 9 ∧ c = 59)
def rdA (a c : Int) : Int := if a = 0 then 1 else if a = 1 then (if c = 45 then 2 else 4) else if a = 2 then 3 else if a = 3 then 4 else if a = 4 then (if c = 45 then 5 else if c = 48 then 7 else 6) else if a = 5 then 6 else if a = 6 ∨ a = 7 then (if c = 33 then 8 else if c = 59 then 0 else 6) else if a = 8 then 9 else 0
def rdL (a c l : Int) : Int := if a = 0 then c - 97 else l
def rdR (a c r : Int) : Int := if a = 0 then -1 else if a = 2 then c - 97 else r
def rdS (a c s : Int) : Int := if (a = 1 ∧ c ≠ 45) ∨ a = 3 then c - 60 else s
def rdN (a c n : Int) : Int := if a = 0 then 0 else if (a = 4 ∧ c ≠ 45 ∧ c ≠ 48) ∨ a = 5 ∨ (a = 6 ∧ 48 ≤ c ∧ c ≤ 57) then 10 * n + c - 48 else n
def rdF (a c f : Int) : Int := if a = 0 then 1 else if a = 4 ∧ c = 45 then -1 else f
def rdT (a c t : Int) : Int := if a = 0 then 1 else if a = 8 then c - 48 else t
def rdP (a c : Int) : Prop := (a = 6 ∨ a = 7 ∨ a = 9) ∧ c = 59
abbrev RS : Type := Int × Int × Int × Int × Int × Int × Int × (Nat → Nat → Int) × Nat
def rdTo (a l r s n f t : Int) (G : Nat → Nat → Int) (k : Nat) (c : Int) (u : RS) : Prop := u.1 = rdA a c ∧ u.2.1 = rdL a c l ∧ u.2.2.1 = rdR a c r ∧ u.2.2.2.1 = rdS a c s ∧ u.2.2.2.2.1 = rdN a c n ∧ u.2.2.2.2.2.1 = rdF a c f ∧ u.2.2.2.2.2.2.1 = rdT a c t ∧ ((rdP a c ∧ u.2.2.2.2.2.2.2.2 = k + 1 ∧ ∀ g i, g < 5 → u.2.2.2.2.2.2.2.1 g i = if i = k then row5 l r s (f * n) t g else G g i) ∨ (¬ rdP a c ∧ u.2.2.2.2.2.2.2.2 = k ∧ u.2.2.2.2.2.2.2.1 = G))

theorem rdOk_0 {c l n : Int} : rdOk 0 c l n ↔ 97 ≤ c ∧ c ≤ 106 := by simp [rdOk]
theorem rdOk_1 {c l n : Int} : rdOk 1 c l n ↔ c = 45 ∨ (60 ≤ c ∧ c ≤ 62) := by simp [rdOk]
theorem rdOk_2 {c l n : Int} : rdOk 2 c l n ↔ 97 ≤ c ∧ c ≤ 106 ∧ c - 97 ≠ l := by simp [rdOk]
theorem rdOk_3 {c l n : Int} : rdOk 3 c l n ↔ 60 ≤ c ∧ c ≤ 62 := by simp [rdOk]
theorem rdOk_4 {c l n : Int} : rdOk 4 c l n ↔ c = 45 ∨ (48 ≤ c ∧ c ≤ 57) := by simp [rdOk]
theorem rdOk_5 {c l n : Int} : rdOk 5 c l n ↔ 49 ≤ c ∧ c ≤ 57 := by simp [rdOk]
theorem rdOk_6 {c l n : Int} : rdOk 6 c l n ↔ (48 ≤ c ∧ c ≤ 57 ∧ 10 * n + c - 48 ≤ 2000) ∨ c = 33 ∨ c = 59 := by simp [rdOk]
theorem rdOk_7 {c l n : Int} : rdOk 7 c l n ↔ c = 33 ∨ c = 59 := by simp [rdOk]
theorem rdOk_8 {c l n : Int} : rdOk 8 c l n ↔ 48 ≤ c ∧ c ≤ 51 := by simp [rdOk]
theorem rdOk_9 {c l n : Int} : rdOk 9 c l n ↔ c = 59 := by simp [rdOk]
section RDT
variable {l r s n f t c : Int} {G : Nat → Nat → Int} {k : Nat}
theorem tr_left : rdTo 0 l r s n f t G k c (1, c - 97, -1, s, 0, 1, 1, G, k) := by simp [rdTo, rdA, rdL, rdR, rdS, rdN, rdF, rdT, rdP]
theorem tr_minus (h : c = 45) : rdTo 1 l r s n f t G k c (2, l, r, s, n, f, t, G, k) := by subst h; simp [rdTo, rdA, rdL, rdR, rdS, rdN, rdF, rdT, rdP]
theorem tr_right : rdTo 2 l r s n f t G k c (3, l, c - 97, s, n, f, t, G, k) := by simp [rdTo, rdA, rdL, rdR, rdS, rdN, rdF, rdT, rdP]
theorem tr_sign : rdTo 3 l r s n f t G k c (4, l, r, c - 60, n, f, t, G, k) := by simp [rdTo, rdA, rdL, rdR, rdS, rdN, rdF, rdT, rdP]
theorem tr_digit (h : 48 ≤ c ∧ c ≤ 57) : rdTo 6 l r s n f t G k c (6, l, r, s, 10 * n + c - 48, f, t, G, k) := by
  have e1 : c ≠ 33 := by omega
  have e2 : c ≠ 59 := by omega
  simp [rdTo, rdA, rdL, rdR, rdS, rdN, rdF, rdT, rdP, h, e1, e2]
theorem tr_end (h : c = 59) {u : Nat → Nat → Int} (hu : ∀ g i, g < 5 → u g i = if i = k then row5 l r s (f * n) t g else G g i) : rdTo 9 l r s n f t G k c (0, l, r, s, n, f, t, u, k + 1) := by
  subst h
  simp [rdTo, rdA, rdL, rdR, rdS, rdN, rdF, rdT, rdP]
  exact hu
theorem tr_bang (h : c = 33) : rdTo 7 l r s n f t G k c (8, l, r, s, n, f, t, G, k) := by subst h; simp [rdTo, rdA, rdL, rdR, rdS, rdN, rdF, rdT, rdP]
theorem tr_neg (h : c = 45) : rdTo 4 l r s n f t G k c (5, l, r, s, n, -1, t, G, k) := by subst h; simp [rdTo, rdA, rdL, rdR, rdS, rdN, rdF, rdT, rdP]
theorem tr_zero (h : c = 48) : rdTo 4 l r s n f t G k c (7, l, r, s, n, f, t, G, k) := by subst h; simp [rdTo, rdA, rdL, rdR, rdS, rdN, rdF, rdT, rdP]
theorem tr_str : rdTo 8 l r s n f t G k c (9, l, r, s, n, f, c - 48, G, k) := by simp [rdTo, rdA, rdL, rdR, rdS, rdN, rdF, rdT, rdP]
end RDT

/-- at places a and a2 that do the same with c -/
theorem rdTo_at {a a2 l r s n f t c : Int} {G : Nat → Nat → Int} {k : Nat} {u : RS} (h : rdTo a l r s n f t G k c u) (e : a = a2 ∨ (a = 3 ∧ a2 = 1 ∧ c ≠ 45) ∨ (a = 7 ∧ a2 = 6 ∧ (c = 33 ∨ c = 59)) ∨ (a = 9 ∧ (a2 = 6 ∨ a2 = 7) ∧ c = 59) ∨ (a = 6 ∧ (a2 = 5 ∨ (a2 = 4 ∧ c ≠ 48)) ∧ 48 ≤ c ∧ c ≤ 57)) : rdTo a2 l r s n f t G k c u := by
  rcases e with rfl | ⟨rfl, rfl, g⟩ | ⟨rfl, rfl, g⟩ | ⟨rfl, g, rfl⟩ | ⟨rfl, g, g1, g2⟩
  · exact h
  · simpa [rdTo, rdA, rdL, rdR, rdS, rdN, rdF, rdT, rdP, g] using h
  · rcases g with rfl | rfl <;> simpa [rdTo, rdA, rdL, rdR, rdS, rdN, rdF, rdT, rdP] using h
  · rcases g with rfl | rfl <;> simpa [rdTo, rdA, rdL, rdR, rdS, rdN, rdF, rdT, rdP] using h
  · have e1 : c ≠ 33 := by omega
    have e2 : c ≠ 59 := by omega
    have e3 : c ≠ 45 := by omega
    rcases g with rfl | ⟨rfl, g⟩
    · simpa [rdTo, rdA, rdL, rdR, rdS, rdN, rdF, rdT, rdP, e1, e2, e3, g1, g2] using h
    · simpa [rdTo, rdA, rdL, rdR, rdS, rdN, rdF, rdT, rdP, e1, e2, e3, g, g1, g2] using h

set_option maxRecDepth 100000 in
set_option maxHeartbeats 4000000 in
theorem c_X6_goesOn (l : Launch) (D : va_G) (cy : Nat → ClassId) (t : Nat) (rr : Nat → Nat) (a9 l9 r9 s9 n9 f9 t9 : Int) (x : Int) (sz : Nat) : qMet l yX6_goesOn (.code yX6_goesOn cX6_goesOn 2 (some .boolean)) 1 [.ref (t), .int (qI (x))] D cy [[(t, .inr (6, [.ref (rr 0), .int (qI (a9)), .int (qI (l9)), .int (qI (r9)), .int (qI (s9)), .int (qI (n9)), .int (qI (f9)), .int (qI (t9))]))]] sz (va_Qi (S := Unit) (fun r u => ∃ b : Bool, r = qz b ∧ (fun b _ => b = true) b u) (qB D cy [[(t, .inr (6, [.ref (rr 0), .int (qI (a9)), .int (qI (l9)), .int (qI (r9)), .int (qI (s9)), .int (qI (n9)), .int (qI (f9)), .int (qI (t9))]))]] sz (fun _ => [[(t, .inr (6, [.ref (rr 0), .int (qI (x)), .int (qI (l9)), .int (qI (r9)), .int (qI (s9)), .int (qI (n9)), .int (qI (f9)), .int (qI (t9))]))]])) (va_A [[(t, .inr (6, [.ref (rr 0), .int (qI (a9)), .int (qI (l9)), .int (qI (r9)), .int (qI (s9)), .int (qI (n9)), .int (qI (f9)), .int (qI (t9))]))]].flatten sz)) := by
  refine q_ofMz (S := Unit) (b1 := fun _ => [[(t, .inr (6, [.ref (rr 0), .int (qI (x)), .int (qI (l9)), .int (qI (r9)), .int (qI (s9)), .int (qI (n9)), .int (qI (f9)), .int (qI (t9))]))]]) (post := fun b _ => b = true) (by decide +kernel) (Nat.le_of_ble_eq_true rfl) ?_
  intro p e s m args below meth c Q A hx hb hml hown hg hQ hK hN hD hA H locs ls hP hS hl
  have hown : s.vm.findClass RX6 = some m.cls := hown
  have hl : lv_has ls 2 [(0, .ref (t)), (1, .int (qI (x)))] := hl
  refine lv_aload_n hx hb dX6_goesOn_0 rfl (lv_at hl 0 rfl) ?_
  refine lv_iload_n hx hb dX6_goesOn_1 rfl (lv_at hl 1 rfl) ?_
  refine pf_X6_22 hx hb hg hown hK hP hD hS 0 0 rfl rfl rfl rfl (Nat.le_of_ble_eq_true rfl) dX6_goesOn_2 (fun H locs hP hD hS => ?_)
  have hP : va_P D vwCl [[(t, .inr (6, [.ref (rr 0), .int (qI (x)), .int (qI (l9)), .int (qI (r9)), .int (qI (s9)), .int (qI (n9)), .int (qI (f9)), .int (qI (t9))]))]].flatten H := hP
  have hD : va_D A [[(t, .inr (6, [.ref (rr 0), .int (qI (x)), .int (qI (l9)), .int (qI (r9)), .int (qI (s9)), .int (qI (n9)), .int (qI (f9)), .int (qI (t9))]))]].flatten := hD
  refine q_iconst hx hb dX6_goesOn_5 ?_
  exact hQ _ _ _ _ true () rfl hP hD hS dX6_goesOn_6

set_option maxRecDepth 100000 in
set_option maxHeartbeats 4000000 in
theorem c_X6_begin (l : Launch) (D : va_G) (cy : Nat → ClassId) (t : Nat) (rr : Nat → Nat) (a9 l9 r9 s9 n9 f9 t9 : Int) (G : Nat → Nat → Int) (n : Int) (sz : Nat) : qMet l yX6_begin (.code yX6_begin cX6_begin 1 none) 1 [.ref (t)] D cy [[(t, .inr (6, [.ref (rr 0), .int (qI (a9)), .int (qI (l9)), .int (qI (r9)), .int (qI (s9)), .int (qI (n9)), .int (qI (f9)), .int (qI (t9))]))], qRu cy rr (G) (n)] sz (va_Qv (S := Unit) (fun _ => True) (qB D cy [[(t, .inr (6, [.ref (rr 0), .int (qI (a9)), .int (qI (l9)), .int (qI (r9)), .int (qI (s9)), .int (qI (n9)), .int (qI (f9)), .int (qI (t9))]))], qRu cy rr (G) (n)] sz (fun _ => [[(t, .inr (6, [.ref (rr 0), .int (qI (0)), .int (qI (l9)), .int (qI (r9)), .int (qI (s9)), .int (qI (n9)), .int (qI (f9)), .int (qI (t9))]))], qRu cy rr (G) (0)])) (va_A [[(t, .inr (6, [.ref (rr 0), .int (qI (a9)), .int (qI (l9)), .int (qI (r9)), .int (qI (s9)), .int (qI (n9)), .int (qI (f9)), .int (qI (t9))]))], qRu cy rr (G) (n)].flatten sz)) := by
  refine q_ofMv (S := Unit) (b1 := fun _ => [[(t, .inr (6, [.ref (rr 0), .int (qI (0)), .int (qI (l9)), .int (qI (r9)), .int (qI (s9)), .int (qI (n9)), .int (qI (f9)), .int (qI (t9))]))], qRu cy rr (G) (0)]) (post := fun _ => True) (by decide +kernel) (Nat.le_of_ble_eq_true rfl) ?_
  intro p e s m args below meth c Q A hx hb hml hown hg hQ hK hN hD hA H locs ls hP hS hl
  have hown : s.vm.findClass RX6 = some m.cls := hown
  have hl : lv_has ls 1 [(0, .ref (t))] := hl
  refine lv_aload_n hx hb dX6_begin_0 rfl (lv_at hl 0 rfl) ?_
  refine gf_X6_12 hx hb hg hown hK (fl_blk hP 0 rfl) 0 rfl rfl dX6_begin_1 ?_
  refine q_iconst hx hb dX6_begin_4 ?_
  refine pf_X6_18 hx hb hg hown hK hP hD hS 1 0 rfl rfl rfl rfl (Nat.le_of_ble_eq_true rfl) dX6_begin_5 (fun H locs hP hD hS => ?_)
  have hP : va_P D vwCl [[(t, .inr (6, [.ref (rr 0), .int (qI (a9)), .int (qI (l9)), .int (qI (r9)), .int (qI (s9)), .int (qI (n9)), .int (qI (f9)), .int (qI (t9))]))], qRu cy rr (G) (0)].flatten H := hP
  have hD : va_D A [[(t, .inr (6, [.ref (rr 0), .int (qI (a9)), .int (qI (l9)), .int (qI (r9)), .int (qI (s9)), .int (qI (n9)), .int (qI (f9)), .int (qI (t9))]))], qRu cy rr (G) (0)].flatten := hD
  refine lv_aload_n hx hb dX6_begin_8 rfl (lv_at hl 0 rfl) ?_
  refine q_iconst hx hb dX6_begin_9 ?_
  refine pf_X6_22 hx hb hg hown hK hP hD hS 0 0 rfl rfl rfl rfl (Nat.le_of_ble_eq_true rfl) dX6_begin_10 (fun H locs hP hD hS => ?_)
  have hP : va_P D vwCl [[(t, .inr (6, [.ref (rr 0), .int (qI (0)), .int (qI (l9)), .int (qI (r9)), .int (qI (s9)), .int (qI (n9)), .int (qI (f9)), .int (qI (t9))]))], qRu cy rr (G) (0)].flatten H := hP
  have hD : va_D A [[(t, .inr (6, [.ref (rr 0), .int (qI (0)), .int (qI (l9)), .int (qI (r9)), .int (qI (s9)), .int (qI (n9)), .int (qI (f9)), .int (qI (t9))]))], qRu cy rr (G) (0)].flatten := hD
  exact hQ _ _ _ _ () trivial hP hD hS dX6_begin_13

set_option maxRecDepth 100000 in
set_option maxHeartbeats 4000000 in
theorem c_X6_isLetter (l : Launch) (D : va_G) (cy : Nat → ClassId) (v : Int) (h9 : -2147483648 ≤ v ∧ v < 2147483648) : qRd l yX6_isLetter (.code yX6_isLetter cX6_isLetter 1 (some .boolean)) 2 [.int (qI (v))] D cy [] (vp_Si (fun r => ∃ b : Bool, r = qz b ∧ (fun b => b = true ↔ 97 ≤ v ∧ v ≤ 106) b)) := by
  refine q_ofRz (post := fun b => b = true ↔ 97 ≤ v ∧ v ≤ 106) (by decide +kernel) (Nat.le_of_ble_eq_true rfl) ?_
  intro p e s m args below meth c Q hx hb hml hown hg hQ hK hN hP ls hl
  have hown : s.vm.findClass RX6 = some m.cls := hown
  have hl : lv_has ls 1 [(0, .int (qI (v)))] := hl
  refine lv_iload_n hx hb dX6_isLetter_0 rfl (lv_at hl 0 rfl) ?_
  refine q_bipush hx hb dX6_isLetter_1 (by decide) ?_
  refine q_bipush hx hb dX6_isLetter_3 (by decide) ?_
  refine q_readz (va_runSN (As := [.int (qI (v)), .int (qI (97)), .int (qI (106))]) (rest := []) ⟨hx, hb, hml, hown, hg⟩ (c_X7_isWithin l D cy _ _ _ (by omega)) (cn_X6_53 hg hN rfl rfl ⟨by decide, by decide⟩) ⟨q_blind0, q_preR _ hK hN hP [] rfl⟩ rfl rfl hl.1 rfl (lv_room (Nat.le_of_ble_eq_true rfl)) dX6_isLetter_5 ⟨by decide, by decide⟩) (fun b_5 h_5 => ?_)
  exact hQ _ _ _ (h_5.trans (by omega)) dX6_isLetter_8

set_option maxRecDepth 100000 in
set_option maxHeartbeats 4000000 in
theorem c_X6_readsLeft (l : Launch) (D : va_G) (cy : Nat → ClassId) (t : Nat) (rr : Nat → Nat) (a9 l9 r9 s9 n9 f9 t9 : Int) (G : Nat → Nat → Int) (k : Nat) (ch : Int) (hc : 33 ≤ ch ∧ ch ≤ 126) (ha : a9 = 0) (sz : Nat) : qMet l yX6_readsLeft (.code yX6_readsLeft cX6_readsLeft 2 (some .boolean)) 3 [.ref (t), .int (qI (ch))] D cy [[(t, .inr (6, [.ref (rr 0), .int (qI (a9)), .int (qI (l9)), .int (qI (r9)), .int (qI (s9)), .int (qI (n9)), .int (qI (f9)), .int (qI (t9))]))], qRu cy rr (G) (((k : Nat) : Int))] sz (va_Qi (S := RS) (fun r u => ∃ b : Bool, r = qz b ∧ (fun b u => (b = true ↔ 97 ≤ ch ∧ ch ≤ 106) ∧ (b = true → rdTo 0 l9 r9 s9 n9 f9 t9 G k ch u)) b u) (qB D cy [[(t, .inr (6, [.ref (rr 0), .int (qI (a9)), .int (qI (l9)), .int (qI (r9)), .int (qI (s9)), .int (qI (n9)), .int (qI (f9)), .int (qI (t9))]))], qRu cy rr (G) (((k : Nat) : Int))] sz (fun u => [[(t, .inr (6, [.ref (rr 0), .int (qI (u.1)), .int (qI (u.2.1)), .int (qI (u.2.2.1)), .int (qI (u.2.2.2.1)), .int (qI (u.2.2.2.2.1)), .int (qI (u.2.2.2.2.2.1)), .int (qI (u.2.2.2.2.2.2.1))]))], qRu cy rr u.2.2.2.2.2.2.2.1 (u.2.2.2.2.2.2.2.2 : Int)])) (va_A [[(t, .inr (6, [.ref (rr 0), .int (qI (a9)), .int (qI (l9)), .int (qI (r9)), .int (qI (s9)), .int (qI (n9)), .int (qI (f9)), .int (qI (t9))]))], qRu cy rr (G) (((k : Nat) : Int))].flatten sz)) := by
  refine q_ofMz (S := RS) (b1 := fun u => [[(t, .inr (6, [.ref (rr 0), .int (qI (u.1)), .int (qI (u.2.1)), .int (qI (u.2.2.1)), .int (qI (u.2.2.2.1)), .int (qI (u.2.2.2.2.1)), .int (qI (u.2.2.2.2.2.1)), .int (qI (u.2.2.2.2.2.2.1))]))], qRu cy rr u.2.2.2.2.2.2.2.1 (u.2.2.2.2.2.2.2.2 : Int)]) (post := fun b u => (b = true ↔ 97 ≤ ch ∧ ch ≤ 106) ∧ (b = true → rdTo 0 l9 r9 s9 n9 f9 t9 G k ch u)) (by decide +kernel) (Nat.le_of_ble_eq_true rfl) ?_
  intro p e s m args below meth c Q A hx hb hml hown hg hQ hK hN hD hA H locs ls hP hS hl
  have hown : s.vm.findClass RX6 = some m.cls := hown
  have hl : lv_has ls 2 [(0, .ref (t)), (1, .int (qI (ch)))] := hl
  refine lv_aload_n hx hb dX6_readsLeft_0 rfl (lv_at hl 0 rfl) ?_
  refine lv_iload_n hx hb dX6_readsLeft_1 rfl (lv_at hl 1 rfl) ?_
  refine q_bipush hx hb dX6_readsLeft_2 (by decide) ?_
  refine q_isub hx hb dX6_readsLeft_4 ?_
  refine pf_X6_57 hx hb hg hown hK hP hD hS 0 0 rfl rfl rfl rfl (Nat.le_of_ble_eq_true rfl) dX6_readsLeft_5 (fun H locs hP hD hS => ?_)
  have hP : va_P D vwCl [[(t, .inr (6, [.ref (rr 0), .int (qI (a9)), .int (qI ((ch) - (97))), .int (qI (r9)), .int (qI (s9)), .int (qI (n9)), .int (qI (f9)), .int (qI (t9))]))], qRu cy rr (G) (((k : Nat) : Int))].flatten H := hP
  have hD : va_D A [[(t, .inr (6, [.ref (rr 0), .int (qI (a9)), .int (qI ((ch) - (97))), .int (qI (r9)), .int (qI (s9)), .int (qI (n9)), .int (qI (f9)), .int (qI (t9))]))], qRu cy rr (G) (((k : Nat) : Int))].flatten := hD
  refine lv_aload_n hx hb dX6_readsLeft_8 rfl (lv_at hl 0 rfl) ?_
  refine q_iconst hx hb dX6_readsLeft_9 ?_
  refine pf_X6_60 hx hb hg hown hK hP hD hS 0 0 rfl rfl rfl rfl (Nat.le_of_ble_eq_true rfl) dX6_readsLeft_10 (fun H locs hP hD hS => ?_)
  have hP : va_P D vwCl [[(t, .inr (6, [.ref (rr 0), .int (qI (a9)), .int (qI ((ch) - (97))), .int (qI (-1)), .int (qI (s9)), .int (qI (n9)), .int (qI (f9)), .int (qI (t9))]))], qRu cy rr (G) (((k : Nat) : Int))].flatten H := hP
  have hD : va_D A [[(t, .inr (6, [.ref (rr 0), .int (qI (a9)), .int (qI ((ch) - (97))), .int (qI (-1)), .int (qI (s9)), .int (qI (n9)), .int (qI (f9)), .int (qI (t9))]))], qRu cy rr (G) (((k : Nat) : Int))].flatten := hD
  refine lv_aload_n hx hb dX6_readsLeft_13 rfl (lv_at hl 0 rfl) ?_
  refine q_iconst hx hb dX6_readsLeft_14 ?_
  refine pf_X6_63 hx hb hg hown hK hP hD hS 0 0 rfl rfl rfl rfl (Nat.le_of_ble_eq_true rfl) dX6_readsLeft_15 (fun H locs hP hD hS => ?_)
  have hP : va_P D vwCl [[(t, .inr (6, [.ref (rr 0), .int (qI (a9)), .int (qI ((ch) - (97))), .int (qI (-1)), .int (qI (s9)), .int (qI (0)), .int (qI (f9)), .int (qI (t9))]))], qRu cy rr (G) (((k : Nat) : Int))].flatten H := hP
  have hD : va_D A [[(t, .inr (6, [.ref (rr 0), .int (qI (a9)), .int (qI ((ch) - (97))), .int (qI (-1)), .int (qI (s9)), .int (qI (0)), .int (qI (f9)), .int (qI (t9))]))], qRu cy rr (G) (((k : Nat) : Int))].flatten := hD
  refine lv_aload_n hx hb dX6_readsLeft_18 rfl (lv_at hl 0 rfl) ?_
  refine q_iconst hx hb dX6_readsLeft_19 ?_
  refine pf_X6_66 hx hb hg hown hK hP hD hS 0 0 rfl rfl rfl rfl (Nat.le_of_ble_eq_true rfl) dX6_readsLeft_20 (fun H locs hP hD hS => ?_)
  have hP : va_P D vwCl [[(t, .inr (6, [.ref (rr 0), .int (qI (a9)), .int (qI ((ch) - (97))), .int (qI (-1)), .int (qI (s9)), .int (qI (0)), .int (qI (1)), .int (qI (t9))]))], qRu cy rr (G) (((k : Nat) : Int))].flatten H := hP
  have hD : va_D A [[(t, .inr (6, [.ref (rr 0), .int (qI (a9)), .int (qI ((ch) - (97))), .int (qI (-1)), .int (qI (s9)), .int (qI (0)), .int (qI (1)), .int (qI (t9))]))], qRu cy rr (G) (((k : Nat) : Int))].flatten := hD
  refine lv_aload_n hx hb dX6_readsLeft_23 rfl (lv_at hl 0 rfl) ?_
  refine q_iconst hx hb dX6_readsLeft_24 ?_
  refine pf_X6_69 hx hb hg hown hK hP hD hS 0 0 rfl rfl rfl rfl (Nat.le_of_ble_eq_true rfl) dX6_readsLeft_25 (fun H locs hP hD hS => ?_)
  have hP : va_P D vwCl [[(t, .inr (6, [.ref (rr 0), .int (qI (a9)), .int (qI ((ch) - (97))), .int (qI (-1)), .int (qI (s9)), .int (qI (0)), .int (qI (1)), .int (qI (1))]))], qRu cy rr (G) (((k : Nat) : Int))].flatten H := hP
  have hD : va_D A [[(t, .inr (6, [.ref (rr 0), .int (qI (a9)), .int (qI ((ch) - (97))), .int (qI (-1)), .int (qI (s9)), .int (qI (0)), .int (qI (1)), .int (qI (1))]))], qRu cy rr (G) (((k : Nat) : Int))].flatten := hD
  refine lv_iload_n hx hb dX6_readsLeft_28 rfl (lv_at hl 1 rfl) ?_
  refine q_readz (va_runS (As := [.int (qI (ch))]) (rest := []) ⟨hx, hb, hml, hown, hg⟩ (c_X6_isLetter l D cy _ (by omega)) (cs_X6_72 hg rfl rfl ⟨by decide, by decide⟩) ⟨q_blind0, q_preR _ hK hN hP [] rfl⟩ rfl rfl hl.1 rfl (lv_room (Nat.le_of_ble_eq_true rfl)) dX6_readsLeft_29 ⟨by decide, by decide⟩) (fun b_29 h_29 => ?_)
  refine q_ifz_eq (tgt := 47) hx hb dX6_readsLeft_32 (by decide) (fun c_32 => ?_) (fun c_32 => ?_)
  · skip
    have g_32 := mt (h_29).mpr (by rw [c_32]; decide)
    refine q_iconst hx hb dX6_readsLeft_47 ?_
    exact hQ _ _ _ _ false (a9, (ch) - (97), -1, s9, 0, 1, 1, G, k) ⟨iff_of_false (by decide) (by omega), fun h => absurd h (by decide)⟩ hP hD hS dX6_readsLeft_48
  · skip
    have g_32 := (h_29).mp c_32
    refine lv_aload_n hx hb dX6_readsLeft_35 rfl (lv_at hl 0 rfl) ?_
    refine q_iconst hx hb dX6_readsLeft_36 ?_
    refine q_backz [0] [1] (br := [qRu cy rr (G) (((k : Nat) : Int))]) hP hD hS hA (va_runV (As := [.int (qI (1))]) (rest := []) ⟨hx, hb, hml, hown, hg⟩ (c_X6_goesOn l D cy t rr (a9) ((ch) - (97)) (-1) (s9) (0) (1) (1) (1) _) (cv_X6_29 hg rfl rfl ⟨by decide, by decide⟩) ⟨q_blind, va_recv hK (fl_blk hP 0 rfl) (ci := 6) (q0 := 0) rfl rfl, q_preM _ hK hN hP hD [0] (by decide) rfl⟩ rfl rfl hl.1 rfl (lv_room (Nat.le_of_ble_eq_true rfl)) dX6_readsLeft_37 ⟨by decide, by decide⟩) rfl rfl (by decide) (fun b_37 u_37 H locs h_37 hP hD hS => ?_)
    have hP : va_P D vwCl [qRu cy rr (G) (((k : Nat) : Int)), [(t, .inr (6, [.ref (rr 0), .int (qI (1)), .int (qI ((ch) - (97))), .int (qI (-1)), .int (qI (s9)), .int (qI (0)), .int (qI (1)), .int (qI (1))]))]].flatten H := hP
    have hD : va_D A [qRu cy rr (G) (((k : Nat) : Int)), [(t, .inr (6, [.ref (rr 0), .int (qI (1)), .int (qI ((ch) - (97))), .int (qI (-1)), .int (qI (s9)), .int (qI (0)), .int (qI (1)), .int (qI (1))]))]].flatten := hD
    obtain rfl := h_37
    refine q_ifz_eq (tgt := 47) hx hb dX6_readsLeft_40 (by decide) (fun c_40 => ?_) (fun c_40 => ?_)
    · skip
      exact absurd c_40 (by decide)
    · skip
      refine q_iconst hx hb dX6_readsLeft_43 ?_
      refine lv_goto (tgt := 48) hx hb dX6_readsLeft_44 (by decide) ?_
      have hP := fl_sub (bs' := [[(t, .inr (6, [.ref (rr 0), .int (qI (1)), .int (qI ((ch) - (97))), .int (qI (-1)), .int (qI (s9)), .int (qI (0)), .int (qI (1)), .int (qI (1))]))], qRu cy rr (G) (((k : Nat) : Int))]) hP [1, 0] rfl
      have hD := fl_subD (bs' := [[(t, .inr (6, [.ref (rr 0), .int (qI (1)), .int (qI ((ch) - (97))), .int (qI (-1)), .int (qI (s9)), .int (qI (0)), .int (qI (1)), .int (qI (1))]))], qRu cy rr (G) (((k : Nat) : Int))]) hD [1, 0] (by decide) rfl
      exact hQ _ _ _ _ true (1, (ch) - (97), -1, s9, 0, 1, 1, G, k) ⟨iff_of_true rfl (by omega), fun _ => tr_left⟩ hP hD hS dX6_readsLeft_48

set_option maxRecDepth 100000 in
set_option maxHeartbeats 4000000 in
theorem c_X6_readsRight (l : Launch) (D : va_G) (cy : Nat → ClassId) (t : Nat) (rr : Nat → Nat) (a9 l9 r9 s9 n9 f9 t9 : Int) (G : Nat → Nat → Int) (k : Nat) (ch : Int) (hc : 33 ≤ ch ∧ ch ≤ 126) (ha : a9 = 2 ∧ 0 ≤ l9 ∧ l9 ≤ 9) (sz : Nat) : qMet l yX6_readsRight (.code yX6_readsRight cX6_readsRight 2 (some .boolean)) 3 [.ref (t), .int (qI (ch))] D cy [[(t, .inr (6, [.ref (rr 0), .int (qI (a9)), .int (qI (l9)), .int (qI (r9)), .int (qI (s9)), .int (qI (n9)), .int (qI (f9)), .int (qI (t9))]))], qRu cy rr (G) (((k : Nat) : Int))] sz (va_Qi (S := RS) (fun r u => ∃ b : Bool, r = qz b ∧ (fun b u => (b = true ↔ 97 ≤ ch ∧ ch ≤ 106 ∧ ch - 97 ≠ l9) ∧ (b = true → rdTo 2 l9 r9 s9 n9 f9 t9 G k ch u)) b u) (qB D cy [[(t, .inr (6, [.ref (rr 0), .int (qI (a9)), .int (qI (l9)), .int (qI (r9)), .int (qI (s9)), .int (qI (n9)), .int (qI (f9)), .int (qI (t9))]))], qRu cy rr (G) (((k : Nat) : Int))] sz (fun u => [[(t, .inr (6, [.ref (rr 0), .int (qI (u.1)), .int (qI (u.2.1)), .int (qI (u.2.2.1)), .int (qI (u.2.2.2.1)), .int (qI (u.2.2.2.2.1)), .int (qI (u.2.2.2.2.2.1)), .int (qI (u.2.2.2.2.2.2.1))]))], qRu cy rr u.2.2.2.2.2.2.2.1 (u.2.2.2.2.2.2.2.2 : Int)])) (va_A [[(t, .inr (6, [.ref (rr 0), .int (qI (a9)), .int (qI (l9)), .int (qI (r9)), .int (qI (s9)), .int (qI (n9)), .int (qI (f9)), .int (qI (t9))]))], qRu cy rr (G) (((k : Nat) : Int))].flatten sz)) := by
  refine q_ofMz (S := RS) (b1 := fun u => [[(t, .inr (6, [.ref (rr 0), .int (qI (u.1)), .int (qI (u.2.1)), .int (qI (u.2.2.1)), .int (qI (u.2.2.2.1)), .int (qI (u.2.2.2.2.1)), .int (qI (u.2.2.2.2.2.1)), .int (qI (u.2.2.2.2.2.2.1))]))], qRu cy rr u.2.2.2.2.2.2.2.1 (u.2.2.2.2.2.2.2.2 : Int)]) (post := fun b u => (b = true ↔ 97 ≤ ch ∧ ch ≤ 106 ∧ ch - 97 ≠ l9) ∧ (b = true → rdTo 2 l9 r9 s9 n9 f9 t9 G k ch u)) (by decide +kernel) (Nat.le_of_ble_eq_true rfl) ?_
  intro p e s m args below meth c Q A hx hb hml hown hg hQ hK hN hD hA H locs ls hP hS hl
  have hown : s.vm.findClass RX6 = some m.cls := hown
  have hl : lv_has ls 2 [(0, .ref (t)), (1, .int (qI (ch)))] := hl
  refine lv_aload_n hx hb dX6_readsRight_0 rfl (lv_at hl 0 rfl) ?_
  refine lv_iload_n hx hb dX6_readsRight_1 rfl (lv_at hl 1 rfl) ?_
  refine q_bipush hx hb dX6_readsRight_2 (by decide) ?_
  refine q_isub hx hb dX6_readsRight_4 ?_
  refine pf_X6_60 hx hb hg hown hK hP hD hS 0 0 rfl rfl rfl rfl (Nat.le_of_ble_eq_true rfl) dX6_readsRight_5 (fun H locs hP hD hS => ?_)
  have hP : va_P D vwCl [[(t, .inr (6, [.ref (rr 0), .int (qI (a9)), .int (qI (l9)), .int (qI ((ch) - (97))), .int (qI (s9)), .int (qI (n9)), .int (qI (f9)), .int (qI (t9))]))], qRu cy rr (G) (((k : Nat) : Int))].flatten H := hP
  have hD : va_D A [[(t, .inr (6, [.ref (rr 0), .int (qI (a9)), .int (qI (l9)), .int (qI ((ch) - (97))), .int (qI (s9)), .int (qI (n9)), .int (qI (f9)), .int (qI (t9))]))], qRu cy rr (G) (((k : Nat) : Int))].flatten := hD
  refine lv_iload_n hx hb dX6_readsRight_8 rfl (lv_at hl 1 rfl) ?_
  refine q_readz (va_runS (As := [.int (qI (ch))]) (rest := []) ⟨hx, hb, hml, hown, hg⟩ (c_X6_isLetter l D cy _ (by omega)) (cs_X6_72 hg rfl rfl ⟨by decide, by decide⟩) ⟨q_blind0, q_preR _ hK hN hP [] rfl⟩ rfl rfl hl.1 rfl (lv_room (Nat.le_of_ble_eq_true rfl)) dX6_readsRight_9 ⟨by decide, by decide⟩) (fun b_9 h_9 => ?_)
  refine q_ifz_eq (tgt := 38) hx hb dX6_readsRight_12 (by decide) (fun c_12 => ?_) (fun c_12 => ?_)
  · skip
    have g_12 := mt (h_9).mpr (by rw [c_12]; decide)
    refine q_iconst hx hb dX6_readsRight_38 ?_
    exact hQ _ _ _ _ false (a9, l9, (ch) - (97), s9, n9, f9, t9, G, k) ⟨iff_of_false (by decide) (by omega), fun h => absurd h (by decide)⟩ hP hD hS dX6_readsRight_39
  · skip
    have g_12 := (h_9).mp c_12
    refine lv_aload_n hx hb dX6_readsRight_15 rfl (lv_at hl 0 rfl) ?_
    refine gf_X6_60 hx hb hg hown hK (fl_blk hP 0 rfl) 0 rfl rfl dX6_readsRight_16 ?_
    refine lv_aload_n hx hb dX6_readsRight_19 rfl (lv_at hl 0 rfl) ?_
    refine gf_X6_57 hx hb hg hown hK (fl_blk hP 0 rfl) 0 rfl rfl dX6_readsRight_20 ?_
    refine q_icmp_eq (tgt := 38) hx hb dX6_readsRight_23 (by decide) (by omega) (fun c_23 => ?_) (fun c_23 => ?_)
    · skip
      refine q_iconst hx hb dX6_readsRight_38 ?_
      exact hQ _ _ _ _ false (a9, l9, (ch) - (97), s9, n9, f9, t9, G, k) ⟨iff_of_false (by decide) (by omega), fun h => absurd h (by decide)⟩ hP hD hS dX6_readsRight_39
    · skip
      refine lv_aload_n hx hb dX6_readsRight_26 rfl (lv_at hl 0 rfl) ?_
      refine q_iconst hx hb dX6_readsRight_27 ?_
      refine q_backz [0] [1] (br := [qRu cy rr (G) (((k : Nat) : Int))]) hP hD hS hA (va_runV (As := [.int (qI (3))]) (rest := []) ⟨hx, hb, hml, hown, hg⟩ (c_X6_goesOn l D cy t rr (a9) (l9) ((ch) - (97)) (s9) (n9) (f9) (t9) (3) _) (cv_X6_29 hg rfl rfl ⟨by decide, by decide⟩) ⟨q_blind, va_recv hK (fl_blk hP 0 rfl) (ci := 6) (q0 := 0) rfl rfl, q_preM _ hK hN hP hD [0] (by decide) rfl⟩ rfl rfl hl.1 rfl (lv_room (Nat.le_of_ble_eq_true rfl)) dX6_readsRight_28 ⟨by decide, by decide⟩) rfl rfl (by decide) (fun b_28 u_28 H locs h_28 hP hD hS => ?_)
      have hP : va_P D vwCl [qRu cy rr (G) (((k : Nat) : Int)), [(t, .inr (6, [.ref (rr 0), .int (qI (3)), .int (qI (l9)), .int (qI ((ch) - (97))), .int (qI (s9)), .int (qI (n9)), .int (qI (f9)), .int (qI (t9))]))]].flatten H := hP
      have hD : va_D A [qRu cy rr (G) (((k : Nat) : Int)), [(t, .inr (6, [.ref (rr 0), .int (qI (3)), .int (qI (l9)), .int (qI ((ch) - (97))), .int (qI (s9)), .int (qI (n9)), .int (qI (f9)), .int (qI (t9))]))]].flatten := hD
      obtain rfl := h_28
      refine q_ifz_eq (tgt := 38) hx hb dX6_readsRight_31 (by decide) (fun c_31 => ?_) (fun c_31 => ?_)
      · skip
        exact absurd c_31 (by decide)
      · skip
        refine q_iconst hx hb dX6_readsRight_34 ?_
        refine lv_goto (tgt := 39) hx hb dX6_readsRight_35 (by decide) ?_
        have hP := fl_sub (bs' := [[(t, .inr (6, [.ref (rr 0), .int (qI (3)), .int (qI (l9)), .int (qI ((ch) - (97))), .int (qI (s9)), .int (qI (n9)), .int (qI (f9)), .int (qI (t9))]))], qRu cy rr (G) (((k : Nat) : Int))]) hP [1, 0] rfl
        have hD := fl_subD (bs' := [[(t, .inr (6, [.ref (rr 0), .int (qI (3)), .int (qI (l9)), .int (qI ((ch) - (97))), .int (qI (s9)), .int (qI (n9)), .int (qI (f9)), .int (qI (t9))]))], qRu cy rr (G) (((k : Nat) : Int))]) hD [1, 0] (by decide) rfl
        exact hQ _ _ _ _ true (3, l9, (ch) - (97), s9, n9, f9, t9, G, k) ⟨iff_of_true rfl (by omega), fun _ => tr_right⟩ hP hD hS dX6_readsRight_39

set_option maxRecDepth 100000 in
set_option maxHeartbeats 4000000 in
theorem c_X6_readsSign (l : Launch) (D : va_G) (cy : Nat → ClassId) (t : Nat) (rr : Nat → Nat) (a9 l9 r9 s9 n9 f9 t9 : Int) (G : Nat → Nat → Int) (k : Nat) (ch : Int) (hc : 33 ≤ ch ∧ ch ≤ 126) (ha : a9 = 1 ∨ a9 = 3) (sz : Nat) : qMet l yX6_readsSign (.code yX6_readsSign cX6_readsSign 2 (some .boolean)) 2 [.ref (t), .int (qI (ch))] D cy [[(t, .inr (6, [.ref (rr 0), .int (qI (a9)), .int (qI (l9)), .int (qI (r9)), .int (qI (s9)), .int (qI (n9)), .int (qI (f9)), .int (qI (t9))]))], qRu cy rr (G) (((k : Nat) : Int))] sz (va_Qi (S := RS) (fun r u => ∃ b : Bool, r = qz b ∧ (fun b u => (b = true ↔ 60 ≤ ch ∧ ch ≤ 62) ∧ (b = true → rdTo 3 l9 r9 s9 n9 f9 t9 G k ch u)) b u) (qB D cy [[(t, .inr (6, [.ref (rr 0), .int (qI (a9)), .int (qI (l9)), .int (qI (r9)), .int (qI (s9)), .int (qI (n9)), .int (qI (f9)), .int (qI (t9))]))], qRu cy rr (G) (((k : Nat) : Int))] sz (fun u => [[(t, .inr (6, [.ref (rr 0), .int (qI (u.1)), .int (qI (u.2.1)), .int (qI (u.2.2.1)), .int (qI (u.2.2.2.1)), .int (qI (u.2.2.2.2.1)), .int (qI (u.2.2.2.2.2.1)), .int (qI (u.2.2.2.2.2.2.1))]))], qRu cy rr u.2.2.2.2.2.2.2.1 (u.2.2.2.2.2.2.2.2 : Int)])) (va_A [[(t, .inr (6, [.ref (rr 0), .int (qI (a9)), .int (qI (l9)), .int (qI (r9)), .int (qI (s9)), .int (qI (n9)), .int (qI (f9)), .int (qI (t9))]))], qRu cy rr (G) (((k : Nat) : Int))].flatten sz)) := by
  refine q_ofMz (S := RS) (b1 := fun u => [[(t, .inr (6, [.ref (rr 0), .int (qI (u.1)), .int (qI (u.2.1)), .int (qI (u.2.2.1)), .int (qI (u.2.2.2.1)), .int (qI (u.2.2.2.2.1)), .int (qI (u.2.2.2.2.2.1)), .int (qI (u.2.2.2.2.2.2.1))]))], qRu cy rr u.2.2.2.2.2.2.2.1 (u.2.2.2.2.2.2.2.2 : Int)]) (post := fun b u => (b = true ↔ 60 ≤ ch ∧ ch ≤ 62) ∧ (b = true → rdTo 3 l9 r9 s9 n9 f9 t9 G k ch u)) (by decide +kernel) (Nat.le_of_ble_eq_true rfl) ?_
  intro p e s m args below meth c Q A hx hb hml hown hg hQ hK hN hD hA H locs ls hP hS hl
  have hown : s.vm.findClass RX6 = some m.cls := hown
  have hl : lv_has ls 2 [(0, .ref (t)), (1, .int (qI (ch)))] := hl
  refine lv_aload_n hx hb dX6_readsSign_0 rfl (lv_at hl 0 rfl) ?_
  refine lv_iload_n hx hb dX6_readsSign_1 rfl (lv_at hl 1 rfl) ?_
  refine q_bipush hx hb dX6_readsSign_2 (by decide) ?_
  refine q_isub hx hb dX6_readsSign_4 ?_
  refine pf_X6_75 hx hb hg hown hK hP hD hS 0 0 rfl rfl rfl rfl (Nat.le_of_ble_eq_true rfl) dX6_readsSign_5 (fun H locs hP hD hS => ?_)
  have hP : va_P D vwCl [[(t, .inr (6, [.ref (rr 0), .int (qI (a9)), .int (qI (l9)), .int (qI (r9)), .int (qI ((ch) - (60))), .int (qI (n9)), .int (qI (f9)), .int (qI (t9))]))], qRu cy rr (G) (((k : Nat) : Int))].flatten H := hP
  have hD : va_D A [[(t, .inr (6, [.ref (rr 0), .int (qI (a9)), .int (qI (l9)), .int (qI (r9)), .int (qI ((ch) - (60))), .int (qI (n9)), .int (qI (f9)), .int (qI (t9))]))], qRu cy rr (G) (((k : Nat) : Int))].flatten := hD
  refine lv_aload_n hx hb dX6_readsSign_8 rfl (lv_at hl 0 rfl) ?_
  refine gf_X6_75 hx hb hg hown hK (fl_blk hP 0 rfl) 0 rfl rfl dX6_readsSign_9 ?_
  refine q_iconst hx hb dX6_readsSign_12 ?_
  refine q_iconst hx hb dX6_readsSign_13 ?_
  refine q_readz (va_runSN (As := [.int (qI ((ch) - (60))), .int (qI (0)), .int (qI (2))]) (rest := []) ⟨hx, hb, hml, hown, hg⟩ (c_X7_isWithin l D cy _ _ _ (by omega)) (cn_X6_53 hg hN rfl rfl ⟨by decide, by decide⟩) ⟨q_blind0, q_preR _ hK hN hP [] rfl⟩ rfl rfl hl.1 rfl (lv_room (Nat.le_of_ble_eq_true rfl)) dX6_readsSign_14 ⟨by decide, by decide⟩) (fun b_14 h_14 => ?_)
  refine q_ifz_eq (tgt := 32) hx hb dX6_readsSign_17 (by decide) (fun c_17 => ?_) (fun c_17 => ?_)
  · skip
    have g_17 := mt (h_14).mpr (by rw [c_17]; decide)
    refine q_iconst hx hb dX6_readsSign_32 ?_
    exact hQ _ _ _ _ false (a9, l9, r9, (ch) - (60), n9, f9, t9, G, k) ⟨iff_of_false (by decide) (by omega), fun h => absurd h (by decide)⟩ hP hD hS dX6_readsSign_33
  · skip
    have g_17 := (h_14).mp c_17
    refine lv_aload_n hx hb dX6_readsSign_20 rfl (lv_at hl 0 rfl) ?_
    refine q_iconst hx hb dX6_readsSign_21 ?_
    refine q_backz [0] [1] (br := [qRu cy rr (G) (((k : Nat) : Int))]) hP hD hS hA (va_runV (As := [.int (qI (4))]) (rest := []) ⟨hx, hb, hml, hown, hg⟩ (c_X6_goesOn l D cy t rr (a9) (l9) (r9) ((ch) - (60)) (n9) (f9) (t9) (4) _) (cv_X6_29 hg rfl rfl ⟨by decide, by decide⟩) ⟨q_blind, va_recv hK (fl_blk hP 0 rfl) (ci := 6) (q0 := 0) rfl rfl, q_preM _ hK hN hP hD [0] (by decide) rfl⟩ rfl rfl hl.1 rfl (lv_room (Nat.le_of_ble_eq_true rfl)) dX6_readsSign_22 ⟨by decide, by decide⟩) rfl rfl (by decide) (fun b_22 u_22 H locs h_22 hP hD hS => ?_)
    have hP : va_P D vwCl [qRu cy rr (G) (((k : Nat) : Int)), [(t, .inr (6, [.ref (rr 0), .int (qI (4)), .int (qI (l9)), .int (qI (r9)), .int (qI ((ch) - (60))), .int (qI (n9)), .int (qI (f9)), .int (qI (t9))]))]].flatten H := hP
    have hD : va_D A [qRu cy rr (G) (((k : Nat) : Int)), [(t, .inr (6, [.ref (rr 0), .int (qI (4)), .int (qI (l9)), .int (qI (r9)), .int (qI ((ch) - (60))), .int (qI (n9)), .int (qI (f9)), .int (qI (t9))]))]].flatten := hD
    obtain rfl := h_22
    refine q_ifz_eq (tgt := 32) hx hb dX6_readsSign_25 (by decide) (fun c_25 => ?_) (fun c_25 => ?_)
    · skip
      exact absurd c_25 (by decide)
    · skip
      refine q_iconst hx hb dX6_readsSign_28 ?_
      refine lv_goto (tgt := 33) hx hb dX6_readsSign_29 (by decide) ?_
      have hP := fl_sub (bs' := [[(t, .inr (6, [.ref (rr 0), .int (qI (4)), .int (qI (l9)), .int (qI (r9)), .int (qI ((ch) - (60))), .int (qI (n9)), .int (qI (f9)), .int (qI (t9))]))], qRu cy rr (G) (((k : Nat) : Int))]) hP [1, 0] rfl
      have hD := fl_subD (bs' := [[(t, .inr (6, [.ref (rr 0), .int (qI (4)), .int (qI (l9)), .int (qI (r9)), .int (qI ((ch) - (60))), .int (qI (n9)), .int (qI (f9)), .int (qI (t9))]))], qRu cy rr (G) (((k : Nat) : Int))]) hD [1, 0] (by decide) rfl
      exact hQ _ _ _ _ true (4, l9, r9, (ch) - (60), n9, f9, t9, G, k) ⟨iff_of_true rfl (by omega), fun _ => tr_sign⟩ hP hD hS dX6_readsSign_33

set_option maxRecDepth 100000 in
set_option maxHeartbeats 4000000 in
theorem c_X6_readsDigit (l : Launch) (D : va_G) (cy : Nat → ClassId) (t : Nat) (rr : Nat → Nat) (a9 l9 r9 s9 n9 f9 t9 : Int) (G : Nat → Nat → Int) (k : Nat) (ch : Int) (hc : 33 ≤ ch ∧ ch ≤ 126) (hn : 0 ≤ n9 ∧ n9 ≤ 2000) (sz : Nat) : qMet l yX6_readsDigit (.code yX6_readsDigit cX6_readsDigit 3 (some .boolean)) 2 [.ref (t), .int (qI (ch))] D cy [[(t, .inr (6, [.ref (rr 0), .int (qI (a9)), .int (qI (l9)), .int (qI (r9)), .int (qI (s9)), .int (qI (n9)), .int (qI (f9)), .int (qI (t9))]))], qRu cy rr (G) (((k : Nat) : Int))] sz (va_Qi (S := RS) (fun r u => ∃ b : Bool, r = qz b ∧ (fun b u => (b = true ↔ 48 ≤ ch ∧ ch ≤ 57 ∧ 10 * n9 + ch - 48 ≤ 2000) ∧ (b = true → rdTo 6 l9 r9 s9 n9 f9 t9 G k ch u) ∧ (b = false → u = (a9, l9, r9, s9, n9, f9, t9, G, k))) b u) (qB D cy [[(t, .inr (6, [.ref (rr 0), .int (qI (a9)), .int (qI (l9)), .int (qI (r9)), .int (qI (s9)), .int (qI (n9)), .int (qI (f9)), .int (qI (t9))]))], qRu cy rr (G) (((k : Nat) : Int))] sz (fun u => [[(t, .inr (6, [.ref (rr 0), .int (qI (u.1)), .int (qI (u.2.1)), .int (qI (u.2.2.1)), .int (qI (u.2.2.2.1)), .int (qI (u.2.2.2.2.1)), .int (qI (u.2.2.2.2.2.1)), .int (qI (u.2.2.2.2.2.2.1))]))], qRu cy rr u.2.2.2.2.2.2.2.1 (u.2.2.2.2.2.2.2.2 : Int)])) (va_A [[(t, .inr (6, [.ref (rr 0), .int (qI (a9)), .int (qI (l9)), .int (qI (r9)), .int (qI (s9)), .int (qI (n9)), .int (qI (f9)), .int (qI (t9))]))], qRu cy rr (G) (((k : Nat) : Int))].flatten sz)) := by
  refine q_ofMz (S := RS) (b1 := fun u => [[(t, .inr (6, [.ref (rr 0), .int (qI (u.1)), .int (qI (u.2.1)), .int (qI (u.2.2.1)), .int (qI (u.2.2.2.1)), .int (qI (u.2.2.2.2.1)), .int (qI (u.2.2.2.2.2.1)), .int (qI (u.2.2.2.2.2.2.1))]))], qRu cy rr u.2.2.2.2.2.2.2.1 (u.2.2.2.2.2.2.2.2 : Int)]) (post := fun b u => (b = true ↔ 48 ≤ ch ∧ ch ≤ 57 ∧ 10 * n9 + ch - 48 ≤ 2000) ∧ (b = true → rdTo 6 l9 r9 s9 n9 f9 t9 G k ch u) ∧ (b = false → u = (a9, l9, r9, s9, n9, f9, t9, G, k))) (by decide +kernel) (Nat.le_of_ble_eq_true rfl) ?_
  intro p e s m args below meth c Q A hx hb hml hown hg hQ hK hN hD hA H locs ls hP hS hl
  have hown : s.vm.findClass RX6 = some m.cls := hown
  have hl : lv_has ls 3 [(0, .ref (t)), (1, .int (qI (ch)))] := hl
  refine q_bipush hx hb dX6_readsDigit_0 (by decide) ?_
  refine lv_aload_n hx hb dX6_readsDigit_2 rfl (lv_at hl 0 rfl) ?_
  refine gf_X6_63 hx hb hg hown hK (fl_blk hP 0 rfl) 0 rfl rfl dX6_readsDigit_3 ?_
  refine q_imul hx hb dX6_readsDigit_6 ?_
  refine lv_iload_n hx hb dX6_readsDigit_7 rfl (lv_at hl 1 rfl) ?_
  refine q_iadd hx hb dX6_readsDigit_8 ?_
  refine q_bipush hx hb dX6_readsDigit_9 (by decide) ?_
  refine q_isub hx hb dX6_readsDigit_11 ?_
  refine lv_istore_n (lv' := [(2, .int (qI ((((10) * (n9)) + (ch)) - (48)))), (0, .ref (t)), (1, .int (qI (ch)))]) hx hb dX6_readsDigit_12 rfl hl (by decide) rfl (fun ls hl => ?_)
  refine lv_iload_n hx hb dX6_readsDigit_13 rfl (lv_at hl 2 rfl) ?_
  refine q_bipush hx hb dX6_readsDigit_14 (by decide) ?_
  refine q_bipush hx hb dX6_readsDigit_16 (by decide) ?_
  refine q_readz (va_runSN (As := [.int (qI (ch)), .int (qI (48)), .int (qI (57))]) (rest := []) ⟨hx, hb, hml, hown, hg⟩ (c_X7_isWithin l D cy _ _ _ (by omega)) (cn_X6_53 hg hN rfl rfl ⟨by decide, by decide⟩) ⟨q_blind0, q_preR _ hK hN hP [] rfl⟩ rfl rfl hl.1 rfl (lv_room (Nat.le_of_ble_eq_true rfl)) dX6_readsDigit_18 ⟨by decide, by decide⟩) (fun b_18 h_18 => ?_)
  refine q_ifz_eq (tgt := 31) hx hb dX6_readsDigit_21 (by decide) (fun c_21 => ?_) (fun c_21 => ?_)
  · skip
    have g_21 := mt (h_18).mpr (by rw [c_21]; decide)
    refine q_iconst hx hb dX6_readsDigit_31 ?_
    exact hQ _ _ _ _ false (a9, l9, r9, s9, n9, f9, t9, G, k) ⟨iff_of_false (by decide) (by omega), fun h => absurd h (by decide), fun _ => rfl⟩ hP hD hS dX6_readsDigit_32
  · skip
    have g_21 := (h_18).mp c_21
    refine lv_iload_n hx hb dX6_readsDigit_24 rfl (lv_at hl 0 rfl) ?_
    refine q_sipush hx hb dX6_readsDigit_25 (by decide) ?_
    refine q_icmp_le (tgt := 33) hx hb dX6_readsDigit_28 (by decide) (by omega) (fun c_28 => ?_) (fun c_28 => ?_)
    · skip
      refine lv_aload_n hx hb dX6_readsDigit_33 rfl (lv_at hl 1 rfl) ?_
      refine lv_iload_n hx hb dX6_readsDigit_34 rfl (lv_at hl 0 rfl) ?_
      refine pf_X6_63 hx hb hg hown hK hP hD hS 0 0 rfl rfl rfl rfl (Nat.le_of_ble_eq_true rfl) dX6_readsDigit_35 (fun H locs hP hD hS => ?_)
      have hP : va_P D vwCl [[(t, .inr (6, [.ref (rr 0), .int (qI (a9)), .int (qI (l9)), .int (qI (r9)), .int (qI (s9)), .int (qI ((((10) * (n9)) + (ch)) - (48))), .int (qI (f9)), .int (qI (t9))]))], qRu cy rr (G) (((k : Nat) : Int))].flatten H := hP
      have hD : va_D A [[(t, .inr (6, [.ref (rr 0), .int (qI (a9)), .int (qI (l9)), .int (qI (r9)), .int (qI (s9)), .int (qI ((((10) * (n9)) + (ch)) - (48))), .int (qI (f9)), .int (qI (t9))]))], qRu cy rr (G) (((k : Nat) : Int))].flatten := hD
      refine lv_aload_n hx hb dX6_readsDigit_38 rfl (lv_at hl 1 rfl) ?_
      refine q_bipush hx hb dX6_readsDigit_39 (by decide) ?_
      refine q_backz [0] [1] (br := [qRu cy rr (G) (((k : Nat) : Int))]) hP hD hS hA (va_runV (As := [.int (qI (6))]) (rest := []) ⟨hx, hb, hml, hown, hg⟩ (c_X6_goesOn l D cy t rr (a9) (l9) (r9) (s9) ((((10) * (n9)) + (ch)) - (48)) (f9) (t9) (6) _) (cv_X6_29 hg rfl rfl ⟨by decide, by decide⟩) ⟨q_blind, va_recv hK (fl_blk hP 0 rfl) (ci := 6) (q0 := 0) rfl rfl, q_preM _ hK hN hP hD [0] (by decide) rfl⟩ rfl rfl hl.1 rfl (lv_room (Nat.le_of_ble_eq_true rfl)) dX6_readsDigit_41 ⟨by decide, by decide⟩) rfl rfl (by decide) (fun b_41 u_41 H locs h_41 hP hD hS => ?_)
      have hP : va_P D vwCl [qRu cy rr (G) (((k : Nat) : Int)), [(t, .inr (6, [.ref (rr 0), .int (qI (6)), .int (qI (l9)), .int (qI (r9)), .int (qI (s9)), .int (qI ((((10) * (n9)) + (ch)) - (48))), .int (qI (f9)), .int (qI (t9))]))]].flatten H := hP
      have hD : va_D A [qRu cy rr (G) (((k : Nat) : Int)), [(t, .inr (6, [.ref (rr 0), .int (qI (6)), .int (qI (l9)), .int (qI (r9)), .int (qI (s9)), .int (qI ((((10) * (n9)) + (ch)) - (48))), .int (qI (f9)), .int (qI (t9))]))]].flatten := hD
      obtain rfl := h_41
      have hP := fl_sub (bs' := [[(t, .inr (6, [.ref (rr 0), .int (qI (6)), .int (qI (l9)), .int (qI (r9)), .int (qI (s9)), .int (qI ((((10) * (n9)) + (ch)) - (48))), .int (qI (f9)), .int (qI (t9))]))], qRu cy rr (G) (((k : Nat) : Int))]) hP [1, 0] rfl
      have hD := fl_subD (bs' := [[(t, .inr (6, [.ref (rr 0), .int (qI (6)), .int (qI (l9)), .int (qI (r9)), .int (qI (s9)), .int (qI ((((10) * (n9)) + (ch)) - (48))), .int (qI (f9)), .int (qI (t9))]))], qRu cy rr (G) (((k : Nat) : Int))]) hD [1, 0] (by decide) rfl
      exact hQ _ _ _ _ true (6, l9, r9, s9, (((10) * (n9)) + (ch)) - (48), f9, t9, G, k) ⟨iff_of_true rfl (by omega), fun _ => tr_digit (by omega), fun h => absurd h (by decide)⟩ hP hD hS dX6_readsDigit_44
    · skip
      refine q_iconst hx hb dX6_readsDigit_31 ?_
      exact hQ _ _ _ _ false (a9, l9, r9, s9, n9, f9, t9, G, k) ⟨iff_of_false (by decide) (by omega), fun h => absurd h (by decide), fun _ => rfl⟩ hP hD hS dX6_readsDigit_32

set_option maxRecDepth 100000 in
set_option maxHeartbeats 4000000 in
theorem c_X6_readsConditionEnd (l : Launch) (D : va_G) (cy : Nat → ClassId) (t : Nat) (rr : Nat → Nat) (a9 l9 r9 s9 n9 f9 t9 : Int) (G : Nat → Nat → Int) (k : Nat) (ch : Int) (hc : 33 ≤ ch ∧ ch ≤ 126) (hk : k < 16) (sz : Nat) : qMet l yX6_readsConditionEnd (.code yX6_readsConditionEnd cX6_readsConditionEnd 2 (some .boolean)) 2 [.ref (t), .int (qI (ch))] D cy [[(t, .inr (6, [.ref (rr 0), .int (qI (a9)), .int (qI (l9)), .int (qI (r9)), .int (qI (s9)), .int (qI (n9)), .int (qI (f9)), .int (qI (t9))]))], qRu cy rr (G) (((k : Nat) : Int))] sz (va_Qi (S := RS) (fun r u => ∃ b : Bool, r = qz b ∧ (fun b u => (b = true ↔ ch = 59) ∧ (b = true → rdTo 9 l9 r9 s9 n9 f9 t9 G k ch u)) b u) (qB D cy [[(t, .inr (6, [.ref (rr 0), .int (qI (a9)), .int (qI (l9)), .int (qI (r9)), .int (qI (s9)), .int (qI (n9)), .int (qI (f9)), .int (qI (t9))]))], qRu cy rr (G) (((k : Nat) : Int))] sz (fun u => [[(t, .inr (6, [.ref (rr 0), .int (qI (u.1)), .int (qI (u.2.1)), .int (qI (u.2.2.1)), .int (qI (u.2.2.2.1)), .int (qI (u.2.2.2.2.1)), .int (qI (u.2.2.2.2.2.1)), .int (qI (u.2.2.2.2.2.2.1))]))], qRu cy rr u.2.2.2.2.2.2.2.1 (u.2.2.2.2.2.2.2.2 : Int)])) (va_A [[(t, .inr (6, [.ref (rr 0), .int (qI (a9)), .int (qI (l9)), .int (qI (r9)), .int (qI (s9)), .int (qI (n9)), .int (qI (f9)), .int (qI (t9))]))], qRu cy rr (G) (((k : Nat) : Int))].flatten sz)) := by
  refine q_ofMz (S := RS) (b1 := fun u => [[(t, .inr (6, [.ref (rr 0), .int (qI (u.1)), .int (qI (u.2.1)), .int (qI (u.2.2.1)), .int (qI (u.2.2.2.1)), .int (qI (u.2.2.2.2.1)), .int (qI (u.2.2.2.2.2.1)), .int (qI (u.2.2.2.2.2.2.1))]))], qRu cy rr u.2.2.2.2.2.2.2.1 (u.2.2.2.2.2.2.2.2 : Int)]) (post := fun b u => (b = true ↔ ch = 59) ∧ (b = true → rdTo 9 l9 r9 s9 n9 f9 t9 G k ch u)) (by decide +kernel) (Nat.le_of_ble_eq_true rfl) ?_
  intro p e s m args below meth c Q A hx hb hml hown hg hQ hK hN hD hA H locs ls hP hS hl
  have hown : s.vm.findClass RX6 = some m.cls := hown
  have hl : lv_has ls 2 [(0, .ref (t)), (1, .int (qI (ch)))] := hl
  refine lv_iload_n hx hb dX6_readsConditionEnd_0 rfl (lv_at hl 1 rfl) ?_
  refine q_bipush hx hb dX6_readsConditionEnd_1 (by decide) ?_
  refine q_icmp_eq (tgt := 8) hx hb dX6_readsConditionEnd_3 (by decide) (by omega) (fun c_3 => ?_) (fun c_3 => ?_)
  · skip
    refine lv_aload_n hx hb dX6_readsConditionEnd_8 rfl (lv_at hl 0 rfl) ?_
    refine gf_X6_12 hx hb hg hown hK (fl_blk hP 0 rfl) 0 rfl rfl dX6_readsConditionEnd_9 ?_
    refine lv_aload_n hx hb dX6_readsConditionEnd_12 rfl (lv_at hl 0 rfl) ?_
    refine gf_X6_57 hx hb hg hown hK (fl_blk hP 0 rfl) 0 rfl rfl dX6_readsConditionEnd_13 ?_
    refine lv_aload_n hx hb dX6_readsConditionEnd_16 rfl (lv_at hl 0 rfl) ?_
    refine gf_X6_60 hx hb hg hown hK (fl_blk hP 0 rfl) 0 rfl rfl dX6_readsConditionEnd_17 ?_
    refine lv_aload_n hx hb dX6_readsConditionEnd_20 rfl (lv_at hl 0 rfl) ?_
    refine gf_X6_75 hx hb hg hown hK (fl_blk hP 0 rfl) 0 rfl rfl dX6_readsConditionEnd_21 ?_
    refine lv_aload_n hx hb dX6_readsConditionEnd_24 rfl (lv_at hl 0 rfl) ?_
    refine gf_X6_66 hx hb hg hown hK (fl_blk hP 0 rfl) 0 rfl rfl dX6_readsConditionEnd_25 ?_
    refine lv_aload_n hx hb dX6_readsConditionEnd_28 rfl (lv_at hl 0 rfl) ?_
    refine gf_X6_63 hx hb hg hown hK (fl_blk hP 0 rfl) 0 rfl rfl dX6_readsConditionEnd_29 ?_
    refine q_imul hx hb dX6_readsConditionEnd_32 ?_
    refine lv_aload_n hx hb dX6_readsConditionEnd_33 rfl (lv_at hl 0 rfl) ?_
    refine gf_X6_69 hx hb hg hown hK (fl_blk hP 0 rfl) 0 rfl rfl dX6_readsConditionEnd_34 ?_
    refine q_backv [1] [0] (br := [[(t, .inr (6, [.ref (rr 0), .int (qI (a9)), .int (qI (l9)), .int (qI (r9)), .int (qI (s9)), .int (qI (n9)), .int (qI (f9)), .int (qI (t9))]))]]) hP hD hS hA (va_runV (As := [.int (qI (l9)), .int (qI (r9)), .int (qI (s9)), .int (qI ((f9) * (n9))), .int (qI (t9))]) (rest := []) ⟨hx, hb, hml, hown, hg⟩ (c_X5_push l D cy (rr) (G) k _ _ _ _ _ (by omega) _) (cv_X6_81 hg rfl rfl ⟨by decide, by decide⟩) ⟨q_blind, va_recv hK (fl_blk hP 1 rfl) (ci := 5) (q0 := 0) rfl rfl, q_preM _ hK hN hP hD [1] (by decide) rfl⟩ rfl rfl hl.1 rfl (lv_room (Nat.le_of_ble_eq_true rfl)) dX6_readsConditionEnd_37 ⟨by decide, by decide⟩) rfl rfl (by decide) (fun u_37 H locs h_37 hP hD hS => ?_)
    have hP : va_P D vwCl [[(t, .inr (6, [.ref (rr 0), .int (qI (a9)), .int (qI (l9)), .int (qI (r9)), .int (qI (s9)), .int (qI (n9)), .int (qI (f9)), .int (qI (t9))]))], qRu cy rr (u_37) (((k + 1 : Nat) : Int))].flatten H := hP
    have hD : va_D A [[(t, .inr (6, [.ref (rr 0), .int (qI (a9)), .int (qI (l9)), .int (qI (r9)), .int (qI (s9)), .int (qI (n9)), .int (qI (f9)), .int (qI (t9))]))], qRu cy rr (u_37) (((k + 1 : Nat) : Int))].flatten := hD
    refine lv_aload_n hx hb dX6_readsConditionEnd_40 rfl (lv_at hl 0 rfl) ?_
    refine q_iconst hx hb dX6_readsConditionEnd_41 ?_
    refine q_backz [0] [1] (br := [qRu cy rr (u_37) (((k + 1 : Nat) : Int))]) hP hD hS hA (va_runV (As := [.int (qI (0))]) (rest := []) ⟨hx, hb, hml, hown, hg⟩ (c_X6_goesOn l D cy t rr (a9) (l9) (r9) (s9) (n9) (f9) (t9) (0) _) (cv_X6_29 hg rfl rfl ⟨by decide, by decide⟩) ⟨q_blind, va_recv hK (fl_blk hP 0 rfl) (ci := 6) (q0 := 0) rfl rfl, q_preM _ hK hN hP hD [0] (by decide) rfl⟩ rfl rfl hl.1 rfl (lv_room (Nat.le_of_ble_eq_true rfl)) dX6_readsConditionEnd_42 ⟨by decide, by decide⟩) rfl rfl (by decide) (fun b_42 u_42 H locs h_42 hP hD hS => ?_)
    have hP : va_P D vwCl [qRu cy rr (u_37) (((k + 1 : Nat) : Int)), [(t, .inr (6, [.ref (rr 0), .int (qI (0)), .int (qI (l9)), .int (qI (r9)), .int (qI (s9)), .int (qI (n9)), .int (qI (f9)), .int (qI (t9))]))]].flatten H := hP
    have hD : va_D A [qRu cy rr (u_37) (((k + 1 : Nat) : Int)), [(t, .inr (6, [.ref (rr 0), .int (qI (0)), .int (qI (l9)), .int (qI (r9)), .int (qI (s9)), .int (qI (n9)), .int (qI (f9)), .int (qI (t9))]))]].flatten := hD
    obtain rfl := h_42
    have hP := fl_sub (bs' := [[(t, .inr (6, [.ref (rr 0), .int (qI (0)), .int (qI (l9)), .int (qI (r9)), .int (qI (s9)), .int (qI (n9)), .int (qI (f9)), .int (qI (t9))]))], qRu cy rr (u_37) (((k + 1 : Nat) : Int))]) hP [1, 0] rfl
    have hD := fl_subD (bs' := [[(t, .inr (6, [.ref (rr 0), .int (qI (0)), .int (qI (l9)), .int (qI (r9)), .int (qI (s9)), .int (qI (n9)), .int (qI (f9)), .int (qI (t9))]))], qRu cy rr (u_37) (((k + 1 : Nat) : Int))]) hD [1, 0] (by decide) rfl
    exact hQ _ _ _ _ true (0, l9, r9, s9, n9, f9, t9, u_37, k + 1) ⟨iff_of_true rfl (by omega), fun _ => tr_end (by omega) h_37⟩ hP hD hS dX6_readsConditionEnd_45
  · skip
    refine q_iconst hx hb dX6_readsConditionEnd_6 ?_
    exact hQ _ _ _ _ false (a9, l9, r9, s9, n9, f9, t9, G, k) ⟨iff_of_false (by decide) (by omega), fun h => absurd h (by decide)⟩ hP hD hS dX6_readsConditionEnd_7

set_option maxRecDepth 100000 in
set_option maxHeartbeats 4000000 in
theorem c_X6_readsNumberEnd (l : Launch) (D : va_G) (cy : Nat → ClassId) (t : Nat) (rr : Nat → Nat) (a9 l9 r9 s9 n9 f9 t9 : Int) (G : Nat → Nat → Int) (k : Nat) (ch : Int) (hc : 33 ≤ ch ∧ ch ≤ 126) (hk : k < 16) (sz : Nat) : qMet l yX6_readsNumberEnd (.code yX6_readsNumberEnd cX6_readsNumberEnd 2 (some .boolean)) 3 [.ref (t), .int (qI (ch))] D cy [[(t, .inr (6, [.ref (rr 0), .int (qI (a9)), .int (qI (l9)), .int (qI (r9)), .int (qI (s9)), .int (qI (n9)), .int (qI (f9)), .int (qI (t9))]))], qRu cy rr (G) (((k : Nat) : Int))] sz (va_Qi (S := RS) (fun r u => ∃ b : Bool, r = qz b ∧ (fun b u => (b = true ↔ ch = 33 ∨ ch = 59) ∧ (b = true → rdTo 7 l9 r9 s9 n9 f9 t9 G k ch u)) b u) (qB D cy [[(t, .inr (6, [.ref (rr 0), .int (qI (a9)), .int (qI (l9)), .int (qI (r9)), .int (qI (s9)), .int (qI (n9)), .int (qI (f9)), .int (qI (t9))]))], qRu cy rr (G) (((k : Nat) : Int))] sz (fun u => [[(t, .inr (6, [.ref (rr 0), .int (qI (u.1)), .int (qI (u.2.1)), .int (qI (u.2.2.1)), .int (qI (u.2.2.2.1)), .int (qI (u.2.2.2.2.1)), .int (qI (u.2.2.2.2.2.1)), .int (qI (u.2.2.2.2.2.2.1))]))], qRu cy rr u.2.2.2.2.2.2.2.1 (u.2.2.2.2.2.2.2.2 : Int)])) (va_A [[(t, .inr (6, [.ref (rr 0), .int (qI (a9)), .int (qI (l9)), .int (qI (r9)), .int (qI (s9)), .int (qI (n9)), .int (qI (f9)), .int (qI (t9))]))], qRu cy rr (G) (((k : Nat) : Int))].flatten sz)) := by
  refine q_ofMz (S := RS) (b1 := fun u => [[(t, .inr (6, [.ref (rr 0), .int (qI (u.1)), .int (qI (u.2.1)), .int (qI (u.2.2.1)), .int (qI (u.2.2.2.1)), .int (qI (u.2.2.2.2.1)), .int (qI (u.2.2.2.2.2.1)), .int (qI (u.2.2.2.2.2.2.1))]))], qRu cy rr u.2.2.2.2.2.2.2.1 (u.2.2.2.2.2.2.2.2 : Int)]) (post := fun b u => (b = true ↔ ch = 33 ∨ ch = 59) ∧ (b = true → rdTo 7 l9 r9 s9 n9 f9 t9 G k ch u)) (by decide +kernel) (Nat.le_of_ble_eq_true rfl) ?_
  intro p e s m args below meth c Q A hx hb hml hown hg hQ hK hN hD hA H locs ls hP hS hl
  have hown : s.vm.findClass RX6 = some m.cls := hown
  have hl : lv_has ls 2 [(0, .ref (t)), (1, .int (qI (ch)))] := hl
  refine lv_iload_n hx hb dX6_readsNumberEnd_0 rfl (lv_at hl 1 rfl) ?_
  refine q_bipush hx hb dX6_readsNumberEnd_1 (by decide) ?_
  refine q_icmp_ne (tgt := 15) hx hb dX6_readsNumberEnd_3 (by decide) (by omega) (fun c_3 => ?_) (fun c_3 => ?_)
  · skip
    refine lv_aload_n hx hb dX6_readsNumberEnd_15 rfl (lv_at hl 0 rfl) ?_
    refine lv_iload_n hx hb dX6_readsNumberEnd_16 rfl (lv_at hl 1 rfl) ?_
    refine q_backz [0, 1] [] (br := []) hP hD hS hA (va_runV (As := [.int (qI (ch))]) (rest := []) ⟨hx, hb, hml, hown, hg⟩ (c_X6_readsConditionEnd l D cy t rr (a9) (l9) (r9) (s9) (n9) (f9) (t9) (G) k (ch) (by omega) hk _) (cv_X6_50 hg rfl rfl ⟨by decide, by decide⟩) ⟨q_blind, va_recv hK (fl_blk hP 0 rfl) (ci := 6) (q0 := 0) rfl rfl, q_preM _ hK hN hP hD [0, 1] (by decide) rfl⟩ rfl rfl hl.1 rfl (lv_room (Nat.le_of_ble_eq_true rfl)) dX6_readsNumberEnd_17 ⟨by decide, by decide⟩) rfl rfl (by decide) (fun b_17 u_17 H locs h_17 hP hD hS => ?_)
    have hP : va_P D vwCl [[(t, .inr (6, [.ref (rr 0), .int (qI (u_17.1)), .int (qI (u_17.2.1)), .int (qI (u_17.2.2.1)), .int (qI (u_17.2.2.2.1)), .int (qI (u_17.2.2.2.2.1)), .int (qI (u_17.2.2.2.2.2.1)), .int (qI (u_17.2.2.2.2.2.2.1))]))], qRu cy rr (u_17.2.2.2.2.2.2.2.1) (u_17.2.2.2.2.2.2.2.2 : Int)].flatten H := hP
    have hD : va_D A [[(t, .inr (6, [.ref (rr 0), .int (qI (u_17.1)), .int (qI (u_17.2.1)), .int (qI (u_17.2.2.1)), .int (qI (u_17.2.2.2.1)), .int (qI (u_17.2.2.2.2.1)), .int (qI (u_17.2.2.2.2.2.1)), .int (qI (u_17.2.2.2.2.2.2.1))]))], qRu cy rr (u_17.2.2.2.2.2.2.2.1) (u_17.2.2.2.2.2.2.2.2 : Int)].flatten := hD
    refine hQ _ _ _ _ b_17 u_17 ⟨h_17.1.trans (by first | exact Iff.rfl | omega), fun h => ?_⟩ hP hD hS dX6_readsNumberEnd_20
    have g9 := h_17.1.mp h
    have q9 := h_17.2 h
    exact rdTo_at q9 (by omega)
  · skip
    refine lv_aload_n hx hb dX6_readsNumberEnd_6 rfl (lv_at hl 0 rfl) ?_
    refine q_bipush hx hb dX6_readsNumberEnd_7 (by decide) ?_
    refine q_backz [0] [1] (br := [qRu cy rr (G) (((k : Nat) : Int))]) hP hD hS hA (va_runV (As := [.int (qI (8))]) (rest := []) ⟨hx, hb, hml, hown, hg⟩ (c_X6_goesOn l D cy t rr (a9) (l9) (r9) (s9) (n9) (f9) (t9) (8) _) (cv_X6_29 hg rfl rfl ⟨by decide, by decide⟩) ⟨q_blind, va_recv hK (fl_blk hP 0 rfl) (ci := 6) (q0 := 0) rfl rfl, q_preM _ hK hN hP hD [0] (by decide) rfl⟩ rfl rfl hl.1 rfl (lv_room (Nat.le_of_ble_eq_true rfl)) dX6_readsNumberEnd_9 ⟨by decide, by decide⟩) rfl rfl (by decide) (fun b_9 u_9 H locs h_9 hP hD hS => ?_)
    have hP : va_P D vwCl [qRu cy rr (G) (((k : Nat) : Int)), [(t, .inr (6, [.ref (rr 0), .int (qI (8)), .int (qI (l9)), .int (qI (r9)), .int (qI (s9)), .int (qI (n9)), .int (qI (f9)), .int (qI (t9))]))]].flatten H := hP
    have hD : va_D A [qRu cy rr (G) (((k : Nat) : Int)), [(t, .inr (6, [.ref (rr 0), .int (qI (8)), .int (qI (l9)), .int (qI (r9)), .int (qI (s9)), .int (qI (n9)), .int (qI (f9)), .int (qI (t9))]))]].flatten := hD
    obtain rfl := h_9
    refine lv_goto (tgt := 20) hx hb dX6_readsNumberEnd_12 (by decide) ?_
    have hP := fl_sub (bs' := [[(t, .inr (6, [.ref (rr 0), .int (qI (8)), .int (qI (l9)), .int (qI (r9)), .int (qI (s9)), .int (qI (n9)), .int (qI (f9)), .int (qI (t9))]))], qRu cy rr (G) (((k : Nat) : Int))]) hP [1, 0] rfl
    have hD := fl_subD (bs' := [[(t, .inr (6, [.ref (rr 0), .int (qI (8)), .int (qI (l9)), .int (qI (r9)), .int (qI (s9)), .int (qI (n9)), .int (qI (f9)), .int (qI (t9))]))], qRu cy rr (G) (((k : Nat) : Int))]) hD [1, 0] (by decide) rfl
    exact hQ _ _ _ _ true (8, l9, r9, s9, n9, f9, t9, G, k) ⟨iff_of_true rfl (by omega), fun _ => tr_bang (by omega)⟩ hP hD hS dX6_readsNumberEnd_20

set_option maxRecDepth 100000 in
set_option maxHeartbeats 4000000 in
theorem c_X6_readsNumber (l : Launch) (D : va_G) (cy : Nat → ClassId) (t : Nat) (rr : Nat → Nat) (a9 l9 r9 s9 n9 f9 t9 : Int) (G : Nat → Nat → Int) (k : Nat) (ch : Int) (hc : 33 ≤ ch ∧ ch ≤ 126) (hn : n9 = 0) (sz : Nat) : qMet l yX6_readsNumber (.code yX6_readsNumber cX6_readsNumber 2 (some .boolean)) 3 [.ref (t), .int (qI (ch))] D cy [[(t, .inr (6, [.ref (rr 0), .int (qI (a9)), .int (qI (l9)), .int (qI (r9)), .int (qI (s9)), .int (qI (n9)), .int (qI (f9)), .int (qI (t9))]))], qRu cy rr (G) (((k : Nat) : Int))] sz (va_Qi (S := RS) (fun r u => ∃ b : Bool, r = qz b ∧ (fun b u => (b = true ↔ ch = 45 ∨ (48 ≤ ch ∧ ch ≤ 57)) ∧ (b = true → rdTo 4 l9 r9 s9 n9 f9 t9 G k ch u)) b u) (qB D cy [[(t, .inr (6, [.ref (rr 0), .int (qI (a9)), .int (qI (l9)), .int (qI (r9)), .int (qI (s9)), .int (qI (n9)), .int (qI (f9)), .int (qI (t9))]))], qRu cy rr (G) (((k : Nat) : Int))] sz (fun u => [[(t, .inr (6, [.ref (rr 0), .int (qI (u.1)), .int (qI (u.2.1)), .int (qI (u.2.2.1)), .int (qI (u.2.2.2.1)), .int (qI (u.2.2.2.2.1)), .int (qI (u.2.2.2.2.2.1)), .int (qI (u.2.2.2.2.2.2.1))]))], qRu cy rr u.2.2.2.2.2.2.2.1 (u.2.2.2.2.2.2.2.2 : Int)])) (va_A [[(t, .inr (6, [.ref (rr 0), .int (qI (a9)), .int (qI (l9)), .int (qI (r9)), .int (qI (s9)), .int (qI (n9)), .int (qI (f9)), .int (qI (t9))]))], qRu cy rr (G) (((k : Nat) : Int))].flatten sz)) := by
  refine q_ofMz (S := RS) (b1 := fun u => [[(t, .inr (6, [.ref (rr 0), .int (qI (u.1)), .int (qI (u.2.1)), .int (qI (u.2.2.1)), .int (qI (u.2.2.2.1)), .int (qI (u.2.2.2.2.1)), .int (qI (u.2.2.2.2.2.1)), .int (qI (u.2.2.2.2.2.2.1))]))], qRu cy rr u.2.2.2.2.2.2.2.1 (u.2.2.2.2.2.2.2.2 : Int)]) (post := fun b u => (b = true ↔ ch = 45 ∨ (48 ≤ ch ∧ ch ≤ 57)) ∧ (b = true → rdTo 4 l9 r9 s9 n9 f9 t9 G k ch u)) (by decide +kernel) (Nat.le_of_ble_eq_true rfl) ?_
  intro p e s m args below meth c Q A hx hb hml hown hg hQ hK hN hD hA H locs ls hP hS hl
  have hown : s.vm.findClass RX6 = some m.cls := hown
  have hl : lv_has ls 2 [(0, .ref (t)), (1, .int (qI (ch)))] := hl
  refine lv_iload_n hx hb dX6_readsNumber_0 rfl (lv_at hl 1 rfl) ?_
  refine q_bipush hx hb dX6_readsNumber_1 (by decide) ?_
  refine q_icmp_ne (tgt := 17) hx hb dX6_readsNumber_3 (by decide) (by omega) (fun c_3 => ?_) (fun c_3 => ?_)
  · skip
    refine lv_iload_n hx hb dX6_readsNumber_17 rfl (lv_at hl 1 rfl) ?_
    refine q_bipush hx hb dX6_readsNumber_18 (by decide) ?_
    refine q_icmp_ne (tgt := 32) hx hb dX6_readsNumber_20 (by decide) (by omega) (fun c_20 => ?_) (fun c_20 => ?_)
    · skip
      refine lv_aload_n hx hb dX6_readsNumber_32 rfl (lv_at hl 0 rfl) ?_
      refine lv_iload_n hx hb dX6_readsNumber_33 rfl (lv_at hl 1 rfl) ?_
      refine q_backz [0, 1] [] (br := []) hP hD hS hA (va_runV (As := [.int (qI (ch))]) (rest := []) ⟨hx, hb, hml, hown, hg⟩ (c_X6_readsDigit l D cy t rr (a9) (l9) (r9) (s9) (n9) (f9) (t9) (G) k (ch) (by omega) (by omega) _) (cv_X6_41 hg rfl rfl ⟨by decide, by decide⟩) ⟨q_blind, va_recv hK (fl_blk hP 0 rfl) (ci := 6) (q0 := 0) rfl rfl, q_preM _ hK hN hP hD [0, 1] (by decide) rfl⟩ rfl rfl hl.1 rfl (lv_room (Nat.le_of_ble_eq_true rfl)) dX6_readsNumber_34 ⟨by decide, by decide⟩) rfl rfl (by decide) (fun b_34 u_34 H locs h_34 hP hD hS => ?_)
      have hP : va_P D vwCl [[(t, .inr (6, [.ref (rr 0), .int (qI (u_34.1)), .int (qI (u_34.2.1)), .int (qI (u_34.2.2.1)), .int (qI (u_34.2.2.2.1)), .int (qI (u_34.2.2.2.2.1)), .int (qI (u_34.2.2.2.2.2.1)), .int (qI (u_34.2.2.2.2.2.2.1))]))], qRu cy rr (u_34.2.2.2.2.2.2.2.1) (u_34.2.2.2.2.2.2.2.2 : Int)].flatten H := hP
      have hD : va_D A [[(t, .inr (6, [.ref (rr 0), .int (qI (u_34.1)), .int (qI (u_34.2.1)), .int (qI (u_34.2.2.1)), .int (qI (u_34.2.2.2.1)), .int (qI (u_34.2.2.2.2.1)), .int (qI (u_34.2.2.2.2.2.1)), .int (qI (u_34.2.2.2.2.2.2.1))]))], qRu cy rr (u_34.2.2.2.2.2.2.2.1) (u_34.2.2.2.2.2.2.2.2 : Int)].flatten := hD
      refine hQ _ _ _ _ b_34 u_34 ⟨h_34.1.trans (by first | exact Iff.rfl | omega), fun h => ?_⟩ hP hD hS dX6_readsNumber_37
      have g9 := h_34.1.mp h
      have q9 := h_34.2.1 h
      exact rdTo_at q9 (by omega)
    · skip
      refine lv_aload_n hx hb dX6_readsNumber_23 rfl (lv_at hl 0 rfl) ?_
      refine q_bipush hx hb dX6_readsNumber_24 (by decide) ?_
      refine q_backz [0] [1] (br := [qRu cy rr (G) (((k : Nat) : Int))]) hP hD hS hA (va_runV (As := [.int (qI (7))]) (rest := []) ⟨hx, hb, hml, hown, hg⟩ (c_X6_goesOn l D cy t rr (a9) (l9) (r9) (s9) (n9) (f9) (t9) (7) _) (cv_X6_29 hg rfl rfl ⟨by decide, by decide⟩) ⟨q_blind, va_recv hK (fl_blk hP 0 rfl) (ci := 6) (q0 := 0) rfl rfl, q_preM _ hK hN hP hD [0] (by decide) rfl⟩ rfl rfl hl.1 rfl (lv_room (Nat.le_of_ble_eq_true rfl)) dX6_readsNumber_26 ⟨by decide, by decide⟩) rfl rfl (by decide) (fun b_26 u_26 H locs h_26 hP hD hS => ?_)
      have hP : va_P D vwCl [qRu cy rr (G) (((k : Nat) : Int)), [(t, .inr (6, [.ref (rr 0), .int (qI (7)), .int (qI (l9)), .int (qI (r9)), .int (qI (s9)), .int (qI (n9)), .int (qI (f9)), .int (qI (t9))]))]].flatten H := hP
      have hD : va_D A [qRu cy rr (G) (((k : Nat) : Int)), [(t, .inr (6, [.ref (rr 0), .int (qI (7)), .int (qI (l9)), .int (qI (r9)), .int (qI (s9)), .int (qI (n9)), .int (qI (f9)), .int (qI (t9))]))]].flatten := hD
      obtain rfl := h_26
      refine lv_goto (tgt := 37) hx hb dX6_readsNumber_29 (by decide) ?_
      have hP := fl_sub (bs' := [[(t, .inr (6, [.ref (rr 0), .int (qI (7)), .int (qI (l9)), .int (qI (r9)), .int (qI (s9)), .int (qI (n9)), .int (qI (f9)), .int (qI (t9))]))], qRu cy rr (G) (((k : Nat) : Int))]) hP [1, 0] rfl
      have hD := fl_subD (bs' := [[(t, .inr (6, [.ref (rr 0), .int (qI (7)), .int (qI (l9)), .int (qI (r9)), .int (qI (s9)), .int (qI (n9)), .int (qI (f9)), .int (qI (t9))]))], qRu cy rr (G) (((k : Nat) : Int))]) hD [1, 0] (by decide) rfl
      exact hQ _ _ _ _ true (7, l9, r9, s9, n9, f9, t9, G, k) ⟨iff_of_true rfl (by omega), fun _ => tr_zero (by omega)⟩ hP hD hS dX6_readsNumber_37
  · skip
    refine lv_aload_n hx hb dX6_readsNumber_6 rfl (lv_at hl 0 rfl) ?_
    refine q_iconst hx hb dX6_readsNumber_7 ?_
    refine pf_X6_66 hx hb hg hown hK hP hD hS 0 0 rfl rfl rfl rfl (Nat.le_of_ble_eq_true rfl) dX6_readsNumber_8 (fun H locs hP hD hS => ?_)
    have hP : va_P D vwCl [[(t, .inr (6, [.ref (rr 0), .int (qI (a9)), .int (qI (l9)), .int (qI (r9)), .int (qI (s9)), .int (qI (n9)), .int (qI (-1)), .int (qI (t9))]))], qRu cy rr (G) (((k : Nat) : Int))].flatten H := hP
    have hD : va_D A [[(t, .inr (6, [.ref (rr 0), .int (qI (a9)), .int (qI (l9)), .int (qI (r9)), .int (qI (s9)), .int (qI (n9)), .int (qI (-1)), .int (qI (t9))]))], qRu cy rr (G) (((k : Nat) : Int))].flatten := hD
    refine lv_aload_n hx hb dX6_readsNumber_11 rfl (lv_at hl 0 rfl) ?_
    refine q_iconst hx hb dX6_readsNumber_12 ?_
    refine q_backz [0] [1] (br := [qRu cy rr (G) (((k : Nat) : Int))]) hP hD hS hA (va_runV (As := [.int (qI (5))]) (rest := []) ⟨hx, hb, hml, hown, hg⟩ (c_X6_goesOn l D cy t rr (a9) (l9) (r9) (s9) (n9) (-1) (t9) (5) _) (cv_X6_29 hg rfl rfl ⟨by decide, by decide⟩) ⟨q_blind, va_recv hK (fl_blk hP 0 rfl) (ci := 6) (q0 := 0) rfl rfl, q_preM _ hK hN hP hD [0] (by decide) rfl⟩ rfl rfl hl.1 rfl (lv_room (Nat.le_of_ble_eq_true rfl)) dX6_readsNumber_13 ⟨by decide, by decide⟩) rfl rfl (by decide) (fun b_13 u_13 H locs h_13 hP hD hS => ?_)
    have hP : va_P D vwCl [qRu cy rr (G) (((k : Nat) : Int)), [(t, .inr (6, [.ref (rr 0), .int (qI (5)), .int (qI (l9)), .int (qI (r9)), .int (qI (s9)), .int (qI (n9)), .int (qI (-1)), .int (qI (t9))]))]].flatten H := hP
    have hD : va_D A [qRu cy rr (G) (((k : Nat) : Int)), [(t, .inr (6, [.ref (rr 0), .int (qI (5)), .int (qI (l9)), .int (qI (r9)), .int (qI (s9)), .int (qI (n9)), .int (qI (-1)), .int (qI (t9))]))]].flatten := hD
    obtain rfl := h_13
    have hP := fl_sub (bs' := [[(t, .inr (6, [.ref (rr 0), .int (qI (5)), .int (qI (l9)), .int (qI (r9)), .int (qI (s9)), .int (qI (n9)), .int (qI (-1)), .int (qI (t9))]))], qRu cy rr (G) (((k : Nat) : Int))]) hP [1, 0] rfl
    have hD := fl_subD (bs' := [[(t, .inr (6, [.ref (rr 0), .int (qI (5)), .int (qI (l9)), .int (qI (r9)), .int (qI (s9)), .int (qI (n9)), .int (qI (-1)), .int (qI (t9))]))], qRu cy rr (G) (((k : Nat) : Int))]) hD [1, 0] (by decide) rfl
    exact hQ _ _ _ _ true (5, l9, r9, s9, n9, -1, t9, G, k) ⟨iff_of_true rfl (by omega), fun _ => tr_neg (by omega)⟩ hP hD hS dX6_readsNumber_16

set_option maxRecDepth 100000 in
set_option maxHeartbeats 4000000 in
theorem c_X6_readsStrength (l : Launch) (D : va_G) (cy : Nat → ClassId) (t : Nat) (rr : Nat → Nat) (a9 l9 r9 s9 n9 f9 t9 : Int) (G : Nat → Nat → Int) (k : Nat) (ch : Int) (hc : 33 ≤ ch ∧ ch ≤ 126)  (sz : Nat) : qMet l yX6_readsStrength (.code yX6_readsStrength cX6_readsStrength 2 (some .boolean)) 3 [.ref (t), .int (qI (ch))] D cy [[(t, .inr (6, [.ref (rr 0), .int (qI (a9)), .int (qI (l9)), .int (qI (r9)), .int (qI (s9)), .int (qI (n9)), .int (qI (f9)), .int (qI (t9))]))], qRu cy rr (G) (((k : Nat) : Int))] sz (va_Qi (S := RS) (fun r u => ∃ b : Bool, r = qz b ∧ (fun b u => (b = true ↔ 48 ≤ ch ∧ ch ≤ 51) ∧ (b = true → rdTo 8 l9 r9 s9 n9 f9 t9 G k ch u)) b u) (qB D cy [[(t, .inr (6, [.ref (rr 0), .int (qI (a9)), .int (qI (l9)), .int (qI (r9)), .int (qI (s9)), .int (qI (n9)), .int (qI (f9)), .int (qI (t9))]))], qRu cy rr (G) (((k : Nat) : Int))] sz (fun u => [[(t, .inr (6, [.ref (rr 0), .int (qI (u.1)), .int (qI (u.2.1)), .int (qI (u.2.2.1)), .int (qI (u.2.2.2.1)), .int (qI (u.2.2.2.2.1)), .int (qI (u.2.2.2.2.2.1)), .int (qI (u.2.2.2.2.2.2.1))]))], qRu cy rr u.2.2.2.2.2.2.2.1 (u.2.2.2.2.2.2.2.2 : Int)])) (va_A [[(t, .inr (6, [.ref (rr 0), .int (qI (a9)), .int (qI (l9)), .int (qI (r9)), .int (qI (s9)), .int (qI (n9)), .int (qI (f9)), .int (qI (t9))]))], qRu cy rr (G) (((k : Nat) : Int))].flatten sz)) := by
  refine q_ofMz (S := RS) (b1 := fun u => [[(t, .inr (6, [.ref (rr 0), .int (qI (u.1)), .int (qI (u.2.1)), .int (qI (u.2.2.1)), .int (qI (u.2.2.2.1)), .int (qI (u.2.2.2.2.1)), .int (qI (u.2.2.2.2.2.1)), .int (qI (u.2.2.2.2.2.2.1))]))], qRu cy rr u.2.2.2.2.2.2.2.1 (u.2.2.2.2.2.2.2.2 : Int)]) (post := fun b u => (b = true ↔ 48 ≤ ch ∧ ch ≤ 51) ∧ (b = true → rdTo 8 l9 r9 s9 n9 f9 t9 G k ch u)) (by decide +kernel) (Nat.le_of_ble_eq_true rfl) ?_
  intro p e s m args below meth c Q A hx hb hml hown hg hQ hK hN hD hA H locs ls hP hS hl
  have hown : s.vm.findClass RX6 = some m.cls := hown
  have hl : lv_has ls 2 [(0, .ref (t)), (1, .int (qI (ch)))] := hl
  refine lv_aload_n hx hb dX6_readsStrength_0 rfl (lv_at hl 0 rfl) ?_
  refine lv_iload_n hx hb dX6_readsStrength_1 rfl (lv_at hl 1 rfl) ?_
  refine q_bipush hx hb dX6_readsStrength_2 (by decide) ?_
  refine q_isub hx hb dX6_readsStrength_4 ?_
  refine pf_X6_69 hx hb hg hown hK hP hD hS 0 0 rfl rfl rfl rfl (Nat.le_of_ble_eq_true rfl) dX6_readsStrength_5 (fun H locs hP hD hS => ?_)
  have hP : va_P D vwCl [[(t, .inr (6, [.ref (rr 0), .int (qI (a9)), .int (qI (l9)), .int (qI (r9)), .int (qI (s9)), .int (qI (n9)), .int (qI (f9)), .int (qI ((ch) - (48)))]))], qRu cy rr (G) (((k : Nat) : Int))].flatten H := hP
  have hD : va_D A [[(t, .inr (6, [.ref (rr 0), .int (qI (a9)), .int (qI (l9)), .int (qI (r9)), .int (qI (s9)), .int (qI (n9)), .int (qI (f9)), .int (qI ((ch) - (48)))]))], qRu cy rr (G) (((k : Nat) : Int))].flatten := hD
  refine lv_aload_n hx hb dX6_readsStrength_8 rfl (lv_at hl 0 rfl) ?_
  refine gf_X6_69 hx hb hg hown hK (fl_blk hP 0 rfl) 0 rfl rfl dX6_readsStrength_9 ?_
  refine q_readz (va_runSN (As := [.int (qI ((ch) - (48)))]) (rest := []) ⟨hx, hb, hml, hown, hg⟩ (c_X7_isStrength l D cy _ (by omega)) (cn_X6_78 hg hN rfl rfl ⟨by decide, by decide⟩) ⟨q_blind0, q_preR _ hK hN hP [] rfl⟩ rfl rfl hl.1 rfl (lv_room (Nat.le_of_ble_eq_true rfl)) dX6_readsStrength_12 ⟨by decide, by decide⟩) (fun b_12 h_12 => ?_)
  refine q_ifz_eq (tgt := 31) hx hb dX6_readsStrength_15 (by decide) (fun c_15 => ?_) (fun c_15 => ?_)
  · skip
    have g_15 := mt (h_12).mpr (by rw [c_15]; decide)
    refine q_iconst hx hb dX6_readsStrength_31 ?_
    exact hQ _ _ _ _ false (a9, l9, r9, s9, n9, f9, (ch) - (48), G, k) ⟨iff_of_false (by decide) (by omega), fun h => absurd h (by decide)⟩ hP hD hS dX6_readsStrength_32
  · skip
    have g_15 := (h_12).mp c_15
    refine lv_aload_n hx hb dX6_readsStrength_18 rfl (lv_at hl 0 rfl) ?_
    refine q_bipush hx hb dX6_readsStrength_19 (by decide) ?_
    refine q_backz [0] [1] (br := [qRu cy rr (G) (((k : Nat) : Int))]) hP hD hS hA (va_runV (As := [.int (qI (9))]) (rest := []) ⟨hx, hb, hml, hown, hg⟩ (c_X6_goesOn l D cy t rr (a9) (l9) (r9) (s9) (n9) (f9) ((ch) - (48)) (9) _) (cv_X6_29 hg rfl rfl ⟨by decide, by decide⟩) ⟨q_blind, va_recv hK (fl_blk hP 0 rfl) (ci := 6) (q0 := 0) rfl rfl, q_preM _ hK hN hP hD [0] (by decide) rfl⟩ rfl rfl hl.1 rfl (lv_room (Nat.le_of_ble_eq_true rfl)) dX6_readsStrength_21 ⟨by decide, by decide⟩) rfl rfl (by decide) (fun b_21 u_21 H locs h_21 hP hD hS => ?_)
    have hP : va_P D vwCl [qRu cy rr (G) (((k : Nat) : Int)), [(t, .inr (6, [.ref (rr 0), .int (qI (9)), .int (qI (l9)), .int (qI (r9)), .int (qI (s9)), .int (qI (n9)), .int (qI (f9)), .int (qI ((ch) - (48)))]))]].flatten H := hP
    have hD : va_D A [qRu cy rr (G) (((k : Nat) : Int)), [(t, .inr (6, [.ref (rr 0), .int (qI (9)), .int (qI (l9)), .int (qI (r9)), .int (qI (s9)), .int (qI (n9)), .int (qI (f9)), .int (qI ((ch) - (48)))]))]].flatten := hD
    obtain rfl := h_21
    refine q_ifz_eq (tgt := 31) hx hb dX6_readsStrength_24 (by decide) (fun c_24 => ?_) (fun c_24 => ?_)
    · skip
      exact absurd c_24 (by decide)
    · skip
      refine q_iconst hx hb dX6_readsStrength_27 ?_
      refine lv_goto (tgt := 32) hx hb dX6_readsStrength_28 (by decide) ?_
      have hP := fl_sub (bs' := [[(t, .inr (6, [.ref (rr 0), .int (qI (9)), .int (qI (l9)), .int (qI (r9)), .int (qI (s9)), .int (qI (n9)), .int (qI (f9)), .int (qI ((ch) - (48)))]))], qRu cy rr (G) (((k : Nat) : Int))]) hP [1, 0] rfl
      have hD := fl_subD (bs' := [[(t, .inr (6, [.ref (rr 0), .int (qI (9)), .int (qI (l9)), .int (qI (r9)), .int (qI (s9)), .int (qI (n9)), .int (qI (f9)), .int (qI ((ch) - (48)))]))], qRu cy rr (G) (((k : Nat) : Int))]) hD [1, 0] (by decide) rfl
      exact hQ _ _ _ _ true (9, l9, r9, s9, n9, f9, (ch) - (48), G, k) ⟨iff_of_true rfl (by omega), fun _ => tr_str⟩ hP hD hS dX6_readsStrength_32

set_option maxRecDepth 100000 in
set_option maxHeartbeats 4000000 in
theorem c_X6_reads (l : Launch) (D : va_G) (cy : Nat → ClassId) (t : Nat) (rr : Nat → Nat) (a9 l9 r9 s9 n9 f9 t9 : Int) (G : Nat → Nat → Int) (k : Nat) (ch : Int) (hc : 33 ≤ ch ∧ ch ≤ 126) (hk : k < 16) (ha : 0 ≤ a9 ∧ a9 ≤ 9) (hl : a9 = 0 ∨ (0 ≤ l9 ∧ l9 ≤ 9)) (hn : a9 = 0 ∨ (0 ≤ n9 ∧ n9 ≤ 2000)) (hn4 : a9 = 4 ∨ a9 = 5 → n9 = 0) (sz : Nat) : qMet l yX6_reads (.code yX6_reads cX6_reads 2 (some .boolean)) 4 [.ref (t), .int (qI (ch))] D cy [[(t, .inr (6, [.ref (rr 0), .int (qI (a9)), .int (qI (l9)), .int (qI (r9)), .int (qI (s9)), .int (qI (n9)), .int (qI (f9)), .int (qI (t9))]))], qRu cy rr (G) (((k : Nat) : Int))] sz (va_Qi (S := RS) (fun r u => ∃ b : Bool, r = qz b ∧ (fun b u => (b = true ↔ rdOk a9 ch l9 n9) ∧ (b = true → rdTo a9 l9 r9 s9 n9 f9 t9 G k ch u)) b u) (qB D cy [[(t, .inr (6, [.ref (rr 0), .int (qI (a9)), .int (qI (l9)), .int (qI (r9)), .int (qI (s9)), .int (qI (n9)), .int (qI (f9)), .int (qI (t9))]))], qRu cy rr (G) (((k : Nat) : Int))] sz (fun u => [[(t, .inr (6, [.ref (rr 0), .int (qI (u.1)), .int (qI (u.2.1)), .int (qI (u.2.2.1)), .int (qI (u.2.2.2.1)), .int (qI (u.2.2.2.2.1)), .int (qI (u.2.2.2.2.2.1)), .int (qI (u.2.2.2.2.2.2.1))]))], qRu cy rr u.2.2.2.2.2.2.2.1 (u.2.2.2.2.2.2.2.2 : Int)])) (va_A [[(t, .inr (6, [.ref (rr 0), .int (qI (a9)), .int (qI (l9)), .int (qI (r9)), .int (qI (s9)), .int (qI (n9)), .int (qI (f9)), .int (qI (t9))]))], qRu cy rr (G) (((k : Nat) : Int))].flatten sz)) := by
  refine q_ofMz (S := RS) (b1 := fun u => [[(t, .inr (6, [.ref (rr 0), .int (qI (u.1)), .int (qI (u.2.1)), .int (qI (u.2.2.1)), .int (qI (u.2.2.2.1)), .int (qI (u.2.2.2.2.1)), .int (qI (u.2.2.2.2.2.1)), .int (qI (u.2.2.2.2.2.2.1))]))], qRu cy rr u.2.2.2.2.2.2.2.1 (u.2.2.2.2.2.2.2.2 : Int)]) (post := fun b u => (b = true ↔ rdOk a9 ch l9 n9) ∧ (b = true → rdTo a9 l9 r9 s9 n9 f9 t9 G k ch u)) (by decide +kernel) (Nat.le_of_ble_eq_true rfl) ?_
  intro p e s m args below meth c Q A hx hb hml hown hg hQ hK hN hD hA H locs ls hP hS hl
  have hown : s.vm.findClass RX6 = some m.cls := hown
  have hl : lv_has ls 2 [(0, .ref (t)), (1, .int (qI (ch)))] := hl
  refine lv_aload_n hx hb dX6_reads_0 rfl (lv_at hl 0 rfl) ?_
  refine gf_X6_22 hx hb hg hown hK (fl_blk hP 0 rfl) 0 rfl rfl dX6_reads_1 ?_
  rcases (show a9 = 0 ∨ a9 = 1 ∨ a9 = 2 ∨ a9 = 3 ∨ a9 = 4 ∨ a9 = 5 ∨ a9 = 6 ∨ a9 = 7 ∨ a9 = 8 ∨ (a9 < 0 ∨ 8 < a9) by omega) with c_4 | c_4 | c_4 | c_4 | c_4 | c_4 | c_4 | c_4 | c_4 | c_4
  · refine q_tableIn (off := 52) (tgt := 56) hx hb (0) c_4 dX6_reads_4 (by decide) ?_
    refine lv_aload_n hx hb dX6_reads_56 rfl (lv_at hl 0 rfl) ?_
    refine lv_iload_n hx hb dX6_reads_57 rfl (lv_at hl 1 rfl) ?_
    refine q_backz [0, 1] [] (br := []) hP hD hS hA (va_runV (As := [.int (qI (ch))]) (rest := []) ⟨hx, hb, hml, hown, hg⟩ (c_X6_readsLeft l D cy t rr (a9) (l9) (r9) (s9) (n9) (f9) (t9) (G) k (ch) (by omega) (by omega) _) (cv_X6_25 hg rfl rfl ⟨by decide, by decide⟩) ⟨q_blind, va_recv hK (fl_blk hP 0 rfl) (ci := 6) (q0 := 0) rfl rfl, q_preM _ hK hN hP hD [0, 1] (by decide) rfl⟩ rfl rfl hl.1 rfl (lv_room (Nat.le_of_ble_eq_true rfl)) dX6_reads_58 ⟨by decide, by decide⟩) rfl rfl (by decide) (fun b_58 u_58 H locs h_58 hP hD hS => ?_)
    have hP : va_P D vwCl [[(t, .inr (6, [.ref (rr 0), .int (qI (u_58.1)), .int (qI (u_58.2.1)), .int (qI (u_58.2.2.1)), .int (qI (u_58.2.2.2.1)), .int (qI (u_58.2.2.2.2.1)), .int (qI (u_58.2.2.2.2.2.1)), .int (qI (u_58.2.2.2.2.2.2.1))]))], qRu cy rr (u_58.2.2.2.2.2.2.2.1) (u_58.2.2.2.2.2.2.2.2 : Int)].flatten H := hP
    have hD : va_D A [[(t, .inr (6, [.ref (rr 0), .int (qI (u_58.1)), .int (qI (u_58.2.1)), .int (qI (u_58.2.2.1)), .int (qI (u_58.2.2.2.1)), .int (qI (u_58.2.2.2.2.1)), .int (qI (u_58.2.2.2.2.2.1)), .int (qI (u_58.2.2.2.2.2.2.1))]))], qRu cy rr (u_58.2.2.2.2.2.2.2.1) (u_58.2.2.2.2.2.2.2.2 : Int)].flatten := hD
    refine hQ _ _ _ _ b_58 u_58 ⟨h_58.1.trans (by rw [c_4]; first | exact rdOk_0.symm | (rw [rdOk_0]; omega)), fun h => ?_⟩ hP hD hS dX6_reads_61
    have g9 := h_58.1.mp h
    have q9 := h_58.2 h
    exact rdTo_at q9 (by omega)
  · refine q_tableIn (off := 58) (tgt := 62) hx hb (1) c_4 dX6_reads_4 (by decide) ?_
    refine lv_iload_n hx hb dX6_reads_62 rfl (lv_at hl 1 rfl) ?_
    refine q_bipush hx hb dX6_reads_63 (by decide) ?_
    refine q_icmp_ne (tgt := 76) hx hb dX6_reads_65 (by decide) (by omega) (fun c_65 => ?_) (fun c_65 => ?_)
    · skip
      refine lv_aload_n hx hb dX6_reads_76 rfl (lv_at hl 0 rfl) ?_
      refine lv_iload_n hx hb dX6_reads_77 rfl (lv_at hl 1 rfl) ?_
      refine q_backz [0, 1] [] (br := []) hP hD hS hA (va_runV (As := [.int (qI (ch))]) (rest := []) ⟨hx, hb, hml, hown, hg⟩ (c_X6_readsSign l D cy t rr (a9) (l9) (r9) (s9) (n9) (f9) (t9) (G) k (ch) (by omega) (by omega) _) (cv_X6_32 hg rfl rfl ⟨by decide, by decide⟩) ⟨q_blind, va_recv hK (fl_blk hP 0 rfl) (ci := 6) (q0 := 0) rfl rfl, q_preM _ hK hN hP hD [0, 1] (by decide) rfl⟩ rfl rfl hl.1 rfl (lv_room (Nat.le_of_ble_eq_true rfl)) dX6_reads_78 ⟨by decide, by decide⟩) rfl rfl (by decide) (fun b_78 u_78 H locs h_78 hP hD hS => ?_)
      have hP : va_P D vwCl [[(t, .inr (6, [.ref (rr 0), .int (qI (u_78.1)), .int (qI (u_78.2.1)), .int (qI (u_78.2.2.1)), .int (qI (u_78.2.2.2.1)), .int (qI (u_78.2.2.2.2.1)), .int (qI (u_78.2.2.2.2.2.1)), .int (qI (u_78.2.2.2.2.2.2.1))]))], qRu cy rr (u_78.2.2.2.2.2.2.2.1) (u_78.2.2.2.2.2.2.2.2 : Int)].flatten H := hP
      have hD : va_D A [[(t, .inr (6, [.ref (rr 0), .int (qI (u_78.1)), .int (qI (u_78.2.1)), .int (qI (u_78.2.2.1)), .int (qI (u_78.2.2.2.1)), .int (qI (u_78.2.2.2.2.1)), .int (qI (u_78.2.2.2.2.2.1)), .int (qI (u_78.2.2.2.2.2.2.1))]))], qRu cy rr (u_78.2.2.2.2.2.2.2.1) (u_78.2.2.2.2.2.2.2.2 : Int)].flatten := hD
      refine hQ _ _ _ _ b_78 u_78 ⟨h_78.1.trans (by rw [c_4]; first | exact rdOk_1.symm | (rw [rdOk_1]; omega)), fun h => ?_⟩ hP hD hS dX6_reads_81
      have g9 := h_78.1.mp h
      have q9 := h_78.2 h
      exact rdTo_at q9 (by omega)
    · skip
      refine lv_aload_n hx hb dX6_reads_68 rfl (lv_at hl 0 rfl) ?_
      refine q_iconst hx hb dX6_reads_69 ?_
      refine q_backz [0] [1] (br := [qRu cy rr (G) (((k : Nat) : Int))]) hP hD hS hA (va_runV (As := [.int (qI (2))]) (rest := []) ⟨hx, hb, hml, hown, hg⟩ (c_X6_goesOn l D cy t rr (a9) (l9) (r9) (s9) (n9) (f9) (t9) (2) _) (cv_X6_29 hg rfl rfl ⟨by decide, by decide⟩) ⟨q_blind, va_recv hK (fl_blk hP 0 rfl) (ci := 6) (q0 := 0) rfl rfl, q_preM _ hK hN hP hD [0] (by decide) rfl⟩ rfl rfl hl.1 rfl (lv_room (Nat.le_of_ble_eq_true rfl)) dX6_reads_70 ⟨by decide, by decide⟩) rfl rfl (by decide) (fun b_70 u_70 H locs h_70 hP hD hS => ?_)
      have hP : va_P D vwCl [qRu cy rr (G) (((k : Nat) : Int)), [(t, .inr (6, [.ref (rr 0), .int (qI (2)), .int (qI (l9)), .int (qI (r9)), .int (qI (s9)), .int (qI (n9)), .int (qI (f9)), .int (qI (t9))]))]].flatten H := hP
      have hD : va_D A [qRu cy rr (G) (((k : Nat) : Int)), [(t, .inr (6, [.ref (rr 0), .int (qI (2)), .int (qI (l9)), .int (qI (r9)), .int (qI (s9)), .int (qI (n9)), .int (qI (f9)), .int (qI (t9))]))]].flatten := hD
      obtain rfl := h_70
      refine lv_goto (tgt := 81) hx hb dX6_reads_73 (by decide) ?_
      have hP := fl_sub (bs' := [[(t, .inr (6, [.ref (rr 0), .int (qI (2)), .int (qI (l9)), .int (qI (r9)), .int (qI (s9)), .int (qI (n9)), .int (qI (f9)), .int (qI (t9))]))], qRu cy rr (G) (((k : Nat) : Int))]) hP [1, 0] rfl
      have hD := fl_subD (bs' := [[(t, .inr (6, [.ref (rr 0), .int (qI (2)), .int (qI (l9)), .int (qI (r9)), .int (qI (s9)), .int (qI (n9)), .int (qI (f9)), .int (qI (t9))]))], qRu cy rr (G) (((k : Nat) : Int))]) hD [1, 0] (by decide) rfl
      exact hQ _ _ _ _ true (2, l9, r9, s9, n9, f9, t9, G, k) ⟨iff_of_true rfl (by rw [c_4, rdOk_1]; omega), fun _ => (by rw [c_4]; exact tr_minus (by omega))⟩ hP hD hS dX6_reads_81
  · refine q_tableIn (off := 78) (tgt := 82) hx hb (2) c_4 dX6_reads_4 (by decide) ?_
    refine lv_aload_n hx hb dX6_reads_82 rfl (lv_at hl 0 rfl) ?_
    refine lv_iload_n hx hb dX6_reads_83 rfl (lv_at hl 1 rfl) ?_
    refine q_backz [0, 1] [] (br := []) hP hD hS hA (va_runV (As := [.int (qI (ch))]) (rest := []) ⟨hx, hb, hml, hown, hg⟩ (c_X6_readsRight l D cy t rr (a9) (l9) (r9) (s9) (n9) (f9) (t9) (G) k (ch) (by omega) (by omega) _) (cv_X6_35 hg rfl rfl ⟨by decide, by decide⟩) ⟨q_blind, va_recv hK (fl_blk hP 0 rfl) (ci := 6) (q0 := 0) rfl rfl, q_preM _ hK hN hP hD [0, 1] (by decide) rfl⟩ rfl rfl hl.1 rfl (lv_room (Nat.le_of_ble_eq_true rfl)) dX6_reads_84 ⟨by decide, by decide⟩) rfl rfl (by decide) (fun b_84 u_84 H locs h_84 hP hD hS => ?_)
    have hP : va_P D vwCl [[(t, .inr (6, [.ref (rr 0), .int (qI (u_84.1)), .int (qI (u_84.2.1)), .int (qI (u_84.2.2.1)), .int (qI (u_84.2.2.2.1)), .int (qI (u_84.2.2.2.2.1)), .int (qI (u_84.2.2.2.2.2.1)), .int (qI (u_84.2.2.2.2.2.2.1))]))], qRu cy rr (u_84.2.2.2.2.2.2.2.1) (u_84.2.2.2.2.2.2.2.2 : Int)].flatten H := hP
    have hD : va_D A [[(t, .inr (6, [.ref (rr 0), .int (qI (u_84.1)), .int (qI (u_84.2.1)), .int (qI (u_84.2.2.1)), .int (qI (u_84.2.2.2.1)), .int (qI (u_84.2.2.2.2.1)), .int (qI (u_84.2.2.2.2.2.1)), .int (qI (u_84.2.2.2.2.2.2.1))]))], qRu cy rr (u_84.2.2.2.2.2.2.2.1) (u_84.2.2.2.2.2.2.2.2 : Int)].flatten := hD
    refine hQ _ _ _ _ b_84 u_84 ⟨h_84.1.trans (by rw [c_4]; first | exact rdOk_2.symm | (rw [rdOk_2]; omega)), fun h => ?_⟩ hP hD hS dX6_reads_87
    have g9 := h_84.1.mp h
    have q9 := h_84.2 h
    exact rdTo_at q9 (by omega)
  · refine q_tableIn (off := 84) (tgt := 88) hx hb (3) c_4 dX6_reads_4 (by decide) ?_
    refine lv_aload_n hx hb dX6_reads_88 rfl (lv_at hl 0 rfl) ?_
    refine lv_iload_n hx hb dX6_reads_89 rfl (lv_at hl 1 rfl) ?_
    refine q_backz [0, 1] [] (br := []) hP hD hS hA (va_runV (As := [.int (qI (ch))]) (rest := []) ⟨hx, hb, hml, hown, hg⟩ (c_X6_readsSign l D cy t rr (a9) (l9) (r9) (s9) (n9) (f9) (t9) (G) k (ch) (by omega) (by omega) _) (cv_X6_32 hg rfl rfl ⟨by decide, by decide⟩) ⟨q_blind, va_recv hK (fl_blk hP 0 rfl) (ci := 6) (q0 := 0) rfl rfl, q_preM _ hK hN hP hD [0, 1] (by decide) rfl⟩ rfl rfl hl.1 rfl (lv_room (Nat.le_of_ble_eq_true rfl)) dX6_reads_90 ⟨by decide, by decide⟩) rfl rfl (by decide) (fun b_90 u_90 H locs h_90 hP hD hS => ?_)
    have hP : va_P D vwCl [[(t, .inr (6, [.ref (rr 0), .int (qI (u_90.1)), .int (qI (u_90.2.1)), .int (qI (u_90.2.2.1)), .int (qI (u_90.2.2.2.1)), .int (qI (u_90.2.2.2.2.1)), .int (qI (u_90.2.2.2.2.2.1)), .int (qI (u_90.2.2.2.2.2.2.1))]))], qRu cy rr (u_90.2.2.2.2.2.2.2.1) (u_90.2.2.2.2.2.2.2.2 : Int)].flatten H := hP
    have hD : va_D A [[(t, .inr (6, [.ref (rr 0), .int (qI (u_90.1)), .int (qI (u_90.2.1)), .int (qI (u_90.2.2.1)), .int (qI (u_90.2.2.2.1)), .int (qI (u_90.2.2.2.2.1)), .int (qI (u_90.2.2.2.2.2.1)), .int (qI (u_90.2.2.2.2.2.2.1))]))], qRu cy rr (u_90.2.2.2.2.2.2.2.1) (u_90.2.2.2.2.2.2.2.2 : Int)].flatten := hD
    refine hQ _ _ _ _ b_90 u_90 ⟨h_90.1.trans (by rw [c_4]; first | exact rdOk_3.symm | (rw [rdOk_3]; omega)), fun h => ?_⟩ hP hD hS dX6_reads_93
    have g9 := h_90.1.mp h
    have q9 := h_90.2 h
    exact rdTo_at q9 (by omega)
  · refine q_tableIn (off := 90) (tgt := 94) hx hb (4) c_4 dX6_reads_4 (by decide) ?_
    refine lv_aload_n hx hb dX6_reads_94 rfl (lv_at hl 0 rfl) ?_
    refine lv_iload_n hx hb dX6_reads_95 rfl (lv_at hl 1 rfl) ?_
    refine q_backz [0, 1] [] (br := []) hP hD hS hA (va_runV (As := [.int (qI (ch))]) (rest := []) ⟨hx, hb, hml, hown, hg⟩ (c_X6_readsNumber l D cy t rr (a9) (l9) (r9) (s9) (n9) (f9) (t9) (G) k (ch) (by omega) (by omega) _) (cv_X6_38 hg rfl rfl ⟨by decide, by decide⟩) ⟨q_blind, va_recv hK (fl_blk hP 0 rfl) (ci := 6) (q0 := 0) rfl rfl, q_preM _ hK hN hP hD [0, 1] (by decide) rfl⟩ rfl rfl hl.1 rfl (lv_room (Nat.le_of_ble_eq_true rfl)) dX6_reads_96 ⟨by decide, by decide⟩) rfl rfl (by decide) (fun b_96 u_96 H locs h_96 hP hD hS => ?_)
    have hP : va_P D vwCl [[(t, .inr (6, [.ref (rr 0), .int (qI (u_96.1)), .int (qI (u_96.2.1)), .int (qI (u_96.2.2.1)), .int (qI (u_96.2.2.2.1)), .int (qI (u_96.2.2.2.2.1)), .int (qI (u_96.2.2.2.2.2.1)), .int (qI (u_96.2.2.2.2.2.2.1))]))], qRu cy rr (u_96.2.2.2.2.2.2.2.1) (u_96.2.2.2.2.2.2.2.2 : Int)].flatten H := hP
    have hD : va_D A [[(t, .inr (6, [.ref (rr 0), .int (qI (u_96.1)), .int (qI (u_96.2.1)), .int (qI (u_96.2.2.1)), .int (qI (u_96.2.2.2.1)), .int (qI (u_96.2.2.2.2.1)), .int (qI (u_96.2.2.2.2.2.1)), .int (qI (u_96.2.2.2.2.2.2.1))]))], qRu cy rr (u_96.2.2.2.2.2.2.2.1) (u_96.2.2.2.2.2.2.2.2 : Int)].flatten := hD
    refine hQ _ _ _ _ b_96 u_96 ⟨h_96.1.trans (by rw [c_4]; first | exact rdOk_4.symm | (rw [rdOk_4]; omega)), fun h => ?_⟩ hP hD hS dX6_reads_99
    have g9 := h_96.1.mp h
    have q9 := h_96.2 h
    exact rdTo_at q9 (by omega)
  · refine q_tableIn (off := 96) (tgt := 100) hx hb (5) c_4 dX6_reads_4 (by decide) ?_
    refine lv_iload_n hx hb dX6_reads_100 rfl (lv_at hl 1 rfl) ?_
    refine q_bipush hx hb dX6_reads_101 (by decide) ?_
    refine q_icmp_eq (tgt := 118) hx hb dX6_reads_103 (by decide) (by omega) (fun c_103 => ?_) (fun c_103 => ?_)
    · skip
      refine q_iconst hx hb dX6_reads_118 ?_
      exact hQ _ _ _ _ false (a9, l9, r9, s9, n9, f9, t9, G, k) ⟨iff_of_false (by decide) (by rw [c_4, rdOk_5]; omega), fun h => absurd h (by decide)⟩ hP hD hS dX6_reads_119
    · skip
      refine lv_aload_n hx hb dX6_reads_106 rfl (lv_at hl 0 rfl) ?_
      refine lv_iload_n hx hb dX6_reads_107 rfl (lv_at hl 1 rfl) ?_
      refine q_backz [0, 1] [] (br := []) hP hD hS hA (va_runV (As := [.int (qI (ch))]) (rest := []) ⟨hx, hb, hml, hown, hg⟩ (c_X6_readsDigit l D cy t rr (a9) (l9) (r9) (s9) (n9) (f9) (t9) (G) k (ch) (by omega) (by omega) _) (cv_X6_41 hg rfl rfl ⟨by decide, by decide⟩) ⟨q_blind, va_recv hK (fl_blk hP 0 rfl) (ci := 6) (q0 := 0) rfl rfl, q_preM _ hK hN hP hD [0, 1] (by decide) rfl⟩ rfl rfl hl.1 rfl (lv_room (Nat.le_of_ble_eq_true rfl)) dX6_reads_108 ⟨by decide, by decide⟩) rfl rfl (by decide) (fun b_108 u_108 H locs h_108 hP hD hS => ?_)
      have hP : va_P D vwCl [[(t, .inr (6, [.ref (rr 0), .int (qI (u_108.1)), .int (qI (u_108.2.1)), .int (qI (u_108.2.2.1)), .int (qI (u_108.2.2.2.1)), .int (qI (u_108.2.2.2.2.1)), .int (qI (u_108.2.2.2.2.2.1)), .int (qI (u_108.2.2.2.2.2.2.1))]))], qRu cy rr (u_108.2.2.2.2.2.2.2.1) (u_108.2.2.2.2.2.2.2.2 : Int)].flatten H := hP
      have hD : va_D A [[(t, .inr (6, [.ref (rr 0), .int (qI (u_108.1)), .int (qI (u_108.2.1)), .int (qI (u_108.2.2.1)), .int (qI (u_108.2.2.2.1)), .int (qI (u_108.2.2.2.2.1)), .int (qI (u_108.2.2.2.2.2.1)), .int (qI (u_108.2.2.2.2.2.2.1))]))], qRu cy rr (u_108.2.2.2.2.2.2.2.1) (u_108.2.2.2.2.2.2.2.2 : Int)].flatten := hD
      refine q_ifz_eq (tgt := 118) hx hb dX6_reads_111 (by decide) (fun c_111 => ?_) (fun c_111 => ?_)
      · skip
        have g_111 := mt (h_108.1).mpr (by rw [c_111]; decide)
        refine q_iconst hx hb dX6_reads_118 ?_
        exact hQ _ _ _ _ false (u_108.1, u_108.2.1, u_108.2.2.1, u_108.2.2.2.1, u_108.2.2.2.2.1, u_108.2.2.2.2.2.1, u_108.2.2.2.2.2.2.1, u_108.2.2.2.2.2.2.2.1, u_108.2.2.2.2.2.2.2.2) ⟨iff_of_false (by decide) (by rw [c_4, rdOk_5]; omega), fun h => absurd h (by decide)⟩ hP hD hS dX6_reads_119
      · skip
        have g_111 := (h_108.1).mp c_111
        refine q_iconst hx hb dX6_reads_114 ?_
        refine lv_goto (tgt := 119) hx hb dX6_reads_115 (by decide) ?_
        refine hQ _ _ _ _ true u_108 ⟨iff_of_true rfl (by rw [c_4, rdOk_5]; omega), fun h => ?_⟩ hP hD hS dX6_reads_119
        have g9 := h_108.1.mp c_111
        have q9 := h_108.2.1 c_111
        exact rdTo_at q9 (by omega)
  · refine q_tableIn (off := 116) (tgt := 120) hx hb (6) c_4 dX6_reads_4 (by decide) ?_
    refine lv_aload_n hx hb dX6_reads_120 rfl (lv_at hl 0 rfl) ?_
    refine lv_iload_n hx hb dX6_reads_121 rfl (lv_at hl 1 rfl) ?_
    refine q_backz [0, 1] [] (br := []) hP hD hS hA (va_runV (As := [.int (qI (ch))]) (rest := []) ⟨hx, hb, hml, hown, hg⟩ (c_X6_readsDigit l D cy t rr (a9) (l9) (r9) (s9) (n9) (f9) (t9) (G) k (ch) (by omega) (by omega) _) (cv_X6_41 hg rfl rfl ⟨by decide, by decide⟩) ⟨q_blind, va_recv hK (fl_blk hP 0 rfl) (ci := 6) (q0 := 0) rfl rfl, q_preM _ hK hN hP hD [0, 1] (by decide) rfl⟩ rfl rfl hl.1 rfl (lv_room (Nat.le_of_ble_eq_true rfl)) dX6_reads_122 ⟨by decide, by decide⟩) rfl rfl (by decide) (fun b_122 u_122 H locs h_122 hP hD hS => ?_)
    have hP : va_P D vwCl [[(t, .inr (6, [.ref (rr 0), .int (qI (u_122.1)), .int (qI (u_122.2.1)), .int (qI (u_122.2.2.1)), .int (qI (u_122.2.2.2.1)), .int (qI (u_122.2.2.2.2.1)), .int (qI (u_122.2.2.2.2.2.1)), .int (qI (u_122.2.2.2.2.2.2.1))]))], qRu cy rr (u_122.2.2.2.2.2.2.2.1) (u_122.2.2.2.2.2.2.2.2 : Int)].flatten H := hP
    have hD : va_D A [[(t, .inr (6, [.ref (rr 0), .int (qI (u_122.1)), .int (qI (u_122.2.1)), .int (qI (u_122.2.2.1)), .int (qI (u_122.2.2.2.1)), .int (qI (u_122.2.2.2.2.1)), .int (qI (u_122.2.2.2.2.2.1)), .int (qI (u_122.2.2.2.2.2.2.1))]))], qRu cy rr (u_122.2.2.2.2.2.2.2.1) (u_122.2.2.2.2.2.2.2.2 : Int)].flatten := hD
    refine q_ifz_ne (tgt := 136) hx hb dX6_reads_125 (by decide) (fun c_125 => ?_) (fun c_125 => ?_)
    · skip
      have g_125 := (h_122.1).mp c_125
      refine q_iconst hx hb dX6_reads_136 ?_
      refine lv_goto (tgt := 141) hx hb dX6_reads_137 (by decide) ?_
      refine hQ _ _ _ _ true u_122 ⟨iff_of_true rfl (by rw [c_4, rdOk_6]; omega), fun h => ?_⟩ hP hD hS dX6_reads_141
      have g9 := h_122.1.mp c_125
      have q9 := h_122.2.1 c_125
      exact rdTo_at q9 (by omega)
    · skip
      have g_125 := mt (h_122.1).mpr (by rw [c_125]; decide)
      refine lv_aload_n hx hb dX6_reads_128 rfl (lv_at hl 0 rfl) ?_
      refine lv_iload_n hx hb dX6_reads_129 rfl (lv_at hl 1 rfl) ?_
      refine q_backz [0, 1] [] (br := []) hP hD hS hA (va_runV (As := [.int (qI (ch))]) (rest := []) ⟨hx, hb, hml, hown, hg⟩ (c_X6_readsNumberEnd l D cy t rr (u_122.1) (u_122.2.1) (u_122.2.2.1) (u_122.2.2.2.1) (u_122.2.2.2.2.1) (u_122.2.2.2.2.2.1) (u_122.2.2.2.2.2.2.1) (u_122.2.2.2.2.2.2.2.1) u_122.2.2.2.2.2.2.2.2 (ch) (by omega) (by rw [h_122.2.2 c_125]; exact hk) _) (cv_X6_44 hg rfl rfl ⟨by decide, by decide⟩) ⟨q_blind, va_recv hK (fl_blk hP 0 rfl) (ci := 6) (q0 := 0) rfl rfl, q_preM _ hK hN hP hD [0, 1] (by decide) rfl⟩ rfl rfl hl.1 rfl (lv_room (Nat.le_of_ble_eq_true rfl)) dX6_reads_130 ⟨by decide, by decide⟩) rfl rfl (by decide) (fun b_130 u_130 H locs h_130 hP hD hS => ?_)
      have hP : va_P D vwCl [[(t, .inr (6, [.ref (rr 0), .int (qI (u_130.1)), .int (qI (u_130.2.1)), .int (qI (u_130.2.2.1)), .int (qI (u_130.2.2.2.1)), .int (qI (u_130.2.2.2.2.1)), .int (qI (u_130.2.2.2.2.2.1)), .int (qI (u_130.2.2.2.2.2.2.1))]))], qRu cy rr (u_130.2.2.2.2.2.2.2.1) (u_130.2.2.2.2.2.2.2.2 : Int)].flatten H := hP
      have hD : va_D A [[(t, .inr (6, [.ref (rr 0), .int (qI (u_130.1)), .int (qI (u_130.2.1)), .int (qI (u_130.2.2.1)), .int (qI (u_130.2.2.2.1)), .int (qI (u_130.2.2.2.2.1)), .int (qI (u_130.2.2.2.2.2.1)), .int (qI (u_130.2.2.2.2.2.2.1))]))], qRu cy rr (u_130.2.2.2.2.2.2.2.1) (u_130.2.2.2.2.2.2.2.2 : Int)].flatten := hD
      refine q_ifz_eq (tgt := 140) hx hb dX6_reads_133 (by decide) (fun c_133 => ?_) (fun c_133 => ?_)
      · skip
        have g_133 := mt (h_130.1).mpr (by rw [c_133]; decide)
        refine q_iconst hx hb dX6_reads_140 ?_
        exact hQ _ _ _ _ false (u_130.1, u_130.2.1, u_130.2.2.1, u_130.2.2.2.1, u_130.2.2.2.2.1, u_130.2.2.2.2.2.1, u_130.2.2.2.2.2.2.1, u_130.2.2.2.2.2.2.2.1, u_130.2.2.2.2.2.2.2.2) ⟨iff_of_false (by decide) (by rw [c_4, rdOk_6]; omega), fun h => absurd h (by decide)⟩ hP hD hS dX6_reads_141
      · skip
        have g_133 := (h_130.1).mp c_133
        refine q_iconst hx hb dX6_reads_136 ?_
        refine lv_goto (tgt := 141) hx hb dX6_reads_137 (by decide) ?_
        refine hQ _ _ _ _ true u_130 ⟨iff_of_true rfl (by rw [c_4, rdOk_6]; omega), fun h => ?_⟩ hP hD hS dX6_reads_141
        have g9 := h_130.1.mp c_133
        have q9 := h_130.2 c_133
        rw [h_122.2.2 c_125] at q9
        exact rdTo_at q9 (by omega)
  · refine q_tableIn (off := 138) (tgt := 142) hx hb (7) c_4 dX6_reads_4 (by decide) ?_
    refine lv_aload_n hx hb dX6_reads_142 rfl (lv_at hl 0 rfl) ?_
    refine lv_iload_n hx hb dX6_reads_143 rfl (lv_at hl 1 rfl) ?_
    refine q_backz [0, 1] [] (br := []) hP hD hS hA (va_runV (As := [.int (qI (ch))]) (rest := []) ⟨hx, hb, hml, hown, hg⟩ (c_X6_readsNumberEnd l D cy t rr (a9) (l9) (r9) (s9) (n9) (f9) (t9) (G) k (ch) (by omega) hk _) (cv_X6_44 hg rfl rfl ⟨by decide, by decide⟩) ⟨q_blind, va_recv hK (fl_blk hP 0 rfl) (ci := 6) (q0 := 0) rfl rfl, q_preM _ hK hN hP hD [0, 1] (by decide) rfl⟩ rfl rfl hl.1 rfl (lv_room (Nat.le_of_ble_eq_true rfl)) dX6_reads_144 ⟨by decide, by decide⟩) rfl rfl (by decide) (fun b_144 u_144 H locs h_144 hP hD hS => ?_)
    have hP : va_P D vwCl [[(t, .inr (6, [.ref (rr 0), .int (qI (u_144.1)), .int (qI (u_144.2.1)), .int (qI (u_144.2.2.1)), .int (qI (u_144.2.2.2.1)), .int (qI (u_144.2.2.2.2.1)), .int (qI (u_144.2.2.2.2.2.1)), .int (qI (u_144.2.2.2.2.2.2.1))]))], qRu cy rr (u_144.2.2.2.2.2.2.2.1) (u_144.2.2.2.2.2.2.2.2 : Int)].flatten H := hP
    have hD : va_D A [[(t, .inr (6, [.ref (rr 0), .int (qI (u_144.1)), .int (qI (u_144.2.1)), .int (qI (u_144.2.2.1)), .int (qI (u_144.2.2.2.1)), .int (qI (u_144.2.2.2.2.1)), .int (qI (u_144.2.2.2.2.2.1)), .int (qI (u_144.2.2.2.2.2.2.1))]))], qRu cy rr (u_144.2.2.2.2.2.2.2.1) (u_144.2.2.2.2.2.2.2.2 : Int)].flatten := hD
    refine hQ _ _ _ _ b_144 u_144 ⟨h_144.1.trans (by rw [c_4]; first | exact rdOk_7.symm | (rw [rdOk_7]; omega)), fun h => ?_⟩ hP hD hS dX6_reads_147
    have g9 := h_144.1.mp h
    have q9 := h_144.2 h
    exact rdTo_at q9 (by omega)
  · refine q_tableIn (off := 144) (tgt := 148) hx hb (8) c_4 dX6_reads_4 (by decide) ?_
    refine lv_aload_n hx hb dX6_reads_148 rfl (lv_at hl 0 rfl) ?_
    refine lv_iload_n hx hb dX6_reads_149 rfl (lv_at hl 1 rfl) ?_
    refine q_backz [0, 1] [] (br := []) hP hD hS hA (va_runV (As := [.int (qI (ch))]) (rest := []) ⟨hx, hb, hml, hown, hg⟩ (c_X6_readsStrength l D cy t rr (a9) (l9) (r9) (s9) (n9) (f9) (t9) (G) k (ch) (by omega)  _) (cv_X6_47 hg rfl rfl ⟨by decide, by decide⟩) ⟨q_blind, va_recv hK (fl_blk hP 0 rfl) (ci := 6) (q0 := 0) rfl rfl, q_preM _ hK hN hP hD [0, 1] (by decide) rfl⟩ rfl rfl hl.1 rfl (lv_room (Nat.le_of_ble_eq_true rfl)) dX6_reads_150 ⟨by decide, by decide⟩) rfl rfl (by decide) (fun b_150 u_150 H locs h_150 hP hD hS => ?_)
    have hP : va_P D vwCl [[(t, .inr (6, [.ref (rr 0), .int (qI (u_150.1)), .int (qI (u_150.2.1)), .int (qI (u_150.2.2.1)), .int (qI (u_150.2.2.2.1)), .int (qI (u_150.2.2.2.2.1)), .int (qI (u_150.2.2.2.2.2.1)), .int (qI (u_150.2.2.2.2.2.2.1))]))], qRu cy rr (u_150.2.2.2.2.2.2.2.1) (u_150.2.2.2.2.2.2.2.2 : Int)].flatten H := hP
    have hD : va_D A [[(t, .inr (6, [.ref (rr 0), .int (qI (u_150.1)), .int (qI (u_150.2.1)), .int (qI (u_150.2.2.1)), .int (qI (u_150.2.2.2.1)), .int (qI (u_150.2.2.2.2.1)), .int (qI (u_150.2.2.2.2.2.1)), .int (qI (u_150.2.2.2.2.2.2.1))]))], qRu cy rr (u_150.2.2.2.2.2.2.2.1) (u_150.2.2.2.2.2.2.2.2 : Int)].flatten := hD
    refine hQ _ _ _ _ b_150 u_150 ⟨h_150.1.trans (by rw [c_4]; first | exact rdOk_8.symm | (rw [rdOk_8]; omega)), fun h => ?_⟩ hP hD hS dX6_reads_153
    have g9 := h_150.1.mp h
    have q9 := h_150.2 h
    exact rdTo_at q9 (by omega)
  · refine q_tableOut (tgt := 154) hx hb dX6_reads_4 (by decide) (by omega) ?_
    refine lv_aload_n hx hb dX6_reads_154 rfl (lv_at hl 0 rfl) ?_
    refine lv_iload_n hx hb dX6_reads_155 rfl (lv_at hl 1 rfl) ?_
    refine q_backz [0, 1] [] (br := []) hP hD hS hA (va_runV (As := [.int (qI (ch))]) (rest := []) ⟨hx, hb, hml, hown, hg⟩ (c_X6_readsConditionEnd l D cy t rr (a9) (l9) (r9) (s9) (n9) (f9) (t9) (G) k (ch) (by omega) hk _) (cv_X6_50 hg rfl rfl ⟨by decide, by decide⟩) ⟨q_blind, va_recv hK (fl_blk hP 0 rfl) (ci := 6) (q0 := 0) rfl rfl, q_preM _ hK hN hP hD [0, 1] (by decide) rfl⟩ rfl rfl hl.1 rfl (lv_room (Nat.le_of_ble_eq_true rfl)) dX6_reads_156 ⟨by decide, by decide⟩) rfl rfl (by decide) (fun b_156 u_156 H locs h_156 hP hD hS => ?_)
    have hP : va_P D vwCl [[(t, .inr (6, [.ref (rr 0), .int (qI (u_156.1)), .int (qI (u_156.2.1)), .int (qI (u_156.2.2.1)), .int (qI (u_156.2.2.2.1)), .int (qI (u_156.2.2.2.2.1)), .int (qI (u_156.2.2.2.2.2.1)), .int (qI (u_156.2.2.2.2.2.2.1))]))], qRu cy rr (u_156.2.2.2.2.2.2.2.1) (u_156.2.2.2.2.2.2.2.2 : Int)].flatten H := hP
    have hD : va_D A [[(t, .inr (6, [.ref (rr 0), .int (qI (u_156.1)), .int (qI (u_156.2.1)), .int (qI (u_156.2.2.1)), .int (qI (u_156.2.2.2.1)), .int (qI (u_156.2.2.2.2.1)), .int (qI (u_156.2.2.2.2.2.1)), .int (qI (u_156.2.2.2.2.2.2.1))]))], qRu cy rr (u_156.2.2.2.2.2.2.2.1) (u_156.2.2.2.2.2.2.2.2 : Int)].flatten := hD
    refine hQ _ _ _ _ b_156 u_156 ⟨h_156.1.trans (by rw [show a9 = 9 by omega]; first | exact rdOk_9.symm | (rw [rdOk_9]; omega)), fun h => ?_⟩ hP hD hS dX6_reads_159
    have g9 := h_156.1.mp h
    have q9 := h_156.2 h
    exact rdTo_at q9 (by omega)

set_option maxRecDepth 100000 in
set_option maxHeartbeats 4000000 in
theorem c_X6_ends (l : Launch) (D : va_G) (cy : Nat → ClassId) (t : Nat) (rr : Nat → Nat) (a9 l9 r9 s9 n9 f9 t9 : Int) (G : Nat → Nat → Int) (k : Nat) (hk : k < 16) (ha : 0 ≤ a9 ∧ a9 ≤ 9) (sz : Nat) : qMet l yX6_ends (.code yX6_ends cX6_ends 2 (some .boolean)) 3 [.ref (t)] D cy [[(t, .inr (6, [.ref (rr 0), .int (qI (a9)), .int (qI (l9)), .int (qI (r9)), .int (qI (s9)), .int (qI (n9)), .int (qI (f9)), .int (qI (t9))]))], qRu cy rr (G) (((k : Nat) : Int))] sz (va_Qi (S := RS) (fun r u => ∃ b : Bool, r = qz b ∧ (fun b u => (b = true ↔ a9 = 6 ∨ a9 = 7 ∨ a9 = 9) ∧ (b = true → rdTo 9 l9 r9 s9 n9 f9 t9 G k 59 u)) b u) (qB D cy [[(t, .inr (6, [.ref (rr 0), .int (qI (a9)), .int (qI (l9)), .int (qI (r9)), .int (qI (s9)), .int (qI (n9)), .int (qI (f9)), .int (qI (t9))]))], qRu cy rr (G) (((k : Nat) : Int))] sz (fun u => [[(t, .inr (6, [.ref (rr 0), .int (qI (u.1)), .int (qI (u.2.1)), .int (qI (u.2.2.1)), .int (qI (u.2.2.2.1)), .int (qI (u.2.2.2.2.1)), .int (qI (u.2.2.2.2.2.1)), .int (qI (u.2.2.2.2.2.2.1))]))], qRu cy rr u.2.2.2.2.2.2.2.1 (u.2.2.2.2.2.2.2.2 : Int)])) (va_A [[(t, .inr (6, [.ref (rr 0), .int (qI (a9)), .int (qI (l9)), .int (qI (r9)), .int (qI (s9)), .int (qI (n9)), .int (qI (f9)), .int (qI (t9))]))], qRu cy rr (G) (((k : Nat) : Int))].flatten sz)) := by
  refine q_ofMz (S := RS) (b1 := fun u => [[(t, .inr (6, [.ref (rr 0), .int (qI (u.1)), .int (qI (u.2.1)), .int (qI (u.2.2.1)), .int (qI (u.2.2.2.1)), .int (qI (u.2.2.2.2.1)), .int (qI (u.2.2.2.2.2.1)), .int (qI (u.2.2.2.2.2.2.1))]))], qRu cy rr u.2.2.2.2.2.2.2.1 (u.2.2.2.2.2.2.2.2 : Int)]) (post := fun b u => (b = true ↔ a9 = 6 ∨ a9 = 7 ∨ a9 = 9) ∧ (b = true → rdTo 9 l9 r9 s9 n9 f9 t9 G k 59 u)) (by decide +kernel) (Nat.le_of_ble_eq_true rfl) ?_
  intro p e s m args below meth c Q A hx hb hml hown hg hQ hK hN hD hA H locs ls hP hS hl
  have hown : s.vm.findClass RX6 = some m.cls := hown
  have hl : lv_has ls 2 [(0, .ref (t))] := hl
  refine lv_aload_n hx hb dX6_ends_0 rfl (lv_at hl 0 rfl) ?_
  refine gf_X6_22 hx hb hg hown hK (fl_blk hP 0 rfl) 0 rfl rfl dX6_ends_1 ?_
  refine q_bipush hx hb dX6_ends_4 (by decide) ?_
  refine q_icmp_eq (tgt := 27) hx hb dX6_ends_6 (by decide) (by omega) (fun c_6 => ?_) (fun c_6 => ?_)
  · skip
    refine q_iconst hx hb dX6_ends_27 ?_
    refine lv_goto (tgt := 32) hx hb dX6_ends_28 (by decide) ?_
    refine q_bool (b := true) rfl ?_
    refine lv_istore_n (lv' := [(1, .int (qz (true))), (0, .ref (t))]) hx hb dX6_ends_32 rfl hl (by decide) rfl (fun ls hl => ?_)
    refine lv_iload_n hx hb dX6_ends_33 rfl (lv_at hl 0 rfl) ?_
    refine q_ifz_eq (tgt := 50) hx hb dX6_ends_34 (by decide) (fun c_34 => ?_) (fun c_34 => ?_)
    · skip
      exact absurd c_34 (by decide)
    · skip
      refine lv_aload_n hx hb dX6_ends_37 rfl (lv_at hl 1 rfl) ?_
      refine q_bipush hx hb dX6_ends_38 (by decide) ?_
      refine q_backz [0, 1] [] (br := []) hP hD hS hA (va_runV (As := [.int (qI (59))]) (rest := []) ⟨hx, hb, hml, hown, hg⟩ (c_X6_readsConditionEnd l D cy t rr (a9) (l9) (r9) (s9) (n9) (f9) (t9) (G) k (59) (by omega) hk _) (cv_X6_50 hg rfl rfl ⟨by decide, by decide⟩) ⟨q_blind, va_recv hK (fl_blk hP 0 rfl) (ci := 6) (q0 := 0) rfl rfl, q_preM _ hK hN hP hD [0, 1] (by decide) rfl⟩ rfl rfl hl.1 rfl (lv_room (Nat.le_of_ble_eq_true rfl)) dX6_ends_40 ⟨by decide, by decide⟩) rfl rfl (by decide) (fun b_40 u_40 H locs h_40 hP hD hS => ?_)
      have hP : va_P D vwCl [[(t, .inr (6, [.ref (rr 0), .int (qI (u_40.1)), .int (qI (u_40.2.1)), .int (qI (u_40.2.2.1)), .int (qI (u_40.2.2.2.1)), .int (qI (u_40.2.2.2.2.1)), .int (qI (u_40.2.2.2.2.2.1)), .int (qI (u_40.2.2.2.2.2.2.1))]))], qRu cy rr (u_40.2.2.2.2.2.2.2.1) (u_40.2.2.2.2.2.2.2.2 : Int)].flatten H := hP
      have hD : va_D A [[(t, .inr (6, [.ref (rr 0), .int (qI (u_40.1)), .int (qI (u_40.2.1)), .int (qI (u_40.2.2.1)), .int (qI (u_40.2.2.2.1)), .int (qI (u_40.2.2.2.2.1)), .int (qI (u_40.2.2.2.2.2.1)), .int (qI (u_40.2.2.2.2.2.2.1))]))], qRu cy rr (u_40.2.2.2.2.2.2.2.1) (u_40.2.2.2.2.2.2.2.2 : Int)].flatten := hD
      refine q_ifz_eq (tgt := 50) hx hb dX6_ends_43 (by decide) (fun c_43 => ?_) (fun c_43 => ?_)
      · skip
        have g_43 := mt (h_40.1).mpr (by rw [c_43]; decide)
        refine q_iconst hx hb dX6_ends_50 ?_
        exact absurd (h_40.1.mpr rfl) (by rw [c_43]; decide)
      · skip
        have g_43 := (h_40.1).mp c_43
        refine q_iconst hx hb dX6_ends_46 ?_
        refine lv_goto (tgt := 51) hx hb dX6_ends_47 (by decide) ?_
        exact hQ _ _ _ _ true u_40 ⟨iff_of_true rfl (by omega), fun _ => h_40.2 c_43⟩ hP hD hS dX6_ends_51
  · skip
    refine lv_aload_n hx hb dX6_ends_9 rfl (lv_at hl 0 rfl) ?_
    refine gf_X6_22 hx hb hg hown hK (fl_blk hP 0 rfl) 0 rfl rfl dX6_ends_10 ?_
    refine q_bipush hx hb dX6_ends_13 (by decide) ?_
    refine q_icmp_eq (tgt := 27) hx hb dX6_ends_15 (by decide) (by omega) (fun c_15 => ?_) (fun c_15 => ?_)
    · skip
      refine q_iconst hx hb dX6_ends_27 ?_
      refine lv_goto (tgt := 32) hx hb dX6_ends_28 (by decide) ?_
      refine q_bool (b := true) rfl ?_
      refine lv_istore_n (lv' := [(1, .int (qz (true))), (0, .ref (t))]) hx hb dX6_ends_32 rfl hl (by decide) rfl (fun ls hl => ?_)
      refine lv_iload_n hx hb dX6_ends_33 rfl (lv_at hl 0 rfl) ?_
      refine q_ifz_eq (tgt := 50) hx hb dX6_ends_34 (by decide) (fun c_34 => ?_) (fun c_34 => ?_)
      · skip
        exact absurd c_34 (by decide)
      · skip
        refine lv_aload_n hx hb dX6_ends_37 rfl (lv_at hl 1 rfl) ?_
        refine q_bipush hx hb dX6_ends_38 (by decide) ?_
        refine q_backz [0, 1] [] (br := []) hP hD hS hA (va_runV (As := [.int (qI (59))]) (rest := []) ⟨hx, hb, hml, hown, hg⟩ (c_X6_readsConditionEnd l D cy t rr (a9) (l9) (r9) (s9) (n9) (f9) (t9) (G) k (59) (by omega) hk _) (cv_X6_50 hg rfl rfl ⟨by decide, by decide⟩) ⟨q_blind, va_recv hK (fl_blk hP 0 rfl) (ci := 6) (q0 := 0) rfl rfl, q_preM _ hK hN hP hD [0, 1] (by decide) rfl⟩ rfl rfl hl.1 rfl (lv_room (Nat.le_of_ble_eq_true rfl)) dX6_ends_40 ⟨by decide, by decide⟩) rfl rfl (by decide) (fun b_40 u_40 H locs h_40 hP hD hS => ?_)
        have hP : va_P D vwCl [[(t, .inr (6, [.ref (rr 0), .int (qI (u_40.1)), .int (qI (u_40.2.1)), .int (qI (u_40.2.2.1)), .int (qI (u_40.2.2.2.1)), .int (qI (u_40.2.2.2.2.1)), .int (qI (u_40.2.2.2.2.2.1)), .int (qI (u_40.2.2.2.2.2.2.1))]))], qRu cy rr (u_40.2.2.2.2.2.2.2.1) (u_40.2.2.2.2.2.2.2.2 : Int)].flatten H := hP
        have hD : va_D A [[(t, .inr (6, [.ref (rr 0), .int (qI (u_40.1)), .int (qI (u_40.2.1)), .int (qI (u_40.2.2.1)), .int (qI (u_40.2.2.2.1)), .int (qI (u_40.2.2.2.2.1)), .int (qI (u_40.2.2.2.2.2.1)), .int (qI (u_40.2.2.2.2.2.2.1))]))], qRu cy rr (u_40.2.2.2.2.2.2.2.1) (u_40.2.2.2.2.2.2.2.2 : Int)].flatten := hD
        refine q_ifz_eq (tgt := 50) hx hb dX6_ends_43 (by decide) (fun c_43 => ?_) (fun c_43 => ?_)
        · skip
          have g_43 := mt (h_40.1).mpr (by rw [c_43]; decide)
          refine q_iconst hx hb dX6_ends_50 ?_
          exact absurd (h_40.1.mpr rfl) (by rw [c_43]; decide)
        · skip
          have g_43 := (h_40.1).mp c_43
          refine q_iconst hx hb dX6_ends_46 ?_
          refine lv_goto (tgt := 51) hx hb dX6_ends_47 (by decide) ?_
          exact hQ _ _ _ _ true u_40 ⟨iff_of_true rfl (by omega), fun _ => h_40.2 c_43⟩ hP hD hS dX6_ends_51
    · skip
      refine lv_aload_n hx hb dX6_ends_18 rfl (lv_at hl 0 rfl) ?_
      refine gf_X6_22 hx hb hg hown hK (fl_blk hP 0 rfl) 0 rfl rfl dX6_ends_19 ?_
      refine q_bipush hx hb dX6_ends_22 (by decide) ?_
      refine q_icmp_ne (tgt := 31) hx hb dX6_ends_24 (by decide) (by omega) (fun c_24 => ?_) (fun c_24 => ?_)
      · skip
        refine q_iconst hx hb dX6_ends_31 ?_
        refine q_bool (b := false) rfl ?_
        refine lv_istore_n (lv' := [(1, .int (qz (false))), (0, .ref (t))]) hx hb dX6_ends_32 rfl hl (by decide) rfl (fun ls hl => ?_)
        refine lv_iload_n hx hb dX6_ends_33 rfl (lv_at hl 0 rfl) ?_
        refine q_ifz_eq (tgt := 50) hx hb dX6_ends_34 (by decide) (fun c_34 => ?_) (fun c_34 => ?_)
        · skip
          refine q_iconst hx hb dX6_ends_50 ?_
          exact hQ _ _ _ _ false (a9, l9, r9, s9, n9, f9, t9, G, k) ⟨iff_of_false (by decide) (by omega), fun h => absurd h (by decide)⟩ hP hD hS dX6_ends_51
        · skip
          exact absurd c_34 (by decide)
      · skip
        refine q_iconst hx hb dX6_ends_27 ?_
        refine lv_goto (tgt := 32) hx hb dX6_ends_28 (by decide) ?_
        refine q_bool (b := true) rfl ?_
        refine lv_istore_n (lv' := [(1, .int (qz (true))), (0, .ref (t))]) hx hb dX6_ends_32 rfl hl (by decide) rfl (fun ls hl => ?_)
        refine lv_iload_n hx hb dX6_ends_33 rfl (lv_at hl 0 rfl) ?_
        refine q_ifz_eq (tgt := 50) hx hb dX6_ends_34 (by decide) (fun c_34 => ?_) (fun c_34 => ?_)
        · skip
          exact absurd c_34 (by decide)
        · skip
          refine lv_aload_n hx hb dX6_ends_37 rfl (lv_at hl 1 rfl) ?_
          refine q_bipush hx hb dX6_ends_38 (by decide) ?_
          refine q_backz [0, 1] [] (br := []) hP hD hS hA (va_runV (As := [.int (qI (59))]) (rest := []) ⟨hx, hb, hml, hown, hg⟩ (c_X6_readsConditionEnd l D cy t rr (a9) (l9) (r9) (s9) (n9) (f9) (t9) (G) k (59) (by omega) hk _) (cv_X6_50 hg rfl rfl ⟨by decide, by decide⟩) ⟨q_blind, va_recv hK (fl_blk hP 0 rfl) (ci := 6) (q0 := 0) rfl rfl, q_preM _ hK hN hP hD [0, 1] (by decide) rfl⟩ rfl rfl hl.1 rfl (lv_room (Nat.le_of_ble_eq_true rfl)) dX6_ends_40 ⟨by decide, by decide⟩) rfl rfl (by decide) (fun b_40 u_40 H locs h_40 hP hD hS => ?_)
          have hP : va_P D vwCl [[(t, .inr (6, [.ref (rr 0), .int (qI (u_40.1)), .int (qI (u_40.2.1)), .int (qI (u_40.2.2.1)), .int (qI (u_40.2.2.2.1)), .int (qI (u_40.2.2.2.2.1)), .int (qI (u_40.2.2.2.2.2.1)), .int (qI (u_40.2.2.2.2.2.2.1))]))], qRu cy rr (u_40.2.2.2.2.2.2.2.1) (u_40.2.2.2.2.2.2.2.2 : Int)].flatten H := hP
          have hD : va_D A [[(t, .inr (6, [.ref (rr 0), .int (qI (u_40.1)), .int (qI (u_40.2.1)), .int (qI (u_40.2.2.1)), .int (qI (u_40.2.2.2.1)), .int (qI (u_40.2.2.2.2.1)), .int (qI (u_40.2.2.2.2.2.1)), .int (qI (u_40.2.2.2.2.2.2.1))]))], qRu cy rr (u_40.2.2.2.2.2.2.2.1) (u_40.2.2.2.2.2.2.2.2 : Int)].flatten := hD
          refine q_ifz_eq (tgt := 50) hx hb dX6_ends_43 (by decide) (fun c_43 => ?_) (fun c_43 => ?_)
          · skip
            have g_43 := mt (h_40.1).mpr (by rw [c_43]; decide)
            refine q_iconst hx hb dX6_ends_50 ?_
            exact absurd (h_40.1.mpr rfl) (by rw [c_43]; decide)
          · skip
            have g_43 := (h_40.1).mp c_43
            refine q_iconst hx hb dX6_ends_46 ?_
            refine lv_goto (tgt := 51) hx hb dX6_ends_47 (by decide) ?_
            exact hQ _ _ _ _ true u_40 ⟨iff_of_true rfl (by omega), fun _ => h_40.2 c_43⟩ hP hD hS dX6_ends_51
