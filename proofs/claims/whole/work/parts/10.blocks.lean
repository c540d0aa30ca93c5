theorem fl_at {α : Type} {q : Nat} {b : List α} {x : α} : ∀ {bs : List (List α)} {i : Nat}, bs[i]? = some b → b[q]? = some x → bs.flatten[(bs.take i).flatten.length + q]? = some x
  | [], i, hb, _ => by simp at hb
  | a :: bs, 0, hb, hq => by
    rw [List.getElem?_cons_zero] at hb
    cases hb
    simp only [List.take_zero, List.flatten_nil, List.length_nil, Nat.zero_add, List.flatten_cons]
    rw [List.getElem?_append_left (List.getElem?_eq_some_iff.mp hq).1]
    exact hq
  | a :: bs, i + 1, hb, hq => by
    rw [List.getElem?_cons_succ] at hb
    rw [List.take_succ_cons, List.flatten_cons, List.flatten_cons, List.length_append, List.getElem?_append_right (by omega)]
    rw [show a.length + (bs.take i).flatten.length + q - a.length = (bs.take i).flatten.length + q by omega]
    exact fl_at (i := i) hb hq
theorem fl_set {α : Type} {q : Nat} {b : List α} {x : α} : ∀ {bs : List (List α)} {i : Nat}, bs[i]? = some b → q < b.length → bs.flatten.set ((bs.take i).flatten.length + q) x = (bs.set i (b.set q x)).flatten
  | [], i, hb, _ => by simp at hb
  | a :: bs, 0, hb, hq => by
    rw [List.getElem?_cons_zero] at hb
    cases hb
    simp only [List.take_zero, List.flatten_nil, List.length_nil, Nat.zero_add, List.flatten_cons, List.set_cons_zero]
    rw [List.set_append_left _ _ hq]
  | a :: bs, i + 1, hb, hq => by
    rw [List.getElem?_cons_succ] at hb
    rw [List.take_succ_cons, List.flatten_cons, List.flatten_cons, List.length_append, List.set_append_right _ _ (by omega), List.set_cons_succ, List.flatten_cons]
    rw [show a.length + (bs.take i).flatten.length + q - a.length = (bs.take i).flatten.length + q by omega]
    rw [fl_set hb hq]
section QBW
variable {p : Program} {l : Launch} {e : Env} {R : Room} {s : State} {m : MethodId} {args : Array Value} {below : List Frame} {meth : Method} {c : Code} {H : Heap} {locs : List Loc} {cells slots : Nat} {Q : State → Prop}
variable {cc : ByteArray} {pc : Nat} {ls : Array Slot} {rest : List Value} {D : va_G} {cl : List vw_C} {A : Nat → Prop} {a : Nat} {H0 : Heap} {cy : Nat → ClassId} {bs : List va_W} {b : va_W}
/-- what a store left, in blocks -/
theorem fl_put {X : va_W → Prop} {i q : Nat} {x0 x : Nat × va_E} (hb : bs[i]? = some b) (hq : b[q]? = some x0) (h : X (bs.flatten.set ((bs.take i).flatten.length + q) x)) : X (bs.set i (b.set q x)).flatten := by
  rw [fl_set hb (List.getElem?_eq_some_iff.mp hq).1] at h
  exact h
theorem qb_iast (hx : p.tables.exec = Jvm.exec) (hb : c.code = cc) (hK : va_K D cl (qT cy) s) (hP : va_P D cl bs.flatten H) (hD : va_D A bs.flatten) (hS : va_S A H0 H locs) (i0 q0 : Nat) {n j : Nat} {g : Nat → Int} (hi : bs[i0]? = some b) (ha : b[q0]? = some (a, .inl (cy 0, n, .inl (qA g)))) {i x : Int} (hin : i = (j : Int) ∧ j < n ∧ n < 2147483648) (hdg : decode cc pc = .ok (.iastore, 1)) (kk : ∀ (H1 : Heap) (locs1 : List Loc), va_P D cl (bs.set i0 (b.set q0 (a, .inl (cy 0, n, .inl (qA (qu g j x)))))).flatten H1 → va_D A (bs.set i0 (b.set q0 (a, .inl (cy 0, n, .inl (qA (qu g j x)))))).flatten → va_S A H0 H1 locs1 → W p l e R s m args below meth c H1 locs1 cells slots Q (F0 m (pc + 1) ls rest)) : W p l e R s m args below meth c H locs cells slots Q (F0 m pc ls (.int (qI x) :: .int (qI i) :: .ref a :: rest)) :=
  q_iast hx hb hK hP hD hS _ (fl_at hi ha) hin hdg (fun H1 locs1 h1 h2 h3 => kk H1 locs1 (fl_put (X := fun w => va_P D cl w H1) hi ha h1) (fl_put (X := fun w => va_D A w) hi ha h2) h3)
theorem qb_zast (hx : p.tables.exec = Jvm.exec) (hb : c.code = cc) (hK : va_K D cl (qT cy) s) (hP : va_P D cl bs.flatten H) (hD : va_D A bs.flatten) (hS : va_S A H0 H locs) (i0 q0 : Nat) {n j : Nat} {g : Nat → Bool} (hi : bs[i0]? = some b) (ha : b[q0]? = some (a, .inl (cy 1, n, .inl (qZ g)))) {i : Int} {x : Bool} (hin : i = (j : Int) ∧ j < n ∧ n < 2147483648) (hdg : decode cc pc = .ok (.bastore, 1)) (kk : ∀ (H1 : Heap) (locs1 : List Loc), va_P D cl (bs.set i0 (b.set q0 (a, .inl (cy 1, n, .inl (qZ (qu g j x)))))).flatten H1 → va_D A (bs.set i0 (b.set q0 (a, .inl (cy 1, n, .inl (qZ (qu g j x)))))).flatten → va_S A H0 H1 locs1 → W p l e R s m args below meth c H1 locs1 cells slots Q (F0 m (pc + 1) ls rest)) : W p l e R s m args below meth c H locs cells slots Q (F0 m pc ls (.int (qz x) :: .int (qI i) :: .ref a :: rest)) :=
  q_zast hx hb hK hP hD hS _ (fl_at hi ha) hin hdg (fun H1 locs1 h1 h2 h3 => kk H1 locs1 (fl_put (X := fun w => va_P D cl w H1) hi ha h1) (fl_put (X := fun w => va_D A w) hi ha h2) h3)
theorem q_tableIn (hx : p.tables.exec = Jvm.exec) (hb : c.code = cc) {dflt lo hi : Int} {offs : Array Int} {len : Nat} {x : Int} (v : Int) (hv : x = v) {off : Int} {tgt : Nat} (hdg : decode cc pc = .ok (.tableswitch dflt lo hi offs, len)) (hr : (-2147483648 ≤ v ∧ v < 2147483648) ∧ ¬ v < lo ∧ ¬ hi < v ∧ offs[(v - lo).toNat]? = some off ∧ (pc : Int) + off = (tgt : Int)) (k : W p l e R s m args below meth c H locs cells slots Q (F0 m tgt ls rest)) : W p l e R s m args below meth c H locs cells slots Q (F0 m pc ls (.int (qI x) :: rest)) := by
  subst hv
  obtain ⟨h0, h1, h2, h3, h4⟩ := hr
  exact lv_tableIn hx hb hdg (by rw [qI_toInt h0]; exact h1) (by rw [qI_toInt h0]; exact h2) (by rw [qI_toInt h0]; exact h3) h4 k
theorem q_tableOut (hx : p.tables.exec = Jvm.exec) (hb : c.code = cc) {dflt lo hi : Int} {offs : Array Int} {len : Nat} {x : Int} {tgt : Nat} (hdg : decode cc pc = .ok (.tableswitch dflt lo hi offs, len)) (ht : (pc : Int) + dflt = (tgt : Int)) (h0 : (-2147483648 ≤ x ∧ x < 2147483648) ∧ (x < lo ∨ hi < x)) (k : W p l e R s m args below meth c H locs cells slots Q (F0 m tgt ls rest)) : W p l e R s m args below meth c H locs cells slots Q (F0 m pc ls (.int (qI x) :: rest)) :=
  lv_tableOut hx hb hdg (by rw [qI_toInt h0.1]; exact h0.2) ht k
end QBW
/-! ===== the class's own blocks ===== -/
abbrev aI (cy : Nat → ClassId) (n : Nat) (g : Nat → Int) : va_E := .inl (cy 0, n, .inl (qA g))
abbrev aZ (cy : Nat → ClassId) (n : Nat) (g : Nat → Bool) : va_E := .inl (cy 1, n, .inl (qZ g))
/-- Rules: left, right, sign, number, strength, size -/
def qRu (cy : Nat → ClassId) (r : Nat → Nat) (G : Nat → Nat → Int) (n : Int) : va_W := [(r 0, .inr (5, [.ref (r 1), .ref (r 2), .ref (r 3), .ref (r 4), .ref (r 5), .int (qI n)])), (r 1, aI cy 16 (G 0)), (r 2, aI cy 16 (G 1)), (r 3, aI cy 16 (G 2)), (r 4, aI cy 16 (G 3)), (r 5, aI cy 16 (G 4))]
/-- Outcome: filled, margin, turn -/
def qOu (cy : Nat → ClassId) (r : Nat → Nat) (f : Int) (mg tn : Nat → Int) : va_W := [(r 0, .inr (4, [.int (qI f), .ref (r 1), .ref (r 2)])), (r 1, aI cy 16 mg), (r 2, aI cy 16 tn)]
/-- Bounds: the outer array, and its rows -/
def qBo (cy : Nat → ClassId) (r : Nat → Nat) (M : Nat → Nat → Int) : va_W := [(r 0, .inr (0, [.ref (r 1)])), (r 1, .inl (cy 2, 11, .inr (.inr (.inr (.inr (fun i => if i < 11 then some (r (2 + i)) else none))))))] ++ (List.range 11).map (fun i => (r (2 + i), aI cy 11 (M i)))
theorem qBo_row {cy : Nat → ClassId} {r : Nat → Nat} {M : Nat → Nat → Int} {i : Nat} (h : i < 11) : (qBo cy r M)[2 + i]? = some (r (2 + i), aI cy 11 (M i)) := by
  unfold qBo
  rw [List.getElem?_append_right (by simp)]
  simp [h]
theorem qBo_set {cy : Nat → ClassId} {r : Nat → Nat} {M : Nat → Nat → Int} {i : Nat} (h : i < 11) (g : Nat → Int) : (qBo cy r M).set (2 + i) (r (2 + i), aI cy 11 g) = qBo cy r (qu M i g) := by
  unfold qBo
  rw [List.set_append_right _ _ (by simp)]
  congr 1
  apply List.ext_getElem?
  intro k
  simp only [List.length_cons, List.length_nil, show 2 + i - (0 + 1 + 1) = i by omega]
  rw [List.getElem?_set]
  by_cases hk : i = k
  · subst hk
    simp [h, qu]
  · rcases Nat.lt_or_ge k 11 with h11 | h11
    · simp [h11, hk, qu, Ne.symm hk]
    · simp [hk, Nat.not_lt.mpr h11]
section QBS
variable {p : Program} {l : Launch} {e : Env} {R : Room} {s : State} {m : MethodId} {args : Array Value} {below : List Frame} {meth : Method} {c : Code} {H : Heap} {locs : List Loc} {cells slots : Nat} {Q : State → Prop}
variable {cc : ByteArray} {pc : Nat} {ls : Array Slot} {rest : List Value} {D : va_G} {cl : List vw_C} {A : Nat → Prop} {H0 : Heap} {cy : Nat → ClassId} {bs : List va_W}
theorem qb_iastB (hx : p.tables.exec = Jvm.exec) (hb : c.code = cc) (hK : va_K D cl (qT cy) s) (hP : va_P D cl bs.flatten H) (hD : va_D A bs.flatten) (hS : va_S A H0 H locs) (i0 : Nat) {k j : Nat} {r : Nat → Nat} {M : Nat → Nat → Int} (hi : bs[i0]? = some (qBo cy r M)) {i x : Int} (hin : i = (j : Int) ∧ j < 11 ∧ k < 11) (hdg : decode cc pc = .ok (.iastore, 1)) (kk : ∀ (H1 : Heap) (locs1 : List Loc), va_P D cl (bs.set i0 (qBo cy r (qu M k (qu (M k) j x)))).flatten H1 → va_D A (bs.set i0 (qBo cy r (qu M k (qu (M k) j x)))).flatten → va_S A H0 H1 locs1 → W p l e R s m args below meth c H1 locs1 cells slots Q (F0 m (pc + 1) ls rest)) : W p l e R s m args below meth c H locs cells slots Q (F0 m pc ls (.int (qI x) :: .int (qI i) :: .ref (r (2 + k)) :: rest)) :=
  qb_iast hx hb hK hP hD hS i0 (2 + k) hi (qBo_row hin.2.2) ⟨hin.1, hin.2.1, by decide⟩ hdg (fun H1 locs1 h1 h2 h3 => by rw [qBo_set hin.2.2] at h1 h2; exact kk H1 locs1 h1 h2 h3)
end QBS
