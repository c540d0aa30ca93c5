theorem fl_at {α : Type} {q : Nat} {b : List α} {x : α} : ∀ {bs : List (List α)} {i : Nat}, bs[i]? = some b → b[q]? = some x → bs.flatten[(bs.take i).flatten.length + q]? = some x
  | [], i, hb, _ => by simp at hb
  | a :: bs, 0, hb, hq => by
    rw [List.getElem?_cons_zero] at hb
    cases hb
    simp only [List.take_zero, List.flatten_nil, List.length_nil, Nat.zero_add, List.flatten_cons]
    rw [List.getElem?_append_left (List.getElem?_eq_some_iff.mp hq).1]
    exact hq
  | a :: bs, i + 1, hb, hq => by
    rw [List.getElem?_cons_succ] at hb
    rw [List.take_succ_cons, List.flatten_cons, List.flatten_cons, List.length_append, List.getElem?_append_right (by omega)]
    rw [show a.length + (bs.take i).flatten.length + q - a.length = (bs.take i).flatten.length + q by omega]
    exact fl_at (i := i) hb hq
theorem fl_set {α : Type} {q : Nat} {b : List α} {x : α} : ∀ {bs : List (List α)} {i : Nat}, bs[i]? = some b → q < b.length → bs.flatten.set ((bs.take i).flatten.length + q) x = (bs.set i (b.set q x)).flatten
  | [], i, hb, _ => by simp at hb
  | a :: bs, 0, hb, hq => by
    rw [List.getElem?_cons_zero] at hb
    cases hb
    simp only [List.take_zero, List.flatten_nil, List.length_nil, Nat.zero_add, List.flatten_cons, List.set_cons_zero]
    rw [List.set_append_left _ _ hq]
  | a :: bs, i + 1, hb, hq => by
    rw [List.getElem?_cons_succ] at hb
    rw [List.take_succ_cons, List.flatten_cons, List.flatten_cons, List.length_append, List.set_append_right _ _ (by omega), List.set_cons_succ, List.flatten_cons]
    rw [show a.length + (bs.take i).flatten.length + q - a.length = (bs.take i).flatten.length + q by omega]
    rw [fl_set hb hq]
section QBW
variable {p : Program} {l : Launch} {e : Env} {R : Room} {s : State} {m : MethodId} {args : Array Value} {below : List Frame} {meth : Method} {c : Code} {H : Heap} {locs : List Loc} {cells slots : Nat} {Q : State → Prop}
variable {cc : ByteArray} {pc : Nat} {ls : Array Slot} {rest : List Value} {D : va_G} {cl : List vw_C} {A : Nat → Prop} {a : Nat} {H0 : Heap} {cy : Nat → ClassId} {bs : List va_W} {b : va_W}
/-- what a store left, in blocks -/
theorem fl_put {X : va_W → Prop} {i q : Nat} {x0 x : Nat × va_E} (hb : bs[i]? = some b) (hq : b[q]? = some x0) (h : X (bs.flatten.set ((bs.take i).flatten.length + q) x)) : X (bs.set i (b.set q x)).flatten := by
  rw [fl_set hb (List.getElem?_eq_some_iff.mp hq).1] at h
  exact h
theorem qb_iast (hx : p.tables.exec = Jvm.exec) (hb : c.code = cc) (hK : va_K D cl (qT cy) s) (hP : va_P D cl bs.flatten H) (hD : va_D A bs.flatten) (hS : va_S A H0 H locs) (i0 q0 : Nat) {n j : Nat} {g : Nat → Int} (hi : bs[i0]? = some b) (ha : b[q0]? = some (a, .inl (cy 0, n, .inl (qA g)))) {i x : Int} (hin : i = (j : Int) ∧ j < n ∧ n < 2147483648) (hdg : decode cc pc = .ok (.iastore, 1)) (kk : ∀ (H1 : Heap) (locs1 : List Loc), va_P D cl (bs.set i0 (b.set q0 (a, .inl (cy 0, n, .inl (qA (qu g j x)))))).flatten H1 → va_D A (bs.set i0 (b.set q0 (a, .inl (cy 0, n, .inl (qA (qu g j x)))))).flatten → va_S A H0 H1 locs1 → W p l e R s m args below meth c H1 locs1 cells slots Q (F0 m (pc + 1) ls rest)) : W p l e R s m args below meth c H locs cells slots Q (F0 m pc ls (.int (qI x) :: .int (qI i) :: .ref a :: rest)) :=
  q_iast hx hb hK hP hD hS _ (fl_at hi ha) hin hdg (fun H1 locs1 h1 h2 h3 => kk H1 locs1 (fl_put (X := fun w => va_P D cl w H1) hi ha h1) (fl_put (X := fun w => va_D A w) hi ha h2) h3)
theorem q_tableIn (hx : p.tables.exec = Jvm.exec) (hb : c.code = cc) {dflt lo hi : Int} {offs : Array Int} {len : Nat} {x : Int} (v : Int) (hv : x = v) {off : Int} {tgt : Nat} (hdg : decode cc pc = .ok (.tableswitch dflt lo hi offs, len)) (hr : (-2147483648 ≤ v ∧ v < 2147483648) ∧ ¬ v < lo ∧ ¬ hi < v ∧ offs[(v - lo).toNat]? = some off ∧ (pc : Int) + off = (tgt : Int)) (k : W p l e R s m args below meth c H locs cells slots Q (F0 m tgt ls rest)) : W p l e R s m args below meth c H locs cells slots Q (F0 m pc ls (.int (qI x) :: rest)) := by
  subst hv
  obtain ⟨h0, h1, h2, h3, h4⟩ := hr
  exact lv_tableIn hx hb hdg (by rw [qI_toInt h0]; exact h1) (by rw [qI_toInt h0]; exact h2) (by rw [qI_toInt h0]; exact h3) h4 k
theorem q_tableOut (hx : p.tables.exec = Jvm.exec) (hb : c.code = cc) {dflt lo hi : Int} {offs : Array Int} {len : Nat} {x : Int} {tgt : Nat} (hdg : decode cc pc = .ok (.tableswitch dflt lo hi offs, len)) (ht : (pc : Int) + dflt = (tgt : Int)) (h0 : (-2147483648 ≤ x ∧ x < 2147483648) ∧ (x < lo ∨ hi < x)) (k : W p l e R s m args below meth c H locs cells slots Q (F0 m tgt ls rest)) : W p l e R s m args below meth c H locs cells slots Q (F0 m pc ls (.int (qI x) :: rest)) :=
  lv_tableOut hx hb hdg (by rw [qI_toInt h0.1]; exact h0.2) ht k
end QBW
/-! ===== the class's own blocks ===== -/
abbrev aI (cy : Nat → ClassId) (n : Nat) (g : Nat → Int) : va_E := .inl (cy 0, n, .inl (qA g))
abbrev aZ (cy : Nat → ClassId) (n : Nat) (g : Nat → Bool) : va_E := .inl (cy 1, n, .inl (qZ g))
/-- Rules: left, right, sign, number, strength, size -/
def qRu (cy : Nat → ClassId) (r : Nat → Nat) (G : Nat → Nat → Int) (n : Int) : va_W := [(r 0, .inr (5, [.ref (r 1), .ref (r 2), .ref (r 3), .ref (r 4), .ref (r 5), .int (qI n)])), (r 1, aI cy 16 (G 0)), (r 2, aI cy 16 (G 1)), (r 3, aI cy 16 (G 2)), (r 4, aI cy 16 (G 3)), (r 5, aI cy 16 (G 4))]
/-- Outcome: filled, margin, turn -/
def qOu (cy : Nat → ClassId) (r : Nat → Nat) (f : Int) (mg tn : Nat → Int) : va_W := [(r 0, .inr (4, [.int (qI f), .ref (r 1), .ref (r 2)])), (r 1, aI cy 16 mg), (r 2, aI cy 16 tn)]
/-- Bounds: the outer array, and its rows -/
def qBo (cy : Nat → ClassId) (r : Nat → Nat) (M : Nat → Nat → Int) : va_W := [(r 0, .inr (0, [.ref (r 1)])), (r 1, .inl (cy 2, 11, .inr (.inr (.inr (.inr (fun i => if i < 11 then some (r (2 + i)) else none))))))] ++ (List.range 11).map (fun i => (r (2 + i), aI cy 11 (M i)))
theorem qBo_row {cy : Nat → ClassId} {r : Nat → Nat} {M : Nat → Nat → Int} {i : Nat} (h : i < 11) : (qBo cy r M)[2 + i]? = some (r (2 + i), aI cy 11 (M i)) := by
  unfold qBo
  rw [List.getElem?_append_right (by simp)]
  simp [h]
theorem qBo_set {cy : Nat → ClassId} {r : Nat → Nat} {M : Nat → Nat → Int} {i : Nat} (h : i < 11) (g : Nat → Int) : (qBo cy r M).set (2 + i) (r (2 + i), aI cy 11 g) = qBo cy r (qu M i g) := by
  unfold qBo
  rw [List.set_append_right _ _ (by simp)]
  congr 1
  apply List.ext_getElem?
  intro k
  simp only [List.length_cons, List.length_nil, show 2 + i - (0 + 1 + 1) = i by omega]
  rw [List.getElem?_set]
  by_cases hk : i = k
  · subst hk
    simp [h, qu]
  · rcases Nat.lt_or_ge k 11 with h11 | h11
    · simp [h11, hk, qu, Ne.symm hk]
    · simp [hk, Nat.not_lt.mpr h11]
section QBS
variable {p : Program} {l : Launch} {e : Env} {R : Room} {s : State} {m : MethodId} {args : Array Value} {below : List Frame} {meth : Method} {c : Code} {H : Heap} {locs : List Loc} {cells slots : Nat} {Q : State → Prop}
variable {cc : ByteArray} {pc : Nat} {ls : Array Slot} {rest : List Value} {D : va_G} {cl : List vw_C} {A : Nat → Prop} {H0 : Heap} {cy : Nat → ClassId} {bs : List va_W}
theorem qb_iastB (hx : p.tables.exec = Jvm.exec) (hb : c.code = cc) (hK : va_K D cl (qT cy) s) (hP : va_P D cl bs.flatten H) (hD : va_D A bs.flatten) (hS : va_S A H0 H locs) (i0 : Nat) {k j : Nat} {r : Nat → Nat} {M : Nat → Nat → Int} (hi : bs[i0]? = some (qBo cy r M)) {i x : Int} (hin : i = (j : Int) ∧ j < 11 ∧ k < 11) (hdg : decode cc pc = .ok (.iastore, 1)) (kk : ∀ (H1 : Heap) (locs1 : List Loc), va_P D cl (bs.set i0 (qBo cy r (qu M k (qu (M k) j x)))).flatten H1 → va_D A (bs.set i0 (qBo cy r (qu M k (qu (M k) j x)))).flatten → va_S A H0 H1 locs1 → W p l e R s m args below meth c H1 locs1 cells slots Q (F0 m (pc + 1) ls rest)) : W p l e R s m args below meth c H locs cells slots Q (F0 m pc ls (.int (qI x) :: .int (qI i) :: .ref (r (2 + k)) :: rest)) :=
  qb_iast hx hb hK hP hD hS i0 (2 + k) hi (qBo_row hin.2.2) ⟨hin.1, hin.2.1, by decide⟩ hdg (fun H1 locs1 h1 h2 h3 => by rw [qBo_set hin.2.2] at h1 h2; exact kk H1 locs1 h1 h2 h3)
end QBS
/-! ===== bits, quotients ===== -/
theorem qN (n : Nat) : qI (n : Int) = nI n := (qI_nat n).symm
theorem q_sl : ∀ n, n < 32 → ((nI n &&& 31).toBitVec.smod 32).toNat = n := by decide +kernel
theorem q_su : ∀ n, n < 32 → (((nI n).toUInt32 &&& Int32.toUInt32 31).toBitVec % 32).toNat = n := by decide +kernel
theorem qI_shr {F k : Nat} (hF : F < 2147483648) (hk : k < 32) : qI (F : Int) >>> (qI (k : Int) &&& 31) = qI ((F / 2 ^ k : Nat) : Int) := by
  rw [qN, qN, qN, pk_shrN (by omega) _ k (q_sl k hk)]
theorem qI_shl {F k : Nat} (hF : F * 2 ^ k < 4294967296) (hk : k < 32) : qI (F : Int) <<< (qI (k : Int) &&& 31) = qI ((F * 2 ^ k : Nat) : Int) := by
  rw [qN, qN, qN, pk_shlN _ k (q_sl k hk) (by omega)]
theorem qI_ushr {F k : Nat} (hF : F < 4294967296) (hk : k < 32) : ((qI (F : Int)).toUInt32 >>> ((qI (k : Int)).toUInt32 &&& Int32.toUInt32 31)).toInt32 = qI ((F / 2 ^ k : Nat) : Int) := by
  rw [qN, qN, qN, pk_ushrN (by omega) _ k (q_su k hk)]
theorem qI_or (a b : Nat) : qI (a : Int) ||| qI (b : Int) = qI ((a ||| b : Nat) : Int) := by
  rw [qN, qN, qN]
  apply Int32.toBitVec_inj.1
  show BitVec.ofNat 32 a ||| BitVec.ofNat 32 b = BitVec.ofNat 32 (a ||| b)
  apply BitVec.eq_of_getLsbD_eq
  intro i hi
  simp [hi]
theorem qI_and (a b : Nat) : qI (a : Int) &&& qI (b : Int) = qI ((a &&& b : Nat) : Int) := by
  rw [qN, qN, qN]
  apply Int32.toBitVec_inj.1
  show BitVec.ofNat 32 a &&& BitVec.ofNat 32 b = BitVec.ofNat 32 (a &&& b)
  apply BitVec.eq_of_getLsbD_eq
  intro i hi
  simp [hi]
section QBT
variable {p : Program} {l : Launch} {e : Env} {R : Room} {s : State} {m : MethodId} {args : Array Value} {below : List Frame} {meth : Method} {c : Code} {H : Heap} {locs : List Loc} {cells slots : Nat} {Q : State → Prop}
variable {cc : ByteArray} {pc : Nat} {ls : Array Slot} {rest : List Value}
theorem q_ishr (hx : p.tables.exec = Jvm.exec) (hb : c.code = cc) {x y : Int} {F k : Nat} (h : x = (F : Int) ∧ F < 2147483648 ∧ y = (k : Int) ∧ k < 32) (hdg : decode cc pc = .ok (.ishr, 1)) (kk : W p l e R s m args below meth c H locs cells slots Q (F0 m (pc + 1) ls (.int (qI ((F / 2 ^ k : Nat) : Int)) :: rest))) : W p l e R s m args below meth c H locs cells slots Q (F0 m pc ls (.int (qI y) :: .int (qI x) :: rest)) := by
  obtain ⟨rfl, h1, rfl, h2⟩ := h
  exact lv_ishr hx hb hdg (by rw [qI_shr h1 h2]; exact kk)
theorem q_ishl (hx : p.tables.exec = Jvm.exec) (hb : c.code = cc) {x y : Int} {F k : Nat} (h : x = (F : Int) ∧ y = (k : Int) ∧ k < 32) (h2 : F * 2 ^ k < 4294967296) (hdg : decode cc pc = .ok (.ishl, 1)) (kk : W p l e R s m args below meth c H locs cells slots Q (F0 m (pc + 1) ls (.int (qI ((F * 2 ^ k : Nat) : Int)) :: rest))) : W p l e R s m args below meth c H locs cells slots Q (F0 m pc ls (.int (qI y) :: .int (qI x) :: rest)) := by
  obtain ⟨rfl, rfl, h3⟩ := h
  exact lv_ishl hx hb hdg (by rw [qI_shl h2 h3]; exact kk)
theorem q_iushr (hx : p.tables.exec = Jvm.exec) (hb : c.code = cc) {x y : Int} {F k : Nat} (h : x = (F : Int) ∧ F < 4294967296 ∧ y = (k : Int) ∧ k < 32) (hdg : decode cc pc = .ok (.iushr, 1)) (kk : W p l e R s m args below meth c H locs cells slots Q (F0 m (pc + 1) ls (.int (qI ((F / 2 ^ k : Nat) : Int)) :: rest))) : W p l e R s m args below meth c H locs cells slots Q (F0 m pc ls (.int (qI y) :: .int (qI x) :: rest)) := by
  obtain ⟨rfl, h1, rfl, h2⟩ := h
  exact lv_iushr hx hb hdg (qI_ushr h1 h2) kk
theorem q_ior (hx : p.tables.exec = Jvm.exec) (hb : c.code = cc) {x y : Int} {F k : Nat} (h : x = (F : Int) ∧ y = (k : Int)) (hdg : decode cc pc = .ok (.ior, 1)) (kk : W p l e R s m args below meth c H locs cells slots Q (F0 m (pc + 1) ls (.int (qI ((F ||| k : Nat) : Int)) :: rest))) : W p l e R s m args below meth c H locs cells slots Q (F0 m pc ls (.int (qI y) :: .int (qI x) :: rest)) := by
  obtain ⟨rfl, rfl⟩ := h
  exact lv_ior hx hb hdg (by rw [qI_or]; exact kk)
theorem q_iand (hx : p.tables.exec = Jvm.exec) (hb : c.code = cc) {x y : Int} {F k : Nat} (h : x = (F : Int) ∧ y = (k : Int)) (hdg : decode cc pc = .ok (.iand, 1)) (kk : W p l e R s m args below meth c H locs cells slots Q (F0 m (pc + 1) ls (.int (qI ((F &&& k : Nat) : Int)) :: rest))) : W p l e R s m args below meth c H locs cells slots Q (F0 m pc ls (.int (qI y) :: .int (qI x) :: rest)) := by
  obtain ⟨rfl, rfl⟩ := h
  exact lv_iand hx hb hdg (by rw [qI_and]; exact kk)
theorem q_idiv (hx : p.tables.exec = Jvm.exec) (hb : c.code = cc) {x y : Int} {F k : Nat} (h : x = (F : Int) ∧ F < 2147483648 ∧ y = (k : Int) ∧ 0 < k ∧ k < 2147483648) (hdg : decode cc pc = .ok (.idiv, 1)) (kk : W p l e R s m args below meth c H locs cells slots Q (F0 m (pc + 1) ls (.int (qI ((F / k : Nat) : Int)) :: rest))) : W p l e R s m args below meth c H locs cells slots Q (F0 m pc ls (.int (qI y) :: .int (qI x) :: rest)) := by
  obtain ⟨rfl, h1, rfl, h2, h3⟩ := h
  refine lv_idiv hx hb hdg ?_ ?_
  · rw [qN]
    exact nI_ne0 h2 (by omega)
  · rw [qN, qN, pk_div (by omega) h2 (by omega), ← qN]
    exact kk
theorem q_irem (hx : p.tables.exec = Jvm.exec) (hb : c.code = cc) {x y : Int} {F k : Nat} (h : x = (F : Int) ∧ F < 2147483648 ∧ y = (k : Int) ∧ 0 < k ∧ k < 2147483648) (hdg : decode cc pc = .ok (.irem, 1)) (kk : W p l e R s m args below meth c H locs cells slots Q (F0 m (pc + 1) ls (.int (qI ((F % k : Nat) : Int)) :: rest))) : W p l e R s m args below meth c H locs cells slots Q (F0 m pc ls (.int (qI y) :: .int (qI x) :: rest)) := by
  obtain ⟨rfl, h1, rfl, h2, h3⟩ := h
  refine lv_irem hx hb hdg ?_ ?_
  · rw [qN]
    exact nI_ne0 h2 (by omega)
  · rw [qN, qN, pk_rem (by omega) h2 (by omega), ← qN]
    exact kk
theorem q_lookup (hx : p.tables.exec = Jvm.exec) (hb : c.code = cc) {dflt : Int} {ps : Array (Int × Int)} {len : Nat} {x : Int} (v : Int) (hv : x = v) {off : Int} {tgt : Nat} (hdg : decode cc pc = .ok (.lookupswitch dflt ps, len)) (hr : (-2147483648 ≤ v ∧ v < 2147483648) ∧ (ps.toList.zip (ps.toList.drop 1)).all (fun (a, next) => a.1 < next.1) = true ∧ Op.lookupswitch.offset ps.toList dflt v = off ∧ (pc : Int) + off = (tgt : Int)) (k : W p l e R s m args below meth c H locs cells slots Q (F0 m tgt ls rest)) : W p l e R s m args below meth c H locs cells slots Q (F0 m pc ls (.int (qI x) :: rest)) := by
  subst hv
  obtain ⟨h0, h1, h2, h3⟩ := hr
  exact lv_lookup hx hb hdg h1 (by rw [qI_toInt h0]; exact h2) h3 k
end QBT
/-! ===== rules, as numbers ===== -/
def row5 (v0 v1 v2 v3 v4 : Int) : Nat → Int := fun f => match f with | 0 => v0 | 1 => v1 | 2 => v2 | 3 => v3 | _ => v4
/-- n rows in range -/
def qWR (G : Nat → Nat → Int) (n : Nat) : Prop := ∀ i, i < n → (0 ≤ G 0 i ∧ G 0 i ≤ 9) ∧ (-1 ≤ G 1 i ∧ G 1 i ≤ 9) ∧ (0 ≤ G 2 i ∧ G 2 i ≤ 2) ∧ (-2000 ≤ G 3 i ∧ G 3 i ≤ 2000) ∧ (0 ≤ G 4 i ∧ G 4 i ≤ 3) ∧ G 0 i ≠ G 1 i
def chP (sg n lo hi : Int) : Prop := (sg = 2 ∨ lo ≤ n) ∧ (sg = 0 ∨ n ≤ hi)
def narV (sg n lo hi : Int) : Int := if sg = 0 then (if n < hi then hi - n else 0) else if sg = 1 then hi - lo else (if lo < n then n - lo else 0)
def misV (n lo hi : Int) : Int := if n < lo then lo - n else hi - n
def cnt (p : Nat → Bool) : Nat → Nat
  | 0 => 0
  | n + 1 => cnt p n + if p n then 1 else 0
theorem cnt_le (p : Nat → Bool) : ∀ n, cnt p n ≤ n
  | 0 => Nat.le_refl 0
  | n + 1 => by
    have h := cnt_le p n
    simp only [cnt]
    split <;> omega
