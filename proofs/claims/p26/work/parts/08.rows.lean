section QRW
variable {p : Program} {l : Launch} {e : Env} {R : Room} {s : State} {m : MethodId} {args : Array Value} {below : List Frame} {meth : Method} {c : Code} {H : Heap} {locs : List Loc} {cells slots : Nat} {Q : State → Prop}
variable {cc : ByteArray} {pc : Nat} {ls : Array Slot} {rest : List Value} {D : va_G} {cl : List vw_C} {A : Nat → Prop} {a : Nat} {ws : va_W} {H0 : Heap} {cy : Nat → ClassId}
theorem q_iconst (hx : p.tables.exec = Jvm.exec) (hb : c.code = cc) {n : Int} (hdg : decode cc pc = .ok (.iconst n, 1)) (k : W p l e R s m args below meth c H locs cells slots Q (F0 m (pc + 1) ls (.int (qI n) :: rest))) : W p l e R s m args below meth c H locs cells slots Q (F0 m pc ls rest) := lv_iconst hx hb hdg rfl k
theorem q_bipush (hx : p.tables.exec = Jvm.exec) (hb : c.code = cc) {n : Int} (hdg : decode cc pc = .ok (.bipush n, 2)) (hv : (Int8.ofInt n).toInt32 = qI n) (k : W p l e R s m args below meth c H locs cells slots Q (F0 m (pc + 2) ls (.int (qI n) :: rest))) : W p l e R s m args below meth c H locs cells slots Q (F0 m pc ls rest) := lv_bipush hx hb hdg hv k
theorem q_sipush (hx : p.tables.exec = Jvm.exec) (hb : c.code = cc) {n : Int} (hdg : decode cc pc = .ok (.sipush n, 3)) (hv : (Int16.ofInt n).toInt32 = qI n) (k : W p l e R s m args below meth c H locs cells slots Q (F0 m (pc + 3) ls (.int (qI n) :: rest))) : W p l e R s m args below meth c H locs cells slots Q (F0 m pc ls rest) := lv_sipush hx hb hdg hv k
theorem q_iadd (hx : p.tables.exec = Jvm.exec) (hb : c.code = cc) {x y : Int} (hdg : decode cc pc = .ok (.iadd, 1)) (k : W p l e R s m args below meth c H locs cells slots Q (F0 m (pc + 1) ls (.int (qI (x + y)) :: rest))) : W p l e R s m args below meth c H locs cells slots Q (F0 m pc ls (.int (qI y) :: .int (qI x) :: rest)) := lv_iadd hx hb hdg (by rw [qI_add]; exact k)
theorem q_isub (hx : p.tables.exec = Jvm.exec) (hb : c.code = cc) {x y : Int} (hdg : decode cc pc = .ok (.isub, 1)) (k : W p l e R s m args below meth c H locs cells slots Q (F0 m (pc + 1) ls (.int (qI (x - y)) :: rest))) : W p l e R s m args below meth c H locs cells slots Q (F0 m pc ls (.int (qI y) :: .int (qI x) :: rest)) := lv_isub hx hb hdg (by rw [qI_sub]; exact k)
theorem q_imul (hx : p.tables.exec = Jvm.exec) (hb : c.code = cc) {x y : Int} (hdg : decode cc pc = .ok (.imul, 1)) (k : W p l e R s m args below meth c H locs cells slots Q (F0 m (pc + 1) ls (.int (qI (x * y)) :: rest))) : W p l e R s m args below meth c H locs cells slots Q (F0 m pc ls (.int (qI y) :: .int (qI x) :: rest)) := lv_imul hx hb hdg (by rw [qI_mul]; exact k)
theorem q_ineg (hx : p.tables.exec = Jvm.exec) (hb : c.code = cc) {x : Int} (hdg : decode cc pc = .ok (.ineg, 1)) (k : W p l e R s m args below meth c H locs cells slots Q (F0 m (pc + 1) ls (.int (qI (-x)) :: rest))) : W p l e R s m args below meth c H locs cells slots Q (F0 m pc ls (.int (qI x) :: rest)) := lv_ineg hx hb hdg (by rw [qI_neg]; exact k)
theorem q_top {v v2 : Value} (h : v = v2) (k : W p l e R s m args below meth c H locs cells slots Q (F0 m pc ls (v2 :: rest))) : W p l e R s m args below meth c H locs cells slots Q (F0 m pc ls (v :: rest)) := by subst h; exact k
theorem q_topZ {x y : Int} (h : x = y) (k : W p l e R s m args below meth c H locs cells slots Q (F0 m pc ls (.int (qI y) :: rest))) : W p l e R s m args below meth c H locs cells slots Q (F0 m pc ls (.int (qI x) :: rest)) := by subst h; exact k
theorem q_iinc (hx : p.tables.exec = Jvm.exec) (hb : c.code = cc) {i nL k : Nat} {n : Int} {x : Int} {lv lv' : List (Nat × Value)} (hdg : decode cc pc = .ok (.iinc i n, 3)) (h : lv_has ls nL lv) (hk : lv[k]? = some (i, .int (qI x))) (hn : i < nL) (hl : (i, Value.int (qI (x + n))) :: lv.filter (fun q => !(q.1 == i) && !(q.1 + 1 == i && q.2.category == 2)) = lv') (kk : ∀ ls' : Array Slot, lv_has ls' nL lv' → W p l e R s m args below meth c H locs cells slots Q (F0 m (pc + 3) ls' rest)) : W p l e R s m args below meth c H locs cells slots Q (F0 m pc ls rest) := lv_iinc hx hb hdg h hk (show qI x + Int32.ofInt n = _ from qI_add x n) hn hl kk
theorem q_icmp_eq (hx : p.tables.exec = Jvm.exec) (hb : c.code = cc) {x y : Int} {off : Int} {tgt : Nat} (hdg : decode cc pc = .ok (.if_icmp .eq off, 3)) (ht : (pc : Int) + off = (tgt : Int)) (hr : (-2147483648 ≤ x ∧ x < 2147483648) ∧ (-2147483648 ≤ y ∧ y < 2147483648)) (kt : x = y → W p l e R s m args below meth c H locs cells slots Q (F0 m tgt ls rest)) (kf : x ≠ y → W p l e R s m args below meth c H locs cells slots Q (F0 m (pc + 3) ls rest)) : W p l e R s m args below meth c H locs cells slots Q (F0 m pc ls (.int (qI y) :: .int (qI x) :: rest)) := by
  have e1 := qI_eq hr
  have e2 := qI_lt hr
  have e3 := qI_le hr
  have e4 := qI_lt hr.symm
  have e5 := qI_le hr.symm
  refine lv_icmp_eq hx hb hdg ht (fun h => kt ?_) (fun h => kf ?_) <;> simp only [e1, e2, e3, e4, e5] at h <;> omega
theorem q_icmp_ne (hx : p.tables.exec = Jvm.exec) (hb : c.code = cc) {x y : Int} {off : Int} {tgt : Nat} (hdg : decode cc pc = .ok (.if_icmp .ne off, 3)) (ht : (pc : Int) + off = (tgt : Int)) (hr : (-2147483648 ≤ x ∧ x < 2147483648) ∧ (-2147483648 ≤ y ∧ y < 2147483648)) (kt : x ≠ y → W p l e R s m args below meth c H locs cells slots Q (F0 m tgt ls rest)) (kf : x = y → W p l e R s m args below meth c H locs cells slots Q (F0 m (pc + 3) ls rest)) : W p l e R s m args below meth c H locs cells slots Q (F0 m pc ls (.int (qI y) :: .int (qI x) :: rest)) := by
  have e1 := qI_eq hr
  have e2 := qI_lt hr
  have e3 := qI_le hr
  have e4 := qI_lt hr.symm
  have e5 := qI_le hr.symm
  refine lv_icmp_ne hx hb hdg ht (fun h => kt ?_) (fun h => kf ?_) <;> simp only [e1, e2, e3, e4, e5] at h <;> omega
theorem q_icmp_lt (hx : p.tables.exec = Jvm.exec) (hb : c.code = cc) {x y : Int} {off : Int} {tgt : Nat} (hdg : decode cc pc = .ok (.if_icmp .lt off, 3)) (ht : (pc : Int) + off = (tgt : Int)) (hr : (-2147483648 ≤ x ∧ x < 2147483648) ∧ (-2147483648 ≤ y ∧ y < 2147483648)) (kt : x < y → W p l e R s m args below meth c H locs cells slots Q (F0 m tgt ls rest)) (kf : y ≤ x → W p l e R s m args below meth c H locs cells slots Q (F0 m (pc + 3) ls rest)) : W p l e R s m args below meth c H locs cells slots Q (F0 m pc ls (.int (qI y) :: .int (qI x) :: rest)) := by
  have e1 := qI_eq hr
  have e2 := qI_lt hr
  have e3 := qI_le hr
  have e4 := qI_lt hr.symm
  have e5 := qI_le hr.symm
  refine lv_icmp_lt hx hb hdg ht (fun h => kt ?_) (fun h => kf ?_) <;> simp only [e1, e2, e3, e4, e5] at h <;> omega
theorem q_icmp_ge (hx : p.tables.exec = Jvm.exec) (hb : c.code = cc) {x y : Int} {off : Int} {tgt : Nat} (hdg : decode cc pc = .ok (.if_icmp .ge off, 3)) (ht : (pc : Int) + off = (tgt : Int)) (hr : (-2147483648 ≤ x ∧ x < 2147483648) ∧ (-2147483648 ≤ y ∧ y < 2147483648)) (kt : y ≤ x → W p l e R s m args below meth c H locs cells slots Q (F0 m tgt ls rest)) (kf : x < y → W p l e R s m args below meth c H locs cells slots Q (F0 m (pc + 3) ls rest)) : W p l e R s m args below meth c H locs cells slots Q (F0 m pc ls (.int (qI y) :: .int (qI x) :: rest)) := by
  have e1 := qI_eq hr
  have e2 := qI_lt hr
  have e3 := qI_le hr
  have e4 := qI_lt hr.symm
  have e5 := qI_le hr.symm
  refine lv_icmp_ge hx hb hdg ht (fun h => kt ?_) (fun h => kf ?_) <;> simp only [e1, e2, e3, e4, e5] at h <;> omega
theorem q_icmp_gt (hx : p.tables.exec = Jvm.exec) (hb : c.code = cc) {x y : Int} {off : Int} {tgt : Nat} (hdg : decode cc pc = .ok (.if_icmp .gt off, 3)) (ht : (pc : Int) + off = (tgt : Int)) (hr : (-2147483648 ≤ x ∧ x < 2147483648) ∧ (-2147483648 ≤ y ∧ y < 2147483648)) (kt : y < x → W p l e R s m args below meth c H locs cells slots Q (F0 m tgt ls rest)) (kf : x ≤ y → W p l e R s m args below meth c H locs cells slots Q (F0 m (pc + 3) ls rest)) : W p l e R s m args below meth c H locs cells slots Q (F0 m pc ls (.int (qI y) :: .int (qI x) :: rest)) := by
  have e1 := qI_eq hr
  have e2 := qI_lt hr
  have e3 := qI_le hr
  have e4 := qI_lt hr.symm
  have e5 := qI_le hr.symm
  refine lv_icmp_gt hx hb hdg ht (fun h => kt ?_) (fun h => kf ?_) <;> simp only [e1, e2, e3, e4, e5] at h <;> omega
theorem q_icmp_le (hx : p.tables.exec = Jvm.exec) (hb : c.code = cc) {x y : Int} {off : Int} {tgt : Nat} (hdg : decode cc pc = .ok (.if_icmp .le off, 3)) (ht : (pc : Int) + off = (tgt : Int)) (hr : (-2147483648 ≤ x ∧ x < 2147483648) ∧ (-2147483648 ≤ y ∧ y < 2147483648)) (kt : x ≤ y → W p l e R s m args below meth c H locs cells slots Q (F0 m tgt ls rest)) (kf : y < x → W p l e R s m args below meth c H locs cells slots Q (F0 m (pc + 3) ls rest)) : W p l e R s m args below meth c H locs cells slots Q (F0 m pc ls (.int (qI y) :: .int (qI x) :: rest)) := by
  have e1 := qI_eq hr
  have e2 := qI_lt hr
  have e3 := qI_le hr
  have e4 := qI_lt hr.symm
  have e5 := qI_le hr.symm
  refine lv_icmp_le hx hb hdg ht (fun h => kt ?_) (fun h => kf ?_) <;> simp only [e1, e2, e3, e4, e5] at h <;> omega
theorem q_if_eq (hx : p.tables.exec = Jvm.exec) (hb : c.code = cc) {x : Int} {off : Int} {tgt : Nat} (hdg : decode cc pc = .ok (.ifCond .eq off, 3)) (ht : (pc : Int) + off = (tgt : Int)) (hr : -2147483648 ≤ x ∧ x < 2147483648) (kt : x = 0 → W p l e R s m args below meth c H locs cells slots Q (F0 m tgt ls rest)) (kf : x ≠ 0 → W p l e R s m args below meth c H locs cells slots Q (F0 m (pc + 3) ls rest)) : W p l e R s m args below meth c H locs cells slots Q (F0 m pc ls (.int (qI x) :: rest)) := by
  have h0 : (0 : Int32) = qI 0 := rfl
  have hr2 : (-2147483648 ≤ x ∧ x < 2147483648) ∧ (-2147483648 ≤ (0 : Int) ∧ (0 : Int) < 2147483648) := ⟨hr, by decide⟩
  have e1 := qI_eq hr2
  have e2 := qI_lt hr2
  have e3 := qI_le hr2
  have e4 := qI_lt hr2.symm
  have e5 := qI_le hr2.symm
  refine lv_if_eq hx hb hdg ht (fun h => kt ?_) (fun h => kf ?_) <;> rw [h0] at h <;> simp only [e1, e2, e3, e4, e5] at h <;> omega
theorem q_if_ne (hx : p.tables.exec = Jvm.exec) (hb : c.code = cc) {x : Int} {off : Int} {tgt : Nat} (hdg : decode cc pc = .ok (.ifCond .ne off, 3)) (ht : (pc : Int) + off = (tgt : Int)) (hr : -2147483648 ≤ x ∧ x < 2147483648) (kt : x ≠ 0 → W p l e R s m args below meth c H locs cells slots Q (F0 m tgt ls rest)) (kf : x = 0 → W p l e R s m args below meth c H locs cells slots Q (F0 m (pc + 3) ls rest)) : W p l e R s m args below meth c H locs cells slots Q (F0 m pc ls (.int (qI x) :: rest)) := by
  have h0 : (0 : Int32) = qI 0 := rfl
  have hr2 : (-2147483648 ≤ x ∧ x < 2147483648) ∧ (-2147483648 ≤ (0 : Int) ∧ (0 : Int) < 2147483648) := ⟨hr, by decide⟩
  have e1 := qI_eq hr2
  have e2 := qI_lt hr2
  have e3 := qI_le hr2
  have e4 := qI_lt hr2.symm
  have e5 := qI_le hr2.symm
  refine lv_if_ne hx hb hdg ht (fun h => kt ?_) (fun h => kf ?_) <;> rw [h0] at h <;> simp only [e1, e2, e3, e4, e5] at h <;> omega
theorem q_if_lt (hx : p.tables.exec = Jvm.exec) (hb : c.code = cc) {x : Int} {off : Int} {tgt : Nat} (hdg : decode cc pc = .ok (.ifCond .lt off, 3)) (ht : (pc : Int) + off = (tgt : Int)) (hr : -2147483648 ≤ x ∧ x < 2147483648) (kt : x < 0 → W p l e R s m args below meth c H locs cells slots Q (F0 m tgt ls rest)) (kf : 0 ≤ x → W p l e R s m args below meth c H locs cells slots Q (F0 m (pc + 3) ls rest)) : W p l e R s m args below meth c H locs cells slots Q (F0 m pc ls (.int (qI x) :: rest)) := by
  have h0 : (0 : Int32) = qI 0 := rfl
  have hr2 : (-2147483648 ≤ x ∧ x < 2147483648) ∧ (-2147483648 ≤ (0 : Int) ∧ (0 : Int) < 2147483648) := ⟨hr, by decide⟩
  have e1 := qI_eq hr2
  have e2 := qI_lt hr2
  have e3 := qI_le hr2
  have e4 := qI_lt hr2.symm
  have e5 := qI_le hr2.symm
  refine lv_if_lt hx hb hdg ht (fun h => kt ?_) (fun h => kf ?_) <;> rw [h0] at h <;> simp only [e1, e2, e3, e4, e5] at h <;> omega
theorem q_if_ge (hx : p.tables.exec = Jvm.exec) (hb : c.code = cc) {x : Int} {off : Int} {tgt : Nat} (hdg : decode cc pc = .ok (.ifCond .ge off, 3)) (ht : (pc : Int) + off = (tgt : Int)) (hr : -2147483648 ≤ x ∧ x < 2147483648) (kt : 0 ≤ x → W p l e R s m args below meth c H locs cells slots Q (F0 m tgt ls rest)) (kf : x < 0 → W p l e R s m args below meth c H locs cells slots Q (F0 m (pc + 3) ls rest)) : W p l e R s m args below meth c H locs cells slots Q (F0 m pc ls (.int (qI x) :: rest)) := by
  have h0 : (0 : Int32) = qI 0 := rfl
  have hr2 : (-2147483648 ≤ x ∧ x < 2147483648) ∧ (-2147483648 ≤ (0 : Int) ∧ (0 : Int) < 2147483648) := ⟨hr, by decide⟩
  have e1 := qI_eq hr2
  have e2 := qI_lt hr2
  have e3 := qI_le hr2
  have e4 := qI_lt hr2.symm
  have e5 := qI_le hr2.symm
  refine lv_if_ge hx hb hdg ht (fun h => kt ?_) (fun h => kf ?_) <;> rw [h0] at h <;> simp only [e1, e2, e3, e4, e5] at h <;> omega
theorem q_if_gt (hx : p.tables.exec = Jvm.exec) (hb : c.code = cc) {x : Int} {off : Int} {tgt : Nat} (hdg : decode cc pc = .ok (.ifCond .gt off, 3)) (ht : (pc : Int) + off = (tgt : Int)) (hr : -2147483648 ≤ x ∧ x < 2147483648) (kt : 0 < x → W p l e R s m args below meth c H locs cells slots Q (F0 m tgt ls rest)) (kf : x ≤ 0 → W p l e R s m args below meth c H locs cells slots Q (F0 m (pc + 3) ls rest)) : W p l e R s m args below meth c H locs cells slots Q (F0 m pc ls (.int (qI x) :: rest)) := by
  have h0 : (0 : Int32) = qI 0 := rfl
  have hr2 : (-2147483648 ≤ x ∧ x < 2147483648) ∧ (-2147483648 ≤ (0 : Int) ∧ (0 : Int) < 2147483648) := ⟨hr, by decide⟩
  have e1 := qI_eq hr2
  have e2 := qI_lt hr2
  have e3 := qI_le hr2
  have e4 := qI_lt hr2.symm
  have e5 := qI_le hr2.symm
  refine lv_if_gt hx hb hdg ht (fun h => kt ?_) (fun h => kf ?_) <;> rw [h0] at h <;> simp only [e1, e2, e3, e4, e5] at h <;> omega
theorem q_if_le (hx : p.tables.exec = Jvm.exec) (hb : c.code = cc) {x : Int} {off : Int} {tgt : Nat} (hdg : decode cc pc = .ok (.ifCond .le off, 3)) (ht : (pc : Int) + off = (tgt : Int)) (hr : -2147483648 ≤ x ∧ x < 2147483648) (kt : x ≤ 0 → W p l e R s m args below meth c H locs cells slots Q (F0 m tgt ls rest)) (kf : 0 < x → W p l e R s m args below meth c H locs cells slots Q (F0 m (pc + 3) ls rest)) : W p l e R s m args below meth c H locs cells slots Q (F0 m pc ls (.int (qI x) :: rest)) := by
  have h0 : (0 : Int32) = qI 0 := rfl
  have hr2 : (-2147483648 ≤ x ∧ x < 2147483648) ∧ (-2147483648 ≤ (0 : Int) ∧ (0 : Int) < 2147483648) := ⟨hr, by decide⟩
  have e1 := qI_eq hr2
  have e2 := qI_lt hr2
  have e3 := qI_le hr2
  have e4 := qI_lt hr2.symm
  have e5 := qI_le hr2.symm
  refine lv_if_le hx hb hdg ht (fun h => kt ?_) (fun h => kf ?_) <;> rw [h0] at h <;> simp only [e1, e2, e3, e4, e5] at h <;> omega
theorem q_ifz_eq (hx : p.tables.exec = Jvm.exec) (hb : c.code = cc) {b : Bool} {off : Int} {tgt : Nat} (hdg : decode cc pc = .ok (.ifCond .eq off, 3)) (ht : (pc : Int) + off = (tgt : Int)) (kt : b = false → W p l e R s m args below meth c H locs cells slots Q (F0 m tgt ls rest)) (kf : b = true → W p l e R s m args below meth c H locs cells slots Q (F0 m (pc + 3) ls rest)) : W p l e R s m args below meth c H locs cells slots Q (F0 m pc ls (.int (qz b) :: rest)) := by
  refine lv_if_eq hx hb hdg ht (fun h => kt ((qz_eq0 b).mp h)) (fun h => kf ?_)
  rw [qz_eq0] at h
  simpa using h
theorem q_ifz_ne (hx : p.tables.exec = Jvm.exec) (hb : c.code = cc) {b : Bool} {off : Int} {tgt : Nat} (hdg : decode cc pc = .ok (.ifCond .ne off, 3)) (ht : (pc : Int) + off = (tgt : Int)) (kt : b = true → W p l e R s m args below meth c H locs cells slots Q (F0 m tgt ls rest)) (kf : b = false → W p l e R s m args below meth c H locs cells slots Q (F0 m (pc + 3) ls rest)) : W p l e R s m args below meth c H locs cells slots Q (F0 m pc ls (.int (qz b) :: rest)) := by
  refine lv_if_ne hx hb hdg ht (fun h => kt ?_) (fun h => kf ?_)
  · rw [qz_eq0] at h
    simpa using h
  · exact (qz_eq0 b).mp (by first | exact h | exact Classical.byContradiction h)
theorem q_bool {n : Int} {b : Bool} (h : qI n = qz b) (k : W p l e R s m args below meth c H locs cells slots Q (F0 m pc ls (.int (qz b) :: rest))) : W p l e R s m args below meth c H locs cells slots Q (F0 m pc ls (.int (qI n) :: rest)) := by rw [h]; exact k
theorem q_iald (hx : p.tables.exec = Jvm.exec) (hb : c.code = cc) (hK : va_K D cl (qT cy) s) (hP : va_P D cl ws H) (q0 : Nat) {n j : Nat} {g : Nat → Int} (ha : ws[q0]? = some (a, .inl (cy 0, n, .inl (qA g)))) {i : Int} (hin : i = (j : Int) ∧ j < n ∧ n < 2147483648) (hdg : decode cc pc = .ok (.iaload, 1)) (kk : W p l e R s m args below meth c H locs cells slots Q (F0 m (pc + 1) ls (.int (qI (g j)) :: rest))) : W p l e R s m args below meth c H locs cells slots Q (F0 m pc ls (.int (qI i) :: .ref a :: rest)) :=
  va_iald hx hb hK hP q0 0 ha rfl (qI_in hin) hdg (by rw [qI_cl ⟨hin.1, by omega⟩]; exact kk)
theorem q_iast (hx : p.tables.exec = Jvm.exec) (hb : c.code = cc) (hK : va_K D cl (qT cy) s) (hP : va_P D cl ws H) (hD : va_D A ws) (hS : va_S A H0 H locs) (q0 : Nat) {n j : Nat} {g : Nat → Int} (ha : ws[q0]? = some (a, .inl (cy 0, n, .inl (qA g)))) {i x : Int} (hin : i = (j : Int) ∧ j < n ∧ n < 2147483648) (hdg : decode cc pc = .ok (.iastore, 1)) (kk : ∀ (H1 : Heap) (locs1 : List Loc), va_P D cl (ws.set q0 (a, .inl (cy 0, n, .inl (qA (qu g j x))))) H1 → va_D A (ws.set q0 (a, .inl (cy 0, n, .inl (qA (qu g j x))))) → va_S A H0 H1 locs1 → W p l e R s m args below meth c H1 locs1 cells slots Q (F0 m (pc + 1) ls rest)) : W p l e R s m args below meth c H locs cells slots Q (F0 m pc ls (.int (qI x) :: .int (qI i) :: .ref a :: rest)) :=
  va_iast hx hb hK hP hD hS q0 0 ha rfl (qI_in hin) hdg (fun H1 locs1 h1 h2 h3 => by rw [qI_cl ⟨hin.1, by omega⟩, qA_up] at h1 h2; exact kk H1 locs1 h1 h2 h3)
/-- a place of an array of int arrays -/
theorem q_aald (hx : p.tables.exec = Jvm.exec) (hb : c.code = cc) (hK : va_K D cl (qT cy) s) (hP : va_P D cl ws H) (q0 : Nat) {n j : Nat} {f : Nat → Option Nat} (ha : ws[q0]? = some (a, .inl (cy 2, n, .inr (.inr (.inr (.inr f)))))) {i : Int} (hin : i = (j : Int) ∧ j < n ∧ n < 2147483648) {v : Nat} (hv : f j = some v) (hdg : decode cc pc = .ok (.aaload, 1)) (kk : W p l e R s m args below meth c H locs cells slots Q (F0 m (pc + 1) ls (.ref v :: rest))) : W p l e R s m args below meth c H locs cells slots Q (F0 m pc ls (.int (qI i) :: .ref a :: rest)) := by
  have hlt : (qI i).toNatClampNeg < n := by rw [qI_cl ⟨hin.1, by omega⟩]; omega
  have hin2 := qI_in hin
  refine W.aald (v := va_rf (f (qI i).toNatClampNeg)) (ty := .array .int) hx hb (hP q0 _ ha) ((hK.2 2 _ rfl).1 n (fun j => va_rf (f j))) rfl (fun q => by cases q) (by show ¬ (qI i < 0 ∨ (arrV _ _ _).slots.size ≤ _); rw [arrV_size]; exact hin2) (by show (arrV _ _ _).slots[_]? = _; rw [arrV_read _ _ hlt]) rfl rfl hdg ?_
  rw [qI_cl ⟨hin.1, by omega⟩, hv]
  exact kk
/-- a place of an array of layouts -/
theorem q_lald (hx : p.tables.exec = Jvm.exec) (hb : c.code = cc) (hK : va_K D cl (qT cy) s) (hP : va_P D cl ws H) (q0 : Nat) {n j : Nat} {f : Nat → Option Nat} (ha : ws[q0]? = some (a, .inl (cy 3, n, .inr (.inr (.inr (.inr f)))))) {i : Int} (hin : i = (j : Int) ∧ j < n ∧ n < 2147483648) {v : Nat} (hv : f j = some v) (hdg : decode cc pc = .ok (.aaload, 1)) (kk : W p l e R s m args below meth c H locs cells slots Q (F0 m (pc + 1) ls (.ref v :: rest))) : W p l e R s m args below meth c H locs cells slots Q (F0 m pc ls (.int (qI i) :: .ref a :: rest)) :=
  va_aldq hx hb hK hP q0 3 ha rfl (qI_in hin) hdg (by rw [qI_cl ⟨hin.1, by omega⟩, hv]; exact kk)
/-- many roads to one place: what holds there, first; then the roads -/
theorem q_cont {ι : Type} {Φ : ι → Prop} {Hf : ι → Heap} {lf : ι → List Loc} {gf : ι → JFrame} {g : JFrame} (k : ∀ i, Φ i → W p l e R s m args below meth c (Hf i) (lf i) cells slots Q (gf i)) (b : (∀ i, Φ i → W p l e R s m args below meth c (Hf i) (lf i) cells slots Q (gf i)) → W p l e R s m args below meth c H locs cells slots Q g) : W p l e R s m args below meth c H locs cells slots Q g := b k
end QRW
