theorem q_ldcwf0 {p : Program} {l : Launch} {e : Env} {R : Room} {s : State} {m : MethodId} {args : Array Value} {below : List Frame} {meth : Method} {c : Code} {locs : List Loc} {cells slots : Nat} {T : State} (X : Stand p l e R s m args below meth c T locs cells slots) (hexec : p.tables.exec = Jvm.exec) {index : Nat} {k : Class} {cf : ClassFile} {b : UInt32} (hk : s.vm.classes[m.cls]? = some k) (hcf : k.cf = some cf) (hc : cf.constantPool[index]? = some (.float b)) {g : JFrame} (hg : g.method = m) (hdg : decode c.code g.pc = .ok (.ldc_w index, 3)) :
    ∀ target, Steps p.tables e below (T.setTop { g with pc := g.pc + 3, stack := .float b :: g.stack }) target → Steps p.tables e below (T.setTop g) target := by
  obtain ⟨k', hk', he⟩ := X.warmed.alike.2.2 _ _ hk
  intro target hrest
  subst hg
  jvm_step X.here [hexec, hdg, Op.ldc_w.wp_float (s := T) (f := g) X.here.top hk' (by rw [he]; exact hcf) hc]
  exact hrest
theorem q_ldcwf {p : Program} {l : Launch} {e : Env} {R : Room} {s : State} {m : MethodId} {args : Array Value} {below : List Frame} {meth : Method} {c : Code} {H : Heap} {locs : List Loc} {cells slots : Nat} {Q : State → Prop} {cc : ByteArray} {pc : Nat} {ls : Array Slot} {rest : List Value} (hexec : p.tables.exec = Jvm.exec) (hb : c.code = cc) {own : String} {index : Nat} {v : UInt32} (hown : s.vm.findClass own = some m.cls) (hconst : (Jvm.Cond.constantFloat own index v).before args s = true) (hdg : decode cc pc = .ok (.ldc_w index, 3)) (k : W p l e R s m args below meth c H locs cells slots Q (F0 m (pc + 3) ls (.float v :: rest))) : W p l e R s m args below meth c H locs cells slots Q (F0 m pc ls rest) := by
  intro T hT X
  obtain ⟨t, a, b⟩ := k T hT X
  obtain ⟨k9, cf, hk, hcf, hcp⟩ := Cond.constantFloat_spec hown hconst
  exact ⟨t, q_ldcwf0 X hexec hk hcf hcp (g := F0 m pc ls rest) rfl (by rw [hb]; exact hdg) t a, b⟩
theorem bitL_step {n : Nat} {x : UInt32} {e : Nat} {q : UInt32 × Nat} (h : bitL (n + 1) x e = some q) : (Op.cmpValue (FP.fcmp x 1065353216) .g < 0 ∧ vf_n32 (FP.fmul x 1073741824) ∧ bitL n (FP.fmul x 1073741824) (e - 1) = some q) ∨ (¬ Op.cmpValue (FP.fcmp x 1065353216) .g < 0 ∧ q = (x, e)) := by
  simp only [bitL] at h
  by_cases g : Op.cmpValue (FP.fcmp x 1065353216) .g < 0
  · rw [if_pos g] at h
    by_cases g2 : ok32 (FP.fmul x 1073741824) = true
    · rw [if_pos g2] at h
      exact Or.inl ⟨g, ok32_n g2, h⟩
    · rw [if_neg g2] at h
      cases h
  · rw [if_neg g] at h
    exact Or.inr ⟨g, (Option.some.inj h).symm⟩
theorem bitR_spec {w : Int} {n : Nat} (h : bitR w = some n) : ∃ (x : UInt32) (e : Nat), bitL 20 (frW w) 127 = some (x, e) ∧ vf_n32 (FP.fsub x 1065353216) ∧ vf_n32 (FP.fmul (FP.fsub x 1065353216) 1258291200) ∧ 0 ≤ (FP.f2i (FP.fmul (FP.fsub x 1065353216) 1258291200)).toInt ∧ e * 2 ^ 23 ||| (FP.f2i (FP.fmul (FP.fsub x 1065353216) 1258291200)).toInt.toNat = n := by
  unfold bitR at h
  cases hb : bitL 20 (frW w) 127 with
  | none => rw [hb] at h; cases h
  | some q =>
    obtain ⟨x, e⟩ := q
    rw [hb] at h
    simp only [] at h
    split at h
    · rename_i g
      simp only [Bool.and_eq_true, decide_eq_true_eq] at g
      exact ⟨x, e, rfl, ok32_n g.1.1, ok32_n g.1.2, g.2, Option.some.inj h⟩
    · cases h

theorem hsh_at {g : Nat → Int} {n : Nat} {h y : Int64} {z : Int} (hy : y = hsh g n h) (hz : z = g n) : mx y z = hsh g (n + 1) h := by subst hy; subst hz; rfl
/-- the conditions' part of the hash -/
def hcn (v : Nat → Int) (C : Nat → Nat → Int) (nc : Nat) (E : Nat → Nat → Int) (ne : Nat) : Nat → Int64 → Int64
  | 0, h => h
  | k + 1, h => mx (mx (hsh (fun w => coA v C nc E ne k (w : Int)) 10 (hcn v C nc E ne k h)) (rmA C nc E ne k)) (nsA C nc E ne k)
def plF (v st : Nat → Int) (C : Nat → Nat → Int) (nc : Nat) (E : Nat → Nat → Int) (ne : Nat) (i : Nat) : Int := plA v st C nc E ne (i / 6) ((i % 6 : Nat) : Int)
def edF (C : Nat → Nat → Int) (nc : Nat) (E : Nat → Nat → Int) (ne i : Nat) : Int := edA C nc E ne (i / 5) ((i % 5 : Nat) : Int)
def wdF (C : Nat → Nat → Int) (nc : Nat) (E : Nat → Nat → Int) (ne i : Nat) : Int := fM (fil C nc E ne (-1)) (i / 10) (i % 10)
def dgA (v st : Nat → Int) (C : Nat → Nat → Int) (nc : Nat) (E : Nat → Nat → Int) (ne hz : Nat) (bf : Nat → Int) (len : Nat) : Int64 :=
  hsh bf len (mx (mx (hsh (wdF C nc E ne) 100 (hsh (edF C nc E ne) (5 * ne) (hcn v C nc E ne nc (hsh (plF v st C nc E ne) 60 (hsh (fun w => ctA v C nc E ne hz (w : Int)) 8 2129))))) (((frW (widS C nc E ne 10)).toNat : Nat) : Int)) (len : Int))
