/-! ===== bits that are set ===== -/
def pc1 (F : Nat) : Nat := F - (F / 2 ^ 1 &&& 1431655765)
def pc2 (a : Nat) : Nat := (a &&& 858993459) + (a / 2 ^ 2 &&& 858993459)
def pc3 (a : Nat) : Nat := (a + a / 2 ^ 4) &&& 252645135
def pc4 (a : Nat) : Nat := a + a / 2 ^ 8
def pc5 (a : Nat) : Nat := a + a / 2 ^ 16
def pcF (F : Nat) : Nat := pc5 (pc4 (pc3 (pc2 (pc1 F)))) &&& 63
def ppN : Nat → Nat → Nat
  | 0, _ => 0
  | n + 1, F => F % 2 + ppN n (F / 2)
theorem ppN_cnt : ∀ n F : Nat, ppN n F = cnt F.testBit n
  | 0, _ => rfl
  | n + 1, F => by
    have key : ∀ m, cnt F.testBit (m + 1) = F % 2 + cnt (F / 2).testBit m := by
      intro m
      induction m with
      | zero =>
        simp only [cnt, Nat.testBit_zero]
        rcases Nat.mod_two_eq_zero_or_one F with h | h <;> simp [h]
      | succ m ih =>
        rw [show cnt F.testBit (m + 1 + 1) = cnt F.testBit (m + 1) + if F.testBit (m + 1) = true then 1 else 0 from rfl, ih, Nat.testBit_succ]
        show _ = F % 2 + (cnt (F / 2).testBit m + if (F / 2).testBit m = true then 1 else 0)
        omega
    rw [key n, ← ppN_cnt n (F / 2)]
    rfl
set_option maxRecDepth 100000 in
theorem pc_t0 : (List.range 16).all (fun a => (List.range 256).all (fun b => pcF (256 * (0 + a) + b) == ppN 16 (256 * (0 + a) + b))) = true := by decide +kernel
set_option maxRecDepth 100000 in
theorem pc_t1 : (List.range 16).all (fun a => (List.range 256).all (fun b => pcF (256 * (16 + a) + b) == ppN 16 (256 * (16 + a) + b))) = true := by decide +kernel
set_option maxRecDepth 100000 in
theorem pc_t2 : (List.range 16).all (fun a => (List.range 256).all (fun b => pcF (256 * (32 + a) + b) == ppN 16 (256 * (32 + a) + b))) = true := by decide +kernel
set_option maxRecDepth 100000 in
theorem pc_t3 : (List.range 16).all (fun a => (List.range 256).all (fun b => pcF (256 * (48 + a) + b) == ppN 16 (256 * (48 + a) + b))) = true := by decide +kernel
set_option maxRecDepth 100000 in
theorem pc_t4 : (List.range 16).all (fun a => (List.range 256).all (fun b => pcF (256 * (64 + a) + b) == ppN 16 (256 * (64 + a) + b))) = true := by decide +kernel
set_option maxRecDepth 100000 in
theorem pc_t5 : (List.range 16).all (fun a => (List.range 256).all (fun b => pcF (256 * (80 + a) + b) == ppN 16 (256 * (80 + a) + b))) = true := by decide +kernel
set_option maxRecDepth 100000 in
theorem pc_t6 : (List.range 16).all (fun a => (List.range 256).all (fun b => pcF (256 * (96 + a) + b) == ppN 16 (256 * (96 + a) + b))) = true := by decide +kernel
set_option maxRecDepth 100000 in
theorem pc_t7 : (List.range 16).all (fun a => (List.range 256).all (fun b => pcF (256 * (112 + a) + b) == ppN 16 (256 * (112 + a) + b))) = true := by decide +kernel
set_option maxRecDepth 100000 in
theorem pc_t8 : (List.range 16).all (fun a => (List.range 256).all (fun b => pcF (256 * (128 + a) + b) == ppN 16 (256 * (128 + a) + b))) = true := by decide +kernel
set_option maxRecDepth 100000 in
theorem pc_t9 : (List.range 16).all (fun a => (List.range 256).all (fun b => pcF (256 * (144 + a) + b) == ppN 16 (256 * (144 + a) + b))) = true := by decide +kernel
set_option maxRecDepth 100000 in
theorem pc_t10 : (List.range 16).all (fun a => (List.range 256).all (fun b => pcF (256 * (160 + a) + b) == ppN 16 (256 * (160 + a) + b))) = true := by decide +kernel
set_option maxRecDepth 100000 in
theorem pc_t11 : (List.range 16).all (fun a => (List.range 256).all (fun b => pcF (256 * (176 + a) + b) == ppN 16 (256 * (176 + a) + b))) = true := by decide +kernel
set_option maxRecDepth 100000 in
theorem pc_t12 : (List.range 16).all (fun a => (List.range 256).all (fun b => pcF (256 * (192 + a) + b) == ppN 16 (256 * (192 + a) + b))) = true := by decide +kernel
set_option maxRecDepth 100000 in
theorem pc_t13 : (List.range 16).all (fun a => (List.range 256).all (fun b => pcF (256 * (208 + a) + b) == ppN 16 (256 * (208 + a) + b))) = true := by decide +kernel
set_option maxRecDepth 100000 in
theorem pc_t14 : (List.range 16).all (fun a => (List.range 256).all (fun b => pcF (256 * (224 + a) + b) == ppN 16 (256 * (224 + a) + b))) = true := by decide +kernel
set_option maxRecDepth 100000 in
theorem pc_t15 : (List.range 16).all (fun a => (List.range 256).all (fun b => pcF (256 * (240 + a) + b) == ppN 16 (256 * (240 + a) + b))) = true := by decide +kernel
theorem pc_q (n : Nat) (h : (List.range 16).all (fun a => (List.range 256).all (fun b => pcF (256 * (16 * n + a) + b) == ppN 16 (256 * (16 * n + a) + b))) = true) {F : Nat} (hF : F / 4096 = n) : pcF F = cnt F.testBit 16 := by
  have h1 := List.all_eq_true.mp h (F / 256 - 16 * n) (List.mem_range.mpr (by omega))
  have h2 := List.all_eq_true.mp h1 (F % 256) (List.mem_range.mpr (by omega))
  rw [show 256 * (16 * n + (F / 256 - 16 * n)) + F % 256 = F by omega] at h2
  rw [← ppN_cnt]
  exact eq_of_beq h2
theorem pc_all {F : Nat} (h : F < 65536) : pcF F = cnt F.testBit 16 := by
  rcases (show F / 4096 = 0 ∨ F / 4096 = 1 ∨ F / 4096 = 2 ∨ F / 4096 = 3 ∨ F / 4096 = 4 ∨ F / 4096 = 5 ∨ F / 4096 = 6 ∨ F / 4096 = 7 ∨ F / 4096 = 8 ∨ F / 4096 = 9 ∨ F / 4096 = 10 ∨ F / 4096 = 11 ∨ F / 4096 = 12 ∨ F / 4096 = 13 ∨ F / 4096 = 14 ∨ F / 4096 = 15 by omega) with e | e | e | e | e | e | e | e | e | e | e | e | e | e | e | e
  · exact pc_q 0 pc_t0 e
  · exact pc_q 1 pc_t1 e
  · exact pc_q 2 pc_t2 e
  · exact pc_q 3 pc_t3 e
  · exact pc_q 4 pc_t4 e
  · exact pc_q 5 pc_t5 e
  · exact pc_q 6 pc_t6 e
  · exact pc_q 7 pc_t7 e
  · exact pc_q 8 pc_t8 e
  · exact pc_q 9 pc_t9 e
  · exact pc_q 10 pc_t10 e
  · exact pc_q 11 pc_t11 e
  · exact pc_q 12 pc_t12 e
  · exact pc_q 13 pc_t13 e
  · exact pc_q 14 pc_t14 e
  · exact pc_q 15 pc_t15 e
/-! ===== floats ===== -/
def c20k : UInt32 := 1184645120
def frW (w : Int) : UInt32 := FP.fdiv (FP.i2f (qI w)) c20k
def ok32 (r : UInt32) : Bool := decide (r &&& 0x7fffffff ≤ 0x7f800000)
/-- the bits of a float, as the loop finds them: what is left, and the exponent -/
def bitL : Nat → UInt32 → Nat → Option (UInt32 × Nat)
  | 0, _, _ => none
  | n + 1, x, e => if Op.cmpValue (FP.fcmp x 1065353216) .g < 0 then (if ok32 (FP.fmul x 1073741824) then bitL n (FP.fmul x 1073741824) (e - 1) else none) else some (x, e)
def bitR (w : Int) : Option Nat := match bitL 20 (frW w) 127 with
  | none => none
  | some (x, e) => if ok32 (FP.fsub x 1065353216) && ok32 (FP.fmul (FP.fsub x 1065353216) 1258291200) && decide (0 ≤ (FP.f2i (FP.fmul (FP.fsub x 1065353216) 1258291200)).toInt) then some (e * 2 ^ 23 ||| (FP.f2i (FP.fmul (FP.fsub x 1065353216) 1258291200)).toInt.toNat) else none
def frOk (w : Nat) : Bool := ok32 (FP.fmul 1065353216 (FP.i2f (qI (w : Int)))) && (FP.fmul 1065353216 (FP.i2f (qI (w : Int))) == FP.i2f (qI (w : Int))) && ok32 (frW (w : Int)) && decide (FP.f2d (frW (w : Int)) &&& 0x7fffffffffffffff ≤ 0x7ff0000000000000) && (Op.cmpValue (FP.dcmp (FP.f2d (frW (w : Int))) (FP.f2d (frW (w : Int)))) .l == 0) && (Op.cmpValue (FP.fcmp (frW (w : Int)) (frW (w : Int))) .l == 0) && (Op.cmpValue (FP.fcmp (frW (w : Int)) 0) .l == (if w = 0 then 0 else 1)) && (if w = 0 then (frW (w : Int)) == 0 else decide (bitR (w : Int) = some (frW (w : Int)).toNat))
theorem fr_all : ∀ w, w ≤ 20000 → frOk w = true := sorry
theorem ok32_n {r : UInt32} (h : ok32 r = true) : vf_n32 r := (of_decide_eq_true h : r &&& 0x7fffffff ≤ 0x7f800000)
/-- what the law and the class ask of the floats that come up -/
theorem fr_use {w : Nat} (h : w ≤ 20000) : vf_n32 (FP.fmul 1065353216 (FP.i2f (qI (w : Int)))) ∧ FP.fmul 1065353216 (FP.i2f (qI (w : Int))) = FP.i2f (qI (w : Int)) ∧ vf_n32 (frW (w : Int)) ∧ vf_n64 (FP.f2d (frW (w : Int))) ∧ Op.cmpValue (FP.dcmp (FP.f2d (frW (w : Int))) (FP.f2d (frW (w : Int)))) .l = 0 ∧ Op.cmpValue (FP.fcmp (frW (w : Int)) (frW (w : Int))) .l = 0 ∧ Op.cmpValue (FP.fcmp (frW (w : Int)) 0) .l = (if w = 0 then 0 else 1) ∧ (w = 0 → frW (w : Int) = 0) ∧ (w ≠ 0 → bitR (w : Int) = some (frW (w : Int)).toNat) := by
  have h1 := fr_all w h
  simp only [frOk, Bool.and_eq_true, beq_iff_eq, decide_eq_true_eq] at h1
  obtain ⟨⟨⟨⟨⟨⟨⟨a1, a2⟩, a3⟩, a4⟩, a5⟩, a6⟩, a7⟩, a8⟩ := h1
  refine ⟨ok32_n a1, a2, ok32_n a3, a4, a5, a6, a7, fun e => ?_, fun e => ?_⟩
  · rw [if_pos e] at a8
    exact eq_of_beq a8
  · rw [if_neg e] at a8
    exact of_decide_eq_true a8
