/-! ===== bits that are set ===== -/
def pc1 (F : Nat) : Nat := F - (F / 2 ^ 1 &&& 1431655765)
def pc2 (a : Nat) : Nat := (a &&& 858993459) + (a / 2 ^ 2 &&& 858993459)
def pc3 (a : Nat) : Nat := (a + a / 2 ^ 4) &&& 252645135
def pc4 (a : Nat) : Nat := a + a / 2 ^ 8
def pc5 (a : Nat) : Nat := a + a / 2 ^ 16
def pcF (F : Nat) : Nat := pc5 (pc4 (pc3 (pc2 (pc1 F)))) &&& 63
def ppN : Nat → Nat → Nat
  | 0, _ => 0
  | n + 1, F => F % 2 + ppN n (F / 2)
theorem ppN_cnt : ∀ n F : Nat, ppN n F = cnt F.testBit n
  | 0, _ => rfl
  | n + 1, F => by
    have key : ∀ m, cnt F.testBit (m + 1) = F % 2 + cnt (F / 2).testBit m := by
      intro m
      induction m with
      | zero =>
        simp only [cnt, Nat.testBit_zero]
        rcases Nat.mod_two_eq_zero_or_one F with h | h <;> simp [h]
      | succ m ih =>
        rw [show cnt F.testBit (m + 1 + 1) = cnt F.testBit (m + 1) + if F.testBit (m + 1) = true then 1 else 0 from rfl, ih, Nat.testBit_succ]
        show _ = F % 2 + (cnt (F / 2).testBit m + if (F / 2).testBit m = true then 1 else 0)
        omega
    rw [key n, ← ppN_cnt n (F / 2)]
    rfl
set_option maxRecDepth 100000 in
theorem pc_t0 : (List.range 16).all (fun a => (List.range 256).all (fun b => pcF (256 * (0 + a) + b) == ppN 16 (256 * (0 + a) + b))) = true := by decide +kernel
set_option maxRecDepth 100000 in
theorem pc_t1 : (List.range 16).all (fun a => (List.range 256).all (fun b => pcF (256 * (16 + a) + b) == ppN 16 (256 * (16 + a) + b))) = true := by decide +kernel
set_option maxRecDepth 100000 in
theorem pc_t2 : (List.range 16).all (fun a => (List.range 256).all (fun b => pcF (256 * (32 + a) + b) == ppN 16 (256 * (32 + a) + b))) = true := by decide +kernel
set_option maxRecDepth 100000 in
theorem pc_t3 : (List.range 16).all (fun a => (List.range 256).all (fun b => pcF (256 * (48 + a) + b) == ppN 16 (256 * (48 + a) + b))) = true := by decide +kernel
set_option maxRecDepth 100000 in
theorem pc_t4 : (List.range 16).all (fun a => (List.range 256).all (fun b => pcF (256 * (64 + a) + b) == ppN 16 (256 * (64 + a) + b))) = true := by decide +kernel
set_option maxRecDepth 100000 in
theorem pc_t5 : (List.range 16).all (fun a => (List.range 256).all (fun b => pcF (256 * (80 + a) + b) == ppN 16 (256 * (80 + a) + b))) = true := by decide +kernel
set_option maxRecDepth 100000 in
theorem pc_t6 : (List.range 16).all (fun a => (List.range 256).all (fun b => pcF (256 * (96 + a) + b) == ppN 16 (256 * (96 + a) + b))) = true := by decide +kernel
set_option maxRecDepth 100000 in
theorem pc_t7 : (List.range 16).all (fun a => (List.range 256).all (fun b => pcF (256 * (112 + a) + b) == ppN 16 (256 * (112 + a) + b))) = true := by decide +kernel
set_option maxRecDepth 100000 in
theorem pc_t8 : (List.range 16).all (fun a => (List.range 256).all (fun b => pcF (256 * (128 + a) + b) == ppN 16 (256 * (128 + a) + b))) = true := by decide +kernel
set_option maxRecDepth 100000 in
theorem pc_t9 : (List.range 16).all (fun a => (List.range 256).all (fun b => pcF (256 * (144 + a) + b) == ppN 16 (256 * (144 + a) + b))) = true := by decide +kernel
set_option maxRecDepth 100000 in
theorem pc_t10 : (List.range 16).all (fun a => (List.range 256).all (fun b => pcF (256 * (160 + a) + b) == ppN 16 (256 * (160 + a) + b))) = true := by decide +kernel
set_option maxRecDepth 100000 in
theorem pc_t11 : (List.range 16).all (fun a => (List.range 256).all (fun b => pcF (256 * (176 + a) + b) == ppN 16 (256 * (176 + a) + b))) = true := by decide +kernel
set_option maxRecDepth 100000 in
theorem pc_t12 : (List.range 16).all (fun a => (List.range 256).all (fun b => pcF (256 * (192 + a) + b) == ppN 16 (256 * (192 + a) + b))) = true := by decide +kernel
set_option maxRecDepth 100000 in
theorem pc_t13 : (List.range 16).all (fun a => (List.range 256).all (fun b => pcF (256 * (208 + a) + b) == ppN 16 (256 * (208 + a) + b))) = true := by decide +kernel
set_option maxRecDepth 100000 in
theorem pc_t14 : (List.range 16).all (fun a => (List.range 256).all (fun b => pcF (256 * (224 + a) + b) == ppN 16 (256 * (224 + a) + b))) = true := by decide +kernel
set_option maxRecDepth 100000 in
theorem pc_t15 : (List.range 16).all (fun a => (List.range 256).all (fun b => pcF (256 * (240 + a) + b) == ppN 16 (256 * (240 + a) + b))) = true := by decide +kernel
theorem pc_q (n : Nat) (h : (List.range 16).all (fun a => (List.range 256).all (fun b => pcF (256 * (16 * n + a) + b) == ppN 16 (256 * (16 * n + a) + b))) = true) {F : Nat} (hF : F / 4096 = n) : pcF F = cnt F.testBit 16 := by
  have h1 := List.all_eq_true.mp h (F / 256 - 16 * n) (List.mem_range.mpr (by omega))
  have h2 := List.all_eq_true.mp h1 (F % 256) (List.mem_range.mpr (by omega))
  rw [show 256 * (16 * n + (F / 256 - 16 * n)) + F % 256 = F by omega] at h2
  rw [← ppN_cnt]
  exact eq_of_beq h2
theorem pc_all {F : Nat} (h : F < 65536) : pcF F = cnt F.testBit 16 := by
  rcases (show F / 4096 = 0 ∨ F / 4096 = 1 ∨ F / 4096 = 2 ∨ F / 4096 = 3 ∨ F / 4096 = 4 ∨ F / 4096 = 5 ∨ F / 4096 = 6 ∨ F / 4096 = 7 ∨ F / 4096 = 8 ∨ F / 4096 = 9 ∨ F / 4096 = 10 ∨ F / 4096 = 11 ∨ F / 4096 = 12 ∨ F / 4096 = 13 ∨ F / 4096 = 14 ∨ F / 4096 = 15 by omega) with e | e | e | e | e | e | e | e | e | e | e | e | e | e | e | e
  · exact pc_q 0 pc_t0 e
  · exact pc_q 1 pc_t1 e
  · exact pc_q 2 pc_t2 e
  · exact pc_q 3 pc_t3 e
  · exact pc_q 4 pc_t4 e
  · exact pc_q 5 pc_t5 e
  · exact pc_q 6 pc_t6 e
  · exact pc_q 7 pc_t7 e
  · exact pc_q 8 pc_t8 e
  · exact pc_q 9 pc_t9 e
  · exact pc_q 10 pc_t10 e
  · exact pc_q 11 pc_t11 e
  · exact pc_q 12 pc_t12 e
  · exact pc_q 13 pc_t13 e
  · exact pc_q 14 pc_t14 e
  · exact pc_q 15 pc_t15 e
/-! ===== floats ===== -/
def c20k : UInt32 := 1184645120
def frW (w : Int) : UInt32 := FP.fdiv (FP.i2f (qI w)) c20k
def ok32 (r : UInt32) : Bool := decide (r &&& 0x7fffffff ≤ 0x7f800000)
/-- the bits of a float, as the loop finds them: what is left, and the exponent -/
def bitL : Nat → UInt32 → Nat → Option (UInt32 × Nat)
  | 0, _, _ => none
  | n + 1, x, e => if Op.cmpValue (FP.fcmp x 1065353216) .g < 0 then (if ok32 (FP.fmul x 1073741824) then bitL n (FP.fmul x 1073741824) (e - 1) else none) else some (x, e)
def bitR (w : Int) : Option Nat := match bitL 20 (frW w) 127 with
  | none => none
  | some (x, e) => if ok32 (FP.fsub x 1065353216) && ok32 (FP.fmul (FP.fsub x 1065353216) 1258291200) && decide (0 ≤ (FP.f2i (FP.fmul (FP.fsub x 1065353216) 1258291200)).toInt) then some (e * 2 ^ 23 ||| (FP.f2i (FP.fmul (FP.fsub x 1065353216) 1258291200)).toInt.toNat) else none
def frOk (w : Nat) : Bool := ok32 (FP.fmul 1065353216 (FP.i2f (qI (w : Int)))) && (FP.fmul 1065353216 (FP.i2f (qI (w : Int))) == FP.i2f (qI (w : Int))) && ok32 (frW (w : Int)) && decide (FP.f2d (frW (w : Int)) &&& 0x7fffffffffffffff ≤ 0x7ff0000000000000) && (Op.cmpValue (FP.dcmp (FP.f2d (frW (w : Int))) (FP.f2d (frW (w : Int)))) .l == 0) && (Op.cmpValue (FP.fcmp (frW (w : Int)) (frW (w : Int))) .l == 0) && (Op.cmpValue (FP.fcmp (frW (w : Int)) 0) .l == (if w = 0 then 0 else 1)) && (if w = 0 then (frW (w : Int)) == 0 else decide (bitR (w : Int) = some (frW (w : Int)).toNat))
/-! ===== floats: the quotients by 20000, out of the laws of the core ===== -/
theorem fx_1 : FP.Core.val32 1065353216 = .fin false 8388608 (-23) := by decide +kernel
theorem fx_2 : FP.Core.val32 1073741824 = .fin false 8388608 (-22) := by decide +kernel
theorem fx_3 : FP.Core.val32 1258291200 = .fin false 8388608 0 := by decide +kernel
theorem fx_4 : FP.Core.val32 c20k = .fin false 10240000 (-9) := by decide +kernel
/-- x is the number c * 2^q, with all its digits -/
def fN (x : UInt32) (c : Nat) (q : Int) : Prop := FP.Core.val32 x = .fin false c q ∧ (8388608 ≤ c ∧ c < 16777216) ∧ -100 ≤ q ∧ q ≤ 100
theorem fx_fits {c : Nat} {q : Int} (h : (8388608 ≤ c ∧ c < 16777216) ∧ -100 ≤ q ∧ q ≤ 100) : FP.Core.fits FP.Core.b32 (.fin false c q) := by
  refine ⟨h.1.2, ?_, ?_, Or.inr h.1.1⟩
  · show (-149 : Int) ≤ q
    omega
  · show q ≤ (104 : Int)
    omega
theorem ok32_of {x : UInt32} (h : FP.Core.val32 x ≠ .nan) : ok32 x = true := by
  have h1 := (FP.Core.ne_nan32 x).mp h
  refine decide_eq_true ?_
  rw [UInt32.le_iff_toNat_le, FP.Core.mask_toNat32]
  exact h1
theorem fN.ok {x : UInt32} {c : Nat} {q : Int} (h : fN x c q) : FP.Core.val32 x ≠ .nan := by
  rw [h.1]
  exact FP.Core.Datum.noConfusion
theorem fN_dbl {x : UInt32} {c : Nat} {q : Int} (h : fN x c q) (hq : q < 50) : fN (FP.fmul x 1073741824) c (q + 1) := by
  obtain ⟨h1, h2, h3⟩ := h
  have hb : (8388608 ≤ c ∧ c < 16777216) ∧ -100 ≤ q + 1 ∧ q + 1 ≤ 100 := ⟨h2, by omega, by omega⟩
  refine ⟨?_, hb⟩
  show FP.Core.val32 (FP.Core.fmul x 1073741824) = _
  rw [FP.Core.val32_fmul, h1, fx_2]
  refine FP.Core.roundRatio_exact (A := c * 8388608) (B := 1) (e := q + -22) FP.Core.good_b32 (by decide) (fx_fits hb) ?_
  rw [show ((q + -22) - (q + 1)).toNat = 0 by omega, show ((q + 1) - (q + -22)).toNat = 23 by omega]
  show c * 8388608 * 1 = c * 1 * 8388608
  omega
theorem fx_ord {x : UInt32} {c : Nat} {q : Int} (h : FP.Core.val32 x = .fin false c q) : FP.fcmp x 1065353216 = some (compare ((c * 2 ^ (q - min q (-23)).toNat : Nat) : Int) ((8388608 * 2 ^ (-23 - min q (-23)).toNat : Nat) : Int)) := by
  show FP.Core.order (FP.Core.val32 x) (FP.Core.val32 1065353216) = _
  rw [h, fx_1]
  rfl
theorem fN_lt {x : UInt32} {c : Nat} {q : Int} (h : fN x c q) (hq : q < -23) : Op.cmpValue (FP.fcmp x 1065353216) .g < 0 := by
  rw [fx_ord h.1, show min q (-23) = q by omega, show (q - q).toNat = 0 by omega]
  have h1 : 2 ^ 1 ≤ 2 ^ (-23 - q).toNat := Nat.pow_le_pow_right (by decide) (by omega)
  have h2 := h.2.1.2
  rw [(FP.Core.compare_lt_iff _ _).mpr (by omega)]
  decide
theorem fN_ge {x : UInt32} {c : Nat} (h : fN x c (-23)) : ¬ Op.cmpValue (FP.fcmp x 1065353216) .g < 0 := by
  rw [fx_ord h.1, show ((-23 : Int) - min (-23) (-23)).toNat = 0 by decide]
  have h2 := h.2.1.1
  intro hc
  cases ho : compare ((c * 2 ^ 0 : Nat) : Int) ((8388608 * 2 ^ 0 : Nat) : Int) with
  | lt =>
    have := (FP.Core.compare_lt_iff _ _).mp ho
    omega
  | eq =>
    rw [ho] at hc
    exact absurd hc (by decide)
  | gt =>
    rw [ho] at hc
    exact absurd hc (by decide)
theorem bitL_ok : ∀ (k n : Nat) (x : UInt32) (e c : Nat) (q : Int), fN x c q → q + (k : Int) = -23 → k < n → ∃ y, bitL n x e = some (y, e - k) ∧ fN y c (-23)
  | 0, n, x, e, c, q, h, hq, hn => by
    obtain ⟨n, rfl⟩ : ∃ m, n = m + 1 := ⟨n - 1, by omega⟩
    have e1 : q = -23 := by omega
    subst e1
    refine ⟨x, ?_, h⟩
    unfold bitL
    rw [if_neg (fN_ge h)]
    rfl
  | k + 1, n, x, e, c, q, h, hq, hn => by
    obtain ⟨n, rfl⟩ : ∃ m, n = m + 1 := ⟨n - 1, by omega⟩
    have h1 := fN_dbl h (by omega)
    obtain ⟨y, hy, hy2⟩ := bitL_ok k n (FP.fmul x 1073741824) (e - 1) c (q + 1) h1 (by omega) (by omega)
    refine ⟨y, ?_, hy2⟩
    unfold bitL
    rw [if_pos (fN_lt h (by omega)), if_pos (ok32_of h1.ok), hy]
    rw [show e - 1 - k = e - (k + 1) by omega]
theorem fx_toNat {x : UInt32} {c : Nat} {q : Int} (h : fN x c q) : x.toNat = ((q + 149).toNat + 1) * 8388608 + (c - 8388608) := by
  have h1 : x = FP.Core.of32 (.fin false c q) := by rw [← h.1, FP.Core.of32_val32 h.ok]
  have h2 := h.2.1
  rw [h1, FP.Core.toNat_of32 (fx_fits h.2)]
  unfold FP.Core.encode
  simp only []
  rw [if_neg (show ¬ c < FP.Core.b32.tails from (show ¬ c < 8388608 by omega))]
  show ((0 * 256 + ((q - -149).toNat + 1)) * 8388608 + (c - 8388608)) = _
  rw [Nat.zero_mul, Nat.zero_add, show q - -149 = q + 149 by omega]
theorem fx_minus {c d : Nat} {q : Int} (h : d ≤ c) : FP.Core.exactSum (.fin false c q) (FP.Core.negate (.fin false d q)) = .fin false (c - d) q := by
  have e1 : FP.Core.sumUnits false c q true d q (min q q) = ((c - d : Nat) : Int) := by
    unfold FP.Core.sumUnits FP.Core.inUnits
    rw [Int.min_self, Int.sub_self]
    show ((c * 2 ^ 0 : Nat) : Int) + -((d * 2 ^ 0 : Nat) : Int) = _
    rw [Nat.pow_zero, Nat.mul_one, Nat.mul_one]
    omega
  show FP.Core.Datum.fin (FP.Core.sumSign false true (FP.Core.sumUnits false c q true d q (min q q))) (FP.Core.sumUnits false c q true d q (min q q)).natAbs (min q q) = _
  have e3 : FP.Core.sumSign false true ((c - d : Nat) : Int) = false := by
    unfold FP.Core.sumSign
    split
    · rfl
    · exact decide_eq_false (by omega)
  rw [e1, e3, Int.min_self, Int.natAbs_natCast]
theorem fx_sub {y : UInt32} {c : Nat} (h : fN y c (-23)) : ∃ c2 q2, FP.Core.val32 (FP.fsub y 1065353216) = .fin false c2 q2 ∧ c2 * 2 ^ (q2 + 149).toNat = (c - 8388608) * 2 ^ 126 := by
  have h2 := h.2.1
  have e1 := fx_minus (q := -23) h2.1
  obtain ⟨c2, q2, g1, g2⟩ := FP.Core.round_exact FP.Core.good_b32 false (c := c - 8388608) (q := -23) (show c - 8388608 < 16777216 by omega) (by decide) (by decide)
  refine ⟨c2, q2, ?_, ?_⟩
  · show FP.Core.val32 (FP.Core.fsub y 1065353216) = _
    rw [FP.Core.val32_fsub, h.1, fx_1, e1, g1]
  · have g3 : c2 * 2 ^ (q2 - -149).toNat = (c - 8388608) * 2 ^ 126 := g2
    rw [show q2 + 149 = q2 - -149 by omega]
    exact g3
theorem fx_whole {c2 t : Nat} {q2 : Int} (h : c2 * 2 ^ (q2 + 149).toNat = t * 2 ^ 126) (hq : -149 ≤ q2) : FP.Core.Whole ((t : Nat) : Int) (.fin false (c2 * 8388608) (q2 + 0)) := by
  show (((c2 * 8388608) * 2 ^ (q2 + 0).toNat : Nat) : Int) = ((t : Nat) : Int) * ((2 ^ (-(q2 + 0)).toNat : Nat) : Int)
  rw [Int.add_zero, ← Int.natCast_mul]
  congr 1
  rcases Int.lt_or_le q2 0 with g | g
  · rw [show q2.toNat = 0 by omega, Nat.pow_zero, Nat.mul_one]
    have e1 : 2 ^ (-q2).toNat * 2 ^ (q2 + 149).toNat = 2 ^ 149 := by rw [← Nat.pow_add]; congr 1; omega
    have e2 : (c2 * 8388608) * 2 ^ (q2 + 149).toNat = (t * 2 ^ (-q2).toNat) * 2 ^ (q2 + 149).toNat := by
      rw [Nat.mul_right_comm, h, Nat.mul_assoc t (2 ^ (-q2).toNat), e1, Nat.mul_assoc]
    exact Nat.eq_of_mul_eq_mul_right (Nat.two_pow_pos _) e2
  · rw [show (-q2).toNat = 0 by omega, Nat.pow_zero, Nat.mul_one]
    have e1 : 2 ^ (q2 + 149).toNat = 2 ^ q2.toNat * 2 ^ 149 := by rw [← Nat.pow_add]; congr 1; omega
    rw [e1] at h
    have e2 : (c2 * 8388608 * 2 ^ q2.toNat) * 2 ^ 126 = t * 2 ^ 126 := by
      rw [← h, Nat.mul_right_comm c2, Nat.mul_assoc (c2 * 2 ^ q2.toNat), ← Nat.mul_assoc c2]
    exact Nat.eq_of_mul_eq_mul_right (Nat.two_pow_pos _) e2
theorem bitR_ok {w : Nat} {c k : Nat} {q : Int} (h : fN (frW (w : Int)) c q) (hq : q + (k : Int) = -23) (hk : k < 20) : bitR (w : Int) = some (frW (w : Int)).toNat := by
  obtain ⟨y, h1, h2⟩ := bitL_ok k 20 _ 127 c q h hq hk
  obtain ⟨c2, q2, g1, g2⟩ := fx_sub h2
  have hc := h.2.1
  have hq2 : -149 ≤ q2 := by
    have f1 := FP.Core.val32_fits (FP.fsub y 1065353216)
    rw [g1] at f1
    exact f1.2.1
  have g3 : FP.Core.FInt ((c - 8388608 : Nat) : Int) (FP.fmul (FP.fsub y 1065353216) 1258291200) := by
    show FP.Core.Whole _ (FP.Core.val32 (FP.Core.fmul (FP.fsub y 1065353216) 1258291200))
    rw [FP.Core.val32_fmul, g1, fx_3]
    exact FP.Core.whole_round FP.Core.good_b32 FP.Core.wide_b32 (show _ ≤ 2 ^ 24 by omega) (fx_whole g2 hq2)
  have e0 : (qI ((c - 8388608 : Nat) : Int)).toInt = ((c - 8388608 : Nat) : Int) := qI_toInt (by omega)
  have g4 : FP.f2i (FP.fmul (FP.fsub y 1065353216) 1258291200) = qI ((c - 8388608 : Nat) : Int) := FP.Core.f2i_int (by rw [e0]; exact g3)
  unfold bitR
  rw [h1]
  simp only []
  rw [g4, e0, ok32_of (by rw [g1]; exact FP.Core.Datum.noConfusion), ok32_of (FP.Core.FInt_ne_nan g3)]
  rw [decide_eq_true (show (0 : Int) ≤ ((c - 8388608 : Nat) : Int) by omega)]
  rw [fx_toNat h]
  simp only [Bool.and_self, if_true]
  refine congrArg some ?_
  rw [show (q + 149).toNat + 1 = 127 - k by omega, show ((c - 8388608 : Nat) : Int).toNat = c - 8388608 by omega]
  have := Nat.two_pow_add_eq_or_of_lt (i := 23) (b := c - 8388608) (by omega) (127 - k)
  rw [Nat.mul_comm (2 ^ 23)] at this
  exact this.symm
theorem fx_quo {w : Nat} (h1 : 1 ≤ w) (h2 : w ≤ 20000) : FP.Core.val32 (frW (w : Int)) = FP.Core.roundRatio FP.Core.b32 false w 20000 0 := by
  have e0 : (qI (w : Int)).toInt = (w : Int) := qI_toInt (by omega)
  have hw : FP.Core.Whole (w : Int) (FP.Core.val32 (FP.i2f (qI (w : Int)))) := by
    have := FP.Core.i2f_int (a := qI (w : Int)) (by rw [e0]; omega)
    rw [e0] at this
    exact this
  show FP.Core.val32 (FP.Core.fdiv (FP.i2f (qI (w : Int))) c20k) = _
  rw [FP.Core.val32_fdiv, fx_4]
  cases hd : FP.Core.val32 (FP.i2f (qI (w : Int))) with
  | nan => rw [hd] at hw; exact hw.elim
  | inf s => rw [hd] at hw; exact hw.elim
  | fin s c q =>
    rw [hd] at hw
    have hw : FP.Core.signed s (c * 2 ^ q.toNat) = (w : Int) * ((2 ^ (-q).toNat : Nat) : Int) := hw
    have hp : 0 < 2 ^ (-q).toNat := Nat.two_pow_pos _
    have hpos : 0 < w * 2 ^ (-q).toNat := Nat.mul_pos h1 hp
    rw [← Int.natCast_mul] at hw
    cases s with
    | true =>
      have hw : -(((c * 2 ^ q.toNat : Nat) : Int)) = ((w * 2 ^ (-q).toNat : Nat) : Int) := hw
      omega
    | false =>
      have hw : (((c * 2 ^ q.toNat : Nat) : Int)) = ((w * 2 ^ (-q).toNat : Nat) : Int) := hw
      have hw : c * 2 ^ q.toNat = w * 2 ^ (-q).toNat := by omega
      show FP.Core.roundRatio FP.Core.b32 false c 10240000 (q - -9) = _
      refine FP.Core.roundRatio_congr (by decide) (by decide) ?_
      rcases Int.lt_or_le q 0 with g | g
      · rw [show q.toNat = 0 by omega, Nat.pow_zero, Nat.mul_one] at hw
        rw [hw]
        rcases Int.lt_or_le (q + 9) 0 with g2 | g2
        · rw [show (q - -9 - 0).toNat = 0 by omega, Nat.pow_zero, Nat.mul_one]
          have e1 : 2 ^ (-q).toNat = 2 ^ (0 - (q - -9)).toNat * 512 := by rw [show (512 : Nat) = 2 ^ 9 by decide, ← Nat.pow_add]; congr 1; omega
          rw [e1]
          generalize 2 ^ (0 - (q - -9)).toNat = P
          rw [show (10240000 : Nat) = 512 * 20000 by decide]
          simp only [Nat.mul_assoc, Nat.mul_comm, Nat.mul_left_comm]
        · rw [show (0 - (q - -9)).toNat = 0 by omega, Nat.pow_zero, Nat.mul_one]
          have e1 : 2 ^ (-q).toNat * 2 ^ (q - -9 - 0).toNat = 512 := by rw [show (512 : Nat) = 2 ^ 9 by decide, ← Nat.pow_add]; congr 1; omega
          rw [Nat.mul_right_comm, Nat.mul_assoc w, e1, Nat.mul_assoc]
      · rw [show (-q).toNat = 0 by omega, Nat.pow_zero, Nat.mul_one] at hw
        rw [show (0 - (q - -9)).toNat = 0 by omega, Nat.pow_zero, Nat.mul_one, show (q - -9 - 0).toNat = q.toNat + 9 by omega, Nat.pow_add, ← hw]
        rw [show (10240000 : Nat) = 2 ^ 9 * 20000 by decide]
        simp only [Nat.mul_assoc, Nat.mul_comm, Nat.mul_left_comm]
theorem frW_fN {w : Nat} (h1 : 1 ≤ w) (h2 : w ≤ 20000) : ∃ (c k : Nat) (q : Int), fN (frW (w : Int)) c q ∧ q + (k : Int) = -23 ∧ k < 20 := by
  have hB : 0 < 20000 := by decide
  have hA : 0 < w := h1
  have q1 := FP.Core.quantum_below (f := FP.Core.b32) hA hB 0
  have q2 := FP.Core.quantum_not_below (f := FP.Core.b32) hA hB 0
  have q3 := FP.Core.nearest_units_le (f := FP.Core.b32) hA hB 0
  have hv := fx_quo h1 h2
  unfold FP.Core.roundRatio at hv
  rw [if_neg (by omega)] at hv
  unfold FP.Core.roundAt at hv
  have b0 : FP.Core.Below w 20000 1 := by
    show w * 2 ^ 0 < 20000 * 2 ^ 1
    omega
  have b1 : ¬ FP.Core.Below w 20000 (-15) := by
    show ¬ w * 2 ^ 15 < 20000 * 2 ^ 0
    omega
  generalize hQ : FP.Core.quantum FP.Core.b32 w 20000 0 = Q at q1 q2 q3 hv
  have q1 : FP.Core.Below w 20000 (Q - 0 + 24) := q1
  have q2 : Q = -149 ∨ ¬ FP.Core.Below w 20000 (Q - 0 + (24 - 1)) := q2
  have lo : -38 ≤ Q := by
    rcases Int.lt_or_le Q (-38) with g | g
    · exact absurd (FP.Core.below_mono (by omega) q1) b1
    · exact g
  have q2 : ¬ FP.Core.Below w 20000 (Q - 0 + 23) := by
    rcases q2 with g | g
    · omega
    · exact g
  have hi : Q ≤ -23 := by
    rcases Int.lt_or_le (-23) Q with g | g
    · exact absurd (FP.Core.below_mono (by omega) b0) q2
    · exact g
  have n1 : 8388608 ≤ FP.Core.nearest (FP.Core.unitsNum w 0 Q) (FP.Core.unitsDen 20000 0 Q) := by
    refine FP.Core.nearest_ge (FP.Core.unitsDen_pos hB _ _) (Nat.not_lt.mp fun g => q2 ?_)
    exact (FP.Core.units_below w 20000 0 Q 23).mp g
  have n2 : Q = -23 → FP.Core.nearest (FP.Core.unitsNum w 0 Q) (FP.Core.unitsDen 20000 0 Q) = 8388608 := by
    intro g
    subst g
    have g2 : ¬ w * 2 ^ 0 < 20000 * 2 ^ 0 := q2
    have e1 : w = 20000 := by omega
    subst e1
    exact FP.Core.nearest_exact (B := 20000) 8388608 (by decide)
  have q3 : FP.Core.nearest (FP.Core.unitsNum w 0 Q) (FP.Core.unitsDen 20000 0 Q) ≤ 16777216 := q3
  generalize FP.Core.nearest (FP.Core.unitsNum w 0 Q) (FP.Core.unitsDen 20000 0 Q) = n at n1 n2 q3 hv
  unfold FP.Core.settle FP.Core.bound at hv
  by_cases g : n < 16777216
  · rw [if_pos (show n < 2 ^ FP.Core.b32.p from g), if_pos (show Q ≤ FP.Core.b32.qmax from (show Q ≤ (104 : Int) by omega))] at hv
    exact ⟨n, (-23 - Q).toNat, Q, ⟨hv, ⟨n1, g⟩, by omega, by omega⟩, by omega, by omega⟩
  · have g3 : Q ≠ -23 := fun z => by
      have := n2 z
      omega
    rw [if_neg (show ¬ n < 2 ^ FP.Core.b32.p from g), if_pos (show Q + 1 ≤ FP.Core.b32.qmax from (show Q + 1 ≤ (104 : Int) by omega))] at hv
    exact ⟨8388608, (-23 - (Q + 1)).toNat, Q + 1, ⟨hv, ⟨Nat.le_refl _, by decide⟩, by omega, by omega⟩, by omega, by omega⟩
theorem fx_nan {x : UInt32} (h : FP.Core.val32 x ≠ .nan) : FP.f2d x = FP.Core.f2d x ∧ FP.Core.val64 (FP.f2d x) ≠ .nan := by
  have h1 : FP.Core.fIsNaN x = false := (FP.Core.notNaN_iff32 x).mpr h
  have e1 : FP.f2d x = FP.Core.f2d x := by
    unfold FP.f2d
    rw [h1]
    rfl
  refine ⟨e1, ?_⟩
  rw [e1]
  exact (FP.Core.notNaN_iff _).mp (FP.Core.f2d_out h1)
theorem fr_all : ∀ w, w ≤ 20000 → frOk w = true := by
  intro w hw
  rcases Nat.eq_zero_or_pos w with e | h1
  · subst e
    decide +kernel
  · obtain ⟨c, k, q, h, hq, hk⟩ := frW_fN h1 hw
    have hi : FP.Core.val32 (FP.i2f (qI (w : Int))) ≠ .nan := by
      have e0 : (qI (w : Int)).toInt = (w : Int) := qI_toInt (by omega)
      exact FP.Core.FInt_ne_nan (FP.Core.i2f_int (a := qI (w : Int)) (by rw [e0]; omega))
    have a2 : FP.fmul 1065353216 (FP.i2f (qI (w : Int))) = FP.i2f (qI (w : Int)) := (FP.Core.fmul_comm _ _).trans (FP.Core.fmul_one hi)
    obtain ⟨e4, n4⟩ := fx_nan h.ok
    have a4 : FP.f2d (frW (w : Int)) &&& 0x7fffffffffffffff ≤ 0x7ff0000000000000 := by
      have h5 := (FP.Core.ne_nan _).mp n4
      rw [UInt64.le_iff_toNat_le, FP.Core.mask_toNat]
      exact h5
    have a5 : FP.dcmp (FP.f2d (frW (w : Int))) (FP.f2d (frW (w : Int))) = some .eq := FP.Core.dcmp_self n4
    have a6 : FP.fcmp (frW (w : Int)) (frW (w : Int)) = some .eq := FP.Core.fcmp_self h.ok
    have a7 : FP.fcmp (frW (w : Int)) 0 = some .gt := by
      show FP.Core.order (FP.Core.val32 (frW (w : Int))) (FP.Core.val32 0) = _
      rw [h.1, FP.Core.val32_zero]
      show some (compare ((c * 2 ^ (q - min q (-149)).toNat : Nat) : Int) ((0 * 2 ^ (-149 - min q (-149)).toNat : Nat) : Int)) = _
      rw [(FP.Core.compare_gt_iff _ _).mpr]
      rw [Nat.zero_mul]
      have h8 : 0 < c := by have := h.2.1.1; omega
      have h9 := Nat.mul_pos h8 (Nat.two_pow_pos (q - min q (-149)).toNat)
      omega
    have a8 := bitR_ok h hq hk
    unfold frOk
    rw [a2, ok32_of hi, ok32_of h.ok, decide_eq_true a4, a5, a6, a7, if_neg (by omega), if_neg (by omega), decide_eq_true a8]
    simp only [beq_self_eq_true, Bool.and_self, Bool.and_true, Bool.true_and]
    decide
theorem ok32_n {r : UInt32} (h : ok32 r = true) : vf_n32 r := (of_decide_eq_true h : r &&& 0x7fffffff ≤ 0x7f800000)
/-- what the law and the class ask of the floats that come up -/
theorem fr_use {w : Nat} (h : w ≤ 20000) : vf_n32 (FP.fmul 1065353216 (FP.i2f (qI (w : Int)))) ∧ FP.fmul 1065353216 (FP.i2f (qI (w : Int))) = FP.i2f (qI (w : Int)) ∧ vf_n32 (frW (w : Int)) ∧ vf_n64 (FP.f2d (frW (w : Int))) ∧ Op.cmpValue (FP.dcmp (FP.f2d (frW (w : Int))) (FP.f2d (frW (w : Int)))) .l = 0 ∧ Op.cmpValue (FP.fcmp (frW (w : Int)) (frW (w : Int))) .l = 0 ∧ Op.cmpValue (FP.fcmp (frW (w : Int)) 0) .l = (if w = 0 then 0 else 1) ∧ (w = 0 → frW (w : Int) = 0) ∧ (w ≠ 0 → bitR (w : Int) = some (frW (w : Int)).toNat) := by
  have h1 := fr_all w h
  simp only [frOk, Bool.and_eq_true, beq_iff_eq, decide_eq_true_eq] at h1
  obtain ⟨⟨⟨⟨⟨⟨⟨a1, a2⟩, a3⟩, a4⟩, a5⟩, a6⟩, a7⟩, a8⟩ := h1
  refine ⟨ok32_n a1, a2, ok32_n a3, a4, a5, a6, a7, fun e => ?_, fun e => ?_⟩
  · rw [if_pos e] at a8
    exact eq_of_beq a8
  · rw [if_neg e] at a8
    exact of_decide_eq_true a8
