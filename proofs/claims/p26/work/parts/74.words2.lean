/-! ===== the law: what the Statement's words give at its start ===== -/
theorem lw_hg {s : State} {b : Nat} (hts : ∀ w ∈ lw_tbl, w.before #[Value.ref b] s = true) : ∀ w ∈ wG, w.before #[Value.ref b] s = true := fun w h => hts w (List.mem_filter.mp h).1
theorem lw_ac {s : State} {b : Nat} {ty : FieldType} (h : (Cond.arrayClass ty).before #[Value.ref b] s = true) : ∃ cA, ArrOfT s cA ty ∧ s.vm.findClass ("[" ++ ty.toString) = some cA := by
  obtain ⟨cA, kA, comp, h1, h2, h3⟩ := Cond.arrayClass_spec h
  exact ⟨cA, fun n z => ⟨fun k h => (by cases h), kA, h2, comp, h3⟩, h1⟩
set_option maxRecDepth 100000 in
theorem lw_oA : Cond.arrayOver (.array .int) ∈ lw_tbl := by decide +kernel
set_option maxRecDepth 100000 in
theorem lw_oL : Cond.arrayOver (.object "StrengthLayout$Layout") ∈ lw_tbl := by decide +kernel
theorem lw_K {s : State} {b : Nat} (hts : ∀ w ∈ lw_tbl, w.before #[Value.ref b] s = true) : ∃ (D : va_G) (cy : Nat → ClassId), va_K D vwCl (qT cy) s ∧ qCx s := by
  have hg := lw_hg hts
  obtain ⟨⟨c0, i0, k0⟩, ⟨c1, i1, k1⟩, ⟨c2, i2, k2⟩, ⟨c3, i3, k3⟩, ⟨c4, i4, k4⟩, ⟨c5, i5, k5⟩, ⟨c6, i6, k6⟩, ⟨c7, i7, k7⟩⟩ : (∃ (cC : ClassId) (iS : Nat → Nat), u_Kn s RX0 TX0 1 cC iS) ∧ (∃ (cC : ClassId) (iS : Nat → Nat), u_Kn s RX1 TX1 5 cC iS) ∧ (∃ (cC : ClassId) (iS : Nat → Nat), u_Kn s RX2 TX2 3 cC iS) ∧ (∃ (cC : ClassId) (iS : Nat → Nat), u_Kn s RX3 TX3 4 cC iS) ∧ (∃ (cC : ClassId) (iS : Nat → Nat), u_Kn s RX4 TX4 3 cC iS) ∧ (∃ (cC : ClassId) (iS : Nat → Nat), u_Kn s RX5 TX5 6 cC iS) ∧ (∃ (cC : ClassId) (iS : Nat → Nat), u_Kn s RX6 TX6 8 cC iS) ∧ (∃ (cC : ClassId) (iS : Nat → Nat), u_Kn s RX7 TX7 10 cC iS) := ⟨u_known hg f_X0 (hg _ m_29), u_known hg f_X1 (hg _ m_168), u_known hg f_X2 (hg _ m_171), u_known hg f_X3 (hg _ m_117), u_known hg f_X4 (hg _ m_32), u_known hg f_X5 (hg _ m_109), u_known hg f_X6 (hg _ m_179), u_known hg f_X7 (hg _ m_442)⟩
  obtain ⟨a0, f0, g0⟩ := lw_ac (hg _ m_6)
  have hoA := hts _ lw_oA
  have hoL := hts _ lw_oL
  obtain ⟨comp2, a2, kA2, j1, j2, j3, j4, j5⟩ := arrayOverA_spec hoA
  obtain ⟨comp3, a3, kA3, l1, l2, l3, l4, l5⟩ := Cond.arrayOver_spec hoL
  refine ⟨(fun c => match c with | 0 => c0 | 1 => c1 | 2 => c2 | 3 => c3 | 4 => c4 | 5 => c5 | 6 => c6 | _ => c7, fun c => match c with | 0 => i0 | 1 => i1 | 2 => i2 | 3 => i3 | 4 => i4 | 5 => i5 | 6 => i6 | _ => i7), (fun k => match k with | 2 => a2 | 3 => a3 | _ => a0), ⟨fun c q hq => ?_, fun k q hq => ?_⟩, va_AO.of hoL, va_AOA.of hoA⟩
  · match c, hq with
    | 0, hq => cases hq; exact k0
    | 1, hq => cases hq; exact k1
    | 2, hq => cases hq; exact k2
    | 3, hq => cases hq; exact k3
    | 4, hq => cases hq; exact k4
    | 5, hq => cases hq; exact k5
    | 6, hq => cases hq; exact k6
    | 7, hq => cases hq; exact k7
    | n + 8, hq => cases hq
  · match k, hq with
    | 0, hq => cases hq; exact ⟨f0, g0⟩
    | 1, hq => cases hq; exact ⟨f0, g0⟩
    | 2, hq => cases hq; exact ⟨fun n z => ⟨fun k h => (by cases h), kA2, j3, comp2, j4⟩, j5⟩
    | 3, hq => cases hq; exact ⟨fun n z => ⟨fun k h => (by cases h), kA3, l3, comp3, l4⟩, kA3, comp3, l3, l4, l1, l5⟩
    | 4, hq => cases hq; exact ⟨f0, g0⟩
    | n + 5, hq => cases hq
set_option maxRecDepth 100000 in
theorem lw_nI : ∀ w ∈ wN, w ∈ lw_tbl := by decide +kernel
theorem lw_nT : ∀ w ∈ wN, w.onTables = true := by decide +kernel
theorem lw_N {s : State} {b : Nat} (hts : ∀ w ∈ lw_tbl, w.before #[Value.ref b] s = true) : qNe s := fun w h => va_Nw.of (lw_nT w h) (hts w (lw_nI w h))
