/-! ===== the law: its loop ===== -/
theorem and31 (x : Int32) : ∃ k : Nat, k < 32 ∧ x &&& 31 = qI (k : Int) := by
  refine ⟨(x &&& 31).toBitVec.toNat, ?_, ?_⟩
  · rw [Int32.toBitVec_and, BitVec.toNat_and]
    exact Nat.lt_of_le_of_lt Nat.and_le_right (by decide)
  · rw [← qI_nat]
    apply Int32.toBitVec_inj.mp
    show _ = BitVec.ofNat 32 _
    rw [BitVec.ofNat_toNat, BitVec.setWidth_eq]

set_option maxRecDepth 100000 in
set_option maxHeartbeats 4000000 in
theorem lw_loop {p : Program} {l : Launch} {e : Env} {s : State} {m : MethodId} {below : List Frame} {meth : Method} {c : Code} {b L : Nat} {sc9 : Nat → Int32} {D : va_G} {cy : Nat → ClassId} {A : Nat → Prop} {Q : State → Prop} (hlt9 : l.stackTraces = false) (B9 : lwB p s m c b L sc9 D cy A) {x mo oa : Nat} (kend : ∀ (H : Heap) (locs : List Loc) (ls : Array Slot), va_S A s.heap H locs → W p l e room_1 s m #[Value.ref b] below meth c H locs 753 7414 Q (F0 m 1426 ls [])) : ∀ (n t : Nat), L < 6 * t + n → 6 * t ≤ L → ∀ (T : LSt) (hz : Nat) (HZ : Nat → LSt) (len : Nat) (tx : Nat → Int) (th : Int) (W9 M9 : va_W) (g : Nat → Int64) (H : Heap) (locs : List Loc) (ls : Array Slot), lwI cy x mo T hz HZ len tx th W9 M9 → va_P D vwCl [W9, M9, [(oa, aJ cy 1 g)]].flatten H → va_D A [W9, M9, [(oa, aJ cy 1 g)]].flatten → va_S A s.heap H locs → lv_has ls 9 (lwL b x mo oa t) → W p l e room_1 s m #[Value.ref b] below meth c H locs (241 + t) (4342 + 6 * t) Q (F0 m 23 ls []) := by
  have B8 := B9
  obtain ⟨hx, hb, hml, hown, hg, hX, hbl, hbA, hA, hK, hN, hEx9, hNc9, hL9⟩ := B9
  intro n
  induction n with
  | zero => intro t h1 h2; exact absurd h1 (by omega)
  | succ n ih =>
    intro t hn9 ht9 T hz HZ len tx th W9 M9 g H locs ls hI9 hP hD hS hl
    have hl : lv_has ls 9 [(0, .ref (b)), (1, .ref (x)), (2, .ref (mo)), (3, .ref (oa)), (4, .int (qI (((6 * t : Nat) : Int))))] := hl
    refine lv_iload hx hb dL_law_23 (lv_at hl 4 rfl) ?_
    refine lv_aload_n hx hb dL_law_25 rfl (lv_at hl 0 rfl) ?_
    refine q_slen hx hb hX hbl hbA hS dL_law_26 ?_
    refine q_bipush hx hb dL_law_27 (by decide) ?_
    refine q_isub hx hb dL_law_29 ?_
    refine q_icmp_gt (tgt := 1426) hx hb dL_law_30 (by decide) (by omega) (fun c_30 => ?_) (fun c_30 => ?_)
    · refine W.widen (k := 753) (n := 7414) (by omega) (by omega) ?_
      exact kend H locs ls hS
    · have ht6 : 6 * t + 6 ≤ L := by omega
      obtain ⟨k9, hk9, e9⟩ := and31 (sc9 (6 * t))
      refine lv_aload_n hx hb dL_law_33 rfl (lv_at hl 0 rfl) ?_
      refine lv_iload hx hb dL_law_34 (lv_at hl 4 rfl) ?_
      refine q_sld (j := 6 * t) hx hb hX hbl hbA hS (by omega) rfl dL_law_36 ?_
      refine q_bipush hx hb dL_law_37 (by decide) ?_
      refine lv_iand hx hb dL_law_39 ?_
      refine q_top (v2 := .int (qI ((k9 : Nat) : Int))) (congrArg Value.int (by rw [qI_self]; exact e9)) ?_
      have K9 : lwK p l e s m below meth c b D cy A Q x mo oa t (241 + t) (4342 + 6 * t) := by
        intro T hz HZ len tx th W9 M9 g H locs ls hI9 hP hD hS hl
        refine q_iinc (k := 4) (lv' := [(4, .int (qI ((((6 * t : Nat) : Int)) + (6)))), (0, .ref (b)), (1, .ref (x)), (2, .ref (mo)), (3, .ref (oa))]) hx hb dL_law_1420 hl rfl (by decide) rfl (fun ls hl => ?_)
        refine lv_goto (tgt := 23) hx hb dL_law_1423 (by decide) ?_
        rw [show (((6 * t : Nat) : Int)) + (6) = ((6 * (t + 1) : Nat) : Int) by omega] at hl
        have h9 := ih (t + 1) (by omega) (by omega) T hz HZ len tx th W9 M9 g H locs ls hI9 hP hD hS (lv_sub hl [1, 2, 3, 4, 0] rfl)
        rw [show 4342 + 6 * (t + 1) = 4342 + 6 * t + 6 by omega, show 241 + (t + 1) = 241 + t + 1 by omega] at h9
        exact h9
      rcases (show k9 = 0 ∨ k9 = 1 ∨ k9 = 2 ∨ k9 = 3 ∨ k9 = 4 ∨ k9 = 5 ∨ k9 = 6 ∨ k9 = 7 ∨ k9 = 8 ∨ k9 = 9 ∨ k9 = 10 ∨ k9 = 11 ∨ k9 = 12 ∨ k9 = 13 ∨ k9 = 14 ∨ k9 = 15 ∨ k9 = 16 ∨ k9 = 17 ∨ k9 = 18 ∨ k9 = 19 ∨ k9 = 20 ∨ k9 = 21 ∨ k9 = 22 ∨ 22 < k9 by omega) with c9 | c9 | c9 | c9 | c9 | c9 | c9 | c9 | c9 | c9 | c9 | c9 | c9 | c9 | c9 | c9 | c9 | c9 | c9 | c9 | c9 | c9 | c9 | c9
      · refine q_tableIn (off := 108) (tgt := 148) hx hb (0) (by omega) dL_law_40 (by decide) ?_
        exact lw_add hlt9 B8 ht6 (by omega) hI9 hP hD hS hl K9
      · refine q_tableIn (off := 212) (tgt := 252) hx hb (1) (by omega) dL_law_40 (by decide) ?_
        exact lw_remove hlt9 B8 ht6 (by omega) hI9 hP hD hS hl K9
      · refine q_tableIn (off := 268) (tgt := 308) hx hb (2) (by omega) dL_law_40 (by decide) ?_
        exact lw_setStrength hlt9 B8 ht6 (by omega) hI9 hP hD hS hl K9
      · refine q_tableIn (off := 336) (tgt := 376) hx hb (3) (by omega) dL_law_40 (by decide) ?_
        exact lw_setNumber hlt9 B8 ht6 (by omega) hI9 hP hD hS hl K9
      · refine q_tableIn (off := 404) (tgt := 444) hx hb (4) (by omega) dL_law_40 (by decide) ?_
        exact lw_setStay hlt9 B8 ht6 (by omega) hI9 hP hD hS hl K9
      · refine q_tableIn (off := 472) (tgt := 512) hx hb (5) (by omega) dL_law_40 (by decide) ?_
        exact lw_edit hlt9 B8 ht6 (by omega) hI9 hP hD hS hl K9
      · refine q_tableIn (off := 552) (tgt := 592) hx hb (6) (by omega) dL_law_40 (by decide) ?_
        exact lw_endEdits hlt9 B8 ht6 (by omega) hI9 hP hD hS hl K9
      · refine q_tableIn (off := 565) (tgt := 605) hx hb (7) (by omega) dL_law_40 (by decide) ?_
        exact lw_settleFrom hlt9 B8 ht6 (by omega) hI9 hP hD hS hl K9
      · refine q_tableIn (off := 621) (tgt := 661) hx hb (8) (by omega) dL_law_40 (by decide) ?_
        exact lw_append hlt9 B8 ht6 (by omega) hI9 hP hD hS hl K9
      · refine q_tableIn (off := 677) (tgt := 717) hx hb (9) (by omega) dL_law_40 (by decide) ?_
        exact lw_clearBuffer hlt9 B8 ht6 (by omega) hI9 hP hD hS hl K9
      · refine q_tableIn (off := 690) (tgt := 730) hx hb (10) (by omega) dL_law_40 (by decide) ?_
        exact lw_firstError hlt9 B8 ht6 (by omega) hI9 hP hD hS hl K9
      · refine q_tableIn (off := 703) (tgt := 743) hx hb (11) (by omega) dL_law_40 (by decide) ?_
        exact lw_load hlt9 B8 ht6 (by omega) hI9 hP hD hS hl K9
      · refine q_tableIn (off := 747) (tgt := 787) hx hb (12) (by omega) dL_law_40 (by decide) ?_
        exact lw_undo hlt9 B8 ht6 (by omega) hI9 hP hD hS hl K9
      · refine q_tableIn (off := 791) (tgt := 831) hx hb (13) (by omega) dL_law_40 (by decide) ?_
        exact lw_place hlt9 B8 ht6 (by omega) hI9 hP hD hS hl K9
      · refine q_tableIn (off := 859) (tgt := 899) hx hb (14) (by omega) dL_law_40 (by decide) ?_
        exact lw_condition hlt9 B8 ht6 (by omega) hI9 hP hD hS hl K9
      · refine q_tableIn (off := 927) (tgt := 967) hx hb (15) (by omega) dL_law_40 (by decide) ?_
        exact lw_edited hlt9 B8 ht6 (by omega) hI9 hP hD hS hl K9
      · refine q_tableIn (off := 995) (tgt := 1035) hx hb (16) (by omega) dL_law_40 (by decide) ?_
        exact lw_widest hlt9 B8 ht6 (by omega) hI9 hP hD hS hl K9
      · refine q_tableIn (off := 1063) (tgt := 1103) hx hb (17) (by omega) dL_law_40 (by decide) ?_
        exact lw_count hlt9 B8 ht6 (by omega) hI9 hP hD hS hl K9
      · refine q_tableIn (off := 1119) (tgt := 1159) hx hb (18) (by omega) dL_law_40 (by decide) ?_
        exact lw_ifEdited hlt9 B8 ht6 (by omega) hI9 hP hD hS hl K9
      · refine q_tableIn (off := 1211) (tgt := 1251) hx hb (19) (by omega) dL_law_40 (by decide) ?_
        exact lw_ifRemoved hlt9 B8 ht6 (by omega) hI9 hP hD hS hl K9
      · refine q_tableIn (off := 1267) (tgt := 1307) hx hb (20) (by omega) dL_law_40 (by decide) ?_
        exact lw_neededStrength hlt9 B8 ht6 (by omega) hI9 hP hD hS hl K9
      · refine q_tableIn (off := 1323) (tgt := 1363) hx hb (21) (by omega) dL_law_40 (by decide) ?_
        exact lw_freedom hlt9 B8 ht6 (by omega) hI9 hP hD hS hl K9
      · refine q_tableIn (off := 1366) (tgt := 1406) hx hb (22) (by omega) dL_law_40 (by decide) ?_
        exact lw_digest hlt9 B8 ht6 (by omega) hI9 hP hD hS hl K9
      · refine q_tableOut (tgt := 1420) hx hb dL_law_40 (by decide) (by omega) ?_
        refine W.widen (k := 241 + t + 1) (n := 4342 + 6 * t + 6) (by omega) (by omega) ?_
        exact K9 T hz HZ len tx th W9 M9 g H locs ls hI9 hP hD hS hl

set_option maxRecDepth 100000 in
set_option maxHeartbeats 4000000 in
theorem lw_go {p : Program} {l : Launch} {e : Env} {s : State} {m : MethodId} {below : List Frame} {meth : Method} {c : Code} {b L : Nat} {sc9 : Nat → Int32} {D : va_G} {cy : Nat → ClassId} {A : Nat → Prop} {Q : State → Prop} (hlt9 : l.stackTraces = false) (B9 : lwB p s m c b L sc9 D cy A) (hCx : qCx s) (kend : ∀ (H : Heap) (locs : List Loc) (ls : Array Slot), va_S A s.heap H locs → W p l e room_1 s m #[Value.ref b] below meth c H locs 753 7414 Q (F0 m 1426 ls [])) {ls : Array Slot} (hl : lv_has ls 9 [(0, .ref (b))]) : W p l e room_1 s m #[Value.ref b] below meth c s.heap [] 0 0 Q (F0 m 0 ls []) := by
  obtain ⟨hx, hb, hml, hown, hg, hX, hbl, hbA, hA, hK, hN, hEx9, hNc9, hL9⟩ := B9
  have hP : va_P D vwCl ([] : List va_W).flatten s.heap := fun k q h => by cases h
  have hD : va_D A ([] : List va_W).flatten := ⟨fun i j p q h => (by cases h), fun k q h => (by cases h)⟩
  have hS : va_S A s.heap s.heap [] := va_S.rf
  skip
  refine qb_new (ci := 7) (fs := [.null, .null, .null, .null, .null, .null, .int (qz (false)), .null, .int (qI (0)), .null]) hx hb hg f_X7 tyX7 tyX7_ok hown m_787 m_788 m_170 hK hP hD hS hA rfl (by decide +kernel) (Nat.le_of_ble_eq_true rfl) (Nat.le_of_ble_eq_true rfl) dL_law_0 (fun q_0 H hP hD hS => ?_)
  have hP : va_P D vwCl [[(q_0, .inr (7, [.null, .null, .null, .null, .null, .null, .int (qz (false)), .null, .int (qI (0)), .null]))]].flatten H := hP
  have hD : va_D A [[(q_0, .inr (7, [.null, .null, .null, .null, .null, .null, .int (qz (false)), .null, .int (qI (0)), .null]))]].flatten := hD
  refine lv_dup hx hb dL_law_3 rfl ?_
  refine q_backC [0] [] (br := []) hP hD hS hA (va_runI (As := []) (rest := [.ref (q_0)]) ⟨hx, hb, hml, hown, hg⟩ (c_X7_init l D cy q_0 _) (ci_L_75 hg rfl rfl ⟨by decide, by decide⟩) ⟨q_blindC, fun U hU hW => ⟨rfl, (q_preM [.ref (q_0)] hK hN hP hD [0] (by decide) rfl U hU hW).2, hCx.moved hW.alike⟩⟩ rfl rfl hl.1 rfl (lv_room (Nat.le_of_ble_eq_true rfl)) dL_law_4 ⟨(Nat.le_of_ble_eq_true rfl), (Nat.le_of_ble_eq_true rfl)⟩) rfl rfl (by decide) (fun u_4 H locs h_4 hP hD hS => ?_)
  have hP : va_P D vwCl [u_4].flatten H := hP
  have hD : va_D A [u_4].flatten := hD
  refine lv_astore_n (lv' := [(1, .ref (q_0)), (0, .ref (b))]) hx hb dL_law_7 rfl hl (by decide) rfl (fun ls hl => ?_)
  refine qb_new (ci := 8) (fs := [.int (qI (0)), .null, .int (qI (0)), .null, .int (qI (0)), .null, .null, .int (qI (0)), .null, .null, .null, .null, .null, .int (qz (false)), .int (qI (0)), .int (qI (0)), .int (qI (0)), .int (qz (false)), .null, .null, .long (0)]) hx hb hg f_X8 tyX8 tyX8_ok hown m_789 m_790 m_484 hK hP hD hS hA rfl (by decide +kernel) (Nat.le_of_ble_eq_true rfl) (Nat.le_of_ble_eq_true rfl) dL_law_8 (fun q_8 H hP hD hS => ?_)
  have hP : va_P D vwCl [u_4, [(q_8, .inr (8, [.int (qI (0)), .null, .int (qI (0)), .null, .int (qI (0)), .null, .null, .int (qI (0)), .null, .null, .null, .null, .null, .int (qz (false)), .int (qI (0)), .int (qI (0)), .int (qI (0)), .int (qz (false)), .null, .null, .long (0)]))]].flatten H := hP
  have hD : va_D A [u_4, [(q_8, .inr (8, [.int (qI (0)), .null, .int (qI (0)), .null, .int (qI (0)), .null, .null, .int (qI (0)), .null, .null, .null, .null, .null, .int (qz (false)), .int (qI (0)), .int (qI (0)), .int (qI (0)), .int (qz (false)), .null, .null, .long (0)]))]].flatten := hD
  refine lv_dup hx hb dL_law_11 rfl ?_
  refine q_backC [1] [0] (br := [u_4]) hP hD hS hA (va_runI (As := []) (rest := [.ref (q_8)]) ⟨hx, hb, hml, hown, hg⟩ (c_X8_init l D cy q_8 _) (ci_L_78 hg rfl rfl ⟨by decide, by decide⟩) ⟨q_blindC, fun U hU hW => ⟨rfl, (q_preM [.ref (q_8)] hK hN hP hD [1] (by decide) rfl U hU hW).2, hCx.moved hW.alike⟩⟩ rfl rfl hl.1 rfl (lv_room (Nat.le_of_ble_eq_true rfl)) dL_law_12 ⟨(Nat.le_of_ble_eq_true rfl), (Nat.le_of_ble_eq_true rfl)⟩) rfl rfl (by decide) (fun u_12 H locs h_12 hP hD hS => ?_)
  have hP : va_P D vwCl [u_4, u_12].flatten H := hP
  have hD : va_D A [u_4, u_12].flatten := hD
  refine lv_astore_n (lv' := [(2, .ref (q_8)), (1, .ref (q_0)), (0, .ref (b))]) hx hb dL_law_15 rfl hl (by decide) rfl (fun ls hl => ?_)
  refine q_iconst hx hb dL_law_16 ?_
  refine qb_newJ (N := 1) hx hb hg hK hP hD hS hA (by omega) (Nat.le_of_ble_eq_true rfl) (Nat.le_of_ble_eq_true rfl) dL_law_17 (fun q_17 H hP hD hS => ?_)
  have hP : va_P D vwCl [u_4, u_12, [(q_17, aJ cy 1 (fun _ => 0))]].flatten H := hP
  have hD : va_D A [u_4, u_12, [(q_17, aJ cy 1 (fun _ => 0))]].flatten := hD
  refine lv_astore_n (lv' := [(3, .ref (q_17)), (2, .ref (q_8)), (1, .ref (q_0)), (0, .ref (b))]) hx hb dL_law_19 rfl hl (by decide) rfl (fun ls hl => ?_)
  refine q_iconst hx hb dL_law_20 ?_
  refine lv_istore (lv' := [(4, .int (qI (0))), (3, .ref (q_17)), (2, .ref (q_8)), (1, .ref (q_0)), (0, .ref (b))]) hx hb dL_law_21 hl (by decide) rfl (fun ls hl => ?_)
  exact lw_loop (oa := q_17) hlt9 ⟨hx, hb, hml, hown, hg, hX, hbl, hbA, hA, hK, hN, hEx9, hNc9, hL9⟩ kend (L + 1) 0 (by omega) (by omega) T0 0 (fun _ => T0) 0 z1 0 u_4 u_12 (fun _ => 0) _ _ _ ⟨h_4, h_12, ⟨T0_ok, by decide⟩, (fun i hi => absurd hi (Nat.not_lt_zero i)), by decide⟩ hP hD hS (lv_sub hl [4, 3, 2, 1, 0] rfl)

/-! ===== the law: what the Statement's words give at its start ===== -/
theorem lw_hg {s : State} {b : Nat} (hts : ∀ w ∈ lw_tbl, w.before #[Value.ref b] s = true) : ∀ w ∈ wG, w.before #[Value.ref b] s = true := fun w h => hts w (List.mem_filter.mp h).1
theorem lw_ac {s : State} {b : Nat} {ty : FieldType} (h : (Cond.arrayClass ty).before #[Value.ref b] s = true) : ∃ cA, ArrOfT s cA ty ∧ s.vm.findClass ("[" ++ ty.toString) = some cA := by
  obtain ⟨cA, kA, comp, h1, h2, h3⟩ := Cond.arrayClass_spec h
  exact ⟨cA, fun n z => ⟨fun k h => (by cases h), kA, h2, comp, h3⟩, h1⟩
set_option maxRecDepth 100000 in
theorem lw_oA : Cond.arrayOver (.array .int) ∈ lw_tbl := by decide +kernel
set_option maxRecDepth 100000 in
theorem lw_oL : Cond.arrayOver (.object "StrengthLayout$Layout") ∈ lw_tbl := by decide +kernel
theorem lw_K {s : State} {b : Nat} (hts : ∀ w ∈ lw_tbl, w.before #[Value.ref b] s = true) : ∃ (D : va_G) (cy : Nat → ClassId), va_K D vwCl (qT cy) s ∧ qCx s := by
  have hg := lw_hg hts
  obtain ⟨⟨c0, i0, k0⟩, ⟨c1, i1, k1⟩, ⟨c2, i2, k2⟩, ⟨c3, i3, k3⟩, ⟨c4, i4, k4⟩, ⟨c5, i5, k5⟩, ⟨c6, i6, k6⟩, ⟨c7, i7, k7⟩, ⟨c8, i8, k8⟩⟩ : (∃ (cC : ClassId) (iS : Nat → Nat), u_Kn s RX0 TX0 1 cC iS) ∧ (∃ (cC : ClassId) (iS : Nat → Nat), u_Kn s RX1 TX1 5 cC iS) ∧ (∃ (cC : ClassId) (iS : Nat → Nat), u_Kn s RX2 TX2 3 cC iS) ∧ (∃ (cC : ClassId) (iS : Nat → Nat), u_Kn s RX3 TX3 4 cC iS) ∧ (∃ (cC : ClassId) (iS : Nat → Nat), u_Kn s RX4 TX4 3 cC iS) ∧ (∃ (cC : ClassId) (iS : Nat → Nat), u_Kn s RX5 TX5 6 cC iS) ∧ (∃ (cC : ClassId) (iS : Nat → Nat), u_Kn s RX6 TX6 8 cC iS) ∧ (∃ (cC : ClassId) (iS : Nat → Nat), u_Kn s RX7 TX7 10 cC iS) ∧ (∃ (cC : ClassId) (iS : Nat → Nat), u_Kn s RX8 TX8 21 cC iS) := ⟨u_known hg f_X0 (hg _ m_29), u_known hg f_X1 (hg _ m_227), u_known hg f_X2 (hg _ m_230), u_known hg f_X3 (hg _ m_117), u_known hg f_X4 (hg _ m_32), u_known hg f_X5 (hg _ m_109), u_known hg f_X6 (hg _ m_238), u_known hg f_X7 (hg _ m_788), u_known hg f_X8 (hg _ m_790)⟩
  obtain ⟨a0, f0, g0⟩ := lw_ac (hg _ m_6)
  obtain ⟨a1, f1, g1⟩ := lw_ac (hg _ m_468)
  obtain ⟨a4, f4, g4⟩ := lw_ac (hg _ m_791)
  have hoA := hts _ lw_oA
  have hoL := hts _ lw_oL
  obtain ⟨comp2, a2, kA2, j1, j2, j3, j4, j5⟩ := arrayOverA_spec hoA
  obtain ⟨comp3, a3, kA3, l1, l2, l3, l4, l5⟩ := Cond.arrayOver_spec hoL
  refine ⟨(fun c => match c with | 0 => c0 | 1 => c1 | 2 => c2 | 3 => c3 | 4 => c4 | 5 => c5 | 6 => c6 | 7 => c7 | _ => c8, fun c => match c with | 0 => i0 | 1 => i1 | 2 => i2 | 3 => i3 | 4 => i4 | 5 => i5 | 6 => i6 | 7 => i7 | _ => i8), (fun k => match k with | 0 => a0 | 1 => a1 | 2 => a2 | 3 => a3 | _ => a4), ⟨fun c q hq => ?_, fun k q hq => ?_⟩, va_AO.of hoL, va_AOA.of hoA⟩
  · match c, hq with
    | 0, hq => cases hq; exact k0
    | 1, hq => cases hq; exact k1
    | 2, hq => cases hq; exact k2
    | 3, hq => cases hq; exact k3
    | 4, hq => cases hq; exact k4
    | 5, hq => cases hq; exact k5
    | 6, hq => cases hq; exact k6
    | 7, hq => cases hq; exact k7
    | 8, hq => cases hq; exact k8
    | n + 9, hq => cases hq
  · match k, hq with
    | 0, hq => cases hq; exact ⟨f0, g0⟩
    | 1, hq => cases hq; exact ⟨f1, g1⟩
    | 2, hq => cases hq; exact ⟨fun n z => ⟨fun k h => (by cases h), kA2, j3, comp2, j4⟩, j5⟩
    | 3, hq => cases hq; exact ⟨fun n z => ⟨fun k h => (by cases h), kA3, l3, comp3, l4⟩, kA3, comp3, l3, l4, l1, l5⟩
    | 4, hq => cases hq; exact ⟨f4, g4⟩
    | n + 5, hq => cases hq
set_option maxRecDepth 100000 in
theorem lw_nI : ∀ w ∈ wN, w ∈ lw_tbl := by decide +kernel
theorem lw_nT : ∀ w ∈ wN, w.onTables = true := by decide +kernel
theorem lw_N {s : State} {b : Nat} (hts : ∀ w ∈ lw_tbl, w.before #[Value.ref b] s = true) : qNe s := fun w h => va_Nw.of (lw_nT w h) (hts w (lw_nI w h))
abbrev lwE : List Cond := [.laysStatic Bundle.tN "UNASSIGNED_STACK" Bundle.steD, .laysStatic Bundle.tN "SUPPRESSED_SENTINEL" Bundle.listD, .initialized Bundle.tN, .castable EI EI, .castable EA EA, .castable ES ES, dcl "java/lang/RuntimeException", dcl "java/lang/Exception", dcl "java/lang/Throwable", .stringRef RX7 248 TI, .stringRef RX7 255 TA, .stringRef RX7 260 TS]
set_option maxRecDepth 100000 in
theorem lw_eI : ∀ w ∈ lwE, w ∈ lw_tbl := by decide +kernel
abbrev lwG : List Cond := [.isRef (.static Bundle.tN "UNASSIGNED_STACK" Bundle.steD), .isRef (.static Bundle.tN "SUPPRESSED_SENTINEL" Bundle.listD), .not (.castable EA EI), .not (.castable ES EI), .not (.castable ES EA)]
set_option maxRecDepth 100000 in
theorem lw_gI : ∀ w ∈ lwG, w ∈ flatC (Jvm.Cond.and given_1 narrow_1) := by decide +kernel
theorem lw_str {s : State} {b k : Nat} {tx : String} (hi : (Cond.instantiable RX7 10).before #[Value.ref b] s = true) (h : (Cond.stringRef RX7 k tx).before #[Value.ref b] s = true) : ∃ a, vk_R RX7 k tx a s := by
  obtain ⟨cC, kC, hfc, -⟩ := Cond.instantiable_spec hi
  obtain ⟨-, -, -, a, -, -, -, -, -, hev⟩ := Cond.stringRef_spec hfc h
  exact ⟨a, vk_R.of h hev⟩
theorem lw_E {s : State} {b : Nat} (hts : ∀ w ∈ lw_tbl, w.before #[Value.ref b] s = true) (hgv : (Jvm.Cond.and given_1 narrow_1).before #[Value.ref b] s = true) : qEx (fun q => s.heap.size ≤ q) s ∧ qNc s := by
  have hE : ∀ w ∈ lwE, w.before #[Value.ref b] s = true := fun w h => hts w (lw_eI w h)
  have hG : ∀ w ∈ lwG, w.before #[Value.ref b] s = true := fun w h => flat_of_before _ hgv w (lw_gI w h)
  have hi := lw_hg hts _ m_788
  have e : ∀ (k : Nat) (w : Cond), lwE[k]? = some w → w.before #[Value.ref b] s = true := fun k w h => hE w (List.mem_of_getElem? h)
  have f : ∀ (k : Nat) (w : Cond), lwG[k]? = some w → w.before #[Value.ref b] s = true := fun k w h => hG w (List.mem_of_getElem? h)
  refine ⟨⟨⟨vx_Zqof (e 0 _ rfl) (e 2 _ rfl) (f 0 _ rfl) (fun a h1 h2 => absurd h2 (Nat.not_le.mpr h1)), vx_Zqof (e 1 _ rfl) (e 2 _ rfl) (f 1 _ rfl) (fun a h1 h2 => absurd h2 (Nat.not_le.mpr h1))⟩, ⟨va_Nw.of rfl (e 3 _ rfl), va_Nw.of rfl (e 4 _ rfl), va_Nw.of rfl (e 5 _ rfl)⟩, ⟨va_Nw.of rfl (e 6 _ rfl), va_Nw.of rfl (e 7 _ rfl), va_Nw.of rfl (e 8 _ rfl)⟩, lw_str hi (e 9 _ rfl), lw_str hi (e 10 _ rfl), lw_str hi (e 11 _ rfl)⟩, va_Nc.of (f 2 _ rfl), va_Nc.of (f 3 _ rfl), va_Nc.of (f 4 _ rfl)⟩
