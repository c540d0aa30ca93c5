/-! ===== the reference's saved rows ===== -/
def rowS (sd : Nat → Int) (r : Nat) : Nat → Int := fun m => sd (115 * r + m)
def svR (hz : Nat) (z sd u : Nat → Int) : Prop := (∀ m, m < 115 → rowS u (min (hz + 1) 8 - 1) m = z m) ∧ ∀ r, r + 1 < min (hz + 1) 8 → ∀ m, m < 115 → rowS u r m = rowS sd (r + hz + 1 - min (hz + 1) 8) m
theorem sv1_step {sd s1 : Nat → Int} {j : Nat} (h : ∀ m, m < 920 → s1 m = if m < j then sd (m + 115) else sd m) (hj : j < 805) : ∀ m, m < 920 → qu s1 j (s1 (115 + j)) m = if m < j + 1 then sd (m + 115) else sd m := by
  intro m hm
  by_cases e : m = j
  · subst e
    rw [qu_s, if_pos (by omega), h (115 + m) (by omega), if_neg (by omega), Nat.add_comm]
  · rw [qu_n _ _ e, h m hm]
    by_cases e2 : m < j
    · rw [if_pos e2, if_pos (by omega)]
    · rw [if_neg e2, if_neg (by omega)]
theorem sv2_step {z s1 s2 : Nat → Int} {r k : Nat} (h : ∀ m, s2 m = if 115 * r ≤ m ∧ m < 115 * r + k then z (m - 115 * r) else s1 m) : ∀ m, qu s2 (115 * r + k) (z k) m = if 115 * r ≤ m ∧ m < 115 * r + (k + 1) then z (m - 115 * r) else s1 m := by
  intro m
  by_cases e : m = 115 * r + k
  · subst e
    rw [qu_s, if_pos (by omega), Nat.add_sub_cancel_left]
  · rw [qu_n _ _ e, h m]
    by_cases e2 : 115 * r ≤ m ∧ m < 115 * r + k
    · rw [if_pos e2, if_pos (by omega)]
    · rw [if_neg e2, if_neg (by omega)]
theorem sv_new {z s1 s2 : Nat → Int} {r : Nat} (h : ∀ m, s2 m = if 115 * r ≤ m ∧ m < 115 * r + 115 then z (m - 115 * r) else s1 m) : ∀ m, m < 115 → rowS s2 r m = z m := by
  intro m hm
  unfold rowS
  rw [h, if_pos (by omega), Nat.add_sub_cancel_left]
theorem sv_old {z s1 s2 : Nat → Int} {r : Nat} (h : ∀ m, s2 m = if 115 * r ≤ m ∧ m < 115 * r + 115 then z (m - 115 * r) else s1 m) {q : Nat} (hq : q < r) : ∀ m, m < 115 → rowS s2 q m = s1 (115 * q + m) := by
  intro m hm
  unfold rowS
  rw [h, if_neg (by omega)]
/-- rows that agree tell one layout -/
theorem zS_ext {a b : Nat → Int} (h : ∀ m, m < 115 → a m = b m) (hc : (b 20).toNat ≤ 16) (he : (b 101).toNat ≤ 4) : LEq (zS a) (zS b) := by
  refine ⟨fun i hi => h i (by omega), fun i hi => h _ (by omega), by show (a 20).toNat = (b 20).toNat; rw [h 20 (by decide)], fun f i hf hi => ?_, by show (a 101).toNat = (b 101).toNat; rw [h 101 (by decide)], fun f i hf hi => ?_⟩
  · have hi : i < (b 20).toNat := hi
    show a (21 + 5 * i + f) = b (21 + 5 * i + f)
    exact h _ (by omega)
  · have hi : i < (b 101).toNat := hi
    show row5 _ _ _ _ _ f = row5 _ _ _ _ _ f
    rw [h _ (by omega), h _ (by omega), h _ (by omega)]
def mR (sd : Nat → Int) (r : Nat) (T : LSt) : Prop := LEq (zS (rowS sd r)) T ∧ 0 ≤ rowS sd r 20 ∧ 0 ≤ rowS sd r 101 ∧ (rowS sd r 20).toNat ≤ 16 ∧ (rowS sd r 101).toNat ≤ 4
theorem mR.ext {sd u : Nat → Int} {r q : Nat} {T : LSt} (h : mR sd r T) (e : ∀ m, m < 115 → rowS u q m = rowS sd r m) : mR u q T := by
  obtain ⟨h1, h2, h3, h4, h5⟩ := h
  exact ⟨LEq.tr (zS_ext e h4 h5) h1, by rw [e 20 (by decide)]; exact h2, by rw [e 101 (by decide)]; exact h3, by rw [e 20 (by decide)]; exact h4, by rw [e 101 (by decide)]; exact h5⟩
theorem mh_push {hz : Nat} {z sd u : Nat → Int} {T : LSt} {HZ : Nat → LSt} (hhz : hz ≤ 8) (h : svR hz z sd u) (hT : LEq (zS z) T ∧ 0 ≤ z 20 ∧ 0 ≤ z 101 ∧ (z 20).toNat ≤ 16 ∧ (z 101).toNat ≤ 4) (hh : ∀ i, i < hz → mR sd (hz - 1 - i) (HZ i)) : ∀ i, i < min (hz + 1) 8 → mR u (min (hz + 1) 8 - 1 - i) (pushH T HZ i) := by
  intro i hi
  unfold pushH
  by_cases e : i = 0
  · subst e
    rw [if_pos rfl, Nat.sub_zero]
    refine ⟨LEq.tr (zS_ext h.1 hT.2.2.2.1 hT.2.2.2.2) hT.1, ?_, ?_, ?_, ?_⟩
    · rw [h.1 20 (by decide)]; exact hT.2.1
    · rw [h.1 101 (by decide)]; exact hT.2.2.1
    · rw [h.1 20 (by decide)]; exact hT.2.2.2.1
    · rw [h.1 101 (by decide)]; exact hT.2.2.2.2
  · rw [if_neg e]
    refine (hh (i - 1) (by omega)).ext (fun m hm => ?_)
    rw [h.2 _ (by omega) m hm]
    congr 1
    omega
theorem mh_pop {hz : Nat} {sd : Nat → Int} {HZ : Nat → LSt} (hh : ∀ i, i < hz → mR sd (hz - 1 - i) (HZ i)) : ∀ i, i < hz - 1 → mR sd (hz - 1 - 1 - i) (HZ (i + 1)) := by
  intro i hi
  have := hh (i + 1) (by omega)
  rwa [show hz - 1 - (i + 1) = hz - 1 - 1 - i by omega] at this

set_option maxRecDepth 100000 in
set_option maxHeartbeats 4000000 in
theorem c_X8_save_lt (l : Launch) (D : va_G) (cy : Nat → ClassId) (mo mz msv mtx mmo mif mmg mtn mie mme mrd mas : Nat) (th ml tu : Int) (fi : Bool) (ro sp it : Int) (bl : Bool) (hh : Int64) (hz : Nat) (z sd : Nat → Int) (hhz : hz < 8) (sz : Nat) : qMet l yX8_save (.code yX8_save cX8_save 2 none) 1 [.ref (mo)] D cy [[(mo, .inr (8, [.int (qI (th)), .ref (mz), .int (qI (((hz : Nat) : Int))), .ref (msv), .int (qI (ml)), .ref (mtx), .ref (mmo), .int (qI (tu)), .ref (mif), .ref (mmg), .ref (mtn), .ref (mie), .ref (mme), .int (qz (fi)), .int (qI (ro)), .int (qI (sp)), .int (qI (it)), .int (qz (bl)), .ref (mrd), .ref (mas), .long (hh)]))], [(mz, aI cy 115 (z))], [(msv, aI cy 920 (sd))]] sz (va_Qv (S := Nat → Int) (fun u => svR hz z sd u) (qB D cy [[(mo, .inr (8, [.int (qI (th)), .ref (mz), .int (qI (((hz : Nat) : Int))), .ref (msv), .int (qI (ml)), .ref (mtx), .ref (mmo), .int (qI (tu)), .ref (mif), .ref (mmg), .ref (mtn), .ref (mie), .ref (mme), .int (qz (fi)), .int (qI (ro)), .int (qI (sp)), .int (qI (it)), .int (qz (bl)), .ref (mrd), .ref (mas), .long (hh)]))], [(mz, aI cy 115 (z))], [(msv, aI cy 920 (sd))]] sz (fun u => [[(mo, .inr (8, [.int (qI (th)), .ref (mz), .int (qI (((min (hz + 1) 8 : Nat) : Int))), .ref (msv), .int (qI (ml)), .ref (mtx), .ref (mmo), .int (qI (tu)), .ref (mif), .ref (mmg), .ref (mtn), .ref (mie), .ref (mme), .int (qz (fi)), .int (qI (ro)), .int (qI (sp)), .int (qI (it)), .int (qz (bl)), .ref (mrd), .ref (mas), .long (hh)]))], [(mz, aI cy 115 (z))], [(msv, aI cy 920 (u))]])) (va_A [[(mo, .inr (8, [.int (qI (th)), .ref (mz), .int (qI (((hz : Nat) : Int))), .ref (msv), .int (qI (ml)), .ref (mtx), .ref (mmo), .int (qI (tu)), .ref (mif), .ref (mmg), .ref (mtn), .ref (mie), .ref (mme), .int (qz (fi)), .int (qI (ro)), .int (qI (sp)), .int (qI (it)), .int (qz (bl)), .ref (mrd), .ref (mas), .long (hh)]))], [(mz, aI cy 115 (z))], [(msv, aI cy 920 (sd))]].flatten sz)) := by
  refine q_ofMv (S := Nat → Int) (b1 := fun u => [[(mo, .inr (8, [.int (qI (th)), .ref (mz), .int (qI (((min (hz + 1) 8 : Nat) : Int))), .ref (msv), .int (qI (ml)), .ref (mtx), .ref (mmo), .int (qI (tu)), .ref (mif), .ref (mmg), .ref (mtn), .ref (mie), .ref (mme), .int (qz (fi)), .int (qI (ro)), .int (qI (sp)), .int (qI (it)), .int (qz (bl)), .ref (mrd), .ref (mas), .long (hh)]))], [(mz, aI cy 115 (z))], [(msv, aI cy 920 (u))]]) (post := fun u => svR hz z sd u) (by decide +kernel) (Nat.le_of_ble_eq_true rfl) ?_
  intro p e s m args below meth c Q A hx hb hml hown hg hQ hK hN hD hA H locs ls hP hS hl
  have hown : s.vm.findClass RX8 = some m.cls := hown
  have hl : lv_has ls 2 [(0, .ref (mo))] := hl
  refine lv_aload_n hx hb dX8_save_0 rfl (lv_at hl 0 rfl) ?_
  refine gf_X8_88 hx hb hg hown hK (fl_blk hP 0 rfl) 0 rfl rfl dX8_save_1 ?_
  refine q_bipush hx hb dX8_save_4 (by decide) ?_
  refine q_icmp_ne (tgt := 50) hx hb dX8_save_6 (by decide) (by omega) (fun c_6 => ?_) (fun c_6 => ?_)
  · skip
    refine q_iconst hx hb dX8_save_50 ?_
    refine lv_istore_n (lv' := [(1, .int (qI (0))), (0, .ref (mo))]) hx hb dX8_save_51 rfl hl (by decide) rfl (fun ls hl => ?_)
    have L_52 : ∀ (n_52 k : Nat) (s2 : Nat → Int), k ≤ 115 → 115 + 1 ≤ k + n_52 → (∀ m, s2 m = if 115 * hz ≤ m ∧ m < 115 * hz + k then z (m - 115 * hz) else sd m) → ∀ (H : Heap) (locs : List Loc) (ls : Array Slot), va_P D vwCl [[(mo, .inr (8, [.int (qI (th)), .ref (mz), .int (qI (((hz : Nat) : Int))), .ref (msv), .int (qI (ml)), .ref (mtx), .ref (mmo), .int (qI (tu)), .ref (mif), .ref (mmg), .ref (mtn), .ref (mie), .ref (mme), .int (qz (fi)), .int (qI (ro)), .int (qI (sp)), .int (qI (it)), .int (qz (bl)), .ref (mrd), .ref (mas), .long (hh)]))], [(mz, aI cy 115 (z))], [(msv, aI cy 920 (s2))]].flatten H → va_D A [[(mo, .inr (8, [.int (qI (th)), .ref (mz), .int (qI (((hz : Nat) : Int))), .ref (msv), .int (qI (ml)), .ref (mtx), .ref (mmo), .int (qI (tu)), .ref (mif), .ref (mmg), .ref (mtn), .ref (mie), .ref (mme), .int (qz (fi)), .int (qI (ro)), .int (qI (sp)), .int (qI (it)), .int (qz (bl)), .ref (mrd), .ref (mas), .long (hh)]))], [(mz, aI cy 115 (z))], [(msv, aI cy 920 (s2))]].flatten → va_S A s.heap H locs → lv_has ls 2 [(0, .ref (mo)), (1, .int (qI (((k : Nat) : Int))))] → W p l e (qrm 1) s m args below meth c H locs 0 0 Q (F0 m 52 ls []) := by
      intro n_52
      induction n_52 with
      | zero => intro k _ h1 h2; exact absurd h2 (by omega)
      | succ n_52 ih_52 =>
        intro k s2 hk_52 hn_52 hs2 H locs ls hP hD hS hl
        refine lv_iload_n hx hb dX8_save_52 rfl (lv_at hl 1 rfl) ?_
        refine q_bipush hx hb dX8_save_53 (by decide) ?_
        refine q_icmp_ge (tgt := 84) hx hb dX8_save_55 (by decide) (by omega) (fun c_55 => ?_) (fun c_55 => ?_)
        · skip
          refine lv_aload_n hx hb dX8_save_84 rfl (lv_at hl 0 rfl) ?_
          refine lv_dup hx hb dX8_save_85 rfl ?_
          refine gf_X8_88 hx hb hg hown hK (fl_blk hP 0 rfl) 0 rfl rfl dX8_save_86 ?_
          refine q_iconst hx hb dX8_save_89 ?_
          refine q_iadd hx hb dX8_save_90 ?_
          refine pf_X8_88 hx hb hg hown hK hP hD hS 0 0 rfl rfl rfl rfl (Nat.le_of_ble_eq_true rfl) dX8_save_91 (fun H locs hP hD hS => ?_)
          have hP : va_P D vwCl [[(mo, .inr (8, [.int (qI (th)), .ref (mz), .int (qI ((((hz : Nat) : Int)) + (1))), .ref (msv), .int (qI (ml)), .ref (mtx), .ref (mmo), .int (qI (tu)), .ref (mif), .ref (mmg), .ref (mtn), .ref (mie), .ref (mme), .int (qz (fi)), .int (qI (ro)), .int (qI (sp)), .int (qI (it)), .int (qz (bl)), .ref (mrd), .ref (mas), .long (hh)]))], [(mz, aI cy 115 (z))], [(msv, aI cy 920 (s2))]].flatten H := hP
          have hD : va_D A [[(mo, .inr (8, [.int (qI (th)), .ref (mz), .int (qI ((((hz : Nat) : Int)) + (1))), .ref (msv), .int (qI (ml)), .ref (mtx), .ref (mmo), .int (qI (tu)), .ref (mif), .ref (mmg), .ref (mtn), .ref (mie), .ref (mme), .int (qz (fi)), .int (qI (ro)), .int (qI (sp)), .int (qI (it)), .int (qz (bl)), .ref (mrd), .ref (mas), .long (hh)]))], [(mz, aI cy 115 (z))], [(msv, aI cy 920 (s2))]].flatten := hD
          have k9 : k = 115 := by omega
          subst k9
          have m9 : min (hz + 1) 8 = hz + 1 := by omega
          refine hQ _ _ _ _ s2 ⟨fun m hm => ?_, fun r hr m hm => ?_⟩ (by rw [m9]; exact hP) (by rw [m9]; exact hD) hS dX8_save_94
          · rw [m9, Nat.add_sub_cancel]; exact sv_new hs2 m hm
          · rw [m9, Nat.add_assoc, Nat.add_sub_cancel]; exact sv_old hs2 (by omega) m hm
        · skip
          refine lv_aload_n hx hb dX8_save_58 rfl (lv_at hl 0 rfl) ?_
          refine gf_X8_13 hx hb hg hown hK (fl_blk hP 0 rfl) 0 rfl rfl dX8_save_59 ?_
          refine q_bipush hx hb dX8_save_62 (by decide) ?_
          refine lv_aload_n hx hb dX8_save_64 rfl (lv_at hl 0 rfl) ?_
          refine gf_X8_88 hx hb hg hown hK (fl_blk hP 0 rfl) 0 rfl rfl dX8_save_65 ?_
          refine q_imul hx hb dX8_save_68 ?_
          refine lv_iload_n hx hb dX8_save_69 rfl (lv_at hl 1 rfl) ?_
          refine q_iadd hx hb dX8_save_70 ?_
          refine lv_aload_n hx hb dX8_save_71 rfl (lv_at hl 0 rfl) ?_
          refine gf_X8_7 hx hb hg hown hK (fl_blk hP 0 rfl) 0 rfl rfl dX8_save_72 ?_
          refine lv_iload_n hx hb dX8_save_75 rfl (lv_at hl 1 rfl) ?_
          refine q_iald (j := k) hx hb hK (fl_blk hP 1 rfl) 0 rfl (by omega) dX8_save_76 ?_
          refine qb_iast (j := ((115 * hz) + k)) hx hb hK hP hD hS 2 0 rfl rfl (by omega) dX8_save_77 (fun H locs hP hD hS => ?_)
          have hP : va_P D vwCl [[(mo, .inr (8, [.int (qI (th)), .ref (mz), .int (qI (((hz : Nat) : Int))), .ref (msv), .int (qI (ml)), .ref (mtx), .ref (mmo), .int (qI (tu)), .ref (mif), .ref (mmg), .ref (mtn), .ref (mie), .ref (mme), .int (qz (fi)), .int (qI (ro)), .int (qI (sp)), .int (qI (it)), .int (qz (bl)), .ref (mrd), .ref (mas), .long (hh)]))], [(mz, aI cy 115 (z))], [(msv, aI cy 920 (qu s2 ((115 * hz) + k) (z k)))]].flatten H := hP
          have hD : va_D A [[(mo, .inr (8, [.int (qI (th)), .ref (mz), .int (qI (((hz : Nat) : Int))), .ref (msv), .int (qI (ml)), .ref (mtx), .ref (mmo), .int (qI (tu)), .ref (mif), .ref (mmg), .ref (mtn), .ref (mie), .ref (mme), .int (qz (fi)), .int (qI (ro)), .int (qI (sp)), .int (qI (it)), .int (qz (bl)), .ref (mrd), .ref (mas), .long (hh)]))], [(mz, aI cy 115 (z))], [(msv, aI cy 920 (qu s2 ((115 * hz) + k) (z k)))]].flatten := hD
          refine q_iinc (k := 1) (lv' := [(1, .int (qI ((((k : Nat) : Int)) + (1)))), (0, .ref (mo))]) hx hb dX8_save_78 hl rfl (by decide) rfl (fun ls hl => ?_)
          refine lv_goto (tgt := 52) hx hb dX8_save_81 (by decide) ?_
          exact ih_52 (k + 1) _ (by omega) (by omega) (sv2_step hs2) _ _ _ hP hD hS (lv_sub hl [1, 0] rfl)
    exact L_52 (115 + 1) (0) _ (by omega) (by omega) (fun m => (if_neg (by omega)).symm) _ _ _ hP hD hS (lv_sub hl [1, 0] rfl)
  · skip
    exact absurd c_6 (by omega)

set_option maxRecDepth 100000 in
set_option maxHeartbeats 4000000 in
theorem c_X8_save_8 (l : Launch) (D : va_G) (cy : Nat → ClassId) (mo mz msv mtx mmo mif mmg mtn mie mme mrd mas : Nat) (th ml tu : Int) (fi : Bool) (ro sp it : Int) (bl : Bool) (hh : Int64) (z sd : Nat → Int) (sz : Nat) : qMet l yX8_save (.code yX8_save cX8_save 2 none) 1 [.ref (mo)] D cy [[(mo, .inr (8, [.int (qI (th)), .ref (mz), .int (qI (((8 : Nat) : Int))), .ref (msv), .int (qI (ml)), .ref (mtx), .ref (mmo), .int (qI (tu)), .ref (mif), .ref (mmg), .ref (mtn), .ref (mie), .ref (mme), .int (qz (fi)), .int (qI (ro)), .int (qI (sp)), .int (qI (it)), .int (qz (bl)), .ref (mrd), .ref (mas), .long (hh)]))], [(mz, aI cy 115 (z))], [(msv, aI cy 920 (sd))]] sz (va_Qv (S := Nat → Int) (fun u => svR 8 z sd u) (qB D cy [[(mo, .inr (8, [.int (qI (th)), .ref (mz), .int (qI (((8 : Nat) : Int))), .ref (msv), .int (qI (ml)), .ref (mtx), .ref (mmo), .int (qI (tu)), .ref (mif), .ref (mmg), .ref (mtn), .ref (mie), .ref (mme), .int (qz (fi)), .int (qI (ro)), .int (qI (sp)), .int (qI (it)), .int (qz (bl)), .ref (mrd), .ref (mas), .long (hh)]))], [(mz, aI cy 115 (z))], [(msv, aI cy 920 (sd))]] sz (fun u => [[(mo, .inr (8, [.int (qI (th)), .ref (mz), .int (qI (((8 : Nat) : Int))), .ref (msv), .int (qI (ml)), .ref (mtx), .ref (mmo), .int (qI (tu)), .ref (mif), .ref (mmg), .ref (mtn), .ref (mie), .ref (mme), .int (qz (fi)), .int (qI (ro)), .int (qI (sp)), .int (qI (it)), .int (qz (bl)), .ref (mrd), .ref (mas), .long (hh)]))], [(mz, aI cy 115 (z))], [(msv, aI cy 920 (u))]])) (va_A [[(mo, .inr (8, [.int (qI (th)), .ref (mz), .int (qI (((8 : Nat) : Int))), .ref (msv), .int (qI (ml)), .ref (mtx), .ref (mmo), .int (qI (tu)), .ref (mif), .ref (mmg), .ref (mtn), .ref (mie), .ref (mme), .int (qz (fi)), .int (qI (ro)), .int (qI (sp)), .int (qI (it)), .int (qz (bl)), .ref (mrd), .ref (mas), .long (hh)]))], [(mz, aI cy 115 (z))], [(msv, aI cy 920 (sd))]].flatten sz)) := by
  refine q_ofMv (S := Nat → Int) (b1 := fun u => [[(mo, .inr (8, [.int (qI (th)), .ref (mz), .int (qI (((8 : Nat) : Int))), .ref (msv), .int (qI (ml)), .ref (mtx), .ref (mmo), .int (qI (tu)), .ref (mif), .ref (mmg), .ref (mtn), .ref (mie), .ref (mme), .int (qz (fi)), .int (qI (ro)), .int (qI (sp)), .int (qI (it)), .int (qz (bl)), .ref (mrd), .ref (mas), .long (hh)]))], [(mz, aI cy 115 (z))], [(msv, aI cy 920 (u))]]) (post := fun u => svR 8 z sd u) (by decide +kernel) (Nat.le_of_ble_eq_true rfl) ?_
  intro p e s m args below meth c Q A hx hb hml hown hg hQ hK hN hD hA H locs ls hP hS hl
  have hown : s.vm.findClass RX8 = some m.cls := hown
  have hl : lv_has ls 2 [(0, .ref (mo))] := hl
  refine lv_aload_n hx hb dX8_save_0 rfl (lv_at hl 0 rfl) ?_
  refine gf_X8_88 hx hb hg hown hK (fl_blk hP 0 rfl) 0 rfl rfl dX8_save_1 ?_
  refine q_bipush hx hb dX8_save_4 (by decide) ?_
  refine q_icmp_ne (tgt := 50) hx hb dX8_save_6 (by decide) (by omega) (fun c_6 => ?_) (fun c_6 => ?_)
  · skip
    exact absurd c_6 (by omega)
  · skip
    refine q_bipush hx hb dX8_save_9 (by decide) ?_
    refine lv_istore_n (lv' := [(1, .int (qI (115))), (0, .ref (mo))]) hx hb dX8_save_11 rfl hl (by decide) rfl (fun ls hl => ?_)
    have L_12 : ∀ (n_12 j : Nat) (s1 : Nat → Int), j ≤ 805 → 805 + 1 ≤ j + n_12 → (∀ m, m < 920 → s1 m = if m < j then sd (m + 115) else sd m) → ∀ (H : Heap) (locs : List Loc) (ls : Array Slot), va_P D vwCl [[(mo, .inr (8, [.int (qI (th)), .ref (mz), .int (qI (((8 : Nat) : Int))), .ref (msv), .int (qI (ml)), .ref (mtx), .ref (mmo), .int (qI (tu)), .ref (mif), .ref (mmg), .ref (mtn), .ref (mie), .ref (mme), .int (qz (fi)), .int (qI (ro)), .int (qI (sp)), .int (qI (it)), .int (qz (bl)), .ref (mrd), .ref (mas), .long (hh)]))], [(mz, aI cy 115 (z))], [(msv, aI cy 920 (s1))]].flatten H → va_D A [[(mo, .inr (8, [.int (qI (th)), .ref (mz), .int (qI (((8 : Nat) : Int))), .ref (msv), .int (qI (ml)), .ref (mtx), .ref (mmo), .int (qI (tu)), .ref (mif), .ref (mmg), .ref (mtn), .ref (mie), .ref (mme), .int (qz (fi)), .int (qI (ro)), .int (qI (sp)), .int (qI (it)), .int (qz (bl)), .ref (mrd), .ref (mas), .long (hh)]))], [(mz, aI cy 115 (z))], [(msv, aI cy 920 (s1))]].flatten → va_S A s.heap H locs → lv_has ls 2 [(0, .ref (mo)), (1, .int (qI (((115 + j : Nat) : Int))))] → W p l e (qrm 1) s m args below meth c H locs 0 0 Q (F0 m 12 ls []) := by
      intro n_12
      induction n_12 with
      | zero => intro j _ h1 h2; exact absurd h2 (by omega)
      | succ n_12 ih_12 =>
        intro j s1 hk_12 hn_12 hs1 H locs ls hP hD hS hl
        refine lv_iload_n hx hb dX8_save_12 rfl (lv_at hl 1 rfl) ?_
        refine q_sipush hx hb dX8_save_13 (by decide) ?_
        refine q_icmp_ge (tgt := 40) hx hb dX8_save_16 (by decide) (by omega) (fun c_16 => ?_) (fun c_16 => ?_)
        · skip
          have j9 : j = 805 := by omega
          subst j9
          refine lv_aload_n hx hb dX8_save_40 rfl (lv_at hl 0 rfl) ?_
          refine lv_dup hx hb dX8_save_41 rfl ?_
          refine gf_X8_88 hx hb hg hown hK (fl_blk hP 0 rfl) 0 rfl rfl dX8_save_42 ?_
          refine q_iconst hx hb dX8_save_45 ?_
          refine q_isub hx hb dX8_save_46 ?_
          refine q_topZ (y := ((7 : Nat) : Int)) (by omega) ?_
          refine pf_X8_88 hx hb hg hown hK hP hD hS 0 0 rfl rfl rfl rfl (Nat.le_of_ble_eq_true rfl) dX8_save_47 (fun H locs hP hD hS => ?_)
          have hP : va_P D vwCl [[(mo, .inr (8, [.int (qI (th)), .ref (mz), .int (qI (((7 : Nat) : Int))), .ref (msv), .int (qI (ml)), .ref (mtx), .ref (mmo), .int (qI (tu)), .ref (mif), .ref (mmg), .ref (mtn), .ref (mie), .ref (mme), .int (qz (fi)), .int (qI (ro)), .int (qI (sp)), .int (qI (it)), .int (qz (bl)), .ref (mrd), .ref (mas), .long (hh)]))], [(mz, aI cy 115 (z))], [(msv, aI cy 920 (s1))]].flatten H := hP
          have hD : va_D A [[(mo, .inr (8, [.int (qI (th)), .ref (mz), .int (qI (((7 : Nat) : Int))), .ref (msv), .int (qI (ml)), .ref (mtx), .ref (mmo), .int (qI (tu)), .ref (mif), .ref (mmg), .ref (mtn), .ref (mie), .ref (mme), .int (qz (fi)), .int (qI (ro)), .int (qI (sp)), .int (qI (it)), .int (qz (bl)), .ref (mrd), .ref (mas), .long (hh)]))], [(mz, aI cy 115 (z))], [(msv, aI cy 920 (s1))]].flatten := hD
          refine q_iconst hx hb dX8_save_50 ?_
          refine lv_istore_n (lv' := [(1, .int (qI (0))), (0, .ref (mo))]) hx hb dX8_save_51 rfl hl (by decide) rfl (fun ls hl => ?_)
          have L_52 : ∀ (n_52 k : Nat) (s2 : Nat → Int), k ≤ 115 → 115 + 1 ≤ k + n_52 → (∀ m, s2 m = if 115 * 7 ≤ m ∧ m < 115 * 7 + k then z (m - 115 * 7) else s1 m) → ∀ (H : Heap) (locs : List Loc) (ls : Array Slot), va_P D vwCl [[(mo, .inr (8, [.int (qI (th)), .ref (mz), .int (qI (((7 : Nat) : Int))), .ref (msv), .int (qI (ml)), .ref (mtx), .ref (mmo), .int (qI (tu)), .ref (mif), .ref (mmg), .ref (mtn), .ref (mie), .ref (mme), .int (qz (fi)), .int (qI (ro)), .int (qI (sp)), .int (qI (it)), .int (qz (bl)), .ref (mrd), .ref (mas), .long (hh)]))], [(mz, aI cy 115 (z))], [(msv, aI cy 920 (s2))]].flatten H → va_D A [[(mo, .inr (8, [.int (qI (th)), .ref (mz), .int (qI (((7 : Nat) : Int))), .ref (msv), .int (qI (ml)), .ref (mtx), .ref (mmo), .int (qI (tu)), .ref (mif), .ref (mmg), .ref (mtn), .ref (mie), .ref (mme), .int (qz (fi)), .int (qI (ro)), .int (qI (sp)), .int (qI (it)), .int (qz (bl)), .ref (mrd), .ref (mas), .long (hh)]))], [(mz, aI cy 115 (z))], [(msv, aI cy 920 (s2))]].flatten → va_S A s.heap H locs → lv_has ls 2 [(0, .ref (mo)), (1, .int (qI (((k : Nat) : Int))))] → W p l e (qrm 1) s m args below meth c H locs 0 0 Q (F0 m 52 ls []) := by
            intro n_52
            induction n_52 with
            | zero => intro k _ h1 h2; exact absurd h2 (by omega)
            | succ n_52 ih_52 =>
              intro k s2 hk_52 hn_52 hs2 H locs ls hP hD hS hl
              refine lv_iload_n hx hb dX8_save_52 rfl (lv_at hl 1 rfl) ?_
              refine q_bipush hx hb dX8_save_53 (by decide) ?_
              refine q_icmp_ge (tgt := 84) hx hb dX8_save_55 (by decide) (by omega) (fun c_55 => ?_) (fun c_55 => ?_)
              · skip
                refine lv_aload_n hx hb dX8_save_84 rfl (lv_at hl 0 rfl) ?_
                refine lv_dup hx hb dX8_save_85 rfl ?_
                refine gf_X8_88 hx hb hg hown hK (fl_blk hP 0 rfl) 0 rfl rfl dX8_save_86 ?_
                refine q_iconst hx hb dX8_save_89 ?_
                refine q_iadd hx hb dX8_save_90 ?_
                refine pf_X8_88 hx hb hg hown hK hP hD hS 0 0 rfl rfl rfl rfl (Nat.le_of_ble_eq_true rfl) dX8_save_91 (fun H locs hP hD hS => ?_)
                have hP : va_P D vwCl [[(mo, .inr (8, [.int (qI (th)), .ref (mz), .int (qI ((((7 : Nat) : Int)) + (1))), .ref (msv), .int (qI (ml)), .ref (mtx), .ref (mmo), .int (qI (tu)), .ref (mif), .ref (mmg), .ref (mtn), .ref (mie), .ref (mme), .int (qz (fi)), .int (qI (ro)), .int (qI (sp)), .int (qI (it)), .int (qz (bl)), .ref (mrd), .ref (mas), .long (hh)]))], [(mz, aI cy 115 (z))], [(msv, aI cy 920 (s2))]].flatten H := hP
                have hD : va_D A [[(mo, .inr (8, [.int (qI (th)), .ref (mz), .int (qI ((((7 : Nat) : Int)) + (1))), .ref (msv), .int (qI (ml)), .ref (mtx), .ref (mmo), .int (qI (tu)), .ref (mif), .ref (mmg), .ref (mtn), .ref (mie), .ref (mme), .int (qz (fi)), .int (qI (ro)), .int (qI (sp)), .int (qI (it)), .int (qz (bl)), .ref (mrd), .ref (mas), .long (hh)]))], [(mz, aI cy 115 (z))], [(msv, aI cy 920 (s2))]].flatten := hD
                have k9 : k = 115 := by omega
                subst k9
                exact hQ _ _ _ _ s2 ⟨fun m hm => sv_new hs2 m hm, fun r hr m hm => (sv_old hs2 (show r < 7 by omega) m hm).trans ((hs1 _ (by omega)).trans ((if_pos (by omega)).trans (by unfold rowS; congr 1; omega)))⟩ hP hD hS dX8_save_94
              · skip
                refine lv_aload_n hx hb dX8_save_58 rfl (lv_at hl 0 rfl) ?_
                refine gf_X8_13 hx hb hg hown hK (fl_blk hP 0 rfl) 0 rfl rfl dX8_save_59 ?_
                refine q_bipush hx hb dX8_save_62 (by decide) ?_
                refine lv_aload_n hx hb dX8_save_64 rfl (lv_at hl 0 rfl) ?_
                refine gf_X8_88 hx hb hg hown hK (fl_blk hP 0 rfl) 0 rfl rfl dX8_save_65 ?_
                refine q_imul hx hb dX8_save_68 ?_
                refine lv_iload_n hx hb dX8_save_69 rfl (lv_at hl 1 rfl) ?_
                refine q_iadd hx hb dX8_save_70 ?_
                refine lv_aload_n hx hb dX8_save_71 rfl (lv_at hl 0 rfl) ?_
                refine gf_X8_7 hx hb hg hown hK (fl_blk hP 0 rfl) 0 rfl rfl dX8_save_72 ?_
                refine lv_iload_n hx hb dX8_save_75 rfl (lv_at hl 1 rfl) ?_
                refine q_iald (j := k) hx hb hK (fl_blk hP 1 rfl) 0 rfl (by omega) dX8_save_76 ?_
                refine qb_iast (j := ((115 * 7) + k)) hx hb hK hP hD hS 2 0 rfl rfl (by omega) dX8_save_77 (fun H locs hP hD hS => ?_)
                have hP : va_P D vwCl [[(mo, .inr (8, [.int (qI (th)), .ref (mz), .int (qI (((7 : Nat) : Int))), .ref (msv), .int (qI (ml)), .ref (mtx), .ref (mmo), .int (qI (tu)), .ref (mif), .ref (mmg), .ref (mtn), .ref (mie), .ref (mme), .int (qz (fi)), .int (qI (ro)), .int (qI (sp)), .int (qI (it)), .int (qz (bl)), .ref (mrd), .ref (mas), .long (hh)]))], [(mz, aI cy 115 (z))], [(msv, aI cy 920 (qu s2 ((115 * 7) + k) (z k)))]].flatten H := hP
                have hD : va_D A [[(mo, .inr (8, [.int (qI (th)), .ref (mz), .int (qI (((7 : Nat) : Int))), .ref (msv), .int (qI (ml)), .ref (mtx), .ref (mmo), .int (qI (tu)), .ref (mif), .ref (mmg), .ref (mtn), .ref (mie), .ref (mme), .int (qz (fi)), .int (qI (ro)), .int (qI (sp)), .int (qI (it)), .int (qz (bl)), .ref (mrd), .ref (mas), .long (hh)]))], [(mz, aI cy 115 (z))], [(msv, aI cy 920 (qu s2 ((115 * 7) + k) (z k)))]].flatten := hD
                refine q_iinc (k := 1) (lv' := [(1, .int (qI ((((k : Nat) : Int)) + (1)))), (0, .ref (mo))]) hx hb dX8_save_78 hl rfl (by decide) rfl (fun ls hl => ?_)
                refine lv_goto (tgt := 52) hx hb dX8_save_81 (by decide) ?_
                exact ih_52 (k + 1) _ (by omega) (by omega) (sv2_step hs2) _ _ _ hP hD hS (lv_sub hl [1, 0] rfl)
          exact L_52 (115 + 1) (0) _ (by omega) (by omega) (fun m => (if_neg (by omega)).symm) _ _ _ hP hD hS (lv_sub hl [1, 0] rfl)
        · skip
          refine lv_aload_n hx hb dX8_save_19 rfl (lv_at hl 0 rfl) ?_
          refine gf_X8_13 hx hb hg hown hK (fl_blk hP 0 rfl) 0 rfl rfl dX8_save_20 ?_
          refine lv_iload_n hx hb dX8_save_23 rfl (lv_at hl 1 rfl) ?_
          refine q_bipush hx hb dX8_save_24 (by decide) ?_
          refine q_isub hx hb dX8_save_26 ?_
          refine q_topZ (y := ((j : Nat) : Int)) (by omega) ?_
          refine lv_aload_n hx hb dX8_save_27 rfl (lv_at hl 0 rfl) ?_
          refine gf_X8_13 hx hb hg hown hK (fl_blk hP 0 rfl) 0 rfl rfl dX8_save_28 ?_
          refine lv_iload_n hx hb dX8_save_31 rfl (lv_at hl 1 rfl) ?_
          refine q_iald (j := 115 + j) hx hb hK (fl_blk hP 2 rfl) 0 rfl (by omega) dX8_save_32 ?_
          refine qb_iast (j := j) hx hb hK hP hD hS 2 0 rfl rfl (by omega) dX8_save_33 (fun H locs hP hD hS => ?_)
          have hP : va_P D vwCl [[(mo, .inr (8, [.int (qI (th)), .ref (mz), .int (qI (((8 : Nat) : Int))), .ref (msv), .int (qI (ml)), .ref (mtx), .ref (mmo), .int (qI (tu)), .ref (mif), .ref (mmg), .ref (mtn), .ref (mie), .ref (mme), .int (qz (fi)), .int (qI (ro)), .int (qI (sp)), .int (qI (it)), .int (qz (bl)), .ref (mrd), .ref (mas), .long (hh)]))], [(mz, aI cy 115 (z))], [(msv, aI cy 920 (qu s1 j (s1 (115 + j))))]].flatten H := hP
          have hD : va_D A [[(mo, .inr (8, [.int (qI (th)), .ref (mz), .int (qI (((8 : Nat) : Int))), .ref (msv), .int (qI (ml)), .ref (mtx), .ref (mmo), .int (qI (tu)), .ref (mif), .ref (mmg), .ref (mtn), .ref (mie), .ref (mme), .int (qz (fi)), .int (qI (ro)), .int (qI (sp)), .int (qI (it)), .int (qz (bl)), .ref (mrd), .ref (mas), .long (hh)]))], [(mz, aI cy 115 (z))], [(msv, aI cy 920 (qu s1 j (s1 (115 + j))))]].flatten := hD
          refine q_iinc (k := 1) (lv' := [(1, .int (qI ((((115 + j : Nat) : Int)) + (1)))), (0, .ref (mo))]) hx hb dX8_save_34 hl rfl (by decide) rfl (fun ls hl => ?_)
          refine lv_goto (tgt := 12) hx hb dX8_save_37 (by decide) ?_
          exact ih_12 (j + 1) _ (by omega) (by omega) (sv1_step hs1 (by omega)) _ _ _ hP hD hS (lv_sub hl [1, 0] rfl)
    exact L_12 (805 + 1) (0) _ (by omega) (by omega) (fun m _ => (if_neg (Nat.not_lt_zero m)).symm) _ _ _ hP hD hS (lv_sub hl [1, 0] rfl)

set_option maxRecDepth 100000 in
set_option maxHeartbeats 4000000 in
theorem c_X8_save (l : Launch) (D : va_G) (cy : Nat → ClassId) (mo mz msv mtx mmo mif mmg mtn mie mme mrd mas : Nat) (th ml tu : Int) (fi : Bool) (ro sp it : Int) (bl : Bool) (hh : Int64) (hz : Nat) (z sd : Nat → Int) (hhz : hz ≤ 8) (sz : Nat) : qMet l yX8_save (.code yX8_save cX8_save 2 none) 1 [.ref (mo)] D cy [[(mo, .inr (8, [.int (qI (th)), .ref (mz), .int (qI (((hz : Nat) : Int))), .ref (msv), .int (qI (ml)), .ref (mtx), .ref (mmo), .int (qI (tu)), .ref (mif), .ref (mmg), .ref (mtn), .ref (mie), .ref (mme), .int (qz (fi)), .int (qI (ro)), .int (qI (sp)), .int (qI (it)), .int (qz (bl)), .ref (mrd), .ref (mas), .long (hh)]))], [(mz, aI cy 115 (z))], [(msv, aI cy 920 (sd))]] sz (va_Qv (S := Nat → Int) (fun u => svR hz z sd u) (qB D cy [[(mo, .inr (8, [.int (qI (th)), .ref (mz), .int (qI (((hz : Nat) : Int))), .ref (msv), .int (qI (ml)), .ref (mtx), .ref (mmo), .int (qI (tu)), .ref (mif), .ref (mmg), .ref (mtn), .ref (mie), .ref (mme), .int (qz (fi)), .int (qI (ro)), .int (qI (sp)), .int (qI (it)), .int (qz (bl)), .ref (mrd), .ref (mas), .long (hh)]))], [(mz, aI cy 115 (z))], [(msv, aI cy 920 (sd))]] sz (fun u => [[(mo, .inr (8, [.int (qI (th)), .ref (mz), .int (qI (((min (hz + 1) 8 : Nat) : Int))), .ref (msv), .int (qI (ml)), .ref (mtx), .ref (mmo), .int (qI (tu)), .ref (mif), .ref (mmg), .ref (mtn), .ref (mie), .ref (mme), .int (qz (fi)), .int (qI (ro)), .int (qI (sp)), .int (qI (it)), .int (qz (bl)), .ref (mrd), .ref (mas), .long (hh)]))], [(mz, aI cy 115 (z))], [(msv, aI cy 920 (u))]])) (va_A [[(mo, .inr (8, [.int (qI (th)), .ref (mz), .int (qI (((hz : Nat) : Int))), .ref (msv), .int (qI (ml)), .ref (mtx), .ref (mmo), .int (qI (tu)), .ref (mif), .ref (mmg), .ref (mtn), .ref (mie), .ref (mme), .int (qz (fi)), .int (qI (ro)), .int (qI (sp)), .int (qI (it)), .int (qz (bl)), .ref (mrd), .ref (mas), .long (hh)]))], [(mz, aI cy 115 (z))], [(msv, aI cy 920 (sd))]].flatten sz)) := by
  by_cases e : hz < 8
  · exact c_X8_save_lt l D cy mo mz msv mtx mmo mif mmg mtn mie mme mrd mas th ml tu fi ro sp it bl hh hz z sd e sz
  · have e8 : hz = 8 := by omega
    subst e8
    exact c_X8_save_8 l D cy mo mz msv mtx mmo mif mmg mtn mie mme mrd mas th ml tu fi ro sp it bl hh z sd sz

theorem rs_step {sd z1 : Nat → Int} {r k : Nat} (h : ∀ m, m < k → z1 m = rowS sd r m) : ∀ m, m < k + 1 → qu z1 k (sd (115 * r + k)) m = rowS sd r m := by
  intro m hm
  by_cases e : m = k
  · subst e
    rw [qu_s]
    rfl
  · rw [qu_n _ _ e]
    exact h m (by omega)

set_option maxRecDepth 100000 in
set_option maxHeartbeats 4000000 in
theorem c_X8_restore (l : Launch) (D : va_G) (cy : Nat → ClassId) (mo mz msv mtx mmo mif mmg mtn mie mme mrd mas : Nat) (th sv ml tu : Int) (fi : Bool) (ro sp it : Int) (bl : Bool) (hh : Int64) (z sd : Nat → Int) (x9 : Int) (r : Nat) (hr : x9 = (r : Int) ∧ r < 8) (sz : Nat) : qMet l yX8_restore (.code yX8_restore cX8_restore 3 none) 1 [.ref (mo), .int (qI (x9))] D cy [[(mo, .inr (8, [.int (qI (th)), .ref (mz), .int (qI (sv)), .ref (msv), .int (qI (ml)), .ref (mtx), .ref (mmo), .int (qI (tu)), .ref (mif), .ref (mmg), .ref (mtn), .ref (mie), .ref (mme), .int (qz (fi)), .int (qI (ro)), .int (qI (sp)), .int (qI (it)), .int (qz (bl)), .ref (mrd), .ref (mas), .long (hh)]))], [(mz, aI cy 115 (z))], [(msv, aI cy 920 (sd))]] sz (va_Qv (S := Nat → Int) (fun u => ∀ m, m < 115 → u m = rowS sd r m) (qB D cy [[(mo, .inr (8, [.int (qI (th)), .ref (mz), .int (qI (sv)), .ref (msv), .int (qI (ml)), .ref (mtx), .ref (mmo), .int (qI (tu)), .ref (mif), .ref (mmg), .ref (mtn), .ref (mie), .ref (mme), .int (qz (fi)), .int (qI (ro)), .int (qI (sp)), .int (qI (it)), .int (qz (bl)), .ref (mrd), .ref (mas), .long (hh)]))], [(mz, aI cy 115 (z))], [(msv, aI cy 920 (sd))]] sz (fun u => [[(mo, .inr (8, [.int (qI (th)), .ref (mz), .int (qI (sv)), .ref (msv), .int (qI (ml)), .ref (mtx), .ref (mmo), .int (qI (tu)), .ref (mif), .ref (mmg), .ref (mtn), .ref (mie), .ref (mme), .int (qz (fi)), .int (qI (ro)), .int (qI (sp)), .int (qI (it)), .int (qz (bl)), .ref (mrd), .ref (mas), .long (hh)]))], [(mz, aI cy 115 (u))], [(msv, aI cy 920 (sd))]])) (va_A [[(mo, .inr (8, [.int (qI (th)), .ref (mz), .int (qI (sv)), .ref (msv), .int (qI (ml)), .ref (mtx), .ref (mmo), .int (qI (tu)), .ref (mif), .ref (mmg), .ref (mtn), .ref (mie), .ref (mme), .int (qz (fi)), .int (qI (ro)), .int (qI (sp)), .int (qI (it)), .int (qz (bl)), .ref (mrd), .ref (mas), .long (hh)]))], [(mz, aI cy 115 (z))], [(msv, aI cy 920 (sd))]].flatten sz)) := by
  refine q_ofMv (S := Nat → Int) (b1 := fun u => [[(mo, .inr (8, [.int (qI (th)), .ref (mz), .int (qI (sv)), .ref (msv), .int (qI (ml)), .ref (mtx), .ref (mmo), .int (qI (tu)), .ref (mif), .ref (mmg), .ref (mtn), .ref (mie), .ref (mme), .int (qz (fi)), .int (qI (ro)), .int (qI (sp)), .int (qI (it)), .int (qz (bl)), .ref (mrd), .ref (mas), .long (hh)]))], [(mz, aI cy 115 (u))], [(msv, aI cy 920 (sd))]]) (post := fun u => ∀ m, m < 115 → u m = rowS sd r m) (by decide +kernel) (Nat.le_of_ble_eq_true rfl) ?_
  intro p e s m args below meth c Q A hx hb hml hown hg hQ hK hN hD hA H locs ls hP hS hl
  have hown : s.vm.findClass RX8 = some m.cls := hown
  have hl : lv_has ls 3 [(0, .ref (mo)), (1, .int (qI (x9)))] := hl
  refine q_iconst hx hb dX8_restore_0 ?_
  refine lv_istore_n (lv' := [(2, .int (qI (0))), (0, .ref (mo)), (1, .int (qI (x9)))]) hx hb dX8_restore_1 rfl hl (by decide) rfl (fun ls hl => ?_)
  have L_2 : ∀ (n_2 k : Nat) (z1 : Nat → Int), k ≤ 115 → 115 + 1 ≤ k + n_2 → (∀ m, m < k → z1 m = rowS sd r m) → ∀ (H : Heap) (locs : List Loc) (ls : Array Slot), va_P D vwCl [[(mo, .inr (8, [.int (qI (th)), .ref (mz), .int (qI (sv)), .ref (msv), .int (qI (ml)), .ref (mtx), .ref (mmo), .int (qI (tu)), .ref (mif), .ref (mmg), .ref (mtn), .ref (mie), .ref (mme), .int (qz (fi)), .int (qI (ro)), .int (qI (sp)), .int (qI (it)), .int (qz (bl)), .ref (mrd), .ref (mas), .long (hh)]))], [(mz, aI cy 115 (z1))], [(msv, aI cy 920 (sd))]].flatten H → va_D A [[(mo, .inr (8, [.int (qI (th)), .ref (mz), .int (qI (sv)), .ref (msv), .int (qI (ml)), .ref (mtx), .ref (mmo), .int (qI (tu)), .ref (mif), .ref (mmg), .ref (mtn), .ref (mie), .ref (mme), .int (qz (fi)), .int (qI (ro)), .int (qI (sp)), .int (qI (it)), .int (qz (bl)), .ref (mrd), .ref (mas), .long (hh)]))], [(mz, aI cy 115 (z1))], [(msv, aI cy 920 (sd))]].flatten → va_S A s.heap H locs → lv_has ls 3 [(0, .ref (mo)), (1, .int (qI (x9))), (2, .int (qI (((k : Nat) : Int))))] → W p l e (qrm 1) s m args below meth c H locs 0 0 Q (F0 m 2 ls []) := by
    intro n_2
    induction n_2 with
    | zero => intro k _ h1 h2; exact absurd h2 (by omega)
    | succ n_2 ih_2 =>
      intro k z1 hk_2 hn_2 hz1 H locs ls hP hD hS hl
      refine lv_iload_n hx hb dX8_restore_2 rfl (lv_at hl 2 rfl) ?_
      refine q_bipush hx hb dX8_restore_3 (by decide) ?_
      refine q_icmp_ge (tgt := 31) hx hb dX8_restore_5 (by decide) (by omega) (fun c_5 => ?_) (fun c_5 => ?_)
      · skip
        exact hQ _ _ _ _ z1 (fun m hm => hz1 m (by omega)) hP hD hS dX8_restore_31
      · skip
        refine lv_aload_n hx hb dX8_restore_8 rfl (lv_at hl 0 rfl) ?_
        refine gf_X8_7 hx hb hg hown hK (fl_blk hP 0 rfl) 0 rfl rfl dX8_restore_9 ?_
        refine lv_iload_n hx hb dX8_restore_12 rfl (lv_at hl 2 rfl) ?_
        refine lv_aload_n hx hb dX8_restore_13 rfl (lv_at hl 0 rfl) ?_
        refine gf_X8_13 hx hb hg hown hK (fl_blk hP 0 rfl) 0 rfl rfl dX8_restore_14 ?_
        refine q_bipush hx hb dX8_restore_17 (by decide) ?_
        refine lv_iload_n hx hb dX8_restore_19 rfl (lv_at hl 1 rfl) ?_
        refine q_imul hx hb dX8_restore_20 ?_
        refine lv_iload_n hx hb dX8_restore_21 rfl (lv_at hl 2 rfl) ?_
        refine q_iadd hx hb dX8_restore_22 ?_
        refine q_iald (j := ((115 * r) + k)) hx hb hK (fl_blk hP 2 rfl) 0 rfl (by omega) dX8_restore_23 ?_
        refine qb_iast (j := k) hx hb hK hP hD hS 1 0 rfl rfl (by omega) dX8_restore_24 (fun H locs hP hD hS => ?_)
        have hP : va_P D vwCl [[(mo, .inr (8, [.int (qI (th)), .ref (mz), .int (qI (sv)), .ref (msv), .int (qI (ml)), .ref (mtx), .ref (mmo), .int (qI (tu)), .ref (mif), .ref (mmg), .ref (mtn), .ref (mie), .ref (mme), .int (qz (fi)), .int (qI (ro)), .int (qI (sp)), .int (qI (it)), .int (qz (bl)), .ref (mrd), .ref (mas), .long (hh)]))], [(mz, aI cy 115 (qu z1 k (sd ((115 * r) + k))))], [(msv, aI cy 920 (sd))]].flatten H := hP
        have hD : va_D A [[(mo, .inr (8, [.int (qI (th)), .ref (mz), .int (qI (sv)), .ref (msv), .int (qI (ml)), .ref (mtx), .ref (mmo), .int (qI (tu)), .ref (mif), .ref (mmg), .ref (mtn), .ref (mie), .ref (mme), .int (qz (fi)), .int (qI (ro)), .int (qI (sp)), .int (qI (it)), .int (qz (bl)), .ref (mrd), .ref (mas), .long (hh)]))], [(mz, aI cy 115 (qu z1 k (sd ((115 * r) + k))))], [(msv, aI cy 920 (sd))]].flatten := hD
        refine q_iinc (k := 2) (lv' := [(2, .int (qI ((((k : Nat) : Int)) + (1)))), (0, .ref (mo)), (1, .int (qI (x9)))]) hx hb dX8_restore_25 hl rfl (by decide) rfl (fun ls hl => ?_)
        refine lv_goto (tgt := 2) hx hb dX8_restore_28 (by decide) ?_
        exact ih_2 (k + 1) _ (by omega) (by omega) (rs_step hz1) _ _ _ hP hD hS (lv_sub hl [1, 2, 0] rfl)
  exact L_2 (115 + 1) (0) _ (by omega) (by omega) (fun m hm => absurd hm (Nat.not_lt_zero m)) _ _ _ hP hD hS (lv_sub hl [1, 2, 0] rfl)

set_option maxRecDepth 100000 in
set_option maxHeartbeats 4000000 in
theorem c_X8_lay (l : Launch) (D : va_G) (cy : Nat → ClassId) (mo mz msv mtx mmo mif mmg mtn mie mme mrd mas : Nat) (th sv ml tu : Int) (fi : Bool) (ro sp it : Int) (bl : Bool) (hh : Int64) (z : Nat → Int) (nc : Nat) (hnc : z 20 = (nc : Int)) (hc : nc < 16) (v0 v1 v2 v3 v4 : Int) (sz : Nat) : qMet l yX8_lay (.code yX8_lay cX8_lay 7 none) 1 [.ref (mo), .int (qI (v0)), .int (qI (v1)), .int (qI (v2)), .int (qI (v3)), .int (qI (v4))] D cy [[(mo, .inr (8, [.int (qI (th)), .ref (mz), .int (qI (sv)), .ref (msv), .int (qI (ml)), .ref (mtx), .ref (mmo), .int (qI (tu)), .ref (mif), .ref (mmg), .ref (mtn), .ref (mie), .ref (mme), .int (qz (fi)), .int (qI (ro)), .int (qI (sp)), .int (qI (it)), .int (qz (bl)), .ref (mrd), .ref (mas), .long (hh)]))], [(mz, aI cy 115 (z))]] sz (va_Qv (S := Nat → Int) (fun u => u = qu (qu (qu (qu (qu (qu z (21 + 5 * nc + 0) v0) (21 + 5 * nc + 1) v1) (21 + 5 * nc + 2) v2) (21 + 5 * nc + 3) v3) (21 + 5 * nc + 4) v4) 20 ((nc : Int) + 1)) (qB D cy [[(mo, .inr (8, [.int (qI (th)), .ref (mz), .int (qI (sv)), .ref (msv), .int (qI (ml)), .ref (mtx), .ref (mmo), .int (qI (tu)), .ref (mif), .ref (mmg), .ref (mtn), .ref (mie), .ref (mme), .int (qz (fi)), .int (qI (ro)), .int (qI (sp)), .int (qI (it)), .int (qz (bl)), .ref (mrd), .ref (mas), .long (hh)]))], [(mz, aI cy 115 (z))]] sz (fun u => [[(mo, .inr (8, [.int (qI (th)), .ref (mz), .int (qI (sv)), .ref (msv), .int (qI (ml)), .ref (mtx), .ref (mmo), .int (qI (tu)), .ref (mif), .ref (mmg), .ref (mtn), .ref (mie), .ref (mme), .int (qz (fi)), .int (qI (ro)), .int (qI (sp)), .int (qI (it)), .int (qz (bl)), .ref (mrd), .ref (mas), .long (hh)]))], [(mz, aI cy 115 (u))]])) (va_A [[(mo, .inr (8, [.int (qI (th)), .ref (mz), .int (qI (sv)), .ref (msv), .int (qI (ml)), .ref (mtx), .ref (mmo), .int (qI (tu)), .ref (mif), .ref (mmg), .ref (mtn), .ref (mie), .ref (mme), .int (qz (fi)), .int (qI (ro)), .int (qI (sp)), .int (qI (it)), .int (qz (bl)), .ref (mrd), .ref (mas), .long (hh)]))], [(mz, aI cy 115 (z))]].flatten sz)) := by
  refine q_ofMv (S := Nat → Int) (b1 := fun u => [[(mo, .inr (8, [.int (qI (th)), .ref (mz), .int (qI (sv)), .ref (msv), .int (qI (ml)), .ref (mtx), .ref (mmo), .int (qI (tu)), .ref (mif), .ref (mmg), .ref (mtn), .ref (mie), .ref (mme), .int (qz (fi)), .int (qI (ro)), .int (qI (sp)), .int (qI (it)), .int (qz (bl)), .ref (mrd), .ref (mas), .long (hh)]))], [(mz, aI cy 115 (u))]]) (post := fun u => u = qu (qu (qu (qu (qu (qu z (21 + 5 * nc + 0) v0) (21 + 5 * nc + 1) v1) (21 + 5 * nc + 2) v2) (21 + 5 * nc + 3) v3) (21 + 5 * nc + 4) v4) 20 ((nc : Int) + 1)) (by decide +kernel) (Nat.le_of_ble_eq_true rfl) ?_
  intro p e s m args below meth c Q A hx hb hml hown hg hQ hK hN hD hA H locs ls hP hS hl
  have hown : s.vm.findClass RX8 = some m.cls := hown
  have hl : lv_has ls 7 [(0, .ref (mo)), (1, .int (qI (v0))), (2, .int (qI (v1))), (3, .int (qI (v2))), (4, .int (qI (v3))), (5, .int (qI (v4)))] := hl
  refine q_bipush hx hb dX8_lay_0 (by decide) ?_
  refine q_iconst hx hb dX8_lay_2 ?_
  refine lv_aload_n hx hb dX8_lay_3 rfl (lv_at hl 0 rfl) ?_
  refine gf_X8_7 hx hb hg hown hK (fl_blk hP 0 rfl) 0 rfl rfl dX8_lay_4 ?_
  refine q_bipush hx hb dX8_lay_7 (by decide) ?_
  refine q_iald (j := 20) hx hb hK (fl_blk hP 1 rfl) 0 rfl (by omega) dX8_lay_9 ?_
  refine q_topZ (y := ((nc : Nat) : Int)) hnc ?_
  refine q_imul hx hb dX8_lay_10 ?_
  refine q_iadd hx hb dX8_lay_11 ?_
  refine q_topZ (y := ((21 + 5 * nc : Nat) : Int)) (by omega) ?_
  refine lv_istore (lv' := [(6, .int (qI (((21 + 5 * nc : Nat) : Int)))), (0, .ref (mo)), (1, .int (qI (v0))), (2, .int (qI (v1))), (3, .int (qI (v2))), (4, .int (qI (v3))), (5, .int (qI (v4)))]) hx hb dX8_lay_12 hl (by decide) rfl (fun ls hl => ?_)
  refine lv_aload_n hx hb dX8_lay_14 rfl (lv_at hl 1 rfl) ?_
  refine gf_X8_7 hx hb hg hown hK (fl_blk hP 0 rfl) 0 rfl rfl dX8_lay_15 ?_
  refine lv_iload hx hb dX8_lay_18 (lv_at hl 0 rfl) ?_
  refine q_iconst hx hb dX8_lay_20 ?_
  refine q_iadd hx hb dX8_lay_21 ?_
  refine lv_iload_n hx hb dX8_lay_22 rfl (lv_at hl 2 rfl) ?_
  refine qb_iast (j := (21 + 5 * nc + 0)) hx hb hK hP hD hS 1 0 rfl rfl (by omega) dX8_lay_23 (fun H locs hP hD hS => ?_)
  have hP : va_P D vwCl [[(mo, .inr (8, [.int (qI (th)), .ref (mz), .int (qI (sv)), .ref (msv), .int (qI (ml)), .ref (mtx), .ref (mmo), .int (qI (tu)), .ref (mif), .ref (mmg), .ref (mtn), .ref (mie), .ref (mme), .int (qz (fi)), .int (qI (ro)), .int (qI (sp)), .int (qI (it)), .int (qz (bl)), .ref (mrd), .ref (mas), .long (hh)]))], [(mz, aI cy 115 (qu z (21 + 5 * nc + 0) (v0)))]].flatten H := hP
  have hD : va_D A [[(mo, .inr (8, [.int (qI (th)), .ref (mz), .int (qI (sv)), .ref (msv), .int (qI (ml)), .ref (mtx), .ref (mmo), .int (qI (tu)), .ref (mif), .ref (mmg), .ref (mtn), .ref (mie), .ref (mme), .int (qz (fi)), .int (qI (ro)), .int (qI (sp)), .int (qI (it)), .int (qz (bl)), .ref (mrd), .ref (mas), .long (hh)]))], [(mz, aI cy 115 (qu z (21 + 5 * nc + 0) (v0)))]].flatten := hD
  refine lv_aload_n hx hb dX8_lay_24 rfl (lv_at hl 1 rfl) ?_
  refine gf_X8_7 hx hb hg hown hK (fl_blk hP 0 rfl) 0 rfl rfl dX8_lay_25 ?_
  refine lv_iload hx hb dX8_lay_28 (lv_at hl 0 rfl) ?_
  refine q_iconst hx hb dX8_lay_30 ?_
  refine q_iadd hx hb dX8_lay_31 ?_
  refine lv_iload_n hx hb dX8_lay_32 rfl (lv_at hl 3 rfl) ?_
  refine qb_iast (j := (21 + 5 * nc + 1)) hx hb hK hP hD hS 1 0 rfl rfl (by omega) dX8_lay_33 (fun H locs hP hD hS => ?_)
  have hP : va_P D vwCl [[(mo, .inr (8, [.int (qI (th)), .ref (mz), .int (qI (sv)), .ref (msv), .int (qI (ml)), .ref (mtx), .ref (mmo), .int (qI (tu)), .ref (mif), .ref (mmg), .ref (mtn), .ref (mie), .ref (mme), .int (qz (fi)), .int (qI (ro)), .int (qI (sp)), .int (qI (it)), .int (qz (bl)), .ref (mrd), .ref (mas), .long (hh)]))], [(mz, aI cy 115 (qu (qu z (21 + 5 * nc + 0) (v0)) (21 + 5 * nc + 1) (v1)))]].flatten H := hP
  have hD : va_D A [[(mo, .inr (8, [.int (qI (th)), .ref (mz), .int (qI (sv)), .ref (msv), .int (qI (ml)), .ref (mtx), .ref (mmo), .int (qI (tu)), .ref (mif), .ref (mmg), .ref (mtn), .ref (mie), .ref (mme), .int (qz (fi)), .int (qI (ro)), .int (qI (sp)), .int (qI (it)), .int (qz (bl)), .ref (mrd), .ref (mas), .long (hh)]))], [(mz, aI cy 115 (qu (qu z (21 + 5 * nc + 0) (v0)) (21 + 5 * nc + 1) (v1)))]].flatten := hD
  refine lv_aload_n hx hb dX8_lay_34 rfl (lv_at hl 1 rfl) ?_
  refine gf_X8_7 hx hb hg hown hK (fl_blk hP 0 rfl) 0 rfl rfl dX8_lay_35 ?_
  refine lv_iload hx hb dX8_lay_38 (lv_at hl 0 rfl) ?_
  refine q_iconst hx hb dX8_lay_40 ?_
  refine q_iadd hx hb dX8_lay_41 ?_
  refine lv_iload_n hx hb dX8_lay_42 rfl (lv_at hl 4 rfl) ?_
  refine qb_iast (j := (21 + 5 * nc + 2)) hx hb hK hP hD hS 1 0 rfl rfl (by omega) dX8_lay_43 (fun H locs hP hD hS => ?_)
  have hP : va_P D vwCl [[(mo, .inr (8, [.int (qI (th)), .ref (mz), .int (qI (sv)), .ref (msv), .int (qI (ml)), .ref (mtx), .ref (mmo), .int (qI (tu)), .ref (mif), .ref (mmg), .ref (mtn), .ref (mie), .ref (mme), .int (qz (fi)), .int (qI (ro)), .int (qI (sp)), .int (qI (it)), .int (qz (bl)), .ref (mrd), .ref (mas), .long (hh)]))], [(mz, aI cy 115 (qu (qu (qu z (21 + 5 * nc + 0) (v0)) (21 + 5 * nc + 1) (v1)) (21 + 5 * nc + 2) (v2)))]].flatten H := hP
  have hD : va_D A [[(mo, .inr (8, [.int (qI (th)), .ref (mz), .int (qI (sv)), .ref (msv), .int (qI (ml)), .ref (mtx), .ref (mmo), .int (qI (tu)), .ref (mif), .ref (mmg), .ref (mtn), .ref (mie), .ref (mme), .int (qz (fi)), .int (qI (ro)), .int (qI (sp)), .int (qI (it)), .int (qz (bl)), .ref (mrd), .ref (mas), .long (hh)]))], [(mz, aI cy 115 (qu (qu (qu z (21 + 5 * nc + 0) (v0)) (21 + 5 * nc + 1) (v1)) (21 + 5 * nc + 2) (v2)))]].flatten := hD
  refine lv_aload_n hx hb dX8_lay_44 rfl (lv_at hl 1 rfl) ?_
  refine gf_X8_7 hx hb hg hown hK (fl_blk hP 0 rfl) 0 rfl rfl dX8_lay_45 ?_
  refine lv_iload hx hb dX8_lay_48 (lv_at hl 0 rfl) ?_
  refine q_iconst hx hb dX8_lay_50 ?_
  refine q_iadd hx hb dX8_lay_51 ?_
  refine lv_iload hx hb dX8_lay_52 (lv_at hl 5 rfl) ?_
  refine qb_iast (j := (21 + 5 * nc + 3)) hx hb hK hP hD hS 1 0 rfl rfl (by omega) dX8_lay_54 (fun H locs hP hD hS => ?_)
  have hP : va_P D vwCl [[(mo, .inr (8, [.int (qI (th)), .ref (mz), .int (qI (sv)), .ref (msv), .int (qI (ml)), .ref (mtx), .ref (mmo), .int (qI (tu)), .ref (mif), .ref (mmg), .ref (mtn), .ref (mie), .ref (mme), .int (qz (fi)), .int (qI (ro)), .int (qI (sp)), .int (qI (it)), .int (qz (bl)), .ref (mrd), .ref (mas), .long (hh)]))], [(mz, aI cy 115 (qu (qu (qu (qu z (21 + 5 * nc + 0) (v0)) (21 + 5 * nc + 1) (v1)) (21 + 5 * nc + 2) (v2)) (21 + 5 * nc + 3) (v3)))]].flatten H := hP
  have hD : va_D A [[(mo, .inr (8, [.int (qI (th)), .ref (mz), .int (qI (sv)), .ref (msv), .int (qI (ml)), .ref (mtx), .ref (mmo), .int (qI (tu)), .ref (mif), .ref (mmg), .ref (mtn), .ref (mie), .ref (mme), .int (qz (fi)), .int (qI (ro)), .int (qI (sp)), .int (qI (it)), .int (qz (bl)), .ref (mrd), .ref (mas), .long (hh)]))], [(mz, aI cy 115 (qu (qu (qu (qu z (21 + 5 * nc + 0) (v0)) (21 + 5 * nc + 1) (v1)) (21 + 5 * nc + 2) (v2)) (21 + 5 * nc + 3) (v3)))]].flatten := hD
  refine lv_aload_n hx hb dX8_lay_55 rfl (lv_at hl 1 rfl) ?_
  refine gf_X8_7 hx hb hg hown hK (fl_blk hP 0 rfl) 0 rfl rfl dX8_lay_56 ?_
  refine lv_iload hx hb dX8_lay_59 (lv_at hl 0 rfl) ?_
  refine q_iconst hx hb dX8_lay_61 ?_
  refine q_iadd hx hb dX8_lay_62 ?_
  refine lv_iload hx hb dX8_lay_63 (lv_at hl 6 rfl) ?_
  refine qb_iast (j := (21 + 5 * nc + 4)) hx hb hK hP hD hS 1 0 rfl rfl (by omega) dX8_lay_65 (fun H locs hP hD hS => ?_)
  have hP : va_P D vwCl [[(mo, .inr (8, [.int (qI (th)), .ref (mz), .int (qI (sv)), .ref (msv), .int (qI (ml)), .ref (mtx), .ref (mmo), .int (qI (tu)), .ref (mif), .ref (mmg), .ref (mtn), .ref (mie), .ref (mme), .int (qz (fi)), .int (qI (ro)), .int (qI (sp)), .int (qI (it)), .int (qz (bl)), .ref (mrd), .ref (mas), .long (hh)]))], [(mz, aI cy 115 (qu (qu (qu (qu (qu z (21 + 5 * nc + 0) (v0)) (21 + 5 * nc + 1) (v1)) (21 + 5 * nc + 2) (v2)) (21 + 5 * nc + 3) (v3)) (21 + 5 * nc + 4) (v4)))]].flatten H := hP
  have hD : va_D A [[(mo, .inr (8, [.int (qI (th)), .ref (mz), .int (qI (sv)), .ref (msv), .int (qI (ml)), .ref (mtx), .ref (mmo), .int (qI (tu)), .ref (mif), .ref (mmg), .ref (mtn), .ref (mie), .ref (mme), .int (qz (fi)), .int (qI (ro)), .int (qI (sp)), .int (qI (it)), .int (qz (bl)), .ref (mrd), .ref (mas), .long (hh)]))], [(mz, aI cy 115 (qu (qu (qu (qu (qu z (21 + 5 * nc + 0) (v0)) (21 + 5 * nc + 1) (v1)) (21 + 5 * nc + 2) (v2)) (21 + 5 * nc + 3) (v3)) (21 + 5 * nc + 4) (v4)))]].flatten := hD
  refine lv_aload_n hx hb dX8_lay_66 rfl (lv_at hl 1 rfl) ?_
  refine gf_X8_7 hx hb hg hown hK (fl_blk hP 0 rfl) 0 rfl rfl dX8_lay_67 ?_
  refine q_bipush hx hb dX8_lay_70 (by decide) ?_
  refine lv_dup2_11 hx hb dX8_lay_72 rfl rfl ?_
  refine q_iald (j := 20) hx hb hK (fl_blk hP 1 rfl) 0 rfl (by omega) dX8_lay_73 ?_
  refine q_topZ (y := ((nc : Nat) : Int)) (by (repeat' rw [qu_n _ _ (by omega)]); exact hnc) ?_
  refine q_iconst hx hb dX8_lay_74 ?_
  refine q_iadd hx hb dX8_lay_75 ?_
  refine qb_iast (j := 20) hx hb hK hP hD hS 1 0 rfl rfl (by omega) dX8_lay_76 (fun H locs hP hD hS => ?_)
  have hP : va_P D vwCl [[(mo, .inr (8, [.int (qI (th)), .ref (mz), .int (qI (sv)), .ref (msv), .int (qI (ml)), .ref (mtx), .ref (mmo), .int (qI (tu)), .ref (mif), .ref (mmg), .ref (mtn), .ref (mie), .ref (mme), .int (qz (fi)), .int (qI (ro)), .int (qI (sp)), .int (qI (it)), .int (qz (bl)), .ref (mrd), .ref (mas), .long (hh)]))], [(mz, aI cy 115 (qu (qu (qu (qu (qu (qu z (21 + 5 * nc + 0) (v0)) (21 + 5 * nc + 1) (v1)) (21 + 5 * nc + 2) (v2)) (21 + 5 * nc + 3) (v3)) (21 + 5 * nc + 4) (v4)) 20 ((((nc : Nat) : Int)) + (1))))]].flatten H := hP
  have hD : va_D A [[(mo, .inr (8, [.int (qI (th)), .ref (mz), .int (qI (sv)), .ref (msv), .int (qI (ml)), .ref (mtx), .ref (mmo), .int (qI (tu)), .ref (mif), .ref (mmg), .ref (mtn), .ref (mie), .ref (mme), .int (qz (fi)), .int (qI (ro)), .int (qI (sp)), .int (qI (it)), .int (qz (bl)), .ref (mrd), .ref (mas), .long (hh)]))], [(mz, aI cy 115 (qu (qu (qu (qu (qu (qu z (21 + 5 * nc + 0) (v0)) (21 + 5 * nc + 1) (v1)) (21 + 5 * nc + 2) (v2)) (21 + 5 * nc + 3) (v3)) (21 + 5 * nc + 4) (v4)) 20 ((((nc : Nat) : Int)) + (1))))]].flatten := hD
  exact hQ _ _ _ _ _ rfl hP hD hS dX8_lay_77
