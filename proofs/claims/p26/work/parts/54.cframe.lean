/-! ===== constructors ===== -/
theorem va_AOA.moved {t : FieldType} {u U : State} (hvm : u.vm.Alike U.vm) (h : va_AOA t u) : va_AOA t U := (show (Cond.arrayOver (.array t)).before #[] U = (Cond.arrayOver (.array t)).before #[] (u.setVm U.vm) from rfl).trans ((Cond.arrayOver_setVmC hvm _).trans h)
/-- the arrays of arrays and of layouts that the constructors make -/
def qCx (U : State) : Prop := va_AO "StrengthLayout$Layout" U ∧ va_AOA .int U
theorem qCx.moved {s U : State} (hv : s.vm.Alike U.vm) (h : qCx s) : qCx U := ⟨h.1.moved hv, h.2.moved hv⟩
/-- the room of a constructor that makes k cells of n slots -/
abbrev qrc (d k n : Nat) : Room := { frames := d, cells := k, slots := n, locals := 30 * d }
abbrev qCt (l : Launch) (y : MethodName) (w : Cond) (d k n : Nat) (avs : List Value) (D : va_G) (cy : Nat → ClassId) (bs : List va_W) (sz : Nat) (Qc : Array Value → State → Outcome → State → Prop) : Prop := Met l y (w :: wG) (qrc d k n) (va_Pc avs (fun U => qP D cy bs sz U ∧ qCx U)) Qc k n (va_A bs.flatten sz)
theorem q_blindC {avs : List Value} {D : va_G} {cy : Nat → ClassId} {bs : List va_W} {sz : Nat} : FrameBlind (va_Pc avs (fun U => qP D cy bs sz U ∧ qCx U)) := fun a U g mk q => ⟨q.1, (q_blind (avs := avs) a U g mk ⟨q.1, q.2.1⟩).2, qCx.moved (s := U) (U := U.calling g mk a) (Vm.Alike.refl U.vm) q.2.2⟩
theorem q_ofC {S : Type} {l : Launch} {y : MethodName} {cc : ByteArray} {nL d k n sz : Nat} {avs : List Value} {D : va_G} {cy : Nat → ClassId} {bs : List va_W} {b1 : S → List va_W} {post : S → Prop} (hy : plainName y.cls = true) (hi : y.name = "<init>") (hlen : (lg_sl avs).length ≤ nL)
    (body : ∀ (p : Program) (e : Env) (s : State) (m : MethodId) (args : Array Value) (below : List Frame) (meth : Method) (c : Code) (Q : State → Prop) (A : Nat → Prop), p.tables.exec = Jvm.exec → c.code = cc → c.maxLocals = nL → s.vm.findClass y.cls = some m.cls → (∀ w ∈ wG, w.before args s = true) → meth.name = "<init>" →
      (∀ (pc : Nat) (H : Heap) (locs : List Loc) (ls : Array Slot) (u : S), post u → va_P D vwCl (b1 u).flatten H → va_D A (b1 u).flatten → va_S A s.heap H locs → decode cc pc = .ok (.return_, 1) → W p l e (qrc d k n) s m args below meth c H locs k n Q (F0 m pc ls [])) →
      va_K D vwCl (qT cy) s → qNe s → qCx s → va_D A bs.flatten → (∀ q, s.heap.size ≤ q → A q) → ∀ (H : Heap) (locs : List Loc) (ls : Array Slot), va_P D vwCl bs.flatten H → va_S A s.heap H locs → lv_has ls nL (lv_args 0 avs) → W p l e (qrc d k n) s m args below meth c H locs 0 0 Q (F0 m 0 ls [])) :
    qCt l y (.code y cc nL none) d k n avs D cy bs sz (va_Qv post (qB D cy bs sz b1) (va_A bs.flatten sz)) := by
  refine Met.ofW (cc := cc) (maxL := nL) (ret := none) hy rfl ?_
  intro p e s m args below meth c s₁ B hml hv
  obtain ⟨rfl, ⟨hsz, hP, hK, hN, hD0⟩, hCx⟩ := hv
  subst hsz
  have hts := atoms_spec (ws := .code y cc nL none :: wG) B.pre
  have hl := lv_entry avs (n := nL) hlen
  have hin : meth.name = "<init>" := ((name_of_methodNamed B.named B.method).1).trans hi
  rw [lg_entry_eq]
  exact body p e s m _ below meth c _ _ B.exec B.bytes hml (findClass_of_methodNamed B.named) (fun w h => hts w (List.mem_cons_of_mem _ h)) hin (fun pc H locs ls u h1 h2 h3 h4 h5 => W.vret B.exec B.bytes B.returns (fun t ht hW => ⟨⟨u, rfl, h1, by rw [ht]; exact h2, va_K.moved hW.alike hK, h3⟩, h4.F ht⟩) h4.2.2 h5) hK hN hCx hD0.self (fun q h => Or.inr h) _ _ _ hP va_S.rf hl
theorem fl_push {bs : List va_W} {b : va_W} : (bs ++ [b]).flatten = bs.flatten ++ b := by simp
section QCT
variable {p : Program} {l : Launch} {e : Env} {R : Room} {s : State} {m : MethodId} {args : Array Value} {below : List Frame} {meth : Method} {c : Code} {H : Heap} {locs : List Loc} {cells slots : Nat} {Q : State → Prop}
variable {cc : ByteArray} {pc : Nat} {ls : Array Slot} {rest st0 : List Value} {D : va_G} {A : Nat → Prop} {H0 : Heap} {cy : Nat → ClassId} {bs bc br : List va_W} {a : Array Value}
theorem qb_new {own C : String} {T : u_T} {N ci index : Nat} (hx : p.tables.exec = Jvm.exec) (hb : c.code = cc) (hg : ∀ w ∈ wG, w.before args s = true) (hin : ∀ w ∈ u_ws C T N, w ∈ wG) (ty : Nat → FieldType) (hty : ∀ k, k < N → parseFieldDescriptor (T k).2.2.1 = some (ty k)) (hown : s.vm.findClass own = some m.cls) (hcl : Cond.classLink own index C ∈ wG) (hinst : Cond.instantiable C N ∈ wG) (hini : Cond.initialized C ∈ wG)
    (hK : va_K D vwCl (qT cy) s) (hP : va_P D vwCl bs.flatten H) (hD : va_D A bs.flatten) (hS : va_S A H0 H locs) (hA : ∀ q, H0.size ≤ q → A q) (hc : vwCl[ci]? = some (C, T, N)) {fs : List Value} (hfs : ∀ j, j < N → defaultValue (ty j) = vp_V fs j) (hcells : cells + 1 ≤ R.cells) (hslots : slots + N ≤ R.slots) (hdg : decode cc pc = .ok (.new index, 3))
    (kk : ∀ (q : Nat) (H1 : Heap), va_P D vwCl (bs ++ [[(q, (.inr (ci, fs) : va_E))]]).flatten H1 → va_D A (bs ++ [[(q, (.inr (ci, fs) : va_E))]]).flatten → va_S A H0 H1 locs → W p l e R s m args below meth c H1 locs (cells + 1) (slots + N) Q (F0 m (pc + 3) ls (.ref q :: rest))) : W p l e R s m args below meth c H locs cells slots Q (F0 m pc ls rest) := by
  refine va_new hx hb hg hin ty hty hown (hg _ hcl) (hg _ hinst) (hg _ hini) hK hP hD hS hA hc hfs hcells hslots hdg (fun q H1 h1 h2 h3 => kk q H1 ?_ ?_ h3)
  · rw [fl_push]; exact h1
  · rw [fl_push]; exact h2
theorem qI_ge0 {n : Int} {N : Nat} (hn : n = (N : Int) ∧ N < 100000) : ¬ qI n < 0 := by
  intro h
  have h2 : qI n < qI 0 := h
  have := (qI_lt (by omega)).mp h2
  omega
theorem qb_newI (hx : p.tables.exec = Jvm.exec) (hb : c.code = cc) (hg : ∀ w ∈ wG, w.before args s = true) (hK : va_K D vwCl (qT cy) s) (hP : va_P D vwCl bs.flatten H) (hD : va_D A bs.flatten) (hS : va_S A H0 H locs) (hA : ∀ q, H0.size ≤ q → A q) {n : Int} {N : Nat} (hn : n = (N : Int) ∧ N < 100000) (hcells : cells + 1 ≤ R.cells) (hslots : slots + N ≤ R.slots) (hdg : decode cc pc = .ok (.newarray .int, 2))
    (kk : ∀ (q : Nat) (H1 : Heap), va_P D vwCl (bs ++ [[(q, aI cy N (fun _ => 0))]]).flatten H1 → va_D A (bs ++ [[(q, aI cy N (fun _ => 0))]]).flatten → va_S A H0 H1 locs → W p l e R s m args below meth c H1 locs (cells + 1) (slots + N) Q (F0 m (pc + 2) ls (.ref q :: rest))) : W p l e R s m args below meth c H locs cells slots Q (F0 m pc ls (.int (qI n) :: rest)) := by
  refine va_newa (atype := .int) (ty := .int) hx hb (hg _ m_6) rfl hK hP hD hS hA (N' := N) (a0 := (N, .inl (qA (fun _ => 0)))) (fun _ => rfl) (qI_ge0 hn) (qI_cl ⟨hn.1, by omega⟩) (by show N * 4 ≤ 536870912; omega) hcells hslots hdg (fun q cA H1 hK1 h1 h2 h3 => ?_)
  have e1 := (hK1.2 5 _ rfl).2
  have e2 := (hK.2 0 _ rfl).2
  have e3 : cA = cy 0 := Option.some.inj (e1.symm.trans e2)
  subst e3
  refine kk q H1 ?_ ?_ h3
  · rw [fl_push]; exact h1
  · rw [fl_push]; exact h2
/-- an array of layouts, all null -/
abbrev aQ (cy : Nat → ClassId) (n : Nat) (f : Nat → Option Nat) : va_E := .inl (cy 3, n, .inr (.inr (.inr (.inr f))))
theorem qb_newQ (hx : p.tables.exec = Jvm.exec) (hb : c.code = cc) {own : String} {index : Nat} (hown : s.vm.findClass own = some m.cls) (hg : ∀ w ∈ wG, w.before args s = true) (hcl : Cond.classLink own index "StrengthLayout$Layout" ∈ wG) (hCx : qCx s) (hK : va_K D vwCl (qT cy) s) (hP : va_P D vwCl bs.flatten H) (hD : va_D A bs.flatten) (hS : va_S A H0 H locs) (hA : ∀ q, H0.size ≤ q → A q) {n : Int} {N : Nat} (hn : n = (N : Int) ∧ N < 100000) (hcells : cells + 1 ≤ R.cells) (hslots : slots + N ≤ R.slots) (hdg : decode cc pc = .ok (.anewarray index, 3))
    (kk : ∀ (q : Nat) (H1 : Heap), va_P D vwCl (bs ++ [[(q, aQ cy N (fun _ => none))]]).flatten H1 → va_D A (bs ++ [[(q, aQ cy N (fun _ => none))]]).flatten → va_S A H0 H1 locs → W p l e R s m args below meth c H1 locs (cells + 1) (slots + N) Q (F0 m (pc + 3) ls (.ref q :: rest))) : W p l e R s m args below meth c H locs cells slots Q (F0 m pc ls (.int (qI n) :: rest)) := by
  refine va_newq hx hb hown (hg _ hcl) hCx.1 hK hP hD hS hA (N' := N) (qI_ge0 hn) (qI_cl ⟨hn.1, by omega⟩) (by omega) hcells hslots hdg (fun q cA H1 hK1 h1 h2 h3 => ?_)
  obtain ⟨-, -, -, -, -, e1⟩ := (hK1.2 5 _ rfl).2
  obtain ⟨-, -, -, -, -, e2⟩ := (hK.2 3 _ rfl).2
  have e3 : cA = cy 3 := Option.some.inj (e1.symm.trans e2)
  subst e3
  refine kk q H1 ?_ ?_ h3
  · rw [fl_push]; exact h1
  · rw [fl_push]; exact h2
/-- an address function with its first place named -/
def qcs (h0 : Nat) (u : Nat → Nat) : Nat → Nat := fun k => if k = 0 then h0 else u k
theorem qb_mna (hx : p.tables.exec = Jvm.exec) (hb : c.code = cc) (hown : s.vm.findClass RX0 = some m.cls) (hg : ∀ w ∈ wG, w.before args s = true) (hCx : qCx s) (hK : va_K D vwCl (qT cy) s) (hP : va_P D vwCl bs.flatten H) (hD : va_D A bs.flatten) (hS : va_S A H0 H locs) (hA : ∀ q, H0.size ≤ q → A q) (hcells : cells + 12 ≤ R.cells) (hslots : slots + 132 ≤ R.slots) (hdg : decode cc pc = .ok (.multianewarray 9 2, 4))
    (kk : ∀ (r : Nat → Nat) (H1 : Heap), va_P D vwCl (bs ++ [[(r 1, (.inl (cy 2, 11, .inr (.inr (.inr (.inr (fun i => if i < 11 then some (r (2 + i)) else none))))) : va_E))] ++ (List.range 11).map (fun i => (r (2 + i), aI cy 11 (fun _ => 0)))]).flatten H1 → va_D A (bs ++ [[(r 1, (.inl (cy 2, 11, .inr (.inr (.inr (.inr (fun i => if i < 11 then some (r (2 + i)) else none))))) : va_E))] ++ (List.range 11).map (fun i => (r (2 + i), aI cy 11 (fun _ => 0)))]).flatten → va_S A H0 H1 locs → W p l e R s m args below meth c H1 locs (cells + 12) (slots + 132) Q (F0 m (pc + 4) ls (.ref (r 1) :: rest))) : W p l e R s m args below meth c H locs cells slots Q (F0 m pc ls (.int (qI 11) :: .int (qI 11) :: rest)) := by
  refine va_mna (X := bs.flatten) (L := []) (f := fun _ => aI cy 0 (fun _ => 0)) (ty := .int) (cy := cy 0) (z := (11, .inl (qA (fun _ => 0)))) (N' := 11) (K' := 11) hx hb hown (hg _ m_5) hCx.2 (hg _ m_6) ((hK.2 0 _ rfl).2) hK (by show va_P D vwCl (bs.flatten ++ []) H; rw [List.append_nil]; exact hP) (by show va_D A (bs.flatten ++ []); rw [List.append_nil]; exact hD) hS hA (by decide) (by decide) (by decide) (by decide) (by decide) (by decide) (by decide) (by decide) (by decide) hcells hslots (fun _ => rfl) hdg (fun q r cA H1 hr hr2 hK1 h1 h2 h3 => ?_)
  have e1 := (hK1.2 5 _ rfl).2
  have e2 := (hK.2 2 _ rfl).2
  have e3 : cA = cy 2 := Option.some.inj (e1.symm.trans e2)
  subst e3
  have er : ∀ i, (fun k => if k = 1 then q else r (k - 2)) (2 + i) = r i := fun i => by
    show (if 2 + i = 1 then q else r (2 + i - 2)) = r i
    rw [if_neg (by omega), show 2 + i - 2 = i by omega]
  have ew : (bs ++ [[((fun k => if k = 1 then q else r (k - 2)) 1, (.inl (cy 2, 11, .inr (.inr (.inr (.inr (fun i => if i < 11 then some ((fun k => if k = 1 then q else r (k - 2)) (2 + i)) else none))))) : va_E))] ++ (List.range 11).map (fun i => ((fun k => if k = 1 then q else r (k - 2)) (2 + i), aI cy 11 (fun _ => 0)))]).flatten = (bs.flatten ++ [(q, (.inl (cy 2, 11, .inr (.inr (.inr (.inr (fun i => if i < 11 then some (r i) else none))))) : va_E))]) ++ va_pl ([] ++ (List.range 11).map r) (vr_up (fun _ => aI cy 0 (fun _ => 0)) ((List.range 11).map r) (.inl (cy 0, (11, .inl (qA (fun _ => 0)))))) := by
    simp only [er]
    rw [fl_push, ← List.append_assoc]
    congr 1
    unfold va_pl
    rw [List.nil_append, List.map_map]
    apply List.map_congr_left
    intro i hi
    show _ = (r i, vr_up _ _ _ (r i))
    rw [vr_up_in (List.mem_map.mpr ⟨i, hi, rfl⟩)]
  refine kk (fun k => if k = 1 then q else r (k - 2)) H1 ?_ ?_ h3
  · rw [ew]; exact h1
  · rw [ew]; exact h2
/-- behind a constructor's call -/
theorem q_backC {S : Type} {post : S → Prop} {b1 : S → List va_W} {mc ms : Nat} (isC isR : List Nat) (hP : va_P D vwCl bs.flatten H) (hD : va_D A bs.flatten) (hS : va_S A H0 H locs) (hA : ∀ q, H0.size ≤ q → A q)
    (hr : va_Run p l e R s m args below meth c H locs cells slots mc ms (F0 m pc ls st0) rest (va_Qv post (qB D cy bc H.size b1) (va_A bc.flatten H.size) a) (va_A bc.flatten H.size))
    (hC : isC.map (fun i => bs[i]?) = bc.map some) (hR : isR.map (fun i => bs[i]?) = br.map some) (hn : va_nd (isR ++ isC) = true)
    (kk : ∀ (u : S) (H1 : Heap) (locs1 : List Loc), post u → va_P D vwCl (br ++ b1 u).flatten H1 → va_D A (br ++ b1 u).flatten → va_S A H0 H1 locs1 → W p l e R s m args below meth c H1 locs1 (cells + mc) (slots + ms) Q (F0 m (pc + 3) ls rest)) : W p l e R s m args below meth c H locs cells slots Q (F0 m pc ls st0) := by
  have hF := fl_free hD hS hA isC hC
  refine va_callv hr hS (fun q _ h => hF q h) hF (fun u t H1 locs1 ht hvm hw hB hz hk hS1 => ?_)
  obtain ⟨hP1, hK1, hD1⟩ := hB
  rw [ht] at hP1
  obtain ⟨h1, h2⟩ := fl_join hP hD isC isR hC hR hn hk hF hP1 hD1
  exact kk u H1 locs1 hw h1 h2 hS1
end QCT
