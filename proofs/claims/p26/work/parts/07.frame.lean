/-! ===== ints as integers, arrays of ints as functions into the integers ===== -/
def qI (z : Int) : Int32 := Int32.ofInt z
def qA (g : Nat → Int) : Nat → Int32 := fun j => qI (g j)
def qu {α : Type} (g : Nat → α) (k : Nat) (v : α) : Nat → α := fun j => if j = k then v else g j
def qz (b : Bool) : Int32 := if b then 1 else 0
def qZ (g : Nat → Bool) : Nat → Int32 := fun j => qz (g j)
theorem qI_add (a b : Int) : qI a + qI b = qI (a + b) := (Int32.ofInt_add a b).symm
theorem qI_sub (a b : Int) : qI a - qI b = qI (a - b) := (Int32.ofInt_sub a b).symm
theorem qI_mul (a b : Int) : qI a * qI b = qI (a * b) := (Int32.ofInt_mul a b).symm
theorem qI_neg (a : Int) : - qI a = qI (-a) := (Int32.ofInt_neg a).symm
theorem qI_toInt {z : Int} (h : -2147483648 ≤ z ∧ z < 2147483648) : (qI z).toInt = z := Int32.toInt_ofInt_of_le (by omega) (by omega)
theorem qI_lt {a b : Int} (h : (-2147483648 ≤ a ∧ a < 2147483648) ∧ (-2147483648 ≤ b ∧ b < 2147483648)) : qI a < qI b ↔ a < b := by rw [Int32.lt_iff_toInt_lt, qI_toInt h.1, qI_toInt h.2]
theorem qI_le {a b : Int} (h : (-2147483648 ≤ a ∧ a < 2147483648) ∧ (-2147483648 ≤ b ∧ b < 2147483648)) : qI a ≤ qI b ↔ a ≤ b := by rw [Int32.le_iff_toInt_le, qI_toInt h.1, qI_toInt h.2]
theorem qI_eq {a b : Int} (h : (-2147483648 ≤ a ∧ a < 2147483648) ∧ (-2147483648 ≤ b ∧ b < 2147483648)) : qI a = qI b ↔ a = b := by rw [← Int32.toInt_inj, qI_toInt h.1, qI_toInt h.2]
theorem qI_cl {z : Int} {j : Nat} (h : z = (j : Int) ∧ j < 2147483648) : (qI z).toNatClampNeg = j := by
  obtain ⟨rfl, h⟩ := h
  show (Int32.ofInt (j : Int)).toNatClampNeg = j
  rw [Int32.ofInt_eq_ofNat]
  exact Int32.toNatClampNeg_ofNat_of_lt (by omega)
theorem qI_in {z : Int} {n j : Nat} (h : z = (j : Int) ∧ j < n ∧ n < 2147483648) : vp_in (qI z) n := vp_in_iff.mpr (by rw [qI_toInt (by omega)]; omega)
theorem qI_of (x : Int32) : ∃ z : Int, (-2147483648 ≤ z ∧ z < 2147483648) ∧ x = qI z := ⟨x.toInt, by have h1 := Int32.le_toInt x; have h2 := Int32.toInt_lt x; omega, (Int32.ofInt_toInt x).symm⟩
theorem qI_nat (n : Nat) : Int32.ofNat n = qI (n : Int) := Int32.ofInt_eq_ofNat.symm
theorem qI_self (x : Int32) : qI x.toInt = x := Int32.ofInt_toInt x
theorem qA_self (f : Nat → Int32) : qA (fun j => (f j).toInt) = f := funext fun j => qI_self (f j)
theorem qA_up (g : Nat → Int) (k : Nat) (v : Int) : upd (qA g) k (qI v) = qA (qu g k v) := by
  funext j
  simp only [upd, qA, qu]
  split <;> rfl
theorem qu_s {α : Type} (g : Nat → α) (k : Nat) (v : α) : qu g k v k = v := by simp [qu]
theorem qu_n {α : Type} (g : Nat → α) {k j : Nat} (v : α) (h : j ≠ k) : qu g k v j = g j := by simp [qu, h]
theorem qz_t : qz true = 1 := rfl
theorem qz_f : qz false = 0 := rfl
theorem qz_01 (b : Bool) : qz b = 0 ∨ qz b = 1 := by cases b <;> simp [qz]
theorem qz_nar (b : Bool) : narrow .boolean (.int (qz b)) = .int (qz b) := by cases b <;> rfl
theorem qz_vnar (b : Bool) : vp_nar .boolean (qz b) = qz b := by cases b <;> rfl
theorem qz_eq0 (b : Bool) : qz b = 0 ↔ b = false := by cases b <;> simp [qz]
theorem qZ_up (g : Nat → Bool) (k : Nat) (v : Bool) : upd (qZ g) k (vp_nar .boolean (qz v)) = qZ (qu g k v) := by
  funext j
  simp only [upd, qZ, qu, qz_vnar]
  split <;> rfl
/-! ===== worlds in blocks ===== -/
theorem fl_P {D : va_G} {cl : List vw_C} {H : Heap} : ∀ {bs : List va_W}, va_P D cl bs.flatten H ↔ ∀ b ∈ bs, va_P D cl b H
  | [] => ⟨fun _ b h => by simp at h, fun _ k q h => by simp at h⟩
  | a :: bs => by
    rw [List.flatten_cons]
    constructor
    · intro h b hb
      have h1 : ∀ q ∈ a ++ bs.flatten, va_at D cl q H := fun q hq => by
        obtain ⟨k, hk⟩ := List.getElem?_of_mem hq
        exact h k q hk
      intro k q hk
      apply h1
      rcases List.mem_cons.mp hb with rfl | hb
      · exact List.mem_append_left _ (List.mem_of_getElem? hk)
      · exact List.mem_append_right _ (List.mem_flatten.mpr ⟨b, hb, List.mem_of_getElem? hk⟩)
    · intro h
      exact va_P.app (h a List.mem_cons_self) (fl_P.mpr fun b hb => h b (List.mem_cons_of_mem _ hb))
theorem fl_mem {α : Type} {bs bs' : List α} {is : List Nat} (hs : is.map (fun i => bs[i]?) = bs'.map some) : ∀ b ∈ bs', ∃ i, i ∈ is ∧ bs[i]? = some b := by
  intro b hb
  have h1 : some b ∈ bs'.map some := List.mem_map.mpr ⟨b, hb, rfl⟩
  rw [← hs] at h1
  obtain ⟨i, hi, e⟩ := List.mem_map.mp h1
  exact ⟨i, hi, e⟩
theorem fl_sub {D : va_G} {cl : List vw_C} {H : Heap} {bs bs' : List va_W} (h : va_P D cl bs.flatten H) (is : List Nat) (hs : is.map (fun i => bs[i]?) = bs'.map some) : va_P D cl bs'.flatten H := by
  rw [fl_P] at h ⊢
  intro b hb
  obtain ⟨i, -, hi⟩ := fl_mem hs b hb
  exact h b (List.mem_of_getElem? hi)
theorem fl_blk {D : va_G} {cl : List vw_C} {H : Heap} {bs : List va_W} {b : va_W} (h : va_P D cl bs.flatten H) (i : Nat) (hs : bs[i]? = some b) : va_P D cl b H := fl_P.mp h b (List.mem_of_getElem? hs)
/-- addresses apart, and in A -/
theorem va_D_iff {A : Nat → Prop} {ws : va_W} : va_D A ws ↔ ws.Pairwise (fun p q => p.1 ≠ q.1) ∧ ∀ q ∈ ws, A q.1 := by
  constructor
  · intro h
    refine ⟨?_, fun q hq => ?_⟩
    · rw [List.pairwise_iff_getElem]
      intro i j hi hj hij e
      have := h.1 i j ws[i] ws[j] (List.getElem?_eq_getElem hi) (List.getElem?_eq_getElem hj) e
      omega
    · obtain ⟨k, hk⟩ := List.getElem?_of_mem hq
      exact h.2 k q hk
  · intro ⟨h1, h2⟩
    rw [List.pairwise_iff_getElem] at h1
    refine ⟨fun i j p q hp hq e => ?_, fun k q hk => h2 q (List.mem_of_getElem? hk)⟩
    obtain ⟨hi, rfl⟩ := List.getElem?_eq_some_iff.mp hp
    obtain ⟨hj, rfl⟩ := List.getElem?_eq_some_iff.mp hq
    rcases Nat.lt_trichotomy i j with g | g | g
    · exact absurd e (h1 i j hi hj g)
    · exact g
    · exact absurd e.symm (h1 j i hj hi g)
theorem fl_D {A : Nat → Prop} {bs : List va_W} : va_D A bs.flatten ↔ (∀ b ∈ bs, va_D A b) ∧ bs.Pairwise (fun b b' => ∀ p ∈ b, ∀ q ∈ b', p.1 ≠ q.1) := by
  rw [va_D_iff, List.pairwise_flatten]
  constructor
  · intro ⟨⟨h1, h2⟩, h3⟩
    exact ⟨fun b hb => va_D_iff.mpr ⟨h1 b hb, fun q hq => h3 q (List.mem_flatten.mpr ⟨b, hb, hq⟩)⟩, h2⟩
  · intro ⟨h1, h2⟩
    refine ⟨⟨fun b hb => (va_D_iff.mp (h1 b hb)).1, h2⟩, fun q hq => ?_⟩
    obtain ⟨b, hb, hq⟩ := List.mem_flatten.mp hq
    exact (va_D_iff.mp (h1 b hb)).2 q hq
theorem fl_subD {A : Nat → Prop} {bs bs' : List va_W} (h : va_D A bs.flatten) (is : List Nat) (hn : va_nd is = true) (hs : is.map (fun i => bs[i]?) = bs'.map some) : va_D A bs'.flatten := by
  rw [fl_D] at h ⊢
  obtain ⟨h1, h2⟩ := h
  refine ⟨fun b hb => ?_, ?_⟩
  · obtain ⟨i, -, hi⟩ := fl_mem hs b hb
    exact h1 b (List.mem_of_getElem? hi)
  · have key : ∀ (k : Nat) (b : va_W), bs'[k]? = some b → ∃ i, is[k]? = some i ∧ bs[i]? = some b := by
      intro k b hk
      have h1 : (is.map (fun i => bs[i]?))[k]? = some (some b) := by rw [hs, List.getElem?_map, hk]; rfl
      rw [List.getElem?_map] at h1
      cases hi : is[k]? with
      | none => rw [hi] at h1; cases h1
      | some i => rw [hi] at h1; exact ⟨i, rfl, Option.some.inj h1⟩
    rw [List.pairwise_iff_getElem] at h2 ⊢
    intro i j hi hj hij p hp q hq e
    obtain ⟨i2, a1, a2⟩ := key i _ (List.getElem?_eq_getElem hi)
    obtain ⟨j2, b1, b2⟩ := key j _ (List.getElem?_eq_getElem hj)
    obtain ⟨hi2, e2⟩ := List.getElem?_eq_some_iff.mp a2
    obtain ⟨hj2, e3⟩ := List.getElem?_eq_some_iff.mp b2
    rcases Nat.lt_trichotomy i2 j2 with g | g | g
    · exact h2 i2 j2 hi2 hj2 g p (by rw [e2]; exact hp) q (by rw [e3]; exact hq) e
    · subst g
      exact absurd (va_nd_inj is hn i j i2 a1 b1) (by omega)
    · exact h2 j2 i2 hj2 hi2 g q (by rw [e3]; exact hq) p (by rw [e2]; exact hp) e.symm
theorem fl_free {A0 : Nat → Prop} {bs bc : List va_W} {H0 H : Heap} {locs : List Loc} (hD : va_D A0 bs.flatten) (hS : va_S A0 H0 H locs) (hA : ∀ q, H0.size ≤ q → A0 q) (is : List Nat) (hC : is.map (fun i => bs[i]?) = bc.map some) : ∀ q, va_A bc.flatten H.size q → A0 q := by
  intro q h
  rcases h with ⟨k, e, h⟩ | h
  · obtain ⟨b, hb, hq⟩ := List.mem_flatten.mp (List.mem_of_getElem? h)
    obtain ⟨i, -, hi⟩ := fl_mem hC b hb
    exact (va_D_iff.mp hD).2 (q, e) (List.mem_flatten.mpr ⟨b, List.mem_of_getElem? hi, hq⟩)
  · exact hA q (Nat.le_trans hS.1 h)
theorem va_nd_app {a b : List Nat} (ha : va_nd a = true) (hb : va_nd b = true) (h : ∀ i ∈ a, i ∉ b) : va_nd (a ++ b) = true := by
  induction a with
  | nil => exact hb
  | cons x a ih =>
    simp only [va_nd, Bool.and_eq_true, decide_eq_true_eq] at ha
    simp only [List.cons_append, va_nd, Bool.and_eq_true, decide_eq_true_eq, List.mem_append, not_or]
    exact ⟨⟨ha.1, h x List.mem_cons_self⟩, ih ha.2 (fun i hi => h i (List.mem_cons_of_mem _ hi))⟩
/-- behind a call: the caller's other blocks as they were, the callee's blocks as it left them -/
theorem fl_join {A0 : Nat → Prop} {D : va_G} {cl : List vw_C} {bs bc br b1 : List va_W} {H H1 : Heap} (hP : va_P D cl bs.flatten H) (hD : va_D A0 bs.flatten) (isC isR : List Nat) (hC : isC.map (fun i => bs[i]?) = bc.map some) (hR : isR.map (fun i => bs[i]?) = br.map some) (hn : va_nd (isR ++ isC) = true)
    (hk : ∀ q : Nat, q < H.size → ¬ va_A bc.flatten H.size q → H1[q]? = H[q]?) (hF : ∀ q, va_A bc.flatten H.size q → A0 q) (hP1 : va_P D cl b1.flatten H1) (hD1 : va_D (va_A bc.flatten H.size) b1.flatten) : va_P D cl (br ++ b1).flatten H1 ∧ va_D A0 (br ++ b1).flatten := by
  have hall : va_D A0 (br ++ bc).flatten := fl_subD hD (isR ++ isC) hn (by rw [List.map_append, List.map_append, hC, hR])
  rw [List.flatten_append] at hall
  have hPr := fl_sub hP isR hR
  have apart : ∀ q ∈ br.flatten, q.1 < H.size ∧ ¬ va_A bc.flatten H.size q.1 := by
    intro q hq
    obtain ⟨k, hk2⟩ := List.getElem?_of_mem hq
    have hl := (hPr k q hk2).lt
    refine ⟨hl, fun h => ?_⟩
    rcases h with ⟨k3, e, h⟩ | h
    · have := (List.pairwise_append.mp (va_D_iff.mp hall).1).2.2 q hq (q.1, e) (List.mem_of_getElem? h)
      exact this rfl
    · omega
  rw [List.flatten_append]
  refine ⟨va_P.app (fun k q hq => ?_) hP1, va_D.app (va_D_iff.mpr ⟨(List.pairwise_append.mp (va_D_iff.mp hall).1).1, fun q hq => (va_D_iff.mp hall).2 q (List.mem_append_left _ hq)⟩) (hD1.weaken (fun k q _ h => hF q.1 h)) (fun i j x y hx hy hxy => ?_)⟩
  · obtain ⟨g1, g2⟩ := apart q (List.mem_of_getElem? hq)
    exact (hPr k q hq).kept (hk q.1 g1 g2)
  · exact (apart x (List.mem_of_getElem? hx)).2 (by rw [hxy]; exact hD1.2 j y hy)
/-! ===== contracts in one form ===== -/
/-- the classes of the arrays: int, boolean, int of int, layouts, long -/
abbrev qT (cy : Nat → ClassId) : List (ClassId × FieldType) := [(cy 0, .int), (cy 0, .int), (cy 2, .array .int), (cy 3, .object "StrengthLayout$Layout"), (cy 0, .int)]
abbrev qrm (d : Nat) : Room := { frames := d, cells := 0, slots := 0, locals := 30 * d }
/-! ===== links to a nest mate's private members: true of the tables, kept by a warming ===== -/
abbrev wN : List Cond := [.methodLinkNest "StrengthLayout$Layout" 20 ⟨"StrengthLayout$Rules", "<init>", "()V"⟩ "StrengthLayout", .methodLinkNest "StrengthLayout" 18 ⟨"StrengthLayout$Filling", "<init>", "()V"⟩ "StrengthLayout", .methodLinkNest "StrengthLayout$Filling" 20 ⟨"StrengthLayout$Outcome", "<init>", "()V"⟩ "StrengthLayout", .methodLinkNest "StrengthLayout" 45 ⟨"StrengthLayout$TextReader", "<init>", "()V"⟩ "StrengthLayout", .methodLinkNest "StrengthLayout$TextReader" 11 ⟨"StrengthLayout$Rules", "<init>", "()V"⟩ "StrengthLayout"]
def qNe (U : State) : Prop := ∀ w ∈ wN, va_Nw w U
theorem qNe.warm {s U : State} (hW : s.WarmedH U.vm) (h : qNe s) : qNe U := by
  intro w hw
  have h1 := h w hw
  simp only [wN, List.mem_cons, List.not_mem_nil, or_false] at hw
  rcases hw with rfl | rfl | rfl | rfl | rfl <;> exact va_Nw.warmM hW h1
theorem qNe.same {s U : State} (hv : s.vm = U.vm) (h : qNe s) : qNe U := by
  intro w hw
  have h1 := h w hw
  simp only [wN, List.mem_cons, List.not_mem_nil, or_false] at hw
  rcases hw with rfl | rfl | rfl | rfl | rfl <;> exact va_Nw.same rfl hv h1
abbrev qP (D : va_G) (cy : Nat → ClassId) (bs : List va_W) (sz : Nat) : State → Prop := fun U => U.heap.size = sz ∧ va_P D vwCl bs.flatten U.heap ∧ va_K D vwCl (qT cy) U ∧ qNe U ∧ va_D (fun _ => True) bs.flatten
abbrev qB {S : Type} (D : va_G) (cy : Nat → ClassId) (bs : List va_W) (sz : Nat) (b1 : S → List va_W) : S → State → Prop := fun u t => va_P D vwCl (b1 u).flatten t.heap ∧ va_K D vwCl (qT cy) t ∧ va_D (va_A bs.flatten sz) (b1 u).flatten
abbrev qP0 (D : va_G) (cy : Nat → ClassId) (bs : List va_W) : State → Prop := fun U => va_P D vwCl bs.flatten U.heap ∧ va_K D vwCl (qT cy) U ∧ qNe U
/-- a contract of a method that changes its blocks -/
abbrev qMet (l : Launch) (y : MethodName) (w : Cond) (d : Nat) (avs : List Value) (D : va_G) (cy : Nat → ClassId) (bs : List va_W) (sz : Nat) (Qc : Array Value → State → Outcome → State → Prop) : Prop := Met l y (w :: wG) (qrm d) (va_Pc avs (qP D cy bs sz)) Qc 0 0 (va_A bs.flatten sz)
/-- a contract of a method that reads alone -/
abbrev qRd (l : Launch) (y : MethodName) (w : Cond) (d : Nat) (avs : List Value) (D : va_G) (cy : Nat → ClassId) (bs : List va_W) (Qc : Array Value → State → Outcome → State → Prop) : Prop := Met l y (w :: wG) (qrm d) (va_Pc avs (qP0 D cy bs)) Qc 0 0 (fun _ => False)
theorem q_blind {avs : List Value} {D : va_G} {cy : Nat → ClassId} {bs : List va_W} {sz : Nat} : FrameBlind (va_Pc avs (qP D cy bs sz)) := fun a U g mk q => ⟨q.1, q.2.1, q.2.2.1, va_K.moved (u := U) (U := U.calling g mk a) (Vm.Alike.refl U.vm) q.2.2.2.1, qNe.same (s := U) (U := U.calling g mk a) rfl q.2.2.2.2.1, q.2.2.2.2.2⟩
theorem q_blind0 {avs : List Value} {D : va_G} {cy : Nat → ClassId} {bs : List va_W} : FrameBlind (va_Pc avs (qP0 D cy bs)) := fun a U g mk q => ⟨q.1, q.2.1, va_K.moved (u := U) (U := U.calling g mk a) (Vm.Alike.refl U.vm) q.2.2.1, qNe.same (s := U) (U := U.calling g mk a) rfl q.2.2.2⟩
section QOF
variable {S : Type} {l : Launch} {y : MethodName} {cc : ByteArray} {nL d sz : Nat} {avs : List Value} {D : va_G} {cy : Nat → ClassId} {bs : List va_W} {b1 : S → List va_W}
theorem q_ofMi {post : Int32 → S → Prop} (hy : plainName y.cls = true) (hlen : (lg_sl avs).length ≤ nL)
    (body : ∀ (p : Program) (e : Env) (s : State) (m : MethodId) (args : Array Value) (below : List Frame) (meth : Method) (c : Code) (Q : State → Prop) (A : Nat → Prop), p.tables.exec = Jvm.exec → c.code = cc → c.maxLocals = nL → s.vm.findClass y.cls = some m.cls → (∀ w ∈ wG, w.before args s = true) →
      (∀ (pc : Nat) (H : Heap) (locs : List Loc) (ls : Array Slot) (r : Int32) (u : S), post r u → va_P D vwCl (b1 u).flatten H → va_D A (b1 u).flatten → va_S A s.heap H locs → decode cc pc = .ok (.ireturn, 1) → W p l e (qrm d) s m args below meth c H locs 0 0 Q (F0 m pc ls [.int r])) →
      va_K D vwCl (qT cy) s → qNe s → va_D A bs.flatten → (∀ q, s.heap.size ≤ q → A q) → ∀ (H : Heap) (locs : List Loc) (ls : Array Slot), va_P D vwCl bs.flatten H → va_S A s.heap H locs → lv_has ls nL (lv_args 0 avs) → W p l e (qrm d) s m args below meth c H locs 0 0 Q (F0 m 0 ls [])) :
    qMet l y (.code y cc nL (some .int)) d avs D cy bs sz (va_Qi post (qB D cy bs sz b1) (va_A bs.flatten sz)) := by
  refine Met.ofW (cc := cc) (maxL := nL) (ret := some .int) hy rfl ?_
  intro p e s m args below meth c s₁ B hml hv
  obtain ⟨rfl, hsz, hP, hK, hN, hD0⟩ := hv
  subst hsz
  have hts := atoms_spec (ws := .code y cc nL (some .int) :: wG) B.pre
  have hl := lv_entry avs (n := nL) hlen
  rw [lg_entry_eq]
  exact body p e s m _ below meth c _ _ B.exec B.bytes hml (findClass_of_methodNamed B.named) (fun w h => hts w (List.mem_cons_of_mem _ h)) (fun pc H locs ls r u h1 h2 h3 h4 h5 => W.iret B.exec B.bytes B.returns (fun t ht hW => ⟨⟨r, u, rfl, h1, by rw [ht]; exact h2, va_K.moved hW.alike hK, h3⟩, h4.F ht⟩) h4.2.2 h5) hK hN hD0.self (fun q h => Or.inr h) _ _ _ hP va_S.rf hl
theorem q_ofMv {post : S → Prop} (hy : plainName y.cls = true) (hlen : (lg_sl avs).length ≤ nL)
    (body : ∀ (p : Program) (e : Env) (s : State) (m : MethodId) (args : Array Value) (below : List Frame) (meth : Method) (c : Code) (Q : State → Prop) (A : Nat → Prop), p.tables.exec = Jvm.exec → c.code = cc → c.maxLocals = nL → s.vm.findClass y.cls = some m.cls → (∀ w ∈ wG, w.before args s = true) →
      (∀ (pc : Nat) (H : Heap) (locs : List Loc) (ls : Array Slot) (u : S), post u → va_P D vwCl (b1 u).flatten H → va_D A (b1 u).flatten → va_S A s.heap H locs → decode cc pc = .ok (.return_, 1) → W p l e (qrm d) s m args below meth c H locs 0 0 Q (F0 m pc ls [])) →
      va_K D vwCl (qT cy) s → qNe s → va_D A bs.flatten → (∀ q, s.heap.size ≤ q → A q) → ∀ (H : Heap) (locs : List Loc) (ls : Array Slot), va_P D vwCl bs.flatten H → va_S A s.heap H locs → lv_has ls nL (lv_args 0 avs) → W p l e (qrm d) s m args below meth c H locs 0 0 Q (F0 m 0 ls [])) :
    qMet l y (.code y cc nL none) d avs D cy bs sz (va_Qv post (qB D cy bs sz b1) (va_A bs.flatten sz)) := by
  refine Met.ofW (cc := cc) (maxL := nL) (ret := none) hy rfl ?_
  intro p e s m args below meth c s₁ B hml hv
  obtain ⟨rfl, hsz, hP, hK, hN, hD0⟩ := hv
  subst hsz
  have hts := atoms_spec (ws := .code y cc nL none :: wG) B.pre
  have hl := lv_entry avs (n := nL) hlen
  rw [lg_entry_eq]
  exact body p e s m _ below meth c _ _ B.exec B.bytes hml (findClass_of_methodNamed B.named) (fun w h => hts w (List.mem_cons_of_mem _ h)) (fun pc H locs ls u h1 h2 h3 h4 h5 => W.vret B.exec B.bytes B.returns (fun t ht hW => ⟨⟨u, rfl, h1, by rw [ht]; exact h2, va_K.moved hW.alike hK, h3⟩, h4.F ht⟩) h4.2.2 h5) hK hN hD0.self (fun q h => Or.inr h) _ _ _ hP va_S.rf hl
theorem q_ofMz {post : Bool → S → Prop} (hy : plainName y.cls = true) (hlen : (lg_sl avs).length ≤ nL)
    (body : ∀ (p : Program) (e : Env) (s : State) (m : MethodId) (args : Array Value) (below : List Frame) (meth : Method) (c : Code) (Q : State → Prop) (A : Nat → Prop), p.tables.exec = Jvm.exec → c.code = cc → c.maxLocals = nL → s.vm.findClass y.cls = some m.cls → (∀ w ∈ wG, w.before args s = true) →
      (∀ (pc : Nat) (H : Heap) (locs : List Loc) (ls : Array Slot) (r : Bool) (u : S), post r u → va_P D vwCl (b1 u).flatten H → va_D A (b1 u).flatten → va_S A s.heap H locs → decode cc pc = .ok (.ireturn, 1) → W p l e (qrm d) s m args below meth c H locs 0 0 Q (F0 m pc ls [.int (qz r)])) →
      va_K D vwCl (qT cy) s → qNe s → va_D A bs.flatten → (∀ q, s.heap.size ≤ q → A q) → ∀ (H : Heap) (locs : List Loc) (ls : Array Slot), va_P D vwCl bs.flatten H → va_S A s.heap H locs → lv_has ls nL (lv_args 0 avs) → W p l e (qrm d) s m args below meth c H locs 0 0 Q (F0 m 0 ls [])) :
    qMet l y (.code y cc nL (some .boolean)) d avs D cy bs sz (va_Qi (fun r u => ∃ b : Bool, r = qz b ∧ post b u) (qB D cy bs sz b1) (va_A bs.flatten sz)) := by
  refine Met.ofW (cc := cc) (maxL := nL) (ret := some .boolean) hy rfl ?_
  intro p e s m args below meth c s₁ B hml hv
  obtain ⟨rfl, hsz, hP, hK, hN, hD0⟩ := hv
  subst hsz
  have hts := atoms_spec (ws := .code y cc nL (some .boolean) :: wG) B.pre
  have hl := lv_entry avs (n := nL) hlen
  rw [lg_entry_eq]
  exact body p e s m _ below meth c _ _ B.exec B.bytes hml (findClass_of_methodNamed B.named) (fun w h => hts w (List.mem_cons_of_mem _ h)) (fun pc H locs ls r u h1 h2 h3 h4 h5 => W.zret B.exec B.bytes B.returns (qz_nar r) (fun t ht hW => ⟨⟨qz r, u, rfl, ⟨r, rfl, h1⟩, by rw [ht]; exact h2, va_K.moved hW.alike hK, h3⟩, h4.F ht⟩) h4.2.2 h5) hK hN hD0.self (fun q h => Or.inr h) _ _ _ hP va_S.rf hl
theorem q_ofRi {post : Int32 → Prop} (hy : plainName y.cls = true) (hlen : (lg_sl avs).length ≤ nL)
    (body : ∀ (p : Program) (e : Env) (s : State) (m : MethodId) (args : Array Value) (below : List Frame) (meth : Method) (c : Code) (Q : State → Prop), p.tables.exec = Jvm.exec → c.code = cc → c.maxLocals = nL → s.vm.findClass y.cls = some m.cls → (∀ w ∈ wG, w.before args s = true) →
      (∀ (pc : Nat) (ls : Array Slot) (r : Int32), post r → decode cc pc = .ok (.ireturn, 1) → W p l e (qrm d) s m args below meth c s.heap [] 0 0 Q (F0 m pc ls [.int r])) →
      va_K D vwCl (qT cy) s → qNe s → va_P D vwCl bs.flatten s.heap → ∀ ls : Array Slot, lv_has ls nL (lv_args 0 avs) → W p l e (qrm d) s m args below meth c s.heap [] 0 0 Q (F0 m 0 ls [])) :
    qRd l y (.code y cc nL (some .int)) d avs D cy bs (vp_Si post) := by
  refine Met.ofW (cc := cc) (maxL := nL) (ret := some .int) hy rfl ?_
  intro p e s m args below meth c s₁ B hml hv
  obtain ⟨rfl, hP, hK, hN⟩ := hv
  have hts := atoms_spec (ws := .code y cc nL (some .int) :: wG) B.pre
  have hl := lv_entry avs (n := nL) hlen
  rw [lg_entry_eq]
  exact body p e s m _ below meth c _ B.exec B.bytes hml (findClass_of_methodNamed B.named) (fun w h => hts w (List.mem_cons_of_mem _ h)) (fun pc ls r h1 h5 => W.iret B.exec B.bytes B.returns (fun t ht hW => ⟨r, rfl, h1, ht⟩) (fun _ h => by cases h) h5) hK hN hP _ hl
theorem q_ofRz {post : Bool → Prop} (hy : plainName y.cls = true) (hlen : (lg_sl avs).length ≤ nL)
    (body : ∀ (p : Program) (e : Env) (s : State) (m : MethodId) (args : Array Value) (below : List Frame) (meth : Method) (c : Code) (Q : State → Prop), p.tables.exec = Jvm.exec → c.code = cc → c.maxLocals = nL → s.vm.findClass y.cls = some m.cls → (∀ w ∈ wG, w.before args s = true) →
      (∀ (pc : Nat) (ls : Array Slot) (r : Bool), post r → decode cc pc = .ok (.ireturn, 1) → W p l e (qrm d) s m args below meth c s.heap [] 0 0 Q (F0 m pc ls [.int (qz r)])) →
      va_K D vwCl (qT cy) s → qNe s → va_P D vwCl bs.flatten s.heap → ∀ ls : Array Slot, lv_has ls nL (lv_args 0 avs) → W p l e (qrm d) s m args below meth c s.heap [] 0 0 Q (F0 m 0 ls [])) :
    qRd l y (.code y cc nL (some .boolean)) d avs D cy bs (vp_Si (fun r => ∃ b : Bool, r = qz b ∧ post b)) := by
  refine Met.ofW (cc := cc) (maxL := nL) (ret := some .boolean) hy rfl ?_
  intro p e s m args below meth c s₁ B hml hv
  obtain ⟨rfl, hP, hK, hN⟩ := hv
  have hts := atoms_spec (ws := .code y cc nL (some .boolean) :: wG) B.pre
  have hl := lv_entry avs (n := nL) hlen
  rw [lg_entry_eq]
  exact body p e s m _ below meth c _ B.exec B.bytes hml (findClass_of_methodNamed B.named) (fun w h => hts w (List.mem_cons_of_mem _ h)) (fun pc ls r h1 h5 => W.zret B.exec B.bytes B.returns (qz_nar r) (fun t ht hW => ⟨qz r, rfl, ⟨r, rfl, h1⟩, ht⟩) (fun _ h => by cases h) h5) hK hN hP _ hl
end QOF
