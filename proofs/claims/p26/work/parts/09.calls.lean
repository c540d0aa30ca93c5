theorem gV {own C : String} {idx : Nat} {y : MethodName} {w : Cond} (h1 : Cond.methodLink own idx y ∈ wG) (h2 : Cond.instanceMethod y ∈ wG) (h3 : Cond.selects C y y ∈ wG) (h4 : Cond.initialized C ∈ wG) (h5 : w ∈ wG) : GoodIn wG (wsV own idx C y (w :: wG)) := by
  intro x hx
  have hx : x ∈ wG := by
    unfold wsV at hx
    rcases List.mem_append.mp hx with hx | hx
    · simp only [List.mem_cons, List.not_mem_nil, or_false] at hx
      rcases hx with rfl | rfl | rfl | rfl <;> assumption
    · rcases List.mem_cons.mp hx with rfl | hx <;> assumption
  exact ⟨hx, good_of_word (List.mem_filter.mp hx).2⟩
theorem gS {own : String} {idx : Nat} {y : MethodName} {w : Cond} (h1 : Cond.methodLink own idx y ∈ wG) (h2 : Cond.static y ∈ wG) (h4 : Cond.initialized y.cls ∈ wG) (h5 : w ∈ wG) : GoodIn wG (va_wsS own idx y (w :: wG)) := by
  intro x hx
  have hx : x ∈ wG := by
    unfold va_wsS at hx
    rcases List.mem_append.mp hx with hx | hx
    · simp only [List.mem_cons, List.not_mem_nil, or_false] at hx
      rcases hx with rfl | rfl | rfl <;> assumption
    · rcases List.mem_cons.mp hx with rfl | hx <;> assumption
  exact ⟨hx, good_of_word (List.mem_filter.mp hx).2⟩
theorem gC {w : Cond} (h5 : w ∈ wG) : GoodIn wG (w :: wG) := by
  intro x hx
  have hx : x ∈ wG := by rcases List.mem_cons.mp hx with rfl | hx <;> assumption
  exact ⟨hx, good_of_word (List.mem_filter.mp hx).2⟩
section QCL
variable {p : Program} {l : Launch} {e : Env} {R : Room} {s : State} {m : MethodId} {args : Array Value} {below : List Frame} {meth : Method} {c : Code} {H : Heap} {locs : List Loc} {cells slots : Nat} {Q : State → Prop}
variable {cc : ByteArray} {pc : Nat} {ls : Array Slot} {rest st0 : List Value} {D : va_G} {A0 : Nat → Prop} {a : Array Value} {H0 : Heap} {cy : Nat → ClassId} {bs bc br : List va_W}
theorem q_preM (avs : List Value) (hK : va_K D vwCl (qT cy) s) (hN : qNe s) (hP : va_P D vwCl bs.flatten H) (hD : va_D A0 bs.flatten) (isC : List Nat) (hn : va_nd isC = true) (hC : isC.map (fun i => bs[i]?) = bc.map some) : ∀ U : State, U.heap = H → s.WarmedH U.vm → (va_Pc avs (qP D cy bc H.size)) avs.toArray U :=
  fun U hU hW => ⟨rfl, by rw [hU], by rw [hU]; exact fl_sub hP isC hC, va_K.moved hW.alike hK, hN.warm hW, (fl_subD hD isC hn hC).weaken (fun _ _ _ _ => trivial)⟩
theorem q_preR (avs : List Value) (hK : va_K D vwCl (qT cy) s) (hN : qNe s) (hP : va_P D vwCl bs.flatten H) (isC : List Nat) (hC : isC.map (fun i => bs[i]?) = bc.map some) : ∀ U : State, U.heap = H → s.WarmedH U.vm → (va_Pc avs (qP0 D cy bc)) avs.toArray U :=
  fun U hU hW => ⟨rfl, by rw [hU]; exact fl_sub hP isC hC, va_K.moved hW.alike hK, hN.warm hW⟩
theorem q_backi {S : Type} {post : Int32 → S → Prop} {b1 : S → List va_W} (isC isR : List Nat) (hP : va_P D vwCl bs.flatten H) (hD : va_D A0 bs.flatten) (hS : va_S A0 H0 H locs) (hA : ∀ q, H0.size ≤ q → A0 q)
    (hr : va_Run p l e R s m args below meth c H locs cells slots 0 0 (F0 m pc ls st0) rest (va_Qi post (qB D cy bc H.size b1) (va_A bc.flatten H.size) a) (va_A bc.flatten H.size))
    (hC : isC.map (fun i => bs[i]?) = bc.map some) (hR : isR.map (fun i => bs[i]?) = br.map some) (hn : va_nd (isR ++ isC) = true)
    (kk : ∀ (r : Int32) (u : S) (H1 : Heap) (locs1 : List Loc), post r u → va_P D vwCl (br ++ b1 u).flatten H1 → va_D A0 (br ++ b1 u).flatten → va_S A0 H0 H1 locs1 → W p l e R s m args below meth c H1 locs1 cells slots Q (F0 m (pc + 3) ls (.int r :: rest))) : W p l e R s m args below meth c H locs cells slots Q (F0 m pc ls st0) := by
  have hF := fl_free hD hS hA isC hC
  refine va_calli hr hS (fun q _ h => hF q h) hF (fun r u t H1 locs1 ht hvm hw hB hz hk hS1 => ?_)
  obtain ⟨hP1, hK1, hD1⟩ := hB
  rw [ht] at hP1
  obtain ⟨h1, h2⟩ := fl_join hP hD isC isR hC hR hn hk hF hP1 hD1
  exact kk r u H1 locs1 hw h1 h2 hS1
theorem q_backv {S : Type} {post : S → Prop} {b1 : S → List va_W} (isC isR : List Nat) (hP : va_P D vwCl bs.flatten H) (hD : va_D A0 bs.flatten) (hS : va_S A0 H0 H locs) (hA : ∀ q, H0.size ≤ q → A0 q)
    (hr : va_Run p l e R s m args below meth c H locs cells slots 0 0 (F0 m pc ls st0) rest (va_Qv post (qB D cy bc H.size b1) (va_A bc.flatten H.size) a) (va_A bc.flatten H.size))
    (hC : isC.map (fun i => bs[i]?) = bc.map some) (hR : isR.map (fun i => bs[i]?) = br.map some) (hn : va_nd (isR ++ isC) = true)
    (kk : ∀ (u : S) (H1 : Heap) (locs1 : List Loc), post u → va_P D vwCl (br ++ b1 u).flatten H1 → va_D A0 (br ++ b1 u).flatten → va_S A0 H0 H1 locs1 → W p l e R s m args below meth c H1 locs1 cells slots Q (F0 m (pc + 3) ls rest)) : W p l e R s m args below meth c H locs cells slots Q (F0 m pc ls st0) := by
  have hF := fl_free hD hS hA isC hC
  refine va_callv hr hS (fun q _ h => hF q h) hF (fun u t H1 locs1 ht hvm hw hB hz hk hS1 => ?_)
  obtain ⟨hP1, hK1, hD1⟩ := hB
  rw [ht] at hP1
  obtain ⟨h1, h2⟩ := fl_join hP hD isC isR hC hR hn hk hF hP1 hD1
  exact kk u H1 locs1 hw h1 h2 hS1
theorem q_backz {S : Type} {post : Bool → S → Prop} {b1 : S → List va_W} (isC isR : List Nat) (hP : va_P D vwCl bs.flatten H) (hD : va_D A0 bs.flatten) (hS : va_S A0 H0 H locs) (hA : ∀ q, H0.size ≤ q → A0 q)
    (hr : va_Run p l e R s m args below meth c H locs cells slots 0 0 (F0 m pc ls st0) rest (va_Qi (fun r u => ∃ b : Bool, r = qz b ∧ post b u) (qB D cy bc H.size b1) (va_A bc.flatten H.size) a) (va_A bc.flatten H.size))
    (hC : isC.map (fun i => bs[i]?) = bc.map some) (hR : isR.map (fun i => bs[i]?) = br.map some) (hn : va_nd (isR ++ isC) = true)
    (kk : ∀ (r : Bool) (u : S) (H1 : Heap) (locs1 : List Loc), post r u → va_P D vwCl (br ++ b1 u).flatten H1 → va_D A0 (br ++ b1 u).flatten → va_S A0 H0 H1 locs1 → W p l e R s m args below meth c H1 locs1 cells slots Q (F0 m (pc + 3) ls (.int (qz r) :: rest))) : W p l e R s m args below meth c H locs cells slots Q (F0 m pc ls st0) :=
  q_backi isC isR hP hD hS hA hr hC hR hn (fun r u H1 locs1 hw h1 h2 h3 => by obtain ⟨b, rfl, hb⟩ := hw; exact kk b u H1 locs1 hb h1 h2 h3)
theorem q_run_R {mc : Nat} {g : JFrame} {Qa : State → Outcome → State → Prop} {free : Addr → Prop} (h : va_Run p l e R s m args below meth c H locs cells slots mc mc g rest Qa free) : CallRun p l e R s m args below meth c H locs cells slots mc mc g rest Qa free := by
  intro T hT X
  obtain ⟨v, st₀, t, T', L, h0, X', hL, e1, e2, q, st⟩ := h T hT X
  exact ⟨v, st₀, t, T', L, h0, X', hL, e1, q, st⟩
theorem q_readi {post : Int32 → Prop} (hr : va_Run p l e R s m args below meth c H locs cells slots 0 0 (F0 m pc ls st0) rest (vp_Si post a) (fun _ => False)) (kk : ∀ r : Int32, post r → W p l e R s m args below meth c H locs cells slots Q (F0 m (pc + 3) ls (.int r :: rest))) : W p l e R s m args below meth c H locs cells slots Q (F0 m pc ls st0) := vp_callSi (q_run_R hr) kk
theorem q_readz {post : Bool → Prop} (hr : va_Run p l e R s m args below meth c H locs cells slots 0 0 (F0 m pc ls st0) rest (vp_Si (fun r => ∃ b : Bool, r = qz b ∧ post b) a) (fun _ => False)) (kk : ∀ r : Bool, post r → W p l e R s m args below meth c H locs cells slots Q (F0 m (pc + 3) ls (.int (qz r) :: rest))) : W p l e R s m args below meth c H locs cells slots Q (F0 m pc ls st0) := vp_callSi (q_run_R hr) (fun r h => by obtain ⟨b, rfl, hb⟩ := h; exact kk b hb)
end QCL
