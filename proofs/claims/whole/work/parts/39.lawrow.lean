/-! ===== rows for the law: a call that may touch fewer cells, an exception that is caught ===== -/
section ZLW
variable {p : Program} {l : Launch} {e : Env} {R : Room} {s : State} {m : MethodId} {args : Array Value} {below : List Frame} {meth : Method} {c : Code} {H : Heap} {locs : List Loc} {cells slots : Nat} {Q : State → Prop}
variable {cc : ByteArray} {pc : Nat} {ls : Array Slot} {rest st0 : List Value} {D : va_G} {cy : Nat → ClassId} {A B : Nat → Prop} {ad : Nat → Nat} {ew : Nat → Option va_E} {a : Array Value} {mc ms : Nat}
theorem zPVn {As : List Value} {k0 ci : Nat} {q : vw_C} {fs : List Value} (hB : ∀ q, B q → A q) (hE : EN D cy A s s.heap) (hS : va_S A s.heap H locs) (hw : zW D A ad ew H) (hc : vwCl[ci]? = some q) (he : ew k0 = some (.inr (ci, fs))) : PreV s H q.1 (ad k0) (zPc D cy B (.ref (ad k0) :: As) H) As := ⟨zBlind, va_recv hE.1 (hw.one he) hc (q0 := 0) rfl, fun U hU hW => ⟨rfl, hU, ((hE.at hS).narrow hB).move hW⟩⟩
theorem zPSn {As : List Value} (hB : ∀ q, B q → A q) (hE : EN D cy A s s.heap) (hS : va_S A s.heap H locs) : PreS s H (zPc D cy B As H) As := ⟨zBlind, fun U hU hW => ⟨rfl, hU, ((hE.at hS).narrow hB).move hW⟩⟩
theorem zcalliN {post : Int → Heap → Prop} (hB : ∀ q, B q → A q) (hr : va_Run p l e R s m args below meth c H locs cells slots mc ms (F0 m pc ls st0) rest (zQi post B a) B) (hS : va_S A s.heap H locs)
    (kk : ∀ (z : Int) (H1 : Heap) (locs1 : List Loc), zr z → post z H1 → H.size ≤ H1.size → (∀ q : Nat, q < H.size → ¬ B q → H1[q]? = H[q]?) → va_S A s.heap H1 locs1 → W p l e R s m args below meth c H1 locs1 (cells + mc) (slots + ms) Q (F0 m (pc + 3) ls (.int (iI z) :: rest))) : W p l e R s m args below meth c H locs cells slots Q (F0 m pc ls st0) := by
  refine va_calli hr hS (fun q _ h => hB q h) hB (fun r u t H1 locs1 ht _ hp hb hz hk hS1 => ?_)
  obtain ⟨z, hz1, rfl, hp⟩ := hp
  have e1 : u = H1 := hb.symm.trans ht
  subst e1
  exact kk z u locs1 hz1 hp hz hk hS1
theorem zcallvN {post : Heap → Prop} (hB : ∀ q, B q → A q) (hr : va_Run p l e R s m args below meth c H locs cells slots mc ms (F0 m pc ls st0) rest (zQv post B a) B) (hS : va_S A s.heap H locs)
    (kk : ∀ (H1 : Heap) (locs1 : List Loc), post H1 → H.size ≤ H1.size → (∀ q : Nat, q < H.size → ¬ B q → H1[q]? = H[q]?) → va_S A s.heap H1 locs1 → W p l e R s m args below meth c H1 locs1 (cells + mc) (slots + ms) Q (F0 m (pc + 3) ls rest)) : W p l e R s m args below meth c H locs cells slots Q (F0 m pc ls st0) := by
  refine va_callv hr hS (fun q _ h => hB q h) hB (fun u t H1 locs1 ht _ hp hb hz hk hS1 => ?_)
  have e1 : u = H1 := hb.symm.trans ht
  subst e1
  exact kk u locs1 hp hz hk hS1
theorem zxcatch {E0 own name : String} (hB : ∀ q, B q → A q) (hr : vx_Run p l e R s m args below meth c H locs cells slots 1 6 (F0 m pc ls st0) rest (zN a) (zX E0 H B) B) (hS : va_S A s.heap H locs) (hown : s.vm.findClass own = some m.cls)
    (pre : List ExceptionTableEntry) (x : ExceptionTableEntry) (suf : List ExceptionTableEntry) (hsplit : c.exceptionTable.toList = pre ++ x :: suf)
    (hpass : ∀ z ∈ pre, covers z pc = false ∨ (z.catchType ≠ 0 ∧ ∃ nm : String, (Cond.classLink own z.catchType nm).before args s = true ∧ va_Nc E0 nm s)) (hx : covers x pc = true) (h0 : x.catchType ≠ 0)
    (hlink : (Cond.classLink own x.catchType name).before args s = true) (hcast : (Cond.castable E0 name).before args s = true)
    (kk : ∀ (q : Nat) (H1 : Heap) (locs1 : List Loc), H.size ≤ H1.size → (∀ q : Nat, q < H.size → H1[q]? = H[q]?) → va_S A s.heap H1 locs1 → W p l e R s m args below meth c H1 locs1 (cells + 1) (slots + 6) Q (F0 m x.handlerPc ls [.ref q])) : W p l e R s m args below meth c H locs cells slots Q (F0 m pc ls st0) := by
  intro T hT X
  rcases hr T hT X with ⟨v, st₀, t, T', L, h0', X', hL, e1, e2, hq, st⟩ | ⟨q, st₀, t, T', L, E, ce, h0', X', hL, e1, e2, ⟨u, hp, ⟨hb1, hb2, hb3⟩, hF⟩, hce, hcv, hcl, st⟩
  · exact hq.elim
  · obtain ⟨k1, k2, k3⟩ := vx_keep h0' e1 hS (fun q _ h => hB q h) hB hL hF
    subst hb1
    have hsz : H.size ≤ T'.heap.size := by rw [e1]; exact hb2
    have hsm : ∀ q : Nat, q < H.size → T'.heap[q]? = H[q]? := fun q hq => by rw [e1]; exact hb3 q hq
    obtain ⟨t2, a1, b1⟩ := vx_catch (rest := rest) (ls := ls) hown pre x suf hsplit hpass hx h0 hlink hcast (by rw [e1]; exact hce) hcv hcl (kk q T'.heap (locs ++ L) hsz hsm k3) T' rfl X'
    exact ⟨t2, st.trans a1, b1⟩
/-- the answer's cell beside the callee's world -/
theorem zW.join {ad2 : Nat → Nat} {e1 : Nat → Option va_E} {H1 : Heap} {o : va_E} {k : Nat} (hw : zW D A ad (va_up ew k (some o)) H) (hw1 : zW D (fun q => A q ∧ q ≠ ad k) ad2 e1 H1) (h2 : ad2 k = ad k) (hn : e1 k = none) (hk : ∀ q : Nat, q < H.size → ¬ (A q ∧ q ≠ ad k) → H1[q]? = H[q]?) : zW D A ad2 (va_up e1 k (some o)) H1 := by
  obtain ⟨a1, a2, a3⟩ := hw.1 k o (up_same _ _ _)
  refine ⟨fun j v hj => ?_, fun i j v w hi hj hij => ?_⟩
  · by_cases hjk : j = k
    · subst hjk
      rw [up_same] at hj
      cases hj
      rw [h2]
      exact ⟨a1, a2.kept (hk _ a2.lt (fun h => h.2 rfl)), a3⟩
    · rw [up_ne _ _ hjk] at hj
      obtain ⟨b1, b2, b3⟩ := hw1.1 j v hj
      exact ⟨b1, b2, b3.1⟩
  · by_cases hik : i = k
    · by_cases hjk : j = k
      · rw [hik, hjk]
      · exfalso
        rw [up_ne _ _ hjk] at hj
        rw [hik, h2] at hij
        exact (hw1.1 j w hj).2.2.2 hij.symm
    · rw [up_ne _ _ hik] at hi
      by_cases hjk : j = k
      · exfalso
        rw [hjk, h2] at hij
        exact (hw1.1 i v hi).2.2.2 hij
      · rw [up_ne _ _ hjk] at hj
        exact hw1.2 i j v w hi hj hij
theorem zW.part {o : va_E} {k : Nat} (hw : zW D A ad (va_up ew k (some o)) H) (hn : ew k = none) : zW D (fun q => A q ∧ q ≠ ad k) ad ew H := by
  have key : ∀ j v, ew j = some v → va_up ew k (some o) j = some v ∧ j ≠ k := fun j v hj => by
    have hjk : j ≠ k := fun h => by rw [h, hn] at hj; cases hj
    exact ⟨by rw [up_ne _ _ hjk]; exact hj, hjk⟩
  refine ⟨fun j v hj => ?_, fun i j v w hi hj => hw.2 i j v w (key i v hi).1 (key j w hj).1⟩
  obtain ⟨h1, h2⟩ := key j v hj
  obtain ⟨b1, b2, b3⟩ := hw.1 j v h1
  exact ⟨b1, b2, b3, fun h => h2 (hw.2 j k v o h1 (up_same _ _ _) h)⟩
theorem zW.grow {H1 : Heap} (hw : zW D A ad ew H) (hk : ∀ q : Nat, q < H.size → H1[q]? = H[q]?) : zW D A ad ew H1 := ⟨fun k v h => ⟨(hw.1 k v h).1, (hw.1 k v h).2.1.kept (hk _ (hw.1 k v h).2.1.lt), (hw.1 k v h).2.2⟩, hw.2⟩
end ZLW
theorem yE_60 {cy : Nat → ClassId} {ad : Nat → Nat} {ya : Nat → Nat → Int} {yi : Nat → Int} {pr : Nat → Option PS} : yE cy ad ya yi pr 60 = none := by
  unfold yE
  rw [if_neg (by omega), if_neg (by omega), if_neg (by omega), if_neg (by omega), if_neg (by omega), if_neg (by omega), if_neg (by omega), if_neg (by omega)]
abbrev yO60 (cy : Nat → ClassId) (ad : Nat → Nat) (ya : Nat → Nat → Int) (yi : Nat → Int) (pr : Nat → Option PS) (fo : Nat → Int64) : Nat → Option va_E := va_up (yE cy ad ya yi pr) 60 (some (.inl (cy 3, 1, .inr (.inl fo))))
theorem zlast {p : Program} {l : Launch} {e : Env} {R : Room} {s : State} {m : MethodId} {args : Array Value} {below : List Frame} {meth : Method} {c : Code} {H : Heap} {locs : List Loc} {cells slots : Nat} {Q : State → Prop} {cc : ByteArray} {pc : Nat} {ls : Array Slot} {rest : List Value} {D : va_G} {cy : Nat → ClassId} {A : Nat → Prop} {ad : Nat → Nat} {e1 : Nat → Option va_E}
    (hx : p.tables.exec = Jvm.exec) (hb : c.code = cc) (hE : EN D cy A s s.heap) (hS : va_S A s.heap H locs) {fo : Nat → Int64} (hw : zW D A ad (va_up e1 60 (some (.inl (cy 3, 1, .inr (.inl fo))))) H) {x : Int64} {a0 : Nat} (ha0 : ad 60 = a0) (hdg : decode cc pc = .ok (.lastore, 1))
    (kk : ∀ (H1 : Heap) (locs1 : List Loc) (fo2 : Nat → Int64), fo2 0 = x → zW D A ad (va_up e1 60 (some (.inl (cy 3, 1, .inr (.inl fo2))))) H1 → va_S A s.heap H1 locs1 → W p l e R s m args below meth c H1 locs1 cells slots Q (F0 m (pc + 1) ls rest)) : W p l e R s m args below meth c H locs cells slots Q (F0 m pc ls (.long x :: .int (iI 0) :: .ref a0 :: rest)) := by
  subst ha0
  obtain ⟨i, hi⟩ := hw.ix (up_same _ _ _)
  refine va_last hx hb hE.1 hw.P hw.dd hS i 3 hi rfl (iI_in (z := 0) (n := 1) (by omega) (by omega) (by omega)) hdg (fun H1 locs1 hP _ hS1 => ?_)
  have h9 := hw.back hi (up_same _ _ _) hP
  rw [up_up] at h9
  exact kk H1 locs1 _ (by unfold vp_updL; exact if_pos (by decide +kernel)) h9 hS1
