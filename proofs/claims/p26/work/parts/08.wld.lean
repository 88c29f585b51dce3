/-! ===== the world by roles: cell of role k stands at address ad k ===== -/
def zL (ad : Nat → Nat) (e : Nat → Option va_E) : va_W := (List.range 64).filterMap (fun k => (e k).map (fun v => (ad k, v)))
def zW (D : va_G) (A : Nat → Prop) (ad : Nat → Nat) (e : Nat → Option va_E) (H : Heap) : Prop :=
  (∀ (k : Nat) (v : va_E), e k = some v → k < 64 ∧ va_at D vwCl (ad k, v) H ∧ A (ad k)) ∧ ∀ (i j : Nat) (v w : va_E), e i = some v → e j = some w → ad i = ad j → i = j
section ZWS
variable {D : va_G} {A : Nat → Prop} {ad : Nat → Nat} {e : Nat → Option va_E} {H H1 : Heap}
theorem zL_mem {q : Nat × va_E} : q ∈ zL ad e ↔ ∃ k v, k < 64 ∧ e k = some v ∧ q = (ad k, v) := by
  unfold zL
  rw [List.mem_filterMap]
  constructor
  · rintro ⟨k, hk, h⟩
    rw [Option.map_eq_some_iff] at h
    obtain ⟨v, h1, h2⟩ := h
    exact ⟨k, v, List.mem_range.mp hk, h1, h2.symm⟩
  · rintro ⟨k, v, hk, h1, rfl⟩
    exact ⟨k, List.mem_range.mpr hk, by rw [h1]; rfl⟩
theorem zW.P (h : zW D A ad e H) : va_P D vwCl (zL ad e) H := fun k q hk => by
  obtain ⟨r, v, hr, h1, rfl⟩ := zL_mem.mp (List.mem_of_getElem? hk)
  exact (h.1 r v h1).2.1
theorem zW.dd (h : zW D A ad e H) : va_D A (zL ad e) := by
  have pw : (zL ad e).Pairwise (fun p q => p.1 ≠ q.1) := by
    unfold zL
    rw [List.pairwise_filterMap]
    refine List.Pairwise.imp ?_ List.pairwise_lt_range
    intro a b hab x hx y hy hxy
    rw [Option.map_eq_some_iff] at hx hy
    obtain ⟨v, h1, rfl⟩ := hx
    obtain ⟨w, h2, rfl⟩ := hy
    have := h.2 a b v w h1 h2 hxy
    omega
  refine ⟨fun i j x y hi hj hxy => ?_, fun k q hk => ?_⟩
  · rw [List.pairwise_iff_getElem] at pw
    obtain ⟨li, ei⟩ := List.getElem?_eq_some_iff.mp hi
    obtain ⟨lj, ej⟩ := List.getElem?_eq_some_iff.mp hj
    rcases Nat.lt_trichotomy i j with q | q | q
    · exact absurd (by rw [ei, ej]; exact hxy) (pw i j li lj q)
    · exact q
    · exact absurd (by rw [ei, ej]; exact hxy.symm) (pw j i lj li q)
  · obtain ⟨r, v, hr, h1, rfl⟩ := zL_mem.mp (List.mem_of_getElem? hk)
    exact (h.1 r v h1).2.2
theorem zW.ix (h : zW D A ad e H) {k : Nat} {v : va_E} (he : e k = some v) : ∃ i : Nat, (zL ad e)[i]? = some (ad k, v) := List.getElem?_of_mem (zL_mem.mpr ⟨k, v, (h.1 k v he).1, he, rfl⟩)
theorem zW.one (h : zW D A ad e H) {k : Nat} {v : va_E} (he : e k = some v) : va_P D vwCl [(ad k, v)] H := fun i q hi => by
  have h1 := List.mem_of_getElem? hi
  rw [List.mem_singleton] at h1
  subst h1
  exact (h.1 k v he).2.1
theorem zW.back (h : zW D A ad e H) {i k : Nat} {v0 v : va_E} (hi : (zL ad e)[i]? = some (ad k, v0)) (he : e k = some v0) (hP : va_P D vwCl ((zL ad e).set i (ad k, v)) H1) : zW D A ad (va_up e k (some v)) H1 := by
  have li := (List.getElem?_eq_some_iff.mp hi).1
  refine ⟨fun r x hr => ?_, fun a b x y ha hb hab => ?_⟩
  · unfold va_up at hr
    by_cases hk : r = k
    · subst hk
      rw [if_pos rfl] at hr
      cases hr
      exact ⟨(h.1 r v0 he).1, hP i (ad r, v) (by rw [List.getElem?_set_self li]), (h.1 r v0 he).2.2⟩
    · rw [if_neg hk] at hr
      obtain ⟨j, hj⟩ := h.ix hr
      have hij : i ≠ j := fun q => by
        subst q
        rw [hi] at hj
        injection hj with hj
        injection hj with hj1 hj2
        exact hk (h.2 r k x v0 hr he hj1.symm)
      exact ⟨(h.1 r x hr).1, hP j (ad r, x) (by rw [List.getElem?_set_ne hij]; exact hj), (h.1 r x hr).2.2⟩
  · have key : ∀ (z : Nat) (x : va_E), va_up e k (some v) z = some x → ∃ x', e z = some x' := by
      intro z x hz
      unfold va_up at hz
      by_cases hk : z = k
      · exact ⟨v0, by rw [hk]; exact he⟩
      · rw [if_neg hk] at hz
        exact ⟨x, hz⟩
    obtain ⟨x', hx'⟩ := key a x ha
    obtain ⟨y', hy'⟩ := key b y hb
    exact h.2 a b x' y' hx' hy' hab
theorem zW.kept {B : Nat → Prop} (h : zW D A ad e H) (hq : ∀ q : Nat, q < H.size → ¬ B q → H1[q]? = H[q]?) (hB : ∀ (k : Nat) (v : va_E), e k = some v → ¬ B (ad k)) : zW D A ad e H1 := ⟨fun k v hk => ⟨(h.1 k v hk).1, (h.1 k v hk).2.1.kept (hq _ (h.1 k v hk).2.1.lt (hB k v hk)), (h.1 k v hk).2.2⟩, h.2⟩
theorem zW.reA {B : Nat → Prop} (h : zW D A ad e H) (hB : ∀ (k : Nat) (v : va_E), e k = some v → B (ad k)) : zW D B ad e H := ⟨fun k v hk => ⟨(h.1 k v hk).1, (h.1 k v hk).2.1, hB k v hk⟩, h.2⟩
theorem zW.cong {e2 : Nat → Option va_E} (h : zW D A ad e H) (he : ∀ k, e2 k = e k) : zW D A ad e2 H := by
  have : e2 = e := funext he
  rw [this]
  exact h
end ZWS
/-! ===== what every method's start may say of the tables, the statics, the classes ===== -/
def zTy (cy : Nat → ClassId) : List (ClassId × FieldType) := [(cy 0, .int), (cy 0, .int), (cy 2, .object RX0)]
def zNest : List Cond := [.methodLinkNest RX1 184 yX0_isBusy RX1, .methodLinkNest RX1 196 yX0_hoursOfBreaks RX1, .methodLinkNest RX1 94 yX0_init RX1, .fieldLinkNest RX1 110 RX0 "volume" "I" RX1, .fieldLinkNest RX1 107 RX0 "panels" "I" RX1, .fieldLinkNest RX1 199 RX0 "wanted" "I" RX1, .fieldLinkNest RX1 104 RX0 "start" "I" RX1, .fieldLinkNest RX1 120 RX0 "end" "I" RX1, .fieldLinkNest RX1 132 RX0 "strike" "I" RX1, .fieldLinkNest RX1 147 RX0 "busyFrom" "I" RX1, .fieldLinkNest RX1 135 RX0 "busyUntil" "I" RX1, .fieldLinkNest RX1 171 RX0 "given" "J" RX1, .fieldLinkNest RX1 202 RX0 "served" "Z" RX1]
def zSteps : Nat → Value := fun j => .int (iI (match j with | 0 => 0 | 1 => 500 | 2 => 1200 | 3 => 2500 | _ => 5000))
def zNc : List (String × String) := []
def zFace : List Cond := [.castable "java/lang/IndexOutOfBoundsException" "java/lang/IndexOutOfBoundsException", .castable "java/lang/IllegalArgumentException" "java/lang/IllegalArgumentException", .castable "java/lang/IllegalStateException" "java/lang/IllegalStateException", .castable "java/util/NoSuchElementException" "java/util/NoSuchElementException", .declares (Bundle.init0 "java/lang/RuntimeException"), .declares (Bundle.init0 "java/lang/Exception"), .declares (Bundle.init0 Bundle.tN)]
theorem zFace_m {s U : State} (hW : s.WarmedH U.vm) : ∀ w ∈ zFace, va_Nw w s → va_Nw w U := by
  intro w hw h
  have hf : w.faceAtom = true := by
    simp only [zFace, List.mem_cons, List.not_mem_nil, or_false] at hw
    rcases hw with rfl | rfl | rfl | rfl | rfl | rfl | rfl <;> rfl
  have ho : w.onTables = true := by
    simp only [zFace, List.mem_cons, List.not_mem_nil, or_false] at hw
    rcases hw with rfl | rfl | rfl | rfl | rfl | rfl | rfl <;> rfl
  exact va_tabs ho (rfl : (s.setVm U.vm).vm = U.vm) (Cond.faceAtom_setVm hW.alike w hf h)
def EN (D : va_G) (cy : Nat → ClassId) (A : Nat → Prop) (U : State) (H : Heap) : Prop :=
  va_K D vwCl (zTy cy) U ∧ (∀ w ∈ zNest, va_Nw w U) ∧ (∃ t : Nat, va_Z RX1 "STEPS" "[I" (.ref t) A U H ∧ va_T .int t 5 zSteps A U H) ∧ vx_Zq Bundle.tN "UNASSIGNED_STACK" Bundle.steD A U H ∧ vx_Zq Bundle.tN "SUPPRESSED_SENTINEL" Bundle.listD A U H ∧ (∀ q ∈ zNc, va_Nc q.1 q.2 U) ∧ (∀ w ∈ zFace, va_Nw w U) ∧ va_AO RX0 U
section ZEN
variable {D : va_G} {cy : Nat → ClassId} {A : Nat → Prop} {s U : State} {H H1 : Heap}
theorem EN.move (h : EN D cy A s H) (hW : s.WarmedH U.vm) : EN D cy A U H := by
  obtain ⟨h1, h2, ⟨t, h3, h4⟩, h5, h6, h7, h8, h9⟩ := h
  refine ⟨va_K.moved hW.alike h1, ?_, ⟨t, va_Z.moved hW.alike h3, va_T.moved hW.alike h4⟩, vx_Zq.moved hW.alike h5, vx_Zq.moved hW.alike h6, fun q hq => va_Nc.moved hW.alike (h7 q hq), fun w hw => zFace_m hW w hw (h8 w hw), va_AO.moved hW.alike h9⟩
  intro w hw
  have h := h2 w hw
  simp only [zNest, List.mem_cons, List.not_mem_nil, or_false] at hw
  rcases hw with rfl | rfl | rfl | rfl | rfl | rfl | rfl | rfl | rfl | rfl | rfl | rfl | rfl <;> first | exact va_Nw.warmM hW h | exact va_Nw.warmF hW h
theorem EN.kept (h : EN D cy A U H) (hq : ∀ a : Nat, a < H.size → ¬ A a → H1[a]? = H[a]?) : EN D cy A U H1 := by
  obtain ⟨h1, h2, ⟨t, h3, h4⟩, h5, h6, h7⟩ := h
  exact ⟨h1, h2, ⟨t, h3.kept hq, h4.kept hq⟩, h5.kept hq, h6.kept hq, h7⟩
theorem EN.narrow {B : Nat → Prop} (h : EN D cy A U H) (hq : ∀ a : Nat, B a → A a) : EN D cy B U H := by
  obtain ⟨h1, h2, ⟨t, h3, h4⟩, h5, h6, h7⟩ := h
  exact ⟨h1, h2, ⟨t, h3.narrow hq, h4.narrow hq⟩, h5.narrow hq, h6.narrow hq, h7⟩
theorem EN.at {locs : List Loc} (h : EN D cy A s s.heap) (hS : va_S A s.heap H locs) : EN D cy A s H := h.kept hS.2.1
end ZEN
/-! ===== contracts ===== -/
abbrev zPc (D : va_G) (cy : Nat → ClassId) (A : Nat → Prop) (av : List Value) (H0 : Heap) : Array Value → State → Prop := va_Pc av (fun U => U.heap = H0 ∧ EN D cy A U H0)
abbrev zQi (post : Int → Heap → Prop) (A : Nat → Prop) : Array Value → State → Outcome → State → Prop := va_Qi (fun (r : Int32) (H1 : Heap) => ∃ z : Int, zr z ∧ r = iI z ∧ post z H1) (fun (H1 : Heap) (t : State) => t.heap = H1) A
abbrev zQl (post : Int64 → Heap → Prop) (A : Nat → Prop) : Array Value → State → Outcome → State → Prop := va_Ql post (fun (H1 : Heap) (t : State) => t.heap = H1) A
abbrev zQv (post : Heap → Prop) (A : Nat → Prop) : Array Value → State → Outcome → State → Prop := va_Qv post (fun (H1 : Heap) (t : State) => t.heap = H1) A
abbrev zQq (post : Option Nat → Heap → Prop) (A : Nat → Prop) : Array Value → State → Outcome → State → Prop := va_Qq post (fun (H1 : Heap) (t : State) => t.heap = H1) A
/-- thrown: the class by its name, what was there before is as it was -/
abbrev zX (E0 : String) (H0 : Heap) (A : Nat → Prop) : String → State → State → Prop := vx_X (fun _ : Unit => True) (fun E (_ : Unit) (t : State) => E = E0 ∧ H0.size ≤ t.heap.size ∧ ∀ q : Nat, q < H0.size → t.heap[q]? = H0[q]?) A
theorem zBlind {D : va_G} {cy : Nat → ClassId} {A : Nat → Prop} {av : List Value} {H0 : Heap} : FrameBlind (zPc D cy A av H0) := fun _ U _ _ q => ⟨q.1, q.2.1, EN.move (s := U) q.2.2 (State.WarmedH.refl U)⟩
section ZC
variable {p : Program} {l : Launch} {e : Env} {R : Room} {s : State} {m : MethodId} {args : Array Value} {below : List Frame} {meth : Method} {c : Code} {H : Heap} {locs : List Loc} {cells slots : Nat} {Q : State → Prop}
variable {cc : ByteArray} {pc : Nat} {ls : Array Slot} {rest : List Value} {D : va_G} {cy : Nat → ClassId} {A : Nat → Prop} {ad : Nat → Nat} {ew : Nat → Option va_E}
theorem zPS {As : List Value} (hE : EN D cy A s s.heap) (hS : va_S A s.heap H locs) : PreS s H (zPc D cy A As H) As := ⟨zBlind, fun U hU hW => ⟨rfl, hU, (hE.at hS).move hW⟩⟩
theorem zPV {As : List Value} {k0 ci : Nat} {q : vw_C} {fs : List Value} (hE : EN D cy A s s.heap) (hS : va_S A s.heap H locs) (hw : zW D A ad ew H) (hc : vwCl[ci]? = some q) (he : ew k0 = some (.inr (ci, fs))) : PreV s H q.1 (ad k0) (zPc D cy A (.ref (ad k0) :: As) H) As := ⟨zBlind, va_recv hE.1 (hw.one he) hc (q0 := 0) rfl, fun U hU hW => ⟨rfl, hU, (hE.at hS).move hW⟩⟩
theorem zget (hx : p.tables.exec = Jvm.exec) (hb : c.code = cc) {own C : String} {T : u_T} {N ci index : Nat} {Ts : List Cond} (hts : ∀ w ∈ Ts, w.before args s = true) (hin : ∀ w ∈ u_ws C T N, w ∈ Ts) (hown : s.vm.findClass own = some m.cls) (hE : EN D cy A s s.heap) (hw : zW D A ad ew H) (k0 : Nat) {fs : List Value} (he : ew k0 = some (.inr (ci, fs))) (hc : vwCl[ci]? = some (C, T, N)) (k : Nat) (hk : k < N) (hlink : (Cond.fieldLink own index (T k).1 (T k).2.1 (T k).2.2.1).before args s = true) {v : Value} (hv : fs[k]? = some v) (hdg : decode cc pc = .ok (.getfield index, 3))
    (kk : W p l e R s m args below meth c H locs cells slots Q (F0 m (pc + 3) ls (v :: rest))) : W p l e R s m args below meth c H locs cells slots Q (F0 m pc ls (.ref (ad k0) :: rest)) := va_get hx hb hts hin hown hE.1 (hw.one he) 0 rfl hc k hk hlink (fun _ h => h) hv hdg kk
theorem zgetN (hx : p.tables.exec = Jvm.exec) (hb : c.code = cc) {own C host : String} {T : u_T} {N ci index : Nat} {Ts : List Cond} (hts : ∀ w ∈ Ts, w.before args s = true) (hin : ∀ w ∈ u_ws C T N, w ∈ Ts) (hown : s.vm.findClass own = some m.cls) (hE : EN D cy A s s.heap) (hw : zW D A ad ew H) (k0 : Nat) {fs : List Value} (he : ew k0 = some (.inr (ci, fs))) (hc : vwCl[ci]? = some (C, T, N)) (k : Nat) (hk : k < N) (hlink : Cond.fieldLinkNest own index (T k).1 (T k).2.1 (T k).2.2.1 host ∈ zNest) {v : Value} (hv : fs[k]? = some v) (hdg : decode cc pc = .ok (.getfield index, 3))
    (kk : W p l e R s m args below meth c H locs cells slots Q (F0 m (pc + 3) ls (v :: rest))) : W p l e R s m args below meth c H locs cells slots Q (F0 m pc ls (.ref (ad k0) :: rest)) := va_getN hx hb hts hin hown hE.1 (hw.one he) 0 rfl hc k hk (va_Nw.use rfl (hE.2.1 _ hlink)) (fun _ h => h) hv hdg kk
theorem zput (hx : p.tables.exec = Jvm.exec) (hb : c.code = cc) {own C : String} {T : u_T} {N ci index : Nat} {Ts : List Cond} (hts : ∀ w ∈ Ts, w.before args s = true) (hin : ∀ w ∈ u_ws C T N, w ∈ Ts) (ty0 : Nat → FieldType) (hty : ∀ k, k < N → parseFieldDescriptor (T k).2.2.1 = some (ty0 k)) (hnm : ∀ a, a < N → ∀ b, b < N → a ≠ b → (T a).2.1 ≠ (T b).2.1) (hown : s.vm.findClass own = some m.cls) (hE : EN D cy A s s.heap) (hS : va_S A s.heap H locs) (hw : zW D A ad ew H) (k0 : Nat) {fs : List Value} (he : ew k0 = some (.inr (ci, fs))) (hc : vwCl[ci]? = some (C, T, N)) (k : Nat) (hk : k < N) (hlink : (Cond.fieldLink own index (T k).1 (T k).2.1 (T k).2.2.1).before args s = true) (hfin : (T k).2.2.2 = false) {ty : FieldType} {v : Value} (hd : parseFieldDescriptor (T k).2.2.1 = some ty) (hn : narrow ty v = v) (hfit : fits ty v = true) (hl : k < fs.length) (hdg : decode cc pc = .ok (.putfield index, 3))
    (kk : ∀ (H1 : Heap) (locs1 : List Loc), zW D A ad (va_up ew k0 (some (.inr (ci, fs.set k v)))) H1 → va_S A s.heap H1 locs1 → W p l e R s m args below meth c H1 locs1 cells slots Q (F0 m (pc + 3) ls rest)) : W p l e R s m args below meth c H locs cells slots Q (F0 m pc ls (v :: .ref (ad k0) :: rest)) := by
  obtain ⟨i, hi⟩ := hw.ix he
  exact va_put hx hb hts hin ty0 hty hnm hown hE.1 hw.P hw.dd hS i hi hc k hk hlink (fun _ h => h) hfin hd hn hfit hl hdg (fun H1 locs1 hP _ hS1 => kk H1 locs1 (hw.back hi he hP) hS1)
theorem zputF (hx : p.tables.exec = Jvm.exec) (hb : c.code = cc) {own C : String} {T : u_T} {N ci index : Nat} {Ts : List Cond} (hts : ∀ w ∈ Ts, w.before args s = true) (hin : ∀ w ∈ u_ws C T N, w ∈ Ts) (ty0 : Nat → FieldType) (hty : ∀ k, k < N → parseFieldDescriptor (T k).2.2.1 = some (ty0 k)) (hnm : ∀ a, a < N → ∀ b, b < N → a ≠ b → (T a).2.1 ≠ (T b).2.1) (hown : s.vm.findClass own = some m.cls) (hE : EN D cy A s s.heap) (hS : va_S A s.heap H locs) (hw : zW D A ad ew H) (k0 : Nat) {fs : List Value} (he : ew k0 = some (.inr (ci, fs))) (hc : vwCl[ci]? = some (C, T, N)) (k : Nat) (hk : k < N) (hlink : (Cond.fieldLink own index (T k).1 (T k).2.1 (T k).2.2.1).before args s = true) (hfin : (T k).2.2.2 = true) (hin2 : meth.name = "<init>") (hdecl : (T k).1 = own) {ty : FieldType} {v : Value} (hd : parseFieldDescriptor (T k).2.2.1 = some ty) (hn : narrow ty v = v) (hfit : fits ty v = true) (hl : k < fs.length) (hdg : decode cc pc = .ok (.putfield index, 3))
    (kk : ∀ (H1 : Heap) (locs1 : List Loc), zW D A ad (va_up ew k0 (some (.inr (ci, fs.set k v)))) H1 → va_S A s.heap H1 locs1 → W p l e R s m args below meth c H1 locs1 cells slots Q (F0 m (pc + 3) ls rest)) : W p l e R s m args below meth c H locs cells slots Q (F0 m pc ls (v :: .ref (ad k0) :: rest)) := by
  obtain ⟨i, hi⟩ := hw.ix he
  exact va_putF hx hb hts hin ty0 hty hnm hown hE.1 hw.P hw.dd hS i hi hc k hk hlink (fun _ h => h) hfin hin2 hdecl hd hn hfit hl hdg (fun H1 locs1 hP _ hS1 => kk H1 locs1 (hw.back hi he hP) hS1)
theorem zputN (hx : p.tables.exec = Jvm.exec) (hb : c.code = cc) {own C host : String} {T : u_T} {N ci index : Nat} {Ts : List Cond} (hts : ∀ w ∈ Ts, w.before args s = true) (hin : ∀ w ∈ u_ws C T N, w ∈ Ts) (ty0 : Nat → FieldType) (hty : ∀ k, k < N → parseFieldDescriptor (T k).2.2.1 = some (ty0 k)) (hnm : ∀ a, a < N → ∀ b, b < N → a ≠ b → (T a).2.1 ≠ (T b).2.1) (hown : s.vm.findClass own = some m.cls) (hE : EN D cy A s s.heap) (hS : va_S A s.heap H locs) (hw : zW D A ad ew H) (k0 : Nat) {fs : List Value} (he : ew k0 = some (.inr (ci, fs))) (hc : vwCl[ci]? = some (C, T, N)) (k : Nat) (hk : k < N) (hlink : Cond.fieldLinkNest own index (T k).1 (T k).2.1 (T k).2.2.1 host ∈ zNest) (hfin : (T k).2.2.2 = false) {ty : FieldType} {v : Value} (hd : parseFieldDescriptor (T k).2.2.1 = some ty) (hn : narrow ty v = v) (hfit : fits ty v = true) (hl : k < fs.length) (hdg : decode cc pc = .ok (.putfield index, 3))
    (kk : ∀ (H1 : Heap) (locs1 : List Loc), zW D A ad (va_up ew k0 (some (.inr (ci, fs.set k v)))) H1 → va_S A s.heap H1 locs1 → W p l e R s m args below meth c H1 locs1 cells slots Q (F0 m (pc + 3) ls rest)) : W p l e R s m args below meth c H locs cells slots Q (F0 m pc ls (v :: .ref (ad k0) :: rest)) := by
  obtain ⟨i, hi⟩ := hw.ix he
  exact va_putN hx hb hts hin ty0 hty hnm hown hE.1 hw.P hw.dd hS i hi hc k hk (va_Nw.use rfl (hE.2.1 _ hlink)) (fun _ h => h) hfin hd hn hfit hl hdg (fun H1 locs1 hP _ hS1 => kk H1 locs1 (hw.back hi he hP) hS1)
theorem ziald (hx : p.tables.exec = Jvm.exec) (hb : c.code = cc) (hE : EN D cy A s s.heap) (hw : zW D A ad ew H) (k0 : Nat) {n : Nat} {f : Nat → Int} (he : ew k0 = some (.inl (cy 0, n, .inl (fun j => iI (f j))))) {z : Int} (kz : Nat) (hz : z = (kz : Int)) (h1 : kz < n) (hn : n < 2147483648) (hdg : decode cc pc = .ok (.iaload, 1))
    (kk : W p l e R s m args below meth c H locs cells slots Q (F0 m (pc + 1) ls (.int (iI (f kz)) :: rest))) : W p l e R s m args below meth c H locs cells slots Q (F0 m pc ls (.int (iI z) :: .ref (ad k0) :: rest)) := va_iald hx hb hE.1 (hw.one he) 0 0 rfl rfl (iI_in (z := z) (by omega) (by omega) hn) hdg (by rw [iI_c ⟨by omega, by omega⟩, hz, Int.toNat_natCast]; exact kk)
theorem zaald (hx : p.tables.exec = Jvm.exec) (hb : c.code = cc) (hE : EN D cy A s s.heap) (hw : zW D A ad ew H) (k0 : Nat) {n : Nat} {f : Nat → Option Nat} (he : ew k0 = some (.inl (cy 2, n, .inr (.inr (.inr (.inr f)))))) {z : Int} (kz : Nat) (hz : z = (kz : Int)) (h1 : kz < n) (hn : n < 2147483648) (hdg : decode cc pc = .ok (.aaload, 1))
    (kk : W p l e R s m args below meth c H locs cells slots Q (F0 m (pc + 1) ls (va_rf (f kz) :: rest))) : W p l e R s m args below meth c H locs cells slots Q (F0 m pc ls (.int (iI z) :: .ref (ad k0) :: rest)) := va_aldq hx hb hE.1 (hw.one he) 0 2 rfl rfl (iI_in (z := z) (by omega) (by omega) hn) hdg (by rw [iI_c ⟨by omega, by omega⟩, hz, Int.toNat_natCast]; exact kk)
theorem zalen (hx : p.tables.exec = Jvm.exec) (hb : c.code = cc) (hE : EN D cy A s s.heap) (hw : zW D A ad ew H) (k0 t0 : Nat) {cA : ClassId} {x : vp_A} (he : ew k0 = some (.inl (cA, x))) {ty : FieldType} (ht : (zTy cy)[t0]? = some (cA, ty)) {z : Int} (hz : (x.1 : Int) = z) (hdg : decode cc pc = .ok (.arraylength, 1))
    (kk : W p l e R s m args below meth c H locs cells slots Q (F0 m (pc + 1) ls (.int (iI z) :: rest))) : W p l e R s m args below meth c H locs cells slots Q (F0 m pc ls (.ref (ad k0) :: rest)) := va_alen hx hb hE.1 (hw.one he) 0 t0 rfl ht (by rw [iI_n, hz]) hdg kk
theorem ziast (hx : p.tables.exec = Jvm.exec) (hb : c.code = cc) (hE : EN D cy A s s.heap) (hS : va_S A s.heap H locs) (hw : zW D A ad ew H) (k0 : Nat) {n : Nat} {f : Nat → Int} (he : ew k0 = some (.inl (cy 0, n, .inl (fun j => iI (f j))))) {z x : Int} (kz : Nat) (hz : z = (kz : Int)) (h1 : kz < n) (hn : n < 2147483648) (hdg : decode cc pc = .ok (.iastore, 1))
    (kk : ∀ (H1 : Heap) (locs1 : List Loc), zW D A ad (va_up ew k0 (some (.inl (cy 0, n, .inl (fun j => iI (va_up f kz x j)))))) H1 → va_S A s.heap H1 locs1 → W p l e R s m args below meth c H1 locs1 cells slots Q (F0 m (pc + 1) ls rest)) : W p l e R s m args below meth c H locs cells slots Q (F0 m pc ls (.int (iI x) :: .int (iI z) :: .ref (ad k0) :: rest)) := by
  obtain ⟨i, hi⟩ := hw.ix he
  refine va_iast hx hb hE.1 hw.P hw.dd hS i 0 hi rfl (iI_in (z := z) (by omega) (by omega) hn) hdg (fun H1 locs1 hP _ hS1 => kk H1 locs1 ?_ hS1)
  rw [iI_c ⟨by omega, by omega⟩, hz, Int.toNat_natCast, zupd] at hP
  exact hw.back hi he hP
theorem zaastN (hx : p.tables.exec = Jvm.exec) (hb : c.code = cc) (hE : EN D cy A s s.heap) (hS : va_S A s.heap H locs) (hw : zW D A ad ew H) (k0 : Nat) {n : Nat} {f : Nat → Option Nat} (he : ew k0 = some (.inl (cy 2, n, .inr (.inr (.inr (.inr f)))))) {z : Int} (kz : Nat) (hz : z = (kz : Int)) (h1 : kz < n) (hn : n < 2147483648) (hdg : decode cc pc = .ok (.aastore, 1))
    (kk : ∀ (H1 : Heap) (locs1 : List Loc), zW D A ad (va_up ew k0 (some (.inl (cy 2, n, .inr (.inr (.inr (.inr (va_up f kz none)))))))) H1 → va_S A s.heap H1 locs1 → W p l e R s m args below meth c H1 locs1 cells slots Q (F0 m (pc + 1) ls rest)) : W p l e R s m args below meth c H locs cells slots Q (F0 m pc ls (.null :: .int (iI z) :: .ref (ad k0) :: rest)) := by
  obtain ⟨i, hi⟩ := hw.ix he
  refine va_astqN hx hb hE.1 hw.P hw.dd hS i 2 hi rfl (iI_in (z := z) (by omega) (by omega) hn) hdg (fun H1 locs1 hP _ hS1 => kk H1 locs1 ?_ hS1)
  rw [iI_c ⟨by omega, by omega⟩, hz, Int.toNat_natCast] at hP
  exact hw.back hi he hP
theorem zaast (hx : p.tables.exec = Jvm.exec) (hb : c.code = cc) (hE : EN D cy A s s.heap) (hS : va_S A s.heap H locs) (hw : zW D A ad ew H) (k0 : Nat) {n : Nat} {f : Nat → Option Nat} (he : ew k0 = some (.inl (cy 2, n, .inr (.inr (.inr (.inr f)))))) (kv : Nat) {fs : List Value} (hev : ew kv = some (.inr (0, fs))) {z : Int} (kz : Nat) (hz : z = (kz : Int)) (h1 : kz < n) (hn : n < 2147483648) (hdg : decode cc pc = .ok (.aastore, 1))
    (kk : ∀ (H1 : Heap) (locs1 : List Loc), zW D A ad (va_up ew k0 (some (.inl (cy 2, n, .inr (.inr (.inr (.inr (va_up f kz (some (ad kv))))))))) ) H1 → va_S A s.heap H1 locs1 → W p l e R s m args below meth c H1 locs1 cells slots Q (F0 m (pc + 1) ls rest)) : W p l e R s m args below meth c H locs cells slots Q (F0 m pc ls (.ref (ad kv) :: .int (iI z) :: .ref (ad k0) :: rest)) := by
  obtain ⟨i, hi⟩ := hw.ix he
  obtain ⟨j, hj⟩ := hw.ix hev
  refine va_astq hx hb hE.1 hw.P hw.dd hS i 2 j 0 (r := (RX0, TX0, 13)) hi rfl hj rfl (iI_in (z := z) (by omega) (by omega) hn) hdg (fun H1 locs1 hP _ hS1 => kk H1 locs1 ?_ hS1)
  rw [iI_c ⟨by omega, by omega⟩, hz, Int.toNat_natCast] at hP
  exact hw.back hi he hP
variable {a : Array Value} {mc ms : Nat} {st0 : List Value}
theorem zcalli {post : Int → Heap → Prop} (hr : va_Run p l e R s m args below meth c H locs cells slots mc ms (F0 m pc ls st0) rest (zQi post A a) A) (hS : va_S A s.heap H locs)
    (kk : ∀ (z : Int) (H1 : Heap) (locs1 : List Loc), zr z → post z H1 → H.size ≤ H1.size → (∀ q : Nat, q < H.size → ¬ A q → H1[q]? = H[q]?) → va_S A s.heap H1 locs1 → W p l e R s m args below meth c H1 locs1 (cells + mc) (slots + ms) Q (F0 m (pc + 3) ls (.int (iI z) :: rest))) : W p l e R s m args below meth c H locs cells slots Q (F0 m pc ls st0) := by
  refine va_calli hr hS (fun _ _ h => h) (fun _ h => h) (fun r u t H1 locs1 ht _ hp hB hz hk hS1 => ?_)
  obtain ⟨z, hz1, rfl, hp⟩ := hp
  have e1 : u = H1 := hB.symm.trans ht
  subst e1
  exact kk z u locs1 hz1 hp hz hk hS1
theorem zcalll {post : Int64 → Heap → Prop} (hr : va_Run p l e R s m args below meth c H locs cells slots mc ms (F0 m pc ls st0) rest (zQl post A a) A) (hS : va_S A s.heap H locs)
    (kk : ∀ (z : Int64) (H1 : Heap) (locs1 : List Loc), post z H1 → H.size ≤ H1.size → (∀ q : Nat, q < H.size → ¬ A q → H1[q]? = H[q]?) → va_S A s.heap H1 locs1 → W p l e R s m args below meth c H1 locs1 (cells + mc) (slots + ms) Q (F0 m (pc + 3) ls (.long z :: rest))) : W p l e R s m args below meth c H locs cells slots Q (F0 m pc ls st0) := by
  refine va_calll hr hS (fun _ _ h => h) (fun _ h => h) (fun r u t H1 locs1 ht _ hp hB hz hk hS1 => ?_)
  have e1 : u = H1 := hB.symm.trans ht
  subst e1
  exact kk r u locs1 hp hz hk hS1
theorem zcallv {post : Heap → Prop} (hr : va_Run p l e R s m args below meth c H locs cells slots mc ms (F0 m pc ls st0) rest (zQv post A a) A) (hS : va_S A s.heap H locs)
    (kk : ∀ (H1 : Heap) (locs1 : List Loc), post H1 → H.size ≤ H1.size → (∀ q : Nat, q < H.size → ¬ A q → H1[q]? = H[q]?) → va_S A s.heap H1 locs1 → W p l e R s m args below meth c H1 locs1 (cells + mc) (slots + ms) Q (F0 m (pc + 3) ls rest)) : W p l e R s m args below meth c H locs cells slots Q (F0 m pc ls st0) := by
  refine va_callv hr hS (fun _ _ h => h) (fun _ h => h) (fun u t H1 locs1 ht _ hp hB hz hk hS1 => ?_)
  have e1 : u = H1 := hB.symm.trans ht
  subst e1
  exact kk u locs1 hp hz hk hS1
theorem zcallq {post : Option Nat → Heap → Prop} (hr : va_Run p l e R s m args below meth c H locs cells slots mc ms (F0 m pc ls st0) rest (zQq post A a) A) (hS : va_S A s.heap H locs)
    (kk : ∀ (z : Option Nat) (H1 : Heap) (locs1 : List Loc), post z H1 → H.size ≤ H1.size → (∀ q : Nat, q < H.size → ¬ A q → H1[q]? = H[q]?) → va_S A s.heap H1 locs1 → W p l e R s m args below meth c H1 locs1 (cells + mc) (slots + ms) Q (F0 m (pc + 3) ls (va_rf z :: rest))) : W p l e R s m args below meth c H locs cells slots Q (F0 m pc ls st0) := by
  refine va_callq hr hS (fun _ _ h => h) (fun _ h => h) (fun r u t H1 locs1 ht _ hp hB hz hk hS1 => ?_)
  have e1 : u = H1 := hB.symm.trans ht
  subst e1
  exact kk r u locs1 hp hz hk hS1
theorem ziret {post : Int → Heap → Prop} (hx : p.tables.exec = Jvm.exec) (hb : c.code = cc) (hr : meth.sig.returnType = some .int) (hlocks : meth.locks = false) (hS : va_S A s.heap H locs) (hc : cells ≤ mc) (hs : slots ≤ ms) {z : Int} (hz : zr z) (hp : post z H) (hdg : decode cc pc = .ok (.ireturn, 1)) : W p l e R s m args below meth c H locs cells slots (MQ below (zQi post A) args s mc ms A) (F0 m pc ls [.int (iI z)]) := W.widen hc hs (W.iret hx hb hr (fun _ ht _ => ⟨⟨_, _, rfl, ⟨z, hz, rfl, hp⟩, ht⟩, hS.F ht⟩) hS.2.2 hdg hlocks)
theorem zzret {post : Int → Heap → Prop} (hx : p.tables.exec = Jvm.exec) (hb : c.code = cc) (hr : meth.sig.returnType = some .boolean) (hlocks : meth.locks = false) (hS : va_S A s.heap H locs) (hc : cells ≤ mc) (hs : slots ≤ ms) {z : Int} (hz : z = 0 ∨ z = 1) (hp : post z H) (hdg : decode cc pc = .ok (.ireturn, 1)) : W p l e R s m args below meth c H locs cells slots (MQ below (zQi post A) args s mc ms A) (F0 m pc ls [.int (iI z)]) := W.widen hc hs (W.zret hx hb hr (by rcases hz with rfl | rfl <;> decide) (fun _ ht _ => ⟨⟨_, _, rfl, ⟨z, ⟨by omega, by omega⟩, rfl, hp⟩, ht⟩, hS.F ht⟩) hS.2.2 hdg hlocks)
theorem zvret {post : Heap → Prop} (hx : p.tables.exec = Jvm.exec) (hb : c.code = cc) (hr : meth.sig.returnType = none) (hlocks : meth.locks = false) (hS : va_S A s.heap H locs) (hc : cells ≤ mc) (hs : slots ≤ ms) (hp : post H) (hdg : decode cc pc = .ok (.return_, 1)) : W p l e R s m args below meth c H locs cells slots (MQ below (zQv post A) args s mc ms A) (F0 m pc ls []) := W.widen hc hs (W.vret hx hb hr (fun _ ht _ => ⟨⟨_, rfl, hp, ht⟩, hS.F ht⟩) hS.2.2 hdg hlocks)
theorem zlret {post : Int64 → Heap → Prop} (hx : p.tables.exec = Jvm.exec) (hb : c.code = cc) (hr : meth.sig.returnType = some .long) (hlocks : meth.locks = false) (hS : va_S A s.heap H locs) (hc : cells ≤ mc) (hs : slots ≤ ms) {z : Int64} (hp : post z H) (hdg : decode cc pc = .ok (.lreturn, 1)) : W p l e R s m args below meth c H locs cells slots (MQ below (zQl post A) args s mc ms A) (F0 m pc ls [.long z]) := W.widen hc hs (W.lret hx hb hr (fun _ ht _ => ⟨⟨_, _, rfl, hp, ht⟩, hS.F ht⟩) hS.2.2 hdg hlocks)
theorem zaret {post : Option Nat → Heap → Prop} {n : String} (hx : p.tables.exec = Jvm.exec) (hb : c.code = cc) (hr : meth.sig.returnType = some (.object n)) (hlocks : meth.locks = false) (hS : va_S A s.heap H locs) (hc : cells ≤ mc) (hs : slots ≤ ms) {z : Option Nat} (hp : post z H) (hdg : decode cc pc = .ok (.areturn, 1)) : W p l e R s m args below meth c H locs cells slots (MQ below (zQq post A) args s mc ms A) (F0 m pc ls [va_rf z]) := W.widen hc hs (W.aret hx hb hr (Or.inl ⟨_, rfl⟩) (by cases z; exact Or.inl rfl; exact Or.inr ⟨_, rfl⟩) (fun _ ht _ => ⟨⟨_, _, rfl, hp, ht⟩, hS.F ht⟩) hS.2.2 hdg hlocks)
end ZC
