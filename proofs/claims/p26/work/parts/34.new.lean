/-! ===== new cells get a role ===== -/
section ZNEW
variable {D : va_G} {cy : Nat → ClassId} {A : Nat → Prop} {ad : Nat → Nat} {e : Nat → Option va_E} {H H1 : Heap}
theorem zW.push (hw : zW D A ad e H) {q : Nat} {x : va_E} (hP : va_P D vwCl (zL ad e ++ [(q, x)]) H1) (hD : va_D A (zL ad e ++ [(q, x)])) {k : Nat} (hk : k < 64) (he : e k = none) : zW D A (va_up ad k q) (va_up e k (some x)) H1 := by
  have hlast : (zL ad e ++ [(q, x)])[(zL ad e).length]? = some (q, x) := by
    rw [List.getElem?_append_right (Nat.le_refl _), Nat.sub_self]
    rfl
  have hleft : ∀ {j : Nat} {v : va_E}, e j = some v → ∃ i, i < (zL ad e).length ∧ (zL ad e ++ [(q, x)])[i]? = some (ad j, v) := by
    intro j v hj
    obtain ⟨i, hi⟩ := hw.ix hj
    have hl := (List.getElem?_eq_some_iff.mp hi).1
    exact ⟨i, hl, by rw [List.getElem?_append_left hl]; exact hi⟩
  refine ⟨fun j v hj => ?_, fun i j v w hi hj hij => ?_⟩
  · by_cases hjk : j = k
    · subst hjk
      rw [up_same] at hj
      cases hj
      rw [up_same]
      exact ⟨hk, hP _ _ hlast, hD.2 _ _ hlast⟩
    · rw [up_ne _ _ hjk] at hj
      rw [up_ne _ _ hjk]
      obtain ⟨i, hl, hi⟩ := hleft hj
      exact ⟨(hw.1 j v hj).1, hP _ _ hi, hD.2 _ _ hi⟩
  · by_cases hik : i = k
    · by_cases hjk : j = k
      · rw [hik, hjk]
      · exfalso
        subst hik
        rw [up_ne _ _ hjk] at hj
        rw [up_same, up_ne _ _ hjk] at hij
        obtain ⟨r, hl, hr⟩ := hleft hj
        have := hD.1 _ _ _ _ hlast hr hij
        omega
    · by_cases hjk : j = k
      · exfalso
        subst hjk
        rw [up_ne _ _ hik] at hi
        rw [up_same, up_ne _ _ hik] at hij
        obtain ⟨r, hl, hr⟩ := hleft hi
        have := hD.1 _ _ _ _ hr hlast hij
        omega
      · rw [up_ne _ _ hik] at hi hij
        rw [up_ne _ _ hjk] at hj hij
        exact hw.2 i j v w hi hj hij
theorem zRA_eq {U : State} {c1 c2 : ClassId} {ty : FieldType} (h1 : va_RA U c1 ty) (h2 : va_RA U c2 ty) : c1 = c2 := by
  cases ty with
  | object C =>
    obtain ⟨_, _, _, _, _, e1⟩ := h1
    obtain ⟨_, _, _, _, _, e2⟩ := h2
    exact Option.some.inj (e1.symm.trans e2)
  | _ => exact Option.some.inj (Eq.trans (Eq.symm h1) h2)
variable {p : Program} {l : Launch} {en : Env} {R : Room} {s : State} {m : MethodId} {args : Array Value} {below : List Frame} {meth : Method} {c : Code} {locs : List Loc} {cells slots : Nat} {Q : State → Prop}
variable {cc : ByteArray} {pc : Nat} {ls : Array Slot} {rest : List Value}
theorem znewa (hx : p.tables.exec = Jvm.exec) (hb : c.code = cc) {atype : ArrayType} (harr : (Cond.arrayClass (newarray.typeOf atype)).before args s = true) {ty : FieldType} (hty : newarray.typeOf atype = ty) (hE : EN D cy A s s.heap) (hS : va_S A s.heap H locs) (hAf : ∀ q, s.heap.size ≤ q → A q)
    (hw : zW D A ad e H) (k : Nat) (hk : k < 64) (he : e k = none) (t0 : Nat) (ht0 : (zTy cy)[t0]? = some (cy t0, ty)) {z : Int} {N' : Nat} {a0 : vp_A} (ha : ∀ cA : ClassId, vp_cell cA a0 = arrV cA N' (fun _ => defaultValue ty)) (hn : ¬ iI z < 0) (hN : (iI z).toNatClampNeg = N') (hbytes : N' * componentBytes ty ≤ 536870912) (hcells : cells + 1 ≤ R.cells) (hslots : slots + N' ≤ R.slots) (hdg : decode cc pc = .ok (.newarray atype, 2))
    (kk : ∀ (q : Nat) (H1 : Heap), zW D A (va_up ad k q) (va_up e k (some (.inl (cy t0, a0)))) H1 → va_S A s.heap H1 locs → W p l en R s m args below meth c H1 locs (cells + 1) (slots + N') Q (F0 m (pc + 2) ls (.ref q :: rest))) : W p l en R s m args below meth c H locs cells slots Q (F0 m pc ls (.int (iI z) :: rest)) := by
  refine va_newa hx hb harr hty hE.1 hw.P hw.dd hS hAf ha hn hN hbytes hcells hslots hdg (fun q cA H1 hK1 hP1 hD1 hS1 => ?_)
  have e1 : cA = cy t0 := zRA_eq (hK1.2 3 (cA, ty) rfl).2 (hE.1.2 t0 _ ht0).2
  subst e1
  exact kk q H1 (hw.push hP1 hD1 hk he) hS1
theorem znewq (hx : p.tables.exec = Jvm.exec) (hb : c.code = cc) {own : String} {index : Nat} (hown : s.vm.findClass own = some m.cls) (hclink : (Cond.classLink own index RX0).before args s = true) (hE : EN D cy A s s.heap) (hS : va_S A s.heap H locs) (hAf : ∀ q, s.heap.size ≤ q → A q)
    (hw : zW D A ad e H) (k : Nat) (hk : k < 64) (he : e k = none) {z : Int} {N' : Nat} (hn : ¬ iI z < 0) (hN : (iI z).toNatClampNeg = N') (hbytes : N' * 4 ≤ 536870912) (hcells : cells + 1 ≤ R.cells) (hslots : slots + N' ≤ R.slots) (hdg : decode cc pc = .ok (.anewarray index, 3))
    (kk : ∀ (q : Nat) (H1 : Heap), zW D A (va_up ad k q) (va_up e k (some (.inl (cy 2, N', .inr (.inr (.inr (.inr (fun _ => none)))))))) H1 → va_S A s.heap H1 locs → W p l en R s m args below meth c H1 locs (cells + 1) (slots + N') Q (F0 m (pc + 3) ls (.ref q :: rest))) : W p l en R s m args below meth c H locs cells slots Q (F0 m pc ls (.int (iI z) :: rest)) := by
  refine va_newq hx hb hown hclink hE.2.2.2.2.2.2.2 hE.1 hw.P hw.dd hS hAf hn hN hbytes hcells hslots hdg (fun q cA H1 hK1 hP1 hD1 hS1 => ?_)
  have e1 : cA = cy 2 := zRA_eq (hK1.2 3 (cA, .object RX0) rfl).2 (hE.1.2 2 _ rfl).2
  subst e1
  exact kk q H1 (hw.push hP1 hD1 hk he) hS1
theorem znew (hx : p.tables.exec = Jvm.exec) (hb : c.code = cc) {own C : String} {T : u_T} {N ci index : Nat} {Ts : List Cond} (hts : ∀ w ∈ Ts, w.before args s = true) (hin : ∀ w ∈ u_ws C T N, w ∈ Ts) (ty : Nat → FieldType) (hty : ∀ k, k < N → parseFieldDescriptor (T k).2.2.1 = some (ty k)) (hown : s.vm.findClass own = some m.cls) (hcl : (Cond.classLink own index C).before args s = true) (hinst : (Cond.instantiable C N).before args s = true) (hini : (Cond.initialized C).before args s = true)
    (hE : EN D cy A s s.heap) (hS : va_S A s.heap H locs) (hAf : ∀ q, s.heap.size ≤ q → A q) (hw : zW D A ad e H) (k : Nat) (hk : k < 64) (he : e k = none) (hc : vwCl[ci]? = some (C, T, N)) {fs : List Value} (hfs : ∀ j, j < N → defaultValue (ty j) = vp_V fs j) (hcells : cells + 1 ≤ R.cells) (hslots : slots + N ≤ R.slots) (hdg : decode cc pc = .ok (.new index, 3))
    (kk : ∀ (q : Nat) (H1 : Heap), zW D A (va_up ad k q) (va_up e k (some (.inr (ci, fs)))) H1 → va_S A s.heap H1 locs → W p l en R s m args below meth c H1 locs (cells + 1) (slots + N) Q (F0 m (pc + 3) ls (.ref q :: rest))) : W p l en R s m args below meth c H locs cells slots Q (F0 m pc ls rest) := by
  refine va_new hx hb hts hin ty hty hown hcl hinst hini hE.1 hw.P hw.dd hS hAf hc hfs hcells hslots hdg (fun q H1 hP1 hD1 hS1 => ?_)
  exact kk q H1 (hw.push hP1 hD1 hk he) hS1
theorem vz_i (n : Nat) (cA : ClassId) : vp_cell cA (n, .inl (fun _ => iI 0)) = arrV cA n (fun _ => defaultValue .int) := rfl
end ZNEW
