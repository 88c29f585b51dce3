/-! ===== methods that throw: nothing that was there is changed ===== -/
abbrev zN : Array Value → State → Outcome → State → Prop := fun _ _ _ _ => False
theorem zFace_use {args : Array Value} {s : State} : ∀ w ∈ zFace, va_Nw w s → w.before args s = true := by
  intro w hw h
  simp only [zFace, List.mem_cons, List.not_mem_nil, or_false] at hw
  rcases hw with rfl | rfl | rfl | rfl | rfl | rfl | rfl <;> exact va_Nw.use rfl h
section ZXS
variable {p : Program} {l : Launch} {e : Env} {R : Room} {s : State} {m : MethodId} {args : Array Value} {below : List Frame} {meth : Method} {c : Code} {locs : List Loc} {Q : State → Prop}
variable {cc : ByteArray} {pc : Nat} {ls : Array Slot} {rest st0 : List Value} {D : va_G} {cy : Nat → ClassId} {A : Nat → Prop} {a : Array Value} {Qc : Array Value → State → Outcome → State → Prop}
theorem zX_of {E0 : String} {t : State} {H0 : Heap} (h1 : s.heap.size ≤ t.heap.size) (h2 : ∀ q : Nat, q < s.heap.size → t.heap[q]? = s.heap[q]?) (h0 : H0 = s.heap) : zX E0 H0 A E0 s t := by
  subst h0
  exact ⟨(), trivial, ⟨rfl, h1, h2⟩, h1, fun q hq _ => h2 q hq⟩
theorem zthrow {own cls : String} {names : List String} {ik ic : Nat} {Ts : List Cond} (hx : p.tables.exec = Jvm.exec) (hb : c.code = cc) (hlf : l.stackTraces = false) (hown : s.vm.findClass own = some m.cls) (hcls : Bundle.fit cls = true) (hnames : ∀ n ∈ names, Bundle.fit n = true)
    (hts : ∀ w ∈ Ts, w.before args s = true) (hk : Cond.classLink own ik cls ∈ Ts) (hini : Cond.initialized cls ∈ Ts) (h1 : ∀ w ∈ (vx_at0 own ic cls names).filter goodWord, w ∈ Ts) (h2 : ∀ w ∈ (vx_at0 own ic cls names).filter (fun w => !goodWord w), w ∈ zFace)
    (hgood : ∀ w ∈ Cond.classLink own ik cls :: Cond.initialized cls :: vx_at0 own ic cls names, vx_ot w = true) (hE : EN D cy A s s.heap) (hS : va_S A s.heap s.heap locs) (hsize : ls.size = c.maxLocals)
    (d0 : decode cc pc = .ok (.new ik, 3)) (d3 : decode cc (pc + 3) = .ok (.dup, 1)) (d4 : decode cc (pc + 4) = .ok (.invokespecial ic, 3)) (d7 : decode cc (pc + 7) = .ok (.athrow, 1)) (ht : ∀ x ∈ c.exceptionTable.toList, False)
    (hRf : names.length + 3 < R.frames) (hRl : (rest.map fun v => v.category).sum + (13 * (names.length + 1) + 42) ≤ R.locals) (hRc : 1 ≤ R.cells) (hRs : 6 ≤ R.slots) (hlocks : meth.locks = false) :
    W p l e R s m args below meth c s.heap locs 0 0 (vx_MQ below Qc (zX cls s.heap A) args s 1 6 A) (F0 m pc ls rest) :=
  vx_throw0 hx hb hlf hown hcls hnames (hts _ hk) (hts _ hini) (vx_hat (fun w hw => hts w (h1 w hw)) h2 (fun w hw => zFace_use w hw (hE.2.2.2.2.2.2.1 w hw))) hgood hE.2.2.2.1 hE.2.2.2.2.1 hS hsize d0 d3 d4 d7 (fun x h => (ht x h).elim) hRf hRl (by omega) (by omega) hlocks
    (fun t _ h3 h4 => zX_of h3 h4 rfl) hS.2.2 (by omega) (by omega)
theorem zxcall {E0 : String} (hr : vx_Run p l e R s m args below meth c s.heap locs 0 0 1 6 (F0 m pc ls st0) rest (zN a) (zX E0 s.heap A) A) (hS : va_S A s.heap s.heap locs) (ht : ∀ x ∈ c.exceptionTable.toList, False) (hlocks : meth.locks = false) :
    W p l e R s m args below meth c s.heap locs 0 0 (vx_MQ below Qc (zX E0 s.heap A) args s 1 6 A) (F0 m pc ls st0) := by
  intro T hT X
  rcases hr T hT X with ⟨v, st₀, t, T', L, h0, X', hL, e1, e2, hq, st⟩ | ⟨q, st₀, t, T', L, E, ce, h0, X', hL, e1, e2, ⟨u, hp, ⟨hb1, hb2, hb3⟩, hF⟩, hce, hcv, hcl, st⟩
  · exact hq.elim
  · obtain ⟨k1, k2, k3⟩ := vx_keep h0 e1 hS (fun _ _ h => h) (fun _ h => h) hL hF
    subst hb1
    obtain ⟨t2, a1, b1⟩ := vx_out (Qc := Qc) (XC := zX E s.heap A) (args := args) (below := below) (mc := 1) (ms := 6) (free := A) (pc := pc) (ls := ls) (rest := rest) (fun x h => (ht x h).elim) hlocks (by rw [e1]; exact hce) hcv hcl (fun t' ht' _ => zX_of (by rw [ht', e1]; exact hb2) (by rw [ht', e1]; exact hb3) rfl) k3.2.2 (Nat.le_refl _) (Nat.le_refl _) T' rfl X'
    exact ⟨t2, st.trans a1, b1⟩
end ZXS
