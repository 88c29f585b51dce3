section
/-- a private method of a class that the tables say can be made, by its rows of tables_1 -/
def lw_okq (q : MethodName × Nat) : Prop := (q.1.cls ≠ "java/lang/invoke/MethodHandle" ∧ q.1.cls ≠ "java/lang/invoke/VarHandle") ∧ Cond.instantiable q.1.cls q.2 ∈ tables_1 ∧ Cond.privateMethod q.1 ∈ tables_1 ∧ Cond.instanceMethod q.1 ∈ tables_1
theorem lw_p0 : lw_okq (⟨"FormworkYard", "sumGains", "()V"⟩, 9) := ⟨⟨by decide +kernel, by decide +kernel⟩, List.mem_of_getElem? (i := 14) (by decide +kernel), List.mem_of_getElem? (i := 27) (by decide +kernel), List.mem_of_getElem? (i := 28) (by decide +kernel)⟩
theorem lw_p1 : lw_okq (⟨"java/lang/Throwable", "fillInStackTrace", "(I)Ljava/lang/Throwable;"⟩, 6) := ⟨⟨by decide +kernel, by decide +kernel⟩, List.mem_of_getElem? (i := 112) (by decide +kernel), List.mem_of_getElem? (i := 110) (by decide +kernel), List.mem_of_getElem? (i := 111) (by decide +kernel)⟩
theorem lw_p2 : lw_okq (⟨"FormworkYard", "scheduleAll", "()V"⟩, 9) := ⟨⟨by decide +kernel, by decide +kernel⟩, List.mem_of_getElem? (i := 14) (by decide +kernel), List.mem_of_getElem? (i := 158) (by decide +kernel), List.mem_of_getElem? (i := 159) (by decide +kernel)⟩
theorem lw_p3 : lw_okq (⟨"FormworkYard", "schedule", "(LFormworkYard$Pour;)V"⟩, 9) := ⟨⟨by decide +kernel, by decide +kernel⟩, List.mem_of_getElem? (i := 14) (by decide +kernel), List.mem_of_getElem? (i := 162) (by decide +kernel), List.mem_of_getElem? (i := 163) (by decide +kernel)⟩
theorem lw_p4 : lw_okq (⟨"FormworkYard", "startedHours", "(I)I"⟩, 9) := ⟨⟨by decide +kernel, by decide +kernel⟩, List.mem_of_getElem? (i := 14) (by decide +kernel), List.mem_of_getElem? (i := 166) (by decide +kernel), List.mem_of_getElem? (i := 167) (by decide +kernel)⟩
theorem lw_p5 : lw_okq (⟨"FormworkYard", "fullHours", "(I)I"⟩, 9) := ⟨⟨by decide +kernel, by decide +kernel⟩, List.mem_of_getElem? (i := 14) (by decide +kernel), List.mem_of_getElem? (i := 170) (by decide +kernel), List.mem_of_getElem? (i := 171) (by decide +kernel)⟩
theorem lw_p6 : lw_okq (⟨"FormworkYard$Pour", "hoursOfBreaks", "()I"⟩, 13) := ⟨⟨by decide +kernel, by decide +kernel⟩, List.mem_of_getElem? (i := 176) (by decide +kernel), List.mem_of_getElem? (i := 174) (by decide +kernel), List.mem_of_getElem? (i := 175) (by decide +kernel)⟩
theorem lw_p7 : lw_okq (⟨"FormworkYard", "strikeHour", "(II)I"⟩, 9) := ⟨⟨by decide +kernel, by decide +kernel⟩, List.mem_of_getElem? (i := 14) (by decide +kernel), List.mem_of_getElem? (i := 179) (by decide +kernel), List.mem_of_getElem? (i := 180) (by decide +kernel)⟩
theorem lw_p8 : lw_okq (⟨"FormworkYard", "gainBetween", "(II)I"⟩, 9) := ⟨⟨by decide +kernel, by decide +kernel⟩, List.mem_of_getElem? (i := 14) (by decide +kernel), List.mem_of_getElem? (i := 183) (by decide +kernel), List.mem_of_getElem? (i := 184) (by decide +kernel)⟩
theorem lw_p9 : lw_okq (⟨"FormworkYard", "standHour", "(I)I"⟩, 9) := ⟨⟨by decide +kernel, by decide +kernel⟩, List.mem_of_getElem? (i := 14) (by decide +kernel), List.mem_of_getElem? (i := 195) (by decide +kernel), List.mem_of_getElem? (i := 196) (by decide +kernel)⟩
theorem lw_p10 : lw_okq (⟨"FormworkYard", "releaseHour", "(I)I"⟩, 9) := ⟨⟨by decide +kernel, by decide +kernel⟩, List.mem_of_getElem? (i := 14) (by decide +kernel), List.mem_of_getElem? (i := 199) (by decide +kernel), List.mem_of_getElem? (i := 200) (by decide +kernel)⟩
theorem lw_p11 : lw_okq (⟨"FormworkYard", "freeNumber", "()I"⟩, 9) := ⟨⟨by decide +kernel, by decide +kernel⟩, List.mem_of_getElem? (i := 14) (by decide +kernel), List.mem_of_getElem? (i := 222) (by decide +kernel), List.mem_of_getElem? (i := 223) (by decide +kernel)⟩
theorem lw_p12 : lw_okq (⟨"FormworkYard", "existing", "(I)LFormworkYard$Pour;"⟩, 9) := ⟨⟨by decide +kernel, by decide +kernel⟩, List.mem_of_getElem? (i := 14) (by decide +kernel), List.mem_of_getElem? (i := 298) (by decide +kernel), List.mem_of_getElem? (i := 299) (by decide +kernel)⟩
theorem lw_p13 : lw_okq (⟨"FormworkYard", "sumNeeds", "()V"⟩, 9) := ⟨⟨by decide +kernel, by decide +kernel⟩, List.mem_of_getElem? (i := 14) (by decide +kernel), List.mem_of_getElem? (i := 329) (by decide +kernel), List.mem_of_getElem? (i := 330) (by decide +kernel)⟩
theorem lw_p14 : lw_okq (⟨"FormworkYard", "needIn", "(I)I"⟩, 9) := ⟨⟨by decide +kernel, by decide +kernel⟩, List.mem_of_getElem? (i := 14) (by decide +kernel), List.mem_of_getElem? (i := 333) (by decide +kernel), List.mem_of_getElem? (i := 334) (by decide +kernel)⟩
theorem lw_p15 : lw_okq (⟨"FormworkYard$Pour", "isBusy", "(I)Z"⟩, 13) := ⟨⟨by decide +kernel, by decide +kernel⟩, List.mem_of_getElem? (i := 176) (by decide +kernel), List.mem_of_getElem? (i := 337) (by decide +kernel), List.mem_of_getElem? (i := 338) (by decide +kernel)⟩
def lw_privs_1 : List (MethodName × Nat) := [(⟨"FormworkYard", "sumGains", "()V"⟩, 9), (⟨"java/lang/Throwable", "fillInStackTrace", "(I)Ljava/lang/Throwable;"⟩, 6), (⟨"FormworkYard", "scheduleAll", "()V"⟩, 9), (⟨"FormworkYard", "schedule", "(LFormworkYard$Pour;)V"⟩, 9), (⟨"FormworkYard", "startedHours", "(I)I"⟩, 9), (⟨"FormworkYard", "fullHours", "(I)I"⟩, 9), (⟨"FormworkYard$Pour", "hoursOfBreaks", "()I"⟩, 13), (⟨"FormworkYard", "strikeHour", "(II)I"⟩, 9), (⟨"FormworkYard", "gainBetween", "(II)I"⟩, 9), (⟨"FormworkYard", "standHour", "(I)I"⟩, 9), (⟨"FormworkYard", "releaseHour", "(I)I"⟩, 9), (⟨"FormworkYard", "freeNumber", "()I"⟩, 9), (⟨"FormworkYard", "existing", "(I)LFormworkYard$Pour;"⟩, 9), (⟨"FormworkYard", "sumNeeds", "()V"⟩, 9), (⟨"FormworkYard", "needIn", "(I)I"⟩, 9), (⟨"FormworkYard$Pour", "isBusy", "(I)Z"⟩, 13)]
theorem lw_r1 : ∀ q ∈ lw_privs_1, lw_okq q := List.forall_mem_cons.mpr ⟨lw_p0, List.forall_mem_cons.mpr ⟨lw_p1, List.forall_mem_cons.mpr ⟨lw_p2, List.forall_mem_cons.mpr ⟨lw_p3, List.forall_mem_cons.mpr ⟨lw_p4, List.forall_mem_cons.mpr ⟨lw_p5, List.forall_mem_cons.mpr ⟨lw_p6, List.forall_mem_cons.mpr ⟨lw_p7, List.forall_mem_cons.mpr ⟨lw_p8, List.forall_mem_cons.mpr ⟨lw_p9, List.forall_mem_cons.mpr ⟨lw_p10, List.forall_mem_cons.mpr ⟨lw_p11, List.forall_mem_cons.mpr ⟨lw_p12, List.forall_mem_cons.mpr ⟨lw_p13, List.forall_mem_cons.mpr ⟨lw_p14, List.forall_mem_cons.mpr ⟨lw_p15, fun _ h => absurd h List.not_mem_nil⟩⟩⟩⟩⟩⟩⟩⟩⟩⟩⟩⟩⟩⟩⟩⟩
theorem lw_p16 : lw_okq (⟨"FormworkYard", "giveOutPanels", "()V"⟩, 9) := ⟨⟨by decide +kernel, by decide +kernel⟩, List.mem_of_getElem? (i := 14) (by decide +kernel), List.mem_of_getElem? (i := 353) (by decide +kernel), List.mem_of_getElem? (i := 354) (by decide +kernel)⟩
theorem lw_p17 : lw_okq (⟨"FormworkYard", "nextToServe", "()LFormworkYard$Pour;"⟩, 9) := ⟨⟨by decide +kernel, by decide +kernel⟩, List.mem_of_getElem? (i := 14) (by decide +kernel), List.mem_of_getElem? (i := 357) (by decide +kernel), List.mem_of_getElem? (i := 358) (by decide +kernel)⟩
theorem lw_p18 : lw_okq (⟨"FormworkYard", "panelsBusyIn", "(I)J"⟩, 9) := ⟨⟨by decide +kernel, by decide +kernel⟩, List.mem_of_getElem? (i := 14) (by decide +kernel), List.mem_of_getElem? (i := 361) (by decide +kernel), List.mem_of_getElem? (i := 362) (by decide +kernel)⟩
theorem lw_p19 : lw_okq (⟨"FormworkYard", "lowestPanels", "(JI)J"⟩, 9) := ⟨⟨by decide +kernel, by decide +kernel⟩, List.mem_of_getElem? (i := 14) (by decide +kernel), List.mem_of_getElem? (i := 365) (by decide +kernel), List.mem_of_getElem? (i := 366) (by decide +kernel)⟩
def lw_privs_2 : List (MethodName × Nat) := [(⟨"FormworkYard", "giveOutPanels", "()V"⟩, 9), (⟨"FormworkYard", "nextToServe", "()LFormworkYard$Pour;"⟩, 9), (⟨"FormworkYard", "panelsBusyIn", "(I)J"⟩, 9), (⟨"FormworkYard", "lowestPanels", "(JI)J"⟩, 9)]
theorem lw_r2 : ∀ q ∈ lw_privs_2, lw_okq q := List.forall_mem_cons.mpr ⟨lw_p16, List.forall_mem_cons.mpr ⟨lw_p17, List.forall_mem_cons.mpr ⟨lw_p18, List.forall_mem_cons.mpr ⟨lw_p19, fun _ h => absurd h List.not_mem_nil⟩⟩⟩⟩
def lw_privs : List (MethodName × Nat) := lw_privs_1 ++ (lw_privs_2)
def lw_tbl : List Cond := k2_sels lw_privs ++ tables_1
theorem lw_privs_ok : ∀ q ∈ lw_privs, lw_okq q := by
  show ∀ q ∈ lw_privs_1 ++ (lw_privs_2), lw_okq q
  exact List.forall_mem_append.mpr ⟨lw_r1, lw_r2⟩
end
section
/-! ===== BEGIN words of one list among another's, by their places ===== -/
theorem goodIn_r {big : List Cond} (ws : List Cond) (ps : List Nat) (hp : ws = ps.filterMap (fun i => big[i]?)) (h : ws.all goodWord = true) : GoodIn big ws := by
  intro w hw
  have h1 := List.all_eq_true.mp h w hw
  rw [hp] at hw
  obtain ⟨i, -, hi⟩ := List.mem_filterMap.mp hw
  have hm : w ∈ big := by first | exact List.mem_of_getElem? hi | exact List.getElem?_mem hi
  exact ⟨hm, good_of_word h1⟩
theorem goodIn_app {big a b : List Cond} (ha : GoodIn big a) (hb : GoodIn big b) : GoodIn big (a ++ b) := fun w h => (List.mem_append.mp h).elim (ha w) (hb w)
theorem goodIn_ca {big a b : List Cond} {c : Cond} (ha : GoodIn big (c :: a)) (hb : GoodIn big b) : GoodIn big (c :: (a ++ b)) := fun w h => (List.mem_cons.mp h).elim (fun e => ha w (List.mem_cons.mpr (Or.inl e))) (fun h => (List.mem_append.mp h).elim (fun h => ha w (List.mem_cons.mpr (Or.inr h))) (hb w))
theorem goodIn_sub {big ws : List Cond} (hm : ∀ w ∈ ws, w ∈ big) (h : ws.all goodWord = true) : GoodIn big ws := fun w hw => ⟨hm w hw, good_of_word (List.all_eq_true.mp h w hw)⟩
/-! ===== END ===== -/

/-! ===== BEGIN exceptions that leave a method, and their catching by the caller (launches without stack traces) ===== -/
section VXA
/-! The laws vx_back, vx_callV, vx_callS, vx_callSW, vx_throw0, vx_throwS follow proofs of the library, with one case more: JvmDerived/Free/Laws.lean (Back.of_free), Shelf42/LK1.lean (callV, callS), Shelf/KitTraced.lean (throwNew0V, throwNewS). -/
/-- where a method has thrown q: the class by its name, the cell, what was written, the world -/
def vx_T (XC : String → State → State → Prop) (st : State) (q : Addr) (t : State) (mc ms : Nat) (free : Addr → Prop) : Prop :=
  ∃ (E : String) (ce : Cell) (L : List Loc), XC E st t ∧ t.heap[q]? = some ce ∧ ce.vm = .none ∧ st.vm.findClass E = some ce.cls ∧ st.WarmedH t.vm ∧ st.sameButNew ({ t with vm := st.vm } : State) L mc ms ∧ ∀ z ∈ L, free z.base
def vx_Q (Qc : Array Value → State → Outcome → State → Prop) (XC : String → State → State → Prop) (mc ms : Nat) (free : Addr → Prop) : Array Value → State → Outcome → State → Prop := fun a st o t =>
  (Qc a st o t ∧ ∃ L, FrameEnd st o t L mc ms ∧ ∀ q ∈ L, free q.base) ∨ ∃ q, o = .threw q ∧ vx_T XC st q t mc ms free
/-- a callee that returns or throws -/
def vx_Met (l : Launch) (y : MethodName) (ws : List Cond) (rm : Room) (Pc : Array Value → State → Prop) (Qc : Array Value → State → Outcome → State → Prop) (XC : String → State → State → Prop) (mc ms : Nat) (free : Addr → Prop) : Prop :=
  MetFree l y (headSpec ws rm) Pc (fun _ _ _ _ _ => True) (vx_Q Qc XC mc ms free)
def vx_Post (XC : String → State → State → Prop) (mc ms : Nat) (free : Addr → Prop) : Pt → Array Value → Addr → Pt → Prop := fun A a q B =>
  ∃ (g : JFrame) (mk : MethodId) (t : State) (L : List Loc) (E : String) (ce : Cell), B.U.heap = t.heap ∧ B.U.vm = t.vm ∧ XC E (A.U.calling g mk a) t ∧ t.heap[q]? = some ce ∧ ce.vm = .none ∧ A.U.vm.findClass E = some ce.cls ∧ B.locs = A.locs ++ L ∧ (∀ z ∈ L, free z.base) ∧ B.cells = A.cells + mc ∧ B.slots = A.slots + ms
def vx_Back (l : Launch) (R : Room) (p : Program) (e : Env) (below : List Frame) (s : State) (sargs : Array Value) (y : MethodName) (len W9 : Nat)
    (Pre : Pt → Array Value → Prop) (Post : Pt → Array Value → Option Value → Pt → Prop) (PostX : Pt → Array Value → Addr → Pt → Prop) : Prop :=
  ∀ (m : MethodId) (meth : Method) (c : Code) (A : Pt) (g : JFrame) (ig : Instr) (mk : MethodId) (a : Array Value),
    Stand p l e R s m sargs below meth c A.U A.locs A.cells A.slots → g.method = m → g.locals.size = c.maxLocals → decode c.code g.pc = .ok (ig, len) →
    2 * g.monitorRoom + (g.stack.map fun v => v.category).sum ≤ W9 → A.U.methodNamed? y = some mk → Pre A a →
    (∃ (v : Option Value) (B : Pt), Stand p l e R s m sargs below meth c B.U B.locs B.cells B.slots ∧ Post A a v B ∧
      Steps p.tables e below (doInvoke e (A.U.setTop g) [] mk a).1 (B.U.setTop { g with pc := g.pc + len, stack := v.toList ++ g.stack })) ∨
    (∃ (q : Addr) (B : Pt), Stand p l e R s m sargs below meth c B.U B.locs B.cells B.slots ∧ PostX A a q B ∧
      Steps p.tables e below (doInvoke e (A.U.setTop g) [] mk a).1 ((B.U.setTop g).pushFrame (.throwing q)))
section Payer
variable {l : Launch} {R : Room} {p : Program} {e : Env} {below : List Frame} {s : State} {sargs : Array Value} {y : MethodName} {len W9 : Nat}
theorem vx_back {ws : List Cond} {rm : Room} {Pc : Array Value → State → Prop} {Qc : Array Value → State → Outcome → State → Prop} {XC : String → State → State → Prop} {mc ms : Nat} {free : Addr → Prop} {bytes : ByteArray} {maxL : Nat} {ret : Option FieldType}
    (hM : vx_Met l y ws rm Pc Qc XC mc ms free) (hblind : FrameBlind Pc) (hrc : rm.cells = mc) (hrs : rm.slots = ms)
    (hframes : rm.frames + 1 ≤ R.frames) (hlocals : W9 + (maxL + 11) + rm.locals ≤ R.locals)
    (hws : ∀ w ∈ ws, ∀ a' U, s.WarmedH U.vm → w.before a' U = true) (hcode : Cond.code y bytes maxL ret ∈ ws) (hinit : ∀ a' U, s.WarmedH U.vm → (Cond.initialized y.cls).before a' U = true) :
    vx_Back l R p e below s sargs y len W9 (PreOf R mc ms Pc) (PostOf Qc mc ms free) (vx_Post XC mc ms free) := by
  intro m meth c A g ig mk a X hg hsize hdg hW hn hp
  have h1 : (headSpec ws rm).pre.before a A.U = true := atoms_intro fun w hw => hws w hw _ _ X.warmed
  have h2 : (Cond.code y bytes maxL ret).before a A.U = true := hws _ hcode _ _ X.warmed
  have h3 : (Cond.initialized y.cls).before a A.U = true := hinit _ _ X.warmed
  have h4 : A.cells + (headSpec ws rm).room.cells ≤ R.cells := by rw [show (headSpec ws rm).room.cells = mc from hrc]; exact hp.1
  have h5 : A.slots + (headSpec ws rm).room.slots ≤ R.slots := by rw [show (headSpec ws rm).room.slots = ms from hrs]; exact hp.2.1
  have hPc : Pc a (A.U.calling g mk a) := hblind _ _ _ _ hp.2.2
  obtain ⟨U, Ls, c0, s0⟩ := A
  dsimp only [Pt.U, Pt.locs, Pt.cells, Pt.slots] at h1 h2 h3 h4 h5 X hn hPc ⊢
  obtain ⟨methY, cY, hmY, hcY, -, hlY, -, -, -, -⟩ := Cond.code_spec hn h2
  obtain ⟨kY, hkY, -⟩ := className_of_methodNamed hn
  have hinitY : kY.init = .initialized := Cond.initialized_spec (findClass_of_methodNamed hn) hkY h3
  have h : At U g.method c below := by rw [hg]; exact X.here
  have hlocals9 : W9 + (maxL + 11) + (headSpec ws rm).room.locals ≤ R.locals := hlocals
  have happ : (headSpec ws rm).appliesLoose y e.platform (U.calling g mk a) = true :=
    Spec.appliesLoose_calling (g := g) h hdg hn hkY hinitY
      (X.room_calling (g := g) (R' := (headSpec ws rm).room) hsize hmY hcY hframes (by rw [hlY]; omega) h4 h5) h1
  obtain ⟨mid, hmid⟩ := h.above
  have hfr : (U.setTop g).frames = (.java g :: mid) ++ below := by rw [State.frames_setTop' g h.top, hmid]; rfl
  obtain ⟨o, s₂, hsteps, -, hend, hq⟩ := Steps.callFree hM p X.admits X.cas X.clock (acts := []) hfr happ hPc trivial
  have hq' : vx_Q Qc XC mc ms free a (U.calling g mk a) o s₂ := hq
  rw [State.frames_setTop' g h.top] at hend
  obtain ⟨g₀, hg0⟩ := Option.isSome_iff_exists.mp h.top
  obtain ⟨r, hr⟩ := State.topJava?_eq_some.mp hg0
  have hr' : (({ U with heap := s₂.heap, slotsUsed := s₂.slotsUsed } : State).setVm s₂.vm).frames = .java g₀ :: r := hr
  rcases hq' with ⟨hqc, L, hfe, hL⟩ | ⟨q, rfl, E, ce, L, hx, hce, hcv, hcl, hW₂, hsm, hL⟩
  · obtain ⟨⟨v, rfl⟩, hW₂, e2, q2, q3, q4, q5, q6⟩ := id hfe
    have e3 : s₂ = ({ (U.calling g mk a).setFrames s₂.frames with heap := s₂.heap, slotsUsed := s₂.slotsUsed } : State).setVm s₂.vm := by
      have : s₂ = ({ s₂ with vm := (U.calling g mk a).vm } : State).setVm s₂.vm := rfl
      rw [e2] at this
      exact this
    obtain ⟨c₂, i₂, len₂, hc₂, hd₂, hf₂⟩ := hend
    have hW' : U.WarmedH s₂.vm := hW₂
    have hcc : c₂ = c := by
      have h1 : s₂.code? g.method = U.code? g.method := by
        rw [State.code?_eq, State.code?_eq, hW'.alike.method?]
      exact Option.some.inj (hc₂.symm.trans (h1.trans h.code))
    subst hcc
    have hlen : len₂ = len := by rw [hdg] at hd₂; cases hd₂; rfl
    subst hlen
    have hs₂ : s₂ = (({ U with heap := s₂.heap, slotsUsed := s₂.slotsUsed } : State).setVm s₂.vm).setTop { g with pc := g.pc + len₂, stack := v.toList ++ g.stack } := by
      refine e3.trans ?_
      rw [hf₂, State.calling_eq h.top, State.setFrames_setFrames, State.setTop_of_frames _ hr', hr]
      rfl
    have hsame : U.sameButNew ({ U with heap := s₂.heap, slotsUsed := s₂.slotsUsed } : State) L mc ms := by
      refine ⟨?_, q2, q3, q4, q5, q6⟩
      obtain ⟨t, ht, -⟩ := State.frames_cons hr
      show ({ U with heap := s₂.heap, slotsUsed := s₂.slotsUsed } : State) = { U.setFrames U.frames with heap := s₂.heap, slotsUsed := s₂.slotsUsed }
      rw [State.setFrames_self ht]
    subst hg
    refine Or.inl ⟨v, ⟨(({ U with heap := s₂.heap, slotsUsed := s₂.slotsUsed } : State).setVm s₂.vm), Ls ++ L, c0 + mc, s0 + ms⟩,
      ⟨X.admits, X.cas, X.clock, X.frames, X.room, X.hears, X.method, X.code, (X.here.setHeapUsed s₂.heap s₂.slotsUsed).setVm hW'.alike, X.tail, State.WarmedH.trans X.warmed hW', X.limits, X.bytes, X.same.trans (hsame.setVm s.vm)⟩,
      ⟨g, mk, s₂, L, rfl, rfl, hqc, rfl, hL, rfl, rfl⟩, ?_⟩
    show Steps p.tables e below _ ((({ U with heap := s₂.heap, slotsUsed := s₂.slotsUsed } : State).setVm s₂.vm).setTop { g with pc := g.pc + len₂, stack := v.toList ++ g.stack })
    rw [← hs₂]
    exact hsteps
  · obtain ⟨e2, q2, q3, q4, q5, q6⟩ := id hsm
    have e3 : s₂ = ({ (U.calling g mk a).setFrames s₂.frames with heap := s₂.heap, slotsUsed := s₂.slotsUsed } : State).setVm s₂.vm := by
      have : s₂ = ({ s₂ with vm := (U.calling g mk a).vm } : State).setVm s₂.vm := rfl
      rw [e2] at this
      exact this
    have hf₂ : s₂.frames = .throwing q :: .java g :: U.frames.tail := hend
    have hW' : U.WarmedH s₂.vm := hW₂
    have hs₂ : s₂ = ((({ U with heap := s₂.heap, slotsUsed := s₂.slotsUsed } : State).setVm s₂.vm).setTop g).pushFrame (.throwing q) := by
      refine e3.trans ?_
      rw [hf₂, State.calling_eq h.top, State.setFrames_setFrames, State.pushFrame, State.frames_setTop _ hr', State.setTop_of_frames _ hr', State.setFrames_setFrames, hr]
      rfl
    have hsame : U.sameButNew ({ U with heap := s₂.heap, slotsUsed := s₂.slotsUsed } : State) L mc ms := by
      refine ⟨?_, q2, q3, q4, q5, q6⟩
      obtain ⟨t, ht, -⟩ := State.frames_cons hr
      show ({ U with heap := s₂.heap, slotsUsed := s₂.slotsUsed } : State) = { U.setFrames U.frames with heap := s₂.heap, slotsUsed := s₂.slotsUsed }
      rw [State.setFrames_self ht]
    subst hg
    refine Or.inr ⟨q, ⟨(({ U with heap := s₂.heap, slotsUsed := s₂.slotsUsed } : State).setVm s₂.vm), Ls ++ L, c0 + mc, s0 + ms⟩,
      ⟨X.admits, X.cas, X.clock, X.frames, X.room, X.hears, X.method, X.code, (X.here.setHeapUsed s₂.heap s₂.slotsUsed).setVm hW'.alike, X.tail, State.WarmedH.trans X.warmed hW', X.limits, X.bytes, X.same.trans (hsame.setVm s.vm)⟩,
      ⟨g, mk, s₂, L, E, ce, rfl, rfl, hx, hce, hcv, hcl, rfl, hL, rfl, rfl⟩, ?_⟩
    show Steps p.tables e below _ (((({ U with heap := s₂.heap, slotsUsed := s₂.slotsUsed } : State).setVm s₂.vm).setTop g).pushFrame (.throwing q))
    rw [← hs₂]
    exact hsteps
end Payer
section Calls
variable {p : Program} {l : Launch} {e : Env} {R : Room} {s : State} {m : MethodId} {args : Array Value} {below : List Frame} {meth : Method} {c : Code} {T : State} {locs : List Loc} {cells slots : Nat}
theorem vx_callV (X : Stand p l e R s m args below meth c T locs cells slots) (hexec : p.tables.exec = Jvm.exec) {own C : String} {index : Nat} {y : MethodName} {bytes : ByteArray} {maxL : Nat} {ret : Option FieldType}
    (hown : s.vm.findClass own = some m.cls) (hlink : (Cond.methodLink own index y).before args s = true) (hinst : (Cond.instanceMethod y).before args s = true) (hsel : (Cond.selects C y y).before args s = true)
    (hcode : (Cond.code y bytes maxL ret).before args s = true) (hy : y.cls ≠ "java/lang/invoke/MethodHandle" ∧ y.cls ≠ "java/lang/invoke/VarHandle")
    {W9 : Nat} {Pre : Pt → Array Value → Prop} {Post : Pt → Array Value → Option Value → Pt → Prop} {PostX : Pt → Array Value → Addr → Pt → Prop} (hK : vx_Back l R p e below s args y 3 W9 Pre Post PostX)
    {b : Addr} {cellB : Cell} (hcell : T.heap[b]? = some cellB) (hobj : cellB.vm.isStatics = false) (hcls : s.vm.findClass C = some cellB.cls)
    {g : JFrame} (hg : g.method = m) (hsize : g.locals.size = c.maxLocals) {argsL rest : List Value} (hlen : ∀ sig, parseMethodDescriptor y.desc = some sig → argsL.length = sig.parameters.length)
    (hstack : g.stack = argsL.reverse ++ .ref b :: rest) (hW : 2 * g.monitorRoom + (rest.map fun v => v.category).sum ≤ W9) (hdg : decode c.code g.pc = .ok (.invokevirtual index, 3))
    (hpre : ∀ vm₁, s.WarmedH vm₁ → Pre ⟨T.setVm vm₁, locs, cells, slots⟩ (Value.ref b :: argsL).toArray) :
    (∃ (v : Option Value) (vm₁ : Vm) (B : Pt), s.WarmedH vm₁ ∧ Stand p l e R s m args below meth c B.U B.locs B.cells B.slots ∧ Post ⟨T.setVm vm₁, locs, cells, slots⟩ (Value.ref b :: argsL).toArray v B ∧
      ∀ target, Steps p.tables e below (B.U.setTop { g with pc := g.pc + 3, stack := v.toList ++ rest }) target → Steps p.tables e below (T.setTop g) target) ∨
    (∃ (q : Addr) (vm₁ : Vm) (B : Pt), s.WarmedH vm₁ ∧ Stand p l e R s m args below meth c B.U B.locs B.cells B.slots ∧ PostX ⟨T.setVm vm₁, locs, cells, slots⟩ (Value.ref b :: argsL).toArray q B ∧
      Steps p.tables e below (T.setTop g) ((B.U.setTop { g with stack := rest }).pushFrame (.throwing q))) := by
  obtain ⟨mk, methM, hnamed, hmethM, hstM, habM⟩ := Cond.instanceMethod_spec hinst
  obtain ⟨methM', cM, hmethM', -, -, -, -, -, -, hsigM⟩ := Cond.code_spec hnamed hcode
  cases hmethM.symm.trans hmethM'
  obtain ⟨c2, r2, m2, q1, q2, q3, q4, kP, hkP, hkPi⟩ := Cond.selects_spec hsel
  cases hcls.symm.trans q1
  cases (State.methodFound?_of_named hnamed hy).symm.trans q2
  cases hnamed.symm.trans q3
  have hselP : selectMethod e.platform s.vm cellB.cls mk = .method mk := by rw [Launch.admits_selectMethod X.admits]; exact q4
  obtain ⟨vm₁, X₁, hstep₁⟩ := X.invokevirtual hexec hown hlink hnamed hmethM hstM hkP hkPi hy (a := b) (cell := cellB) hcell
    (fun z h => by rw [h] at hobj; cases hobj) hselP hmethM habM hkP hkPi (g := g) hg (argsL := argsL) (rest := rest) (hlen _ hsigM) hstack hdg
  rcases hK m meth c ⟨T.setVm vm₁, locs, cells, slots⟩ { g with stack := rest } (.invokevirtual index) mk (Value.ref b :: argsL).toArray X₁ hg hsize hdg hW (X₁.named hnamed) (hpre vm₁ X₁.warmed) with ⟨v, B, X', hpost, hsteps⟩ | ⟨q, B, X', hpost, hsteps⟩
  · exact Or.inl ⟨v, vm₁, B, X₁.warmed, X', hpost, fun target h => hstep₁ _ fun acts => by rw [doInvoke_state]; exact hsteps.trans h⟩
  · exact Or.inr ⟨q, vm₁, B, X₁.warmed, X', hpost, hstep₁ _ fun acts => by rw [doInvoke_state]; exact hsteps⟩
theorem vx_callS (X : Stand p l e R s m args below meth c T locs cells slots) (hexec : p.tables.exec = Jvm.exec) {own : String} {index : Nat} {y : MethodName} {bytes : ByteArray} {maxL : Nat} {ret : Option FieldType}
    (hown : s.vm.findClass own = some m.cls) (hlink : (Cond.methodLink own index y).before args s = true) (hstat : (Cond.static y).before args s = true) (hinit : (Cond.initialized y.cls).before args s = true)
    (hcode : (Cond.code y bytes maxL ret).before args s = true) (hy : y.cls ≠ "java/lang/invoke/MethodHandle" ∧ y.cls ≠ "java/lang/invoke/VarHandle")
    {W9 : Nat} {Pre : Pt → Array Value → Prop} {Post : Pt → Array Value → Option Value → Pt → Prop} {PostX : Pt → Array Value → Addr → Pt → Prop} (hK : vx_Back l R p e below s args y 3 W9 Pre Post PostX)
    {g : JFrame} (hg : g.method = m) (hsize : g.locals.size = c.maxLocals) {argsL rest : List Value} (hlen : ∀ sig, parseMethodDescriptor y.desc = some sig → argsL.length = sig.parameters.length)
    (hstack : g.stack = argsL.reverse ++ rest) (hW : 2 * g.monitorRoom + (rest.map fun v => v.category).sum ≤ W9) (hdg : decode c.code g.pc = .ok (.invokestatic index, 3))
    (hpre : ∀ vm₁, s.WarmedH vm₁ → Pre ⟨T.setVm vm₁, locs, cells, slots⟩ argsL.toArray) :
    (∃ (v : Option Value) (vm₁ : Vm) (B : Pt), s.WarmedH vm₁ ∧ Stand p l e R s m args below meth c B.U B.locs B.cells B.slots ∧ Post ⟨T.setVm vm₁, locs, cells, slots⟩ argsL.toArray v B ∧
      ∀ target, Steps p.tables e below (B.U.setTop { g with pc := g.pc + 3, stack := v.toList ++ rest }) target → Steps p.tables e below (T.setTop g) target) ∨
    (∃ (q : Addr) (vm₁ : Vm) (B : Pt), s.WarmedH vm₁ ∧ Stand p l e R s m args below meth c B.U B.locs B.cells B.slots ∧ PostX ⟨T.setVm vm₁, locs, cells, slots⟩ argsL.toArray q B ∧
      Steps p.tables e below (T.setTop g) ((B.U.setTop { g with stack := rest }).pushFrame (.throwing q))) := by
  obtain ⟨mk, hnamed⟩ := Cond.code_named hcode
  obtain ⟨methM, cM, hmethM, -, -, -, -, -, -, hsigM⟩ := Cond.code_spec hnamed hcode
  have hstatic : methM.isStatic = true := Cond.static_spec hnamed hmethM hstat
  obtain ⟨kP, hkP, -⟩ := className_of_methodNamed hnamed
  have hinitP : kP.init = .initialized := Cond.initialized_spec (findClass_of_methodNamed hnamed) hkP hinit
  obtain ⟨vm₁, X₁, hstep₁⟩ := X.invokestatic hexec hown hlink hnamed hmethM hstatic hkP hinitP hy (g := g) hg (argsL := argsL) (rest := rest) (hlen _ hsigM) hstack hdg
  rcases hK m meth c ⟨T.setVm vm₁, locs, cells, slots⟩ { g with stack := rest } (.invokestatic index) mk argsL.toArray X₁ hg hsize hdg hW (X₁.named hnamed) (hpre vm₁ X₁.warmed) with ⟨v, B, X', hpost, hsteps⟩ | ⟨q, B, X', hpost, hsteps⟩
  · exact Or.inl ⟨v, vm₁, B, X₁.warmed, X', hpost, fun target h => hstep₁ _ fun acts => by rw [doInvoke_state]; exact hsteps.trans h⟩
  · exact Or.inr ⟨q, vm₁, B, X₁.warmed, X', hpost, hstep₁ _ fun acts => by rw [doInvoke_state]; exact hsteps⟩
end Calls
theorem vx_cls {s : State} {T : State} {vm₁ : Vm} {E : String} {k : ClassId} (hW : s.WarmedH vm₁) (h : (T.setVm vm₁).vm.findClass E = some k) : s.vm.findClass E = some k := by
  have h1 : vm₁.findClass E = some k := h
  rw [hW.alike.findClass] at h1
  exact h1
/-- the method's frame g, with q thrown over it -/
def vx_W (p : Program) (l : Launch) (e : Env) (R : Room) (s : State) (m : MethodId) (args : Array Value) (below : List Frame) (meth : Method) (c : Code) (H : Heap) (locs : List Loc) (cells slots : Nat) (Q : State → Prop) (g : JFrame) (q : Addr) : Prop :=
  ∀ T : State, T.heap = H → Stand p l e R s m args below meth c T locs cells slots → ∃ t, Steps p.tables e below ((T.setTop g).pushFrame (.throwing q)) t ∧ Q t
def vx_Run (p : Program) (l : Launch) (e : Env) (R : Room) (s : State) (m : MethodId) (args : Array Value) (below : List Frame) (meth : Method) (c : Code) (H : Heap) (locs : List Loc) (cells slots mc ms : Nat) (g : JFrame) (rest : List Value) (Qa : State → Outcome → State → Prop) (XC : String → State → State → Prop) (free : Addr → Prop) : Prop :=
  ∀ T : State, T.heap = H → Stand p l e R s m args below meth c T locs cells slots →
    (∃ (v : Option Value) (st₀ t T' : State) (L : List Loc), st₀.heap = H ∧ Stand p l e R s m args below meth c T' (locs ++ L) (cells + mc) (slots + ms) ∧ (∀ q ∈ L, free q.base) ∧ T'.heap = t.heap ∧ T'.vm = t.vm ∧ Qa st₀ (.returned v) t ∧
      Goes p e below T g T' { g with pc := g.pc + 3, stack := v.toList ++ rest }) ∨
    (∃ (q : Addr) (st₀ t T' : State) (L : List Loc) (E : String) (ce : Cell), st₀.heap = H ∧ Stand p l e R s m args below meth c T' (locs ++ L) (cells + mc) (slots + ms) ∧ (∀ z ∈ L, free z.base) ∧ T'.heap = t.heap ∧ T'.vm = t.vm ∧ XC E st₀ t ∧ t.heap[q]? = some ce ∧ ce.vm = .none ∧ s.vm.findClass E = some ce.cls ∧
      Steps p.tables e below (T.setTop g) ((T'.setTop { g with stack := rest }).pushFrame (.throwing q)))
def vx_X {S : Type} (px : S → Prop) (B : String → S → State → Prop) (A : Nat → Prop) : String → State → State → Prop := fun E st t => ∃ u : S, px u ∧ B E u t ∧ va_F A st t
section Runs
variable {p : Program} {l : Launch} {e : Env} {R : Room} {s : State} {m : MethodId} {args : Array Value} {below : List Frame} {meth : Method} {c : Code} {H : Heap} {locs : List Loc} {cells slots : Nat}
variable {y : MethodName} {bytes cc : ByteArray} {maxL nL mc ms n index : Nat} {ret : Option FieldType} {ws : List Cond} {rm : Room} {Pc : Array Value → State → Prop} {Qc : Array Value → State → Outcome → State → Prop} {XC : String → State → State → Prop} {free : Addr → Prop} {Ts : List Cond} {own C : String} {b : Addr} {As rest : List Value} {g : JFrame}
theorem vx_callBack (cb : CallB R s args own index y bytes maxL ret ws rm mc ms n) (hM : vx_Met l y ws rm Pc Qc XC mc ms free) (hbl : FrameBlind Pc) : vx_Back l R p e below s args y 3 8 (PreOf R mc ms Pc) (PostOf Qc mc ms free) (vx_Post XC mc ms free) := by
  obtain ⟨hrc, hrs, hfr, hlo, hws, hcw, -, hini, -⟩ := cb
  exact vx_back (bytes := bytes) (maxL := maxL) (ret := ret) hM hbl hrc hrs hfr hlo hws hcw (fun a' U hW => word_at hW (Or.inl (by first | rfl | simp [Cond.onTables, Cond.keeps, Cond.steady])) hini)
theorem vx_runV (S : CallFix p m c cc nL s args Ts own) (hM : vx_Met l y ws rm Pc Qc XC mc ms free) (cw : CallW R s args own C index y bytes maxL ret ws rm mc ms n) (hp : PreV s H C b Pc As)
    (hg : g.method = m) (hn : As.length = n) (hsize : g.locals.size = nL) (hstack : g.stack = As.reverse ++ .ref b :: rest) (hW : 2 * g.monitorRoom + (rest.map fun v => v.category).sum ≤ 8) (hdg : decode cc g.pc = .ok (.invokevirtual index, 3)) (hf : cells + mc ≤ R.cells ∧ slots + ms ≤ R.slots) :
    vx_Run p l e R s m args below meth c H locs cells slots mc ms g rest (Qc (Value.ref b :: As).toArray) XC free := by
  have hK : vx_Back l R p e below s args y 3 8 (PreOf R mc ms Pc) (PostOf Qc mc ms free) (vx_Post XC mc ms free) := vx_callBack cw.1 hM hp.1
  obtain ⟨⟨-, -, -, -, -, -, hcode, -, hy, hlen, hl⟩, hin, hse⟩ := cw
  obtain ⟨hx, hb, hml, ho, -⟩ := S
  obtain ⟨-, ⟨cellB, hcB, hoB, hclB⟩, hPc⟩ := hp
  intro T hT X
  rcases vx_callV X hx (C := C) (bytes := bytes) (maxL := maxL) (ret := ret) ho hl hin hse hcode hy hK (by rw [hT]; exact hcB) hoB hclB hg (hsize.trans hml.symm) (argsL := As) (rest := rest) (fun sig h => hn.trans (hlen sig h)) hstack hW (by rw [hb]; exact hdg)
    (fun vm₁ hW₁ => ⟨hf.1, hf.2, hPc (T.setVm vm₁) hT hW₁⟩) with ⟨v, vm₁, ⟨U', l2, c2, s2⟩, hW₁, X', ⟨g', mk, t, L, e1, e2, hq, h1, hL, h2, h3⟩, st⟩ | ⟨q, vm₁, ⟨U', l2, c2, s2⟩, hW₁, X', ⟨g', mk, t, L, E, ce, e1, e2, hq, hce, hcv, hcl, h1, hL, h2, h3⟩, st⟩
  · dsimp only [Pt.U, Pt.locs, Pt.cells, Pt.slots] at X' e1 e2 h1 h2 h3 st
    subst h1; subst h2; subst h3
    exact Or.inl ⟨v, (T.setVm vm₁).calling g' mk (Value.ref b :: As).toArray, t, U', L, hT, X', hL, e1, e2, hq, st⟩
  · dsimp only [Pt.U, Pt.locs, Pt.cells, Pt.slots] at X' e1 e2 h1 h2 h3 st hcl
    subst h1; subst h2; subst h3
    exact Or.inr ⟨q, (T.setVm vm₁).calling g' mk (Value.ref b :: As).toArray, t, U', L, E, ce, hT, X', hL, e1, e2, hq, hce, hcv, vx_cls hW₁ hcl, st⟩
theorem vx_runS (S : CallFix p m c cc nL s args Ts own) (hM : vx_Met l y ws rm Pc Qc XC mc ms free) (cw : CallB R s args own index y bytes maxL ret ws rm mc ms n ∧ (Cond.static y).before args s = true) (hp : PreS s H Pc As)
    (hg : g.method = m) (hn : As.length = n) (hsize : g.locals.size = nL) (hstack : g.stack = As.reverse ++ rest) (hW : 2 * g.monitorRoom + (rest.map fun v => v.category).sum ≤ 8) (hdg : decode cc g.pc = .ok (.invokestatic index, 3)) (hf : cells + mc ≤ R.cells ∧ slots + ms ≤ R.slots) :
    vx_Run p l e R s m args below meth c H locs cells slots mc ms g rest (Qc As.toArray) XC free := by
  have hK : vx_Back l R p e below s args y 3 8 (PreOf R mc ms Pc) (PostOf Qc mc ms free) (vx_Post XC mc ms free) := vx_callBack cw.1 hM hp.1
  obtain ⟨⟨-, -, -, -, -, -, hcode, hini, hy, hlen, hl⟩, hstt⟩ := cw
  obtain ⟨hx, hb, hml, ho, -⟩ := S
  intro T hT X
  rcases vx_callS X hx (bytes := bytes) (maxL := maxL) (ret := ret) ho hl hstt hini hcode hy hK hg (hsize.trans hml.symm) (argsL := As) (rest := rest) (fun sig h => hn.trans (hlen sig h)) hstack hW (by rw [hb]; exact hdg)
    (fun vm₁ hW₁ => ⟨hf.1, hf.2, hp.2 (T.setVm vm₁) hT hW₁⟩) with ⟨v, vm₁, ⟨U', l2, c2, s2⟩, hW₁, X', ⟨g', mk, t, L, e1, e2, hq, h1, hL, h2, h3⟩, st⟩ | ⟨q, vm₁, ⟨U', l2, c2, s2⟩, hW₁, X', ⟨g', mk, t, L, E, ce, e1, e2, hq, hce, hcv, hcl, h1, hL, h2, h3⟩, st⟩
  · dsimp only [Pt.U, Pt.locs, Pt.cells, Pt.slots] at X' e1 e2 h1 h2 h3 st
    subst h1; subst h2; subst h3
    exact Or.inl ⟨v, (T.setVm vm₁).calling g' mk As.toArray, t, U', L, hT, X', hL, e1, e2, hq, st⟩
  · dsimp only [Pt.U, Pt.locs, Pt.cells, Pt.slots] at X' e1 e2 h1 h2 h3 st hcl
    subst h1; subst h2; subst h3
    exact Or.inr ⟨q, (T.setVm vm₁).calling g' mk As.toArray, t, U', L, E, ce, hT, X', hL, e1, e2, hq, hce, hcv, vx_cls hW₁ hcl, st⟩
end Runs
section Rows
variable {p : Program} {l : Launch} {e : Env} {R : Room} {s : State} {m : MethodId} {args : Array Value} {below : List Frame} {meth : Method} {c : Code} {H : Heap} {locs : List Loc} {cells slots : Nat} {Q : State → Prop}
variable {mc ms : Nat} {free : Addr → Prop} {A0 A1 : Nat → Prop} {H0 : Heap} {a : Array Value} {pc : Nat} {ls : Array Slot} {st0 rest : List Value}
theorem vx_keep {st₀ t T' : State} {L : List Loc} (h0 : st₀.heap = H) (e1 : T'.heap = t.heap) (hS : va_S A0 H0 H locs) (hA : ∀ q, q < H.size → A1 q → A0 q) (hf : ∀ q, free q → A0 q) (hL : ∀ q ∈ L, free q.base) (hF : va_F A1 st₀ t) :
    H.size ≤ T'.heap.size ∧ (∀ q : Nat, q < H.size → ¬ A1 q → T'.heap[q]? = H[q]?) ∧ va_S A0 H0 T'.heap (locs ++ L) := by
  obtain ⟨hz, hk⟩ := hF
  rw [h0] at hz hk
  exact ⟨by rw [e1]; exact hz, fun q h1 h2 => by rw [e1]; exact hk q h1 h2,
    ⟨Nat.le_trans hS.1 (by rw [e1]; exact hz), fun q h1 h2 => by rw [e1, hk q (Nat.lt_of_lt_of_le h1 hS.1) (fun z => h2 (hA q (Nat.lt_of_lt_of_le h1 hS.1) z))]; exact hS.2.1 q h1 h2, fun q hq => by
      rcases List.mem_append.mp hq with h | h
      · exact hS.2.2 q h
      · exact hf _ (hL q h)⟩⟩
theorem vx_calli {S SX : Type} {post : Int32 → S → Prop} {px : SX → Prop} {B : S → State → Prop} {BX : String → SX → State → Prop} {AX : Nat → Prop} (hr : vx_Run p l e R s m args below meth c H locs cells slots mc ms (F0 m pc ls st0) rest (va_Qi post B A1 a) (vx_X px BX AX) free) (hS : va_S A0 H0 H locs) (hA : ∀ q, q < H.size → A1 q → A0 q) (hf : ∀ q, free q → A0 q) (hAX : ∀ q, q < H.size → AX q → A0 q)
    (kx : ∀ (E : String) (ce : Cell) (q9 : Addr) (u : SX) (t : State) (H1 : Heap) (locs1 : List Loc), t.heap = H1 → s.vm.Alike t.vm → px u → BX E u t → H.size ≤ H1.size → (∀ q : Nat, q < H.size → ¬ AX q → H1[q]? = H[q]?) → va_S A0 H0 H1 locs1 → H1[q9]? = some ce → ce.vm = .none → s.vm.findClass E = some ce.cls → vx_W p l e R s m args below meth c H1 locs1 (cells + mc) (slots + ms) Q (F0 m pc ls rest) q9)
    (kk : ∀ (r : Int32) (u : S) (t : State) (H1 : Heap) (locs1 : List Loc), t.heap = H1 → s.vm.Alike t.vm → post r u → B u t → H.size ≤ H1.size → (∀ q : Nat, q < H.size → ¬ A1 q → H1[q]? = H[q]?) → va_S A0 H0 H1 locs1 → W p l e R s m args below meth c H1 locs1 (cells + mc) (slots + ms) Q (F0 m (pc + 3) ls (.int r :: rest))) : W p l e R s m args below meth c H locs cells slots Q (F0 m pc ls st0) := by
  intro T hT X
  rcases hr T hT X with ⟨v, st₀, t, T', L, h0, X', hL, e1, e2, ⟨⟨r, u, hv, hp, hb⟩, hF⟩, st⟩ | ⟨q, st₀, t, T', L, E, ce, h0, X', hL, e1, e2, ⟨u, hp, hb, hF⟩, hce, hcv, hcl, st⟩
  · cases hv
    obtain ⟨k1, k2, k3⟩ := vx_keep h0 e1 hS hA hf hL hF
    obtain ⟨t2, a1, b1⟩ := kk r u t T'.heap (locs ++ L) e1.symm (by rw [← e2]; exact X'.warmed.alike) hp hb k1 k2 k3 T' rfl X'
    exact ⟨t2, st t2 a1, b1⟩
  · obtain ⟨k1, k2, k3⟩ := vx_keep h0 e1 hS hAX hf hL hF
    obtain ⟨t2, a1, b1⟩ := kx E ce q u t T'.heap (locs ++ L) e1.symm (by rw [← e2]; exact X'.warmed.alike) hp hb k1 k2 k3 (by rw [e1]; exact hce) hcv hcl T' rfl X'
    exact ⟨t2, st.trans a1, b1⟩
theorem vx_calll {S SX : Type} {post : Int64 → S → Prop} {px : SX → Prop} {B : S → State → Prop} {BX : String → SX → State → Prop} {AX : Nat → Prop} (hr : vx_Run p l e R s m args below meth c H locs cells slots mc ms (F0 m pc ls st0) rest (va_Ql post B A1 a) (vx_X px BX AX) free) (hS : va_S A0 H0 H locs) (hA : ∀ q, q < H.size → A1 q → A0 q) (hf : ∀ q, free q → A0 q) (hAX : ∀ q, q < H.size → AX q → A0 q)
    (kx : ∀ (E : String) (ce : Cell) (q9 : Addr) (u : SX) (t : State) (H1 : Heap) (locs1 : List Loc), t.heap = H1 → s.vm.Alike t.vm → px u → BX E u t → H.size ≤ H1.size → (∀ q : Nat, q < H.size → ¬ AX q → H1[q]? = H[q]?) → va_S A0 H0 H1 locs1 → H1[q9]? = some ce → ce.vm = .none → s.vm.findClass E = some ce.cls → vx_W p l e R s m args below meth c H1 locs1 (cells + mc) (slots + ms) Q (F0 m pc ls rest) q9)
    (kk : ∀ (r : Int64) (u : S) (t : State) (H1 : Heap) (locs1 : List Loc), t.heap = H1 → s.vm.Alike t.vm → post r u → B u t → H.size ≤ H1.size → (∀ q : Nat, q < H.size → ¬ A1 q → H1[q]? = H[q]?) → va_S A0 H0 H1 locs1 → W p l e R s m args below meth c H1 locs1 (cells + mc) (slots + ms) Q (F0 m (pc + 3) ls (.long r :: rest))) : W p l e R s m args below meth c H locs cells slots Q (F0 m pc ls st0) := by
  intro T hT X
  rcases hr T hT X with ⟨v, st₀, t, T', L, h0, X', hL, e1, e2, ⟨⟨r, u, hv, hp, hb⟩, hF⟩, st⟩ | ⟨q, st₀, t, T', L, E, ce, h0, X', hL, e1, e2, ⟨u, hp, hb, hF⟩, hce, hcv, hcl, st⟩
  · cases hv
    obtain ⟨k1, k2, k3⟩ := vx_keep h0 e1 hS hA hf hL hF
    obtain ⟨t2, a1, b1⟩ := kk r u t T'.heap (locs ++ L) e1.symm (by rw [← e2]; exact X'.warmed.alike) hp hb k1 k2 k3 T' rfl X'
    exact ⟨t2, st t2 a1, b1⟩
  · obtain ⟨k1, k2, k3⟩ := vx_keep h0 e1 hS hAX hf hL hF
    obtain ⟨t2, a1, b1⟩ := kx E ce q u t T'.heap (locs ++ L) e1.symm (by rw [← e2]; exact X'.warmed.alike) hp hb k1 k2 k3 (by rw [e1]; exact hce) hcv hcl T' rfl X'
    exact ⟨t2, st.trans a1, b1⟩
theorem vx_callf {S SX : Type} {post : UInt32 → S → Prop} {px : SX → Prop} {B : S → State → Prop} {BX : String → SX → State → Prop} {AX : Nat → Prop} (hr : vx_Run p l e R s m args below meth c H locs cells slots mc ms (F0 m pc ls st0) rest (va_Qf post B A1 a) (vx_X px BX AX) free) (hS : va_S A0 H0 H locs) (hA : ∀ q, q < H.size → A1 q → A0 q) (hf : ∀ q, free q → A0 q) (hAX : ∀ q, q < H.size → AX q → A0 q)
    (kx : ∀ (E : String) (ce : Cell) (q9 : Addr) (u : SX) (t : State) (H1 : Heap) (locs1 : List Loc), t.heap = H1 → s.vm.Alike t.vm → px u → BX E u t → H.size ≤ H1.size → (∀ q : Nat, q < H.size → ¬ AX q → H1[q]? = H[q]?) → va_S A0 H0 H1 locs1 → H1[q9]? = some ce → ce.vm = .none → s.vm.findClass E = some ce.cls → vx_W p l e R s m args below meth c H1 locs1 (cells + mc) (slots + ms) Q (F0 m pc ls rest) q9)
    (kk : ∀ (r : UInt32) (u : S) (t : State) (H1 : Heap) (locs1 : List Loc), t.heap = H1 → s.vm.Alike t.vm → post r u → B u t → H.size ≤ H1.size → (∀ q : Nat, q < H.size → ¬ A1 q → H1[q]? = H[q]?) → va_S A0 H0 H1 locs1 → W p l e R s m args below meth c H1 locs1 (cells + mc) (slots + ms) Q (F0 m (pc + 3) ls (.float r :: rest))) : W p l e R s m args below meth c H locs cells slots Q (F0 m pc ls st0) := by
  intro T hT X
  rcases hr T hT X with ⟨v, st₀, t, T', L, h0, X', hL, e1, e2, ⟨⟨r, u, hv, hp, hb⟩, hF⟩, st⟩ | ⟨q, st₀, t, T', L, E, ce, h0, X', hL, e1, e2, ⟨u, hp, hb, hF⟩, hce, hcv, hcl, st⟩
  · cases hv
    obtain ⟨k1, k2, k3⟩ := vx_keep h0 e1 hS hA hf hL hF
    obtain ⟨t2, a1, b1⟩ := kk r u t T'.heap (locs ++ L) e1.symm (by rw [← e2]; exact X'.warmed.alike) hp hb k1 k2 k3 T' rfl X'
    exact ⟨t2, st t2 a1, b1⟩
  · obtain ⟨k1, k2, k3⟩ := vx_keep h0 e1 hS hAX hf hL hF
    obtain ⟨t2, a1, b1⟩ := kx E ce q u t T'.heap (locs ++ L) e1.symm (by rw [← e2]; exact X'.warmed.alike) hp hb k1 k2 k3 (by rw [e1]; exact hce) hcv hcl T' rfl X'
    exact ⟨t2, st.trans a1, b1⟩
theorem vx_calld {S SX : Type} {post : UInt64 → S → Prop} {px : SX → Prop} {B : S → State → Prop} {BX : String → SX → State → Prop} {AX : Nat → Prop} (hr : vx_Run p l e R s m args below meth c H locs cells slots mc ms (F0 m pc ls st0) rest (va_Qd post B A1 a) (vx_X px BX AX) free) (hS : va_S A0 H0 H locs) (hA : ∀ q, q < H.size → A1 q → A0 q) (hf : ∀ q, free q → A0 q) (hAX : ∀ q, q < H.size → AX q → A0 q)
    (kx : ∀ (E : String) (ce : Cell) (q9 : Addr) (u : SX) (t : State) (H1 : Heap) (locs1 : List Loc), t.heap = H1 → s.vm.Alike t.vm → px u → BX E u t → H.size ≤ H1.size → (∀ q : Nat, q < H.size → ¬ AX q → H1[q]? = H[q]?) → va_S A0 H0 H1 locs1 → H1[q9]? = some ce → ce.vm = .none → s.vm.findClass E = some ce.cls → vx_W p l e R s m args below meth c H1 locs1 (cells + mc) (slots + ms) Q (F0 m pc ls rest) q9)
    (kk : ∀ (r : UInt64) (u : S) (t : State) (H1 : Heap) (locs1 : List Loc), t.heap = H1 → s.vm.Alike t.vm → post r u → B u t → H.size ≤ H1.size → (∀ q : Nat, q < H.size → ¬ A1 q → H1[q]? = H[q]?) → va_S A0 H0 H1 locs1 → W p l e R s m args below meth c H1 locs1 (cells + mc) (slots + ms) Q (F0 m (pc + 3) ls (.double r :: rest))) : W p l e R s m args below meth c H locs cells slots Q (F0 m pc ls st0) := by
  intro T hT X
  rcases hr T hT X with ⟨v, st₀, t, T', L, h0, X', hL, e1, e2, ⟨⟨r, u, hv, hp, hb⟩, hF⟩, st⟩ | ⟨q, st₀, t, T', L, E, ce, h0, X', hL, e1, e2, ⟨u, hp, hb, hF⟩, hce, hcv, hcl, st⟩
  · cases hv
    obtain ⟨k1, k2, k3⟩ := vx_keep h0 e1 hS hA hf hL hF
    obtain ⟨t2, a1, b1⟩ := kk r u t T'.heap (locs ++ L) e1.symm (by rw [← e2]; exact X'.warmed.alike) hp hb k1 k2 k3 T' rfl X'
    exact ⟨t2, st t2 a1, b1⟩
  · obtain ⟨k1, k2, k3⟩ := vx_keep h0 e1 hS hAX hf hL hF
    obtain ⟨t2, a1, b1⟩ := kx E ce q u t T'.heap (locs ++ L) e1.symm (by rw [← e2]; exact X'.warmed.alike) hp hb k1 k2 k3 (by rw [e1]; exact hce) hcv hcl T' rfl X'
    exact ⟨t2, st.trans a1, b1⟩
theorem vx_callv {S SX : Type} {post : S → Prop} {px : SX → Prop} {B : S → State → Prop} {BX : String → SX → State → Prop} {AX : Nat → Prop} (hr : vx_Run p l e R s m args below meth c H locs cells slots mc ms (F0 m pc ls st0) rest (va_Qv post B A1 a) (vx_X px BX AX) free) (hS : va_S A0 H0 H locs) (hA : ∀ q, q < H.size → A1 q → A0 q) (hf : ∀ q, free q → A0 q) (hAX : ∀ q, q < H.size → AX q → A0 q)
    (kx : ∀ (E : String) (ce : Cell) (q9 : Addr) (u : SX) (t : State) (H1 : Heap) (locs1 : List Loc), t.heap = H1 → s.vm.Alike t.vm → px u → BX E u t → H.size ≤ H1.size → (∀ q : Nat, q < H.size → ¬ AX q → H1[q]? = H[q]?) → va_S A0 H0 H1 locs1 → H1[q9]? = some ce → ce.vm = .none → s.vm.findClass E = some ce.cls → vx_W p l e R s m args below meth c H1 locs1 (cells + mc) (slots + ms) Q (F0 m pc ls rest) q9)
    (kk : ∀ (u : S) (t : State) (H1 : Heap) (locs1 : List Loc), t.heap = H1 → s.vm.Alike t.vm → post u → B u t → H.size ≤ H1.size → (∀ q : Nat, q < H.size → ¬ A1 q → H1[q]? = H[q]?) → va_S A0 H0 H1 locs1 → W p l e R s m args below meth c H1 locs1 (cells + mc) (slots + ms) Q (F0 m (pc + 3) ls (rest))) : W p l e R s m args below meth c H locs cells slots Q (F0 m pc ls st0) := by
  intro T hT X
  rcases hr T hT X with ⟨v, st₀, t, T', L, h0, X', hL, e1, e2, ⟨⟨u, hv, hp, hb⟩, hF⟩, st⟩ | ⟨q, st₀, t, T', L, E, ce, h0, X', hL, e1, e2, ⟨u, hp, hb, hF⟩, hce, hcv, hcl, st⟩
  · cases hv
    obtain ⟨k1, k2, k3⟩ := vx_keep h0 e1 hS hA hf hL hF
    obtain ⟨t2, a1, b1⟩ := kk u t T'.heap (locs ++ L) e1.symm (by rw [← e2]; exact X'.warmed.alike) hp hb k1 k2 k3 T' rfl X'
    exact ⟨t2, st t2 a1, b1⟩
  · obtain ⟨k1, k2, k3⟩ := vx_keep h0 e1 hS hAX hf hL hF
    obtain ⟨t2, a1, b1⟩ := kx E ce q u t T'.heap (locs ++ L) e1.symm (by rw [← e2]; exact X'.warmed.alike) hp hb k1 k2 k3 (by rw [e1]; exact hce) hcv hcl T' rfl X'
    exact ⟨t2, st.trans a1, b1⟩
/-- caught by the row x of this method's table; the rows ahead don't take it -/
theorem vx_catch {own name : String} {E : String} {ce : Cell} {q : Addr} (hown : s.vm.findClass own = some m.cls) (pre : List ExceptionTableEntry) (x : ExceptionTableEntry) (suf : List ExceptionTableEntry) (hsplit : c.exceptionTable.toList = pre ++ x :: suf)
    (hpass : ∀ z ∈ pre, covers z pc = false ∨ (z.catchType ≠ 0 ∧ ∃ nm : String, (Cond.classLink own z.catchType nm).before args s = true ∧ va_Nc E nm s)) (hx : covers x pc = true) (h0 : x.catchType ≠ 0)
    (hlink : (Cond.classLink own x.catchType name).before args s = true) (hcast : (Cond.castable E name).before args s = true) (hcell : H[q]? = some ce) (hv : ce.vm = .none) (hcl : s.vm.findClass E = some ce.cls)
    (kk : W p l e R s m args below meth c H locs cells slots Q (F0 m x.handlerPc ls [.ref q])) : vx_W p l e R s m args below meth c H locs cells slots Q (F0 m pc ls rest) q := by
  intro T hT X
  have hpl : e.platform.magicAccessors = ({} : Platform).magicAccessors := by rw [X.admits.platform]
  obtain ⟨c3, c4, hc3, hc4, hasg⟩ := Cond.castable_spec hcast
  cases Option.some.inj (hc3.symm.trans hcl)
  obtain ⟨c5, hc5, hcl5⟩ := Cond.classLink_spec hown hlink e.platform hpl
  cases Option.some.inj (hc4.symm.trans hc5)
  obtain ⟨vm', X', st⟩ := X.thenCaughtThrough q (g := F0 m pc ls rest) rfl (Steps.refl _) (by rw [hT]; exact hcell) (by rw [hv]; rfl) (by obtain ⟨k9, h9, -⟩ := Vm.findClass_spec hcl; exact ⟨k9, h9⟩) pre x suf hsplit
    (fun z hz => by
      rcases hpass z hz with h | ⟨hz0, nm, hl1, hn1⟩
      · exact Or.inl h
      · obtain ⟨c6, hc6, hcl6⟩ := Cond.classLink_spec hown hl1 e.platform hpl
        obtain ⟨a8, b8, h1, h2, h3⟩ := hn1
        cases Option.some.inj (h1.symm.trans hcl)
        cases Option.some.inj (h2.symm.trans hc6)
        exact Or.inr ⟨hz0, _, hcl6, h3⟩) hx (Or.inr ⟨h0, c4, hcl5, hasg⟩)
  obtain ⟨t, a1, b1⟩ := kk (T.setVm vm') hT X'
  exact ⟨t, st.trans a1, b1⟩
end Rows
section Ends
variable {p : Program} {l : Launch} {e : Env} {R : Room} {s : State} {m : MethodId} {args : Array Value} {below : List Frame} {meth : Method} {c : Code} {H : Heap} {locs : List Loc} {cells slots : Nat} {Q : State → Prop}
variable {mc ms : Nat} {free : Addr → Prop} {A0 A1 : Nat → Prop} {H0 : Heap} {a : Array Value} {ls : Array Slot} {st0 rest : List Value}
variable {Qc : Array Value → State → Outcome → State → Prop} {XC : String → State → State → Prop}
/-- what a body that may throw owes at its end -/
def vx_MQ (below : List Frame) (Qc : Array Value → State → Outcome → State → Prop) (XC : String → State → State → Prop) (a : Array Value) (s : State) (mc ms : Nat) (free : Addr → Prop) : State → Prop := fun t =>
  ∃ o, t.status = .running ∧ Ended t below o ∧ vx_Q Qc XC mc ms free a s o t
theorem vx_ret {g : JFrame} {mc ms : Nat} (k : W p l e R s m args below meth c H locs cells slots (MQ below Qc args s mc ms free) g) : W p l e R s m args below meth c H locs cells slots (vx_MQ below Qc XC args s mc ms free) g := by
  intro T hT X
  obtain ⟨t, a1, o, b1, b2, b3, b4⟩ := k T hT X
  exact ⟨t, a1, o, b1, b2, Or.inl ⟨b3, b4⟩⟩
/-- not caught here: it goes on to the caller -/
theorem vx_widen {g : JFrame} {q : Addr} {k n : Nat} (h1 : cells ≤ k) (h2 : slots ≤ n) (kk : vx_W p l e R s m args below meth c H locs k n Q g q) : vx_W p l e R s m args below meth c H locs cells slots Q g q := fun T hT X => kk T hT (stand_widen X h1 h2)
theorem vx_out {pc : Nat} {E : String} {ce : Cell} {q : Addr} {mc ms : Nat} (hout : ∀ x ∈ c.exceptionTable.toList, covers x pc = false) (hlocks : meth.locks = false) (hcell : H[q]? = some ce) (hv : ce.vm = .none) (hcl : s.vm.findClass E = some ce.cls)
    (hx : ∀ t : State, t.heap = H → s.vm.Alike t.vm → XC E s t) (hf : ∀ z ∈ locs, free z.base) (hc : cells ≤ mc) (hs : slots ≤ ms) :
    vx_W p l e R s m args below meth c H locs cells slots (vx_MQ below Qc XC args s mc ms free) (F0 m pc ls rest) q := by
  intro T hT X
  obtain ⟨st1, hrun, hend, hW, hsm⟩ := X.leaveThrown q (g := F0 m pc ls rest) rfl rfl rfl hout hlocks
  have hcell9 : (T.setFrames (.throwing q :: below)).heap[q]? = some ce := by
    show T.heap[q]? = some ce
    rw [hT]; exact hcell
  exact ⟨_, st1, .threw q, hrun, hend, Or.inr ⟨q, rfl, E, ce, locs, hx _ hT hW.alike, hcell9, hv, hcl, hW, hsm.mono hc hs, hf⟩⟩
theorem vx_frame {U : State} {k n : Nat} (h : s.sameButNew ({ U with vm := s.vm } : State) locs k n) : s.heap.size ≤ U.heap.size ∧ ∀ q : Nat, q < s.heap.size → (∀ z ∈ locs, z.base ≠ q) → U.heap[q]? = s.heap[q]? := by
  obtain ⟨-, h2, -, -, -, h6⟩ := h
  refine ⟨h2, fun q hq hz => ?_⟩
  obtain ⟨c9, e1, e2, e3, e4⟩ := h6 q _ (Array.getElem?_eq_getElem hq)
  have hs : c9.slots = (s.heap[q]).slots := Array.ext_getElem? fun i => e4 i fun hm => hz _ hm rfl
  have h9 : c9 = s.heap[q] := by
    rw [hs] at e2
    exact e2
  have e5 : U.heap[q]? = some c9 := e1
  rw [e5, h9, Array.getElem?_eq_getElem hq]
/-- the words of a throw but the four that speak of the heap -/
def vx_no (w : Cond) : Bool := decide (w ≠ .isRef (.static Bundle.tN "UNASSIGNED_STACK" Bundle.steD)) && decide (w ≠ .isRef (.static Bundle.tN "SUPPRESSED_SENTINEL" Bundle.listD)) && decide (w ≠ .laysStatic Bundle.tN "UNASSIGNED_STACK" Bundle.steD) && decide (w ≠ .laysStatic Bundle.tN "SUPPRESSED_SENTINEL" Bundle.listD)
def vx_at0 (own : String) (ic : Nat) (X : String) (names : List String) : List Cond := (Bundle.ownAtoms0 own ic X names).filter vx_no
def vx_atS (own : String) (ic : Nat) (X : String) (names : List String) : List Cond := (Bundle.ownAtoms own ic X names).filter vx_no
/-- a word that the tables alone decide, or a good one -/
def vx_ot (w : Cond) : Bool := w.onTables || goodWord w
theorem vx_ot_at {args a' : Array Value} {s U : State} {w : Cond} (hW : s.WarmedH U.vm) (hvm : s.vm = U.vm) (hg : vx_ot w = true) (h : w.before args s = true) : w.before a' U = true := by
  simp only [vx_ot, Bool.or_eq_true] at hg
  rcases hg with hg | hg
  · exact va_tabs hg hvm h
  · exact word_at hW (good_of_word hg) h
/-- a list's words: the good ones out of the method's own list, the others by premises of their own -/
theorem vx_hat {args : Array Value} {s : State} {L B : List Cond} (h1 : ∀ w ∈ L.filter goodWord, w.before args s = true) (h2 : ∀ w ∈ L.filter (fun w => !goodWord w), w ∈ B) (h3 : ∀ w ∈ B, w.before args s = true) : ∀ w ∈ L, w.before args s = true := by
  intro w hw
  by_cases g : goodWord w = true
  · exact h1 w (List.mem_filter.mpr ⟨hw, g⟩)
  · refine h3 w (h2 w (List.mem_filter.mpr ⟨hw, ?_⟩))
    show (!goodWord w) = true
    cases hgw : goodWord w
    · rfl
    · exact absurd hgw g
theorem vx_c {args : Array Value} {s : State} {w : Cond} {B : List Cond} (h : w.before args s = true) (t : ∀ w ∈ B, w.before args s = true) : ∀ w' ∈ w :: B, w'.before args s = true := fun w' h' => (List.mem_cons.mp h').elim (fun e => by rw [e]; exact h) (t w')
theorem vx_n {args : Array Value} {s : State} : ∀ w ∈ ([] : List Cond), w.before args s = true := fun _ h => nomatch h
theorem vx_own {args : Array Value} {s : State} {L : List Cond} (h1 : ∀ w ∈ L.filter vx_no, w.before args s = true)
    (hU : (Cond.isRef (.static Bundle.tN "UNASSIGNED_STACK" Bundle.steD)).before args s = true) (hN : (Cond.isRef (.static Bundle.tN "SUPPRESSED_SENTINEL" Bundle.listD)).before args s = true)
    (lU : (Cond.laysStatic Bundle.tN "UNASSIGNED_STACK" Bundle.steD).before args s = true) (lN : (Cond.laysStatic Bundle.tN "SUPPRESSED_SENTINEL" Bundle.listD).before args s = true) : ∀ w ∈ L, w.before args s = true := by
  intro w hw
  by_cases e1 : w = .isRef (.static Bundle.tN "UNASSIGNED_STACK" Bundle.steD)
  · rw [e1]; exact hU
  · by_cases e2 : w = .isRef (.static Bundle.tN "SUPPRESSED_SENTINEL" Bundle.listD)
    · rw [e2]; exact hN
    · by_cases e3 : w = .laysStatic Bundle.tN "UNASSIGNED_STACK" Bundle.steD
      · rw [e3]; exact lU
      · by_cases e4 : w = .laysStatic Bundle.tN "SUPPRESSED_SENTINEL" Bundle.listD
        · rw [e4]; exact lN
        · exact h1 w (List.mem_filter.mpr ⟨hw, by unfold vx_no; rw [decide_eq_true e1, decide_eq_true e2, decide_eq_true e3, decide_eq_true e4]; rfl⟩)
/-- where a static field lies, its class's statics cell in H -/
def vx_L (C n d : String) (A : Nat → Prop) (U : State) (H : Heap) : Prop := ∃ (c : ClassId) (k : Class) (i : Nat) (f : Field) (a : Nat) (cell : Cell), U.vm.findClass C = some c ∧ U.fieldFound? C n d = some (c, k, i, f) ∧ f.isStatic = true ∧ k.statics = some a ∧ H[a]? = some cell ∧ cell.vm.isStatics = true ∧ cell.cls = c ∧ f.slot < cell.slots.size ∧ k.staticTypes[f.slot]? = some f.type ∧ ¬ A a
theorem vx_L.moved {C n d : String} {A : Nat → Prop} {u U : State} {H : Heap} (hvm : u.vm.Alike U.vm) (h : vx_L C n d A u H) : vx_L C n d A U H := by
  obtain ⟨c, k, i, f, a, cell, h1, h2, h3, h4, h5, h6, h7, h8, h9, h10⟩ := h
  obtain ⟨k', hi', he⟩ := State.fieldFound?_setVm hvm h2
  exact ⟨c, k', i, f, a, cell, by rw [hvm.findClass]; exact h1, hi', h3, by rw [he]; exact h4, h5, h6, h7, h8, by rw [he]; exact h9, h10⟩
theorem vx_L.kept {C n d : String} {A : Nat → Prop} {U : State} {H H1 : Heap} (h : vx_L C n d A U H) (hq : ∀ a : Nat, a < H.size → ¬ A a → H1[a]? = H[a]?) : vx_L C n d A U H1 := by
  obtain ⟨c, k, i, f, a, cell, h1, h2, h3, h4, h5, h6, h7, h8, h9, h10⟩ := h
  exact ⟨c, k, i, f, a, cell, h1, h2, h3, h4, by rw [hq a (Array.getElem?_eq_some_iff.mp h5).1 h10]; exact h5, h6, h7, h8, h9, h10⟩
theorem vx_L.narrow {C n d : String} {A B : Nat → Prop} {U : State} {H : Heap} (h : vx_L C n d A U H) (hAB : ∀ q, B q → A q) : vx_L C n d B U H := by
  obtain ⟨c, k, i, f, a, cell, h1, h2, h3, h4, h5, h6, h7, h8, h9, h10⟩ := h
  exact ⟨c, k, i, f, a, cell, h1, h2, h3, h4, h5, h6, h7, h8, h9, fun z => h10 (hAB _ z)⟩
theorem vx_L.word {C n d : String} {A : Nat → Prop} {s : State} {args : Array Value} (h : vx_L C n d A s s.heap) : (Cond.laysStatic C n d).before args s = true := by
  obtain ⟨c, k, i, f, a, cell, h1, h2, h3, h4, h5, h6, h7, h8, h9, -⟩ := h
  show (Cond.laysStatic C n d).holds args s none s [] = true
  exact Cond.laysStatic_of h1 h2 h3 h4 h5 h6 h7 h8 h9
/-- .. and what it holds: null or some reference -/
def vx_Zq (C n d : String) (A : Nat → Prop) (U : State) (H : Heap) : Prop := va_Zq C n d A U H ∧ vx_L C n d A U H
theorem vx_Zq.moved {C n d : String} {A : Nat → Prop} {u U : State} {H : Heap} (hvm : u.vm.Alike U.vm) (h : vx_Zq C n d A u H) : vx_Zq C n d A U H := ⟨va_Zq.moved hvm h.1, vx_L.moved hvm h.2⟩
theorem vx_Zq.kept {C n d : String} {A : Nat → Prop} {U : State} {H H1 : Heap} (h : vx_Zq C n d A U H) (hq : ∀ a : Nat, a < H.size → ¬ A a → H1[a]? = H[a]?) : vx_Zq C n d A U H1 := ⟨va_Zq.kept h.1 hq, vx_L.kept h.2 hq⟩
theorem vx_Zq.narrow {C n d : String} {A B : Nat → Prop} {U : State} {H : Heap} (h : vx_Zq C n d A U H) (hAB : ∀ q, B q → A q) : vx_Zq C n d B U H := ⟨va_Zq.narrow h.1 hAB, vx_L.narrow h.2 hAB⟩
theorem vx_Zqof {args : Array Value} {s : State} {C n d : String} {A : Nat → Prop} (hl : (Cond.laysStatic C n d).before args s = true) (hini : (Cond.initialized C).before args s = true) (h : (Cond.isRef (.static C n d)).before args s = true) (hA : ∀ a : Nat, a < s.heap.size → ¬ A a) : vx_Zq C n d A s s.heap := by
  refine ⟨va_Zqof hl hini h hA, ?_⟩
  obtain ⟨c, k, i, f, a, cell, h1, h2, h3, h4, h5, h6, h7, h8, h9⟩ := Cond.laysStatic_spec hl
  exact ⟨c, k, i, f, a, cell, h1, h2, h3, h4, h5, h6, h7, h8, h9, hA a (Array.getElem?_eq_some_iff.mp h5).1⟩
theorem vx_isRef {C n d : String} {v : Value} {A : Nat → Prop} {s : State} {args : Array Value} (h : va_Z C n d v A s s.heap) (hv : v.isRef = true) : (Cond.isRef (.static C n d)).before args s = true := by
  obtain ⟨cf, kf, fi, f, a, cell, h1, h2, h3, h4, h5, h6, h7, -⟩ := h
  have he : (Term.static C n d).eval args s none [] s = some v := by
    simp [Term.eval, State.fieldNamed?, h1, h2, h4, h5, h6, h7]
  simp only [Cond.before, Cond.holds, Cond.value, he]
  cases v <;> simp_all [Value.isRef]
theorem vx_isRefq {C n d : String} {A : Nat → Prop} {s : State} {args : Array Value} (h : va_Zq C n d A s s.heap) : (Cond.isRef (.static C n d)).before args s = true := by
  rcases h with h | ⟨t, h⟩
  · exact vx_isRef h rfl
  · exact vx_isRef h rfl
/-- the same frame, seen from here: as if the method were called anew in this heap -/
theorem vx_rebase {T : State} (X : Stand p l e R s m args below meth c T locs cells slots) {R' : Room} (hf : R'.frames ≤ R.frames) (hl : R'.locals ≤ R.locals) (hc : cells + R'.cells ≤ R.cells) (hs : slots + R'.slots ≤ R.slots) :
    Stand p l e R' ((T.setVm s.vm).setFrames (.invoking m args :: below)) m args below meth c T [] 0 0 := by
  have htop : (T.setVm s.vm).topJava?.isSome := X.here.top
  have hF : ((T.setVm s.vm).setFrames (.invoking m args :: below)).frames = .invoking m args :: below := State.frames_setFrames _ (State.cur_lt_of_top htop)
  obtain ⟨g₀, hg0⟩ := Option.isSome_iff_exists.mp htop
  obtain ⟨r, hr⟩ := State.topJava?_eq_some.mp hg0
  have hl9 : e.platform.stackLimits (T.setVm s.vm).me = e.platform.stackLimits s.me := X.limits
  have hb9 : (T.setVm s.vm).me.stackBytes = s.me.stackBytes := X.bytes
  refine ⟨X.admits, X.cas, X.clock, hF, ?_, X.hears, X.method, X.code, X.here, X.tail, X.warmed, ?_, ?_, ?_⟩
  · have h := X.room
    have hU : ((T.setVm s.vm).setFrames (.invoking m args :: below)).localsInUse = s.localsInUse := by
      rw [State.localsInUse_invoking hF (meth := meth) (c := c) X.method X.code, State.localsInUse_invoking X.frames X.method X.code]
    simp only [State.hasRoom, Bool.and_eq_true, decide_eq_true_eq] at h ⊢
    obtain ⟨⟨⟨⟨h1, h2, h3, h4, h5, h6⟩, h7⟩, h8⟩, h9⟩ := h
    rw [X.frames, List.length_cons] at h2 h3
    have q1 := X.heapSize
    have q2 := X.used
    simp only [hF, hU, List.length_cons, State.stackLimits_setFrames, State.stackBytes_setFrames, hl9, hb9]
    refine ⟨⟨⟨⟨by omega, by omega, by omega, by omega, by omega, h6⟩, ?_⟩, ?_⟩, X.book⟩
    · show T.heap.size + R'.cells ≤ e.platform.maxCells
      omega
    · show T.slotsUsed + R'.slots ≤ e.platform.maxSlots
      omega
  · rw [State.stackLimits_setFrames]; rfl
  · rw [State.stackBytes_setFrames]; rfl
  · refine ⟨?_, Nat.le_refl _, Nat.le_refl _, ?_, ?_, fun a c9 h9 => ⟨c9, h9, rfl, rfl, fun _ _ => rfl⟩⟩
    · obtain ⟨t, ht, -⟩ := State.frames_cons hr
      show T.setVm s.vm = { ((T.setVm s.vm).setFrames (.invoking m args :: below)).setFrames (T.setVm s.vm).frames with heap := T.heap, slotsUsed := T.slotsUsed }
      rw [State.setFrames_setFrames, State.setFrames_self ht]
      rfl
    · show T.slotsUsed = T.slotsUsed + ((T.heap.toList.drop T.heap.size).map (·.slots.size)).sum
      rw [List.drop_eq_nil_of_le (Nat.le_of_eq Array.length_toList)]
      rfl
    · show ((T.heap.toList.drop T.heap.size).map (·.slots.size)).sum ≤ 0
      rw [List.drop_eq_nil_of_le (Nat.le_of_eq Array.length_toList)]
      exact Nat.le_refl _
/-- 'throw new E()': new; dup; invokespecial; athrow -/
theorem vx_throw0 {cc : ByteArray} {pc : Nat} (hexec : p.tables.exec = Jvm.exec) (hb : c.code = cc) (hl : l.stackTraces = false) {own cls : String} {names : List String} {ik ic mc ms : Nat} {A : Nat → Prop}
    (hown : s.vm.findClass own = some m.cls) (hcls : Bundle.fit cls = true) (hnames : ∀ n ∈ names, Bundle.fit n = true)
    (hk : (Cond.classLink own ik cls).before args s = true) (hini : (Cond.initialized cls).before args s = true) (hat : ∀ w ∈ vx_at0 own ic cls names, w.before args s = true)
    (hgood : ∀ w ∈ Cond.classLink own ik cls :: Cond.initialized cls :: vx_at0 own ic cls names, vx_ot w = true)
    (hU : vx_Zq Bundle.tN "UNASSIGNED_STACK" Bundle.steD A s s.heap) (hN : vx_Zq Bundle.tN "SUPPRESSED_SENTINEL" Bundle.listD A s s.heap) (hS : va_S A s.heap H locs) (hsize : ls.size = c.maxLocals)
    (d0 : decode cc pc = .ok (.new ik, 3)) (d3 : decode cc (pc + 3) = .ok (.dup, 1)) (d4 : decode cc (pc + 4) = .ok (.invokespecial ic, 3)) (d7 : decode cc (pc + 7) = .ok (.athrow, 1))
    (hout : ∀ x ∈ c.exceptionTable.toList, covers x (pc + 7) = false)
    (hRframes : names.length + 3 < R.frames) (hRlocals : (rest.map fun v => v.category).sum + (13 * (names.length + 1) + 42) ≤ R.locals) (hRcells : cells + 1 ≤ R.cells) (hRslots : slots + 6 ≤ R.slots) (hlocks : meth.locks = false)
    (hx : ∀ t : State, s.vm.Alike t.vm → H.size ≤ t.heap.size → (∀ q : Nat, q < H.size → t.heap[q]? = H[q]?) → XC cls s t)
    (hf : ∀ z ∈ locs, free z.base) (hc : cells + 1 ≤ mc) (hs : slots + 6 ≤ ms) :
    W p l e R s m args below meth c H locs cells slots (vx_MQ below Qc XC args s mc ms free) (F0 m pc ls rest) := by
  intro T hT X
  have htr : e.platform.stackTraces = false := (show e.platform.stackTraces = l.stackTraces by rw [X.admits.platform]).trans hl
  have Y := vx_rebase X (R' := { frames := R.frames, locals := R.locals, cells := 1, slots := 6 }) (Nat.le_refl _) (Nat.le_refl _) hRcells hRslots
  obtain ⟨s', hA⟩ : ∃ z, z = (T.setVm s.vm).setFrames (.invoking m args :: below) := ⟨_, rfl⟩
  rw [← hA] at Y
  have hvm : s'.vm = s.vm := by rw [hA]; rfl
  have hhp : s'.heap = H := by rw [hA]; exact hT
  have hW0 : s.WarmedH s'.vm := by rw [hvm]; exact State.WarmedH.refl s
  have hat' : ∀ w ∈ vx_at0 own ic cls names, w.before args s' = true := fun w hw => vx_ot_at hW0 hvm.symm (hgood w (List.mem_cons_of_mem _ (List.mem_cons_of_mem _ hw))) (hat w hw)
  have hk' : (Cond.classLink own ik cls).before args s' = true := vx_ot_at hW0 hvm.symm (hgood _ List.mem_cons_self) hk
  have hini' : (Cond.initialized cls).before args s' = true := vx_ot_at hW0 hvm.symm (hgood _ (List.mem_cons_of_mem _ List.mem_cons_self)) hini
  have hU' : vx_Zq Bundle.tN "UNASSIGNED_STACK" Bundle.steD A s' s'.heap := by rw [hhp]; exact vx_Zq.moved hW0.alike (hU.kept hS.2.1)
  have hN' : vx_Zq Bundle.tN "SUPPRESSED_SENTINEL" Bundle.listD A s' s'.heap := by rw [hhp]; exact vx_Zq.moved hW0.alike (hN.kept hS.2.1)
  have h : ∀ w ∈ Bundle.ownAtoms0 own ic cls names, w.before args s' = true := vx_own hat' (vx_isRefq hU'.1) (vx_isRefq hN'.1) hU'.2.word hN'.2.word
  have hown' : s'.vm.findClass own = some m.cls := by rw [hvm]; exact hown
  have hins : (Cond.instantiable cls 6).before args s' = true := h _ (by simp [Bundle.ownAtoms0])
  obtain ⟨vm₁, cX, kX, hfX, hkX, -, -, X₁, st1⟩ := Y.newCold hexec (own := own) (C := cls) (index := ik) (n := 6) hown' hk' hins hini'
    (g := F0 m pc ls rest) rfl (by rw [hb]; exact d0) (Nat.le_refl _) (Nat.le_refl _)
  generalize hT1 : (T.setVm vm₁).pushCell { cls := cX, slots := kX.instanceTypes.map defaultValue, vm := .none } = T1 at X₁ st1
  have hcat : (Value.ref T.heap.size).category = 1 := rfl
  have hcellA : T1.heap[T.heap.size]? = some (freshCell cX kX) := by rw [← hT1]; exact State.heap_pushCell_size _ _
  have d3' : decode c.code (pc + 3) = .ok (.dup, 1) := by rw [hb]; exact d3
  obtain ⟨U, hsteps, hrun, hend, hW, hsame, ce, hce, hO⟩ := X₁.ctorThrow0 hexec htr (own := own) (cls := cls) (names := names) (ic := ic) hown' hcls hnames h (fun x hx => nomatch hx) hfX hkX hcellA (by rw [hhp, hT]; exact Nat.le_refl _)
    (g := { method := m, pc := pc + 4, locals := ls, stack := .ref T.heap.size :: .ref T.heap.size :: rest, locked := none }) rfl hsize rfl rfl (rest := rest) rfl
    (by rw [hb]; exact d4) (by rw [hb]; exact d7) hout hRframes (by simp only [List.map_cons, List.sum_cons, hcat]; omega) hlocks
  obtain ⟨f1, f2⟩ := vx_frame hsame
  rw [hhp] at f1 f2
  have hWs : s.WarmedH U.vm := State.WarmedH.trans hW0 hW
  have hcl : s.vm.findClass cls = some ce.cls := by
    have h9 := hO.cls
    rw [hvm] at h9
    exact h9
  have hall : s.sameButNew ({ U with vm := s.vm } : State) locs mc ms := by
    subst hA
    obtain ⟨e1, e2⟩ := hsame
    rw [State.setFrames_setFrames] at e1
    have h2 : (T.setVm s.vm).sameButNew ({ U with vm := s.vm } : State) [] (0 + 1) (0 + 6) := ⟨e1, e2⟩
    have h3 := X.same.trans h2
    rw [List.append_nil] at h3
    exact h3.mono hc hs
  refine ⟨U, ?_, .threw T.heap.size, hrun, hend, Or.inr ⟨T.heap.size, rfl, cls, ce, locs, hx U hWs.alike f1 (fun q hq => f2 q hq (fun z hz => nomatch hz)), hce, hO.vm, hcl, hWs, hall, hf⟩⟩
  refine st1 _ ?_
  show Steps p.tables e below (T1.setTop { method := m, pc := pc + 3, locals := ls, stack := .ref T.heap.size :: rest, locked := none }) _
  jvm_step X₁.here [X₁.here.top, hexec, d3', Value.category]
  exact hsteps
/-- 'throw new E("text")': new; dup; ldc; invokespecial; athrow -/
theorem vx_throwS {cc : ByteArray} {pc : Nat} (hexec : p.tables.exec = Jvm.exec) (hb : c.code = cc) (hl : l.stackTraces = false) {own cls text : String} {names : List String} {ik is ic mc ms sa : Nat} {A : Nat → Prop}
    (hown : s.vm.findClass own = some m.cls) (hcls : Bundle.fit cls = true) (hnames : ∀ n ∈ names, Bundle.fit n = true)
    (hk : (Cond.classLink own ik cls).before args s = true) (hini : (Cond.initialized cls).before args s = true) (hstr : vk_R own is text sa s) (hat : ∀ w ∈ vx_atS own ic cls names, w.before args s = true)
    (hgood : ∀ w ∈ Cond.classLink own ik cls :: Cond.initialized cls :: vx_atS own ic cls names, vx_ot w = true)
    (hU : vx_Zq Bundle.tN "UNASSIGNED_STACK" Bundle.steD A s s.heap) (hN : vx_Zq Bundle.tN "SUPPRESSED_SENTINEL" Bundle.listD A s s.heap) (hS : va_S A s.heap H locs) (hsize : ls.size = c.maxLocals)
    (d0 : decode cc pc = .ok (.new ik, 3)) (d3 : decode cc (pc + 3) = .ok (.dup, 1)) (d4 : decode cc (pc + 4) = .ok (.ldc is, 2)) (d6 : decode cc (pc + 6) = .ok (.invokespecial ic, 3)) (d9 : decode cc (pc + 9) = .ok (.athrow, 1))
    (hout : ∀ x ∈ c.exceptionTable.toList, covers x (pc + 9) = false)
    (hRframes : names.length + 3 < R.frames) (hRlocals : (rest.map fun v => v.category).sum + (13 * (names.length + 1) + 43) ≤ R.locals) (hRcells : cells + 1 ≤ R.cells) (hRslots : slots + 6 ≤ R.slots) (hlocks : meth.locks = false)
    (hx : ∀ t : State, s.vm.Alike t.vm → H.size ≤ t.heap.size → (∀ q : Nat, q < H.size → t.heap[q]? = H[q]?) → XC cls s t)
    (hf : ∀ z ∈ locs, free z.base) (hc : cells + 1 ≤ mc) (hs : slots + 6 ≤ ms) :
    W p l e R s m args below meth c H locs cells slots (vx_MQ below Qc XC args s mc ms free) (F0 m pc ls rest) := by
  intro T hT X
  have htr : e.platform.stackTraces = false := (show e.platform.stackTraces = l.stackTraces by rw [X.admits.platform]).trans hl
  have Y := vx_rebase X (R' := { frames := R.frames, locals := R.locals, cells := 1, slots := 6 }) (Nat.le_refl _) (Nat.le_refl _) hRcells hRslots
  obtain ⟨s', hA⟩ : ∃ z, z = (T.setVm s.vm).setFrames (.invoking m args :: below) := ⟨_, rfl⟩
  rw [← hA] at Y
  have hvm : s'.vm = s.vm := by rw [hA]; rfl
  have hhp : s'.heap = H := by rw [hA]; exact hT
  have hW0 : s.WarmedH s'.vm := by rw [hvm]; exact State.WarmedH.refl s
  have hat' : ∀ w ∈ vx_atS own ic cls names, w.before args s' = true := fun w hw => vx_ot_at hW0 hvm.symm (hgood w (List.mem_cons_of_mem _ (List.mem_cons_of_mem _ hw))) (hat w hw)
  have hk' : (Cond.classLink own ik cls).before args s' = true := vx_ot_at hW0 hvm.symm (hgood _ List.mem_cons_self) hk
  have hini' : (Cond.initialized cls).before args s' = true := vx_ot_at hW0 hvm.symm (hgood _ (List.mem_cons_of_mem _ List.mem_cons_self)) hini
  have hU' : vx_Zq Bundle.tN "UNASSIGNED_STACK" Bundle.steD A s' s'.heap := by rw [hhp]; exact vx_Zq.moved hW0.alike (hU.kept hS.2.1)
  have hN' : vx_Zq Bundle.tN "SUPPRESSED_SENTINEL" Bundle.listD A s' s'.heap := by rw [hhp]; exact vx_Zq.moved hW0.alike (hN.kept hS.2.1)
  have h : ∀ w ∈ Bundle.ownAtoms own ic cls names, w.before args s' = true := vx_own hat' (vx_isRefq hU'.1) (vx_isRefq hN'.1) hU'.2.word hN'.2.word
  have hown' : s'.vm.findClass own = some m.cls := by rw [hvm]; exact hown
  have hins : (Cond.instantiable cls 6).before args s' = true := h _ (by simp [Bundle.ownAtoms])
  obtain ⟨vm₁, cX, kX, hfX, hkX, -, -, X₁, st1⟩ := Y.newCold hexec (own := own) (C := cls) (index := ik) (n := 6) hown' hk' hins hini'
    (g := F0 m pc ls rest) rfl (by rw [hb]; exact d0) (Nat.le_refl _) (Nat.le_refl _)
  generalize hT1 : (T.setVm vm₁).pushCell { cls := cX, slots := kX.instanceTypes.map defaultValue, vm := .none } = T1 at X₁ st1
  have hcat : (Value.ref T.heap.size).category = 1 := rfl
  have hcellA : T1.heap[T.heap.size]? = some (freshCell cX kX) := by rw [← hT1]; exact State.heap_pushCell_size _ _
  have d3' : decode c.code (pc + 3) = .ok (.dup, 1) := by rw [hb]; exact d3
  have d4' : decode c.code (pc + 4) = .ok (.ldc is, 2) := by rw [hb]; exact d4
  have hstr' : vk_R own is text sa s' := vk_R.warm hW0 hstr
  obtain ⟨U, hsteps, hrun, hend, hW, hsame, ce, hce, hO⟩ := X₁.ctorThrowS hexec htr (own := own) (cls := cls) (names := names) (ic := ic) hown' hcls hnames h (fun x hx => nomatch hx) hfX hkX hcellA (by rw [hhp, hT]; exact Nat.le_refl _) (msg := .ref sa) rfl
    (g := { method := m, pc := pc + 6, locals := ls, stack := .ref sa :: .ref T.heap.size :: .ref T.heap.size :: rest, locked := none }) rfl hsize rfl rfl (rest := rest) rfl
    (by rw [hb]; exact d6) (by rw [hb]; exact d9) hout hRframes (by simp only [List.map_cons, List.sum_cons, hcat]; omega) hlocks
  obtain ⟨f1, f2⟩ := vx_frame hsame
  rw [hhp] at f1 f2
  have hWs : s.WarmedH U.vm := State.WarmedH.trans hW0 hW
  have hcl : s.vm.findClass cls = some ce.cls := by
    have h9 := hO.cls
    rw [hvm] at h9
    exact h9
  have hall : s.sameButNew ({ U with vm := s.vm } : State) locs mc ms := by
    subst hA
    obtain ⟨e1, e2⟩ := hsame
    rw [State.setFrames_setFrames] at e1
    have h2 : (T.setVm s.vm).sameButNew ({ U with vm := s.vm } : State) [] (0 + 1) (0 + 6) := ⟨e1, e2⟩
    have h3 := X.same.trans h2
    rw [List.append_nil] at h3
    exact h3.mono hc hs
  refine ⟨U, ?_, .threw T.heap.size, hrun, hend, Or.inr ⟨T.heap.size, rfl, cls, ce, locs, hx U hWs.alike f1 (fun q hq => f2 q hq (fun z hz => nomatch hz)), hce, hO.vm, hcl, hWs, hall, hf⟩⟩
  refine st1 _ ?_
  show Steps p.tables e below (T1.setTop { method := m, pc := pc + 3, locals := ls, stack := .ref T.heap.size :: rest, locked := none }) _
  jvm_step X₁.here [X₁.here.top, hexec, d3', Value.category]
  exact X₁.ldcString hexec (own := own) (text := text) (index := is) (a := sa) hown' hstr'.1 hstr'.2
    (g := { method := m, pc := pc + 4, locals := ls, stack := .ref T.heap.size :: .ref T.heap.size :: rest, locked := none }) rfl d4' _ hsteps
/-- 'throw new E("text")', the text by a wide index -/
theorem vx_throwSW {cc : ByteArray} {pc : Nat} (hexec : p.tables.exec = Jvm.exec) (hb : c.code = cc) (hl : l.stackTraces = false) {own cls text : String} {names : List String} {ik is ic mc ms sa : Nat} {A : Nat → Prop}
    (hown : s.vm.findClass own = some m.cls) (hcls : Bundle.fit cls = true) (hnames : ∀ n ∈ names, Bundle.fit n = true)
    (hk : (Cond.classLink own ik cls).before args s = true) (hini : (Cond.initialized cls).before args s = true) (hstr : vk_R own is text sa s) (hat : ∀ w ∈ vx_atS own ic cls names, w.before args s = true)
    (hgood : ∀ w ∈ Cond.classLink own ik cls :: Cond.initialized cls :: vx_atS own ic cls names, vx_ot w = true)
    (hU : vx_Zq Bundle.tN "UNASSIGNED_STACK" Bundle.steD A s s.heap) (hN : vx_Zq Bundle.tN "SUPPRESSED_SENTINEL" Bundle.listD A s s.heap) (hS : va_S A s.heap H locs) (hsize : ls.size = c.maxLocals)
    (d0 : decode cc pc = .ok (.new ik, 3)) (d3 : decode cc (pc + 3) = .ok (.dup, 1)) (d4 : decode cc (pc + 4) = .ok (.ldc_w is, 3)) (d7 : decode cc (pc + 7) = .ok (.invokespecial ic, 3)) (d10 : decode cc (pc + 10) = .ok (.athrow, 1))
    (hout : ∀ x ∈ c.exceptionTable.toList, covers x (pc + 10) = false)
    (hRframes : names.length + 3 < R.frames) (hRlocals : (rest.map fun v => v.category).sum + (13 * (names.length + 1) + 43) ≤ R.locals) (hRcells : cells + 1 ≤ R.cells) (hRslots : slots + 6 ≤ R.slots) (hlocks : meth.locks = false)
    (hx : ∀ t : State, s.vm.Alike t.vm → H.size ≤ t.heap.size → (∀ q : Nat, q < H.size → t.heap[q]? = H[q]?) → XC cls s t)
    (hf : ∀ z ∈ locs, free z.base) (hc : cells + 1 ≤ mc) (hs : slots + 6 ≤ ms) :
    W p l e R s m args below meth c H locs cells slots (vx_MQ below Qc XC args s mc ms free) (F0 m pc ls rest) := by
  intro T hT X
  have htr : e.platform.stackTraces = false := (show e.platform.stackTraces = l.stackTraces by rw [X.admits.platform]).trans hl
  have Y := vx_rebase X (R' := { frames := R.frames, locals := R.locals, cells := 1, slots := 6 }) (Nat.le_refl _) (Nat.le_refl _) hRcells hRslots
  obtain ⟨s', hA⟩ : ∃ z, z = (T.setVm s.vm).setFrames (.invoking m args :: below) := ⟨_, rfl⟩
  rw [← hA] at Y
  have hvm : s'.vm = s.vm := by rw [hA]; rfl
  have hhp : s'.heap = H := by rw [hA]; exact hT
  have hW0 : s.WarmedH s'.vm := by rw [hvm]; exact State.WarmedH.refl s
  have hat' : ∀ w ∈ vx_atS own ic cls names, w.before args s' = true := fun w hw => vx_ot_at hW0 hvm.symm (hgood w (List.mem_cons_of_mem _ (List.mem_cons_of_mem _ hw))) (hat w hw)
  have hk' : (Cond.classLink own ik cls).before args s' = true := vx_ot_at hW0 hvm.symm (hgood _ List.mem_cons_self) hk
  have hini' : (Cond.initialized cls).before args s' = true := vx_ot_at hW0 hvm.symm (hgood _ (List.mem_cons_of_mem _ List.mem_cons_self)) hini
  have hU' : vx_Zq Bundle.tN "UNASSIGNED_STACK" Bundle.steD A s' s'.heap := by rw [hhp]; exact vx_Zq.moved hW0.alike (hU.kept hS.2.1)
  have hN' : vx_Zq Bundle.tN "SUPPRESSED_SENTINEL" Bundle.listD A s' s'.heap := by rw [hhp]; exact vx_Zq.moved hW0.alike (hN.kept hS.2.1)
  have h : ∀ w ∈ Bundle.ownAtoms own ic cls names, w.before args s' = true := vx_own hat' (vx_isRefq hU'.1) (vx_isRefq hN'.1) hU'.2.word hN'.2.word
  have hown' : s'.vm.findClass own = some m.cls := by rw [hvm]; exact hown
  have hins : (Cond.instantiable cls 6).before args s' = true := h _ (by simp [Bundle.ownAtoms])
  obtain ⟨vm₁, cX, kX, hfX, hkX, -, -, X₁, st1⟩ := Y.newCold hexec (own := own) (C := cls) (index := ik) (n := 6) hown' hk' hins hini'
    (g := F0 m pc ls rest) rfl (by rw [hb]; exact d0) (Nat.le_refl _) (Nat.le_refl _)
  generalize hT1 : (T.setVm vm₁).pushCell { cls := cX, slots := kX.instanceTypes.map defaultValue, vm := .none } = T1 at X₁ st1
  have hcat : (Value.ref T.heap.size).category = 1 := rfl
  have hcellA : T1.heap[T.heap.size]? = some (freshCell cX kX) := by rw [← hT1]; exact State.heap_pushCell_size _ _
  have d3' : decode c.code (pc + 3) = .ok (.dup, 1) := by rw [hb]; exact d3
  have d4' : decode c.code (pc + 4) = .ok (.ldc_w is, 3) := by rw [hb]; exact d4
  have hstr' : vk_R own is text sa s' := vk_R.warm hW0 hstr
  obtain ⟨U, hsteps, hrun, hend, hW, hsame, ce, hce, hO⟩ := X₁.ctorThrowS hexec htr (own := own) (cls := cls) (names := names) (ic := ic) hown' hcls hnames h (fun x hx => nomatch hx) hfX hkX hcellA (by rw [hhp, hT]; exact Nat.le_refl _) (msg := .ref sa) rfl
    (g := { method := m, pc := pc + 7, locals := ls, stack := .ref sa :: .ref T.heap.size :: .ref T.heap.size :: rest, locked := none }) rfl hsize rfl rfl (rest := rest) rfl
    (by rw [hb]; exact d7) (by rw [hb]; exact d10) hout hRframes (by simp only [List.map_cons, List.sum_cons, hcat]; omega) hlocks
  obtain ⟨f1, f2⟩ := vx_frame hsame
  rw [hhp] at f1 f2
  have hWs : s.WarmedH U.vm := State.WarmedH.trans hW0 hW
  have hcl : s.vm.findClass cls = some ce.cls := by
    have h9 := hO.cls
    rw [hvm] at h9
    exact h9
  have hall : s.sameButNew ({ U with vm := s.vm } : State) locs mc ms := by
    subst hA
    obtain ⟨e1, e2⟩ := hsame
    rw [State.setFrames_setFrames] at e1
    have h2 : (T.setVm s.vm).sameButNew ({ U with vm := s.vm } : State) [] (0 + 1) (0 + 6) := ⟨e1, e2⟩
    have h3 := X.same.trans h2
    rw [List.append_nil] at h3
    exact h3.mono hc hs
  refine ⟨U, ?_, .threw T.heap.size, hrun, hend, Or.inr ⟨T.heap.size, rfl, cls, ce, locs, hx U hWs.alike f1 (fun q hq => f2 q hq (fun z hz => nomatch hz)), hce, hO.vm, hcl, hWs, hall, hf⟩⟩
  refine st1 _ ?_
  show Steps p.tables e below (T1.setTop { method := m, pc := pc + 3, locals := ls, stack := .ref T.heap.size :: rest, locked := none }) _
  jvm_step X₁.here [X₁.here.top, hexec, d3', Value.category]
  exact X₁.ldcStringW hexec (own := own) (text := text) (index := is) (a := sa) hown' hstr'.1 hstr'.2
    (g := { method := m, pc := pc + 4, locals := ls, stack := .ref T.heap.size :: .ref T.heap.size :: rest, locked := none }) rfl d4' _ hsteps
end Ends
section Bodies
variable {l : Launch}
theorem vx_ofW {y : MethodName} {ws ws' : List Cond} {rm : Room} {Pc : Array Value → State → Prop} {Qc : Array Value → State → Outcome → State → Prop} {XC : String → State → State → Prop} {mc ms : Nat} {free : Addr → Prop} {cc : ByteArray} {maxL : Nat} {ret : Option FieldType}
    (hy : plainName y.cls = true) (hw : ws = Cond.code y cc maxL ret :: ws')
    (body : ∀ p e s m args below meth c s₁, BodyLoose p l y (headSpec ws rm) cc maxL ret e s m args below meth c s₁ → c.maxLocals = maxL → (∀ x ∈ c.exceptionTable.toList, False) → Pc args s →
      W p l e (headSpec ws rm).room s m args below meth c s.heap [] 0 0 (vx_MQ below Qc XC args s mc ms free) (entryFrame m args maxL)) : vx_Met l y ws rm Pc Qc XC mc ms free := by
  refine MetFree.of_bodyS (code := cc) (maxLocals := maxL) (ret := ret) hy ?_ ?_
  · intro args s m h hn
    obtain ⟨meth, c, h1, h2, h3, h4, h5, h6, -, -⟩ := Cond.code_spec hn (atoms_spec (ws := ws) h _ (by rw [hw]; exact List.mem_cons_self))
    exact ⟨meth, c, h1, h2, h3, h4, h5, h6⟩
  · intro p e s m args below meth c s₁ B hml hP _
    have hh0 : s₁.heap = s.heap := by rw [B.state]; rfl
    have ht : ∀ x ∈ c.exceptionTable.toList, False := by
      obtain ⟨meth9, c9, h1, h2, -, -, -, -, h7, -⟩ := Cond.code_spec B.named (atoms_spec (ws := ws) B.pre _ (by rw [hw]; exact List.mem_cons_self))
      cases Option.some.inj (h1.symm.trans B.method)
      cases Option.some.inj (h2.symm.trans (Stand.of_body B).code)
      intro x hx
      rw [Array.isEmpty_iff.mp h7] at hx
      cases hx
    obtain ⟨t, a1, o, b1, b2, b3⟩ := body p e s m args below meth c s₁ B hml ht hP s₁ hh0 (Stand.of_body B)
    exact ⟨t, o, a1, b1, b2, b3⟩
/-- the table of a body with handlers -/
theorem vx_table {p : Program} {x y : MethodName} {S : Spec} {cc bytes : ByteArray} {maxL maxL' : Nat} {ret ret' : Option FieldType} {e : Env} {s s₁ : State} {m : MethodId} {args : Array Value} {below : List Frame} {meth : Method} {c : Code} {hh : List (Nat × Nat × Nat × Nat)}
    (B : BodyLoose p l y S cc maxL ret e s m args below meth c s₁) (h : (Cond.codeWith y bytes maxL' ret' hh).before args s = true) : c.exceptionTable.toList = tableOf hh := by
  obtain ⟨m9, meth9, c9, hn9, h1, h2, -, -, h6, -⟩ := Cond.codeWith_spec h
  cases Option.some.inj (hn9.symm.trans B.named)
  cases Option.some.inj (h1.symm.trans B.method)
  cases Option.some.inj (h2.symm.trans (Stand.of_body B).code)
  rw [← h6, table_eq]
end Bodies
end VXA
/-! ===== END ===== -/
/-! ===== BEGIN a static call of a method with an exception table ===== -/
section VXS
variable {p : Program} {l : Launch} {e : Env} {R : Room} {s : State} {m : MethodId} {args : Array Value} {below : List Frame} {meth : Method} {c : Code} {T : State} {H : Heap} {locs : List Loc} {cells slots : Nat}
abbrev vx_CSW (R : Room) (s : State) (args : Array Value) (own : String) (index : Nat) (y : MethodName) (bytes : ByteArray) (maxL : Nat) (ret : Option FieldType) (hh : List (Nat × Nat × Nat × Nat)) (ws : List Cond) (rm : Room) (mc ms n : Nat) : Prop :=
  (rm.cells = mc ∧ rm.slots = ms ∧ rm.frames + 1 ≤ R.frames ∧ 8 + (maxL + 11) + rm.locals ≤ R.locals ∧ (∀ w ∈ ws, ∀ (a' : Array Value) (U : State), s.WarmedH U.vm → w.before a' U = true) ∧ Cond.codeWith y bytes maxL ret hh ∈ ws) ∧
  (Cond.codeWith y bytes maxL ret hh).before args s = true ∧ (Cond.initialized y.cls).before args s = true ∧ (y.cls ≠ "java/lang/invoke/MethodHandle" ∧ y.cls ≠ "java/lang/invoke/VarHandle") ∧
  (∀ sig, parseMethodDescriptor y.desc = some sig → n = sig.parameters.length) ∧ (Cond.methodLink own index y).before args s = true ∧ (Cond.static y).before args s = true
theorem vx_cwSW {own : String} {index maxL mc ms : Nat} {y : MethodName} {bytes : ByteArray} {ret : Option FieldType} {hh : List (Nat × Nat × Nat × Nat)} {Ts ws ws' : List Cond} {rm : Room} (n : Nat) (ht : ∀ w ∈ Ts, w.before args s = true) (hT : GoodIn Ts (va_wsS own index y ws)) (hw : ws = Cond.codeWith y bytes maxL ret hh :: ws') (hrc : rm.cells = mc) (hrs : rm.slots = ms)
    (hd : y.cls ≠ "java/lang/invoke/MethodHandle" ∧ y.cls ≠ "java/lang/invoke/VarHandle" ∧ (parseMethodDescriptor y.desc).map (fun d => d.parameters.length) = some n) (hR : rm.frames + 1 ≤ R.frames ∧ 8 + (maxL + 11) + rm.locals ≤ R.locals) :
    vx_CSW R s args own index y bytes maxL ret hh ws rm mc ms n := by
  have ok : ∀ w ∈ va_wsS own index y ws, w.before args s = true := fun w h => ht w (hT w h).1
  have hG : GoodIn Ts ws := fun w h => hT w (by unfold va_wsS; exact List.mem_append_right _ h)
  have hc : Cond.codeWith y bytes maxL ret hh ∈ ws := by rw [hw]; exact List.mem_cons_self
  refine ⟨⟨hrc, hrs, hR.1, hR.2, pay_in ht hG, hc⟩, ht _ (hG _ hc).1, ok _ (by simp [va_wsS]), ⟨hd.1, hd.2.1⟩, fun sig h => ?_, ok _ (by simp [va_wsS]), ok _ (by simp [va_wsS])⟩
  have h2 := hd.2.2
  rw [h] at h2
  exact (Option.some.inj h2).symm
theorem vx_callSW (X : Stand p l e R s m args below meth c T locs cells slots) (hexec : p.tables.exec = Jvm.exec) {own : String} {index : Nat} {y : MethodName} {bytes : ByteArray} {maxL : Nat} {ret : Option FieldType} {hh : List (Nat × Nat × Nat × Nat)}
    (hown : s.vm.findClass own = some m.cls) (hlink : (Cond.methodLink own index y).before args s = true) (hstat : (Cond.static y).before args s = true) (hinit : (Cond.initialized y.cls).before args s = true)
    (hcode : (Cond.codeWith y bytes maxL ret hh).before args s = true) (hy : y.cls ≠ "java/lang/invoke/MethodHandle" ∧ y.cls ≠ "java/lang/invoke/VarHandle")
    {W9 : Nat} {Pre : Pt → Array Value → Prop} {Post : Pt → Array Value → Option Value → Pt → Prop} (hK : Back l R p e below s args y 3 W9 Pre Post)
    {g : JFrame} (hg : g.method = m) (hsize : g.locals.size = c.maxLocals) {argsL rest : List Value} (hlen : ∀ sig, parseMethodDescriptor y.desc = some sig → argsL.length = sig.parameters.length)
    (hstack : g.stack = argsL.reverse ++ rest) (hW : 2 * g.monitorRoom + (rest.map fun v => v.category).sum ≤ W9) (hdg : decode c.code g.pc = .ok (.invokestatic index, 3))
    (hpre : ∀ vm₁, s.WarmedH vm₁ → Pre ⟨T.setVm vm₁, locs, cells, slots⟩ argsL.toArray) :
    ∃ (v : Option Value) (vm₁ : Vm) (B : Pt), s.WarmedH vm₁ ∧ Stand p l e R s m args below meth c B.U B.locs B.cells B.slots ∧ Post ⟨T.setVm vm₁, locs, cells, slots⟩ argsL.toArray v B ∧
      ∀ target, Steps p.tables e below (B.U.setTop { g with pc := g.pc + 3, stack := v.toList ++ rest }) target → Steps p.tables e below (T.setTop g) target := by
  obtain ⟨mk, methM, cM, hnamed, hmethM, -, -, -, -, -, -, hsigM⟩ := Cond.codeWith_spec hcode
  have hstatic : methM.isStatic = true := Cond.static_spec hnamed hmethM hstat
  obtain ⟨kP, hkP, -⟩ := className_of_methodNamed hnamed
  have hinitP : kP.init = .initialized := Cond.initialized_spec (findClass_of_methodNamed hnamed) hkP hinit
  obtain ⟨vm₁, X₁, hstep₁⟩ := X.invokestatic hexec hown hlink hnamed hmethM hstatic hkP hinitP hy (g := g) hg (argsL := argsL) (rest := rest) (hlen _ hsigM) hstack hdg
  obtain ⟨v, B, X', hpost, hsteps⟩ := hK m meth c ⟨T.setVm vm₁, locs, cells, slots⟩ { g with stack := rest } (.invokestatic index) mk argsL.toArray X₁ hg hsize hdg hW (X₁.named hnamed) (hpre vm₁ X₁.warmed)
  exact ⟨v, vm₁, B, X₁.warmed, X', hpost, fun target h => hstep₁ _ fun acts => by rw [doInvoke_state]; exact hsteps.trans h⟩
theorem vx_runSW {y : MethodName} {bytes cc : ByteArray} {maxL nL mc ms n index : Nat} {ret : Option FieldType} {hh : List (Nat × Nat × Nat × Nat)} {ws : List Cond} {rm : Room} {Pc : Array Value → State → Prop} {Qc : Array Value → State → Outcome → State → Prop} {free : Addr → Prop} {Ts : List Cond} {own : String} {As rest : List Value} {g : JFrame}
    (S : CallFix p m c cc nL s args Ts own) (hM : Met l y ws rm Pc Qc mc ms free) (cw : vx_CSW R s args own index y bytes maxL ret hh ws rm mc ms n) (hp : PreS s H Pc As)
    (hg : g.method = m) (hn : As.length = n) (hsize : g.locals.size = nL) (hstack : g.stack = As.reverse ++ rest) (hW : 2 * g.monitorRoom + (rest.map fun v => v.category).sum ≤ 8) (hdg : decode cc g.pc = .ok (.invokestatic index, 3)) (hf : cells + mc ≤ R.cells ∧ slots + ms ≤ R.slots) :
    va_Run p l e R s m args below meth c H locs cells slots mc ms g rest (Qc As.toArray) (free) := by
  obtain ⟨⟨hrc, hrs, hfr, hlo, hws, hcw⟩, hcode, hini, hy, hlen, hl, hstt⟩ := cw
  have hK : Back l R p e below s args y 3 8 (PreOf R mc ms Pc) (PostOf Qc mc ms free) := va_backW (hh := hh) (bytes := bytes) (maxL := maxL) (ret := ret) hM hp.1 hrc hrs hfr hlo hws hcw (fun a' U hW => word_at hW (Or.inl (by first | rfl | simp [Cond.onTables, Cond.keeps, Cond.steady])) hini)
  obtain ⟨hx, hb, hml, ho, -⟩ := S
  intro T hT X
  obtain ⟨v, vm₁, ⟨U', l2, c2, s2⟩, hW₁, X', ⟨g', mk, t, L, e1, e2, hq, h1, hL, h2, h3⟩, st⟩ := vx_callSW X hx (hh := hh) (bytes := bytes) (maxL := maxL) (ret := ret) ho hl hstt hini hcode hy hK hg (hsize.trans hml.symm) (argsL := As) (rest := rest) (fun sig h => hn.trans (hlen sig h)) hstack hW (by rw [hb]; exact hdg)
    (fun vm₁ hW₁ => ⟨hf.1, hf.2, hp.2 (T.setVm vm₁) hT hW₁⟩)
  dsimp only [Pt.U, Pt.locs, Pt.cells, Pt.slots] at X' e1 e2 h1 h2 h3 st
  subst h1; subst h2; subst h3
  exact ⟨v, (T.setVm vm₁).calling g' mk As.toArray, t, U', L, hT, X', hL, e1, e2, hq, st⟩
/-- not caught here, past rows that name other classes: it goes on to the caller -/
theorem vx_outP {p : Program} {l : Launch} {e : Env} {R : Room} {s : State} {m : MethodId} {args : Array Value} {below : List Frame} {meth : Method} {c : Code} {H : Heap} {locs : List Loc} {cells slots : Nat} {free : Addr → Prop} {ls : Array Slot} {rest : List Value} {Qc : Array Value → State → Outcome → State → Prop} {XC : String → State → State → Prop}
    {pc : Nat} {own E : String} {ce : Cell} {q : Addr} {mc ms : Nat} (hown : s.vm.findClass own = some m.cls) (hlocks : meth.locks = false)
    (hpass : ∀ z ∈ c.exceptionTable.toList, covers z pc = false ∨ (z.catchType ≠ 0 ∧ ∃ nm : String, (Cond.classLink own z.catchType nm).before args s = true ∧ va_Nc E nm s)) (hcell : H[q]? = some ce) (hv : ce.vm = .none) (hcl : s.vm.findClass E = some ce.cls)
    (hx : ∀ t : State, t.heap = H → s.vm.Alike t.vm → XC E s t) (hf : ∀ z ∈ locs, free z.base) (hc : cells ≤ mc) (hs : slots ≤ ms) :
    vx_W p l e R s m args below meth c H locs cells slots (vx_MQ below Qc XC args s mc ms free) (F0 m pc ls rest) q := by
  intro T hT X
  have hpl : e.platform.magicAccessors = ({} : Platform).magicAccessors := by rw [X.admits.platform]
  obtain ⟨vm', hW', X', st⟩ := X.outThrough hlocks q (g := F0 m pc ls rest) rfl rfl rfl (cell := ce) (by rw [hT]; exact hcell) (by rw [hv]; rfl)
    (by obtain ⟨k9, h9, -⟩ := Vm.findClass_spec hcl; exact ⟨k9, h9⟩) (fun z hz => by
      rcases hpass z hz with h | ⟨hz0, nm, hl1, hn1⟩
      · exact Or.inl h
      · obtain ⟨c6, hc6, hcl6⟩ := Cond.classLink_spec hown hl1 e.platform hpl
        obtain ⟨a8, b8, h1, h2, h3⟩ := hn1
        cases Option.some.inj (h1.symm.trans hcl)
        cases Option.some.inj (h2.symm.trans hc6)
        exact Or.inr ⟨hz0, _, hcl6, h3⟩)
  obtain ⟨g₀, hfr⟩ := X'.frames_eq
  have hcell9 : ((T.setVm vm').setFrames (.throwing q :: below)).heap[q]? = some ce := by
    show T.heap[q]? = some ce
    rw [hT]; exact hcell
  have hend : Ended ((T.setVm vm').setFrames (.throwing q :: below)) below (.threw q) := State.frames_setFrames _ (State.cur_lt_of_frames hfr)
  refine ⟨(T.setVm vm').setFrames (.throwing q :: below), ?_, .threw q, X'.here.running, hend, Or.inr ⟨q, rfl, E, ce, locs, hx _ hT (X'.ends _).1.alike, hcell9, hv, hcl, (X'.ends _).1, (X'.ends _).2.mono hc hs, hf⟩⟩
  rw [X.pushThrowing_eq]
  exact st
/-- a thing of a world lies in the heap -/
theorem vx_lt {D : va_G} {cl : List vw_C} {ws : va_W} {H1 : Heap} (h : va_P D cl ws H1) {k : Nat} {q : Nat × va_E} (hk : ws[k]? = some q) : q.1 < H1.size := (h k q hk).lt
end VXS
/-! ===== END ===== -/
/-! ===== BEGIN methods with a table of their own: called by a name, returning or throwing ===== -/
section VXH
/-! vx_backW, vx_callVX, vx_callSX, vx_callVW, vx_runVW, vx_runVX, vx_runSX, vx_ofWH follow the same proofs as their sisters above (Free/Laws.lean, Shelf42/LK1.lean); vx_outP calls Shelf42/NT130.lean (outThrough). -/
section
variable {l : Launch} {R : Room} {p : Program} {e : Env} {below : List Frame} {s : State} {sargs : Array Value} {y : MethodName} {len W9 : Nat}
theorem vx_backW {ws : List Cond} {rm : Room} {Pc : Array Value → State → Prop} {Qc : Array Value → State → Outcome → State → Prop} {XC : String → State → State → Prop} {mc ms : Nat} {free : Addr → Prop} {bytes : ByteArray} {maxL : Nat} {ret : Option FieldType} {hh : List (Nat × Nat × Nat × Nat)}
    (hM : vx_Met l y ws rm Pc Qc XC mc ms free) (hblind : FrameBlind Pc) (hrc : rm.cells = mc) (hrs : rm.slots = ms)
    (hframes : rm.frames + 1 ≤ R.frames) (hlocals : W9 + (maxL + 11) + rm.locals ≤ R.locals)
    (hws : ∀ w ∈ ws, ∀ a' U, s.WarmedH U.vm → w.before a' U = true) (hcode : Cond.codeWith y bytes maxL ret hh ∈ ws) (hinit : ∀ a' U, s.WarmedH U.vm → (Cond.initialized y.cls).before a' U = true) :
    vx_Back l R p e below s sargs y len W9 (PreOf R mc ms Pc) (PostOf Qc mc ms free) (vx_Post XC mc ms free) := by
  intro m meth c A g ig mk a X hg hsize hdg hW hn hp
  have h1 : (headSpec ws rm).pre.before a A.U = true := atoms_intro fun w hw => hws w hw _ _ X.warmed
  have h2 : (Cond.codeWith y bytes maxL ret hh).before a A.U = true := hws _ hcode _ _ X.warmed
  have h3 : (Cond.initialized y.cls).before a A.U = true := hinit _ _ X.warmed
  have h4 : A.cells + (headSpec ws rm).room.cells ≤ R.cells := by rw [show (headSpec ws rm).room.cells = mc from hrc]; exact hp.1
  have h5 : A.slots + (headSpec ws rm).room.slots ≤ R.slots := by rw [show (headSpec ws rm).room.slots = ms from hrs]; exact hp.2.1
  have hPc : Pc a (A.U.calling g mk a) := hblind _ _ _ _ hp.2.2
  obtain ⟨U, Ls, c0, s0⟩ := A
  dsimp only [Pt.U, Pt.locs, Pt.cells, Pt.slots] at h1 h2 h3 h4 h5 X hn hPc ⊢
  obtain ⟨m9, methY, cY, hn9, hmY, hcY, -, hlY, -⟩ := Cond.codeWith_spec h2
  cases Option.some.inj (hn9.symm.trans hn)
  obtain ⟨kY, hkY, -⟩ := className_of_methodNamed hn
  have hinitY : kY.init = .initialized := Cond.initialized_spec (findClass_of_methodNamed hn) hkY h3
  have h : At U g.method c below := by rw [hg]; exact X.here
  have hlocals9 : W9 + (maxL + 11) + (headSpec ws rm).room.locals ≤ R.locals := hlocals
  have happ : (headSpec ws rm).appliesLoose y e.platform (U.calling g mk a) = true :=
    Spec.appliesLoose_calling (g := g) h hdg hn hkY hinitY
      (X.room_calling (g := g) (R' := (headSpec ws rm).room) hsize hmY hcY hframes (by rw [hlY]; omega) h4 h5) h1
  obtain ⟨mid, hmid⟩ := h.above
  have hfr : (U.setTop g).frames = (.java g :: mid) ++ below := by rw [State.frames_setTop' g h.top, hmid]; rfl
  obtain ⟨o, s₂, hsteps, -, hend, hq⟩ := Steps.callFree hM p X.admits X.cas X.clock (acts := []) hfr happ hPc trivial
  have hq' : vx_Q Qc XC mc ms free a (U.calling g mk a) o s₂ := hq
  rw [State.frames_setTop' g h.top] at hend
  obtain ⟨g₀, hg0⟩ := Option.isSome_iff_exists.mp h.top
  obtain ⟨r, hr⟩ := State.topJava?_eq_some.mp hg0
  have hr' : (({ U with heap := s₂.heap, slotsUsed := s₂.slotsUsed } : State).setVm s₂.vm).frames = .java g₀ :: r := hr
  rcases hq' with ⟨hqc, L, hfe, hL⟩ | ⟨q, rfl, E, ce, L, hx, hce, hcv, hcl, hW₂, hsm, hL⟩
  · obtain ⟨⟨v, rfl⟩, hW₂, e2, q2, q3, q4, q5, q6⟩ := id hfe
    have e3 : s₂ = ({ (U.calling g mk a).setFrames s₂.frames with heap := s₂.heap, slotsUsed := s₂.slotsUsed } : State).setVm s₂.vm := by
      have : s₂ = ({ s₂ with vm := (U.calling g mk a).vm } : State).setVm s₂.vm := rfl
      rw [e2] at this
      exact this
    obtain ⟨c₂, i₂, len₂, hc₂, hd₂, hf₂⟩ := hend
    have hW' : U.WarmedH s₂.vm := hW₂
    have hcc : c₂ = c := by
      have h1 : s₂.code? g.method = U.code? g.method := by
        rw [State.code?_eq, State.code?_eq, hW'.alike.method?]
      exact Option.some.inj (hc₂.symm.trans (h1.trans h.code))
    subst hcc
    have hlen : len₂ = len := by rw [hdg] at hd₂; cases hd₂; rfl
    subst hlen
    have hs₂ : s₂ = (({ U with heap := s₂.heap, slotsUsed := s₂.slotsUsed } : State).setVm s₂.vm).setTop { g with pc := g.pc + len₂, stack := v.toList ++ g.stack } := by
      refine e3.trans ?_
      rw [hf₂, State.calling_eq h.top, State.setFrames_setFrames, State.setTop_of_frames _ hr', hr]
      rfl
    have hsame : U.sameButNew ({ U with heap := s₂.heap, slotsUsed := s₂.slotsUsed } : State) L mc ms := by
      refine ⟨?_, q2, q3, q4, q5, q6⟩
      obtain ⟨t, ht, -⟩ := State.frames_cons hr
      show ({ U with heap := s₂.heap, slotsUsed := s₂.slotsUsed } : State) = { U.setFrames U.frames with heap := s₂.heap, slotsUsed := s₂.slotsUsed }
      rw [State.setFrames_self ht]
    subst hg
    refine Or.inl ⟨v, ⟨(({ U with heap := s₂.heap, slotsUsed := s₂.slotsUsed } : State).setVm s₂.vm), Ls ++ L, c0 + mc, s0 + ms⟩,
      ⟨X.admits, X.cas, X.clock, X.frames, X.room, X.hears, X.method, X.code, (X.here.setHeapUsed s₂.heap s₂.slotsUsed).setVm hW'.alike, X.tail, State.WarmedH.trans X.warmed hW', X.limits, X.bytes, X.same.trans (hsame.setVm s.vm)⟩,
      ⟨g, mk, s₂, L, rfl, rfl, hqc, rfl, hL, rfl, rfl⟩, ?_⟩
    show Steps p.tables e below _ ((({ U with heap := s₂.heap, slotsUsed := s₂.slotsUsed } : State).setVm s₂.vm).setTop { g with pc := g.pc + len₂, stack := v.toList ++ g.stack })
    rw [← hs₂]
    exact hsteps
  · obtain ⟨e2, q2, q3, q4, q5, q6⟩ := id hsm
    have e3 : s₂ = ({ (U.calling g mk a).setFrames s₂.frames with heap := s₂.heap, slotsUsed := s₂.slotsUsed } : State).setVm s₂.vm := by
      have : s₂ = ({ s₂ with vm := (U.calling g mk a).vm } : State).setVm s₂.vm := rfl
      rw [e2] at this
      exact this
    have hf₂ : s₂.frames = .throwing q :: .java g :: U.frames.tail := hend
    have hW' : U.WarmedH s₂.vm := hW₂
    have hs₂ : s₂ = ((({ U with heap := s₂.heap, slotsUsed := s₂.slotsUsed } : State).setVm s₂.vm).setTop g).pushFrame (.throwing q) := by
      refine e3.trans ?_
      rw [hf₂, State.calling_eq h.top, State.setFrames_setFrames, State.pushFrame, State.frames_setTop _ hr', State.setTop_of_frames _ hr', State.setFrames_setFrames, hr]
      rfl
    have hsame : U.sameButNew ({ U with heap := s₂.heap, slotsUsed := s₂.slotsUsed } : State) L mc ms := by
      refine ⟨?_, q2, q3, q4, q5, q6⟩
      obtain ⟨t, ht, -⟩ := State.frames_cons hr
      show ({ U with heap := s₂.heap, slotsUsed := s₂.slotsUsed } : State) = { U.setFrames U.frames with heap := s₂.heap, slotsUsed := s₂.slotsUsed }
      rw [State.setFrames_self ht]
    subst hg
    refine Or.inr ⟨q, ⟨(({ U with heap := s₂.heap, slotsUsed := s₂.slotsUsed } : State).setVm s₂.vm), Ls ++ L, c0 + mc, s0 + ms⟩,
      ⟨X.admits, X.cas, X.clock, X.frames, X.room, X.hears, X.method, X.code, (X.here.setHeapUsed s₂.heap s₂.slotsUsed).setVm hW'.alike, X.tail, State.WarmedH.trans X.warmed hW', X.limits, X.bytes, X.same.trans (hsame.setVm s.vm)⟩,
      ⟨g, mk, s₂, L, E, ce, rfl, rfl, hx, hce, hcv, hcl, rfl, hL, rfl, rfl⟩, ?_⟩
    show Steps p.tables e below _ (((({ U with heap := s₂.heap, slotsUsed := s₂.slotsUsed } : State).setVm s₂.vm).setTop g).pushFrame (.throwing q))
    rw [← hs₂]
    exact hsteps
end
variable {p : Program} {l : Launch} {e : Env} {R : Room} {s : State} {m : MethodId} {args : Array Value} {below : List Frame} {meth : Method} {c : Code} {T : State} {H : Heap} {locs : List Loc} {cells slots : Nat}
theorem vx_callVX (X : Stand p l e R s m args below meth c T locs cells slots) (hexec : p.tables.exec = Jvm.exec) {own C : String} {index : Nat} {y : MethodName} {bytes : ByteArray} {maxL : Nat} {ret : Option FieldType} {hh : List (Nat × Nat × Nat × Nat)}
    (hown : s.vm.findClass own = some m.cls) (hlink : (Cond.methodLink own index y).before args s = true) (hinst : (Cond.instanceMethod y).before args s = true) (hsel : (Cond.selects C y y).before args s = true)
    (hcode : (Cond.codeWith y bytes maxL ret hh).before args s = true) (hy : y.cls ≠ "java/lang/invoke/MethodHandle" ∧ y.cls ≠ "java/lang/invoke/VarHandle")
    {W9 : Nat} {Pre : Pt → Array Value → Prop} {Post : Pt → Array Value → Option Value → Pt → Prop} {PostX : Pt → Array Value → Addr → Pt → Prop} (hK : vx_Back l R p e below s args y 3 W9 Pre Post PostX)
    {b : Addr} {cellB : Cell} (hcell : T.heap[b]? = some cellB) (hobj : cellB.vm.isStatics = false) (hcls : s.vm.findClass C = some cellB.cls)
    {g : JFrame} (hg : g.method = m) (hsize : g.locals.size = c.maxLocals) {argsL rest : List Value} (hlen : ∀ sig, parseMethodDescriptor y.desc = some sig → argsL.length = sig.parameters.length)
    (hstack : g.stack = argsL.reverse ++ .ref b :: rest) (hW : 2 * g.monitorRoom + (rest.map fun v => v.category).sum ≤ W9) (hdg : decode c.code g.pc = .ok (.invokevirtual index, 3))
    (hpre : ∀ vm₁, s.WarmedH vm₁ → Pre ⟨T.setVm vm₁, locs, cells, slots⟩ (Value.ref b :: argsL).toArray) :
    (∃ (v : Option Value) (vm₁ : Vm) (B : Pt), s.WarmedH vm₁ ∧ Stand p l e R s m args below meth c B.U B.locs B.cells B.slots ∧ Post ⟨T.setVm vm₁, locs, cells, slots⟩ (Value.ref b :: argsL).toArray v B ∧
      ∀ target, Steps p.tables e below (B.U.setTop { g with pc := g.pc + 3, stack := v.toList ++ rest }) target → Steps p.tables e below (T.setTop g) target) ∨
    (∃ (q : Addr) (vm₁ : Vm) (B : Pt), s.WarmedH vm₁ ∧ Stand p l e R s m args below meth c B.U B.locs B.cells B.slots ∧ PostX ⟨T.setVm vm₁, locs, cells, slots⟩ (Value.ref b :: argsL).toArray q B ∧
      Steps p.tables e below (T.setTop g) ((B.U.setTop { g with stack := rest }).pushFrame (.throwing q))) := by
  obtain ⟨mk, methM, hnamed, hmethM, hstM, habM⟩ := Cond.instanceMethod_spec hinst
  obtain ⟨m8, methM', cM, hn8, hmethM', -, -, -, -, -, -, hsigM⟩ := Cond.codeWith_spec hcode
  cases Option.some.inj (hn8.symm.trans hnamed)
  cases hmethM.symm.trans hmethM'
  obtain ⟨c2, r2, m2, q1, q2, q3, q4, kP, hkP, hkPi⟩ := Cond.selects_spec hsel
  cases hcls.symm.trans q1
  cases (State.methodFound?_of_named hnamed hy).symm.trans q2
  cases hnamed.symm.trans q3
  have hselP : selectMethod e.platform s.vm cellB.cls mk = .method mk := by rw [Launch.admits_selectMethod X.admits]; exact q4
  obtain ⟨vm₁, X₁, hstep₁⟩ := X.invokevirtual hexec hown hlink hnamed hmethM hstM hkP hkPi hy (a := b) (cell := cellB) hcell
    (fun z h => by rw [h] at hobj; cases hobj) hselP hmethM habM hkP hkPi (g := g) hg (argsL := argsL) (rest := rest) (hlen _ hsigM) hstack hdg
  rcases hK m meth c ⟨T.setVm vm₁, locs, cells, slots⟩ { g with stack := rest } (.invokevirtual index) mk (Value.ref b :: argsL).toArray X₁ hg hsize hdg hW (X₁.named hnamed) (hpre vm₁ X₁.warmed) with ⟨v, B, X', hpost, hsteps⟩ | ⟨q, B, X', hpost, hsteps⟩
  · exact Or.inl ⟨v, vm₁, B, X₁.warmed, X', hpost, fun target h => hstep₁ _ fun acts => by rw [doInvoke_state]; exact hsteps.trans h⟩
  · exact Or.inr ⟨q, vm₁, B, X₁.warmed, X', hpost, hstep₁ _ fun acts => by rw [doInvoke_state]; exact hsteps⟩
theorem vx_callSX (X : Stand p l e R s m args below meth c T locs cells slots) (hexec : p.tables.exec = Jvm.exec) {own : String} {index : Nat} {y : MethodName} {bytes : ByteArray} {maxL : Nat} {ret : Option FieldType} {hh : List (Nat × Nat × Nat × Nat)}
    (hown : s.vm.findClass own = some m.cls) (hlink : (Cond.methodLink own index y).before args s = true) (hstat : (Cond.static y).before args s = true) (hinit : (Cond.initialized y.cls).before args s = true)
    (hcode : (Cond.codeWith y bytes maxL ret hh).before args s = true) (hy : y.cls ≠ "java/lang/invoke/MethodHandle" ∧ y.cls ≠ "java/lang/invoke/VarHandle")
    {W9 : Nat} {Pre : Pt → Array Value → Prop} {Post : Pt → Array Value → Option Value → Pt → Prop} {PostX : Pt → Array Value → Addr → Pt → Prop} (hK : vx_Back l R p e below s args y 3 W9 Pre Post PostX)
    {g : JFrame} (hg : g.method = m) (hsize : g.locals.size = c.maxLocals) {argsL rest : List Value} (hlen : ∀ sig, parseMethodDescriptor y.desc = some sig → argsL.length = sig.parameters.length)
    (hstack : g.stack = argsL.reverse ++ rest) (hW : 2 * g.monitorRoom + (rest.map fun v => v.category).sum ≤ W9) (hdg : decode c.code g.pc = .ok (.invokestatic index, 3))
    (hpre : ∀ vm₁, s.WarmedH vm₁ → Pre ⟨T.setVm vm₁, locs, cells, slots⟩ argsL.toArray) :
    (∃ (v : Option Value) (vm₁ : Vm) (B : Pt), s.WarmedH vm₁ ∧ Stand p l e R s m args below meth c B.U B.locs B.cells B.slots ∧ Post ⟨T.setVm vm₁, locs, cells, slots⟩ argsL.toArray v B ∧
      ∀ target, Steps p.tables e below (B.U.setTop { g with pc := g.pc + 3, stack := v.toList ++ rest }) target → Steps p.tables e below (T.setTop g) target) ∨
    (∃ (q : Addr) (vm₁ : Vm) (B : Pt), s.WarmedH vm₁ ∧ Stand p l e R s m args below meth c B.U B.locs B.cells B.slots ∧ PostX ⟨T.setVm vm₁, locs, cells, slots⟩ argsL.toArray q B ∧
      Steps p.tables e below (T.setTop g) ((B.U.setTop { g with stack := rest }).pushFrame (.throwing q))) := by
  obtain ⟨mk, methM, cM, hnamed, hmethM, -, -, -, -, -, -, hsigM⟩ := Cond.codeWith_spec hcode
  have hstatic : methM.isStatic = true := Cond.static_spec hnamed hmethM hstat
  obtain ⟨kP, hkP, -⟩ := className_of_methodNamed hnamed
  have hinitP : kP.init = .initialized := Cond.initialized_spec (findClass_of_methodNamed hnamed) hkP hinit
  obtain ⟨vm₁, X₁, hstep₁⟩ := X.invokestatic hexec hown hlink hnamed hmethM hstatic hkP hinitP hy (g := g) hg (argsL := argsL) (rest := rest) (hlen _ hsigM) hstack hdg
  rcases hK m meth c ⟨T.setVm vm₁, locs, cells, slots⟩ { g with stack := rest } (.invokestatic index) mk argsL.toArray X₁ hg hsize hdg hW (X₁.named hnamed) (hpre vm₁ X₁.warmed) with ⟨v, B, X', hpost, hsteps⟩ | ⟨q, B, X', hpost, hsteps⟩
  · exact Or.inl ⟨v, vm₁, B, X₁.warmed, X', hpost, fun target h => hstep₁ _ fun acts => by rw [doInvoke_state]; exact hsteps.trans h⟩
  · exact Or.inr ⟨q, vm₁, B, X₁.warmed, X', hpost, hstep₁ _ fun acts => by rw [doInvoke_state]; exact hsteps⟩
theorem vx_callVW (X : Stand p l e R s m args below meth c T locs cells slots) (hexec : p.tables.exec = Jvm.exec) {own C : String} {index : Nat} {y : MethodName} {bytes : ByteArray} {maxL : Nat} {ret : Option FieldType} {hh : List (Nat × Nat × Nat × Nat)}
    (hown : s.vm.findClass own = some m.cls) (hlink : (Cond.methodLink own index y).before args s = true) (hinst : (Cond.instanceMethod y).before args s = true) (hsel : (Cond.selects C y y).before args s = true)
    (hcode : (Cond.codeWith y bytes maxL ret hh).before args s = true) (hy : y.cls ≠ "java/lang/invoke/MethodHandle" ∧ y.cls ≠ "java/lang/invoke/VarHandle")
    {W9 : Nat} {Pre : Pt → Array Value → Prop} {Post : Pt → Array Value → Option Value → Pt → Prop} (hK : Back l R p e below s args y 3 W9 Pre Post)
    {b : Addr} {cellB : Cell} (hcell : T.heap[b]? = some cellB) (hobj : cellB.vm.isStatics = false) (hcls : s.vm.findClass C = some cellB.cls)
    {g : JFrame} (hg : g.method = m) (hsize : g.locals.size = c.maxLocals) {argsL rest : List Value} (hlen : ∀ sig, parseMethodDescriptor y.desc = some sig → argsL.length = sig.parameters.length)
    (hstack : g.stack = argsL.reverse ++ .ref b :: rest) (hW : 2 * g.monitorRoom + (rest.map fun v => v.category).sum ≤ W9) (hdg : decode c.code g.pc = .ok (.invokevirtual index, 3))
    (hpre : ∀ vm₁, s.WarmedH vm₁ → Pre ⟨T.setVm vm₁, locs, cells, slots⟩ (Value.ref b :: argsL).toArray) :
    ∃ (v : Option Value) (vm₁ : Vm) (B : Pt), s.WarmedH vm₁ ∧ Stand p l e R s m args below meth c B.U B.locs B.cells B.slots ∧ Post ⟨T.setVm vm₁, locs, cells, slots⟩ (Value.ref b :: argsL).toArray v B ∧
      ∀ target, Steps p.tables e below (B.U.setTop { g with pc := g.pc + 3, stack := v.toList ++ rest }) target → Steps p.tables e below (T.setTop g) target := by
  obtain ⟨mk, methM, hnamed, hmethM, hstM, habM⟩ := Cond.instanceMethod_spec hinst
  obtain ⟨m8, methM', cM, hn8, hmethM', -, -, -, -, -, -, hsigM⟩ := Cond.codeWith_spec hcode
  cases Option.some.inj (hn8.symm.trans hnamed)
  cases hmethM.symm.trans hmethM'
  obtain ⟨c2, r2, m2, q1, q2, q3, q4, kP, hkP, hkPi⟩ := Cond.selects_spec hsel
  cases hcls.symm.trans q1
  cases (State.methodFound?_of_named hnamed hy).symm.trans q2
  cases hnamed.symm.trans q3
  have hselP : selectMethod e.platform s.vm cellB.cls mk = .method mk := by rw [Launch.admits_selectMethod X.admits]; exact q4
  obtain ⟨vm₁, X₁, hstep₁⟩ := X.invokevirtual hexec hown hlink hnamed hmethM hstM hkP hkPi hy (a := b) (cell := cellB) hcell
    (fun z h => by rw [h] at hobj; cases hobj) hselP hmethM habM hkP hkPi (g := g) hg (argsL := argsL) (rest := rest) (hlen _ hsigM) hstack hdg
  obtain ⟨v, B, X', hpost, hsteps⟩ := hK m meth c ⟨T.setVm vm₁, locs, cells, slots⟩ { g with stack := rest } (.invokevirtual index) mk (Value.ref b :: argsL).toArray X₁ hg hsize hdg hW (X₁.named hnamed) (hpre vm₁ X₁.warmed)
  exact ⟨v, vm₁, B, X₁.warmed, X', hpost, fun target h => hstep₁ _ fun acts => by rw [doInvoke_state]; exact hsteps.trans h⟩
abbrev vx_CVW (R : Room) (s : State) (args : Array Value) (own C : String) (index : Nat) (y : MethodName) (bytes : ByteArray) (maxL : Nat) (ret : Option FieldType) (hh : List (Nat × Nat × Nat × Nat)) (ws : List Cond) (rm : Room) (mc ms n : Nat) : Prop :=
  (rm.cells = mc ∧ rm.slots = ms ∧ rm.frames + 1 ≤ R.frames ∧ 8 + (maxL + 11) + rm.locals ≤ R.locals ∧ (∀ w ∈ ws, ∀ (a' : Array Value) (U : State), s.WarmedH U.vm → w.before a' U = true) ∧ Cond.codeWith y bytes maxL ret hh ∈ ws) ∧
  (Cond.codeWith y bytes maxL ret hh).before args s = true ∧ (Cond.initialized y.cls).before args s = true ∧ (y.cls ≠ "java/lang/invoke/MethodHandle" ∧ y.cls ≠ "java/lang/invoke/VarHandle") ∧
  (∀ sig, parseMethodDescriptor y.desc = some sig → n = sig.parameters.length) ∧ (Cond.methodLink own index y).before args s = true ∧ (Cond.instanceMethod y).before args s = true ∧ (Cond.selects C y y).before args s = true
theorem vx_cwVW {own C : String} {index maxL mc ms : Nat} {y : MethodName} {bytes : ByteArray} {ret : Option FieldType} {hh : List (Nat × Nat × Nat × Nat)} {Ts ws ws' : List Cond} {rm : Room} (n : Nat) (ht : ∀ w ∈ Ts, w.before args s = true) (hT : GoodIn Ts (wsV own index C y ws)) (hw : ws = Cond.codeWith y bytes maxL ret hh :: ws') (hrc : rm.cells = mc) (hrs : rm.slots = ms)
    (hd : y.cls = C ∧ y.cls ≠ "java/lang/invoke/MethodHandle" ∧ y.cls ≠ "java/lang/invoke/VarHandle" ∧ (parseMethodDescriptor y.desc).map (fun d => d.parameters.length) = some n) (hR : rm.frames + 1 ≤ R.frames ∧ 8 + (maxL + 11) + rm.locals ≤ R.locals) :
    vx_CVW R s args own C index y bytes maxL ret hh ws rm mc ms n := by
  obtain ⟨hC, hd⟩ := hd
  subst hC
  have ok : ∀ w ∈ wsV own index y.cls y ws, w.before args s = true := fun w h => ht w (hT w h).1
  have hG : GoodIn Ts ws := fun w h => hT w (by unfold wsV; exact List.mem_append_right _ h)
  have hc : Cond.codeWith y bytes maxL ret hh ∈ ws := by rw [hw]; exact List.mem_cons_self
  refine ⟨⟨hrc, hrs, hR.1, hR.2, pay_in ht hG, hc⟩, ht _ (hG _ hc).1, ok _ (by simp [wsV]), ⟨hd.1, hd.2.1⟩, fun sig h => ?_, ok _ (by simp [wsV]), ok _ (by simp [wsV]), ok _ (by simp [wsV])⟩
  have h2 := hd.2.2
  rw [h] at h2
  exact (Option.some.inj h2).symm
theorem vx_runVW {y : MethodName} {bytes cc : ByteArray} {maxL nL mc ms n index : Nat} {ret : Option FieldType} {hh : List (Nat × Nat × Nat × Nat)} {ws : List Cond} {rm : Room} {Pc : Array Value → State → Prop} {Qc : Array Value → State → Outcome → State → Prop} {free : Addr → Prop} {Ts : List Cond} {own C : String} {b : Addr} {As rest : List Value} {g : JFrame}
    (S : CallFix p m c cc nL s args Ts own) (hM : Met l y ws rm Pc Qc mc ms free) (cw : vx_CVW R s args own C index y bytes maxL ret hh ws rm mc ms n) (hp : PreV s H C b Pc As)
    (hg : g.method = m) (hn : As.length = n) (hsize : g.locals.size = nL) (hstack : g.stack = As.reverse ++ .ref b :: rest) (hW : 2 * g.monitorRoom + (rest.map fun v => v.category).sum ≤ 8) (hdg : decode cc g.pc = .ok (.invokevirtual index, 3)) (hf : cells + mc ≤ R.cells ∧ slots + ms ≤ R.slots) :
    va_Run p l e R s m args below meth c H locs cells slots mc ms g rest (Qc (Value.ref b :: As).toArray) free := by
  obtain ⟨⟨hrc, hrs, hfr, hlo, hws, hcw⟩, hcode, hini, hy, hlen, hl, hin, hse⟩ := cw
  have hK : Back l R p e below s args y 3 8 (PreOf R mc ms Pc) (PostOf Qc mc ms free) := va_backW (hh := hh) (bytes := bytes) (maxL := maxL) (ret := ret) hM hp.1 hrc hrs hfr hlo hws hcw (fun a' U hW => word_at hW (Or.inl (by first | rfl | simp [Cond.onTables, Cond.keeps, Cond.steady])) hini)
  obtain ⟨hx, hb, hml, ho, -⟩ := S
  obtain ⟨-, ⟨cellB, hcB, hoB, hclB⟩, hPc⟩ := hp
  intro T hT X
  obtain ⟨v, vm₁, ⟨U', l2, c2, s2⟩, hW₁, X', ⟨g', mk, t, L, e1, e2, hq, h1, hL, h2, h3⟩, st⟩ := vx_callVW X hx (C := C) (hh := hh) (bytes := bytes) (maxL := maxL) (ret := ret) ho hl hin hse hcode hy hK (by rw [hT]; exact hcB) hoB hclB hg (hsize.trans hml.symm) (argsL := As) (rest := rest) (fun sig h => hn.trans (hlen sig h)) hstack hW (by rw [hb]; exact hdg)
    (fun vm₁ hW₁ => ⟨hf.1, hf.2, hPc (T.setVm vm₁) hT hW₁⟩)
  dsimp only [Pt.U, Pt.locs, Pt.cells, Pt.slots] at X' e1 e2 h1 h2 h3 st
  subst h1; subst h2; subst h3
  exact ⟨v, (T.setVm vm₁).calling g' mk (Value.ref b :: As).toArray, t, U', L, hT, X', hL, e1, e2, hq, st⟩
section
variable {y : MethodName} {bytes cc : ByteArray} {maxL nL mc ms n index : Nat} {ret : Option FieldType} {ws : List Cond} {rm : Room} {Pc : Array Value → State → Prop} {Qc : Array Value → State → Outcome → State → Prop} {XC : String → State → State → Prop} {free : Addr → Prop} {Ts : List Cond} {own C : String} {b : Addr} {As rest : List Value} {g : JFrame}
theorem vx_runVX {hh : List (Nat × Nat × Nat × Nat)} (S : CallFix p m c cc nL s args Ts own) (hM : vx_Met l y ws rm Pc Qc XC mc ms free) (cw : vx_CVW R s args own C index y bytes maxL ret hh ws rm mc ms n) (hp : PreV s H C b Pc As)
    (hg : g.method = m) (hn : As.length = n) (hsize : g.locals.size = nL) (hstack : g.stack = As.reverse ++ .ref b :: rest) (hW : 2 * g.monitorRoom + (rest.map fun v => v.category).sum ≤ 8) (hdg : decode cc g.pc = .ok (.invokevirtual index, 3)) (hf : cells + mc ≤ R.cells ∧ slots + ms ≤ R.slots) :
    vx_Run p l e R s m args below meth c H locs cells slots mc ms g rest (Qc (Value.ref b :: As).toArray) XC free := by
  obtain ⟨⟨hrc, hrs, hfr, hlo, hws, hcw⟩, hcode, hini, hy, hlen, hl, hin, hse⟩ := cw
  have hK : vx_Back l R p e below s args y 3 8 (PreOf R mc ms Pc) (PostOf Qc mc ms free) (vx_Post XC mc ms free) := vx_backW (hh := hh) (bytes := bytes) (maxL := maxL) (ret := ret) hM hp.1 hrc hrs hfr hlo hws hcw (fun a' U hW => word_at hW (Or.inl (by first | rfl | simp [Cond.onTables, Cond.keeps, Cond.steady])) hini)
  obtain ⟨hx, hb, hml, ho, -⟩ := S
  obtain ⟨-, ⟨cellB, hcB, hoB, hclB⟩, hPc⟩ := hp
  intro T hT X
  rcases vx_callVX X hx (C := C) (hh := hh) (bytes := bytes) (maxL := maxL) (ret := ret) ho hl hin hse hcode hy hK (by rw [hT]; exact hcB) hoB hclB hg (hsize.trans hml.symm) (argsL := As) (rest := rest) (fun sig h => hn.trans (hlen sig h)) hstack hW (by rw [hb]; exact hdg)
    (fun vm₁ hW₁ => ⟨hf.1, hf.2, hPc (T.setVm vm₁) hT hW₁⟩) with ⟨v, vm₁, ⟨U', l2, c2, s2⟩, hW₁, X', ⟨g', mk, t, L, e1, e2, hq, h1, hL, h2, h3⟩, st⟩ | ⟨q, vm₁, ⟨U', l2, c2, s2⟩, hW₁, X', ⟨g', mk, t, L, E, ce, e1, e2, hq, hce, hcv, hcl, h1, hL, h2, h3⟩, st⟩
  · dsimp only [Pt.U, Pt.locs, Pt.cells, Pt.slots] at X' e1 e2 h1 h2 h3 st
    subst h1; subst h2; subst h3
    exact Or.inl ⟨v, (T.setVm vm₁).calling g' mk (Value.ref b :: As).toArray, t, U', L, hT, X', hL, e1, e2, hq, st⟩
  · dsimp only [Pt.U, Pt.locs, Pt.cells, Pt.slots] at X' e1 e2 h1 h2 h3 st hcl
    subst h1; subst h2; subst h3
    exact Or.inr ⟨q, (T.setVm vm₁).calling g' mk (Value.ref b :: As).toArray, t, U', L, E, ce, hT, X', hL, e1, e2, hq, hce, hcv, vx_cls hW₁ hcl, st⟩
theorem vx_runSX {hh : List (Nat × Nat × Nat × Nat)} (S : CallFix p m c cc nL s args Ts own) (hM : vx_Met l y ws rm Pc Qc XC mc ms free) (cw : vx_CSW R s args own index y bytes maxL ret hh ws rm mc ms n) (hp : PreS s H Pc As)
    (hg : g.method = m) (hn : As.length = n) (hsize : g.locals.size = nL) (hstack : g.stack = As.reverse ++ rest) (hW : 2 * g.monitorRoom + (rest.map fun v => v.category).sum ≤ 8) (hdg : decode cc g.pc = .ok (.invokestatic index, 3)) (hf : cells + mc ≤ R.cells ∧ slots + ms ≤ R.slots) :
    vx_Run p l e R s m args below meth c H locs cells slots mc ms g rest (Qc As.toArray) XC free := by
  obtain ⟨⟨hrc, hrs, hfr, hlo, hws, hcw⟩, hcode, hini, hy, hlen, hl, hstt⟩ := cw
  have hK : vx_Back l R p e below s args y 3 8 (PreOf R mc ms Pc) (PostOf Qc mc ms free) (vx_Post XC mc ms free) := vx_backW (hh := hh) (bytes := bytes) (maxL := maxL) (ret := ret) hM hp.1 hrc hrs hfr hlo hws hcw (fun a' U hW => word_at hW (Or.inl (by first | rfl | simp [Cond.onTables, Cond.keeps, Cond.steady])) hini)
  obtain ⟨hx, hb, hml, ho, -⟩ := S
  intro T hT X
  rcases vx_callSX X hx (hh := hh) (bytes := bytes) (maxL := maxL) (ret := ret) ho hl hstt hini hcode hy hK hg (hsize.trans hml.symm) (argsL := As) (rest := rest) (fun sig h => hn.trans (hlen sig h)) hstack hW (by rw [hb]; exact hdg)
    (fun vm₁ hW₁ => ⟨hf.1, hf.2, hp.2 (T.setVm vm₁) hT hW₁⟩) with ⟨v, vm₁, ⟨U', l2, c2, s2⟩, hW₁, X', ⟨g', mk, t, L, e1, e2, hq, h1, hL, h2, h3⟩, st⟩ | ⟨q, vm₁, ⟨U', l2, c2, s2⟩, hW₁, X', ⟨g', mk, t, L, E, ce, e1, e2, hq, hce, hcv, hcl, h1, hL, h2, h3⟩, st⟩
  · dsimp only [Pt.U, Pt.locs, Pt.cells, Pt.slots] at X' e1 e2 h1 h2 h3 st
    subst h1; subst h2; subst h3
    exact Or.inl ⟨v, (T.setVm vm₁).calling g' mk As.toArray, t, U', L, hT, X', hL, e1, e2, hq, st⟩
  · dsimp only [Pt.U, Pt.locs, Pt.cells, Pt.slots] at X' e1 e2 h1 h2 h3 st hcl
    subst h1; subst h2; subst h3
    exact Or.inr ⟨q, (T.setVm vm₁).calling g' mk As.toArray, t, U', L, E, ce, hT, X', hL, e1, e2, hq, hce, hcv, vx_cls hW₁ hcl, st⟩
end
end VXH
theorem vx_ofWH {l : Launch} {y : MethodName} {ws ws' : List Cond} {rm : Room} {Pc : Array Value → State → Prop} {Qc : Array Value → State → Outcome → State → Prop} {XC : String → State → State → Prop} {mc ms : Nat} {free : Addr → Prop} {cc : ByteArray} {maxL : Nat} {ret : Option FieldType} {hh : List (Nat × Nat × Nat × Nat)}
    (hy : plainName y.cls = true) (hw : ws = Cond.codeWith y cc maxL ret hh :: ws')
    (body : ∀ p e s m args below meth c s₁, BodyLoose p l y (headSpec ws rm) cc maxL ret e s m args below meth c s₁ → c.maxLocals = maxL → Pc args s →
      W p l e (headSpec ws rm).room s m args below meth c s.heap [] 0 0 (vx_MQ below Qc XC args s mc ms free) (entryFrame m args maxL)) : vx_Met l y ws rm Pc Qc XC mc ms free := by
  refine MetFree.of_bodyS (code := cc) (maxLocals := maxL) (ret := ret) hy ?_ ?_
  · intro args s m h hn
    obtain ⟨m9, meth, c, hn9, h1, h2, h3, h4, -, h5, h6, -⟩ := Cond.codeWith_spec (atoms_spec (ws := ws) h _ (by rw [hw]; exact List.mem_cons_self))
    cases hn.symm.trans hn9
    exact ⟨meth, c, h1, h2, h3, h4, h5, h6⟩
  · intro p e s m args below meth c s₁ B hml hP _
    have hh0 : s₁.heap = s.heap := by rw [B.state]; rfl
    obtain ⟨t, a1, o, b1, b2, b3⟩ := body p e s m args below meth c s₁ B hml hP s₁ hh0 (Stand.of_body B)
    exact ⟨t, o, a1, b1, b2, b3⟩
/-! ===== END ===== -/
end
section
/-! ===== BEGIN printed: names, fields, word lists, decode rows ===== -/
def RX0 : String := "FormworkYard$Pour"
def TX0 : u_T := fun k => match k with
  | 0 => ("FormworkYard$Pour", "volume", "I", true)
  | 1 => ("FormworkYard$Pour", "panels", "I", true)
  | 2 => ("FormworkYard$Pour", "wanted", "I", true)
  | 3 => ("FormworkYard$Pour", "start", "I", false)
  | 4 => ("FormworkYard$Pour", "breaks", "I", false)
  | 5 => ("FormworkYard$Pour", "parts", "[I", true)
  | 6 => ("FormworkYard$Pour", "lengths", "[I", true)
  | 7 => ("FormworkYard$Pour", "end", "I", false)
  | 8 => ("FormworkYard$Pour", "strike", "I", false)
  | 9 => ("FormworkYard$Pour", "busyFrom", "I", false)
  | 10 => ("FormworkYard$Pour", "busyUntil", "I", false)
  | 11 => ("FormworkYard$Pour", "given", "J", false)
  | _ => ("FormworkYard$Pour", "served", "Z", false)
def tyX0 : Nat → FieldType := fun k => match k with
  | 0 => .int
  | 1 => .int
  | 2 => .int
  | 3 => .int
  | 4 => .int
  | 5 => .array .int
  | 6 => .array .int
  | 7 => .int
  | 8 => .int
  | 9 => .int
  | 10 => .int
  | 11 => .long
  | _ => .boolean
abbrev wsX00 : List Cond := u_ws RX0 TX0 13
theorem nmX0 : ∀ a, a < 13 → ∀ b, b < 13 → a ≠ b → (TX0 a).2.1 ≠ (TX0 b).2.1 := by decide +kernel
theorem tyX0_ok : ∀ k, k < 13 → parseFieldDescriptor (TX0 k).2.2.1 = some (tyX0 k) := by decide +kernel
abbrev cX0_init : ByteArray := prog_2_method_1_code
def yX0_init : MethodName := ⟨RX0, "<init>", "(IIII)V"⟩
abbrev cX0_hoursOfBreaks : ByteArray := prog_2_method_3_code
def yX0_hoursOfBreaks : MethodName := ⟨RX0, "hoursOfBreaks", "()I"⟩
abbrev cX0_isBusy : ByteArray := prog_2_method_4_code
def yX0_isBusy : MethodName := ⟨RX0, "isBusy", "(I)Z"⟩
def RX1 : String := "FormworkYard"
def TX1 : u_T := fun k => match k with
  | 0 => ("FormworkYard", "temperatures", "[I", true)
  | 1 => ("FormworkYard", "gained", "[I", true)
  | 2 => ("FormworkYard", "needs", "[I", true)
  | 3 => ("FormworkYard", "nextFull", "[I", true)
  | 4 => ("FormworkYard", "pourList", "[LFormworkYard$Pour;", true)
  | 5 => ("FormworkYard", "yardPanels", "I", false)
  | 6 => ("FormworkYard", "rate", "I", false)
  | 7 => ("FormworkYard", "setUpHours", "I", false)
  | _ => ("FormworkYard", "cleaningHours", "I", false)
def tyX1 : Nat → FieldType := fun k => match k with
  | 0 => .array .int
  | 1 => .array .int
  | 2 => .array .int
  | 3 => .array .int
  | 4 => .array (.object "FormworkYard$Pour")
  | 5 => .int
  | 6 => .int
  | 7 => .int
  | _ => .int
abbrev wsX10 : List Cond := u_ws RX1 TX1 9
theorem nmX1 : ∀ a, a < 9 → ∀ b, b < 9 → a ≠ b → (TX1 a).2.1 ≠ (TX1 b).2.1 := by decide +kernel
theorem tyX1_ok : ∀ k, k < 9 → parseFieldDescriptor (TX1 k).2.2.1 = some (tyX1 k) := by decide +kernel
abbrev cX1_init : ByteArray := prog_1_method_1_code
def yX1_init : MethodName := ⟨RX1, "<init>", "()V"⟩
abbrev cX1_setTemperature : ByteArray := prog_1_method_2_code
def yX1_setTemperature : MethodName := ⟨RX1, "setTemperature", "(III)V"⟩
abbrev cX1_maturity : ByteArray := prog_1_method_4_code
def yX1_maturity : MethodName := ⟨RX1, "maturity", "(II)I"⟩
abbrev cX1_strength : ByteArray := prog_1_method_5_code
def yX1_strength : MethodName := ⟨RX1, "strength", "(I)I"⟩
abbrev cX1_setPanels : ByteArray := prog_1_method_6_code
def yX1_setPanels : MethodName := ⟨RX1, "setPanels", "(I)I"⟩
abbrev cX1_setRates : ByteArray := prog_1_method_7_code
def yX1_setRates : MethodName := ⟨RX1, "setRates", "(II)I"⟩
abbrev cX1_setCrew : ByteArray := prog_1_method_8_code
def yX1_setCrew : MethodName := ⟨RX1, "setCrew", "(II)V"⟩
abbrev cX1_plan : ByteArray := prog_1_method_9_code
def yX1_plan : MethodName := ⟨RX1, "plan", "(IIII)I"⟩
abbrev cX1_move : ByteArray := prog_1_method_10_code
def yX1_move : MethodName := ⟨RX1, "move", "(II)I"⟩
abbrev cX1_cancel : ByteArray := prog_1_method_11_code
def yX1_cancel : MethodName := ⟨RX1, "cancel", "(I)I"⟩
abbrev cX1_pours : ByteArray := prog_1_method_13_code
def yX1_pours : MethodName := ⟨RX1, "pours", "()I"⟩
abbrev cX1_endOf : ByteArray := prog_1_method_14_code
def yX1_endOf : MethodName := ⟨RX1, "endOf", "(I)I"⟩
abbrev cX1_struck : ByteArray := prog_1_method_16_code
def yX1_struck : MethodName := ⟨RX1, "struck", "(I)I"⟩
abbrev cX1_freeFrom : ByteArray := prog_1_method_17_code
def yX1_freeFrom : MethodName := ⟨RX1, "freeFrom", "(I)I"⟩
abbrev cX1_need : ByteArray := prog_1_method_18_code
def yX1_need : MethodName := ⟨RX1, "need", "(I)I"⟩
abbrev cX1_peak : ByteArray := prog_1_method_19_code
def yX1_peak : MethodName := ⟨RX1, "peak", "()I"⟩
abbrev cX1_peakByOverlaps : ByteArray := prog_1_method_20_code
def yX1_peakByOverlaps : MethodName := ⟨RX1, "peakByOverlaps", "()I"⟩
abbrev cX1_firstShort : ByteArray := prog_1_method_21_code
def yX1_firstShort : MethodName := ⟨RX1, "firstShort", "()I"⟩
abbrev cX1_panelsOf : ByteArray := prog_1_method_23_code
def yX1_panelsOf : MethodName := ⟨RX1, "panelsOf", "(I)I"⟩
abbrev cX1_pourOf : ByteArray := prog_1_method_24_code
def yX1_pourOf : MethodName := ⟨RX1, "pourOf", "(II)I"⟩
abbrev cX1_isHour : ByteArray := prog_1_method_25_code
def yX1_isHour : MethodName := ⟨RX1, "isHour", "(I)Z"⟩
abbrev cX1_isNumber : ByteArray := prog_1_method_26_code
def yX1_isNumber : MethodName := ⟨RX1, "isNumber", "(I)Z"⟩
abbrev cX1_requireHour : ByteArray := prog_1_method_27_code
def yX1_requireHour : MethodName := ⟨RX1, "requireHour", "(I)V"⟩
abbrev cX1_require : ByteArray := prog_1_method_28_code
def yX1_require : MethodName := ⟨RX1, "require", "(Z)V"⟩
abbrev cX1_requireRange : ByteArray := prog_1_method_29_code
def yX1_requireRange : MethodName := ⟨RX1, "requireRange", "(III)V"⟩
abbrev cX1_requirePour : ByteArray := prog_1_method_30_code
def yX1_requirePour : MethodName := ⟨RX1, "requirePour", "(IIII)V"⟩
abbrev cX1_existing : ByteArray := prog_1_method_31_code
def yX1_existing : MethodName := ⟨RX1, "existing", "(I)LFormworkYard$Pour;"⟩
abbrev cX1_freeNumber : ByteArray := prog_1_method_32_code
def yX1_freeNumber : MethodName := ⟨RX1, "freeNumber", "()I"⟩
abbrev cX1_sumGains : ByteArray := prog_1_method_33_code
def yX1_sumGains : MethodName := ⟨RX1, "sumGains", "()V"⟩
abbrev cX1_gainBetween : ByteArray := prog_1_method_34_code
def yX1_gainBetween : MethodName := ⟨RX1, "gainBetween", "(II)I"⟩
abbrev cX1_strengthAt : ByteArray := prog_1_method_35_code
def yX1_strengthAt : MethodName := ⟨RX1, "strengthAt", "(I)I"⟩
abbrev cX1_fullHours : ByteArray := prog_1_method_36_code
def yX1_fullHours : MethodName := ⟨RX1, "fullHours", "(I)I"⟩
abbrev cX1_startedHours : ByteArray := prog_1_method_37_code
def yX1_startedHours : MethodName := ⟨RX1, "startedHours", "(I)I"⟩
abbrev cX1_standHour : ByteArray := prog_1_method_38_code
def yX1_standHour : MethodName := ⟨RX1, "standHour", "(I)I"⟩
abbrev cX1_strikeHour : ByteArray := prog_1_method_39_code
def yX1_strikeHour : MethodName := ⟨RX1, "strikeHour", "(II)I"⟩
abbrev cX1_releaseHour : ByteArray := prog_1_method_40_code
def yX1_releaseHour : MethodName := ⟨RX1, "releaseHour", "(I)I"⟩
abbrev cX1_schedule : ByteArray := prog_1_method_41_code
def yX1_schedule : MethodName := ⟨RX1, "schedule", "(LFormworkYard$Pour;)V"⟩
abbrev cX1_scheduleAll : ByteArray := prog_1_method_42_code
def yX1_scheduleAll : MethodName := ⟨RX1, "scheduleAll", "()V"⟩
abbrev cX1_needIn : ByteArray := prog_1_method_43_code
def yX1_needIn : MethodName := ⟨RX1, "needIn", "(I)I"⟩
abbrev cX1_sumNeeds : ByteArray := prog_1_method_44_code
def yX1_sumNeeds : MethodName := ⟨RX1, "sumNeeds", "()V"⟩
abbrev cX1_giveOutPanels : ByteArray := prog_1_method_46_code
def yX1_giveOutPanels : MethodName := ⟨RX1, "giveOutPanels", "()V"⟩
abbrev cX1_nextToServe : ByteArray := prog_1_method_47_code
def yX1_nextToServe : MethodName := ⟨RX1, "nextToServe", "()LFormworkYard$Pour;"⟩
abbrev cX1_panelsBusyIn : ByteArray := prog_1_method_48_code
def yX1_panelsBusyIn : MethodName := ⟨RX1, "panelsBusyIn", "(I)J"⟩
abbrev cX1_lowestPanels : ByteArray := prog_1_method_49_code
def yX1_lowestPanels : MethodName := ⟨RX1, "lowestPanels", "(JI)J"⟩
def RX2 : String := "FormworkYardModel"
def TX2 : u_T := fun k => match k with
  | _ => ("", "", "", false)
def tyX2 : Nat → FieldType := fun k => match k with
  | _ => .int
abbrev wsX20 : List Cond := u_ws RX2 TX2 0
theorem nmX2 : ∀ a, a < 0 → ∀ b, b < 0 → a ≠ b → (TX2 a).2.1 ≠ (TX2 b).2.1 := by decide +kernel
theorem tyX2_ok : ∀ k, k < 0 → parseFieldDescriptor (TX2 k).2.2.1 = some (tyX2 k) := by decide +kernel
def RJx145de : String := "java/io/Serializable"
def TJx145de : u_T := fun k => match k with
  | _ => ("", "", "", false)
def tyJx145de : Nat → FieldType := fun k => match k with
  | _ => .int
abbrev wsJx145de0 : List Cond := u_ws RJx145de TJx145de 0
theorem nmJx145de : ∀ a, a < 0 → ∀ b, b < 0 → a ≠ b → (TJx145de a).2.1 ≠ (TJx145de b).2.1 := by decide +kernel
theorem tyJx145de_ok : ∀ k, k < 0 → parseFieldDescriptor (TJx145de k).2.2.1 = some (tyJx145de k) := by decide +kernel
def RJ13 : String := "java/lang/Long"
def TJ13 : u_T := fun k => match k with
  | _ => ("", "", "", false)
def tyJ13 : Nat → FieldType := fun k => match k with
  | _ => .int
abbrev wsJ130 : List Cond := u_ws RJ13 TJ13 0
theorem nmJ13 : ∀ a, a < 0 → ∀ b, b < 0 → a ≠ b → (TJ13 a).2.1 ≠ (TJ13 b).2.1 := by decide +kernel
theorem tyJ13_ok : ∀ k, k < 0 → parseFieldDescriptor (TJ13 k).2.2.1 = some (tyJ13 k) := by decide +kernel
abbrev cJ13_bitCount_95d88 : ByteArray := prog_10_method_50_code
def yJ13_bitCount_95d88 : MethodName := ⟨RJ13, "bitCount", "(J)I"⟩
def RJ9 : String := "java/lang/Math"
def TJ9 : u_T := fun k => match k with
  | _ => ("", "", "", false)
def tyJ9 : Nat → FieldType := fun k => match k with
  | _ => .int
abbrev wsJ90 : List Cond := u_ws RJ9 TJ9 0
theorem nmJ9 : ∀ a, a < 0 → ∀ b, b < 0 → a ≠ b → (TJ9 a).2.1 ≠ (TJ9 b).2.1 := by decide +kernel
theorem tyJ9_ok : ∀ k, k < 0 → parseFieldDescriptor (TJ9 k).2.2.1 = some (tyJ9 k) := by decide +kernel
abbrev cJ9_max_7cf53 : ByteArray := prog_11_method_65_code
def yJ9_max_7cf53 : MethodName := ⟨RJ9, "max", "(II)I"⟩
abbrev cJ9_min_7cf53 : ByteArray := prog_11_method_69_code
def yJ9_min_7cf53 : MethodName := ⟨RJ9, "min", "(II)I"⟩
def RJ7 : String := "java/util/Arrays"
def TJ7 : u_T := fun k => match k with
  | _ => ("", "", "", false)
def tyJ7 : Nat → FieldType := fun k => match k with
  | _ => .int
abbrev wsJ70 : List Cond := u_ws RJ7 TJ7 0
theorem nmJ7 : ∀ a, a < 0 → ∀ b, b < 0 → a ≠ b → (TJ7 a).2.1 ≠ (TJ7 b).2.1 := by decide +kernel
theorem tyJ7_ok : ∀ k, k < 0 → parseFieldDescriptor (TJ7 k).2.2.1 = some (tyJ7 k) := by decide +kernel
abbrev cJ7_fill_53178 : ByteArray := prog_14_method_103_code
def yJ7_fill_53178 : MethodName := ⟨RJ7, "fill", "([II)V"⟩
def RL : String := "FormworkYardLaw"
abbrev cL_cell : ByteArray := method_2_code
def yL_cell : MethodName := ⟨RL, "cell", "([II)I"⟩
abbrev cL_low : ByteArray := method_3_code
def yL_low : MethodName := ⟨RL, "low", "(II)I"⟩
abbrev cL_isStruck : ByteArray := method_4_code
def yL_isStruck : MethodName := ⟨RL, "isStruck", "(LFormworkYard;[I[II)Z"⟩
abbrev cL_isBusy : ByteArray := method_5_code
def yL_isBusy : MethodName := ⟨RL, "isBusy", "(LFormworkYard;[I[III)Z"⟩
abbrev cL_isHour : ByteArray := method_6_code
def yL_isHour : MethodName := ⟨RL, "isHour", "(LFormworkYard;[I[I[I[II)Z"⟩
abbrev cL_law : ByteArray := code
def yL_law : MethodName := ⟨RL, "law", "([I)Z"⟩
def wsX0_init : List Cond := .code yX0_init cX0_init 5 none :: ([.methodLink RX0 3 objectInit, .instanceMethod objectInit, .code objectInit ⟨#[0xb1]⟩ 1 none, .arrayClass .int, .fieldLink RX0 9 "FormworkYard$Pour" "parts" "[I", .fieldLink RX0 15 "FormworkYard$Pour" "lengths" "[I", .fieldLink RX0 18 "FormworkYard$Pour" "start" "I", .fieldLink RX0 22 "FormworkYard$Pour" "volume" "I", .fieldLink RX0 25 "FormworkYard$Pour" "panels" "I", .fieldLink RX0 28 "FormworkYard$Pour" "wanted" "I"] ++ wsX00)
def wsX0_hoursOfBreaks : List Cond := .code yX0_hoursOfBreaks cX0_hoursOfBreaks 3 (some .int) :: ([.fieldLink RX0 31 "FormworkYard$Pour" "breaks" "I", .fieldLink RX0 15 "FormworkYard$Pour" "lengths" "[I"] ++ wsX00)
def wsX0_isBusy : List Cond := .code yX0_isBusy cX0_isBusy 2 (some .boolean) :: ([.fieldLink RX0 34 "FormworkYard$Pour" "busyFrom" "I", .fieldLink RX0 37 "FormworkYard$Pour" "busyUntil" "I"] ++ wsX00)
def wsJ7_fill_53178 : List Cond := .code yJ7_fill_53178 cJ7_fill_53178 4 none :: ([])
def wsX1_sumGains : List Cond := .code yX1_sumGains cX1_sumGains 2 none :: ([.fieldLink RX1 13 "FormworkYard" "gained" "[I", .fieldLink RX1 9 "FormworkYard" "temperatures" "[I", .methodLink RX1 144 Lib.Math.max.name, .static Lib.Math.max.name, .initialized "java/lang/Math", .code Lib.Math.max.name Lib.Math.max.code 2 (some .int)] ++ wsX10)
def wsX1_init_r1 : List Cond := [Cond.methodLink RX1 1 objectInit, Cond.instanceMethod objectInit, Cond.code objectInit ⟨#[0xb1]⟩ 1 none, Cond.arrayClass .int, Cond.fieldLink RX1 9 "FormworkYard" "temperatures" "[I", Cond.fieldLink RX1 13 "FormworkYard" "gained" "[I", Cond.fieldLink RX1 16 "FormworkYard" "needs" "[I", Cond.fieldLink RX1 19 "FormworkYard" "nextFull" "[I", Cond.classLink RX1 22 RX0, Cond.fieldLink RX1 24 "FormworkYard" "pourList" "[LFormworkYard$Pour;", Cond.fieldLink RX1 28 "FormworkYard" "yardPanels" "I", Cond.fieldLink RX1 32 "FormworkYard" "rate" "I", Cond.fieldLink RX1 35 "FormworkYard" "setUpHours" "I", Cond.fieldLink RX1 38 "FormworkYard" "cleaningHours" "I", Cond.methodLink RX1 41 yJ7_fill_53178, Cond.static yJ7_fill_53178, Cond.initialized RJ7, Cond.code yJ7_fill_53178 cJ7_fill_53178 4 none, Cond.methodLink RX1 47 yX1_sumGains, Cond.instanceMethod yX1_sumGains, Cond.selects RX1 yX1_sumGains yX1_sumGains, Cond.initialized RX1, Cond.code yX1_sumGains cX1_sumGains 2 none, Cond.methodLink RX1 144 Lib.Math.max.name]
def wsX1_init_r2 : List Cond := [Cond.static Lib.Math.max.name, Cond.initialized "java/lang/Math", Cond.code Lib.Math.max.name Lib.Math.max.code 2 (some .int)]
def wsX1_init : List Cond := .code yX1_init cX1_init 1 none :: ((wsX1_init_r1 ++ wsX1_init_r2) ++ wsX10)
def wsX1_isHour : List Cond := .code yX1_isHour cX1_isHour 1 (some .boolean) :: ([])
def wsX1_requireHour : List Cond := .code yX1_requireHour cX1_requireHour 1 none :: ([.classLink RX1 181 "java/lang/IndexOutOfBoundsException", .initialized "java/lang/IndexOutOfBoundsException", .methodLink RX1 165 yX1_isHour, .static yX1_isHour, .initialized RX1, .code yX1_isHour cX1_isHour 1 (some .boolean)] ++ (vx_at0 RX1 183 "java/lang/IndexOutOfBoundsException" ["java/lang/RuntimeException", "java/lang/Exception"]).filter goodWord)
def wsX1_require : List Cond := .code yX1_require cX1_require 1 none :: ([.classLink RX1 187 "java/lang/IllegalArgumentException", .initialized "java/lang/IllegalArgumentException"] ++ (vx_at0 RX1 189 "java/lang/IllegalArgumentException" ["java/lang/RuntimeException", "java/lang/Exception"]).filter goodWord)
def wsX1_requireRange : List Cond := .code yX1_requireRange cX1_requireRange 3 none :: ([.methodLink RX1 54 yX1_require, .static yX1_require, .initialized RX1, .code yX1_require cX1_require 1 none, .classLink RX1 187 "java/lang/IllegalArgumentException", .initialized "java/lang/IllegalArgumentException"] ++ (vx_at0 RX1 189 "java/lang/IllegalArgumentException" ["java/lang/RuntimeException", "java/lang/Exception"]).filter goodWord)
def wsX1_fullHours : List Cond := .code yX1_fullHours cX1_fullHours 2 (some .int) :: ([.fieldLink RX1 32 "FormworkYard" "rate" "I"] ++ wsX10)
def wsX1_startedHours : List Cond := .code yX1_startedHours cX1_startedHours 2 (some .int) :: ([.fieldLink RX1 32 "FormworkYard" "rate" "I", .methodLink RX1 126 yX1_fullHours, .instanceMethod yX1_fullHours, .selects RX1 yX1_fullHours yX1_fullHours, .initialized RX1, .code yX1_fullHours cX1_fullHours 2 (some .int)] ++ wsX10)
def wsX1_gainBetween : List Cond := .code yX1_gainBetween cX1_gainBetween 4 (some .int) :: ([.methodLink RX1 74 Lib.Math.min.name, .static Lib.Math.min.name, .initialized "java/lang/Math", .code Lib.Math.min.name Lib.Math.min.code 2 (some .int), .fieldLink RX1 13 "FormworkYard" "gained" "[I"] ++ wsX10)
def wsX1_strengthAt : List Cond := .code yX1_strengthAt cX1_strengthAt 4 (some .int) :: ([.fieldLink RX1 193 "FormworkYard" "STEPS" "[I"])
def wsX1_strikeHour : List Cond := .code yX1_strikeHour cX1_strikeHour 6 (some .int) :: ([.methodLink RX1 65 yX1_gainBetween, .instanceMethod yX1_gainBetween, .selects RX1 yX1_gainBetween yX1_gainBetween, .initialized RX1, .code yX1_gainBetween cX1_gainBetween 4 (some .int), .methodLink RX1 74 Lib.Math.min.name, .static Lib.Math.min.name, .initialized "java/lang/Math", .code Lib.Math.min.name Lib.Math.min.code 2 (some .int), .fieldLink RX1 13 "FormworkYard" "gained" "[I", .methodLink RX1 70 yX1_strengthAt, .static yX1_strengthAt, .code yX1_strengthAt cX1_strengthAt 4 (some .int), .fieldLink RX1 193 "FormworkYard" "STEPS" "[I"] ++ wsX10)
def wsX1_standHour : List Cond := .code yX1_standHour cX1_standHour 2 (some .int) :: ([.fieldLink RX1 35 "FormworkYard" "setUpHours" "I", .methodLink RX1 144 Lib.Math.max.name, .static Lib.Math.max.name, .initialized "java/lang/Math", .code Lib.Math.max.name Lib.Math.max.code 2 (some .int)] ++ wsX10)
def wsX1_releaseHour : List Cond := .code yX1_releaseHour cX1_releaseHour 2 (some .int) :: ([.fieldLink RX1 38 "FormworkYard" "cleaningHours" "I", .methodLink RX1 74 Lib.Math.min.name, .static Lib.Math.min.name, .initialized "java/lang/Math", .code Lib.Math.min.name Lib.Math.min.code 2 (some .int)] ++ wsX10)
def wsX1_schedule_r1 : List Cond := [Cond.methodLink RX1 153 yX1_startedHours, Cond.instanceMethod yX1_startedHours, Cond.selects RX1 yX1_startedHours yX1_startedHours, Cond.initialized RX1, Cond.code yX1_startedHours cX1_startedHours 2 (some .int), Cond.fieldLink RX1 32 "FormworkYard" "rate" "I", Cond.methodLink RX1 126 yX1_fullHours, Cond.instanceMethod yX1_fullHours, Cond.selects RX1 yX1_fullHours yX1_fullHours, Cond.code yX1_fullHours cX1_fullHours 2 (some .int), Cond.instanceMethod yX0_hoursOfBreaks, Cond.initialized RX0, Cond.selects RX0 yX0_hoursOfBreaks yX0_hoursOfBreaks, Cond.code yX0_hoursOfBreaks cX0_hoursOfBreaks 3 (some .int), Cond.fieldLink RX0 31 "FormworkYard$Pour" "breaks" "I", Cond.fieldLink RX0 15 "FormworkYard$Pour" "lengths" "[I", Cond.methodLink RX1 159 yX1_strikeHour, Cond.instanceMethod yX1_strikeHour, Cond.selects RX1 yX1_strikeHour yX1_strikeHour, Cond.code yX1_strikeHour cX1_strikeHour 6 (some .int), Cond.methodLink RX1 65 yX1_gainBetween, Cond.instanceMethod yX1_gainBetween, Cond.selects RX1 yX1_gainBetween yX1_gainBetween, Cond.code yX1_gainBetween cX1_gainBetween 4 (some .int)]
def wsX1_schedule_r2 : List Cond := [Cond.methodLink RX1 74 Lib.Math.min.name, Cond.static Lib.Math.min.name, Cond.initialized "java/lang/Math", Cond.code Lib.Math.min.name Lib.Math.min.code 2 (some .int), Cond.fieldLink RX1 13 "FormworkYard" "gained" "[I", Cond.methodLink RX1 70 yX1_strengthAt, Cond.static yX1_strengthAt, Cond.code yX1_strengthAt cX1_strengthAt 4 (some .int), Cond.fieldLink RX1 193 "FormworkYard" "STEPS" "[I", Cond.methodLink RX1 156 yX1_standHour, Cond.instanceMethod yX1_standHour, Cond.selects RX1 yX1_standHour yX1_standHour, Cond.code yX1_standHour cX1_standHour 2 (some .int), Cond.fieldLink RX1 35 "FormworkYard" "setUpHours" "I", Cond.methodLink RX1 144 Lib.Math.max.name, Cond.static Lib.Math.max.name, Cond.code Lib.Math.max.name Lib.Math.max.code 2 (some .int), Cond.methodLink RX1 162 yX1_releaseHour, Cond.instanceMethod yX1_releaseHour, Cond.selects RX1 yX1_releaseHour yX1_releaseHour, Cond.code yX1_releaseHour cX1_releaseHour 2 (some .int), Cond.fieldLink RX1 38 "FormworkYard" "cleaningHours" "I"]
def wsX1_schedule : List Cond := .code yX1_schedule cX1_schedule 2 none :: ((wsX1_schedule_r1 ++ wsX1_schedule_r2) ++ wsX00 ++ wsX10)
def wsX1_scheduleAll_r1 : List Cond := [Cond.fieldLink RX1 24 "FormworkYard" "pourList" "[LFormworkYard$Pour;", Cond.methodLink RX1 96 yX1_schedule, Cond.instanceMethod yX1_schedule, Cond.selects RX1 yX1_schedule yX1_schedule, Cond.initialized RX1, Cond.code yX1_schedule cX1_schedule 2 none, Cond.methodLink RX1 153 yX1_startedHours, Cond.instanceMethod yX1_startedHours, Cond.selects RX1 yX1_startedHours yX1_startedHours, Cond.code yX1_startedHours cX1_startedHours 2 (some .int), Cond.fieldLink RX1 32 "FormworkYard" "rate" "I", Cond.methodLink RX1 126 yX1_fullHours, Cond.instanceMethod yX1_fullHours, Cond.selects RX1 yX1_fullHours yX1_fullHours, Cond.code yX1_fullHours cX1_fullHours 2 (some .int), Cond.instanceMethod yX0_hoursOfBreaks, Cond.initialized RX0, Cond.selects RX0 yX0_hoursOfBreaks yX0_hoursOfBreaks, Cond.code yX0_hoursOfBreaks cX0_hoursOfBreaks 3 (some .int), Cond.fieldLink RX0 31 "FormworkYard$Pour" "breaks" "I", Cond.fieldLink RX0 15 "FormworkYard$Pour" "lengths" "[I", Cond.methodLink RX1 159 yX1_strikeHour, Cond.instanceMethod yX1_strikeHour, Cond.selects RX1 yX1_strikeHour yX1_strikeHour]
def wsX1_scheduleAll_r2 : List Cond := [Cond.code yX1_strikeHour cX1_strikeHour 6 (some .int), Cond.methodLink RX1 65 yX1_gainBetween, Cond.instanceMethod yX1_gainBetween, Cond.selects RX1 yX1_gainBetween yX1_gainBetween, Cond.code yX1_gainBetween cX1_gainBetween 4 (some .int), Cond.methodLink RX1 74 Lib.Math.min.name, Cond.static Lib.Math.min.name, Cond.initialized "java/lang/Math", Cond.code Lib.Math.min.name Lib.Math.min.code 2 (some .int), Cond.fieldLink RX1 13 "FormworkYard" "gained" "[I", Cond.methodLink RX1 70 yX1_strengthAt, Cond.static yX1_strengthAt, Cond.code yX1_strengthAt cX1_strengthAt 4 (some .int), Cond.fieldLink RX1 193 "FormworkYard" "STEPS" "[I", Cond.methodLink RX1 156 yX1_standHour, Cond.instanceMethod yX1_standHour, Cond.selects RX1 yX1_standHour yX1_standHour, Cond.code yX1_standHour cX1_standHour 2 (some .int), Cond.fieldLink RX1 35 "FormworkYard" "setUpHours" "I", Cond.methodLink RX1 144 Lib.Math.max.name, Cond.static Lib.Math.max.name, Cond.code Lib.Math.max.name Lib.Math.max.code 2 (some .int), Cond.methodLink RX1 162 yX1_releaseHour, Cond.instanceMethod yX1_releaseHour]
def wsX1_scheduleAll_r3 : List Cond := [Cond.selects RX1 yX1_releaseHour yX1_releaseHour, Cond.code yX1_releaseHour cX1_releaseHour 2 (some .int), Cond.fieldLink RX1 38 "FormworkYard" "cleaningHours" "I"]
def wsX1_scheduleAll : List Cond := .code yX1_scheduleAll cX1_scheduleAll 5 none :: ((wsX1_scheduleAll_r1 ++ (wsX1_scheduleAll_r2 ++ wsX1_scheduleAll_r3)) ++ wsX10 ++ wsX00)
def wsX1_setTemperature_r1 : List Cond := [Cond.fieldLink RX1 9 "FormworkYard" "temperatures" "[I", Cond.methodLink RX1 50 yX1_requireHour, Cond.static yX1_requireHour, Cond.initialized RX1, Cond.code yX1_requireHour cX1_requireHour 1 none, Cond.classLink RX1 181 "java/lang/IndexOutOfBoundsException", Cond.initialized "java/lang/IndexOutOfBoundsException", Cond.methodLink RX1 165 yX1_isHour, Cond.static yX1_isHour, Cond.code yX1_isHour cX1_isHour 1 (some .boolean), Cond.methodLink RX1 54 yX1_require, Cond.static yX1_require, Cond.code yX1_require cX1_require 1 none, Cond.classLink RX1 187 "java/lang/IllegalArgumentException", Cond.initialized "java/lang/IllegalArgumentException", Cond.methodLink RX1 58 yX1_requireRange, Cond.static yX1_requireRange, Cond.code yX1_requireRange cX1_requireRange 3 none, Cond.methodLink RX1 47 yX1_sumGains, Cond.instanceMethod yX1_sumGains, Cond.selects RX1 yX1_sumGains yX1_sumGains, Cond.code yX1_sumGains cX1_sumGains 2 none, Cond.fieldLink RX1 13 "FormworkYard" "gained" "[I", Cond.methodLink RX1 144 Lib.Math.max.name]
def wsX1_setTemperature_r2 : List Cond := [Cond.static Lib.Math.max.name, Cond.initialized "java/lang/Math", Cond.code Lib.Math.max.name Lib.Math.max.code 2 (some .int), Cond.methodLink RX1 62 yX1_scheduleAll, Cond.instanceMethod yX1_scheduleAll, Cond.selects RX1 yX1_scheduleAll yX1_scheduleAll, Cond.code yX1_scheduleAll cX1_scheduleAll 5 none, Cond.fieldLink RX1 24 "FormworkYard" "pourList" "[LFormworkYard$Pour;", Cond.methodLink RX1 96 yX1_schedule, Cond.instanceMethod yX1_schedule, Cond.selects RX1 yX1_schedule yX1_schedule, Cond.code yX1_schedule cX1_schedule 2 none, Cond.methodLink RX1 153 yX1_startedHours, Cond.instanceMethod yX1_startedHours, Cond.selects RX1 yX1_startedHours yX1_startedHours, Cond.code yX1_startedHours cX1_startedHours 2 (some .int), Cond.fieldLink RX1 32 "FormworkYard" "rate" "I", Cond.methodLink RX1 126 yX1_fullHours, Cond.instanceMethod yX1_fullHours, Cond.selects RX1 yX1_fullHours yX1_fullHours, Cond.code yX1_fullHours cX1_fullHours 2 (some .int), Cond.instanceMethod yX0_hoursOfBreaks, Cond.initialized RX0, Cond.selects RX0 yX0_hoursOfBreaks yX0_hoursOfBreaks]
def wsX1_setTemperature_r3 : List Cond := [Cond.code yX0_hoursOfBreaks cX0_hoursOfBreaks 3 (some .int), Cond.fieldLink RX0 31 "FormworkYard$Pour" "breaks" "I", Cond.fieldLink RX0 15 "FormworkYard$Pour" "lengths" "[I", Cond.methodLink RX1 159 yX1_strikeHour, Cond.instanceMethod yX1_strikeHour, Cond.selects RX1 yX1_strikeHour yX1_strikeHour, Cond.code yX1_strikeHour cX1_strikeHour 6 (some .int), Cond.methodLink RX1 65 yX1_gainBetween, Cond.instanceMethod yX1_gainBetween, Cond.selects RX1 yX1_gainBetween yX1_gainBetween, Cond.code yX1_gainBetween cX1_gainBetween 4 (some .int), Cond.methodLink RX1 74 Lib.Math.min.name, Cond.static Lib.Math.min.name, Cond.code Lib.Math.min.name Lib.Math.min.code 2 (some .int), Cond.methodLink RX1 70 yX1_strengthAt, Cond.static yX1_strengthAt, Cond.code yX1_strengthAt cX1_strengthAt 4 (some .int), Cond.fieldLink RX1 193 "FormworkYard" "STEPS" "[I", Cond.methodLink RX1 156 yX1_standHour, Cond.instanceMethod yX1_standHour, Cond.selects RX1 yX1_standHour yX1_standHour, Cond.code yX1_standHour cX1_standHour 2 (some .int), Cond.fieldLink RX1 35 "FormworkYard" "setUpHours" "I", Cond.methodLink RX1 162 yX1_releaseHour]
def wsX1_setTemperature_r4 : List Cond := [Cond.instanceMethod yX1_releaseHour, Cond.selects RX1 yX1_releaseHour yX1_releaseHour, Cond.code yX1_releaseHour cX1_releaseHour 2 (some .int), Cond.fieldLink RX1 38 "FormworkYard" "cleaningHours" "I"]
def wsX1_setTemperature : List Cond := .code yX1_setTemperature cX1_setTemperature 5 none :: ((wsX1_setTemperature_r1 ++ (wsX1_setTemperature_r2 ++ (wsX1_setTemperature_r3 ++ wsX1_setTemperature_r4))) ++ wsX10 ++ wsX00 ++ (vx_at0 RX1 183 "java/lang/IndexOutOfBoundsException" ["java/lang/RuntimeException", "java/lang/Exception"]).filter goodWord ++ (vx_at0 RX1 189 "java/lang/IllegalArgumentException" ["java/lang/RuntimeException", "java/lang/Exception"]).filter goodWord)
def wsX1_maturity : List Cond := .code yX1_maturity cX1_maturity 3 (some .int) :: ([.methodLink RX1 50 yX1_requireHour, .static yX1_requireHour, .initialized RX1, .code yX1_requireHour cX1_requireHour 1 none, .classLink RX1 181 "java/lang/IndexOutOfBoundsException", .initialized "java/lang/IndexOutOfBoundsException", .methodLink RX1 165 yX1_isHour, .static yX1_isHour, .code yX1_isHour cX1_isHour 1 (some .boolean), .methodLink RX1 65 yX1_gainBetween, .instanceMethod yX1_gainBetween, .selects RX1 yX1_gainBetween yX1_gainBetween, .code yX1_gainBetween cX1_gainBetween 4 (some .int), .methodLink RX1 74 Lib.Math.min.name, .static Lib.Math.min.name, .initialized "java/lang/Math", .code Lib.Math.min.name Lib.Math.min.code 2 (some .int), .fieldLink RX1 13 "FormworkYard" "gained" "[I"] ++ wsX10 ++ (vx_at0 RX1 183 "java/lang/IndexOutOfBoundsException" ["java/lang/RuntimeException", "java/lang/Exception"]).filter goodWord)
def wsX1_strength : List Cond := .code yX1_strength cX1_strength 2 (some .int) :: ([.constant RX1 69 (1000000), .methodLink RX1 58 yX1_requireRange, .static yX1_requireRange, .initialized RX1, .code yX1_requireRange cX1_requireRange 3 none, .methodLink RX1 54 yX1_require, .static yX1_require, .code yX1_require cX1_require 1 none, .classLink RX1 187 "java/lang/IllegalArgumentException", .initialized "java/lang/IllegalArgumentException", .methodLink RX1 70 yX1_strengthAt, .static yX1_strengthAt, .code yX1_strengthAt cX1_strengthAt 4 (some .int), .fieldLink RX1 193 "FormworkYard" "STEPS" "[I"] ++ (vx_at0 RX1 189 "java/lang/IllegalArgumentException" ["java/lang/RuntimeException", "java/lang/Exception"]).filter goodWord)
def wsX1_setPanels : List Cond := .code yX1_setPanels cX1_setPanels 3 (some .int) :: ([.fieldLink RX1 28 "FormworkYard" "yardPanels" "I", .methodLink RX1 58 yX1_requireRange, .static yX1_requireRange, .initialized RX1, .code yX1_requireRange cX1_requireRange 3 none, .methodLink RX1 54 yX1_require, .static yX1_require, .code yX1_require cX1_require 1 none, .classLink RX1 187 "java/lang/IllegalArgumentException", .initialized "java/lang/IllegalArgumentException"] ++ wsX10 ++ (vx_at0 RX1 189 "java/lang/IllegalArgumentException" ["java/lang/RuntimeException", "java/lang/Exception"]).filter goodWord)
def wsX1_setRates_r1 : List Cond := [Cond.methodLink RX1 74 Lib.Math.min.name, Cond.static Lib.Math.min.name, Cond.initialized "java/lang/Math", Cond.code Lib.Math.min.name Lib.Math.min.code 2 (some .int), Cond.fieldLink RX1 32 "FormworkYard" "rate" "I", Cond.methodLink RX1 58 yX1_requireRange, Cond.static yX1_requireRange, Cond.initialized RX1, Cond.code yX1_requireRange cX1_requireRange 3 none, Cond.methodLink RX1 54 yX1_require, Cond.static yX1_require, Cond.code yX1_require cX1_require 1 none, Cond.classLink RX1 187 "java/lang/IllegalArgumentException", Cond.initialized "java/lang/IllegalArgumentException", Cond.methodLink RX1 62 yX1_scheduleAll, Cond.instanceMethod yX1_scheduleAll, Cond.selects RX1 yX1_scheduleAll yX1_scheduleAll, Cond.code yX1_scheduleAll cX1_scheduleAll 5 none, Cond.fieldLink RX1 24 "FormworkYard" "pourList" "[LFormworkYard$Pour;", Cond.methodLink RX1 96 yX1_schedule, Cond.instanceMethod yX1_schedule, Cond.selects RX1 yX1_schedule yX1_schedule, Cond.code yX1_schedule cX1_schedule 2 none, Cond.methodLink RX1 153 yX1_startedHours]
def wsX1_setRates_r2 : List Cond := [Cond.instanceMethod yX1_startedHours, Cond.selects RX1 yX1_startedHours yX1_startedHours, Cond.code yX1_startedHours cX1_startedHours 2 (some .int), Cond.methodLink RX1 126 yX1_fullHours, Cond.instanceMethod yX1_fullHours, Cond.selects RX1 yX1_fullHours yX1_fullHours, Cond.code yX1_fullHours cX1_fullHours 2 (some .int), Cond.instanceMethod yX0_hoursOfBreaks, Cond.initialized RX0, Cond.selects RX0 yX0_hoursOfBreaks yX0_hoursOfBreaks, Cond.code yX0_hoursOfBreaks cX0_hoursOfBreaks 3 (some .int), Cond.fieldLink RX0 31 "FormworkYard$Pour" "breaks" "I", Cond.fieldLink RX0 15 "FormworkYard$Pour" "lengths" "[I", Cond.methodLink RX1 159 yX1_strikeHour, Cond.instanceMethod yX1_strikeHour, Cond.selects RX1 yX1_strikeHour yX1_strikeHour, Cond.code yX1_strikeHour cX1_strikeHour 6 (some .int), Cond.methodLink RX1 65 yX1_gainBetween, Cond.instanceMethod yX1_gainBetween, Cond.selects RX1 yX1_gainBetween yX1_gainBetween, Cond.code yX1_gainBetween cX1_gainBetween 4 (some .int), Cond.fieldLink RX1 13 "FormworkYard" "gained" "[I", Cond.methodLink RX1 70 yX1_strengthAt, Cond.static yX1_strengthAt]
def wsX1_setRates_r3 : List Cond := [Cond.code yX1_strengthAt cX1_strengthAt 4 (some .int), Cond.fieldLink RX1 193 "FormworkYard" "STEPS" "[I", Cond.methodLink RX1 156 yX1_standHour, Cond.instanceMethod yX1_standHour, Cond.selects RX1 yX1_standHour yX1_standHour, Cond.code yX1_standHour cX1_standHour 2 (some .int), Cond.fieldLink RX1 35 "FormworkYard" "setUpHours" "I", Cond.methodLink RX1 144 Lib.Math.max.name, Cond.static Lib.Math.max.name, Cond.code Lib.Math.max.name Lib.Math.max.code 2 (some .int), Cond.methodLink RX1 162 yX1_releaseHour, Cond.instanceMethod yX1_releaseHour, Cond.selects RX1 yX1_releaseHour yX1_releaseHour, Cond.code yX1_releaseHour cX1_releaseHour 2 (some .int), Cond.fieldLink RX1 38 "FormworkYard" "cleaningHours" "I"]
def wsX1_setRates : List Cond := .code yX1_setRates cX1_setRates 3 (some .int) :: ((wsX1_setRates_r1 ++ (wsX1_setRates_r2 ++ wsX1_setRates_r3)) ++ wsX10 ++ wsX00 ++ (vx_at0 RX1 189 "java/lang/IllegalArgumentException" ["java/lang/RuntimeException", "java/lang/Exception"]).filter goodWord)
def wsX1_setCrew_r1 : List Cond := [Cond.fieldLink RX1 35 "FormworkYard" "setUpHours" "I", Cond.fieldLink RX1 38 "FormworkYard" "cleaningHours" "I", Cond.methodLink RX1 58 yX1_requireRange, Cond.static yX1_requireRange, Cond.initialized RX1, Cond.code yX1_requireRange cX1_requireRange 3 none, Cond.methodLink RX1 54 yX1_require, Cond.static yX1_require, Cond.code yX1_require cX1_require 1 none, Cond.classLink RX1 187 "java/lang/IllegalArgumentException", Cond.initialized "java/lang/IllegalArgumentException", Cond.methodLink RX1 62 yX1_scheduleAll, Cond.instanceMethod yX1_scheduleAll, Cond.selects RX1 yX1_scheduleAll yX1_scheduleAll, Cond.code yX1_scheduleAll cX1_scheduleAll 5 none, Cond.fieldLink RX1 24 "FormworkYard" "pourList" "[LFormworkYard$Pour;", Cond.methodLink RX1 96 yX1_schedule, Cond.instanceMethod yX1_schedule, Cond.selects RX1 yX1_schedule yX1_schedule, Cond.code yX1_schedule cX1_schedule 2 none, Cond.methodLink RX1 153 yX1_startedHours, Cond.instanceMethod yX1_startedHours, Cond.selects RX1 yX1_startedHours yX1_startedHours, Cond.code yX1_startedHours cX1_startedHours 2 (some .int)]
def wsX1_setCrew_r2 : List Cond := [Cond.fieldLink RX1 32 "FormworkYard" "rate" "I", Cond.methodLink RX1 126 yX1_fullHours, Cond.instanceMethod yX1_fullHours, Cond.selects RX1 yX1_fullHours yX1_fullHours, Cond.code yX1_fullHours cX1_fullHours 2 (some .int), Cond.instanceMethod yX0_hoursOfBreaks, Cond.initialized RX0, Cond.selects RX0 yX0_hoursOfBreaks yX0_hoursOfBreaks, Cond.code yX0_hoursOfBreaks cX0_hoursOfBreaks 3 (some .int), Cond.fieldLink RX0 31 "FormworkYard$Pour" "breaks" "I", Cond.fieldLink RX0 15 "FormworkYard$Pour" "lengths" "[I", Cond.methodLink RX1 159 yX1_strikeHour, Cond.instanceMethod yX1_strikeHour, Cond.selects RX1 yX1_strikeHour yX1_strikeHour, Cond.code yX1_strikeHour cX1_strikeHour 6 (some .int), Cond.methodLink RX1 65 yX1_gainBetween, Cond.instanceMethod yX1_gainBetween, Cond.selects RX1 yX1_gainBetween yX1_gainBetween, Cond.code yX1_gainBetween cX1_gainBetween 4 (some .int), Cond.methodLink RX1 74 Lib.Math.min.name, Cond.static Lib.Math.min.name, Cond.initialized "java/lang/Math", Cond.code Lib.Math.min.name Lib.Math.min.code 2 (some .int), Cond.fieldLink RX1 13 "FormworkYard" "gained" "[I"]
def wsX1_setCrew_r3 : List Cond := [Cond.methodLink RX1 70 yX1_strengthAt, Cond.static yX1_strengthAt, Cond.code yX1_strengthAt cX1_strengthAt 4 (some .int), Cond.fieldLink RX1 193 "FormworkYard" "STEPS" "[I", Cond.methodLink RX1 156 yX1_standHour, Cond.instanceMethod yX1_standHour, Cond.selects RX1 yX1_standHour yX1_standHour, Cond.code yX1_standHour cX1_standHour 2 (some .int), Cond.methodLink RX1 144 Lib.Math.max.name, Cond.static Lib.Math.max.name, Cond.code Lib.Math.max.name Lib.Math.max.code 2 (some .int), Cond.methodLink RX1 162 yX1_releaseHour, Cond.instanceMethod yX1_releaseHour, Cond.selects RX1 yX1_releaseHour yX1_releaseHour, Cond.code yX1_releaseHour cX1_releaseHour 2 (some .int)]
def wsX1_setCrew : List Cond := .code yX1_setCrew cX1_setCrew 3 none :: ((wsX1_setCrew_r1 ++ (wsX1_setCrew_r2 ++ wsX1_setCrew_r3)) ++ wsX10 ++ wsX00 ++ (vx_at0 RX1 189 "java/lang/IllegalArgumentException" ["java/lang/RuntimeException", "java/lang/Exception"]).filter goodWord)
def wsX1_requirePour : List Cond := .code yX1_requirePour cX1_requirePour 4 none :: ([.methodLink RX1 58 yX1_requireRange, .static yX1_requireRange, .initialized RX1, .code yX1_requireRange cX1_requireRange 3 none, .methodLink RX1 54 yX1_require, .static yX1_require, .code yX1_require cX1_require 1 none, .classLink RX1 187 "java/lang/IllegalArgumentException", .initialized "java/lang/IllegalArgumentException"] ++ (vx_at0 RX1 189 "java/lang/IllegalArgumentException" ["java/lang/RuntimeException", "java/lang/Exception"]).filter goodWord)
def wsX1_freeNumber : List Cond := .code yX1_freeNumber cX1_freeNumber 2 (some .int) :: ([.fieldLink RX1 24 "FormworkYard" "pourList" "[LFormworkYard$Pour;"] ++ wsX10)
def wsX1_isNumber : List Cond := .code yX1_isNumber cX1_isNumber 1 (some .boolean) :: ([])
def wsX1_plan_r1 : List Cond := [Cond.classLink RX1 91 "java/lang/IllegalStateException", Cond.initialized "java/lang/IllegalStateException", Cond.classLink RX1 22 RX0, Cond.instantiable RX0 13, Cond.initialized RX0, Cond.fieldLink RX1 24 "FormworkYard" "pourList" "[LFormworkYard$Pour;", Cond.methodLink RX1 79 yX1_requirePour, Cond.static yX1_requirePour, Cond.initialized RX1, Cond.code yX1_requirePour cX1_requirePour 4 none, Cond.methodLink RX1 58 yX1_requireRange, Cond.static yX1_requireRange, Cond.code yX1_requireRange cX1_requireRange 3 none, Cond.methodLink RX1 54 yX1_require, Cond.static yX1_require, Cond.code yX1_require cX1_require 1 none, Cond.classLink RX1 187 "java/lang/IllegalArgumentException", Cond.initialized "java/lang/IllegalArgumentException", Cond.methodLink RX1 83 yX1_freeNumber, Cond.instanceMethod yX1_freeNumber, Cond.selects RX1 yX1_freeNumber yX1_freeNumber, Cond.code yX1_freeNumber cX1_freeNumber 2 (some .int), Cond.methodLink RX1 87 yX1_isNumber, Cond.static yX1_isNumber]
def wsX1_plan_r2 : List Cond := [Cond.code yX1_isNumber cX1_isNumber 1 (some .boolean), Cond.instanceMethod yX0_init, Cond.code yX0_init cX0_init 5 none, Cond.methodLink RX0 3 objectInit, Cond.instanceMethod objectInit, Cond.code objectInit ⟨#[0xb1]⟩ 1 none, Cond.arrayClass .int, Cond.fieldLink RX0 9 "FormworkYard$Pour" "parts" "[I", Cond.fieldLink RX0 15 "FormworkYard$Pour" "lengths" "[I", Cond.fieldLink RX0 18 "FormworkYard$Pour" "start" "I", Cond.fieldLink RX0 22 "FormworkYard$Pour" "volume" "I", Cond.fieldLink RX0 25 "FormworkYard$Pour" "panels" "I", Cond.fieldLink RX0 28 "FormworkYard$Pour" "wanted" "I", Cond.methodLink RX1 96 yX1_schedule, Cond.instanceMethod yX1_schedule, Cond.selects RX1 yX1_schedule yX1_schedule, Cond.code yX1_schedule cX1_schedule 2 none, Cond.methodLink RX1 153 yX1_startedHours, Cond.instanceMethod yX1_startedHours, Cond.selects RX1 yX1_startedHours yX1_startedHours, Cond.code yX1_startedHours cX1_startedHours 2 (some .int), Cond.fieldLink RX1 32 "FormworkYard" "rate" "I", Cond.methodLink RX1 126 yX1_fullHours, Cond.instanceMethod yX1_fullHours]
def wsX1_plan_r3 : List Cond := [Cond.selects RX1 yX1_fullHours yX1_fullHours, Cond.code yX1_fullHours cX1_fullHours 2 (some .int), Cond.instanceMethod yX0_hoursOfBreaks, Cond.selects RX0 yX0_hoursOfBreaks yX0_hoursOfBreaks, Cond.code yX0_hoursOfBreaks cX0_hoursOfBreaks 3 (some .int), Cond.fieldLink RX0 31 "FormworkYard$Pour" "breaks" "I", Cond.methodLink RX1 159 yX1_strikeHour, Cond.instanceMethod yX1_strikeHour, Cond.selects RX1 yX1_strikeHour yX1_strikeHour, Cond.code yX1_strikeHour cX1_strikeHour 6 (some .int), Cond.methodLink RX1 65 yX1_gainBetween, Cond.instanceMethod yX1_gainBetween, Cond.selects RX1 yX1_gainBetween yX1_gainBetween, Cond.code yX1_gainBetween cX1_gainBetween 4 (some .int), Cond.methodLink RX1 74 Lib.Math.min.name, Cond.static Lib.Math.min.name, Cond.initialized "java/lang/Math", Cond.code Lib.Math.min.name Lib.Math.min.code 2 (some .int), Cond.fieldLink RX1 13 "FormworkYard" "gained" "[I", Cond.methodLink RX1 70 yX1_strengthAt, Cond.static yX1_strengthAt, Cond.code yX1_strengthAt cX1_strengthAt 4 (some .int), Cond.fieldLink RX1 193 "FormworkYard" "STEPS" "[I", Cond.methodLink RX1 156 yX1_standHour]
def wsX1_plan_r4 : List Cond := [Cond.instanceMethod yX1_standHour, Cond.selects RX1 yX1_standHour yX1_standHour, Cond.code yX1_standHour cX1_standHour 2 (some .int), Cond.fieldLink RX1 35 "FormworkYard" "setUpHours" "I", Cond.methodLink RX1 144 Lib.Math.max.name, Cond.static Lib.Math.max.name, Cond.code Lib.Math.max.name Lib.Math.max.code 2 (some .int), Cond.methodLink RX1 162 yX1_releaseHour, Cond.instanceMethod yX1_releaseHour, Cond.selects RX1 yX1_releaseHour yX1_releaseHour, Cond.code yX1_releaseHour cX1_releaseHour 2 (some .int), Cond.fieldLink RX1 38 "FormworkYard" "cleaningHours" "I"]
def wsX1_plan : List Cond := .code yX1_plan cX1_plan 7 (some .int) :: ((wsX1_plan_r1 ++ (wsX1_plan_r2 ++ (wsX1_plan_r3 ++ wsX1_plan_r4))) ++ wsX00 ++ wsX10 ++ (vx_at0 RX1 93 "java/lang/IllegalStateException" ["java/lang/RuntimeException", "java/lang/Exception"]).filter goodWord ++ (vx_at0 RX1 189 "java/lang/IllegalArgumentException" ["java/lang/RuntimeException", "java/lang/Exception"]).filter goodWord)
def wsX1_existing : List Cond := .code yX1_existing cX1_existing 3 (some (.object "FormworkYard$Pour")) :: ([.classLink RX1 190 "java/util/NoSuchElementException", .initialized "java/util/NoSuchElementException", .fieldLink RX1 24 "FormworkYard" "pourList" "[LFormworkYard$Pour;", .methodLink RX1 87 yX1_isNumber, .static yX1_isNumber, .initialized RX1, .code yX1_isNumber cX1_isNumber 1 (some .boolean)] ++ wsX10 ++ (vx_at0 RX1 192 "java/util/NoSuchElementException" ["java/lang/RuntimeException", "java/lang/Exception"]).filter goodWord)
def wsX1_move_r1 : List Cond := [Cond.methodLink RX1 100 yX1_existing, Cond.instanceMethod yX1_existing, Cond.selects RX1 yX1_existing yX1_existing, Cond.initialized RX1, Cond.code yX1_existing cX1_existing 3 (some (.object "FormworkYard$Pour")), Cond.classLink RX1 190 "java/util/NoSuchElementException", Cond.initialized "java/util/NoSuchElementException", Cond.fieldLink RX1 24 "FormworkYard" "pourList" "[LFormworkYard$Pour;", Cond.methodLink RX1 87 yX1_isNumber, Cond.static yX1_isNumber, Cond.code yX1_isNumber cX1_isNumber 1 (some .boolean), Cond.methodLink RX1 58 yX1_requireRange, Cond.static yX1_requireRange, Cond.code yX1_requireRange cX1_requireRange 3 none, Cond.methodLink RX1 54 yX1_require, Cond.static yX1_require, Cond.code yX1_require cX1_require 1 none, Cond.classLink RX1 187 "java/lang/IllegalArgumentException", Cond.initialized "java/lang/IllegalArgumentException", Cond.methodLink RX1 96 yX1_schedule, Cond.instanceMethod yX1_schedule, Cond.selects RX1 yX1_schedule yX1_schedule, Cond.code yX1_schedule cX1_schedule 2 none, Cond.methodLink RX1 153 yX1_startedHours]
def wsX1_move_r2 : List Cond := [Cond.instanceMethod yX1_startedHours, Cond.selects RX1 yX1_startedHours yX1_startedHours, Cond.code yX1_startedHours cX1_startedHours 2 (some .int), Cond.fieldLink RX1 32 "FormworkYard" "rate" "I", Cond.methodLink RX1 126 yX1_fullHours, Cond.instanceMethod yX1_fullHours, Cond.selects RX1 yX1_fullHours yX1_fullHours, Cond.code yX1_fullHours cX1_fullHours 2 (some .int), Cond.instanceMethod yX0_hoursOfBreaks, Cond.initialized RX0, Cond.selects RX0 yX0_hoursOfBreaks yX0_hoursOfBreaks, Cond.code yX0_hoursOfBreaks cX0_hoursOfBreaks 3 (some .int), Cond.fieldLink RX0 31 "FormworkYard$Pour" "breaks" "I", Cond.fieldLink RX0 15 "FormworkYard$Pour" "lengths" "[I", Cond.methodLink RX1 159 yX1_strikeHour, Cond.instanceMethod yX1_strikeHour, Cond.selects RX1 yX1_strikeHour yX1_strikeHour, Cond.code yX1_strikeHour cX1_strikeHour 6 (some .int), Cond.methodLink RX1 65 yX1_gainBetween, Cond.instanceMethod yX1_gainBetween, Cond.selects RX1 yX1_gainBetween yX1_gainBetween, Cond.code yX1_gainBetween cX1_gainBetween 4 (some .int), Cond.methodLink RX1 74 Lib.Math.min.name, Cond.static Lib.Math.min.name]
def wsX1_move_r3 : List Cond := [Cond.initialized "java/lang/Math", Cond.code Lib.Math.min.name Lib.Math.min.code 2 (some .int), Cond.fieldLink RX1 13 "FormworkYard" "gained" "[I", Cond.methodLink RX1 70 yX1_strengthAt, Cond.static yX1_strengthAt, Cond.code yX1_strengthAt cX1_strengthAt 4 (some .int), Cond.fieldLink RX1 193 "FormworkYard" "STEPS" "[I", Cond.methodLink RX1 156 yX1_standHour, Cond.instanceMethod yX1_standHour, Cond.selects RX1 yX1_standHour yX1_standHour, Cond.code yX1_standHour cX1_standHour 2 (some .int), Cond.fieldLink RX1 35 "FormworkYard" "setUpHours" "I", Cond.methodLink RX1 144 Lib.Math.max.name, Cond.static Lib.Math.max.name, Cond.code Lib.Math.max.name Lib.Math.max.code 2 (some .int), Cond.methodLink RX1 162 yX1_releaseHour, Cond.instanceMethod yX1_releaseHour, Cond.selects RX1 yX1_releaseHour yX1_releaseHour, Cond.code yX1_releaseHour cX1_releaseHour 2 (some .int), Cond.fieldLink RX1 38 "FormworkYard" "cleaningHours" "I"]
def wsX1_move : List Cond := .code yX1_move cX1_move 5 (some .int) :: ((wsX1_move_r1 ++ (wsX1_move_r2 ++ wsX1_move_r3)) ++ wsX00 ++ wsX10 ++ (vx_at0 RX1 192 "java/util/NoSuchElementException" ["java/lang/RuntimeException", "java/lang/Exception"]).filter goodWord ++ (vx_at0 RX1 189 "java/lang/IllegalArgumentException" ["java/lang/RuntimeException", "java/lang/Exception"]).filter goodWord)
def wsX1_cancel : List Cond := .code yX1_cancel cX1_cancel 3 (some .int) :: ([.fieldLink RX1 24 "FormworkYard" "pourList" "[LFormworkYard$Pour;", .methodLink RX1 100 yX1_existing, .instanceMethod yX1_existing, .selects RX1 yX1_existing yX1_existing, .initialized RX1, .code yX1_existing cX1_existing 3 (some (.object "FormworkYard$Pour")), .classLink RX1 190 "java/util/NoSuchElementException", .initialized "java/util/NoSuchElementException", .methodLink RX1 87 yX1_isNumber, .static yX1_isNumber, .code yX1_isNumber cX1_isNumber 1 (some .boolean)] ++ wsX10 ++ wsX00 ++ (vx_at0 RX1 192 "java/util/NoSuchElementException" ["java/lang/RuntimeException", "java/lang/Exception"]).filter goodWord)
def wsX1_pours : List Cond := .code yX1_pours cX1_pours 6 (some .int) :: ([.fieldLink RX1 24 "FormworkYard" "pourList" "[LFormworkYard$Pour;"] ++ wsX10)
def wsX1_endOf : List Cond := .code yX1_endOf cX1_endOf 3 (some .int) :: ([.methodLink RX1 100 yX1_existing, .instanceMethod yX1_existing, .selects RX1 yX1_existing yX1_existing, .initialized RX1, .code yX1_existing cX1_existing 3 (some (.object "FormworkYard$Pour")), .classLink RX1 190 "java/util/NoSuchElementException", .initialized "java/util/NoSuchElementException", .fieldLink RX1 24 "FormworkYard" "pourList" "[LFormworkYard$Pour;", .methodLink RX1 87 yX1_isNumber, .static yX1_isNumber, .code yX1_isNumber cX1_isNumber 1 (some .boolean)] ++ wsX00 ++ wsX10 ++ (vx_at0 RX1 192 "java/util/NoSuchElementException" ["java/lang/RuntimeException", "java/lang/Exception"]).filter goodWord)
def wsX1_struck : List Cond := .code yX1_struck cX1_struck 3 (some .int) :: ([.methodLink RX1 100 yX1_existing, .instanceMethod yX1_existing, .selects RX1 yX1_existing yX1_existing, .initialized RX1, .code yX1_existing cX1_existing 3 (some (.object "FormworkYard$Pour")), .classLink RX1 190 "java/util/NoSuchElementException", .initialized "java/util/NoSuchElementException", .fieldLink RX1 24 "FormworkYard" "pourList" "[LFormworkYard$Pour;", .methodLink RX1 87 yX1_isNumber, .static yX1_isNumber, .code yX1_isNumber cX1_isNumber 1 (some .boolean)] ++ wsX00 ++ wsX10 ++ (vx_at0 RX1 192 "java/util/NoSuchElementException" ["java/lang/RuntimeException", "java/lang/Exception"]).filter goodWord)
def wsX1_freeFrom : List Cond := .code yX1_freeFrom cX1_freeFrom 3 (some .int) :: ([.methodLink RX1 100 yX1_existing, .instanceMethod yX1_existing, .selects RX1 yX1_existing yX1_existing, .initialized RX1, .code yX1_existing cX1_existing 3 (some (.object "FormworkYard$Pour")), .classLink RX1 190 "java/util/NoSuchElementException", .initialized "java/util/NoSuchElementException", .fieldLink RX1 24 "FormworkYard" "pourList" "[LFormworkYard$Pour;", .methodLink RX1 87 yX1_isNumber, .static yX1_isNumber, .code yX1_isNumber cX1_isNumber 1 (some .boolean)] ++ wsX00 ++ wsX10 ++ (vx_at0 RX1 192 "java/util/NoSuchElementException" ["java/lang/RuntimeException", "java/lang/Exception"]).filter goodWord)
def wsX1_needIn : List Cond := .code yX1_needIn cX1_needIn 7 (some .int) :: ([.fieldLink RX1 24 "FormworkYard" "pourList" "[LFormworkYard$Pour;", .instanceMethod yX0_isBusy, .initialized RX0, .selects RX0 yX0_isBusy yX0_isBusy, .code yX0_isBusy cX0_isBusy 2 (some .boolean), .fieldLink RX0 34 "FormworkYard$Pour" "busyFrom" "I", .fieldLink RX0 37 "FormworkYard$Pour" "busyUntil" "I"] ++ wsX10 ++ wsX00)
def wsX1_need : List Cond := .code yX1_need cX1_need 2 (some .int) :: ([.methodLink RX1 50 yX1_requireHour, .static yX1_requireHour, .initialized RX1, .code yX1_requireHour cX1_requireHour 1 none, .classLink RX1 181 "java/lang/IndexOutOfBoundsException", .initialized "java/lang/IndexOutOfBoundsException", .methodLink RX1 165 yX1_isHour, .static yX1_isHour, .code yX1_isHour cX1_isHour 1 (some .boolean), .methodLink RX1 138 yX1_needIn, .instanceMethod yX1_needIn, .selects RX1 yX1_needIn yX1_needIn, .code yX1_needIn cX1_needIn 7 (some .int), .fieldLink RX1 24 "FormworkYard" "pourList" "[LFormworkYard$Pour;", .instanceMethod yX0_isBusy, .initialized RX0, .selects RX0 yX0_isBusy yX0_isBusy, .code yX0_isBusy cX0_isBusy 2 (some .boolean), .fieldLink RX0 34 "FormworkYard$Pour" "busyFrom" "I", .fieldLink RX0 37 "FormworkYard$Pour" "busyUntil" "I"] ++ wsX10 ++ wsX00 ++ (vx_at0 RX1 183 "java/lang/IndexOutOfBoundsException" ["java/lang/RuntimeException", "java/lang/Exception"]).filter goodWord)
def wsX1_sumNeeds : List Cond := .code yX1_sumNeeds cX1_sumNeeds 2 none :: ([.fieldLink RX1 16 "FormworkYard" "needs" "[I", .methodLink RX1 138 yX1_needIn, .instanceMethod yX1_needIn, .selects RX1 yX1_needIn yX1_needIn, .initialized RX1, .code yX1_needIn cX1_needIn 7 (some .int), .fieldLink RX1 24 "FormworkYard" "pourList" "[LFormworkYard$Pour;", .instanceMethod yX0_isBusy, .initialized RX0, .selects RX0 yX0_isBusy yX0_isBusy, .code yX0_isBusy cX0_isBusy 2 (some .boolean), .fieldLink RX0 34 "FormworkYard$Pour" "busyFrom" "I", .fieldLink RX0 37 "FormworkYard$Pour" "busyUntil" "I"] ++ wsX10 ++ wsX00)
def wsX1_peak : List Cond := .code yX1_peak cX1_peak 6 (some .int) :: ([.fieldLink RX1 16 "FormworkYard" "needs" "[I", .methodLink RX1 144 Lib.Math.max.name, .static Lib.Math.max.name, .initialized "java/lang/Math", .code Lib.Math.max.name Lib.Math.max.code 2 (some .int), .methodLink RX1 141 yX1_sumNeeds, .instanceMethod yX1_sumNeeds, .selects RX1 yX1_sumNeeds yX1_sumNeeds, .initialized RX1, .code yX1_sumNeeds cX1_sumNeeds 2 none, .methodLink RX1 138 yX1_needIn, .instanceMethod yX1_needIn, .selects RX1 yX1_needIn yX1_needIn, .code yX1_needIn cX1_needIn 7 (some .int), .fieldLink RX1 24 "FormworkYard" "pourList" "[LFormworkYard$Pour;", .instanceMethod yX0_isBusy, .initialized RX0, .selects RX0 yX0_isBusy yX0_isBusy, .code yX0_isBusy cX0_isBusy 2 (some .boolean), .fieldLink RX0 34 "FormworkYard$Pour" "busyFrom" "I", .fieldLink RX0 37 "FormworkYard$Pour" "busyUntil" "I"] ++ wsX10 ++ wsX00)
def wsX1_peakByOverlaps : List Cond := .code yX1_peakByOverlaps cX1_peakByOverlaps 6 (some .int) :: ([.fieldLink RX1 24 "FormworkYard" "pourList" "[LFormworkYard$Pour;", .methodLink RX1 144 Lib.Math.max.name, .static Lib.Math.max.name, .initialized "java/lang/Math", .code Lib.Math.max.name Lib.Math.max.code 2 (some .int), .methodLink RX1 138 yX1_needIn, .instanceMethod yX1_needIn, .selects RX1 yX1_needIn yX1_needIn, .initialized RX1, .code yX1_needIn cX1_needIn 7 (some .int), .instanceMethod yX0_isBusy, .initialized RX0, .selects RX0 yX0_isBusy yX0_isBusy, .code yX0_isBusy cX0_isBusy 2 (some .boolean), .fieldLink RX0 34 "FormworkYard$Pour" "busyFrom" "I", .fieldLink RX0 37 "FormworkYard$Pour" "busyUntil" "I"] ++ wsX10 ++ wsX00)
def wsX1_firstShort : List Cond := .code yX1_firstShort cX1_firstShort 2 (some .int) :: ([.fieldLink RX1 16 "FormworkYard" "needs" "[I", .fieldLink RX1 28 "FormworkYard" "yardPanels" "I", .methodLink RX1 141 yX1_sumNeeds, .instanceMethod yX1_sumNeeds, .selects RX1 yX1_sumNeeds yX1_sumNeeds, .initialized RX1, .code yX1_sumNeeds cX1_sumNeeds 2 none, .methodLink RX1 138 yX1_needIn, .instanceMethod yX1_needIn, .selects RX1 yX1_needIn yX1_needIn, .code yX1_needIn cX1_needIn 7 (some .int), .fieldLink RX1 24 "FormworkYard" "pourList" "[LFormworkYard$Pour;", .instanceMethod yX0_isBusy, .initialized RX0, .selects RX0 yX0_isBusy yX0_isBusy, .code yX0_isBusy cX0_isBusy 2 (some .boolean), .fieldLink RX0 34 "FormworkYard$Pour" "busyFrom" "I", .fieldLink RX0 37 "FormworkYard$Pour" "busyUntil" "I"] ++ wsX10 ++ wsX00)
def wsX1_nextToServe : List Cond := .code yX1_nextToServe cX1_nextToServe 6 (some (.object "FormworkYard$Pour")) :: ([.fieldLink RX1 24 "FormworkYard" "pourList" "[LFormworkYard$Pour;"] ++ wsX10 ++ wsX00)
def wsX1_panelsBusyIn : List Cond := .code yX1_panelsBusyIn cX1_panelsBusyIn 8 (some .long) :: ([.fieldLink RX1 24 "FormworkYard" "pourList" "[LFormworkYard$Pour;", .instanceMethod yX0_isBusy, .initialized RX0, .selects RX0 yX0_isBusy yX0_isBusy, .code yX0_isBusy cX0_isBusy 2 (some .boolean), .fieldLink RX0 34 "FormworkYard$Pour" "busyFrom" "I", .fieldLink RX0 37 "FormworkYard$Pour" "busyUntil" "I"] ++ wsX10 ++ wsX00)
def wsX1_lowestPanels : List Cond := .code yX1_lowestPanels cX1_lowestPanels 10 (some .long) :: ([.fieldLink RX1 28 "FormworkYard" "yardPanels" "I"] ++ wsX10)
def wsX1_giveOutPanels : List Cond := .code yX1_giveOutPanels cX1_giveOutPanels 5 none :: ([.fieldLink RX1 24 "FormworkYard" "pourList" "[LFormworkYard$Pour;", .methodLink RX1 206 yX1_nextToServe, .instanceMethod yX1_nextToServe, .selects RX1 yX1_nextToServe yX1_nextToServe, .initialized RX1, .code yX1_nextToServe cX1_nextToServe 6 (some (.object "FormworkYard$Pour")), .methodLink RX1 210 yX1_panelsBusyIn, .instanceMethod yX1_panelsBusyIn, .selects RX1 yX1_panelsBusyIn yX1_panelsBusyIn, .code yX1_panelsBusyIn cX1_panelsBusyIn 8 (some .long), .instanceMethod yX0_isBusy, .initialized RX0, .selects RX0 yX0_isBusy yX0_isBusy, .code yX0_isBusy cX0_isBusy 2 (some .boolean), .fieldLink RX0 34 "FormworkYard$Pour" "busyFrom" "I", .fieldLink RX0 37 "FormworkYard$Pour" "busyUntil" "I", .methodLink RX1 214 yX1_lowestPanels, .instanceMethod yX1_lowestPanels, .selects RX1 yX1_lowestPanels yX1_lowestPanels, .code yX1_lowestPanels cX1_lowestPanels 10 (some .long), .fieldLink RX1 28 "FormworkYard" "yardPanels" "I"] ++ wsX10 ++ wsX00)
def wsJ13_bitCount_95d88 : List Cond := .code yJ13_bitCount_95d88 cJ13_bitCount_95d88 2 (some .int) :: ([.constantLong RJ13 314 (6148914691236517205), .constantLong RJ13 316 (3689348814741910323), .constantLong RJ13 318 (1085102592571150095)])
def wsX1_panelsOf_r1 : List Cond := [Cond.methodLink RX1 100 yX1_existing, Cond.instanceMethod yX1_existing, Cond.selects RX1 yX1_existing yX1_existing, Cond.initialized RX1, Cond.code yX1_existing cX1_existing 3 (some (.object "FormworkYard$Pour")), Cond.classLink RX1 190 "java/util/NoSuchElementException", Cond.initialized "java/util/NoSuchElementException", Cond.fieldLink RX1 24 "FormworkYard" "pourList" "[LFormworkYard$Pour;", Cond.methodLink RX1 87 yX1_isNumber, Cond.static yX1_isNumber, Cond.code yX1_isNumber cX1_isNumber 1 (some .boolean), Cond.methodLink RX1 168 yX1_giveOutPanels, Cond.instanceMethod yX1_giveOutPanels, Cond.selects RX1 yX1_giveOutPanels yX1_giveOutPanels, Cond.code yX1_giveOutPanels cX1_giveOutPanels 5 none, Cond.methodLink RX1 206 yX1_nextToServe, Cond.instanceMethod yX1_nextToServe, Cond.selects RX1 yX1_nextToServe yX1_nextToServe, Cond.code yX1_nextToServe cX1_nextToServe 6 (some (.object "FormworkYard$Pour")), Cond.methodLink RX1 210 yX1_panelsBusyIn, Cond.instanceMethod yX1_panelsBusyIn, Cond.selects RX1 yX1_panelsBusyIn yX1_panelsBusyIn, Cond.code yX1_panelsBusyIn cX1_panelsBusyIn 8 (some .long), Cond.instanceMethod yX0_isBusy]
def wsX1_panelsOf_r2 : List Cond := [Cond.initialized RX0, Cond.selects RX0 yX0_isBusy yX0_isBusy, Cond.code yX0_isBusy cX0_isBusy 2 (some .boolean), Cond.fieldLink RX0 34 "FormworkYard$Pour" "busyFrom" "I", Cond.fieldLink RX0 37 "FormworkYard$Pour" "busyUntil" "I", Cond.methodLink RX1 214 yX1_lowestPanels, Cond.instanceMethod yX1_lowestPanels, Cond.selects RX1 yX1_lowestPanels yX1_lowestPanels, Cond.code yX1_lowestPanels cX1_lowestPanels 10 (some .long), Cond.fieldLink RX1 28 "FormworkYard" "yardPanels" "I", Cond.methodLink RX1 175 yJ13_bitCount_95d88, Cond.static yJ13_bitCount_95d88, Cond.initialized RJ13, Cond.code yJ13_bitCount_95d88 cJ13_bitCount_95d88 2 (some .int), Cond.constantLong RJ13 314 (6148914691236517205), Cond.constantLong RJ13 316 (3689348814741910323), Cond.constantLong RJ13 318 (1085102592571150095)]
def wsX1_panelsOf : List Cond := .code yX1_panelsOf cX1_panelsOf 3 (some .int) :: ((wsX1_panelsOf_r1 ++ wsX1_panelsOf_r2) ++ wsX00 ++ wsX10 ++ (vx_at0 RX1 192 "java/util/NoSuchElementException" ["java/lang/RuntimeException", "java/lang/Exception"]).filter goodWord)
def wsX1_pourOf_r1 : List Cond := [Cond.classLink RX1 181 "java/lang/IndexOutOfBoundsException", Cond.initialized "java/lang/IndexOutOfBoundsException", Cond.fieldLink RX1 28 "FormworkYard" "yardPanels" "I", Cond.fieldLink RX1 24 "FormworkYard" "pourList" "[LFormworkYard$Pour;", Cond.methodLink RX1 50 yX1_requireHour, Cond.static yX1_requireHour, Cond.initialized RX1, Cond.code yX1_requireHour cX1_requireHour 1 none, Cond.methodLink RX1 165 yX1_isHour, Cond.static yX1_isHour, Cond.code yX1_isHour cX1_isHour 1 (some .boolean), Cond.methodLink RX1 168 yX1_giveOutPanels, Cond.instanceMethod yX1_giveOutPanels, Cond.selects RX1 yX1_giveOutPanels yX1_giveOutPanels, Cond.code yX1_giveOutPanels cX1_giveOutPanels 5 none, Cond.methodLink RX1 206 yX1_nextToServe, Cond.instanceMethod yX1_nextToServe, Cond.selects RX1 yX1_nextToServe yX1_nextToServe, Cond.code yX1_nextToServe cX1_nextToServe 6 (some (.object "FormworkYard$Pour")), Cond.methodLink RX1 210 yX1_panelsBusyIn, Cond.instanceMethod yX1_panelsBusyIn, Cond.selects RX1 yX1_panelsBusyIn yX1_panelsBusyIn, Cond.code yX1_panelsBusyIn cX1_panelsBusyIn 8 (some .long), Cond.instanceMethod yX0_isBusy]
def wsX1_pourOf_r2 : List Cond := [Cond.initialized RX0, Cond.selects RX0 yX0_isBusy yX0_isBusy, Cond.code yX0_isBusy cX0_isBusy 2 (some .boolean), Cond.fieldLink RX0 34 "FormworkYard$Pour" "busyFrom" "I", Cond.fieldLink RX0 37 "FormworkYard$Pour" "busyUntil" "I", Cond.methodLink RX1 214 yX1_lowestPanels, Cond.instanceMethod yX1_lowestPanels, Cond.selects RX1 yX1_lowestPanels yX1_lowestPanels, Cond.code yX1_lowestPanels cX1_lowestPanels 10 (some .long)]
def wsX1_pourOf : List Cond := .code yX1_pourOf cX1_pourOf 7 (some .int) :: ((wsX1_pourOf_r1 ++ wsX1_pourOf_r2) ++ wsX10 ++ wsX00 ++ (vx_at0 RX1 183 "java/lang/IndexOutOfBoundsException" ["java/lang/RuntimeException", "java/lang/Exception"]).filter goodWord)
def wsJ9_max_7cf53 : List Cond := .code yJ9_max_7cf53 cJ9_max_7cf53 2 (some .int) :: ([])
def wsJ9_min_7cf53 : List Cond := .code yJ9_min_7cf53 cJ9_min_7cf53 2 (some .int) :: ([])
def wsL_cell : List Cond := .code yL_cell cL_cell 2 (some .int) :: ([])
def wsL_low : List Cond := .code yL_low cL_low 2 (some .int) :: ([.constant RL 7 (2147483647)])
def wsL_isStruck_r1 : List Cond := [Cond.methodLink RL 8 yX1_endOf, Cond.instanceMethod yX1_endOf, Cond.selects RX1 yX1_endOf yX1_endOf, Cond.initialized RX1, Cond.code yX1_endOf cX1_endOf 3 (some .int), Cond.methodLink RX1 100 yX1_existing, Cond.instanceMethod yX1_existing, Cond.selects RX1 yX1_existing yX1_existing, Cond.code yX1_existing cX1_existing 3 (some (.object "FormworkYard$Pour")), Cond.classLink RX1 190 "java/util/NoSuchElementException", Cond.initialized "java/util/NoSuchElementException", Cond.fieldLink RX1 24 "FormworkYard" "pourList" "[LFormworkYard$Pour;", Cond.methodLink RX1 87 yX1_isNumber, Cond.static yX1_isNumber, Cond.code yX1_isNumber cX1_isNumber 1 (some .boolean), Cond.methodLink RL 14 yX1_struck, Cond.instanceMethod yX1_struck, Cond.selects RX1 yX1_struck yX1_struck, Cond.code yX1_struck cX1_struck 3 (some .int), Cond.methodLink RL 17 yX1_freeFrom, Cond.instanceMethod yX1_freeFrom, Cond.selects RX1 yX1_freeFrom yX1_freeFrom, Cond.code yX1_freeFrom cX1_freeFrom 3 (some .int), Cond.methodLink RL 20 yX1_maturity]
def wsL_isStruck_r2 : List Cond := [Cond.instanceMethod yX1_maturity, Cond.selects RX1 yX1_maturity yX1_maturity, Cond.code yX1_maturity cX1_maturity 3 (some .int), Cond.methodLink RX1 50 yX1_requireHour, Cond.static yX1_requireHour, Cond.code yX1_requireHour cX1_requireHour 1 none, Cond.classLink RX1 181 "java/lang/IndexOutOfBoundsException", Cond.initialized "java/lang/IndexOutOfBoundsException", Cond.methodLink RX1 165 yX1_isHour, Cond.static yX1_isHour, Cond.code yX1_isHour cX1_isHour 1 (some .boolean), Cond.methodLink RX1 65 yX1_gainBetween, Cond.instanceMethod yX1_gainBetween, Cond.selects RX1 yX1_gainBetween yX1_gainBetween, Cond.code yX1_gainBetween cX1_gainBetween 4 (some .int), Cond.methodLink RX1 74 Lib.Math.min.name, Cond.static Lib.Math.min.name, Cond.initialized "java/lang/Math", Cond.code Lib.Math.min.name Lib.Math.min.code 2 (some .int), Cond.fieldLink RX1 13 "FormworkYard" "gained" "[I", Cond.methodLink RL 24 yX1_strength, Cond.instanceMethod yX1_strength, Cond.selects RX1 yX1_strength yX1_strength, Cond.code yX1_strength cX1_strength 2 (some .int)]
def wsL_isStruck_r3 : List Cond := [Cond.constant RX1 69 (1000000), Cond.methodLink RX1 58 yX1_requireRange, Cond.static yX1_requireRange, Cond.code yX1_requireRange cX1_requireRange 3 none, Cond.methodLink RX1 54 yX1_require, Cond.static yX1_require, Cond.code yX1_require cX1_require 1 none, Cond.classLink RX1 187 "java/lang/IllegalArgumentException", Cond.initialized "java/lang/IllegalArgumentException", Cond.methodLink RX1 70 yX1_strengthAt, Cond.static yX1_strengthAt, Cond.code yX1_strengthAt cX1_strengthAt 4 (some .int), Cond.fieldLink RX1 193 "FormworkYard" "STEPS" "[I"]
def wsL_isStruck : List Cond := .code yL_isStruck cL_isStruck 8 (some .boolean) :: ((wsL_isStruck_r1 ++ (wsL_isStruck_r2 ++ wsL_isStruck_r3)) ++ wsX00 ++ wsX10 ++ (vx_at0 RX1 192 "java/util/NoSuchElementException" ["java/lang/RuntimeException", "java/lang/Exception"]).filter goodWord ++ (vx_at0 RX1 183 "java/lang/IndexOutOfBoundsException" ["java/lang/RuntimeException", "java/lang/Exception"]).filter goodWord ++ (vx_at0 RX1 189 "java/lang/IllegalArgumentException" ["java/lang/RuntimeException", "java/lang/Exception"]).filter goodWord)
def wsL_isBusy : List Cond := .code yL_isBusy cL_isBusy 7 (some .boolean) :: ([.methodLink RL 17 yX1_freeFrom, .instanceMethod yX1_freeFrom, .selects RX1 yX1_freeFrom yX1_freeFrom, .initialized RX1, .code yX1_freeFrom cX1_freeFrom 3 (some .int), .methodLink RX1 100 yX1_existing, .instanceMethod yX1_existing, .selects RX1 yX1_existing yX1_existing, .code yX1_existing cX1_existing 3 (some (.object "FormworkYard$Pour")), .classLink RX1 190 "java/util/NoSuchElementException", .initialized "java/util/NoSuchElementException", .fieldLink RX1 24 "FormworkYard" "pourList" "[LFormworkYard$Pour;", .methodLink RX1 87 yX1_isNumber, .static yX1_isNumber, .code yX1_isNumber cX1_isNumber 1 (some .boolean)] ++ wsX00 ++ wsX10 ++ (vx_at0 RX1 192 "java/util/NoSuchElementException" ["java/lang/RuntimeException", "java/lang/Exception"]).filter goodWord)
def wsL_isHour_r1 : List Cond := [Cond.methodLink RL 27 yL_isBusy, Cond.static yL_isBusy, Cond.initialized RL, Cond.code yL_isBusy cL_isBusy 7 (some .boolean), Cond.methodLink RL 17 yX1_freeFrom, Cond.instanceMethod yX1_freeFrom, Cond.selects RX1 yX1_freeFrom yX1_freeFrom, Cond.initialized RX1, Cond.code yX1_freeFrom cX1_freeFrom 3 (some .int), Cond.methodLink RX1 100 yX1_existing, Cond.instanceMethod yX1_existing, Cond.selects RX1 yX1_existing yX1_existing, Cond.code yX1_existing cX1_existing 3 (some (.object "FormworkYard$Pour")), Cond.classLink RX1 190 "java/util/NoSuchElementException", Cond.initialized "java/util/NoSuchElementException", Cond.fieldLink RX1 24 "FormworkYard" "pourList" "[LFormworkYard$Pour;", Cond.methodLink RX1 87 yX1_isNumber, Cond.static yX1_isNumber, Cond.code yX1_isNumber cX1_isNumber 1 (some .boolean), Cond.methodLink RL 33 yX1_panelsOf, Cond.instanceMethod yX1_panelsOf, Cond.selects RX1 yX1_panelsOf yX1_panelsOf, Cond.code yX1_panelsOf cX1_panelsOf 3 (some .int), Cond.methodLink RX1 168 yX1_giveOutPanels]
def wsL_isHour_r2 : List Cond := [Cond.instanceMethod yX1_giveOutPanels, Cond.selects RX1 yX1_giveOutPanels yX1_giveOutPanels, Cond.code yX1_giveOutPanels cX1_giveOutPanels 5 none, Cond.methodLink RX1 206 yX1_nextToServe, Cond.instanceMethod yX1_nextToServe, Cond.selects RX1 yX1_nextToServe yX1_nextToServe, Cond.code yX1_nextToServe cX1_nextToServe 6 (some (.object "FormworkYard$Pour")), Cond.methodLink RX1 210 yX1_panelsBusyIn, Cond.instanceMethod yX1_panelsBusyIn, Cond.selects RX1 yX1_panelsBusyIn yX1_panelsBusyIn, Cond.code yX1_panelsBusyIn cX1_panelsBusyIn 8 (some .long), Cond.instanceMethod yX0_isBusy, Cond.initialized RX0, Cond.selects RX0 yX0_isBusy yX0_isBusy, Cond.code yX0_isBusy cX0_isBusy 2 (some .boolean), Cond.fieldLink RX0 34 "FormworkYard$Pour" "busyFrom" "I", Cond.fieldLink RX0 37 "FormworkYard$Pour" "busyUntil" "I", Cond.methodLink RX1 214 yX1_lowestPanels, Cond.instanceMethod yX1_lowestPanels, Cond.selects RX1 yX1_lowestPanels yX1_lowestPanels, Cond.code yX1_lowestPanels cX1_lowestPanels 10 (some .long), Cond.fieldLink RX1 28 "FormworkYard" "yardPanels" "I", Cond.methodLink RX1 175 yJ13_bitCount_95d88, Cond.static yJ13_bitCount_95d88]
def wsL_isHour_r3 : List Cond := [Cond.initialized RJ13, Cond.code yJ13_bitCount_95d88 cJ13_bitCount_95d88 2 (some .int), Cond.constantLong RJ13 314 (6148914691236517205), Cond.constantLong RJ13 316 (3689348814741910323), Cond.constantLong RJ13 318 (1085102592571150095), Cond.methodLink RL 36 yX1_pourOf, Cond.instanceMethod yX1_pourOf, Cond.selects RX1 yX1_pourOf yX1_pourOf, Cond.code yX1_pourOf cX1_pourOf 7 (some .int), Cond.classLink RX1 181 "java/lang/IndexOutOfBoundsException", Cond.initialized "java/lang/IndexOutOfBoundsException", Cond.methodLink RX1 50 yX1_requireHour, Cond.static yX1_requireHour, Cond.code yX1_requireHour cX1_requireHour 1 none, Cond.methodLink RX1 165 yX1_isHour, Cond.static yX1_isHour, Cond.code yX1_isHour cX1_isHour 1 (some .boolean), Cond.methodLink RL 39 yX1_need, Cond.instanceMethod yX1_need, Cond.selects RX1 yX1_need yX1_need, Cond.code yX1_need cX1_need 2 (some .int), Cond.methodLink RX1 138 yX1_needIn, Cond.instanceMethod yX1_needIn, Cond.selects RX1 yX1_needIn yX1_needIn]
def wsL_isHour_r4 : List Cond := [Cond.code yX1_needIn cX1_needIn 7 (some .int), Cond.methodLink RL 42 yX1_firstShort, Cond.instanceMethod yX1_firstShort, Cond.selects RX1 yX1_firstShort yX1_firstShort, Cond.code yX1_firstShort cX1_firstShort 2 (some .int), Cond.fieldLink RX1 16 "FormworkYard" "needs" "[I", Cond.methodLink RX1 141 yX1_sumNeeds, Cond.instanceMethod yX1_sumNeeds, Cond.selects RX1 yX1_sumNeeds yX1_sumNeeds, Cond.code yX1_sumNeeds cX1_sumNeeds 2 none, Cond.methodLink RL 46 yX1_peak, Cond.instanceMethod yX1_peak, Cond.selects RX1 yX1_peak yX1_peak, Cond.code yX1_peak cX1_peak 6 (some .int), Cond.methodLink RX1 144 Lib.Math.max.name, Cond.static Lib.Math.max.name, Cond.initialized "java/lang/Math", Cond.code Lib.Math.max.name Lib.Math.max.code 2 (some .int)]
def wsL_isHour : List Cond := .code yL_isHour cL_isHour 11 (some .boolean) :: ((wsL_isHour_r1 ++ (wsL_isHour_r2 ++ (wsL_isHour_r3 ++ wsL_isHour_r4))) ++ wsX00 ++ wsX10 ++ (vx_at0 RX1 192 "java/util/NoSuchElementException" ["java/lang/RuntimeException", "java/lang/Exception"]).filter goodWord ++ (vx_at0 RX1 183 "java/lang/IndexOutOfBoundsException" ["java/lang/RuntimeException", "java/lang/Exception"]).filter goodWord)
def wsL_law0_r1 : List Cond := [Cond.classLink RL 9 RX1, Cond.instantiable RX1 9, Cond.initialized RX1, Cond.arrayClass .int, Cond.methodLink RL 49 yX1_init, Cond.instanceMethod yX1_init, Cond.code yX1_init cX1_init 1 none, Cond.methodLink RX1 1 objectInit, Cond.instanceMethod objectInit, Cond.code objectInit ⟨#[0xb1]⟩ 1 none, Cond.fieldLink RX1 9 "FormworkYard" "temperatures" "[I", Cond.fieldLink RX1 13 "FormworkYard" "gained" "[I", Cond.fieldLink RX1 16 "FormworkYard" "needs" "[I", Cond.fieldLink RX1 19 "FormworkYard" "nextFull" "[I", Cond.classLink RX1 22 RX0, Cond.fieldLink RX1 24 "FormworkYard" "pourList" "[LFormworkYard$Pour;", Cond.fieldLink RX1 28 "FormworkYard" "yardPanels" "I", Cond.fieldLink RX1 32 "FormworkYard" "rate" "I", Cond.fieldLink RX1 35 "FormworkYard" "setUpHours" "I", Cond.fieldLink RX1 38 "FormworkYard" "cleaningHours" "I", Cond.methodLink RX1 41 yJ7_fill_53178, Cond.static yJ7_fill_53178, Cond.initialized RJ7, Cond.code yJ7_fill_53178 cJ7_fill_53178 4 none]
def wsL_law0_r2 : List Cond := [Cond.methodLink RX1 47 yX1_sumGains, Cond.instanceMethod yX1_sumGains, Cond.selects RX1 yX1_sumGains yX1_sumGains, Cond.code yX1_sumGains cX1_sumGains 2 none, Cond.methodLink RX1 144 Lib.Math.max.name, Cond.static Lib.Math.max.name, Cond.initialized "java/lang/Math", Cond.code Lib.Math.max.name Lib.Math.max.code 2 (some .int), Cond.methodLink RL 50 yL_cell, Cond.static yL_cell, Cond.initialized RL, Cond.code yL_cell cL_cell 2 (some .int), Cond.methodLink RL 54 yL_low, Cond.static yL_low, Cond.code yL_low cL_low 2 (some .int), Cond.constant RL 7 (2147483647), Cond.methodLink RL 57 yX1_pours, Cond.instanceMethod yX1_pours, Cond.selects RX1 yX1_pours yX1_pours, Cond.code yX1_pours cX1_pours 6 (some .int), Cond.methodLink RL 60 yX1_plan, Cond.instanceMethod yX1_plan, Cond.selects RX1 yX1_plan yX1_plan, Cond.code yX1_plan cX1_plan 7 (some .int)]
def wsL_law0_r3 : List Cond := [Cond.classLink RX1 91 "java/lang/IllegalStateException", Cond.initialized "java/lang/IllegalStateException", Cond.instantiable RX0 13, Cond.initialized RX0, Cond.methodLink RX1 79 yX1_requirePour, Cond.static yX1_requirePour, Cond.code yX1_requirePour cX1_requirePour 4 none, Cond.methodLink RX1 58 yX1_requireRange, Cond.static yX1_requireRange, Cond.code yX1_requireRange cX1_requireRange 3 none, Cond.methodLink RX1 54 yX1_require, Cond.static yX1_require, Cond.code yX1_require cX1_require 1 none, Cond.classLink RX1 187 "java/lang/IllegalArgumentException", Cond.initialized "java/lang/IllegalArgumentException", Cond.methodLink RX1 83 yX1_freeNumber, Cond.instanceMethod yX1_freeNumber, Cond.selects RX1 yX1_freeNumber yX1_freeNumber, Cond.code yX1_freeNumber cX1_freeNumber 2 (some .int), Cond.methodLink RX1 87 yX1_isNumber, Cond.static yX1_isNumber, Cond.code yX1_isNumber cX1_isNumber 1 (some .boolean), Cond.instanceMethod yX0_init, Cond.code yX0_init cX0_init 5 none]
def wsL_law0_r4 : List Cond := [Cond.methodLink RX0 3 objectInit, Cond.fieldLink RX0 9 "FormworkYard$Pour" "parts" "[I", Cond.fieldLink RX0 15 "FormworkYard$Pour" "lengths" "[I", Cond.fieldLink RX0 18 "FormworkYard$Pour" "start" "I", Cond.fieldLink RX0 22 "FormworkYard$Pour" "volume" "I", Cond.fieldLink RX0 25 "FormworkYard$Pour" "panels" "I", Cond.fieldLink RX0 28 "FormworkYard$Pour" "wanted" "I", Cond.methodLink RX1 96 yX1_schedule, Cond.instanceMethod yX1_schedule, Cond.selects RX1 yX1_schedule yX1_schedule, Cond.code yX1_schedule cX1_schedule 2 none, Cond.methodLink RX1 153 yX1_startedHours, Cond.instanceMethod yX1_startedHours, Cond.selects RX1 yX1_startedHours yX1_startedHours, Cond.code yX1_startedHours cX1_startedHours 2 (some .int), Cond.methodLink RX1 126 yX1_fullHours, Cond.instanceMethod yX1_fullHours, Cond.selects RX1 yX1_fullHours yX1_fullHours, Cond.code yX1_fullHours cX1_fullHours 2 (some .int), Cond.instanceMethod yX0_hoursOfBreaks, Cond.selects RX0 yX0_hoursOfBreaks yX0_hoursOfBreaks, Cond.code yX0_hoursOfBreaks cX0_hoursOfBreaks 3 (some .int), Cond.fieldLink RX0 31 "FormworkYard$Pour" "breaks" "I", Cond.methodLink RX1 159 yX1_strikeHour]
def wsL_law0_r5 : List Cond := [Cond.instanceMethod yX1_strikeHour, Cond.selects RX1 yX1_strikeHour yX1_strikeHour, Cond.code yX1_strikeHour cX1_strikeHour 6 (some .int), Cond.methodLink RX1 65 yX1_gainBetween, Cond.instanceMethod yX1_gainBetween, Cond.selects RX1 yX1_gainBetween yX1_gainBetween, Cond.code yX1_gainBetween cX1_gainBetween 4 (some .int), Cond.methodLink RX1 74 Lib.Math.min.name, Cond.static Lib.Math.min.name, Cond.code Lib.Math.min.name Lib.Math.min.code 2 (some .int), Cond.methodLink RX1 70 yX1_strengthAt, Cond.static yX1_strengthAt, Cond.code yX1_strengthAt cX1_strengthAt 4 (some .int), Cond.fieldLink RX1 193 "FormworkYard" "STEPS" "[I", Cond.methodLink RX1 156 yX1_standHour, Cond.instanceMethod yX1_standHour, Cond.selects RX1 yX1_standHour yX1_standHour, Cond.code yX1_standHour cX1_standHour 2 (some .int), Cond.methodLink RX1 162 yX1_releaseHour, Cond.instanceMethod yX1_releaseHour, Cond.selects RX1 yX1_releaseHour yX1_releaseHour, Cond.code yX1_releaseHour cX1_releaseHour 2 (some .int), Cond.methodLink RL 64 yX1_cancel, Cond.instanceMethod yX1_cancel]
def wsL_law0_r6 : List Cond := [Cond.selects RX1 yX1_cancel yX1_cancel, Cond.code yX1_cancel cX1_cancel 3 (some .int), Cond.methodLink RX1 100 yX1_existing, Cond.instanceMethod yX1_existing, Cond.selects RX1 yX1_existing yX1_existing, Cond.code yX1_existing cX1_existing 3 (some (.object "FormworkYard$Pour")), Cond.classLink RX1 190 "java/util/NoSuchElementException", Cond.initialized "java/util/NoSuchElementException", Cond.methodLink RL 67 yX1_move, Cond.instanceMethod yX1_move, Cond.selects RX1 yX1_move yX1_move, Cond.code yX1_move cX1_move 5 (some .int), Cond.methodLink RL 70 yX1_setTemperature, Cond.instanceMethod yX1_setTemperature, Cond.selects RX1 yX1_setTemperature yX1_setTemperature, Cond.code yX1_setTemperature cX1_setTemperature 5 none, Cond.methodLink RX1 50 yX1_requireHour, Cond.static yX1_requireHour, Cond.code yX1_requireHour cX1_requireHour 1 none, Cond.classLink RX1 181 "java/lang/IndexOutOfBoundsException", Cond.initialized "java/lang/IndexOutOfBoundsException", Cond.methodLink RX1 165 yX1_isHour, Cond.static yX1_isHour, Cond.code yX1_isHour cX1_isHour 1 (some .boolean)]
def wsL_law0_r7 : List Cond := [Cond.methodLink RX1 62 yX1_scheduleAll, Cond.instanceMethod yX1_scheduleAll, Cond.selects RX1 yX1_scheduleAll yX1_scheduleAll, Cond.code yX1_scheduleAll cX1_scheduleAll 5 none, Cond.methodLink RL 74 yX1_setRates, Cond.instanceMethod yX1_setRates, Cond.selects RX1 yX1_setRates yX1_setRates, Cond.code yX1_setRates cX1_setRates 3 (some .int), Cond.methodLink RL 77 yX1_setCrew, Cond.instanceMethod yX1_setCrew, Cond.selects RX1 yX1_setCrew yX1_setCrew, Cond.code yX1_setCrew cX1_setCrew 3 none, Cond.methodLink RL 81 yX1_setPanels, Cond.instanceMethod yX1_setPanels, Cond.selects RX1 yX1_setPanels yX1_setPanels, Cond.code yX1_setPanels cX1_setPanels 3 (some .int), Cond.methodLink RL 46 yX1_peak, Cond.instanceMethod yX1_peak, Cond.selects RX1 yX1_peak yX1_peak, Cond.code yX1_peak cX1_peak 6 (some .int), Cond.methodLink RX1 141 yX1_sumNeeds, Cond.instanceMethod yX1_sumNeeds, Cond.selects RX1 yX1_sumNeeds yX1_sumNeeds, Cond.code yX1_sumNeeds cX1_sumNeeds 2 none]
def wsL_law0_r8 : List Cond := [Cond.methodLink RX1 138 yX1_needIn, Cond.instanceMethod yX1_needIn, Cond.selects RX1 yX1_needIn yX1_needIn, Cond.code yX1_needIn cX1_needIn 7 (some .int), Cond.instanceMethod yX0_isBusy, Cond.selects RX0 yX0_isBusy yX0_isBusy, Cond.code yX0_isBusy cX0_isBusy 2 (some .boolean), Cond.fieldLink RX0 34 "FormworkYard$Pour" "busyFrom" "I", Cond.fieldLink RX0 37 "FormworkYard$Pour" "busyUntil" "I", Cond.methodLink RL 84 yX1_peakByOverlaps, Cond.instanceMethod yX1_peakByOverlaps, Cond.selects RX1 yX1_peakByOverlaps yX1_peakByOverlaps, Cond.code yX1_peakByOverlaps cX1_peakByOverlaps 6 (some .int), Cond.methodLink RL 42 yX1_firstShort, Cond.instanceMethod yX1_firstShort, Cond.selects RX1 yX1_firstShort yX1_firstShort, Cond.code yX1_firstShort cX1_firstShort 2 (some .int), Cond.methodLink RL 87 yL_isStruck, Cond.static yL_isStruck, Cond.code yL_isStruck cL_isStruck 8 (some .boolean), Cond.methodLink RL 8 yX1_endOf, Cond.instanceMethod yX1_endOf, Cond.selects RX1 yX1_endOf yX1_endOf, Cond.code yX1_endOf cX1_endOf 3 (some .int)]
def wsL_law0_r9 : List Cond := [Cond.methodLink RL 14 yX1_struck, Cond.instanceMethod yX1_struck, Cond.selects RX1 yX1_struck yX1_struck, Cond.code yX1_struck cX1_struck 3 (some .int), Cond.methodLink RL 17 yX1_freeFrom, Cond.instanceMethod yX1_freeFrom, Cond.selects RX1 yX1_freeFrom yX1_freeFrom, Cond.code yX1_freeFrom cX1_freeFrom 3 (some .int), Cond.methodLink RL 20 yX1_maturity, Cond.instanceMethod yX1_maturity, Cond.selects RX1 yX1_maturity yX1_maturity, Cond.code yX1_maturity cX1_maturity 3 (some .int), Cond.methodLink RL 24 yX1_strength, Cond.instanceMethod yX1_strength, Cond.selects RX1 yX1_strength yX1_strength, Cond.code yX1_strength cX1_strength 2 (some .int), Cond.constant RX1 69 (1000000), Cond.methodLink RL 33 yX1_panelsOf, Cond.instanceMethod yX1_panelsOf, Cond.selects RX1 yX1_panelsOf yX1_panelsOf, Cond.code yX1_panelsOf cX1_panelsOf 3 (some .int), Cond.methodLink RX1 168 yX1_giveOutPanels, Cond.instanceMethod yX1_giveOutPanels, Cond.selects RX1 yX1_giveOutPanels yX1_giveOutPanels]
def wsL_law0_r10 : List Cond := [Cond.code yX1_giveOutPanels cX1_giveOutPanels 5 none, Cond.methodLink RX1 206 yX1_nextToServe, Cond.instanceMethod yX1_nextToServe, Cond.selects RX1 yX1_nextToServe yX1_nextToServe, Cond.code yX1_nextToServe cX1_nextToServe 6 (some (.object "FormworkYard$Pour")), Cond.methodLink RX1 210 yX1_panelsBusyIn, Cond.instanceMethod yX1_panelsBusyIn, Cond.selects RX1 yX1_panelsBusyIn yX1_panelsBusyIn, Cond.code yX1_panelsBusyIn cX1_panelsBusyIn 8 (some .long), Cond.methodLink RX1 214 yX1_lowestPanels, Cond.instanceMethod yX1_lowestPanels, Cond.selects RX1 yX1_lowestPanels yX1_lowestPanels, Cond.code yX1_lowestPanels cX1_lowestPanels 10 (some .long), Cond.methodLink RX1 175 yJ13_bitCount_95d88, Cond.static yJ13_bitCount_95d88, Cond.initialized RJ13, Cond.code yJ13_bitCount_95d88 cJ13_bitCount_95d88 2 (some .int), Cond.constantLong RJ13 314 (6148914691236517205), Cond.constantLong RJ13 316 (3689348814741910323), Cond.constantLong RJ13 318 (1085102592571150095), Cond.methodLink RL 91 yL_isHour, Cond.static yL_isHour, Cond.code yL_isHour cL_isHour 11 (some .boolean), Cond.methodLink RL 27 yL_isBusy]
def wsL_law0_r11 : List Cond := [Cond.static yL_isBusy, Cond.code yL_isBusy cL_isBusy 7 (some .boolean), Cond.methodLink RL 36 yX1_pourOf, Cond.instanceMethod yX1_pourOf, Cond.selects RX1 yX1_pourOf yX1_pourOf, Cond.code yX1_pourOf cX1_pourOf 7 (some .int), Cond.methodLink RL 39 yX1_need, Cond.instanceMethod yX1_need, Cond.selects RX1 yX1_need yX1_need, Cond.code yX1_need cX1_need 2 (some .int)]
def wsL_law0 : List Cond := (wsL_law0_r1 ++ (wsL_law0_r2 ++ (wsL_law0_r3 ++ (wsL_law0_r4 ++ (wsL_law0_r5 ++ (wsL_law0_r6 ++ (wsL_law0_r7 ++ (wsL_law0_r8 ++ (wsL_law0_r9 ++ (wsL_law0_r10 ++ wsL_law0_r11)))))))))) ++ wsX10 ++ wsX00 ++ ([] : List Cond)
def wsL_law : List Cond := wsL_law0 ++ (vx_at0 RX1 93 "java/lang/IllegalStateException" ["java/lang/RuntimeException", "java/lang/Exception"]).filter goodWord ++ (vx_at0 RX1 189 "java/lang/IllegalArgumentException" ["java/lang/RuntimeException", "java/lang/Exception"]).filter goodWord ++ (vx_at0 RX1 192 "java/util/NoSuchElementException" ["java/lang/RuntimeException", "java/lang/Exception"]).filter goodWord ++ (vx_at0 RX1 183 "java/lang/IndexOutOfBoundsException" ["java/lang/RuntimeException", "java/lang/Exception"]).filter goodWord
set_option maxRecDepth 20000 in
theorem inJx145de : ∀ w ∈ wsJx145de0, w ∈ lw_tbl := by decide +kernel
theorem inJ13 : ∀ w ∈ wsJ130, w ∈ lw_tbl := by decide +kernel
theorem inJ9 : ∀ w ∈ wsJ90, w ∈ lw_tbl := by decide +kernel
theorem inJ7 : ∀ w ∈ wsJ70, w ∈ lw_tbl := by decide +kernel
abbrev vwCl : List vw_C := [(RX0, TX0, 13), (RX1, TX1, 9)]
end
section
theorem dX0_init_0 : decode cX0_init 0 = .ok (.aload_n 0, 1) := by decide +kernel
theorem dX0_init_1 : decode cX0_init 1 = .ok (.invokespecial 3, 3) := by decide +kernel
theorem dX0_init_4 : decode cX0_init 4 = .ok (.aload_n 0, 1) := by decide +kernel
theorem dX0_init_5 : decode cX0_init 5 = .ok (.iconst 4, 1) := by decide +kernel
theorem dX0_init_6 : decode cX0_init 6 = .ok (.newarray .int, 2) := by decide +kernel
theorem dX0_init_8 : decode cX0_init 8 = .ok (.putfield 9, 3) := by decide +kernel
theorem dX0_init_11 : decode cX0_init 11 = .ok (.aload_n 0, 1) := by decide +kernel
theorem dX0_init_12 : decode cX0_init 12 = .ok (.iconst 4, 1) := by decide +kernel
theorem dX0_init_13 : decode cX0_init 13 = .ok (.newarray .int, 2) := by decide +kernel
theorem dX0_init_15 : decode cX0_init 15 = .ok (.putfield 15, 3) := by decide +kernel
theorem dX0_init_18 : decode cX0_init 18 = .ok (.aload_n 0, 1) := by decide +kernel
theorem dX0_init_19 : decode cX0_init 19 = .ok (.iload_n 1, 1) := by decide +kernel
theorem dX0_init_20 : decode cX0_init 20 = .ok (.putfield 18, 3) := by decide +kernel
theorem dX0_init_23 : decode cX0_init 23 = .ok (.aload_n 0, 1) := by decide +kernel
theorem dX0_init_24 : decode cX0_init 24 = .ok (.iload_n 2, 1) := by decide +kernel
theorem dX0_init_25 : decode cX0_init 25 = .ok (.putfield 22, 3) := by decide +kernel
theorem dX0_init_28 : decode cX0_init 28 = .ok (.aload_n 0, 1) := by decide +kernel
theorem dX0_init_29 : decode cX0_init 29 = .ok (.iload_n 3, 1) := by decide +kernel
theorem dX0_init_30 : decode cX0_init 30 = .ok (.putfield 25, 3) := by decide +kernel
theorem dX0_init_33 : decode cX0_init 33 = .ok (.aload_n 0, 1) := by decide +kernel
theorem dX0_init_34 : decode cX0_init 34 = .ok (.iload 4, 2) := by decide +kernel
theorem dX0_init_36 : decode cX0_init 36 = .ok (.putfield 28, 3) := by decide +kernel
theorem dX0_init_39 : decode cX0_init 39 = .ok (.return_, 1) := by decide +kernel
theorem dX0_hoursOfBreaks_0 : decode cX0_hoursOfBreaks 0 = .ok (.iconst 0, 1) := by decide +kernel
theorem dX0_hoursOfBreaks_1 : decode cX0_hoursOfBreaks 1 = .ok (.istore_n 1, 1) := by decide +kernel
theorem dX0_hoursOfBreaks_2 : decode cX0_hoursOfBreaks 2 = .ok (.iconst 0, 1) := by decide +kernel
theorem dX0_hoursOfBreaks_3 : decode cX0_hoursOfBreaks 3 = .ok (.istore_n 2, 1) := by decide +kernel
theorem dX0_hoursOfBreaks_4 : decode cX0_hoursOfBreaks 4 = .ok (.iload_n 2, 1) := by decide +kernel
theorem dX0_hoursOfBreaks_5 : decode cX0_hoursOfBreaks 5 = .ok (.aload_n 0, 1) := by decide +kernel
theorem dX0_hoursOfBreaks_6 : decode cX0_hoursOfBreaks 6 = .ok (.getfield 31, 3) := by decide +kernel
theorem dX0_hoursOfBreaks_9 : decode cX0_hoursOfBreaks 9 = .ok (.if_icmp .ge 23, 3) := by decide +kernel
theorem dX0_hoursOfBreaks_12 : decode cX0_hoursOfBreaks 12 = .ok (.iload_n 2, 1) := by decide +kernel
theorem dX0_hoursOfBreaks_13 : decode cX0_hoursOfBreaks 13 = .ok (.iconst 4, 1) := by decide +kernel
theorem dX0_hoursOfBreaks_14 : decode cX0_hoursOfBreaks 14 = .ok (.if_icmp .ge 18, 3) := by decide +kernel
theorem dX0_hoursOfBreaks_17 : decode cX0_hoursOfBreaks 17 = .ok (.iload_n 1, 1) := by decide +kernel
theorem dX0_hoursOfBreaks_18 : decode cX0_hoursOfBreaks 18 = .ok (.aload_n 0, 1) := by decide +kernel
theorem dX0_hoursOfBreaks_19 : decode cX0_hoursOfBreaks 19 = .ok (.getfield 15, 3) := by decide +kernel
theorem dX0_hoursOfBreaks_22 : decode cX0_hoursOfBreaks 22 = .ok (.iload_n 2, 1) := by decide +kernel
theorem dX0_hoursOfBreaks_23 : decode cX0_hoursOfBreaks 23 = .ok (.iaload, 1) := by decide +kernel
theorem dX0_hoursOfBreaks_24 : decode cX0_hoursOfBreaks 24 = .ok (.iadd, 1) := by decide +kernel
theorem dX0_hoursOfBreaks_25 : decode cX0_hoursOfBreaks 25 = .ok (.istore_n 1, 1) := by decide +kernel
theorem dX0_hoursOfBreaks_26 : decode cX0_hoursOfBreaks 26 = .ok (.iinc 2 1, 3) := by decide +kernel
theorem dX0_hoursOfBreaks_29 : decode cX0_hoursOfBreaks 29 = .ok (.goto (-25), 3) := by decide +kernel
theorem dX0_hoursOfBreaks_32 : decode cX0_hoursOfBreaks 32 = .ok (.iload_n 1, 1) := by decide +kernel
theorem dX0_hoursOfBreaks_33 : decode cX0_hoursOfBreaks 33 = .ok (.ireturn, 1) := by decide +kernel
theorem dX0_isBusy_0 : decode cX0_isBusy 0 = .ok (.aload_n 0, 1) := by decide +kernel
theorem dX0_isBusy_1 : decode cX0_isBusy 1 = .ok (.getfield 34, 3) := by decide +kernel
theorem dX0_isBusy_4 : decode cX0_isBusy 4 = .ok (.iload_n 1, 1) := by decide +kernel
theorem dX0_isBusy_5 : decode cX0_isBusy 5 = .ok (.if_icmp .gt 15, 3) := by decide +kernel
theorem dX0_isBusy_8 : decode cX0_isBusy 8 = .ok (.iload_n 1, 1) := by decide +kernel
theorem dX0_isBusy_9 : decode cX0_isBusy 9 = .ok (.aload_n 0, 1) := by decide +kernel
theorem dX0_isBusy_10 : decode cX0_isBusy 10 = .ok (.getfield 37, 3) := by decide +kernel
theorem dX0_isBusy_13 : decode cX0_isBusy 13 = .ok (.if_icmp .ge 7, 3) := by decide +kernel
theorem dX0_isBusy_16 : decode cX0_isBusy 16 = .ok (.iconst 1, 1) := by decide +kernel
theorem dX0_isBusy_17 : decode cX0_isBusy 17 = .ok (.goto 4, 3) := by decide +kernel
theorem dX0_isBusy_20 : decode cX0_isBusy 20 = .ok (.iconst 0, 1) := by decide +kernel
theorem dX0_isBusy_21 : decode cX0_isBusy 21 = .ok (.ireturn, 1) := by decide +kernel
set_option maxRecDepth 20000 in
theorem ggX1_init_J7_fill_53178 : GoodIn wsX1_init wsJ7_fill_53178 := goodIn_r _ [18] (by decide +kernel) (by decide +kernel)
set_option maxRecDepth 20000 in
theorem gX1_init_J7_fill_53178 : GoodIn wsX1_init (va_wsS RX1 41 yJ7_fill_53178 wsJ7_fill_53178) := goodIn_app (goodIn_of _ (by decide +kernel)) ggX1_init_J7_fill_53178
set_option maxRecDepth 20000 in
theorem ggX1_init_X1_sumGains : GoodIn wsX1_init wsX1_sumGains := goodIn_r _ [23, 6, 5, 24, 25, 26, 27, 28, 29, 30, 31, 32, 33, 34, 35, 36] (by decide +kernel) (by decide +kernel)
set_option maxRecDepth 20000 in
theorem gX1_init_X1_sumGains : GoodIn wsX1_init (wsV RX1 47 RX1 yX1_sumGains wsX1_sumGains) := goodIn_app (goodIn_of _ (by decide +kernel)) ggX1_init_X1_sumGains
theorem dX1_init_0 : decode cX1_init 0 = .ok (.aload_n 0, 1) := by decide +kernel
theorem dX1_init_1 : decode cX1_init 1 = .ok (.invokespecial 1, 3) := by decide +kernel
theorem dX1_init_4 : decode cX1_init 4 = .ok (.aload_n 0, 1) := by decide +kernel
theorem dX1_init_5 : decode cX1_init 5 = .ok (.sipush 1000, 3) := by decide +kernel
theorem dX1_init_8 : decode cX1_init 8 = .ok (.newarray .int, 2) := by decide +kernel
theorem dX1_init_10 : decode cX1_init 10 = .ok (.putfield 9, 3) := by decide +kernel
theorem dX1_init_13 : decode cX1_init 13 = .ok (.aload_n 0, 1) := by decide +kernel
theorem dX1_init_14 : decode cX1_init 14 = .ok (.sipush 1001, 3) := by decide +kernel
theorem dX1_init_17 : decode cX1_init 17 = .ok (.newarray .int, 2) := by decide +kernel
theorem dX1_init_19 : decode cX1_init 19 = .ok (.putfield 13, 3) := by decide +kernel
theorem dX1_init_22 : decode cX1_init 22 = .ok (.aload_n 0, 1) := by decide +kernel
theorem dX1_init_23 : decode cX1_init 23 = .ok (.sipush 1000, 3) := by decide +kernel
theorem dX1_init_26 : decode cX1_init 26 = .ok (.newarray .int, 2) := by decide +kernel
theorem dX1_init_28 : decode cX1_init 28 = .ok (.putfield 16, 3) := by decide +kernel
theorem dX1_init_31 : decode cX1_init 31 = .ok (.aload_n 0, 1) := by decide +kernel
theorem dX1_init_32 : decode cX1_init 32 = .ok (.sipush 1001, 3) := by decide +kernel
theorem dX1_init_35 : decode cX1_init 35 = .ok (.newarray .int, 2) := by decide +kernel
theorem dX1_init_37 : decode cX1_init 37 = .ok (.putfield 19, 3) := by decide +kernel
theorem dX1_init_40 : decode cX1_init 40 = .ok (.aload_n 0, 1) := by decide +kernel
theorem dX1_init_41 : decode cX1_init 41 = .ok (.bipush 10, 2) := by decide +kernel
theorem dX1_init_43 : decode cX1_init 43 = .ok (.anewarray 22, 3) := by decide +kernel
theorem dX1_init_46 : decode cX1_init 46 = .ok (.putfield 24, 3) := by decide +kernel
theorem dX1_init_49 : decode cX1_init 49 = .ok (.aload_n 0, 1) := by decide +kernel
theorem dX1_init_50 : decode cX1_init 50 = .ok (.bipush 20, 2) := by decide +kernel
theorem dX1_init_52 : decode cX1_init 52 = .ok (.putfield 28, 3) := by decide +kernel
theorem dX1_init_55 : decode cX1_init 55 = .ok (.aload_n 0, 1) := by decide +kernel
theorem dX1_init_56 : decode cX1_init 56 = .ok (.bipush 10, 2) := by decide +kernel
theorem dX1_init_58 : decode cX1_init 58 = .ok (.putfield 32, 3) := by decide +kernel
theorem dX1_init_61 : decode cX1_init 61 = .ok (.aload_n 0, 1) := by decide +kernel
theorem dX1_init_62 : decode cX1_init 62 = .ok (.iconst 2, 1) := by decide +kernel
theorem dX1_init_63 : decode cX1_init 63 = .ok (.putfield 35, 3) := by decide +kernel
theorem dX1_init_66 : decode cX1_init 66 = .ok (.aload_n 0, 1) := by decide +kernel
theorem dX1_init_67 : decode cX1_init 67 = .ok (.iconst 3, 1) := by decide +kernel
theorem dX1_init_68 : decode cX1_init 68 = .ok (.putfield 38, 3) := by decide +kernel
theorem dX1_init_71 : decode cX1_init 71 = .ok (.aload_n 0, 1) := by decide +kernel
theorem dX1_init_72 : decode cX1_init 72 = .ok (.getfield 9, 3) := by decide +kernel
theorem dX1_init_75 : decode cX1_init 75 = .ok (.bipush 20, 2) := by decide +kernel
theorem dX1_init_77 : decode cX1_init 77 = .ok (.invokestatic 41, 3) := by decide +kernel
theorem dX1_init_80 : decode cX1_init 80 = .ok (.aload_n 0, 1) := by decide +kernel
theorem dX1_init_81 : decode cX1_init 81 = .ok (.invokevirtual 47, 3) := by decide +kernel
theorem dX1_init_84 : decode cX1_init 84 = .ok (.return_, 1) := by decide +kernel
set_option maxRecDepth 20000 in
theorem ggX1_setTemperature_X1_requireHour : GoodIn wsX1_setTemperature wsX1_requireHour := goodIn_ca (goodIn_r _ [5, 6, 7, 8, 9, 4, 10] (by decide +kernel) (by decide +kernel)) (goodIn_sub (fun _ h => List.mem_cons_of_mem _ (List.mem_append_left _ (List.mem_append_right _ h))) (by decide +kernel))
set_option maxRecDepth 20000 in
theorem gX1_setTemperature_X1_requireHour : GoodIn wsX1_setTemperature (va_wsS RX1 50 yX1_requireHour wsX1_requireHour) := goodIn_app (goodIn_of _ (by decide +kernel)) ggX1_setTemperature_X1_requireHour
set_option maxRecDepth 20000 in
theorem ggX1_setTemperature_X1_require : GoodIn wsX1_setTemperature wsX1_require := goodIn_ca (goodIn_r _ [13, 14, 15] (by decide +kernel) (by decide +kernel)) (goodIn_sub (fun _ h => List.mem_cons_of_mem _ (List.mem_append_right _ h)) (by decide +kernel))
set_option maxRecDepth 20000 in
theorem gX1_setTemperature_X1_require : GoodIn wsX1_setTemperature (va_wsS RX1 54 yX1_require wsX1_require) := goodIn_app (goodIn_of _ (by decide +kernel)) ggX1_setTemperature_X1_require
set_option maxRecDepth 20000 in
theorem ggX1_setTemperature_X1_requireRange : GoodIn wsX1_setTemperature wsX1_requireRange := goodIn_ca (goodIn_r _ [18, 11, 12, 4, 13, 14, 15] (by decide +kernel) (by decide +kernel)) (goodIn_sub (fun _ h => List.mem_cons_of_mem _ (List.mem_append_right _ h)) (by decide +kernel))
set_option maxRecDepth 20000 in
theorem gX1_setTemperature_X1_requireRange : GoodIn wsX1_setTemperature (va_wsS RX1 58 yX1_requireRange wsX1_requireRange) := goodIn_app (goodIn_of _ (by decide +kernel)) ggX1_setTemperature_X1_requireRange
set_option maxRecDepth 20000 in
theorem ggX1_setTemperature_X1_sumGains : GoodIn wsX1_setTemperature wsX1_sumGains := goodIn_r _ [22, 23, 1, 24, 25, 26, 27, 77, 78, 79, 80, 81, 82, 83, 84, 85] (by decide +kernel) (by decide +kernel)
set_option maxRecDepth 20000 in
theorem gX1_setTemperature_X1_sumGains : GoodIn wsX1_setTemperature (wsV RX1 47 RX1 yX1_sumGains wsX1_sumGains) := goodIn_app (goodIn_of _ (by decide +kernel)) ggX1_setTemperature_X1_sumGains
set_option maxRecDepth 20000 in
theorem ggX1_setTemperature_X1_scheduleAll : GoodIn wsX1_setTemperature wsX1_scheduleAll := goodIn_r _ [31, 32, 33, 34, 35, 4, 36, 37, 38, 39, 40, 41, 42, 43, 44, 45, 46, 47, 48, 49, 50, 51, 52, 53, 54, 55, 56, 57, 58, 59, 60, 61, 26, 62, 23, 63, 64, 65, 66, 67, 68, 69, 70, 71, 24, 25, 27, 72, 73, 74, 75, 76, 77, 78, 79, 80, 81, 82, 83, 84, 85, 86, 87, 88, 89, 90, 91, 92, 93, 94, 95, 96, 97, 98] (by decide +kernel) (by decide +kernel)
set_option maxRecDepth 20000 in
theorem gX1_setTemperature_X1_scheduleAll : GoodIn wsX1_setTemperature (wsV RX1 62 RX1 yX1_scheduleAll wsX1_scheduleAll) := goodIn_app (goodIn_of _ (by decide +kernel)) ggX1_setTemperature_X1_scheduleAll
theorem dX1_setTemperature_0 : decode cX1_setTemperature 0 = .ok (.iload_n 1, 1) := by decide +kernel
theorem dX1_setTemperature_1 : decode cX1_setTemperature 1 = .ok (.invokestatic 50, 3) := by decide +kernel
theorem dX1_setTemperature_4 : decode cX1_setTemperature 4 = .ok (.iload_n 2, 1) := by decide +kernel
theorem dX1_setTemperature_5 : decode cX1_setTemperature 5 = .ok (.invokestatic 50, 3) := by decide +kernel
theorem dX1_setTemperature_8 : decode cX1_setTemperature 8 = .ok (.iload_n 1, 1) := by decide +kernel
theorem dX1_setTemperature_9 : decode cX1_setTemperature 9 = .ok (.iload_n 2, 1) := by decide +kernel
theorem dX1_setTemperature_10 : decode cX1_setTemperature 10 = .ok (.if_icmp .gt 7, 3) := by decide +kernel
theorem dX1_setTemperature_13 : decode cX1_setTemperature 13 = .ok (.iconst 1, 1) := by decide +kernel
theorem dX1_setTemperature_14 : decode cX1_setTemperature 14 = .ok (.goto 4, 3) := by decide +kernel
theorem dX1_setTemperature_17 : decode cX1_setTemperature 17 = .ok (.iconst 0, 1) := by decide +kernel
theorem dX1_setTemperature_18 : decode cX1_setTemperature 18 = .ok (.invokestatic 54, 3) := by decide +kernel
theorem dX1_setTemperature_21 : decode cX1_setTemperature 21 = .ok (.iload_n 3, 1) := by decide +kernel
theorem dX1_setTemperature_22 : decode cX1_setTemperature 22 = .ok (.bipush (-40), 2) := by decide +kernel
theorem dX1_setTemperature_24 : decode cX1_setTemperature 24 = .ok (.bipush 50, 2) := by decide +kernel
theorem dX1_setTemperature_26 : decode cX1_setTemperature 26 = .ok (.invokestatic 58, 3) := by decide +kernel
theorem dX1_setTemperature_29 : decode cX1_setTemperature 29 = .ok (.iload_n 1, 1) := by decide +kernel
theorem dX1_setTemperature_30 : decode cX1_setTemperature 30 = .ok (.istore 4, 2) := by decide +kernel
theorem dX1_setTemperature_32 : decode cX1_setTemperature 32 = .ok (.iload 4, 2) := by decide +kernel
theorem dX1_setTemperature_34 : decode cX1_setTemperature 34 = .ok (.iload_n 2, 1) := by decide +kernel
theorem dX1_setTemperature_35 : decode cX1_setTemperature 35 = .ok (.if_icmp .gt 25, 3) := by decide +kernel
theorem dX1_setTemperature_38 : decode cX1_setTemperature 38 = .ok (.iload 4, 2) := by decide +kernel
theorem dX1_setTemperature_40 : decode cX1_setTemperature 40 = .ok (.sipush 1000, 3) := by decide +kernel
theorem dX1_setTemperature_43 : decode cX1_setTemperature 43 = .ok (.if_icmp .ge 17, 3) := by decide +kernel
theorem dX1_setTemperature_46 : decode cX1_setTemperature 46 = .ok (.aload_n 0, 1) := by decide +kernel
theorem dX1_setTemperature_47 : decode cX1_setTemperature 47 = .ok (.getfield 9, 3) := by decide +kernel
theorem dX1_setTemperature_50 : decode cX1_setTemperature 50 = .ok (.iload 4, 2) := by decide +kernel
theorem dX1_setTemperature_52 : decode cX1_setTemperature 52 = .ok (.iload_n 3, 1) := by decide +kernel
theorem dX1_setTemperature_53 : decode cX1_setTemperature 53 = .ok (.iastore, 1) := by decide +kernel
theorem dX1_setTemperature_54 : decode cX1_setTemperature 54 = .ok (.iinc 4 1, 3) := by decide +kernel
theorem dX1_setTemperature_57 : decode cX1_setTemperature 57 = .ok (.goto (-25), 3) := by decide +kernel
theorem dX1_setTemperature_60 : decode cX1_setTemperature 60 = .ok (.aload_n 0, 1) := by decide +kernel
theorem dX1_setTemperature_61 : decode cX1_setTemperature 61 = .ok (.invokevirtual 47, 3) := by decide +kernel
theorem dX1_setTemperature_64 : decode cX1_setTemperature 64 = .ok (.aload_n 0, 1) := by decide +kernel
theorem dX1_setTemperature_65 : decode cX1_setTemperature 65 = .ok (.invokevirtual 62, 3) := by decide +kernel
theorem dX1_setTemperature_68 : decode cX1_setTemperature 68 = .ok (.return_, 1) := by decide +kernel
set_option maxRecDepth 20000 in
theorem ggX1_maturity_X1_requireHour : GoodIn wsX1_maturity wsX1_requireHour := goodIn_ca (goodIn_r _ [4, 5, 6, 7, 8, 3, 9] (by decide +kernel) (by decide +kernel)) (goodIn_sub (fun _ h => List.mem_cons_of_mem _ (List.mem_append_right _ h)) (by decide +kernel))
set_option maxRecDepth 20000 in
theorem gX1_maturity_X1_requireHour : GoodIn wsX1_maturity (va_wsS RX1 50 yX1_requireHour wsX1_requireHour) := goodIn_app (goodIn_of _ (by decide +kernel)) ggX1_maturity_X1_requireHour
set_option maxRecDepth 20000 in
theorem ggX1_maturity_X1_gainBetween : GoodIn wsX1_maturity wsX1_gainBetween := goodIn_r _ [13, 14, 15, 16, 17, 18, 19, 20, 21, 22, 23, 24, 25, 26, 27] (by decide +kernel) (by decide +kernel)
set_option maxRecDepth 20000 in
theorem gX1_maturity_X1_gainBetween : GoodIn wsX1_maturity (wsV RX1 65 RX1 yX1_gainBetween wsX1_gainBetween) := goodIn_app (goodIn_of _ (by decide +kernel)) ggX1_maturity_X1_gainBetween
theorem dX1_maturity_0 : decode cX1_maturity 0 = .ok (.iload_n 1, 1) := by decide +kernel
theorem dX1_maturity_1 : decode cX1_maturity 1 = .ok (.invokestatic 50, 3) := by decide +kernel
theorem dX1_maturity_4 : decode cX1_maturity 4 = .ok (.iload_n 2, 1) := by decide +kernel
theorem dX1_maturity_5 : decode cX1_maturity 5 = .ok (.invokestatic 50, 3) := by decide +kernel
theorem dX1_maturity_8 : decode cX1_maturity 8 = .ok (.aload_n 0, 1) := by decide +kernel
theorem dX1_maturity_9 : decode cX1_maturity 9 = .ok (.iload_n 1, 1) := by decide +kernel
theorem dX1_maturity_10 : decode cX1_maturity 10 = .ok (.iload_n 2, 1) := by decide +kernel
theorem dX1_maturity_11 : decode cX1_maturity 11 = .ok (.invokevirtual 65, 3) := by decide +kernel
theorem dX1_maturity_14 : decode cX1_maturity 14 = .ok (.ireturn, 1) := by decide +kernel
set_option maxRecDepth 20000 in
theorem ggX1_strength_X1_requireRange : GoodIn wsX1_strength wsX1_requireRange := goodIn_ca (goodIn_r _ [5, 6, 7, 4, 8, 9, 10] (by decide +kernel) (by decide +kernel)) (goodIn_sub (fun _ h => List.mem_cons_of_mem _ (List.mem_append_right _ h)) (by decide +kernel))
set_option maxRecDepth 20000 in
theorem gX1_strength_X1_requireRange : GoodIn wsX1_strength (va_wsS RX1 58 yX1_requireRange wsX1_requireRange) := goodIn_app (goodIn_of _ (by decide +kernel)) ggX1_strength_X1_requireRange
set_option maxRecDepth 20000 in
theorem ggX1_strength_X1_strengthAt : GoodIn wsX1_strength wsX1_strengthAt := goodIn_r _ [13, 14] (by decide +kernel) (by decide +kernel)
set_option maxRecDepth 20000 in
theorem gX1_strength_X1_strengthAt : GoodIn wsX1_strength (va_wsS RX1 70 yX1_strengthAt wsX1_strengthAt) := goodIn_app (goodIn_of _ (by decide +kernel)) ggX1_strength_X1_strengthAt
theorem dX1_strength_0 : decode cX1_strength 0 = .ok (.iload_n 1, 1) := by decide +kernel
theorem dX1_strength_1 : decode cX1_strength 1 = .ok (.iconst 0, 1) := by decide +kernel
theorem dX1_strength_2 : decode cX1_strength 2 = .ok (.ldc 69, 2) := by decide +kernel
theorem dX1_strength_4 : decode cX1_strength 4 = .ok (.invokestatic 58, 3) := by decide +kernel
theorem dX1_strength_7 : decode cX1_strength 7 = .ok (.iload_n 1, 1) := by decide +kernel
theorem dX1_strength_8 : decode cX1_strength 8 = .ok (.invokestatic 70, 3) := by decide +kernel
theorem dX1_strength_11 : decode cX1_strength 11 = .ok (.ireturn, 1) := by decide +kernel
set_option maxRecDepth 20000 in
theorem ggX1_setPanels_X1_requireRange : GoodIn wsX1_setPanels wsX1_requireRange := goodIn_ca (goodIn_r _ [5, 6, 7, 4, 8, 9, 10] (by decide +kernel) (by decide +kernel)) (goodIn_sub (fun _ h => List.mem_cons_of_mem _ (List.mem_append_right _ h)) (by decide +kernel))
set_option maxRecDepth 20000 in
theorem gX1_setPanels_X1_requireRange : GoodIn wsX1_setPanels (va_wsS RX1 58 yX1_requireRange wsX1_requireRange) := goodIn_app (goodIn_of _ (by decide +kernel)) ggX1_setPanels_X1_requireRange
theorem dX1_setPanels_0 : decode cX1_setPanels 0 = .ok (.iload_n 1, 1) := by decide +kernel
theorem dX1_setPanels_1 : decode cX1_setPanels 1 = .ok (.iconst 0, 1) := by decide +kernel
theorem dX1_setPanels_2 : decode cX1_setPanels 2 = .ok (.bipush 60, 2) := by decide +kernel
theorem dX1_setPanels_4 : decode cX1_setPanels 4 = .ok (.invokestatic 58, 3) := by decide +kernel
theorem dX1_setPanels_7 : decode cX1_setPanels 7 = .ok (.aload_n 0, 1) := by decide +kernel
theorem dX1_setPanels_8 : decode cX1_setPanels 8 = .ok (.getfield 28, 3) := by decide +kernel
theorem dX1_setPanels_11 : decode cX1_setPanels 11 = .ok (.istore_n 2, 1) := by decide +kernel
theorem dX1_setPanels_12 : decode cX1_setPanels 12 = .ok (.aload_n 0, 1) := by decide +kernel
theorem dX1_setPanels_13 : decode cX1_setPanels 13 = .ok (.iload_n 1, 1) := by decide +kernel
theorem dX1_setPanels_14 : decode cX1_setPanels 14 = .ok (.putfield 28, 3) := by decide +kernel
theorem dX1_setPanels_17 : decode cX1_setPanels 17 = .ok (.iload_n 2, 1) := by decide +kernel
theorem dX1_setPanels_18 : decode cX1_setPanels 18 = .ok (.ireturn, 1) := by decide +kernel
set_option maxRecDepth 20000 in
theorem ggX1_setRates_X1_requireRange : GoodIn wsX1_setRates wsX1_requireRange := goodIn_ca (goodIn_r _ [9, 10, 11, 8, 12, 13, 14] (by decide +kernel) (by decide +kernel)) (goodIn_sub (fun _ h => List.mem_cons_of_mem _ (List.mem_append_right _ h)) (by decide +kernel))
set_option maxRecDepth 20000 in
theorem gX1_setRates_X1_requireRange : GoodIn wsX1_setRates (va_wsS RX1 58 yX1_requireRange wsX1_requireRange) := goodIn_app (goodIn_of _ (by decide +kernel)) ggX1_setRates_X1_requireRange
set_option maxRecDepth 20000 in
theorem ggX1_setRates_X1_scheduleAll : GoodIn wsX1_setRates wsX1_scheduleAll := goodIn_r _ [18, 19, 20, 21, 22, 8, 23, 24, 25, 26, 27, 5, 28, 29, 30, 31, 32, 33, 34, 35, 36, 37, 38, 39, 40, 41, 42, 43, 44, 45, 1, 2, 3, 4, 46, 47, 48, 49, 50, 51, 52, 53, 54, 55, 56, 57, 58, 59, 60, 61, 62, 63, 64, 65, 66, 67, 68, 69, 70, 71, 72, 73, 74, 75, 76, 77, 78, 79, 80, 81, 82, 83, 84, 85] (by decide +kernel) (by decide +kernel)
set_option maxRecDepth 20000 in
theorem gX1_setRates_X1_scheduleAll : GoodIn wsX1_setRates (wsV RX1 62 RX1 yX1_scheduleAll wsX1_scheduleAll) := goodIn_app (goodIn_of _ (by decide +kernel)) ggX1_setRates_X1_scheduleAll
theorem dX1_setRates_0 : decode cX1_setRates 0 = .ok (.iload_n 1, 1) := by decide +kernel
theorem dX1_setRates_1 : decode cX1_setRates 1 = .ok (.iconst 1, 1) := by decide +kernel
theorem dX1_setRates_2 : decode cX1_setRates 2 = .ok (.bipush 50, 2) := by decide +kernel
theorem dX1_setRates_4 : decode cX1_setRates 4 = .ok (.invokestatic 58, 3) := by decide +kernel
theorem dX1_setRates_7 : decode cX1_setRates 7 = .ok (.iload_n 2, 1) := by decide +kernel
theorem dX1_setRates_8 : decode cX1_setRates 8 = .ok (.iconst 1, 1) := by decide +kernel
theorem dX1_setRates_9 : decode cX1_setRates 9 = .ok (.bipush 50, 2) := by decide +kernel
theorem dX1_setRates_11 : decode cX1_setRates 11 = .ok (.invokestatic 58, 3) := by decide +kernel
theorem dX1_setRates_14 : decode cX1_setRates 14 = .ok (.aload_n 0, 1) := by decide +kernel
theorem dX1_setRates_15 : decode cX1_setRates 15 = .ok (.iload_n 1, 1) := by decide +kernel
theorem dX1_setRates_16 : decode cX1_setRates 16 = .ok (.iload_n 2, 1) := by decide +kernel
theorem dX1_setRates_17 : decode cX1_setRates 17 = .ok (.invokestatic 74, 3) := by decide +kernel
theorem dX1_setRates_20 : decode cX1_setRates 20 = .ok (.putfield 32, 3) := by decide +kernel
theorem dX1_setRates_23 : decode cX1_setRates 23 = .ok (.aload_n 0, 1) := by decide +kernel
theorem dX1_setRates_24 : decode cX1_setRates 24 = .ok (.invokevirtual 62, 3) := by decide +kernel
theorem dX1_setRates_27 : decode cX1_setRates 27 = .ok (.aload_n 0, 1) := by decide +kernel
theorem dX1_setRates_28 : decode cX1_setRates 28 = .ok (.getfield 32, 3) := by decide +kernel
theorem dX1_setRates_31 : decode cX1_setRates 31 = .ok (.ireturn, 1) := by decide +kernel
set_option maxRecDepth 20000 in
theorem ggX1_setCrew_X1_requireRange : GoodIn wsX1_setCrew wsX1_requireRange := goodIn_ca (goodIn_r _ [6, 7, 8, 5, 9, 10, 11] (by decide +kernel) (by decide +kernel)) (goodIn_sub (fun _ h => List.mem_cons_of_mem _ (List.mem_append_right _ h)) (by decide +kernel))
set_option maxRecDepth 20000 in
theorem gX1_setCrew_X1_requireRange : GoodIn wsX1_setCrew (va_wsS RX1 58 yX1_requireRange wsX1_requireRange) := goodIn_app (goodIn_of _ (by decide +kernel)) ggX1_setCrew_X1_requireRange
set_option maxRecDepth 20000 in
theorem ggX1_setCrew_X1_scheduleAll : GoodIn wsX1_setCrew wsX1_scheduleAll := goodIn_r _ [15, 16, 17, 18, 19, 5, 20, 21, 22, 23, 24, 25, 26, 27, 28, 29, 30, 31, 32, 33, 34, 35, 36, 37, 38, 39, 40, 41, 42, 43, 44, 45, 46, 47, 48, 49, 50, 51, 52, 53, 54, 55, 56, 1, 57, 58, 59, 60, 61, 62, 63, 2, 64, 65, 66, 67, 68, 69, 70, 71, 72, 73, 74, 75, 76, 77, 78, 79, 80, 81, 82, 83, 84, 85] (by decide +kernel) (by decide +kernel)
set_option maxRecDepth 20000 in
theorem gX1_setCrew_X1_scheduleAll : GoodIn wsX1_setCrew (wsV RX1 62 RX1 yX1_scheduleAll wsX1_scheduleAll) := goodIn_app (goodIn_of _ (by decide +kernel)) ggX1_setCrew_X1_scheduleAll
theorem dX1_setCrew_0 : decode cX1_setCrew 0 = .ok (.iload_n 1, 1) := by decide +kernel
theorem dX1_setCrew_1 : decode cX1_setCrew 1 = .ok (.iconst 0, 1) := by decide +kernel
theorem dX1_setCrew_2 : decode cX1_setCrew 2 = .ok (.bipush 24, 2) := by decide +kernel
theorem dX1_setCrew_4 : decode cX1_setCrew 4 = .ok (.invokestatic 58, 3) := by decide +kernel
theorem dX1_setCrew_7 : decode cX1_setCrew 7 = .ok (.iload_n 2, 1) := by decide +kernel
theorem dX1_setCrew_8 : decode cX1_setCrew 8 = .ok (.iconst 0, 1) := by decide +kernel
theorem dX1_setCrew_9 : decode cX1_setCrew 9 = .ok (.bipush 24, 2) := by decide +kernel
theorem dX1_setCrew_11 : decode cX1_setCrew 11 = .ok (.invokestatic 58, 3) := by decide +kernel
theorem dX1_setCrew_14 : decode cX1_setCrew 14 = .ok (.aload_n 0, 1) := by decide +kernel
theorem dX1_setCrew_15 : decode cX1_setCrew 15 = .ok (.iload_n 1, 1) := by decide +kernel
theorem dX1_setCrew_16 : decode cX1_setCrew 16 = .ok (.putfield 35, 3) := by decide +kernel
theorem dX1_setCrew_19 : decode cX1_setCrew 19 = .ok (.aload_n 0, 1) := by decide +kernel
theorem dX1_setCrew_20 : decode cX1_setCrew 20 = .ok (.iload_n 2, 1) := by decide +kernel
theorem dX1_setCrew_21 : decode cX1_setCrew 21 = .ok (.putfield 38, 3) := by decide +kernel
theorem dX1_setCrew_24 : decode cX1_setCrew 24 = .ok (.aload_n 0, 1) := by decide +kernel
theorem dX1_setCrew_25 : decode cX1_setCrew 25 = .ok (.invokevirtual 62, 3) := by decide +kernel
theorem dX1_setCrew_28 : decode cX1_setCrew 28 = .ok (.return_, 1) := by decide +kernel
set_option maxRecDepth 20000 in
theorem ggX1_plan_X1_requirePour : GoodIn wsX1_plan wsX1_requirePour := goodIn_ca (goodIn_r _ [10, 11, 12, 9, 13, 14, 15, 16, 17, 18] (by decide +kernel) (by decide +kernel)) (goodIn_sub (fun _ h => List.mem_cons_of_mem _ (List.mem_append_right _ h)) (by decide +kernel))
set_option maxRecDepth 20000 in
theorem gX1_plan_X1_requirePour : GoodIn wsX1_plan (va_wsS RX1 79 yX1_requirePour wsX1_requirePour) := goodIn_app (goodIn_of _ (by decide +kernel)) ggX1_plan_X1_requirePour
set_option maxRecDepth 20000 in
theorem ggX1_plan_X1_freeNumber : GoodIn wsX1_plan wsX1_freeNumber := goodIn_r _ [22, 6, 98, 99, 100, 101, 102, 103, 104, 105, 106] (by decide +kernel) (by decide +kernel)
set_option maxRecDepth 20000 in
theorem gX1_plan_X1_freeNumber : GoodIn wsX1_plan (wsV RX1 83 RX1 yX1_freeNumber wsX1_freeNumber) := goodIn_app (goodIn_of _ (by decide +kernel)) ggX1_plan_X1_freeNumber
set_option maxRecDepth 20000 in
theorem ggX1_plan_X1_isNumber : GoodIn wsX1_plan wsX1_isNumber := goodIn_r _ [25] (by decide +kernel) (by decide +kernel)
set_option maxRecDepth 20000 in
theorem gX1_plan_X1_isNumber : GoodIn wsX1_plan (va_wsS RX1 87 yX1_isNumber wsX1_isNumber) := goodIn_app (goodIn_of _ (by decide +kernel)) ggX1_plan_X1_isNumber
set_option maxRecDepth 20000 in
theorem ggX1_plan_X0_init : GoodIn wsX1_plan wsX0_init := goodIn_r _ [27, 28, 29, 30, 31, 32, 33, 34, 35, 36, 37, 85, 86, 87, 88, 89, 90, 91, 92, 93, 94, 95, 96, 97] (by decide +kernel) (by decide +kernel)
set_option maxRecDepth 20000 in
theorem gX1_plan_X0_init_n94 : GoodIn wsX1_plan (wsX0_init) := ggX1_plan_X0_init
set_option maxRecDepth 20000 in
theorem ggX1_plan_X1_schedule : GoodIn wsX1_plan wsX1_schedule := goodIn_r _ [41, 42, 43, 44, 9, 45, 46, 47, 48, 49, 50, 51, 5, 52, 53, 54, 33, 55, 56, 57, 58, 59, 60, 61, 62, 63, 64, 65, 66, 67, 68, 69, 70, 71, 72, 73, 74, 75, 76, 77, 78, 79, 80, 81, 82, 83, 84, 85, 86, 87, 88, 89, 90, 91, 92, 93, 94, 95, 96, 97, 98, 99, 100, 101, 102, 103, 104, 105, 106] (by decide +kernel) (by decide +kernel)
set_option maxRecDepth 20000 in
theorem gX1_plan_X1_schedule : GoodIn wsX1_plan (wsV RX1 96 RX1 yX1_schedule wsX1_schedule) := goodIn_app (goodIn_of _ (by decide +kernel)) ggX1_plan_X1_schedule
theorem dX1_plan_0 : decode cX1_plan 0 = .ok (.iload_n 1, 1) := by decide +kernel
theorem dX1_plan_1 : decode cX1_plan 1 = .ok (.iload_n 2, 1) := by decide +kernel
theorem dX1_plan_2 : decode cX1_plan 2 = .ok (.iload_n 3, 1) := by decide +kernel
theorem dX1_plan_3 : decode cX1_plan 3 = .ok (.iload 4, 2) := by decide +kernel
theorem dX1_plan_5 : decode cX1_plan 5 = .ok (.invokestatic 79, 3) := by decide +kernel
theorem dX1_plan_8 : decode cX1_plan 8 = .ok (.aload_n 0, 1) := by decide +kernel
theorem dX1_plan_9 : decode cX1_plan 9 = .ok (.invokevirtual 83, 3) := by decide +kernel
theorem dX1_plan_12 : decode cX1_plan 12 = .ok (.istore 5, 2) := by decide +kernel
theorem dX1_plan_14 : decode cX1_plan 14 = .ok (.iload 5, 2) := by decide +kernel
theorem dX1_plan_16 : decode cX1_plan 16 = .ok (.invokestatic 87, 3) := by decide +kernel
theorem dX1_plan_19 : decode cX1_plan 19 = .ok (.ifCond .ne 11, 3) := by decide +kernel
theorem dX1_plan_22 : decode cX1_plan 22 = .ok (.new 91, 3) := by decide +kernel
theorem dX1_plan_25 : decode cX1_plan 25 = .ok (.dup, 1) := by decide +kernel
theorem dX1_plan_26 : decode cX1_plan 26 = .ok (.invokespecial 93, 3) := by decide +kernel
theorem dX1_plan_29 : decode cX1_plan 29 = .ok (.athrow, 1) := by decide +kernel
theorem dX1_plan_30 : decode cX1_plan 30 = .ok (.new 22, 3) := by decide +kernel
theorem dX1_plan_33 : decode cX1_plan 33 = .ok (.dup, 1) := by decide +kernel
theorem dX1_plan_34 : decode cX1_plan 34 = .ok (.iload_n 1, 1) := by decide +kernel
theorem dX1_plan_35 : decode cX1_plan 35 = .ok (.iload_n 2, 1) := by decide +kernel
theorem dX1_plan_36 : decode cX1_plan 36 = .ok (.iload_n 3, 1) := by decide +kernel
theorem dX1_plan_37 : decode cX1_plan 37 = .ok (.iload 4, 2) := by decide +kernel
theorem dX1_plan_39 : decode cX1_plan 39 = .ok (.invokespecial 94, 3) := by decide +kernel
theorem dX1_plan_42 : decode cX1_plan 42 = .ok (.astore 6, 2) := by decide +kernel
theorem dX1_plan_44 : decode cX1_plan 44 = .ok (.aload_n 0, 1) := by decide +kernel
theorem dX1_plan_45 : decode cX1_plan 45 = .ok (.aload 6, 2) := by decide +kernel
theorem dX1_plan_47 : decode cX1_plan 47 = .ok (.invokevirtual 96, 3) := by decide +kernel
theorem dX1_plan_50 : decode cX1_plan 50 = .ok (.aload_n 0, 1) := by decide +kernel
theorem dX1_plan_51 : decode cX1_plan 51 = .ok (.getfield 24, 3) := by decide +kernel
theorem dX1_plan_54 : decode cX1_plan 54 = .ok (.iload 5, 2) := by decide +kernel
theorem dX1_plan_56 : decode cX1_plan 56 = .ok (.aload 6, 2) := by decide +kernel
theorem dX1_plan_58 : decode cX1_plan 58 = .ok (.aastore, 1) := by decide +kernel
theorem dX1_plan_59 : decode cX1_plan 59 = .ok (.iload 5, 2) := by decide +kernel
theorem dX1_plan_61 : decode cX1_plan 61 = .ok (.ireturn, 1) := by decide +kernel
set_option maxRecDepth 20000 in
theorem ggX1_move_X1_existing : GoodIn wsX1_move wsX1_existing := goodIn_ca (goodIn_r _ [5, 6, 7, 8, 9, 10, 4, 11, 82, 83, 84, 85, 86, 87, 88, 89, 90] (by decide +kernel) (by decide +kernel)) (goodIn_sub (fun _ h => List.mem_cons_of_mem _ (List.mem_append_left _ (List.mem_append_right _ h))) (by decide +kernel))
set_option maxRecDepth 20000 in
theorem gX1_move_X1_existing : GoodIn wsX1_move (wsV RX1 100 RX1 yX1_existing wsX1_existing) := goodIn_app (goodIn_of _ (by decide +kernel)) ggX1_move_X1_existing
set_option maxRecDepth 20000 in
theorem ggX1_move_X1_requireRange : GoodIn wsX1_move wsX1_requireRange := goodIn_ca (goodIn_r _ [14, 15, 16, 4, 17, 18, 19] (by decide +kernel) (by decide +kernel)) (goodIn_sub (fun _ h => List.mem_cons_of_mem _ (List.mem_append_right _ h)) (by decide +kernel))
set_option maxRecDepth 20000 in
theorem gX1_move_X1_requireRange : GoodIn wsX1_move (va_wsS RX1 58 yX1_requireRange wsX1_requireRange) := goodIn_app (goodIn_of _ (by decide +kernel)) ggX1_move_X1_requireRange
set_option maxRecDepth 20000 in
theorem ggX1_move_X1_schedule : GoodIn wsX1_move wsX1_schedule := goodIn_r _ [23, 24, 25, 26, 4, 27, 28, 29, 30, 31, 32, 33, 34, 35, 36, 37, 38, 39, 40, 41, 42, 43, 44, 45, 46, 47, 48, 49, 50, 51, 52, 53, 54, 55, 56, 57, 58, 59, 60, 61, 62, 63, 64, 65, 66, 67, 68, 69, 70, 71, 72, 73, 74, 75, 76, 77, 78, 79, 80, 81, 82, 83, 84, 85, 86, 87, 88, 89, 90] (by decide +kernel) (by decide +kernel)
set_option maxRecDepth 20000 in
theorem gX1_move_X1_schedule : GoodIn wsX1_move (wsV RX1 96 RX1 yX1_schedule wsX1_schedule) := goodIn_app (goodIn_of _ (by decide +kernel)) ggX1_move_X1_schedule
theorem dX1_move_0 : decode cX1_move 0 = .ok (.aload_n 0, 1) := by decide +kernel
theorem dX1_move_1 : decode cX1_move 1 = .ok (.iload_n 1, 1) := by decide +kernel
theorem dX1_move_2 : decode cX1_move 2 = .ok (.invokevirtual 100, 3) := by decide +kernel
theorem dX1_move_5 : decode cX1_move 5 = .ok (.astore_n 3, 1) := by decide +kernel
theorem dX1_move_6 : decode cX1_move 6 = .ok (.iload_n 2, 1) := by decide +kernel
theorem dX1_move_7 : decode cX1_move 7 = .ok (.iconst 0, 1) := by decide +kernel
theorem dX1_move_8 : decode cX1_move 8 = .ok (.sipush 900, 3) := by decide +kernel
theorem dX1_move_11 : decode cX1_move 11 = .ok (.invokestatic 58, 3) := by decide +kernel
theorem dX1_move_14 : decode cX1_move 14 = .ok (.aload_n 3, 1) := by decide +kernel
theorem dX1_move_15 : decode cX1_move 15 = .ok (.getfield 104, 3) := by decide +kernel
theorem dX1_move_18 : decode cX1_move 18 = .ok (.istore 4, 2) := by decide +kernel
theorem dX1_move_20 : decode cX1_move 20 = .ok (.aload_n 3, 1) := by decide +kernel
theorem dX1_move_21 : decode cX1_move 21 = .ok (.iload_n 2, 1) := by decide +kernel
theorem dX1_move_22 : decode cX1_move 22 = .ok (.putfield 104, 3) := by decide +kernel
theorem dX1_move_25 : decode cX1_move 25 = .ok (.aload_n 0, 1) := by decide +kernel
theorem dX1_move_26 : decode cX1_move 26 = .ok (.aload_n 3, 1) := by decide +kernel
theorem dX1_move_27 : decode cX1_move 27 = .ok (.invokevirtual 96, 3) := by decide +kernel
theorem dX1_move_30 : decode cX1_move 30 = .ok (.iload 4, 2) := by decide +kernel
theorem dX1_move_32 : decode cX1_move 32 = .ok (.ireturn, 1) := by decide +kernel
set_option maxRecDepth 20000 in
theorem ggX1_cancel_X1_existing : GoodIn wsX1_cancel wsX1_existing := goodIn_ca (goodIn_r _ [6, 7, 8, 1, 9, 10, 5, 11, 12, 13, 14, 15, 16, 17, 18, 19, 20] (by decide +kernel) (by decide +kernel)) (goodIn_sub (fun _ h => List.mem_cons_of_mem _ (List.mem_append_right _ h)) (by decide +kernel))
set_option maxRecDepth 20000 in
theorem gX1_cancel_X1_existing : GoodIn wsX1_cancel (wsV RX1 100 RX1 yX1_existing wsX1_existing) := goodIn_app (goodIn_of _ (by decide +kernel)) ggX1_cancel_X1_existing
theorem dX1_cancel_0 : decode cX1_cancel 0 = .ok (.aload_n 0, 1) := by decide +kernel
theorem dX1_cancel_1 : decode cX1_cancel 1 = .ok (.iload_n 1, 1) := by decide +kernel
theorem dX1_cancel_2 : decode cX1_cancel 2 = .ok (.invokevirtual 100, 3) := by decide +kernel
theorem dX1_cancel_5 : decode cX1_cancel 5 = .ok (.astore_n 2, 1) := by decide +kernel
theorem dX1_cancel_6 : decode cX1_cancel 6 = .ok (.aload_n 0, 1) := by decide +kernel
theorem dX1_cancel_7 : decode cX1_cancel 7 = .ok (.getfield 24, 3) := by decide +kernel
theorem dX1_cancel_10 : decode cX1_cancel 10 = .ok (.iload_n 1, 1) := by decide +kernel
theorem dX1_cancel_11 : decode cX1_cancel 11 = .ok (.aconst_null, 1) := by decide +kernel
theorem dX1_cancel_12 : decode cX1_cancel 12 = .ok (.aastore, 1) := by decide +kernel
theorem dX1_cancel_13 : decode cX1_cancel 13 = .ok (.aload_n 2, 1) := by decide +kernel
theorem dX1_cancel_14 : decode cX1_cancel 14 = .ok (.getfield 107, 3) := by decide +kernel
theorem dX1_cancel_17 : decode cX1_cancel 17 = .ok (.ireturn, 1) := by decide +kernel
theorem dX1_pours_0 : decode cX1_pours 0 = .ok (.iconst 0, 1) := by decide +kernel
theorem dX1_pours_1 : decode cX1_pours 1 = .ok (.istore_n 1, 1) := by decide +kernel
theorem dX1_pours_2 : decode cX1_pours 2 = .ok (.aload_n 0, 1) := by decide +kernel
theorem dX1_pours_3 : decode cX1_pours 3 = .ok (.getfield 24, 3) := by decide +kernel
theorem dX1_pours_6 : decode cX1_pours 6 = .ok (.astore_n 2, 1) := by decide +kernel
theorem dX1_pours_7 : decode cX1_pours 7 = .ok (.aload_n 2, 1) := by decide +kernel
theorem dX1_pours_8 : decode cX1_pours 8 = .ok (.arraylength, 1) := by decide +kernel
theorem dX1_pours_9 : decode cX1_pours 9 = .ok (.istore_n 3, 1) := by decide +kernel
theorem dX1_pours_10 : decode cX1_pours 10 = .ok (.iconst 0, 1) := by decide +kernel
theorem dX1_pours_11 : decode cX1_pours 11 = .ok (.istore 4, 2) := by decide +kernel
theorem dX1_pours_13 : decode cX1_pours 13 = .ok (.iload 4, 2) := by decide +kernel
theorem dX1_pours_15 : decode cX1_pours 15 = .ok (.iload_n 3, 1) := by decide +kernel
theorem dX1_pours_16 : decode cX1_pours 16 = .ok (.if_icmp .ge 23, 3) := by decide +kernel
theorem dX1_pours_19 : decode cX1_pours 19 = .ok (.aload_n 2, 1) := by decide +kernel
theorem dX1_pours_20 : decode cX1_pours 20 = .ok (.iload 4, 2) := by decide +kernel
theorem dX1_pours_22 : decode cX1_pours 22 = .ok (.aaload, 1) := by decide +kernel
theorem dX1_pours_23 : decode cX1_pours 23 = .ok (.astore 5, 2) := by decide +kernel
theorem dX1_pours_25 : decode cX1_pours 25 = .ok (.aload 5, 2) := by decide +kernel
theorem dX1_pours_27 : decode cX1_pours 27 = .ok (.ifnull 6, 3) := by decide +kernel
theorem dX1_pours_30 : decode cX1_pours 30 = .ok (.iinc 1 1, 3) := by decide +kernel
theorem dX1_pours_33 : decode cX1_pours 33 = .ok (.iinc 4 1, 3) := by decide +kernel
theorem dX1_pours_36 : decode cX1_pours 36 = .ok (.goto (-23), 3) := by decide +kernel
theorem dX1_pours_39 : decode cX1_pours 39 = .ok (.iload_n 1, 1) := by decide +kernel
theorem dX1_pours_40 : decode cX1_pours 40 = .ok (.ireturn, 1) := by decide +kernel
set_option maxRecDepth 20000 in
theorem ggX1_endOf_X1_existing : GoodIn wsX1_endOf wsX1_existing := goodIn_ca (goodIn_r _ [5, 6, 7, 8, 9, 10, 4, 11, 25, 26, 27, 28, 29, 30, 31, 32, 33] (by decide +kernel) (by decide +kernel)) (goodIn_sub (fun _ h => List.mem_cons_of_mem _ (List.mem_append_right _ h)) (by decide +kernel))
set_option maxRecDepth 20000 in
theorem gX1_endOf_X1_existing : GoodIn wsX1_endOf (wsV RX1 100 RX1 yX1_existing wsX1_existing) := goodIn_app (goodIn_of _ (by decide +kernel)) ggX1_endOf_X1_existing
theorem dX1_endOf_0 : decode cX1_endOf 0 = .ok (.aload_n 0, 1) := by decide +kernel
theorem dX1_endOf_1 : decode cX1_endOf 1 = .ok (.iload_n 1, 1) := by decide +kernel
theorem dX1_endOf_2 : decode cX1_endOf 2 = .ok (.invokevirtual 100, 3) := by decide +kernel
theorem dX1_endOf_5 : decode cX1_endOf 5 = .ok (.astore_n 2, 1) := by decide +kernel
theorem dX1_endOf_6 : decode cX1_endOf 6 = .ok (.aload_n 2, 1) := by decide +kernel
theorem dX1_endOf_7 : decode cX1_endOf 7 = .ok (.getfield 120, 3) := by decide +kernel
theorem dX1_endOf_10 : decode cX1_endOf 10 = .ok (.ireturn, 1) := by decide +kernel
set_option maxRecDepth 20000 in
theorem ggX1_struck_X1_existing : GoodIn wsX1_struck wsX1_existing := goodIn_ca (goodIn_r _ [5, 6, 7, 8, 9, 10, 4, 11, 25, 26, 27, 28, 29, 30, 31, 32, 33] (by decide +kernel) (by decide +kernel)) (goodIn_sub (fun _ h => List.mem_cons_of_mem _ (List.mem_append_right _ h)) (by decide +kernel))
set_option maxRecDepth 20000 in
theorem gX1_struck_X1_existing : GoodIn wsX1_struck (wsV RX1 100 RX1 yX1_existing wsX1_existing) := goodIn_app (goodIn_of _ (by decide +kernel)) ggX1_struck_X1_existing
theorem dX1_struck_0 : decode cX1_struck 0 = .ok (.aload_n 0, 1) := by decide +kernel
theorem dX1_struck_1 : decode cX1_struck 1 = .ok (.iload_n 1, 1) := by decide +kernel
theorem dX1_struck_2 : decode cX1_struck 2 = .ok (.invokevirtual 100, 3) := by decide +kernel
theorem dX1_struck_5 : decode cX1_struck 5 = .ok (.astore_n 2, 1) := by decide +kernel
theorem dX1_struck_6 : decode cX1_struck 6 = .ok (.aload_n 2, 1) := by decide +kernel
theorem dX1_struck_7 : decode cX1_struck 7 = .ok (.getfield 132, 3) := by decide +kernel
theorem dX1_struck_10 : decode cX1_struck 10 = .ok (.ireturn, 1) := by decide +kernel
set_option maxRecDepth 20000 in
theorem ggX1_freeFrom_X1_existing : GoodIn wsX1_freeFrom wsX1_existing := goodIn_ca (goodIn_r _ [5, 6, 7, 8, 9, 10, 4, 11, 25, 26, 27, 28, 29, 30, 31, 32, 33] (by decide +kernel) (by decide +kernel)) (goodIn_sub (fun _ h => List.mem_cons_of_mem _ (List.mem_append_right _ h)) (by decide +kernel))
set_option maxRecDepth 20000 in
theorem gX1_freeFrom_X1_existing : GoodIn wsX1_freeFrom (wsV RX1 100 RX1 yX1_existing wsX1_existing) := goodIn_app (goodIn_of _ (by decide +kernel)) ggX1_freeFrom_X1_existing
theorem dX1_freeFrom_0 : decode cX1_freeFrom 0 = .ok (.aload_n 0, 1) := by decide +kernel
theorem dX1_freeFrom_1 : decode cX1_freeFrom 1 = .ok (.iload_n 1, 1) := by decide +kernel
theorem dX1_freeFrom_2 : decode cX1_freeFrom 2 = .ok (.invokevirtual 100, 3) := by decide +kernel
theorem dX1_freeFrom_5 : decode cX1_freeFrom 5 = .ok (.astore_n 2, 1) := by decide +kernel
theorem dX1_freeFrom_6 : decode cX1_freeFrom 6 = .ok (.aload_n 2, 1) := by decide +kernel
theorem dX1_freeFrom_7 : decode cX1_freeFrom 7 = .ok (.getfield 135, 3) := by decide +kernel
theorem dX1_freeFrom_10 : decode cX1_freeFrom 10 = .ok (.sipush 1000, 3) := by decide +kernel
theorem dX1_freeFrom_13 : decode cX1_freeFrom 13 = .ok (.if_icmp .ge 10, 3) := by decide +kernel
theorem dX1_freeFrom_16 : decode cX1_freeFrom 16 = .ok (.aload_n 2, 1) := by decide +kernel
theorem dX1_freeFrom_17 : decode cX1_freeFrom 17 = .ok (.getfield 135, 3) := by decide +kernel
theorem dX1_freeFrom_20 : decode cX1_freeFrom 20 = .ok (.goto 4, 3) := by decide +kernel
theorem dX1_freeFrom_23 : decode cX1_freeFrom 23 = .ok (.iconst (-1), 1) := by decide +kernel
theorem dX1_freeFrom_24 : decode cX1_freeFrom 24 = .ok (.ireturn, 1) := by decide +kernel
set_option maxRecDepth 20000 in
theorem ggX1_need_X1_requireHour : GoodIn wsX1_need wsX1_requireHour := goodIn_ca (goodIn_r _ [4, 5, 6, 7, 8, 3, 9] (by decide +kernel) (by decide +kernel)) (goodIn_sub (fun _ h => List.mem_cons_of_mem _ (List.mem_append_right _ h)) (by decide +kernel))
set_option maxRecDepth 20000 in
theorem gX1_need_X1_requireHour : GoodIn wsX1_need (va_wsS RX1 50 yX1_requireHour wsX1_requireHour) := goodIn_app (goodIn_of _ (by decide +kernel)) ggX1_need_X1_requireHour
set_option maxRecDepth 20000 in
theorem ggX1_need_X1_needIn : GoodIn wsX1_need wsX1_needIn := goodIn_r _ [13, 14, 15, 16, 17, 18, 19, 20, 21, 22, 23, 24, 25, 26, 27, 28, 29, 30, 31, 32, 33, 34, 35, 36, 37, 38, 39, 40, 41, 42] (by decide +kernel) (by decide +kernel)
set_option maxRecDepth 20000 in
theorem gX1_need_X1_needIn : GoodIn wsX1_need (wsV RX1 138 RX1 yX1_needIn wsX1_needIn) := goodIn_app (goodIn_of _ (by decide +kernel)) ggX1_need_X1_needIn
theorem dX1_need_0 : decode cX1_need 0 = .ok (.iload_n 1, 1) := by decide +kernel
theorem dX1_need_1 : decode cX1_need 1 = .ok (.invokestatic 50, 3) := by decide +kernel
theorem dX1_need_4 : decode cX1_need 4 = .ok (.aload_n 0, 1) := by decide +kernel
theorem dX1_need_5 : decode cX1_need 5 = .ok (.iload_n 1, 1) := by decide +kernel
theorem dX1_need_6 : decode cX1_need 6 = .ok (.invokevirtual 138, 3) := by decide +kernel
theorem dX1_need_9 : decode cX1_need 9 = .ok (.ireturn, 1) := by decide +kernel
set_option maxRecDepth 20000 in
theorem ggX1_peak_X1_sumNeeds : GoodIn wsX1_peak wsX1_sumNeeds := goodIn_r _ [10, 1, 11, 12, 13, 9, 14, 15, 16, 17, 18, 19, 20, 21, 22, 23, 24, 25, 26, 27, 28, 29, 30, 31, 32, 33, 34, 35, 36, 37, 38, 39, 40, 41, 42, 43] (by decide +kernel) (by decide +kernel)
set_option maxRecDepth 20000 in
theorem gX1_peak_X1_sumNeeds : GoodIn wsX1_peak (wsV RX1 141 RX1 yX1_sumNeeds wsX1_sumNeeds) := goodIn_app (goodIn_of _ (by decide +kernel)) ggX1_peak_X1_sumNeeds
theorem dX1_peak_0 : decode cX1_peak 0 = .ok (.aload_n 0, 1) := by decide +kernel
theorem dX1_peak_1 : decode cX1_peak 1 = .ok (.invokevirtual 141, 3) := by decide +kernel
theorem dX1_peak_4 : decode cX1_peak 4 = .ok (.iconst 0, 1) := by decide +kernel
theorem dX1_peak_5 : decode cX1_peak 5 = .ok (.istore_n 1, 1) := by decide +kernel
theorem dX1_peak_6 : decode cX1_peak 6 = .ok (.aload_n 0, 1) := by decide +kernel
theorem dX1_peak_7 : decode cX1_peak 7 = .ok (.getfield 16, 3) := by decide +kernel
theorem dX1_peak_10 : decode cX1_peak 10 = .ok (.astore_n 2, 1) := by decide +kernel
theorem dX1_peak_11 : decode cX1_peak 11 = .ok (.aload_n 2, 1) := by decide +kernel
theorem dX1_peak_12 : decode cX1_peak 12 = .ok (.arraylength, 1) := by decide +kernel
theorem dX1_peak_13 : decode cX1_peak 13 = .ok (.istore_n 3, 1) := by decide +kernel
theorem dX1_peak_14 : decode cX1_peak 14 = .ok (.iconst 0, 1) := by decide +kernel
theorem dX1_peak_15 : decode cX1_peak 15 = .ok (.istore 4, 2) := by decide +kernel
theorem dX1_peak_17 : decode cX1_peak 17 = .ok (.iload 4, 2) := by decide +kernel
theorem dX1_peak_19 : decode cX1_peak 19 = .ok (.iload_n 3, 1) := by decide +kernel
theorem dX1_peak_20 : decode cX1_peak 20 = .ok (.if_icmp .ge 22, 3) := by decide +kernel
theorem dX1_peak_23 : decode cX1_peak 23 = .ok (.aload_n 2, 1) := by decide +kernel
theorem dX1_peak_24 : decode cX1_peak 24 = .ok (.iload 4, 2) := by decide +kernel
theorem dX1_peak_26 : decode cX1_peak 26 = .ok (.iaload, 1) := by decide +kernel
theorem dX1_peak_27 : decode cX1_peak 27 = .ok (.istore 5, 2) := by decide +kernel
theorem dX1_peak_29 : decode cX1_peak 29 = .ok (.iload_n 1, 1) := by decide +kernel
theorem dX1_peak_30 : decode cX1_peak 30 = .ok (.iload 5, 2) := by decide +kernel
theorem dX1_peak_32 : decode cX1_peak 32 = .ok (.invokestatic 144, 3) := by decide +kernel
theorem dX1_peak_35 : decode cX1_peak 35 = .ok (.istore_n 1, 1) := by decide +kernel
theorem dX1_peak_36 : decode cX1_peak 36 = .ok (.iinc 4 1, 3) := by decide +kernel
theorem dX1_peak_39 : decode cX1_peak 39 = .ok (.goto (-22), 3) := by decide +kernel
theorem dX1_peak_42 : decode cX1_peak 42 = .ok (.iload_n 1, 1) := by decide +kernel
theorem dX1_peak_43 : decode cX1_peak 43 = .ok (.ireturn, 1) := by decide +kernel
set_option maxRecDepth 20000 in
theorem ggX1_peakByOverlaps_X1_needIn : GoodIn wsX1_peakByOverlaps wsX1_needIn := goodIn_r _ [10, 1, 11, 12, 13, 14, 15, 16, 17, 18, 19, 20, 21, 22, 23, 24, 25, 26, 27, 28, 29, 30, 31, 32, 33, 34, 35, 36, 37, 38] (by decide +kernel) (by decide +kernel)
set_option maxRecDepth 20000 in
theorem gX1_peakByOverlaps_X1_needIn : GoodIn wsX1_peakByOverlaps (wsV RX1 138 RX1 yX1_needIn wsX1_needIn) := goodIn_app (goodIn_of _ (by decide +kernel)) ggX1_peakByOverlaps_X1_needIn
theorem dX1_peakByOverlaps_0 : decode cX1_peakByOverlaps 0 = .ok (.iconst 0, 1) := by decide +kernel
theorem dX1_peakByOverlaps_1 : decode cX1_peakByOverlaps 1 = .ok (.istore_n 1, 1) := by decide +kernel
theorem dX1_peakByOverlaps_2 : decode cX1_peakByOverlaps 2 = .ok (.aload_n 0, 1) := by decide +kernel
theorem dX1_peakByOverlaps_3 : decode cX1_peakByOverlaps 3 = .ok (.getfield 24, 3) := by decide +kernel
theorem dX1_peakByOverlaps_6 : decode cX1_peakByOverlaps 6 = .ok (.astore_n 2, 1) := by decide +kernel
theorem dX1_peakByOverlaps_7 : decode cX1_peakByOverlaps 7 = .ok (.aload_n 2, 1) := by decide +kernel
theorem dX1_peakByOverlaps_8 : decode cX1_peakByOverlaps 8 = .ok (.arraylength, 1) := by decide +kernel
theorem dX1_peakByOverlaps_9 : decode cX1_peakByOverlaps 9 = .ok (.istore_n 3, 1) := by decide +kernel
theorem dX1_peakByOverlaps_10 : decode cX1_peakByOverlaps 10 = .ok (.iconst 0, 1) := by decide +kernel
theorem dX1_peakByOverlaps_11 : decode cX1_peakByOverlaps 11 = .ok (.istore 4, 2) := by decide +kernel
theorem dX1_peakByOverlaps_13 : decode cX1_peakByOverlaps 13 = .ok (.iload 4, 2) := by decide +kernel
theorem dX1_peakByOverlaps_15 : decode cX1_peakByOverlaps 15 = .ok (.iload_n 3, 1) := by decide +kernel
theorem dX1_peakByOverlaps_16 : decode cX1_peakByOverlaps 16 = .ok (.if_icmp .ge 34, 3) := by decide +kernel
theorem dX1_peakByOverlaps_19 : decode cX1_peakByOverlaps 19 = .ok (.aload_n 2, 1) := by decide +kernel
theorem dX1_peakByOverlaps_20 : decode cX1_peakByOverlaps 20 = .ok (.iload 4, 2) := by decide +kernel
theorem dX1_peakByOverlaps_22 : decode cX1_peakByOverlaps 22 = .ok (.aaload, 1) := by decide +kernel
theorem dX1_peakByOverlaps_23 : decode cX1_peakByOverlaps 23 = .ok (.astore 5, 2) := by decide +kernel
theorem dX1_peakByOverlaps_25 : decode cX1_peakByOverlaps 25 = .ok (.aload 5, 2) := by decide +kernel
theorem dX1_peakByOverlaps_27 : decode cX1_peakByOverlaps 27 = .ok (.ifnull 17, 3) := by decide +kernel
theorem dX1_peakByOverlaps_30 : decode cX1_peakByOverlaps 30 = .ok (.iload_n 1, 1) := by decide +kernel
theorem dX1_peakByOverlaps_31 : decode cX1_peakByOverlaps 31 = .ok (.aload_n 0, 1) := by decide +kernel
theorem dX1_peakByOverlaps_32 : decode cX1_peakByOverlaps 32 = .ok (.aload 5, 2) := by decide +kernel
theorem dX1_peakByOverlaps_34 : decode cX1_peakByOverlaps 34 = .ok (.getfield 147, 3) := by decide +kernel
theorem dX1_peakByOverlaps_37 : decode cX1_peakByOverlaps 37 = .ok (.invokevirtual 138, 3) := by decide +kernel
theorem dX1_peakByOverlaps_40 : decode cX1_peakByOverlaps 40 = .ok (.invokestatic 144, 3) := by decide +kernel
theorem dX1_peakByOverlaps_43 : decode cX1_peakByOverlaps 43 = .ok (.istore_n 1, 1) := by decide +kernel
theorem dX1_peakByOverlaps_44 : decode cX1_peakByOverlaps 44 = .ok (.iinc 4 1, 3) := by decide +kernel
theorem dX1_peakByOverlaps_47 : decode cX1_peakByOverlaps 47 = .ok (.goto (-34), 3) := by decide +kernel
theorem dX1_peakByOverlaps_50 : decode cX1_peakByOverlaps 50 = .ok (.iload_n 1, 1) := by decide +kernel
theorem dX1_peakByOverlaps_51 : decode cX1_peakByOverlaps 51 = .ok (.ireturn, 1) := by decide +kernel
set_option maxRecDepth 20000 in
theorem ggX1_firstShort_X1_sumNeeds : GoodIn wsX1_firstShort wsX1_sumNeeds := goodIn_r _ [7, 1, 8, 9, 10, 6, 11, 12, 13, 14, 15, 16, 17, 18, 19, 20, 21, 22, 23, 24, 25, 26, 27, 28, 29, 30, 31, 32, 33, 34, 35, 36, 37, 38, 39, 40] (by decide +kernel) (by decide +kernel)
set_option maxRecDepth 20000 in
theorem gX1_firstShort_X1_sumNeeds : GoodIn wsX1_firstShort (wsV RX1 141 RX1 yX1_sumNeeds wsX1_sumNeeds) := goodIn_app (goodIn_of _ (by decide +kernel)) ggX1_firstShort_X1_sumNeeds
theorem dX1_firstShort_0 : decode cX1_firstShort 0 = .ok (.aload_n 0, 1) := by decide +kernel
theorem dX1_firstShort_1 : decode cX1_firstShort 1 = .ok (.invokevirtual 141, 3) := by decide +kernel
theorem dX1_firstShort_4 : decode cX1_firstShort 4 = .ok (.iconst 0, 1) := by decide +kernel
theorem dX1_firstShort_5 : decode cX1_firstShort 5 = .ok (.istore_n 1, 1) := by decide +kernel
theorem dX1_firstShort_6 : decode cX1_firstShort 6 = .ok (.iload_n 1, 1) := by decide +kernel
theorem dX1_firstShort_7 : decode cX1_firstShort 7 = .ok (.sipush 1000, 3) := by decide +kernel
theorem dX1_firstShort_10 : decode cX1_firstShort 10 = .ok (.if_icmp .ge 24, 3) := by decide +kernel
theorem dX1_firstShort_13 : decode cX1_firstShort 13 = .ok (.aload_n 0, 1) := by decide +kernel
theorem dX1_firstShort_14 : decode cX1_firstShort 14 = .ok (.getfield 16, 3) := by decide +kernel
theorem dX1_firstShort_17 : decode cX1_firstShort 17 = .ok (.iload_n 1, 1) := by decide +kernel
theorem dX1_firstShort_18 : decode cX1_firstShort 18 = .ok (.iaload, 1) := by decide +kernel
theorem dX1_firstShort_19 : decode cX1_firstShort 19 = .ok (.aload_n 0, 1) := by decide +kernel
theorem dX1_firstShort_20 : decode cX1_firstShort 20 = .ok (.getfield 28, 3) := by decide +kernel
theorem dX1_firstShort_23 : decode cX1_firstShort 23 = .ok (.if_icmp .le 5, 3) := by decide +kernel
theorem dX1_firstShort_26 : decode cX1_firstShort 26 = .ok (.iload_n 1, 1) := by decide +kernel
theorem dX1_firstShort_27 : decode cX1_firstShort 27 = .ok (.ireturn, 1) := by decide +kernel
theorem dX1_firstShort_28 : decode cX1_firstShort 28 = .ok (.iinc 1 1, 3) := by decide +kernel
theorem dX1_firstShort_31 : decode cX1_firstShort 31 = .ok (.goto (-25), 3) := by decide +kernel
theorem dX1_firstShort_34 : decode cX1_firstShort 34 = .ok (.iconst (-1), 1) := by decide +kernel
theorem dX1_firstShort_35 : decode cX1_firstShort 35 = .ok (.ireturn, 1) := by decide +kernel
set_option maxRecDepth 20000 in
theorem ggX1_panelsOf_X1_existing : GoodIn wsX1_panelsOf wsX1_existing := goodIn_ca (goodIn_r _ [5, 6, 7, 8, 9, 10, 4, 11, 55, 56, 57, 58, 59, 60, 61, 62, 63] (by decide +kernel) (by decide +kernel)) (goodIn_sub (fun _ h => List.mem_cons_of_mem _ (List.mem_append_right _ h)) (by decide +kernel))
set_option maxRecDepth 20000 in
theorem gX1_panelsOf_X1_existing : GoodIn wsX1_panelsOf (wsV RX1 100 RX1 yX1_existing wsX1_existing) := goodIn_app (goodIn_of _ (by decide +kernel)) ggX1_panelsOf_X1_existing
set_option maxRecDepth 20000 in
theorem ggX1_panelsOf_X1_giveOutPanels : GoodIn wsX1_panelsOf wsX1_giveOutPanels := goodIn_r _ [15, 8, 16, 17, 18, 4, 19, 20, 21, 22, 23, 24, 25, 26, 27, 28, 29, 30, 31, 32, 33, 34, 55, 56, 57, 58, 59, 60, 61, 62, 63, 42, 43, 44, 45, 46, 47, 48, 49, 50, 51, 52, 53, 54] (by decide +kernel) (by decide +kernel)
set_option maxRecDepth 20000 in
theorem gX1_panelsOf_X1_giveOutPanels : GoodIn wsX1_panelsOf (wsV RX1 168 RX1 yX1_giveOutPanels wsX1_giveOutPanels) := goodIn_app (goodIn_of _ (by decide +kernel)) ggX1_panelsOf_X1_giveOutPanels
set_option maxRecDepth 20000 in
theorem ggX1_panelsOf_J13_bitCount_95d88 : GoodIn wsX1_panelsOf wsJ13_bitCount_95d88 := goodIn_r _ [38, 39, 40, 41] (by decide +kernel) (by decide +kernel)
set_option maxRecDepth 20000 in
theorem gX1_panelsOf_J13_bitCount_95d88 : GoodIn wsX1_panelsOf (va_wsS RX1 175 yJ13_bitCount_95d88 wsJ13_bitCount_95d88) := goodIn_app (goodIn_of _ (by decide +kernel)) ggX1_panelsOf_J13_bitCount_95d88
theorem dX1_panelsOf_0 : decode cX1_panelsOf 0 = .ok (.aload_n 0, 1) := by decide +kernel
theorem dX1_panelsOf_1 : decode cX1_panelsOf 1 = .ok (.iload_n 1, 1) := by decide +kernel
theorem dX1_panelsOf_2 : decode cX1_panelsOf 2 = .ok (.invokevirtual 100, 3) := by decide +kernel
theorem dX1_panelsOf_5 : decode cX1_panelsOf 5 = .ok (.astore_n 2, 1) := by decide +kernel
theorem dX1_panelsOf_6 : decode cX1_panelsOf 6 = .ok (.aload_n 0, 1) := by decide +kernel
theorem dX1_panelsOf_7 : decode cX1_panelsOf 7 = .ok (.invokevirtual 168, 3) := by decide +kernel
theorem dX1_panelsOf_10 : decode cX1_panelsOf 10 = .ok (.aload_n 2, 1) := by decide +kernel
theorem dX1_panelsOf_11 : decode cX1_panelsOf 11 = .ok (.getfield 171, 3) := by decide +kernel
theorem dX1_panelsOf_14 : decode cX1_panelsOf 14 = .ok (.invokestatic 175, 3) := by decide +kernel
theorem dX1_panelsOf_17 : decode cX1_panelsOf 17 = .ok (.ireturn, 1) := by decide +kernel
set_option maxRecDepth 20000 in
theorem ggX1_pourOf_X1_requireHour : GoodIn wsX1_pourOf wsX1_requireHour := goodIn_ca (goodIn_r _ [8, 1, 2, 9, 10, 7, 11] (by decide +kernel) (by decide +kernel)) (goodIn_sub (fun _ h => List.mem_cons_of_mem _ (List.mem_append_right _ h)) (by decide +kernel))
set_option maxRecDepth 20000 in
theorem gX1_pourOf_X1_requireHour : GoodIn wsX1_pourOf (va_wsS RX1 50 yX1_requireHour wsX1_requireHour) := goodIn_app (goodIn_of _ (by decide +kernel)) ggX1_pourOf_X1_requireHour
set_option maxRecDepth 20000 in
theorem ggX1_pourOf_X1_giveOutPanels : GoodIn wsX1_pourOf wsX1_giveOutPanels := goodIn_r _ [15, 4, 16, 17, 18, 7, 19, 20, 21, 22, 23, 24, 25, 26, 27, 28, 29, 30, 31, 32, 33, 3, 34, 35, 36, 37, 38, 39, 40, 41, 42, 43, 44, 45, 46, 47, 48, 49, 50, 51, 52, 53, 54, 55] (by decide +kernel) (by decide +kernel)
set_option maxRecDepth 20000 in
theorem gX1_pourOf_X1_giveOutPanels : GoodIn wsX1_pourOf (wsV RX1 168 RX1 yX1_giveOutPanels wsX1_giveOutPanels) := goodIn_app (goodIn_of _ (by decide +kernel)) ggX1_pourOf_X1_giveOutPanels
set_option maxRecDepth 20000 in
theorem ggX1_pourOf_X0_isBusy : GoodIn wsX1_pourOf wsX0_isBusy := goodIn_r _ [27, 28, 29, 43, 44, 45, 46, 47, 48, 49, 50, 51, 52, 53, 54, 55] (by decide +kernel) (by decide +kernel)
set_option maxRecDepth 20000 in
theorem gX1_pourOf_X0_isBusy_n184 : GoodIn wsX1_pourOf (wsX0_isBusy) := ggX1_pourOf_X0_isBusy
theorem dX1_pourOf_0 : decode cX1_pourOf 0 = .ok (.iload_n 1, 1) := by decide +kernel
theorem dX1_pourOf_1 : decode cX1_pourOf 1 = .ok (.ifCond .lt 11, 3) := by decide +kernel
theorem dX1_pourOf_4 : decode cX1_pourOf 4 = .ok (.iload_n 1, 1) := by decide +kernel
theorem dX1_pourOf_5 : decode cX1_pourOf 5 = .ok (.aload_n 0, 1) := by decide +kernel
theorem dX1_pourOf_6 : decode cX1_pourOf 6 = .ok (.getfield 28, 3) := by decide +kernel
theorem dX1_pourOf_9 : decode cX1_pourOf 9 = .ok (.if_icmp .lt 11, 3) := by decide +kernel
theorem dX1_pourOf_12 : decode cX1_pourOf 12 = .ok (.new 181, 3) := by decide +kernel
theorem dX1_pourOf_15 : decode cX1_pourOf 15 = .ok (.dup, 1) := by decide +kernel
theorem dX1_pourOf_16 : decode cX1_pourOf 16 = .ok (.invokespecial 183, 3) := by decide +kernel
theorem dX1_pourOf_19 : decode cX1_pourOf 19 = .ok (.athrow, 1) := by decide +kernel
theorem dX1_pourOf_20 : decode cX1_pourOf 20 = .ok (.iload_n 2, 1) := by decide +kernel
theorem dX1_pourOf_21 : decode cX1_pourOf 21 = .ok (.invokestatic 50, 3) := by decide +kernel
theorem dX1_pourOf_24 : decode cX1_pourOf 24 = .ok (.aload_n 0, 1) := by decide +kernel
theorem dX1_pourOf_25 : decode cX1_pourOf 25 = .ok (.invokevirtual 168, 3) := by decide +kernel
theorem dX1_pourOf_28 : decode cX1_pourOf 28 = .ok (.lconst 1, 1) := by decide +kernel
theorem dX1_pourOf_29 : decode cX1_pourOf 29 = .ok (.iload_n 1, 1) := by decide +kernel
theorem dX1_pourOf_30 : decode cX1_pourOf 30 = .ok (.lshl, 1) := by decide +kernel
theorem dX1_pourOf_31 : decode cX1_pourOf 31 = .ok (.lstore_n 3, 1) := by decide +kernel
theorem dX1_pourOf_32 : decode cX1_pourOf 32 = .ok (.iconst 0, 1) := by decide +kernel
theorem dX1_pourOf_33 : decode cX1_pourOf 33 = .ok (.istore 5, 2) := by decide +kernel
theorem dX1_pourOf_35 : decode cX1_pourOf 35 = .ok (.iload 5, 2) := by decide +kernel
theorem dX1_pourOf_37 : decode cX1_pourOf 37 = .ok (.bipush 10, 2) := by decide +kernel
theorem dX1_pourOf_39 : decode cX1_pourOf 39 = .ok (.if_icmp .ge 47, 3) := by decide +kernel
theorem dX1_pourOf_42 : decode cX1_pourOf 42 = .ok (.aload_n 0, 1) := by decide +kernel
theorem dX1_pourOf_43 : decode cX1_pourOf 43 = .ok (.getfield 24, 3) := by decide +kernel
theorem dX1_pourOf_46 : decode cX1_pourOf 46 = .ok (.iload 5, 2) := by decide +kernel
theorem dX1_pourOf_48 : decode cX1_pourOf 48 = .ok (.aaload, 1) := by decide +kernel
theorem dX1_pourOf_49 : decode cX1_pourOf 49 = .ok (.astore 6, 2) := by decide +kernel
theorem dX1_pourOf_51 : decode cX1_pourOf 51 = .ok (.aload 6, 2) := by decide +kernel
theorem dX1_pourOf_53 : decode cX1_pourOf 53 = .ok (.ifnull 27, 3) := by decide +kernel
theorem dX1_pourOf_56 : decode cX1_pourOf 56 = .ok (.aload 6, 2) := by decide +kernel
theorem dX1_pourOf_58 : decode cX1_pourOf 58 = .ok (.getfield 171, 3) := by decide +kernel
theorem dX1_pourOf_61 : decode cX1_pourOf 61 = .ok (.lload_n 3, 1) := by decide +kernel
theorem dX1_pourOf_62 : decode cX1_pourOf 62 = .ok (.land, 1) := by decide +kernel
theorem dX1_pourOf_63 : decode cX1_pourOf 63 = .ok (.lconst 0, 1) := by decide +kernel
theorem dX1_pourOf_64 : decode cX1_pourOf 64 = .ok (.lcmp, 1) := by decide +kernel
theorem dX1_pourOf_65 : decode cX1_pourOf 65 = .ok (.ifCond .eq 15, 3) := by decide +kernel
theorem dX1_pourOf_68 : decode cX1_pourOf 68 = .ok (.aload 6, 2) := by decide +kernel
theorem dX1_pourOf_70 : decode cX1_pourOf 70 = .ok (.iload_n 2, 1) := by decide +kernel
theorem dX1_pourOf_71 : decode cX1_pourOf 71 = .ok (.invokevirtual 184, 3) := by decide +kernel
theorem dX1_pourOf_74 : decode cX1_pourOf 74 = .ok (.ifCond .eq 6, 3) := by decide +kernel
theorem dX1_pourOf_77 : decode cX1_pourOf 77 = .ok (.iload 5, 2) := by decide +kernel
theorem dX1_pourOf_79 : decode cX1_pourOf 79 = .ok (.ireturn, 1) := by decide +kernel
theorem dX1_pourOf_80 : decode cX1_pourOf 80 = .ok (.iinc 5 1, 3) := by decide +kernel
theorem dX1_pourOf_83 : decode cX1_pourOf 83 = .ok (.goto (-48), 3) := by decide +kernel
theorem dX1_pourOf_86 : decode cX1_pourOf 86 = .ok (.iconst (-1), 1) := by decide +kernel
theorem dX1_pourOf_87 : decode cX1_pourOf 87 = .ok (.ireturn, 1) := by decide +kernel
theorem dX1_isHour_0 : decode cX1_isHour 0 = .ok (.iload_n 0, 1) := by decide +kernel
theorem dX1_isHour_1 : decode cX1_isHour 1 = .ok (.ifCond .lt 14, 3) := by decide +kernel
theorem dX1_isHour_4 : decode cX1_isHour 4 = .ok (.iload_n 0, 1) := by decide +kernel
theorem dX1_isHour_5 : decode cX1_isHour 5 = .ok (.sipush 1000, 3) := by decide +kernel
theorem dX1_isHour_8 : decode cX1_isHour 8 = .ok (.if_icmp .ge 7, 3) := by decide +kernel
theorem dX1_isHour_11 : decode cX1_isHour 11 = .ok (.iconst 1, 1) := by decide +kernel
theorem dX1_isHour_12 : decode cX1_isHour 12 = .ok (.goto 4, 3) := by decide +kernel
theorem dX1_isHour_15 : decode cX1_isHour 15 = .ok (.iconst 0, 1) := by decide +kernel
theorem dX1_isHour_16 : decode cX1_isHour 16 = .ok (.ireturn, 1) := by decide +kernel
theorem dX1_isNumber_0 : decode cX1_isNumber 0 = .ok (.iload_n 0, 1) := by decide +kernel
theorem dX1_isNumber_1 : decode cX1_isNumber 1 = .ok (.ifCond .lt 13, 3) := by decide +kernel
theorem dX1_isNumber_4 : decode cX1_isNumber 4 = .ok (.iload_n 0, 1) := by decide +kernel
theorem dX1_isNumber_5 : decode cX1_isNumber 5 = .ok (.bipush 10, 2) := by decide +kernel
theorem dX1_isNumber_7 : decode cX1_isNumber 7 = .ok (.if_icmp .ge 7, 3) := by decide +kernel
theorem dX1_isNumber_10 : decode cX1_isNumber 10 = .ok (.iconst 1, 1) := by decide +kernel
theorem dX1_isNumber_11 : decode cX1_isNumber 11 = .ok (.goto 4, 3) := by decide +kernel
theorem dX1_isNumber_14 : decode cX1_isNumber 14 = .ok (.iconst 0, 1) := by decide +kernel
theorem dX1_isNumber_15 : decode cX1_isNumber 15 = .ok (.ireturn, 1) := by decide +kernel
set_option maxRecDepth 20000 in
theorem ggX1_requireHour_X1_isHour : GoodIn wsX1_requireHour wsX1_isHour := goodIn_r _ [6] (by decide +kernel) (by decide +kernel)
set_option maxRecDepth 20000 in
theorem gX1_requireHour_X1_isHour : GoodIn wsX1_requireHour (va_wsS RX1 165 yX1_isHour wsX1_isHour) := goodIn_app (goodIn_of _ (by decide +kernel)) ggX1_requireHour_X1_isHour
theorem dX1_requireHour_0 : decode cX1_requireHour 0 = .ok (.iload_n 0, 1) := by decide +kernel
theorem dX1_requireHour_1 : decode cX1_requireHour 1 = .ok (.invokestatic 165, 3) := by decide +kernel
theorem dX1_requireHour_4 : decode cX1_requireHour 4 = .ok (.ifCond .ne 11, 3) := by decide +kernel
theorem dX1_requireHour_7 : decode cX1_requireHour 7 = .ok (.new 181, 3) := by decide +kernel
theorem dX1_requireHour_10 : decode cX1_requireHour 10 = .ok (.dup, 1) := by decide +kernel
theorem dX1_requireHour_11 : decode cX1_requireHour 11 = .ok (.invokespecial 183, 3) := by decide +kernel
theorem dX1_requireHour_14 : decode cX1_requireHour 14 = .ok (.athrow, 1) := by decide +kernel
theorem dX1_requireHour_15 : decode cX1_requireHour 15 = .ok (.return_, 1) := by decide +kernel
theorem dX1_require_0 : decode cX1_require 0 = .ok (.iload_n 0, 1) := by decide +kernel
theorem dX1_require_1 : decode cX1_require 1 = .ok (.ifCond .ne 11, 3) := by decide +kernel
theorem dX1_require_4 : decode cX1_require 4 = .ok (.new 187, 3) := by decide +kernel
theorem dX1_require_7 : decode cX1_require 7 = .ok (.dup, 1) := by decide +kernel
theorem dX1_require_8 : decode cX1_require 8 = .ok (.invokespecial 189, 3) := by decide +kernel
theorem dX1_require_11 : decode cX1_require 11 = .ok (.athrow, 1) := by decide +kernel
theorem dX1_require_12 : decode cX1_require 12 = .ok (.return_, 1) := by decide +kernel
set_option maxRecDepth 20000 in
theorem ggX1_requireRange_X1_require : GoodIn wsX1_requireRange wsX1_require := goodIn_ca (goodIn_r _ [4, 5, 6] (by decide +kernel) (by decide +kernel)) (goodIn_sub (fun _ h => List.mem_cons_of_mem _ (List.mem_append_right _ h)) (by decide +kernel))
set_option maxRecDepth 20000 in
theorem gX1_requireRange_X1_require : GoodIn wsX1_requireRange (va_wsS RX1 54 yX1_require wsX1_require) := goodIn_app (goodIn_of _ (by decide +kernel)) ggX1_requireRange_X1_require
theorem dX1_requireRange_0 : decode cX1_requireRange 0 = .ok (.iload_n 0, 1) := by decide +kernel
theorem dX1_requireRange_1 : decode cX1_requireRange 1 = .ok (.iload_n 1, 1) := by decide +kernel
theorem dX1_requireRange_2 : decode cX1_requireRange 2 = .ok (.if_icmp .lt 12, 3) := by decide +kernel
theorem dX1_requireRange_5 : decode cX1_requireRange 5 = .ok (.iload_n 0, 1) := by decide +kernel
theorem dX1_requireRange_6 : decode cX1_requireRange 6 = .ok (.iload_n 2, 1) := by decide +kernel
theorem dX1_requireRange_7 : decode cX1_requireRange 7 = .ok (.if_icmp .gt 7, 3) := by decide +kernel
theorem dX1_requireRange_10 : decode cX1_requireRange 10 = .ok (.iconst 1, 1) := by decide +kernel
theorem dX1_requireRange_11 : decode cX1_requireRange 11 = .ok (.goto 4, 3) := by decide +kernel
theorem dX1_requireRange_14 : decode cX1_requireRange 14 = .ok (.iconst 0, 1) := by decide +kernel
theorem dX1_requireRange_15 : decode cX1_requireRange 15 = .ok (.invokestatic 54, 3) := by decide +kernel
theorem dX1_requireRange_18 : decode cX1_requireRange 18 = .ok (.return_, 1) := by decide +kernel
set_option maxRecDepth 20000 in
theorem ggX1_requirePour_X1_requireRange : GoodIn wsX1_requirePour wsX1_requireRange := goodIn_ca (goodIn_r _ [4, 5, 6, 3, 7, 8, 9] (by decide +kernel) (by decide +kernel)) (goodIn_sub (fun _ h => List.mem_cons_of_mem _ (List.mem_append_right _ h)) (by decide +kernel))
set_option maxRecDepth 20000 in
theorem gX1_requirePour_X1_requireRange : GoodIn wsX1_requirePour (va_wsS RX1 58 yX1_requireRange wsX1_requireRange) := goodIn_app (goodIn_of _ (by decide +kernel)) ggX1_requirePour_X1_requireRange
theorem dX1_requirePour_0 : decode cX1_requirePour 0 = .ok (.iload_n 0, 1) := by decide +kernel
theorem dX1_requirePour_1 : decode cX1_requirePour 1 = .ok (.iconst 0, 1) := by decide +kernel
theorem dX1_requirePour_2 : decode cX1_requirePour 2 = .ok (.sipush 900, 3) := by decide +kernel
theorem dX1_requirePour_5 : decode cX1_requirePour 5 = .ok (.invokestatic 58, 3) := by decide +kernel
theorem dX1_requirePour_8 : decode cX1_requirePour 8 = .ok (.iload_n 1, 1) := by decide +kernel
theorem dX1_requirePour_9 : decode cX1_requirePour 9 = .ok (.iconst 1, 1) := by decide +kernel
end
section
theorem dX1_requirePour_10 : decode cX1_requirePour 10 = .ok (.sipush 200, 3) := by decide +kernel
theorem dX1_requirePour_13 : decode cX1_requirePour 13 = .ok (.invokestatic 58, 3) := by decide +kernel
theorem dX1_requirePour_16 : decode cX1_requirePour 16 = .ok (.iload_n 2, 1) := by decide +kernel
theorem dX1_requirePour_17 : decode cX1_requirePour 17 = .ok (.iconst 1, 1) := by decide +kernel
theorem dX1_requirePour_18 : decode cX1_requirePour 18 = .ok (.bipush 30, 2) := by decide +kernel
theorem dX1_requirePour_20 : decode cX1_requirePour 20 = .ok (.invokestatic 58, 3) := by decide +kernel
theorem dX1_requirePour_23 : decode cX1_requirePour 23 = .ok (.iload_n 3, 1) := by decide +kernel
theorem dX1_requirePour_24 : decode cX1_requirePour 24 = .ok (.iconst 1, 1) := by decide +kernel
theorem dX1_requirePour_25 : decode cX1_requirePour 25 = .ok (.bipush 100, 2) := by decide +kernel
theorem dX1_requirePour_27 : decode cX1_requirePour 27 = .ok (.invokestatic 58, 3) := by decide +kernel
theorem dX1_requirePour_30 : decode cX1_requirePour 30 = .ok (.return_, 1) := by decide +kernel
set_option maxRecDepth 20000 in
theorem ggX1_existing_X1_isNumber : GoodIn wsX1_existing wsX1_isNumber := goodIn_r _ [7] (by decide +kernel) (by decide +kernel)
set_option maxRecDepth 20000 in
theorem gX1_existing_X1_isNumber : GoodIn wsX1_existing (va_wsS RX1 87 yX1_isNumber wsX1_isNumber) := goodIn_app (goodIn_of _ (by decide +kernel)) ggX1_existing_X1_isNumber
theorem dX1_existing_0 : decode cX1_existing 0 = .ok (.iload_n 1, 1) := by decide +kernel
theorem dX1_existing_1 : decode cX1_existing 1 = .ok (.invokestatic 87, 3) := by decide +kernel
theorem dX1_existing_4 : decode cX1_existing 4 = .ok (.ifCond .eq 12, 3) := by decide +kernel
theorem dX1_existing_7 : decode cX1_existing 7 = .ok (.aload_n 0, 1) := by decide +kernel
theorem dX1_existing_8 : decode cX1_existing 8 = .ok (.getfield 24, 3) := by decide +kernel
theorem dX1_existing_11 : decode cX1_existing 11 = .ok (.iload_n 1, 1) := by decide +kernel
theorem dX1_existing_12 : decode cX1_existing 12 = .ok (.aaload, 1) := by decide +kernel
theorem dX1_existing_13 : decode cX1_existing 13 = .ok (.goto 4, 3) := by decide +kernel
theorem dX1_existing_16 : decode cX1_existing 16 = .ok (.aconst_null, 1) := by decide +kernel
theorem dX1_existing_17 : decode cX1_existing 17 = .ok (.astore_n 2, 1) := by decide +kernel
theorem dX1_existing_18 : decode cX1_existing 18 = .ok (.aload_n 2, 1) := by decide +kernel
theorem dX1_existing_19 : decode cX1_existing 19 = .ok (.ifnonnull 11, 3) := by decide +kernel
theorem dX1_existing_22 : decode cX1_existing 22 = .ok (.new 190, 3) := by decide +kernel
theorem dX1_existing_25 : decode cX1_existing 25 = .ok (.dup, 1) := by decide +kernel
theorem dX1_existing_26 : decode cX1_existing 26 = .ok (.invokespecial 192, 3) := by decide +kernel
theorem dX1_existing_29 : decode cX1_existing 29 = .ok (.athrow, 1) := by decide +kernel
theorem dX1_existing_30 : decode cX1_existing 30 = .ok (.aload_n 2, 1) := by decide +kernel
theorem dX1_existing_31 : decode cX1_existing 31 = .ok (.areturn, 1) := by decide +kernel
theorem dX1_freeNumber_0 : decode cX1_freeNumber 0 = .ok (.iconst 0, 1) := by decide +kernel
theorem dX1_freeNumber_1 : decode cX1_freeNumber 1 = .ok (.istore_n 1, 1) := by decide +kernel
theorem dX1_freeNumber_2 : decode cX1_freeNumber 2 = .ok (.iload_n 1, 1) := by decide +kernel
theorem dX1_freeNumber_3 : decode cX1_freeNumber 3 = .ok (.bipush 10, 2) := by decide +kernel
theorem dX1_freeNumber_5 : decode cX1_freeNumber 5 = .ok (.if_icmp .ge 20, 3) := by decide +kernel
theorem dX1_freeNumber_8 : decode cX1_freeNumber 8 = .ok (.aload_n 0, 1) := by decide +kernel
theorem dX1_freeNumber_9 : decode cX1_freeNumber 9 = .ok (.getfield 24, 3) := by decide +kernel
theorem dX1_freeNumber_12 : decode cX1_freeNumber 12 = .ok (.iload_n 1, 1) := by decide +kernel
theorem dX1_freeNumber_13 : decode cX1_freeNumber 13 = .ok (.aaload, 1) := by decide +kernel
theorem dX1_freeNumber_14 : decode cX1_freeNumber 14 = .ok (.ifnonnull 5, 3) := by decide +kernel
theorem dX1_freeNumber_17 : decode cX1_freeNumber 17 = .ok (.iload_n 1, 1) := by decide +kernel
theorem dX1_freeNumber_18 : decode cX1_freeNumber 18 = .ok (.ireturn, 1) := by decide +kernel
theorem dX1_freeNumber_19 : decode cX1_freeNumber 19 = .ok (.iinc 1 1, 3) := by decide +kernel
theorem dX1_freeNumber_22 : decode cX1_freeNumber 22 = .ok (.goto (-20), 3) := by decide +kernel
theorem dX1_freeNumber_25 : decode cX1_freeNumber 25 = .ok (.iconst (-1), 1) := by decide +kernel
theorem dX1_freeNumber_26 : decode cX1_freeNumber 26 = .ok (.ireturn, 1) := by decide +kernel
theorem dX1_sumGains_0 : decode cX1_sumGains 0 = .ok (.aload_n 0, 1) := by decide +kernel
theorem dX1_sumGains_1 : decode cX1_sumGains 1 = .ok (.getfield 13, 3) := by decide +kernel
theorem dX1_sumGains_4 : decode cX1_sumGains 4 = .ok (.iconst 0, 1) := by decide +kernel
theorem dX1_sumGains_5 : decode cX1_sumGains 5 = .ok (.iconst 0, 1) := by decide +kernel
theorem dX1_sumGains_6 : decode cX1_sumGains 6 = .ok (.iastore, 1) := by decide +kernel
theorem dX1_sumGains_7 : decode cX1_sumGains 7 = .ok (.iconst 0, 1) := by decide +kernel
theorem dX1_sumGains_8 : decode cX1_sumGains 8 = .ok (.istore_n 1, 1) := by decide +kernel
theorem dX1_sumGains_9 : decode cX1_sumGains 9 = .ok (.iload_n 1, 1) := by decide +kernel
theorem dX1_sumGains_10 : decode cX1_sumGains 10 = .ok (.sipush 1000, 3) := by decide +kernel
theorem dX1_sumGains_13 : decode cX1_sumGains 13 = .ok (.if_icmp .ge 37, 3) := by decide +kernel
theorem dX1_sumGains_16 : decode cX1_sumGains 16 = .ok (.aload_n 0, 1) := by decide +kernel
theorem dX1_sumGains_17 : decode cX1_sumGains 17 = .ok (.getfield 13, 3) := by decide +kernel
theorem dX1_sumGains_20 : decode cX1_sumGains 20 = .ok (.iload_n 1, 1) := by decide +kernel
theorem dX1_sumGains_21 : decode cX1_sumGains 21 = .ok (.iconst 1, 1) := by decide +kernel
theorem dX1_sumGains_22 : decode cX1_sumGains 22 = .ok (.iadd, 1) := by decide +kernel
theorem dX1_sumGains_23 : decode cX1_sumGains 23 = .ok (.aload_n 0, 1) := by decide +kernel
theorem dX1_sumGains_24 : decode cX1_sumGains 24 = .ok (.getfield 13, 3) := by decide +kernel
theorem dX1_sumGains_27 : decode cX1_sumGains 27 = .ok (.iload_n 1, 1) := by decide +kernel
theorem dX1_sumGains_28 : decode cX1_sumGains 28 = .ok (.iaload, 1) := by decide +kernel
theorem dX1_sumGains_29 : decode cX1_sumGains 29 = .ok (.iconst 0, 1) := by decide +kernel
theorem dX1_sumGains_30 : decode cX1_sumGains 30 = .ok (.aload_n 0, 1) := by decide +kernel
theorem dX1_sumGains_31 : decode cX1_sumGains 31 = .ok (.getfield 9, 3) := by decide +kernel
theorem dX1_sumGains_34 : decode cX1_sumGains 34 = .ok (.iload_n 1, 1) := by decide +kernel
theorem dX1_sumGains_35 : decode cX1_sumGains 35 = .ok (.iaload, 1) := by decide +kernel
theorem dX1_sumGains_36 : decode cX1_sumGains 36 = .ok (.bipush 10, 2) := by decide +kernel
theorem dX1_sumGains_38 : decode cX1_sumGains 38 = .ok (.iadd, 1) := by decide +kernel
theorem dX1_sumGains_39 : decode cX1_sumGains 39 = .ok (.invokestatic 144, 3) := by decide +kernel
theorem dX1_sumGains_42 : decode cX1_sumGains 42 = .ok (.iadd, 1) := by decide +kernel
theorem dX1_sumGains_43 : decode cX1_sumGains 43 = .ok (.iastore, 1) := by decide +kernel
theorem dX1_sumGains_44 : decode cX1_sumGains 44 = .ok (.iinc 1 1, 3) := by decide +kernel
theorem dX1_sumGains_47 : decode cX1_sumGains 47 = .ok (.goto (-38), 3) := by decide +kernel
theorem dX1_sumGains_50 : decode cX1_sumGains 50 = .ok (.return_, 1) := by decide +kernel
theorem dX1_gainBetween_0 : decode cX1_gainBetween 0 = .ok (.iload_n 2, 1) := by decide +kernel
theorem dX1_gainBetween_1 : decode cX1_gainBetween 1 = .ok (.sipush 1000, 3) := by decide +kernel
theorem dX1_gainBetween_4 : decode cX1_gainBetween 4 = .ok (.invokestatic 74, 3) := by decide +kernel
theorem dX1_gainBetween_7 : decode cX1_gainBetween 7 = .ok (.istore_n 3, 1) := by decide +kernel
theorem dX1_gainBetween_8 : decode cX1_gainBetween 8 = .ok (.iload_n 1, 1) := by decide +kernel
theorem dX1_gainBetween_9 : decode cX1_gainBetween 9 = .ok (.ifCond .lt 24, 3) := by decide +kernel
theorem dX1_gainBetween_12 : decode cX1_gainBetween 12 = .ok (.iload_n 1, 1) := by decide +kernel
theorem dX1_gainBetween_13 : decode cX1_gainBetween 13 = .ok (.iload_n 3, 1) := by decide +kernel
theorem dX1_gainBetween_14 : decode cX1_gainBetween 14 = .ok (.if_icmp .ge 19, 3) := by decide +kernel
theorem dX1_gainBetween_17 : decode cX1_gainBetween 17 = .ok (.aload_n 0, 1) := by decide +kernel
theorem dX1_gainBetween_18 : decode cX1_gainBetween 18 = .ok (.getfield 13, 3) := by decide +kernel
theorem dX1_gainBetween_21 : decode cX1_gainBetween 21 = .ok (.iload_n 3, 1) := by decide +kernel
theorem dX1_gainBetween_22 : decode cX1_gainBetween 22 = .ok (.iaload, 1) := by decide +kernel
theorem dX1_gainBetween_23 : decode cX1_gainBetween 23 = .ok (.aload_n 0, 1) := by decide +kernel
theorem dX1_gainBetween_24 : decode cX1_gainBetween 24 = .ok (.getfield 13, 3) := by decide +kernel
theorem dX1_gainBetween_27 : decode cX1_gainBetween 27 = .ok (.iload_n 1, 1) := by decide +kernel
theorem dX1_gainBetween_28 : decode cX1_gainBetween 28 = .ok (.iaload, 1) := by decide +kernel
theorem dX1_gainBetween_29 : decode cX1_gainBetween 29 = .ok (.isub, 1) := by decide +kernel
theorem dX1_gainBetween_30 : decode cX1_gainBetween 30 = .ok (.goto 4, 3) := by decide +kernel
theorem dX1_gainBetween_33 : decode cX1_gainBetween 33 = .ok (.iconst 0, 1) := by decide +kernel
theorem dX1_gainBetween_34 : decode cX1_gainBetween 34 = .ok (.ireturn, 1) := by decide +kernel
theorem dX1_strengthAt_0 : decode cX1_strengthAt 0 = .ok (.iconst 1, 1) := by decide +kernel
theorem dX1_strengthAt_1 : decode cX1_strengthAt 1 = .ok (.istore_n 1, 1) := by decide +kernel
theorem dX1_strengthAt_2 : decode cX1_strengthAt 2 = .ok (.iload_n 1, 1) := by decide +kernel
theorem dX1_strengthAt_3 : decode cX1_strengthAt 3 = .ok (.getstatic 193, 3) := by decide +kernel
theorem dX1_strengthAt_6 : decode cX1_strengthAt 6 = .ok (.arraylength, 1) := by decide +kernel
theorem dX1_strengthAt_7 : decode cX1_strengthAt 7 = .ok (.if_icmp .ge 54, 3) := by decide +kernel
theorem dX1_strengthAt_10 : decode cX1_strengthAt 10 = .ok (.getstatic 193, 3) := by decide +kernel
theorem dX1_strengthAt_13 : decode cX1_strengthAt 13 = .ok (.iload_n 1, 1) := by decide +kernel
theorem dX1_strengthAt_14 : decode cX1_strengthAt 14 = .ok (.iconst 1, 1) := by decide +kernel
theorem dX1_strengthAt_15 : decode cX1_strengthAt 15 = .ok (.isub, 1) := by decide +kernel
theorem dX1_strengthAt_16 : decode cX1_strengthAt 16 = .ok (.iaload, 1) := by decide +kernel
theorem dX1_strengthAt_17 : decode cX1_strengthAt 17 = .ok (.istore_n 2, 1) := by decide +kernel
theorem dX1_strengthAt_18 : decode cX1_strengthAt 18 = .ok (.getstatic 193, 3) := by decide +kernel
theorem dX1_strengthAt_21 : decode cX1_strengthAt 21 = .ok (.iload_n 1, 1) := by decide +kernel
theorem dX1_strengthAt_22 : decode cX1_strengthAt 22 = .ok (.iaload, 1) := by decide +kernel
theorem dX1_strengthAt_23 : decode cX1_strengthAt 23 = .ok (.iload_n 2, 1) := by decide +kernel
theorem dX1_strengthAt_24 : decode cX1_strengthAt 24 = .ok (.isub, 1) := by decide +kernel
theorem dX1_strengthAt_25 : decode cX1_strengthAt 25 = .ok (.istore_n 3, 1) := by decide +kernel
theorem dX1_strengthAt_26 : decode cX1_strengthAt 26 = .ok (.iload_n 0, 1) := by decide +kernel
theorem dX1_strengthAt_27 : decode cX1_strengthAt 27 = .ok (.getstatic 193, 3) := by decide +kernel
theorem dX1_strengthAt_30 : decode cX1_strengthAt 30 = .ok (.iload_n 1, 1) := by decide +kernel
theorem dX1_strengthAt_31 : decode cX1_strengthAt 31 = .ok (.iaload, 1) := by decide +kernel
theorem dX1_strengthAt_32 : decode cX1_strengthAt 32 = .ok (.if_icmp .ge 23, 3) := by decide +kernel
theorem dX1_strengthAt_35 : decode cX1_strengthAt 35 = .ok (.iload_n 3, 1) := by decide +kernel
theorem dX1_strengthAt_36 : decode cX1_strengthAt 36 = .ok (.ifCond .le 19, 3) := by decide +kernel
theorem dX1_strengthAt_39 : decode cX1_strengthAt 39 = .ok (.bipush 25, 2) := by decide +kernel
theorem dX1_strengthAt_41 : decode cX1_strengthAt 41 = .ok (.iload_n 1, 1) := by decide +kernel
theorem dX1_strengthAt_42 : decode cX1_strengthAt 42 = .ok (.iconst 1, 1) := by decide +kernel
theorem dX1_strengthAt_43 : decode cX1_strengthAt 43 = .ok (.isub, 1) := by decide +kernel
theorem dX1_strengthAt_44 : decode cX1_strengthAt 44 = .ok (.imul, 1) := by decide +kernel
theorem dX1_strengthAt_45 : decode cX1_strengthAt 45 = .ok (.bipush 25, 2) := by decide +kernel
theorem dX1_strengthAt_47 : decode cX1_strengthAt 47 = .ok (.iload_n 0, 1) := by decide +kernel
theorem dX1_strengthAt_48 : decode cX1_strengthAt 48 = .ok (.iload_n 2, 1) := by decide +kernel
theorem dX1_strengthAt_49 : decode cX1_strengthAt 49 = .ok (.isub, 1) := by decide +kernel
theorem dX1_strengthAt_50 : decode cX1_strengthAt 50 = .ok (.imul, 1) := by decide +kernel
theorem dX1_strengthAt_51 : decode cX1_strengthAt 51 = .ok (.iload_n 3, 1) := by decide +kernel
theorem dX1_strengthAt_52 : decode cX1_strengthAt 52 = .ok (.idiv, 1) := by decide +kernel
theorem dX1_strengthAt_53 : decode cX1_strengthAt 53 = .ok (.iadd, 1) := by decide +kernel
theorem dX1_strengthAt_54 : decode cX1_strengthAt 54 = .ok (.ireturn, 1) := by decide +kernel
theorem dX1_strengthAt_55 : decode cX1_strengthAt 55 = .ok (.iinc 1 1, 3) := by decide +kernel
theorem dX1_strengthAt_58 : decode cX1_strengthAt 58 = .ok (.goto (-56), 3) := by decide +kernel
theorem dX1_strengthAt_61 : decode cX1_strengthAt 61 = .ok (.bipush 100, 2) := by decide +kernel
theorem dX1_strengthAt_63 : decode cX1_strengthAt 63 = .ok (.ireturn, 1) := by decide +kernel
theorem dX1_fullHours_0 : decode cX1_fullHours 0 = .ok (.aload_n 0, 1) := by decide +kernel
theorem dX1_fullHours_1 : decode cX1_fullHours 1 = .ok (.getfield 32, 3) := by decide +kernel
theorem dX1_fullHours_4 : decode cX1_fullHours 4 = .ok (.ifCond .le 12, 3) := by decide +kernel
theorem dX1_fullHours_7 : decode cX1_fullHours 7 = .ok (.iload_n 1, 1) := by decide +kernel
theorem dX1_fullHours_8 : decode cX1_fullHours 8 = .ok (.aload_n 0, 1) := by decide +kernel
theorem dX1_fullHours_9 : decode cX1_fullHours 9 = .ok (.getfield 32, 3) := by decide +kernel
theorem dX1_fullHours_12 : decode cX1_fullHours 12 = .ok (.idiv, 1) := by decide +kernel
theorem dX1_fullHours_13 : decode cX1_fullHours 13 = .ok (.goto 4, 3) := by decide +kernel
theorem dX1_fullHours_16 : decode cX1_fullHours 16 = .ok (.iconst 0, 1) := by decide +kernel
theorem dX1_fullHours_17 : decode cX1_fullHours 17 = .ok (.ireturn, 1) := by decide +kernel
set_option maxRecDepth 20000 in
theorem ggX1_startedHours_X1_fullHours : GoodIn wsX1_startedHours wsX1_fullHours := goodIn_r _ [6, 1, 7, 8, 9, 10, 11, 12, 13, 14, 15] (by decide +kernel) (by decide +kernel)
set_option maxRecDepth 20000 in
theorem gX1_startedHours_X1_fullHours : GoodIn wsX1_startedHours (wsV RX1 126 RX1 yX1_fullHours wsX1_fullHours) := goodIn_app (goodIn_of _ (by decide +kernel)) ggX1_startedHours_X1_fullHours
theorem dX1_startedHours_0 : decode cX1_startedHours 0 = .ok (.aload_n 0, 1) := by decide +kernel
theorem dX1_startedHours_1 : decode cX1_startedHours 1 = .ok (.iload_n 1, 1) := by decide +kernel
theorem dX1_startedHours_2 : decode cX1_startedHours 2 = .ok (.aload_n 0, 1) := by decide +kernel
theorem dX1_startedHours_3 : decode cX1_startedHours 3 = .ok (.getfield 32, 3) := by decide +kernel
theorem dX1_startedHours_6 : decode cX1_startedHours 6 = .ok (.iadd, 1) := by decide +kernel
theorem dX1_startedHours_7 : decode cX1_startedHours 7 = .ok (.iconst 1, 1) := by decide +kernel
theorem dX1_startedHours_8 : decode cX1_startedHours 8 = .ok (.isub, 1) := by decide +kernel
theorem dX1_startedHours_9 : decode cX1_startedHours 9 = .ok (.invokevirtual 126, 3) := by decide +kernel
theorem dX1_startedHours_12 : decode cX1_startedHours 12 = .ok (.ireturn, 1) := by decide +kernel
theorem dX1_standHour_0 : decode cX1_standHour 0 = .ok (.iconst 0, 1) := by decide +kernel
theorem dX1_standHour_1 : decode cX1_standHour 1 = .ok (.iload_n 1, 1) := by decide +kernel
theorem dX1_standHour_2 : decode cX1_standHour 2 = .ok (.aload_n 0, 1) := by decide +kernel
theorem dX1_standHour_3 : decode cX1_standHour 3 = .ok (.getfield 35, 3) := by decide +kernel
theorem dX1_standHour_6 : decode cX1_standHour 6 = .ok (.isub, 1) := by decide +kernel
theorem dX1_standHour_7 : decode cX1_standHour 7 = .ok (.invokestatic 144, 3) := by decide +kernel
theorem dX1_standHour_10 : decode cX1_standHour 10 = .ok (.ireturn, 1) := by decide +kernel
set_option maxRecDepth 20000 in
theorem ggX1_strikeHour_X1_gainBetween : GoodIn wsX1_strikeHour wsX1_gainBetween := goodIn_r _ [5, 6, 7, 8, 9, 10, 15, 16, 17, 18, 19, 20, 21, 22, 23] (by decide +kernel) (by decide +kernel)
set_option maxRecDepth 20000 in
theorem gX1_strikeHour_X1_gainBetween : GoodIn wsX1_strikeHour (wsV RX1 65 RX1 yX1_gainBetween wsX1_gainBetween) := goodIn_app (goodIn_of _ (by decide +kernel)) ggX1_strikeHour_X1_gainBetween
set_option maxRecDepth 20000 in
theorem ggX1_strikeHour_X1_strengthAt : GoodIn wsX1_strikeHour wsX1_strengthAt := goodIn_r _ [13, 14] (by decide +kernel) (by decide +kernel)
set_option maxRecDepth 20000 in
theorem gX1_strikeHour_X1_strengthAt : GoodIn wsX1_strikeHour (va_wsS RX1 70 yX1_strengthAt wsX1_strengthAt) := goodIn_app (goodIn_of _ (by decide +kernel)) ggX1_strikeHour_X1_strengthAt
theorem dX1_strikeHour_0 : decode cX1_strikeHour 0 = .ok (.iload_n 1, 1) := by decide +kernel
theorem dX1_strikeHour_1 : decode cX1_strikeHour 1 = .ok (.iconst 1, 1) := by decide +kernel
theorem dX1_strikeHour_2 : decode cX1_strikeHour 2 = .ok (.isub, 1) := by decide +kernel
theorem dX1_strikeHour_3 : decode cX1_strikeHour 3 = .ok (.istore_n 3, 1) := by decide +kernel
theorem dX1_strikeHour_4 : decode cX1_strikeHour 4 = .ok (.sipush 512, 3) := by decide +kernel
theorem dX1_strikeHour_7 : decode cX1_strikeHour 7 = .ok (.istore 4, 2) := by decide +kernel
theorem dX1_strikeHour_9 : decode cX1_strikeHour 9 = .ok (.iload 4, 2) := by decide +kernel
theorem dX1_strikeHour_11 : decode cX1_strikeHour 11 = .ok (.ifCond .le 43, 3) := by decide +kernel
theorem dX1_strikeHour_14 : decode cX1_strikeHour 14 = .ok (.iload_n 3, 1) := by decide +kernel
theorem dX1_strikeHour_15 : decode cX1_strikeHour 15 = .ok (.iload 4, 2) := by decide +kernel
theorem dX1_strikeHour_17 : decode cX1_strikeHour 17 = .ok (.iadd, 1) := by decide +kernel
theorem dX1_strikeHour_18 : decode cX1_strikeHour 18 = .ok (.istore 5, 2) := by decide +kernel
theorem dX1_strikeHour_20 : decode cX1_strikeHour 20 = .ok (.iload 5, 2) := by decide +kernel
theorem dX1_strikeHour_22 : decode cX1_strikeHour 22 = .ok (.sipush 1000, 3) := by decide +kernel
theorem dX1_strikeHour_25 : decode cX1_strikeHour 25 = .ok (.if_icmp .ge 20, 3) := by decide +kernel
theorem dX1_strikeHour_28 : decode cX1_strikeHour 28 = .ok (.aload_n 0, 1) := by decide +kernel
theorem dX1_strikeHour_29 : decode cX1_strikeHour 29 = .ok (.iload_n 1, 1) := by decide +kernel
theorem dX1_strikeHour_30 : decode cX1_strikeHour 30 = .ok (.iload 5, 2) := by decide +kernel
theorem dX1_strikeHour_32 : decode cX1_strikeHour 32 = .ok (.invokevirtual 65, 3) := by decide +kernel
theorem dX1_strikeHour_35 : decode cX1_strikeHour 35 = .ok (.invokestatic 70, 3) := by decide +kernel
theorem dX1_strikeHour_38 : decode cX1_strikeHour 38 = .ok (.iload_n 2, 1) := by decide +kernel
theorem dX1_strikeHour_39 : decode cX1_strikeHour 39 = .ok (.if_icmp .ge 6, 3) := by decide +kernel
theorem dX1_strikeHour_42 : decode cX1_strikeHour 42 = .ok (.iload 5, 2) := by decide +kernel
theorem dX1_strikeHour_44 : decode cX1_strikeHour 44 = .ok (.istore_n 3, 1) := by decide +kernel
theorem dX1_strikeHour_45 : decode cX1_strikeHour 45 = .ok (.iload 4, 2) := by decide +kernel
theorem dX1_strikeHour_47 : decode cX1_strikeHour 47 = .ok (.iconst 2, 1) := by decide +kernel
theorem dX1_strikeHour_48 : decode cX1_strikeHour 48 = .ok (.idiv, 1) := by decide +kernel
theorem dX1_strikeHour_49 : decode cX1_strikeHour 49 = .ok (.istore 4, 2) := by decide +kernel
theorem dX1_strikeHour_51 : decode cX1_strikeHour 51 = .ok (.goto (-42), 3) := by decide +kernel
theorem dX1_strikeHour_54 : decode cX1_strikeHour 54 = .ok (.iload_n 3, 1) := by decide +kernel
theorem dX1_strikeHour_55 : decode cX1_strikeHour 55 = .ok (.iconst 1, 1) := by decide +kernel
theorem dX1_strikeHour_56 : decode cX1_strikeHour 56 = .ok (.iadd, 1) := by decide +kernel
theorem dX1_strikeHour_57 : decode cX1_strikeHour 57 = .ok (.istore 4, 2) := by decide +kernel
theorem dX1_strikeHour_59 : decode cX1_strikeHour 59 = .ok (.iload 4, 2) := by decide +kernel
theorem dX1_strikeHour_61 : decode cX1_strikeHour 61 = .ok (.sipush 1000, 3) := by decide +kernel
theorem dX1_strikeHour_64 : decode cX1_strikeHour 64 = .ok (.if_icmp .ge 8, 3) := by decide +kernel
theorem dX1_strikeHour_67 : decode cX1_strikeHour 67 = .ok (.iload 4, 2) := by decide +kernel
theorem dX1_strikeHour_69 : decode cX1_strikeHour 69 = .ok (.goto 4, 3) := by decide +kernel
theorem dX1_strikeHour_72 : decode cX1_strikeHour 72 = .ok (.iconst (-1), 1) := by decide +kernel
theorem dX1_strikeHour_73 : decode cX1_strikeHour 73 = .ok (.ireturn, 1) := by decide +kernel
theorem dX1_releaseHour_0 : decode cX1_releaseHour 0 = .ok (.iload_n 1, 1) := by decide +kernel
theorem dX1_releaseHour_1 : decode cX1_releaseHour 1 = .ok (.iconst (-1), 1) := by decide +kernel
theorem dX1_releaseHour_2 : decode cX1_releaseHour 2 = .ok (.if_icmp .ne 9, 3) := by decide +kernel
theorem dX1_releaseHour_5 : decode cX1_releaseHour 5 = .ok (.sipush 1000, 3) := by decide +kernel
theorem dX1_releaseHour_8 : decode cX1_releaseHour 8 = .ok (.goto 15, 3) := by decide +kernel
theorem dX1_releaseHour_11 : decode cX1_releaseHour 11 = .ok (.sipush 1000, 3) := by decide +kernel
theorem dX1_releaseHour_14 : decode cX1_releaseHour 14 = .ok (.iload_n 1, 1) := by decide +kernel
theorem dX1_releaseHour_15 : decode cX1_releaseHour 15 = .ok (.aload_n 0, 1) := by decide +kernel
theorem dX1_releaseHour_16 : decode cX1_releaseHour 16 = .ok (.getfield 38, 3) := by decide +kernel
theorem dX1_releaseHour_19 : decode cX1_releaseHour 19 = .ok (.iadd, 1) := by decide +kernel
theorem dX1_releaseHour_20 : decode cX1_releaseHour 20 = .ok (.invokestatic 74, 3) := by decide +kernel
theorem dX1_releaseHour_23 : decode cX1_releaseHour 23 = .ok (.ireturn, 1) := by decide +kernel
set_option maxRecDepth 20000 in
theorem ggX1_schedule_X1_startedHours : GoodIn wsX1_schedule wsX1_startedHours := goodIn_r _ [5, 6, 7, 8, 9, 4, 10, 60, 61, 62, 63, 64, 65, 66, 67, 68] (by decide +kernel) (by decide +kernel)
set_option maxRecDepth 20000 in
theorem gX1_schedule_X1_startedHours : GoodIn wsX1_schedule (wsV RX1 153 RX1 yX1_startedHours wsX1_startedHours) := goodIn_app (goodIn_of _ (by decide +kernel)) ggX1_schedule_X1_startedHours
set_option maxRecDepth 20000 in
theorem ggX1_schedule_X0_hoursOfBreaks : GoodIn wsX1_schedule wsX0_hoursOfBreaks := goodIn_r _ [14, 15, 16, 47, 48, 49, 50, 51, 52, 53, 54, 55, 56, 57, 58, 59] (by decide +kernel) (by decide +kernel)
set_option maxRecDepth 20000 in
theorem gX1_schedule_X0_hoursOfBreaks_n196 : GoodIn wsX1_schedule (wsX0_hoursOfBreaks) := ggX1_schedule_X0_hoursOfBreaks
set_option maxRecDepth 20000 in
theorem ggX1_schedule_X1_strikeHour : GoodIn wsX1_schedule wsX1_strikeHour := goodIn_r _ [20, 21, 22, 23, 4, 24, 25, 26, 27, 28, 29, 30, 31, 32, 33, 60, 61, 62, 63, 64, 65, 66, 67, 68] (by decide +kernel) (by decide +kernel)
set_option maxRecDepth 20000 in
theorem gX1_schedule_X1_strikeHour : GoodIn wsX1_schedule (wsV RX1 159 RX1 yX1_strikeHour wsX1_strikeHour) := goodIn_app (goodIn_of _ (by decide +kernel)) ggX1_schedule_X1_strikeHour
set_option maxRecDepth 20000 in
theorem ggX1_schedule_X1_standHour : GoodIn wsX1_schedule wsX1_standHour := goodIn_r _ [37, 38, 39, 40, 27, 41, 60, 61, 62, 63, 64, 65, 66, 67, 68] (by decide +kernel) (by decide +kernel)
set_option maxRecDepth 20000 in
theorem gX1_schedule_X1_standHour : GoodIn wsX1_schedule (wsV RX1 156 RX1 yX1_standHour wsX1_standHour) := goodIn_app (goodIn_of _ (by decide +kernel)) ggX1_schedule_X1_standHour
set_option maxRecDepth 20000 in
theorem ggX1_schedule_X1_releaseHour : GoodIn wsX1_schedule wsX1_releaseHour := goodIn_r _ [45, 46, 25, 26, 27, 28, 60, 61, 62, 63, 64, 65, 66, 67, 68] (by decide +kernel) (by decide +kernel)
set_option maxRecDepth 20000 in
theorem gX1_schedule_X1_releaseHour : GoodIn wsX1_schedule (wsV RX1 162 RX1 yX1_releaseHour wsX1_releaseHour) := goodIn_app (goodIn_of _ (by decide +kernel)) ggX1_schedule_X1_releaseHour
theorem dX1_schedule_0 : decode cX1_schedule 0 = .ok (.aload_n 1, 1) := by decide +kernel
theorem dX1_schedule_1 : decode cX1_schedule 1 = .ok (.aload_n 1, 1) := by decide +kernel
theorem dX1_schedule_2 : decode cX1_schedule 2 = .ok (.getfield 104, 3) := by decide +kernel
theorem dX1_schedule_5 : decode cX1_schedule 5 = .ok (.aload_n 0, 1) := by decide +kernel
theorem dX1_schedule_6 : decode cX1_schedule 6 = .ok (.aload_n 1, 1) := by decide +kernel
theorem dX1_schedule_7 : decode cX1_schedule 7 = .ok (.getfield 110, 3) := by decide +kernel
theorem dX1_schedule_10 : decode cX1_schedule 10 = .ok (.invokevirtual 153, 3) := by decide +kernel
theorem dX1_schedule_13 : decode cX1_schedule 13 = .ok (.iadd, 1) := by decide +kernel
theorem dX1_schedule_14 : decode cX1_schedule 14 = .ok (.aload_n 1, 1) := by decide +kernel
theorem dX1_schedule_15 : decode cX1_schedule 15 = .ok (.invokevirtual 196, 3) := by decide +kernel
theorem dX1_schedule_18 : decode cX1_schedule 18 = .ok (.iadd, 1) := by decide +kernel
theorem dX1_schedule_19 : decode cX1_schedule 19 = .ok (.putfield 120, 3) := by decide +kernel
theorem dX1_schedule_22 : decode cX1_schedule 22 = .ok (.aload_n 1, 1) := by decide +kernel
theorem dX1_schedule_23 : decode cX1_schedule 23 = .ok (.aload_n 0, 1) := by decide +kernel
theorem dX1_schedule_24 : decode cX1_schedule 24 = .ok (.aload_n 1, 1) := by decide +kernel
theorem dX1_schedule_25 : decode cX1_schedule 25 = .ok (.getfield 120, 3) := by decide +kernel
theorem dX1_schedule_28 : decode cX1_schedule 28 = .ok (.aload_n 1, 1) := by decide +kernel
theorem dX1_schedule_29 : decode cX1_schedule 29 = .ok (.getfield 199, 3) := by decide +kernel
theorem dX1_schedule_32 : decode cX1_schedule 32 = .ok (.invokevirtual 159, 3) := by decide +kernel
theorem dX1_schedule_35 : decode cX1_schedule 35 = .ok (.putfield 132, 3) := by decide +kernel
theorem dX1_schedule_38 : decode cX1_schedule 38 = .ok (.aload_n 1, 1) := by decide +kernel
theorem dX1_schedule_39 : decode cX1_schedule 39 = .ok (.aload_n 0, 1) := by decide +kernel
theorem dX1_schedule_40 : decode cX1_schedule 40 = .ok (.aload_n 1, 1) := by decide +kernel
theorem dX1_schedule_41 : decode cX1_schedule 41 = .ok (.getfield 104, 3) := by decide +kernel
theorem dX1_schedule_44 : decode cX1_schedule 44 = .ok (.invokevirtual 156, 3) := by decide +kernel
theorem dX1_schedule_47 : decode cX1_schedule 47 = .ok (.putfield 147, 3) := by decide +kernel
theorem dX1_schedule_50 : decode cX1_schedule 50 = .ok (.aload_n 1, 1) := by decide +kernel
theorem dX1_schedule_51 : decode cX1_schedule 51 = .ok (.aload_n 0, 1) := by decide +kernel
theorem dX1_schedule_52 : decode cX1_schedule 52 = .ok (.aload_n 1, 1) := by decide +kernel
theorem dX1_schedule_53 : decode cX1_schedule 53 = .ok (.getfield 132, 3) := by decide +kernel
theorem dX1_schedule_56 : decode cX1_schedule 56 = .ok (.invokevirtual 162, 3) := by decide +kernel
theorem dX1_schedule_59 : decode cX1_schedule 59 = .ok (.putfield 135, 3) := by decide +kernel
theorem dX1_schedule_62 : decode cX1_schedule 62 = .ok (.return_, 1) := by decide +kernel
set_option maxRecDepth 20000 in
theorem ggX1_scheduleAll_X1_schedule : GoodIn wsX1_scheduleAll wsX1_schedule := goodIn_r _ [6, 7, 8, 9, 5, 10, 11, 12, 13, 14, 15, 16, 17, 18, 19, 20, 21, 22, 23, 24, 25, 26, 27, 28, 29, 30, 31, 32, 33, 34, 35, 36, 37, 38, 39, 40, 41, 42, 43, 44, 45, 46, 47, 48, 49, 50, 51, 61, 62, 63, 64, 65, 66, 67, 68, 69, 70, 71, 72, 73, 52, 53, 54, 55, 56, 57, 58, 59, 60] (by decide +kernel) (by decide +kernel)
set_option maxRecDepth 20000 in
theorem gX1_scheduleAll_X1_schedule : GoodIn wsX1_scheduleAll (wsV RX1 96 RX1 yX1_schedule wsX1_schedule) := goodIn_app (goodIn_of _ (by decide +kernel)) ggX1_scheduleAll_X1_schedule
theorem dX1_scheduleAll_0 : decode cX1_scheduleAll 0 = .ok (.aload_n 0, 1) := by decide +kernel
theorem dX1_scheduleAll_1 : decode cX1_scheduleAll 1 = .ok (.getfield 24, 3) := by decide +kernel
theorem dX1_scheduleAll_4 : decode cX1_scheduleAll 4 = .ok (.astore_n 1, 1) := by decide +kernel
theorem dX1_scheduleAll_5 : decode cX1_scheduleAll 5 = .ok (.aload_n 1, 1) := by decide +kernel
theorem dX1_scheduleAll_6 : decode cX1_scheduleAll 6 = .ok (.arraylength, 1) := by decide +kernel
theorem dX1_scheduleAll_7 : decode cX1_scheduleAll 7 = .ok (.istore_n 2, 1) := by decide +kernel
theorem dX1_scheduleAll_8 : decode cX1_scheduleAll 8 = .ok (.iconst 0, 1) := by decide +kernel
theorem dX1_scheduleAll_9 : decode cX1_scheduleAll 9 = .ok (.istore_n 3, 1) := by decide +kernel
theorem dX1_scheduleAll_10 : decode cX1_scheduleAll 10 = .ok (.iload_n 3, 1) := by decide +kernel
theorem dX1_scheduleAll_11 : decode cX1_scheduleAll 11 = .ok (.iload_n 2, 1) := by decide +kernel
theorem dX1_scheduleAll_12 : decode cX1_scheduleAll 12 = .ok (.if_icmp .ge 25, 3) := by decide +kernel
theorem dX1_scheduleAll_15 : decode cX1_scheduleAll 15 = .ok (.aload_n 1, 1) := by decide +kernel
theorem dX1_scheduleAll_16 : decode cX1_scheduleAll 16 = .ok (.iload_n 3, 1) := by decide +kernel
theorem dX1_scheduleAll_17 : decode cX1_scheduleAll 17 = .ok (.aaload, 1) := by decide +kernel
theorem dX1_scheduleAll_18 : decode cX1_scheduleAll 18 = .ok (.astore 4, 2) := by decide +kernel
theorem dX1_scheduleAll_20 : decode cX1_scheduleAll 20 = .ok (.aload 4, 2) := by decide +kernel
theorem dX1_scheduleAll_22 : decode cX1_scheduleAll 22 = .ok (.ifnull 9, 3) := by decide +kernel
theorem dX1_scheduleAll_25 : decode cX1_scheduleAll 25 = .ok (.aload_n 0, 1) := by decide +kernel
theorem dX1_scheduleAll_26 : decode cX1_scheduleAll 26 = .ok (.aload 4, 2) := by decide +kernel
theorem dX1_scheduleAll_28 : decode cX1_scheduleAll 28 = .ok (.invokevirtual 96, 3) := by decide +kernel
theorem dX1_scheduleAll_31 : decode cX1_scheduleAll 31 = .ok (.iinc 3 1, 3) := by decide +kernel
theorem dX1_scheduleAll_34 : decode cX1_scheduleAll 34 = .ok (.goto (-24), 3) := by decide +kernel
theorem dX1_scheduleAll_37 : decode cX1_scheduleAll 37 = .ok (.return_, 1) := by decide +kernel
set_option maxRecDepth 20000 in
theorem ggX1_needIn_X0_isBusy : GoodIn wsX1_needIn wsX0_isBusy := goodIn_r _ [5, 6, 7, 17, 18, 19, 20, 21, 22, 23, 24, 25, 26, 27, 28, 29] (by decide +kernel) (by decide +kernel)
set_option maxRecDepth 20000 in
theorem gX1_needIn_X0_isBusy_n184 : GoodIn wsX1_needIn (wsX0_isBusy) := ggX1_needIn_X0_isBusy
theorem dX1_needIn_0 : decode cX1_needIn 0 = .ok (.iconst 0, 1) := by decide +kernel
theorem dX1_needIn_1 : decode cX1_needIn 1 = .ok (.istore_n 2, 1) := by decide +kernel
theorem dX1_needIn_2 : decode cX1_needIn 2 = .ok (.aload_n 0, 1) := by decide +kernel
theorem dX1_needIn_3 : decode cX1_needIn 3 = .ok (.getfield 24, 3) := by decide +kernel
theorem dX1_needIn_6 : decode cX1_needIn 6 = .ok (.astore_n 3, 1) := by decide +kernel
theorem dX1_needIn_7 : decode cX1_needIn 7 = .ok (.aload_n 3, 1) := by decide +kernel
theorem dX1_needIn_8 : decode cX1_needIn 8 = .ok (.arraylength, 1) := by decide +kernel
theorem dX1_needIn_9 : decode cX1_needIn 9 = .ok (.istore 4, 2) := by decide +kernel
theorem dX1_needIn_11 : decode cX1_needIn 11 = .ok (.iconst 0, 1) := by decide +kernel
theorem dX1_needIn_12 : decode cX1_needIn 12 = .ok (.istore 5, 2) := by decide +kernel
theorem dX1_needIn_14 : decode cX1_needIn 14 = .ok (.iload 5, 2) := by decide +kernel
theorem dX1_needIn_16 : decode cX1_needIn 16 = .ok (.iload 4, 2) := by decide +kernel
theorem dX1_needIn_18 : decode cX1_needIn 18 = .ok (.if_icmp .ge 37, 3) := by decide +kernel
theorem dX1_needIn_21 : decode cX1_needIn 21 = .ok (.aload_n 3, 1) := by decide +kernel
theorem dX1_needIn_22 : decode cX1_needIn 22 = .ok (.iload 5, 2) := by decide +kernel
theorem dX1_needIn_24 : decode cX1_needIn 24 = .ok (.aaload, 1) := by decide +kernel
theorem dX1_needIn_25 : decode cX1_needIn 25 = .ok (.astore 6, 2) := by decide +kernel
theorem dX1_needIn_27 : decode cX1_needIn 27 = .ok (.aload 6, 2) := by decide +kernel
theorem dX1_needIn_29 : decode cX1_needIn 29 = .ok (.ifnull 20, 3) := by decide +kernel
theorem dX1_needIn_32 : decode cX1_needIn 32 = .ok (.aload 6, 2) := by decide +kernel
theorem dX1_needIn_34 : decode cX1_needIn 34 = .ok (.iload_n 1, 1) := by decide +kernel
theorem dX1_needIn_35 : decode cX1_needIn 35 = .ok (.invokevirtual 184, 3) := by decide +kernel
theorem dX1_needIn_38 : decode cX1_needIn 38 = .ok (.ifCond .eq 11, 3) := by decide +kernel
theorem dX1_needIn_41 : decode cX1_needIn 41 = .ok (.iload_n 2, 1) := by decide +kernel
theorem dX1_needIn_42 : decode cX1_needIn 42 = .ok (.aload 6, 2) := by decide +kernel
theorem dX1_needIn_44 : decode cX1_needIn 44 = .ok (.getfield 107, 3) := by decide +kernel
theorem dX1_needIn_47 : decode cX1_needIn 47 = .ok (.iadd, 1) := by decide +kernel
theorem dX1_needIn_48 : decode cX1_needIn 48 = .ok (.istore_n 2, 1) := by decide +kernel
theorem dX1_needIn_49 : decode cX1_needIn 49 = .ok (.iinc 5 1, 3) := by decide +kernel
theorem dX1_needIn_52 : decode cX1_needIn 52 = .ok (.goto (-38), 3) := by decide +kernel
theorem dX1_needIn_55 : decode cX1_needIn 55 = .ok (.iload_n 2, 1) := by decide +kernel
theorem dX1_needIn_56 : decode cX1_needIn 56 = .ok (.ireturn, 1) := by decide +kernel
set_option maxRecDepth 20000 in
theorem ggX1_sumNeeds_X1_needIn : GoodIn wsX1_sumNeeds wsX1_needIn := goodIn_r _ [6, 7, 8, 9, 10, 11, 12, 13, 14, 15, 16, 17, 18, 19, 20, 21, 22, 23, 24, 25, 26, 27, 28, 29, 30, 31, 32, 33, 34, 35] (by decide +kernel) (by decide +kernel)
set_option maxRecDepth 20000 in
theorem gX1_sumNeeds_X1_needIn : GoodIn wsX1_sumNeeds (wsV RX1 138 RX1 yX1_needIn wsX1_needIn) := goodIn_app (goodIn_of _ (by decide +kernel)) ggX1_sumNeeds_X1_needIn
theorem dX1_sumNeeds_0 : decode cX1_sumNeeds 0 = .ok (.iconst 0, 1) := by decide +kernel
theorem dX1_sumNeeds_1 : decode cX1_sumNeeds 1 = .ok (.istore_n 1, 1) := by decide +kernel
theorem dX1_sumNeeds_2 : decode cX1_sumNeeds 2 = .ok (.iload_n 1, 1) := by decide +kernel
theorem dX1_sumNeeds_3 : decode cX1_sumNeeds 3 = .ok (.sipush 1000, 3) := by decide +kernel
theorem dX1_sumNeeds_6 : decode cX1_sumNeeds 6 = .ok (.if_icmp .ge 20, 3) := by decide +kernel
theorem dX1_sumNeeds_9 : decode cX1_sumNeeds 9 = .ok (.aload_n 0, 1) := by decide +kernel
theorem dX1_sumNeeds_10 : decode cX1_sumNeeds 10 = .ok (.getfield 16, 3) := by decide +kernel
theorem dX1_sumNeeds_13 : decode cX1_sumNeeds 13 = .ok (.iload_n 1, 1) := by decide +kernel
theorem dX1_sumNeeds_14 : decode cX1_sumNeeds 14 = .ok (.aload_n 0, 1) := by decide +kernel
theorem dX1_sumNeeds_15 : decode cX1_sumNeeds 15 = .ok (.iload_n 1, 1) := by decide +kernel
theorem dX1_sumNeeds_16 : decode cX1_sumNeeds 16 = .ok (.invokevirtual 138, 3) := by decide +kernel
theorem dX1_sumNeeds_19 : decode cX1_sumNeeds 19 = .ok (.iastore, 1) := by decide +kernel
theorem dX1_sumNeeds_20 : decode cX1_sumNeeds 20 = .ok (.iinc 1 1, 3) := by decide +kernel
theorem dX1_sumNeeds_23 : decode cX1_sumNeeds 23 = .ok (.goto (-21), 3) := by decide +kernel
theorem dX1_sumNeeds_26 : decode cX1_sumNeeds 26 = .ok (.return_, 1) := by decide +kernel
set_option maxRecDepth 20000 in
theorem ggX1_giveOutPanels_X1_nextToServe : GoodIn wsX1_giveOutPanels wsX1_nextToServe := goodIn_r _ [6, 1, 22, 23, 24, 25, 26, 27, 28, 29, 30, 31, 32, 33, 34, 35, 36, 37, 38, 39, 40, 41, 42, 43] (by decide +kernel) (by decide +kernel)
set_option maxRecDepth 20000 in
theorem gX1_giveOutPanels_X1_nextToServe : GoodIn wsX1_giveOutPanels (wsV RX1 206 RX1 yX1_nextToServe wsX1_nextToServe) := goodIn_app (goodIn_of _ (by decide +kernel)) ggX1_giveOutPanels_X1_nextToServe
set_option maxRecDepth 20000 in
theorem ggX1_giveOutPanels_X1_panelsBusyIn : GoodIn wsX1_giveOutPanels wsX1_panelsBusyIn := goodIn_r _ [10, 1, 11, 12, 13, 14, 15, 16, 22, 23, 24, 25, 26, 27, 28, 29, 30, 31, 32, 33, 34, 35, 36, 37, 38, 39, 40, 41, 42, 43] (by decide +kernel) (by decide +kernel)
set_option maxRecDepth 20000 in
theorem gX1_giveOutPanels_X1_panelsBusyIn : GoodIn wsX1_giveOutPanels (wsV RX1 210 RX1 yX1_panelsBusyIn wsX1_panelsBusyIn) := goodIn_app (goodIn_of _ (by decide +kernel)) ggX1_giveOutPanels_X1_panelsBusyIn
set_option maxRecDepth 20000 in
theorem ggX1_giveOutPanels_X1_lowestPanels : GoodIn wsX1_giveOutPanels wsX1_lowestPanels := goodIn_r _ [20, 21, 22, 23, 24, 25, 26, 27, 28, 29, 30] (by decide +kernel) (by decide +kernel)
set_option maxRecDepth 20000 in
theorem gX1_giveOutPanels_X1_lowestPanels : GoodIn wsX1_giveOutPanels (wsV RX1 214 RX1 yX1_lowestPanels wsX1_lowestPanels) := goodIn_app (goodIn_of _ (by decide +kernel)) ggX1_giveOutPanels_X1_lowestPanels
theorem dX1_giveOutPanels_0 : decode cX1_giveOutPanels 0 = .ok (.aload_n 0, 1) := by decide +kernel
theorem dX1_giveOutPanels_1 : decode cX1_giveOutPanels 1 = .ok (.getfield 24, 3) := by decide +kernel
theorem dX1_giveOutPanels_4 : decode cX1_giveOutPanels 4 = .ok (.astore_n 1, 1) := by decide +kernel
theorem dX1_giveOutPanels_5 : decode cX1_giveOutPanels 5 = .ok (.aload_n 1, 1) := by decide +kernel
theorem dX1_giveOutPanels_6 : decode cX1_giveOutPanels 6 = .ok (.arraylength, 1) := by decide +kernel
theorem dX1_giveOutPanels_7 : decode cX1_giveOutPanels 7 = .ok (.istore_n 2, 1) := by decide +kernel
theorem dX1_giveOutPanels_8 : decode cX1_giveOutPanels 8 = .ok (.iconst 0, 1) := by decide +kernel
theorem dX1_giveOutPanels_9 : decode cX1_giveOutPanels 9 = .ok (.istore_n 3, 1) := by decide +kernel
theorem dX1_giveOutPanels_10 : decode cX1_giveOutPanels 10 = .ok (.iload_n 3, 1) := by decide +kernel
theorem dX1_giveOutPanels_11 : decode cX1_giveOutPanels 11 = .ok (.iload_n 2, 1) := by decide +kernel
theorem dX1_giveOutPanels_12 : decode cX1_giveOutPanels 12 = .ok (.if_icmp .ge 31, 3) := by decide +kernel
theorem dX1_giveOutPanels_15 : decode cX1_giveOutPanels 15 = .ok (.aload_n 1, 1) := by decide +kernel
theorem dX1_giveOutPanels_16 : decode cX1_giveOutPanels 16 = .ok (.iload_n 3, 1) := by decide +kernel
theorem dX1_giveOutPanels_17 : decode cX1_giveOutPanels 17 = .ok (.aaload, 1) := by decide +kernel
theorem dX1_giveOutPanels_18 : decode cX1_giveOutPanels 18 = .ok (.astore 4, 2) := by decide +kernel
theorem dX1_giveOutPanels_20 : decode cX1_giveOutPanels 20 = .ok (.aload 4, 2) := by decide +kernel
theorem dX1_giveOutPanels_22 : decode cX1_giveOutPanels 22 = .ok (.ifnull 15, 3) := by decide +kernel
theorem dX1_giveOutPanels_25 : decode cX1_giveOutPanels 25 = .ok (.aload 4, 2) := by decide +kernel
theorem dX1_giveOutPanels_27 : decode cX1_giveOutPanels 27 = .ok (.lconst 0, 1) := by decide +kernel
theorem dX1_giveOutPanels_28 : decode cX1_giveOutPanels 28 = .ok (.putfield 171, 3) := by decide +kernel
theorem dX1_giveOutPanels_31 : decode cX1_giveOutPanels 31 = .ok (.aload 4, 2) := by decide +kernel
theorem dX1_giveOutPanels_33 : decode cX1_giveOutPanels 33 = .ok (.iconst 0, 1) := by decide +kernel
theorem dX1_giveOutPanels_34 : decode cX1_giveOutPanels 34 = .ok (.putfield 202, 3) := by decide +kernel
theorem dX1_giveOutPanels_37 : decode cX1_giveOutPanels 37 = .ok (.iinc 3 1, 3) := by decide +kernel
theorem dX1_giveOutPanels_40 : decode cX1_giveOutPanels 40 = .ok (.goto (-30), 3) := by decide +kernel
theorem dX1_giveOutPanels_43 : decode cX1_giveOutPanels 43 = .ok (.iconst 0, 1) := by decide +kernel
theorem dX1_giveOutPanels_44 : decode cX1_giveOutPanels 44 = .ok (.istore_n 1, 1) := by decide +kernel
theorem dX1_giveOutPanels_45 : decode cX1_giveOutPanels 45 = .ok (.iload_n 1, 1) := by decide +kernel
theorem dX1_giveOutPanels_46 : decode cX1_giveOutPanels 46 = .ok (.bipush 10, 2) := by decide +kernel
theorem dX1_giveOutPanels_48 : decode cX1_giveOutPanels 48 = .ok (.if_icmp .ge 44, 3) := by decide +kernel
theorem dX1_giveOutPanels_51 : decode cX1_giveOutPanels 51 = .ok (.aload_n 0, 1) := by decide +kernel
theorem dX1_giveOutPanels_52 : decode cX1_giveOutPanels 52 = .ok (.invokevirtual 206, 3) := by decide +kernel
theorem dX1_giveOutPanels_55 : decode cX1_giveOutPanels 55 = .ok (.astore_n 2, 1) := by decide +kernel
theorem dX1_giveOutPanels_56 : decode cX1_giveOutPanels 56 = .ok (.aload_n 2, 1) := by decide +kernel
theorem dX1_giveOutPanels_57 : decode cX1_giveOutPanels 57 = .ok (.ifnonnull 4, 3) := by decide +kernel
theorem dX1_giveOutPanels_60 : decode cX1_giveOutPanels 60 = .ok (.return_, 1) := by decide +kernel
theorem dX1_giveOutPanels_61 : decode cX1_giveOutPanels 61 = .ok (.aload_n 2, 1) := by decide +kernel
theorem dX1_giveOutPanels_62 : decode cX1_giveOutPanels 62 = .ok (.aload_n 0, 1) := by decide +kernel
theorem dX1_giveOutPanels_63 : decode cX1_giveOutPanels 63 = .ok (.aload_n 0, 1) := by decide +kernel
theorem dX1_giveOutPanels_64 : decode cX1_giveOutPanels 64 = .ok (.aload_n 2, 1) := by decide +kernel
theorem dX1_giveOutPanels_65 : decode cX1_giveOutPanels 65 = .ok (.getfield 147, 3) := by decide +kernel
theorem dX1_giveOutPanels_68 : decode cX1_giveOutPanels 68 = .ok (.invokevirtual 210, 3) := by decide +kernel
theorem dX1_giveOutPanels_71 : decode cX1_giveOutPanels 71 = .ok (.aload_n 2, 1) := by decide +kernel
theorem dX1_giveOutPanels_72 : decode cX1_giveOutPanels 72 = .ok (.getfield 107, 3) := by decide +kernel
theorem dX1_giveOutPanels_75 : decode cX1_giveOutPanels 75 = .ok (.invokevirtual 214, 3) := by decide +kernel
theorem dX1_giveOutPanels_78 : decode cX1_giveOutPanels 78 = .ok (.putfield 171, 3) := by decide +kernel
theorem dX1_giveOutPanels_81 : decode cX1_giveOutPanels 81 = .ok (.aload_n 2, 1) := by decide +kernel
theorem dX1_giveOutPanels_82 : decode cX1_giveOutPanels 82 = .ok (.iconst 1, 1) := by decide +kernel
theorem dX1_giveOutPanels_83 : decode cX1_giveOutPanels 83 = .ok (.putfield 202, 3) := by decide +kernel
theorem dX1_giveOutPanels_86 : decode cX1_giveOutPanels 86 = .ok (.iinc 1 1, 3) := by decide +kernel
theorem dX1_giveOutPanels_89 : decode cX1_giveOutPanels 89 = .ok (.goto (-44), 3) := by decide +kernel
theorem dX1_giveOutPanels_92 : decode cX1_giveOutPanels 92 = .ok (.return_, 1) := by decide +kernel
theorem dX1_nextToServe_0 : decode cX1_nextToServe 0 = .ok (.aconst_null, 1) := by decide +kernel
theorem dX1_nextToServe_1 : decode cX1_nextToServe 1 = .ok (.astore_n 1, 1) := by decide +kernel
theorem dX1_nextToServe_2 : decode cX1_nextToServe 2 = .ok (.aload_n 0, 1) := by decide +kernel
theorem dX1_nextToServe_3 : decode cX1_nextToServe 3 = .ok (.getfield 24, 3) := by decide +kernel
theorem dX1_nextToServe_6 : decode cX1_nextToServe 6 = .ok (.astore_n 2, 1) := by decide +kernel
theorem dX1_nextToServe_7 : decode cX1_nextToServe 7 = .ok (.aload_n 2, 1) := by decide +kernel
theorem dX1_nextToServe_8 : decode cX1_nextToServe 8 = .ok (.arraylength, 1) := by decide +kernel
theorem dX1_nextToServe_9 : decode cX1_nextToServe 9 = .ok (.istore_n 3, 1) := by decide +kernel
theorem dX1_nextToServe_10 : decode cX1_nextToServe 10 = .ok (.iconst 0, 1) := by decide +kernel
theorem dX1_nextToServe_11 : decode cX1_nextToServe 11 = .ok (.istore 4, 2) := by decide +kernel
theorem dX1_nextToServe_13 : decode cX1_nextToServe 13 = .ok (.iload 4, 2) := by decide +kernel
theorem dX1_nextToServe_15 : decode cX1_nextToServe 15 = .ok (.iload_n 3, 1) := by decide +kernel
theorem dX1_nextToServe_16 : decode cX1_nextToServe 16 = .ok (.if_icmp .ge 47, 3) := by decide +kernel
theorem dX1_nextToServe_19 : decode cX1_nextToServe 19 = .ok (.aload_n 2, 1) := by decide +kernel
theorem dX1_nextToServe_20 : decode cX1_nextToServe 20 = .ok (.iload 4, 2) := by decide +kernel
theorem dX1_nextToServe_22 : decode cX1_nextToServe 22 = .ok (.aaload, 1) := by decide +kernel
theorem dX1_nextToServe_23 : decode cX1_nextToServe 23 = .ok (.astore 5, 2) := by decide +kernel
theorem dX1_nextToServe_25 : decode cX1_nextToServe 25 = .ok (.aload 5, 2) := by decide +kernel
theorem dX1_nextToServe_27 : decode cX1_nextToServe 27 = .ok (.ifnull 30, 3) := by decide +kernel
theorem dX1_nextToServe_30 : decode cX1_nextToServe 30 = .ok (.aload 5, 2) := by decide +kernel
theorem dX1_nextToServe_32 : decode cX1_nextToServe 32 = .ok (.getfield 202, 3) := by decide +kernel
theorem dX1_nextToServe_35 : decode cX1_nextToServe 35 = .ok (.ifCond .ne 22, 3) := by decide +kernel
theorem dX1_nextToServe_38 : decode cX1_nextToServe 38 = .ok (.aload_n 1, 1) := by decide +kernel
theorem dX1_nextToServe_39 : decode cX1_nextToServe 39 = .ok (.ifnull 15, 3) := by decide +kernel
theorem dX1_nextToServe_42 : decode cX1_nextToServe 42 = .ok (.aload 5, 2) := by decide +kernel
theorem dX1_nextToServe_44 : decode cX1_nextToServe 44 = .ok (.getfield 147, 3) := by decide +kernel
theorem dX1_nextToServe_47 : decode cX1_nextToServe 47 = .ok (.aload_n 1, 1) := by decide +kernel
theorem dX1_nextToServe_48 : decode cX1_nextToServe 48 = .ok (.getfield 147, 3) := by decide +kernel
theorem dX1_nextToServe_51 : decode cX1_nextToServe 51 = .ok (.if_icmp .ge 6, 3) := by decide +kernel
theorem dX1_nextToServe_54 : decode cX1_nextToServe 54 = .ok (.aload 5, 2) := by decide +kernel
theorem dX1_nextToServe_56 : decode cX1_nextToServe 56 = .ok (.astore_n 1, 1) := by decide +kernel
theorem dX1_nextToServe_57 : decode cX1_nextToServe 57 = .ok (.iinc 4 1, 3) := by decide +kernel
theorem dX1_nextToServe_60 : decode cX1_nextToServe 60 = .ok (.goto (-47), 3) := by decide +kernel
theorem dX1_nextToServe_63 : decode cX1_nextToServe 63 = .ok (.aload_n 1, 1) := by decide +kernel
theorem dX1_nextToServe_64 : decode cX1_nextToServe 64 = .ok (.areturn, 1) := by decide +kernel
set_option maxRecDepth 20000 in
theorem ggX1_panelsBusyIn_X0_isBusy : GoodIn wsX1_panelsBusyIn wsX0_isBusy := goodIn_r _ [5, 6, 7, 17, 18, 19, 20, 21, 22, 23, 24, 25, 26, 27, 28, 29] (by decide +kernel) (by decide +kernel)
set_option maxRecDepth 20000 in
theorem gX1_panelsBusyIn_X0_isBusy_n184 : GoodIn wsX1_panelsBusyIn (wsX0_isBusy) := ggX1_panelsBusyIn_X0_isBusy
theorem dX1_panelsBusyIn_0 : decode cX1_panelsBusyIn 0 = .ok (.lconst 0, 1) := by decide +kernel
theorem dX1_panelsBusyIn_1 : decode cX1_panelsBusyIn 1 = .ok (.lstore_n 2, 1) := by decide +kernel
theorem dX1_panelsBusyIn_2 : decode cX1_panelsBusyIn 2 = .ok (.aload_n 0, 1) := by decide +kernel
theorem dX1_panelsBusyIn_3 : decode cX1_panelsBusyIn 3 = .ok (.getfield 24, 3) := by decide +kernel
theorem dX1_panelsBusyIn_6 : decode cX1_panelsBusyIn 6 = .ok (.astore 4, 2) := by decide +kernel
theorem dX1_panelsBusyIn_8 : decode cX1_panelsBusyIn 8 = .ok (.aload 4, 2) := by decide +kernel
theorem dX1_panelsBusyIn_10 : decode cX1_panelsBusyIn 10 = .ok (.arraylength, 1) := by decide +kernel
theorem dX1_panelsBusyIn_11 : decode cX1_panelsBusyIn 11 = .ok (.istore 5, 2) := by decide +kernel
theorem dX1_panelsBusyIn_13 : decode cX1_panelsBusyIn 13 = .ok (.iconst 0, 1) := by decide +kernel
theorem dX1_panelsBusyIn_14 : decode cX1_panelsBusyIn 14 = .ok (.istore 6, 2) := by decide +kernel
theorem dX1_panelsBusyIn_16 : decode cX1_panelsBusyIn 16 = .ok (.iload 6, 2) := by decide +kernel
theorem dX1_panelsBusyIn_18 : decode cX1_panelsBusyIn 18 = .ok (.iload 5, 2) := by decide +kernel
theorem dX1_panelsBusyIn_20 : decode cX1_panelsBusyIn 20 = .ok (.if_icmp .ge 38, 3) := by decide +kernel
theorem dX1_panelsBusyIn_23 : decode cX1_panelsBusyIn 23 = .ok (.aload 4, 2) := by decide +kernel
theorem dX1_panelsBusyIn_25 : decode cX1_panelsBusyIn 25 = .ok (.iload 6, 2) := by decide +kernel
theorem dX1_panelsBusyIn_27 : decode cX1_panelsBusyIn 27 = .ok (.aaload, 1) := by decide +kernel
theorem dX1_panelsBusyIn_28 : decode cX1_panelsBusyIn 28 = .ok (.astore 7, 2) := by decide +kernel
theorem dX1_panelsBusyIn_30 : decode cX1_panelsBusyIn 30 = .ok (.aload 7, 2) := by decide +kernel
theorem dX1_panelsBusyIn_32 : decode cX1_panelsBusyIn 32 = .ok (.ifnull 20, 3) := by decide +kernel
theorem dX1_panelsBusyIn_35 : decode cX1_panelsBusyIn 35 = .ok (.aload 7, 2) := by decide +kernel
theorem dX1_panelsBusyIn_37 : decode cX1_panelsBusyIn 37 = .ok (.iload_n 1, 1) := by decide +kernel
theorem dX1_panelsBusyIn_38 : decode cX1_panelsBusyIn 38 = .ok (.invokevirtual 184, 3) := by decide +kernel
theorem dX1_panelsBusyIn_41 : decode cX1_panelsBusyIn 41 = .ok (.ifCond .eq 11, 3) := by decide +kernel
theorem dX1_panelsBusyIn_44 : decode cX1_panelsBusyIn 44 = .ok (.lload_n 2, 1) := by decide +kernel
theorem dX1_panelsBusyIn_45 : decode cX1_panelsBusyIn 45 = .ok (.aload 7, 2) := by decide +kernel
theorem dX1_panelsBusyIn_47 : decode cX1_panelsBusyIn 47 = .ok (.getfield 171, 3) := by decide +kernel
theorem dX1_panelsBusyIn_50 : decode cX1_panelsBusyIn 50 = .ok (.lor, 1) := by decide +kernel
theorem dX1_panelsBusyIn_51 : decode cX1_panelsBusyIn 51 = .ok (.lstore_n 2, 1) := by decide +kernel
theorem dX1_panelsBusyIn_52 : decode cX1_panelsBusyIn 52 = .ok (.iinc 6 1, 3) := by decide +kernel
theorem dX1_panelsBusyIn_55 : decode cX1_panelsBusyIn 55 = .ok (.goto (-39), 3) := by decide +kernel
theorem dX1_panelsBusyIn_58 : decode cX1_panelsBusyIn 58 = .ok (.lload_n 2, 1) := by decide +kernel
theorem dX1_panelsBusyIn_59 : decode cX1_panelsBusyIn 59 = .ok (.lreturn, 1) := by decide +kernel
theorem dX1_lowestPanels_0 : decode cX1_lowestPanels 0 = .ok (.lconst 0, 1) := by decide +kernel
theorem dX1_lowestPanels_1 : decode cX1_lowestPanels 1 = .ok (.lstore 4, 2) := by decide +kernel
theorem dX1_lowestPanels_3 : decode cX1_lowestPanels 3 = .ok (.iconst 0, 1) := by decide +kernel
theorem dX1_lowestPanels_4 : decode cX1_lowestPanels 4 = .ok (.istore 6, 2) := by decide +kernel
theorem dX1_lowestPanels_6 : decode cX1_lowestPanels 6 = .ok (.iconst 0, 1) := by decide +kernel
theorem dX1_lowestPanels_7 : decode cX1_lowestPanels 7 = .ok (.istore 7, 2) := by decide +kernel
theorem dX1_lowestPanels_9 : decode cX1_lowestPanels 9 = .ok (.iload 7, 2) := by decide +kernel
theorem dX1_lowestPanels_11 : decode cX1_lowestPanels 11 = .ok (.aload_n 0, 1) := by decide +kernel
theorem dX1_lowestPanels_12 : decode cX1_lowestPanels 12 = .ok (.getfield 28, 3) := by decide +kernel
theorem dX1_lowestPanels_15 : decode cX1_lowestPanels 15 = .ok (.if_icmp .ge 40, 3) := by decide +kernel
theorem dX1_lowestPanels_18 : decode cX1_lowestPanels 18 = .ok (.iload 6, 2) := by decide +kernel
theorem dX1_lowestPanels_20 : decode cX1_lowestPanels 20 = .ok (.iload_n 3, 1) := by decide +kernel
theorem dX1_lowestPanels_21 : decode cX1_lowestPanels 21 = .ok (.if_icmp .ge 34, 3) := by decide +kernel
theorem dX1_lowestPanels_24 : decode cX1_lowestPanels 24 = .ok (.lconst 1, 1) := by decide +kernel
theorem dX1_lowestPanels_25 : decode cX1_lowestPanels 25 = .ok (.iload 7, 2) := by decide +kernel
theorem dX1_lowestPanels_27 : decode cX1_lowestPanels 27 = .ok (.lshl, 1) := by decide +kernel
theorem dX1_lowestPanels_28 : decode cX1_lowestPanels 28 = .ok (.lstore 8, 2) := by decide +kernel
theorem dX1_lowestPanels_30 : decode cX1_lowestPanels 30 = .ok (.lload_n 1, 1) := by decide +kernel
theorem dX1_lowestPanels_31 : decode cX1_lowestPanels 31 = .ok (.lload 8, 2) := by decide +kernel
theorem dX1_lowestPanels_33 : decode cX1_lowestPanels 33 = .ok (.land, 1) := by decide +kernel
theorem dX1_lowestPanels_34 : decode cX1_lowestPanels 34 = .ok (.lconst 0, 1) := by decide +kernel
theorem dX1_lowestPanels_35 : decode cX1_lowestPanels 35 = .ok (.lcmp, 1) := by decide +kernel
theorem dX1_lowestPanels_36 : decode cX1_lowestPanels 36 = .ok (.ifCond .ne 13, 3) := by decide +kernel
theorem dX1_lowestPanels_39 : decode cX1_lowestPanels 39 = .ok (.lload 4, 2) := by decide +kernel
theorem dX1_lowestPanels_41 : decode cX1_lowestPanels 41 = .ok (.lload 8, 2) := by decide +kernel
theorem dX1_lowestPanels_43 : decode cX1_lowestPanels 43 = .ok (.lor, 1) := by decide +kernel
theorem dX1_lowestPanels_44 : decode cX1_lowestPanels 44 = .ok (.lstore 4, 2) := by decide +kernel
theorem dX1_lowestPanels_46 : decode cX1_lowestPanels 46 = .ok (.iinc 6 1, 3) := by decide +kernel
theorem dX1_lowestPanels_49 : decode cX1_lowestPanels 49 = .ok (.iinc 7 1, 3) := by decide +kernel
theorem dX1_lowestPanels_52 : decode cX1_lowestPanels 52 = .ok (.goto (-43), 3) := by decide +kernel
theorem dX1_lowestPanels_55 : decode cX1_lowestPanels 55 = .ok (.lload 4, 2) := by decide +kernel
theorem dX1_lowestPanels_57 : decode cX1_lowestPanels 57 = .ok (.lreturn, 1) := by decide +kernel
theorem dJ13_bitCount_95d88_0 : decode cJ13_bitCount_95d88 0 = .ok (.lload_n 0, 1) := by decide +kernel
theorem dJ13_bitCount_95d88_1 : decode cJ13_bitCount_95d88 1 = .ok (.lload_n 0, 1) := by decide +kernel
theorem dJ13_bitCount_95d88_2 : decode cJ13_bitCount_95d88 2 = .ok (.iconst 1, 1) := by decide +kernel
theorem dJ13_bitCount_95d88_3 : decode cJ13_bitCount_95d88 3 = .ok (.lushr, 1) := by decide +kernel
theorem dJ13_bitCount_95d88_4 : decode cJ13_bitCount_95d88 4 = .ok (.ldc2_w 314, 3) := by decide +kernel
theorem dJ13_bitCount_95d88_7 : decode cJ13_bitCount_95d88 7 = .ok (.land, 1) := by decide +kernel
theorem dJ13_bitCount_95d88_8 : decode cJ13_bitCount_95d88 8 = .ok (.lsub, 1) := by decide +kernel
theorem dJ13_bitCount_95d88_9 : decode cJ13_bitCount_95d88 9 = .ok (.lstore_n 0, 1) := by decide +kernel
theorem dJ13_bitCount_95d88_10 : decode cJ13_bitCount_95d88 10 = .ok (.lload_n 0, 1) := by decide +kernel
theorem dJ13_bitCount_95d88_11 : decode cJ13_bitCount_95d88 11 = .ok (.ldc2_w 316, 3) := by decide +kernel
theorem dJ13_bitCount_95d88_14 : decode cJ13_bitCount_95d88 14 = .ok (.land, 1) := by decide +kernel
theorem dJ13_bitCount_95d88_15 : decode cJ13_bitCount_95d88 15 = .ok (.lload_n 0, 1) := by decide +kernel
theorem dJ13_bitCount_95d88_16 : decode cJ13_bitCount_95d88 16 = .ok (.iconst 2, 1) := by decide +kernel
theorem dJ13_bitCount_95d88_17 : decode cJ13_bitCount_95d88 17 = .ok (.lushr, 1) := by decide +kernel
theorem dJ13_bitCount_95d88_18 : decode cJ13_bitCount_95d88 18 = .ok (.ldc2_w 316, 3) := by decide +kernel
theorem dJ13_bitCount_95d88_21 : decode cJ13_bitCount_95d88 21 = .ok (.land, 1) := by decide +kernel
theorem dJ13_bitCount_95d88_22 : decode cJ13_bitCount_95d88 22 = .ok (.ladd, 1) := by decide +kernel
theorem dJ13_bitCount_95d88_23 : decode cJ13_bitCount_95d88 23 = .ok (.lstore_n 0, 1) := by decide +kernel
theorem dJ13_bitCount_95d88_24 : decode cJ13_bitCount_95d88 24 = .ok (.lload_n 0, 1) := by decide +kernel
theorem dJ13_bitCount_95d88_25 : decode cJ13_bitCount_95d88 25 = .ok (.lload_n 0, 1) := by decide +kernel
theorem dJ13_bitCount_95d88_26 : decode cJ13_bitCount_95d88 26 = .ok (.iconst 4, 1) := by decide +kernel
theorem dJ13_bitCount_95d88_27 : decode cJ13_bitCount_95d88 27 = .ok (.lushr, 1) := by decide +kernel
theorem dJ13_bitCount_95d88_28 : decode cJ13_bitCount_95d88 28 = .ok (.ladd, 1) := by decide +kernel
theorem dJ13_bitCount_95d88_29 : decode cJ13_bitCount_95d88 29 = .ok (.ldc2_w 318, 3) := by decide +kernel
theorem dJ13_bitCount_95d88_32 : decode cJ13_bitCount_95d88 32 = .ok (.land, 1) := by decide +kernel
theorem dJ13_bitCount_95d88_33 : decode cJ13_bitCount_95d88 33 = .ok (.lstore_n 0, 1) := by decide +kernel
theorem dJ13_bitCount_95d88_34 : decode cJ13_bitCount_95d88 34 = .ok (.lload_n 0, 1) := by decide +kernel
theorem dJ13_bitCount_95d88_35 : decode cJ13_bitCount_95d88 35 = .ok (.lload_n 0, 1) := by decide +kernel
theorem dJ13_bitCount_95d88_36 : decode cJ13_bitCount_95d88 36 = .ok (.bipush 8, 2) := by decide +kernel
theorem dJ13_bitCount_95d88_38 : decode cJ13_bitCount_95d88 38 = .ok (.lushr, 1) := by decide +kernel
theorem dJ13_bitCount_95d88_39 : decode cJ13_bitCount_95d88 39 = .ok (.ladd, 1) := by decide +kernel
theorem dJ13_bitCount_95d88_40 : decode cJ13_bitCount_95d88 40 = .ok (.lstore_n 0, 1) := by decide +kernel
theorem dJ13_bitCount_95d88_41 : decode cJ13_bitCount_95d88 41 = .ok (.lload_n 0, 1) := by decide +kernel
theorem dJ13_bitCount_95d88_42 : decode cJ13_bitCount_95d88 42 = .ok (.lload_n 0, 1) := by decide +kernel
theorem dJ13_bitCount_95d88_43 : decode cJ13_bitCount_95d88 43 = .ok (.bipush 16, 2) := by decide +kernel
theorem dJ13_bitCount_95d88_45 : decode cJ13_bitCount_95d88 45 = .ok (.lushr, 1) := by decide +kernel
theorem dJ13_bitCount_95d88_46 : decode cJ13_bitCount_95d88 46 = .ok (.ladd, 1) := by decide +kernel
theorem dJ13_bitCount_95d88_47 : decode cJ13_bitCount_95d88 47 = .ok (.lstore_n 0, 1) := by decide +kernel
theorem dJ13_bitCount_95d88_48 : decode cJ13_bitCount_95d88 48 = .ok (.lload_n 0, 1) := by decide +kernel
theorem dJ13_bitCount_95d88_49 : decode cJ13_bitCount_95d88 49 = .ok (.lload_n 0, 1) := by decide +kernel
theorem dJ13_bitCount_95d88_50 : decode cJ13_bitCount_95d88 50 = .ok (.bipush 32, 2) := by decide +kernel
theorem dJ13_bitCount_95d88_52 : decode cJ13_bitCount_95d88 52 = .ok (.lushr, 1) := by decide +kernel
theorem dJ13_bitCount_95d88_53 : decode cJ13_bitCount_95d88 53 = .ok (.ladd, 1) := by decide +kernel
theorem dJ13_bitCount_95d88_54 : decode cJ13_bitCount_95d88 54 = .ok (.lstore_n 0, 1) := by decide +kernel
theorem dJ13_bitCount_95d88_55 : decode cJ13_bitCount_95d88 55 = .ok (.lload_n 0, 1) := by decide +kernel
theorem dJ13_bitCount_95d88_56 : decode cJ13_bitCount_95d88 56 = .ok (.l2i, 1) := by decide +kernel
theorem dJ13_bitCount_95d88_57 : decode cJ13_bitCount_95d88 57 = .ok (.bipush 127, 2) := by decide +kernel
theorem dJ13_bitCount_95d88_59 : decode cJ13_bitCount_95d88 59 = .ok (.iand, 1) := by decide +kernel
theorem dJ13_bitCount_95d88_60 : decode cJ13_bitCount_95d88 60 = .ok (.ireturn, 1) := by decide +kernel
theorem dJ9_max_7cf53_0 : decode cJ9_max_7cf53 0 = .ok (.iload_n 0, 1) := by decide +kernel
theorem dJ9_max_7cf53_1 : decode cJ9_max_7cf53 1 = .ok (.iload_n 1, 1) := by decide +kernel
theorem dJ9_max_7cf53_2 : decode cJ9_max_7cf53 2 = .ok (.if_icmp .lt 7, 3) := by decide +kernel
theorem dJ9_max_7cf53_5 : decode cJ9_max_7cf53 5 = .ok (.iload_n 0, 1) := by decide +kernel
theorem dJ9_max_7cf53_6 : decode cJ9_max_7cf53 6 = .ok (.goto 4, 3) := by decide +kernel
theorem dJ9_max_7cf53_9 : decode cJ9_max_7cf53 9 = .ok (.iload_n 1, 1) := by decide +kernel
theorem dJ9_max_7cf53_10 : decode cJ9_max_7cf53 10 = .ok (.ireturn, 1) := by decide +kernel
theorem dJ9_min_7cf53_0 : decode cJ9_min_7cf53 0 = .ok (.iload_n 0, 1) := by decide +kernel
theorem dJ9_min_7cf53_1 : decode cJ9_min_7cf53 1 = .ok (.iload_n 1, 1) := by decide +kernel
theorem dJ9_min_7cf53_2 : decode cJ9_min_7cf53 2 = .ok (.if_icmp .gt 7, 3) := by decide +kernel
theorem dJ9_min_7cf53_5 : decode cJ9_min_7cf53 5 = .ok (.iload_n 0, 1) := by decide +kernel
theorem dJ9_min_7cf53_6 : decode cJ9_min_7cf53 6 = .ok (.goto 4, 3) := by decide +kernel
theorem dJ9_min_7cf53_9 : decode cJ9_min_7cf53 9 = .ok (.iload_n 1, 1) := by decide +kernel
theorem dJ9_min_7cf53_10 : decode cJ9_min_7cf53 10 = .ok (.ireturn, 1) := by decide +kernel
theorem dJ7_fill_53178_0 : decode cJ7_fill_53178 0 = .ok (.iconst 0, 1) := by decide +kernel
theorem dJ7_fill_53178_1 : decode cJ7_fill_53178 1 = .ok (.istore_n 2, 1) := by decide +kernel
theorem dJ7_fill_53178_2 : decode cJ7_fill_53178 2 = .ok (.aload_n 0, 1) := by decide +kernel
theorem dJ7_fill_53178_3 : decode cJ7_fill_53178 3 = .ok (.arraylength, 1) := by decide +kernel
theorem dJ7_fill_53178_4 : decode cJ7_fill_53178 4 = .ok (.istore_n 3, 1) := by decide +kernel
theorem dJ7_fill_53178_5 : decode cJ7_fill_53178 5 = .ok (.iload_n 2, 1) := by decide +kernel
theorem dJ7_fill_53178_6 : decode cJ7_fill_53178 6 = .ok (.iload_n 3, 1) := by decide +kernel
theorem dJ7_fill_53178_7 : decode cJ7_fill_53178 7 = .ok (.if_icmp .ge 13, 3) := by decide +kernel
theorem dJ7_fill_53178_10 : decode cJ7_fill_53178 10 = .ok (.aload_n 0, 1) := by decide +kernel
theorem dJ7_fill_53178_11 : decode cJ7_fill_53178 11 = .ok (.iload_n 2, 1) := by decide +kernel
theorem dJ7_fill_53178_12 : decode cJ7_fill_53178 12 = .ok (.iload_n 1, 1) := by decide +kernel
theorem dJ7_fill_53178_13 : decode cJ7_fill_53178 13 = .ok (.iastore, 1) := by decide +kernel
theorem dJ7_fill_53178_14 : decode cJ7_fill_53178 14 = .ok (.iinc 2 1, 3) := by decide +kernel
theorem dJ7_fill_53178_17 : decode cJ7_fill_53178 17 = .ok (.goto (-12), 3) := by decide +kernel
theorem dJ7_fill_53178_20 : decode cJ7_fill_53178 20 = .ok (.return_, 1) := by decide +kernel
theorem dL_cell_0 : decode cL_cell 0 = .ok (.iload_n 1, 1) := by decide +kernel
theorem dL_cell_1 : decode cL_cell 1 = .ok (.aload_n 0, 1) := by decide +kernel
theorem dL_cell_2 : decode cL_cell 2 = .ok (.arraylength, 1) := by decide +kernel
theorem dL_cell_3 : decode cL_cell 3 = .ok (.if_icmp .ge 9, 3) := by decide +kernel
theorem dL_cell_6 : decode cL_cell 6 = .ok (.aload_n 0, 1) := by decide +kernel
theorem dL_cell_7 : decode cL_cell 7 = .ok (.iload_n 1, 1) := by decide +kernel
theorem dL_cell_8 : decode cL_cell 8 = .ok (.iaload, 1) := by decide +kernel
theorem dL_cell_9 : decode cL_cell 9 = .ok (.goto 15, 3) := by decide +kernel
theorem dL_cell_12 : decode cL_cell 12 = .ok (.sipush 7919, 3) := by decide +kernel
theorem dL_cell_15 : decode cL_cell 15 = .ok (.iload_n 1, 1) := by decide +kernel
theorem dL_cell_16 : decode cL_cell 16 = .ok (.iconst 3, 1) := by decide +kernel
theorem dL_cell_17 : decode cL_cell 17 = .ok (.iadd, 1) := by decide +kernel
theorem dL_cell_18 : decode cL_cell 18 = .ok (.imul, 1) := by decide +kernel
theorem dL_cell_19 : decode cL_cell 19 = .ok (.iload_n 1, 1) := by decide +kernel
theorem dL_cell_20 : decode cL_cell 20 = .ok (.bipush 11, 2) := by decide +kernel
theorem dL_cell_22 : decode cL_cell 22 = .ok (.iadd, 1) := by decide +kernel
theorem dL_cell_23 : decode cL_cell 23 = .ok (.imul, 1) := by decide +kernel
theorem dL_cell_24 : decode cL_cell 24 = .ok (.ireturn, 1) := by decide +kernel
theorem dL_low_0 : decode cL_low 0 = .ok (.iload_n 0, 1) := by decide +kernel
theorem dL_low_1 : decode cL_low 1 = .ok (.ldc 7, 2) := by decide +kernel
theorem dL_low_3 : decode cL_low 3 = .ok (.iand, 1) := by decide +kernel
theorem dL_low_4 : decode cL_low 4 = .ok (.iload_n 1, 1) := by decide +kernel
theorem dL_low_5 : decode cL_low 5 = .ok (.irem, 1) := by decide +kernel
theorem dL_low_6 : decode cL_low 6 = .ok (.ireturn, 1) := by decide +kernel
set_option maxRecDepth 20000 in
theorem ggL_isStruck_X1_endOf : GoodIn wsL_isStruck wsX1_endOf := goodIn_ca (goodIn_r _ [5, 6, 7, 8, 4, 9, 10, 11, 12, 13, 14, 15, 62, 63, 64, 65, 66, 67, 68, 69, 70, 71, 72, 73, 74, 75, 76, 77, 78, 79, 80, 81, 82, 83] (by decide +kernel) (by decide +kernel)) (goodIn_sub (fun _ h => List.mem_cons_of_mem _ (List.mem_append_left _ (List.mem_append_left _ (List.mem_append_right _ h)))) (by decide +kernel))
set_option maxRecDepth 20000 in
theorem gL_isStruck_X1_endOf : GoodIn wsL_isStruck (wsV RL 8 RX1 yX1_endOf wsX1_endOf) := goodIn_app (goodIn_of _ (by decide +kernel)) ggL_isStruck_X1_endOf
set_option maxRecDepth 20000 in
theorem ggL_isStruck_X1_struck : GoodIn wsL_isStruck wsX1_struck := goodIn_ca (goodIn_r _ [19, 6, 7, 8, 4, 9, 10, 11, 12, 13, 14, 15, 62, 63, 64, 65, 66, 67, 68, 69, 70, 71, 72, 73, 74, 75, 76, 77, 78, 79, 80, 81, 82, 83] (by decide +kernel) (by decide +kernel)) (goodIn_sub (fun _ h => List.mem_cons_of_mem _ (List.mem_append_left _ (List.mem_append_left _ (List.mem_append_right _ h)))) (by decide +kernel))
set_option maxRecDepth 20000 in
theorem gL_isStruck_X1_struck : GoodIn wsL_isStruck (wsV RL 14 RX1 yX1_struck wsX1_struck) := goodIn_app (goodIn_of _ (by decide +kernel)) ggL_isStruck_X1_struck
set_option maxRecDepth 20000 in
theorem ggL_isStruck_X1_freeFrom : GoodIn wsL_isStruck wsX1_freeFrom := goodIn_ca (goodIn_r _ [23, 6, 7, 8, 4, 9, 10, 11, 12, 13, 14, 15, 62, 63, 64, 65, 66, 67, 68, 69, 70, 71, 72, 73, 74, 75, 76, 77, 78, 79, 80, 81, 82, 83] (by decide +kernel) (by decide +kernel)) (goodIn_sub (fun _ h => List.mem_cons_of_mem _ (List.mem_append_left _ (List.mem_append_left _ (List.mem_append_right _ h)))) (by decide +kernel))
set_option maxRecDepth 20000 in
theorem gL_isStruck_X1_freeFrom : GoodIn wsL_isStruck (wsV RL 17 RX1 yX1_freeFrom wsX1_freeFrom) := goodIn_app (goodIn_of _ (by decide +kernel)) ggL_isStruck_X1_freeFrom
set_option maxRecDepth 20000 in
theorem ggL_isStruck_X1_maturity : GoodIn wsL_isStruck wsX1_maturity := goodIn_ca (goodIn_r _ [27, 28, 29, 4, 30, 31, 32, 33, 34, 35, 36, 37, 38, 39, 40, 41, 42, 43, 44, 75, 76, 77, 78, 79, 80, 81, 82, 83] (by decide +kernel) (by decide +kernel)) (goodIn_sub (fun _ h => List.mem_cons_of_mem _ (List.mem_append_left _ (List.mem_append_right _ h))) (by decide +kernel))
set_option maxRecDepth 20000 in
theorem gL_isStruck_X1_maturity : GoodIn wsL_isStruck (wsV RL 20 RX1 yX1_maturity wsX1_maturity) := goodIn_app (goodIn_of _ (by decide +kernel)) ggL_isStruck_X1_maturity
set_option maxRecDepth 20000 in
theorem ggL_isStruck_X1_strength : GoodIn wsL_isStruck wsX1_strength := goodIn_ca (goodIn_r _ [48, 49, 50, 51, 4, 52, 53, 54, 55, 56, 57, 58, 59, 60, 61] (by decide +kernel) (by decide +kernel)) (goodIn_sub (fun _ h => List.mem_cons_of_mem _ (List.mem_append_right _ h)) (by decide +kernel))
set_option maxRecDepth 20000 in
theorem gL_isStruck_X1_strength : GoodIn wsL_isStruck (wsV RL 24 RX1 yX1_strength wsX1_strength) := goodIn_app (goodIn_of _ (by decide +kernel)) ggL_isStruck_X1_strength
theorem dL_isStruck_0 : decode cL_isStruck 0 = .ok (.aload_n 0, 1) := by decide +kernel
theorem dL_isStruck_1 : decode cL_isStruck 1 = .ok (.iload_n 3, 1) := by decide +kernel
theorem dL_isStruck_2 : decode cL_isStruck 2 = .ok (.invokevirtual 8, 3) := by decide +kernel
theorem dL_isStruck_5 : decode cL_isStruck 5 = .ok (.istore 4, 2) := by decide +kernel
theorem dL_isStruck_7 : decode cL_isStruck 7 = .ok (.aload_n 0, 1) := by decide +kernel
theorem dL_isStruck_8 : decode cL_isStruck 8 = .ok (.iload_n 3, 1) := by decide +kernel
theorem dL_isStruck_9 : decode cL_isStruck 9 = .ok (.invokevirtual 14, 3) := by decide +kernel
theorem dL_isStruck_12 : decode cL_isStruck 12 = .ok (.istore 5, 2) := by decide +kernel
theorem dL_isStruck_14 : decode cL_isStruck 14 = .ok (.aload_n 0, 1) := by decide +kernel
theorem dL_isStruck_15 : decode cL_isStruck 15 = .ok (.iload_n 3, 1) := by decide +kernel
end
section
theorem dL_isStruck_16 : decode cL_isStruck 16 = .ok (.invokevirtual 17, 3) := by decide +kernel
theorem dL_isStruck_19 : decode cL_isStruck 19 = .ok (.istore 6, 2) := by decide +kernel
theorem dL_isStruck_21 : decode cL_isStruck 21 = .ok (.iload 5, 2) := by decide +kernel
theorem dL_isStruck_23 : decode cL_isStruck 23 = .ok (.ifCond .ge 48, 3) := by decide +kernel
theorem dL_isStruck_26 : decode cL_isStruck 26 = .ok (.iload 5, 2) := by decide +kernel
theorem dL_isStruck_28 : decode cL_isStruck 28 = .ok (.iconst (-1), 1) := by decide +kernel
theorem dL_isStruck_29 : decode cL_isStruck 29 = .ok (.if_icmp .ne 40, 3) := by decide +kernel
theorem dL_isStruck_32 : decode cL_isStruck 32 = .ok (.iload 6, 2) := by decide +kernel
theorem dL_isStruck_34 : decode cL_isStruck 34 = .ok (.iconst (-1), 1) := by decide +kernel
theorem dL_isStruck_35 : decode cL_isStruck 35 = .ok (.if_icmp .ne 34, 3) := by decide +kernel
theorem dL_isStruck_38 : decode cL_isStruck 38 = .ok (.iload 4, 2) := by decide +kernel
theorem dL_isStruck_40 : decode cL_isStruck 40 = .ok (.sipush 999, 3) := by decide +kernel
theorem dL_isStruck_43 : decode cL_isStruck 43 = .ok (.if_icmp .gt 22, 3) := by decide +kernel
theorem dL_isStruck_46 : decode cL_isStruck 46 = .ok (.aload_n 0, 1) := by decide +kernel
theorem dL_isStruck_47 : decode cL_isStruck 47 = .ok (.aload_n 0, 1) := by decide +kernel
theorem dL_isStruck_48 : decode cL_isStruck 48 = .ok (.iload 4, 2) := by decide +kernel
theorem dL_isStruck_50 : decode cL_isStruck 50 = .ok (.sipush 999, 3) := by decide +kernel
theorem dL_isStruck_53 : decode cL_isStruck 53 = .ok (.invokevirtual 20, 3) := by decide +kernel
theorem dL_isStruck_56 : decode cL_isStruck 56 = .ok (.invokevirtual 24, 3) := by decide +kernel
theorem dL_isStruck_59 : decode cL_isStruck 59 = .ok (.aload_n 1, 1) := by decide +kernel
theorem dL_isStruck_60 : decode cL_isStruck 60 = .ok (.iload_n 3, 1) := by decide +kernel
theorem dL_isStruck_61 : decode cL_isStruck 61 = .ok (.iaload, 1) := by decide +kernel
theorem dL_isStruck_62 : decode cL_isStruck 62 = .ok (.if_icmp .ge 7, 3) := by decide +kernel
theorem dL_isStruck_65 : decode cL_isStruck 65 = .ok (.iconst 1, 1) := by decide +kernel
theorem dL_isStruck_66 : decode cL_isStruck 66 = .ok (.goto 4, 3) := by decide +kernel
theorem dL_isStruck_69 : decode cL_isStruck 69 = .ok (.iconst 0, 1) := by decide +kernel
theorem dL_isStruck_70 : decode cL_isStruck 70 = .ok (.ireturn, 1) := by decide +kernel
theorem dL_isStruck_71 : decode cL_isStruck 71 = .ok (.iload 5, 2) := by decide +kernel
theorem dL_isStruck_73 : decode cL_isStruck 73 = .ok (.iload 4, 2) := by decide +kernel
theorem dL_isStruck_75 : decode cL_isStruck 75 = .ok (.if_icmp .le 53, 3) := by decide +kernel
theorem dL_isStruck_78 : decode cL_isStruck 78 = .ok (.iload 5, 2) := by decide +kernel
theorem dL_isStruck_80 : decode cL_isStruck 80 = .ok (.sipush 999, 3) := by decide +kernel
theorem dL_isStruck_83 : decode cL_isStruck 83 = .ok (.if_icmp .gt 45, 3) := by decide +kernel
theorem dL_isStruck_86 : decode cL_isStruck 86 = .ok (.aload_n 0, 1) := by decide +kernel
theorem dL_isStruck_87 : decode cL_isStruck 87 = .ok (.aload_n 0, 1) := by decide +kernel
theorem dL_isStruck_88 : decode cL_isStruck 88 = .ok (.iload 4, 2) := by decide +kernel
theorem dL_isStruck_90 : decode cL_isStruck 90 = .ok (.iload 5, 2) := by decide +kernel
theorem dL_isStruck_92 : decode cL_isStruck 92 = .ok (.invokevirtual 20, 3) := by decide +kernel
theorem dL_isStruck_95 : decode cL_isStruck 95 = .ok (.invokevirtual 24, 3) := by decide +kernel
theorem dL_isStruck_98 : decode cL_isStruck 98 = .ok (.aload_n 1, 1) := by decide +kernel
theorem dL_isStruck_99 : decode cL_isStruck 99 = .ok (.iload_n 3, 1) := by decide +kernel
theorem dL_isStruck_100 : decode cL_isStruck 100 = .ok (.iaload, 1) := by decide +kernel
theorem dL_isStruck_101 : decode cL_isStruck 101 = .ok (.if_icmp .lt 27, 3) := by decide +kernel
theorem dL_isStruck_104 : decode cL_isStruck 104 = .ok (.aload_n 0, 1) := by decide +kernel
theorem dL_isStruck_105 : decode cL_isStruck 105 = .ok (.aload_n 0, 1) := by decide +kernel
theorem dL_isStruck_106 : decode cL_isStruck 106 = .ok (.iload 4, 2) := by decide +kernel
theorem dL_isStruck_108 : decode cL_isStruck 108 = .ok (.iload 5, 2) := by decide +kernel
theorem dL_isStruck_110 : decode cL_isStruck 110 = .ok (.iconst 1, 1) := by decide +kernel
theorem dL_isStruck_111 : decode cL_isStruck 111 = .ok (.isub, 1) := by decide +kernel
theorem dL_isStruck_112 : decode cL_isStruck 112 = .ok (.invokevirtual 20, 3) := by decide +kernel
theorem dL_isStruck_115 : decode cL_isStruck 115 = .ok (.invokevirtual 24, 3) := by decide +kernel
theorem dL_isStruck_118 : decode cL_isStruck 118 = .ok (.aload_n 1, 1) := by decide +kernel
theorem dL_isStruck_119 : decode cL_isStruck 119 = .ok (.iload_n 3, 1) := by decide +kernel
theorem dL_isStruck_120 : decode cL_isStruck 120 = .ok (.iaload, 1) := by decide +kernel
theorem dL_isStruck_121 : decode cL_isStruck 121 = .ok (.if_icmp .ge 7, 3) := by decide +kernel
theorem dL_isStruck_124 : decode cL_isStruck 124 = .ok (.iconst 1, 1) := by decide +kernel
theorem dL_isStruck_125 : decode cL_isStruck 125 = .ok (.goto 4, 3) := by decide +kernel
theorem dL_isStruck_128 : decode cL_isStruck 128 = .ok (.iconst 0, 1) := by decide +kernel
theorem dL_isStruck_129 : decode cL_isStruck 129 = .ok (.istore 7, 2) := by decide +kernel
theorem dL_isStruck_131 : decode cL_isStruck 131 = .ok (.iload 7, 2) := by decide +kernel
theorem dL_isStruck_133 : decode cL_isStruck 133 = .ok (.ifCond .eq 34, 3) := by decide +kernel
theorem dL_isStruck_136 : decode cL_isStruck 136 = .ok (.iload 6, 2) := by decide +kernel
theorem dL_isStruck_138 : decode cL_isStruck 138 = .ok (.iload 5, 2) := by decide +kernel
theorem dL_isStruck_140 : decode cL_isStruck 140 = .ok (.aload_n 2, 1) := by decide +kernel
theorem dL_isStruck_141 : decode cL_isStruck 141 = .ok (.iconst 1, 1) := by decide +kernel
theorem dL_isStruck_142 : decode cL_isStruck 142 = .ok (.iaload, 1) := by decide +kernel
theorem dL_isStruck_143 : decode cL_isStruck 143 = .ok (.iadd, 1) := by decide +kernel
theorem dL_isStruck_144 : decode cL_isStruck 144 = .ok (.sipush 999, 3) := by decide +kernel
theorem dL_isStruck_147 : decode cL_isStruck 147 = .ok (.if_icmp .le 7, 3) := by decide +kernel
theorem dL_isStruck_150 : decode cL_isStruck 150 = .ok (.iconst (-1), 1) := by decide +kernel
theorem dL_isStruck_151 : decode cL_isStruck 151 = .ok (.goto 9, 3) := by decide +kernel
theorem dL_isStruck_154 : decode cL_isStruck 154 = .ok (.iload 5, 2) := by decide +kernel
theorem dL_isStruck_156 : decode cL_isStruck 156 = .ok (.aload_n 2, 1) := by decide +kernel
theorem dL_isStruck_157 : decode cL_isStruck 157 = .ok (.iconst 1, 1) := by decide +kernel
theorem dL_isStruck_158 : decode cL_isStruck 158 = .ok (.iaload, 1) := by decide +kernel
theorem dL_isStruck_159 : decode cL_isStruck 159 = .ok (.iadd, 1) := by decide +kernel
theorem dL_isStruck_160 : decode cL_isStruck 160 = .ok (.if_icmp .ne 7, 3) := by decide +kernel
theorem dL_isStruck_163 : decode cL_isStruck 163 = .ok (.iconst 1, 1) := by decide +kernel
theorem dL_isStruck_164 : decode cL_isStruck 164 = .ok (.goto 4, 3) := by decide +kernel
theorem dL_isStruck_167 : decode cL_isStruck 167 = .ok (.iconst 0, 1) := by decide +kernel
theorem dL_isStruck_168 : decode cL_isStruck 168 = .ok (.ireturn, 1) := by decide +kernel
set_option maxRecDepth 20000 in
theorem ggL_isBusy_X1_freeFrom : GoodIn wsL_isBusy wsX1_freeFrom := goodIn_ca (goodIn_r _ [5, 6, 7, 8, 4, 9, 10, 11, 12, 13, 14, 15, 16, 17, 18, 19, 20, 21, 22, 23, 24, 25, 26, 27, 28, 29, 30, 31, 32, 33, 34, 35, 36, 37] (by decide +kernel) (by decide +kernel)) (goodIn_sub (fun _ h => List.mem_cons_of_mem _ (List.mem_append_right _ h)) (by decide +kernel))
set_option maxRecDepth 20000 in
theorem gL_isBusy_X1_freeFrom : GoodIn wsL_isBusy (wsV RL 17 RX1 yX1_freeFrom wsX1_freeFrom) := goodIn_app (goodIn_of _ (by decide +kernel)) ggL_isBusy_X1_freeFrom
theorem dL_isBusy_0 : decode cL_isBusy 0 = .ok (.aload_n 1, 1) := by decide +kernel
theorem dL_isBusy_1 : decode cL_isBusy 1 = .ok (.iload_n 3, 1) := by decide +kernel
theorem dL_isBusy_2 : decode cL_isBusy 2 = .ok (.iaload, 1) := by decide +kernel
theorem dL_isBusy_3 : decode cL_isBusy 3 = .ok (.aload_n 2, 1) := by decide +kernel
theorem dL_isBusy_4 : decode cL_isBusy 4 = .ok (.iconst 0, 1) := by decide +kernel
theorem dL_isBusy_5 : decode cL_isBusy 5 = .ok (.iaload, 1) := by decide +kernel
theorem dL_isBusy_6 : decode cL_isBusy 6 = .ok (.isub, 1) := by decide +kernel
theorem dL_isBusy_7 : decode cL_isBusy 7 = .ok (.istore 5, 2) := by decide +kernel
theorem dL_isBusy_9 : decode cL_isBusy 9 = .ok (.aload_n 0, 1) := by decide +kernel
theorem dL_isBusy_10 : decode cL_isBusy 10 = .ok (.iload_n 3, 1) := by decide +kernel
theorem dL_isBusy_11 : decode cL_isBusy 11 = .ok (.invokevirtual 17, 3) := by decide +kernel
theorem dL_isBusy_14 : decode cL_isBusy 14 = .ok (.istore 6, 2) := by decide +kernel
theorem dL_isBusy_16 : decode cL_isBusy 16 = .ok (.iload 4, 2) := by decide +kernel
theorem dL_isBusy_18 : decode cL_isBusy 18 = .ok (.iload 5, 2) := by decide +kernel
theorem dL_isBusy_20 : decode cL_isBusy 20 = .ok (.if_icmp .lt 19, 3) := by decide +kernel
theorem dL_isBusy_23 : decode cL_isBusy 23 = .ok (.iload 6, 2) := by decide +kernel
theorem dL_isBusy_25 : decode cL_isBusy 25 = .ok (.ifCond .lt 10, 3) := by decide +kernel
theorem dL_isBusy_28 : decode cL_isBusy 28 = .ok (.iload 4, 2) := by decide +kernel
theorem dL_isBusy_30 : decode cL_isBusy 30 = .ok (.iload 6, 2) := by decide +kernel
theorem dL_isBusy_32 : decode cL_isBusy 32 = .ok (.if_icmp .ge 7, 3) := by decide +kernel
theorem dL_isBusy_35 : decode cL_isBusy 35 = .ok (.iconst 1, 1) := by decide +kernel
theorem dL_isBusy_36 : decode cL_isBusy 36 = .ok (.goto 4, 3) := by decide +kernel
theorem dL_isBusy_39 : decode cL_isBusy 39 = .ok (.iconst 0, 1) := by decide +kernel
theorem dL_isBusy_40 : decode cL_isBusy 40 = .ok (.ireturn, 1) := by decide +kernel
set_option maxRecDepth 20000 in
theorem ggL_isHour_L_isBusy : GoodIn wsL_isHour wsL_isBusy := goodIn_ca (goodIn_r _ [4, 5, 6, 7, 8, 9, 10, 11, 12, 13, 14, 15, 16, 17, 18, 19, 91, 92, 93, 94, 95, 96, 97, 98, 99, 100, 101, 102, 103, 104, 105, 106, 107, 108, 109, 110, 111, 112] (by decide +kernel) (by decide +kernel)) (goodIn_sub (fun _ h => List.mem_cons_of_mem _ (List.mem_append_left _ (List.mem_append_right _ h))) (by decide +kernel))
set_option maxRecDepth 20000 in
theorem gL_isHour_L_isBusy : GoodIn wsL_isHour (va_wsS RL 27 yL_isBusy wsL_isBusy) := goodIn_app (goodIn_of _ (by decide +kernel)) ggL_isHour_L_isBusy
set_option maxRecDepth 20000 in
theorem ggL_isHour_X1_panelsOf : GoodIn wsL_isHour wsX1_panelsOf := goodIn_ca (goodIn_r _ [23, 10, 11, 12, 8, 13, 14, 15, 16, 17, 18, 19, 24, 25, 26, 27, 28, 29, 30, 31, 32, 33, 34, 35, 36, 37, 38, 39, 40, 41, 42, 43, 44, 45, 46, 47, 48, 49, 50, 51, 52, 53, 91, 92, 93, 94, 95, 96, 97, 98, 99, 100, 101, 102, 103, 104, 105, 106, 107, 108, 109, 110, 111, 112] (by decide +kernel) (by decide +kernel)) (goodIn_sub (fun _ h => List.mem_cons_of_mem _ (List.mem_append_left _ (List.mem_append_right _ h))) (by decide +kernel))
set_option maxRecDepth 20000 in
theorem gL_isHour_X1_panelsOf : GoodIn wsL_isHour (wsV RL 33 RX1 yX1_panelsOf wsX1_panelsOf) := goodIn_app (goodIn_of _ (by decide +kernel)) ggL_isHour_X1_panelsOf
set_option maxRecDepth 20000 in
theorem ggL_isHour_X1_pourOf : GoodIn wsL_isHour wsX1_pourOf := goodIn_ca (goodIn_r _ [57, 58, 59, 46, 16, 60, 61, 8, 62, 63, 64, 65, 24, 25, 26, 27, 28, 29, 30, 31, 32, 33, 34, 35, 36, 37, 38, 39, 40, 41, 42, 43, 44, 45, 104, 105, 106, 107, 108, 109, 110, 111, 112, 91, 92, 93, 94, 95, 96, 97, 98, 99, 100, 101, 102, 103] (by decide +kernel) (by decide +kernel)) (goodIn_sub (fun _ h => List.mem_cons_of_mem _ (List.mem_append_right _ h)) (by decide +kernel))
set_option maxRecDepth 20000 in
theorem gL_isHour_X1_pourOf : GoodIn wsL_isHour (wsV RL 36 RX1 yX1_pourOf wsX1_pourOf) := goodIn_app (goodIn_of _ (by decide +kernel)) ggL_isHour_X1_pourOf
set_option maxRecDepth 20000 in
theorem ggL_isHour_X1_need : GoodIn wsL_isHour wsX1_need := goodIn_ca (goodIn_r _ [69, 60, 61, 8, 62, 58, 59, 63, 64, 65, 70, 71, 72, 73, 16, 36, 37, 38, 39, 40, 41, 104, 105, 106, 107, 108, 109, 110, 111, 112, 91, 92, 93, 94, 95, 96, 97, 98, 99, 100, 101, 102, 103] (by decide +kernel) (by decide +kernel)) (goodIn_sub (fun _ h => List.mem_cons_of_mem _ (List.mem_append_right _ h)) (by decide +kernel))
set_option maxRecDepth 20000 in
theorem gL_isHour_X1_need : GoodIn wsL_isHour (wsV RL 39 RX1 yX1_need wsX1_need) := goodIn_app (goodIn_of _ (by decide +kernel)) ggL_isHour_X1_need
set_option maxRecDepth 20000 in
theorem ggL_isHour_X1_firstShort : GoodIn wsL_isHour wsX1_firstShort := goodIn_r _ [77, 78, 46, 79, 80, 81, 8, 82, 70, 71, 72, 73, 16, 36, 37, 38, 39, 40, 41, 104, 105, 106, 107, 108, 109, 110, 111, 112, 91, 92, 93, 94, 95, 96, 97, 98, 99, 100, 101, 102, 103] (by decide +kernel) (by decide +kernel)
set_option maxRecDepth 20000 in
theorem gL_isHour_X1_firstShort : GoodIn wsL_isHour (wsV RL 42 RX1 yX1_firstShort wsX1_firstShort) := goodIn_app (goodIn_of _ (by decide +kernel)) ggL_isHour_X1_firstShort
set_option maxRecDepth 20000 in
theorem ggL_isHour_X1_peak : GoodIn wsL_isHour wsX1_peak := goodIn_r _ [86, 78, 87, 88, 89, 90, 79, 80, 81, 8, 82, 70, 71, 72, 73, 16, 36, 37, 38, 39, 40, 41, 104, 105, 106, 107, 108, 109, 110, 111, 112, 91, 92, 93, 94, 95, 96, 97, 98, 99, 100, 101, 102, 103] (by decide +kernel) (by decide +kernel)
set_option maxRecDepth 20000 in
theorem gL_isHour_X1_peak : GoodIn wsL_isHour (wsV RL 46 RX1 yX1_peak wsX1_peak) := goodIn_app (goodIn_of _ (by decide +kernel)) ggL_isHour_X1_peak
theorem dL_isHour_0 : decode cL_isHour 0 = .ok (.iconst 0, 1) := by decide +kernel
theorem dL_isHour_1 : decode cL_isHour 1 = .ok (.istore 6, 2) := by decide +kernel
theorem dL_isHour_3 : decode cL_isHour 3 = .ok (.iconst 0, 1) := by decide +kernel
theorem dL_isHour_4 : decode cL_isHour 4 = .ok (.istore 7, 2) := by decide +kernel
theorem dL_isHour_6 : decode cL_isHour 6 = .ok (.iconst 0, 1) := by decide +kernel
theorem dL_isHour_7 : decode cL_isHour 7 = .ok (.istore 8, 2) := by decide +kernel
theorem dL_isHour_9 : decode cL_isHour 9 = .ok (.iload 8, 2) := by decide +kernel
theorem dL_isHour_11 : decode cL_isHour 11 = .ok (.bipush 10, 2) := by decide +kernel
theorem dL_isHour_13 : decode cL_isHour 13 = .ok (.if_icmp .ge 76, 3) := by decide +kernel
theorem dL_isHour_16 : decode cL_isHour 16 = .ok (.aload_n 1, 1) := by decide +kernel
theorem dL_isHour_17 : decode cL_isHour 17 = .ok (.iload 8, 2) := by decide +kernel
theorem dL_isHour_19 : decode cL_isHour 19 = .ok (.iaload, 1) := by decide +kernel
theorem dL_isHour_20 : decode cL_isHour 20 = .ok (.iconst 1, 1) := by decide +kernel
theorem dL_isHour_21 : decode cL_isHour 21 = .ok (.if_icmp .ne 21, 3) := by decide +kernel
theorem dL_isHour_24 : decode cL_isHour 24 = .ok (.aload_n 0, 1) := by decide +kernel
theorem dL_isHour_25 : decode cL_isHour 25 = .ok (.aload_n 3, 1) := by decide +kernel
theorem dL_isHour_26 : decode cL_isHour 26 = .ok (.aload 4, 2) := by decide +kernel
theorem dL_isHour_28 : decode cL_isHour 28 = .ok (.iload 8, 2) := by decide +kernel
theorem dL_isHour_30 : decode cL_isHour 30 = .ok (.iload 5, 2) := by decide +kernel
theorem dL_isHour_32 : decode cL_isHour 32 = .ok (.invokestatic 27, 3) := by decide +kernel
theorem dL_isHour_35 : decode cL_isHour 35 = .ok (.ifCond .eq 7, 3) := by decide +kernel
theorem dL_isHour_38 : decode cL_isHour 38 = .ok (.iconst 1, 1) := by decide +kernel
theorem dL_isHour_39 : decode cL_isHour 39 = .ok (.goto 4, 3) := by decide +kernel
theorem dL_isHour_42 : decode cL_isHour 42 = .ok (.iconst 0, 1) := by decide +kernel
theorem dL_isHour_43 : decode cL_isHour 43 = .ok (.istore 9, 2) := by decide +kernel
theorem dL_isHour_45 : decode cL_isHour 45 = .ok (.iload 6, 2) := by decide +kernel
theorem dL_isHour_47 : decode cL_isHour 47 = .ok (.iload 9, 2) := by decide +kernel
theorem dL_isHour_49 : decode cL_isHour 49 = .ok (.ifCond .eq 10, 3) := by decide +kernel
theorem dL_isHour_52 : decode cL_isHour 52 = .ok (.aload_n 2, 1) := by decide +kernel
theorem dL_isHour_53 : decode cL_isHour 53 = .ok (.iload 8, 2) := by decide +kernel
theorem dL_isHour_55 : decode cL_isHour 55 = .ok (.iaload, 1) := by decide +kernel
theorem dL_isHour_56 : decode cL_isHour 56 = .ok (.goto 4, 3) := by decide +kernel
theorem dL_isHour_59 : decode cL_isHour 59 = .ok (.iconst 0, 1) := by decide +kernel
theorem dL_isHour_60 : decode cL_isHour 60 = .ok (.iadd, 1) := by decide +kernel
theorem dL_isHour_61 : decode cL_isHour 61 = .ok (.istore 6, 2) := by decide +kernel
theorem dL_isHour_63 : decode cL_isHour 63 = .ok (.iload 7, 2) := by decide +kernel
theorem dL_isHour_65 : decode cL_isHour 65 = .ok (.iload 9, 2) := by decide +kernel
theorem dL_isHour_67 : decode cL_isHour 67 = .ok (.ifCond .eq 12, 3) := by decide +kernel
theorem dL_isHour_70 : decode cL_isHour 70 = .ok (.aload_n 0, 1) := by decide +kernel
theorem dL_isHour_71 : decode cL_isHour 71 = .ok (.iload 8, 2) := by decide +kernel
theorem dL_isHour_73 : decode cL_isHour 73 = .ok (.invokevirtual 33, 3) := by decide +kernel
theorem dL_isHour_76 : decode cL_isHour 76 = .ok (.goto 4, 3) := by decide +kernel
theorem dL_isHour_79 : decode cL_isHour 79 = .ok (.iconst 0, 1) := by decide +kernel
theorem dL_isHour_80 : decode cL_isHour 80 = .ok (.iadd, 1) := by decide +kernel
theorem dL_isHour_81 : decode cL_isHour 81 = .ok (.istore 7, 2) := by decide +kernel
theorem dL_isHour_83 : decode cL_isHour 83 = .ok (.iinc 8 1, 3) := by decide +kernel
theorem dL_isHour_86 : decode cL_isHour 86 = .ok (.goto (-77), 3) := by decide +kernel
theorem dL_isHour_89 : decode cL_isHour 89 = .ok (.iconst 0, 1) := by decide +kernel
theorem dL_isHour_90 : decode cL_isHour 90 = .ok (.istore 8, 2) := by decide +kernel
theorem dL_isHour_92 : decode cL_isHour 92 = .ok (.iconst 0, 1) := by decide +kernel
theorem dL_isHour_93 : decode cL_isHour 93 = .ok (.istore 9, 2) := by decide +kernel
theorem dL_isHour_95 : decode cL_isHour 95 = .ok (.iload 9, 2) := by decide +kernel
theorem dL_isHour_97 : decode cL_isHour 97 = .ok (.aload 4, 2) := by decide +kernel
theorem dL_isHour_99 : decode cL_isHour 99 = .ok (.iconst 2, 1) := by decide +kernel
theorem dL_isHour_100 : decode cL_isHour 100 = .ok (.iaload, 1) := by decide +kernel
theorem dL_isHour_101 : decode cL_isHour 101 = .ok (.if_icmp .ge 62, 3) := by decide +kernel
theorem dL_isHour_104 : decode cL_isHour 104 = .ok (.aload_n 0, 1) := by decide +kernel
theorem dL_isHour_105 : decode cL_isHour 105 = .ok (.iload 9, 2) := by decide +kernel
theorem dL_isHour_107 : decode cL_isHour 107 = .ok (.iload 5, 2) := by decide +kernel
theorem dL_isHour_109 : decode cL_isHour 109 = .ok (.invokevirtual 36, 3) := by decide +kernel
theorem dL_isHour_112 : decode cL_isHour 112 = .ok (.istore 10, 2) := by decide +kernel
theorem dL_isHour_114 : decode cL_isHour 114 = .ok (.iload 8, 2) := by decide +kernel
theorem dL_isHour_116 : decode cL_isHour 116 = .ok (.iload 10, 2) := by decide +kernel
theorem dL_isHour_118 : decode cL_isHour 118 = .ok (.ifCond .ge 7, 3) := by decide +kernel
theorem dL_isHour_121 : decode cL_isHour 121 = .ok (.iconst 0, 1) := by decide +kernel
theorem dL_isHour_122 : decode cL_isHour 122 = .ok (.goto 4, 3) := by decide +kernel
theorem dL_isHour_125 : decode cL_isHour 125 = .ok (.iconst 1, 1) := by decide +kernel
theorem dL_isHour_126 : decode cL_isHour 126 = .ok (.iadd, 1) := by decide +kernel
theorem dL_isHour_127 : decode cL_isHour 127 = .ok (.istore 8, 2) := by decide +kernel
theorem dL_isHour_129 : decode cL_isHour 129 = .ok (.iload 10, 2) := by decide +kernel
theorem dL_isHour_131 : decode cL_isHour 131 = .ok (.ifCond .lt 26, 3) := by decide +kernel
theorem dL_isHour_134 : decode cL_isHour 134 = .ok (.aload_n 1, 1) := by decide +kernel
theorem dL_isHour_135 : decode cL_isHour 135 = .ok (.iload 10, 2) := by decide +kernel
theorem dL_isHour_137 : decode cL_isHour 137 = .ok (.iaload, 1) := by decide +kernel
theorem dL_isHour_138 : decode cL_isHour 138 = .ok (.ifCond .eq 17, 3) := by decide +kernel
theorem dL_isHour_141 : decode cL_isHour 141 = .ok (.aload_n 0, 1) := by decide +kernel
theorem dL_isHour_142 : decode cL_isHour 142 = .ok (.aload_n 3, 1) := by decide +kernel
theorem dL_isHour_143 : decode cL_isHour 143 = .ok (.aload 4, 2) := by decide +kernel
theorem dL_isHour_145 : decode cL_isHour 145 = .ok (.iload 10, 2) := by decide +kernel
theorem dL_isHour_147 : decode cL_isHour 147 = .ok (.iload 5, 2) := by decide +kernel
theorem dL_isHour_149 : decode cL_isHour 149 = .ok (.invokestatic 27, 3) := by decide +kernel
theorem dL_isHour_152 : decode cL_isHour 152 = .ok (.ifCond .ne 5, 3) := by decide +kernel
theorem dL_isHour_155 : decode cL_isHour 155 = .ok (.iconst 0, 1) := by decide +kernel
theorem dL_isHour_156 : decode cL_isHour 156 = .ok (.ireturn, 1) := by decide +kernel
theorem dL_isHour_157 : decode cL_isHour 157 = .ok (.iinc 9 1, 3) := by decide +kernel
theorem dL_isHour_160 : decode cL_isHour 160 = .ok (.goto (-65), 3) := by decide +kernel
theorem dL_isHour_163 : decode cL_isHour 163 = .ok (.aload_n 0, 1) := by decide +kernel
theorem dL_isHour_164 : decode cL_isHour 164 = .ok (.iload 5, 2) := by decide +kernel
theorem dL_isHour_166 : decode cL_isHour 166 = .ok (.invokevirtual 39, 3) := by decide +kernel
theorem dL_isHour_169 : decode cL_isHour 169 = .ok (.iload 6, 2) := by decide +kernel
theorem dL_isHour_171 : decode cL_isHour 171 = .ok (.if_icmp .ne 55, 3) := by decide +kernel
theorem dL_isHour_174 : decode cL_isHour 174 = .ok (.iload 8, 2) := by decide +kernel
theorem dL_isHour_176 : decode cL_isHour 176 = .ok (.iload 7, 2) := by decide +kernel
theorem dL_isHour_178 : decode cL_isHour 178 = .ok (.if_icmp .ne 48, 3) := by decide +kernel
theorem dL_isHour_181 : decode cL_isHour 181 = .ok (.iload 8, 2) := by decide +kernel
theorem dL_isHour_183 : decode cL_isHour 183 = .ok (.iload 6, 2) := by decide +kernel
theorem dL_isHour_185 : decode cL_isHour 185 = .ok (.if_icmp .gt 41, 3) := by decide +kernel
theorem dL_isHour_188 : decode cL_isHour 188 = .ok (.iload 6, 2) := by decide +kernel
theorem dL_isHour_190 : decode cL_isHour 190 = .ok (.aload 4, 2) := by decide +kernel
theorem dL_isHour_192 : decode cL_isHour 192 = .ok (.iconst 2, 1) := by decide +kernel
theorem dL_isHour_193 : decode cL_isHour 193 = .ok (.iaload, 1) := by decide +kernel
theorem dL_isHour_194 : decode cL_isHour 194 = .ok (.if_icmp .le 19, 3) := by decide +kernel
theorem dL_isHour_197 : decode cL_isHour 197 = .ok (.aload_n 0, 1) := by decide +kernel
theorem dL_isHour_198 : decode cL_isHour 198 = .ok (.invokevirtual 42, 3) := by decide +kernel
theorem dL_isHour_201 : decode cL_isHour 201 = .ok (.ifCond .lt 25, 3) := by decide +kernel
theorem dL_isHour_204 : decode cL_isHour 204 = .ok (.aload_n 0, 1) := by decide +kernel
theorem dL_isHour_205 : decode cL_isHour 205 = .ok (.invokevirtual 42, 3) := by decide +kernel
theorem dL_isHour_208 : decode cL_isHour 208 = .ok (.iload 5, 2) := by decide +kernel
theorem dL_isHour_210 : decode cL_isHour 210 = .ok (.if_icmp .gt 16, 3) := by decide +kernel
theorem dL_isHour_213 : decode cL_isHour 213 = .ok (.aload_n 0, 1) := by decide +kernel
theorem dL_isHour_214 : decode cL_isHour 214 = .ok (.invokevirtual 46, 3) := by decide +kernel
theorem dL_isHour_217 : decode cL_isHour 217 = .ok (.iload 6, 2) := by decide +kernel
theorem dL_isHour_219 : decode cL_isHour 219 = .ok (.if_icmp .lt 7, 3) := by decide +kernel
theorem dL_isHour_222 : decode cL_isHour 222 = .ok (.iconst 1, 1) := by decide +kernel
theorem dL_isHour_223 : decode cL_isHour 223 = .ok (.goto 4, 3) := by decide +kernel
theorem dL_isHour_226 : decode cL_isHour 226 = .ok (.iconst 0, 1) := by decide +kernel
theorem dL_isHour_227 : decode cL_isHour 227 = .ok (.ireturn, 1) := by decide +kernel
set_option maxRecDepth 20000 in
theorem ggL_law_X1_init : GoodIn wsL_law wsX1_init := goodIn_r _ [6, 7, 8, 9, 3, 10, 11, 12, 13, 14, 15, 16, 17, 18, 19, 20, 21, 22, 23, 24, 25, 26, 2, 27, 28, 29, 30, 31, 250, 251, 252, 253, 254, 255, 256, 257, 258] (by decide +kernel) (by decide +kernel)
set_option maxRecDepth 20000 in
theorem gL_law_X1_init : GoodIn wsL_law (wsX1_init) := ggL_law_X1_init
set_option maxRecDepth 20000 in
theorem ggL_law_L_cell : GoodIn wsL_law wsL_cell := goodIn_r _ [35] (by decide +kernel) (by decide +kernel)
set_option maxRecDepth 20000 in
theorem gL_law_L_cell : GoodIn wsL_law (va_wsS RL 50 yL_cell wsL_cell) := goodIn_app (goodIn_of _ (by decide +kernel)) ggL_law_L_cell
set_option maxRecDepth 20000 in
theorem ggL_law_L_low : GoodIn wsL_law wsL_low := goodIn_r _ [38, 39] (by decide +kernel) (by decide +kernel)
set_option maxRecDepth 20000 in
theorem gL_law_L_low : GoodIn wsL_law (va_wsS RL 54 yL_low wsL_low) := goodIn_app (goodIn_of _ (by decide +kernel)) ggL_law_L_low
set_option maxRecDepth 20000 in
theorem ggL_law_X1_pours : GoodIn wsL_law wsX1_pours := goodIn_r _ [43, 15, 250, 251, 252, 253, 254, 255, 256, 257, 258] (by decide +kernel) (by decide +kernel)
set_option maxRecDepth 20000 in
theorem gL_law_X1_pours : GoodIn wsL_law (wsV RL 57 RX1 yX1_pours wsX1_pours) := goodIn_app (goodIn_of _ (by decide +kernel)) ggL_law_X1_pours
set_option maxRecDepth 20000 in
theorem ggL_law_X1_plan : GoodIn wsL_law wsX1_plan := goodIn_ca (goodIn_ca (goodIn_r _ [47, 48, 49, 14, 50, 51, 15, 52, 53, 2, 54, 55, 56, 57, 58, 59, 60, 61, 62, 63, 64, 65, 66, 67, 68, 69, 70, 71, 72, 8, 9, 3, 73, 74, 75, 76, 77, 78, 79, 80, 81, 82, 83, 84, 85, 86, 17, 87, 88, 89, 90, 91, 92, 93, 94, 95, 96, 97, 98, 99, 100, 101, 102, 103, 104, 30, 105, 11, 106, 107, 108, 109, 110, 111, 112, 113, 18, 28, 29, 31, 114, 115, 116, 117, 19, 259, 260, 261, 262, 263, 264, 265, 266, 267, 268, 269, 270, 271, 250, 251, 252, 253, 254, 255, 256, 257, 258] (by decide +kernel) (by decide +kernel)) (goodIn_sub (fun _ h => List.mem_append_left _ (List.mem_append_left _ (List.mem_append_left _ (List.mem_append_right _ h)))) (by decide +kernel))) (goodIn_sub (fun _ h => List.mem_append_left _ (List.mem_append_left _ (List.mem_append_right _ h))) (by decide +kernel))
set_option maxRecDepth 20000 in
theorem gL_law_X1_plan : GoodIn wsL_law (wsV RL 60 RX1 yX1_plan wsX1_plan) := goodIn_app (goodIn_of _ (by decide +kernel)) ggL_law_X1_plan
set_option maxRecDepth 20000 in
theorem ggL_law_X1_cancel : GoodIn wsL_law wsX1_cancel := goodIn_ca (goodIn_r _ [121, 15, 122, 123, 124, 2, 125, 126, 127, 67, 68, 69, 250, 251, 252, 253, 254, 255, 256, 257, 258, 259, 260, 261, 262, 263, 264, 265, 266, 267, 268, 269, 270, 271] (by decide +kernel) (by decide +kernel)) (goodIn_sub (fun _ h => List.mem_append_left _ (List.mem_append_right _ h)) (by decide +kernel))
set_option maxRecDepth 20000 in
theorem gL_law_X1_cancel : GoodIn wsL_law (wsV RL 64 RX1 yX1_cancel wsX1_cancel) := goodIn_app (goodIn_of _ (by decide +kernel)) ggL_law_X1_cancel
set_option maxRecDepth 20000 in
theorem ggL_law_X1_move : GoodIn wsL_law wsX1_move := goodIn_ca (goodIn_ca (goodIn_r _ [131, 122, 123, 124, 2, 125, 126, 127, 15, 67, 68, 69, 55, 56, 57, 58, 59, 60, 61, 62, 79, 80, 81, 82, 83, 84, 85, 86, 17, 87, 88, 89, 90, 91, 51, 92, 93, 94, 74, 95, 96, 97, 98, 99, 100, 101, 102, 103, 104, 30, 105, 11, 106, 107, 108, 109, 110, 111, 112, 113, 18, 28, 29, 31, 114, 115, 116, 117, 19, 259, 260, 261, 262, 263, 264, 265, 266, 267, 268, 269, 270, 271, 250, 251, 252, 253, 254, 255, 256, 257, 258] (by decide +kernel) (by decide +kernel)) (goodIn_sub (fun _ h => List.mem_append_left _ (List.mem_append_right _ h)) (by decide +kernel))) (goodIn_sub (fun _ h => List.mem_append_left _ (List.mem_append_left _ (List.mem_append_right _ h))) (by decide +kernel))
set_option maxRecDepth 20000 in
theorem gL_law_X1_move : GoodIn wsL_law (wsV RL 67 RX1 yX1_move wsX1_move) := goodIn_app (goodIn_of _ (by decide +kernel)) ggL_law_X1_move
set_option maxRecDepth 20000 in
theorem ggL_law_X1_setTemperature : GoodIn wsL_law wsX1_setTemperature := goodIn_ca (goodIn_ca (goodIn_r _ [135, 10, 136, 137, 2, 138, 139, 140, 141, 142, 143, 58, 59, 60, 61, 62, 55, 56, 57, 24, 25, 26, 27, 11, 28, 29, 30, 31, 144, 145, 146, 147, 15, 79, 80, 81, 82, 83, 84, 85, 86, 17, 87, 88, 89, 90, 91, 51, 92, 93, 94, 74, 95, 96, 97, 98, 99, 100, 101, 102, 103, 104, 105, 106, 107, 108, 109, 110, 111, 112, 113, 18, 114, 115, 116, 117, 19, 250, 251, 252, 253, 254, 255, 256, 257, 258, 259, 260, 261, 262, 263, 264, 265, 266, 267, 268, 269, 270, 271] (by decide +kernel) (by decide +kernel)) (goodIn_sub (fun _ h => List.mem_append_right _ h) (by decide +kernel))) (goodIn_sub (fun _ h => List.mem_append_left _ (List.mem_append_left _ (List.mem_append_right _ h))) (by decide +kernel))
set_option maxRecDepth 20000 in
theorem gL_law_X1_setTemperature : GoodIn wsL_law (wsV RL 70 RX1 yX1_setTemperature wsX1_setTemperature) := goodIn_app (goodIn_of _ (by decide +kernel)) ggL_law_X1_setTemperature
set_option maxRecDepth 20000 in
theorem ggL_law_X1_setRates : GoodIn wsL_law wsX1_setRates := goodIn_ca (goodIn_r _ [151, 103, 104, 30, 105, 17, 55, 56, 2, 57, 58, 59, 60, 61, 62, 144, 145, 146, 147, 15, 79, 80, 81, 82, 83, 84, 85, 86, 87, 88, 89, 90, 91, 51, 92, 93, 94, 74, 95, 96, 97, 98, 99, 100, 101, 102, 11, 106, 107, 108, 109, 110, 111, 112, 113, 18, 28, 29, 31, 114, 115, 116, 117, 19, 250, 251, 252, 253, 254, 255, 256, 257, 258, 259, 260, 261, 262, 263, 264, 265, 266, 267, 268, 269, 270, 271] (by decide +kernel) (by decide +kernel)) (goodIn_sub (fun _ h => List.mem_append_left _ (List.mem_append_left _ (List.mem_append_right _ h))) (by decide +kernel))
set_option maxRecDepth 20000 in
theorem gL_law_X1_setRates : GoodIn wsL_law (wsV RL 74 RX1 yX1_setRates wsX1_setRates) := goodIn_app (goodIn_of _ (by decide +kernel)) ggL_law_X1_setRates
set_option maxRecDepth 20000 in
theorem ggL_law_X1_setCrew : GoodIn wsL_law wsX1_setCrew := goodIn_ca (goodIn_r _ [155, 18, 19, 55, 56, 2, 57, 58, 59, 60, 61, 62, 144, 145, 146, 147, 15, 79, 80, 81, 82, 83, 84, 85, 86, 17, 87, 88, 89, 90, 91, 51, 92, 93, 94, 74, 95, 96, 97, 98, 99, 100, 101, 102, 103, 104, 30, 105, 11, 106, 107, 108, 109, 110, 111, 112, 113, 28, 29, 31, 114, 115, 116, 117, 250, 251, 252, 253, 254, 255, 256, 257, 258, 259, 260, 261, 262, 263, 264, 265, 266, 267, 268, 269, 270, 271] (by decide +kernel) (by decide +kernel)) (goodIn_sub (fun _ h => List.mem_append_left _ (List.mem_append_left _ (List.mem_append_right _ h))) (by decide +kernel))
set_option maxRecDepth 20000 in
theorem gL_law_X1_setCrew : GoodIn wsL_law (wsV RL 77 RX1 yX1_setCrew wsX1_setCrew) := goodIn_app (goodIn_of _ (by decide +kernel)) ggL_law_X1_setCrew
set_option maxRecDepth 20000 in
theorem ggL_law_X1_setPanels : GoodIn wsL_law wsX1_setPanels := goodIn_ca (goodIn_r _ [159, 16, 55, 56, 2, 57, 58, 59, 60, 61, 62, 250, 251, 252, 253, 254, 255, 256, 257, 258] (by decide +kernel) (by decide +kernel)) (goodIn_sub (fun _ h => List.mem_append_left _ (List.mem_append_left _ (List.mem_append_right _ h))) (by decide +kernel))
set_option maxRecDepth 20000 in
theorem gL_law_X1_setPanels : GoodIn wsL_law (wsV RL 81 RX1 yX1_setPanels wsX1_setPanels) := goodIn_app (goodIn_of _ (by decide +kernel)) ggL_law_X1_setPanels
set_option maxRecDepth 20000 in
theorem ggL_law_X1_peak : GoodIn wsL_law wsX1_peak := goodIn_r _ [163, 12, 28, 29, 30, 31, 164, 165, 166, 2, 167, 168, 169, 170, 171, 15, 172, 51, 173, 174, 175, 176, 250, 251, 252, 253, 254, 255, 256, 257, 258, 259, 260, 261, 262, 263, 264, 265, 266, 267, 268, 269, 270, 271] (by decide +kernel) (by decide +kernel)
set_option maxRecDepth 20000 in
theorem gL_law_X1_peak : GoodIn wsL_law (wsV RL 46 RX1 yX1_peak wsX1_peak) := goodIn_app (goodIn_of _ (by decide +kernel)) ggL_law_X1_peak
set_option maxRecDepth 20000 in
theorem ggL_law_X1_peakByOverlaps : GoodIn wsL_law wsX1_peakByOverlaps := goodIn_r _ [180, 15, 28, 29, 30, 31, 168, 169, 170, 2, 171, 172, 51, 173, 174, 175, 176, 250, 251, 252, 253, 254, 255, 256, 257, 258, 259, 260, 261, 262, 263, 264, 265, 266, 267, 268, 269, 270, 271] (by decide +kernel) (by decide +kernel)
set_option maxRecDepth 20000 in
theorem gL_law_X1_peakByOverlaps : GoodIn wsL_law (wsV RL 84 RX1 yX1_peakByOverlaps wsX1_peakByOverlaps) := goodIn_app (goodIn_of _ (by decide +kernel)) ggL_law_X1_peakByOverlaps
set_option maxRecDepth 20000 in
theorem ggL_law_X1_firstShort : GoodIn wsL_law wsX1_firstShort := goodIn_r _ [184, 12, 16, 164, 165, 166, 2, 167, 168, 169, 170, 171, 15, 172, 51, 173, 174, 175, 176, 250, 251, 252, 253, 254, 255, 256, 257, 258, 259, 260, 261, 262, 263, 264, 265, 266, 267, 268, 269, 270, 271] (by decide +kernel) (by decide +kernel)
set_option maxRecDepth 20000 in
theorem gL_law_X1_firstShort : GoodIn wsL_law (wsV RL 42 RX1 yX1_firstShort wsX1_firstShort) := goodIn_app (goodIn_of _ (by decide +kernel)) ggL_law_X1_firstShort
set_option maxRecDepth 20000 in
theorem ggL_law_L_isStruck : GoodIn wsL_law wsL_isStruck := goodIn_ca (goodIn_ca (goodIn_ca (goodIn_r _ [187, 188, 189, 190, 2, 191, 122, 123, 124, 125, 126, 127, 15, 67, 68, 69, 192, 193, 194, 195, 196, 197, 198, 199, 200, 201, 202, 203, 136, 137, 138, 139, 140, 141, 142, 143, 99, 100, 101, 102, 103, 104, 30, 105, 11, 204, 205, 206, 207, 208, 55, 56, 57, 58, 59, 60, 61, 62, 106, 107, 108, 109, 259, 260, 261, 262, 263, 264, 265, 266, 267, 268, 269, 270, 271, 250, 251, 252, 253, 254, 255, 256, 257, 258] (by decide +kernel) (by decide +kernel)) (goodIn_sub (fun _ h => List.mem_append_left _ (List.mem_append_right _ h)) (by decide +kernel))) (goodIn_sub (fun _ h => List.mem_append_right _ h) (by decide +kernel))) (goodIn_sub (fun _ h => List.mem_append_left _ (List.mem_append_left _ (List.mem_append_right _ h))) (by decide +kernel))
set_option maxRecDepth 20000 in
theorem gL_law_L_isStruck : GoodIn wsL_law (va_wsS RL 87 yL_isStruck wsL_isStruck) := goodIn_app (goodIn_of _ (by decide +kernel)) ggL_law_L_isStruck
set_option maxRecDepth 20000 in
theorem ggL_law_X1_panelsOf : GoodIn wsL_law wsX1_panelsOf := goodIn_ca (goodIn_r _ [212, 122, 123, 124, 2, 125, 126, 127, 15, 67, 68, 69, 213, 214, 215, 216, 217, 218, 219, 220, 221, 222, 223, 224, 172, 51, 173, 174, 175, 176, 225, 226, 227, 228, 16, 229, 230, 231, 232, 233, 234, 235, 259, 260, 261, 262, 263, 264, 265, 266, 267, 268, 269, 270, 271, 250, 251, 252, 253, 254, 255, 256, 257, 258] (by decide +kernel) (by decide +kernel)) (goodIn_sub (fun _ h => List.mem_append_left _ (List.mem_append_right _ h)) (by decide +kernel))
set_option maxRecDepth 20000 in
theorem gL_law_X1_panelsOf : GoodIn wsL_law (wsV RL 33 RX1 yX1_panelsOf wsX1_panelsOf) := goodIn_app (goodIn_of _ (by decide +kernel)) ggL_law_X1_panelsOf
set_option maxRecDepth 20000 in
theorem ggL_law_L_isHour : GoodIn wsL_law wsL_isHour := goodIn_ca (goodIn_ca (goodIn_r _ [238, 239, 240, 34, 241, 196, 197, 198, 2, 199, 122, 123, 124, 125, 126, 127, 15, 67, 68, 69, 209, 210, 211, 212, 213, 214, 215, 216, 217, 218, 219, 220, 221, 222, 223, 224, 172, 51, 173, 174, 175, 176, 225, 226, 227, 228, 16, 229, 230, 231, 232, 233, 234, 235, 242, 243, 244, 245, 139, 140, 136, 137, 138, 141, 142, 143, 246, 247, 248, 249, 168, 169, 170, 171, 181, 182, 183, 184, 12, 164, 165, 166, 167, 160, 161, 162, 163, 28, 29, 30, 31, 259, 260, 261, 262, 263, 264, 265, 266, 267, 268, 269, 270, 271, 250, 251, 252, 253, 254, 255, 256, 257, 258] (by decide +kernel) (by decide +kernel)) (goodIn_sub (fun _ h => List.mem_append_left _ (List.mem_append_right _ h)) (by decide +kernel))) (goodIn_sub (fun _ h => List.mem_append_right _ h) (by decide +kernel))
set_option maxRecDepth 20000 in
theorem gL_law_L_isHour : GoodIn wsL_law (va_wsS RL 91 yL_isHour wsL_isHour) := goodIn_app (goodIn_of _ (by decide +kernel)) ggL_law_L_isHour
theorem dL_law_0 : decode cL_law 0 = .ok (.new 9, 3) := by decide +kernel
theorem dL_law_3 : decode cL_law 3 = .ok (.dup, 1) := by decide +kernel
theorem dL_law_4 : decode cL_law 4 = .ok (.invokespecial 49, 3) := by decide +kernel
theorem dL_law_7 : decode cL_law 7 = .ok (.astore_n 1, 1) := by decide +kernel
theorem dL_law_8 : decode cL_law 8 = .ok (.bipush 10, 2) := by decide +kernel
theorem dL_law_10 : decode cL_law 10 = .ok (.newarray .int, 2) := by decide +kernel
theorem dL_law_12 : decode cL_law 12 = .ok (.astore_n 2, 1) := by decide +kernel
theorem dL_law_13 : decode cL_law 13 = .ok (.bipush 10, 2) := by decide +kernel
theorem dL_law_15 : decode cL_law 15 = .ok (.newarray .int, 2) := by decide +kernel
theorem dL_law_17 : decode cL_law 17 = .ok (.astore_n 3, 1) := by decide +kernel
theorem dL_law_18 : decode cL_law 18 = .ok (.bipush 10, 2) := by decide +kernel
theorem dL_law_20 : decode cL_law 20 = .ok (.newarray .int, 2) := by decide +kernel
theorem dL_law_22 : decode cL_law 22 = .ok (.astore 4, 2) := by decide +kernel
theorem dL_law_24 : decode cL_law 24 = .ok (.bipush 10, 2) := by decide +kernel
theorem dL_law_26 : decode cL_law 26 = .ok (.newarray .int, 2) := by decide +kernel
theorem dL_law_28 : decode cL_law 28 = .ok (.astore 5, 2) := by decide +kernel
theorem dL_law_30 : decode cL_law 30 = .ok (.iconst 3, 1) := by decide +kernel
theorem dL_law_31 : decode cL_law 31 = .ok (.newarray .int, 2) := by decide +kernel
theorem dL_law_33 : decode cL_law 33 = .ok (.astore 6, 2) := by decide +kernel
theorem dL_law_35 : decode cL_law 35 = .ok (.aload 6, 2) := by decide +kernel
theorem dL_law_37 : decode cL_law 37 = .ok (.iconst 0, 1) := by decide +kernel
theorem dL_law_38 : decode cL_law 38 = .ok (.iconst 2, 1) := by decide +kernel
theorem dL_law_39 : decode cL_law 39 = .ok (.iastore, 1) := by decide +kernel
theorem dL_law_40 : decode cL_law 40 = .ok (.aload 6, 2) := by decide +kernel
theorem dL_law_42 : decode cL_law 42 = .ok (.iconst 1, 1) := by decide +kernel
theorem dL_law_43 : decode cL_law 43 = .ok (.iconst 3, 1) := by decide +kernel
theorem dL_law_44 : decode cL_law 44 = .ok (.iastore, 1) := by decide +kernel
theorem dL_law_45 : decode cL_law 45 = .ok (.aload 6, 2) := by decide +kernel
theorem dL_law_47 : decode cL_law 47 = .ok (.iconst 2, 1) := by decide +kernel
theorem dL_law_48 : decode cL_law 48 = .ok (.bipush 20, 2) := by decide +kernel
theorem dL_law_50 : decode cL_law 50 = .ok (.iastore, 1) := by decide +kernel
theorem dL_law_51 : decode cL_law 51 = .ok (.iconst 0, 1) := by decide +kernel
theorem dL_law_52 : decode cL_law 52 = .ok (.istore 7, 2) := by decide +kernel
theorem dL_law_54 : decode cL_law 54 = .ok (.iload 7, 2) := by decide +kernel
theorem dL_law_56 : decode cL_law 56 = .ok (.bipush 40, 2) := by decide +kernel
theorem dL_law_58 : decode cL_law 58 = .ok (.if_icmp .ge 594, 3) := by decide +kernel
theorem dL_law_61 : decode cL_law 61 = .ok (.aload_n 0, 1) := by decide +kernel
theorem dL_law_62 : decode cL_law 62 = .ok (.iconst 2, 1) := by decide +kernel
theorem dL_law_63 : decode cL_law 63 = .ok (.iload 7, 2) := by decide +kernel
theorem dL_law_65 : decode cL_law 65 = .ok (.imul, 1) := by decide +kernel
theorem dL_law_66 : decode cL_law 66 = .ok (.invokestatic 50, 3) := by decide +kernel
theorem dL_law_69 : decode cL_law 69 = .ok (.istore 8, 2) := by decide +kernel
theorem dL_law_71 : decode cL_law 71 = .ok (.aload_n 0, 1) := by decide +kernel
theorem dL_law_72 : decode cL_law 72 = .ok (.iconst 2, 1) := by decide +kernel
theorem dL_law_73 : decode cL_law 73 = .ok (.iload 7, 2) := by decide +kernel
theorem dL_law_75 : decode cL_law 75 = .ok (.imul, 1) := by decide +kernel
theorem dL_law_76 : decode cL_law 76 = .ok (.iconst 1, 1) := by decide +kernel
theorem dL_law_77 : decode cL_law 77 = .ok (.iadd, 1) := by decide +kernel
theorem dL_law_78 : decode cL_law 78 = .ok (.invokestatic 50, 3) := by decide +kernel
theorem dL_law_81 : decode cL_law 81 = .ok (.istore 9, 2) := by decide +kernel
theorem dL_law_83 : decode cL_law 83 = .ok (.iload 8, 2) := by decide +kernel
theorem dL_law_85 : decode cL_law 85 = .ok (.bipush 12, 2) := by decide +kernel
theorem dL_law_87 : decode cL_law 87 = .ok (.invokestatic 54, 3) := by decide +kernel
theorem dL_law_90 : decode cL_law 90 = .ok (.istore 10, 2) := by decide +kernel
theorem dL_law_92 : decode cL_law 92 = .ok (.iload 9, 2) := by decide +kernel
theorem dL_law_94 : decode cL_law 94 = .ok (.bipush 10, 2) := by decide +kernel
theorem dL_law_96 : decode cL_law 96 = .ok (.invokestatic 54, 3) := by decide +kernel
theorem dL_law_99 : decode cL_law 99 = .ok (.istore 11, 2) := by decide +kernel
theorem dL_law_101 : decode cL_law 101 = .ok (.iload 10, 2) := by decide +kernel
theorem dL_law_103 : decode cL_law 103 = .ok (.iconst 4, 1) := by decide +kernel
theorem dL_law_104 : decode cL_law 104 = .ok (.if_icmp .ge 145, 3) := by decide +kernel
theorem dL_law_107 : decode cL_law 107 = .ok (.aload_n 1, 1) := by decide +kernel
theorem dL_law_108 : decode cL_law 108 = .ok (.invokevirtual 57, 3) := by decide +kernel
theorem dL_law_111 : decode cL_law 111 = .ok (.bipush 10, 2) := by decide +kernel
theorem dL_law_113 : decode cL_law 113 = .ok (.if_icmp .ge 136, 3) := by decide +kernel
theorem dL_law_116 : decode cL_law 116 = .ok (.iload 8, 2) := by decide +kernel
theorem dL_law_118 : decode cL_law 118 = .ok (.iconst 4, 1) := by decide +kernel
theorem dL_law_119 : decode cL_law 119 = .ok (.ishr, 1) := by decide +kernel
theorem dL_law_120 : decode cL_law 120 = .ok (.iconst 4, 1) := by decide +kernel
theorem dL_law_121 : decode cL_law 121 = .ok (.invokestatic 54, 3) := by decide +kernel
theorem dL_law_124 : decode cL_law 124 = .ok (.ifCond .ne 14, 3) := by decide +kernel
theorem dL_law_127 : decode cL_law 127 = .ok (.iload 9, 2) := by decide +kernel
theorem dL_law_129 : decode cL_law 129 = .ok (.sipush 901, 3) := by decide +kernel
theorem dL_law_132 : decode cL_law 132 = .ok (.invokestatic 54, 3) := by decide +kernel
theorem dL_law_135 : decode cL_law 135 = .ok (.goto 10, 3) := by decide +kernel
theorem dL_law_138 : decode cL_law 138 = .ok (.iload 9, 2) := by decide +kernel
theorem dL_law_140 : decode cL_law 140 = .ok (.bipush 60, 2) := by decide +kernel
theorem dL_law_142 : decode cL_law 142 = .ok (.invokestatic 54, 3) := by decide +kernel
theorem dL_law_145 : decode cL_law 145 = .ok (.istore 12, 2) := by decide +kernel
theorem dL_law_147 : decode cL_law 147 = .ok (.iconst 1, 1) := by decide +kernel
theorem dL_law_148 : decode cL_law 148 = .ok (.iload 9, 2) := by decide +kernel
theorem dL_law_150 : decode cL_law 150 = .ok (.bipush 10, 2) := by decide +kernel
theorem dL_law_152 : decode cL_law 152 = .ok (.ishr, 1) := by decide +kernel
theorem dL_law_153 : decode cL_law 153 = .ok (.bipush 12, 2) := by decide +kernel
theorem dL_law_155 : decode cL_law 155 = .ok (.invokestatic 54, 3) := by decide +kernel
theorem dL_law_158 : decode cL_law 158 = .ok (.iadd, 1) := by decide +kernel
theorem dL_law_159 : decode cL_law 159 = .ok (.istore 13, 2) := by decide +kernel
theorem dL_law_161 : decode cL_law 161 = .ok (.iconst 1, 1) := by decide +kernel
theorem dL_law_162 : decode cL_law 162 = .ok (.iload 9, 2) := by decide +kernel
theorem dL_law_164 : decode cL_law 164 = .ok (.bipush 14, 2) := by decide +kernel
theorem dL_law_166 : decode cL_law 166 = .ok (.ishr, 1) := by decide +kernel
theorem dL_law_167 : decode cL_law 167 = .ok (.bipush 100, 2) := by decide +kernel
theorem dL_law_169 : decode cL_law 169 = .ok (.invokestatic 54, 3) := by decide +kernel
theorem dL_law_172 : decode cL_law 172 = .ok (.iadd, 1) := by decide +kernel
theorem dL_law_173 : decode cL_law 173 = .ok (.istore 14, 2) := by decide +kernel
theorem dL_law_175 : decode cL_law 175 = .ok (.aload_n 1, 1) := by decide +kernel
theorem dL_law_176 : decode cL_law 176 = .ok (.iload 12, 2) := by decide +kernel
theorem dL_law_178 : decode cL_law 178 = .ok (.iconst 1, 1) := by decide +kernel
theorem dL_law_179 : decode cL_law 179 = .ok (.iload 9, 2) := by decide +kernel
theorem dL_law_181 : decode cL_law 181 = .ok (.bipush 21, 2) := by decide +kernel
theorem dL_law_183 : decode cL_law 183 = .ok (.ishr, 1) := by decide +kernel
theorem dL_law_184 : decode cL_law 184 = .ok (.bipush 90, 2) := by decide +kernel
theorem dL_law_186 : decode cL_law 186 = .ok (.invokestatic 54, 3) := by decide +kernel
theorem dL_law_189 : decode cL_law 189 = .ok (.iadd, 1) := by decide +kernel
theorem dL_law_190 : decode cL_law 190 = .ok (.iload 13, 2) := by decide +kernel
theorem dL_law_192 : decode cL_law 192 = .ok (.iload 14, 2) := by decide +kernel
theorem dL_law_194 : decode cL_law 194 = .ok (.invokevirtual 60, 3) := by decide +kernel
theorem dL_law_197 : decode cL_law 197 = .ok (.istore 15, 2) := by decide +kernel
theorem dL_law_199 : decode cL_law 199 = .ok (.iload 15, 2) := by decide +kernel
theorem dL_law_201 : decode cL_law 201 = .ok (.ifCond .lt 18, 3) := by decide +kernel
theorem dL_law_204 : decode cL_law 204 = .ok (.iload 15, 2) := by decide +kernel
theorem dL_law_206 : decode cL_law 206 = .ok (.bipush 9, 2) := by decide +kernel
theorem dL_law_208 : decode cL_law 208 = .ok (.if_icmp .gt 11, 3) := by decide +kernel
theorem dL_law_211 : decode cL_law 211 = .ok (.aload_n 2, 1) := by decide +kernel
theorem dL_law_212 : decode cL_law 212 = .ok (.iload 15, 2) := by decide +kernel
theorem dL_law_214 : decode cL_law 214 = .ok (.iaload, 1) := by decide +kernel
theorem dL_law_215 : decode cL_law 215 = .ok (.iconst 1, 1) := by decide +kernel
theorem dL_law_216 : decode cL_law 216 = .ok (.if_icmp .ne 5, 3) := by decide +kernel
theorem dL_law_219 : decode cL_law 219 = .ok (.iconst 0, 1) := by decide +kernel
theorem dL_law_220 : decode cL_law 220 = .ok (.ireturn, 1) := by decide +kernel
theorem dL_law_221 : decode cL_law 221 = .ok (.aload_n 2, 1) := by decide +kernel
theorem dL_law_222 : decode cL_law 222 = .ok (.iload 15, 2) := by decide +kernel
theorem dL_law_224 : decode cL_law 224 = .ok (.iconst 1, 1) := by decide +kernel
theorem dL_law_225 : decode cL_law 225 = .ok (.iastore, 1) := by decide +kernel
theorem dL_law_226 : decode cL_law 226 = .ok (.aload_n 3, 1) := by decide +kernel
theorem dL_law_227 : decode cL_law 227 = .ok (.iload 15, 2) := by decide +kernel
theorem dL_law_229 : decode cL_law 229 = .ok (.iload 13, 2) := by decide +kernel
theorem dL_law_231 : decode cL_law 231 = .ok (.iastore, 1) := by decide +kernel
theorem dL_law_232 : decode cL_law 232 = .ok (.aload 4, 2) := by decide +kernel
theorem dL_law_234 : decode cL_law 234 = .ok (.iload 15, 2) := by decide +kernel
theorem dL_law_236 : decode cL_law 236 = .ok (.iload 14, 2) := by decide +kernel
theorem dL_law_238 : decode cL_law 238 = .ok (.iastore, 1) := by decide +kernel
theorem dL_law_239 : decode cL_law 239 = .ok (.aload 5, 2) := by decide +kernel
theorem dL_law_241 : decode cL_law 241 = .ok (.iload 15, 2) := by decide +kernel
theorem dL_law_243 : decode cL_law 243 = .ok (.iload 12, 2) := by decide +kernel
theorem dL_law_245 : decode cL_law 245 = .ok (.iastore, 1) := by decide +kernel
theorem dL_law_246 : decode cL_law 246 = .ok (.goto 260, 3) := by decide +kernel
theorem dL_law_249 : decode cL_law 249 = .ok (.iload 10, 2) := by decide +kernel
theorem dL_law_251 : decode cL_law 251 = .ok (.iconst 4, 1) := by decide +kernel
theorem dL_law_252 : decode cL_law 252 = .ok (.if_icmp .ne 31, 3) := by decide +kernel
theorem dL_law_255 : decode cL_law 255 = .ok (.aload_n 2, 1) := by decide +kernel
theorem dL_law_256 : decode cL_law 256 = .ok (.iload 11, 2) := by decide +kernel
theorem dL_law_258 : decode cL_law 258 = .ok (.iaload, 1) := by decide +kernel
theorem dL_law_259 : decode cL_law 259 = .ok (.iconst 1, 1) := by decide +kernel
theorem dL_law_260 : decode cL_law 260 = .ok (.if_icmp .ne 23, 3) := by decide +kernel
theorem dL_law_263 : decode cL_law 263 = .ok (.aload_n 2, 1) := by decide +kernel
theorem dL_law_264 : decode cL_law 264 = .ok (.iload 11, 2) := by decide +kernel
theorem dL_law_266 : decode cL_law 266 = .ok (.iconst 0, 1) := by decide +kernel
theorem dL_law_267 : decode cL_law 267 = .ok (.iastore, 1) := by decide +kernel
theorem dL_law_268 : decode cL_law 268 = .ok (.aload_n 1, 1) := by decide +kernel
theorem dL_law_269 : decode cL_law 269 = .ok (.iload 11, 2) := by decide +kernel
theorem dL_law_271 : decode cL_law 271 = .ok (.invokevirtual 64, 3) := by decide +kernel
theorem dL_law_274 : decode cL_law 274 = .ok (.aload_n 3, 1) := by decide +kernel
theorem dL_law_275 : decode cL_law 275 = .ok (.iload 11, 2) := by decide +kernel
theorem dL_law_277 : decode cL_law 277 = .ok (.iaload, 1) := by decide +kernel
theorem dL_law_278 : decode cL_law 278 = .ok (.if_icmp .eq 228, 3) := by decide +kernel
theorem dL_law_281 : decode cL_law 281 = .ok (.iconst 0, 1) := by decide +kernel
theorem dL_law_282 : decode cL_law 282 = .ok (.ireturn, 1) := by decide +kernel
theorem dL_law_283 : decode cL_law 283 = .ok (.iload 10, 2) := by decide +kernel
theorem dL_law_285 : decode cL_law 285 = .ok (.iconst 5, 1) := by decide +kernel
theorem dL_law_286 : decode cL_law 286 = .ok (.if_icmp .ne 50, 3) := by decide +kernel
theorem dL_law_289 : decode cL_law 289 = .ok (.aload_n 2, 1) := by decide +kernel
theorem dL_law_290 : decode cL_law 290 = .ok (.iload 11, 2) := by decide +kernel
theorem dL_law_292 : decode cL_law 292 = .ok (.iaload, 1) := by decide +kernel
theorem dL_law_293 : decode cL_law 293 = .ok (.iconst 1, 1) := by decide +kernel
theorem dL_law_294 : decode cL_law 294 = .ok (.if_icmp .ne 42, 3) := by decide +kernel
theorem dL_law_297 : decode cL_law 297 = .ok (.iload 9, 2) := by decide +kernel
theorem dL_law_299 : decode cL_law 299 = .ok (.iconst 4, 1) := by decide +kernel
theorem dL_law_300 : decode cL_law 300 = .ok (.ishr, 1) := by decide +kernel
theorem dL_law_301 : decode cL_law 301 = .ok (.bipush 120, 2) := by decide +kernel
theorem dL_law_303 : decode cL_law 303 = .ok (.invokestatic 54, 3) := by decide +kernel
theorem dL_law_306 : decode cL_law 306 = .ok (.istore 12, 2) := by decide +kernel
theorem dL_law_308 : decode cL_law 308 = .ok (.aload_n 1, 1) := by decide +kernel
theorem dL_law_309 : decode cL_law 309 = .ok (.iload 11, 2) := by decide +kernel
theorem dL_law_311 : decode cL_law 311 = .ok (.iload 12, 2) := by decide +kernel
theorem dL_law_313 : decode cL_law 313 = .ok (.invokevirtual 67, 3) := by decide +kernel
theorem dL_law_316 : decode cL_law 316 = .ok (.aload 5, 2) := by decide +kernel
theorem dL_law_318 : decode cL_law 318 = .ok (.iload 11, 2) := by decide +kernel
theorem dL_law_320 : decode cL_law 320 = .ok (.iaload, 1) := by decide +kernel
theorem dL_law_321 : decode cL_law 321 = .ok (.if_icmp .eq 5, 3) := by decide +kernel
theorem dL_law_324 : decode cL_law 324 = .ok (.iconst 0, 1) := by decide +kernel
theorem dL_law_325 : decode cL_law 325 = .ok (.ireturn, 1) := by decide +kernel
theorem dL_law_326 : decode cL_law 326 = .ok (.aload 5, 2) := by decide +kernel
theorem dL_law_328 : decode cL_law 328 = .ok (.iload 11, 2) := by decide +kernel
theorem dL_law_330 : decode cL_law 330 = .ok (.iload 12, 2) := by decide +kernel
theorem dL_law_332 : decode cL_law 332 = .ok (.iastore, 1) := by decide +kernel
theorem dL_law_333 : decode cL_law 333 = .ok (.goto 173, 3) := by decide +kernel
theorem dL_law_336 : decode cL_law 336 = .ok (.iload 10, 2) := by decide +kernel
theorem dL_law_338 : decode cL_law 338 = .ok (.bipush 6, 2) := by decide +kernel
theorem dL_law_340 : decode cL_law 340 = .ok (.if_icmp .ne 48, 3) := by decide +kernel
theorem dL_law_343 : decode cL_law 343 = .ok (.iload 9, 2) := by decide +kernel
theorem dL_law_345 : decode cL_law 345 = .ok (.sipush 200, 3) := by decide +kernel
theorem dL_law_348 : decode cL_law 348 = .ok (.invokestatic 54, 3) := by decide +kernel
theorem dL_law_351 : decode cL_law 351 = .ok (.istore 12, 2) := by decide +kernel
theorem dL_law_353 : decode cL_law 353 = .ok (.aload_n 1, 1) := by decide +kernel
theorem dL_law_354 : decode cL_law 354 = .ok (.iload 12, 2) := by decide +kernel
theorem dL_law_356 : decode cL_law 356 = .ok (.iload 12, 2) := by decide +kernel
theorem dL_law_358 : decode cL_law 358 = .ok (.iload 9, 2) := by decide +kernel
theorem dL_law_360 : decode cL_law 360 = .ok (.bipush 9, 2) := by decide +kernel
theorem dL_law_362 : decode cL_law 362 = .ok (.ishr, 1) := by decide +kernel
theorem dL_law_363 : decode cL_law 363 = .ok (.bipush 100, 2) := by decide +kernel
theorem dL_law_365 : decode cL_law 365 = .ok (.invokestatic 54, 3) := by decide +kernel
theorem dL_law_368 : decode cL_law 368 = .ok (.iadd, 1) := by decide +kernel
theorem dL_law_369 : decode cL_law 369 = .ok (.iload 9, 2) := by decide +kernel
theorem dL_law_371 : decode cL_law 371 = .ok (.bipush 16, 2) := by decide +kernel
theorem dL_law_373 : decode cL_law 373 = .ok (.ishr, 1) := by decide +kernel
theorem dL_law_374 : decode cL_law 374 = .ok (.bipush 70, 2) := by decide +kernel
theorem dL_law_376 : decode cL_law 376 = .ok (.invokestatic 54, 3) := by decide +kernel
theorem dL_law_379 : decode cL_law 379 = .ok (.bipush 30, 2) := by decide +kernel
theorem dL_law_381 : decode cL_law 381 = .ok (.isub, 1) := by decide +kernel
theorem dL_law_382 : decode cL_law 382 = .ok (.invokevirtual 70, 3) := by decide +kernel
theorem dL_law_385 : decode cL_law 385 = .ok (.goto 121, 3) := by decide +kernel
theorem dL_law_388 : decode cL_law 388 = .ok (.iload 10, 2) := by decide +kernel
theorem dL_law_390 : decode cL_law 390 = .ok (.bipush 7, 2) := by decide +kernel
theorem dL_law_392 : decode cL_law 392 = .ok (.if_icmp .ne 31, 3) := by decide +kernel
theorem dL_law_395 : decode cL_law 395 = .ok (.aload_n 1, 1) := by decide +kernel
theorem dL_law_396 : decode cL_law 396 = .ok (.iconst 1, 1) := by decide +kernel
theorem dL_law_397 : decode cL_law 397 = .ok (.iload 9, 2) := by decide +kernel
theorem dL_law_399 : decode cL_law 399 = .ok (.bipush 20, 2) := by decide +kernel
theorem dL_law_401 : decode cL_law 401 = .ok (.invokestatic 54, 3) := by decide +kernel
theorem dL_law_404 : decode cL_law 404 = .ok (.iadd, 1) := by decide +kernel
theorem dL_law_405 : decode cL_law 405 = .ok (.iconst 1, 1) := by decide +kernel
theorem dL_law_406 : decode cL_law 406 = .ok (.iload 9, 2) := by decide +kernel
theorem dL_law_408 : decode cL_law 408 = .ok (.iconst 5, 1) := by decide +kernel
theorem dL_law_409 : decode cL_law 409 = .ok (.ishr, 1) := by decide +kernel
theorem dL_law_410 : decode cL_law 410 = .ok (.bipush 20, 2) := by decide +kernel
theorem dL_law_412 : decode cL_law 412 = .ok (.invokestatic 54, 3) := by decide +kernel
theorem dL_law_415 : decode cL_law 415 = .ok (.iadd, 1) := by decide +kernel
theorem dL_law_416 : decode cL_law 416 = .ok (.invokevirtual 74, 3) := by decide +kernel
theorem dL_law_419 : decode cL_law 419 = .ok (.pop, 1) := by decide +kernel
theorem dL_law_420 : decode cL_law 420 = .ok (.goto 86, 3) := by decide +kernel
theorem dL_law_423 : decode cL_law 423 = .ok (.iload 10, 2) := by decide +kernel
theorem dL_law_425 : decode cL_law 425 = .ok (.bipush 8, 2) := by decide +kernel
theorem dL_law_427 : decode cL_law 427 = .ok (.if_icmp .ne 42, 3) := by decide +kernel
theorem dL_law_430 : decode cL_law 430 = .ok (.aload 6, 2) := by decide +kernel
theorem dL_law_432 : decode cL_law 432 = .ok (.iconst 0, 1) := by decide +kernel
theorem dL_law_433 : decode cL_law 433 = .ok (.iload 9, 2) := by decide +kernel
theorem dL_law_435 : decode cL_law 435 = .ok (.bipush 9, 2) := by decide +kernel
theorem dL_law_437 : decode cL_law 437 = .ok (.invokestatic 54, 3) := by decide +kernel
theorem dL_law_440 : decode cL_law 440 = .ok (.iastore, 1) := by decide +kernel
theorem dL_law_441 : decode cL_law 441 = .ok (.aload 6, 2) := by decide +kernel
theorem dL_law_443 : decode cL_law 443 = .ok (.iconst 1, 1) := by decide +kernel
theorem dL_law_444 : decode cL_law 444 = .ok (.iload 9, 2) := by decide +kernel
theorem dL_law_446 : decode cL_law 446 = .ok (.iconst 4, 1) := by decide +kernel
theorem dL_law_447 : decode cL_law 447 = .ok (.ishr, 1) := by decide +kernel
theorem dL_law_448 : decode cL_law 448 = .ok (.bipush 9, 2) := by decide +kernel
theorem dL_law_450 : decode cL_law 450 = .ok (.invokestatic 54, 3) := by decide +kernel
theorem dL_law_453 : decode cL_law 453 = .ok (.iastore, 1) := by decide +kernel
theorem dL_law_454 : decode cL_law 454 = .ok (.aload_n 1, 1) := by decide +kernel
theorem dL_law_455 : decode cL_law 455 = .ok (.aload 6, 2) := by decide +kernel
theorem dL_law_457 : decode cL_law 457 = .ok (.iconst 0, 1) := by decide +kernel
theorem dL_law_458 : decode cL_law 458 = .ok (.iaload, 1) := by decide +kernel
theorem dL_law_459 : decode cL_law 459 = .ok (.aload 6, 2) := by decide +kernel
theorem dL_law_461 : decode cL_law 461 = .ok (.iconst 1, 1) := by decide +kernel
theorem dL_law_462 : decode cL_law 462 = .ok (.iaload, 1) := by decide +kernel
theorem dL_law_463 : decode cL_law 463 = .ok (.invokevirtual 77, 3) := by decide +kernel
theorem dL_law_466 : decode cL_law 466 = .ok (.goto 40, 3) := by decide +kernel
theorem dL_law_469 : decode cL_law 469 = .ok (.iload 10, 2) := by decide +kernel
theorem dL_law_471 : decode cL_law 471 = .ok (.bipush 9, 2) := by decide +kernel
theorem dL_law_473 : decode cL_law 473 = .ok (.if_icmp .ne 33, 3) := by decide +kernel
theorem dL_law_476 : decode cL_law 476 = .ok (.iload 9, 2) := by decide +kernel
theorem dL_law_478 : decode cL_law 478 = .ok (.bipush 40, 2) := by decide +kernel
theorem dL_law_480 : decode cL_law 480 = .ok (.invokestatic 54, 3) := by decide +kernel
theorem dL_law_483 : decode cL_law 483 = .ok (.istore 12, 2) := by decide +kernel
theorem dL_law_485 : decode cL_law 485 = .ok (.aload_n 1, 1) := by decide +kernel
theorem dL_law_486 : decode cL_law 486 = .ok (.iload 12, 2) := by decide +kernel
theorem dL_law_488 : decode cL_law 488 = .ok (.invokevirtual 81, 3) := by decide +kernel
theorem dL_law_491 : decode cL_law 491 = .ok (.aload 6, 2) := by decide +kernel
theorem dL_law_493 : decode cL_law 493 = .ok (.iconst 2, 1) := by decide +kernel
theorem dL_law_494 : decode cL_law 494 = .ok (.iaload, 1) := by decide +kernel
theorem dL_law_495 : decode cL_law 495 = .ok (.if_icmp .eq 5, 3) := by decide +kernel
theorem dL_law_498 : decode cL_law 498 = .ok (.iconst 0, 1) := by decide +kernel
theorem dL_law_499 : decode cL_law 499 = .ok (.ireturn, 1) := by decide +kernel
theorem dL_law_500 : decode cL_law 500 = .ok (.aload 6, 2) := by decide +kernel
theorem dL_law_502 : decode cL_law 502 = .ok (.iconst 2, 1) := by decide +kernel
theorem dL_law_503 : decode cL_law 503 = .ok (.iload 12, 2) := by decide +kernel
theorem dL_law_505 : decode cL_law 505 = .ok (.iastore, 1) := by decide +kernel
theorem dL_law_506 : decode cL_law 506 = .ok (.aload_n 1, 1) := by decide +kernel
theorem dL_law_507 : decode cL_law 507 = .ok (.invokevirtual 46, 3) := by decide +kernel
theorem dL_law_510 : decode cL_law 510 = .ok (.aload_n 1, 1) := by decide +kernel
theorem dL_law_511 : decode cL_law 511 = .ok (.invokevirtual 84, 3) := by decide +kernel
theorem dL_law_514 : decode cL_law 514 = .ok (.if_icmp .ne 38, 3) := by decide +kernel
theorem dL_law_517 : decode cL_law 517 = .ok (.aload_n 1, 1) := by decide +kernel
theorem dL_law_518 : decode cL_law 518 = .ok (.invokevirtual 46, 3) := by decide +kernel
theorem dL_law_521 : decode cL_law 521 = .ok (.aload 6, 2) := by decide +kernel
theorem dL_law_523 : decode cL_law 523 = .ok (.iconst 2, 1) := by decide +kernel
theorem dL_law_524 : decode cL_law 524 = .ok (.iaload, 1) := by decide +kernel
theorem dL_law_525 : decode cL_law 525 = .ok (.if_icmp .gt 7, 3) := by decide +kernel
theorem dL_law_528 : decode cL_law 528 = .ok (.iconst 1, 1) := by decide +kernel
theorem dL_law_529 : decode cL_law 529 = .ok (.goto 4, 3) := by decide +kernel
theorem dL_law_532 : decode cL_law 532 = .ok (.iconst 0, 1) := by decide +kernel
theorem dL_law_533 : decode cL_law 533 = .ok (.aload_n 1, 1) := by decide +kernel
theorem dL_law_534 : decode cL_law 534 = .ok (.invokevirtual 42, 3) := by decide +kernel
theorem dL_law_537 : decode cL_law 537 = .ok (.ifCond .ge 7, 3) := by decide +kernel
theorem dL_law_540 : decode cL_law 540 = .ok (.iconst 1, 1) := by decide +kernel
theorem dL_law_541 : decode cL_law 541 = .ok (.goto 4, 3) := by decide +kernel
theorem dL_law_544 : decode cL_law 544 = .ok (.iconst 0, 1) := by decide +kernel
theorem dL_law_545 : decode cL_law 545 = .ok (.if_icmp .ne 7, 3) := by decide +kernel
theorem dL_law_548 : decode cL_law 548 = .ok (.iconst 1, 1) := by decide +kernel
theorem dL_law_549 : decode cL_law 549 = .ok (.goto 4, 3) := by decide +kernel
theorem dL_law_552 : decode cL_law 552 = .ok (.iconst 0, 1) := by decide +kernel
theorem dL_law_553 : decode cL_law 553 = .ok (.istore 12, 2) := by decide +kernel
theorem dL_law_555 : decode cL_law 555 = .ok (.iconst 0, 1) := by decide +kernel
theorem dL_law_556 : decode cL_law 556 = .ok (.istore 13, 2) := by decide +kernel
theorem dL_law_558 : decode cL_law 558 = .ok (.iload 13, 2) := by decide +kernel
theorem dL_law_560 : decode cL_law 560 = .ok (.bipush 10, 2) := by decide +kernel
theorem dL_law_562 : decode cL_law 562 = .ok (.if_icmp .ge 54, 3) := by decide +kernel
theorem dL_law_565 : decode cL_law 565 = .ok (.iload 12, 2) := by decide +kernel
theorem dL_law_567 : decode cL_law 567 = .ok (.ifCond .eq 49, 3) := by decide +kernel
theorem dL_law_570 : decode cL_law 570 = .ok (.aload_n 2, 1) := by decide +kernel
theorem dL_law_571 : decode cL_law 571 = .ok (.iload 13, 2) := by decide +kernel
theorem dL_law_573 : decode cL_law 573 = .ok (.iaload, 1) := by decide +kernel
theorem dL_law_574 : decode cL_law 574 = .ok (.ifCond .eq 29, 3) := by decide +kernel
theorem dL_law_577 : decode cL_law 577 = .ok (.aload_n 1, 1) := by decide +kernel
theorem dL_law_578 : decode cL_law 578 = .ok (.aload 4, 2) := by decide +kernel
theorem dL_law_580 : decode cL_law 580 = .ok (.aload 6, 2) := by decide +kernel
theorem dL_law_582 : decode cL_law 582 = .ok (.iload 13, 2) := by decide +kernel
theorem dL_law_584 : decode cL_law 584 = .ok (.invokestatic 87, 3) := by decide +kernel
theorem dL_law_587 : decode cL_law 587 = .ok (.ifCond .eq 20, 3) := by decide +kernel
theorem dL_law_590 : decode cL_law 590 = .ok (.aload_n 1, 1) := by decide +kernel
theorem dL_law_591 : decode cL_law 591 = .ok (.iload 13, 2) := by decide +kernel
theorem dL_law_593 : decode cL_law 593 = .ok (.invokevirtual 33, 3) := by decide +kernel
theorem dL_law_596 : decode cL_law 596 = .ok (.aload_n 3, 1) := by decide +kernel
theorem dL_law_597 : decode cL_law 597 = .ok (.iload 13, 2) := by decide +kernel
theorem dL_law_599 : decode cL_law 599 = .ok (.iaload, 1) := by decide +kernel
theorem dL_law_600 : decode cL_law 600 = .ok (.if_icmp .gt 7, 3) := by decide +kernel
theorem dL_law_603 : decode cL_law 603 = .ok (.iconst 1, 1) := by decide +kernel
theorem dL_law_604 : decode cL_law 604 = .ok (.goto 4, 3) := by decide +kernel
theorem dL_law_607 : decode cL_law 607 = .ok (.iconst 0, 1) := by decide +kernel
theorem dL_law_608 : decode cL_law 608 = .ok (.istore 12, 2) := by decide +kernel
theorem dL_law_610 : decode cL_law 610 = .ok (.iinc 13 1, 3) := by decide +kernel
theorem dL_law_613 : decode cL_law 613 = .ok (.goto (-55), 3) := by decide +kernel
theorem dL_law_616 : decode cL_law 616 = .ok (.iload 12, 2) := by decide +kernel
theorem dL_law_618 : decode cL_law 618 = .ok (.ifCond .eq 26, 3) := by decide +kernel
theorem dL_law_621 : decode cL_law 621 = .ok (.aload_n 1, 1) := by decide +kernel
theorem dL_law_622 : decode cL_law 622 = .ok (.aload_n 2, 1) := by decide +kernel
theorem dL_law_623 : decode cL_law 623 = .ok (.aload_n 3, 1) := by decide +kernel
theorem dL_law_624 : decode cL_law 624 = .ok (.aload 5, 2) := by decide +kernel
theorem dL_law_626 : decode cL_law 626 = .ok (.aload 6, 2) := by decide +kernel
theorem dL_law_628 : decode cL_law 628 = .ok (.iload 9, 2) := by decide +kernel
theorem dL_law_630 : decode cL_law 630 = .ok (.iconst 3, 1) := by decide +kernel
theorem dL_law_631 : decode cL_law 631 = .ok (.ishr, 1) := by decide +kernel
theorem dL_law_632 : decode cL_law 632 = .ok (.sipush 160, 3) := by decide +kernel
theorem dL_law_635 : decode cL_law 635 = .ok (.invokestatic 54, 3) := by decide +kernel
theorem dL_law_638 : decode cL_law 638 = .ok (.invokestatic 91, 3) := by decide +kernel
theorem dL_law_641 : decode cL_law 641 = .ok (.ifCond .ne 5, 3) := by decide +kernel
theorem dL_law_644 : decode cL_law 644 = .ok (.iconst 0, 1) := by decide +kernel
theorem dL_law_645 : decode cL_law 645 = .ok (.ireturn, 1) := by decide +kernel
theorem dL_law_646 : decode cL_law 646 = .ok (.iinc 7 1, 3) := by decide +kernel
theorem dL_law_649 : decode cL_law 649 = .ok (.goto (-595), 3) := by decide +kernel
theorem dL_law_652 : decode cL_law 652 = .ok (.iconst 1, 1) := by decide +kernel
theorem dL_law_653 : decode cL_law 653 = .ok (.ireturn, 1) := by decide +kernel
end
section
/-! ===== integers: every int of the machine is iI of an integer ===== -/
def iI (z : Int) : Int32 := Int32.ofInt z
abbrev zr (a : Int) : Prop := -2147483648 ≤ a ∧ a < 2147483648
theorem iI_T {z : Int} (h : zr z) : (iI z).toInt = z := Int32.toInt_ofInt_of_le (by omega) (by omega)
theorem iI_of (x : Int32) : ∃ z : Int, -2147483648 ≤ z ∧ z < 2147483648 ∧ x = iI z := by
  have h1 := Int32.le_toInt x
  have h2 := Int32.toInt_lt x
  exact ⟨x.toInt, by omega, by omega, (Int32.ofInt_toInt x).symm⟩
theorem iI_add (a b : Int) : iI a + iI b = iI (a + b) := (Int32.ofInt_add a b).symm
theorem iI_sub (a b : Int) : iI a - iI b = iI (a - b) := (Int32.ofInt_sub a b).symm
theorem iI_mul (a b : Int) : iI a * iI b = iI (a * b) := (Int32.ofInt_mul a b).symm
theorem iI_lt {a b : Int} (ha : zr a) (hb : zr b) : iI a < iI b ↔ a < b := by rw [Int32.lt_iff_toInt_lt, iI_T ha, iI_T hb]
theorem iI_le {a b : Int} (ha : zr a) (hb : zr b) : iI a ≤ iI b ↔ a ≤ b := by rw [Int32.le_iff_toInt_le, iI_T ha, iI_T hb]
theorem iI_eq {a b : Int} (ha : zr a) (hb : zr b) : iI a = iI b ↔ a = b := by rw [← Int32.toInt_inj, iI_T ha, iI_T hb]
theorem iI_c {a : Int} (ha : zr a) : (iI a).toNatClampNeg = a.toNat := by rw [← Int32.toNat_toInt, iI_T ha]
theorem iI_n (n : Nat) : Int32.ofNat n = iI n := Int32.ofInt_eq_ofNat.symm
theorem iI_0 : (0 : Int32) = iI 0 := by decide
theorem iI_div {a b : Int} (ha : 0 ≤ a) (ha2 : a < 2147483648) (hb : 0 < b) (hb2 : b < 2147483648) : iI a / iI b = iI (a / b) := by
  obtain ⟨n, rfl⟩ := Int.eq_ofNat_of_zero_le ha
  obtain ⟨d, rfl⟩ := Int.eq_ofNat_of_zero_le (Int.le_of_lt hb)
  have h := pk_div (a := n) (d := d) (by omega) (by omega) (by omega)
  have e1 : nI n = iI n := iI_n n
  have e2 : nI d = iI d := iI_n d
  have e3 : nI (n / d) = iI ((n / d : Nat) : Int) := iI_n _
  rw [e1, e2, e3] at h
  rw [h]
  rfl
theorem iI_in {z : Int} {n : Nat} (h0 : 0 ≤ z) (h1 : z < n) (hn : n < 2147483648) : vp_in (iI z) n := by
  rw [vp_in_iff, iI_T ⟨by omega, by omega⟩]
  exact ⟨h0, h1⟩
theorem iI_if {P : Prop} [Decidable P] (a b : Int) : (if P then iI a else iI b) = iI (if P then a else b) := by split <;> rfl
theorem zupd (f : Nat → Int) (k : Nat) (v : Int) : upd (fun j => iI (f j)) k (iI v) = fun j => iI (va_up f k v j) := by
  funext j
  unfold upd va_up
  split <;> rfl
section ZROW
variable {p : Program} {l : Launch} {e : Env} {R : Room} {s : State} {m : MethodId} {args : Array Value} {below : List Frame} {meth : Method} {c : Code} {H : Heap} {locs : List Loc} {cells slots : Nat} {Q : State → Prop}
variable {cc : ByteArray} {pc : Nat} {ls : Array Slot} {rest : List Value}
theorem zi_const (hx : p.tables.exec = Jvm.exec) (hb : c.code = cc) {n : Int} (hdg : decode cc pc = .ok (.iconst n, 1)) (k : W p l e R s m args below meth c H locs cells slots Q (F0 m (pc + 1) ls (.int (iI n) :: rest))) : W p l e R s m args below meth c H locs cells slots Q (F0 m pc ls rest) := lv_iconst hx hb hdg rfl k
theorem zi_bipush (hx : p.tables.exec = Jvm.exec) (hb : c.code = cc) {n : Int} (hdg : decode cc pc = .ok (.bipush n, 2)) (hv : (Int8.ofInt n).toInt32 = iI n) (k : W p l e R s m args below meth c H locs cells slots Q (F0 m (pc + 2) ls (.int (iI n) :: rest))) : W p l e R s m args below meth c H locs cells slots Q (F0 m pc ls rest) := lv_bipush hx hb hdg hv k
theorem zi_sipush (hx : p.tables.exec = Jvm.exec) (hb : c.code = cc) {n : Int} (hdg : decode cc pc = .ok (.sipush n, 3)) (hv : (Int16.ofInt n).toInt32 = iI n) (k : W p l e R s m args below meth c H locs cells slots Q (F0 m (pc + 3) ls (.int (iI n) :: rest))) : W p l e R s m args below meth c H locs cells slots Q (F0 m pc ls rest) := lv_sipush hx hb hdg hv k
theorem zi_add (hx : p.tables.exec = Jvm.exec) (hb : c.code = cc) {a b : Int} (hdg : decode cc pc = .ok (.iadd, 1)) (k : W p l e R s m args below meth c H locs cells slots Q (F0 m (pc + 1) ls (.int (iI (a + b)) :: rest))) : W p l e R s m args below meth c H locs cells slots Q (F0 m pc ls (.int (iI b) :: .int (iI a) :: rest)) := lv_iadd hx hb hdg (by rw [iI_add]; exact k)
theorem zi_sub (hx : p.tables.exec = Jvm.exec) (hb : c.code = cc) {a b : Int} (hdg : decode cc pc = .ok (.isub, 1)) (k : W p l e R s m args below meth c H locs cells slots Q (F0 m (pc + 1) ls (.int (iI (a - b)) :: rest))) : W p l e R s m args below meth c H locs cells slots Q (F0 m pc ls (.int (iI b) :: .int (iI a) :: rest)) := lv_isub hx hb hdg (by rw [iI_sub]; exact k)
theorem zi_mul (hx : p.tables.exec = Jvm.exec) (hb : c.code = cc) {a b : Int} (hdg : decode cc pc = .ok (.imul, 1)) (k : W p l e R s m args below meth c H locs cells slots Q (F0 m (pc + 1) ls (.int (iI (a * b)) :: rest))) : W p l e R s m args below meth c H locs cells slots Q (F0 m pc ls (.int (iI b) :: .int (iI a) :: rest)) := lv_imul hx hb hdg (by rw [iI_mul]; exact k)
theorem zi_div (hx : p.tables.exec = Jvm.exec) (hb : c.code = cc) {a b : Int} (hdg : decode cc pc = .ok (.idiv, 1)) (ha : 0 ≤ a) (ha2 : a < 2147483648) (hb1 : 0 < b) (hb2 : b < 2147483648) (k : W p l e R s m args below meth c H locs cells slots Q (F0 m (pc + 1) ls (.int (iI (a / b)) :: rest))) : W p l e R s m args below meth c H locs cells slots Q (F0 m pc ls (.int (iI b) :: .int (iI a) :: rest)) := lv_idiv hx hb hdg (by rw [iI_0, iI_eq ⟨by omega, by omega⟩ ⟨by omega, by omega⟩]; omega) (by rw [iI_div ha ha2 hb1 hb2]; exact k)
theorem zi_iinc (hx : p.tables.exec = Jvm.exec) (hb : c.code = cc) {i nL k : Nat} {n z : Int} {lv lv' : List (Nat × Value)} (hdg : decode cc pc = .ok (.iinc i n, 3)) (h : lv_has ls nL lv) (hk : lv[k]? = some (i, .int (iI z))) (hn : i < nL) (hl : (i, Value.int (iI (z + n))) :: lv.filter (fun q => !(q.1 == i) && !(q.1 + 1 == i && q.2.category == 2)) = lv') (kk : ∀ ls' : Array Slot, lv_has ls' nL lv' → W p l e R s m args below meth c H locs cells slots Q (F0 m (pc + 3) ls' rest)) : W p l e R s m args below meth c H locs cells slots Q (F0 m pc ls rest) := lv_iinc hx hb hdg h hk (v := iI (z + n)) (by rw [← iI_add]; rfl) hn hl kk
theorem zc_lt (hx : p.tables.exec = Jvm.exec) (hb : c.code = cc) {a b : Int} {off : Int} {tgt : Nat} (hdg : decode cc pc = .ok (.if_icmp .lt off, 3)) (ht : (pc : Int) + off = (tgt : Int)) (ha : zr a) (hb2 : zr b) (kt : a < b → W p l e R s m args below meth c H locs cells slots Q (F0 m tgt ls rest)) (kf : b ≤ a → W p l e R s m args below meth c H locs cells slots Q (F0 m (pc + 3) ls rest)) : W p l e R s m args below meth c H locs cells slots Q (F0 m pc ls (.int (iI b) :: .int (iI a) :: rest)) := lv_icmp_lt hx hb hdg ht (fun h => kt ((iI_lt ha hb2).mp h)) (fun h => kf (by rw [iI_lt ha hb2] at h; omega))
theorem zc_ge (hx : p.tables.exec = Jvm.exec) (hb : c.code = cc) {a b : Int} {off : Int} {tgt : Nat} (hdg : decode cc pc = .ok (.if_icmp .ge off, 3)) (ht : (pc : Int) + off = (tgt : Int)) (ha : zr a) (hb2 : zr b) (kt : b ≤ a → W p l e R s m args below meth c H locs cells slots Q (F0 m tgt ls rest)) (kf : a < b → W p l e R s m args below meth c H locs cells slots Q (F0 m (pc + 3) ls rest)) : W p l e R s m args below meth c H locs cells slots Q (F0 m pc ls (.int (iI b) :: .int (iI a) :: rest)) := lv_icmp_ge hx hb hdg ht (fun h => kt ((iI_le hb2 ha).mp h)) (fun h => kf (by rw [iI_le hb2 ha] at h; omega))
theorem zc_gt (hx : p.tables.exec = Jvm.exec) (hb : c.code = cc) {a b : Int} {off : Int} {tgt : Nat} (hdg : decode cc pc = .ok (.if_icmp .gt off, 3)) (ht : (pc : Int) + off = (tgt : Int)) (ha : zr a) (hb2 : zr b) (kt : b < a → W p l e R s m args below meth c H locs cells slots Q (F0 m tgt ls rest)) (kf : a ≤ b → W p l e R s m args below meth c H locs cells slots Q (F0 m (pc + 3) ls rest)) : W p l e R s m args below meth c H locs cells slots Q (F0 m pc ls (.int (iI b) :: .int (iI a) :: rest)) := lv_icmp_gt hx hb hdg ht (fun h => kt ((iI_lt hb2 ha).mp h)) (fun h => kf (by rw [iI_lt hb2 ha] at h; omega))
theorem zc_le (hx : p.tables.exec = Jvm.exec) (hb : c.code = cc) {a b : Int} {off : Int} {tgt : Nat} (hdg : decode cc pc = .ok (.if_icmp .le off, 3)) (ht : (pc : Int) + off = (tgt : Int)) (ha : zr a) (hb2 : zr b) (kt : a ≤ b → W p l e R s m args below meth c H locs cells slots Q (F0 m tgt ls rest)) (kf : b < a → W p l e R s m args below meth c H locs cells slots Q (F0 m (pc + 3) ls rest)) : W p l e R s m args below meth c H locs cells slots Q (F0 m pc ls (.int (iI b) :: .int (iI a) :: rest)) := lv_icmp_le hx hb hdg ht (fun h => kt ((iI_le ha hb2).mp h)) (fun h => kf (by rw [iI_le ha hb2] at h; omega))
theorem zc_eq (hx : p.tables.exec = Jvm.exec) (hb : c.code = cc) {a b : Int} {off : Int} {tgt : Nat} (hdg : decode cc pc = .ok (.if_icmp .eq off, 3)) (ht : (pc : Int) + off = (tgt : Int)) (ha : zr a) (hb2 : zr b) (kt : a = b → W p l e R s m args below meth c H locs cells slots Q (F0 m tgt ls rest)) (kf : a ≠ b → W p l e R s m args below meth c H locs cells slots Q (F0 m (pc + 3) ls rest)) : W p l e R s m args below meth c H locs cells slots Q (F0 m pc ls (.int (iI b) :: .int (iI a) :: rest)) := lv_icmp_eq hx hb hdg ht (fun h => kt ((iI_eq ha hb2).mp h)) (fun h => kf (by rw [iI_eq ha hb2] at h; exact h))
theorem zc_ne (hx : p.tables.exec = Jvm.exec) (hb : c.code = cc) {a b : Int} {off : Int} {tgt : Nat} (hdg : decode cc pc = .ok (.if_icmp .ne off, 3)) (ht : (pc : Int) + off = (tgt : Int)) (ha : zr a) (hb2 : zr b) (kt : a ≠ b → W p l e R s m args below meth c H locs cells slots Q (F0 m tgt ls rest)) (kf : a = b → W p l e R s m args below meth c H locs cells slots Q (F0 m (pc + 3) ls rest)) : W p l e R s m args below meth c H locs cells slots Q (F0 m pc ls (.int (iI b) :: .int (iI a) :: rest)) := lv_icmp_ne hx hb hdg ht (fun h => kt (by rw [iI_eq ha hb2] at h; exact h)) (fun h => kf (by rw [iI_eq ha hb2] at h; omega))
theorem zf_lt (hx : p.tables.exec = Jvm.exec) (hb : c.code = cc) {a : Int} {off : Int} {tgt : Nat} (hdg : decode cc pc = .ok (.ifCond .lt off, 3)) (ht : (pc : Int) + off = (tgt : Int)) (ha : zr a) (kt : a < 0 → W p l e R s m args below meth c H locs cells slots Q (F0 m tgt ls rest)) (kf : 0 ≤ a → W p l e R s m args below meth c H locs cells slots Q (F0 m (pc + 3) ls rest)) : W p l e R s m args below meth c H locs cells slots Q (F0 m pc ls (.int (iI a) :: rest)) := lv_if_lt hx hb hdg ht (fun h => kt (by rw [iI_0, iI_lt ha ⟨by omega, by omega⟩] at h; exact h)) (fun h => kf (by rw [iI_0, iI_lt ha ⟨by omega, by omega⟩] at h; omega))
theorem zf_ge (hx : p.tables.exec = Jvm.exec) (hb : c.code = cc) {a : Int} {off : Int} {tgt : Nat} (hdg : decode cc pc = .ok (.ifCond .ge off, 3)) (ht : (pc : Int) + off = (tgt : Int)) (ha : zr a) (kt : 0 ≤ a → W p l e R s m args below meth c H locs cells slots Q (F0 m tgt ls rest)) (kf : a < 0 → W p l e R s m args below meth c H locs cells slots Q (F0 m (pc + 3) ls rest)) : W p l e R s m args below meth c H locs cells slots Q (F0 m pc ls (.int (iI a) :: rest)) := lv_if_ge hx hb hdg ht (fun h => kt (by rw [iI_0, iI_le ⟨by omega, by omega⟩ ha] at h; exact h)) (fun h => kf (by rw [iI_0, iI_le ⟨by omega, by omega⟩ ha] at h; omega))
theorem zf_gt (hx : p.tables.exec = Jvm.exec) (hb : c.code = cc) {a : Int} {off : Int} {tgt : Nat} (hdg : decode cc pc = .ok (.ifCond .gt off, 3)) (ht : (pc : Int) + off = (tgt : Int)) (ha : zr a) (kt : 0 < a → W p l e R s m args below meth c H locs cells slots Q (F0 m tgt ls rest)) (kf : a ≤ 0 → W p l e R s m args below meth c H locs cells slots Q (F0 m (pc + 3) ls rest)) : W p l e R s m args below meth c H locs cells slots Q (F0 m pc ls (.int (iI a) :: rest)) := lv_if_gt hx hb hdg ht (fun h => kt (by rw [iI_0, iI_lt ⟨by omega, by omega⟩ ha] at h; exact h)) (fun h => kf (by rw [iI_0, iI_lt ⟨by omega, by omega⟩ ha] at h; omega))
theorem zf_le (hx : p.tables.exec = Jvm.exec) (hb : c.code = cc) {a : Int} {off : Int} {tgt : Nat} (hdg : decode cc pc = .ok (.ifCond .le off, 3)) (ht : (pc : Int) + off = (tgt : Int)) (ha : zr a) (kt : a ≤ 0 → W p l e R s m args below meth c H locs cells slots Q (F0 m tgt ls rest)) (kf : 0 < a → W p l e R s m args below meth c H locs cells slots Q (F0 m (pc + 3) ls rest)) : W p l e R s m args below meth c H locs cells slots Q (F0 m pc ls (.int (iI a) :: rest)) := lv_if_le hx hb hdg ht (fun h => kt (by rw [iI_0, iI_le ha ⟨by omega, by omega⟩] at h; exact h)) (fun h => kf (by rw [iI_0, iI_le ha ⟨by omega, by omega⟩] at h; omega))
theorem zf_eq (hx : p.tables.exec = Jvm.exec) (hb : c.code = cc) {a : Int} {off : Int} {tgt : Nat} (hdg : decode cc pc = .ok (.ifCond .eq off, 3)) (ht : (pc : Int) + off = (tgt : Int)) (ha : zr a) (kt : a = 0 → W p l e R s m args below meth c H locs cells slots Q (F0 m tgt ls rest)) (kf : a ≠ 0 → W p l e R s m args below meth c H locs cells slots Q (F0 m (pc + 3) ls rest)) : W p l e R s m args below meth c H locs cells slots Q (F0 m pc ls (.int (iI a) :: rest)) := lv_if_eq hx hb hdg ht (fun h => kt (by rw [iI_0, iI_eq ha ⟨by omega, by omega⟩] at h; exact h)) (fun h => kf (by rw [iI_0, iI_eq ha ⟨by omega, by omega⟩] at h; exact h))
theorem zf_ne (hx : p.tables.exec = Jvm.exec) (hb : c.code = cc) {a : Int} {off : Int} {tgt : Nat} (hdg : decode cc pc = .ok (.ifCond .ne off, 3)) (ht : (pc : Int) + off = (tgt : Int)) (ha : zr a) (kt : a ≠ 0 → W p l e R s m args below meth c H locs cells slots Q (F0 m tgt ls rest)) (kf : a = 0 → W p l e R s m args below meth c H locs cells slots Q (F0 m (pc + 3) ls rest)) : W p l e R s m args below meth c H locs cells slots Q (F0 m pc ls (.int (iI a) :: rest)) := lv_if_ne hx hb hdg ht (fun h => kt (by rw [iI_0, iI_eq ha ⟨by omega, by omega⟩] at h; exact h)) (fun h => kf (by rw [iI_0, iI_eq ha ⟨by omega, by omega⟩] at h; omega))
theorem zi_top {a : Int} (k : ∀ z : Int, z = a → W p l e R s m args below meth c H locs cells slots Q (F0 m pc ls (.int (iI z) :: rest))) : W p l e R s m args below meth c H locs cells slots Q (F0 m pc ls (.int (iI a) :: rest)) := k a rfl
end ZROW
end
section
/-! ===== the world by roles: cell of role k stands at address ad k ===== -/
def zL (ad : Nat → Nat) (e : Nat → Option va_E) : va_W := (List.range 64).filterMap (fun k => (e k).map (fun v => (ad k, v)))
def zW (D : va_G) (A : Nat → Prop) (ad : Nat → Nat) (e : Nat → Option va_E) (H : Heap) : Prop :=
  (∀ (k : Nat) (v : va_E), e k = some v → k < 64 ∧ va_at D vwCl (ad k, v) H ∧ A (ad k)) ∧ ∀ (i j : Nat) (v w : va_E), e i = some v → e j = some w → ad i = ad j → i = j
section ZWS
variable {D : va_G} {A : Nat → Prop} {ad : Nat → Nat} {e : Nat → Option va_E} {H H1 : Heap}
theorem zL_mem {q : Nat × va_E} : q ∈ zL ad e ↔ ∃ k v, k < 64 ∧ e k = some v ∧ q = (ad k, v) := by
  unfold zL
  rw [List.mem_filterMap]
  constructor
  · rintro ⟨k, hk, h⟩
    rw [Option.map_eq_some_iff] at h
    obtain ⟨v, h1, h2⟩ := h
    exact ⟨k, v, List.mem_range.mp hk, h1, h2.symm⟩
  · rintro ⟨k, v, hk, h1, rfl⟩
    exact ⟨k, List.mem_range.mpr hk, by rw [h1]; rfl⟩
theorem zW.P (h : zW D A ad e H) : va_P D vwCl (zL ad e) H := fun k q hk => by
  obtain ⟨r, v, hr, h1, rfl⟩ := zL_mem.mp (List.mem_of_getElem? hk)
  exact (h.1 r v h1).2.1
theorem zW.dd (h : zW D A ad e H) : va_D A (zL ad e) := by
  have pw : (zL ad e).Pairwise (fun p q => p.1 ≠ q.1) := by
    unfold zL
    rw [List.pairwise_filterMap]
    refine List.Pairwise.imp ?_ List.pairwise_lt_range
    intro a b hab x hx y hy hxy
    rw [Option.map_eq_some_iff] at hx hy
    obtain ⟨v, h1, rfl⟩ := hx
    obtain ⟨w, h2, rfl⟩ := hy
    have := h.2 a b v w h1 h2 hxy
    omega
  refine ⟨fun i j x y hi hj hxy => ?_, fun k q hk => ?_⟩
  · rw [List.pairwise_iff_getElem] at pw
    obtain ⟨li, ei⟩ := List.getElem?_eq_some_iff.mp hi
    obtain ⟨lj, ej⟩ := List.getElem?_eq_some_iff.mp hj
    rcases Nat.lt_trichotomy i j with q | q | q
    · exact absurd (by rw [ei, ej]; exact hxy) (pw i j li lj q)
    · exact q
    · exact absurd (by rw [ei, ej]; exact hxy.symm) (pw j i lj li q)
  · obtain ⟨r, v, hr, h1, rfl⟩ := zL_mem.mp (List.mem_of_getElem? hk)
    exact (h.1 r v h1).2.2
theorem zW.ix (h : zW D A ad e H) {k : Nat} {v : va_E} (he : e k = some v) : ∃ i : Nat, (zL ad e)[i]? = some (ad k, v) := List.getElem?_of_mem (zL_mem.mpr ⟨k, v, (h.1 k v he).1, he, rfl⟩)
theorem zW.one (h : zW D A ad e H) {k : Nat} {v : va_E} (he : e k = some v) : va_P D vwCl [(ad k, v)] H := fun i q hi => by
  have h1 := List.mem_of_getElem? hi
  rw [List.mem_singleton] at h1
  subst h1
  exact (h.1 k v he).2.1
theorem zW.back (h : zW D A ad e H) {i k : Nat} {v0 v : va_E} (hi : (zL ad e)[i]? = some (ad k, v0)) (he : e k = some v0) (hP : va_P D vwCl ((zL ad e).set i (ad k, v)) H1) : zW D A ad (va_up e k (some v)) H1 := by
  have li := (List.getElem?_eq_some_iff.mp hi).1
  refine ⟨fun r x hr => ?_, fun a b x y ha hb hab => ?_⟩
  · unfold va_up at hr
    by_cases hk : r = k
    · subst hk
      rw [if_pos rfl] at hr
      cases hr
      exact ⟨(h.1 r v0 he).1, hP i (ad r, v) (by rw [List.getElem?_set_self li]), (h.1 r v0 he).2.2⟩
    · rw [if_neg hk] at hr
      obtain ⟨j, hj⟩ := h.ix hr
      have hij : i ≠ j := fun q => by
        subst q
        rw [hi] at hj
        injection hj with hj
        injection hj with hj1 hj2
        exact hk (h.2 r k x v0 hr he hj1.symm)
      exact ⟨(h.1 r x hr).1, hP j (ad r, x) (by rw [List.getElem?_set_ne hij]; exact hj), (h.1 r x hr).2.2⟩
  · have key : ∀ (z : Nat) (x : va_E), va_up e k (some v) z = some x → ∃ x', e z = some x' := by
      intro z x hz
      unfold va_up at hz
      by_cases hk : z = k
      · exact ⟨v0, by rw [hk]; exact he⟩
      · rw [if_neg hk] at hz
        exact ⟨x, hz⟩
    obtain ⟨x', hx'⟩ := key a x ha
    obtain ⟨y', hy'⟩ := key b y hb
    exact h.2 a b x' y' hx' hy' hab
theorem zW.kept {B : Nat → Prop} (h : zW D A ad e H) (hq : ∀ q : Nat, q < H.size → ¬ B q → H1[q]? = H[q]?) (hB : ∀ (k : Nat) (v : va_E), e k = some v → ¬ B (ad k)) : zW D A ad e H1 := ⟨fun k v hk => ⟨(h.1 k v hk).1, (h.1 k v hk).2.1.kept (hq _ (h.1 k v hk).2.1.lt (hB k v hk)), (h.1 k v hk).2.2⟩, h.2⟩
theorem zW.reA {B : Nat → Prop} (h : zW D A ad e H) (hB : ∀ (k : Nat) (v : va_E), e k = some v → B (ad k)) : zW D B ad e H := ⟨fun k v hk => ⟨(h.1 k v hk).1, (h.1 k v hk).2.1, hB k v hk⟩, h.2⟩
theorem zW.cong {e2 : Nat → Option va_E} (h : zW D A ad e H) (he : ∀ k, e2 k = e k) : zW D A ad e2 H := by
  have : e2 = e := funext he
  rw [this]
  exact h
end ZWS
/-! ===== what every method's start may say of the tables, the statics, the classes ===== -/
def zTy (cy : Nat → ClassId) : List (ClassId × FieldType) := [(cy 0, .int), (cy 0, .int), (cy 2, .object RX0)]
def zNest : List Cond := [.methodLinkNest RX1 184 yX0_isBusy RX1, .methodLinkNest RX1 196 yX0_hoursOfBreaks RX1, .methodLinkNest RX1 94 yX0_init RX1, .fieldLinkNest RX1 110 RX0 "volume" "I" RX1, .fieldLinkNest RX1 107 RX0 "panels" "I" RX1, .fieldLinkNest RX1 199 RX0 "wanted" "I" RX1, .fieldLinkNest RX1 104 RX0 "start" "I" RX1, .fieldLinkNest RX1 120 RX0 "end" "I" RX1, .fieldLinkNest RX1 132 RX0 "strike" "I" RX1, .fieldLinkNest RX1 147 RX0 "busyFrom" "I" RX1, .fieldLinkNest RX1 135 RX0 "busyUntil" "I" RX1, .fieldLinkNest RX1 171 RX0 "given" "J" RX1, .fieldLinkNest RX1 202 RX0 "served" "Z" RX1]
def zSteps : Nat → Value := fun j => .int (iI (match j with | 0 => 0 | 1 => 500 | 2 => 1200 | 3 => 2500 | _ => 5000))
def zNc : List (String × String) := []
def zFace : List Cond := [.castable "java/lang/IndexOutOfBoundsException" "java/lang/IndexOutOfBoundsException", .castable "java/lang/IllegalArgumentException" "java/lang/IllegalArgumentException", .castable "java/lang/IllegalStateException" "java/lang/IllegalStateException", .castable "java/util/NoSuchElementException" "java/util/NoSuchElementException", .declares (Bundle.init0 "java/lang/RuntimeException"), .declares (Bundle.init0 "java/lang/Exception"), .declares (Bundle.init0 Bundle.tN)]
theorem zFace_m {s U : State} (hW : s.WarmedH U.vm) : ∀ w ∈ zFace, va_Nw w s → va_Nw w U := by
  intro w hw h
  have hf : w.faceAtom = true := by
    simp only [zFace, List.mem_cons, List.not_mem_nil, or_false] at hw
    rcases hw with rfl | rfl | rfl | rfl | rfl | rfl | rfl <;> rfl
  have ho : w.onTables = true := by
    simp only [zFace, List.mem_cons, List.not_mem_nil, or_false] at hw
    rcases hw with rfl | rfl | rfl | rfl | rfl | rfl | rfl <;> rfl
  exact va_tabs ho (rfl : (s.setVm U.vm).vm = U.vm) (Cond.faceAtom_setVm hW.alike w hf h)
def EN (D : va_G) (cy : Nat → ClassId) (A : Nat → Prop) (U : State) (H : Heap) : Prop :=
  va_K D vwCl (zTy cy) U ∧ (∀ w ∈ zNest, va_Nw w U) ∧ (∃ t : Nat, va_Z RX1 "STEPS" "[I" (.ref t) A U H ∧ va_T .int t 5 zSteps A U H) ∧ vx_Zq Bundle.tN "UNASSIGNED_STACK" Bundle.steD A U H ∧ vx_Zq Bundle.tN "SUPPRESSED_SENTINEL" Bundle.listD A U H ∧ (∀ q ∈ zNc, va_Nc q.1 q.2 U) ∧ (∀ w ∈ zFace, va_Nw w U) ∧ va_AO RX0 U
section ZEN
variable {D : va_G} {cy : Nat → ClassId} {A : Nat → Prop} {s U : State} {H H1 : Heap}
theorem EN.move (h : EN D cy A s H) (hW : s.WarmedH U.vm) : EN D cy A U H := by
  obtain ⟨h1, h2, ⟨t, h3, h4⟩, h5, h6, h7, h8, h9⟩ := h
  refine ⟨va_K.moved hW.alike h1, ?_, ⟨t, va_Z.moved hW.alike h3, va_T.moved hW.alike h4⟩, vx_Zq.moved hW.alike h5, vx_Zq.moved hW.alike h6, fun q hq => va_Nc.moved hW.alike (h7 q hq), fun w hw => zFace_m hW w hw (h8 w hw), va_AO.moved hW.alike h9⟩
  intro w hw
  have h := h2 w hw
  simp only [zNest, List.mem_cons, List.not_mem_nil, or_false] at hw
  rcases hw with rfl | rfl | rfl | rfl | rfl | rfl | rfl | rfl | rfl | rfl | rfl | rfl | rfl <;> first | exact va_Nw.warmM hW h | exact va_Nw.warmF hW h
theorem EN.kept (h : EN D cy A U H) (hq : ∀ a : Nat, a < H.size → ¬ A a → H1[a]? = H[a]?) : EN D cy A U H1 := by
  obtain ⟨h1, h2, ⟨t, h3, h4⟩, h5, h6, h7⟩ := h
  exact ⟨h1, h2, ⟨t, h3.kept hq, h4.kept hq⟩, h5.kept hq, h6.kept hq, h7⟩
theorem EN.narrow {B : Nat → Prop} (h : EN D cy A U H) (hq : ∀ a : Nat, B a → A a) : EN D cy B U H := by
  obtain ⟨h1, h2, ⟨t, h3, h4⟩, h5, h6, h7⟩ := h
  exact ⟨h1, h2, ⟨t, h3.narrow hq, h4.narrow hq⟩, h5.narrow hq, h6.narrow hq, h7⟩
theorem EN.at {locs : List Loc} (h : EN D cy A s s.heap) (hS : va_S A s.heap H locs) : EN D cy A s H := h.kept hS.2.1
end ZEN
/-! ===== contracts ===== -/
abbrev zPc (D : va_G) (cy : Nat → ClassId) (A : Nat → Prop) (av : List Value) (H0 : Heap) : Array Value → State → Prop := va_Pc av (fun U => U.heap = H0 ∧ EN D cy A U H0)
abbrev zQi (post : Int → Heap → Prop) (A : Nat → Prop) : Array Value → State → Outcome → State → Prop := va_Qi (fun (r : Int32) (H1 : Heap) => ∃ z : Int, zr z ∧ r = iI z ∧ post z H1) (fun (H1 : Heap) (t : State) => t.heap = H1) A
abbrev zQl (post : Int64 → Heap → Prop) (A : Nat → Prop) : Array Value → State → Outcome → State → Prop := va_Ql post (fun (H1 : Heap) (t : State) => t.heap = H1) A
abbrev zQv (post : Heap → Prop) (A : Nat → Prop) : Array Value → State → Outcome → State → Prop := va_Qv post (fun (H1 : Heap) (t : State) => t.heap = H1) A
abbrev zQq (post : Option Nat → Heap → Prop) (A : Nat → Prop) : Array Value → State → Outcome → State → Prop := va_Qq post (fun (H1 : Heap) (t : State) => t.heap = H1) A
/-- thrown: the class by its name, what was there before is as it was -/
abbrev zX (E0 : String) (H0 : Heap) (A : Nat → Prop) : String → State → State → Prop := vx_X (fun _ : Unit => True) (fun E (_ : Unit) (t : State) => E = E0 ∧ H0.size ≤ t.heap.size ∧ ∀ q : Nat, q < H0.size → t.heap[q]? = H0[q]?) A
theorem zBlind {D : va_G} {cy : Nat → ClassId} {A : Nat → Prop} {av : List Value} {H0 : Heap} : FrameBlind (zPc D cy A av H0) := fun _ U _ _ q => ⟨q.1, q.2.1, EN.move (s := U) q.2.2 (State.WarmedH.refl U)⟩
section ZC
variable {p : Program} {l : Launch} {e : Env} {R : Room} {s : State} {m : MethodId} {args : Array Value} {below : List Frame} {meth : Method} {c : Code} {H : Heap} {locs : List Loc} {cells slots : Nat} {Q : State → Prop}
variable {cc : ByteArray} {pc : Nat} {ls : Array Slot} {rest : List Value} {D : va_G} {cy : Nat → ClassId} {A : Nat → Prop} {ad : Nat → Nat} {ew : Nat → Option va_E}
theorem zPS {As : List Value} (hE : EN D cy A s s.heap) (hS : va_S A s.heap H locs) : PreS s H (zPc D cy A As H) As := ⟨zBlind, fun U hU hW => ⟨rfl, hU, (hE.at hS).move hW⟩⟩
theorem zPV {As : List Value} {k0 ci : Nat} {q : vw_C} {fs : List Value} (hE : EN D cy A s s.heap) (hS : va_S A s.heap H locs) (hw : zW D A ad ew H) (hc : vwCl[ci]? = some q) (he : ew k0 = some (.inr (ci, fs))) : PreV s H q.1 (ad k0) (zPc D cy A (.ref (ad k0) :: As) H) As := ⟨zBlind, va_recv hE.1 (hw.one he) hc (q0 := 0) rfl, fun U hU hW => ⟨rfl, hU, (hE.at hS).move hW⟩⟩
theorem zget (hx : p.tables.exec = Jvm.exec) (hb : c.code = cc) {own C : String} {T : u_T} {N ci index : Nat} {Ts : List Cond} (hts : ∀ w ∈ Ts, w.before args s = true) (hin : ∀ w ∈ u_ws C T N, w ∈ Ts) (hown : s.vm.findClass own = some m.cls) (hE : EN D cy A s s.heap) (hw : zW D A ad ew H) (k0 : Nat) {fs : List Value} (he : ew k0 = some (.inr (ci, fs))) (hc : vwCl[ci]? = some (C, T, N)) (k : Nat) (hk : k < N) (hlink : (Cond.fieldLink own index (T k).1 (T k).2.1 (T k).2.2.1).before args s = true) {v : Value} (hv : fs[k]? = some v) (hdg : decode cc pc = .ok (.getfield index, 3))
    (kk : W p l e R s m args below meth c H locs cells slots Q (F0 m (pc + 3) ls (v :: rest))) : W p l e R s m args below meth c H locs cells slots Q (F0 m pc ls (.ref (ad k0) :: rest)) := va_get hx hb hts hin hown hE.1 (hw.one he) 0 rfl hc k hk hlink (fun _ h => h) hv hdg kk
theorem zgetN (hx : p.tables.exec = Jvm.exec) (hb : c.code = cc) {own C host : String} {T : u_T} {N ci index : Nat} {Ts : List Cond} (hts : ∀ w ∈ Ts, w.before args s = true) (hin : ∀ w ∈ u_ws C T N, w ∈ Ts) (hown : s.vm.findClass own = some m.cls) (hE : EN D cy A s s.heap) (hw : zW D A ad ew H) (k0 : Nat) {fs : List Value} (he : ew k0 = some (.inr (ci, fs))) (hc : vwCl[ci]? = some (C, T, N)) (k : Nat) (hk : k < N) (hlink : Cond.fieldLinkNest own index (T k).1 (T k).2.1 (T k).2.2.1 host ∈ zNest) {v : Value} (hv : fs[k]? = some v) (hdg : decode cc pc = .ok (.getfield index, 3))
    (kk : W p l e R s m args below meth c H locs cells slots Q (F0 m (pc + 3) ls (v :: rest))) : W p l e R s m args below meth c H locs cells slots Q (F0 m pc ls (.ref (ad k0) :: rest)) := va_getN hx hb hts hin hown hE.1 (hw.one he) 0 rfl hc k hk (va_Nw.use rfl (hE.2.1 _ hlink)) (fun _ h => h) hv hdg kk
theorem zput (hx : p.tables.exec = Jvm.exec) (hb : c.code = cc) {own C : String} {T : u_T} {N ci index : Nat} {Ts : List Cond} (hts : ∀ w ∈ Ts, w.before args s = true) (hin : ∀ w ∈ u_ws C T N, w ∈ Ts) (ty0 : Nat → FieldType) (hty : ∀ k, k < N → parseFieldDescriptor (T k).2.2.1 = some (ty0 k)) (hnm : ∀ a, a < N → ∀ b, b < N → a ≠ b → (T a).2.1 ≠ (T b).2.1) (hown : s.vm.findClass own = some m.cls) (hE : EN D cy A s s.heap) (hS : va_S A s.heap H locs) (hw : zW D A ad ew H) (k0 : Nat) {fs : List Value} (he : ew k0 = some (.inr (ci, fs))) (hc : vwCl[ci]? = some (C, T, N)) (k : Nat) (hk : k < N) (hlink : (Cond.fieldLink own index (T k).1 (T k).2.1 (T k).2.2.1).before args s = true) (hfin : (T k).2.2.2 = false) {ty : FieldType} {v : Value} (hd : parseFieldDescriptor (T k).2.2.1 = some ty) (hn : narrow ty v = v) (hfit : fits ty v = true) (hl : k < fs.length) (hdg : decode cc pc = .ok (.putfield index, 3))
    (kk : ∀ (H1 : Heap) (locs1 : List Loc), zW D A ad (va_up ew k0 (some (.inr (ci, fs.set k v)))) H1 → va_S A s.heap H1 locs1 → W p l e R s m args below meth c H1 locs1 cells slots Q (F0 m (pc + 3) ls rest)) : W p l e R s m args below meth c H locs cells slots Q (F0 m pc ls (v :: .ref (ad k0) :: rest)) := by
  obtain ⟨i, hi⟩ := hw.ix he
  exact va_put hx hb hts hin ty0 hty hnm hown hE.1 hw.P hw.dd hS i hi hc k hk hlink (fun _ h => h) hfin hd hn hfit hl hdg (fun H1 locs1 hP _ hS1 => kk H1 locs1 (hw.back hi he hP) hS1)
theorem zputF (hx : p.tables.exec = Jvm.exec) (hb : c.code = cc) {own C : String} {T : u_T} {N ci index : Nat} {Ts : List Cond} (hts : ∀ w ∈ Ts, w.before args s = true) (hin : ∀ w ∈ u_ws C T N, w ∈ Ts) (ty0 : Nat → FieldType) (hty : ∀ k, k < N → parseFieldDescriptor (T k).2.2.1 = some (ty0 k)) (hnm : ∀ a, a < N → ∀ b, b < N → a ≠ b → (T a).2.1 ≠ (T b).2.1) (hown : s.vm.findClass own = some m.cls) (hE : EN D cy A s s.heap) (hS : va_S A s.heap H locs) (hw : zW D A ad ew H) (k0 : Nat) {fs : List Value} (he : ew k0 = some (.inr (ci, fs))) (hc : vwCl[ci]? = some (C, T, N)) (k : Nat) (hk : k < N) (hlink : (Cond.fieldLink own index (T k).1 (T k).2.1 (T k).2.2.1).before args s = true) (hfin : (T k).2.2.2 = true) (hin2 : meth.name = "<init>") (hdecl : (T k).1 = own) {ty : FieldType} {v : Value} (hd : parseFieldDescriptor (T k).2.2.1 = some ty) (hn : narrow ty v = v) (hfit : fits ty v = true) (hl : k < fs.length) (hdg : decode cc pc = .ok (.putfield index, 3))
    (kk : ∀ (H1 : Heap) (locs1 : List Loc), zW D A ad (va_up ew k0 (some (.inr (ci, fs.set k v)))) H1 → va_S A s.heap H1 locs1 → W p l e R s m args below meth c H1 locs1 cells slots Q (F0 m (pc + 3) ls rest)) : W p l e R s m args below meth c H locs cells slots Q (F0 m pc ls (v :: .ref (ad k0) :: rest)) := by
  obtain ⟨i, hi⟩ := hw.ix he
  exact va_putF hx hb hts hin ty0 hty hnm hown hE.1 hw.P hw.dd hS i hi hc k hk hlink (fun _ h => h) hfin hin2 hdecl hd hn hfit hl hdg (fun H1 locs1 hP _ hS1 => kk H1 locs1 (hw.back hi he hP) hS1)
theorem zputN (hx : p.tables.exec = Jvm.exec) (hb : c.code = cc) {own C host : String} {T : u_T} {N ci index : Nat} {Ts : List Cond} (hts : ∀ w ∈ Ts, w.before args s = true) (hin : ∀ w ∈ u_ws C T N, w ∈ Ts) (ty0 : Nat → FieldType) (hty : ∀ k, k < N → parseFieldDescriptor (T k).2.2.1 = some (ty0 k)) (hnm : ∀ a, a < N → ∀ b, b < N → a ≠ b → (T a).2.1 ≠ (T b).2.1) (hown : s.vm.findClass own = some m.cls) (hE : EN D cy A s s.heap) (hS : va_S A s.heap H locs) (hw : zW D A ad ew H) (k0 : Nat) {fs : List Value} (he : ew k0 = some (.inr (ci, fs))) (hc : vwCl[ci]? = some (C, T, N)) (k : Nat) (hk : k < N) (hlink : Cond.fieldLinkNest own index (T k).1 (T k).2.1 (T k).2.2.1 host ∈ zNest) (hfin : (T k).2.2.2 = false) {ty : FieldType} {v : Value} (hd : parseFieldDescriptor (T k).2.2.1 = some ty) (hn : narrow ty v = v) (hfit : fits ty v = true) (hl : k < fs.length) (hdg : decode cc pc = .ok (.putfield index, 3))
    (kk : ∀ (H1 : Heap) (locs1 : List Loc), zW D A ad (va_up ew k0 (some (.inr (ci, fs.set k v)))) H1 → va_S A s.heap H1 locs1 → W p l e R s m args below meth c H1 locs1 cells slots Q (F0 m (pc + 3) ls rest)) : W p l e R s m args below meth c H locs cells slots Q (F0 m pc ls (v :: .ref (ad k0) :: rest)) := by
  obtain ⟨i, hi⟩ := hw.ix he
  exact va_putN hx hb hts hin ty0 hty hnm hown hE.1 hw.P hw.dd hS i hi hc k hk (va_Nw.use rfl (hE.2.1 _ hlink)) (fun _ h => h) hfin hd hn hfit hl hdg (fun H1 locs1 hP _ hS1 => kk H1 locs1 (hw.back hi he hP) hS1)
theorem ziald (hx : p.tables.exec = Jvm.exec) (hb : c.code = cc) (hE : EN D cy A s s.heap) (hw : zW D A ad ew H) (k0 : Nat) {n : Nat} {f : Nat → Int} (he : ew k0 = some (.inl (cy 0, n, .inl (fun j => iI (f j))))) {z : Int} (kz : Nat) (hz : z = (kz : Int)) (h1 : kz < n) (hn : n < 2147483648) (hdg : decode cc pc = .ok (.iaload, 1))
    (kk : W p l e R s m args below meth c H locs cells slots Q (F0 m (pc + 1) ls (.int (iI (f kz)) :: rest))) : W p l e R s m args below meth c H locs cells slots Q (F0 m pc ls (.int (iI z) :: .ref (ad k0) :: rest)) := va_iald hx hb hE.1 (hw.one he) 0 0 rfl rfl (iI_in (z := z) (by omega) (by omega) hn) hdg (by rw [iI_c ⟨by omega, by omega⟩, hz, Int.toNat_natCast]; exact kk)
theorem zaald (hx : p.tables.exec = Jvm.exec) (hb : c.code = cc) (hE : EN D cy A s s.heap) (hw : zW D A ad ew H) (k0 : Nat) {n : Nat} {f : Nat → Option Nat} (he : ew k0 = some (.inl (cy 2, n, .inr (.inr (.inr (.inr f)))))) {z : Int} (kz : Nat) (hz : z = (kz : Int)) (h1 : kz < n) (hn : n < 2147483648) (hdg : decode cc pc = .ok (.aaload, 1))
    (kk : W p l e R s m args below meth c H locs cells slots Q (F0 m (pc + 1) ls (va_rf (f kz) :: rest))) : W p l e R s m args below meth c H locs cells slots Q (F0 m pc ls (.int (iI z) :: .ref (ad k0) :: rest)) := va_aldq hx hb hE.1 (hw.one he) 0 2 rfl rfl (iI_in (z := z) (by omega) (by omega) hn) hdg (by rw [iI_c ⟨by omega, by omega⟩, hz, Int.toNat_natCast]; exact kk)
theorem zalen (hx : p.tables.exec = Jvm.exec) (hb : c.code = cc) (hE : EN D cy A s s.heap) (hw : zW D A ad ew H) (k0 t0 : Nat) {cA : ClassId} {x : vp_A} (he : ew k0 = some (.inl (cA, x))) {ty : FieldType} (ht : (zTy cy)[t0]? = some (cA, ty)) {z : Int} (hz : (x.1 : Int) = z) (hdg : decode cc pc = .ok (.arraylength, 1))
    (kk : W p l e R s m args below meth c H locs cells slots Q (F0 m (pc + 1) ls (.int (iI z) :: rest))) : W p l e R s m args below meth c H locs cells slots Q (F0 m pc ls (.ref (ad k0) :: rest)) := va_alen hx hb hE.1 (hw.one he) 0 t0 rfl ht (by rw [iI_n, hz]) hdg kk
theorem ziast (hx : p.tables.exec = Jvm.exec) (hb : c.code = cc) (hE : EN D cy A s s.heap) (hS : va_S A s.heap H locs) (hw : zW D A ad ew H) (k0 : Nat) {n : Nat} {f : Nat → Int} (he : ew k0 = some (.inl (cy 0, n, .inl (fun j => iI (f j))))) {z x : Int} (kz : Nat) (hz : z = (kz : Int)) (h1 : kz < n) (hn : n < 2147483648) (hdg : decode cc pc = .ok (.iastore, 1))
    (kk : ∀ (H1 : Heap) (locs1 : List Loc), zW D A ad (va_up ew k0 (some (.inl (cy 0, n, .inl (fun j => iI (va_up f kz x j)))))) H1 → va_S A s.heap H1 locs1 → W p l e R s m args below meth c H1 locs1 cells slots Q (F0 m (pc + 1) ls rest)) : W p l e R s m args below meth c H locs cells slots Q (F0 m pc ls (.int (iI x) :: .int (iI z) :: .ref (ad k0) :: rest)) := by
  obtain ⟨i, hi⟩ := hw.ix he
  refine va_iast hx hb hE.1 hw.P hw.dd hS i 0 hi rfl (iI_in (z := z) (by omega) (by omega) hn) hdg (fun H1 locs1 hP _ hS1 => kk H1 locs1 ?_ hS1)
  rw [iI_c ⟨by omega, by omega⟩, hz, Int.toNat_natCast, zupd] at hP
  exact hw.back hi he hP
theorem zaastN (hx : p.tables.exec = Jvm.exec) (hb : c.code = cc) (hE : EN D cy A s s.heap) (hS : va_S A s.heap H locs) (hw : zW D A ad ew H) (k0 : Nat) {n : Nat} {f : Nat → Option Nat} (he : ew k0 = some (.inl (cy 2, n, .inr (.inr (.inr (.inr f)))))) {z : Int} (kz : Nat) (hz : z = (kz : Int)) (h1 : kz < n) (hn : n < 2147483648) (hdg : decode cc pc = .ok (.aastore, 1))
    (kk : ∀ (H1 : Heap) (locs1 : List Loc), zW D A ad (va_up ew k0 (some (.inl (cy 2, n, .inr (.inr (.inr (.inr (va_up f kz none)))))))) H1 → va_S A s.heap H1 locs1 → W p l e R s m args below meth c H1 locs1 cells slots Q (F0 m (pc + 1) ls rest)) : W p l e R s m args below meth c H locs cells slots Q (F0 m pc ls (.null :: .int (iI z) :: .ref (ad k0) :: rest)) := by
  obtain ⟨i, hi⟩ := hw.ix he
  refine va_astqN hx hb hE.1 hw.P hw.dd hS i 2 hi rfl (iI_in (z := z) (by omega) (by omega) hn) hdg (fun H1 locs1 hP _ hS1 => kk H1 locs1 ?_ hS1)
  rw [iI_c ⟨by omega, by omega⟩, hz, Int.toNat_natCast] at hP
  exact hw.back hi he hP
theorem zaast (hx : p.tables.exec = Jvm.exec) (hb : c.code = cc) (hE : EN D cy A s s.heap) (hS : va_S A s.heap H locs) (hw : zW D A ad ew H) (k0 : Nat) {n : Nat} {f : Nat → Option Nat} (he : ew k0 = some (.inl (cy 2, n, .inr (.inr (.inr (.inr f)))))) (kv : Nat) {fs : List Value} (hev : ew kv = some (.inr (0, fs))) {z : Int} (kz : Nat) (hz : z = (kz : Int)) (h1 : kz < n) (hn : n < 2147483648) (hdg : decode cc pc = .ok (.aastore, 1))
    (kk : ∀ (H1 : Heap) (locs1 : List Loc), zW D A ad (va_up ew k0 (some (.inl (cy 2, n, .inr (.inr (.inr (.inr (va_up f kz (some (ad kv))))))))) ) H1 → va_S A s.heap H1 locs1 → W p l e R s m args below meth c H1 locs1 cells slots Q (F0 m (pc + 1) ls rest)) : W p l e R s m args below meth c H locs cells slots Q (F0 m pc ls (.ref (ad kv) :: .int (iI z) :: .ref (ad k0) :: rest)) := by
  obtain ⟨i, hi⟩ := hw.ix he
  obtain ⟨j, hj⟩ := hw.ix hev
  refine va_astq hx hb hE.1 hw.P hw.dd hS i 2 j 0 (r := (RX0, TX0, 13)) hi rfl hj rfl (iI_in (z := z) (by omega) (by omega) hn) hdg (fun H1 locs1 hP _ hS1 => kk H1 locs1 ?_ hS1)
  rw [iI_c ⟨by omega, by omega⟩, hz, Int.toNat_natCast] at hP
  exact hw.back hi he hP
variable {a : Array Value} {mc ms : Nat} {st0 : List Value}
theorem zcalli {post : Int → Heap → Prop} (hr : va_Run p l e R s m args below meth c H locs cells slots mc ms (F0 m pc ls st0) rest (zQi post A a) A) (hS : va_S A s.heap H locs)
    (kk : ∀ (z : Int) (H1 : Heap) (locs1 : List Loc), zr z → post z H1 → H.size ≤ H1.size → (∀ q : Nat, q < H.size → ¬ A q → H1[q]? = H[q]?) → va_S A s.heap H1 locs1 → W p l e R s m args below meth c H1 locs1 (cells + mc) (slots + ms) Q (F0 m (pc + 3) ls (.int (iI z) :: rest))) : W p l e R s m args below meth c H locs cells slots Q (F0 m pc ls st0) := by
  refine va_calli hr hS (fun _ _ h => h) (fun _ h => h) (fun r u t H1 locs1 ht _ hp hB hz hk hS1 => ?_)
  obtain ⟨z, hz1, rfl, hp⟩ := hp
  have e1 : u = H1 := hB.symm.trans ht
  subst e1
  exact kk z u locs1 hz1 hp hz hk hS1
theorem zcalll {post : Int64 → Heap → Prop} (hr : va_Run p l e R s m args below meth c H locs cells slots mc ms (F0 m pc ls st0) rest (zQl post A a) A) (hS : va_S A s.heap H locs)
    (kk : ∀ (z : Int64) (H1 : Heap) (locs1 : List Loc), post z H1 → H.size ≤ H1.size → (∀ q : Nat, q < H.size → ¬ A q → H1[q]? = H[q]?) → va_S A s.heap H1 locs1 → W p l e R s m args below meth c H1 locs1 (cells + mc) (slots + ms) Q (F0 m (pc + 3) ls (.long z :: rest))) : W p l e R s m args below meth c H locs cells slots Q (F0 m pc ls st0) := by
  refine va_calll hr hS (fun _ _ h => h) (fun _ h => h) (fun r u t H1 locs1 ht _ hp hB hz hk hS1 => ?_)
  have e1 : u = H1 := hB.symm.trans ht
  subst e1
  exact kk r u locs1 hp hz hk hS1
theorem zcallv {post : Heap → Prop} (hr : va_Run p l e R s m args below meth c H locs cells slots mc ms (F0 m pc ls st0) rest (zQv post A a) A) (hS : va_S A s.heap H locs)
    (kk : ∀ (H1 : Heap) (locs1 : List Loc), post H1 → H.size ≤ H1.size → (∀ q : Nat, q < H.size → ¬ A q → H1[q]? = H[q]?) → va_S A s.heap H1 locs1 → W p l e R s m args below meth c H1 locs1 (cells + mc) (slots + ms) Q (F0 m (pc + 3) ls rest)) : W p l e R s m args below meth c H locs cells slots Q (F0 m pc ls st0) := by
  refine va_callv hr hS (fun _ _ h => h) (fun _ h => h) (fun u t H1 locs1 ht _ hp hB hz hk hS1 => ?_)
  have e1 : u = H1 := hB.symm.trans ht
  subst e1
  exact kk u locs1 hp hz hk hS1
theorem zcallq {post : Option Nat → Heap → Prop} (hr : va_Run p l e R s m args below meth c H locs cells slots mc ms (F0 m pc ls st0) rest (zQq post A a) A) (hS : va_S A s.heap H locs)
    (kk : ∀ (z : Option Nat) (H1 : Heap) (locs1 : List Loc), post z H1 → H.size ≤ H1.size → (∀ q : Nat, q < H.size → ¬ A q → H1[q]? = H[q]?) → va_S A s.heap H1 locs1 → W p l e R s m args below meth c H1 locs1 (cells + mc) (slots + ms) Q (F0 m (pc + 3) ls (va_rf z :: rest))) : W p l e R s m args below meth c H locs cells slots Q (F0 m pc ls st0) := by
  refine va_callq hr hS (fun _ _ h => h) (fun _ h => h) (fun r u t H1 locs1 ht _ hp hB hz hk hS1 => ?_)
  have e1 : u = H1 := hB.symm.trans ht
  subst e1
  exact kk r u locs1 hp hz hk hS1
theorem ziret {post : Int → Heap → Prop} (hx : p.tables.exec = Jvm.exec) (hb : c.code = cc) (hr : meth.sig.returnType = some .int) (hlocks : meth.locks = false) (hS : va_S A s.heap H locs) (hc : cells ≤ mc) (hs : slots ≤ ms) {z : Int} (hz : zr z) (hp : post z H) (hdg : decode cc pc = .ok (.ireturn, 1)) : W p l e R s m args below meth c H locs cells slots (MQ below (zQi post A) args s mc ms A) (F0 m pc ls [.int (iI z)]) := W.widen hc hs (W.iret hx hb hr (fun _ ht _ => ⟨⟨_, _, rfl, ⟨z, hz, rfl, hp⟩, ht⟩, hS.F ht⟩) hS.2.2 hdg hlocks)
theorem zzret {post : Int → Heap → Prop} (hx : p.tables.exec = Jvm.exec) (hb : c.code = cc) (hr : meth.sig.returnType = some .boolean) (hlocks : meth.locks = false) (hS : va_S A s.heap H locs) (hc : cells ≤ mc) (hs : slots ≤ ms) {z : Int} (hz : z = 0 ∨ z = 1) (hp : post z H) (hdg : decode cc pc = .ok (.ireturn, 1)) : W p l e R s m args below meth c H locs cells slots (MQ below (zQi post A) args s mc ms A) (F0 m pc ls [.int (iI z)]) := W.widen hc hs (W.zret hx hb hr (by rcases hz with rfl | rfl <;> decide) (fun _ ht _ => ⟨⟨_, _, rfl, ⟨z, ⟨by omega, by omega⟩, rfl, hp⟩, ht⟩, hS.F ht⟩) hS.2.2 hdg hlocks)
theorem zvret {post : Heap → Prop} (hx : p.tables.exec = Jvm.exec) (hb : c.code = cc) (hr : meth.sig.returnType = none) (hlocks : meth.locks = false) (hS : va_S A s.heap H locs) (hc : cells ≤ mc) (hs : slots ≤ ms) (hp : post H) (hdg : decode cc pc = .ok (.return_, 1)) : W p l e R s m args below meth c H locs cells slots (MQ below (zQv post A) args s mc ms A) (F0 m pc ls []) := W.widen hc hs (W.vret hx hb hr (fun _ ht _ => ⟨⟨_, rfl, hp, ht⟩, hS.F ht⟩) hS.2.2 hdg hlocks)
theorem zlret {post : Int64 → Heap → Prop} (hx : p.tables.exec = Jvm.exec) (hb : c.code = cc) (hr : meth.sig.returnType = some .long) (hlocks : meth.locks = false) (hS : va_S A s.heap H locs) (hc : cells ≤ mc) (hs : slots ≤ ms) {z : Int64} (hp : post z H) (hdg : decode cc pc = .ok (.lreturn, 1)) : W p l e R s m args below meth c H locs cells slots (MQ below (zQl post A) args s mc ms A) (F0 m pc ls [.long z]) := W.widen hc hs (W.lret hx hb hr (fun _ ht _ => ⟨⟨_, _, rfl, hp, ht⟩, hS.F ht⟩) hS.2.2 hdg hlocks)
theorem zaret {post : Option Nat → Heap → Prop} {n : String} (hx : p.tables.exec = Jvm.exec) (hb : c.code = cc) (hr : meth.sig.returnType = some (.object n)) (hlocks : meth.locks = false) (hS : va_S A s.heap H locs) (hc : cells ≤ mc) (hs : slots ≤ ms) {z : Option Nat} (hp : post z H) (hdg : decode cc pc = .ok (.areturn, 1)) : W p l e R s m args below meth c H locs cells slots (MQ below (zQq post A) args s mc ms A) (F0 m pc ls [va_rf z]) := W.widen hc hs (W.aret hx hb hr (Or.inl ⟨_, rfl⟩) (by cases z; exact Or.inl rfl; exact Or.inr ⟨_, rfl⟩) (fun _ ht _ => ⟨⟨_, _, rfl, hp, ht⟩, hS.F ht⟩) hS.2.2 hdg hlocks)
end ZC
end
section
/-! ===== the two objects as pictures ===== -/
/-- a pour: its ints by field, its two rows, the mask -/
abbrev PS : Type := (Nat → Int) × (Nat → Int) × (Nat → Int) × Int64
def yP (ad : Nat → Nat) (i : Nat) (p : PS) : List Value := [.int (iI (p.1 0)), .int (iI (p.1 1)), .int (iI (p.1 2)), .int (iI (p.1 3)), .int (iI (p.1 4)), .ref (ad (11 + 3 * i)), .ref (ad (12 + 3 * i)), .int (iI (p.1 7)), .int (iI (p.1 8)), .int (iI (p.1 9)), .int (iI (p.1 10)), .long p.2.2.2, .int (iI (p.1 12))]
def yO (ad : Nat → Nat) (yi : Nat → Int) : List Value := [.ref (ad 1), .ref (ad 2), .ref (ad 3), .ref (ad 4), .ref (ad 5), .int (iI (yi 5)), .int (iI (yi 6)), .int (iI (yi 7)), .int (iI (yi 8))]
def yR (ad : Nat → Nat) (pr : Nat → Option PS) : Nat → Option Nat := fun i => if i < 10 then (pr i).map (fun _ => ad (10 + 3 * i)) else none
def yE (cy : Nat → ClassId) (ad : Nat → Nat) (ya : Nat → Nat → Int) (yi : Nat → Int) (pr : Nat → Option PS) : Nat → Option va_E := fun k =>
  if k = 0 then some (.inr (1, yO ad yi))
  else if k = 1 then some (.inl (cy 0, 1000, .inl (fun j => iI (ya 0 j))))
  else if k = 2 then some (.inl (cy 0, 1001, .inl (fun j => iI (ya 1 j))))
  else if k = 3 then some (.inl (cy 0, 1000, .inl (fun j => iI (ya 2 j))))
  else if k = 4 then some (.inl (cy 0, 1001, .inl (fun j => iI (ya 3 j))))
  else if k = 5 then some (.inl (cy 2, 10, .inr (.inr (.inr (.inr (yR ad pr))))))
  else if k < 10 then none
  else if k < 43 then (pr ((k - 10) / 3)).map (fun p => if k % 3 = 1 then .inr (0, yP ad ((k - 10) / 3) p) else if k % 3 = 2 then .inl (cy 0, 4, .inl (fun j => iI (p.2.1 j))) else .inl (cy 0, 4, .inl (fun j => iI (p.2.2.1 j))))
  else none
section YE
variable {cy : Nat → ClassId} {ad : Nat → Nat} {ya : Nat → Nat → Int} {yi : Nat → Int} {pr : Nat → Option PS}
theorem yE_0 : yE cy ad ya yi pr 0 = some (.inr (1, yO ad yi)) := rfl
theorem yE_1 : yE cy ad ya yi pr 1 = some (.inl (cy 0, 1000, .inl (fun j => iI (ya 0 j)))) := rfl
theorem yE_2 : yE cy ad ya yi pr 2 = some (.inl (cy 0, 1001, .inl (fun j => iI (ya 1 j)))) := rfl
theorem yE_3 : yE cy ad ya yi pr 3 = some (.inl (cy 0, 1000, .inl (fun j => iI (ya 2 j)))) := rfl
theorem yE_4 : yE cy ad ya yi pr 4 = some (.inl (cy 0, 1001, .inl (fun j => iI (ya 3 j)))) := rfl
theorem yE_5 : yE cy ad ya yi pr 5 = some (.inl (cy 2, 10, .inr (.inr (.inr (.inr (yR ad pr)))))) := rfl
theorem yE_hi {k : Nat} (h1 : 10 ≤ k) (h2 : k < 43) : yE cy ad ya yi pr k = (pr ((k - 10) / 3)).map (fun p => if k % 3 = 1 then .inr (0, yP ad ((k - 10) / 3) p) else if k % 3 = 2 then .inl (cy 0, 4, .inl (fun j => iI (p.2.1 j))) else .inl (cy 0, 4, .inl (fun j => iI (p.2.2.1 j)))) := by
  unfold yE
  rw [if_neg (by omega), if_neg (by omega), if_neg (by omega), if_neg (by omega), if_neg (by omega), if_neg (by omega), if_neg (by omega), if_pos h2]
theorem yE_p {i : Nat} (hi : i < 11) {p : PS} (hp : pr i = some p) : yE cy ad ya yi pr (10 + 3 * i) = some (.inr (0, yP ad i p)) := by
  rw [yE_hi (by omega) (by omega), show (10 + 3 * i - 10) / 3 = i by omega, hp, Option.map_some, if_pos (by omega)]
theorem yE_q {i : Nat} (hi : i < 11) {p : PS} (hp : pr i = some p) : yE cy ad ya yi pr (11 + 3 * i) = some (.inl (cy 0, 4, .inl (fun j => iI (p.2.1 j)))) := by
  rw [yE_hi (by omega) (by omega), show (11 + 3 * i - 10) / 3 = i by omega, hp, Option.map_some, if_neg (by omega), if_pos (by omega)]
theorem yE_r {i : Nat} (hi : i < 11) {p : PS} (hp : pr i = some p) : yE cy ad ya yi pr (12 + 3 * i) = some (.inl (cy 0, 4, .inl (fun j => iI (p.2.2.1 j)))) := by
  rw [yE_hi (by omega) (by omega), show (12 + 3 * i - 10) / 3 = i by omega, hp, Option.map_some, if_neg (by omega), if_neg (by omega)]
theorem yR_0 {i : Nat} (h : pr i = none) : va_rf (yR ad pr i) = .null := by unfold yR; rw [h]; split <;> rfl
theorem yR_1 {i : Nat} {p : PS} (h : pr i = some p) (hi : i < 10 := by omega) : va_rf (yR ad pr i) = .ref (ad (10 + 3 * i)) := by unfold yR; rw [if_pos hi, h]; rfl
theorem yR_none : yR ad (fun _ => none) = fun _ => none := funext fun i => by unfold yR; split <;> rfl
theorem up_same {α : Type} (f : Nat → α) (k : Nat) (v : α) : va_up f k v k = v := if_pos rfl
theorem up_ne {α : Type} (f : Nat → α) {k j : Nat} (v : α) (h : j ≠ k) : va_up f k v j = f j := if_neg h
/-- an int array of the yard is written -/
theorem yU_a (a : Nat) (ha : a < 4) (i : Nat) (v : Int) {n : Nat} (h : yE cy ad ya yi pr (a + 1) = some (.inl (cy 0, n, .inl (fun j => iI (ya a j))))) : ∀ k, yE cy ad (va_up ya a (va_up (ya a) i v)) yi pr k = va_up (yE cy ad ya yi pr) (a + 1) (some (.inl (cy 0, n, .inl (fun j => iI (va_up (ya a) i v j))))) k := by
  intro k
  by_cases hk : k = a + 1
  · subst hk
    rw [up_same]
    rcases (show a = 0 ∨ a = 1 ∨ a = 2 ∨ a = 3 by omega) with rfl | rfl | rfl | rfl <;> (simp only [yE] at h ⊢; simp [up_same] at h ⊢; first | exact h | simp [h])
  · rw [up_ne _ _ hk]
    rcases (show a = 0 ∨ a = 1 ∨ a = 2 ∨ a = 3 by omega) with rfl | rfl | rfl | rfl <;>
    · unfold yE
      by_cases h0 : k = 0
      · simp [h0]
      by_cases h1 : k = 1
      · simp_all [va_up]
      by_cases h2 : k = 2
      · simp_all [va_up]
      by_cases h3 : k = 3
      · simp_all [va_up]
      by_cases h4 : k = 4
      · simp_all [va_up]
      simp [h0, h1, h2, h3, h4]
/-- an int of the yard is written -/
theorem yU_i (j : Nat) (hj : j = 5 ∨ j = 6 ∨ j = 7 ∨ j = 8) (v : Int) : ∀ k, yE cy ad ya (va_up yi j v) pr k = va_up (yE cy ad ya yi pr) 0 (some (.inr (1, (yO ad yi).set j (.int (iI v))))) k := by
  intro k
  by_cases hk : k = 0
  · subst hk
    rw [up_same, yE_0]
    rcases hj with rfl | rfl | rfl | rfl <;> simp [yO, va_up]
  · rw [up_ne _ _ hk]
    unfold yE
    simp [hk]
theorem yR_up {i : Nat} {p p2 : PS} (hp : pr i = some p) : yR ad (va_up pr i (some p2)) = yR ad pr := by
  funext j
  unfold yR va_up
  by_cases h : j = i
  · subst h; simp [hp]
  · simp [h]
/-- what a pour's three cells are when one of them changes -/
theorem yU_p {i : Nat} (hi : i < 11) {p p2 : PS} (hp : pr i = some p) (w : va_E) (r : Nat) (hr : r < 3) (hw : (if r = 0 then .inr (0, yP ad i p2) else if r = 1 then .inl (cy 0, 4, .inl (fun j => iI (p2.2.1 j))) else .inl (cy 0, 4, .inl (fun j => iI (p2.2.2.1 j)))) = w)
    (h0 : r ≠ 0 → yP ad i p2 = yP ad i p) (h1 : r ≠ 1 → p2.2.1 = p.2.1) (h2 : r ≠ 2 → p2.2.2.1 = p.2.2.1) : ∀ k, yE cy ad ya yi (va_up pr i (some p2)) k = va_up (yE cy ad ya yi pr) (10 + r + 3 * i) (some w) k := by
  intro k
  subst hw
  by_cases hk : k = 10 + r + 3 * i
  · subst hk
    rw [up_same, yE_hi (by omega) (by omega), show (10 + r + 3 * i - 10) / 3 = i by omega, up_same, Option.map_some]
    rcases (show r = 0 ∨ r = 1 ∨ r = 2 by omega) with rfl | rfl | rfl
    · rw [if_pos (by omega), if_pos rfl]
    · rw [if_neg (by omega), if_pos (by omega), if_neg (by omega), if_pos rfl]
    · rw [if_neg (by omega), if_neg (by omega), if_neg (by omega), if_neg (by omega)]
  · rw [up_ne _ _ hk]
    by_cases hl : 10 ≤ k ∧ k < 43
    · rw [yE_hi hl.1 hl.2, yE_hi hl.1 hl.2]
      by_cases hq : (k - 10) / 3 = i
      · rw [hq, up_same, hp, Option.map_some, Option.map_some]
        rcases (show k % 3 = 1 ∨ k % 3 = 2 ∨ k % 3 = 0 by omega) with h | h | h
        · rw [if_pos h, if_pos h, h0 (by omega)]
        · rw [if_neg (by omega), if_pos h, if_neg (by omega), if_pos h, h1 (by omega)]
        · rw [if_neg (by omega), if_neg (by omega), if_neg (by omega), if_neg (by omega), h2 (by omega)]
      · rw [up_ne _ _ hq]
    · unfold yE
      rw [yR_up hp]
      by_cases h10 : k < 10
      · simp [h10]
      · have : ¬ k < 43 := by omega
        simp [h10, this]
theorem yU_f {i : Nat} (hi : i < 11) {p : PS} (hp : pr i = some p) (j : Nat) (hj : j < 13) (hj2 : j ≠ 5 ∧ j ≠ 6 ∧ j ≠ 11) (v : Int) : ∀ k, yE cy ad ya yi (va_up pr i (some (va_up p.1 j v, p.2))) k = va_up (yE cy ad ya yi pr) (10 + 3 * i) (some (.inr (0, (yP ad i p).set j (.int (iI v))))) k :=
  yU_p hi hp _ 0 (by omega) (by
    rw [if_pos rfl]
    rcases (show j = 0 ∨ j = 1 ∨ j = 2 ∨ j = 3 ∨ j = 4 ∨ j = 7 ∨ j = 8 ∨ j = 9 ∨ j = 10 ∨ j = 12 by omega) with rfl | rfl | rfl | rfl | rfl | rfl | rfl | rfl | rfl | rfl <;> simp [yP, va_up]) (fun h => absurd rfl h) (fun _ => rfl) (fun _ => rfl)
theorem yU_g {i : Nat} (hi : i < 11) {p : PS} (hp : pr i = some p) (v : Int64) : ∀ k, yE cy ad ya yi (va_up pr i (some (p.1, p.2.1, p.2.2.1, v))) k = va_up (yE cy ad ya yi pr) (10 + 3 * i) (some (.inr (0, (yP ad i p).set 11 (.long v)))) k :=
  yU_p hi hp _ 0 (by omega) (by rw [if_pos rfl]; simp [yP]) (fun h => absurd rfl h) (fun _ => rfl) (fun _ => rfl)
theorem yU_q {i : Nat} (hi : i < 11) {p : PS} (hp : pr i = some p) (x : Nat) (v : Int) : ∀ k, yE cy ad ya yi (va_up pr i (some (p.1, va_up p.2.1 x v, p.2.2))) k = va_up (yE cy ad ya yi pr) (11 + 3 * i) (some (.inl (cy 0, 4, .inl (fun j => iI (va_up p.2.1 x v j))))) k := by
  have h := yU_p (cy := cy) (ad := ad) (ya := ya) (yi := yi) hi hp (p2 := (p.1, va_up p.2.1 x v, p.2.2)) _ 1 (by omega) rfl (fun _ => rfl) (fun h => absurd rfl h) (fun _ => rfl)
  rw [if_neg (by omega), if_pos rfl, show 10 + 1 + 3 * i = 11 + 3 * i by omega] at h
  exact h
theorem yU_r {i : Nat} (hi : i < 11) {p : PS} (hp : pr i = some p) (x : Nat) (v : Int) : ∀ k, yE cy ad ya yi (va_up pr i (some (p.1, p.2.1, va_up p.2.2.1 x v, p.2.2.2))) k = va_up (yE cy ad ya yi pr) (12 + 3 * i) (some (.inl (cy 0, 4, .inl (fun j => iI (va_up p.2.2.1 x v j))))) k := by
  have h := yU_p (cy := cy) (ad := ad) (ya := ya) (yi := yi) hi hp (p2 := (p.1, p.2.1, va_up p.2.2.1 x v, p.2.2.2)) _ 2 (by omega) rfl (fun _ => rfl) (fun _ => rfl) (fun h => absurd rfl h)
  rw [if_neg (by omega), if_neg (by omega), show 10 + 2 + 3 * i = 12 + 3 * i by omega] at h
  exact h
end YE
end
section
/-! ===== what the document's words are worth, in integers ===== -/
theorem iI_max (a b : Int) (ha : zr a) (hb : zr b) : (if iI a < iI b then iI b else iI a) = iI (max a b) := by
  by_cases h : a < b
  · rw [if_pos ((iI_lt ha hb).mpr h), Int.max_eq_right (by omega)]
  · rw [if_neg (fun q => h ((iI_lt ha hb).mp q)), Int.max_eq_left (by omega)]
theorem iI_min (a b : Int) (ha : zr a) (hb : zr b) : (if iI b < iI a then iI b else iI a) = iI (min a b) := by
  by_cases h : b < a
  · rw [if_pos ((iI_lt hb ha).mpr h), Int.min_eq_right (by omega)]
  · rw [if_neg (fun q => h ((iI_lt hb ha).mp q)), Int.min_eq_left (by omega)]
/-- the gain of an hour of that temperature -/
def gn (t : Int) : Int := if t + 10 < 0 then 0 else t + 10
/-- the gains of the first n hours together; hours from 1000 on have none -/
def gs (T : Nat → Int) : Nat → Int
  | 0 => 0
  | n + 1 => gs T n + (if n < 1000 then gn (T n) else 0)
def gAt (T : Nat → Int) (h : Int) : Int := if 0 ≤ h ∧ h < 1000 then gn (T h.toNat) else 0
/-- the maturity from an hour to another one -/
def mat (T : Nat → Int) (a b : Int) : Int := if a < b then gs T b.toNat - gs T a.toNat else 0
def strg (m : Int) : Int := if 5000 ≤ m then 100 else if 2500 ≤ m then 75 + 25 * (m - 2500) / 2500 else if 1200 ≤ m then 50 + 25 * (m - 1200) / 1300 else if 500 ≤ m then 25 + 25 * (m - 500) / 700 else 25 * m / 500
/-- temperatures as they may be -/
def tOK (T : Nat → Int) : Prop := ∀ j, j < 1000 → -40 ≤ T j ∧ T j ≤ 50
theorem gn_b {t : Int} (h1 : -40 ≤ t) (h2 : t ≤ 50) : 0 ≤ gn t ∧ gn t ≤ 60 := by
  unfold gn
  split <;> omega
theorem gs_b {T : Nat → Int} (h : tOK T) : ∀ n, 0 ≤ gs T n ∧ gs T n ≤ 60 * n ∧ gs T n ≤ 60000
  | 0 => by simp [gs]
  | n + 1 => by
    have h1 := gs_b h n
    simp only [gs]
    by_cases hn : n < 1000
    · rw [if_pos hn]
      have h2 := gn_b (h n hn).1 (h n hn).2
      omega
    · rw [if_neg hn]
      omega
theorem gs_m {T : Nat → Int} (h : tOK T) (a : Nat) : ∀ d, gs T a ≤ gs T (a + d)
  | 0 => Int.le_refl _
  | d + 1 => by
    have h1 := gs_m h a d
    show gs T a ≤ gs T (a + d) + (if a + d < 1000 then gn (T (a + d)) else 0)
    by_cases hn : a + d < 1000
    · rw [if_pos hn]
      have h2 := gn_b (h _ hn).1 (h _ hn).2
      omega
    · rw [if_neg hn]
      omega
theorem gs_le {T : Nat → Int} (h : tOK T) {a b : Nat} (hab : a ≤ b) : gs T a ≤ gs T b := by
  have := gs_m h a (b - a)
  rwa [show a + (b - a) = b by omega] at this
theorem gs_top {T : Nat → Int} (b : Nat) : gs T (1000 + b) = gs T 1000 := by
  induction b with
  | zero => rfl
  | succ b ih =>
    show gs T (1000 + b) + (if 1000 + b < 1000 then gn (T (1000 + b)) else 0) = gs T 1000
    rw [if_neg (by omega), ih]
    omega
theorem gs_cap {T : Nat → Int} (b : Nat) (h : 1000 ≤ b) : gs T b = gs T 1000 := by
  have := gs_top (T := T) (b - 1000)
  rwa [show 1000 + (b - 1000) = b by omega] at this
theorem mat_b {T : Nat → Int} (h : tOK T) (a b : Int) : 0 ≤ mat T a b ∧ mat T a b ≤ 60000 := by
  unfold mat
  split
  · have h1 := gs_le h (a := a.toNat) (b := b.toNat) (by omega)
    have h2 := gs_b h a.toNat
    have h3 := gs_b h b.toNat
    omega
  · omega
theorem mat_s {T : Nat → Int} (a b : Int) (h0 : 0 ≤ a) (h : a ≤ b) : mat T a (b + 1) = mat T a b + gAt T b := by
  have e : gs T (b + 1).toNat = gs T b.toNat + (if b.toNat < 1000 then gn (T b.toNat) else 0) := by
    rw [show (b + 1).toNat = b.toNat + 1 by omega]
    rfl
  have e2 : gAt T b = (if b.toNat < 1000 then gn (T b.toNat) else 0) := by
    unfold gAt
    by_cases hb : b < 1000
    · rw [if_pos ⟨by omega, hb⟩, if_pos (by omega)]
    · rw [if_neg (by omega), if_neg (by omega)]
  unfold mat
  rw [if_pos (by omega), e, e2]
  by_cases hl : a < b
  · rw [if_pos hl]
    omega
  · rw [if_neg hl, show a = b by omega]
    omega
theorem mat_0 {T : Nat → Int} (a : Int) : mat T a a = 0 := by
  unfold mat
  rw [if_neg (by omega)]
theorem mat_m {T : Nat → Int} (h : tOK T) {a b d : Int} (hbd : b ≤ d) : mat T a b ≤ mat T a d := by
  unfold mat
  by_cases h1 : a < b
  · rw [if_pos h1, if_pos (by omega)]
    have := gs_le h (a := b.toNat) (b := d.toNat) (by omega)
    omega
  · rw [if_neg h1]
    split
    · have := gs_le h (a := a.toNat) (b := d.toNat) (by omega)
      omega
    · omega
theorem mat_cap {T : Nat → Int} (a b : Int) (h0 : 0 ≤ a) : mat T a b = if a < min b 1000 then gs T (min b 1000).toNat - gs T a.toNat else 0 := by
  unfold mat
  by_cases h1 : a < b
  · rw [if_pos h1]
    by_cases h2 : b ≤ 1000
    · rw [if_pos (by omega), show min b 1000 = b by omega]
    · rw [show min b 1000 = 1000 by omega, gs_cap b.toNat (by omega)]
      by_cases h3 : a < 1000
      · rw [if_pos h3]
        rfl
      · rw [if_neg h3, gs_cap a.toNat (by omega)]
        omega
  · rw [if_neg h1, if_neg (by omega)]
theorem strg_b {m : Int} (h : 0 ≤ m) : 0 ≤ strg m ∧ strg m ≤ 100 := by
  unfold strg
  repeat' split
  all_goals omega
theorem strg_m {a b : Int} (h0 : 0 ≤ a) (h : a ≤ b) : strg a ≤ strg b := by
  unfold strg
  repeat' split
  all_goals omega
end
section
theorem gAt_b {T : Nat → Int} (h : tOK T) (x : Int) : 0 ≤ gAt T x ∧ gAt T x ≤ 60 := by
  unfold gAt
  split
  · have := h x.toNat (by omega)
    exact gn_b this.1 this.2
  · omega
/-- a sum of the first n -/
def sl (f : Nat → Int) : Nat → Int
  | 0 => 0
  | n + 1 => sl f n + f n
theorem sl_c {f g : Nat → Int} : ∀ {n : Nat}, (∀ k, k < n → f k = g k) → sl f n = sl g n
  | 0, _ => rfl
  | n + 1, h => by
    show sl f n + f n = sl g n + g n
    rw [sl_c (fun k hk => h k (by omega)), h n (by omega)]
theorem sl_b {f : Nat → Int} {a b : Int} : ∀ {n : Nat}, (∀ k, k < n → a ≤ f k ∧ f k ≤ b) → a * n ≤ sl f n ∧ sl f n ≤ b * n
  | 0, _ => by simp [sl]
  | n + 1, h => by
    have h1 := sl_b (f := f) (a := a) (b := b) (n := n) (fun k hk => h k (by omega))
    have h2 := h n (by omega)
    have e1 : a * ((n + 1 : Nat) : Int) = a * n + a := by rw [Int.natCast_add, Int.mul_add]; simp
    have e2 : b * ((n + 1 : Nat) : Int) = b * n + b := by rw [Int.natCast_add, Int.mul_add]; simp
    show _ ≤ sl f n + f n ∧ sl f n + f n ≤ _
    omega
def endS (rt st vol : Int) (ln : Nat → Int) (nb : Int) : Int := st + (vol + rt - 1) / rt + sl ln nb.toNat
def fnd (P : Int → Prop) [DecidablePred P] : Int → Nat → Int
  | h, 0 => h
  | h, n + 1 => if P h then h else fnd P (h + 1) n
theorem fnd_s (P : Int → Prop) [DecidablePred P] {h : Int} (hh : h < 1000) : fnd P h (1000 - h).toNat = if P h then h else fnd P (h + 1) (1000 - (h + 1)).toNat := by
  rw [show (1000 - h).toNat = (1000 - (h + 1)).toNat + 1 by omega]
  rfl
theorem fnd_e (P : Int → Prop) [DecidablePred P] {h : Int} (hh : 1000 ≤ h) : fnd P h (1000 - h).toNat = h := by
  rw [show (1000 - h).toNat = 0 by omega]
  rfl
theorem fnd_b (P : Int → Prop) [DecidablePred P] : ∀ (n : Nat) (h : Int), h ≤ fnd P h n ∧ fnd P h n ≤ h + n ∧ (fnd P h n < h + n → P (fnd P h n)) ∧ ∀ x, h ≤ x → x < fnd P h n → ¬ P x
  | 0, h => ⟨Int.le_refl _, by simp [fnd], fun q => by simp [fnd] at q, fun x h1 h2 => by simp [fnd] at h2; omega⟩
  | n + 1, h => by
    obtain ⟨h1, h2, h3, h4⟩ := fnd_b P n (h + 1)
    show h ≤ (if P h then h else fnd P (h + 1) n) ∧ (if P h then h else fnd P (h + 1) n) ≤ h + (n + 1 : Nat) ∧ ((if P h then h else fnd P (h + 1) n) < h + (n + 1 : Nat) → P (if P h then h else fnd P (h + 1) n)) ∧ ∀ x, h ≤ x → x < (if P h then h else fnd P (h + 1) n) → ¬ P x
    by_cases hP : P h
    · simp only [if_pos hP]
      refine ⟨Int.le_refl _, by omega, fun _ => hP, fun x a b => by omega⟩
    · simp only [if_neg hP]
      refine ⟨by omega, by omega, fun q => h3 (by omega), fun x a b => ?_⟩
      by_cases hx : x = h
      · rw [hx]; exact hP
      · exact h4 x (by omega) b
/-- the hour of striking; 1000 or more: never -/
def strikeS (T : Nat → Int) (w e : Int) : Int := fnd (fun h => w ≤ strg (mat T e h)) e (1000 - e).toNat
theorem strikeS_b (T : Nat → Int) (w e : Int) : e ≤ strikeS T w e ∧ (e ≤ 1000 → strikeS T w e ≤ 1000) ∧ (strikeS T w e < 1000 → w ≤ strg (mat T e (strikeS T w e))) ∧ ∀ x, e ≤ x → x < strikeS T w e → strg (mat T e x) < w := by
  obtain ⟨h1, h2, h3, h4⟩ := fnd_b (fun h => w ≤ strg (mat T e h)) (1000 - e).toNat e
  refine ⟨h1, fun h => ?_, fun h => h3 ?_, fun x a b => by have := h4 x a b; omega⟩
  · unfold strikeS; omega
  · unfold strikeS at h; omega
def standS (su st : Int) : Int := if st < su then 0 else st - su
def freeS (cl k : Int) : Int := if k < 1000 then k + cl else 1000
/-- the bounds of what is told of a pour -/
def pOK (ma : Nat → Nat → Int) (p : Nat) : Prop := (0 ≤ ma 8 p ∧ ma 8 p ≤ 900) ∧ (1 ≤ ma 9 p ∧ ma 9 p ≤ 200) ∧ (1 ≤ ma 10 p ∧ ma 10 p ≤ 30) ∧ (1 ≤ ma 11 p ∧ ma 11 p ≤ 100) ∧ (0 ≤ ma 12 p ∧ ma 12 p ≤ 4) ∧ ∀ k : Nat, (k : Int) < ma 12 p → (0 ≤ ma 13 (4 * p + k) ∧ ma 13 (4 * p + k) ≤ 199) ∧ 1 ≤ ma 14 (4 * p + k) ∧ ma 14 (4 * p + k) ≤ 9
def gOK (mi : Nat → Int) : Prop := (0 ≤ mi 2 ∧ mi 2 ≤ 60) ∧ (1 ≤ mi 3 ∧ mi 3 ≤ 50) ∧ (1 ≤ mi 4 ∧ mi 4 ≤ 50) ∧ (0 ≤ mi 5 ∧ mi 5 ≤ 24) ∧ 0 ≤ mi 6 ∧ mi 6 ≤ 24
def mOK (mi : Nat → Int) (ma : Nat → Nat → Int) : Prop := tOK (ma 1) ∧ gOK mi ∧ (∀ j, j < 11 → ma 7 j = 0 ∨ ma 7 j = 1) ∧ ∀ p, p < 10 → ma 7 p = 1 → pOK ma p
def endM (mi : Nat → Int) (ma : Nat → Nat → Int) (p : Nat) : Int := endS (min (mi 3) (mi 4)) (ma 8 p) (ma 9 p) (fun k => ma 14 (4 * p + k)) (ma 12 p)
theorem div_b {a b : Int} (ha : 0 ≤ a) (hb : 1 ≤ b) : 0 ≤ a / b ∧ a / b ≤ a := ⟨Int.ediv_nonneg ha (by omega), by
  have h1 := Int.mul_ediv_self_le (x := a) (k := b) (by omega)
  have h2 : 0 ≤ a / b := Int.ediv_nonneg ha (by omega)
  have h3 : 1 * (a / b) ≤ b * (a / b) := Int.mul_le_mul_of_nonneg_right hb h2
  omega⟩
theorem endM_b {mi : Nat → Int} {ma : Nat → Nat → Int} {p : Nat} (hg : gOK mi) (hp : pOK ma p) : 0 ≤ sl (fun k => ma 14 (4 * p + k)) (ma 12 p).toNat ∧ sl (fun k => ma 14 (4 * p + k)) (ma 12 p).toNat ≤ 36 ∧ 0 ≤ (ma 9 p + min (mi 3) (mi 4) - 1) / min (mi 3) (mi 4) ∧ (ma 9 p + min (mi 3) (mi 4) - 1) / min (mi 3) (mi 4) ≤ 249 ∧ 0 ≤ endM mi ma p ∧ endM mi ma p ≤ 1185 := by
  obtain ⟨h1, h2, h3, h4, h5, h6⟩ := hp
  obtain ⟨g1, g2, g3, g4, g5⟩ := hg
  have hs := sl_b (f := fun k => ma 14 (4 * p + k)) (a := 0) (b := 9) (n := (ma 12 p).toNat) (fun k hk => by have := h6 k (by omega); constructor <;> (try simp only []) <;> omega)
  have hd := div_b (a := ma 9 p + min (mi 3) (mi 4) - 1) (b := min (mi 3) (mi 4)) (by omega) (by omega)
  unfold endM endS
  refine ⟨by omega, by omega, hd.1, by omega, by omega, by omega⟩
/-- the rows of a pour's working out -/
def wV (mi : Nat → Int) (ma : Nat → Nat → Int) (p : Nat) (mb : Nat → Nat → Int) : Prop := mb 15 p = standS (mi 5) (ma 8 p) ∧ mb 16 p = (if strikeS (ma 1) (ma 11 p) (endM mi ma p) < 1000 then strikeS (ma 1) (ma 11 p) (endM mi ma p) else -1) ∧ mb 17 p = freeS (mi 6) (strikeS (ma 1) (ma 11 p) (endM mi ma p))
def rU (k p : Nat) (ma mb : Nat → Nat → Int) : Prop := ∀ r j, (r ≠ k ∨ j ≠ p) → mb r j = ma r j
theorem rU_r {k p : Nat} {ma : Nat → Nat → Int} : rU k p ma ma := fun _ _ _ => rfl
theorem rU_s {k p : Nat} {ma mb mc : Nat → Nat → Int} {v : Int} (h : rU k p ma mb) (e : mc = va_up mb k (va_up (mb k) p v)) : rU k p ma mc ∧ mc k p = v := by
  subst e
  refine ⟨fun r j hj => ?_, by rw [up_same, up_same]⟩
  by_cases hr : r = k
  · subst hr
    rw [up_same, up_ne _ _ (by rcases hj with q | q; exact absurd rfl q; exact q)]
    exact h r j hj
  · rw [up_ne _ _ hr]
    exact h r j hj
theorem rU_row {k p r : Nat} {ma mb : Nat → Nat → Int} (h : rU k p ma mb) (hr : r ≠ k) : mb r = ma r := funext fun j => h r j (Or.inl hr)
/-- only the rows 15, 16, 17 at p may differ -/
def wU (p : Nat) (ma mb : Nat → Nat → Int) : Prop := ∀ r j, (r < 15 ∨ 17 < r ∨ j ≠ p) → mb r j = ma r j
/-- .. at places below 10 -/
def aU (ma mb : Nat → Nat → Int) : Prop := ∀ r j, (r < 15 ∨ 17 < r ∨ 10 ≤ j) → mb r j = ma r j
theorem wU_row {p r : Nat} {ma mb : Nat → Nat → Int} (h : wU p ma mb) (hr : r < 15 ∨ 17 < r) : mb r = ma r := funext fun j => h r j (by omega)
theorem aU_row {r : Nat} {ma mb : Nat → Nat → Int} (h : aU ma mb) (hr : r < 15 ∨ 17 < r) : mb r = ma r := funext fun j => h r j (by omega)
theorem pOK_c {ma mb : Nat → Nat → Int} {p : Nat} (h8 : mb 8 = ma 8) (h9 : mb 9 = ma 9) (h10 : mb 10 = ma 10) (h11 : mb 11 = ma 11) (h12 : mb 12 = ma 12) (h13 : mb 13 = ma 13) (h14 : mb 14 = ma 14) : pOK mb p ↔ pOK ma p := by
  unfold pOK
  rw [h8, h9, h10, h11, h12, h13, h14]
theorem endM_c {mi : Nat → Int} {ma mb : Nat → Nat → Int} {p : Nat} (h8 : mb 8 = ma 8) (h9 : mb 9 = ma 9) (h12 : mb 12 = ma 12) (h14 : mb 14 = ma 14) : endM mi mb p = endM mi ma p := by
  unfold endM
  rw [h8, h9, h12, h14]
/-- the need of an hour, as the rows 15 and 17 say -/
def nsum (ma : Nat → Nat → Int) (h : Int) : Nat → Int
  | 0 => 0
  | p + 1 => nsum ma h p + (if ma 7 p = 1 ∧ ma 15 p ≤ h ∧ h < ma 17 p then ma 10 p else 0)
theorem nsum_b {ma : Nat → Nat → Int} {h : Int} : ∀ {n : Nat}, (∀ p, p < n → ma 7 p = 1 → 1 ≤ ma 10 p ∧ ma 10 p ≤ 30) → 0 ≤ nsum ma h n ∧ nsum ma h n ≤ 30 * n
  | 0, _ => by simp [nsum]
  | n + 1, hp => by
    have h1 := nsum_b (ma := ma) (h := h) (n := n) (fun p q => hp p (by omega))
    have h2 := hp n (by omega)
    simp only [nsum]
    split
    · rename_i hc
      have := h2 hc.1
      omega
    · omega
theorem up_up {α : Type} (f : Nat → α) (k : Nat) (v w : α) : va_up (va_up f k v) k w = va_up f k w := by
  funext j
  unfold va_up
  split <;> rfl
end
section
abbrev isP (ma : Nat → Nat → Int) (p : Int) : Prop := 0 ≤ p ∧ p < 10 ∧ ma 7 p.toNat = 1
/-- scratch alone differs -/
def sU (ma mb : Nat → Nat → Int) : Prop := ∀ r j, r < 15 → (j ≠ 10 ∨ r < 8 ∨ 12 < r) → mb r j = ma r j
theorem sU_r {ma : Nat → Nat → Int} : sU ma ma := fun _ _ _ _ => rfl
theorem sU_t {ma mb mc : Nat → Nat → Int} (h1 : sU ma mb) (h2 : sU mb mc) : sU ma mc := fun r j a b => (h2 r j a b).trans (h1 r j a b)
theorem wU_s {p : Nat} {ma mb : Nat → Nat → Int} (h : wU p ma mb) : sU ma mb := fun r j a _ => h r j (Or.inl a)
theorem aU_s {ma mb : Nat → Nat → Int} (h : aU ma mb) : sU ma mb := fun r j a _ => h r j (Or.inl a)
theorem sU_row {ma mb : Nat → Nat → Int} (h : sU ma mb) {r : Nat} (hr : r < 8 ∨ r = 13 ∨ r = 14) : mb r = ma r := funext fun j => h r j (by omega) (by omega)
theorem pOK_s {ma mb : Nat → Nat → Int} (h : sU ma mb) {p : Nat} (hp : p < 10) : pOK mb p ↔ pOK ma p := by
  unfold pOK
  rw [h 8 p (by omega) (by omega), h 9 p (by omega) (by omega), h 10 p (by omega) (by omega), h 11 p (by omega) (by omega), h 12 p (by omega) (by omega), sU_row h (r := 13) (by omega), sU_row h (r := 14) (by omega)]
theorem endM_s {mi : Nat → Int} {ma mb : Nat → Nat → Int} (h : sU ma mb) {p : Nat} (hp : p < 10) : endM mi mb p = endM mi ma p := by
  unfold endM
  rw [h 8 p (by omega) (by omega), h 9 p (by omega) (by omega), h 12 p (by omega) (by omega), sU_row h (r := 14) (by omega)]
theorem mOK_s {mi : Nat → Int} {ma mb : Nat → Nat → Int} (h : sU ma mb) : mOK mi mb ↔ mOK mi ma := by
  unfold mOK
  rw [sU_row h (r := 1) (by omega), sU_row h (r := 7) (by omega)]
  constructor
  · rintro ⟨h1, h2, h3, h4⟩
    exact ⟨h1, h2, h3, fun p hp h7 => (pOK_s h hp).mp (h4 p hp h7)⟩
  · rintro ⟨h1, h2, h3, h4⟩
    exact ⟨h1, h2, h3, fun p hp h7 => (pOK_s h hp).mpr (h4 p hp h7)⟩
theorem gOK_0 {mi : Nat → Int} {c : Int} : gOK (va_up mi 0 c) ↔ gOK mi := by simp [gOK, va_up]
theorem endM_0 {mi : Nat → Int} {ma : Nat → Nat → Int} {c : Int} {p : Nat} : endM (va_up mi 0 c) ma p = endM mi ma p := by simp [endM, va_up]
theorem wV_0 {mi : Nat → Int} {ma mb : Nat → Nat → Int} {c : Int} {p : Nat} : wV (va_up mi 0 c) ma p mb ↔ wV mi ma p mb := by
  unfold wV
  rw [endM_0]
  simp [va_up]
theorem mOK_0 {mi : Nat → Int} {ma : Nat → Nat → Int} {c : Int} : mOK (va_up mi 0 c) ma ↔ mOK mi ma := by
  unfold mOK
  rw [gOK_0]
def stS (mi : Nat → Int) (ma : Nat → Nat → Int) (p : Nat) : Int := standS (mi 5) (ma 8 p)
def kS (mi : Nat → Int) (ma : Nat → Nat → Int) (p : Nat) : Int := strikeS (ma 1) (ma 11 p) (endM mi ma p)
def frS (mi : Nat → Int) (ma : Nat → Nat → Int) (p : Nat) : Int := freeS (mi 6) (kS mi ma p)
/-- the need of an hour of the first n pours -/
def nS (mi : Nat → Int) (ma : Nat → Nat → Int) (h : Int) : Nat → Int
  | 0 => 0
  | p + 1 => nS mi ma h p + (if ma 7 p = 1 ∧ stS mi ma p ≤ h ∧ h < frS mi ma p then ma 10 p else 0)
theorem nsum_nS {mi : Nat → Int} {ma mb : Nat → Nat → Int} {h : Int} (hU : aU ma mb) (hV : ∀ q, q < 10 → ma 7 q = 1 → wV mi ma q mb) : ∀ n, n ≤ 10 → nsum mb h n = nS mi ma h n
  | 0, _ => rfl
  | n + 1, hn => by
    simp only [nsum, nS]
    rw [nsum_nS hU hV n (by omega), aU_row hU (r := 7) (by omega), aU_row hU (r := 10) (by omega)]
    congr 1
    by_cases h7 : ma 7 n = 1
    · obtain ⟨h1, -, h3⟩ := hV n (by omega) h7
      rw [h1, h3]
      rfl
    · rw [if_neg (fun q => h7 q.1), if_neg (fun q => h7 q.1)]
theorem nS_0 {mi : Nat → Int} {ma : Nat → Nat → Int} {h c : Int} : ∀ n, nS (va_up mi 0 c) ma h n = nS mi ma h n
  | 0 => rfl
  | n + 1 => by
    simp only [nS]
    rw [nS_0 n]
    have e1 : stS (va_up mi 0 c) ma n = stS mi ma n := by simp [stS, va_up]
    have e2 : frS (va_up mi 0 c) ma n = frS mi ma n := by
      unfold frS kS
      rw [endM_0]
      simp [va_up]
    rw [e1, e2]
theorem nS_b {mi : Nat → Int} {ma : Nat → Nat → Int} {h : Int} : ∀ {n : Nat}, (∀ p, p < n → ma 7 p = 1 → 1 ≤ ma 10 p ∧ ma 10 p ≤ 30) → 0 ≤ nS mi ma h n ∧ nS mi ma h n ≤ 30 * n
  | 0, _ => by simp [nS]
  | n + 1, hp => by
    have h1 := nS_b (mi := mi) (ma := ma) (h := h) (n := n) (fun p q => hp p (by omega))
    have h2 := hp n (by omega)
    simp only [nS]
    split
    · rename_i hc
      have := h2 hc.1
      omega
    · omega
theorem kS_b {mi : Nat → Int} {ma : Nat → Nat → Int} {p : Nat} (hg : gOK mi) (hp : pOK ma p) : 0 ≤ kS mi ma p ∧ kS mi ma p ≤ 1185 := by
  have h1 := strikeS_b (ma 1) (ma 11 p) (endM mi ma p)
  have h2 := endM_b hg hp
  unfold kS
  by_cases h : endM mi ma p ≤ 1000
  · have := h1.2.1 h
    omega
  · unfold strikeS at h1 ⊢
    rw [show (1000 - endM mi ma p).toNat = 0 by omega] at h1 ⊢
    simp only [fnd] at h1 ⊢
    omega
theorem wV_b {mi : Nat → Int} {ma mb : Nat → Nat → Int} {p : Nat} (hg : gOK mi) (hp : pOK ma p) (hv : wV mi ma p mb) : (0 ≤ mb 15 p ∧ mb 15 p ≤ 900) ∧ (-1 ≤ mb 16 p ∧ mb 16 p < 1000) ∧ 0 ≤ mb 17 p ∧ mb 17 p ≤ 1100 := by
  have h1 := kS_b hg hp
  obtain ⟨a, b, c⟩ := hv
  obtain ⟨q1, q2, q3, q4, q5, q6⟩ := hp
  obtain ⟨g1, g2, g3, g4, g5⟩ := hg
  unfold kS at h1
  rw [a, b, c]
  unfold standS freeS
  refine ⟨?_, ?_, ?_⟩ <;> repeat' split
  all_goals omega
/-- what needOf asks of the rows -/
theorem zr9 {mi : Nat → Int} {ma mb : Nat → Nat → Int} (hm : mOK mi ma) (hU : aU ma mb) (hV : ∀ q, q < 10 → ma 7 q = 1 → wV mi ma q mb) : (∀ j, j < 11 → mb 7 j = 0 ∨ mb 7 j = 1) ∧ ∀ q, q < 10 → mb 7 q = 1 → zr (mb 15 q) ∧ zr (mb 17 q) ∧ 1 ≤ mb 10 q ∧ mb 10 q ≤ 30 := by
  obtain ⟨h1, h2, h3, h4⟩ := hm
  rw [aU_row hU (r := 7) (by omega), aU_row hU (r := 10) (by omega)]
  refine ⟨h3, fun q hq h7 => ?_⟩
  have hb := wV_b h2 (h4 q hq h7) (hV q hq h7)
  have hp := h4 q hq h7
  obtain ⟨q1, q2, q3, q4, q5, q6⟩ := hp
  refine ⟨⟨by omega, by omega⟩, ⟨by omega, by omega⟩, by omega, by omega⟩
/-- the greatest of the first n, from 0 on -/
def mx (f : Nat → Int) : Nat → Int
  | 0 => 0
  | n + 1 => max (mx f n) (f n)
def frN (ma : Nat → Nat → Int) (n : Nat) : Prop := n ≤ 10 ∧ (∀ j, j < n → ma 7 j = 1) ∧ (n < 10 → ma 7 n = 0)
def layR (p : Nat) (a b d f : Int) (ma mb : Nat → Nat → Int) : Prop := mb 8 = va_up (ma 8) p a ∧ mb 9 = va_up (ma 9) p b ∧ mb 10 = va_up (ma 10) p d ∧ mb 11 = va_up (ma 11) p f ∧ mb 12 = va_up (ma 12) p 0 ∧ ∀ r, (r < 8 ∨ 12 < r) → mb r = ma r
abbrev plOK (a b d f : Int) : Prop := (0 ≤ a ∧ a ≤ 900) ∧ (1 ≤ b ∧ b ≤ 200) ∧ (1 ≤ d ∧ d ≤ 30) ∧ (1 ≤ f ∧ f ≤ 100)
/-- the maturity of a break -/
def cjB (mi : Nat → Int) (ma : Nat → Nat → Int) (p k : Nat) : Int := ma 8 p + ma 13 (4 * p + k) / min (mi 3) (mi 4) + sl (fun i => ma 14 (4 * p + i)) k
def cjF (mi : Nat → Int) (ma : Nat → Nat → Int) (p k : Nat) : Int := if 90 ≤ mat (ma 1) (cjB mi ma p k) (cjB mi ma p k + ma 14 (4 * p + k)) then 1 else 0
def setT (T : Nat → Int) (a b t : Int) : Nat → Int := fun j => if a ≤ (j : Int) ∧ (j : Int) ≤ b then t else T j
end
section
def pkS (mi : Nat → Int) (ma : Nat → Nat → Int) : Int := mx (fun j => nS mi ma j 10) 1000
theorem pkS_0 {mi : Nat → Int} {ma : Nat → Nat → Int} {c : Int} : mx (fun j : Nat => nS (va_up mi 0 c) ma j 10) 1000 = pkS mi ma := by
  unfold pkS
  rw [show (fun j : Nat => nS (va_up mi 0 c) ma j 10) = (fun j : Nat => nS mi ma j 10) from funext fun j => nS_0 10]
theorem mx_b {f : Nat → Int} {b : Int} (hb : 0 ≤ b) : ∀ {n : Nat}, (∀ k, k < n → f k ≤ b) → 0 ≤ mx f n ∧ mx f n ≤ b
  | 0, _ => by simp [mx]; exact hb
  | n + 1, h => by
    have h1 := mx_b (f := f) (n := n) hb (fun k hk => h k (by omega))
    have h2 := h n (by omega)
    simp only [mx]
    omega
def fsS (mi : Nat → Int) (ma : Nat → Nat → Int) : Int := if fnd (fun h => mi 2 < nS mi ma h 10) 0 1000 < 1000 then fnd (fun h => mi 2 < nS mi ma h 10) 0 1000 else -1
/-- a further pour's panels fit in all of its hours -/
def fitU (N : Int → Int) (pn many lo hi : Int) : Prop := ∀ h, lo ≤ h → h < hi → h < 1000 → N h + many ≤ pn
def fitS (mi : Nat → Int) (ma : Nat → Nat → Int) (vol many str st : Int) : Prop := fitU (fun h => nS mi ma h 10) (mi 2) many (standS (mi 5) st) (freeS (mi 6) (strikeS (ma 1) str (st + (vol + min (mi 3) (mi 4) - 1) / min (mi 3) (mi 4))))
def earS (mi : Nat → Int) (ma : Nat → Nat → Int) (fr vol many str z : Int) : Prop := (fr ≤ z ∧ z ≤ 900 ∧ fitS mi ma vol many str z ∧ ∀ s, fr ≤ s → s < z → ¬ fitS mi ma vol many str s) ∨ (z = -1 ∧ ∀ s, fr ≤ s → s ≤ 900 → ¬ fitS mi ma vol many str s)
theorem nsum_c {ma mb : Nat → Nat → Int} {h : Int} : ∀ n, (∀ p, p < n → mb 7 p = ma 7 p ∧ mb 15 p = ma 15 p ∧ mb 17 p = ma 17 p ∧ mb 10 p = ma 10 p) → nsum mb h n = nsum ma h n
  | 0, _ => rfl
  | n + 1, hp => by
    obtain ⟨e1, e2, e3, e4⟩ := hp n (by omega)
    simp only [nsum]
    rw [nsum_c n (fun p q => hp p (by omega)), e1, e2, e3, e4]
/-- only the further pour's places may differ -/
def eU (ma mb : Nat → Nat → Int) : Prop := ∀ r j, (j ≠ 10 ∨ r < 8 ∨ 17 < r ∨ r = 13 ∨ r = 14) → mb r j = ma r j
/-- where a break goes -/
def ipos (f : Nat → Int) (v : Int) : Nat → Nat
  | 0 => 0
  | n + 1 => if v < f n then ipos f v n else n + 1
def ins (f : Nat → Int) (k : Nat) (v : Int) : Nat → Int := fun i => if i < k then f i else if i = k then v else f (i - 1)
theorem ipos_b (f : Nat → Int) (v : Int) : ∀ n, ipos f v n ≤ n
  | 0 => Nat.le_refl _
  | n + 1 => by
    have := ipos_b f v n
    simp only [ipos]
    split <;> omega
theorem ipos_c {f g : Nat → Int} (v : Int) : ∀ n, (∀ i, i < n → f i = g i) → ipos f v n = ipos g v n
  | 0, _ => rfl
  | n + 1, h => by
    simp only [ipos]
    rw [ipos_c v n (fun i hi => h i (by omega)), h n (by omega)]
/-- the state while a break is being put in: k is free, what was from k on stands one further -/
def dlI (f g : Nat → Int) (k nb : Nat) : Prop := (∀ i, i < k → g i = f i) ∧ (∀ i, k < i → i ≤ nb → g i = f (i - 1)) ∧ ∀ i, nb < i → g i = f i
theorem dlI_0 {f : Nat → Int} {nb : Nat} : dlI f f nb nb := ⟨fun _ _ => rfl, fun i h1 h2 => absurd h1 (by omega), fun _ _ => rfl⟩
theorem dlI_s {f g : Nat → Int} {k nb : Nat} (h : dlI f g (k + 1) nb) (hk : k + 1 ≤ nb) : dlI f (va_up g (k + 1) (g k)) k nb := by
  obtain ⟨h1, h2, h3⟩ := h
  refine ⟨fun i hi => ?_, fun i h4 h5 => ?_, fun i hi => ?_⟩
  · rw [up_ne _ _ (by omega)]
    exact h1 i (by omega)
  · by_cases hi : i = k + 1
    · subst hi
      rw [up_same]
      exact h1 k (by omega)
    · rw [up_ne _ _ hi]
      exact h2 i (by omega) h5
  · rw [up_ne _ _ (by omega)]
    exact h3 i hi
theorem dlI_e {f g : Nat → Int} {k nb : Nat} (h : dlI f g k nb) (v : Int) (hk : k ≤ nb) : (∀ i, i ≤ nb → va_up g k v i = ins f k v i) ∧ ∀ i, nb < i → va_up g k v i = f i := by
  obtain ⟨h1, h2, h3⟩ := h
  refine ⟨fun i hi => ?_, fun i hi => ?_⟩
  · unfold ins
    rcases Nat.lt_trichotomy i k with q | q | q
    · rw [if_pos q, up_ne _ _ (by omega)]
      exact h1 i q
    · subst q
      rw [up_same, if_neg (by omega), if_pos rfl]
    · rw [if_neg (by omega), if_neg (by omega), up_ne _ _ (by omega)]
      exact h2 i q hi
  · rw [up_ne _ _ (by omega)]
    exact h3 i hi
/-- what a break's telling makes of the rows -/
def dlR (p : Nat) (part hours : Int) (ma mb : Nat → Nat → Int) : Prop := mb 12 = va_up (ma 12) p (ma 12 p + 1) ∧ (∀ i : Nat, (i : Int) ≤ ma 12 p → mb 13 (4 * p + i) = ins (fun j => ma 13 (4 * p + j)) (ipos (fun j => ma 13 (4 * p + j)) part (ma 12 p).toNat) part i ∧ mb 14 (4 * p + i) = ins (fun j => ma 14 (4 * p + j)) (ipos (fun j => ma 13 (4 * p + j)) part (ma 12 p).toNat) hours i) ∧ (∀ j, (j < 4 * p ∨ 4 * p + 4 ≤ j) → mb 13 j = ma 13 j ∧ mb 14 j = ma 14 j) ∧ ∀ r, (r < 12 ∨ 14 < r) → mb r = ma r
theorem eU_row {ma mb : Nat → Nat → Int} (h : eU ma mb) {r : Nat} (hr : r < 8 ∨ 17 < r ∨ r = 13 ∨ r = 14) : mb r = ma r := funext fun j => h r j (by omega)
theorem eU_t {ma mb mc : Nat → Nat → Int} (h1 : eU ma mb) (h2 : eU mb mc) : eU ma mc := fun r j a => (h2 r j a).trans (h1 r j a)
theorem eU_l {a b d f : Int} {ma mb : Nat → Nat → Int} (h : layR 10 a b d f ma mb) : eU ma mb := by
  obtain ⟨h8, h9, h10, h11, h12, hr⟩ := h
  intro r j hj
  rcases Nat.lt_or_ge r 8 with q | q
  · rw [hr r (by omega)]
  · rcases Nat.lt_or_ge 12 r with q2 | q2
    · rw [hr r (by omega)]
    · rcases (show r = 8 ∨ r = 9 ∨ r = 10 ∨ r = 11 ∨ r = 12 by omega) with rfl | rfl | rfl | rfl | rfl
      · rw [h8, up_ne _ _ (by omega)]
      · rw [h9, up_ne _ _ (by omega)]
      · rw [h10, up_ne _ _ (by omega)]
      · rw [h11, up_ne _ _ (by omega)]
      · rw [h12, up_ne _ _ (by omega)]
theorem wU_e {ma mb : Nat → Nat → Int} (h : wU 10 ma mb) : eU ma mb := fun r j hj => h r j (by omega)
theorem eU_s {ma mb : Nat → Nat → Int} (h : eU ma mb) : sU ma mb := fun r j h1 h2 => h r j (by omega)
theorem fit_e {mi : Nat → Int} {ma mw mb : Nat → Nat → Int} {c x b d f : Int} (hm : mOK mi ma) (haU : aU ma mw) (haV : ∀ q, q < 10 → ma 7 q = 1 → wV (va_up mi 0 c) ma q mw) (hU : eU mw mb) (h8 : mb 8 10 = x) (h9 : mb 9 10 = b) (h10 : mb 10 10 = d) (h11 : mb 11 10 = f) (h12 : mb 12 10 = 0) (hx : 0 ≤ x) : fitU (fun h => nsum mb h 10) (va_up mi 0 c 2) (mb 10 10) (stS (va_up mi 0 c) mb 10) (frS (va_up mi 0 c) mb 10) = fitS mi ma b d f x := by
  have e1 : (fun h => nsum mb h 10) = fun h => nS mi ma h 10 := funext fun h => by
    rw [nsum_c 10 (fun p hp => ⟨hU 7 p (by omega), hU 15 p (by omega), hU 17 p (by omega), hU 10 p (by omega)⟩), nsum_nS haU haV 10 (Nat.le_refl _), nS_0]
  have e2 : stS (va_up mi 0 c) mb 10 = standS (mi 5) x := by
    unfold stS
    rw [h8]
    simp [va_up]
  have e3 : endM (va_up mi 0 c) mb 10 = x + (b + min (mi 3) (mi 4) - 1) / min (mi 3) (mi 4) := by
    rw [endM_0]
    unfold endM endS
    rw [h8, h9, h12]
    simp [sl]
  have e4 : mb 1 = ma 1 := (eU_row hU (by omega)).trans (aU_row haU (by omega))
  have e5 : frS (va_up mi 0 c) mb 10 = freeS (mi 6) (strikeS (ma 1) f (x + (b + min (mi 3) (mi 4) - 1) / min (mi 3) (mi 4))) := by
    unfold frS kS
    rw [e3, e4, h11]
    simp [va_up]
  rw [e1, e2, e5, h10]
  rfl
theorem sh_up (F : Nat → Int) (b x : Nat) (v : Int) : (fun j => va_up F (b + x) v (b + j)) = va_up (fun j => F (b + j)) x v := by
  funext j
  unfold va_up
  by_cases h : j = x
  · rw [if_pos h, if_pos (by omega)]
  · rw [if_neg h, if_neg (by omega)]
end
section
/-- the yard's own words: a pour's end, striking, stand, release out of what it holds -/
def endY (yi : Nat → Int) (p : PS) : Int := endS (yi 6) (p.1 3) (p.1 0) p.2.2.1 (p.1 4)
def kY (T : Nat → Int) (yi : Nat → Int) (p : PS) : Int := strikeS T (p.1 2) (endY yi p)
def schR (T : Nat → Int) (yi : Nat → Int) (p q : PS) : Prop := (q.1 0 = p.1 0 ∧ q.1 1 = p.1 1 ∧ q.1 2 = p.1 2 ∧ q.1 3 = p.1 3 ∧ q.1 4 = p.1 4) ∧ q.2.1 = p.2.1 ∧ q.2.2.1 = p.2.2.1 ∧ q.1 7 = endY yi p ∧ q.1 8 = (if kY T yi p < 1000 then kY T yi p else -1) ∧ q.1 9 = standS (yi 7) (p.1 3) ∧ q.1 10 = min 1000 (freeS (yi 8) (kY T yi p))
def pB (p : PS) : Prop := (0 ≤ p.1 3 ∧ p.1 3 ≤ 900) ∧ (1 ≤ p.1 0 ∧ p.1 0 ≤ 200) ∧ (1 ≤ p.1 1 ∧ p.1 1 ≤ 30) ∧ (1 ≤ p.1 2 ∧ p.1 2 ≤ 100) ∧ (0 ≤ p.1 4 ∧ p.1 4 ≤ 4) ∧ ∀ k : Nat, (k : Int) < p.1 4 → (0 ≤ p.2.1 k ∧ p.2.1 k ≤ 199) ∧ 1 ≤ p.2.2.1 k ∧ p.2.2.1 k ≤ 9
def yB (yi : Nat → Int) : Prop := (0 ≤ yi 5 ∧ yi 5 ≤ 60) ∧ (1 ≤ yi 6 ∧ yi 6 ≤ 50) ∧ (0 ≤ yi 7 ∧ yi 7 ≤ 24) ∧ 0 ≤ yi 8 ∧ yi 8 ≤ 24
def gnd (T : Nat → Int) (ya : Nat → Nat → Int) : Prop := ∀ n, n ≤ 1000 → ya 1 n = gs T n
theorem endY_b {yi : Nat → Int} {p : PS} (hg : yB yi) (hp : pB p) : 0 ≤ sl p.2.2.1 (p.1 4).toNat ∧ sl p.2.2.1 (p.1 4).toNat ≤ 36 ∧ 0 ≤ (p.1 0 + yi 6 - 1) / yi 6 ∧ (p.1 0 + yi 6 - 1) / yi 6 ≤ 249 ∧ 0 ≤ endY yi p ∧ endY yi p ≤ 1185 := by
  obtain ⟨h1, h2, h3, h4, h5, h6⟩ := hp
  obtain ⟨g1, g2, g3, g4⟩ := hg
  have hs := sl_b (f := p.2.2.1) (a := 0) (b := 9) (n := (p.1 4).toNat) (fun k hk => by have := h6 k (by omega); omega)
  have hd := div_b (a := p.1 0 + yi 6 - 1) (b := yi 6) (by omega) (by omega)
  unfold endY endS
  refine ⟨by omega, by omega, hd.1, by omega, by omega, by omega⟩
def nY (pr : Nat → Option PS) (h : Int) : Nat → Int
  | 0 => 0
  | i + 1 => nY pr h i + (match pr i with
    | none => 0
    | some p => if p.1 9 ≤ h ∧ h < p.1 10 then p.1 1 else 0)
theorem nY_n {pr : Nat → Option PS} {h : Int} {i : Nat} (hp : pr i = none) : nY pr h (i + 1) = nY pr h i := by
  simp only [nY, hp]
  omega
theorem nY_s {pr : Nat → Option PS} {h : Int} {i : Nat} {p : PS} (hp : pr i = some p) : nY pr h (i + 1) = nY pr h i + (if p.1 9 ≤ h ∧ h < p.1 10 then p.1 1 else 0) := by
  simp only [nY, hp]
/-- what is known of every pour that is there -/
def pA (pr : Nat → Option PS) : Prop := ∀ i p, i < 10 → pr i = some p → pB p ∧ (0 ≤ p.1 9 ∧ p.1 9 ≤ 1000) ∧ 0 ≤ p.1 10 ∧ p.1 10 ≤ 1000
theorem nY_b {pr : Nat → Option PS} {h : Int} (ha : pA pr) : ∀ {n : Nat}, n ≤ 10 → 0 ≤ nY pr h n ∧ nY pr h n ≤ 30 * n
  | 0, _ => by simp [nY]
  | n + 1, hn => by
    have h1 := nY_b (h := h) ha (n := n) (by omega)
    cases hp : pr n with
    | none => rw [nY_n hp]; omega
    | some p =>
      rw [nY_s hp]
      have h2 := (ha n p (by omega) hp).1.2.2.1
      split <;> omega
/-- the pours below n worked out anew, the others as they were -/
def schA (T : Nat → Int) (yi : Nat → Int) (pr pq : Nat → Option PS) (n : Nat) : Prop := ∀ i, i < 10 → (pr i = none → pq i = none) ∧ ∀ p, pr i = some p → ∃ q, pq i = some q ∧ ((i < n ∧ schR T yi p q) ∨ (n ≤ i ∧ q = p))
theorem schA_0 {T : Nat → Int} {yi : Nat → Int} {pr : Nat → Option PS} : schA T yi pr pr 0 := fun i _ => ⟨fun h => h, fun p hp => ⟨p, hp, Or.inr ⟨Nat.zero_le i, rfl⟩⟩⟩
theorem schA_n {T : Nat → Int} {yi : Nat → Int} {pr pq : Nat → Option PS} {n : Nat} (h : schA T yi pr pq n) (hn : n < 10) (hp : pq n = none) : schA T yi pr pq (n + 1) := by
  intro i hi
  refine ⟨(h i hi).1, fun p hpi => ?_⟩
  obtain ⟨q, h1, h2⟩ := (h i hi).2 p hpi
  refine ⟨q, h1, ?_⟩
  rcases h2 with ⟨h3, h4⟩ | ⟨h3, h4⟩
  · exact Or.inl ⟨by omega, h4⟩
  · refine Or.inr ⟨?_, h4⟩
    by_cases hin : i = n
    · subst hin; rw [hp] at h1; cases h1
    · omega
theorem schA_s {T : Nat → Int} {yi : Nat → Int} {pr pq : Nat → Option PS} {n : Nat} {p q : PS} (h : schA T yi pr pq n) (hn : n < 10) (hp : pq n = some p) (hq : schR T yi p q) : schA T yi pr (va_up pq n (some q)) (n + 1) := by
  intro i hi
  by_cases hin : i = n
  · subst hin
    refine ⟨fun h0 => ?_, fun p2 hp2 => ?_⟩
    · have := (h i hi).1 h0
      rw [hp] at this; cases this
    · obtain ⟨q2, h1, h2⟩ := (h i hi).2 p2 hp2
      refine ⟨q, up_same _ _ _, Or.inl ⟨by omega, ?_⟩⟩
      rcases h2 with ⟨h3, -⟩ | ⟨-, h4⟩
      · omega
      · rw [hp] at h1
        cases h1
        rw [← h4]
        exact hq
  · rw [up_ne _ _ hin]
    refine ⟨(h i hi).1, fun p2 hp2 => ?_⟩
    obtain ⟨q2, h1, h2⟩ := (h i hi).2 p2 hp2
    refine ⟨q2, h1, ?_⟩
    rcases h2 with ⟨h3, h4⟩ | ⟨h3, h4⟩
    · exact Or.inl ⟨by omega, h4⟩
    · exact Or.inr ⟨by omega, h4⟩
theorem schA_at {T : Nat → Int} {yi : Nat → Int} {pr pq : Nat → Option PS} {n : Nat} {p : PS} (h : schA T yi pr pq n) (hn : n < 10) (hp : pq n = some p) : pr n = some p := by
  cases h0 : pr n with
  | none => have := (h n hn).1 h0; rw [hp] at this; cases this
  | some p2 =>
    obtain ⟨q, h1, h2⟩ := (h n hn).2 p2 h0
    rw [hp] at h1
    cases h1
    rcases h2 with ⟨h3, -⟩ | ⟨-, h4⟩
    · omega
    · rw [h4]
theorem strike_lt {T : Nat → Int} {w e hr : Int} (ht : tOK T) (h1 : hr < 1000) (h2 : strg (mat T e hr) < w) : hr < strikeS T w e := by
  obtain ⟨b1, b2, b3, b4⟩ := strikeS_b T w e
  rcases Int.lt_or_le hr (strikeS T w e) with q | q
  · exact q
  · have h3 := b3 (by omega)
    have h4 := strg_m (mat_b ht e (strikeS T w e)).1 (mat_m ht (a := e) q)
    omega
theorem strike_le {T : Nat → Int} {w e hr : Int} (h0 : e ≤ hr) (h2 : w ≤ strg (mat T e hr)) : strikeS T w e ≤ hr := by
  obtain ⟨b1, b2, b3, b4⟩ := strikeS_b T w e
  rcases Int.lt_or_le hr (strikeS T w e) with q | q
  · have := b4 hr h0 q
    omega
  · exact q
theorem strike_hi {T : Nat → Int} {w e : Int} (h : 1000 < e) : strikeS T w e = e := by
  unfold strikeS
  rw [show (1000 - e).toNat = 0 by omega]
  rfl
def pw (L : Int) : Prop := L = 512 ∨ L = 256 ∨ L = 128 ∨ L = 64 ∨ L = 32 ∨ L = 16 ∨ L = 8 ∨ L = 4 ∨ L = 2 ∨ L = 1 ∨ L = 0
theorem pw_s {L : Int} (h : pw L) (h0 : 0 < L) : pw (L / 2) ∧ (L = 1 ∨ (2 * (L / 2) = L ∧ 1 ≤ L / 2)) ∧ L ≤ 512 ∧ 0 ≤ L / 2 ∧ L / 2 < L := by
  unfold pw at h ⊢
  rcases h with rfl | rfl | rfl | rfl | rfl | rfl | rfl | rfl | rfl | rfl | rfl <;> first | omega | decide
end
section
set_option maxHeartbeats 4000000 in
set_option maxRecDepth 100000 in
theorem c_X0_isBusy (l : Launch) (D : va_G) (cy : Nat → ClassId) (A : Nat → Prop) (ad : Nat → Nat) (ya : Nat → Nat → Int) (yi : Nat → Int) (pr : Nat → Option PS) (H0 : Heap) (i : Nat) (p0 : PS) (h : Int) (hw : zW D A ad (yE cy ad ya yi pr) H0) (hi : i < 10) (hp0 : pr i = some p0) (h1 : zr h) (h2 : zr (p0.1 9)) (h3 : zr (p0.1 10)) : Met l yX0_isBusy wsX0_isBusy ({ frames := 0, cells := 0, slots := 0, locals := 0 }) (zPc D cy A [.ref (ad (10 + 3 * i)), .int (iI (h))] H0) (zQi (fun z H1 => H1 = H0 ∧ ((z = 1 ∧ p0.1 9 ≤ h ∧ h < p0.1 10) ∨ (z = 0 ∧ ¬ (p0.1 9 ≤ h ∧ h < p0.1 10)))) A) 0 0 A := by
  refine Met.ofW (cc := cX0_isBusy) (maxL := 2) (ret := (some .boolean)) (by decide) rfl ?_
  intro pg en s mt args below meth c s₁ B hml hv
  obtain ⟨rfl, hH, hE⟩ := hv
  subst hH
  have hx := B.exec
  have hb := B.bytes
  have hr := B.returns
  have hts := atoms_spec (ws := wsX0_isBusy) B.pre
  have hown : s.vm.findClass RX0 = some mt.cls := findClass_of_methodNamed B.named
  have hlocks := B.notSynchronized
  have hinX0 : ∀ w ∈ u_ws RX0 TX0 13, w ∈ wsX0_isBusy := by decide +kernel
  have hS : va_S A s.heap s.heap [] := va_S.rf
  have hl := lv_entry ([.ref (ad (10 + 3 * i)), .int (iI (h))]) (n := 2) (Nat.le_of_ble_eq_true rfl)
  rw [lg_entry_eq]
  generalize (lg_sl ([.ref (ad (10 + 3 * i)), .int (iI (h))]) ++ List.replicate (2 - (lg_sl ([.ref (ad (10 + 3 * i)), .int (iI (h))])).length) Slot.unset).toArray = ls at hl ⊢
  have hl : lv_has ls 2 [(0, .ref (ad (10 + 3 * i))), (1, .int (iI (h)))] := hl
  refine lv_aload_n hx hb dX0_isBusy_0 rfl (lv_at hl 0 rfl) ?_
  refine zget (C := RX0) (T := TX0) (N := 13) hx hb hts hinX0 hown hE hw (10 + 3 * i) (yE_p (by omega) hp0) rfl 9 (by decide) (hts (.fieldLink RX0 34 "FormworkYard$Pour" "busyFrom" "I") (by decide +kernel)) rfl dX0_isBusy_1 ?_
  refine lv_iload_n hx hb dX0_isBusy_4 rfl (lv_at hl 1 rfl) ?_
  refine zc_gt (tgt := 20) hx hb dX0_isBusy_5 (by decide) (by first | decide | (constructor <;> omega)) (by first | decide | (constructor <;> omega)) (fun c_5 => ?_) (fun c_5 => ?_)
  · refine zi_const hx hb dX0_isBusy_20 ?_
    refine zzret hx hb hr hlocks hS (Nat.le_of_ble_eq_true rfl) (Nat.le_of_ble_eq_true rfl) (by omega) ?_ dX0_isBusy_21
    exact ⟨rfl, by omega⟩
  · refine lv_iload_n hx hb dX0_isBusy_8 rfl (lv_at hl 1 rfl) ?_
    refine lv_aload_n hx hb dX0_isBusy_9 rfl (lv_at hl 0 rfl) ?_
    refine zget (C := RX0) (T := TX0) (N := 13) hx hb hts hinX0 hown hE hw (10 + 3 * i) (yE_p (by omega) hp0) rfl 10 (by decide) (hts (.fieldLink RX0 37 "FormworkYard$Pour" "busyUntil" "I") (by decide +kernel)) rfl dX0_isBusy_10 ?_
    refine zc_ge (tgt := 20) hx hb dX0_isBusy_13 (by decide) (by first | decide | (constructor <;> omega)) (by first | decide | (constructor <;> omega)) (fun c_13 => ?_) (fun c_13 => ?_)
    · refine zi_const hx hb dX0_isBusy_20 ?_
      refine zzret hx hb hr hlocks hS (Nat.le_of_ble_eq_true rfl) (Nat.le_of_ble_eq_true rfl) (by omega) ?_ dX0_isBusy_21
      exact ⟨rfl, by omega⟩
    · refine zi_const hx hb dX0_isBusy_16 ?_
      refine lv_goto (tgt := 21) hx hb dX0_isBusy_17 (by decide) ?_
      refine zzret hx hb hr hlocks hS (Nat.le_of_ble_eq_true rfl) (Nat.le_of_ble_eq_true rfl) (by omega) ?_ dX0_isBusy_21
      exact ⟨rfl, by omega⟩

set_option maxHeartbeats 4000000 in
set_option maxRecDepth 100000 in
theorem c_X0_hoursOfBreaks (l : Launch) (D : va_G) (cy : Nat → ClassId) (A : Nat → Prop) (ad : Nat → Nat) (ya : Nat → Nat → Int) (yi : Nat → Int) (pr : Nat → Option PS) (H0 : Heap) (i : Nat) (p0 : PS) (hw : zW D A ad (yE cy ad ya yi pr) H0) (hi : i < 11) (hp0 : pr i = some p0) (hpb : pB p0) : Met l yX0_hoursOfBreaks wsX0_hoursOfBreaks ({ frames := 0, cells := 0, slots := 0, locals := 0 }) (zPc D cy A [.ref (ad (10 + 3 * i))] H0) (zQi (fun z H1 => H1 = H0 ∧ z = sl p0.2.2.1 (p0.1 4).toNat) A) 0 0 A := by
  refine Met.ofW (cc := cX0_hoursOfBreaks) (maxL := 3) (ret := (some .int)) (by decide) rfl ?_
  intro pg en s mt args below meth c s₁ B hml hv
  obtain ⟨rfl, hH, hE⟩ := hv
  subst hH
  have hx := B.exec
  have hb := B.bytes
  have hr := B.returns
  have hts := atoms_spec (ws := wsX0_hoursOfBreaks) B.pre
  have hown : s.vm.findClass RX0 = some mt.cls := findClass_of_methodNamed B.named
  have hlocks := B.notSynchronized
  have hinX0 : ∀ w ∈ u_ws RX0 TX0 13, w ∈ wsX0_hoursOfBreaks := by decide +kernel
  have hS : va_S A s.heap s.heap [] := va_S.rf
  have hl := lv_entry ([.ref (ad (10 + 3 * i))]) (n := 3) (Nat.le_of_ble_eq_true rfl)
  rw [lg_entry_eq]
  generalize (lg_sl ([.ref (ad (10 + 3 * i))]) ++ List.replicate (3 - (lg_sl ([.ref (ad (10 + 3 * i))])).length) Slot.unset).toArray = ls at hl ⊢
  have hl : lv_has ls 3 [(0, .ref (ad (10 + 3 * i)))] := hl
  obtain ⟨q1, q2, q3, q4, q5, q6⟩ := id hpb
  refine zi_const hx hb dX0_hoursOfBreaks_0 ?_
  refine lv_istore_n (lv' := [(1, .int (iI (0))), (0, .ref (ad (10 + 3 * i)))]) hx hb dX0_hoursOfBreaks_1 rfl hl (by decide) rfl (fun ls hl => ?_)
  refine zi_const hx hb dX0_hoursOfBreaks_2 ?_
  refine lv_istore_n (lv' := [(2, .int (iI (0))), (1, .int (iI (0))), (0, .ref (ad (10 + 3 * i)))]) hx hb dX0_hoursOfBreaks_3 rfl hl (by decide) rfl (fun ls hl => ?_)
  have loop_4 : ∀ (n : Nat) (k : Nat) (w : Int) (locs : List Loc) (ls : Array Slot), (p0.1 4).toNat - k < n → (k ≤ (p0.1 4).toNat) → (w = sl p0.2.2.1 k) → va_S A s.heap s.heap locs → lv_has ls 3 [(2, .int (iI ((k : Int)))), (1, .int (iI (w))), (0, .ref (ad (10 + 3 * i)))] → W pg l en (headSpec wsX0_hoursOfBreaks ({ frames := 0, cells := 0, slots := 0, locals := 0 })).room s mt ([.ref (ad (10 + 3 * i))] : List Value).toArray below meth c s.heap locs 0 0 (MQ below (zQi (fun z H1 => H1 = s.heap ∧ z = sl p0.2.2.1 (p0.1 4).toNat) A) ([.ref (ad (10 + 3 * i))] : List Value).toArray s 0 0 A) (F0 mt 4 ls []) := by
    intro n
    induction n with
    | zero =>
      intro k w locs ls hm hk hs
      exfalso; omega
    | succ n ih =>
      intro k w locs ls hm hk hs hS hl
      have hbb := sl_b (f := p0.2.2.1) (a := 0) (b := 9) (n := k) (fun j hj => by have := q6 j (by omega); omega)
      refine lv_iload_n hx hb dX0_hoursOfBreaks_4 rfl (lv_at hl 0 rfl) ?_
      refine lv_aload_n hx hb dX0_hoursOfBreaks_5 rfl (lv_at hl 2 rfl) ?_
      refine zget (C := RX0) (T := TX0) (N := 13) hx hb hts hinX0 hown hE hw (10 + 3 * i) (yE_p (by omega) hp0) rfl 4 (by decide) (hts (.fieldLink RX0 31 "FormworkYard$Pour" "breaks" "I") (by decide +kernel)) rfl dX0_hoursOfBreaks_6 ?_
      refine zc_ge (tgt := 32) hx hb dX0_hoursOfBreaks_9 (by decide) (by first | decide | (constructor <;> omega)) (by first | decide | (constructor <;> omega)) (fun c_9 => ?_) (fun c_9 => ?_)
      · refine lv_iload_n hx hb dX0_hoursOfBreaks_32 rfl (lv_at hl 1 rfl) ?_
        refine ziret hx hb hr hlocks hS (Nat.le_of_ble_eq_true rfl) (Nat.le_of_ble_eq_true rfl) (by first | decide | (constructor <;> omega)) ?_ dX0_hoursOfBreaks_33
        exact ⟨rfl, by rw [hs, show k = (p0.1 4).toNat by omega]⟩
      · refine lv_iload_n hx hb dX0_hoursOfBreaks_12 rfl (lv_at hl 0 rfl) ?_
        refine zi_const hx hb dX0_hoursOfBreaks_13 ?_
        refine zc_ge (tgt := 32) hx hb dX0_hoursOfBreaks_14 (by decide) (by first | decide | (constructor <;> omega)) (by first | decide | (constructor <;> omega)) (fun c_14 => ?_) (fun c_14 => ?_)
        · refine lv_iload_n hx hb dX0_hoursOfBreaks_32 rfl (lv_at hl 1 rfl) ?_
          refine ziret hx hb hr hlocks hS (Nat.le_of_ble_eq_true rfl) (Nat.le_of_ble_eq_true rfl) (by first | decide | (constructor <;> omega)) ?_ dX0_hoursOfBreaks_33
          exact ⟨rfl, by rw [hs, show k = (p0.1 4).toNat by omega]⟩
        · refine lv_iload_n hx hb dX0_hoursOfBreaks_17 rfl (lv_at hl 1 rfl) ?_
          refine lv_aload_n hx hb dX0_hoursOfBreaks_18 rfl (lv_at hl 2 rfl) ?_
          refine zget (C := RX0) (T := TX0) (N := 13) hx hb hts hinX0 hown hE hw (10 + 3 * i) (yE_p (by omega) hp0) rfl 6 (by decide) (hts (.fieldLink RX0 15 "FormworkYard$Pour" "lengths" "[I") (by decide +kernel)) rfl dX0_hoursOfBreaks_19 ?_
          refine lv_iload_n hx hb dX0_hoursOfBreaks_22 rfl (lv_at hl 0 rfl) ?_
          refine ziald hx hb hE hw (12 + 3 * i) (yE_r (by omega) hp0) k rfl (by omega) (by omega) dX0_hoursOfBreaks_23 ?_
          refine zi_top (fun v_23 hv_23 => ?_)
          refine zi_add hx hb dX0_hoursOfBreaks_24 ?_
          refine zi_top (fun x_25 hx_25 => ?_)
          refine lv_istore_n (lv' := [(1, .int (iI (x_25))), (2, .int (iI ((k : Int)))), (0, .ref (ad (10 + 3 * i)))]) hx hb dX0_hoursOfBreaks_25 rfl hl (by decide) rfl (fun ls hl => ?_)
          refine zi_iinc (lv' := [(2, .int (iI ((k : Int) + 1))), (1, .int (iI (x_25))), (0, .ref (ad (10 + 3 * i)))]) hx hb dX0_hoursOfBreaks_26 hl (k := 1) rfl (by decide) rfl (fun ls hl => ?_)
          refine lv_goto (tgt := 4) hx hb dX0_hoursOfBreaks_29 (by decide) ?_
          exact ih (k + 1) x_25 _ _ (by omega) (by omega) (by simp only [sl]; omega) hS (lv_sub hl [0, 1, 2] rfl)
  exact loop_4 ((p0.1 4).toNat + 1) 0 0 _ _ (by omega) (by omega) rfl hS (lv_sub hl [0, 1, 2] rfl)

set_option maxHeartbeats 4000000 in
set_option maxRecDepth 100000 in
theorem c_X1_isHour (l : Launch) (D : va_G) (cy : Nat → ClassId) (A : Nat → Prop) (ad : Nat → Nat) (H0 : Heap) (h : Int) (h1 : zr h) : Met l yX1_isHour wsX1_isHour ({ frames := 0, cells := 0, slots := 0, locals := 0 }) (zPc D cy A [.int (iI (h))] H0) (zQi (fun z H1 => H1 = H0 ∧ ((z = 1 ∧ 0 ≤ h ∧ h < 1000) ∨ (z = 0 ∧ (h < 0 ∨ 1000 ≤ h)))) A) 0 0 A := by
  refine Met.ofW (cc := cX1_isHour) (maxL := 1) (ret := (some .boolean)) (by decide) rfl ?_
  intro pg en s mt args below meth c s₁ B hml hv
  obtain ⟨rfl, hH, hE⟩ := hv
  subst hH
  have hx := B.exec
  have hb := B.bytes
  have hr := B.returns
  have hts := atoms_spec (ws := wsX1_isHour) B.pre
  have hown : s.vm.findClass RX1 = some mt.cls := findClass_of_methodNamed B.named
  have hlocks := B.notSynchronized
  have hS : va_S A s.heap s.heap [] := va_S.rf
  have hl := lv_entry ([.int (iI (h))]) (n := 1) (Nat.le_of_ble_eq_true rfl)
  rw [lg_entry_eq]
  generalize (lg_sl ([.int (iI (h))]) ++ List.replicate (1 - (lg_sl ([.int (iI (h))])).length) Slot.unset).toArray = ls at hl ⊢
  have hl : lv_has ls 1 [(0, .int (iI (h)))] := hl
  refine lv_iload_n hx hb dX1_isHour_0 rfl (lv_at hl 0 rfl) ?_
  refine zf_lt (tgt := 15) hx hb dX1_isHour_1 (by decide) (by first | decide | (constructor <;> omega)) (fun c_1 => ?_) (fun c_1 => ?_)
  · refine zi_const hx hb dX1_isHour_15 ?_
    refine zzret hx hb hr hlocks hS (Nat.le_of_ble_eq_true rfl) (Nat.le_of_ble_eq_true rfl) (by omega) ?_ dX1_isHour_16
    exact ⟨rfl, by omega⟩
  · refine lv_iload_n hx hb dX1_isHour_4 rfl (lv_at hl 0 rfl) ?_
    refine zi_sipush hx hb dX1_isHour_5 (by decide) ?_
    refine zc_ge (tgt := 15) hx hb dX1_isHour_8 (by decide) (by first | decide | (constructor <;> omega)) (by first | decide | (constructor <;> omega)) (fun c_8 => ?_) (fun c_8 => ?_)
    · refine zi_const hx hb dX1_isHour_15 ?_
      refine zzret hx hb hr hlocks hS (Nat.le_of_ble_eq_true rfl) (Nat.le_of_ble_eq_true rfl) (by omega) ?_ dX1_isHour_16
      exact ⟨rfl, by omega⟩
    · refine zi_const hx hb dX1_isHour_11 ?_
      refine lv_goto (tgt := 16) hx hb dX1_isHour_12 (by decide) ?_
      refine zzret hx hb hr hlocks hS (Nat.le_of_ble_eq_true rfl) (Nat.le_of_ble_eq_true rfl) (by omega) ?_ dX1_isHour_16
      exact ⟨rfl, by omega⟩

set_option maxHeartbeats 4000000 in
set_option maxRecDepth 100000 in
theorem c_X1_isNumber (l : Launch) (D : va_G) (cy : Nat → ClassId) (A : Nat → Prop) (ad : Nat → Nat) (H0 : Heap) (h : Int) (h1 : zr h) : Met l yX1_isNumber wsX1_isNumber ({ frames := 0, cells := 0, slots := 0, locals := 0 }) (zPc D cy A [.int (iI (h))] H0) (zQi (fun z H1 => H1 = H0 ∧ ((z = 1 ∧ 0 ≤ h ∧ h < 10) ∨ (z = 0 ∧ (h < 0 ∨ 10 ≤ h)))) A) 0 0 A := by
  refine Met.ofW (cc := cX1_isNumber) (maxL := 1) (ret := (some .boolean)) (by decide) rfl ?_
  intro pg en s mt args below meth c s₁ B hml hv
  obtain ⟨rfl, hH, hE⟩ := hv
  subst hH
  have hx := B.exec
  have hb := B.bytes
  have hr := B.returns
  have hts := atoms_spec (ws := wsX1_isNumber) B.pre
  have hown : s.vm.findClass RX1 = some mt.cls := findClass_of_methodNamed B.named
  have hlocks := B.notSynchronized
  have hS : va_S A s.heap s.heap [] := va_S.rf
  have hl := lv_entry ([.int (iI (h))]) (n := 1) (Nat.le_of_ble_eq_true rfl)
  rw [lg_entry_eq]
  generalize (lg_sl ([.int (iI (h))]) ++ List.replicate (1 - (lg_sl ([.int (iI (h))])).length) Slot.unset).toArray = ls at hl ⊢
  have hl : lv_has ls 1 [(0, .int (iI (h)))] := hl
  refine lv_iload_n hx hb dX1_isNumber_0 rfl (lv_at hl 0 rfl) ?_
  refine zf_lt (tgt := 14) hx hb dX1_isNumber_1 (by decide) (by first | decide | (constructor <;> omega)) (fun c_1 => ?_) (fun c_1 => ?_)
  · refine zi_const hx hb dX1_isNumber_14 ?_
    refine zzret hx hb hr hlocks hS (Nat.le_of_ble_eq_true rfl) (Nat.le_of_ble_eq_true rfl) (by omega) ?_ dX1_isNumber_15
    exact ⟨rfl, by omega⟩
  · refine lv_iload_n hx hb dX1_isNumber_4 rfl (lv_at hl 0 rfl) ?_
    refine zi_bipush hx hb dX1_isNumber_5 (by decide) ?_
    refine zc_ge (tgt := 14) hx hb dX1_isNumber_7 (by decide) (by first | decide | (constructor <;> omega)) (by first | decide | (constructor <;> omega)) (fun c_7 => ?_) (fun c_7 => ?_)
    · refine zi_const hx hb dX1_isNumber_14 ?_
      refine zzret hx hb hr hlocks hS (Nat.le_of_ble_eq_true rfl) (Nat.le_of_ble_eq_true rfl) (by omega) ?_ dX1_isNumber_15
      exact ⟨rfl, by omega⟩
    · refine zi_const hx hb dX1_isNumber_10 ?_
      refine lv_goto (tgt := 15) hx hb dX1_isNumber_11 (by decide) ?_
      refine zzret hx hb hr hlocks hS (Nat.le_of_ble_eq_true rfl) (Nat.le_of_ble_eq_true rfl) (by omega) ?_ dX1_isNumber_15
      exact ⟨rfl, by omega⟩

set_option maxHeartbeats 4000000 in
set_option maxRecDepth 100000 in
theorem c_X1_fullHours (l : Launch) (D : va_G) (cy : Nat → ClassId) (A : Nat → Prop) (ad : Nat → Nat) (ya : Nat → Nat → Int) (yi : Nat → Int) (pr : Nat → Option PS) (H0 : Heap) (v : Int) (hw : zW D A ad (yE cy ad ya yi pr) H0) (h1 : 0 ≤ v ∧ v ≤ 1000) (hg : yB yi) : Met l yX1_fullHours wsX1_fullHours ({ frames := 0, cells := 0, slots := 0, locals := 0 }) (zPc D cy A [.ref (ad 0), .int (iI (v))] H0) (zQi (fun z H1 => H1 = H0 ∧ z = v / yi 6) A) 0 0 A := by
  refine Met.ofW (cc := cX1_fullHours) (maxL := 2) (ret := (some .int)) (by decide) rfl ?_
  intro pg en s mt args below meth c s₁ B hml hv
  obtain ⟨rfl, hH, hE⟩ := hv
  subst hH
  have hx := B.exec
  have hb := B.bytes
  have hr := B.returns
  have hts := atoms_spec (ws := wsX1_fullHours) B.pre
  have hown : s.vm.findClass RX1 = some mt.cls := findClass_of_methodNamed B.named
  have hlocks := B.notSynchronized
  have hinX1 : ∀ w ∈ u_ws RX1 TX1 9, w ∈ wsX1_fullHours := by decide +kernel
  have hS : va_S A s.heap s.heap [] := va_S.rf
  have hl := lv_entry ([.ref (ad 0), .int (iI (v))]) (n := 2) (Nat.le_of_ble_eq_true rfl)
  rw [lg_entry_eq]
  generalize (lg_sl ([.ref (ad 0), .int (iI (v))]) ++ List.replicate (2 - (lg_sl ([.ref (ad 0), .int (iI (v))])).length) Slot.unset).toArray = ls at hl ⊢
  have hl : lv_has ls 2 [(0, .ref (ad 0)), (1, .int (iI (v)))] := hl
  obtain ⟨g1, g2, g3, g4⟩ := id hg
  refine lv_aload_n hx hb dX1_fullHours_0 rfl (lv_at hl 0 rfl) ?_
  refine zget (C := RX1) (T := TX1) (N := 9) hx hb hts hinX1 hown hE hw 0 yE_0 rfl 6 (by decide) (hts (.fieldLink RX1 32 "FormworkYard" "rate" "I") (by decide +kernel)) rfl dX1_fullHours_1 ?_
  refine zf_le (tgt := 16) hx hb dX1_fullHours_4 (by decide) (by first | decide | (constructor <;> omega)) (fun c_4 => ?_) (fun c_4 => ?_)
  · refine zi_const hx hb dX1_fullHours_16 ?_
    have hd := div_b (a := v) (b := yi 6) (by omega) (by omega)
    refine ziret hx hb hr hlocks hS (Nat.le_of_ble_eq_true rfl) (Nat.le_of_ble_eq_true rfl) (by first | decide | (constructor <;> omega)) ?_ dX1_fullHours_17
    exact ⟨rfl, by first | rfl | omega⟩
  · refine lv_iload_n hx hb dX1_fullHours_7 rfl (lv_at hl 1 rfl) ?_
    refine lv_aload_n hx hb dX1_fullHours_8 rfl (lv_at hl 0 rfl) ?_
    refine zget (C := RX1) (T := TX1) (N := 9) hx hb hts hinX1 hown hE hw 0 yE_0 rfl 6 (by decide) (hts (.fieldLink RX1 32 "FormworkYard" "rate" "I") (by decide +kernel)) rfl dX1_fullHours_9 ?_
    refine zi_div hx hb dX1_fullHours_12 (by omega) (by omega) (by omega) (by omega) ?_
    refine lv_goto (tgt := 17) hx hb dX1_fullHours_13 (by decide) ?_
    have hd := div_b (a := v) (b := yi 6) (by omega) (by omega)
    refine ziret hx hb hr hlocks hS (Nat.le_of_ble_eq_true rfl) (Nat.le_of_ble_eq_true rfl) (by first | decide | (constructor <;> omega)) ?_ dX1_fullHours_17
    exact ⟨rfl, by first | rfl | omega⟩

set_option maxHeartbeats 4000000 in
set_option maxRecDepth 100000 in
theorem c_X1_startedHours (l : Launch) (D : va_G) (cy : Nat → ClassId) (A : Nat → Prop) (ad : Nat → Nat) (ya : Nat → Nat → Int) (yi : Nat → Int) (pr : Nat → Option PS) (H0 : Heap) (v : Int) (hw : zW D A ad (yE cy ad ya yi pr) H0) (h1 : 1 ≤ v ∧ v ≤ 200) (hg : yB yi) : Met l yX1_startedHours wsX1_startedHours ({ frames := 1, cells := 0, slots := 0, locals := 21 }) (zPc D cy A [.ref (ad 0), .int (iI (v))] H0) (zQi (fun z H1 => H1 = H0 ∧ z = (v + yi 6 - 1) / yi 6) A) 0 0 A := by
  refine Met.ofW (cc := cX1_startedHours) (maxL := 2) (ret := (some .int)) (by decide) rfl ?_
  intro pg en s mt args below meth c s₁ B hml hv
  obtain ⟨rfl, hH, hE⟩ := hv
  subst hH
  have hx := B.exec
  have hb := B.bytes
  have hr := B.returns
  have hts := atoms_spec (ws := wsX1_startedHours) B.pre
  have hown : s.vm.findClass RX1 = some mt.cls := findClass_of_methodNamed B.named
  have hlocks := B.notSynchronized
  have hinX1 : ∀ w ∈ u_ws RX1 TX1 9, w ∈ wsX1_startedHours := by decide +kernel
  have hS : va_S A s.heap s.heap [] := va_S.rf
  have hl := lv_entry ([.ref (ad 0), .int (iI (v))]) (n := 2) (Nat.le_of_ble_eq_true rfl)
  rw [lg_entry_eq]
  generalize (lg_sl ([.ref (ad 0), .int (iI (v))]) ++ List.replicate (2 - (lg_sl ([.ref (ad 0), .int (iI (v))])).length) Slot.unset).toArray = ls at hl ⊢
  have hl : lv_has ls 2 [(0, .ref (ad 0)), (1, .int (iI (v)))] := hl
  obtain ⟨g1, g2, g3, g4⟩ := id hg
  refine lv_aload_n hx hb dX1_startedHours_0 rfl (lv_at hl 0 rfl) ?_
  refine lv_iload_n hx hb dX1_startedHours_1 rfl (lv_at hl 1 rfl) ?_
  refine lv_aload_n hx hb dX1_startedHours_2 rfl (lv_at hl 0 rfl) ?_
  refine zget (C := RX1) (T := TX1) (N := 9) hx hb hts hinX1 hown hE hw 0 yE_0 rfl 6 (by decide) (hts (.fieldLink RX1 32 "FormworkYard" "rate" "I") (by decide +kernel)) rfl dX1_startedHours_3 ?_
  refine zi_add hx hb dX1_startedHours_6 ?_
  refine zi_const hx hb dX1_startedHours_7 ?_
  refine zi_sub hx hb dX1_startedHours_8 ?_
  refine zcalli (va_runV (As := [.int (iI ((v + (yi 6)) - 1))]) (rest := []) ⟨hx, hb, hml, hown, hts⟩ (c_X1_fullHours l D cy A ad ya yi pr _ ((v + (yi 6)) - 1) hw (by omega) hg) (cwV 1 hts gX1_startedHours_X1_fullHours rfl rfl rfl (by decide +kernel) ⟨(Nat.le_of_ble_eq_true rfl), (Nat.le_of_ble_eq_true rfl)⟩) (zPV hE hS hw (ci := 1) (k0 := 0) rfl yE_0) rfl rfl hl.1 rfl (lv_room (Nat.le_of_ble_eq_true rfl)) dX1_startedHours_9 ⟨(Nat.le_of_ble_eq_true rfl), (Nat.le_of_ble_eq_true rfl)⟩) hS (fun z_9 H1 locs hz_9 hq hz1 hk1 hS => ?_)
  obtain ⟨hqe, hv_9⟩ := hq
  replace hqe := hqe.symm
  subst hqe
  refine ziret hx hb hr hlocks hS (Nat.le_of_ble_eq_true rfl) (Nat.le_of_ble_eq_true rfl) (by first | decide | (constructor <;> omega)) ?_ dX1_startedHours_12
  exact ⟨rfl, hv_9⟩

set_option maxHeartbeats 4000000 in
set_option maxRecDepth 100000 in
theorem c_X1_gainBetween (l : Launch) (D : va_G) (cy : Nat → ClassId) (A : Nat → Prop) (ad : Nat → Nat) (ya : Nat → Nat → Int) (yi : Nat → Int) (pr : Nat → Option PS) (H0 : Heap) (T : Nat → Int) (a b : Int) (hw : zW D A ad (yE cy ad ya yi pr) H0) (h1 : 0 ≤ a ∧ a ≤ 100000) (h2 : zr b) (hG : gnd T ya) (ht : tOK T) : Met l yX1_gainBetween wsX1_gainBetween ({ frames := 1, cells := 0, slots := 0, locals := 21 }) (zPc D cy A [.ref (ad 0), .int (iI (a)), .int (iI (b))] H0) (zQi (fun z H1 => H1 = H0 ∧ z = mat T a b) A) 0 0 A := by
  refine Met.ofW (cc := cX1_gainBetween) (maxL := 4) (ret := (some .int)) (by decide) rfl ?_
  intro pg en s mt args below meth c s₁ B hml hv
  obtain ⟨rfl, hH, hE⟩ := hv
  subst hH
  have hx := B.exec
  have hb := B.bytes
  have hr := B.returns
  have hts := atoms_spec (ws := wsX1_gainBetween) B.pre
  have hown : s.vm.findClass RX1 = some mt.cls := findClass_of_methodNamed B.named
  have hlocks := B.notSynchronized
  have hinX1 : ∀ w ∈ u_ws RX1 TX1 9, w ∈ wsX1_gainBetween := by decide +kernel
  have hS : va_S A s.heap s.heap [] := va_S.rf
  have hl := lv_entry ([.ref (ad 0), .int (iI (a)), .int (iI (b))]) (n := 4) (Nat.le_of_ble_eq_true rfl)
  rw [lg_entry_eq]
  generalize (lg_sl ([.ref (ad 0), .int (iI (a)), .int (iI (b))]) ++ List.replicate (4 - (lg_sl ([.ref (ad 0), .int (iI (a)), .int (iI (b))])).length) Slot.unset).toArray = ls at hl ⊢
  have hl : lv_has ls 4 [(0, .ref (ad 0)), (1, .int (iI (a))), (2, .int (iI (b)))] := hl
  have hmb := mat_b ht a b
  have hmc := mat_cap (T := T) a b h1.1
  refine lv_iload_n hx hb dX1_gainBetween_0 rfl (lv_at hl 2 rfl) ?_
  refine zi_sipush hx hb dX1_gainBetween_1 (by decide) ?_
  refine va_mmin hx hb (hml.trans hl.1.symm) hown (hts (.methodLink RX1 74 Lib.Math.min.name) (by decide +kernel)) (hts (.static Lib.Math.min.name) (by decide +kernel)) (hts (.initialized "java/lang/Math") (by decide +kernel)) (hts (.code Lib.Math.min.name Lib.Math.min.code 2 (some .int)) (by decide +kernel)) (Nat.le_of_ble_eq_true rfl) (Nat.le_of_ble_eq_true rfl) (Nat.le_of_ble_eq_true rfl) (Nat.le_of_ble_eq_true rfl) dX1_gainBetween_4 ?_
  rw [iI_min (a := b) (b := 1000) (by first | decide | (constructor <;> omega)) (by first | decide | (constructor <;> omega))]
  refine zi_top (fun x_4 hx_4 => ?_)
  refine lv_istore_n (lv' := [(3, .int (iI (x_4))), (0, .ref (ad 0)), (1, .int (iI (a))), (2, .int (iI (b)))]) hx hb dX1_gainBetween_7 rfl hl (by decide) rfl (fun ls hl => ?_)
  refine lv_iload_n hx hb dX1_gainBetween_8 rfl (lv_at hl 2 rfl) ?_
  refine zf_lt (tgt := 33) hx hb dX1_gainBetween_9 (by decide) (by first | decide | (constructor <;> omega)) (fun c_9 => ?_) (fun c_9 => ?_)
  · refine zi_const hx hb dX1_gainBetween_33 ?_
    have hz : (0:Int) = mat T a b := by rw [hmc, if_neg (by omega)]
    refine ziret hx hb hr hlocks hS (Nat.le_of_ble_eq_true rfl) (Nat.le_of_ble_eq_true rfl) (by first | decide | (constructor <;> omega)) ?_ dX1_gainBetween_34
    exact ⟨rfl, hz⟩
  · refine lv_iload_n hx hb dX1_gainBetween_12 rfl (lv_at hl 2 rfl) ?_
    refine lv_iload_n hx hb dX1_gainBetween_13 rfl (lv_at hl 0 rfl) ?_
    refine zc_ge (tgt := 33) hx hb dX1_gainBetween_14 (by decide) (by first | decide | (constructor <;> omega)) (by first | decide | (constructor <;> omega)) (fun c_14 => ?_) (fun c_14 => ?_)
    · refine zi_const hx hb dX1_gainBetween_33 ?_
      have hz : (0:Int) = mat T a b := by rw [hmc, if_neg (by omega)]
      refine ziret hx hb hr hlocks hS (Nat.le_of_ble_eq_true rfl) (Nat.le_of_ble_eq_true rfl) (by first | decide | (constructor <;> omega)) ?_ dX1_gainBetween_34
      exact ⟨rfl, hz⟩
    · refine lv_aload_n hx hb dX1_gainBetween_17 rfl (lv_at hl 1 rfl) ?_
      refine zget (C := RX1) (T := TX1) (N := 9) hx hb hts hinX1 hown hE hw 0 yE_0 rfl 1 (by decide) (hts (.fieldLink RX1 13 "FormworkYard" "gained" "[I") (by decide +kernel)) rfl dX1_gainBetween_18 ?_
      refine lv_iload_n hx hb dX1_gainBetween_21 rfl (lv_at hl 0 rfl) ?_
      refine ziald hx hb hE hw 2 yE_2 (x_4).toNat (by omega) (by omega) (by omega) dX1_gainBetween_22 ?_
      refine zi_top (fun v_22 hv_22 => ?_)
      rw [hG _ (by omega)] at hv_22
      refine lv_aload_n hx hb dX1_gainBetween_23 rfl (lv_at hl 1 rfl) ?_
      refine zget (C := RX1) (T := TX1) (N := 9) hx hb hts hinX1 hown hE hw 0 yE_0 rfl 1 (by decide) (hts (.fieldLink RX1 13 "FormworkYard" "gained" "[I") (by decide +kernel)) rfl dX1_gainBetween_24 ?_
      refine lv_iload_n hx hb dX1_gainBetween_27 rfl (lv_at hl 2 rfl) ?_
      refine ziald hx hb hE hw 2 yE_2 (a).toNat (by omega) (by omega) (by omega) dX1_gainBetween_28 ?_
      refine zi_top (fun v_28 hv_28 => ?_)
      rw [hG _ (by omega)] at hv_28
      refine zi_sub hx hb dX1_gainBetween_29 ?_
      refine lv_goto (tgt := 34) hx hb dX1_gainBetween_30 (by decide) ?_
      have hz : v_22 - v_28 = mat T a b := by rw [hmc, if_pos (by omega), hv_22, hv_28, hx_4]
      refine ziret hx hb hr hlocks hS (Nat.le_of_ble_eq_true rfl) (Nat.le_of_ble_eq_true rfl) (by first | decide | (constructor <;> omega)) ?_ dX1_gainBetween_34
      exact ⟨rfl, hz⟩

set_option maxHeartbeats 4000000 in
set_option maxRecDepth 100000 in
theorem c_X1_strengthAt (l : Launch) (D : va_G) (cy : Nat → ClassId) (A : Nat → Prop) (ad : Nat → Nat) (H0 : Heap) (v : Int) (h1 : 0 ≤ v ∧ v ≤ 1000000) : Met l yX1_strengthAt wsX1_strengthAt ({ frames := 0, cells := 0, slots := 0, locals := 0 }) (zPc D cy A [.int (iI (v))] H0) (zQi (fun z H1 => H1 = H0 ∧ z = strg v) A) 0 0 A := by
  refine Met.ofW (cc := cX1_strengthAt) (maxL := 4) (ret := (some .int)) (by decide) rfl ?_
  intro pg en s mt args below meth c s₁ B hml hv
  obtain ⟨rfl, hH, hE⟩ := hv
  subst hH
  have hx := B.exec
  have hb := B.bytes
  have hr := B.returns
  have hts := atoms_spec (ws := wsX1_strengthAt) B.pre
  have hown : s.vm.findClass RX1 = some mt.cls := findClass_of_methodNamed B.named
  have hlocks := B.notSynchronized
  have hS : va_S A s.heap s.heap [] := va_S.rf
  have hl := lv_entry ([.int (iI (v))]) (n := 4) (Nat.le_of_ble_eq_true rfl)
  rw [lg_entry_eq]
  generalize (lg_sl ([.int (iI (v))]) ++ List.replicate (4 - (lg_sl ([.int (iI (v))])).length) Slot.unset).toArray = ls at hl ⊢
  have hl : lv_has ls 4 [(0, .int (iI (v)))] := hl
  refine zi_const hx hb dX1_strengthAt_0 ?_
  refine lv_istore_n (lv' := [(1, .int (iI (1))), (0, .int (iI (v)))]) hx hb dX1_strengthAt_1 rfl hl (by decide) rfl (fun ls hl => ?_)
  refine lv_iload_n hx hb dX1_strengthAt_2 rfl (lv_at hl 0 rfl) ?_
  obtain ⟨tS, hZS, hTS⟩ := hE.2.2.1
  refine va_gets hx hb hZS hS hown (hts (.fieldLink RX1 193 "FormworkYard" "STEPS" "[I") (by decide +kernel)) (fun _ h => h) dX1_strengthAt_3 ?_
  refine va_tlen hx hb hTS hS (v := iI 5) (by decide) dX1_strengthAt_6 ?_
  refine zc_ge (tgt := 61) hx hb dX1_strengthAt_7 (by decide) (by first | decide | (constructor <;> omega)) (by first | decide | (constructor <;> omega)) (fun c_7 => ?_) (fun c_7 => ?_)
  · exfalso; omega
  · refine va_gets hx hb hZS hS hown (hts (.fieldLink RX1 193 "FormworkYard" "STEPS" "[I") (by decide +kernel)) (fun _ h => h) dX1_strengthAt_10 ?_
    refine lv_iload_n hx hb dX1_strengthAt_13 rfl (lv_at hl 0 rfl) ?_
    refine zi_const hx hb dX1_strengthAt_14 ?_
    refine zi_sub hx hb dX1_strengthAt_15 ?_
    refine zi_top (fun y_1 hy_1 => ?_)
    replace hy_1 : y_1 = (0) := hy_1
    subst hy_1
    refine va_ti hx hb hTS hS (iI_in (by decide) (by decide) (by decide)) (v := .int (iI 0)) (by rw [iI_c ⟨by decide, by decide⟩]; rfl) dX1_strengthAt_16 ?_
    refine lv_istore_n (lv' := [(2, .int (iI (0))), (1, .int (iI (1))), (0, .int (iI (v)))]) hx hb dX1_strengthAt_17 rfl hl (by decide) rfl (fun ls hl => ?_)
    refine va_gets hx hb hZS hS hown (hts (.fieldLink RX1 193 "FormworkYard" "STEPS" "[I") (by decide +kernel)) (fun _ h => h) dX1_strengthAt_18 ?_
    refine lv_iload_n hx hb dX1_strengthAt_21 rfl (lv_at hl 1 rfl) ?_
    refine va_ti hx hb hTS hS (iI_in (by decide) (by decide) (by decide)) (v := .int (iI 500)) (by rw [iI_c ⟨by decide, by decide⟩]; rfl) dX1_strengthAt_22 ?_
    refine lv_iload_n hx hb dX1_strengthAt_23 rfl (lv_at hl 0 rfl) ?_
    refine zi_sub hx hb dX1_strengthAt_24 ?_
    refine zi_top (fun y_2 hy_2 => ?_)
    replace hy_2 : y_2 = (500) := hy_2
    subst hy_2
    refine lv_istore_n (lv' := [(3, .int (iI (500))), (2, .int (iI (0))), (1, .int (iI (1))), (0, .int (iI (v)))]) hx hb dX1_strengthAt_25 rfl hl (by decide) rfl (fun ls hl => ?_)
    refine lv_iload_n hx hb dX1_strengthAt_26 rfl (lv_at hl 3 rfl) ?_
    refine va_gets hx hb hZS hS hown (hts (.fieldLink RX1 193 "FormworkYard" "STEPS" "[I") (by decide +kernel)) (fun _ h => h) dX1_strengthAt_27 ?_
    refine lv_iload_n hx hb dX1_strengthAt_30 rfl (lv_at hl 2 rfl) ?_
    refine va_ti hx hb hTS hS (iI_in (by decide) (by decide) (by decide)) (v := .int (iI 500)) (by rw [iI_c ⟨by decide, by decide⟩]; rfl) dX1_strengthAt_31 ?_
    refine zc_ge (tgt := 55) hx hb dX1_strengthAt_32 (by decide) (by first | decide | (constructor <;> omega)) (by first | decide | (constructor <;> omega)) (fun c_32 => ?_) (fun c_32 => ?_)
    · refine zi_iinc (lv' := [(1, .int (iI (1 + 1))), (3, .int (iI (500))), (2, .int (iI (0))), (0, .int (iI (v)))]) hx hb dX1_strengthAt_55 hl (k := 2) rfl (by decide) rfl (fun ls hl => ?_)
      replace hl : lv_has ls 4 [(1, .int (iI (2))), (3, .int (iI (500))), (2, .int (iI (0))), (0, .int (iI (v)))] := hl
      refine lv_goto (tgt := 2) hx hb dX1_strengthAt_58 (by decide) ?_
      refine lv_iload_n hx hb dX1_strengthAt_2 rfl (lv_at hl 0 rfl) ?_
      refine va_gets hx hb hZS hS hown (hts (.fieldLink RX1 193 "FormworkYard" "STEPS" "[I") (by decide +kernel)) (fun _ h => h) dX1_strengthAt_3 ?_
      refine va_tlen hx hb hTS hS (v := iI 5) (by decide) dX1_strengthAt_6 ?_
      refine zc_ge (tgt := 61) hx hb dX1_strengthAt_7 (by decide) (by first | decide | (constructor <;> omega)) (by first | decide | (constructor <;> omega)) (fun c_7 => ?_) (fun c_7 => ?_)
      · exfalso; omega
      · refine va_gets hx hb hZS hS hown (hts (.fieldLink RX1 193 "FormworkYard" "STEPS" "[I") (by decide +kernel)) (fun _ h => h) dX1_strengthAt_10 ?_
        refine lv_iload_n hx hb dX1_strengthAt_13 rfl (lv_at hl 0 rfl) ?_
        refine zi_const hx hb dX1_strengthAt_14 ?_
        refine zi_sub hx hb dX1_strengthAt_15 ?_
        refine zi_top (fun y_3 hy_3 => ?_)
        replace hy_3 : y_3 = (1) := hy_3
        subst hy_3
        refine va_ti hx hb hTS hS (iI_in (by decide) (by decide) (by decide)) (v := .int (iI 500)) (by rw [iI_c ⟨by decide, by decide⟩]; rfl) dX1_strengthAt_16 ?_
        refine lv_istore_n (lv' := [(2, .int (iI (500))), (1, .int (iI (2))), (3, .int (iI (500))), (0, .int (iI (v)))]) hx hb dX1_strengthAt_17 rfl hl (by decide) rfl (fun ls hl => ?_)
        refine va_gets hx hb hZS hS hown (hts (.fieldLink RX1 193 "FormworkYard" "STEPS" "[I") (by decide +kernel)) (fun _ h => h) dX1_strengthAt_18 ?_
        refine lv_iload_n hx hb dX1_strengthAt_21 rfl (lv_at hl 1 rfl) ?_
        refine va_ti hx hb hTS hS (iI_in (by decide) (by decide) (by decide)) (v := .int (iI 1200)) (by rw [iI_c ⟨by decide, by decide⟩]; rfl) dX1_strengthAt_22 ?_
        refine lv_iload_n hx hb dX1_strengthAt_23 rfl (lv_at hl 0 rfl) ?_
        refine zi_sub hx hb dX1_strengthAt_24 ?_
        refine zi_top (fun y_4 hy_4 => ?_)
        replace hy_4 : y_4 = (700) := hy_4
        subst hy_4
        refine lv_istore_n (lv' := [(3, .int (iI (700))), (2, .int (iI (500))), (1, .int (iI (2))), (0, .int (iI (v)))]) hx hb dX1_strengthAt_25 rfl hl (by decide) rfl (fun ls hl => ?_)
        refine lv_iload_n hx hb dX1_strengthAt_26 rfl (lv_at hl 3 rfl) ?_
        refine va_gets hx hb hZS hS hown (hts (.fieldLink RX1 193 "FormworkYard" "STEPS" "[I") (by decide +kernel)) (fun _ h => h) dX1_strengthAt_27 ?_
        refine lv_iload_n hx hb dX1_strengthAt_30 rfl (lv_at hl 2 rfl) ?_
        refine va_ti hx hb hTS hS (iI_in (by decide) (by decide) (by decide)) (v := .int (iI 1200)) (by rw [iI_c ⟨by decide, by decide⟩]; rfl) dX1_strengthAt_31 ?_
        refine zc_ge (tgt := 55) hx hb dX1_strengthAt_32 (by decide) (by first | decide | (constructor <;> omega)) (by first | decide | (constructor <;> omega)) (fun c_32 => ?_) (fun c_32 => ?_)
        · refine zi_iinc (lv' := [(1, .int (iI (2 + 1))), (3, .int (iI (700))), (2, .int (iI (500))), (0, .int (iI (v)))]) hx hb dX1_strengthAt_55 hl (k := 2) rfl (by decide) rfl (fun ls hl => ?_)
          replace hl : lv_has ls 4 [(1, .int (iI (3))), (3, .int (iI (700))), (2, .int (iI (500))), (0, .int (iI (v)))] := hl
          refine lv_goto (tgt := 2) hx hb dX1_strengthAt_58 (by decide) ?_
          refine lv_iload_n hx hb dX1_strengthAt_2 rfl (lv_at hl 0 rfl) ?_
          refine va_gets hx hb hZS hS hown (hts (.fieldLink RX1 193 "FormworkYard" "STEPS" "[I") (by decide +kernel)) (fun _ h => h) dX1_strengthAt_3 ?_
          refine va_tlen hx hb hTS hS (v := iI 5) (by decide) dX1_strengthAt_6 ?_
          refine zc_ge (tgt := 61) hx hb dX1_strengthAt_7 (by decide) (by first | decide | (constructor <;> omega)) (by first | decide | (constructor <;> omega)) (fun c_7 => ?_) (fun c_7 => ?_)
          · exfalso; omega
          · refine va_gets hx hb hZS hS hown (hts (.fieldLink RX1 193 "FormworkYard" "STEPS" "[I") (by decide +kernel)) (fun _ h => h) dX1_strengthAt_10 ?_
            refine lv_iload_n hx hb dX1_strengthAt_13 rfl (lv_at hl 0 rfl) ?_
            refine zi_const hx hb dX1_strengthAt_14 ?_
            refine zi_sub hx hb dX1_strengthAt_15 ?_
            refine zi_top (fun y_5 hy_5 => ?_)
            replace hy_5 : y_5 = (2) := hy_5
            subst hy_5
            refine va_ti hx hb hTS hS (iI_in (by decide) (by decide) (by decide)) (v := .int (iI 1200)) (by rw [iI_c ⟨by decide, by decide⟩]; rfl) dX1_strengthAt_16 ?_
            refine lv_istore_n (lv' := [(2, .int (iI (1200))), (1, .int (iI (3))), (3, .int (iI (700))), (0, .int (iI (v)))]) hx hb dX1_strengthAt_17 rfl hl (by decide) rfl (fun ls hl => ?_)
            refine va_gets hx hb hZS hS hown (hts (.fieldLink RX1 193 "FormworkYard" "STEPS" "[I") (by decide +kernel)) (fun _ h => h) dX1_strengthAt_18 ?_
            refine lv_iload_n hx hb dX1_strengthAt_21 rfl (lv_at hl 1 rfl) ?_
            refine va_ti hx hb hTS hS (iI_in (by decide) (by decide) (by decide)) (v := .int (iI 2500)) (by rw [iI_c ⟨by decide, by decide⟩]; rfl) dX1_strengthAt_22 ?_
            refine lv_iload_n hx hb dX1_strengthAt_23 rfl (lv_at hl 0 rfl) ?_
            refine zi_sub hx hb dX1_strengthAt_24 ?_
            refine zi_top (fun y_6 hy_6 => ?_)
            replace hy_6 : y_6 = (1300) := hy_6
            subst hy_6
            refine lv_istore_n (lv' := [(3, .int (iI (1300))), (2, .int (iI (1200))), (1, .int (iI (3))), (0, .int (iI (v)))]) hx hb dX1_strengthAt_25 rfl hl (by decide) rfl (fun ls hl => ?_)
            refine lv_iload_n hx hb dX1_strengthAt_26 rfl (lv_at hl 3 rfl) ?_
            refine va_gets hx hb hZS hS hown (hts (.fieldLink RX1 193 "FormworkYard" "STEPS" "[I") (by decide +kernel)) (fun _ h => h) dX1_strengthAt_27 ?_
            refine lv_iload_n hx hb dX1_strengthAt_30 rfl (lv_at hl 2 rfl) ?_
            refine va_ti hx hb hTS hS (iI_in (by decide) (by decide) (by decide)) (v := .int (iI 2500)) (by rw [iI_c ⟨by decide, by decide⟩]; rfl) dX1_strengthAt_31 ?_
            refine zc_ge (tgt := 55) hx hb dX1_strengthAt_32 (by decide) (by first | decide | (constructor <;> omega)) (by first | decide | (constructor <;> omega)) (fun c_32 => ?_) (fun c_32 => ?_)
            · refine zi_iinc (lv' := [(1, .int (iI (3 + 1))), (3, .int (iI (1300))), (2, .int (iI (1200))), (0, .int (iI (v)))]) hx hb dX1_strengthAt_55 hl (k := 2) rfl (by decide) rfl (fun ls hl => ?_)
              replace hl : lv_has ls 4 [(1, .int (iI (4))), (3, .int (iI (1300))), (2, .int (iI (1200))), (0, .int (iI (v)))] := hl
              refine lv_goto (tgt := 2) hx hb dX1_strengthAt_58 (by decide) ?_
              refine lv_iload_n hx hb dX1_strengthAt_2 rfl (lv_at hl 0 rfl) ?_
              refine va_gets hx hb hZS hS hown (hts (.fieldLink RX1 193 "FormworkYard" "STEPS" "[I") (by decide +kernel)) (fun _ h => h) dX1_strengthAt_3 ?_
              refine va_tlen hx hb hTS hS (v := iI 5) (by decide) dX1_strengthAt_6 ?_
              refine zc_ge (tgt := 61) hx hb dX1_strengthAt_7 (by decide) (by first | decide | (constructor <;> omega)) (by first | decide | (constructor <;> omega)) (fun c_7 => ?_) (fun c_7 => ?_)
              · exfalso; omega
              · refine va_gets hx hb hZS hS hown (hts (.fieldLink RX1 193 "FormworkYard" "STEPS" "[I") (by decide +kernel)) (fun _ h => h) dX1_strengthAt_10 ?_
                refine lv_iload_n hx hb dX1_strengthAt_13 rfl (lv_at hl 0 rfl) ?_
                refine zi_const hx hb dX1_strengthAt_14 ?_
                refine zi_sub hx hb dX1_strengthAt_15 ?_
                refine zi_top (fun y_7 hy_7 => ?_)
                replace hy_7 : y_7 = (3) := hy_7
                subst hy_7
                refine va_ti hx hb hTS hS (iI_in (by decide) (by decide) (by decide)) (v := .int (iI 2500)) (by rw [iI_c ⟨by decide, by decide⟩]; rfl) dX1_strengthAt_16 ?_
                refine lv_istore_n (lv' := [(2, .int (iI (2500))), (1, .int (iI (4))), (3, .int (iI (1300))), (0, .int (iI (v)))]) hx hb dX1_strengthAt_17 rfl hl (by decide) rfl (fun ls hl => ?_)
                refine va_gets hx hb hZS hS hown (hts (.fieldLink RX1 193 "FormworkYard" "STEPS" "[I") (by decide +kernel)) (fun _ h => h) dX1_strengthAt_18 ?_
                refine lv_iload_n hx hb dX1_strengthAt_21 rfl (lv_at hl 1 rfl) ?_
                refine va_ti hx hb hTS hS (iI_in (by decide) (by decide) (by decide)) (v := .int (iI 5000)) (by rw [iI_c ⟨by decide, by decide⟩]; rfl) dX1_strengthAt_22 ?_
                refine lv_iload_n hx hb dX1_strengthAt_23 rfl (lv_at hl 0 rfl) ?_
                refine zi_sub hx hb dX1_strengthAt_24 ?_
                refine zi_top (fun y_8 hy_8 => ?_)
                replace hy_8 : y_8 = (2500) := hy_8
                subst hy_8
                refine lv_istore_n (lv' := [(3, .int (iI (2500))), (2, .int (iI (2500))), (1, .int (iI (4))), (0, .int (iI (v)))]) hx hb dX1_strengthAt_25 rfl hl (by decide) rfl (fun ls hl => ?_)
                refine lv_iload_n hx hb dX1_strengthAt_26 rfl (lv_at hl 3 rfl) ?_
                refine va_gets hx hb hZS hS hown (hts (.fieldLink RX1 193 "FormworkYard" "STEPS" "[I") (by decide +kernel)) (fun _ h => h) dX1_strengthAt_27 ?_
                refine lv_iload_n hx hb dX1_strengthAt_30 rfl (lv_at hl 2 rfl) ?_
                refine va_ti hx hb hTS hS (iI_in (by decide) (by decide) (by decide)) (v := .int (iI 5000)) (by rw [iI_c ⟨by decide, by decide⟩]; rfl) dX1_strengthAt_31 ?_
                refine zc_ge (tgt := 55) hx hb dX1_strengthAt_32 (by decide) (by first | decide | (constructor <;> omega)) (by first | decide | (constructor <;> omega)) (fun c_32 => ?_) (fun c_32 => ?_)
                · refine zi_iinc (lv' := [(1, .int (iI (4 + 1))), (3, .int (iI (2500))), (2, .int (iI (2500))), (0, .int (iI (v)))]) hx hb dX1_strengthAt_55 hl (k := 2) rfl (by decide) rfl (fun ls hl => ?_)
                  replace hl : lv_has ls 4 [(1, .int (iI (5))), (3, .int (iI (2500))), (2, .int (iI (2500))), (0, .int (iI (v)))] := hl
                  refine lv_goto (tgt := 2) hx hb dX1_strengthAt_58 (by decide) ?_
                  refine lv_iload_n hx hb dX1_strengthAt_2 rfl (lv_at hl 0 rfl) ?_
                  refine va_gets hx hb hZS hS hown (hts (.fieldLink RX1 193 "FormworkYard" "STEPS" "[I") (by decide +kernel)) (fun _ h => h) dX1_strengthAt_3 ?_
                  refine va_tlen hx hb hTS hS (v := iI 5) (by decide) dX1_strengthAt_6 ?_
                  refine zc_ge (tgt := 61) hx hb dX1_strengthAt_7 (by decide) (by first | decide | (constructor <;> omega)) (by first | decide | (constructor <;> omega)) (fun c_7 => ?_) (fun c_7 => ?_)
                  · refine zi_bipush hx hb dX1_strengthAt_61 (by decide) ?_
                    refine ziret hx hb hr hlocks hS (Nat.le_of_ble_eq_true rfl) (Nat.le_of_ble_eq_true rfl) (by first | decide | (constructor <;> omega)) ?_ dX1_strengthAt_63
                    exact ⟨rfl, by unfold strg; rw [if_pos (by omega)]⟩
                  · exfalso; omega
                · refine lv_iload_n hx hb dX1_strengthAt_35 rfl (lv_at hl 0 rfl) ?_
                  refine zf_le (tgt := 55) hx hb dX1_strengthAt_36 (by decide) (by first | decide | (constructor <;> omega)) (fun c_36 => ?_) (fun c_36 => ?_)
                  · exfalso; omega
                  · refine zi_bipush hx hb dX1_strengthAt_39 (by decide) ?_
                    refine lv_iload_n hx hb dX1_strengthAt_41 rfl (lv_at hl 2 rfl) ?_
                    refine zi_const hx hb dX1_strengthAt_42 ?_
                    refine zi_sub hx hb dX1_strengthAt_43 ?_
                    refine zi_top (fun y_9 hy_9 => ?_)
                    replace hy_9 : y_9 = (3) := hy_9
                    subst hy_9
                    refine zi_mul hx hb dX1_strengthAt_44 ?_
                    refine zi_top (fun y_10 hy_10 => ?_)
                    replace hy_10 : y_10 = (75) := hy_10
                    subst hy_10
                    refine zi_bipush hx hb dX1_strengthAt_45 (by decide) ?_
                    refine lv_iload_n hx hb dX1_strengthAt_47 rfl (lv_at hl 3 rfl) ?_
                    refine lv_iload_n hx hb dX1_strengthAt_48 rfl (lv_at hl 1 rfl) ?_
                    refine zi_sub hx hb dX1_strengthAt_49 ?_
                    refine zi_mul hx hb dX1_strengthAt_50 ?_
                    refine lv_iload_n hx hb dX1_strengthAt_51 rfl (lv_at hl 0 rfl) ?_
                    refine zi_div hx hb dX1_strengthAt_52 (by omega) (by omega) (by omega) (by omega) ?_
                    refine zi_add hx hb dX1_strengthAt_53 ?_
                    have hz : 75 + ((25 * (v - 2500)) / 2500) = strg v := by unfold strg; (repeat' split) <;> omega
                    have hzb := strg_b h1.1
                    rw [hz]
                    refine ziret hx hb hr hlocks hS (Nat.le_of_ble_eq_true rfl) (Nat.le_of_ble_eq_true rfl) (by first | decide | (constructor <;> omega)) ?_ dX1_strengthAt_54
                    exact ⟨rfl, rfl⟩
            · refine lv_iload_n hx hb dX1_strengthAt_35 rfl (lv_at hl 0 rfl) ?_
              refine zf_le (tgt := 55) hx hb dX1_strengthAt_36 (by decide) (by first | decide | (constructor <;> omega)) (fun c_36 => ?_) (fun c_36 => ?_)
              · exfalso; omega
              · refine zi_bipush hx hb dX1_strengthAt_39 (by decide) ?_
                refine lv_iload_n hx hb dX1_strengthAt_41 rfl (lv_at hl 2 rfl) ?_
                refine zi_const hx hb dX1_strengthAt_42 ?_
                refine zi_sub hx hb dX1_strengthAt_43 ?_
                refine zi_top (fun y_11 hy_11 => ?_)
                replace hy_11 : y_11 = (2) := hy_11
                subst hy_11
                refine zi_mul hx hb dX1_strengthAt_44 ?_
                refine zi_top (fun y_12 hy_12 => ?_)
                replace hy_12 : y_12 = (50) := hy_12
                subst hy_12
                refine zi_bipush hx hb dX1_strengthAt_45 (by decide) ?_
                refine lv_iload_n hx hb dX1_strengthAt_47 rfl (lv_at hl 3 rfl) ?_
                refine lv_iload_n hx hb dX1_strengthAt_48 rfl (lv_at hl 1 rfl) ?_
                refine zi_sub hx hb dX1_strengthAt_49 ?_
                refine zi_mul hx hb dX1_strengthAt_50 ?_
                refine lv_iload_n hx hb dX1_strengthAt_51 rfl (lv_at hl 0 rfl) ?_
                refine zi_div hx hb dX1_strengthAt_52 (by omega) (by omega) (by omega) (by omega) ?_
                refine zi_add hx hb dX1_strengthAt_53 ?_
                have hz : 50 + ((25 * (v - 1200)) / 1300) = strg v := by unfold strg; (repeat' split) <;> omega
                have hzb := strg_b h1.1
                rw [hz]
                refine ziret hx hb hr hlocks hS (Nat.le_of_ble_eq_true rfl) (Nat.le_of_ble_eq_true rfl) (by first | decide | (constructor <;> omega)) ?_ dX1_strengthAt_54
                exact ⟨rfl, rfl⟩
        · refine lv_iload_n hx hb dX1_strengthAt_35 rfl (lv_at hl 0 rfl) ?_
          refine zf_le (tgt := 55) hx hb dX1_strengthAt_36 (by decide) (by first | decide | (constructor <;> omega)) (fun c_36 => ?_) (fun c_36 => ?_)
          · exfalso; omega
          · refine zi_bipush hx hb dX1_strengthAt_39 (by decide) ?_
            refine lv_iload_n hx hb dX1_strengthAt_41 rfl (lv_at hl 2 rfl) ?_
            refine zi_const hx hb dX1_strengthAt_42 ?_
            refine zi_sub hx hb dX1_strengthAt_43 ?_
            refine zi_top (fun y_13 hy_13 => ?_)
            replace hy_13 : y_13 = (1) := hy_13
            subst hy_13
            refine zi_mul hx hb dX1_strengthAt_44 ?_
            refine zi_top (fun y_14 hy_14 => ?_)
            replace hy_14 : y_14 = (25) := hy_14
            subst hy_14
            refine zi_bipush hx hb dX1_strengthAt_45 (by decide) ?_
            refine lv_iload_n hx hb dX1_strengthAt_47 rfl (lv_at hl 3 rfl) ?_
            refine lv_iload_n hx hb dX1_strengthAt_48 rfl (lv_at hl 1 rfl) ?_
            refine zi_sub hx hb dX1_strengthAt_49 ?_
            refine zi_mul hx hb dX1_strengthAt_50 ?_
            refine lv_iload_n hx hb dX1_strengthAt_51 rfl (lv_at hl 0 rfl) ?_
            refine zi_div hx hb dX1_strengthAt_52 (by omega) (by omega) (by omega) (by omega) ?_
            refine zi_add hx hb dX1_strengthAt_53 ?_
            have hz : 25 + ((25 * (v - 500)) / 700) = strg v := by unfold strg; (repeat' split) <;> omega
            have hzb := strg_b h1.1
            rw [hz]
            refine ziret hx hb hr hlocks hS (Nat.le_of_ble_eq_true rfl) (Nat.le_of_ble_eq_true rfl) (by first | decide | (constructor <;> omega)) ?_ dX1_strengthAt_54
            exact ⟨rfl, rfl⟩
    · refine lv_iload_n hx hb dX1_strengthAt_35 rfl (lv_at hl 0 rfl) ?_
      refine zf_le (tgt := 55) hx hb dX1_strengthAt_36 (by decide) (by first | decide | (constructor <;> omega)) (fun c_36 => ?_) (fun c_36 => ?_)
      · exfalso; omega
      · refine zi_bipush hx hb dX1_strengthAt_39 (by decide) ?_
        refine lv_iload_n hx hb dX1_strengthAt_41 rfl (lv_at hl 2 rfl) ?_
        refine zi_const hx hb dX1_strengthAt_42 ?_
        refine zi_sub hx hb dX1_strengthAt_43 ?_
        refine zi_top (fun y_15 hy_15 => ?_)
        replace hy_15 : y_15 = (0) := hy_15
        subst hy_15
        refine zi_mul hx hb dX1_strengthAt_44 ?_
        refine zi_top (fun y_16 hy_16 => ?_)
        replace hy_16 : y_16 = (0) := hy_16
        subst hy_16
        refine zi_bipush hx hb dX1_strengthAt_45 (by decide) ?_
        refine lv_iload_n hx hb dX1_strengthAt_47 rfl (lv_at hl 3 rfl) ?_
        refine lv_iload_n hx hb dX1_strengthAt_48 rfl (lv_at hl 1 rfl) ?_
        refine zi_sub hx hb dX1_strengthAt_49 ?_
        refine zi_mul hx hb dX1_strengthAt_50 ?_
        refine lv_iload_n hx hb dX1_strengthAt_51 rfl (lv_at hl 0 rfl) ?_
        refine zi_div hx hb dX1_strengthAt_52 (by omega) (by omega) (by omega) (by omega) ?_
        refine zi_add hx hb dX1_strengthAt_53 ?_
        have hz : 0 + ((25 * (v - 0)) / 500) = strg v := by unfold strg; (repeat' split) <;> omega
        have hzb := strg_b h1.1
        rw [hz]
        refine ziret hx hb hr hlocks hS (Nat.le_of_ble_eq_true rfl) (Nat.le_of_ble_eq_true rfl) (by first | decide | (constructor <;> omega)) ?_ dX1_strengthAt_54
        exact ⟨rfl, rfl⟩

set_option maxHeartbeats 4000000 in
set_option maxRecDepth 100000 in
theorem c_X1_standHour (l : Launch) (D : va_G) (cy : Nat → ClassId) (A : Nat → Prop) (ad : Nat → Nat) (ya : Nat → Nat → Int) (yi : Nat → Int) (pr : Nat → Option PS) (H0 : Heap) (v : Int) (hw : zW D A ad (yE cy ad ya yi pr) H0) (h1 : 0 ≤ v ∧ v ≤ 900) (hg : yB yi) : Met l yX1_standHour wsX1_standHour ({ frames := 1, cells := 0, slots := 0, locals := 21 }) (zPc D cy A [.ref (ad 0), .int (iI (v))] H0) (zQi (fun z H1 => H1 = H0 ∧ z = standS (yi 7) v) A) 0 0 A := by
  refine Met.ofW (cc := cX1_standHour) (maxL := 2) (ret := (some .int)) (by decide) rfl ?_
  intro pg en s mt args below meth c s₁ B hml hv
  obtain ⟨rfl, hH, hE⟩ := hv
  subst hH
  have hx := B.exec
  have hb := B.bytes
  have hr := B.returns
  have hts := atoms_spec (ws := wsX1_standHour) B.pre
  have hown : s.vm.findClass RX1 = some mt.cls := findClass_of_methodNamed B.named
  have hlocks := B.notSynchronized
  have hinX1 : ∀ w ∈ u_ws RX1 TX1 9, w ∈ wsX1_standHour := by decide +kernel
  have hS : va_S A s.heap s.heap [] := va_S.rf
  have hl := lv_entry ([.ref (ad 0), .int (iI (v))]) (n := 2) (Nat.le_of_ble_eq_true rfl)
  rw [lg_entry_eq]
  generalize (lg_sl ([.ref (ad 0), .int (iI (v))]) ++ List.replicate (2 - (lg_sl ([.ref (ad 0), .int (iI (v))])).length) Slot.unset).toArray = ls at hl ⊢
  have hl : lv_has ls 2 [(0, .ref (ad 0)), (1, .int (iI (v)))] := hl
  obtain ⟨g1, g2, g3, g4⟩ := id hg
  refine zi_const hx hb dX1_standHour_0 ?_
  refine lv_iload_n hx hb dX1_standHour_1 rfl (lv_at hl 1 rfl) ?_
  refine lv_aload_n hx hb dX1_standHour_2 rfl (lv_at hl 0 rfl) ?_
  refine zget (C := RX1) (T := TX1) (N := 9) hx hb hts hinX1 hown hE hw 0 yE_0 rfl 7 (by decide) (hts (.fieldLink RX1 35 "FormworkYard" "setUpHours" "I") (by decide +kernel)) rfl dX1_standHour_3 ?_
  refine zi_sub hx hb dX1_standHour_6 ?_
  refine va_mmax hx hb (hml.trans hl.1.symm) hown (hts (.methodLink RX1 144 Lib.Math.max.name) (by decide +kernel)) (hts (.static Lib.Math.max.name) (by decide +kernel)) (hts (.initialized "java/lang/Math") (by decide +kernel)) (hts (.code Lib.Math.max.name Lib.Math.max.code 2 (some .int)) (by decide +kernel)) (Nat.le_of_ble_eq_true rfl) (Nat.le_of_ble_eq_true rfl) (Nat.le_of_ble_eq_true rfl) (Nat.le_of_ble_eq_true rfl) dX1_standHour_7 ?_
  rw [iI_max (a := 0) (b := v - (yi 7)) (by first | decide | (constructor <;> omega)) (by first | decide | (constructor <;> omega))]
  refine zi_top (fun x_7 hx_7 => ?_)
  refine ziret hx hb hr hlocks hS (Nat.le_of_ble_eq_true rfl) (Nat.le_of_ble_eq_true rfl) (by first | decide | (constructor <;> omega)) ?_ dX1_standHour_10
  exact ⟨rfl, by unfold standS; split <;> omega⟩

set_option maxHeartbeats 4000000 in
set_option maxRecDepth 100000 in
theorem c_X1_releaseHour (l : Launch) (D : va_G) (cy : Nat → ClassId) (A : Nat → Prop) (ad : Nat → Nat) (ya : Nat → Nat → Int) (yi : Nat → Int) (pr : Nat → Option PS) (H0 : Heap) (v k : Int) (hw : zW D A ad (yE cy ad ya yi pr) H0) (h1 : 0 ≤ k ∧ v = (if k < 1000 then k else -1)) (hg : yB yi) : Met l yX1_releaseHour wsX1_releaseHour ({ frames := 1, cells := 0, slots := 0, locals := 21 }) (zPc D cy A [.ref (ad 0), .int (iI (v))] H0) (zQi (fun z H1 => H1 = H0 ∧ z = min 1000 (freeS (yi 8) k)) A) 0 0 A := by
  refine Met.ofW (cc := cX1_releaseHour) (maxL := 2) (ret := (some .int)) (by decide) rfl ?_
  intro pg en s mt args below meth c s₁ B hml hv
  obtain ⟨rfl, hH, hE⟩ := hv
  subst hH
  have hx := B.exec
  have hb := B.bytes
  have hr := B.returns
  have hts := atoms_spec (ws := wsX1_releaseHour) B.pre
  have hown : s.vm.findClass RX1 = some mt.cls := findClass_of_methodNamed B.named
  have hlocks := B.notSynchronized
  have hinX1 : ∀ w ∈ u_ws RX1 TX1 9, w ∈ wsX1_releaseHour := by decide +kernel
  have hS : va_S A s.heap s.heap [] := va_S.rf
  have hl := lv_entry ([.ref (ad 0), .int (iI (v))]) (n := 2) (Nat.le_of_ble_eq_true rfl)
  rw [lg_entry_eq]
  generalize (lg_sl ([.ref (ad 0), .int (iI (v))]) ++ List.replicate (2 - (lg_sl ([.ref (ad 0), .int (iI (v))])).length) Slot.unset).toArray = ls at hl ⊢
  have hl : lv_has ls 2 [(0, .ref (ad 0)), (1, .int (iI (v)))] := hl
  obtain ⟨g1, g2, g3, g4⟩ := id hg
  have hv9 : (k < 1000 ∧ v = k) ∨ (1000 ≤ k ∧ v = -1) := by rw [h1.2]; split <;> omega
  refine lv_iload_n hx hb dX1_releaseHour_0 rfl (lv_at hl 1 rfl) ?_
  refine zi_const hx hb dX1_releaseHour_1 ?_
  refine zc_ne (tgt := 11) hx hb dX1_releaseHour_2 (by decide) (by first | decide | (constructor <;> omega)) (by first | decide | (constructor <;> omega)) (fun c_2 => ?_) (fun c_2 => ?_)
  · refine zi_sipush hx hb dX1_releaseHour_11 (by decide) ?_
    refine lv_iload_n hx hb dX1_releaseHour_14 rfl (lv_at hl 1 rfl) ?_
    refine lv_aload_n hx hb dX1_releaseHour_15 rfl (lv_at hl 0 rfl) ?_
    refine zget (C := RX1) (T := TX1) (N := 9) hx hb hts hinX1 hown hE hw 0 yE_0 rfl 8 (by decide) (hts (.fieldLink RX1 38 "FormworkYard" "cleaningHours" "I") (by decide +kernel)) rfl dX1_releaseHour_16 ?_
    refine zi_add hx hb dX1_releaseHour_19 ?_
    refine va_mmin hx hb (hml.trans hl.1.symm) hown (hts (.methodLink RX1 74 Lib.Math.min.name) (by decide +kernel)) (hts (.static Lib.Math.min.name) (by decide +kernel)) (hts (.initialized "java/lang/Math") (by decide +kernel)) (hts (.code Lib.Math.min.name Lib.Math.min.code 2 (some .int)) (by decide +kernel)) (Nat.le_of_ble_eq_true rfl) (Nat.le_of_ble_eq_true rfl) (Nat.le_of_ble_eq_true rfl) (Nat.le_of_ble_eq_true rfl) dX1_releaseHour_20 ?_
    rw [iI_min (a := 1000) (b := v + (yi 8)) (by first | decide | (constructor <;> omega)) (by first | decide | (constructor <;> omega))]
    refine zi_top (fun x_20 hx_20 => ?_)
    refine ziret hx hb hr hlocks hS (Nat.le_of_ble_eq_true rfl) (Nat.le_of_ble_eq_true rfl) (by first | decide | (constructor <;> omega)) ?_ dX1_releaseHour_23
    exact ⟨rfl, by unfold freeS; split <;> omega⟩
  · refine zi_sipush hx hb dX1_releaseHour_5 (by decide) ?_
    refine lv_goto (tgt := 23) hx hb dX1_releaseHour_8 (by decide) ?_
    refine ziret hx hb hr hlocks hS (Nat.le_of_ble_eq_true rfl) (Nat.le_of_ble_eq_true rfl) (by first | decide | (constructor <;> omega)) ?_ dX1_releaseHour_23
    exact ⟨rfl, by unfold freeS; split <;> omega⟩

set_option maxHeartbeats 4000000 in
set_option maxRecDepth 100000 in
theorem c_X1_strikeHour (l : Launch) (D : va_G) (cy : Nat → ClassId) (A : Nat → Prop) (ad : Nat → Nat) (ya : Nat → Nat → Int) (yi : Nat → Int) (pr : Nat → Option PS) (H0 : Heap) (T : Nat → Int) (e9 w : Int) (hw : zW D A ad (yE cy ad ya yi pr) H0) (h1 : 0 ≤ e9 ∧ e9 ≤ 1300) (h2 : 1 ≤ w ∧ w ≤ 100) (hG : gnd T ya) (ht : tOK T) : Met l yX1_strikeHour wsX1_strikeHour ({ frames := 2, cells := 0, slots := 0, locals := 44 }) (zPc D cy A [.ref (ad 0), .int (iI (e9)), .int (iI (w))] H0) (zQi (fun z H1 => H1 = H0 ∧ z = (if strikeS T w e9 < 1000 then strikeS T w e9 else -1)) A) 0 0 A := by
  refine Met.ofW (cc := cX1_strikeHour) (maxL := 6) (ret := (some .int)) (by decide) rfl ?_
  intro pg en s mt args below meth c s₁ B hml hv
  obtain ⟨rfl, hH, hE⟩ := hv
  subst hH
  have hx := B.exec
  have hb := B.bytes
  have hr := B.returns
  have hts := atoms_spec (ws := wsX1_strikeHour) B.pre
  have hown : s.vm.findClass RX1 = some mt.cls := findClass_of_methodNamed B.named
  have hlocks := B.notSynchronized
  have hS : va_S A s.heap s.heap [] := va_S.rf
  have hl := lv_entry ([.ref (ad 0), .int (iI (e9)), .int (iI (w))]) (n := 6) (Nat.le_of_ble_eq_true rfl)
  rw [lg_entry_eq]
  generalize (lg_sl ([.ref (ad 0), .int (iI (e9)), .int (iI (w))]) ++ List.replicate (6 - (lg_sl ([.ref (ad 0), .int (iI (e9)), .int (iI (w))])).length) Slot.unset).toArray = ls at hl ⊢
  have hl : lv_has ls 6 [(0, .ref (ad 0)), (1, .int (iI (e9))), (2, .int (iI (w)))] := hl
  obtain ⟨b1, b2, b3, b4⟩ := strikeS_b T w e9
  have b5 : strikeS T w e9 ≤ max 1000 e9 := by by_cases h : e9 ≤ 1000; have := b2 h; omega; rw [strike_hi (by omega)]; omega
  refine lv_iload_n hx hb dX1_strikeHour_0 rfl (lv_at hl 1 rfl) ?_
  refine zi_const hx hb dX1_strikeHour_1 ?_
  refine zi_sub hx hb dX1_strikeHour_2 ?_
  refine zi_top (fun x_3 hx_3 => ?_)
  refine lv_istore_n (lv' := [(3, .int (iI (x_3))), (0, .ref (ad 0)), (1, .int (iI (e9))), (2, .int (iI (w)))]) hx hb dX1_strikeHour_3 rfl hl (by decide) rfl (fun ls hl => ?_)
  refine zi_sipush hx hb dX1_strikeHour_4 (by decide) ?_
  refine lv_istore (lv' := [(4, .int (iI (512))), (3, .int (iI (x_3))), (0, .ref (ad 0)), (1, .int (iI (e9))), (2, .int (iI (w)))]) hx hb dX1_strikeHour_7 hl (by decide) rfl (fun ls hl => ?_)
  have loop_9 : ∀ (n : Nat) (x L : Int) (locs : List Loc) (ls : Array Slot), L.toNat < n → (pw L) → (e9 - 1 ≤ x) → (x < strikeS T w e9) → ((L = 0 ∧ strikeS T w e9 ≤ x + 1) ∨ (1 ≤ L ∧ strikeS T w e9 ≤ x + 2 * L)) → va_S A s.heap s.heap locs → lv_has ls 6 [(4, .int (iI (L))), (3, .int (iI (x))), (0, .ref (ad 0)), (1, .int (iI (e9))), (2, .int (iI (w)))] → W pg l en (headSpec wsX1_strikeHour ({ frames := 2, cells := 0, slots := 0, locals := 44 })).room s mt ([.ref (ad 0), .int (iI (e9)), .int (iI (w))] : List Value).toArray below meth c s.heap locs 0 0 (MQ below (zQi (fun z H1 => H1 = s.heap ∧ z = (if strikeS T w e9 < 1000 then strikeS T w e9 else -1)) A) ([.ref (ad 0), .int (iI (e9)), .int (iI (w))] : List Value).toArray s 0 0 A) (F0 mt 9 ls []) := by
    intro n
    induction n with
    | zero =>
      intro x L locs ls hm hL hx1 hx2 hx3
      exfalso; omega
    | succ n ih =>
      intro x L locs ls hm hL hx1 hx2 hx3 hS hl
      have hL5 : 0 ≤ L ∧ L ≤ 512 := by unfold pw at hL; omega
      refine lv_iload hx hb dX1_strikeHour_9 (lv_at hl 0 rfl) ?_
      refine zf_le (tgt := 54) hx hb dX1_strikeHour_11 (by decide) (by first | decide | (constructor <;> omega)) (fun c_11 => ?_) (fun c_11 => ?_)
      · refine lv_iload_n hx hb dX1_strikeHour_54 rfl (lv_at hl 1 rfl) ?_
        refine zi_const hx hb dX1_strikeHour_55 ?_
        refine zi_add hx hb dX1_strikeHour_56 ?_
        refine zi_top (fun x_57 hx_57 => ?_)
        refine lv_istore (lv' := [(4, .int (iI (x_57))), (3, .int (iI (x))), (0, .ref (ad 0)), (1, .int (iI (e9))), (2, .int (iI (w)))]) hx hb dX1_strikeHour_57 hl (by decide) rfl (fun ls hl => ?_)
        refine lv_iload hx hb dX1_strikeHour_59 (lv_at hl 0 rfl) ?_
        refine zi_sipush hx hb dX1_strikeHour_61 (by decide) ?_
        refine zc_ge (tgt := 72) hx hb dX1_strikeHour_64 (by decide) (by first | decide | (constructor <;> omega)) (by first | decide | (constructor <;> omega)) (fun c_64 => ?_) (fun c_64 => ?_)
        · refine zi_const hx hb dX1_strikeHour_72 ?_
          refine ziret hx hb hr hlocks hS (Nat.le_of_ble_eq_true rfl) (Nat.le_of_ble_eq_true rfl) (by first | decide | (constructor <;> omega)) ?_ dX1_strikeHour_73
          exact ⟨rfl, by split <;> omega⟩
        · refine lv_iload hx hb dX1_strikeHour_67 (lv_at hl 0 rfl) ?_
          refine lv_goto (tgt := 73) hx hb dX1_strikeHour_69 (by decide) ?_
          refine ziret hx hb hr hlocks hS (Nat.le_of_ble_eq_true rfl) (Nat.le_of_ble_eq_true rfl) (by first | decide | (constructor <;> omega)) ?_ dX1_strikeHour_73
          exact ⟨rfl, by split <;> omega⟩
      · have hps := pw_s hL (by omega)
        refine lv_iload_n hx hb dX1_strikeHour_14 rfl (lv_at hl 1 rfl) ?_
        refine lv_iload hx hb dX1_strikeHour_15 (lv_at hl 0 rfl) ?_
        refine zi_add hx hb dX1_strikeHour_17 ?_
        refine zi_top (fun x_18 hx_18 => ?_)
        refine lv_istore (lv' := [(5, .int (iI (x_18))), (4, .int (iI (L))), (3, .int (iI (x))), (0, .ref (ad 0)), (1, .int (iI (e9))), (2, .int (iI (w)))]) hx hb dX1_strikeHour_18 hl (by decide) rfl (fun ls hl => ?_)
        refine lv_iload hx hb dX1_strikeHour_20 (lv_at hl 0 rfl) ?_
        refine zi_sipush hx hb dX1_strikeHour_22 (by decide) ?_
        refine zc_ge (tgt := 45) hx hb dX1_strikeHour_25 (by decide) (by first | decide | (constructor <;> omega)) (by first | decide | (constructor <;> omega)) (fun c_25 => ?_) (fun c_25 => ?_)
        · have hle : strikeS T w e9 ≤ x_18 := by omega
          refine lv_iload hx hb dX1_strikeHour_45 (lv_at hl 1 rfl) ?_
          refine zi_const hx hb dX1_strikeHour_47 ?_
          refine zi_div hx hb dX1_strikeHour_48 (by omega) (by omega) (by omega) (by omega) ?_
          refine zi_top (fun x_49 hx_49 => ?_)
          refine lv_istore (lv' := [(4, .int (iI (x_49))), (5, .int (iI (x_18))), (3, .int (iI (x))), (0, .ref (ad 0)), (1, .int (iI (e9))), (2, .int (iI (w)))]) hx hb dX1_strikeHour_49 hl (by decide) rfl (fun ls hl => ?_)
          refine lv_goto (tgt := 9) hx hb dX1_strikeHour_51 (by decide) ?_
          exact ih x x_49 _ _ (by omega) (by rw [hx_49]; exact hps.1) (by omega) (by omega) (by omega) hS (lv_sub hl [0, 2, 3, 4, 5] rfl)
        · refine lv_aload_n hx hb dX1_strikeHour_28 rfl (lv_at hl 3 rfl) ?_
          refine lv_iload_n hx hb dX1_strikeHour_29 rfl (lv_at hl 4 rfl) ?_
          refine lv_iload hx hb dX1_strikeHour_30 (lv_at hl 0 rfl) ?_
          refine zcalli (va_runV (As := [.int (iI (e9)), .int (iI (x_18))]) (rest := []) ⟨hx, hb, hml, hown, hts⟩ (c_X1_gainBetween l D cy A ad ya yi pr _ T (e9) (x_18) hw (by omega) (by first | decide | (constructor <;> omega)) hG ht) (cwV 2 hts gX1_strikeHour_X1_gainBetween rfl rfl rfl (by decide +kernel) ⟨(Nat.le_of_ble_eq_true rfl), (Nat.le_of_ble_eq_true rfl)⟩) (zPV hE hS hw (ci := 1) (k0 := 0) rfl yE_0) rfl rfl hl.1 rfl (lv_room (Nat.le_of_ble_eq_true rfl)) dX1_strikeHour_32 ⟨(Nat.le_of_ble_eq_true rfl), (Nat.le_of_ble_eq_true rfl)⟩) hS (fun z_32 H1 locs hz_32 hq hz1 hk1 hS => ?_)
          obtain ⟨hqe, hv_32⟩ := hq
          replace hqe := hqe.symm
          subst hqe
          have hmb := mat_b ht e9 x_18
          refine zcalli (va_runS (As := [.int (iI (z_32))]) (rest := []) ⟨hx, hb, hml, hown, hts⟩ (c_X1_strengthAt l D cy A ad _ (z_32) (by omega)) (va_cwS 1 hts gX1_strikeHour_X1_strengthAt rfl rfl rfl (by decide +kernel) ⟨(Nat.le_of_ble_eq_true rfl), (Nat.le_of_ble_eq_true rfl)⟩) (zPS hE hS) rfl rfl hl.1 rfl (lv_room (Nat.le_of_ble_eq_true rfl)) dX1_strikeHour_35 ⟨(Nat.le_of_ble_eq_true rfl), (Nat.le_of_ble_eq_true rfl)⟩) hS (fun z_35 H1 locs hz_35 hq hz1 hk1 hS => ?_)
          obtain ⟨hqe, hv_35⟩ := hq
          replace hqe := hqe.symm
          subst hqe
          have hsb := strg_b (m := z_32) (by omega)
          refine lv_iload_n hx hb dX1_strikeHour_38 rfl (lv_at hl 5 rfl) ?_
          refine zc_ge (tgt := 45) hx hb dX1_strikeHour_39 (by decide) (by first | decide | (constructor <;> omega)) (by first | decide | (constructor <;> omega)) (fun c_39 => ?_) (fun c_39 => ?_)
          · have hle : strikeS T w e9 ≤ x_18 := strike_le (by omega) (by rw [← hv_32, ← hv_35]; omega)
            refine lv_iload hx hb dX1_strikeHour_45 (lv_at hl 1 rfl) ?_
            refine zi_const hx hb dX1_strikeHour_47 ?_
            refine zi_div hx hb dX1_strikeHour_48 (by omega) (by omega) (by omega) (by omega) ?_
            refine zi_top (fun x_49 hx_49 => ?_)
            refine lv_istore (lv' := [(4, .int (iI (x_49))), (5, .int (iI (x_18))), (3, .int (iI (x))), (0, .ref (ad 0)), (1, .int (iI (e9))), (2, .int (iI (w)))]) hx hb dX1_strikeHour_49 hl (by decide) rfl (fun ls hl => ?_)
            refine lv_goto (tgt := 9) hx hb dX1_strikeHour_51 (by decide) ?_
            exact ih x x_49 _ _ (by omega) (by rw [hx_49]; exact hps.1) (by omega) (by omega) (by omega) hS (lv_sub hl [0, 2, 3, 4, 5] rfl)
          · have hle : x_18 < strikeS T w e9 := strike_lt ht (by omega) (by rw [← hv_32, ← hv_35]; omega)
            refine lv_iload hx hb dX1_strikeHour_42 (lv_at hl 0 rfl) ?_
            refine lv_istore_n (lv' := [(3, .int (iI (x_18))), (5, .int (iI (x_18))), (4, .int (iI (L))), (0, .ref (ad 0)), (1, .int (iI (e9))), (2, .int (iI (w)))]) hx hb dX1_strikeHour_44 rfl hl (by decide) rfl (fun ls hl => ?_)
            refine lv_iload hx hb dX1_strikeHour_45 (lv_at hl 2 rfl) ?_
            refine zi_const hx hb dX1_strikeHour_47 ?_
            refine zi_div hx hb dX1_strikeHour_48 (by omega) (by omega) (by omega) (by omega) ?_
            refine zi_top (fun x_49 hx_49 => ?_)
            refine lv_istore (lv' := [(4, .int (iI (x_49))), (3, .int (iI (x_18))), (5, .int (iI (x_18))), (0, .ref (ad 0)), (1, .int (iI (e9))), (2, .int (iI (w)))]) hx hb dX1_strikeHour_49 hl (by decide) rfl (fun ls hl => ?_)
            refine lv_goto (tgt := 9) hx hb dX1_strikeHour_51 (by decide) ?_
            exact ih x_18 x_49 _ _ (by omega) (by rw [hx_49]; exact hps.1) (by omega) (by omega) (by omega) hS (lv_sub hl [0, 1, 3, 4, 5] rfl)
  exact loop_9 513 x_3 512 _ _ (by omega) (Or.inl rfl) (by omega) (by omega) (by omega) hS (lv_sub hl [0, 1, 2, 3, 4] rfl)
end
section
set_option maxHeartbeats 4000000 in
set_option maxRecDepth 100000 in
theorem c_X1_schedule (l : Launch) (D : va_G) (cy : Nat → ClassId) (A : Nat → Prop) (ad : Nat → Nat) (ya : Nat → Nat → Int) (yi : Nat → Int) (pr : Nat → Option PS) (H0 : Heap) (T : Nat → Int) (i : Nat) (p0 : PS) (hw : zW D A ad (yE cy ad ya yi pr) H0) (hi : i < 11) (hp0 : pr i = some p0) (hpb : pB p0) (hg : yB yi) (hG : gnd T ya) (ht : tOK T) : Met l yX1_schedule wsX1_schedule ({ frames := 3, cells := 0, slots := 0, locals := 69 }) (zPc D cy A [.ref (ad 0), .ref (ad (10 + 3 * i))] H0) (zQv (fun H1 => ∃ q, zW D A ad (yE cy ad ya yi (va_up pr i (some q))) H1 ∧ schR T yi p0 q ∧ q.2.2.2 = p0.2.2.2) A) 0 0 A := by
  refine Met.ofW (cc := cX1_schedule) (maxL := 2) (ret := none) (by decide) rfl ?_
  intro pg en s mt args below meth c s₁ B hml hv
  obtain ⟨rfl, hH, hE⟩ := hv
  subst hH
  have hx := B.exec
  have hb := B.bytes
  have hr := B.returns
  have hts := atoms_spec (ws := wsX1_schedule) B.pre
  have hown : s.vm.findClass RX1 = some mt.cls := findClass_of_methodNamed B.named
  have hlocks := B.notSynchronized
  have hinX0 : ∀ w ∈ u_ws RX0 TX0 13, w ∈ wsX1_schedule := by decide +kernel
  have hS : va_S A s.heap s.heap [] := va_S.rf
  have hl := lv_entry ([.ref (ad 0), .ref (ad (10 + 3 * i))]) (n := 2) (Nat.le_of_ble_eq_true rfl)
  rw [lg_entry_eq]
  generalize (lg_sl ([.ref (ad 0), .ref (ad (10 + 3 * i))]) ++ List.replicate (2 - (lg_sl ([.ref (ad 0), .ref (ad (10 + 3 * i))])).length) Slot.unset).toArray = ls at hl ⊢
  have hl : lv_has ls 2 [(0, .ref (ad 0)), (1, .ref (ad (10 + 3 * i)))] := hl
  obtain ⟨q1, q2, q3, q4, q5, q6⟩ := id hpb
  obtain ⟨g1, g2, g3, g4⟩ := id hg
  obtain ⟨e1, e2, e3, e4, e5, e6⟩ := endY_b hg hpb
  have hkb : 0 ≤ kY T yi p0 := by have := (strikeS_b T (p0.1 2) (endY yi p0)).1; unfold kY; omega
  refine lv_aload_n hx hb dX1_schedule_0 rfl (lv_at hl 1 rfl) ?_
  refine lv_aload_n hx hb dX1_schedule_1 rfl (lv_at hl 1 rfl) ?_
  refine zgetN (own := RX1) (C := RX0) (T := TX0) (N := 13) (index := 104) (host := RX1) hx hb hts hinX0 hown hE hw (10 + 3 * i) (yE_p (by omega) hp0) rfl 3 (by decide) (by decide +kernel) rfl dX1_schedule_2 ?_
  refine lv_aload_n hx hb dX1_schedule_5 rfl (lv_at hl 0 rfl) ?_
  refine lv_aload_n hx hb dX1_schedule_6 rfl (lv_at hl 1 rfl) ?_
  refine zgetN (own := RX1) (C := RX0) (T := TX0) (N := 13) (index := 110) (host := RX1) hx hb hts hinX0 hown hE hw (10 + 3 * i) (yE_p (by omega) hp0) rfl 0 (by decide) (by decide +kernel) rfl dX1_schedule_7 ?_
  refine zcalli (va_runV (As := [.int (iI (p0.1 0))]) (rest := [.int (iI (p0.1 3)), .ref (ad (10 + 3 * i))]) ⟨hx, hb, hml, hown, hts⟩ (c_X1_startedHours l D cy A ad ya yi pr _ (p0.1 0) hw (by omega) hg) (cwV 1 hts gX1_schedule_X1_startedHours rfl rfl rfl (by decide +kernel) ⟨(Nat.le_of_ble_eq_true rfl), (Nat.le_of_ble_eq_true rfl)⟩) (zPV hE hS hw (ci := 1) (k0 := 0) rfl yE_0) rfl rfl hl.1 rfl (lv_room (Nat.le_of_ble_eq_true rfl)) dX1_schedule_10 ⟨(Nat.le_of_ble_eq_true rfl), (Nat.le_of_ble_eq_true rfl)⟩) hS (fun z_10 H1 locs hz_10 hq hz1 hk1 hS => ?_)
  obtain ⟨hqe, hv_10⟩ := hq
  replace hqe := hqe.symm
  subst hqe
  refine zi_add hx hb dX1_schedule_13 ?_
  refine lv_aload_n hx hb dX1_schedule_14 rfl (lv_at hl 1 rfl) ?_
  refine zcalli (va_runVN (As := []) (rest := [.int (iI ((p0.1 3) + z_10)), .ref (ad (10 + 3 * i))]) ⟨hx, hb, hml, hown, hts⟩ (c_X0_hoursOfBreaks l D cy A ad ya yi pr _ i p0 hw (by omega) hp0 hpb) ⟨va_cnB 0 hts gX1_schedule_X0_hoursOfBreaks_n196 rfl rfl rfl (hE.2.1 (.methodLinkNest RX1 196 yX0_hoursOfBreaks RX1) (by decide +kernel)) (hts (.initialized RX0) (by decide +kernel)) (by decide +kernel) ⟨(Nat.le_of_ble_eq_true rfl), (Nat.le_of_ble_eq_true rfl)⟩, hts (.instanceMethod yX0_hoursOfBreaks) (by decide +kernel), hts (.selects RX0 yX0_hoursOfBreaks yX0_hoursOfBreaks) (by decide +kernel)⟩ (zPV hE hS hw (ci := 0) (k0 := 10 + 3 * i) rfl (yE_p (by omega) hp0)) rfl rfl hl.1 rfl (lv_room (Nat.le_of_ble_eq_true rfl)) dX1_schedule_15 ⟨(Nat.le_of_ble_eq_true rfl), (Nat.le_of_ble_eq_true rfl)⟩) hS (fun z_15 H1 locs hz_15 hq hz1 hk1 hS => ?_)
  obtain ⟨hqe, hv_15⟩ := hq
  replace hqe := hqe.symm
  subst hqe
  refine zi_add hx hb dX1_schedule_18 ?_
  refine zputN (own := RX1) (C := RX0) (T := TX0) (N := 13) (index := 120) (host := RX1) hx hb hts hinX0 tyX0 tyX0_ok nmX0 hown hE hS hw (10 + 3 * i) (yE_p (by omega) hp0) rfl 7 (by decide) (by decide +kernel) rfl (ty := .int) (by decide +kernel) rfl rfl (Nat.le_of_ble_eq_true rfl) dX1_schedule_19 (fun H locs hw hS => ?_)
  have hw := hw.cong (yU_f (by omega) hp0 7 (by decide) (by decide) (((p0.1 3) + z_10) + z_15))
  obtain ⟨pr_1, hpr_1⟩ : ∃ z, z = va_up pr i (some (va_up p0.1 7 (((p0.1 3) + z_10) + z_15), p0.2)) := ⟨_, rfl⟩
  obtain ⟨q_1, hq_1⟩ : ∃ z : PS, z = (va_up p0.1 7 (((p0.1 3) + z_10) + z_15), p0.2) := ⟨_, rfl⟩
  have hp_n1 : pr_1 i = some q_1 := by rw [hpr_1, hq_1, up_same]
  rw [← hpr_1] at hw
  have f7 : q_1.1 7 = endY yi p0 := by rw [hq_1]; simp only [up_same]; rw [hv_10, hv_15]; rfl
  have fk1 : ∀ j, j ≠ 7 → q_1.1 j = p0.1 j := fun j hj => by rw [hq_1]; exact up_ne _ _ hj
  have w1 := fk1 2 (by decide)
  refine lv_aload_n hx hb dX1_schedule_22 rfl (lv_at hl 1 rfl) ?_
  refine lv_aload_n hx hb dX1_schedule_23 rfl (lv_at hl 0 rfl) ?_
  refine lv_aload_n hx hb dX1_schedule_24 rfl (lv_at hl 1 rfl) ?_
  refine zgetN (own := RX1) (C := RX0) (T := TX0) (N := 13) (index := 120) (host := RX1) hx hb hts hinX0 hown hE hw (10 + 3 * i) (yE_p (by omega) hp_n1) rfl 7 (by decide) (by decide +kernel) rfl dX1_schedule_25 ?_
  refine lv_aload_n hx hb dX1_schedule_28 rfl (lv_at hl 1 rfl) ?_
  refine zgetN (own := RX1) (C := RX0) (T := TX0) (N := 13) (index := 199) (host := RX1) hx hb hts hinX0 hown hE hw (10 + 3 * i) (yE_p (by omega) hp_n1) rfl 2 (by decide) (by decide +kernel) rfl dX1_schedule_29 ?_
  refine zcalli (va_runV (As := [.int (iI (q_1.1 7)), .int (iI (q_1.1 2))]) (rest := [.ref (ad (10 + 3 * i))]) ⟨hx, hb, hml, hown, hts⟩ (c_X1_strikeHour l D cy A ad ya yi pr_1 _ T (q_1.1 7) (q_1.1 2) hw (by omega) (by omega) hG ht) (cwV 2 hts gX1_schedule_X1_strikeHour rfl rfl rfl (by decide +kernel) ⟨(Nat.le_of_ble_eq_true rfl), (Nat.le_of_ble_eq_true rfl)⟩) (zPV hE hS hw (ci := 1) (k0 := 0) rfl yE_0) rfl rfl hl.1 rfl (lv_room (Nat.le_of_ble_eq_true rfl)) dX1_schedule_32 ⟨(Nat.le_of_ble_eq_true rfl), (Nat.le_of_ble_eq_true rfl)⟩) hS (fun z_32 H1 locs hz_32 hq hz1 hk1 hS => ?_)
  obtain ⟨hqe, hv_32⟩ := hq
  replace hqe := hqe.symm
  subst hqe
  refine zputN (own := RX1) (C := RX0) (T := TX0) (N := 13) (index := 132) (host := RX1) hx hb hts hinX0 tyX0 tyX0_ok nmX0 hown hE hS hw (10 + 3 * i) (yE_p (by omega) hp_n1) rfl 8 (by decide) (by decide +kernel) rfl (ty := .int) (by decide +kernel) rfl rfl (Nat.le_of_ble_eq_true rfl) dX1_schedule_35 (fun H locs hw hS => ?_)
  have hw := hw.cong (yU_f (by omega) hp_n1 8 (by decide) (by decide) (z_32))
  obtain ⟨pr_2, hpr_2⟩ : ∃ z, z = va_up pr_1 i (some (va_up q_1.1 8 (z_32), q_1.2)) := ⟨_, rfl⟩
  obtain ⟨q_2, hq_2⟩ : ∃ z : PS, z = (va_up q_1.1 8 (z_32), q_1.2) := ⟨_, rfl⟩
  have hp_n2 : pr_2 i = some q_2 := by rw [hpr_2, hq_2, up_same]
  rw [← hpr_2] at hw
  have f8 : q_2.1 8 = (if kY T yi p0 < 1000 then kY T yi p0 else -1) := by rw [hq_2]; simp only [up_same]; rw [hv_32, f7, w1]; rfl
  have fk2 : ∀ j, j ≠ 7 → j ≠ 8 → q_2.1 j = p0.1 j := fun j h1 h2 => by rw [hq_2]; exact (up_ne _ _ h2).trans (fk1 j h1)
  have w3 := fk2 3 (by decide) (by decide)
  refine lv_aload_n hx hb dX1_schedule_38 rfl (lv_at hl 1 rfl) ?_
  refine lv_aload_n hx hb dX1_schedule_39 rfl (lv_at hl 0 rfl) ?_
  refine lv_aload_n hx hb dX1_schedule_40 rfl (lv_at hl 1 rfl) ?_
  refine zgetN (own := RX1) (C := RX0) (T := TX0) (N := 13) (index := 104) (host := RX1) hx hb hts hinX0 hown hE hw (10 + 3 * i) (yE_p (by omega) hp_n2) rfl 3 (by decide) (by decide +kernel) rfl dX1_schedule_41 ?_
  refine zcalli (va_runV (As := [.int (iI (q_2.1 3))]) (rest := [.ref (ad (10 + 3 * i))]) ⟨hx, hb, hml, hown, hts⟩ (c_X1_standHour l D cy A ad ya yi pr_2 _ (q_2.1 3) hw (by omega) hg) (cwV 1 hts gX1_schedule_X1_standHour rfl rfl rfl (by decide +kernel) ⟨(Nat.le_of_ble_eq_true rfl), (Nat.le_of_ble_eq_true rfl)⟩) (zPV hE hS hw (ci := 1) (k0 := 0) rfl yE_0) rfl rfl hl.1 rfl (lv_room (Nat.le_of_ble_eq_true rfl)) dX1_schedule_44 ⟨(Nat.le_of_ble_eq_true rfl), (Nat.le_of_ble_eq_true rfl)⟩) hS (fun z_44 H1 locs hz_44 hq hz1 hk1 hS => ?_)
  obtain ⟨hqe, hv_44⟩ := hq
  replace hqe := hqe.symm
  subst hqe
  refine zputN (own := RX1) (C := RX0) (T := TX0) (N := 13) (index := 147) (host := RX1) hx hb hts hinX0 tyX0 tyX0_ok nmX0 hown hE hS hw (10 + 3 * i) (yE_p (by omega) hp_n2) rfl 9 (by decide) (by decide +kernel) rfl (ty := .int) (by decide +kernel) rfl rfl (Nat.le_of_ble_eq_true rfl) dX1_schedule_47 (fun H locs hw hS => ?_)
  have hw := hw.cong (yU_f (by omega) hp_n2 9 (by decide) (by decide) (z_44))
  obtain ⟨pr_3, hpr_3⟩ : ∃ z, z = va_up pr_2 i (some (va_up q_2.1 9 (z_44), q_2.2)) := ⟨_, rfl⟩
  obtain ⟨q_3, hq_3⟩ : ∃ z : PS, z = (va_up q_2.1 9 (z_44), q_2.2) := ⟨_, rfl⟩
  have hp_n3 : pr_3 i = some q_3 := by rw [hpr_3, hq_3, up_same]
  rw [← hpr_3] at hw
  have f8b : q_3.1 8 = (if kY T yi p0 < 1000 then kY T yi p0 else -1) := by rw [hq_3, ← f8]; show va_up q_2.1 9 z_44 8 = q_2.1 8; exact up_ne _ _ (by decide)
  have f8c : -1 ≤ q_3.1 8 ∧ q_3.1 8 < 1000 := by rw [f8b]; split <;> omega
  refine lv_aload_n hx hb dX1_schedule_50 rfl (lv_at hl 1 rfl) ?_
  refine lv_aload_n hx hb dX1_schedule_51 rfl (lv_at hl 0 rfl) ?_
  refine lv_aload_n hx hb dX1_schedule_52 rfl (lv_at hl 1 rfl) ?_
  refine zgetN (own := RX1) (C := RX0) (T := TX0) (N := 13) (index := 132) (host := RX1) hx hb hts hinX0 hown hE hw (10 + 3 * i) (yE_p (by omega) hp_n3) rfl 8 (by decide) (by decide +kernel) rfl dX1_schedule_53 ?_
  refine zcalli (va_runV (As := [.int (iI (q_3.1 8))]) (rest := [.ref (ad (10 + 3 * i))]) ⟨hx, hb, hml, hown, hts⟩ (c_X1_releaseHour l D cy A ad ya yi pr_3 _ (q_3.1 8) (kY T yi p0) hw ⟨hkb, f8b⟩ hg) (cwV 1 hts gX1_schedule_X1_releaseHour rfl rfl rfl (by decide +kernel) ⟨(Nat.le_of_ble_eq_true rfl), (Nat.le_of_ble_eq_true rfl)⟩) (zPV hE hS hw (ci := 1) (k0 := 0) rfl yE_0) rfl rfl hl.1 rfl (lv_room (Nat.le_of_ble_eq_true rfl)) dX1_schedule_56 ⟨(Nat.le_of_ble_eq_true rfl), (Nat.le_of_ble_eq_true rfl)⟩) hS (fun z_56 H1 locs hz_56 hq hz1 hk1 hS => ?_)
  obtain ⟨hqe, hv_56⟩ := hq
  replace hqe := hqe.symm
  subst hqe
  refine zputN (own := RX1) (C := RX0) (T := TX0) (N := 13) (index := 135) (host := RX1) hx hb hts hinX0 tyX0 tyX0_ok nmX0 hown hE hS hw (10 + 3 * i) (yE_p (by omega) hp_n3) rfl 10 (by decide) (by decide +kernel) rfl (ty := .int) (by decide +kernel) rfl rfl (Nat.le_of_ble_eq_true rfl) dX1_schedule_59 (fun H locs hw hS => ?_)
  have hw := hw.cong (yU_f (by omega) hp_n3 10 (by decide) (by decide) (z_56))
  obtain ⟨pr_4, hpr_4⟩ : ∃ z, z = va_up pr_3 i (some (va_up q_3.1 10 (z_56), q_3.2)) := ⟨_, rfl⟩
  obtain ⟨q_4, hq_4⟩ : ∃ z : PS, z = (va_up q_3.1 10 (z_56), q_3.2) := ⟨_, rfl⟩
  have hp_n4 : pr_4 i = some q_4 := by rw [hpr_4, hq_4, up_same]
  rw [← hpr_4] at hw
  have hpr : pr_4 = va_up pr i (some q_4) := by rw [hq_4, hpr_4, hpr_3, hpr_2, hpr_1, up_up, up_up, up_up]
  rw [hpr] at hw
  have r7 : q_4.1 7 = endY yi p0 := by rw [hq_4, hq_3, hq_2]; exact f7
  have r8 : q_4.1 8 = (if kY T yi p0 < 1000 then kY T yi p0 else -1) := by rw [hq_4]; exact f8b
  have r9 : q_4.1 9 = standS (yi 7) (p0.1 3) := by rw [hq_4, hq_3]; show z_44 = _; rw [hv_44, w3]
  have r10 : q_4.1 10 = min 1000 (freeS (yi 8) (kY T yi p0)) := by rw [hq_4]; exact hv_56
  have rk : ∀ j, j < 5 → q_4.1 j = p0.1 j := fun j hj => by rw [hq_4, hq_3]; exact (up_ne _ _ (by omega)).trans ((up_ne _ _ (by omega)).trans (fk2 j (by omega) (by omega)))
  have rt2 : q_4.2 = p0.2 := by rw [hq_4, hq_3, hq_2, hq_1]
  refine zvret hx hb hr hlocks hS (Nat.le_of_ble_eq_true rfl) (Nat.le_of_ble_eq_true rfl) ?_ dX1_schedule_62
  exact ⟨q_4, hw, ⟨⟨rk 0 (by decide), rk 1 (by decide), rk 2 (by decide), rk 3 (by decide), rk 4 (by decide)⟩, by rw [rt2], by rw [rt2], r7, r8, r9, r10⟩, by rw [rt2]⟩

set_option maxHeartbeats 4000000 in
set_option maxRecDepth 100000 in
theorem c_X1_scheduleAll (l : Launch) (D : va_G) (cy : Nat → ClassId) (A : Nat → Prop) (ad : Nat → Nat) (ya : Nat → Nat → Int) (yi : Nat → Int) (pr : Nat → Option PS) (H0 : Heap) (T : Nat → Int) (hw : zW D A ad (yE cy ad ya yi pr) H0) (hpa : ∀ j p, j < 10 → pr j = some p → pB p) (hg : yB yi) (hG : gnd T ya) (ht : tOK T) : Met l yX1_scheduleAll wsX1_scheduleAll ({ frames := 4, cells := 0, slots := 0, locals := 90 }) (zPc D cy A [.ref (ad 0)] H0) (zQv (fun H1 => ∃ pq, zW D A ad (yE cy ad ya yi pq) H1 ∧ schA T yi pr pq 10) A) 0 0 A := by
  refine Met.ofW (cc := cX1_scheduleAll) (maxL := 5) (ret := none) (by decide) rfl ?_
  intro pg en s mt args below meth c s₁ B hml hv
  obtain ⟨rfl, hH, hE⟩ := hv
  subst hH
  have hx := B.exec
  have hb := B.bytes
  have hr := B.returns
  have hts := atoms_spec (ws := wsX1_scheduleAll) B.pre
  have hown : s.vm.findClass RX1 = some mt.cls := findClass_of_methodNamed B.named
  have hlocks := B.notSynchronized
  have hinX1 : ∀ w ∈ u_ws RX1 TX1 9, w ∈ wsX1_scheduleAll := by decide +kernel
  have hS : va_S A s.heap s.heap [] := va_S.rf
  have hl := lv_entry ([.ref (ad 0)]) (n := 5) (Nat.le_of_ble_eq_true rfl)
  rw [lg_entry_eq]
  generalize (lg_sl ([.ref (ad 0)]) ++ List.replicate (5 - (lg_sl ([.ref (ad 0)])).length) Slot.unset).toArray = ls at hl ⊢
  have hl : lv_has ls 5 [(0, .ref (ad 0))] := hl
  refine lv_aload_n hx hb dX1_scheduleAll_0 rfl (lv_at hl 0 rfl) ?_
  refine zget (C := RX1) (T := TX1) (N := 9) hx hb hts hinX1 hown hE hw 0 yE_0 rfl 4 (by decide) (hts (.fieldLink RX1 24 "FormworkYard" "pourList" "[LFormworkYard$Pour;") (by decide +kernel)) rfl dX1_scheduleAll_1 ?_
  refine lv_astore_n (lv' := [(1, .ref (ad 5)), (0, .ref (ad 0))]) hx hb dX1_scheduleAll_4 rfl hl (by decide) rfl (fun ls hl => ?_)
  refine lv_aload_n hx hb dX1_scheduleAll_5 rfl (lv_at hl 0 rfl) ?_
  refine zalen hx hb hE hw 5 2 yE_5 rfl (z := 10) rfl dX1_scheduleAll_6 ?_
  refine lv_istore_n (lv' := [(2, .int (iI (10))), (1, .ref (ad 5)), (0, .ref (ad 0))]) hx hb dX1_scheduleAll_7 rfl hl (by decide) rfl (fun ls hl => ?_)
  refine zi_const hx hb dX1_scheduleAll_8 ?_
  refine lv_istore_n (lv' := [(3, .int (iI (0))), (2, .int (iI (10))), (1, .ref (ad 5)), (0, .ref (ad 0))]) hx hb dX1_scheduleAll_9 rfl hl (by decide) rfl (fun ls hl => ?_)
  have loop_10 : ∀ (n : Nat) (i : Nat) (pq : Nat → Option PS) (H : Heap) (locs : List Loc) (ls : Array Slot), 10 - i < n → (i ≤ 10) → (schA T yi pr pq i) → zW D A ad (yE cy ad ya yi pq) H → va_S A s.heap H locs → lv_has ls 5 [(3, .int (iI ((i : Int)))), (2, .int (iI (10))), (1, .ref (ad 5)), (0, .ref (ad 0))] → W pg l en (headSpec wsX1_scheduleAll ({ frames := 4, cells := 0, slots := 0, locals := 90 })).room s mt ([.ref (ad 0)] : List Value).toArray below meth c H locs 0 0 (MQ below (zQv (fun H1 => ∃ pq, zW D A ad (yE cy ad ya yi pq) H1 ∧ schA T yi pr pq 10) A) ([.ref (ad 0)] : List Value).toArray s 0 0 A) (F0 mt 10 ls []) := by
    intro n
    induction n with
    | zero =>
      intro i pq H locs ls hm hi hsa
      exfalso; omega
    | succ n ih =>
      intro i pq H locs ls hm hi hsa hw hS hl
      refine lv_iload_n hx hb dX1_scheduleAll_10 rfl (lv_at hl 0 rfl) ?_
      refine lv_iload_n hx hb dX1_scheduleAll_11 rfl (lv_at hl 1 rfl) ?_
      refine zc_ge (tgt := 37) hx hb dX1_scheduleAll_12 (by decide) (by first | decide | (constructor <;> omega)) (by first | decide | (constructor <;> omega)) (fun c_12 => ?_) (fun c_12 => ?_)
      · refine zvret hx hb hr hlocks hS (Nat.le_of_ble_eq_true rfl) (Nat.le_of_ble_eq_true rfl) ?_ dX1_scheduleAll_37
        exact ⟨_, hw, by rw [show i = 10 by omega] at hsa; exact hsa⟩
      · refine lv_aload_n hx hb dX1_scheduleAll_15 rfl (lv_at hl 2 rfl) ?_
        refine lv_iload_n hx hb dX1_scheduleAll_16 rfl (lv_at hl 0 rfl) ?_
        refine zaald hx hb hE hw 5 yE_5 i rfl (by omega) (by omega) dX1_scheduleAll_17 ?_
        rcases hp_17 : pq i with _ | p_17
        · rw [yR_0 hp_17]
          refine lv_astoreN (lv' := [(4, .null), (3, .int (iI ((i : Int)))), (2, .int (iI (10))), (1, .ref (ad 5)), (0, .ref (ad 0))]) hx hb dX1_scheduleAll_18 hl (by decide) rfl (fun ls hl => ?_)
          refine lv_aloadN hx hb dX1_scheduleAll_20 (lv_at hl 0 rfl) ?_
          refine lv_ifnullN (tgt := 31) hx hb dX1_scheduleAll_22 (by decide) ?_
          refine zi_iinc (lv' := [(3, .int (iI ((i : Int) + 1))), (4, .null), (2, .int (iI (10))), (1, .ref (ad 5)), (0, .ref (ad 0))]) hx hb dX1_scheduleAll_31 hl (k := 1) rfl (by decide) rfl (fun ls hl => ?_)
          refine lv_goto (tgt := 10) hx hb dX1_scheduleAll_34 (by decide) ?_
          exact ih (i + 1) pq _ _ _ (by omega) (by omega) (schA_n hsa (by omega) hp_17) hw hS (lv_sub hl [0, 2, 3, 4] rfl)
        · rw [yR_1 hp_17]
          have hpb := hpa i p_17 (by omega) (schA_at hsa (by omega) hp_17)
          refine lv_astore (lv' := [(4, .ref (ad (10 + 3 * i))), (3, .int (iI ((i : Int)))), (2, .int (iI (10))), (1, .ref (ad 5)), (0, .ref (ad 0))]) hx hb dX1_scheduleAll_18 hl (by decide) rfl (fun ls hl => ?_)
          refine lv_aload hx hb dX1_scheduleAll_20 (lv_at hl 0 rfl) ?_
          refine lv_ifnull hx hb dX1_scheduleAll_22 ?_
          refine lv_aload_n hx hb dX1_scheduleAll_25 rfl (lv_at hl 4 rfl) ?_
          refine lv_aload hx hb dX1_scheduleAll_26 (lv_at hl 0 rfl) ?_
          refine zcallv (va_runV (As := [.ref (ad (10 + 3 * i))]) (rest := []) ⟨hx, hb, hml, hown, hts⟩ (c_X1_schedule l D cy A ad ya yi pq _ T i p_17 hw (by omega) hp_17 hpb hg hG ht) (cwV 1 hts gX1_scheduleAll_X1_schedule rfl rfl rfl (by decide +kernel) ⟨(Nat.le_of_ble_eq_true rfl), (Nat.le_of_ble_eq_true rfl)⟩) (zPV hE hS hw (ci := 1) (k0 := 0) rfl yE_0) rfl rfl hl.1 rfl (lv_room (Nat.le_of_ble_eq_true rfl)) dX1_scheduleAll_28 ⟨(Nat.le_of_ble_eq_true rfl), (Nat.le_of_ble_eq_true rfl)⟩) hS (fun H1 locs hq hz1 hk1 hS => ?_)
          obtain ⟨q_s28, hw, hsch, hgv⟩ := hq
          refine zi_iinc (lv' := [(3, .int (iI ((i : Int) + 1))), (4, .ref (ad (10 + 3 * i))), (2, .int (iI (10))), (1, .ref (ad 5)), (0, .ref (ad 0))]) hx hb dX1_scheduleAll_31 hl (k := 1) rfl (by decide) rfl (fun ls hl => ?_)
          refine lv_goto (tgt := 10) hx hb dX1_scheduleAll_34 (by decide) ?_
          exact ih (i + 1) ((va_up pq i (some q_s28))) _ _ _ (by omega) (by omega) (schA_s hsa (by omega) hp_17 hsch) hw hS (lv_sub hl [0, 2, 3, 4] rfl)
  exact loop_10 11 0 pr _ _ _ (by omega) (by omega) schA_0 hw hS (lv_sub hl [0, 1, 2, 3] rfl)

set_option maxHeartbeats 4000000 in
set_option maxRecDepth 100000 in
theorem c_X1_sumGains (l : Launch) (D : va_G) (cy : Nat → ClassId) (A : Nat → Prop) (ad : Nat → Nat) (ya : Nat → Nat → Int) (yi : Nat → Int) (pr : Nat → Option PS) (H0 : Heap) (hw : zW D A ad (yE cy ad ya yi pr) H0) (ht : tOK (ya 0)) : Met l yX1_sumGains wsX1_sumGains ({ frames := 1, cells := 0, slots := 0, locals := 21 }) (zPc D cy A [.ref (ad 0)] H0) (zQv (fun H1 => ∃ yb, zW D A ad (yE cy ad yb yi pr) H1 ∧ (∀ r, r ≠ 1 → yb r = ya r) ∧ gnd (ya 0) yb) A) 0 0 A := by
  refine Met.ofW (cc := cX1_sumGains) (maxL := 2) (ret := none) (by decide) rfl ?_
  intro pg en s mt args below meth c s₁ B hml hv
  obtain ⟨rfl, hH, hE⟩ := hv
  subst hH
  have hx := B.exec
  have hb := B.bytes
  have hr := B.returns
  have hts := atoms_spec (ws := wsX1_sumGains) B.pre
  have hown : s.vm.findClass RX1 = some mt.cls := findClass_of_methodNamed B.named
  have hlocks := B.notSynchronized
  have hinX1 : ∀ w ∈ u_ws RX1 TX1 9, w ∈ wsX1_sumGains := by decide +kernel
  have hS : va_S A s.heap s.heap [] := va_S.rf
  have hl := lv_entry ([.ref (ad 0)]) (n := 2) (Nat.le_of_ble_eq_true rfl)
  rw [lg_entry_eq]
  generalize (lg_sl ([.ref (ad 0)]) ++ List.replicate (2 - (lg_sl ([.ref (ad 0)])).length) Slot.unset).toArray = ls at hl ⊢
  have hl : lv_has ls 2 [(0, .ref (ad 0))] := hl
  refine lv_aload_n hx hb dX1_sumGains_0 rfl (lv_at hl 0 rfl) ?_
  refine zget (C := RX1) (T := TX1) (N := 9) hx hb hts hinX1 hown hE hw 0 yE_0 rfl 1 (by decide) (hts (.fieldLink RX1 13 "FormworkYard" "gained" "[I") (by decide +kernel)) rfl dX1_sumGains_1 ?_
  refine zi_const hx hb dX1_sumGains_4 ?_
  refine zi_const hx hb dX1_sumGains_5 ?_
  refine ziast hx hb hE hS hw 2 yE_2 0 rfl (by omega) (by omega) dX1_sumGains_6 (fun H locs hw hS => ?_)
  have hw := hw.cong (yU_a 1 (by decide) (0) (0) rfl)
  obtain ⟨ya_1, hya_1⟩ : ∃ z : Nat → Nat → Int, z = va_up ya 1 (va_up (ya 1) (0) (0)) := ⟨_, rfl⟩
  rw [← hya_1] at hw
  refine zi_const hx hb dX1_sumGains_7 ?_
  refine lv_istore_n (lv' := [(1, .int (iI (0))), (0, .ref (ad 0))]) hx hb dX1_sumGains_8 rfl hl (by decide) rfl (fun ls hl => ?_)
  have loop_9 : ∀ (n : Nat) (i : Nat) (yb : Nat → Nat → Int) (H : Heap) (locs : List Loc) (ls : Array Slot), 1000 - i < n → (i ≤ 1000) → (∀ r, r ≠ 1 → yb r = ya r) → (∀ j, j ≤ i → yb 1 j = gs (ya 0) j) → zW D A ad (yE cy ad yb yi pr) H → va_S A s.heap H locs → lv_has ls 2 [(1, .int (iI ((i : Int)))), (0, .ref (ad 0))] → W pg l en (headSpec wsX1_sumGains ({ frames := 1, cells := 0, slots := 0, locals := 21 })).room s mt ([.ref (ad 0)] : List Value).toArray below meth c H locs 0 0 (MQ below (zQv (fun H1 => ∃ yb, zW D A ad (yE cy ad yb yi pr) H1 ∧ (∀ r, r ≠ 1 → yb r = ya r) ∧ gnd (ya 0) yb) A) ([.ref (ad 0)] : List Value).toArray s 0 0 A) (F0 mt 9 ls []) := by
    intro n
    induction n with
    | zero =>
      intro i yb H locs ls hm hi hr9 hgs
      exfalso; omega
    | succ n ih =>
      intro i yb H locs ls hm hi hr9 hgs hw hS hl
      refine lv_iload_n hx hb dX1_sumGains_9 rfl (lv_at hl 0 rfl) ?_
      refine zi_sipush hx hb dX1_sumGains_10 (by decide) ?_
      refine zc_ge (tgt := 50) hx hb dX1_sumGains_13 (by decide) (by first | decide | (constructor <;> omega)) (by first | decide | (constructor <;> omega)) (fun c_13 => ?_) (fun c_13 => ?_)
      · refine zvret hx hb hr hlocks hS (Nat.le_of_ble_eq_true rfl) (Nat.le_of_ble_eq_true rfl) ?_ dX1_sumGains_50
        exact ⟨_, hw, hr9, fun n hn => hgs n (by omega)⟩
      · refine lv_aload_n hx hb dX1_sumGains_16 rfl (lv_at hl 1 rfl) ?_
        refine zget (C := RX1) (T := TX1) (N := 9) hx hb hts hinX1 hown hE hw 0 yE_0 rfl 1 (by decide) (hts (.fieldLink RX1 13 "FormworkYard" "gained" "[I") (by decide +kernel)) rfl dX1_sumGains_17 ?_
        refine lv_iload_n hx hb dX1_sumGains_20 rfl (lv_at hl 0 rfl) ?_
        refine zi_const hx hb dX1_sumGains_21 ?_
        refine zi_add hx hb dX1_sumGains_22 ?_
        refine lv_aload_n hx hb dX1_sumGains_23 rfl (lv_at hl 1 rfl) ?_
        refine zget (C := RX1) (T := TX1) (N := 9) hx hb hts hinX1 hown hE hw 0 yE_0 rfl 1 (by decide) (hts (.fieldLink RX1 13 "FormworkYard" "gained" "[I") (by decide +kernel)) rfl dX1_sumGains_24 ?_
        refine lv_iload_n hx hb dX1_sumGains_27 rfl (lv_at hl 0 rfl) ?_
        refine ziald hx hb hE hw 2 yE_2 i rfl (by omega) (by omega) dX1_sumGains_28 ?_
        refine zi_top (fun v_28 hv_28 => ?_)
        have hgb := gs_b ht i
        refine zi_const hx hb dX1_sumGains_29 ?_
        refine lv_aload_n hx hb dX1_sumGains_30 rfl (lv_at hl 1 rfl) ?_
        refine zget (C := RX1) (T := TX1) (N := 9) hx hb hts hinX1 hown hE hw 0 yE_0 rfl 0 (by decide) (hts (.fieldLink RX1 9 "FormworkYard" "temperatures" "[I") (by decide +kernel)) rfl dX1_sumGains_31 ?_
        refine lv_iload_n hx hb dX1_sumGains_34 rfl (lv_at hl 0 rfl) ?_
        refine ziald hx hb hE hw 1 yE_1 i rfl (by omega) (by omega) dX1_sumGains_35 ?_
        refine zi_top (fun v_35 hv_35 => ?_)
        have hT := ht i (by omega)
        rw [hr9 0 (by decide)] at hv_35
        refine zi_bipush hx hb dX1_sumGains_36 (by decide) ?_
        refine zi_add hx hb dX1_sumGains_38 ?_
        refine va_mmax hx hb (hml.trans hl.1.symm) hown (hts (.methodLink RX1 144 Lib.Math.max.name) (by decide +kernel)) (hts (.static Lib.Math.max.name) (by decide +kernel)) (hts (.initialized "java/lang/Math") (by decide +kernel)) (hts (.code Lib.Math.max.name Lib.Math.max.code 2 (some .int)) (by decide +kernel)) (Nat.le_of_ble_eq_true rfl) (Nat.le_of_ble_eq_true rfl) (Nat.le_of_ble_eq_true rfl) (Nat.le_of_ble_eq_true rfl) dX1_sumGains_39 ?_
        rw [iI_max (a := 0) (b := v_35 + 10) (by first | decide | (constructor <;> omega)) (by first | decide | (constructor <;> omega))]
        refine zi_top (fun x_39 hx_39 => ?_)
        have hgn : x_39 = gn (ya 0 i) := by rw [hx_39, hv_35]; unfold gn; split <;> omega
        refine zi_add hx hb dX1_sumGains_42 ?_
        refine ziast hx hb hE hS hw 2 yE_2 (i + 1) (by omega) (by omega) (by omega) dX1_sumGains_43 (fun H locs hw hS => ?_)
        have hw := hw.cong (yU_a 1 (by decide) ((i + 1)) (v_28 + x_39) rfl)
        obtain ⟨ya_2, hya_2⟩ : ∃ z : Nat → Nat → Int, z = va_up yb 1 (va_up (yb 1) ((i + 1)) (v_28 + x_39)) := ⟨_, rfl⟩
        rw [← hya_2] at hw
        refine zi_iinc (lv' := [(1, .int (iI ((i : Int) + 1))), (0, .ref (ad 0))]) hx hb dX1_sumGains_44 hl (k := 0) rfl (by decide) rfl (fun ls hl => ?_)
        refine lv_goto (tgt := 9) hx hb dX1_sumGains_47 (by decide) ?_
        have hY := rU_s (k := 1) (p := i + 1) rU_r hya_2
        exact ih (i + 1) ya_2 _ _ _ (by omega) (by omega) (fun r hr => (rU_row hY.1 hr).trans (hr9 r hr)) (fun j hj => by by_cases hji : j = i + 1; (subst hji; rw [hY.2, hv_28, hgs i (by omega)]; show _ = gs (ya 0) i + _; rw [if_pos (by omega), hgn]); rw [hY.1 1 j (Or.inr hji)]; exact hgs j (by omega)) hw hS (lv_sub hl [0, 1] rfl)
  exact loop_9 1001 0 ya_1 _ _ _ (by omega) (by omega) (fun r hr => rU_row (rU_s (k := 1) (p := 0) rU_r hya_1).1 hr) (fun j hj => by rw [show j = 0 by omega, (rU_s (k := 1) (p := 0) rU_r hya_1).2]; rfl) hw hS (lv_sub hl [0, 1] rfl)

set_option maxHeartbeats 4000000 in
set_option maxRecDepth 100000 in
theorem c_X1_needIn (l : Launch) (D : va_G) (cy : Nat → ClassId) (A : Nat → Prop) (ad : Nat → Nat) (ya : Nat → Nat → Int) (yi : Nat → Int) (pr : Nat → Option PS) (H0 : Heap) (h : Int) (hw : zW D A ad (yE cy ad ya yi pr) H0) (h1 : zr h) (ha : pA pr) : Met l yX1_needIn wsX1_needIn ({ frames := 1, cells := 0, slots := 0, locals := 21 }) (zPc D cy A [.ref (ad 0), .int (iI (h))] H0) (zQi (fun z H1 => H1 = H0 ∧ z = nY pr h 10) A) 0 0 A := by
  refine Met.ofW (cc := cX1_needIn) (maxL := 7) (ret := (some .int)) (by decide) rfl ?_
  intro pg en s mt args below meth c s₁ B hml hv
  obtain ⟨rfl, hH, hE⟩ := hv
  subst hH
  have hx := B.exec
  have hb := B.bytes
  have hr := B.returns
  have hts := atoms_spec (ws := wsX1_needIn) B.pre
  have hown : s.vm.findClass RX1 = some mt.cls := findClass_of_methodNamed B.named
  have hlocks := B.notSynchronized
  have hinX0 : ∀ w ∈ u_ws RX0 TX0 13, w ∈ wsX1_needIn := by decide +kernel
  have hinX1 : ∀ w ∈ u_ws RX1 TX1 9, w ∈ wsX1_needIn := by decide +kernel
  have hS : va_S A s.heap s.heap [] := va_S.rf
  have hl := lv_entry ([.ref (ad 0), .int (iI (h))]) (n := 7) (Nat.le_of_ble_eq_true rfl)
  rw [lg_entry_eq]
  generalize (lg_sl ([.ref (ad 0), .int (iI (h))]) ++ List.replicate (7 - (lg_sl ([.ref (ad 0), .int (iI (h))])).length) Slot.unset).toArray = ls at hl ⊢
  have hl : lv_has ls 7 [(0, .ref (ad 0)), (1, .int (iI (h)))] := hl
  refine zi_const hx hb dX1_needIn_0 ?_
  refine lv_istore_n (lv' := [(2, .int (iI (0))), (0, .ref (ad 0)), (1, .int (iI (h)))]) hx hb dX1_needIn_1 rfl hl (by decide) rfl (fun ls hl => ?_)
  refine lv_aload_n hx hb dX1_needIn_2 rfl (lv_at hl 1 rfl) ?_
  refine zget (C := RX1) (T := TX1) (N := 9) hx hb hts hinX1 hown hE hw 0 yE_0 rfl 4 (by decide) (hts (.fieldLink RX1 24 "FormworkYard" "pourList" "[LFormworkYard$Pour;") (by decide +kernel)) rfl dX1_needIn_3 ?_
  refine lv_astore_n (lv' := [(3, .ref (ad 5)), (2, .int (iI (0))), (0, .ref (ad 0)), (1, .int (iI (h)))]) hx hb dX1_needIn_6 rfl hl (by decide) rfl (fun ls hl => ?_)
  refine lv_aload_n hx hb dX1_needIn_7 rfl (lv_at hl 0 rfl) ?_
  refine zalen hx hb hE hw 5 2 yE_5 rfl (z := 10) rfl dX1_needIn_8 ?_
  refine lv_istore (lv' := [(4, .int (iI (10))), (3, .ref (ad 5)), (2, .int (iI (0))), (0, .ref (ad 0)), (1, .int (iI (h)))]) hx hb dX1_needIn_9 hl (by decide) rfl (fun ls hl => ?_)
  refine zi_const hx hb dX1_needIn_11 ?_
  refine lv_istore (lv' := [(5, .int (iI (0))), (4, .int (iI (10))), (3, .ref (ad 5)), (2, .int (iI (0))), (0, .ref (ad 0)), (1, .int (iI (h)))]) hx hb dX1_needIn_12 hl (by decide) rfl (fun ls hl => ?_)
  have loop_14 : ∀ (n : Nat) (i : Nat) (w : Int) (locs : List Loc) (ls : Array Slot), 10 - i < n → (i ≤ 10) → (w = nY pr h i) → va_S A s.heap s.heap locs → lv_has ls 7 [(5, .int (iI ((i : Int)))), (4, .int (iI (10))), (3, .ref (ad 5)), (2, .int (iI (w))), (0, .ref (ad 0)), (1, .int (iI (h)))] → W pg l en (headSpec wsX1_needIn ({ frames := 1, cells := 0, slots := 0, locals := 21 })).room s mt ([.ref (ad 0), .int (iI (h))] : List Value).toArray below meth c s.heap locs 0 0 (MQ below (zQi (fun z H1 => H1 = s.heap ∧ z = nY pr h 10) A) ([.ref (ad 0), .int (iI (h))] : List Value).toArray s 0 0 A) (F0 mt 14 ls []) := by
    intro n
    induction n with
    | zero =>
      intro i w locs ls hm hi hk
      exfalso; omega
    | succ n ih =>
      intro i w locs ls hm hi hk hS hl
      have hnb := nY_b (h := h) ha (n := i) (by omega)
      refine lv_iload hx hb dX1_needIn_14 (lv_at hl 0 rfl) ?_
      refine lv_iload hx hb dX1_needIn_16 (lv_at hl 1 rfl) ?_
      refine zc_ge (tgt := 55) hx hb dX1_needIn_18 (by decide) (by first | decide | (constructor <;> omega)) (by first | decide | (constructor <;> omega)) (fun c_18 => ?_) (fun c_18 => ?_)
      · refine lv_iload_n hx hb dX1_needIn_55 rfl (lv_at hl 3 rfl) ?_
        refine ziret hx hb hr hlocks hS (Nat.le_of_ble_eq_true rfl) (Nat.le_of_ble_eq_true rfl) (by first | decide | (constructor <;> omega)) ?_ dX1_needIn_56
        exact ⟨rfl, by rw [hk, show i = 10 by omega]⟩
      · refine lv_aload_n hx hb dX1_needIn_21 rfl (lv_at hl 2 rfl) ?_
        refine lv_iload hx hb dX1_needIn_22 (lv_at hl 0 rfl) ?_
        refine zaald hx hb hE hw 5 yE_5 i rfl (by omega) (by omega) dX1_needIn_24 ?_
        rcases hp_24 : pr i with _ | p_24
        · rw [yR_0 hp_24]
          refine lv_astoreN (lv' := [(6, .null), (5, .int (iI ((i : Int)))), (4, .int (iI (10))), (3, .ref (ad 5)), (2, .int (iI (w))), (0, .ref (ad 0)), (1, .int (iI (h)))]) hx hb dX1_needIn_25 hl (by decide) rfl (fun ls hl => ?_)
          refine lv_aloadN hx hb dX1_needIn_27 (lv_at hl 0 rfl) ?_
          refine lv_ifnullN (tgt := 49) hx hb dX1_needIn_29 (by decide) ?_
          refine zi_iinc (lv' := [(5, .int (iI ((i : Int) + 1))), (6, .null), (4, .int (iI (10))), (3, .ref (ad 5)), (2, .int (iI (w))), (0, .ref (ad 0)), (1, .int (iI (h)))]) hx hb dX1_needIn_49 hl (k := 1) rfl (by decide) rfl (fun ls hl => ?_)
          refine lv_goto (tgt := 14) hx hb dX1_needIn_52 (by decide) ?_
          exact ih (i + 1) w _ _ (by omega) (by omega) (by rw [nY_n hp_24]; omega) hS (lv_sub hl [0, 2, 3, 4, 5, 6] rfl)
        · rw [yR_1 hp_24]
          obtain ⟨⟨q1, q2, q3, q4, q5, q6⟩, q7, q8⟩ := ha i p_24 (by omega) hp_24
          refine lv_astore (lv' := [(6, .ref (ad (10 + 3 * i))), (5, .int (iI ((i : Int)))), (4, .int (iI (10))), (3, .ref (ad 5)), (2, .int (iI (w))), (0, .ref (ad 0)), (1, .int (iI (h)))]) hx hb dX1_needIn_25 hl (by decide) rfl (fun ls hl => ?_)
          refine lv_aload hx hb dX1_needIn_27 (lv_at hl 0 rfl) ?_
          refine lv_ifnull hx hb dX1_needIn_29 ?_
          refine lv_aload hx hb dX1_needIn_32 (lv_at hl 0 rfl) ?_
          refine lv_iload_n hx hb dX1_needIn_34 rfl (lv_at hl 6 rfl) ?_
          refine zcalli (va_runVN (As := [.int (iI (h))]) (rest := []) ⟨hx, hb, hml, hown, hts⟩ (c_X0_isBusy l D cy A ad ya yi pr _ i p_24 (h) hw (by omega) hp_24 (by first | decide | (constructor <;> omega)) (by first | decide | (constructor <;> omega)) (by first | decide | (constructor <;> omega))) ⟨va_cnB 1 hts gX1_needIn_X0_isBusy_n184 rfl rfl rfl (hE.2.1 (.methodLinkNest RX1 184 yX0_isBusy RX1) (by decide +kernel)) (hts (.initialized RX0) (by decide +kernel)) (by decide +kernel) ⟨(Nat.le_of_ble_eq_true rfl), (Nat.le_of_ble_eq_true rfl)⟩, hts (.instanceMethod yX0_isBusy) (by decide +kernel), hts (.selects RX0 yX0_isBusy yX0_isBusy) (by decide +kernel)⟩ (zPV hE hS hw (ci := 0) (k0 := 10 + 3 * i) rfl (yE_p (by omega) hp_24)) rfl rfl hl.1 rfl (lv_room (Nat.le_of_ble_eq_true rfl)) dX1_needIn_35 ⟨(Nat.le_of_ble_eq_true rfl), (Nat.le_of_ble_eq_true rfl)⟩) hS (fun z_35 H1 locs hz_35 hq hz1 hk1 hS => ?_)
          obtain ⟨hqe, hv_35⟩ := hq
          replace hqe := hqe.symm
          subst hqe
          refine zf_eq (tgt := 49) hx hb dX1_needIn_38 (by decide) (by first | decide | (constructor <;> omega)) (fun c_38 => ?_) (fun c_38 => ?_)
          · refine zi_iinc (lv' := [(5, .int (iI ((i : Int) + 1))), (6, .ref (ad (10 + 3 * i))), (4, .int (iI (10))), (3, .ref (ad 5)), (2, .int (iI (w))), (0, .ref (ad 0)), (1, .int (iI (h)))]) hx hb dX1_needIn_49 hl (k := 1) rfl (by decide) rfl (fun ls hl => ?_)
            refine lv_goto (tgt := 14) hx hb dX1_needIn_52 (by decide) ?_
            exact ih (i + 1) w _ _ (by omega) (by omega) (by rw [nY_s hp_24, if_neg (by omega)]; omega) hS (lv_sub hl [0, 2, 3, 4, 5, 6] rfl)
          · refine lv_iload_n hx hb dX1_needIn_41 rfl (lv_at hl 4 rfl) ?_
            refine lv_aload hx hb dX1_needIn_42 (lv_at hl 0 rfl) ?_
            refine zgetN (own := RX1) (C := RX0) (T := TX0) (N := 13) (index := 107) (host := RX1) hx hb hts hinX0 hown hE hw (10 + 3 * i) (yE_p (by omega) hp_24) rfl 1 (by decide) (by decide +kernel) rfl dX1_needIn_44 ?_
            refine zi_add hx hb dX1_needIn_47 ?_
            refine zi_top (fun x_48 hx_48 => ?_)
            refine lv_istore_n (lv' := [(2, .int (iI (x_48))), (6, .ref (ad (10 + 3 * i))), (5, .int (iI ((i : Int)))), (4, .int (iI (10))), (3, .ref (ad 5)), (0, .ref (ad 0)), (1, .int (iI (h)))]) hx hb dX1_needIn_48 rfl hl (by decide) rfl (fun ls hl => ?_)
            refine zi_iinc (lv' := [(5, .int (iI ((i : Int) + 1))), (2, .int (iI (x_48))), (6, .ref (ad (10 + 3 * i))), (4, .int (iI (10))), (3, .ref (ad 5)), (0, .ref (ad 0)), (1, .int (iI (h)))]) hx hb dX1_needIn_49 hl (k := 2) rfl (by decide) rfl (fun ls hl => ?_)
            refine lv_goto (tgt := 14) hx hb dX1_needIn_52 (by decide) ?_
            exact ih (i + 1) x_48 _ _ (by omega) (by omega) (by rw [nY_s hp_24, if_pos (by omega)]; omega) hS (lv_sub hl [0, 3, 4, 1, 5, 6] rfl)
  exact loop_14 11 0 0 _ _ (by omega) (by omega) rfl hS (lv_sub hl [0, 1, 2, 3, 4, 5] rfl)

set_option maxHeartbeats 4000000 in
set_option maxRecDepth 100000 in
theorem c_X1_sumNeeds (l : Launch) (D : va_G) (cy : Nat → ClassId) (A : Nat → Prop) (ad : Nat → Nat) (ya : Nat → Nat → Int) (yi : Nat → Int) (pr : Nat → Option PS) (H0 : Heap) (hw : zW D A ad (yE cy ad ya yi pr) H0) (ha : pA pr) : Met l yX1_sumNeeds wsX1_sumNeeds ({ frames := 2, cells := 0, slots := 0, locals := 47 }) (zPc D cy A [.ref (ad 0)] H0) (zQv (fun H1 => ∃ yb, zW D A ad (yE cy ad yb yi pr) H1 ∧ (∀ r, r ≠ 2 → yb r = ya r) ∧ ∀ j : Nat, j < 1000 → yb 2 j = nY pr j 10) A) 0 0 A := by
  refine Met.ofW (cc := cX1_sumNeeds) (maxL := 2) (ret := none) (by decide) rfl ?_
  intro pg en s mt args below meth c s₁ B hml hv
  obtain ⟨rfl, hH, hE⟩ := hv
  subst hH
  have hx := B.exec
  have hb := B.bytes
  have hr := B.returns
  have hts := atoms_spec (ws := wsX1_sumNeeds) B.pre
  have hown : s.vm.findClass RX1 = some mt.cls := findClass_of_methodNamed B.named
  have hlocks := B.notSynchronized
  have hinX1 : ∀ w ∈ u_ws RX1 TX1 9, w ∈ wsX1_sumNeeds := by decide +kernel
  have hS : va_S A s.heap s.heap [] := va_S.rf
  have hl := lv_entry ([.ref (ad 0)]) (n := 2) (Nat.le_of_ble_eq_true rfl)
  rw [lg_entry_eq]
  generalize (lg_sl ([.ref (ad 0)]) ++ List.replicate (2 - (lg_sl ([.ref (ad 0)])).length) Slot.unset).toArray = ls at hl ⊢
  have hl : lv_has ls 2 [(0, .ref (ad 0))] := hl
  refine zi_const hx hb dX1_sumNeeds_0 ?_
  refine lv_istore_n (lv' := [(1, .int (iI (0))), (0, .ref (ad 0))]) hx hb dX1_sumNeeds_1 rfl hl (by decide) rfl (fun ls hl => ?_)
  have loop_2 : ∀ (n : Nat) (i : Nat) (yb : Nat → Nat → Int) (H : Heap) (locs : List Loc) (ls : Array Slot), 1000 - i < n → (i ≤ 1000) → (∀ r, r ≠ 2 → yb r = ya r) → (∀ j : Nat, j < i → yb 2 j = nY pr j 10) → zW D A ad (yE cy ad yb yi pr) H → va_S A s.heap H locs → lv_has ls 2 [(1, .int (iI ((i : Int)))), (0, .ref (ad 0))] → W pg l en (headSpec wsX1_sumNeeds ({ frames := 2, cells := 0, slots := 0, locals := 47 })).room s mt ([.ref (ad 0)] : List Value).toArray below meth c H locs 0 0 (MQ below (zQv (fun H1 => ∃ yb, zW D A ad (yE cy ad yb yi pr) H1 ∧ (∀ r, r ≠ 2 → yb r = ya r) ∧ ∀ j : Nat, j < 1000 → yb 2 j = nY pr j 10) A) ([.ref (ad 0)] : List Value).toArray s 0 0 A) (F0 mt 2 ls []) := by
    intro n
    induction n with
    | zero =>
      intro i yb H locs ls hm hi hr9 hgs
      exfalso; omega
    | succ n ih =>
      intro i yb H locs ls hm hi hr9 hgs hw hS hl
      refine lv_iload_n hx hb dX1_sumNeeds_2 rfl (lv_at hl 0 rfl) ?_
      refine zi_sipush hx hb dX1_sumNeeds_3 (by decide) ?_
      refine zc_ge (tgt := 26) hx hb dX1_sumNeeds_6 (by decide) (by first | decide | (constructor <;> omega)) (by first | decide | (constructor <;> omega)) (fun c_6 => ?_) (fun c_6 => ?_)
      · refine zvret hx hb hr hlocks hS (Nat.le_of_ble_eq_true rfl) (Nat.le_of_ble_eq_true rfl) ?_ dX1_sumNeeds_26
        exact ⟨_, hw, hr9, fun n hn => hgs n (by omega)⟩
      · refine lv_aload_n hx hb dX1_sumNeeds_9 rfl (lv_at hl 1 rfl) ?_
        refine zget (C := RX1) (T := TX1) (N := 9) hx hb hts hinX1 hown hE hw 0 yE_0 rfl 2 (by decide) (hts (.fieldLink RX1 16 "FormworkYard" "needs" "[I") (by decide +kernel)) rfl dX1_sumNeeds_10 ?_
        refine lv_iload_n hx hb dX1_sumNeeds_13 rfl (lv_at hl 0 rfl) ?_
        refine lv_aload_n hx hb dX1_sumNeeds_14 rfl (lv_at hl 1 rfl) ?_
        refine lv_iload_n hx hb dX1_sumNeeds_15 rfl (lv_at hl 0 rfl) ?_
        refine zcalli (va_runV (As := [.int (iI ((i : Int)))]) (rest := [.int (iI ((i : Int))), .ref (ad 3)]) ⟨hx, hb, hml, hown, hts⟩ (c_X1_needIn l D cy A ad yb yi pr _ ((i : Int)) hw (by first | decide | (constructor <;> omega)) ha) (cwV 1 hts gX1_sumNeeds_X1_needIn rfl rfl rfl (by decide +kernel) ⟨(Nat.le_of_ble_eq_true rfl), (Nat.le_of_ble_eq_true rfl)⟩) (zPV hE hS hw (ci := 1) (k0 := 0) rfl yE_0) rfl rfl hl.1 rfl (lv_room (Nat.le_of_ble_eq_true rfl)) dX1_sumNeeds_16 ⟨(Nat.le_of_ble_eq_true rfl), (Nat.le_of_ble_eq_true rfl)⟩) hS (fun z_16 H1 locs hz_16 hq hz1 hk1 hS => ?_)
        obtain ⟨hqe, hv_16⟩ := hq
        replace hqe := hqe.symm
        subst hqe
        refine ziast hx hb hE hS hw 3 yE_3 i rfl (by omega) (by omega) dX1_sumNeeds_19 (fun H locs hw hS => ?_)
        have hw := hw.cong (yU_a 2 (by decide) (i) (z_16) rfl)
        obtain ⟨ya_1, hya_1⟩ : ∃ z : Nat → Nat → Int, z = va_up yb 2 (va_up (yb 2) (i) (z_16)) := ⟨_, rfl⟩
        rw [← hya_1] at hw
        refine zi_iinc (lv' := [(1, .int (iI ((i : Int) + 1))), (0, .ref (ad 0))]) hx hb dX1_sumNeeds_20 hl (k := 0) rfl (by decide) rfl (fun ls hl => ?_)
        refine lv_goto (tgt := 2) hx hb dX1_sumNeeds_23 (by decide) ?_
        have hY := rU_s (k := 2) (p := i) rU_r hya_1
        exact ih (i + 1) ya_1 _ _ _ (by omega) (by omega) (fun r hr => (rU_row hY.1 hr).trans (hr9 r hr)) (fun j hj => by by_cases hji : j = i; (subst hji; rw [hY.2, hv_16]); rw [hY.1 2 j (Or.inr hji)]; exact hgs j (by omega)) hw hS (lv_sub hl [0, 1] rfl)
  exact loop_2 1001 0 ya _ _ _ (by omega) (by omega) (fun _ _ => rfl) (fun j hj => absurd hj (Nat.not_lt_zero j)) hw hS (lv_sub hl [0, 1] rfl)

set_option maxHeartbeats 4000000 in
set_option maxRecDepth 100000 in
theorem c_X1_freeNumber (l : Launch) (D : va_G) (cy : Nat → ClassId) (A : Nat → Prop) (ad : Nat → Nat) (ya : Nat → Nat → Int) (yi : Nat → Int) (pr : Nat → Option PS) (H0 : Heap) (hw : zW D A ad (yE cy ad ya yi pr) H0) : Met l yX1_freeNumber wsX1_freeNumber ({ frames := 0, cells := 0, slots := 0, locals := 0 }) (zPc D cy A [.ref (ad 0)] H0) (zQi (fun z H1 => H1 = H0 ∧ ∃ n : Nat, z = (if n < 10 then (n : Int) else -1) ∧ n ≤ 10 ∧ (∀ j, j < n → pr j ≠ none) ∧ (n < 10 → pr n = none)) A) 0 0 A := by
  refine Met.ofW (cc := cX1_freeNumber) (maxL := 2) (ret := (some .int)) (by decide) rfl ?_
  intro pg en s mt args below meth c s₁ B hml hv
  obtain ⟨rfl, hH, hE⟩ := hv
  subst hH
  have hx := B.exec
  have hb := B.bytes
  have hr := B.returns
  have hts := atoms_spec (ws := wsX1_freeNumber) B.pre
  have hown : s.vm.findClass RX1 = some mt.cls := findClass_of_methodNamed B.named
  have hlocks := B.notSynchronized
  have hinX1 : ∀ w ∈ u_ws RX1 TX1 9, w ∈ wsX1_freeNumber := by decide +kernel
  have hS : va_S A s.heap s.heap [] := va_S.rf
  have hl := lv_entry ([.ref (ad 0)]) (n := 2) (Nat.le_of_ble_eq_true rfl)
  rw [lg_entry_eq]
  generalize (lg_sl ([.ref (ad 0)]) ++ List.replicate (2 - (lg_sl ([.ref (ad 0)])).length) Slot.unset).toArray = ls at hl ⊢
  have hl : lv_has ls 2 [(0, .ref (ad 0))] := hl
  refine zi_const hx hb dX1_freeNumber_0 ?_
  refine lv_istore_n (lv' := [(1, .int (iI (0))), (0, .ref (ad 0))]) hx hb dX1_freeNumber_1 rfl hl (by decide) rfl (fun ls hl => ?_)
  have loop_2 : ∀ (n : Nat) (i : Nat) (locs : List Loc) (ls : Array Slot), 10 - i < n → (i ≤ 10) → (∀ j, j < i → pr j ≠ none) → va_S A s.heap s.heap locs → lv_has ls 2 [(1, .int (iI ((i : Int)))), (0, .ref (ad 0))] → W pg l en (headSpec wsX1_freeNumber ({ frames := 0, cells := 0, slots := 0, locals := 0 })).room s mt ([.ref (ad 0)] : List Value).toArray below meth c s.heap locs 0 0 (MQ below (zQi (fun z H1 => H1 = s.heap ∧ ∃ n : Nat, z = (if n < 10 then (n : Int) else -1) ∧ n ≤ 10 ∧ (∀ j, j < n → pr j ≠ none) ∧ (n < 10 → pr n = none)) A) ([.ref (ad 0)] : List Value).toArray s 0 0 A) (F0 mt 2 ls []) := by
    intro n
    induction n with
    | zero =>
      intro i locs ls hm hi hk
      exfalso; omega
    | succ n ih =>
      intro i locs ls hm hi hk hS hl
      refine lv_iload_n hx hb dX1_freeNumber_2 rfl (lv_at hl 0 rfl) ?_
      refine zi_bipush hx hb dX1_freeNumber_3 (by decide) ?_
      refine zc_ge (tgt := 25) hx hb dX1_freeNumber_5 (by decide) (by first | decide | (constructor <;> omega)) (by first | decide | (constructor <;> omega)) (fun c_5 => ?_) (fun c_5 => ?_)
      · refine zi_const hx hb dX1_freeNumber_25 ?_
        refine ziret hx hb hr hlocks hS (Nat.le_of_ble_eq_true rfl) (Nat.le_of_ble_eq_true rfl) (by first | decide | (constructor <;> omega)) ?_ dX1_freeNumber_26
        exact ⟨rfl, i, by rw [if_neg (by omega)], by omega, hk, fun h => absurd h (by omega)⟩
      · refine lv_aload_n hx hb dX1_freeNumber_8 rfl (lv_at hl 1 rfl) ?_
        refine zget (C := RX1) (T := TX1) (N := 9) hx hb hts hinX1 hown hE hw 0 yE_0 rfl 4 (by decide) (hts (.fieldLink RX1 24 "FormworkYard" "pourList" "[LFormworkYard$Pour;") (by decide +kernel)) rfl dX1_freeNumber_9 ?_
        refine lv_iload_n hx hb dX1_freeNumber_12 rfl (lv_at hl 0 rfl) ?_
        refine zaald hx hb hE hw 5 yE_5 i rfl (by omega) (by omega) dX1_freeNumber_13 ?_
        rcases hp_13 : pr i with _ | p_13
        · rw [yR_0 hp_13]
          refine lv_ifnonnullN hx hb dX1_freeNumber_14 ?_
          refine lv_iload_n hx hb dX1_freeNumber_17 rfl (lv_at hl 0 rfl) ?_
          refine ziret hx hb hr hlocks hS (Nat.le_of_ble_eq_true rfl) (Nat.le_of_ble_eq_true rfl) (by first | decide | (constructor <;> omega)) ?_ dX1_freeNumber_18
          exact ⟨rfl, i, by rw [if_pos (by omega)], by omega, hk, fun _ => hp_13⟩
        · rw [yR_1 hp_13]
          refine lv_ifnonnull (tgt := 19) hx hb dX1_freeNumber_14 (by decide) ?_
          refine zi_iinc (lv' := [(1, .int (iI ((i : Int) + 1))), (0, .ref (ad 0))]) hx hb dX1_freeNumber_19 hl (k := 0) rfl (by decide) rfl (fun ls hl => ?_)
          refine lv_goto (tgt := 2) hx hb dX1_freeNumber_22 (by decide) ?_
          exact ih (i + 1) _ _ (by omega) (by omega) (fun j hj => by by_cases hji : j = i; (subst hji; rw [hp_13]; exact fun h => nomatch h); exact hk j (by omega)) hS (lv_sub hl [0, 1] rfl)
  exact loop_2 11 0 _ _ (by omega) (by omega) (fun j hj => absurd hj (Nat.not_lt_zero j)) hS (lv_sub hl [0, 1] rfl)
end
section
theorem zrf (a : Nat) : va_rf (some a) = .ref a := rfl
theorem zrn : va_rf none = .null := rfl
theorem up_self {α : Type} {f : Nat → α} {k : Nat} {v : α} (h : f k = v) : va_up f k v = f := by
  funext j
  unfold va_up
  split
  · rename_i hj
    rw [hj, h]
  · rfl
/-- the maturity of a break, in the yard's words -/
def cyB (yi : Nat → Int) (p : PS) (k : Nat) : Int := p.1 3 + p.2.1 k / yi 6 + sl p.2.2.1 k
def cyF (T : Nat → Int) (yi : Nat → Int) (p : PS) (k : Nat) : Int := if 90 ≤ mat T (cyB yi p k) (cyB yi p k + p.2.2.1 k) then 1 else 0
/-- how many are there -/
def cntY (pr : Nat → Option PS) : Nat → Int
  | 0 => 0
  | i + 1 => cntY pr i + (match pr i with
    | none => 0
    | some _ => 1)
theorem cntY_n {pr : Nat → Option PS} {i : Nat} (hp : pr i = none) : cntY pr (i + 1) = cntY pr i := by
  simp only [cntY, hp]
  omega
theorem cntY_s {pr : Nat → Option PS} {i : Nat} {p : PS} (hp : pr i = some p) : cntY pr (i + 1) = cntY pr i + 1 := by
  simp only [cntY, hp]
theorem cntY_b {pr : Nat → Option PS} : ∀ n, 0 ≤ cntY pr n ∧ cntY pr n ≤ n
  | 0 => by simp [cntY]
  | n + 1 => by
    have h := cntY_b (pr := pr) n
    cases hp : pr n with
    | none => rw [cntY_n hp]; omega
    | some p => rw [cntY_s hp]; omega
/-- the greatest need where panels of some pour begin to stand -/
def ovY (pr : Nat → Option PS) : Nat → Int
  | 0 => 0
  | i + 1 => (match pr i with
    | none => ovY pr i
    | some p => max (ovY pr i) (nY pr (p.1 9) 10))
theorem ovY_n {pr : Nat → Option PS} {i : Nat} (hp : pr i = none) : ovY pr (i + 1) = ovY pr i := by
  simp only [ovY, hp]
theorem ovY_s {pr : Nat → Option PS} {i : Nat} {p : PS} (hp : pr i = some p) : ovY pr (i + 1) = max (ovY pr i) (nY pr (p.1 9) 10) := by
  simp only [ovY, hp]
theorem ovY_b {pr : Nat → Option PS} (ha : pA pr) : ∀ n, 0 ≤ ovY pr n ∧ ovY pr n ≤ 300
  | 0 => by simp [ovY]
  | n + 1 => by
    have h := ovY_b ha n
    cases hp : pr n with
    | none => rw [ovY_n hp]; exact h
    | some p =>
      rw [ovY_s hp]
      have h2 := nY_b (h := p.1 9) ha (n := 10) (Nat.le_refl _)
      omega
def setT_a (T : Nat → Int) (a t : Int) : setT T a (a - 1) t = T := by
  funext j
  unfold setT
  rw [if_neg (by omega)]
theorem setT_s (T : Nat → Int) (a h t : Int) (h0 : 0 ≤ a) (h1 : a ≤ h) : va_up (setT T a (h - 1) t) h.toNat t = setT T a h t := by
  funext j
  unfold setT va_up
  by_cases hj : j = h.toNat
  · rw [if_pos hj, if_pos (by omega)]
  · rw [if_neg hj]
    show (if a ≤ (j : Int) ∧ (j : Int) ≤ h - 1 then t else T j) = (if a ≤ (j : Int) ∧ (j : Int) ≤ h then t else T j)
    by_cases h2 : a ≤ (j : Int) ∧ (j : Int) ≤ h
    · rw [if_pos (by omega), if_pos h2]
    · rw [if_neg (by omega), if_neg h2]
theorem setT_ok {T : Nat → Int} (ht : tOK T) {a b t : Int} (h1 : -40 ≤ t) (h2 : t ≤ 50) : tOK (setT T a b t) := by
  intro j hj
  unfold setT
  split
  · exact ⟨h1, h2⟩
  · exact ht j hj
def adR (part hours : Int) (p q : PS) : Prop := q.1 = va_up p.1 4 (p.1 4 + 1) ∧ (∀ j : Nat, (j : Int) ≤ p.1 4 → q.2.1 j = ins p.2.1 (ipos p.2.1 part (p.1 4).toNat) part j ∧ q.2.2.1 j = ins p.2.2.1 (ipos p.2.1 part (p.1 4).toNat) hours j) ∧ q.2.2.2 = p.2.2.2
def feY (T : Nat → Int) (yi : Nat → Int) (N : Int → Int) (vol many str st : Int) : Prop := ∀ h : Int, standS (yi 7) st ≤ h → h < freeS (yi 8) (strikeS T str (st + (vol + yi 6 - 1) / yi 6)) → h < 1000 → N h + many ≤ yi 5
theorem fnd_iff (P : Int → Prop) [DecidablePred P] {lo hi : Int} (h0 : lo ≤ 1000) : min 1000 hi ≤ fnd P lo (1000 - lo).toNat ∨ (hi ≤ lo) ↔ ∀ x, lo ≤ x → x < hi → x < 1000 → ¬ P x := by
  obtain ⟨h1, h2, h3, h4⟩ := fnd_b P (1000 - lo).toNat lo
  constructor
  · rintro (h | h) x a b d
    · exact h4 x a (by omega)
    · omega
  · intro h
    by_cases hl : hi ≤ lo
    · exact Or.inr hl
    · left
      rcases Int.lt_or_le (fnd P lo (1000 - lo).toNat) (min 1000 hi) with q | q
      · exact absurd (h3 (by omega)) (h _ h1 (by omega) (by omega))
      · exact q
theorem zW.sub {D : va_G} {A : Nat → Prop} {ad : Nat → Nat} {e e2 : Nat → Option va_E} {H : Heap} (h : zW D A ad e H) (he : ∀ k v, e2 k = some v → e k = some v) : zW D A ad e2 H := ⟨fun k v hk => h.1 k v (he k v hk), fun i j v w hi hj => h.2 i j v w (he i v hi) (he j w hj)⟩
theorem yR_up0 {ad : Nat → Nat} {pr : Nat → Option PS} {i : Nat} : yR ad (va_up pr i none) = va_up (yR ad pr) i none := by
  funext j
  unfold yR va_up
  by_cases h : j = i
  · simp [h]
  · simp [h]
theorem yU_c {D : va_G} {A : Nat → Prop} {cy : Nat → ClassId} {ad : Nat → Nat} {ya : Nat → Nat → Int} {yi : Nat → Int} {pr : Nat → Option PS} {H : Heap} {i : Nat} (h : zW D A ad (va_up (yE cy ad ya yi pr) 5 (some (.inl (cy 2, 10, .inr (.inr (.inr (.inr (va_up (yR ad pr) i none)))))))) H) : zW D A ad (yE cy ad ya yi (va_up pr i none)) H := by
  refine h.sub (fun k v hk => ?_)
  by_cases h5 : k = 5
  · subst h5
    rw [up_same]
    rw [yE_5, yR_up0] at hk
    exact hk
  · rw [up_ne _ _ h5]
    by_cases hl : 10 ≤ k ∧ k < 43
    · rw [yE_hi hl.1 hl.2] at hk ⊢
      by_cases hq : (k - 10) / 3 = i
      · rw [hq, up_same] at hk
        cases hk
      · rw [up_ne _ _ hq] at hk
        exact hk
    · by_cases h10 : k < 10
      · unfold yE at hk ⊢
        simp only [h5, h10, if_false, if_true] at hk ⊢
        exact hk
      · unfold yE at hk
        have h40 : ¬ k < 43 := by omega
        simp only [h5, h10, h40, if_false] at hk
        repeat' split at hk
        all_goals first | omega | cases hk
def earY (T : Nat → Int) (yi : Nat → Int) (N : Int → Int) (fr vol many str z : Int) : Prop := (fr ≤ z ∧ z ≤ 900 ∧ feY T yi N vol many str z ∧ ∀ s, fr ≤ s → s < z → ¬ feY T yi N vol many str s) ∨ (z = -1 ∧ ∀ s, fr ≤ s → s ≤ 900 → ¬ feY T yi N vol many str s)
end
section
set_option maxHeartbeats 4000000 in
set_option maxRecDepth 100000 in
theorem c_X1_requireHour_ok (l : Launch) (D : va_G) (cy : Nat → ClassId) (A : Nat → Prop) (ad : Nat → Nat) (H0 : Heap) (h : Int) (h1 : 0 ≤ h ∧ h < 1000) : Met l yX1_requireHour wsX1_requireHour ({ frames := 1, cells := 0, slots := 0, locals := 20 }) (zPc D cy A [.int (iI (h))] H0) (zQv (fun H1 => H1 = H0) A) 0 0 A := by
  refine Met.ofW (cc := cX1_requireHour) (maxL := 1) (ret := none) (by decide) rfl ?_
  intro pg en s mt args below meth c s₁ B hml hv
  obtain ⟨rfl, hH, hE⟩ := hv
  subst hH
  have hx := B.exec
  have hb := B.bytes
  have hr := B.returns
  have hts := atoms_spec (ws := wsX1_requireHour) B.pre
  have hown : s.vm.findClass RX1 = some mt.cls := findClass_of_methodNamed B.named
  have hlocks := B.notSynchronized
  have hS : va_S A s.heap s.heap [] := va_S.rf
  have hl := lv_entry ([.int (iI (h))]) (n := 1) (Nat.le_of_ble_eq_true rfl)
  rw [lg_entry_eq]
  generalize (lg_sl ([.int (iI (h))]) ++ List.replicate (1 - (lg_sl ([.int (iI (h))])).length) Slot.unset).toArray = ls at hl ⊢
  have hl : lv_has ls 1 [(0, .int (iI (h)))] := hl
  refine lv_iload_n hx hb dX1_requireHour_0 rfl (lv_at hl 0 rfl) ?_
  refine zcalli (va_runS (As := [.int (iI (h))]) (rest := []) ⟨hx, hb, hml, hown, hts⟩ (c_X1_isHour l D cy A ad _ (h) (by first | decide | (constructor <;> omega))) (va_cwS 1 hts gX1_requireHour_X1_isHour rfl rfl rfl (by decide +kernel) ⟨(Nat.le_of_ble_eq_true rfl), (Nat.le_of_ble_eq_true rfl)⟩) (zPS hE hS) rfl rfl hl.1 rfl (lv_room (Nat.le_of_ble_eq_true rfl)) dX1_requireHour_1 ⟨(Nat.le_of_ble_eq_true rfl), (Nat.le_of_ble_eq_true rfl)⟩) hS (fun z_1 H1 locs hz_1 hq hz1 hk1 hS => ?_)
  obtain ⟨hqe, hv_1⟩ := hq
  replace hqe := hqe.symm
  subst hqe
  refine zf_ne (tgt := 15) hx hb dX1_requireHour_4 (by decide) (by first | decide | (constructor <;> omega)) (fun c_4 => ?_) (fun c_4 => ?_)
  · refine zvret hx hb hr hlocks hS (Nat.le_of_ble_eq_true rfl) (Nat.le_of_ble_eq_true rfl) ?_ dX1_requireHour_15
    rfl
  · exfalso; omega

set_option maxHeartbeats 4000000 in
set_option maxRecDepth 100000 in
theorem c_X1_require_ok (l : Launch) (D : va_G) (cy : Nat → ClassId) (A : Nat → Prop) (ad : Nat → Nat) (H0 : Heap) (h : Int) (h1 : h = 1) : Met l yX1_require wsX1_require ({ frames := 0, cells := 0, slots := 0, locals := 0 }) (zPc D cy A [.int (iI (h))] H0) (zQv (fun H1 => H1 = H0) A) 0 0 A := by
  refine Met.ofW (cc := cX1_require) (maxL := 1) (ret := none) (by decide) rfl ?_
  intro pg en s mt args below meth c s₁ B hml hv
  obtain ⟨rfl, hH, hE⟩ := hv
  subst hH
  have hx := B.exec
  have hb := B.bytes
  have hr := B.returns
  have hts := atoms_spec (ws := wsX1_require) B.pre
  have hown : s.vm.findClass RX1 = some mt.cls := findClass_of_methodNamed B.named
  have hlocks := B.notSynchronized
  have hS : va_S A s.heap s.heap [] := va_S.rf
  have hl := lv_entry ([.int (iI (h))]) (n := 1) (Nat.le_of_ble_eq_true rfl)
  rw [lg_entry_eq]
  generalize (lg_sl ([.int (iI (h))]) ++ List.replicate (1 - (lg_sl ([.int (iI (h))])).length) Slot.unset).toArray = ls at hl ⊢
  have hl : lv_has ls 1 [(0, .int (iI (h)))] := hl
  refine lv_iload_n hx hb dX1_require_0 rfl (lv_at hl 0 rfl) ?_
  refine zf_ne (tgt := 12) hx hb dX1_require_1 (by decide) (by first | decide | (constructor <;> omega)) (fun c_1 => ?_) (fun c_1 => ?_)
  · refine zvret hx hb hr hlocks hS (Nat.le_of_ble_eq_true rfl) (Nat.le_of_ble_eq_true rfl) ?_ dX1_require_12
    rfl
  · exfalso; omega

set_option maxHeartbeats 4000000 in
set_option maxRecDepth 100000 in
theorem c_X1_requireRange_ok (l : Launch) (D : va_G) (cy : Nat → ClassId) (A : Nat → Prop) (ad : Nat → Nat) (H0 : Heap) (v a b : Int) (h1 : a ≤ v ∧ v ≤ b) (h2 : zr a) (h3 : zr b) : Met l yX1_requireRange wsX1_requireRange ({ frames := 1, cells := 0, slots := 0, locals := 20 }) (zPc D cy A [.int (iI (v)), .int (iI (a)), .int (iI (b))] H0) (zQv (fun H1 => H1 = H0) A) 0 0 A := by
  refine Met.ofW (cc := cX1_requireRange) (maxL := 3) (ret := none) (by decide) rfl ?_
  intro pg en s mt args below meth c s₁ B hml hv
  obtain ⟨rfl, hH, hE⟩ := hv
  subst hH
  have hx := B.exec
  have hb := B.bytes
  have hr := B.returns
  have hts := atoms_spec (ws := wsX1_requireRange) B.pre
  have hown : s.vm.findClass RX1 = some mt.cls := findClass_of_methodNamed B.named
  have hlocks := B.notSynchronized
  have hS : va_S A s.heap s.heap [] := va_S.rf
  have hl := lv_entry ([.int (iI (v)), .int (iI (a)), .int (iI (b))]) (n := 3) (Nat.le_of_ble_eq_true rfl)
  rw [lg_entry_eq]
  generalize (lg_sl ([.int (iI (v)), .int (iI (a)), .int (iI (b))]) ++ List.replicate (3 - (lg_sl ([.int (iI (v)), .int (iI (a)), .int (iI (b))])).length) Slot.unset).toArray = ls at hl ⊢
  have hl : lv_has ls 3 [(0, .int (iI (v))), (1, .int (iI (a))), (2, .int (iI (b)))] := hl
  refine lv_iload_n hx hb dX1_requireRange_0 rfl (lv_at hl 0 rfl) ?_
  refine lv_iload_n hx hb dX1_requireRange_1 rfl (lv_at hl 1 rfl) ?_
  refine zc_lt (tgt := 14) hx hb dX1_requireRange_2 (by decide) (by first | decide | (constructor <;> omega)) (by first | decide | (constructor <;> omega)) (fun c_2 => ?_) (fun c_2 => ?_)
  · exfalso; omega
  · refine lv_iload_n hx hb dX1_requireRange_5 rfl (lv_at hl 0 rfl) ?_
    refine lv_iload_n hx hb dX1_requireRange_6 rfl (lv_at hl 2 rfl) ?_
    refine zc_gt (tgt := 14) hx hb dX1_requireRange_7 (by decide) (by first | decide | (constructor <;> omega)) (by first | decide | (constructor <;> omega)) (fun c_7 => ?_) (fun c_7 => ?_)
    · exfalso; omega
    · refine zi_const hx hb dX1_requireRange_10 ?_
      refine lv_goto (tgt := 15) hx hb dX1_requireRange_11 (by decide) ?_
      refine zcallv (va_runS (As := [.int (iI (1))]) (rest := []) ⟨hx, hb, hml, hown, hts⟩ (c_X1_require_ok l D cy A ad _ (1) (by omega)) (va_cwS 1 hts gX1_requireRange_X1_require rfl rfl rfl (by decide +kernel) ⟨(Nat.le_of_ble_eq_true rfl), (Nat.le_of_ble_eq_true rfl)⟩) (zPS hE hS) rfl rfl hl.1 rfl (lv_room (Nat.le_of_ble_eq_true rfl)) dX1_requireRange_15 ⟨(Nat.le_of_ble_eq_true rfl), (Nat.le_of_ble_eq_true rfl)⟩) hS (fun H1 locs hq hz1 hk1 hS => ?_)
      replace hq := hq.symm
      subst hq
      refine zvret hx hb hr hlocks hS (Nat.le_of_ble_eq_true rfl) (Nat.le_of_ble_eq_true rfl) ?_ dX1_requireRange_18
      rfl

set_option maxHeartbeats 4000000 in
set_option maxRecDepth 100000 in
theorem c_X1_requirePour_ok (l : Launch) (D : va_G) (cy : Nat → ClassId) (A : Nat → Prop) (ad : Nat → Nat) (H0 : Heap) (a b d f : Int) (h1 : plOK a b d f) : Met l yX1_requirePour wsX1_requirePour ({ frames := 2, cells := 0, slots := 0, locals := 42 }) (zPc D cy A [.int (iI (a)), .int (iI (b)), .int (iI (d)), .int (iI (f))] H0) (zQv (fun H1 => H1 = H0) A) 0 0 A := by
  refine Met.ofW (cc := cX1_requirePour) (maxL := 4) (ret := none) (by decide) rfl ?_
  intro pg en s mt args below meth c s₁ B hml hv
  obtain ⟨rfl, hH, hE⟩ := hv
  subst hH
  have hx := B.exec
  have hb := B.bytes
  have hr := B.returns
  have hts := atoms_spec (ws := wsX1_requirePour) B.pre
  have hown : s.vm.findClass RX1 = some mt.cls := findClass_of_methodNamed B.named
  have hlocks := B.notSynchronized
  have hS : va_S A s.heap s.heap [] := va_S.rf
  have hl := lv_entry ([.int (iI (a)), .int (iI (b)), .int (iI (d)), .int (iI (f))]) (n := 4) (Nat.le_of_ble_eq_true rfl)
  rw [lg_entry_eq]
  generalize (lg_sl ([.int (iI (a)), .int (iI (b)), .int (iI (d)), .int (iI (f))]) ++ List.replicate (4 - (lg_sl ([.int (iI (a)), .int (iI (b)), .int (iI (d)), .int (iI (f))])).length) Slot.unset).toArray = ls at hl ⊢
  have hl : lv_has ls 4 [(0, .int (iI (a))), (1, .int (iI (b))), (2, .int (iI (d))), (3, .int (iI (f)))] := hl
  unfold plOK at h1
  refine lv_iload_n hx hb dX1_requirePour_0 rfl (lv_at hl 0 rfl) ?_
  refine zi_const hx hb dX1_requirePour_1 ?_
  refine zi_sipush hx hb dX1_requirePour_2 (by decide) ?_
  refine zcallv (va_runS (As := [.int (iI (a)), .int (iI (0)), .int (iI (900))]) (rest := []) ⟨hx, hb, hml, hown, hts⟩ (c_X1_requireRange_ok l D cy A ad _ (a) (0) (900) (by omega) (by first | decide | (constructor <;> omega)) (by first | decide | (constructor <;> omega))) (va_cwS 3 hts gX1_requirePour_X1_requireRange rfl rfl rfl (by decide +kernel) ⟨(Nat.le_of_ble_eq_true rfl), (Nat.le_of_ble_eq_true rfl)⟩) (zPS hE hS) rfl rfl hl.1 rfl (lv_room (Nat.le_of_ble_eq_true rfl)) dX1_requirePour_5 ⟨(Nat.le_of_ble_eq_true rfl), (Nat.le_of_ble_eq_true rfl)⟩) hS (fun H1 locs hq hz1 hk1 hS => ?_)
  replace hq := hq.symm
  subst hq
  refine lv_iload_n hx hb dX1_requirePour_8 rfl (lv_at hl 1 rfl) ?_
  refine zi_const hx hb dX1_requirePour_9 ?_
  refine zi_sipush hx hb dX1_requirePour_10 (by decide) ?_
  refine zcallv (va_runS (As := [.int (iI (b)), .int (iI (1)), .int (iI (200))]) (rest := []) ⟨hx, hb, hml, hown, hts⟩ (c_X1_requireRange_ok l D cy A ad _ (b) (1) (200) (by omega) (by first | decide | (constructor <;> omega)) (by first | decide | (constructor <;> omega))) (va_cwS 3 hts gX1_requirePour_X1_requireRange rfl rfl rfl (by decide +kernel) ⟨(Nat.le_of_ble_eq_true rfl), (Nat.le_of_ble_eq_true rfl)⟩) (zPS hE hS) rfl rfl hl.1 rfl (lv_room (Nat.le_of_ble_eq_true rfl)) dX1_requirePour_13 ⟨(Nat.le_of_ble_eq_true rfl), (Nat.le_of_ble_eq_true rfl)⟩) hS (fun H1 locs hq hz1 hk1 hS => ?_)
  replace hq := hq.symm
  subst hq
  refine lv_iload_n hx hb dX1_requirePour_16 rfl (lv_at hl 2 rfl) ?_
  refine zi_const hx hb dX1_requirePour_17 ?_
  refine zi_bipush hx hb dX1_requirePour_18 (by decide) ?_
  refine zcallv (va_runS (As := [.int (iI (d)), .int (iI (1)), .int (iI (30))]) (rest := []) ⟨hx, hb, hml, hown, hts⟩ (c_X1_requireRange_ok l D cy A ad _ (d) (1) (30) (by omega) (by first | decide | (constructor <;> omega)) (by first | decide | (constructor <;> omega))) (va_cwS 3 hts gX1_requirePour_X1_requireRange rfl rfl rfl (by decide +kernel) ⟨(Nat.le_of_ble_eq_true rfl), (Nat.le_of_ble_eq_true rfl)⟩) (zPS hE hS) rfl rfl hl.1 rfl (lv_room (Nat.le_of_ble_eq_true rfl)) dX1_requirePour_20 ⟨(Nat.le_of_ble_eq_true rfl), (Nat.le_of_ble_eq_true rfl)⟩) hS (fun H1 locs hq hz1 hk1 hS => ?_)
  replace hq := hq.symm
  subst hq
  refine lv_iload_n hx hb dX1_requirePour_23 rfl (lv_at hl 3 rfl) ?_
  refine zi_const hx hb dX1_requirePour_24 ?_
  refine zi_bipush hx hb dX1_requirePour_25 (by decide) ?_
  refine zcallv (va_runS (As := [.int (iI (f)), .int (iI (1)), .int (iI (100))]) (rest := []) ⟨hx, hb, hml, hown, hts⟩ (c_X1_requireRange_ok l D cy A ad _ (f) (1) (100) (by omega) (by first | decide | (constructor <;> omega)) (by first | decide | (constructor <;> omega))) (va_cwS 3 hts gX1_requirePour_X1_requireRange rfl rfl rfl (by decide +kernel) ⟨(Nat.le_of_ble_eq_true rfl), (Nat.le_of_ble_eq_true rfl)⟩) (zPS hE hS) rfl rfl hl.1 rfl (lv_room (Nat.le_of_ble_eq_true rfl)) dX1_requirePour_27 ⟨(Nat.le_of_ble_eq_true rfl), (Nat.le_of_ble_eq_true rfl)⟩) hS (fun H1 locs hq hz1 hk1 hS => ?_)
  replace hq := hq.symm
  subst hq
  refine zvret hx hb hr hlocks hS (Nat.le_of_ble_eq_true rfl) (Nat.le_of_ble_eq_true rfl) ?_ dX1_requirePour_30
  rfl

set_option maxHeartbeats 4000000 in
set_option maxRecDepth 100000 in
theorem c_X1_existing_ok (l : Launch) (D : va_G) (cy : Nat → ClassId) (A : Nat → Prop) (ad : Nat → Nat) (ya : Nat → Nat → Int) (yi : Nat → Int) (pr : Nat → Option PS) (H0 : Heap) (i : Nat) (p0 : PS) (hw : zW D A ad (yE cy ad ya yi pr) H0) (hi : i < 10) (hp0 : pr i = some p0) : Met l yX1_existing wsX1_existing ({ frames := 1, cells := 0, slots := 0, locals := 20 }) (zPc D cy A [.ref (ad 0), .int (iI ((i : Int)))] H0) (zQq (fun z H1 => H1 = H0 ∧ z = some (ad (10 + 3 * i))) A) 0 0 A := by
  refine Met.ofW (cc := cX1_existing) (maxL := 3) (ret := (some (.object "FormworkYard$Pour"))) (by decide) rfl ?_
  intro pg en s mt args below meth c s₁ B hml hv
  obtain ⟨rfl, hH, hE⟩ := hv
  subst hH
  have hx := B.exec
  have hb := B.bytes
  have hr := B.returns
  have hts := atoms_spec (ws := wsX1_existing) B.pre
  have hown : s.vm.findClass RX1 = some mt.cls := findClass_of_methodNamed B.named
  have hlocks := B.notSynchronized
  have hinX1 : ∀ w ∈ u_ws RX1 TX1 9, w ∈ wsX1_existing := by decide +kernel
  have hS : va_S A s.heap s.heap [] := va_S.rf
  have hl := lv_entry ([.ref (ad 0), .int (iI ((i : Int)))]) (n := 3) (Nat.le_of_ble_eq_true rfl)
  rw [lg_entry_eq]
  generalize (lg_sl ([.ref (ad 0), .int (iI ((i : Int)))]) ++ List.replicate (3 - (lg_sl ([.ref (ad 0), .int (iI ((i : Int)))])).length) Slot.unset).toArray = ls at hl ⊢
  have hl : lv_has ls 3 [(0, .ref (ad 0)), (1, .int (iI ((i : Int))))] := hl
  refine lv_iload_n hx hb dX1_existing_0 rfl (lv_at hl 1 rfl) ?_
  refine zcalli (va_runS (As := [.int (iI ((i : Int)))]) (rest := []) ⟨hx, hb, hml, hown, hts⟩ (c_X1_isNumber l D cy A ad _ ((i : Int)) (by first | decide | (constructor <;> omega))) (va_cwS 1 hts gX1_existing_X1_isNumber rfl rfl rfl (by decide +kernel) ⟨(Nat.le_of_ble_eq_true rfl), (Nat.le_of_ble_eq_true rfl)⟩) (zPS hE hS) rfl rfl hl.1 rfl (lv_room (Nat.le_of_ble_eq_true rfl)) dX1_existing_1 ⟨(Nat.le_of_ble_eq_true rfl), (Nat.le_of_ble_eq_true rfl)⟩) hS (fun z_1 H1 locs hz_1 hq hz1 hk1 hS => ?_)
  obtain ⟨hqe, hv_1⟩ := hq
  replace hqe := hqe.symm
  subst hqe
  refine zf_eq (tgt := 16) hx hb dX1_existing_4 (by decide) (by first | decide | (constructor <;> omega)) (fun c_4 => ?_) (fun c_4 => ?_)
  · exfalso; omega
  · refine lv_aload_n hx hb dX1_existing_7 rfl (lv_at hl 0 rfl) ?_
    refine zget (C := RX1) (T := TX1) (N := 9) hx hb hts hinX1 hown hE hw 0 yE_0 rfl 4 (by decide) (hts (.fieldLink RX1 24 "FormworkYard" "pourList" "[LFormworkYard$Pour;") (by decide +kernel)) rfl dX1_existing_8 ?_
    refine lv_iload_n hx hb dX1_existing_11 rfl (lv_at hl 1 rfl) ?_
    refine zaald hx hb hE hw 5 yE_5 i rfl (by omega) (by omega) dX1_existing_12 ?_
    rcases hp_12 : pr i with _ | p_12
    · exfalso; rw [hp0] at hp_12; cases hp_12
    · rw [yR_1 hp_12]
      refine lv_goto (tgt := 17) hx hb dX1_existing_13 (by decide) ?_
      refine lv_astore_n (lv' := [(2, .ref (ad (10 + 3 * i))), (0, .ref (ad 0)), (1, .int (iI ((i : Int))))]) hx hb dX1_existing_17 rfl hl (by decide) rfl (fun ls hl => ?_)
      refine lv_aload_n hx hb dX1_existing_18 rfl (lv_at hl 0 rfl) ?_
      refine lv_ifnonnull (tgt := 30) hx hb dX1_existing_19 (by decide) ?_
      refine lv_aload_n hx hb dX1_existing_30 rfl (lv_at hl 0 rfl) ?_
      refine zaret (z := some (ad (10 + 3 * i))) hx hb hr hlocks hS (Nat.le_of_ble_eq_true rfl) (Nat.le_of_ble_eq_true rfl) ?_ dX1_existing_31
      exact ⟨rfl, rfl⟩

set_option maxHeartbeats 4000000 in
set_option maxRecDepth 100000 in
theorem c_X1_maturity_ok (l : Launch) (D : va_G) (cy : Nat → ClassId) (A : Nat → Prop) (ad : Nat → Nat) (ya : Nat → Nat → Int) (yi : Nat → Int) (pr : Nat → Option PS) (H0 : Heap) (T : Nat → Int) (a b : Int) (hw : zW D A ad (yE cy ad ya yi pr) H0) (h1 : 0 ≤ a ∧ a < 1000) (h2 : 0 ≤ b ∧ b < 1000) (hG : gnd T ya) (ht : tOK T) : Met l yX1_maturity wsX1_maturity ({ frames := 2, cells := 0, slots := 0, locals := 44 }) (zPc D cy A [.ref (ad 0), .int (iI (a)), .int (iI (b))] H0) (zQi (fun z H1 => H1 = H0 ∧ z = mat T a b) A) 0 0 A := by
  refine Met.ofW (cc := cX1_maturity) (maxL := 3) (ret := (some .int)) (by decide) rfl ?_
  intro pg en s mt args below meth c s₁ B hml hv
  obtain ⟨rfl, hH, hE⟩ := hv
  subst hH
  have hx := B.exec
  have hb := B.bytes
  have hr := B.returns
  have hts := atoms_spec (ws := wsX1_maturity) B.pre
  have hown : s.vm.findClass RX1 = some mt.cls := findClass_of_methodNamed B.named
  have hlocks := B.notSynchronized
  have hS : va_S A s.heap s.heap [] := va_S.rf
  have hl := lv_entry ([.ref (ad 0), .int (iI (a)), .int (iI (b))]) (n := 3) (Nat.le_of_ble_eq_true rfl)
  rw [lg_entry_eq]
  generalize (lg_sl ([.ref (ad 0), .int (iI (a)), .int (iI (b))]) ++ List.replicate (3 - (lg_sl ([.ref (ad 0), .int (iI (a)), .int (iI (b))])).length) Slot.unset).toArray = ls at hl ⊢
  have hl : lv_has ls 3 [(0, .ref (ad 0)), (1, .int (iI (a))), (2, .int (iI (b)))] := hl
  refine lv_iload_n hx hb dX1_maturity_0 rfl (lv_at hl 1 rfl) ?_
  refine zcallv (va_runS (As := [.int (iI (a))]) (rest := []) ⟨hx, hb, hml, hown, hts⟩ (c_X1_requireHour_ok l D cy A ad _ (a) (by omega)) (va_cwS 1 hts gX1_maturity_X1_requireHour rfl rfl rfl (by decide +kernel) ⟨(Nat.le_of_ble_eq_true rfl), (Nat.le_of_ble_eq_true rfl)⟩) (zPS hE hS) rfl rfl hl.1 rfl (lv_room (Nat.le_of_ble_eq_true rfl)) dX1_maturity_1 ⟨(Nat.le_of_ble_eq_true rfl), (Nat.le_of_ble_eq_true rfl)⟩) hS (fun H1 locs hq hz1 hk1 hS => ?_)
  replace hq := hq.symm
  subst hq
  refine lv_iload_n hx hb dX1_maturity_4 rfl (lv_at hl 2 rfl) ?_
  refine zcallv (va_runS (As := [.int (iI (b))]) (rest := []) ⟨hx, hb, hml, hown, hts⟩ (c_X1_requireHour_ok l D cy A ad _ (b) (by omega)) (va_cwS 1 hts gX1_maturity_X1_requireHour rfl rfl rfl (by decide +kernel) ⟨(Nat.le_of_ble_eq_true rfl), (Nat.le_of_ble_eq_true rfl)⟩) (zPS hE hS) rfl rfl hl.1 rfl (lv_room (Nat.le_of_ble_eq_true rfl)) dX1_maturity_5 ⟨(Nat.le_of_ble_eq_true rfl), (Nat.le_of_ble_eq_true rfl)⟩) hS (fun H1 locs hq hz1 hk1 hS => ?_)
  replace hq := hq.symm
  subst hq
  refine lv_aload_n hx hb dX1_maturity_8 rfl (lv_at hl 0 rfl) ?_
  refine lv_iload_n hx hb dX1_maturity_9 rfl (lv_at hl 1 rfl) ?_
  refine lv_iload_n hx hb dX1_maturity_10 rfl (lv_at hl 2 rfl) ?_
  refine zcalli (va_runV (As := [.int (iI (a)), .int (iI (b))]) (rest := []) ⟨hx, hb, hml, hown, hts⟩ (c_X1_gainBetween l D cy A ad ya yi pr _ T (a) (b) hw (by omega) (by first | decide | (constructor <;> omega)) hG ht) (cwV 2 hts gX1_maturity_X1_gainBetween rfl rfl rfl (by decide +kernel) ⟨(Nat.le_of_ble_eq_true rfl), (Nat.le_of_ble_eq_true rfl)⟩) (zPV hE hS hw (ci := 1) (k0 := 0) rfl yE_0) rfl rfl hl.1 rfl (lv_room (Nat.le_of_ble_eq_true rfl)) dX1_maturity_11 ⟨(Nat.le_of_ble_eq_true rfl), (Nat.le_of_ble_eq_true rfl)⟩) hS (fun z_11 H1 locs hz_11 hq hz1 hk1 hS => ?_)
  obtain ⟨hqe, hv_11⟩ := hq
  replace hqe := hqe.symm
  subst hqe
  refine ziret hx hb hr hlocks hS (Nat.le_of_ble_eq_true rfl) (Nat.le_of_ble_eq_true rfl) (by first | decide | (constructor <;> omega)) ?_ dX1_maturity_14
  exact ⟨rfl, hv_11⟩

set_option maxHeartbeats 4000000 in
set_option maxRecDepth 100000 in
theorem c_X1_strength_ok (l : Launch) (D : va_G) (cy : Nat → ClassId) (A : Nat → Prop) (ad : Nat → Nat) (ya : Nat → Nat → Int) (yi : Nat → Int) (pr : Nat → Option PS) (H0 : Heap) (v : Int) (hw : zW D A ad (yE cy ad ya yi pr) H0) (h1 : 0 ≤ v ∧ v ≤ 1000000) : Met l yX1_strength wsX1_strength ({ frames := 2, cells := 0, slots := 0, locals := 42 }) (zPc D cy A [.ref (ad 0), .int (iI (v))] H0) (zQi (fun z H1 => H1 = H0 ∧ z = strg v) A) 0 0 A := by
  refine Met.ofW (cc := cX1_strength) (maxL := 2) (ret := (some .int)) (by decide) rfl ?_
  intro pg en s mt args below meth c s₁ B hml hv
  obtain ⟨rfl, hH, hE⟩ := hv
  subst hH
  have hx := B.exec
  have hb := B.bytes
  have hr := B.returns
  have hts := atoms_spec (ws := wsX1_strength) B.pre
  have hown : s.vm.findClass RX1 = some mt.cls := findClass_of_methodNamed B.named
  have hlocks := B.notSynchronized
  have hS : va_S A s.heap s.heap [] := va_S.rf
  have hl := lv_entry ([.ref (ad 0), .int (iI (v))]) (n := 2) (Nat.le_of_ble_eq_true rfl)
  rw [lg_entry_eq]
  generalize (lg_sl ([.ref (ad 0), .int (iI (v))]) ++ List.replicate (2 - (lg_sl ([.ref (ad 0), .int (iI (v))])).length) Slot.unset).toArray = ls at hl ⊢
  have hl : lv_has ls 2 [(0, .ref (ad 0)), (1, .int (iI (v)))] := hl
  refine lv_iload_n hx hb dX1_strength_0 rfl (lv_at hl 1 rfl) ?_
  refine zi_const hx hb dX1_strength_1 ?_
  refine lv_ldc (v := iI 1000000) hx hb hown (hts (.constant RX1 69 (iI 1000000)) (by decide +kernel)) dX1_strength_2 ?_
  refine zcallv (va_runS (As := [.int (iI (v)), .int (iI (0)), .int (iI (1000000))]) (rest := []) ⟨hx, hb, hml, hown, hts⟩ (c_X1_requireRange_ok l D cy A ad _ (v) (0) (1000000) (by omega) (by first | decide | (constructor <;> omega)) (by first | decide | (constructor <;> omega))) (va_cwS 3 hts gX1_strength_X1_requireRange rfl rfl rfl (by decide +kernel) ⟨(Nat.le_of_ble_eq_true rfl), (Nat.le_of_ble_eq_true rfl)⟩) (zPS hE hS) rfl rfl hl.1 rfl (lv_room (Nat.le_of_ble_eq_true rfl)) dX1_strength_4 ⟨(Nat.le_of_ble_eq_true rfl), (Nat.le_of_ble_eq_true rfl)⟩) hS (fun H1 locs hq hz1 hk1 hS => ?_)
  replace hq := hq.symm
  subst hq
  refine lv_iload_n hx hb dX1_strength_7 rfl (lv_at hl 1 rfl) ?_
  refine zcalli (va_runS (As := [.int (iI (v))]) (rest := []) ⟨hx, hb, hml, hown, hts⟩ (c_X1_strengthAt l D cy A ad _ (v) (by omega)) (va_cwS 1 hts gX1_strength_X1_strengthAt rfl rfl rfl (by decide +kernel) ⟨(Nat.le_of_ble_eq_true rfl), (Nat.le_of_ble_eq_true rfl)⟩) (zPS hE hS) rfl rfl hl.1 rfl (lv_room (Nat.le_of_ble_eq_true rfl)) dX1_strength_8 ⟨(Nat.le_of_ble_eq_true rfl), (Nat.le_of_ble_eq_true rfl)⟩) hS (fun z_8 H1 locs hz_8 hq hz1 hk1 hS => ?_)
  obtain ⟨hqe, hv_8⟩ := hq
  replace hqe := hqe.symm
  subst hqe
  refine ziret hx hb hr hlocks hS (Nat.le_of_ble_eq_true rfl) (Nat.le_of_ble_eq_true rfl) (by first | decide | (constructor <;> omega)) ?_ dX1_strength_11
  exact ⟨rfl, hv_8⟩

set_option maxHeartbeats 4000000 in
set_option maxRecDepth 100000 in
theorem c_X1_setPanels_ok (l : Launch) (D : va_G) (cy : Nat → ClassId) (A : Nat → Prop) (ad : Nat → Nat) (ya : Nat → Nat → Int) (yi : Nat → Int) (pr : Nat → Option PS) (H0 : Heap) (v : Int) (hw : zW D A ad (yE cy ad ya yi pr) H0) (h1 : 0 ≤ v ∧ v ≤ 60) (hg : yB yi) : Met l yX1_setPanels wsX1_setPanels ({ frames := 2, cells := 0, slots := 0, locals := 42 }) (zPc D cy A [.ref (ad 0), .int (iI (v))] H0) (zQi (fun z H1 => zW D A ad (yE cy ad ya (va_up yi 5 v) pr) H1 ∧ z = yi 5) A) 0 0 A := by
  refine Met.ofW (cc := cX1_setPanels) (maxL := 3) (ret := (some .int)) (by decide) rfl ?_
  intro pg en s mt args below meth c s₁ B hml hv
  obtain ⟨rfl, hH, hE⟩ := hv
  subst hH
  have hx := B.exec
  have hb := B.bytes
  have hr := B.returns
  have hts := atoms_spec (ws := wsX1_setPanels) B.pre
  have hown : s.vm.findClass RX1 = some mt.cls := findClass_of_methodNamed B.named
  have hlocks := B.notSynchronized
  have hinX1 : ∀ w ∈ u_ws RX1 TX1 9, w ∈ wsX1_setPanels := by decide +kernel
  have hS : va_S A s.heap s.heap [] := va_S.rf
  have hl := lv_entry ([.ref (ad 0), .int (iI (v))]) (n := 3) (Nat.le_of_ble_eq_true rfl)
  rw [lg_entry_eq]
  generalize (lg_sl ([.ref (ad 0), .int (iI (v))]) ++ List.replicate (3 - (lg_sl ([.ref (ad 0), .int (iI (v))])).length) Slot.unset).toArray = ls at hl ⊢
  have hl : lv_has ls 3 [(0, .ref (ad 0)), (1, .int (iI (v)))] := hl
  obtain ⟨g1, g2, g3, g4⟩ := id hg
  refine lv_iload_n hx hb dX1_setPanels_0 rfl (lv_at hl 1 rfl) ?_
  refine zi_const hx hb dX1_setPanels_1 ?_
  refine zi_bipush hx hb dX1_setPanels_2 (by decide) ?_
  refine zcallv (va_runS (As := [.int (iI (v)), .int (iI (0)), .int (iI (60))]) (rest := []) ⟨hx, hb, hml, hown, hts⟩ (c_X1_requireRange_ok l D cy A ad _ (v) (0) (60) (by omega) (by first | decide | (constructor <;> omega)) (by first | decide | (constructor <;> omega))) (va_cwS 3 hts gX1_setPanels_X1_requireRange rfl rfl rfl (by decide +kernel) ⟨(Nat.le_of_ble_eq_true rfl), (Nat.le_of_ble_eq_true rfl)⟩) (zPS hE hS) rfl rfl hl.1 rfl (lv_room (Nat.le_of_ble_eq_true rfl)) dX1_setPanels_4 ⟨(Nat.le_of_ble_eq_true rfl), (Nat.le_of_ble_eq_true rfl)⟩) hS (fun H1 locs hq hz1 hk1 hS => ?_)
  replace hq := hq.symm
  subst hq
  refine lv_aload_n hx hb dX1_setPanels_7 rfl (lv_at hl 0 rfl) ?_
  refine zget (C := RX1) (T := TX1) (N := 9) hx hb hts hinX1 hown hE hw 0 yE_0 rfl 5 (by decide) (hts (.fieldLink RX1 28 "FormworkYard" "yardPanels" "I") (by decide +kernel)) rfl dX1_setPanels_8 ?_
  refine zi_top (fun x_11 hx_11 => ?_)
  refine lv_istore_n (lv' := [(2, .int (iI (x_11))), (0, .ref (ad 0)), (1, .int (iI (v)))]) hx hb dX1_setPanels_11 rfl hl (by decide) rfl (fun ls hl => ?_)
  refine lv_aload_n hx hb dX1_setPanels_12 rfl (lv_at hl 1 rfl) ?_
  refine lv_iload_n hx hb dX1_setPanels_13 rfl (lv_at hl 2 rfl) ?_
  refine zput (C := RX1) (T := TX1) (N := 9) hx hb hts hinX1 tyX1 tyX1_ok nmX1 hown hE hS hw 0 yE_0 rfl 5 (by decide) (hts (.fieldLink RX1 28 "FormworkYard" "yardPanels" "I") (by decide +kernel)) rfl (ty := .int) (by decide +kernel) rfl rfl (Nat.le_of_ble_eq_true rfl) dX1_setPanels_14 (fun H locs hw hS => ?_)
  have hw := hw.cong (yU_i 5 (by decide) (v))
  refine lv_iload_n hx hb dX1_setPanels_17 rfl (lv_at hl 0 rfl) ?_
  refine ziret hx hb hr hlocks hS (Nat.le_of_ble_eq_true rfl) (Nat.le_of_ble_eq_true rfl) (by first | decide | (constructor <;> omega)) ?_ dX1_setPanels_18
  exact ⟨hw, by omega⟩

set_option maxHeartbeats 4000000 in
set_option maxRecDepth 100000 in
theorem c_X1_setRates_ok (l : Launch) (D : va_G) (cy : Nat → ClassId) (A : Nat → Prop) (ad : Nat → Nat) (ya : Nat → Nat → Int) (yi : Nat → Int) (pr : Nat → Option PS) (H0 : Heap) (T : Nat → Int) (v u : Int) (hw : zW D A ad (yE cy ad ya yi pr) H0) (h1 : 1 ≤ v ∧ v ≤ 50) (h2 : 1 ≤ u ∧ u ≤ 50) (hpa : ∀ j p, j < 10 → pr j = some p → pB p) (hg : yB yi) (hG : gnd T ya) (ht : tOK T) : Met l yX1_setRates wsX1_setRates ({ frames := 5, cells := 0, slots := 0, locals := 114 }) (zPc D cy A [.ref (ad 0), .int (iI (v)), .int (iI (u))] H0) (zQi (fun z H1 => ∃ pq, zW D A ad (yE cy ad ya (va_up yi 6 (min v u)) pq) H1 ∧ schA T (va_up yi 6 (min v u)) pr pq 10 ∧ z = min v u) A) 0 0 A := by
  refine Met.ofW (cc := cX1_setRates) (maxL := 3) (ret := (some .int)) (by decide) rfl ?_
  intro pg en s mt args below meth c s₁ B hml hv
  obtain ⟨rfl, hH, hE⟩ := hv
  subst hH
  have hx := B.exec
  have hb := B.bytes
  have hr := B.returns
  have hts := atoms_spec (ws := wsX1_setRates) B.pre
  have hown : s.vm.findClass RX1 = some mt.cls := findClass_of_methodNamed B.named
  have hlocks := B.notSynchronized
  have hinX1 : ∀ w ∈ u_ws RX1 TX1 9, w ∈ wsX1_setRates := by decide +kernel
  have hS : va_S A s.heap s.heap [] := va_S.rf
  have hl := lv_entry ([.ref (ad 0), .int (iI (v)), .int (iI (u))]) (n := 3) (Nat.le_of_ble_eq_true rfl)
  rw [lg_entry_eq]
  generalize (lg_sl ([.ref (ad 0), .int (iI (v)), .int (iI (u))]) ++ List.replicate (3 - (lg_sl ([.ref (ad 0), .int (iI (v)), .int (iI (u))])).length) Slot.unset).toArray = ls at hl ⊢
  have hl : lv_has ls 3 [(0, .ref (ad 0)), (1, .int (iI (v))), (2, .int (iI (u)))] := hl
  obtain ⟨g1, g2, g3, g4⟩ := id hg
  refine lv_iload_n hx hb dX1_setRates_0 rfl (lv_at hl 1 rfl) ?_
  refine zi_const hx hb dX1_setRates_1 ?_
  refine zi_bipush hx hb dX1_setRates_2 (by decide) ?_
  refine zcallv (va_runS (As := [.int (iI (v)), .int (iI (1)), .int (iI (50))]) (rest := []) ⟨hx, hb, hml, hown, hts⟩ (c_X1_requireRange_ok l D cy A ad _ (v) (1) (50) (by omega) (by first | decide | (constructor <;> omega)) (by first | decide | (constructor <;> omega))) (va_cwS 3 hts gX1_setRates_X1_requireRange rfl rfl rfl (by decide +kernel) ⟨(Nat.le_of_ble_eq_true rfl), (Nat.le_of_ble_eq_true rfl)⟩) (zPS hE hS) rfl rfl hl.1 rfl (lv_room (Nat.le_of_ble_eq_true rfl)) dX1_setRates_4 ⟨(Nat.le_of_ble_eq_true rfl), (Nat.le_of_ble_eq_true rfl)⟩) hS (fun H1 locs hq hz1 hk1 hS => ?_)
  replace hq := hq.symm
  subst hq
  refine lv_iload_n hx hb dX1_setRates_7 rfl (lv_at hl 2 rfl) ?_
  refine zi_const hx hb dX1_setRates_8 ?_
  refine zi_bipush hx hb dX1_setRates_9 (by decide) ?_
  refine zcallv (va_runS (As := [.int (iI (u)), .int (iI (1)), .int (iI (50))]) (rest := []) ⟨hx, hb, hml, hown, hts⟩ (c_X1_requireRange_ok l D cy A ad _ (u) (1) (50) (by omega) (by first | decide | (constructor <;> omega)) (by first | decide | (constructor <;> omega))) (va_cwS 3 hts gX1_setRates_X1_requireRange rfl rfl rfl (by decide +kernel) ⟨(Nat.le_of_ble_eq_true rfl), (Nat.le_of_ble_eq_true rfl)⟩) (zPS hE hS) rfl rfl hl.1 rfl (lv_room (Nat.le_of_ble_eq_true rfl)) dX1_setRates_11 ⟨(Nat.le_of_ble_eq_true rfl), (Nat.le_of_ble_eq_true rfl)⟩) hS (fun H1 locs hq hz1 hk1 hS => ?_)
  replace hq := hq.symm
  subst hq
  refine lv_aload_n hx hb dX1_setRates_14 rfl (lv_at hl 0 rfl) ?_
  refine lv_iload_n hx hb dX1_setRates_15 rfl (lv_at hl 1 rfl) ?_
  refine lv_iload_n hx hb dX1_setRates_16 rfl (lv_at hl 2 rfl) ?_
  refine va_mmin hx hb (hml.trans hl.1.symm) hown (hts (.methodLink RX1 74 Lib.Math.min.name) (by decide +kernel)) (hts (.static Lib.Math.min.name) (by decide +kernel)) (hts (.initialized "java/lang/Math") (by decide +kernel)) (hts (.code Lib.Math.min.name Lib.Math.min.code 2 (some .int)) (by decide +kernel)) (Nat.le_of_ble_eq_true rfl) (Nat.le_of_ble_eq_true rfl) (Nat.le_of_ble_eq_true rfl) (Nat.le_of_ble_eq_true rfl) dX1_setRates_17 ?_
  rw [iI_min (a := v) (b := u) (by first | decide | (constructor <;> omega)) (by first | decide | (constructor <;> omega))]
  refine zi_top (fun x_17 hx_17 => ?_)
  refine zput (C := RX1) (T := TX1) (N := 9) hx hb hts hinX1 tyX1 tyX1_ok nmX1 hown hE hS hw 0 yE_0 rfl 6 (by decide) (hts (.fieldLink RX1 32 "FormworkYard" "rate" "I") (by decide +kernel)) rfl (ty := .int) (by decide +kernel) rfl rfl (Nat.le_of_ble_eq_true rfl) dX1_setRates_20 (fun H locs hw hS => ?_)
  have hw := hw.cong (yU_i 6 (by decide) (x_17))
  have hg2 : yB (va_up yi 6 (x_17)) := by simp [yB, va_up]; omega
  refine lv_aload_n hx hb dX1_setRates_23 rfl (lv_at hl 0 rfl) ?_
  refine zcallv (va_runV (As := []) (rest := []) ⟨hx, hb, hml, hown, hts⟩ (c_X1_scheduleAll l D cy A ad ya (va_up yi 6 (x_17)) pr _ T hw hpa hg2 hG ht) (cwV 0 hts gX1_setRates_X1_scheduleAll rfl rfl rfl (by decide +kernel) ⟨(Nat.le_of_ble_eq_true rfl), (Nat.le_of_ble_eq_true rfl)⟩) (zPV hE hS hw (ci := 1) (k0 := 0) rfl yE_0) rfl rfl hl.1 rfl (lv_room (Nat.le_of_ble_eq_true rfl)) dX1_setRates_24 ⟨(Nat.le_of_ble_eq_true rfl), (Nat.le_of_ble_eq_true rfl)⟩) hS (fun H1 locs hq hz1 hk1 hS => ?_)
  obtain ⟨pr_s24, hw, hsA_24⟩ := hq
  refine lv_aload_n hx hb dX1_setRates_27 rfl (lv_at hl 0 rfl) ?_
  refine zget (C := RX1) (T := TX1) (N := 9) hx hb hts hinX1 hown hE hw 0 yE_0 rfl 6 (by decide) (hts (.fieldLink RX1 32 "FormworkYard" "rate" "I") (by decide +kernel)) rfl dX1_setRates_28 ?_
  refine zi_top (fun v_28 hv_28 => ?_)
  simp [va_up] at hv_28
  refine ziret hx hb hr hlocks hS (Nat.le_of_ble_eq_true rfl) (Nat.le_of_ble_eq_true rfl) (by first | decide | (constructor <;> omega)) ?_ dX1_setRates_31
  rw [← hx_17]
  exact ⟨_, hw, hsA_24, by omega⟩

set_option maxHeartbeats 4000000 in
set_option maxRecDepth 100000 in
theorem c_X1_setCrew_ok (l : Launch) (D : va_G) (cy : Nat → ClassId) (A : Nat → Prop) (ad : Nat → Nat) (ya : Nat → Nat → Int) (yi : Nat → Int) (pr : Nat → Option PS) (H0 : Heap) (T : Nat → Int) (v u : Int) (hw : zW D A ad (yE cy ad ya yi pr) H0) (h1 : 0 ≤ v ∧ v ≤ 24) (h2 : 0 ≤ u ∧ u ≤ 24) (hpa : ∀ j p, j < 10 → pr j = some p → pB p) (hg : yB yi) (hG : gnd T ya) (ht : tOK T) : Met l yX1_setCrew wsX1_setCrew ({ frames := 5, cells := 0, slots := 0, locals := 114 }) (zPc D cy A [.ref (ad 0), .int (iI (v)), .int (iI (u))] H0) (zQv (fun H1 => ∃ pq, zW D A ad (yE cy ad ya (va_up (va_up yi 7 v) 8 u) pq) H1 ∧ schA T (va_up (va_up yi 7 v) 8 u) pr pq 10) A) 0 0 A := by
  refine Met.ofW (cc := cX1_setCrew) (maxL := 3) (ret := none) (by decide) rfl ?_
  intro pg en s mt args below meth c s₁ B hml hv
  obtain ⟨rfl, hH, hE⟩ := hv
  subst hH
  have hx := B.exec
  have hb := B.bytes
  have hr := B.returns
  have hts := atoms_spec (ws := wsX1_setCrew) B.pre
  have hown : s.vm.findClass RX1 = some mt.cls := findClass_of_methodNamed B.named
  have hlocks := B.notSynchronized
  have hinX1 : ∀ w ∈ u_ws RX1 TX1 9, w ∈ wsX1_setCrew := by decide +kernel
  have hS : va_S A s.heap s.heap [] := va_S.rf
  have hl := lv_entry ([.ref (ad 0), .int (iI (v)), .int (iI (u))]) (n := 3) (Nat.le_of_ble_eq_true rfl)
  rw [lg_entry_eq]
  generalize (lg_sl ([.ref (ad 0), .int (iI (v)), .int (iI (u))]) ++ List.replicate (3 - (lg_sl ([.ref (ad 0), .int (iI (v)), .int (iI (u))])).length) Slot.unset).toArray = ls at hl ⊢
  have hl : lv_has ls 3 [(0, .ref (ad 0)), (1, .int (iI (v))), (2, .int (iI (u)))] := hl
  obtain ⟨g1, g2, g3, g4⟩ := id hg
  refine lv_iload_n hx hb dX1_setCrew_0 rfl (lv_at hl 1 rfl) ?_
  refine zi_const hx hb dX1_setCrew_1 ?_
  refine zi_bipush hx hb dX1_setCrew_2 (by decide) ?_
  refine zcallv (va_runS (As := [.int (iI (v)), .int (iI (0)), .int (iI (24))]) (rest := []) ⟨hx, hb, hml, hown, hts⟩ (c_X1_requireRange_ok l D cy A ad _ (v) (0) (24) (by omega) (by first | decide | (constructor <;> omega)) (by first | decide | (constructor <;> omega))) (va_cwS 3 hts gX1_setCrew_X1_requireRange rfl rfl rfl (by decide +kernel) ⟨(Nat.le_of_ble_eq_true rfl), (Nat.le_of_ble_eq_true rfl)⟩) (zPS hE hS) rfl rfl hl.1 rfl (lv_room (Nat.le_of_ble_eq_true rfl)) dX1_setCrew_4 ⟨(Nat.le_of_ble_eq_true rfl), (Nat.le_of_ble_eq_true rfl)⟩) hS (fun H1 locs hq hz1 hk1 hS => ?_)
  replace hq := hq.symm
  subst hq
  refine lv_iload_n hx hb dX1_setCrew_7 rfl (lv_at hl 2 rfl) ?_
  refine zi_const hx hb dX1_setCrew_8 ?_
  refine zi_bipush hx hb dX1_setCrew_9 (by decide) ?_
  refine zcallv (va_runS (As := [.int (iI (u)), .int (iI (0)), .int (iI (24))]) (rest := []) ⟨hx, hb, hml, hown, hts⟩ (c_X1_requireRange_ok l D cy A ad _ (u) (0) (24) (by omega) (by first | decide | (constructor <;> omega)) (by first | decide | (constructor <;> omega))) (va_cwS 3 hts gX1_setCrew_X1_requireRange rfl rfl rfl (by decide +kernel) ⟨(Nat.le_of_ble_eq_true rfl), (Nat.le_of_ble_eq_true rfl)⟩) (zPS hE hS) rfl rfl hl.1 rfl (lv_room (Nat.le_of_ble_eq_true rfl)) dX1_setCrew_11 ⟨(Nat.le_of_ble_eq_true rfl), (Nat.le_of_ble_eq_true rfl)⟩) hS (fun H1 locs hq hz1 hk1 hS => ?_)
  replace hq := hq.symm
  subst hq
  refine lv_aload_n hx hb dX1_setCrew_14 rfl (lv_at hl 0 rfl) ?_
  refine lv_iload_n hx hb dX1_setCrew_15 rfl (lv_at hl 1 rfl) ?_
  refine zput (C := RX1) (T := TX1) (N := 9) hx hb hts hinX1 tyX1 tyX1_ok nmX1 hown hE hS hw 0 yE_0 rfl 7 (by decide) (hts (.fieldLink RX1 35 "FormworkYard" "setUpHours" "I") (by decide +kernel)) rfl (ty := .int) (by decide +kernel) rfl rfl (Nat.le_of_ble_eq_true rfl) dX1_setCrew_16 (fun H locs hw hS => ?_)
  have hw := hw.cong (yU_i 7 (by decide) (v))
  refine lv_aload_n hx hb dX1_setCrew_19 rfl (lv_at hl 0 rfl) ?_
  refine lv_iload_n hx hb dX1_setCrew_20 rfl (lv_at hl 2 rfl) ?_
  refine zput (C := RX1) (T := TX1) (N := 9) hx hb hts hinX1 tyX1 tyX1_ok nmX1 hown hE hS hw 0 yE_0 rfl 8 (by decide) (hts (.fieldLink RX1 38 "FormworkYard" "cleaningHours" "I") (by decide +kernel)) rfl (ty := .int) (by decide +kernel) rfl rfl (Nat.le_of_ble_eq_true rfl) dX1_setCrew_21 (fun H locs hw hS => ?_)
  have hw := hw.cong (yU_i 8 (by decide) (u))
  have hg2 : yB (va_up (va_up yi 7 (v)) 8 (u)) := by simp [yB, va_up]; omega
  refine lv_aload_n hx hb dX1_setCrew_24 rfl (lv_at hl 0 rfl) ?_
  refine zcallv (va_runV (As := []) (rest := []) ⟨hx, hb, hml, hown, hts⟩ (c_X1_scheduleAll l D cy A ad ya (va_up (va_up yi 7 (v)) 8 (u)) pr _ T hw hpa hg2 hG ht) (cwV 0 hts gX1_setCrew_X1_scheduleAll rfl rfl rfl (by decide +kernel) ⟨(Nat.le_of_ble_eq_true rfl), (Nat.le_of_ble_eq_true rfl)⟩) (zPV hE hS hw (ci := 1) (k0 := 0) rfl yE_0) rfl rfl hl.1 rfl (lv_room (Nat.le_of_ble_eq_true rfl)) dX1_setCrew_25 ⟨(Nat.le_of_ble_eq_true rfl), (Nat.le_of_ble_eq_true rfl)⟩) hS (fun H1 locs hq hz1 hk1 hS => ?_)
  obtain ⟨pr_s25, hw, hsA_25⟩ := hq
  refine zvret hx hb hr hlocks hS (Nat.le_of_ble_eq_true rfl) (Nat.le_of_ble_eq_true rfl) ?_ dX1_setCrew_28
  exact ⟨_, hw, hsA_25⟩

set_option maxHeartbeats 4000000 in
set_option maxRecDepth 100000 in
theorem c_X1_setTemperature_ok (l : Launch) (D : va_G) (cy : Nat → ClassId) (A : Nat → Prop) (ad : Nat → Nat) (ya : Nat → Nat → Int) (yi : Nat → Int) (pr : Nat → Option PS) (H0 : Heap) (a b t : Int) (hw : zW D A ad (yE cy ad ya yi pr) H0) (h1 : 0 ≤ a ∧ a ≤ b ∧ b < 1000) (h2 : -40 ≤ t ∧ t ≤ 50) (hpa : ∀ j p, j < 10 → pr j = some p → pB p) (hg : yB yi) (ht : tOK (ya 0)) : Met l yX1_setTemperature wsX1_setTemperature ({ frames := 5, cells := 0, slots := 0, locals := 114 }) (zPc D cy A [.ref (ad 0), .int (iI (a)), .int (iI (b)), .int (iI (t))] H0) (zQv (fun H1 => ∃ yb pq, zW D A ad (yE cy ad yb yi pq) H1 ∧ yb 0 = setT (ya 0) a b t ∧ gnd (setT (ya 0) a b t) yb ∧ schA (setT (ya 0) a b t) yi pr pq 10) A) 0 0 A := by
  refine Met.ofW (cc := cX1_setTemperature) (maxL := 5) (ret := none) (by decide) rfl ?_
  intro pg en s mt args below meth c s₁ B hml hv
  obtain ⟨rfl, hH, hE⟩ := hv
  subst hH
  have hx := B.exec
  have hb := B.bytes
  have hr := B.returns
  have hts := atoms_spec (ws := wsX1_setTemperature) B.pre
  have hown : s.vm.findClass RX1 = some mt.cls := findClass_of_methodNamed B.named
  have hlocks := B.notSynchronized
  have hinX1 : ∀ w ∈ u_ws RX1 TX1 9, w ∈ wsX1_setTemperature := by decide +kernel
  have hS : va_S A s.heap s.heap [] := va_S.rf
  have hl := lv_entry ([.ref (ad 0), .int (iI (a)), .int (iI (b)), .int (iI (t))]) (n := 5) (Nat.le_of_ble_eq_true rfl)
  rw [lg_entry_eq]
  generalize (lg_sl ([.ref (ad 0), .int (iI (a)), .int (iI (b)), .int (iI (t))]) ++ List.replicate (5 - (lg_sl ([.ref (ad 0), .int (iI (a)), .int (iI (b)), .int (iI (t))])).length) Slot.unset).toArray = ls at hl ⊢
  have hl : lv_has ls 5 [(0, .ref (ad 0)), (1, .int (iI (a))), (2, .int (iI (b))), (3, .int (iI (t)))] := hl
  refine lv_iload_n hx hb dX1_setTemperature_0 rfl (lv_at hl 1 rfl) ?_
  refine zcallv (va_runS (As := [.int (iI (a))]) (rest := []) ⟨hx, hb, hml, hown, hts⟩ (c_X1_requireHour_ok l D cy A ad _ (a) (by omega)) (va_cwS 1 hts gX1_setTemperature_X1_requireHour rfl rfl rfl (by decide +kernel) ⟨(Nat.le_of_ble_eq_true rfl), (Nat.le_of_ble_eq_true rfl)⟩) (zPS hE hS) rfl rfl hl.1 rfl (lv_room (Nat.le_of_ble_eq_true rfl)) dX1_setTemperature_1 ⟨(Nat.le_of_ble_eq_true rfl), (Nat.le_of_ble_eq_true rfl)⟩) hS (fun H1 locs hq hz1 hk1 hS => ?_)
  replace hq := hq.symm
  subst hq
  refine lv_iload_n hx hb dX1_setTemperature_4 rfl (lv_at hl 2 rfl) ?_
  refine zcallv (va_runS (As := [.int (iI (b))]) (rest := []) ⟨hx, hb, hml, hown, hts⟩ (c_X1_requireHour_ok l D cy A ad _ (b) (by omega)) (va_cwS 1 hts gX1_setTemperature_X1_requireHour rfl rfl rfl (by decide +kernel) ⟨(Nat.le_of_ble_eq_true rfl), (Nat.le_of_ble_eq_true rfl)⟩) (zPS hE hS) rfl rfl hl.1 rfl (lv_room (Nat.le_of_ble_eq_true rfl)) dX1_setTemperature_5 ⟨(Nat.le_of_ble_eq_true rfl), (Nat.le_of_ble_eq_true rfl)⟩) hS (fun H1 locs hq hz1 hk1 hS => ?_)
  replace hq := hq.symm
  subst hq
  refine lv_iload_n hx hb dX1_setTemperature_8 rfl (lv_at hl 1 rfl) ?_
  refine lv_iload_n hx hb dX1_setTemperature_9 rfl (lv_at hl 2 rfl) ?_
  refine zc_gt (tgt := 17) hx hb dX1_setTemperature_10 (by decide) (by first | decide | (constructor <;> omega)) (by first | decide | (constructor <;> omega)) (fun c_10 => ?_) (fun c_10 => ?_)
  · exfalso; omega
  · refine zi_const hx hb dX1_setTemperature_13 ?_
    refine lv_goto (tgt := 18) hx hb dX1_setTemperature_14 (by decide) ?_
    refine zcallv (va_runS (As := [.int (iI (1))]) (rest := []) ⟨hx, hb, hml, hown, hts⟩ (c_X1_require_ok l D cy A ad _ (1) (by omega)) (va_cwS 1 hts gX1_setTemperature_X1_require rfl rfl rfl (by decide +kernel) ⟨(Nat.le_of_ble_eq_true rfl), (Nat.le_of_ble_eq_true rfl)⟩) (zPS hE hS) rfl rfl hl.1 rfl (lv_room (Nat.le_of_ble_eq_true rfl)) dX1_setTemperature_18 ⟨(Nat.le_of_ble_eq_true rfl), (Nat.le_of_ble_eq_true rfl)⟩) hS (fun H1 locs hq hz1 hk1 hS => ?_)
    replace hq := hq.symm
    subst hq
    refine lv_iload_n hx hb dX1_setTemperature_21 rfl (lv_at hl 3 rfl) ?_
    refine zi_bipush hx hb dX1_setTemperature_22 (by decide) ?_
    refine zi_bipush hx hb dX1_setTemperature_24 (by decide) ?_
    refine zcallv (va_runS (As := [.int (iI (t)), .int (iI ((-40))), .int (iI (50))]) (rest := []) ⟨hx, hb, hml, hown, hts⟩ (c_X1_requireRange_ok l D cy A ad _ (t) ((-40)) (50) (by omega) (by first | decide | (constructor <;> omega)) (by first | decide | (constructor <;> omega))) (va_cwS 3 hts gX1_setTemperature_X1_requireRange rfl rfl rfl (by decide +kernel) ⟨(Nat.le_of_ble_eq_true rfl), (Nat.le_of_ble_eq_true rfl)⟩) (zPS hE hS) rfl rfl hl.1 rfl (lv_room (Nat.le_of_ble_eq_true rfl)) dX1_setTemperature_26 ⟨(Nat.le_of_ble_eq_true rfl), (Nat.le_of_ble_eq_true rfl)⟩) hS (fun H1 locs hq hz1 hk1 hS => ?_)
    replace hq := hq.symm
    subst hq
    refine lv_iload_n hx hb dX1_setTemperature_29 rfl (lv_at hl 1 rfl) ?_
    refine lv_istore (lv' := [(4, .int (iI (a))), (0, .ref (ad 0)), (1, .int (iI (a))), (2, .int (iI (b))), (3, .int (iI (t)))]) hx hb dX1_setTemperature_30 hl (by decide) rfl (fun ls hl => ?_)
    have loop_32 : ∀ (n : Nat) (h : Int) (yb : Nat → Nat → Int) (H : Heap) (locs : List Loc) (ls : Array Slot), (b + 1 - h).toNat < n → (a ≤ h ∧ h ≤ b + 1) → (∀ r, r ≠ 0 → yb r = ya r) → (yb 0 = setT (ya 0) a (h - 1) t) → zW D A ad (yE cy ad yb yi pr) H → va_S A s.heap H locs → lv_has ls 5 [(4, .int (iI (h))), (0, .ref (ad 0)), (1, .int (iI (a))), (2, .int (iI (b))), (3, .int (iI (t)))] → W pg l en (headSpec wsX1_setTemperature ({ frames := 5, cells := 0, slots := 0, locals := 114 })).room s mt ([.ref (ad 0), .int (iI (a)), .int (iI (b)), .int (iI (t))] : List Value).toArray below meth c H locs 0 0 (MQ below (zQv (fun H1 => ∃ yb pq, zW D A ad (yE cy ad yb yi pq) H1 ∧ yb 0 = setT (ya 0) a b t ∧ gnd (setT (ya 0) a b t) yb ∧ schA (setT (ya 0) a b t) yi pr pq 10) A) ([.ref (ad 0), .int (iI (a)), .int (iI (b)), .int (iI (t))] : List Value).toArray s 0 0 A) (F0 mt 32 ls []) := by
      intro n
      induction n with
      | zero =>
        intro h yb H locs ls hm hi hr9 hT0
        exfalso; omega
      | succ n ih =>
        intro h yb H locs ls hm hi hr9 hT0 hw hS hl
        refine lv_iload hx hb dX1_setTemperature_32 (lv_at hl 0 rfl) ?_
        refine lv_iload_n hx hb dX1_setTemperature_34 rfl (lv_at hl 3 rfl) ?_
        refine zc_gt (tgt := 60) hx hb dX1_setTemperature_35 (by decide) (by first | decide | (constructor <;> omega)) (by first | decide | (constructor <;> omega)) (fun c_35 => ?_) (fun c_35 => ?_)
        · have hTb : yb 0 = setT (ya 0) a b t := by rw [hT0, show h - 1 = b by omega]
          have ht2 : tOK (yb 0) := by rw [hTb]; exact setT_ok ht h2.1 h2.2
          refine lv_aload_n hx hb dX1_setTemperature_60 rfl (lv_at hl 1 rfl) ?_
          refine zcallv (va_runV (As := []) (rest := []) ⟨hx, hb, hml, hown, hts⟩ (c_X1_sumGains l D cy A ad yb yi pr _ hw ht2) (cwV 0 hts gX1_setTemperature_X1_sumGains rfl rfl rfl (by decide +kernel) ⟨(Nat.le_of_ble_eq_true rfl), (Nat.le_of_ble_eq_true rfl)⟩) (zPV hE hS hw (ci := 1) (k0 := 0) rfl yE_0) rfl rfl hl.1 rfl (lv_room (Nat.le_of_ble_eq_true rfl)) dX1_setTemperature_61 ⟨(Nat.le_of_ble_eq_true rfl), (Nat.le_of_ble_eq_true rfl)⟩) hS (fun H1 locs hq hz1 hk1 hS => ?_)
          obtain ⟨ya_c61, hw, hgr_61, hgg_61⟩ := hq
          have hTc : ya_c61 0 = setT (ya 0) a b t := (hgr_61 0 (by decide)).trans hTb
          have hGc : gnd (setT (ya 0) a b t) ya_c61 := by rw [← hTb]; exact hgg_61
          have htc : tOK (setT (ya 0) a b t) := setT_ok ht h2.1 h2.2
          refine lv_aload_n hx hb dX1_setTemperature_64 rfl (lv_at hl 1 rfl) ?_
          refine zcallv (va_runV (As := []) (rest := []) ⟨hx, hb, hml, hown, hts⟩ (c_X1_scheduleAll l D cy A ad ya_c61 yi pr _ (setT (ya 0) a b t) hw hpa hg hGc htc) (cwV 0 hts gX1_setTemperature_X1_scheduleAll rfl rfl rfl (by decide +kernel) ⟨(Nat.le_of_ble_eq_true rfl), (Nat.le_of_ble_eq_true rfl)⟩) (zPV hE hS hw (ci := 1) (k0 := 0) rfl yE_0) rfl rfl hl.1 rfl (lv_room (Nat.le_of_ble_eq_true rfl)) dX1_setTemperature_65 ⟨(Nat.le_of_ble_eq_true rfl), (Nat.le_of_ble_eq_true rfl)⟩) hS (fun H1 locs hq hz1 hk1 hS => ?_)
          obtain ⟨pr_s65, hw, hsA_65⟩ := hq
          refine zvret hx hb hr hlocks hS (Nat.le_of_ble_eq_true rfl) (Nat.le_of_ble_eq_true rfl) ?_ dX1_setTemperature_68
          exact ⟨_, _, hw, hTc, hGc, hsA_65⟩
        · refine lv_iload hx hb dX1_setTemperature_38 (lv_at hl 0 rfl) ?_
          refine zi_sipush hx hb dX1_setTemperature_40 (by decide) ?_
          refine zc_ge (tgt := 60) hx hb dX1_setTemperature_43 (by decide) (by first | decide | (constructor <;> omega)) (by first | decide | (constructor <;> omega)) (fun c_43 => ?_) (fun c_43 => ?_)
          · exfalso; omega
          · refine lv_aload_n hx hb dX1_setTemperature_46 rfl (lv_at hl 1 rfl) ?_
            refine zget (C := RX1) (T := TX1) (N := 9) hx hb hts hinX1 hown hE hw 0 yE_0 rfl 0 (by decide) (hts (.fieldLink RX1 9 "FormworkYard" "temperatures" "[I") (by decide +kernel)) rfl dX1_setTemperature_47 ?_
            refine lv_iload hx hb dX1_setTemperature_50 (lv_at hl 0 rfl) ?_
            refine lv_iload_n hx hb dX1_setTemperature_52 rfl (lv_at hl 4 rfl) ?_
            refine ziast hx hb hE hS hw 1 yE_1 (h).toNat (by omega) (by omega) (by omega) dX1_setTemperature_53 (fun H locs hw hS => ?_)
            have hw := hw.cong (yU_a 0 (by decide) ((h).toNat) (t) rfl)
            obtain ⟨ya_1, hya_1⟩ : ∃ z : Nat → Nat → Int, z = va_up yb 0 (va_up (yb 0) ((h).toNat) (t)) := ⟨_, rfl⟩
            rw [← hya_1] at hw
            refine zi_iinc (lv' := [(4, .int (iI (h + 1))), (0, .ref (ad 0)), (1, .int (iI (a))), (2, .int (iI (b))), (3, .int (iI (t)))]) hx hb dX1_setTemperature_54 hl (k := 0) rfl (by decide) rfl (fun ls hl => ?_)
            refine lv_goto (tgt := 32) hx hb dX1_setTemperature_57 (by decide) ?_
            have hY := rU_s (k := 0) (p := h.toNat) rU_r hya_1
            exact ih (h + 1) ya_1 _ _ _ (by omega) (by omega) (fun r hr => (rU_row hY.1 hr).trans (hr9 r hr)) (by rw [hya_1, up_same, hT0, setT_s _ _ _ _ (by omega) (by omega), show h + 1 - 1 = h by omega]) hw hS (lv_sub hl [0, 1, 2, 3, 4] rfl)
    exact loop_32 1001 a ya _ _ _ (by omega) (by omega) (fun _ _ => rfl) (by rw [setT_a]) hw hS (lv_sub hl [0, 1, 2, 3, 4] rfl)

set_option maxHeartbeats 4000000 in
set_option maxRecDepth 100000 in
theorem c_X1_pours_ok (l : Launch) (D : va_G) (cy : Nat → ClassId) (A : Nat → Prop) (ad : Nat → Nat) (ya : Nat → Nat → Int) (yi : Nat → Int) (pr : Nat → Option PS) (H0 : Heap) (hw : zW D A ad (yE cy ad ya yi pr) H0) : Met l yX1_pours wsX1_pours ({ frames := 0, cells := 0, slots := 0, locals := 0 }) (zPc D cy A [.ref (ad 0)] H0) (zQi (fun z H1 => H1 = H0 ∧ z = cntY pr 10) A) 0 0 A := by
  refine Met.ofW (cc := cX1_pours) (maxL := 6) (ret := (some .int)) (by decide) rfl ?_
  intro pg en s mt args below meth c s₁ B hml hv
  obtain ⟨rfl, hH, hE⟩ := hv
  subst hH
  have hx := B.exec
  have hb := B.bytes
  have hr := B.returns
  have hts := atoms_spec (ws := wsX1_pours) B.pre
  have hown : s.vm.findClass RX1 = some mt.cls := findClass_of_methodNamed B.named
  have hlocks := B.notSynchronized
  have hinX1 : ∀ w ∈ u_ws RX1 TX1 9, w ∈ wsX1_pours := by decide +kernel
  have hS : va_S A s.heap s.heap [] := va_S.rf
  have hl := lv_entry ([.ref (ad 0)]) (n := 6) (Nat.le_of_ble_eq_true rfl)
  rw [lg_entry_eq]
  generalize (lg_sl ([.ref (ad 0)]) ++ List.replicate (6 - (lg_sl ([.ref (ad 0)])).length) Slot.unset).toArray = ls at hl ⊢
  have hl : lv_has ls 6 [(0, .ref (ad 0))] := hl
  refine zi_const hx hb dX1_pours_0 ?_
  refine lv_istore_n (lv' := [(1, .int (iI (0))), (0, .ref (ad 0))]) hx hb dX1_pours_1 rfl hl (by decide) rfl (fun ls hl => ?_)
  refine lv_aload_n hx hb dX1_pours_2 rfl (lv_at hl 1 rfl) ?_
  refine zget (C := RX1) (T := TX1) (N := 9) hx hb hts hinX1 hown hE hw 0 yE_0 rfl 4 (by decide) (hts (.fieldLink RX1 24 "FormworkYard" "pourList" "[LFormworkYard$Pour;") (by decide +kernel)) rfl dX1_pours_3 ?_
  refine lv_astore_n (lv' := [(2, .ref (ad 5)), (1, .int (iI (0))), (0, .ref (ad 0))]) hx hb dX1_pours_6 rfl hl (by decide) rfl (fun ls hl => ?_)
  refine lv_aload_n hx hb dX1_pours_7 rfl (lv_at hl 0 rfl) ?_
  refine zalen hx hb hE hw 5 2 yE_5 rfl (z := 10) rfl dX1_pours_8 ?_
  refine lv_istore_n (lv' := [(3, .int (iI (10))), (2, .ref (ad 5)), (1, .int (iI (0))), (0, .ref (ad 0))]) hx hb dX1_pours_9 rfl hl (by decide) rfl (fun ls hl => ?_)
  refine zi_const hx hb dX1_pours_10 ?_
  refine lv_istore (lv' := [(4, .int (iI (0))), (3, .int (iI (10))), (2, .ref (ad 5)), (1, .int (iI (0))), (0, .ref (ad 0))]) hx hb dX1_pours_11 hl (by decide) rfl (fun ls hl => ?_)
  have loop_13 : ∀ (n : Nat) (i : Nat) (w : Int) (locs : List Loc) (ls : Array Slot), 10 - i < n → (i ≤ 10) → (w = cntY pr i) → va_S A s.heap s.heap locs → lv_has ls 6 [(4, .int (iI ((i : Int)))), (3, .int (iI (10))), (2, .ref (ad 5)), (1, .int (iI (w))), (0, .ref (ad 0))] → W pg l en (headSpec wsX1_pours ({ frames := 0, cells := 0, slots := 0, locals := 0 })).room s mt ([.ref (ad 0)] : List Value).toArray below meth c s.heap locs 0 0 (MQ below (zQi (fun z H1 => H1 = s.heap ∧ z = cntY pr 10) A) ([.ref (ad 0)] : List Value).toArray s 0 0 A) (F0 mt 13 ls []) := by
    intro n
    induction n with
    | zero =>
      intro i w locs ls hm hi hk
      exfalso; omega
    | succ n ih =>
      intro i w locs ls hm hi hk hS hl
      have hcb := cntY_b (pr := pr) i
      refine lv_iload hx hb dX1_pours_13 (lv_at hl 0 rfl) ?_
      refine lv_iload_n hx hb dX1_pours_15 rfl (lv_at hl 1 rfl) ?_
      refine zc_ge (tgt := 39) hx hb dX1_pours_16 (by decide) (by first | decide | (constructor <;> omega)) (by first | decide | (constructor <;> omega)) (fun c_16 => ?_) (fun c_16 => ?_)
      · refine lv_iload_n hx hb dX1_pours_39 rfl (lv_at hl 3 rfl) ?_
        refine ziret hx hb hr hlocks hS (Nat.le_of_ble_eq_true rfl) (Nat.le_of_ble_eq_true rfl) (by first | decide | (constructor <;> omega)) ?_ dX1_pours_40
        exact ⟨rfl, by rw [hk, show i = 10 by omega]⟩
      · refine lv_aload_n hx hb dX1_pours_19 rfl (lv_at hl 2 rfl) ?_
        refine lv_iload hx hb dX1_pours_20 (lv_at hl 0 rfl) ?_
        refine zaald hx hb hE hw 5 yE_5 i rfl (by omega) (by omega) dX1_pours_22 ?_
        rcases hp_22 : pr i with _ | p_22
        · rw [yR_0 hp_22]
          refine lv_astoreN (lv' := [(5, .null), (4, .int (iI ((i : Int)))), (3, .int (iI (10))), (2, .ref (ad 5)), (1, .int (iI (w))), (0, .ref (ad 0))]) hx hb dX1_pours_23 hl (by decide) rfl (fun ls hl => ?_)
          refine lv_aloadN hx hb dX1_pours_25 (lv_at hl 0 rfl) ?_
          refine lv_ifnullN (tgt := 33) hx hb dX1_pours_27 (by decide) ?_
          refine zi_iinc (lv' := [(4, .int (iI ((i : Int) + 1))), (5, .null), (3, .int (iI (10))), (2, .ref (ad 5)), (1, .int (iI (w))), (0, .ref (ad 0))]) hx hb dX1_pours_33 hl (k := 1) rfl (by decide) rfl (fun ls hl => ?_)
          refine lv_goto (tgt := 13) hx hb dX1_pours_36 (by decide) ?_
          exact ih (i + 1) (w) _ _ (by omega) (by omega) (by rw [cntY_n hp_22]; omega) hS (lv_sub hl [0, 2, 3, 4, 5] rfl)
        · rw [yR_1 hp_22]
          refine lv_astore (lv' := [(5, .ref (ad (10 + 3 * i))), (4, .int (iI ((i : Int)))), (3, .int (iI (10))), (2, .ref (ad 5)), (1, .int (iI (w))), (0, .ref (ad 0))]) hx hb dX1_pours_23 hl (by decide) rfl (fun ls hl => ?_)
          refine lv_aload hx hb dX1_pours_25 (lv_at hl 0 rfl) ?_
          refine lv_ifnull hx hb dX1_pours_27 ?_
          refine zi_iinc (lv' := [(1, .int (iI (w + 1))), (5, .ref (ad (10 + 3 * i))), (4, .int (iI ((i : Int)))), (3, .int (iI (10))), (2, .ref (ad 5)), (0, .ref (ad 0))]) hx hb dX1_pours_30 hl (k := 4) rfl (by decide) rfl (fun ls hl => ?_)
          refine zi_iinc (lv' := [(4, .int (iI ((i : Int) + 1))), (1, .int (iI (w + 1))), (5, .ref (ad (10 + 3 * i))), (3, .int (iI (10))), (2, .ref (ad 5)), (0, .ref (ad 0))]) hx hb dX1_pours_33 hl (k := 2) rfl (by decide) rfl (fun ls hl => ?_)
          refine lv_goto (tgt := 13) hx hb dX1_pours_36 (by decide) ?_
          exact ih (i + 1) (w + 1) _ _ (by omega) (by omega) (by rw [cntY_s hp_22]; omega) hS (lv_sub hl [0, 3, 4, 1, 5] rfl)
  exact loop_13 11 0 0 _ _ (by omega) (by omega) rfl hS (lv_sub hl [0, 1, 2, 3, 4] rfl)

set_option maxHeartbeats 4000000 in
set_option maxRecDepth 100000 in
theorem c_X1_endOf_ok (l : Launch) (D : va_G) (cy : Nat → ClassId) (A : Nat → Prop) (ad : Nat → Nat) (ya : Nat → Nat → Int) (yi : Nat → Int) (pr : Nat → Option PS) (H0 : Heap) (i : Nat) (p0 : PS) (hw : zW D A ad (yE cy ad ya yi pr) H0) (hi : i < 10) (hp0 : pr i = some p0) (hz : zr (p0.1 7)) : Met l yX1_endOf wsX1_endOf ({ frames := 2, cells := 0, slots := 0, locals := 42 }) (zPc D cy A [.ref (ad 0), .int (iI ((i : Int)))] H0) (zQi (fun z H1 => H1 = H0 ∧ z = p0.1 7) A) 0 0 A := by
  refine Met.ofW (cc := cX1_endOf) (maxL := 3) (ret := (some .int)) (by decide) rfl ?_
  intro pg en s mt args below meth c s₁ B hml hv
  obtain ⟨rfl, hH, hE⟩ := hv
  subst hH
  have hx := B.exec
  have hb := B.bytes
  have hr := B.returns
  have hts := atoms_spec (ws := wsX1_endOf) B.pre
  have hown : s.vm.findClass RX1 = some mt.cls := findClass_of_methodNamed B.named
  have hlocks := B.notSynchronized
  have hinX0 : ∀ w ∈ u_ws RX0 TX0 13, w ∈ wsX1_endOf := by decide +kernel
  have hS : va_S A s.heap s.heap [] := va_S.rf
  have hl := lv_entry ([.ref (ad 0), .int (iI ((i : Int)))]) (n := 3) (Nat.le_of_ble_eq_true rfl)
  rw [lg_entry_eq]
  generalize (lg_sl ([.ref (ad 0), .int (iI ((i : Int)))]) ++ List.replicate (3 - (lg_sl ([.ref (ad 0), .int (iI ((i : Int)))])).length) Slot.unset).toArray = ls at hl ⊢
  have hl : lv_has ls 3 [(0, .ref (ad 0)), (1, .int (iI ((i : Int))))] := hl
  refine lv_aload_n hx hb dX1_endOf_0 rfl (lv_at hl 0 rfl) ?_
  refine lv_iload_n hx hb dX1_endOf_1 rfl (lv_at hl 1 rfl) ?_
  refine zcallq (va_runV (As := [.int (iI ((i : Int)))]) (rest := []) ⟨hx, hb, hml, hown, hts⟩ (c_X1_existing_ok l D cy A ad ya yi pr _ i p0 hw (by omega) hp0) (cwV 1 hts gX1_endOf_X1_existing rfl rfl rfl (by decide +kernel) ⟨(Nat.le_of_ble_eq_true rfl), (Nat.le_of_ble_eq_true rfl)⟩) (zPV hE hS hw (ci := 1) (k0 := 0) rfl yE_0) rfl rfl hl.1 rfl (lv_room (Nat.le_of_ble_eq_true rfl)) dX1_endOf_2 ⟨(Nat.le_of_ble_eq_true rfl), (Nat.le_of_ble_eq_true rfl)⟩) hS (fun z_2 H1 locs hq hz1 hk1 hS => ?_)
  obtain ⟨hqe, hv_2⟩ := hq
  replace hqe := hqe.symm
  subst hqe
  subst hv_2
  rw [zrf]
  refine lv_astore_n (lv' := [(2, .ref (ad (10 + 3 * i))), (0, .ref (ad 0)), (1, .int (iI ((i : Int))))]) hx hb dX1_endOf_5 rfl hl (by decide) rfl (fun ls hl => ?_)
  refine lv_aload_n hx hb dX1_endOf_6 rfl (lv_at hl 0 rfl) ?_
  refine zgetN (own := RX1) (C := RX0) (T := TX0) (N := 13) (index := 120) (host := RX1) hx hb hts hinX0 hown hE hw (10 + 3 * i) (yE_p (by omega) hp0) rfl 7 (by decide) (by decide +kernel) rfl dX1_endOf_7 ?_
  refine ziret hx hb hr hlocks hS (Nat.le_of_ble_eq_true rfl) (Nat.le_of_ble_eq_true rfl) (by first | decide | (constructor <;> omega)) ?_ dX1_endOf_10
  exact ⟨rfl, rfl⟩

set_option maxHeartbeats 4000000 in
set_option maxRecDepth 100000 in
theorem c_X1_struck_ok (l : Launch) (D : va_G) (cy : Nat → ClassId) (A : Nat → Prop) (ad : Nat → Nat) (ya : Nat → Nat → Int) (yi : Nat → Int) (pr : Nat → Option PS) (H0 : Heap) (i : Nat) (p0 : PS) (hw : zW D A ad (yE cy ad ya yi pr) H0) (hi : i < 10) (hp0 : pr i = some p0) (hz : zr (p0.1 8)) : Met l yX1_struck wsX1_struck ({ frames := 2, cells := 0, slots := 0, locals := 42 }) (zPc D cy A [.ref (ad 0), .int (iI ((i : Int)))] H0) (zQi (fun z H1 => H1 = H0 ∧ z = p0.1 8) A) 0 0 A := by
  refine Met.ofW (cc := cX1_struck) (maxL := 3) (ret := (some .int)) (by decide) rfl ?_
  intro pg en s mt args below meth c s₁ B hml hv
  obtain ⟨rfl, hH, hE⟩ := hv
  subst hH
  have hx := B.exec
  have hb := B.bytes
  have hr := B.returns
  have hts := atoms_spec (ws := wsX1_struck) B.pre
  have hown : s.vm.findClass RX1 = some mt.cls := findClass_of_methodNamed B.named
  have hlocks := B.notSynchronized
  have hinX0 : ∀ w ∈ u_ws RX0 TX0 13, w ∈ wsX1_struck := by decide +kernel
  have hS : va_S A s.heap s.heap [] := va_S.rf
  have hl := lv_entry ([.ref (ad 0), .int (iI ((i : Int)))]) (n := 3) (Nat.le_of_ble_eq_true rfl)
  rw [lg_entry_eq]
  generalize (lg_sl ([.ref (ad 0), .int (iI ((i : Int)))]) ++ List.replicate (3 - (lg_sl ([.ref (ad 0), .int (iI ((i : Int)))])).length) Slot.unset).toArray = ls at hl ⊢
  have hl : lv_has ls 3 [(0, .ref (ad 0)), (1, .int (iI ((i : Int))))] := hl
  refine lv_aload_n hx hb dX1_struck_0 rfl (lv_at hl 0 rfl) ?_
  refine lv_iload_n hx hb dX1_struck_1 rfl (lv_at hl 1 rfl) ?_
  refine zcallq (va_runV (As := [.int (iI ((i : Int)))]) (rest := []) ⟨hx, hb, hml, hown, hts⟩ (c_X1_existing_ok l D cy A ad ya yi pr _ i p0 hw (by omega) hp0) (cwV 1 hts gX1_struck_X1_existing rfl rfl rfl (by decide +kernel) ⟨(Nat.le_of_ble_eq_true rfl), (Nat.le_of_ble_eq_true rfl)⟩) (zPV hE hS hw (ci := 1) (k0 := 0) rfl yE_0) rfl rfl hl.1 rfl (lv_room (Nat.le_of_ble_eq_true rfl)) dX1_struck_2 ⟨(Nat.le_of_ble_eq_true rfl), (Nat.le_of_ble_eq_true rfl)⟩) hS (fun z_2 H1 locs hq hz1 hk1 hS => ?_)
  obtain ⟨hqe, hv_2⟩ := hq
  replace hqe := hqe.symm
  subst hqe
  subst hv_2
  rw [zrf]
  refine lv_astore_n (lv' := [(2, .ref (ad (10 + 3 * i))), (0, .ref (ad 0)), (1, .int (iI ((i : Int))))]) hx hb dX1_struck_5 rfl hl (by decide) rfl (fun ls hl => ?_)
  refine lv_aload_n hx hb dX1_struck_6 rfl (lv_at hl 0 rfl) ?_
  refine zgetN (own := RX1) (C := RX0) (T := TX0) (N := 13) (index := 132) (host := RX1) hx hb hts hinX0 hown hE hw (10 + 3 * i) (yE_p (by omega) hp0) rfl 8 (by decide) (by decide +kernel) rfl dX1_struck_7 ?_
  refine ziret hx hb hr hlocks hS (Nat.le_of_ble_eq_true rfl) (Nat.le_of_ble_eq_true rfl) (by first | decide | (constructor <;> omega)) ?_ dX1_struck_10
  exact ⟨rfl, rfl⟩

set_option maxHeartbeats 4000000 in
set_option maxRecDepth 100000 in
theorem c_X1_freeFrom_ok (l : Launch) (D : va_G) (cy : Nat → ClassId) (A : Nat → Prop) (ad : Nat → Nat) (ya : Nat → Nat → Int) (yi : Nat → Int) (pr : Nat → Option PS) (H0 : Heap) (i : Nat) (p0 : PS) (hw : zW D A ad (yE cy ad ya yi pr) H0) (hi : i < 10) (hp0 : pr i = some p0) (hz : 0 ≤ p0.1 10 ∧ p0.1 10 ≤ 1000) : Met l yX1_freeFrom wsX1_freeFrom ({ frames := 2, cells := 0, slots := 0, locals := 42 }) (zPc D cy A [.ref (ad 0), .int (iI ((i : Int)))] H0) (zQi (fun z H1 => H1 = H0 ∧ z = (if p0.1 10 < 1000 then p0.1 10 else -1)) A) 0 0 A := by
  refine Met.ofW (cc := cX1_freeFrom) (maxL := 3) (ret := (some .int)) (by decide) rfl ?_
  intro pg en s mt args below meth c s₁ B hml hv
  obtain ⟨rfl, hH, hE⟩ := hv
  subst hH
  have hx := B.exec
  have hb := B.bytes
  have hr := B.returns
  have hts := atoms_spec (ws := wsX1_freeFrom) B.pre
  have hown : s.vm.findClass RX1 = some mt.cls := findClass_of_methodNamed B.named
  have hlocks := B.notSynchronized
  have hinX0 : ∀ w ∈ u_ws RX0 TX0 13, w ∈ wsX1_freeFrom := by decide +kernel
  have hS : va_S A s.heap s.heap [] := va_S.rf
  have hl := lv_entry ([.ref (ad 0), .int (iI ((i : Int)))]) (n := 3) (Nat.le_of_ble_eq_true rfl)
  rw [lg_entry_eq]
  generalize (lg_sl ([.ref (ad 0), .int (iI ((i : Int)))]) ++ List.replicate (3 - (lg_sl ([.ref (ad 0), .int (iI ((i : Int)))])).length) Slot.unset).toArray = ls at hl ⊢
  have hl : lv_has ls 3 [(0, .ref (ad 0)), (1, .int (iI ((i : Int))))] := hl
  refine lv_aload_n hx hb dX1_freeFrom_0 rfl (lv_at hl 0 rfl) ?_
  refine lv_iload_n hx hb dX1_freeFrom_1 rfl (lv_at hl 1 rfl) ?_
  refine zcallq (va_runV (As := [.int (iI ((i : Int)))]) (rest := []) ⟨hx, hb, hml, hown, hts⟩ (c_X1_existing_ok l D cy A ad ya yi pr _ i p0 hw (by omega) hp0) (cwV 1 hts gX1_freeFrom_X1_existing rfl rfl rfl (by decide +kernel) ⟨(Nat.le_of_ble_eq_true rfl), (Nat.le_of_ble_eq_true rfl)⟩) (zPV hE hS hw (ci := 1) (k0 := 0) rfl yE_0) rfl rfl hl.1 rfl (lv_room (Nat.le_of_ble_eq_true rfl)) dX1_freeFrom_2 ⟨(Nat.le_of_ble_eq_true rfl), (Nat.le_of_ble_eq_true rfl)⟩) hS (fun z_2 H1 locs hq hz1 hk1 hS => ?_)
  obtain ⟨hqe, hv_2⟩ := hq
  replace hqe := hqe.symm
  subst hqe
  subst hv_2
  rw [zrf]
  refine lv_astore_n (lv' := [(2, .ref (ad (10 + 3 * i))), (0, .ref (ad 0)), (1, .int (iI ((i : Int))))]) hx hb dX1_freeFrom_5 rfl hl (by decide) rfl (fun ls hl => ?_)
  refine lv_aload_n hx hb dX1_freeFrom_6 rfl (lv_at hl 0 rfl) ?_
  refine zgetN (own := RX1) (C := RX0) (T := TX0) (N := 13) (index := 135) (host := RX1) hx hb hts hinX0 hown hE hw (10 + 3 * i) (yE_p (by omega) hp0) rfl 10 (by decide) (by decide +kernel) rfl dX1_freeFrom_7 ?_
  refine zi_sipush hx hb dX1_freeFrom_10 (by decide) ?_
  refine zc_ge (tgt := 23) hx hb dX1_freeFrom_13 (by decide) (by first | decide | (constructor <;> omega)) (by first | decide | (constructor <;> omega)) (fun c_13 => ?_) (fun c_13 => ?_)
  · refine zi_const hx hb dX1_freeFrom_23 ?_
    refine ziret hx hb hr hlocks hS (Nat.le_of_ble_eq_true rfl) (Nat.le_of_ble_eq_true rfl) (by first | decide | (constructor <;> omega)) ?_ dX1_freeFrom_24
    exact ⟨rfl, by split <;> omega⟩
  · refine lv_aload_n hx hb dX1_freeFrom_16 rfl (lv_at hl 0 rfl) ?_
    refine zgetN (own := RX1) (C := RX0) (T := TX0) (N := 13) (index := 135) (host := RX1) hx hb hts hinX0 hown hE hw (10 + 3 * i) (yE_p (by omega) hp0) rfl 10 (by decide) (by decide +kernel) rfl dX1_freeFrom_17 ?_
    refine lv_goto (tgt := 24) hx hb dX1_freeFrom_20 (by decide) ?_
    refine ziret hx hb hr hlocks hS (Nat.le_of_ble_eq_true rfl) (Nat.le_of_ble_eq_true rfl) (by first | decide | (constructor <;> omega)) ?_ dX1_freeFrom_24
    exact ⟨rfl, by split <;> omega⟩

set_option maxHeartbeats 4000000 in
set_option maxRecDepth 100000 in
theorem c_X1_need_ok (l : Launch) (D : va_G) (cy : Nat → ClassId) (A : Nat → Prop) (ad : Nat → Nat) (ya : Nat → Nat → Int) (yi : Nat → Int) (pr : Nat → Option PS) (H0 : Heap) (h : Int) (hw : zW D A ad (yE cy ad ya yi pr) H0) (h1 : 0 ≤ h ∧ h < 1000) (ha : pA pr) : Met l yX1_need wsX1_need ({ frames := 2, cells := 0, slots := 0, locals := 47 }) (zPc D cy A [.ref (ad 0), .int (iI (h))] H0) (zQi (fun z H1 => H1 = H0 ∧ z = nY pr h 10) A) 0 0 A := by
  refine Met.ofW (cc := cX1_need) (maxL := 2) (ret := (some .int)) (by decide) rfl ?_
  intro pg en s mt args below meth c s₁ B hml hv
  obtain ⟨rfl, hH, hE⟩ := hv
  subst hH
  have hx := B.exec
  have hb := B.bytes
  have hr := B.returns
  have hts := atoms_spec (ws := wsX1_need) B.pre
  have hown : s.vm.findClass RX1 = some mt.cls := findClass_of_methodNamed B.named
  have hlocks := B.notSynchronized
  have hS : va_S A s.heap s.heap [] := va_S.rf
  have hl := lv_entry ([.ref (ad 0), .int (iI (h))]) (n := 2) (Nat.le_of_ble_eq_true rfl)
  rw [lg_entry_eq]
  generalize (lg_sl ([.ref (ad 0), .int (iI (h))]) ++ List.replicate (2 - (lg_sl ([.ref (ad 0), .int (iI (h))])).length) Slot.unset).toArray = ls at hl ⊢
  have hl : lv_has ls 2 [(0, .ref (ad 0)), (1, .int (iI (h)))] := hl
  refine lv_iload_n hx hb dX1_need_0 rfl (lv_at hl 1 rfl) ?_
  refine zcallv (va_runS (As := [.int (iI (h))]) (rest := []) ⟨hx, hb, hml, hown, hts⟩ (c_X1_requireHour_ok l D cy A ad _ (h) (by omega)) (va_cwS 1 hts gX1_need_X1_requireHour rfl rfl rfl (by decide +kernel) ⟨(Nat.le_of_ble_eq_true rfl), (Nat.le_of_ble_eq_true rfl)⟩) (zPS hE hS) rfl rfl hl.1 rfl (lv_room (Nat.le_of_ble_eq_true rfl)) dX1_need_1 ⟨(Nat.le_of_ble_eq_true rfl), (Nat.le_of_ble_eq_true rfl)⟩) hS (fun H1 locs hq hz1 hk1 hS => ?_)
  replace hq := hq.symm
  subst hq
  refine lv_aload_n hx hb dX1_need_4 rfl (lv_at hl 0 rfl) ?_
  refine lv_iload_n hx hb dX1_need_5 rfl (lv_at hl 1 rfl) ?_
  refine zcalli (va_runV (As := [.int (iI (h))]) (rest := []) ⟨hx, hb, hml, hown, hts⟩ (c_X1_needIn l D cy A ad ya yi pr _ (h) hw (by first | decide | (constructor <;> omega)) ha) (cwV 1 hts gX1_need_X1_needIn rfl rfl rfl (by decide +kernel) ⟨(Nat.le_of_ble_eq_true rfl), (Nat.le_of_ble_eq_true rfl)⟩) (zPV hE hS hw (ci := 1) (k0 := 0) rfl yE_0) rfl rfl hl.1 rfl (lv_room (Nat.le_of_ble_eq_true rfl)) dX1_need_6 ⟨(Nat.le_of_ble_eq_true rfl), (Nat.le_of_ble_eq_true rfl)⟩) hS (fun z_6 H1 locs hz_6 hq hz1 hk1 hS => ?_)
  obtain ⟨hqe, hv_6⟩ := hq
  replace hqe := hqe.symm
  subst hqe
  refine ziret hx hb hr hlocks hS (Nat.le_of_ble_eq_true rfl) (Nat.le_of_ble_eq_true rfl) (by first | decide | (constructor <;> omega)) ?_ dX1_need_9
  exact ⟨rfl, hv_6⟩

set_option maxHeartbeats 4000000 in
set_option maxRecDepth 100000 in
theorem c_X1_peak_ok (l : Launch) (D : va_G) (cy : Nat → ClassId) (A : Nat → Prop) (ad : Nat → Nat) (ya : Nat → Nat → Int) (yi : Nat → Int) (pr : Nat → Option PS) (H0 : Heap) (hw : zW D A ad (yE cy ad ya yi pr) H0) (ha : pA pr) : Met l yX1_peak wsX1_peak ({ frames := 3, cells := 0, slots := 0, locals := 68 }) (zPc D cy A [.ref (ad 0)] H0) (zQi (fun z H1 => ∃ yb, zW D A ad (yE cy ad yb yi pr) H1 ∧ (∀ r, r ≠ 2 → yb r = ya r) ∧ z = mx (fun j : Nat => nY pr j 10) 1000) A) 0 0 A := by
  refine Met.ofW (cc := cX1_peak) (maxL := 6) (ret := (some .int)) (by decide) rfl ?_
  intro pg en s mt args below meth c s₁ B hml hv
  obtain ⟨rfl, hH, hE⟩ := hv
  subst hH
  have hx := B.exec
  have hb := B.bytes
  have hr := B.returns
  have hts := atoms_spec (ws := wsX1_peak) B.pre
  have hown : s.vm.findClass RX1 = some mt.cls := findClass_of_methodNamed B.named
  have hlocks := B.notSynchronized
  have hinX1 : ∀ w ∈ u_ws RX1 TX1 9, w ∈ wsX1_peak := by decide +kernel
  have hS : va_S A s.heap s.heap [] := va_S.rf
  have hl := lv_entry ([.ref (ad 0)]) (n := 6) (Nat.le_of_ble_eq_true rfl)
  rw [lg_entry_eq]
  generalize (lg_sl ([.ref (ad 0)]) ++ List.replicate (6 - (lg_sl ([.ref (ad 0)])).length) Slot.unset).toArray = ls at hl ⊢
  have hl : lv_has ls 6 [(0, .ref (ad 0))] := hl
  refine lv_aload_n hx hb dX1_peak_0 rfl (lv_at hl 0 rfl) ?_
  refine zcallv (va_runV (As := []) (rest := []) ⟨hx, hb, hml, hown, hts⟩ (c_X1_sumNeeds l D cy A ad ya yi pr _ hw ha) (cwV 0 hts gX1_peak_X1_sumNeeds rfl rfl rfl (by decide +kernel) ⟨(Nat.le_of_ble_eq_true rfl), (Nat.le_of_ble_eq_true rfl)⟩) (zPV hE hS hw (ci := 1) (k0 := 0) rfl yE_0) rfl rfl hl.1 rfl (lv_room (Nat.le_of_ble_eq_true rfl)) dX1_peak_1 ⟨(Nat.le_of_ble_eq_true rfl), (Nat.le_of_ble_eq_true rfl)⟩) hS (fun H1 locs hq hz1 hk1 hS => ?_)
  obtain ⟨ya_c1, hw, hnr_1, hnn_1⟩ := hq
  refine zi_const hx hb dX1_peak_4 ?_
  refine lv_istore_n (lv' := [(1, .int (iI (0))), (0, .ref (ad 0))]) hx hb dX1_peak_5 rfl hl (by decide) rfl (fun ls hl => ?_)
  refine lv_aload_n hx hb dX1_peak_6 rfl (lv_at hl 1 rfl) ?_
  refine zget (C := RX1) (T := TX1) (N := 9) hx hb hts hinX1 hown hE hw 0 yE_0 rfl 2 (by decide) (hts (.fieldLink RX1 16 "FormworkYard" "needs" "[I") (by decide +kernel)) rfl dX1_peak_7 ?_
  refine lv_astore_n (lv' := [(2, .ref (ad 3)), (1, .int (iI (0))), (0, .ref (ad 0))]) hx hb dX1_peak_10 rfl hl (by decide) rfl (fun ls hl => ?_)
  refine lv_aload_n hx hb dX1_peak_11 rfl (lv_at hl 0 rfl) ?_
  refine zalen hx hb hE hw 3 0 yE_3 rfl (z := 1000) rfl dX1_peak_12 ?_
  refine lv_istore_n (lv' := [(3, .int (iI (1000))), (2, .ref (ad 3)), (1, .int (iI (0))), (0, .ref (ad 0))]) hx hb dX1_peak_13 rfl hl (by decide) rfl (fun ls hl => ?_)
  refine zi_const hx hb dX1_peak_14 ?_
  refine lv_istore (lv' := [(4, .int (iI (0))), (3, .int (iI (1000))), (2, .ref (ad 3)), (1, .int (iI (0))), (0, .ref (ad 0))]) hx hb dX1_peak_15 hl (by decide) rfl (fun ls hl => ?_)
  have loop_17 : ∀ (n : Nat) (i : Nat) (w : Int) (H : Heap) (locs : List Loc) (ls : Array Slot), 1000 - i < n → (i ≤ 1000) → (w = mx (fun j : Nat => nY pr j 10) i) → zW D A ad (yE cy ad ya_c1 yi pr) H → va_S A s.heap H locs → lv_has ls 6 [(4, .int (iI ((i : Int)))), (3, .int (iI (1000))), (2, .ref (ad 3)), (1, .int (iI (w))), (0, .ref (ad 0))] → W pg l en (headSpec wsX1_peak ({ frames := 3, cells := 0, slots := 0, locals := 68 })).room s mt ([.ref (ad 0)] : List Value).toArray below meth c H locs 0 0 (MQ below (zQi (fun z H1 => ∃ yb, zW D A ad (yE cy ad yb yi pr) H1 ∧ (∀ r, r ≠ 2 → yb r = ya r) ∧ z = mx (fun j : Nat => nY pr j 10) 1000) A) ([.ref (ad 0)] : List Value).toArray s 0 0 A) (F0 mt 17 ls []) := by
    intro n
    induction n with
    | zero =>
      intro i w H locs ls hm hi hk
      exfalso; omega
    | succ n ih =>
      intro i w H locs ls hm hi hk hw hS hl
      have hmb := mx_b (f := fun j : Nat => nY pr j 10) (b := 300) (by omega) (n := i) (fun k hk2 => (nY_b ha (Nat.le_refl 10)).2)
      refine lv_iload hx hb dX1_peak_17 (lv_at hl 0 rfl) ?_
      refine lv_iload_n hx hb dX1_peak_19 rfl (lv_at hl 1 rfl) ?_
      refine zc_ge (tgt := 42) hx hb dX1_peak_20 (by decide) (by first | decide | (constructor <;> omega)) (by first | decide | (constructor <;> omega)) (fun c_20 => ?_) (fun c_20 => ?_)
      · refine lv_iload_n hx hb dX1_peak_42 rfl (lv_at hl 3 rfl) ?_
        refine ziret hx hb hr hlocks hS (Nat.le_of_ble_eq_true rfl) (Nat.le_of_ble_eq_true rfl) (by first | decide | (constructor <;> omega)) ?_ dX1_peak_43
        exact ⟨_, hw, hnr_1, by rw [hk, show i = 1000 by omega]⟩
      · refine lv_aload_n hx hb dX1_peak_23 rfl (lv_at hl 2 rfl) ?_
        refine lv_iload hx hb dX1_peak_24 (lv_at hl 0 rfl) ?_
        refine ziald hx hb hE hw 3 yE_3 i rfl (by omega) (by omega) dX1_peak_26 ?_
        refine zi_top (fun v_26 hv_26 => ?_)
        rw [hnn_1 i (by omega)] at hv_26
        have hnb := nY_b (h := i) ha (Nat.le_refl 10)
        refine lv_istore (lv' := [(5, .int (iI (v_26))), (4, .int (iI ((i : Int)))), (3, .int (iI (1000))), (2, .ref (ad 3)), (1, .int (iI (w))), (0, .ref (ad 0))]) hx hb dX1_peak_27 hl (by decide) rfl (fun ls hl => ?_)
        refine lv_iload_n hx hb dX1_peak_29 rfl (lv_at hl 4 rfl) ?_
        refine lv_iload hx hb dX1_peak_30 (lv_at hl 0 rfl) ?_
        refine va_mmax hx hb (hml.trans hl.1.symm) hown (hts (.methodLink RX1 144 Lib.Math.max.name) (by decide +kernel)) (hts (.static Lib.Math.max.name) (by decide +kernel)) (hts (.initialized "java/lang/Math") (by decide +kernel)) (hts (.code Lib.Math.max.name Lib.Math.max.code 2 (some .int)) (by decide +kernel)) (Nat.le_of_ble_eq_true rfl) (Nat.le_of_ble_eq_true rfl) (Nat.le_of_ble_eq_true rfl) (Nat.le_of_ble_eq_true rfl) dX1_peak_32 ?_
        rw [iI_max (a := w) (b := v_26) (by first | decide | (constructor <;> omega)) (by first | decide | (constructor <;> omega))]
        refine zi_top (fun x_32 hx_32 => ?_)
        refine lv_istore_n (lv' := [(1, .int (iI (x_32))), (5, .int (iI (v_26))), (4, .int (iI ((i : Int)))), (3, .int (iI (1000))), (2, .ref (ad 3)), (0, .ref (ad 0))]) hx hb dX1_peak_35 rfl hl (by decide) rfl (fun ls hl => ?_)
        refine zi_iinc (lv' := [(4, .int (iI ((i : Int) + 1))), (1, .int (iI (x_32))), (5, .int (iI (v_26))), (3, .int (iI (1000))), (2, .ref (ad 3)), (0, .ref (ad 0))]) hx hb dX1_peak_36 hl (k := 2) rfl (by decide) rfl (fun ls hl => ?_)
        refine lv_goto (tgt := 17) hx hb dX1_peak_39 (by decide) ?_
        exact ih (i + 1) x_32 _ _ _ (by omega) (by omega) (by simp only [mx]; omega) hw hS (lv_sub hl [0, 3, 4, 1, 5] rfl)
  exact loop_17 1001 0 0 _ _ _ (by omega) (by omega) rfl hw hS (lv_sub hl [0, 1, 2, 3, 4] rfl)

set_option maxHeartbeats 4000000 in
set_option maxRecDepth 100000 in
theorem c_X1_peakByOverlaps_ok (l : Launch) (D : va_G) (cy : Nat → ClassId) (A : Nat → Prop) (ad : Nat → Nat) (ya : Nat → Nat → Int) (yi : Nat → Int) (pr : Nat → Option PS) (H0 : Heap) (hw : zW D A ad (yE cy ad ya yi pr) H0) (ha : pA pr) : Met l yX1_peakByOverlaps wsX1_peakByOverlaps ({ frames := 2, cells := 0, slots := 0, locals := 47 }) (zPc D cy A [.ref (ad 0)] H0) (zQi (fun z H1 => H1 = H0 ∧ z = ovY pr 10) A) 0 0 A := by
  refine Met.ofW (cc := cX1_peakByOverlaps) (maxL := 6) (ret := (some .int)) (by decide) rfl ?_
  intro pg en s mt args below meth c s₁ B hml hv
  obtain ⟨rfl, hH, hE⟩ := hv
  subst hH
  have hx := B.exec
  have hb := B.bytes
  have hr := B.returns
  have hts := atoms_spec (ws := wsX1_peakByOverlaps) B.pre
  have hown : s.vm.findClass RX1 = some mt.cls := findClass_of_methodNamed B.named
  have hlocks := B.notSynchronized
  have hinX0 : ∀ w ∈ u_ws RX0 TX0 13, w ∈ wsX1_peakByOverlaps := by decide +kernel
  have hinX1 : ∀ w ∈ u_ws RX1 TX1 9, w ∈ wsX1_peakByOverlaps := by decide +kernel
  have hS : va_S A s.heap s.heap [] := va_S.rf
  have hl := lv_entry ([.ref (ad 0)]) (n := 6) (Nat.le_of_ble_eq_true rfl)
  rw [lg_entry_eq]
  generalize (lg_sl ([.ref (ad 0)]) ++ List.replicate (6 - (lg_sl ([.ref (ad 0)])).length) Slot.unset).toArray = ls at hl ⊢
  have hl : lv_has ls 6 [(0, .ref (ad 0))] := hl
  refine zi_const hx hb dX1_peakByOverlaps_0 ?_
  refine lv_istore_n (lv' := [(1, .int (iI (0))), (0, .ref (ad 0))]) hx hb dX1_peakByOverlaps_1 rfl hl (by decide) rfl (fun ls hl => ?_)
  refine lv_aload_n hx hb dX1_peakByOverlaps_2 rfl (lv_at hl 1 rfl) ?_
  refine zget (C := RX1) (T := TX1) (N := 9) hx hb hts hinX1 hown hE hw 0 yE_0 rfl 4 (by decide) (hts (.fieldLink RX1 24 "FormworkYard" "pourList" "[LFormworkYard$Pour;") (by decide +kernel)) rfl dX1_peakByOverlaps_3 ?_
  refine lv_astore_n (lv' := [(2, .ref (ad 5)), (1, .int (iI (0))), (0, .ref (ad 0))]) hx hb dX1_peakByOverlaps_6 rfl hl (by decide) rfl (fun ls hl => ?_)
  refine lv_aload_n hx hb dX1_peakByOverlaps_7 rfl (lv_at hl 0 rfl) ?_
  refine zalen hx hb hE hw 5 2 yE_5 rfl (z := 10) rfl dX1_peakByOverlaps_8 ?_
  refine lv_istore_n (lv' := [(3, .int (iI (10))), (2, .ref (ad 5)), (1, .int (iI (0))), (0, .ref (ad 0))]) hx hb dX1_peakByOverlaps_9 rfl hl (by decide) rfl (fun ls hl => ?_)
  refine zi_const hx hb dX1_peakByOverlaps_10 ?_
  refine lv_istore (lv' := [(4, .int (iI (0))), (3, .int (iI (10))), (2, .ref (ad 5)), (1, .int (iI (0))), (0, .ref (ad 0))]) hx hb dX1_peakByOverlaps_11 hl (by decide) rfl (fun ls hl => ?_)
  have loop_13 : ∀ (n : Nat) (i : Nat) (w : Int) (locs : List Loc) (ls : Array Slot), 10 - i < n → (i ≤ 10) → (w = ovY pr i) → va_S A s.heap s.heap locs → lv_has ls 6 [(4, .int (iI ((i : Int)))), (3, .int (iI (10))), (2, .ref (ad 5)), (1, .int (iI (w))), (0, .ref (ad 0))] → W pg l en (headSpec wsX1_peakByOverlaps ({ frames := 2, cells := 0, slots := 0, locals := 47 })).room s mt ([.ref (ad 0)] : List Value).toArray below meth c s.heap locs 0 0 (MQ below (zQi (fun z H1 => H1 = s.heap ∧ z = ovY pr 10) A) ([.ref (ad 0)] : List Value).toArray s 0 0 A) (F0 mt 13 ls []) := by
    intro n
    induction n with
    | zero =>
      intro i w locs ls hm hi hk
      exfalso; omega
    | succ n ih =>
      intro i w locs ls hm hi hk hS hl
      have hob := ovY_b ha i
      refine lv_iload hx hb dX1_peakByOverlaps_13 (lv_at hl 0 rfl) ?_
      refine lv_iload_n hx hb dX1_peakByOverlaps_15 rfl (lv_at hl 1 rfl) ?_
      refine zc_ge (tgt := 50) hx hb dX1_peakByOverlaps_16 (by decide) (by first | decide | (constructor <;> omega)) (by first | decide | (constructor <;> omega)) (fun c_16 => ?_) (fun c_16 => ?_)
      · refine lv_iload_n hx hb dX1_peakByOverlaps_50 rfl (lv_at hl 3 rfl) ?_
        refine ziret hx hb hr hlocks hS (Nat.le_of_ble_eq_true rfl) (Nat.le_of_ble_eq_true rfl) (by first | decide | (constructor <;> omega)) ?_ dX1_peakByOverlaps_51
        exact ⟨rfl, by rw [hk, show i = 10 by omega]⟩
      · refine lv_aload_n hx hb dX1_peakByOverlaps_19 rfl (lv_at hl 2 rfl) ?_
        refine lv_iload hx hb dX1_peakByOverlaps_20 (lv_at hl 0 rfl) ?_
        refine zaald hx hb hE hw 5 yE_5 i rfl (by omega) (by omega) dX1_peakByOverlaps_22 ?_
        rcases hp_22 : pr i with _ | p_22
        · rw [yR_0 hp_22]
          refine lv_astoreN (lv' := [(5, .null), (4, .int (iI ((i : Int)))), (3, .int (iI (10))), (2, .ref (ad 5)), (1, .int (iI (w))), (0, .ref (ad 0))]) hx hb dX1_peakByOverlaps_23 hl (by decide) rfl (fun ls hl => ?_)
          refine lv_aloadN hx hb dX1_peakByOverlaps_25 (lv_at hl 0 rfl) ?_
          refine lv_ifnullN (tgt := 44) hx hb dX1_peakByOverlaps_27 (by decide) ?_
          refine zi_iinc (lv' := [(4, .int (iI ((i : Int) + 1))), (5, .null), (3, .int (iI (10))), (2, .ref (ad 5)), (1, .int (iI (w))), (0, .ref (ad 0))]) hx hb dX1_peakByOverlaps_44 hl (k := 1) rfl (by decide) rfl (fun ls hl => ?_)
          refine lv_goto (tgt := 13) hx hb dX1_peakByOverlaps_47 (by decide) ?_
          exact ih (i + 1) w _ _ (by omega) (by omega) (by rw [ovY_n hp_22]; omega) hS (lv_sub hl [0, 2, 3, 4, 5] rfl)
        · rw [yR_1 hp_22]
          obtain ⟨⟨q1, q2, q3, q4, q5, q6⟩, q7, q8⟩ := ha i p_22 (by omega) hp_22
          refine lv_astore (lv' := [(5, .ref (ad (10 + 3 * i))), (4, .int (iI ((i : Int)))), (3, .int (iI (10))), (2, .ref (ad 5)), (1, .int (iI (w))), (0, .ref (ad 0))]) hx hb dX1_peakByOverlaps_23 hl (by decide) rfl (fun ls hl => ?_)
          refine lv_aload hx hb dX1_peakByOverlaps_25 (lv_at hl 0 rfl) ?_
          refine lv_ifnull hx hb dX1_peakByOverlaps_27 ?_
          refine lv_iload_n hx hb dX1_peakByOverlaps_30 rfl (lv_at hl 4 rfl) ?_
          refine lv_aload_n hx hb dX1_peakByOverlaps_31 rfl (lv_at hl 5 rfl) ?_
          refine lv_aload hx hb dX1_peakByOverlaps_32 (lv_at hl 0 rfl) ?_
          refine zgetN (own := RX1) (C := RX0) (T := TX0) (N := 13) (index := 147) (host := RX1) hx hb hts hinX0 hown hE hw (10 + 3 * i) (yE_p (by omega) hp_22) rfl 9 (by decide) (by decide +kernel) rfl dX1_peakByOverlaps_34 ?_
          refine zcalli (va_runV (As := [.int (iI (p_22.1 9))]) (rest := [.int (iI (w))]) ⟨hx, hb, hml, hown, hts⟩ (c_X1_needIn l D cy A ad ya yi pr _ (p_22.1 9) hw (by first | decide | (constructor <;> omega)) ha) (cwV 1 hts gX1_peakByOverlaps_X1_needIn rfl rfl rfl (by decide +kernel) ⟨(Nat.le_of_ble_eq_true rfl), (Nat.le_of_ble_eq_true rfl)⟩) (zPV hE hS hw (ci := 1) (k0 := 0) rfl yE_0) rfl rfl hl.1 rfl (lv_room (Nat.le_of_ble_eq_true rfl)) dX1_peakByOverlaps_37 ⟨(Nat.le_of_ble_eq_true rfl), (Nat.le_of_ble_eq_true rfl)⟩) hS (fun z_37 H1 locs hz_37 hq hz1 hk1 hS => ?_)
          obtain ⟨hqe, hv_37⟩ := hq
          replace hqe := hqe.symm
          subst hqe
          have hnb := nY_b (h := p_22.1 9) ha (Nat.le_refl 10)
          refine va_mmax hx hb (hml.trans hl.1.symm) hown (hts (.methodLink RX1 144 Lib.Math.max.name) (by decide +kernel)) (hts (.static Lib.Math.max.name) (by decide +kernel)) (hts (.initialized "java/lang/Math") (by decide +kernel)) (hts (.code Lib.Math.max.name Lib.Math.max.code 2 (some .int)) (by decide +kernel)) (Nat.le_of_ble_eq_true rfl) (Nat.le_of_ble_eq_true rfl) (Nat.le_of_ble_eq_true rfl) (Nat.le_of_ble_eq_true rfl) dX1_peakByOverlaps_40 ?_
          rw [iI_max (a := w) (b := z_37) (by first | decide | (constructor <;> omega)) (by first | decide | (constructor <;> omega))]
          refine zi_top (fun x_40 hx_40 => ?_)
          refine lv_istore_n (lv' := [(1, .int (iI (x_40))), (5, .ref (ad (10 + 3 * i))), (4, .int (iI ((i : Int)))), (3, .int (iI (10))), (2, .ref (ad 5)), (0, .ref (ad 0))]) hx hb dX1_peakByOverlaps_43 rfl hl (by decide) rfl (fun ls hl => ?_)
          refine zi_iinc (lv' := [(4, .int (iI ((i : Int) + 1))), (1, .int (iI (x_40))), (5, .ref (ad (10 + 3 * i))), (3, .int (iI (10))), (2, .ref (ad 5)), (0, .ref (ad 0))]) hx hb dX1_peakByOverlaps_44 hl (k := 2) rfl (by decide) rfl (fun ls hl => ?_)
          refine lv_goto (tgt := 13) hx hb dX1_peakByOverlaps_47 (by decide) ?_
          exact ih (i + 1) x_40 _ _ (by omega) (by omega) (by rw [ovY_s hp_22]; omega) hS (lv_sub hl [0, 3, 4, 1, 5] rfl)
  exact loop_13 11 0 0 _ _ (by omega) (by omega) rfl hS (lv_sub hl [0, 1, 2, 3, 4] rfl)

set_option maxHeartbeats 4000000 in
set_option maxRecDepth 100000 in
theorem c_X1_firstShort_ok (l : Launch) (D : va_G) (cy : Nat → ClassId) (A : Nat → Prop) (ad : Nat → Nat) (ya : Nat → Nat → Int) (yi : Nat → Int) (pr : Nat → Option PS) (H0 : Heap) (hw : zW D A ad (yE cy ad ya yi pr) H0) (ha : pA pr) (hg : yB yi) : Met l yX1_firstShort wsX1_firstShort ({ frames := 3, cells := 0, slots := 0, locals := 68 }) (zPc D cy A [.ref (ad 0)] H0) (zQi (fun z H1 => ∃ yb, zW D A ad (yE cy ad yb yi pr) H1 ∧ (∀ r, r ≠ 2 → yb r = ya r) ∧ z = (if fnd (fun h => yi 5 < nY pr h 10) 0 1000 < 1000 then fnd (fun h => yi 5 < nY pr h 10) 0 1000 else -1)) A) 0 0 A := by
  refine Met.ofW (cc := cX1_firstShort) (maxL := 2) (ret := (some .int)) (by decide) rfl ?_
  intro pg en s mt args below meth c s₁ B hml hv
  obtain ⟨rfl, hH, hE⟩ := hv
  subst hH
  have hx := B.exec
  have hb := B.bytes
  have hr := B.returns
  have hts := atoms_spec (ws := wsX1_firstShort) B.pre
  have hown : s.vm.findClass RX1 = some mt.cls := findClass_of_methodNamed B.named
  have hlocks := B.notSynchronized
  have hinX1 : ∀ w ∈ u_ws RX1 TX1 9, w ∈ wsX1_firstShort := by decide +kernel
  have hS : va_S A s.heap s.heap [] := va_S.rf
  have hl := lv_entry ([.ref (ad 0)]) (n := 2) (Nat.le_of_ble_eq_true rfl)
  rw [lg_entry_eq]
  generalize (lg_sl ([.ref (ad 0)]) ++ List.replicate (2 - (lg_sl ([.ref (ad 0)])).length) Slot.unset).toArray = ls at hl ⊢
  have hl : lv_has ls 2 [(0, .ref (ad 0))] := hl
  obtain ⟨g1, g2, g3, g4⟩ := id hg
  refine lv_aload_n hx hb dX1_firstShort_0 rfl (lv_at hl 0 rfl) ?_
  refine zcallv (va_runV (As := []) (rest := []) ⟨hx, hb, hml, hown, hts⟩ (c_X1_sumNeeds l D cy A ad ya yi pr _ hw ha) (cwV 0 hts gX1_firstShort_X1_sumNeeds rfl rfl rfl (by decide +kernel) ⟨(Nat.le_of_ble_eq_true rfl), (Nat.le_of_ble_eq_true rfl)⟩) (zPV hE hS hw (ci := 1) (k0 := 0) rfl yE_0) rfl rfl hl.1 rfl (lv_room (Nat.le_of_ble_eq_true rfl)) dX1_firstShort_1 ⟨(Nat.le_of_ble_eq_true rfl), (Nat.le_of_ble_eq_true rfl)⟩) hS (fun H1 locs hq hz1 hk1 hS => ?_)
  obtain ⟨ya_c1, hw, hnr_1, hnn_1⟩ := hq
  refine zi_const hx hb dX1_firstShort_4 ?_
  refine lv_istore_n (lv' := [(1, .int (iI (0))), (0, .ref (ad 0))]) hx hb dX1_firstShort_5 rfl hl (by decide) rfl (fun ls hl => ?_)
  have loop_6 : ∀ (n : Nat) (i : Nat) (H : Heap) (locs : List Loc) (ls : Array Slot), 1000 - i < n → (i ≤ 1000) → (fnd (fun h => yi 5 < nY pr h 10) 0 1000 = fnd (fun h => yi 5 < nY pr h 10) i (1000 - (i : Int)).toNat) → zW D A ad (yE cy ad ya_c1 yi pr) H → va_S A s.heap H locs → lv_has ls 2 [(1, .int (iI ((i : Int)))), (0, .ref (ad 0))] → W pg l en (headSpec wsX1_firstShort ({ frames := 3, cells := 0, slots := 0, locals := 68 })).room s mt ([.ref (ad 0)] : List Value).toArray below meth c H locs 0 0 (MQ below (zQi (fun z H1 => ∃ yb, zW D A ad (yE cy ad yb yi pr) H1 ∧ (∀ r, r ≠ 2 → yb r = ya r) ∧ z = (if fnd (fun h => yi 5 < nY pr h 10) 0 1000 < 1000 then fnd (fun h => yi 5 < nY pr h 10) 0 1000 else -1)) A) ([.ref (ad 0)] : List Value).toArray s 0 0 A) (F0 mt 6 ls []) := by
    intro n
    induction n with
    | zero =>
      intro i H locs ls hm hi hk
      exfalso; omega
    | succ n ih =>
      intro i H locs ls hm hi hk hw hS hl
      refine lv_iload_n hx hb dX1_firstShort_6 rfl (lv_at hl 0 rfl) ?_
      refine zi_sipush hx hb dX1_firstShort_7 (by decide) ?_
      refine zc_ge (tgt := 34) hx hb dX1_firstShort_10 (by decide) (by first | decide | (constructor <;> omega)) (by first | decide | (constructor <;> omega)) (fun c_10 => ?_) (fun c_10 => ?_)
      · refine zi_const hx hb dX1_firstShort_34 ?_
        refine ziret hx hb hr hlocks hS (Nat.le_of_ble_eq_true rfl) (Nat.le_of_ble_eq_true rfl) (by first | decide | (constructor <;> omega)) ?_ dX1_firstShort_35
        have hst : fnd (fun h => yi 5 < nY pr h 10) i (1000 - (i : Int)).toNat = (i : Int) := fnd_e _ (by omega)
        exact ⟨_, hw, hnr_1, by rw [hk, hst, if_neg (by omega)]⟩
      · refine lv_aload_n hx hb dX1_firstShort_13 rfl (lv_at hl 1 rfl) ?_
        refine zget (C := RX1) (T := TX1) (N := 9) hx hb hts hinX1 hown hE hw 0 yE_0 rfl 2 (by decide) (hts (.fieldLink RX1 16 "FormworkYard" "needs" "[I") (by decide +kernel)) rfl dX1_firstShort_14 ?_
        refine lv_iload_n hx hb dX1_firstShort_17 rfl (lv_at hl 0 rfl) ?_
        refine ziald hx hb hE hw 3 yE_3 i rfl (by omega) (by omega) dX1_firstShort_18 ?_
        refine zi_top (fun v_18 hv_18 => ?_)
        rw [hnn_1 i (by omega)] at hv_18
        have hnb := nY_b (h := i) ha (Nat.le_refl 10)
        refine lv_aload_n hx hb dX1_firstShort_19 rfl (lv_at hl 1 rfl) ?_
        refine zget (C := RX1) (T := TX1) (N := 9) hx hb hts hinX1 hown hE hw 0 yE_0 rfl 5 (by decide) (hts (.fieldLink RX1 28 "FormworkYard" "yardPanels" "I") (by decide +kernel)) rfl dX1_firstShort_20 ?_
        refine zc_le (tgt := 28) hx hb dX1_firstShort_23 (by decide) (by first | decide | (constructor <;> omega)) (by first | decide | (constructor <;> omega)) (fun c_23 => ?_) (fun c_23 => ?_)
        · refine zi_iinc (lv' := [(1, .int (iI ((i : Int) + 1))), (0, .ref (ad 0))]) hx hb dX1_firstShort_28 hl (k := 0) rfl (by decide) rfl (fun ls hl => ?_)
          refine lv_goto (tgt := 6) hx hb dX1_firstShort_31 (by decide) ?_
          have hst : fnd (fun h => yi 5 < nY pr h 10) i (1000 - (i : Int)).toNat = if yi 5 < nY pr i 10 then (i : Int) else fnd (fun h => yi 5 < nY pr h 10) (i + 1) (1000 - ((i : Int) + 1)).toNat := fnd_s _ (by omega)
          rw [if_neg (by omega)] at hst
          exact ih (i + 1) _ _ _ (by omega) (by omega) (hk.trans hst) hw hS (lv_sub hl [0, 1] rfl)
        · refine lv_iload_n hx hb dX1_firstShort_26 rfl (lv_at hl 0 rfl) ?_
          refine ziret hx hb hr hlocks hS (Nat.le_of_ble_eq_true rfl) (Nat.le_of_ble_eq_true rfl) (by first | decide | (constructor <;> omega)) ?_ dX1_firstShort_27
          have hst : fnd (fun h => yi 5 < nY pr h 10) i (1000 - (i : Int)).toNat = if yi 5 < nY pr i 10 then (i : Int) else fnd (fun h => yi 5 < nY pr h 10) (i + 1) (1000 - ((i : Int) + 1)).toNat := fnd_s _ (by omega)
          rw [if_pos (by omega)] at hst
          exact ⟨_, hw, hnr_1, by rw [hk, hst, if_pos (by omega)]⟩
  exact loop_6 1001 0 _ _ _ (by omega) (by omega) rfl hw hS (lv_sub hl [0, 1] rfl)
end
section
theorem pB_ad {p q : PS} {a b : Int} (h : pB p) (h4 : p.1 4 < 4) (h1 : 0 ≤ a ∧ a ≤ 199) (h2 : 1 ≤ b ∧ b ≤ 9) (hr : adR a b p q) : pB q := by
  obtain ⟨q1, q2, q3, q4, q5, q6⟩ := h
  obtain ⟨r1, r2, r3⟩ := hr
  have ef : ∀ j, j ≠ 4 → q.1 j = p.1 j := fun j hj => by rw [r1]; exact up_ne _ _ hj
  have e4 : q.1 4 = p.1 4 + 1 := by rw [r1, up_same]
  unfold pB
  rw [ef 3 (by omega), ef 0 (by omega), ef 1 (by omega), ef 2 (by omega), e4]
  refine ⟨q1, q2, q3, q4, by omega, fun k hk => ?_⟩
  obtain ⟨s1, s2⟩ := r2 k (by omega)
  have hb := ipos_b p.2.1 a (p.1 4).toNat
  rw [s1, s2]
  unfold ins
  rcases Nat.lt_trichotomy k (ipos p.2.1 a (p.1 4).toNat) with c | c | c
  · rw [if_pos c, if_pos c]
    exact q6 k (by omega)
  · rw [if_neg (by omega), if_pos c, if_neg (by omega), if_pos c]
    omega
  · rw [if_neg (by omega), if_neg (by omega), if_neg (by omega), if_neg (by omega)]
    exact q6 (k - 1) (by omega)
set_option maxHeartbeats 4000000 in
set_option maxRecDepth 100000 in
theorem c_X1_move_ok (l : Launch) (D : va_G) (cy : Nat → ClassId) (A : Nat → Prop) (ad : Nat → Nat) (ya : Nat → Nat → Int) (yi : Nat → Int) (pr : Nat → Option PS) (H0 : Heap) (T : Nat → Int) (i : Nat) (p0 : PS) (a : Int) (hw : zW D A ad (yE cy ad ya yi pr) H0) (hi : i < 10) (hp0 : pr i = some p0) (hpb : pB p0) (h1 : 0 ≤ a ∧ a ≤ 900) (hg : yB yi) (hG : gnd T ya) (ht : tOK T) : Met l yX1_move wsX1_move ({ frames := 4, cells := 0, slots := 0, locals := 90 }) (zPc D cy A [.ref (ad 0), .int (iI ((i : Int))), .int (iI (a))] H0) (zQi (fun z H1 => ∃ q, zW D A ad (yE cy ad ya yi (va_up pr i (some q))) H1 ∧ schR T yi (va_up p0.1 3 a, p0.2) q ∧ z = p0.1 3) A) 0 0 A := by
  refine Met.ofW (cc := cX1_move) (maxL := 5) (ret := (some .int)) (by decide) rfl ?_
  intro pg en s mt args below meth c s₁ B hml hv
  obtain ⟨rfl, hH, hE⟩ := hv
  subst hH
  have hx := B.exec
  have hb := B.bytes
  have hr := B.returns
  have hts := atoms_spec (ws := wsX1_move) B.pre
  have hown : s.vm.findClass RX1 = some mt.cls := findClass_of_methodNamed B.named
  have hlocks := B.notSynchronized
  have hinX0 : ∀ w ∈ u_ws RX0 TX0 13, w ∈ wsX1_move := by decide +kernel
  have hS : va_S A s.heap s.heap [] := va_S.rf
  have hl := lv_entry ([.ref (ad 0), .int (iI ((i : Int))), .int (iI (a))]) (n := 5) (Nat.le_of_ble_eq_true rfl)
  rw [lg_entry_eq]
  generalize (lg_sl ([.ref (ad 0), .int (iI ((i : Int))), .int (iI (a))]) ++ List.replicate (5 - (lg_sl ([.ref (ad 0), .int (iI ((i : Int))), .int (iI (a))])).length) Slot.unset).toArray = ls at hl ⊢
  have hl : lv_has ls 5 [(0, .ref (ad 0)), (1, .int (iI ((i : Int)))), (2, .int (iI (a)))] := hl
  obtain ⟨q1, q2, q3, q4, q5, q6⟩ := id hpb
  refine lv_aload_n hx hb dX1_move_0 rfl (lv_at hl 0 rfl) ?_
  refine lv_iload_n hx hb dX1_move_1 rfl (lv_at hl 1 rfl) ?_
  refine zcallq (va_runV (As := [.int (iI ((i : Int)))]) (rest := []) ⟨hx, hb, hml, hown, hts⟩ (c_X1_existing_ok l D cy A ad ya yi pr _ i p0 hw (by omega) hp0) (cwV 1 hts gX1_move_X1_existing rfl rfl rfl (by decide +kernel) ⟨(Nat.le_of_ble_eq_true rfl), (Nat.le_of_ble_eq_true rfl)⟩) (zPV hE hS hw (ci := 1) (k0 := 0) rfl yE_0) rfl rfl hl.1 rfl (lv_room (Nat.le_of_ble_eq_true rfl)) dX1_move_2 ⟨(Nat.le_of_ble_eq_true rfl), (Nat.le_of_ble_eq_true rfl)⟩) hS (fun z_2 H1 locs hq hz1 hk1 hS => ?_)
  obtain ⟨hqe, hv_2⟩ := hq
  replace hqe := hqe.symm
  subst hqe
  subst hv_2
  rw [zrf]
  refine lv_astore_n (lv' := [(3, .ref (ad (10 + 3 * i))), (0, .ref (ad 0)), (1, .int (iI ((i : Int)))), (2, .int (iI (a)))]) hx hb dX1_move_5 rfl hl (by decide) rfl (fun ls hl => ?_)
  refine lv_iload_n hx hb dX1_move_6 rfl (lv_at hl 3 rfl) ?_
  refine zi_const hx hb dX1_move_7 ?_
  refine zi_sipush hx hb dX1_move_8 (by decide) ?_
  refine zcallv (va_runS (As := [.int (iI (a)), .int (iI (0)), .int (iI (900))]) (rest := []) ⟨hx, hb, hml, hown, hts⟩ (c_X1_requireRange_ok l D cy A ad _ (a) (0) (900) (by omega) (by first | decide | (constructor <;> omega)) (by first | decide | (constructor <;> omega))) (va_cwS 3 hts gX1_move_X1_requireRange rfl rfl rfl (by decide +kernel) ⟨(Nat.le_of_ble_eq_true rfl), (Nat.le_of_ble_eq_true rfl)⟩) (zPS hE hS) rfl rfl hl.1 rfl (lv_room (Nat.le_of_ble_eq_true rfl)) dX1_move_11 ⟨(Nat.le_of_ble_eq_true rfl), (Nat.le_of_ble_eq_true rfl)⟩) hS (fun H1 locs hq hz1 hk1 hS => ?_)
  replace hq := hq.symm
  subst hq
  refine lv_aload_n hx hb dX1_move_14 rfl (lv_at hl 0 rfl) ?_
  refine zgetN (own := RX1) (C := RX0) (T := TX0) (N := 13) (index := 104) (host := RX1) hx hb hts hinX0 hown hE hw (10 + 3 * i) (yE_p (by omega) hp0) rfl 3 (by decide) (by decide +kernel) rfl dX1_move_15 ?_
  refine zi_top (fun x_18 hx_18 => ?_)
  refine lv_istore (lv' := [(4, .int (iI (x_18))), (3, .ref (ad (10 + 3 * i))), (0, .ref (ad 0)), (1, .int (iI ((i : Int)))), (2, .int (iI (a)))]) hx hb dX1_move_18 hl (by decide) rfl (fun ls hl => ?_)
  refine lv_aload_n hx hb dX1_move_20 rfl (lv_at hl 1 rfl) ?_
  refine lv_iload_n hx hb dX1_move_21 rfl (lv_at hl 4 rfl) ?_
  refine zputN (own := RX1) (C := RX0) (T := TX0) (N := 13) (index := 104) (host := RX1) hx hb hts hinX0 tyX0 tyX0_ok nmX0 hown hE hS hw (10 + 3 * i) (yE_p (by omega) hp0) rfl 3 (by decide) (by decide +kernel) rfl (ty := .int) (by decide +kernel) rfl rfl (Nat.le_of_ble_eq_true rfl) dX1_move_22 (fun H locs hw hS => ?_)
  have hw := hw.cong (yU_f (by omega) hp0 3 (by decide) (by decide) (a))
  obtain ⟨pr_1, hpr_1⟩ : ∃ z, z = va_up pr i (some (va_up p0.1 3 (a), p0.2)) := ⟨_, rfl⟩
  obtain ⟨q_1, hq_1⟩ : ∃ z : PS, z = (va_up p0.1 3 (a), p0.2) := ⟨_, rfl⟩
  have hp_n1 : pr_1 i = some q_1 := by rw [hpr_1, hq_1, up_same]
  rw [← hpr_1] at hw
  have hpb1 : pB q_1 := by rw [hq_1]; refine ⟨?_, ?_, ?_, ?_, ?_, ?_⟩ <;> simp only [va_up] <;> first | exact q6 | (simp; omega) | (simpa using q6)
  refine lv_aload_n hx hb dX1_move_25 rfl (lv_at hl 2 rfl) ?_
  refine lv_aload_n hx hb dX1_move_26 rfl (lv_at hl 1 rfl) ?_
  refine zcallv (va_runV (As := [.ref (ad (10 + 3 * i))]) (rest := []) ⟨hx, hb, hml, hown, hts⟩ (c_X1_schedule l D cy A ad ya yi pr_1 _ T i q_1 hw (by omega) hp_n1 hpb1 hg hG ht) (cwV 1 hts gX1_move_X1_schedule rfl rfl rfl (by decide +kernel) ⟨(Nat.le_of_ble_eq_true rfl), (Nat.le_of_ble_eq_true rfl)⟩) (zPV hE hS hw (ci := 1) (k0 := 0) rfl yE_0) rfl rfl hl.1 rfl (lv_room (Nat.le_of_ble_eq_true rfl)) dX1_move_27 ⟨(Nat.le_of_ble_eq_true rfl), (Nat.le_of_ble_eq_true rfl)⟩) hS (fun H1 locs hq hz1 hk1 hS => ?_)
  obtain ⟨q_s27, hw, hsch, hgv⟩ := hq
  refine lv_iload hx hb dX1_move_30 (lv_at hl 0 rfl) ?_
  refine ziret hx hb hr hlocks hS (Nat.le_of_ble_eq_true rfl) (Nat.le_of_ble_eq_true rfl) (by first | decide | (constructor <;> omega)) ?_ dX1_move_32
  rw [hpr_1, up_up] at hw
  rw [hq_1] at hsch
  exact ⟨_, hw, hsch, by omega⟩

set_option maxHeartbeats 4000000 in
set_option maxRecDepth 100000 in
theorem c_X1_cancel_ok (l : Launch) (D : va_G) (cy : Nat → ClassId) (A : Nat → Prop) (ad : Nat → Nat) (ya : Nat → Nat → Int) (yi : Nat → Int) (pr : Nat → Option PS) (H0 : Heap) (i : Nat) (p0 : PS) (hw : zW D A ad (yE cy ad ya yi pr) H0) (hi : i < 10) (hp0 : pr i = some p0) (hpb : pB p0) : Met l yX1_cancel wsX1_cancel ({ frames := 2, cells := 0, slots := 0, locals := 42 }) (zPc D cy A [.ref (ad 0), .int (iI ((i : Int)))] H0) (zQi (fun z H1 => zW D A ad (yE cy ad ya yi (va_up pr i none)) H1 ∧ z = p0.1 1) A) 0 0 A := by
  refine Met.ofW (cc := cX1_cancel) (maxL := 3) (ret := (some .int)) (by decide) rfl ?_
  intro pg en s mt args below meth c s₁ B hml hv
  obtain ⟨rfl, hH, hE⟩ := hv
  subst hH
  have hx := B.exec
  have hb := B.bytes
  have hr := B.returns
  have hts := atoms_spec (ws := wsX1_cancel) B.pre
  have hown : s.vm.findClass RX1 = some mt.cls := findClass_of_methodNamed B.named
  have hlocks := B.notSynchronized
  have hinX0 : ∀ w ∈ u_ws RX0 TX0 13, w ∈ wsX1_cancel := by decide +kernel
  have hinX1 : ∀ w ∈ u_ws RX1 TX1 9, w ∈ wsX1_cancel := by decide +kernel
  have hS : va_S A s.heap s.heap [] := va_S.rf
  have hl := lv_entry ([.ref (ad 0), .int (iI ((i : Int)))]) (n := 3) (Nat.le_of_ble_eq_true rfl)
  rw [lg_entry_eq]
  generalize (lg_sl ([.ref (ad 0), .int (iI ((i : Int)))]) ++ List.replicate (3 - (lg_sl ([.ref (ad 0), .int (iI ((i : Int)))])).length) Slot.unset).toArray = ls at hl ⊢
  have hl : lv_has ls 3 [(0, .ref (ad 0)), (1, .int (iI ((i : Int))))] := hl
  obtain ⟨q1, q2, q3, q4, q5, q6⟩ := id hpb
  refine lv_aload_n hx hb dX1_cancel_0 rfl (lv_at hl 0 rfl) ?_
  refine lv_iload_n hx hb dX1_cancel_1 rfl (lv_at hl 1 rfl) ?_
  refine zcallq (va_runV (As := [.int (iI ((i : Int)))]) (rest := []) ⟨hx, hb, hml, hown, hts⟩ (c_X1_existing_ok l D cy A ad ya yi pr _ i p0 hw (by omega) hp0) (cwV 1 hts gX1_cancel_X1_existing rfl rfl rfl (by decide +kernel) ⟨(Nat.le_of_ble_eq_true rfl), (Nat.le_of_ble_eq_true rfl)⟩) (zPV hE hS hw (ci := 1) (k0 := 0) rfl yE_0) rfl rfl hl.1 rfl (lv_room (Nat.le_of_ble_eq_true rfl)) dX1_cancel_2 ⟨(Nat.le_of_ble_eq_true rfl), (Nat.le_of_ble_eq_true rfl)⟩) hS (fun z_2 H1 locs hq hz1 hk1 hS => ?_)
  obtain ⟨hqe, hv_2⟩ := hq
  replace hqe := hqe.symm
  subst hqe
  subst hv_2
  rw [zrf]
  refine lv_astore_n (lv' := [(2, .ref (ad (10 + 3 * i))), (0, .ref (ad 0)), (1, .int (iI ((i : Int))))]) hx hb dX1_cancel_5 rfl hl (by decide) rfl (fun ls hl => ?_)
  refine lv_aload_n hx hb dX1_cancel_6 rfl (lv_at hl 1 rfl) ?_
  refine zget (C := RX1) (T := TX1) (N := 9) hx hb hts hinX1 hown hE hw 0 yE_0 rfl 4 (by decide) (hts (.fieldLink RX1 24 "FormworkYard" "pourList" "[LFormworkYard$Pour;") (by decide +kernel)) rfl dX1_cancel_7 ?_
  refine lv_iload_n hx hb dX1_cancel_10 rfl (lv_at hl 2 rfl) ?_
  refine lv_null hx hb dX1_cancel_11 ?_
  refine zaastN hx hb hE hS hw 5 yE_5 i rfl (by omega) (by omega) dX1_cancel_12 (fun H locs hwR hS => ?_)
  refine lv_aload_n hx hb dX1_cancel_13 rfl (lv_at hl 0 rfl) ?_
  refine zgetN (own := RX1) (C := RX0) (T := TX0) (N := 13) (index := 107) (host := RX1) hx hb hts hinX0 hown hE hwR (10 + 3 * i) ((up_ne _ _ (by omega)).trans (yE_p (by omega) hp0)) rfl 1 (by decide) (by decide +kernel) rfl dX1_cancel_14 ?_
  have hw := yU_c hwR
  refine ziret hx hb hr hlocks hS (Nat.le_of_ble_eq_true rfl) (Nat.le_of_ble_eq_true rfl) (by first | decide | (constructor <;> omega)) ?_ dX1_cancel_17
  exact ⟨hw, rfl⟩
end
section
/-! ===== which panel: the giving out, pour by pour in the order of the hours and numbers ===== -/
/-- panel k is busy in the hour h with a pour below n that got it -/
def tkn (bsy : Nat → Int → Bool) (hs : Nat → Nat → Bool) (h : Int) (k : Nat) : Nat → Bool
  | 0 => false
  | q + 1 => tkn bsy hs h k q || (hs q k && bsy q h)
theorem tkn_iff {bsy : Nat → Int → Bool} {hs : Nat → Nat → Bool} {h : Int} {k : Nat} : ∀ n, tkn bsy hs h k n = true ↔ ∃ q, q < n ∧ hs q k = true ∧ bsy q h = true
  | 0 => by simp [tkn]
  | n + 1 => by
    simp only [tkn, Bool.or_eq_true, Bool.and_eq_true]
    rw [tkn_iff n]
    constructor
    · rintro (⟨q, h1, h2⟩ | h2)
      · exact ⟨q, by omega, h2⟩
      · exact ⟨n, by omega, h2⟩
    · rintro ⟨q, h1, h2⟩
      by_cases hq : q = n
      · subst hq
        exact Or.inr h2
      · exact Or.inl ⟨q, by omega, h2⟩
/-- how many of the first k panels are taken -/
def lc (bz : Nat → Bool) (nd : Int) : Nat → Int
  | 0 => 0
  | k + 1 => lc bz nd k + (if bz k = false ∧ lc bz nd k < nd then 1 else 0)
def lo (bz : Nat → Bool) (nd n : Int) : Nat → Bool := fun k => decide ((k : Int) < n ∧ bz k = false ∧ lc bz nd k < nd)
theorem lc_m {bz : Nat → Bool} {nd : Int} (a : Nat) : ∀ d, lc bz nd a ≤ lc bz nd (a + d)
  | 0 => Int.le_refl _
  | d + 1 => by
    have h := lc_m (bz := bz) (nd := nd) a d
    show lc bz nd a ≤ lc bz nd (a + d) + (if bz (a + d) = false ∧ lc bz nd (a + d) < nd then 1 else 0)
    split <;> omega
theorem lc_le {bz : Nat → Bool} {nd : Int} {a b : Nat} (h : a ≤ b) : lc bz nd a ≤ lc bz nd b := by
  have := lc_m (bz := bz) (nd := nd) a (b - a)
  rwa [show a + (b - a) = b by omega] at this
theorem lc_b {bz : Nat → Bool} {nd : Int} (h0 : 0 ≤ nd) : ∀ k, 0 ≤ lc bz nd k ∧ lc bz nd k ≤ k ∧ lc bz nd k ≤ nd
  | 0 => by simp [lc]; exact h0
  | k + 1 => by
    have h := lc_b (bz := bz) h0 k
    simp only [lc]
    split <;> omega
def sv (bsy : Nat → Int → Bool) (nd : Nat → Int) (n : Int) (hs : Nat → Nat → Bool) (p : Nat) (h : Int) : Nat → Nat → Bool := fun q k => if q = p then lo (fun k => tkn bsy hs h k 10) (nd p) n k else hs q k
def FK (th : Nat → Bool) (st : Nat → Int) (bsy : Nat → Int → Bool) (nd : Nat → Int) (n : Int) : Nat → Nat → Nat → Bool
  | 0 => fun _ _ => false
  | K + 1 => if th (K % 10) = true ∧ st (K % 10) = ((K / 10 : Nat) : Int) then sv bsy nd n (FK th st bsy nd n K) (K % 10) ((K / 10 : Nat) : Int) else FK th st bsy nd n K
section FKS
variable {th : Nat → Bool} {st : Nat → Int} {bsy : Nat → Int → Bool} {nd : Nat → Int} {n : Int}
theorem FK_key : ∀ (K q k : Nat), FK th st bsy nd n K q k = true → th q = true ∧ q < 10 ∧ 10 * st q + q < K
  | 0, q, k, h => by simp [FK] at h
  | K + 1, q, k, h => by
    simp only [FK] at h
    split at h
    · rename_i hc
      unfold sv at h
      by_cases hq : q = K % 10
      · subst hq
        exact ⟨hc.1, by omega, by rw [hc.2]; omega⟩
      · rw [if_neg hq] at h
        have := FK_key K q k h
        exact ⟨this.1, this.2.1, by omega⟩
    · have := FK_key K q k h
      exact ⟨this.1, this.2.1, by omega⟩
theorem FK_no {K : Nat} (h : ¬ (th (K % 10) = true ∧ st (K % 10) = ((K / 10 : Nat) : Int))) : FK th st bsy nd n (K + 1) = FK th st bsy nd n K := by
  simp only [FK]
  rw [if_neg h]
theorem FK_yes {K : Nat} (h : th (K % 10) = true ∧ st (K % 10) = ((K / 10 : Nat) : Int)) : FK th st bsy nd n (K + 1) = sv bsy nd n (FK th st bsy nd n K) (K % 10) ((K / 10 : Nat) : Int) := by
  simp only [FK]
  rw [if_pos h]
/-- nobody begins between -/
theorem FK_skip (K : Nat) : ∀ d : Nat, (∀ q, q < 10 → th q = true → ¬ ((K : Int) ≤ 10 * st q + q ∧ 10 * st q + q < (K : Int) + (d : Int))) → FK th st bsy nd n (K + d) = FK th st bsy nd n K
  | 0, _ => rfl
  | d + 1, h => by
    show FK th st bsy nd n (K + d + 1) = _
    rw [FK_no, FK_skip K d (fun q hq ht hc => h q hq ht ⟨hc.1, by omega⟩)]
    rintro ⟨h1, h2⟩
    exact h ((K + d) % 10) (by omega) h1 ⟨by rw [h2]; omega, by rw [h2]; omega⟩
/-- two pours with one panel are not busy at one time -/
theorem FK_one (hb : ∀ q h, bsy q h = true → st q ≤ h) (hb2 : ∀ q h h2, bsy q h = true → st q ≤ h2 → h2 ≤ h → bsy q h2 = true) : ∀ (K a b k : Nat) (h : Int), FK th st bsy nd n K a k = true → FK th st bsy nd n K b k = true → bsy a h = true → bsy b h = true → a = b
  | 0, a, b, k, h, h1, _, _, _ => by simp [FK] at h1
  | K + 1, a, b, k, h, h1, h2, h3, h4 => by
    by_cases hc : th (K % 10) = true ∧ st (K % 10) = ((K / 10 : Nat) : Int)
    · rw [FK_yes hc] at h1 h2
      unfold sv at h1 h2
      have key : ∀ c, c ≠ K % 10 → FK th st bsy nd n K c k = true → lo (fun k => tkn bsy (FK th st bsy nd n K) ((K / 10 : Nat) : Int) k 10) (nd (K % 10)) n k = true → bsy c h = true → bsy (K % 10) h = true → False := by
        intro c hne hF hlo hc1 hc2
        have hk := FK_key K c k hF
        unfold lo at hlo
        rw [decide_eq_true_eq] at hlo
        have e1 := hb (K % 10) h hc2
        rw [hc.2] at e1
        have hbc : bsy c ((K / 10 : Nat) : Int) = true := hb2 c h _ hc1 (by omega) e1
        have ht : tkn bsy (FK th st bsy nd n K) ((K / 10 : Nat) : Int) k 10 = true := (tkn_iff 10).mpr ⟨c, hk.2.1, hF, hbc⟩
        have hlo2 : tkn bsy (FK th st bsy nd n K) ((K / 10 : Nat) : Int) k 10 = false := hlo.2.1
        rw [ht] at hlo2
        cases hlo2
      by_cases ha : a = K % 10
      · by_cases hb9 : b = K % 10
        · rw [ha, hb9]
        · rw [if_pos ha] at h1
          rw [if_neg hb9] at h2
          rw [ha] at h3
          exact absurd (key b hb9 h2 h1 h4 h3) id
      · by_cases hb9 : b = K % 10
        · rw [if_neg ha] at h1
          rw [if_pos hb9] at h2
          rw [hb9] at h4
          exact absurd (key a ha h1 h2 h3 h4) id
        · rw [if_neg ha] at h1
          rw [if_neg hb9] at h2
          exact FK_one hb hb2 K a b k h h1 h2 h3 h4
    · rw [FK_no hc] at h1 h2
      exact FK_one hb hb2 K a b k h h1 h2 h3 h4
end FKS
/-- the reference's own -/
def thM (ma : Nat → Nat → Int) : Nat → Bool := fun q => decide (ma 7 q = 1)
def bsM (mi : Nat → Int) (ma : Nat → Nat → Int) : Nat → Int → Bool := fun q h => decide (ma 7 q = 1 ∧ stS mi ma q ≤ h ∧ h < frS mi ma q)
def FM (mi : Nat → Int) (ma : Nat → Nat → Int) (K : Nat) : Nat → Nat → Bool := FK (thM ma) (stS mi ma) (bsM mi ma) (ma 10) (mi 2) K
def bI (b : Bool) : Int := if b = true then 1 else 0
def hM (hs : Nat → Nat → Bool) (mb : Nat → Nat → Int) : Prop := ∀ q, q < 10 → ∀ k, k < 60 → mb 18 (60 * q + k) = bI (hs q k)
theorem bI_b (b : Bool) : (bI b = 1 ∧ b = true) ∨ (bI b = 0 ∧ b = false) := by
  cases b
  · exact Or.inr ⟨rfl, rfl⟩
  · exact Or.inl ⟨rfl, rfl⟩
/-- rows of working out and of panels alone may differ -/
def gU (ma mb : Nat → Nat → Int) : Prop := ∀ r j, (r < 15 ∨ 18 < r ∨ (r ≠ 18 ∧ 10 ≤ j)) → mb r j = ma r j
theorem gU_row {ma mb : Nat → Nat → Int} (h : gU ma mb) {r : Nat} (hr : r < 15 ∨ 18 < r) : mb r = ma r := funext fun j => h r j (by omega)
theorem gU_s {ma mb : Nat → Nat → Int} (h : gU ma mb) : sU ma mb := fun r j a _ => h r j (Or.inl a)
/-- while one pour gets its panels -/
def hC (hs : Nat → Nat → Bool) (p : Nat) (f : Nat → Bool) (x : Nat) (mb : Nat → Nat → Int) : Prop := (∀ q, q < 10 → q ≠ p → ∀ k, k < 60 → mb 18 (60 * q + k) = bI (hs q k)) ∧ (∀ k, k < 60 → k < x → mb 18 (60 * p + k) = bI (f k)) ∧ ∀ k, k < 60 → x ≤ k → mb 18 (60 * p + k) = 0
theorem hC_0 {hs : Nat → Nat → Bool} {p : Nat} {f : Nat → Bool} {mb : Nat → Nat → Int} (h : hM hs mb) (hp : p < 10) (h0 : ∀ k, hs p k = false) : hC hs p f 0 mb := ⟨fun q hq _ k hk => h q hq k hk, fun k _ h1 => absurd h1 (Nat.not_lt_zero k), fun k hk _ => by rw [h p hp k hk, h0]; rfl⟩
theorem hC_n {hs : Nat → Nat → Bool} {p x : Nat} {f : Nat → Bool} {mb : Nat → Nat → Int} (h : hC hs p f x mb) (hx : x < 60) (hf : f x = false) : hC hs p f (x + 1) mb := ⟨h.1, fun k hk h1 => by
  by_cases hkx : k = x
  · subst hkx; rw [hf]; exact h.2.2 k hk (by omega)
  · exact h.2.1 k hk (by omega), fun k hk h1 => h.2.2 k hk (by omega)⟩
theorem hC_y {hs : Nat → Nat → Bool} {p x : Nat} {f : Nat → Bool} {mb mc : Nat → Nat → Int} (h : hC hs p f x mb) (hx : x < 60) (hf : f x = true) (hc : rU 18 (60 * p + x) mb mc ∧ mc 18 (60 * p + x) = 1) : hC hs p f (x + 1) mc := by
  refine ⟨fun q hq hqp k hk => ?_, fun k hk h1 => ?_, fun k hk h1 => ?_⟩
  · rw [hc.1 18 (60 * q + k) (Or.inr (by omega))]
    exact h.1 q hq hqp k hk
  · by_cases hkx : k = x
    · subst hkx; rw [hf]; exact hc.2
    · rw [hc.1 18 (60 * p + k) (Or.inr (by omega))]
      exact h.2.1 k hk (by omega)
  · rw [hc.1 18 (60 * p + k) (Or.inr (by omega))]
    exact h.2.2 k hk (by omega)
theorem hC_e {hs hs2 : Nat → Nat → Bool} {p x : Nat} {f : Nat → Bool} {mb : Nat → Nat → Int} (h : hC hs p f x mb) (hf : ∀ k, k < 60 → x ≤ k → f k = false) (h2 : ∀ q k, hs2 q k = if q = p then f k else hs q k) : hM hs2 mb := by
  intro q hq k hk
  rw [h2]
  by_cases hqp : q = p
  · subst hqp
    rw [if_pos rfl]
    rcases Nat.lt_or_ge k x with c | c
    · exact h.2.1 k hk c
    · rw [h.2.2 k hk c, hf k hk c]; rfl
  · rw [if_neg hqp]
    exact h.1 q hq hqp k hk
end
section
/-! ===== lN n to 2^64: shifts, and, or, masks, one bit ===== -/
theorem wb_tb (n : Nat) : (lN n).toBitVec = BitVec.ofNat 64 n := rfl
theorem wb_inj {a b : Int64} (h : a.toBitVec = b.toBitVec) : a = b := Int64.toBitVec_inj.mp h
theorem wb_tn {n : Nat} (h : n < 2 ^ 64) : (lN n).toBitVec.toNat = n := by rw [wb_tb, BitVec.toNat_ofNat, Nat.mod_eq_of_lt h]
theorem wb_of (x : Int64) : ∃ n, n < 2 ^ 64 ∧ x = lN n := ⟨x.toBitVec.toNat, x.toBitVec.isLt, wb_inj (by rw [wb_tb]; simp)⟩
theorem wb_of32 (x : Int32) : ∃ n, n < 2 ^ 32 ∧ x = nI n := ⟨x.toBitVec.toNat, x.toBitVec.isLt, Int32.toBitVec_inj.mp (by show _ = BitVec.ofNat 32 _; simp)⟩
theorem wb_c : ∀ k, k < 64 → ((nI k).toInt64 &&& 63) = lN k := by decide +kernel
theorem wb_cu : ∀ k, k < 64 → ((nI k).toInt64.toUInt64 &&& Int64.toUInt64 63) = UInt64.ofNat k := by decide +kernel
theorem wb_sm : ∀ k, k < 64 → (BitVec.ofNat 64 k).smod 64 = BitVec.ofNat 64 k := by decide +kernel
theorem wb_pw {a b : Nat} (h : a ≤ b) : 2 ^ b = 2 ^ a * 2 ^ (b - a) := by rw [← Nat.pow_add]; congr 1; omega
theorem wb_lt2 {a b : Nat} (h : a < b) : 2 ^ a < 2 ^ b := Nat.pow_lt_pow_right (by decide) h
theorem wb_mod (n : Nat) : lN n = lN (n % 2 ^ 64) := wb_inj (by rw [wb_tb, wb_tb]; apply BitVec.eq_of_toNat_eq; rw [BitVec.toNat_ofNat, BitVec.toNat_ofNat, Nat.mod_mod])
theorem wb_shr {n k : Nat} (hn : n < 2 ^ 64) (hk : k < 64) : ((lN n).toUInt64 >>> ((nI k).toInt64.toUInt64 &&& Int64.toUInt64 63)).toInt64 = lN (n / 2 ^ k) := by
  rw [wb_cu k hk]
  apply wb_inj
  apply BitVec.eq_of_toNat_eq
  show ((lN n).toUInt64 >>> UInt64.ofNat k).toNat = (BitVec.ofNat 64 _).toNat
  have h1 : (UInt64.ofNat k).toNat = k := by
    show (BitVec.ofNat 64 k).toNat = k
    rw [BitVec.toNat_ofNat, Nat.mod_eq_of_lt (by omega)]
  have h2 : (lN n).toUInt64.toNat = n := wb_tn hn
  rw [UInt64.toNat_shiftRight, h1, h2, Nat.mod_eq_of_lt hk, Nat.shiftRight_eq_div_pow, BitVec.toNat_ofNat, Nat.mod_eq_of_lt (Nat.lt_of_le_of_lt (Nat.div_le_self _ _) hn)]
theorem wb_shl (n : Nat) {k : Nat} (hk : k < 64) : lN n <<< ((nI k).toInt64 &&& 63) = lN (n * 2 ^ k) := by
  rw [wb_c k hk]
  apply wb_inj
  rw [Int64.toBitVec_shiftLeft, wb_tb, wb_tb, wb_tb, wb_sm k hk]
  apply BitVec.eq_of_toNat_eq
  rw [BitVec.shiftLeft_eq', BitVec.toNat_shiftLeft, BitVec.toNat_ofNat, BitVec.toNat_ofNat, BitVec.toNat_ofNat, Nat.mod_eq_of_lt (show k < 2 ^ 64 by omega), Nat.shiftLeft_eq, Nat.mul_mod, Nat.mod_mod, ← Nat.mul_mod]
theorem wb_and {a b : Nat} (ha : a < 2 ^ 64) (hb : b < 2 ^ 64) : lN a &&& lN b = lN (a &&& b) := by
  apply wb_inj
  rw [Int64.toBitVec_and, wb_tb, wb_tb, wb_tb]
  apply BitVec.eq_of_toNat_eq
  rw [BitVec.toNat_and, BitVec.toNat_ofNat, BitVec.toNat_ofNat, BitVec.toNat_ofNat, Nat.mod_eq_of_lt ha, Nat.mod_eq_of_lt hb, Nat.mod_eq_of_lt (Nat.and_lt_two_pow _ hb)]
theorem wb_or {a b : Nat} (ha : a < 2 ^ 64) (hb : b < 2 ^ 64) : lN a ||| lN b = lN (a ||| b) := by
  apply wb_inj
  rw [Int64.toBitVec_or, wb_tb, wb_tb, wb_tb]
  apply BitVec.eq_of_toNat_eq
  rw [BitVec.toNat_or, BitVec.toNat_ofNat, BitVec.toNat_ofNat, BitVec.toNat_ofNat, Nat.mod_eq_of_lt ha, Nat.mod_eq_of_lt hb, Nat.mod_eq_of_lt (Nat.or_lt_two_pow ha hb)]
theorem wb_mask {n k : Nat} (hn : n < 2 ^ 64) (hk : k < 64) : lN n &&& lN (2 ^ k - 1) = lN (n % 2 ^ k) := by
  rw [wb_and hn (by have := wb_lt2 hk; omega), Nat.and_two_pow_sub_one_eq_mod]
theorem wb_a1 {n : Nat} (hn : n < 2 ^ 64) : lN n &&& 1 = lN (n % 2) := wb_mask (k := 1) hn (by decide)
theorem wb_bit {n k : Nat} (hn : n < 2 ^ 64) (hk : k < 64) : ((lN n).toUInt64 >>> ((nI k).toInt64.toUInt64 &&& Int64.toUInt64 63)).toInt64 &&& 1 = lN (n / 2 ^ k % 2) := by
  rw [wb_shr hn hk, wb_a1 (Nat.lt_of_le_of_lt (Nat.div_le_self _ _) hn)]
/-! ===== a long as a set of panels ===== -/
def isM (x : Int64) (f : Nat → Bool) : Prop := ∃ n, x = lN n ∧ n < 2 ^ 60 ∧ ∀ k, n.testBit k = f k
theorem isM_0 : isM 0 (fun _ => false) := ⟨0, rfl, by decide, fun k => Nat.zero_testBit k⟩
theorem isM_or {x y : Int64} {f g : Nat → Bool} (hx : isM x f) (hy : isM y g) : isM (x ||| y) (fun k => f k || g k) := by
  obtain ⟨a, rfl, ha, hf⟩ := hx
  obtain ⟨b, rfl, hb, hg⟩ := hy
  refine ⟨a ||| b, wb_or (by omega) (by omega), Nat.or_lt_two_pow ha hb, fun k => ?_⟩
  rw [Nat.testBit_or, hf, hg]
theorem isM_bit {k : Nat} (hk : k < 60) : isM (lN (2 ^ k)) (fun j => decide (k = j)) := ⟨2 ^ k, rfl, wb_lt2 hk, fun j => Nat.testBit_two_pow⟩
theorem isM_c {x : Int64} {f g : Nat → Bool} (hx : isM x f) (h : ∀ k, f k = g k) : isM x g := by
  obtain ⟨a, hx, ha, hf⟩ := hx
  exact ⟨a, hx, ha, fun k => (hf k).trans (h k)⟩
theorem isM_lt {x : Int64} {f : Nat → Bool} (hx : isM x f) {k : Nat} (hk : 60 ≤ k) : f k = false := by
  obtain ⟨a, hx, ha, hf⟩ := hx
  rw [← hf, Nat.testBit_lt_two_pow (Nat.lt_of_lt_of_le ha (Nat.pow_le_pow_right (by decide) hk))]
theorem lN_0i {n : Nat} (h : n < 2 ^ 64) : lN n = 0 ↔ n = 0 := by
  constructor
  · intro h2
    have h3 := congrArg (fun y : Int64 => y.toBitVec.toNat) h2
    simp only [wb_tn h] at h3
    exact h3
  · rintro rfl
    rfl
theorem and_p2 (a k : Nat) : a &&& 2 ^ k = 0 ↔ a.testBit k = false := by
  constructor
  · intro h
    have h2 := congrArg (fun n : Nat => n.testBit k) h
    simp only [Nat.testBit_and, Nat.testBit_two_pow, Nat.zero_testBit] at h2
    simpa using h2
  · intro h
    apply Nat.eq_of_testBit_eq
    intro i
    rw [Nat.testBit_and, Nat.testBit_two_pow, Nat.zero_testBit]
    by_cases hi : k = i
    · subst hi
      rw [h]
      rfl
    · simp [hi]
theorem isM_and {x : Int64} {f : Nat → Bool} (hx : isM x f) {k : Nat} (hk : k < 60) : x &&& lN (2 ^ k) = 0 ↔ f k = false := by
  obtain ⟨a, rfl, ha, hf⟩ := hx
  have h2 := wb_lt2 (show k < 64 by omega)
  rw [wb_and (by omega) h2, lN_0i (Nat.and_lt_two_pow _ h2), and_p2, hf]
theorem zshl {k : Nat} (hk : k < 60) : (1 : Int64) <<< ((iI (k : Int)).toInt64 &&& 63) = lN (2 ^ k) := by
  have e : iI (k : Int) = nI k := rfl
  have h := wb_shl 1 (show k < 64 by omega)
  rw [Nat.one_mul] at h
  rw [e]
  exact h
theorem zlcmp (x y : Int64) : ∃ n : Int, ((n = 0 ∧ x = y) ∨ ((n = 1 ∨ n = -1) ∧ x ≠ y)) ∧ lg_cmp x y = iI n := by
  unfold lg_cmp
  by_cases h1 : y < x
  · exact ⟨1, Or.inr ⟨Or.inl rfl, fun h => by subst h; exact absurd h1 (Int64.lt_irrefl)⟩, by rw [if_pos h1]; rfl⟩
  · by_cases h2 : x = y
    · exact ⟨0, Or.inl ⟨rfl, h2⟩, by rw [if_neg h1, if_pos h2]; rfl⟩
    · exact ⟨-1, Or.inr ⟨Or.inr rfl, h2⟩, by rw [if_neg h1, if_neg h2]; rfl⟩
/-! ===== the yard's giving out ===== -/
def thY (pr : Nat → Option PS) : Nat → Bool := fun q => (pr q).isSome
def fdY (pr : Nat → Option PS) (j : Nat) : Nat → Int := fun q => match pr q with | some p => p.1 j | none => 0
def bsY (pr : Nat → Option PS) : Nat → Int → Bool := fun q h => decide (thY pr q = true ∧ fdY pr 9 q ≤ h ∧ h < fdY pr 10 q)
def FY (pr : Nat → Option PS) (n : Int) (K : Nat) : Nat → Nat → Bool := FK (thY pr) (fdY pr 9) (bsY pr) (fdY pr 1) n K
theorem thY_0 {pr : Nat → Option PS} {q : Nat} (h : pr q = none) : thY pr q = false := by unfold thY; rw [h]; rfl
theorem thY_1 {pr : Nat → Option PS} {q : Nat} {p : PS} (h : pr q = some p) : thY pr q = true := by unfold thY; rw [h]; rfl
theorem fdY_1 {pr : Nat → Option PS} {q j : Nat} {p : PS} (h : pr q = some p) : fdY pr j q = p.1 j := by unfold fdY; rw [h]
theorem bsY_0 {pr : Nat → Option PS} {q : Nat} {h : Int} (hp : pr q = none) : bsY pr q h = false := by
  unfold bsY
  rw [decide_eq_false_iff_not, thY_0 hp]
  rintro ⟨h1, -⟩
  cases h1
theorem bsY_1 {pr : Nat → Option PS} {q : Nat} {h : Int} {p : PS} (hp : pr q = some p) : bsY pr q h = true ↔ p.1 9 ≤ h ∧ h < p.1 10 := by
  unfold bsY
  rw [decide_eq_true_eq, thY_1 hp, fdY_1 hp, fdY_1 hp]
  exact ⟨fun h => h.2, fun h => ⟨rfl, h⟩⟩
theorem tkM_n {bsy : Nat → Int → Bool} {g : Nat → Nat → Bool} {h : Int} {i : Nat} {x : Int64} (hb : bsy i h = false) (hx : isM x (fun k => tkn bsy g h k i)) : isM x (fun k => tkn bsy g h k (i + 1)) := isM_c hx (fun k => by simp [tkn, hb])
theorem tkM_y {bsy : Nat → Int → Bool} {g : Nat → Nat → Bool} {h : Int} {i : Nat} {x y : Int64} (hb : bsy i h = true) (hx : isM x (fun k => tkn bsy g h k i)) (hy : isM y (g i)) : isM (x ||| y) (fun k => tkn bsy g h k (i + 1)) := isM_c (isM_or hx hy) (fun k => by simp [tkn, hb])
theorem loM_0 {bz : Nat → Bool} {nd : Int} : isM 0 (lo bz nd ((0 : Nat) : Int)) := isM_c isM_0 (fun k => by unfold lo; rw [eq_comm, decide_eq_false_iff_not]; rintro ⟨h, -⟩; omega)
theorem loM_n {bz : Nat → Bool} {nd : Int} {x : Nat} {w : Int64} (hb : bz x = true) (hw : isM w (lo bz nd (x : Int))) : isM w (lo bz nd ((x + 1 : Nat) : Int)) := isM_c hw (fun k => by
  rw [Bool.eq_iff_iff]
  unfold lo
  simp only [decide_eq_true_eq]
  constructor
  · rintro ⟨h1, h2, h3⟩
    exact ⟨by omega, h2, h3⟩
  · rintro ⟨h1, h2, h3⟩
    refine ⟨?_, h2, h3⟩
    by_cases hk : k = x
    · subst hk
      rw [hb] at h2
      cases h2
    · omega)
theorem loM_y {bz : Nat → Bool} {nd : Int} {x : Nat} {w : Int64} (hx : x < 60) (hb : bz x = false) (hl : lc bz nd x < nd) (hw : isM w (lo bz nd (x : Int))) : isM (w ||| lN (2 ^ x)) (lo bz nd ((x + 1 : Nat) : Int)) := isM_c (isM_or hw (isM_bit hx)) (fun k => by
  rw [Bool.eq_iff_iff]
  unfold lo
  simp only [Bool.or_eq_true, decide_eq_true_eq]
  constructor
  · rintro (⟨h1, h2, h3⟩ | h1)
    · exact ⟨by omega, h2, h3⟩
    · subst h1
      exact ⟨by omega, hb, hl⟩
  · rintro ⟨h1, h2, h3⟩
    by_cases hk : x = k
    · exact Or.inr hk
    · exact Or.inl ⟨by omega, h2, h3⟩)
theorem loM_e {bz : Nat → Bool} {nd n : Int} {x : Nat} {w : Int64} (hn : (x : Int) ≤ n) (hl : n ≤ (x : Int) ∨ nd ≤ lc bz nd x) (hw : isM w (lo bz nd (x : Int))) : isM w (lo bz nd n) := isM_c hw (fun k => by
  rw [Bool.eq_iff_iff]
  unfold lo
  simp only [decide_eq_true_eq]
  constructor
  · rintro ⟨h1, h2, h3⟩
    exact ⟨by omega, h2, h3⟩
  · rintro ⟨h1, h2, h3⟩
    refine ⟨?_, h2, h3⟩
    rcases hl with hl | hl
    · omega
    · rcases Nat.lt_or_ge k x with c | c
      · omega
      · have h9 := lc_le (bz := bz) (nd := nd) c
        omega)
/-- what the giving out keeps of a pour -/
def gv1 (p p2 : PS) : Prop := (∀ j, j ≠ 12 → p2.1 j = p.1 j) ∧ p2.2.1 = p.2.1 ∧ p2.2.2.1 = p.2.2.1
def gvR (pr pr2 : Nat → Option PS) : Prop := ∀ i, i < 10 → (pr i = none ∧ pr2 i = none) ∨ ∃ p p2, pr i = some p ∧ pr2 i = some p2 ∧ gv1 p p2
theorem gv1_r {p : PS} : gv1 p p := ⟨fun _ _ => rfl, rfl, rfl⟩
theorem gv1_t {p q r : PS} (h : gv1 p q) (h2 : gv1 q r) : gv1 p r := ⟨fun j hj => (h2.1 j hj).trans (h.1 j hj), h2.2.1.trans h.2.1, h2.2.2.trans h.2.2⟩
theorem gvR_0 {pr : Nat → Option PS} : gvR pr pr := fun i _ => by
  cases h : pr i with
  | none => exact Or.inl ⟨rfl, rfl⟩
  | some p => exact Or.inr ⟨p, p, rfl, rfl, gv1_r⟩
theorem gvR_u {pr pr2 : Nat → Option PS} {i : Nat} {p2 q : PS} (h : gvR pr pr2) (hp : pr2 i = some p2) (hq : gv1 p2 q) : gvR pr (va_up pr2 i (some q)) := fun k hk => by
  by_cases hki : k = i
  · subst hki
    rcases h k hk with h | ⟨a, b, h1, h2, h3⟩
    · rw [h.2] at hp; cases hp
    · rw [h2] at hp
      cases hp
      exact Or.inr ⟨a, q, h1, up_same _ _ _, gv1_t h3 hq⟩
  · rw [up_ne _ _ hki]
    exact h k hk
theorem gvR_p {pr pr2 : Nat → Option PS} (h : gvR pr pr2) {i : Nat} (hi : i < 10) {p2 : PS} (hp : pr2 i = some p2) : ∃ p, pr i = some p ∧ gv1 p p2 := by
  rcases h i hi with h | ⟨a, b, h1, h2, h3⟩
  · rw [h.2] at hp; cases hp
  · rw [h2] at hp
    cases hp
    exact ⟨a, h1, h3⟩
theorem gvR_q {pr pr2 : Nat → Option PS} (h : gvR pr pr2) {i : Nat} (hi : i < 10) {p : PS} (hp : pr i = some p) : ∃ p2, pr2 i = some p2 ∧ gv1 p p2 := by
  rcases h i hi with h | ⟨a, b, h1, h2, h3⟩
  · rw [h.1] at hp; cases hp
  · rw [h1] at hp
    cases hp
    exact ⟨b, h2, h3⟩
theorem gvR_bs {pr pr2 : Nat → Option PS} (h : gvR pr pr2) {i : Nat} (hi : i < 10) (t : Int) : bsY pr2 i t = bsY pr i t := by
  rcases h i hi with h | ⟨a, b, h1, h2, h3⟩
  · rw [bsY_0 h.1, bsY_0 h.2]
  · rw [Bool.eq_iff_iff, bsY_1 h1, bsY_1 h2, h3.1 9 (by decide), h3.1 10 (by decide)]
theorem tkn_c {b1 b2 : Nat → Int → Bool} {g : Nat → Nat → Bool} {h : Int} {k : Nat} : ∀ n, (∀ q, q < n → b1 q h = b2 q h) → tkn b1 g h k n = tkn b2 g h k n
  | 0, _ => rfl
  | n + 1, hq => by
    simp only [tkn]
    rw [tkn_c n (fun q h => hq q (by omega)), hq n (by omega)]
/-- what is given when all keys below K are served -/
def gvK (pr pr2 : Nat → Option PS) (n : Int) (K : Nat) : Prop := ∀ i p, i < 10 → pr2 i = some p → isM p.2.2.2 (FY pr n K i) ∧ ((p.1 12 = 1 ∧ 10 * p.1 9 + (i : Int) < (K : Int)) ∨ (p.1 12 = 0 ∧ (K : Int) ≤ 10 * p.1 9 + (i : Int)))
def cS (pr : Nat → Option PS) : Nat → Nat
  | 0 => 0
  | n + 1 => cS pr n + (match pr n with | some p => if p.1 12 = 1 then 1 else 0 | none => 0)
theorem cS_le {pr : Nat → Option PS} : ∀ n, cS pr n ≤ n
  | 0 => Nat.le_refl _
  | n + 1 => by
    have := cS_le (pr := pr) n
    simp only [cS]
    cases pr n with
    | none => simp only []; omega
    | some p => simp only []; split <;> omega
theorem cS_full {pr : Nat → Option PS} : ∀ n, cS pr n = n → ∀ i, i < n → ∃ p, pr i = some p ∧ p.1 12 = 1
  | 0, _, i, hi => absurd hi (Nat.not_lt_zero i)
  | n + 1, h, i, hi => by
    have h1 := cS_le (pr := pr) n
    simp only [cS] at h
    cases hp : pr n with
    | none => rw [hp] at h; simp only [] at h; omega
    | some p =>
      rw [hp] at h
      simp only [] at h
      by_cases hc : p.1 12 = 1
      · rw [if_pos hc] at h
        by_cases hin : i = n
        · subst hin
          exact ⟨p, hp, hc⟩
        · exact cS_full n (by omega) i (by omega)
      · rw [if_neg hc] at h
        omega
theorem cS_lo {pr : Nat → Option PS} {i : Nat} {q : Option PS} : ∀ n, n ≤ i → cS (va_up pr i q) n = cS pr n
  | 0, _ => rfl
  | n + 1, h => by
    simp only [cS]
    rw [cS_lo n (by omega), up_ne _ _ (show n ≠ i by omega)]
theorem cS_up {pr : Nat → Option PS} {i : Nat} {p q : PS} (hp : pr i = some p) (h0 : p.1 12 = 0) (h1 : q.1 12 = 1) : ∀ n, i < n → cS (va_up pr i (some q)) n = cS pr n + 1
  | 0, h => absurd h (Nat.not_lt_zero i)
  | n + 1, h => by
    simp only [cS]
    by_cases hin : i = n
    · subst hin
      rw [cS_lo i (Nat.le_refl i), up_same, hp]
      simp only []
      rw [if_pos h1, if_neg (by omega)]
    · rw [cS_up hp h0 h1 n (by omega), up_ne _ _ (show n ≠ i by omega)]
      omega
theorem cS_0 {pr : Nat → Option PS} : ∀ n, (∀ i p, i < n → pr i = some p → p.1 12 = 0) → cS pr n = 0
  | 0, _ => rfl
  | n + 1, h => by
    simp only [cS]
    rw [cS_0 n (fun i p hi hp => h i p (by omega) hp)]
    cases hp : pr n with
    | none => rfl
    | some p => simp only []; rw [if_neg (by rw [h n p (by omega) hp]; decide)]
theorem gvK_0 {pr pr2 : Nat → Option PS} {n : Int} (h : ∀ i p, i < 10 → pr2 i = some p → isM p.2.2.2 (fun _ => false) ∧ p.1 12 = 0 ∧ 0 ≤ p.1 9) : gvK pr pr2 n 0 := fun i p hi hp => by
  obtain ⟨h1, h2, h3⟩ := h i p hi hp
  exact ⟨h1, Or.inr ⟨h2, by omega⟩⟩
/-- all are served -/
theorem gvK_e {pr pr2 : Nat → Option PS} {n : Int} {K : Nat} (hR : gvR pr pr2) (hb : ∀ i p, i < 10 → pr i = some p → 0 ≤ p.1 9 ∧ p.1 9 ≤ 900) (hK : gvK pr pr2 n K) (h : ∀ i p, i < 10 → pr2 i = some p → p.1 12 = 1) (hle : K ≤ 10000) : ∀ i p, i < 10 → pr2 i = some p → isM p.2.2.2 (FY pr n 10000 i) := fun i p hi hp => by
  have e : FY pr n 10000 = FY pr n K := by
    have h9 := FK_skip (th := thY pr) (st := fdY pr 9) (bsy := bsY pr) (nd := fdY pr 1) (n := n) K (10000 - K) (fun q hq ht hc => by
      rcases hR q hq with h0 | ⟨a, b, h1, h2, h3⟩
      · rw [thY_0 h0.1] at ht; cases ht
      · rw [fdY_1 h1] at hc
        have hk := (hK q b hq h2).2
        have h12 := h q b hq h2
        rw [h3.1 9 (by decide)] at hk
        omega)
    rw [show K + (10000 - K) = 10000 by omega] at h9
    exact h9
  rw [e]
  exact (hK i p hi hp).1
/-- one is served -/
theorem gvK_s {pr pr2 : Nat → Option PS} {n : Int} {K i : Nat} {p q : PS} {z : Int64} (hR : gvR pr pr2) (hb : ∀ i p, i < 10 → pr i = some p → 0 ≤ p.1 9 ∧ p.1 9 ≤ 900) (hK : gvK pr pr2 n K) (hi : i < 10) (hp : pr2 i = some p) (h0 : p.1 12 = 0)
    (hm : ∀ j q, j < 10 → pr2 j = some q → q.1 12 = 0 → p.1 9 < q.1 9 ∨ (p.1 9 = q.1 9 ∧ i ≤ j)) (hz : isM z (lo (fun k => tkn (bsY pr) (FY pr n K) (p.1 9) k 10) (p.1 1) n)) (hq : gv1 p q) (hqz : q.2.2.2 = z) (hq1 : q.1 12 = 1) : gvK pr (va_up pr2 i (some q)) n (10 * (p.1 9).toNat + i + 1) := by
  obtain ⟨a, ha, hap⟩ := gvR_p hR hi hp
  have hb9 := hb i a hi ha
  have e9 := hap.1 9 (by decide)
  have e1 := hap.1 1 (by decide)
  have hKk := (hK i p hi hp).2
  have es : FY pr n (10 * (p.1 9).toNat + i) = FY pr n K := by
    have h9 := FK_skip (th := thY pr) (st := fdY pr 9) (bsy := bsY pr) (nd := fdY pr 1) (n := n) K (10 * (p.1 9).toNat + i - K) (fun r hr ht hc => by
      rcases hR r hr with h0 | ⟨a2, b2, h1, h2, h3⟩
      · rw [thY_0 h0.1] at ht; cases ht
      · rw [fdY_1 h1] at hc
        have hk := (hK r b2 hr h2).2
        have hm9 := hm r b2 hr h2
        rw [h3.1 9 (by decide)] at hk hm9
        omega)
    rw [show K + (10 * (p.1 9).toNat + i - K) = 10 * (p.1 9).toNat + i by omega] at h9
    exact h9
  have hmod : (10 * (p.1 9).toNat + i) % 10 = i := by omega
  have hdiv : ((((10 * (p.1 9).toNat + i) / 10 : Nat)) : Int) = p.1 9 := by omega
  have ey : FY pr n (10 * (p.1 9).toNat + i + 1) = sv (bsY pr) (fdY pr 1) n (FY pr n K) i (p.1 9) := by
    have h9 := FK_yes (th := thY pr) (st := fdY pr 9) (bsy := bsY pr) (nd := fdY pr 1) (n := n) (K := 10 * (p.1 9).toNat + i) (by
      rw [hmod, hdiv]
      exact ⟨thY_1 ha, by rw [fdY_1 ha]; exact e9.symm⟩)
    rw [hmod, hdiv] at h9
    show FK _ _ _ _ _ _ = _
    rw [h9]
    have es' : FK (thY pr) (fdY pr 9) (bsY pr) (fdY pr 1) n (10 * (p.1 9).toNat + i) = FY pr n K := es
    rw [es']
  intro r b hr hb2
  rw [ey]
  unfold sv
  by_cases hri : r = i
  · subst hri
    rw [up_same] at hb2
    cases hb2
    refine ⟨?_, Or.inl ⟨hq1, by rw [hq.1 9 (by decide)]; omega⟩⟩
    rw [hqz, fdY_1 ha, ← e1]
    exact isM_c hz (fun k => by simp)
  · rw [up_ne _ _ hri] at hb2
    have hk := hK r b hr hb2
    obtain ⟨a2, ha2, hap2⟩ := gvR_p hR hr hb2
    refine ⟨isM_c hk.1 (fun k => by simp [hri]), ?_⟩
    rcases hk.2 with h | h
    · exact Or.inl ⟨h.1, by omega⟩
    · have hm9 := hm r b hr hb2 h.1
      exact Or.inr ⟨h.1, by omega⟩
end
section
/-! ===== the bits of a long, counted in bytes ===== -/
def bs (f : Nat → Nat) : Nat → Nat → Nat
  | _, 0 => 0
  | x, k + 1 => f (x % 256) + 256 * bs f (x / 256) k
/-- the mask of k equal bytes -/
def rep (m : Nat) (k : Nat) : Nat := bs (fun _ => m) 0 k
theorem rep_s (m k : Nat) : rep m (k + 1) = m + 256 * rep m k := by
  show m + 256 * bs _ (0 / 256) k = _
  rfl
theorem rep_b {m : Nat} (hm : m < 256) : ∀ k, rep m k < 256 ^ k
  | 0 => by show 0 < 256 ^ 0; decide
  | k + 1 => by
    have := rep_b hm k
    rw [rep_s, Nat.pow_succ]
    omega
theorem and_byte {a A m M : Nat} (ha : a < 256) (hm : m < 256) : (a + 256 * A) &&& (m + 256 * M) = (a &&& m) + 256 * (A &&& M) := by
  have h1 := Nat.and_mod_two_pow (a := a + 256 * A) (b := m + 256 * M) (n := 8)
  have h2 := Nat.and_div_two_pow (a := a + 256 * A) (b := m + 256 * M) (n := 8)
  have e1 : (a + 256 * A) % 2 ^ 8 = a := by omega
  have e2 : (m + 256 * M) % 2 ^ 8 = m := by omega
  have e3 : (a + 256 * A) / 2 ^ 8 = A := by omega
  have e4 : (m + 256 * M) / 2 ^ 8 = M := by omega
  rw [e1, e2] at h1
  rw [e3, e4] at h2
  omega
theorem and_rep (m : Nat) (hm : m < 256) (z k : Nat) : z &&& rep m (k + 1) = (z % 256 &&& m) + 256 * (z / 256 &&& rep m k) := by
  have h := and_byte (a := z % 256) (A := z / 256) (m := m) (M := rep m k) (by omega) hm
  rw [show z % 256 + 256 * (z / 256) = z by omega] at h
  rw [rep_s, h]
theorem byte1 : ∀ c, c < 256 → ((c / 2) &&& 85) ≤ c ∧ ((c / 2 + 128) &&& 85) = ((c / 2) &&& 85) := by decide +kernel
theorem byte2 : ∀ c, c < 256 → ∀ d, d < 4 → ((c / 4 + 64 * d) &&& 51) = ((c / 4) &&& 51) := by decide +kernel
theorem byte3 : ∀ c, c < 256 → (c &&& 15) = c % 16 := by decide +kernel
def f1 (c : Nat) : Nat := c - ((c / 2) &&& 85)
def f2 (c : Nat) : Nat := (c &&& 51) + ((c / 4) &&& 51)
def f3 (c : Nat) : Nat := c % 16 + c / 16
def pc8 (c : Nat) : Nat := f3 (f2 (f1 c))
theorem f1_b : ∀ c, c < 256 → f1 c < 256 := by decide +kernel
theorem f2_b : ∀ c, c < 256 → f2 (f1 c) < 256 ∧ f2 (f1 c) % 16 ≤ 4 ∧ f2 (f1 c) / 16 ≤ 4 := by decide +kernel
theorem pc8_b : ∀ c, c < 256 → pc8 c ≤ 8 := by decide +kernel
theorem bstep1 : ∀ k x, x < 256 ^ k → x - (x / 2 &&& rep 85 k) = bs f1 x k ∧ (x / 2 &&& rep 85 k) ≤ x
  | 0, x, h => by
    have : x = 0 := by omega
    subst this
    exact ⟨rfl, by decide⟩
  | k + 1, x, h => by
    have hy : x / 256 < 256 ^ k := by rw [Nat.pow_succ] at h; omega
    obtain ⟨i1, i2⟩ := bstep1 k (x / 256) hy
    have e1 : x / 2 % 256 &&& 85 = (x % 256 / 2) &&& 85 := by
      have hb := (byte1 (x % 256) (by omega)).2
      rcases (show x / 2 % 256 = x % 256 / 2 ∨ x / 2 % 256 = x % 256 / 2 + 128 by omega) with h | h
      · rw [h]
      · rw [h, hb]
    have e2 : x / 2 / 256 = x / 256 / 2 := by omega
    have hb := (byte1 (x % 256) (by omega)).1
    rw [and_rep 85 (by decide), e1, e2]
    simp only [bs]
    rw [← i1]
    unfold f1
    omega
theorem bstep2 : ∀ k x, x < 256 ^ k → (x &&& rep 51 k) + (x / 4 &&& rep 51 k) = bs f2 x k
  | 0, x, h => by
    have : x = 0 := by omega
    subst this
    rfl
  | k + 1, x, h => by
    have hy : x / 256 < 256 ^ k := by rw [Nat.pow_succ] at h; omega
    have i1 := bstep2 k (x / 256) hy
    have e1 : x / 4 % 256 &&& 51 = (x % 256 / 4) &&& 51 := by
      have hb := byte2 (x % 256) (by omega) (x / 256 % 4) (by omega)
      rw [show x / 4 % 256 = x % 256 / 4 + 64 * (x / 256 % 4) by omega, hb]
    have e2 : x / 4 / 256 = x / 256 / 4 := by omega
    rw [and_rep 51 (by decide), and_rep 51 (by decide), e1, e2]
    simp only [bs]
    rw [← i1]
    unfold f2
    omega
theorem bs_lt {f : Nat → Nat} (hf : ∀ c, c < 256 → f c < 256) : ∀ k x, bs f x k < 256 ^ k
  | 0, _ => by show 0 < 256 ^ 0; decide
  | k + 1, x => by
    have h1 := bs_lt hf k (x / 256)
    have h2 := hf (x % 256) (by omega)
    simp only [bs]
    rw [Nat.pow_succ]
    omega
theorem bs_bs {f g : Nat → Nat} (hf : ∀ c, c < 256 → f c < 256) : ∀ k x, bs g (bs f x k) k = bs (fun c => g (f c)) x k
  | 0, _ => rfl
  | k + 1, x => by
    have h2 := hf (x % 256) (by omega)
    have e1 : (f (x % 256) + 256 * bs f (x / 256) k) % 256 = f (x % 256) := by omega
    have e2 : (f (x % 256) + 256 * bs f (x / 256) k) / 256 = bs f (x / 256) k := by omega
    simp only [bs]
    rw [e1, e2, bs_bs hf k (x / 256)]
theorem bs_h {f : Nat → Nat} (hf : ∀ c, c < 256 → f c < 256 ∧ f c % 16 ≤ 4 ∧ f c / 16 ≤ 4) : ∀ k x, bs f x k % 16 ≤ 4
  | 0, _ => by show 0 % 16 ≤ 4; decide
  | k + 1, x => by
    have h2 := hf (x % 256) (by omega)
    simp only [bs]
    omega
theorem bstep3 {f : Nat → Nat} (hf : ∀ c, c < 256 → f c < 256 ∧ f c % 16 ≤ 4 ∧ f c / 16 ≤ 4) : ∀ k x, (bs f x k + bs f x k / 16) &&& rep 15 k = bs (fun c => f3 (f c)) x k
  | 0, _ => by show (0 + 0 / 16) &&& 0 = 0; decide
  | k + 1, x => by
    have h2 := hf (x % 256) (by omega)
    have h3 := bs_h hf k (x / 256)
    have i1 := bstep3 hf k (x / 256)
    rw [and_rep 15 (by decide)]
    simp only [bs]
    generalize f (x % 256) = c at *
    generalize bs f (x / 256) k = w at *
    have e1 : (c + 256 * w + (c + 256 * w) / 16) % 256 = c + c / 16 + 16 * (w % 16) := by omega
    have e2 : (c + 256 * w + (c + 256 * w) / 16) / 256 = w + w / 16 := by omega
    rw [e1, e2, i1, byte3 _ (by omega)]
    unfold f3
    omega
def sN (f : Nat → Nat) : Nat → Nat → Nat
  | _, 0 => 0
  | x, k + 1 => f (x % 256) + sN f (x / 256) k
theorem dv {L H M : Nat} (hM : 0 < M) (h : L < M) : (L + M * H) / M = H := by
  rw [Nat.add_mul_div_left _ _ hM, Nat.div_eq_of_lt h, Nat.zero_add]
theorem bfa (p0 p1 p2 p3 p4 p5 p6 p7 : Nat) : (p0 + 256 * (p1 + 256 * (p2 + 256 * (p3 + 256 * (p4 + 256 * (p5 + 256 * (p6 + 256 * (p7 + 256 * 0)))))))) + (p1 + 256 * (p2 + 256 * (p3 + 256 * (p4 + 256 * (p5 + 256 * (p6 + 256 * (p7 + 256 * 0))))))) = ((p0 + p1) + 256 * (p1 + p2)) + 65536 * ((p2 + p3) + 256 * (p3 + p4) + 65536 * (p4 + p5) + 16777216 * (p5 + p6) + 4294967296 * (p6 + p7) + 1099511627776 * p7) := by omega
theorem bfb (p0 p1 p2 p3 p4 p5 p6 p7 : Nat) : ((p0 + p1) + 256 * (p1 + p2)) + 65536 * ((p2 + p3) + 256 * (p3 + p4) + 65536 * (p4 + p5) + 16777216 * (p5 + p6) + 4294967296 * (p6 + p7) + 1099511627776 * p7) + ((p2 + p3) + 256 * (p3 + p4) + 65536 * (p4 + p5) + 16777216 * (p5 + p6) + 4294967296 * (p6 + p7) + 1099511627776 * p7) = ((p0 + p1 + p2 + p3) + 256 * (p1 + p2 + p3 + p4) + 65536 * (p2 + p3 + p4 + p5) + 16777216 * (p3 + p4 + p5 + p6)) + 4294967296 * ((p4 + p5 + p6 + p7) + 256 * (p5 + p6 + p7) + 65536 * (p6 + p7) + 16777216 * p7) := by omega
theorem bfc (p0 p1 p2 p3 p4 p5 p6 p7 : Nat) : ((p0 + p1 + p2 + p3) + 256 * (p1 + p2 + p3 + p4) + 65536 * (p2 + p3 + p4 + p5) + 16777216 * (p3 + p4 + p5 + p6)) + 4294967296 * ((p4 + p5 + p6 + p7) + 256 * (p5 + p6 + p7) + 65536 * (p6 + p7) + 16777216 * p7) + ((p4 + p5 + p6 + p7) + 256 * (p5 + p6 + p7) + 65536 * (p6 + p7) + 16777216 * p7) = (p0 + p1 + p2 + p3 + p4 + p5 + p6 + p7) + 128 * (2 * (p1 + p2 + p3 + p4) + 512 * (p2 + p3 + p4 + p5) + 131072 * (p3 + p4 + p5 + p6) + 33554432 * ((p4 + p5 + p6 + p7) + 256 * (p5 + p6 + p7) + 65536 * (p6 + p7) + 16777216 * p7) + 2 * (p5 + p6 + p7) + 512 * (p6 + p7) + 131072 * p7) := by omega
theorem bld {p0 p1 p2 p3 p4 p5 p6 p7 d : Nat} (h0 : p0 ≤ 8) (h1 : p1 ≤ 8) (h2 : p2 ≤ 8) (h3 : p3 ≤ 8) (h4 : p4 ≤ 8) (h5 : p5 ≤ 8) (h6 : p6 ≤ 8) (h7 : p7 ≤ 8) (hd : d = ((p0 + p1 + p2 + p3) + 256 * (p1 + p2 + p3 + p4) + 65536 * (p2 + p3 + p4 + p5) + 16777216 * (p3 + p4 + p5 + p6)) + 4294967296 * ((p4 + p5 + p6 + p7) + 256 * (p5 + p6 + p7) + 65536 * (p6 + p7) + 16777216 * p7) + ((p4 + p5 + p6 + p7) + 256 * (p5 + p6 + p7) + 65536 * (p6 + p7) + 16777216 * p7)) : d < 2 ^ 64 := by omega
theorem bl0 {p0 p1 p2 p3 p4 p5 p6 p7 : Nat} (h0 : p0 ≤ 8) (h1 : p1 ≤ 8) (h2 : p2 ≤ 8) (h3 : p3 ≤ 8) (h4 : p4 ≤ 8) (h5 : p5 ≤ 8) (h6 : p6 ≤ 8) (h7 : p7 ≤ 8) : p0 < 2 ^ 8 := by omega
theorem bl1 {p0 p1 p2 p3 p4 p5 p6 p7 : Nat} (h0 : p0 ≤ 8) (h1 : p1 ≤ 8) (h2 : p2 ≤ 8) (h3 : p3 ≤ 8) (h4 : p4 ≤ 8) (h5 : p5 ≤ 8) (h6 : p6 ≤ 8) (h7 : p7 ≤ 8) : ((p0 + p1) + 256 * (p1 + p2)) < 2 ^ 16 := by omega
theorem bl3 {p0 p1 p2 p3 p4 p5 p6 p7 : Nat} (h0 : p0 ≤ 8) (h1 : p1 ≤ 8) (h2 : p2 ≤ 8) (h3 : p3 ≤ 8) (h4 : p4 ≤ 8) (h5 : p5 ≤ 8) (h6 : p6 ≤ 8) (h7 : p7 ≤ 8) : ((p0 + p1 + p2 + p3) + 256 * (p1 + p2 + p3 + p4) + 65536 * (p2 + p3 + p4 + p5) + 16777216 * (p3 + p4 + p5 + p6)) < 2 ^ 32 := by omega
theorem bl4 {p0 p1 p2 p3 p4 p5 p6 p7 : Nat} (h0 : p0 ≤ 8) (h1 : p1 ≤ 8) (h2 : p2 ≤ 8) (h3 : p3 ≤ 8) (h4 : p4 ≤ 8) (h5 : p5 ≤ 8) (h6 : p6 ≤ 8) (h7 : p7 ≤ 8) : p0 + p1 + p2 + p3 + p4 + p5 + p6 + p7 < 128 := by omega
theorem bl5 {p0 p1 p2 p3 p4 p5 p6 p7 : Nat} (h0 : p0 ≤ 8) (h1 : p1 ≤ 8) (h2 : p2 ≤ 8) (h3 : p3 ≤ 8) (h4 : p4 ≤ 8) (h5 : p5 ≤ 8) (h6 : p6 ≤ 8) (h7 : p7 ≤ 8) : ((p0 + p1) + 256 * (p1 + p2)) + 65536 * ((p2 + p3) + 256 * (p3 + p4) + 65536 * (p4 + p5) + 16777216 * (p5 + p6) + 4294967296 * (p6 + p7) + 1099511627776 * p7) < 2 ^ 64 := by omega
theorem bl6 {p0 p1 p2 p3 p4 p5 p6 p7 : Nat} (h0 : p0 ≤ 8) (h1 : p1 ≤ 8) (h2 : p2 ≤ 8) (h3 : p3 ≤ 8) (h4 : p4 ≤ 8) (h5 : p5 ≤ 8) (h6 : p6 ≤ 8) (h7 : p7 ≤ 8) : ((p0 + p1 + p2 + p3) + 256 * (p1 + p2 + p3 + p4) + 65536 * (p2 + p3 + p4 + p5) + 16777216 * (p3 + p4 + p5 + p6)) + 4294967296 * ((p4 + p5 + p6 + p7) + 256 * (p5 + p6 + p7) + 65536 * (p6 + p7) + 16777216 * p7) < 2 ^ 64 := by omega
theorem bl7 (p0 p1 p2 p3 p4 p5 p6 p7 : Nat) : p0 + p1 + p2 + p3 + p4 + p5 + p6 + p7 = p0 + (p1 + (p2 + (p3 + (p4 + (p5 + (p6 + (p7 + 0))))))) := by omega
theorem bf8 {p0 p1 p2 p3 p4 p5 p6 p7 : Nat} {a b d : Nat} (h0 : p0 ≤ 8) (h1 : p1 ≤ 8) (h2 : p2 ≤ 8) (h3 : p3 ≤ 8) (h4 : p4 ≤ 8) (h5 : p5 ≤ 8) (h6 : p6 ≤ 8) (h7 : p7 ≤ 8) (ha : a = (p0 + 256 * (p1 + 256 * (p2 + 256 * (p3 + 256 * (p4 + 256 * (p5 + 256 * (p6 + 256 * (p7 + 256 * 0)))))))) + (p0 + 256 * (p1 + 256 * (p2 + 256 * (p3 + 256 * (p4 + 256 * (p5 + 256 * (p6 + 256 * (p7 + 256 * 0)))))))) / 2 ^ 8) (hb : b = a + a / 2 ^ 16) (hd : d = b + b / 2 ^ 32) : d % 128 = p0 + (p1 + (p2 + (p3 + (p4 + (p5 + (p6 + (p7 + 0))))))) ∧ a < 2 ^ 64 ∧ b < 2 ^ 64 ∧ d < 2 ^ 64 := by
  have k1 : (p0 + 256 * (p1 + 256 * (p2 + 256 * (p3 + 256 * (p4 + 256 * (p5 + 256 * (p6 + 256 * (p7 + 256 * 0)))))))) / 2 ^ 8 = (p1 + 256 * (p2 + 256 * (p3 + 256 * (p4 + 256 * (p5 + 256 * (p6 + 256 * (p7 + 256 * 0))))))) := dv (M := 2 ^ 8) (by decide) (bl0 h0 h1 h2 h3 h4 h5 h6 h7)
  have ha2 : a = ((p0 + p1) + 256 * (p1 + p2)) + 65536 * ((p2 + p3) + 256 * (p3 + p4) + 65536 * (p4 + p5) + 16777216 * (p5 + p6) + 4294967296 * (p6 + p7) + 1099511627776 * p7) := by rw [ha, k1]; exact bfa ..
  have k2 : (((p0 + p1) + 256 * (p1 + p2)) + 65536 * ((p2 + p3) + 256 * (p3 + p4) + 65536 * (p4 + p5) + 16777216 * (p5 + p6) + 4294967296 * (p6 + p7) + 1099511627776 * p7)) / 2 ^ 16 = ((p2 + p3) + 256 * (p3 + p4) + 65536 * (p4 + p5) + 16777216 * (p5 + p6) + 4294967296 * (p6 + p7) + 1099511627776 * p7) := dv (M := 2 ^ 16) (by decide) (bl1 h0 h1 h2 h3 h4 h5 h6 h7)
  have hb2 : b = ((p0 + p1 + p2 + p3) + 256 * (p1 + p2 + p3 + p4) + 65536 * (p2 + p3 + p4 + p5) + 16777216 * (p3 + p4 + p5 + p6)) + 4294967296 * ((p4 + p5 + p6 + p7) + 256 * (p5 + p6 + p7) + 65536 * (p6 + p7) + 16777216 * p7) := by rw [hb, ha2, k2]; exact bfb ..
  have k3 : (((p0 + p1 + p2 + p3) + 256 * (p1 + p2 + p3 + p4) + 65536 * (p2 + p3 + p4 + p5) + 16777216 * (p3 + p4 + p5 + p6)) + 4294967296 * ((p4 + p5 + p6 + p7) + 256 * (p5 + p6 + p7) + 65536 * (p6 + p7) + 16777216 * p7)) / 2 ^ 32 = ((p4 + p5 + p6 + p7) + 256 * (p5 + p6 + p7) + 65536 * (p6 + p7) + 16777216 * p7) := dv (M := 2 ^ 32) (by decide) (bl3 h0 h1 h2 h3 h4 h5 h6 h7)
  have hd1 : d = ((p0 + p1 + p2 + p3) + 256 * (p1 + p2 + p3 + p4) + 65536 * (p2 + p3 + p4 + p5) + 16777216 * (p3 + p4 + p5 + p6)) + 4294967296 * ((p4 + p5 + p6 + p7) + 256 * (p5 + p6 + p7) + 65536 * (p6 + p7) + 16777216 * p7) + ((p4 + p5 + p6 + p7) + 256 * (p5 + p6 + p7) + 65536 * (p6 + p7) + 16777216 * p7) := by rw [hd, hb2, k3]
  have hd2 : d = (p0 + p1 + p2 + p3 + p4 + p5 + p6 + p7) + 128 * (2 * (p1 + p2 + p3 + p4) + 512 * (p2 + p3 + p4 + p5) + 131072 * (p3 + p4 + p5 + p6) + 33554432 * ((p4 + p5 + p6 + p7) + 256 * (p5 + p6 + p7) + 65536 * (p6 + p7) + 16777216 * p7) + 2 * (p5 + p6 + p7) + 512 * (p6 + p7) + 131072 * p7) := by rw [hd1]; exact bfc ..
  refine ⟨?_, ?_, ?_, bld h0 h1 h2 h3 h4 h5 h6 h7 hd1⟩
  · rw [hd2, Nat.add_mul_mod_self_left, Nat.mod_eq_of_lt (bl4 h0 h1 h2 h3 h4 h5 h6 h7)]
    exact bl7 ..
  · rw [ha2]; exact bl5 h0 h1 h2 h3 h4 h5 h6 h7
  · rw [hb2]; exact bl6 h0 h1 h2 h3 h4 h5 h6 h7
theorem bfin {p : Nat → Nat} (hp : ∀ c, c < 256 → p c ≤ 8) (x : Nat) {a b d : Nat} (ha : a = bs p x 8 + bs p x 8 / 2 ^ 8) (hb : b = a + a / 2 ^ 16) (hd : d = b + b / 2 ^ 32) : d % 128 = sN p x 8 ∧ a < 2 ^ 64 ∧ b < 2 ^ 64 ∧ d < 2 ^ 64 := by
  have hp2 : ∀ y : Nat, p (y % 256) ≤ 8 := fun y => hp _ (Nat.mod_lt _ (by decide))
  simp only [bs] at ha
  simp only [sN]
  exact bf8 (hp2 _) (hp2 _) (hp2 _) (hp2 _) (hp2 _) (hp2 _) (hp2 _) (hp2 _) ha hb hd
/-- bits counted one by one -/
def bN (b : Bool) : Nat := if b = true then 1 else 0
def cN (x : Nat) : Nat → Nat
  | 0 => 0
  | k + 1 => bN (x.testBit 0) + cN (x / 2) k
theorem pc8_e : ∀ c, c < 256 → ∀ x, x % 256 = c → cN x 8 = pc8 c := by
  intro c hc x hx
  have key : ∀ c, c < 256 → cN c 8 = pc8 c := by decide +kernel
  rw [← key c hc]
  simp only [cN, Nat.testBit_zero]
  have e : ∀ j, j < 8 → x / 2 ^ j % 2 = c / 2 ^ j % 2 := by
    intro j hj
    rcases (show j = 0 ∨ j = 1 ∨ j = 2 ∨ j = 3 ∨ j = 4 ∨ j = 5 ∨ j = 6 ∨ j = 7 by omega) with h | h | h | h | h | h | h | h <;> subst h <;> omega
  have e0 := e 0 (by omega)
  have e1 := e 1 (by omega)
  have e2 := e 2 (by omega)
  have e3 := e 3 (by omega)
  have e4 := e 4 (by omega)
  have e5 := e 5 (by omega)
  have e6 := e 6 (by omega)
  have e7 := e 7 (by omega)
  simp only [Nat.div_div_eq_div_mul] at *
  simp only [Nat.reducePow, Nat.reduceMul, Nat.div_one] at *
  rw [e0, e1, e2, e3, e4, e5, e6, e7]
theorem cN_add : ∀ a b x, cN x (a + b) = cN x a + cN (x / 2 ^ a) b
  | 0, b, x => by rw [Nat.zero_add, Nat.pow_zero, Nat.div_one]; simp [cN]
  | a + 1, b, x => by
    rw [show a + 1 + b = (a + b) + 1 by omega]
    simp only [cN]
    rw [cN_add a b (x / 2), Nat.div_div_eq_div_mul, ← Nat.pow_succ', show a.succ = a + 1 from rfl]
    omega
theorem cN_8 : ∀ k x, cN x (8 * k) = sN pc8 x k
  | 0, _ => rfl
  | k + 1, x => by
    rw [show 8 * (k + 1) = 8 + 8 * k by omega, cN_add, pc8_e (x % 256) (by omega) x rfl, cN_8 k]
    rfl
theorem cN_sl : ∀ k x, (cN x k : Int) = sl (fun j => bI (x.testBit j)) k := by
  have h1 : ∀ k x, cN x (k + 1) = cN x k + bN (x.testBit k) := by
    intro k x
    rw [cN_add k 1]
    simp only [cN, Nat.add_zero]
    rw [Nat.testBit_div_two_pow, Nat.zero_add]
  intro k
  induction k with
  | zero => intro x; rfl
  | succ k ih =>
    intro x
    rw [h1]
    simp only [sl]
    rw [← ih x]
    unfold bN bI
    split <;> simp
/-- the long's own steps -/
def lsr (x : Int64) (k : Int) : Int64 := (x.toUInt64 >>> ((iI k).toInt64.toUInt64 &&& Int64.toUInt64 63)).toInt64
theorem lsr_n {a k : Nat} (ha : a < 2 ^ 64) (hk : k < 64) : lsr (lN a) (k : Int) = lN (a / 2 ^ k) := wb_shr ha hk
theorem lN_s {a b : Nat} (h : b ≤ a) (ha : a < 2 ^ 64) : lN a - lN b = lN (a - b) := by
  apply wb_inj
  rw [Int64.toBitVec_sub, wb_tb, wb_tb, wb_tb]
  apply BitVec.eq_of_toNat_eq
  rw [BitVec.toNat_sub, BitVec.toNat_ofNat, BitVec.toNat_ofNat, BitVec.toNat_ofNat]
  omega
theorem lN_a (a b : Nat) : lN a + lN b = lN (a + b) := by
  apply wb_inj
  rw [Int64.toBitVec_add, wb_tb, wb_tb, wb_tb]
  apply BitVec.eq_of_toNat_eq
  rw [BitVec.toNat_add, BitVec.toNat_ofNat, BitVec.toNat_ofNat, BitVec.toNat_ofNat]
  omega
theorem l2i_n (m : Nat) : (lN m).toInt32 = nI m := by
  apply Int32.toBitVec_inj.mp
  show (lN m).toInt32.toBitVec = BitVec.ofNat 32 m
  rw [Int64.toBitVec_toInt32, wb_tb]
  apply BitVec.eq_of_getLsbD_eq
  intro i hi
  rw [BitVec.getLsbD_signExtend, if_pos (show i < 64 by omega), BitVec.getLsbD_ofNat, BitVec.getLsbD_ofNat]
  simp [hi, show i < 64 by omega]
theorem i127 (n : Nat) : nI n &&& iI 127 = iI ((n % 128 : Nat) : Int) := by
  have e : (iI 127 : Int32) = nI 127 := rfl
  have e2 : iI ((n % 128 : Nat) : Int) = nI (n % 128) := rfl
  rw [e, e2]
  apply Int32.toBitVec_inj.1
  show BitVec.ofNat 32 n &&& BitVec.ofNat 32 127 = BitVec.ofNat 32 (n % 128)
  apply BitVec.eq_of_toNat_eq
  rw [BitVec.toNat_and, BitVec.toNat_ofNat, BitVec.toNat_ofNat, BitVec.toNat_ofNat, show (127 % 2 ^ 32 : Nat) = 2 ^ 7 - 1 by decide, Nat.and_two_pow_sub_one_eq_mod]
  omega
theorem bcT {n : Nat} (hn : n < 2 ^ 64) {x1 x2 x3 x4 x5 x6 : Int64} (h1 : x1 = lN n - (lsr (lN n) 1 &&& 6148914691236517205)) (h2 : x2 = (x1 &&& 3689348814741910323) + (lsr x1 2 &&& 3689348814741910323)) (h3 : x3 = (x2 + lsr x2 4) &&& 1085102592571150095) (h4 : x4 = x3 + lsr x3 8) (h5 : x5 = x4 + lsr x4 16) (h6 : x6 = x5 + lsr x5 32) : x6.toInt32 &&& iI 127 = iI (sl (fun j => bI (n.testBit j)) 64) := by
  have hn8 : n < 256 ^ 8 := by omega
  obtain ⟨a1, a2⟩ := bstep1 8 n hn8
  have b1 : bs f1 n 8 < 256 ^ 8 := bs_lt f1_b 8 n
  have a3 := bstep2 8 _ b1
  have b2 : bs f2 (bs f1 n 8) 8 = bs (fun c => f2 (f1 c)) n 8 := bs_bs f1_b 8 n
  have b3 : bs (fun c => f2 (f1 c)) n 8 < 256 ^ 8 := bs_lt (fun c hc => (f2_b c hc).1) 8 n
  have a4 := bstep3 f2_b 8 n
  have r1 : rep 85 8 = 6148914691236517205 := by decide +kernel
  have r2 : rep 51 8 = 3689348814741910323 := by decide +kernel
  have r3 : rep 15 8 = 1085102592571150095 := by decide +kernel
  rw [r1] at a1 a2
  rw [r2, b2] at a3
  rw [r3] at a4
  have l1 : lsr (lN n) 1 = lN (n / 2 ^ 1) := lsr_n (k := 1) hn (by decide)
  have c1 : x1 = lN (bs f1 n 8) := by
    rw [h1, l1, show (6148914691236517205 : Int64) = lN 6148914691236517205 from rfl, wb_and (by omega) (by decide), show (2 : Nat) ^ 1 = 2 from rfl, lN_s a2 hn, a1]
  have l2 : lsr (lN (bs f1 n 8)) 2 = lN (bs f1 n 8 / 2 ^ 2) := lsr_n (k := 2) (by omega) (by decide)
  have c2 : x2 = lN (bs (fun c => f2 (f1 c)) n 8) := by
    rw [h2, c1, l2, show (3689348814741910323 : Int64) = lN 3689348814741910323 from rfl, wb_and (by omega) (by decide), wb_and (by omega) (by decide), show (2 : Nat) ^ 2 = 4 from rfl, lN_a, a3]
  have l3 : lsr (lN (bs (fun c => f2 (f1 c)) n 8)) 4 = lN (bs (fun c => f2 (f1 c)) n 8 / 2 ^ 4) := lsr_n (k := 4) (by omega) (by decide)
  have d3 : bs (fun c => f2 (f1 c)) n 8 + bs (fun c => f2 (f1 c)) n 8 / 16 < 2 ^ 64 := by
    simp only [bs]
    have g := fun c (hc : c < 256) => f2_b c hc
    have g0 := g (n % 256) (by omega)
    have g1 := g (n / 256 % 256) (by omega)
    have g2 := g (n / 256 / 256 % 256) (by omega)
    have g3 := g (n / 256 / 256 / 256 % 256) (by omega)
    have g4 := g (n / 256 / 256 / 256 / 256 % 256) (by omega)
    have g5 := g (n / 256 / 256 / 256 / 256 / 256 % 256) (by omega)
    have g6 := g (n / 256 / 256 / 256 / 256 / 256 / 256 % 256) (by omega)
    have g7 := g (n / 256 / 256 / 256 / 256 / 256 / 256 / 256 % 256) (by omega)
    omega
  have c3 : x3 = lN (bs (fun c => f3 (f2 (f1 c))) n 8) := by
    rw [h3, c2, l3, show (1085102592571150095 : Int64) = lN 1085102592571150095 from rfl, show (2 : Nat) ^ 4 = 16 from rfl, lN_a, wb_and d3 (by decide), a4]
  obtain ⟨q1, q2, q3, q4⟩ := bfin pc8_b n (a := bs pc8 n 8 + bs pc8 n 8 / 2 ^ 8) rfl rfl rfl
  have c3' : x3 = lN (bs pc8 n 8) := c3
  have b4 : bs pc8 n 8 < 2 ^ 64 := by omega
  have l4 : lsr (lN (bs pc8 n 8)) 8 = lN (bs pc8 n 8 / 2 ^ 8) := lsr_n (k := 8) b4 (by decide)
  have c4 : x4 = lN (bs pc8 n 8 + bs pc8 n 8 / 2 ^ 8) := by rw [h4, c3', l4, lN_a]
  generalize bs pc8 n 8 + bs pc8 n 8 / 2 ^ 8 = a at *
  have l5 : lsr (lN a) 16 = lN (a / 2 ^ 16) := lsr_n (k := 16) q2 (by decide)
  have c5 : x5 = lN (a + a / 2 ^ 16) := by rw [h5, c4, l5, lN_a]
  generalize a + a / 2 ^ 16 = b at *
  have l6 : lsr (lN b) 32 = lN (b / 2 ^ 32) := lsr_n (k := 32) q3 (by decide)
  have c6 : x6 = lN (b + b / 2 ^ 32) := by rw [h6, c5, l6, lN_a]
  rw [c6, l2i_n, i127, q1, ← cN_sl 64 n, cN_8 8 n]
theorem isM_bc {x : Int64} {f : Nat → Bool} (hx : isM x f) {x1 x2 x3 x4 x5 x6 : Int64} (h1 : x1 = x - (lsr x 1 &&& 6148914691236517205)) (h2 : x2 = (x1 &&& 3689348814741910323) + (lsr x1 2 &&& 3689348814741910323)) (h3 : x3 = (x2 + lsr x2 4) &&& 1085102592571150095) (h4 : x4 = x3 + lsr x3 8) (h5 : x5 = x4 + lsr x4 16) (h6 : x6 = x5 + lsr x5 32) : x6.toInt32 &&& iI 127 = iI (sl (fun j => bI (f j)) 60) := by
  have h60 := fun k (hk : 60 ≤ k) => isM_lt hx hk
  obtain ⟨n, rfl, hn, hf⟩ := hx
  rw [bcT (by omega) h1 h2 h3 h4 h5 h6]
  have e : (fun j => bI (n.testBit j)) = fun j => bI (f j) := funext fun j => by rw [hf]
  rw [e]
  simp only [sl]
  rw [h60 60 (by decide), h60 61 (by decide), h60 62 (by decide), h60 63 (by decide)]
  congr 1
  unfold bI
  simp
end
section
set_option maxHeartbeats 4000000 in
set_option maxRecDepth 100000 in
theorem c_J13_bitCount_95d88 (l : Launch) (D : va_G) (cy : Nat → ClassId) (A : Nat → Prop) (ad : Nat → Nat) (H0 : Heap) (x : Int64) (f : Nat → Bool) (hM : isM x f) : Met l yJ13_bitCount_95d88 wsJ13_bitCount_95d88 ({ frames := 0, cells := 0, slots := 0, locals := 0 }) (zPc D cy A [.long (x)] H0) (zQi (fun z H1 => H1 = H0 ∧ z = sl (fun j => bI (f j)) 60) A) 0 0 A := by
  refine Met.ofW (cc := cJ13_bitCount_95d88) (maxL := 2) (ret := (some .int)) (by decide) rfl ?_
  intro pg en s mt args below meth c s₁ B hml hv
  obtain ⟨rfl, hH, hE⟩ := hv
  subst hH
  have hx := B.exec
  have hb := B.bytes
  have hr := B.returns
  have hts := atoms_spec (ws := wsJ13_bitCount_95d88) B.pre
  have hown : s.vm.findClass RJ13 = some mt.cls := findClass_of_methodNamed B.named
  have hlocks := B.notSynchronized
  have hS : va_S A s.heap s.heap [] := va_S.rf
  have hl := lv_entry ([.long (x)]) (n := 2) (Nat.le_of_ble_eq_true rfl)
  rw [lg_entry_eq]
  generalize (lg_sl ([.long (x)]) ++ List.replicate (2 - (lg_sl ([.long (x)])).length) Slot.unset).toArray = ls at hl ⊢
  have hl : lv_has ls 2 [(0, .long (x))] := hl
  have hcb := sl_b (f := fun j => bI (f j)) (a := 0) (b := 1) (n := 60) (fun i hi => by have := bI_b (f i); constructor <;> (try simp only []) <;> omega)
  refine lv_lload_n hx hb dJ13_bitCount_95d88_0 rfl (lv_at hl 0 rfl) ?_
  refine lv_lload_n hx hb dJ13_bitCount_95d88_1 rfl (lv_at hl 0 rfl) ?_
  refine zi_const hx hb dJ13_bitCount_95d88_2 ?_
  refine lv_lushr (v := lsr (x) 1) hx hb dJ13_bitCount_95d88_3 rfl ?_
  refine lv_ldc2 (v := 6148914691236517205) hx hb hown (hts (.constantLong RJ13 314 (6148914691236517205)) (by decide +kernel)) dJ13_bitCount_95d88_4 ?_
  refine lv_land hx hb dJ13_bitCount_95d88_7 ?_
  refine lv_lsub hx hb dJ13_bitCount_95d88_8 ?_
  obtain ⟨x_9, hx_9⟩ : ∃ z : Int64, z = x - ((lsr x 1) &&& 6148914691236517205) := ⟨_, rfl⟩
  rw [← hx_9]
  refine lv_lstore_n (lv' := [(0, .long (x_9))]) hx hb dJ13_bitCount_95d88_9 rfl hl (by decide) rfl (fun ls hl => ?_)
  refine lv_lload_n hx hb dJ13_bitCount_95d88_10 rfl (lv_at hl 0 rfl) ?_
  refine lv_ldc2 (v := 3689348814741910323) hx hb hown (hts (.constantLong RJ13 316 (3689348814741910323)) (by decide +kernel)) dJ13_bitCount_95d88_11 ?_
  refine lv_land hx hb dJ13_bitCount_95d88_14 ?_
  refine lv_lload_n hx hb dJ13_bitCount_95d88_15 rfl (lv_at hl 0 rfl) ?_
  refine zi_const hx hb dJ13_bitCount_95d88_16 ?_
  refine lv_lushr (v := lsr (x_9) 2) hx hb dJ13_bitCount_95d88_17 rfl ?_
  refine lv_ldc2 (v := 3689348814741910323) hx hb hown (hts (.constantLong RJ13 316 (3689348814741910323)) (by decide +kernel)) dJ13_bitCount_95d88_18 ?_
  refine lv_land hx hb dJ13_bitCount_95d88_21 ?_
  refine lv_ladd hx hb dJ13_bitCount_95d88_22 ?_
  obtain ⟨x_23, hx_23⟩ : ∃ z : Int64, z = (x_9 &&& 3689348814741910323) + ((lsr x_9 2) &&& 3689348814741910323) := ⟨_, rfl⟩
  rw [← hx_23]
  refine lv_lstore_n (lv' := [(0, .long (x_23))]) hx hb dJ13_bitCount_95d88_23 rfl hl (by decide) rfl (fun ls hl => ?_)
  refine lv_lload_n hx hb dJ13_bitCount_95d88_24 rfl (lv_at hl 0 rfl) ?_
  refine lv_lload_n hx hb dJ13_bitCount_95d88_25 rfl (lv_at hl 0 rfl) ?_
  refine zi_const hx hb dJ13_bitCount_95d88_26 ?_
  refine lv_lushr (v := lsr (x_23) 4) hx hb dJ13_bitCount_95d88_27 rfl ?_
  refine lv_ladd hx hb dJ13_bitCount_95d88_28 ?_
  refine lv_ldc2 (v := 1085102592571150095) hx hb hown (hts (.constantLong RJ13 318 (1085102592571150095)) (by decide +kernel)) dJ13_bitCount_95d88_29 ?_
  refine lv_land hx hb dJ13_bitCount_95d88_32 ?_
  obtain ⟨x_33, hx_33⟩ : ∃ z : Int64, z = (x_23 + (lsr x_23 4)) &&& 1085102592571150095 := ⟨_, rfl⟩
  rw [← hx_33]
  refine lv_lstore_n (lv' := [(0, .long (x_33))]) hx hb dJ13_bitCount_95d88_33 rfl hl (by decide) rfl (fun ls hl => ?_)
  refine lv_lload_n hx hb dJ13_bitCount_95d88_34 rfl (lv_at hl 0 rfl) ?_
  refine lv_lload_n hx hb dJ13_bitCount_95d88_35 rfl (lv_at hl 0 rfl) ?_
  refine zi_bipush hx hb dJ13_bitCount_95d88_36 (by decide) ?_
  refine lv_lushr (v := lsr (x_33) 8) hx hb dJ13_bitCount_95d88_38 rfl ?_
  refine lv_ladd hx hb dJ13_bitCount_95d88_39 ?_
  obtain ⟨x_40, hx_40⟩ : ∃ z : Int64, z = x_33 + (lsr x_33 8) := ⟨_, rfl⟩
  rw [← hx_40]
  refine lv_lstore_n (lv' := [(0, .long (x_40))]) hx hb dJ13_bitCount_95d88_40 rfl hl (by decide) rfl (fun ls hl => ?_)
  refine lv_lload_n hx hb dJ13_bitCount_95d88_41 rfl (lv_at hl 0 rfl) ?_
  refine lv_lload_n hx hb dJ13_bitCount_95d88_42 rfl (lv_at hl 0 rfl) ?_
  refine zi_bipush hx hb dJ13_bitCount_95d88_43 (by decide) ?_
  refine lv_lushr (v := lsr (x_40) 16) hx hb dJ13_bitCount_95d88_45 rfl ?_
  refine lv_ladd hx hb dJ13_bitCount_95d88_46 ?_
  obtain ⟨x_47, hx_47⟩ : ∃ z : Int64, z = x_40 + (lsr x_40 16) := ⟨_, rfl⟩
  rw [← hx_47]
  refine lv_lstore_n (lv' := [(0, .long (x_47))]) hx hb dJ13_bitCount_95d88_47 rfl hl (by decide) rfl (fun ls hl => ?_)
  refine lv_lload_n hx hb dJ13_bitCount_95d88_48 rfl (lv_at hl 0 rfl) ?_
  refine lv_lload_n hx hb dJ13_bitCount_95d88_49 rfl (lv_at hl 0 rfl) ?_
  refine zi_bipush hx hb dJ13_bitCount_95d88_50 (by decide) ?_
  refine lv_lushr (v := lsr (x_47) 32) hx hb dJ13_bitCount_95d88_52 rfl ?_
  refine lv_ladd hx hb dJ13_bitCount_95d88_53 ?_
  obtain ⟨x_54, hx_54⟩ : ∃ z : Int64, z = x_47 + (lsr x_47 32) := ⟨_, rfl⟩
  rw [← hx_54]
  refine lv_lstore_n (lv' := [(0, .long (x_54))]) hx hb dJ13_bitCount_95d88_54 rfl hl (by decide) rfl (fun ls hl => ?_)
  refine lv_lload_n hx hb dJ13_bitCount_95d88_55 rfl (lv_at hl 0 rfl) ?_
  refine lv_l2i hx hb dJ13_bitCount_95d88_56 rfl ?_
  refine zi_bipush hx hb dJ13_bitCount_95d88_57 (by decide) ?_
  refine lv_iand hx hb dJ13_bitCount_95d88_59 ?_
  rw [isM_bc hM hx_9 hx_23 hx_33 hx_40 hx_47 hx_54]
  refine ziret hx hb hr hlocks hS (Nat.le_of_ble_eq_true rfl) (Nat.le_of_ble_eq_true rfl) (by first | decide | (constructor <;> omega)) ?_ dJ13_bitCount_95d88_60
  exact ⟨rfl, rfl⟩

set_option maxHeartbeats 4000000 in
set_option maxRecDepth 100000 in
theorem c_X1_nextToServe (l : Launch) (D : va_G) (cy : Nat → ClassId) (A : Nat → Prop) (ad : Nat → Nat) (ya : Nat → Nat → Int) (yi : Nat → Int) (pr : Nat → Option PS) (H0 : Heap) (hw : zW D A ad (yE cy ad ya yi pr) H0) (hsp : ∀ i p, i < 10 → pr i = some p → (0 ≤ p.1 9 ∧ p.1 9 ≤ 900) ∧ (p.1 12 = 0 ∨ p.1 12 = 1)) : Met l yX1_nextToServe wsX1_nextToServe ({ frames := 0, cells := 0, slots := 0, locals := 0 }) (zPc D cy A [.ref (ad 0)] H0) (zQq (fun z H1 => H1 = H0 ∧ ((z = none ∧ ∀ j q, j < 10 → pr j = some q → q.1 12 ≠ 0) ∨ ∃ i0 p0, z = some (ad (10 + 3 * i0)) ∧ i0 < 10 ∧ pr i0 = some p0 ∧ p0.1 12 = 0 ∧ ∀ j q, j < 10 → pr j = some q → q.1 12 = 0 → p0.1 9 < q.1 9 ∨ (p0.1 9 = q.1 9 ∧ i0 ≤ j))) A) 0 0 A := by
  refine Met.ofW (cc := cX1_nextToServe) (maxL := 6) (ret := (some (.object "FormworkYard$Pour"))) (by decide) rfl ?_
  intro pg en s mt args below meth c s₁ B hml hv
  obtain ⟨rfl, hH, hE⟩ := hv
  subst hH
  have hx := B.exec
  have hb := B.bytes
  have hr := B.returns
  have hts := atoms_spec (ws := wsX1_nextToServe) B.pre
  have hown : s.vm.findClass RX1 = some mt.cls := findClass_of_methodNamed B.named
  have hlocks := B.notSynchronized
  have hinX0 : ∀ w ∈ u_ws RX0 TX0 13, w ∈ wsX1_nextToServe := by decide +kernel
  have hinX1 : ∀ w ∈ u_ws RX1 TX1 9, w ∈ wsX1_nextToServe := by decide +kernel
  have hS : va_S A s.heap s.heap [] := va_S.rf
  have hl := lv_entry ([.ref (ad 0)]) (n := 6) (Nat.le_of_ble_eq_true rfl)
  rw [lg_entry_eq]
  generalize (lg_sl ([.ref (ad 0)]) ++ List.replicate (6 - (lg_sl ([.ref (ad 0)])).length) Slot.unset).toArray = ls at hl ⊢
  have hl : lv_has ls 6 [(0, .ref (ad 0))] := hl
  refine lv_null hx hb dX1_nextToServe_0 ?_
  refine lv_astore_nN (lv' := [(1, .null), (0, .ref (ad 0))]) hx hb dX1_nextToServe_1 rfl hl (by decide) rfl (fun ls hl => ?_)
  refine lv_aload_n hx hb dX1_nextToServe_2 rfl (lv_at hl 1 rfl) ?_
  refine zget (C := RX1) (T := TX1) (N := 9) hx hb hts hinX1 hown hE hw 0 yE_0 rfl 4 (by decide) (hts (.fieldLink RX1 24 "FormworkYard" "pourList" "[LFormworkYard$Pour;") (by decide +kernel)) rfl dX1_nextToServe_3 ?_
  refine lv_astore_n (lv' := [(2, .ref (ad 5)), (1, .null), (0, .ref (ad 0))]) hx hb dX1_nextToServe_6 rfl hl (by decide) rfl (fun ls hl => ?_)
  refine lv_aload_n hx hb dX1_nextToServe_7 rfl (lv_at hl 0 rfl) ?_
  refine zalen hx hb hE hw 5 2 yE_5 rfl (z := 10) rfl dX1_nextToServe_8 ?_
  refine lv_istore_n (lv' := [(3, .int (iI (10))), (2, .ref (ad 5)), (1, .null), (0, .ref (ad 0))]) hx hb dX1_nextToServe_9 rfl hl (by decide) rfl (fun ls hl => ?_)
  refine zi_const hx hb dX1_nextToServe_10 ?_
  refine lv_istore (lv' := [(4, .int (iI (0))), (3, .int (iI (10))), (2, .ref (ad 5)), (1, .null), (0, .ref (ad 0))]) hx hb dX1_nextToServe_11 hl (by decide) rfl (fun ls hl => ?_)
  have loop_13 : ∀ (n : Nat) (i : Nat) (b : Option Nat) (locs : List Loc) (ls : Array Slot), 10 - i < n → (i ≤ 10) → ((b = none ∧ ∀ j q, j < i → pr j = some q → q.1 12 ≠ 0) ∨ ∃ i0 p0, b = some i0 ∧ i0 < i ∧ pr i0 = some p0 ∧ p0.1 12 = 0 ∧ ∀ j q, j < i → pr j = some q → q.1 12 = 0 → p0.1 9 < q.1 9 ∨ (p0.1 9 = q.1 9 ∧ i0 ≤ j)) → va_S A s.heap s.heap locs → lv_has ls 6 [(4, .int (iI ((i : Int)))), (3, .int (iI (10))), (2, .ref (ad 5)), (1, va_rf (b.map (fun k => ad (10 + 3 * k)))), (0, .ref (ad 0))] → W pg l en (headSpec wsX1_nextToServe ({ frames := 0, cells := 0, slots := 0, locals := 0 })).room s mt ([.ref (ad 0)] : List Value).toArray below meth c s.heap locs 0 0 (MQ below (zQq (fun z H1 => H1 = s.heap ∧ ((z = none ∧ ∀ j q, j < 10 → pr j = some q → q.1 12 ≠ 0) ∨ ∃ i0 p0, z = some (ad (10 + 3 * i0)) ∧ i0 < 10 ∧ pr i0 = some p0 ∧ p0.1 12 = 0 ∧ ∀ j q, j < 10 → pr j = some q → q.1 12 = 0 → p0.1 9 < q.1 9 ∨ (p0.1 9 = q.1 9 ∧ i0 ≤ j))) A) ([.ref (ad 0)] : List Value).toArray s 0 0 A) (F0 mt 13 ls []) := by
    intro n
    induction n with
    | zero =>
      intro i b locs ls hm hi hb9
      exfalso; omega
    | succ n ih =>
      intro i b locs ls hm hi hb9 hS hl
      rcases hb9 with ⟨rfl, hn9⟩ | ⟨i0, p0, rfl, hi0, hp0, hs0, hm0⟩
      · replace hl : lv_has ls 6 [(4, .int (iI ((i : Int)))), (3, .int (iI (10))), (2, .ref (ad 5)), (1, .null), (0, .ref (ad 0))] := hl
        refine lv_iload hx hb dX1_nextToServe_13 (lv_at hl 0 rfl) ?_
        refine lv_iload_n hx hb dX1_nextToServe_15 rfl (lv_at hl 1 rfl) ?_
        refine zc_ge (tgt := 63) hx hb dX1_nextToServe_16 (by decide) (by first | decide | (constructor <;> omega)) (by first | decide | (constructor <;> omega)) (fun c_16 => ?_) (fun c_16 => ?_)
        · refine lv_aload_nN hx hb dX1_nextToServe_63 rfl (lv_at hl 3 rfl) ?_
          refine zaret (z := none) hx hb hr hlocks hS (Nat.le_of_ble_eq_true rfl) (Nat.le_of_ble_eq_true rfl) ?_ dX1_nextToServe_64
          exact ⟨rfl, Or.inl ⟨rfl, fun j q hj => hn9 j q (by omega)⟩⟩
        · refine lv_aload_n hx hb dX1_nextToServe_19 rfl (lv_at hl 2 rfl) ?_
          refine lv_iload hx hb dX1_nextToServe_20 (lv_at hl 0 rfl) ?_
          refine zaald hx hb hE hw 5 yE_5 i rfl (by omega) (by omega) dX1_nextToServe_22 ?_
          rcases hp_22 : pr i with _ | p_22
          · rw [yR_0 hp_22]
            refine lv_astoreN (lv' := [(5, .null), (4, .int (iI ((i : Int)))), (3, .int (iI (10))), (2, .ref (ad 5)), (1, .null), (0, .ref (ad 0))]) hx hb dX1_nextToServe_23 hl (by decide) rfl (fun ls hl => ?_)
            refine lv_aloadN hx hb dX1_nextToServe_25 (lv_at hl 0 rfl) ?_
            refine lv_ifnullN (tgt := 57) hx hb dX1_nextToServe_27 (by decide) ?_
            refine zi_iinc (lv' := [(4, .int (iI ((i : Int) + 1))), (5, .null), (3, .int (iI (10))), (2, .ref (ad 5)), (1, .null), (0, .ref (ad 0))]) hx hb dX1_nextToServe_57 hl (k := 1) rfl (by decide) rfl (fun ls hl => ?_)
            refine lv_goto (tgt := 13) hx hb dX1_nextToServe_60 (by decide) ?_
            exact ih (i + 1) none _ _ (by omega) (by omega) (Or.inl ⟨rfl, fun j q hj hq => by by_cases hji : j = i; (subst hji; rw [hp_22] at hq; cases hq); exact hn9 j q (by omega) hq⟩) hS (lv_sub hl [0, 2, 3, 4, 5] rfl)
          · rw [yR_1 hp_22]
            obtain ⟨hq9, hq12⟩ := hsp i p_22 (by omega) hp_22
            refine lv_astore (lv' := [(5, .ref (ad (10 + 3 * i))), (4, .int (iI ((i : Int)))), (3, .int (iI (10))), (2, .ref (ad 5)), (1, .null), (0, .ref (ad 0))]) hx hb dX1_nextToServe_23 hl (by decide) rfl (fun ls hl => ?_)
            refine lv_aload hx hb dX1_nextToServe_25 (lv_at hl 0 rfl) ?_
            refine lv_ifnull hx hb dX1_nextToServe_27 ?_
            refine lv_aload hx hb dX1_nextToServe_30 (lv_at hl 0 rfl) ?_
            refine zgetN (own := RX1) (C := RX0) (T := TX0) (N := 13) (index := 202) (host := RX1) hx hb hts hinX0 hown hE hw (10 + 3 * i) (yE_p (by omega) hp_22) rfl 12 (by decide) (by decide +kernel) rfl dX1_nextToServe_32 ?_
            refine zf_ne (tgt := 57) hx hb dX1_nextToServe_35 (by decide) (by first | decide | (constructor <;> omega)) (fun c_35 => ?_) (fun c_35 => ?_)
            · refine zi_iinc (lv' := [(4, .int (iI ((i : Int) + 1))), (5, .ref (ad (10 + 3 * i))), (3, .int (iI (10))), (2, .ref (ad 5)), (1, .null), (0, .ref (ad 0))]) hx hb dX1_nextToServe_57 hl (k := 1) rfl (by decide) rfl (fun ls hl => ?_)
              refine lv_goto (tgt := 13) hx hb dX1_nextToServe_60 (by decide) ?_
              exact ih (i + 1) none _ _ (by omega) (by omega) (Or.inl ⟨rfl, fun j q hj hq => by by_cases hji : j = i; (subst hji; rw [hp_22] at hq; cases hq; exact (by omega)); exact hn9 j q (by omega) hq⟩) hS (lv_sub hl [0, 2, 3, 4, 5] rfl)
            · refine lv_aload_nN hx hb dX1_nextToServe_38 rfl (lv_at hl 4 rfl) ?_
              refine lv_ifnullN (tgt := 54) hx hb dX1_nextToServe_39 (by decide) ?_
              refine lv_aload hx hb dX1_nextToServe_54 (lv_at hl 0 rfl) ?_
              refine lv_astore_n (lv' := [(1, .ref (ad (10 + 3 * i))), (5, .ref (ad (10 + 3 * i))), (4, .int (iI ((i : Int)))), (3, .int (iI (10))), (2, .ref (ad 5)), (0, .ref (ad 0))]) hx hb dX1_nextToServe_56 rfl hl (by decide) rfl (fun ls hl => ?_)
              refine zi_iinc (lv' := [(4, .int (iI ((i : Int) + 1))), (1, .ref (ad (10 + 3 * i))), (5, .ref (ad (10 + 3 * i))), (3, .int (iI (10))), (2, .ref (ad 5)), (0, .ref (ad 0))]) hx hb dX1_nextToServe_57 hl (k := 2) rfl (by decide) rfl (fun ls hl => ?_)
              refine lv_goto (tgt := 13) hx hb dX1_nextToServe_60 (by decide) ?_
              exact ih (i + 1) (some i) _ _ (by omega) (by omega) (Or.inr ⟨i, p_22, rfl, by omega, hp_22, by omega, fun j q hj hq h12 => by by_cases hji : j = i; (subst hji; rw [hp_22] at hq; cases hq; exact Or.inr ⟨rfl, Nat.le_refl _⟩); exact absurd h12 (hn9 j q (by omega) hq)⟩) hS (lv_sub hl [0, 3, 4, 1, 5] rfl)
      · replace hl : lv_has ls 6 [(4, .int (iI ((i : Int)))), (3, .int (iI (10))), (2, .ref (ad 5)), (1, .ref (ad (10 + 3 * i0))), (0, .ref (ad 0))] := hl
        obtain ⟨hp9, hp12⟩ := hsp i0 p0 (by omega) hp0
        refine lv_iload hx hb dX1_nextToServe_13 (lv_at hl 0 rfl) ?_
        refine lv_iload_n hx hb dX1_nextToServe_15 rfl (lv_at hl 1 rfl) ?_
        refine zc_ge (tgt := 63) hx hb dX1_nextToServe_16 (by decide) (by first | decide | (constructor <;> omega)) (by first | decide | (constructor <;> omega)) (fun c_16 => ?_) (fun c_16 => ?_)
        · refine lv_aload_n hx hb dX1_nextToServe_63 rfl (lv_at hl 3 rfl) ?_
          refine zaret (z := some (ad (10 + 3 * i0))) hx hb hr hlocks hS (Nat.le_of_ble_eq_true rfl) (Nat.le_of_ble_eq_true rfl) ?_ dX1_nextToServe_64
          exact ⟨rfl, Or.inr ⟨i0, p0, rfl, by omega, hp0, hs0, fun j q hj => hm0 j q (by omega)⟩⟩
        · refine lv_aload_n hx hb dX1_nextToServe_19 rfl (lv_at hl 2 rfl) ?_
          refine lv_iload hx hb dX1_nextToServe_20 (lv_at hl 0 rfl) ?_
          refine zaald hx hb hE hw 5 yE_5 i rfl (by omega) (by omega) dX1_nextToServe_22 ?_
          rcases hp_22 : pr i with _ | p_22
          · rw [yR_0 hp_22]
            refine lv_astoreN (lv' := [(5, .null), (4, .int (iI ((i : Int)))), (3, .int (iI (10))), (2, .ref (ad 5)), (1, .ref (ad (10 + 3 * i0))), (0, .ref (ad 0))]) hx hb dX1_nextToServe_23 hl (by decide) rfl (fun ls hl => ?_)
            refine lv_aloadN hx hb dX1_nextToServe_25 (lv_at hl 0 rfl) ?_
            refine lv_ifnullN (tgt := 57) hx hb dX1_nextToServe_27 (by decide) ?_
            refine zi_iinc (lv' := [(4, .int (iI ((i : Int) + 1))), (5, .null), (3, .int (iI (10))), (2, .ref (ad 5)), (1, .ref (ad (10 + 3 * i0))), (0, .ref (ad 0))]) hx hb dX1_nextToServe_57 hl (k := 1) rfl (by decide) rfl (fun ls hl => ?_)
            refine lv_goto (tgt := 13) hx hb dX1_nextToServe_60 (by decide) ?_
            exact ih (i + 1) (some i0) _ _ (by omega) (by omega) (Or.inr ⟨i0, p0, rfl, by omega, hp0, hs0, (fun j q hj hq h12 => by by_cases hji : j = i; (subst hji; rw [hp_22] at hq; cases hq); exact hm0 j q (by omega) hq h12)⟩) hS (lv_sub hl [0, 2, 3, 4, 5] rfl)
          · rw [yR_1 hp_22]
            obtain ⟨hq9, hq12⟩ := hsp i p_22 (by omega) hp_22
            refine lv_astore (lv' := [(5, .ref (ad (10 + 3 * i))), (4, .int (iI ((i : Int)))), (3, .int (iI (10))), (2, .ref (ad 5)), (1, .ref (ad (10 + 3 * i0))), (0, .ref (ad 0))]) hx hb dX1_nextToServe_23 hl (by decide) rfl (fun ls hl => ?_)
            refine lv_aload hx hb dX1_nextToServe_25 (lv_at hl 0 rfl) ?_
            refine lv_ifnull hx hb dX1_nextToServe_27 ?_
            refine lv_aload hx hb dX1_nextToServe_30 (lv_at hl 0 rfl) ?_
            refine zgetN (own := RX1) (C := RX0) (T := TX0) (N := 13) (index := 202) (host := RX1) hx hb hts hinX0 hown hE hw (10 + 3 * i) (yE_p (by omega) hp_22) rfl 12 (by decide) (by decide +kernel) rfl dX1_nextToServe_32 ?_
            refine zf_ne (tgt := 57) hx hb dX1_nextToServe_35 (by decide) (by first | decide | (constructor <;> omega)) (fun c_35 => ?_) (fun c_35 => ?_)
            · refine zi_iinc (lv' := [(4, .int (iI ((i : Int) + 1))), (5, .ref (ad (10 + 3 * i))), (3, .int (iI (10))), (2, .ref (ad 5)), (1, .ref (ad (10 + 3 * i0))), (0, .ref (ad 0))]) hx hb dX1_nextToServe_57 hl (k := 1) rfl (by decide) rfl (fun ls hl => ?_)
              refine lv_goto (tgt := 13) hx hb dX1_nextToServe_60 (by decide) ?_
              exact ih (i + 1) (some i0) _ _ (by omega) (by omega) (Or.inr ⟨i0, p0, rfl, by omega, hp0, hs0, (fun j q hj hq h12 => by by_cases hji : j = i; (subst hji; rw [hp_22] at hq; cases hq; exact absurd h12 (by omega)); exact hm0 j q (by omega) hq h12)⟩) hS (lv_sub hl [0, 2, 3, 4, 5] rfl)
            · refine lv_aload_n hx hb dX1_nextToServe_38 rfl (lv_at hl 4 rfl) ?_
              refine lv_ifnull hx hb dX1_nextToServe_39 ?_
              refine lv_aload hx hb dX1_nextToServe_42 (lv_at hl 0 rfl) ?_
              refine zgetN (own := RX1) (C := RX0) (T := TX0) (N := 13) (index := 147) (host := RX1) hx hb hts hinX0 hown hE hw (10 + 3 * i) (yE_p (by omega) hp_22) rfl 9 (by decide) (by decide +kernel) rfl dX1_nextToServe_44 ?_
              refine lv_aload_n hx hb dX1_nextToServe_47 rfl (lv_at hl 4 rfl) ?_
              refine zgetN (own := RX1) (C := RX0) (T := TX0) (N := 13) (index := 147) (host := RX1) hx hb hts hinX0 hown hE hw (10 + 3 * i0) (yE_p (by omega) hp0) rfl 9 (by decide) (by decide +kernel) rfl dX1_nextToServe_48 ?_
              refine zc_ge (tgt := 57) hx hb dX1_nextToServe_51 (by decide) (by first | decide | (constructor <;> omega)) (by first | decide | (constructor <;> omega)) (fun c_51 => ?_) (fun c_51 => ?_)
              · refine zi_iinc (lv' := [(4, .int (iI ((i : Int) + 1))), (5, .ref (ad (10 + 3 * i))), (3, .int (iI (10))), (2, .ref (ad 5)), (1, .ref (ad (10 + 3 * i0))), (0, .ref (ad 0))]) hx hb dX1_nextToServe_57 hl (k := 1) rfl (by decide) rfl (fun ls hl => ?_)
                refine lv_goto (tgt := 13) hx hb dX1_nextToServe_60 (by decide) ?_
                exact ih (i + 1) (some i0) _ _ (by omega) (by omega) (Or.inr ⟨i0, p0, rfl, by omega, hp0, hs0, (fun j q hj hq h12 => by by_cases hji : j = i; (subst hji; rw [hp_22] at hq; cases hq; exact (by first | exact absurd h12 (by omega) | (by_cases hqq : p0.1 9 < p_22.1 9; exact Or.inl hqq; exact Or.inr ⟨by omega, by omega⟩))); exact hm0 j q (by omega) hq h12)⟩) hS (lv_sub hl [0, 2, 3, 4, 5] rfl)
              · refine lv_aload hx hb dX1_nextToServe_54 (lv_at hl 0 rfl) ?_
                refine lv_astore_n (lv' := [(1, .ref (ad (10 + 3 * i))), (5, .ref (ad (10 + 3 * i))), (4, .int (iI ((i : Int)))), (3, .int (iI (10))), (2, .ref (ad 5)), (0, .ref (ad 0))]) hx hb dX1_nextToServe_56 rfl hl (by decide) rfl (fun ls hl => ?_)
                refine zi_iinc (lv' := [(4, .int (iI ((i : Int) + 1))), (1, .ref (ad (10 + 3 * i))), (5, .ref (ad (10 + 3 * i))), (3, .int (iI (10))), (2, .ref (ad 5)), (0, .ref (ad 0))]) hx hb dX1_nextToServe_57 hl (k := 2) rfl (by decide) rfl (fun ls hl => ?_)
                refine lv_goto (tgt := 13) hx hb dX1_nextToServe_60 (by decide) ?_
                exact ih (i + 1) (some i) _ _ (by omega) (by omega) (Or.inr ⟨i, p_22, rfl, by omega, hp_22, by omega, fun j q hj hq h12 => by by_cases hji : j = i; (subst hji; rw [hp_22] at hq; cases hq; exact Or.inr ⟨rfl, Nat.le_refl _⟩); have h8 := hm0 j q (by omega) hq h12; exact Or.inl (by omega)⟩) hS (lv_sub hl [0, 3, 4, 1, 5] rfl)
  exact loop_13 11 0 none _ _ (by omega) (by omega) (Or.inl ⟨rfl, fun j q hj => absurd hj (Nat.not_lt_zero j)⟩) hS (lv_sub hl [0, 1, 2, 3, 4] rfl)

set_option maxHeartbeats 4000000 in
set_option maxRecDepth 100000 in
theorem c_X1_panelsBusyIn (l : Launch) (D : va_G) (cy : Nat → ClassId) (A : Nat → Prop) (ad : Nat → Nat) (ya : Nat → Nat → Int) (yi : Nat → Int) (pr : Nat → Option PS) (H0 : Heap) (g : Nat → Nat → Bool) (h : Int) (hw : zW D A ad (yE cy ad ya yi pr) H0) (h1 : zr h) (hgv : ∀ i p, i < 10 → pr i = some p → isM p.2.2.2 (g i) ∧ zr (p.1 9) ∧ zr (p.1 10)) : Met l yX1_panelsBusyIn wsX1_panelsBusyIn ({ frames := 1, cells := 0, slots := 0, locals := 21 }) (zPc D cy A [.ref (ad 0), .int (iI (h))] H0) (zQl (fun z H1 => H1 = H0 ∧ isM z (fun k => tkn (bsY pr) g h k 10)) A) 0 0 A := by
  refine Met.ofW (cc := cX1_panelsBusyIn) (maxL := 8) (ret := (some .long)) (by decide) rfl ?_
  intro pg en s mt args below meth c s₁ B hml hv
  obtain ⟨rfl, hH, hE⟩ := hv
  subst hH
  have hx := B.exec
  have hb := B.bytes
  have hr := B.returns
  have hts := atoms_spec (ws := wsX1_panelsBusyIn) B.pre
  have hown : s.vm.findClass RX1 = some mt.cls := findClass_of_methodNamed B.named
  have hlocks := B.notSynchronized
  have hinX0 : ∀ w ∈ u_ws RX0 TX0 13, w ∈ wsX1_panelsBusyIn := by decide +kernel
  have hinX1 : ∀ w ∈ u_ws RX1 TX1 9, w ∈ wsX1_panelsBusyIn := by decide +kernel
  have hS : va_S A s.heap s.heap [] := va_S.rf
  have hl := lv_entry ([.ref (ad 0), .int (iI (h))]) (n := 8) (Nat.le_of_ble_eq_true rfl)
  rw [lg_entry_eq]
  generalize (lg_sl ([.ref (ad 0), .int (iI (h))]) ++ List.replicate (8 - (lg_sl ([.ref (ad 0), .int (iI (h))])).length) Slot.unset).toArray = ls at hl ⊢
  have hl : lv_has ls 8 [(0, .ref (ad 0)), (1, .int (iI (h)))] := hl
  refine lv_lconst (v := 0) hx hb dX1_panelsBusyIn_0 (by decide) ?_
  refine lv_lstore_n (lv' := [(2, .long (0)), (0, .ref (ad 0)), (1, .int (iI (h)))]) hx hb dX1_panelsBusyIn_1 rfl hl (by decide) rfl (fun ls hl => ?_)
  refine lv_aload_n hx hb dX1_panelsBusyIn_2 rfl (lv_at hl 1 rfl) ?_
  refine zget (C := RX1) (T := TX1) (N := 9) hx hb hts hinX1 hown hE hw 0 yE_0 rfl 4 (by decide) (hts (.fieldLink RX1 24 "FormworkYard" "pourList" "[LFormworkYard$Pour;") (by decide +kernel)) rfl dX1_panelsBusyIn_3 ?_
  refine lv_astore (lv' := [(4, .ref (ad 5)), (2, .long (0)), (0, .ref (ad 0)), (1, .int (iI (h)))]) hx hb dX1_panelsBusyIn_6 hl (by decide) rfl (fun ls hl => ?_)
  refine lv_aload hx hb dX1_panelsBusyIn_8 (lv_at hl 0 rfl) ?_
  refine zalen hx hb hE hw 5 2 yE_5 rfl (z := 10) rfl dX1_panelsBusyIn_10 ?_
  refine lv_istore (lv' := [(5, .int (iI (10))), (4, .ref (ad 5)), (2, .long (0)), (0, .ref (ad 0)), (1, .int (iI (h)))]) hx hb dX1_panelsBusyIn_11 hl (by decide) rfl (fun ls hl => ?_)
  refine zi_const hx hb dX1_panelsBusyIn_13 ?_
  refine lv_istore (lv' := [(6, .int (iI (0))), (5, .int (iI (10))), (4, .ref (ad 5)), (2, .long (0)), (0, .ref (ad 0)), (1, .int (iI (h)))]) hx hb dX1_panelsBusyIn_14 hl (by decide) rfl (fun ls hl => ?_)
  have loop_16 : ∀ (n : Nat) (i : Nat) (w : Int64) (locs : List Loc) (ls : Array Slot), 10 - i < n → (i ≤ 10) → (isM w (fun k => tkn (bsY pr) g h k i)) → va_S A s.heap s.heap locs → lv_has ls 8 [(6, .int (iI ((i : Int)))), (5, .int (iI (10))), (4, .ref (ad 5)), (2, .long (w)), (0, .ref (ad 0)), (1, .int (iI (h)))] → W pg l en (headSpec wsX1_panelsBusyIn ({ frames := 1, cells := 0, slots := 0, locals := 21 })).room s mt ([.ref (ad 0), .int (iI (h))] : List Value).toArray below meth c s.heap locs 0 0 (MQ below (zQl (fun z H1 => H1 = s.heap ∧ isM z (fun k => tkn (bsY pr) g h k 10)) A) ([.ref (ad 0), .int (iI (h))] : List Value).toArray s 0 0 A) (F0 mt 16 ls []) := by
    intro n
    induction n with
    | zero =>
      intro i w locs ls hm hi hk
      exfalso; omega
    | succ n ih =>
      intro i w locs ls hm hi hk hS hl
      refine lv_iload hx hb dX1_panelsBusyIn_16 (lv_at hl 0 rfl) ?_
      refine lv_iload hx hb dX1_panelsBusyIn_18 (lv_at hl 1 rfl) ?_
      refine zc_ge (tgt := 58) hx hb dX1_panelsBusyIn_20 (by decide) (by first | decide | (constructor <;> omega)) (by first | decide | (constructor <;> omega)) (fun c_20 => ?_) (fun c_20 => ?_)
      · refine lv_lload_n hx hb dX1_panelsBusyIn_58 rfl (lv_at hl 3 rfl) ?_
        refine zlret hx hb hr hlocks hS (Nat.le_of_ble_eq_true rfl) (Nat.le_of_ble_eq_true rfl) ?_ dX1_panelsBusyIn_59
        exact ⟨rfl, by rw [show (10 : Nat) = i by omega]; exact hk⟩
      · refine lv_aload hx hb dX1_panelsBusyIn_23 (lv_at hl 2 rfl) ?_
        refine lv_iload hx hb dX1_panelsBusyIn_25 (lv_at hl 0 rfl) ?_
        refine zaald hx hb hE hw 5 yE_5 i rfl (by omega) (by omega) dX1_panelsBusyIn_27 ?_
        rcases hp_27 : pr i with _ | p_27
        · rw [yR_0 hp_27]
          refine lv_astoreN (lv' := [(7, .null), (6, .int (iI ((i : Int)))), (5, .int (iI (10))), (4, .ref (ad 5)), (2, .long (w)), (0, .ref (ad 0)), (1, .int (iI (h)))]) hx hb dX1_panelsBusyIn_28 hl (by decide) rfl (fun ls hl => ?_)
          refine lv_aloadN hx hb dX1_panelsBusyIn_30 (lv_at hl 0 rfl) ?_
          refine lv_ifnullN (tgt := 52) hx hb dX1_panelsBusyIn_32 (by decide) ?_
          refine zi_iinc (lv' := [(6, .int (iI ((i : Int) + 1))), (7, .null), (5, .int (iI (10))), (4, .ref (ad 5)), (2, .long (w)), (0, .ref (ad 0)), (1, .int (iI (h)))]) hx hb dX1_panelsBusyIn_52 hl (k := 1) rfl (by decide) rfl (fun ls hl => ?_)
          refine lv_goto (tgt := 16) hx hb dX1_panelsBusyIn_55 (by decide) ?_
          exact ih (i + 1) (w) _ _ (by omega) (by omega) (tkM_n (bsY_0 hp_27) hk) hS (lv_sub hl [0, 2, 3, 4, 5, 6] rfl)
        · rw [yR_1 hp_27]
          refine lv_astore (lv' := [(7, .ref (ad (10 + 3 * i))), (6, .int (iI ((i : Int)))), (5, .int (iI (10))), (4, .ref (ad 5)), (2, .long (w)), (0, .ref (ad 0)), (1, .int (iI (h)))]) hx hb dX1_panelsBusyIn_28 hl (by decide) rfl (fun ls hl => ?_)
          refine lv_aload hx hb dX1_panelsBusyIn_30 (lv_at hl 0 rfl) ?_
          refine lv_ifnull hx hb dX1_panelsBusyIn_32 ?_
          refine lv_aload hx hb dX1_panelsBusyIn_35 (lv_at hl 0 rfl) ?_
          refine lv_iload_n hx hb dX1_panelsBusyIn_37 rfl (lv_at hl 6 rfl) ?_
          refine zcalli (va_runVN (As := [.int (iI (h))]) (rest := []) ⟨hx, hb, hml, hown, hts⟩ (c_X0_isBusy l D cy A ad ya yi pr _ i p_27 (h) hw (by omega) hp_27 (by first | decide | (constructor <;> omega)) (hgv i p_27 (by omega) hp_27).2.1 (hgv i p_27 (by omega) hp_27).2.2) ⟨va_cnB 1 hts gX1_panelsBusyIn_X0_isBusy_n184 rfl rfl rfl (hE.2.1 (.methodLinkNest RX1 184 yX0_isBusy RX1) (by decide +kernel)) (hts (.initialized RX0) (by decide +kernel)) (by decide +kernel) ⟨(Nat.le_of_ble_eq_true rfl), (Nat.le_of_ble_eq_true rfl)⟩, hts (.instanceMethod yX0_isBusy) (by decide +kernel), hts (.selects RX0 yX0_isBusy yX0_isBusy) (by decide +kernel)⟩ (zPV hE hS hw (ci := 0) (k0 := 10 + 3 * i) rfl (yE_p (by omega) hp_27)) rfl rfl hl.1 rfl (lv_room (Nat.le_of_ble_eq_true rfl)) dX1_panelsBusyIn_38 ⟨(Nat.le_of_ble_eq_true rfl), (Nat.le_of_ble_eq_true rfl)⟩) hS (fun z_38 H1 locs hz_38 hq hz1 hk1 hS => ?_)
          obtain ⟨hqe, hv_38⟩ := hq
          replace hqe := hqe.symm
          subst hqe
          refine zf_eq (tgt := 52) hx hb dX1_panelsBusyIn_41 (by decide) (by first | decide | (constructor <;> omega)) (fun c_41 => ?_) (fun c_41 => ?_)
          · refine zi_iinc (lv' := [(6, .int (iI ((i : Int) + 1))), (7, .ref (ad (10 + 3 * i))), (5, .int (iI (10))), (4, .ref (ad 5)), (2, .long (w)), (0, .ref (ad 0)), (1, .int (iI (h)))]) hx hb dX1_panelsBusyIn_52 hl (k := 1) rfl (by decide) rfl (fun ls hl => ?_)
            refine lv_goto (tgt := 16) hx hb dX1_panelsBusyIn_55 (by decide) ?_
            exact ih (i + 1) (w) _ _ (by omega) (by omega) (tkM_n (by cases hbq : bsY pr i h with | false => rfl | true => have := (bsY_1 hp_27).mp hbq; omega) hk) hS (lv_sub hl [0, 2, 3, 4, 5, 6] rfl)
          · refine lv_lload_n hx hb dX1_panelsBusyIn_44 rfl (lv_at hl 4 rfl) ?_
            refine lv_aload hx hb dX1_panelsBusyIn_45 (lv_at hl 0 rfl) ?_
            refine zgetN (own := RX1) (C := RX0) (T := TX0) (N := 13) (index := 171) (host := RX1) hx hb hts hinX0 hown hE hw (10 + 3 * i) (yE_p (by omega) hp_27) rfl 11 (by decide) (by decide +kernel) rfl dX1_panelsBusyIn_47 ?_
            refine lv_lor hx hb dX1_panelsBusyIn_50 ?_
            refine lv_lstore_n (lv' := [(2, .long (w ||| (p_27.2.2.2))), (7, .ref (ad (10 + 3 * i))), (6, .int (iI ((i : Int)))), (5, .int (iI (10))), (4, .ref (ad 5)), (0, .ref (ad 0)), (1, .int (iI (h)))]) hx hb dX1_panelsBusyIn_51 rfl hl (by decide) rfl (fun ls hl => ?_)
            refine zi_iinc (lv' := [(6, .int (iI ((i : Int) + 1))), (2, .long (w ||| (p_27.2.2.2))), (7, .ref (ad (10 + 3 * i))), (5, .int (iI (10))), (4, .ref (ad 5)), (0, .ref (ad 0)), (1, .int (iI (h)))]) hx hb dX1_panelsBusyIn_52 hl (k := 2) rfl (by decide) rfl (fun ls hl => ?_)
            refine lv_goto (tgt := 16) hx hb dX1_panelsBusyIn_55 (by decide) ?_
            exact ih (i + 1) (w ||| (p_27.2.2.2)) _ _ (by omega) (by omega) (tkM_y ((bsY_1 hp_27).mpr (by omega)) hk (hgv i p_27 (by omega) hp_27).1) hS (lv_sub hl [0, 3, 4, 1, 5, 6] rfl)
  exact loop_16 11 0 0 _ _ (by omega) (by omega) isM_0 hS (lv_sub hl [0, 1, 2, 3, 4, 5] rfl)

set_option maxHeartbeats 4000000 in
set_option maxRecDepth 100000 in
theorem c_X1_lowestPanels (l : Launch) (D : va_G) (cy : Nat → ClassId) (A : Nat → Prop) (ad : Nat → Nat) (ya : Nat → Nat → Int) (yi : Nat → Int) (pr : Nat → Option PS) (H0 : Heap) (bz : Nat → Bool) (b : Int64) (m : Int) (hw : zW D A ad (yE cy ad ya yi pr) H0) (h1 : isM b bz) (h2 : 0 ≤ m ∧ m ≤ 30) (hg : yB yi) : Met l yX1_lowestPanels wsX1_lowestPanels ({ frames := 0, cells := 0, slots := 0, locals := 0 }) (zPc D cy A [.ref (ad 0), .long (b), .int (iI (m))] H0) (zQl (fun z H1 => H1 = H0 ∧ isM z (lo bz m (yi 5))) A) 0 0 A := by
  refine Met.ofW (cc := cX1_lowestPanels) (maxL := 10) (ret := (some .long)) (by decide) rfl ?_
  intro pg en s mt args below meth c s₁ B hml hv
  obtain ⟨rfl, hH, hE⟩ := hv
  subst hH
  have hx := B.exec
  have hb := B.bytes
  have hr := B.returns
  have hts := atoms_spec (ws := wsX1_lowestPanels) B.pre
  have hown : s.vm.findClass RX1 = some mt.cls := findClass_of_methodNamed B.named
  have hlocks := B.notSynchronized
  have hinX1 : ∀ w ∈ u_ws RX1 TX1 9, w ∈ wsX1_lowestPanels := by decide +kernel
  have hS : va_S A s.heap s.heap [] := va_S.rf
  have hl := lv_entry ([.ref (ad 0), .long (b), .int (iI (m))]) (n := 10) (Nat.le_of_ble_eq_true rfl)
  rw [lg_entry_eq]
  generalize (lg_sl ([.ref (ad 0), .long (b), .int (iI (m))]) ++ List.replicate (10 - (lg_sl ([.ref (ad 0), .long (b), .int (iI (m))])).length) Slot.unset).toArray = ls at hl ⊢
  have hl : lv_has ls 10 [(0, .ref (ad 0)), (1, .long (b)), (3, .int (iI (m)))] := hl
  obtain ⟨g1, g2, g3, g4⟩ := id hg
  refine lv_lconst (v := 0) hx hb dX1_lowestPanels_0 (by decide) ?_
  refine lv_lstore (lv' := [(4, .long (0)), (0, .ref (ad 0)), (1, .long (b)), (3, .int (iI (m)))]) hx hb dX1_lowestPanels_1 hl (by decide) rfl (fun ls hl => ?_)
  refine zi_const hx hb dX1_lowestPanels_3 ?_
  refine lv_istore (lv' := [(6, .int (iI (0))), (4, .long (0)), (0, .ref (ad 0)), (1, .long (b)), (3, .int (iI (m)))]) hx hb dX1_lowestPanels_4 hl (by decide) rfl (fun ls hl => ?_)
  refine zi_const hx hb dX1_lowestPanels_6 ?_
  refine lv_istore (lv' := [(7, .int (iI (0))), (6, .int (iI (0))), (4, .long (0)), (0, .ref (ad 0)), (1, .long (b)), (3, .int (iI (m)))]) hx hb dX1_lowestPanels_7 hl (by decide) rfl (fun ls hl => ?_)
  have loop_9 : ∀ (n : Nat) (x : Nat) (w : Int64) (locs : List Loc) (ls : Array Slot), 60 - x < n → ((x : Int) ≤ yi 5) → (isM w (lo bz m (x : Int))) → va_S A s.heap s.heap locs → lv_has ls 10 [(7, .int (iI ((x : Int)))), (6, .int (iI (lc bz m x))), (4, .long (w)), (0, .ref (ad 0)), (1, .long (b)), (3, .int (iI (m)))] → W pg l en (headSpec wsX1_lowestPanels ({ frames := 0, cells := 0, slots := 0, locals := 0 })).room s mt ([.ref (ad 0), .long (b), .int (iI (m))] : List Value).toArray below meth c s.heap locs 0 0 (MQ below (zQl (fun z H1 => H1 = s.heap ∧ isM z (lo bz m (yi 5))) A) ([.ref (ad 0), .long (b), .int (iI (m))] : List Value).toArray s 0 0 A) (F0 mt 9 ls []) := by
    intro n
    induction n with
    | zero =>
      intro x w locs ls hm hi hk
      exfalso; omega
    | succ n ih =>
      intro x w locs ls hm hi hk hS hl
      have hlb := lc_b (bz := bz) (nd := m) h2.1 x
      refine lv_iload hx hb dX1_lowestPanels_9 (lv_at hl 0 rfl) ?_
      refine lv_aload_n hx hb dX1_lowestPanels_11 rfl (lv_at hl 3 rfl) ?_
      refine zget (C := RX1) (T := TX1) (N := 9) hx hb hts hinX1 hown hE hw 0 yE_0 rfl 5 (by decide) (hts (.fieldLink RX1 28 "FormworkYard" "yardPanels" "I") (by decide +kernel)) rfl dX1_lowestPanels_12 ?_
      refine zc_ge (tgt := 55) hx hb dX1_lowestPanels_15 (by decide) (by first | decide | (constructor <;> omega)) (by first | decide | (constructor <;> omega)) (fun c_15 => ?_) (fun c_15 => ?_)
      · refine lv_lload hx hb dX1_lowestPanels_55 (lv_at hl 2 rfl) ?_
        refine zlret hx hb hr hlocks hS (Nat.le_of_ble_eq_true rfl) (Nat.le_of_ble_eq_true rfl) ?_ dX1_lowestPanels_57
        exact ⟨rfl, loM_e (by omega) (by omega) hk⟩
      · refine lv_iload hx hb dX1_lowestPanels_18 (lv_at hl 1 rfl) ?_
        refine lv_iload_n hx hb dX1_lowestPanels_20 rfl (lv_at hl 5 rfl) ?_
        refine zc_ge (tgt := 55) hx hb dX1_lowestPanels_21 (by decide) (by first | decide | (constructor <;> omega)) (by first | decide | (constructor <;> omega)) (fun c_21 => ?_) (fun c_21 => ?_)
        · refine lv_lload hx hb dX1_lowestPanels_55 (lv_at hl 2 rfl) ?_
          refine zlret hx hb hr hlocks hS (Nat.le_of_ble_eq_true rfl) (Nat.le_of_ble_eq_true rfl) ?_ dX1_lowestPanels_57
          exact ⟨rfl, loM_e (by omega) (by omega) hk⟩
        · refine lv_lconst (v := 1) hx hb dX1_lowestPanels_24 (by decide) ?_
          refine lv_iload hx hb dX1_lowestPanels_25 (lv_at hl 0 rfl) ?_
          refine lv_lshl (v := lN (2 ^ x)) hx hb dX1_lowestPanels_27 (zshl (by omega)) ?_
          refine lv_lstore (lv' := [(8, .long (lN (2 ^ x))), (7, .int (iI ((x : Int)))), (6, .int (iI (lc bz m x))), (4, .long (w)), (0, .ref (ad 0)), (1, .long (b)), (3, .int (iI (m)))]) hx hb dX1_lowestPanels_28 hl (by decide) rfl (fun ls hl => ?_)
          refine lv_lload_n hx hb dX1_lowestPanels_30 rfl (lv_at hl 5 rfl) ?_
          refine lv_lload hx hb dX1_lowestPanels_31 (lv_at hl 0 rfl) ?_
          refine lv_land hx hb dX1_lowestPanels_33 ?_
          refine lv_lconst (v := 0) hx hb dX1_lowestPanels_34 (by decide) ?_
          refine W.lcmp hx hb dX1_lowestPanels_35 ?_
          obtain ⟨k_35, hk_350, hk_35⟩ := zlcmp (b &&& (lN (2 ^ x))) (0)
          rw [hk_35]
          have hA9 := isM_and h1 (k := x) (by omega)
          refine zf_ne (tgt := 49) hx hb dX1_lowestPanels_36 (by decide) (by first | decide | (constructor <;> omega)) (fun c_36 => ?_) (fun c_36 => ?_)
          · have hbx : bz x = true := by cases hbx : bz x with | true => rfl | false => have := hA9.mpr hbx; rcases hk_350 with h9 | h9; omega; exact absurd this h9.2
            refine zi_iinc (lv' := [(7, .int (iI ((x : Int) + 1))), (8, .long (lN (2 ^ x))), (6, .int (iI (lc bz m x))), (4, .long (w)), (0, .ref (ad 0)), (1, .long (b)), (3, .int (iI (m)))]) hx hb dX1_lowestPanels_49 hl (k := 1) rfl (by decide) rfl (fun ls hl => ?_)
            refine lv_goto (tgt := 9) hx hb dX1_lowestPanels_52 (by decide) ?_
            replace hl : lv_has ls 10 [(7, .int (iI ((x : Int) + 1))), (8, .long (lN (2 ^ x))), (6, .int (iI (lc bz m x))), (4, .long (w)), (0, .ref (ad 0)), (1, .long (b)), (3, .int (iI (m)))] := hl
            rw [show lc bz m x = lc bz m (x + 1) by simp only [lc]; rw [if_neg (by rw [hbx]; simp)]; omega] at hl
            exact ih (x + 1) w _ _ (by omega) (by omega) (loM_n hbx hk) hS (lv_sub hl [0, 2, 3, 4, 5, 6] rfl)
          · have hbx : bz x = false := hA9.mp (by rcases hk_350 with h9 | h9; exact h9.2; omega)
            refine lv_lload hx hb dX1_lowestPanels_39 (lv_at hl 3 rfl) ?_
            refine lv_lload hx hb dX1_lowestPanels_41 (lv_at hl 0 rfl) ?_
            refine lv_lor hx hb dX1_lowestPanels_43 ?_
            refine lv_lstore (lv' := [(4, .long (w ||| (lN (2 ^ x)))), (8, .long (lN (2 ^ x))), (7, .int (iI ((x : Int)))), (6, .int (iI (lc bz m x))), (0, .ref (ad 0)), (1, .long (b)), (3, .int (iI (m)))]) hx hb dX1_lowestPanels_44 hl (by decide) rfl (fun ls hl => ?_)
            refine zi_iinc (lv' := [(6, .int (iI (lc bz m x + 1))), (4, .long (w ||| (lN (2 ^ x)))), (8, .long (lN (2 ^ x))), (7, .int (iI ((x : Int)))), (0, .ref (ad 0)), (1, .long (b)), (3, .int (iI (m)))]) hx hb dX1_lowestPanels_46 hl (k := 3) rfl (by decide) rfl (fun ls hl => ?_)
            refine zi_iinc (lv' := [(7, .int (iI ((x : Int) + 1))), (6, .int (iI (lc bz m x + 1))), (4, .long (w ||| (lN (2 ^ x)))), (8, .long (lN (2 ^ x))), (0, .ref (ad 0)), (1, .long (b)), (3, .int (iI (m)))]) hx hb dX1_lowestPanels_49 hl (k := 3) rfl (by decide) rfl (fun ls hl => ?_)
            refine lv_goto (tgt := 9) hx hb dX1_lowestPanels_52 (by decide) ?_
            replace hl : lv_has ls 10 [(7, .int (iI ((x : Int) + 1))), (6, .int (iI (lc bz m x + 1))), (4, .long (w ||| (lN (2 ^ x)))), (8, .long (lN (2 ^ x))), (0, .ref (ad 0)), (1, .long (b)), (3, .int (iI (m)))] := hl
            rw [show lc bz m x + 1 = lc bz m (x + 1) by simp only [lc]; rw [if_pos ⟨hbx, by omega⟩]] at hl
            exact ih (x + 1) (w ||| lN (2 ^ x)) _ _ (by omega) (by omega) (loM_y (by omega) hbx (by omega) hk) hS (lv_sub hl [0, 1, 2, 4, 5, 6] rfl)
  exact loop_9 61 0 0 _ _ (by omega) (by omega) loM_0 hS (lv_sub hl [0, 1, 2, 3, 4, 5] rfl)
end
section
set_option maxHeartbeats 4000000 in
set_option maxRecDepth 100000 in
theorem c_X1_giveOutPanels (l : Launch) (D : va_G) (cy : Nat → ClassId) (A : Nat → Prop) (ad : Nat → Nat) (ya : Nat → Nat → Int) (yi : Nat → Int) (pr : Nat → Option PS) (H0 : Heap) (hw : zW D A ad (yE cy ad ya yi pr) H0) (hb9 : ∀ i p, i < 10 → pr i = some p → (0 ≤ p.1 9 ∧ p.1 9 ≤ 900) ∧ (0 ≤ p.1 10 ∧ p.1 10 ≤ 1000) ∧ 1 ≤ p.1 1 ∧ p.1 1 ≤ 30) (hg : yB yi) : Met l yX1_giveOutPanels wsX1_giveOutPanels ({ frames := 2, cells := 0, slots := 0, locals := 48 }) (zPc D cy A [.ref (ad 0)] H0) (zQv (fun H1 => ∃ pr2, zW D A ad (yE cy ad ya yi pr2) H1 ∧ gvR pr pr2 ∧ ∀ i p, i < 10 → pr2 i = some p → isM p.2.2.2 (FY pr (yi 5) 10000 i)) A) 0 0 A := by
  refine Met.ofW (cc := cX1_giveOutPanels) (maxL := 5) (ret := none) (by decide) rfl ?_
  intro pg en s mt args below meth c s₁ B hml hv
  obtain ⟨rfl, hH, hE⟩ := hv
  subst hH
  have hx := B.exec
  have hb := B.bytes
  have hr := B.returns
  have hts := atoms_spec (ws := wsX1_giveOutPanels) B.pre
  have hown : s.vm.findClass RX1 = some mt.cls := findClass_of_methodNamed B.named
  have hlocks := B.notSynchronized
  have hinX0 : ∀ w ∈ u_ws RX0 TX0 13, w ∈ wsX1_giveOutPanels := by decide +kernel
  have hinX1 : ∀ w ∈ u_ws RX1 TX1 9, w ∈ wsX1_giveOutPanels := by decide +kernel
  have hS : va_S A s.heap s.heap [] := va_S.rf
  have hl := lv_entry ([.ref (ad 0)]) (n := 5) (Nat.le_of_ble_eq_true rfl)
  rw [lg_entry_eq]
  generalize (lg_sl ([.ref (ad 0)]) ++ List.replicate (5 - (lg_sl ([.ref (ad 0)])).length) Slot.unset).toArray = ls at hl ⊢
  have hl : lv_has ls 5 [(0, .ref (ad 0))] := hl
  obtain ⟨g1, g2, g3, g4⟩ := id hg
  have hb8 : ∀ i p, i < 10 → pr i = some p → 0 ≤ p.1 9 ∧ p.1 9 ≤ 900 := fun i p hi hp => (hb9 i p hi hp).1
  refine lv_aload_n hx hb dX1_giveOutPanels_0 rfl (lv_at hl 0 rfl) ?_
  refine zget (C := RX1) (T := TX1) (N := 9) hx hb hts hinX1 hown hE hw 0 yE_0 rfl 4 (by decide) (hts (.fieldLink RX1 24 "FormworkYard" "pourList" "[LFormworkYard$Pour;") (by decide +kernel)) rfl dX1_giveOutPanels_1 ?_
  refine lv_astore_n (lv' := [(1, .ref (ad 5)), (0, .ref (ad 0))]) hx hb dX1_giveOutPanels_4 rfl hl (by decide) rfl (fun ls hl => ?_)
  refine lv_aload_n hx hb dX1_giveOutPanels_5 rfl (lv_at hl 0 rfl) ?_
  refine zalen hx hb hE hw 5 2 yE_5 rfl (z := 10) rfl dX1_giveOutPanels_6 ?_
  refine lv_istore_n (lv' := [(2, .int (iI (10))), (1, .ref (ad 5)), (0, .ref (ad 0))]) hx hb dX1_giveOutPanels_7 rfl hl (by decide) rfl (fun ls hl => ?_)
  refine zi_const hx hb dX1_giveOutPanels_8 ?_
  refine lv_istore_n (lv' := [(3, .int (iI (0))), (2, .int (iI (10))), (1, .ref (ad 5)), (0, .ref (ad 0))]) hx hb dX1_giveOutPanels_9 rfl hl (by decide) rfl (fun ls hl => ?_)
  have loop_10 : ∀ (n : Nat) (i : Nat) (pr1 : Nat → Option PS) (H : Heap) (locs : List Loc) (ls : Array Slot), 10 - i < n → (i ≤ 10) → (gvR pr pr1) → (∀ j p, j < i → pr1 j = some p → isM p.2.2.2 (fun _ => false) ∧ p.1 12 = 0) → zW D A ad (yE cy ad ya yi pr1) H → va_S A s.heap H locs → lv_has ls 5 [(3, .int (iI ((i : Int)))), (2, .int (iI (10))), (1, .ref (ad 5)), (0, .ref (ad 0))] → W pg l en (headSpec wsX1_giveOutPanels ({ frames := 2, cells := 0, slots := 0, locals := 48 })).room s mt ([.ref (ad 0)] : List Value).toArray below meth c H locs 0 0 (MQ below (zQv (fun H1 => ∃ pr2, zW D A ad (yE cy ad ya yi pr2) H1 ∧ gvR pr pr2 ∧ ∀ i p, i < 10 → pr2 i = some p → isM p.2.2.2 (FY pr (yi 5) 10000 i)) A) ([.ref (ad 0)] : List Value).toArray s 0 0 A) (F0 mt 10 ls []) := by
    intro n
    induction n with
    | zero =>
      intro i pr1 H locs ls hm hi hgR hz9
      exfalso; omega
    | succ n ih =>
      intro i pr1 H locs ls hm hi hgR hz9 hw hS hl
      refine lv_iload_n hx hb dX1_giveOutPanels_10 rfl (lv_at hl 0 rfl) ?_
      refine lv_iload_n hx hb dX1_giveOutPanels_11 rfl (lv_at hl 1 rfl) ?_
      refine zc_ge (tgt := 43) hx hb dX1_giveOutPanels_12 (by decide) (by first | decide | (constructor <;> omega)) (by first | decide | (constructor <;> omega)) (fun c_12 => ?_) (fun c_12 => ?_)
      · refine zi_const hx hb dX1_giveOutPanels_43 ?_
        refine lv_istore_n (lv' := [(1, .int (iI (0))), (3, .int (iI ((i : Int)))), (2, .int (iI (10))), (0, .ref (ad 0))]) hx hb dX1_giveOutPanels_44 rfl hl (by decide) rfl (fun ls hl => ?_)
        have loop_45 : ∀ (n : Nat) (t K : Nat) (pr1 : Nat → Option PS) (H : Heap) (locs : List Loc) (ls : Array Slot), 10 - t < n → (t ≤ 10) → (gvR pr pr1) → (gvK pr pr1 (yi 5) K) → (K ≤ 10000) → (cS pr1 10 = t) → zW D A ad (yE cy ad ya yi pr1) H → va_S A s.heap H locs → lv_has ls 5 [(1, .int (iI ((t : Int)))), (0, .ref (ad 0))] → W pg l en (headSpec wsX1_giveOutPanels ({ frames := 2, cells := 0, slots := 0, locals := 48 })).room s mt ([.ref (ad 0)] : List Value).toArray below meth c H locs 0 0 (MQ below (zQv (fun H1 => ∃ pr2, zW D A ad (yE cy ad ya yi pr2) H1 ∧ gvR pr pr2 ∧ ∀ i p, i < 10 → pr2 i = some p → isM p.2.2.2 (FY pr (yi 5) 10000 i)) A) ([.ref (ad 0)] : List Value).toArray s 0 0 A) (F0 mt 45 ls []) := by
          intro n
          induction n with
          | zero =>
            intro t K pr1 H locs ls hm ht8 hgR hgK hK9 ht9
            exfalso; omega
          | succ n ih =>
            intro t K pr1 H locs ls hm ht8 hgR hgK hK9 ht9 hw hS hl
            have hnx : ∀ i p, i < 10 → pr1 i = some p → (0 ≤ p.1 9 ∧ p.1 9 ≤ 900) ∧ (p.1 12 = 0 ∨ p.1 12 = 1) := fun i p hi hp => by obtain ⟨a9, ha9, hap⟩ := gvR_p hgR hi hp; have hk := (hgK i p hi hp).2; rw [hap.1 9 (by decide)] at hk ⊢; exact ⟨hb8 i a9 hi ha9, by omega⟩
            refine lv_iload_n hx hb dX1_giveOutPanels_45 rfl (lv_at hl 0 rfl) ?_
            refine zi_bipush hx hb dX1_giveOutPanels_46 (by decide) ?_
            refine zc_ge (tgt := 92) hx hb dX1_giveOutPanels_48 (by decide) (by first | decide | (constructor <;> omega)) (by first | decide | (constructor <;> omega)) (fun c_48 => ?_) (fun c_48 => ?_)
            · refine zvret hx hb hr hlocks hS (Nat.le_of_ble_eq_true rfl) (Nat.le_of_ble_eq_true rfl) ?_ dX1_giveOutPanels_92
              have hg9 := gvK_e hgR hb8 hgK (fun i p hi hp => by obtain ⟨b, hb1, hb2⟩ := cS_full (pr := pr1) 10 (by omega) i hi; rw [hb1] at hp; cases hp; exact hb2) (by omega)
              exact ⟨_, hw, hgR, hg9⟩
            · refine lv_aload_n hx hb dX1_giveOutPanels_51 rfl (lv_at hl 1 rfl) ?_
              refine zcallq (va_runV (As := []) (rest := []) ⟨hx, hb, hml, hown, hts⟩ (c_X1_nextToServe l D cy A ad ya yi pr1 _ hw hnx) (cwV 0 hts gX1_giveOutPanels_X1_nextToServe rfl rfl rfl (by decide +kernel) ⟨(Nat.le_of_ble_eq_true rfl), (Nat.le_of_ble_eq_true rfl)⟩) (zPV hE hS hw (ci := 1) (k0 := 0) rfl yE_0) rfl rfl hl.1 rfl (lv_room (Nat.le_of_ble_eq_true rfl)) dX1_giveOutPanels_52 ⟨(Nat.le_of_ble_eq_true rfl), (Nat.le_of_ble_eq_true rfl)⟩) hS (fun z_52 H1 locs hq hz1 hk1 hS => ?_)
              obtain ⟨hqe, hq⟩ := hq
              replace hqe := hqe.symm
              subst hqe
              rcases hq with ⟨rfl, hnone⟩ | ⟨i0, p0, rfl, hi0, hp0, hs0, hm0⟩
              · refine lv_astore_nN (lv' := [(2, .null), (1, .int (iI ((t : Int)))), (0, .ref (ad 0))]) hx hb dX1_giveOutPanels_55 rfl hl (by decide) rfl (fun ls hl => ?_)
                refine lv_aload_nN hx hb dX1_giveOutPanels_56 rfl (lv_at hl 0 rfl) ?_
                refine lv_ifnonnullN hx hb dX1_giveOutPanels_57 ?_
                refine zvret hx hb hr hlocks hS (Nat.le_of_ble_eq_true rfl) (Nat.le_of_ble_eq_true rfl) ?_ dX1_giveOutPanels_60
                have hg9 := gvK_e hgR hb8 hgK (fun i p hi hp => by have hk := (hgK i p hi hp).2; have := hnone i p hi hp; omega) (by omega)
                exact ⟨_, hw, hgR, hg9⟩
              · obtain ⟨a0, ha0, hap0⟩ := gvR_p hgR hi0 hp0
                have hb0 := hb9 i0 a0 hi0 ha0
                have e9 := hap0.1 9 (by decide)
                have e1 := hap0.1 1 (by decide)
                have hgv : ∀ i p, i < 10 → pr1 i = some p → isM p.2.2.2 (FY pr (yi 5) K i) ∧ zr (p.1 9) ∧ zr (p.1 10) := fun i p hi hp => by obtain ⟨a9, ha9, hap⟩ := gvR_p hgR hi hp; have hk := hb9 i a9 hi ha9; refine ⟨(hgK i p hi hp).1, ?_, ?_⟩; (rw [hap.1 9 (by decide)]; constructor <;> omega); (rw [hap.1 10 (by decide)]; constructor <;> omega)
                refine lv_astore_n (lv' := [(2, .ref (ad (10 + 3 * i0))), (1, .int (iI ((t : Int)))), (0, .ref (ad 0))]) hx hb dX1_giveOutPanels_55 rfl hl (by decide) rfl (fun ls hl => ?_)
                refine lv_aload_n hx hb dX1_giveOutPanels_56 rfl (lv_at hl 0 rfl) ?_
                refine lv_ifnonnull (tgt := 61) hx hb dX1_giveOutPanels_57 (by decide) ?_
                refine lv_aload_n hx hb dX1_giveOutPanels_61 rfl (lv_at hl 0 rfl) ?_
                refine lv_aload_n hx hb dX1_giveOutPanels_62 rfl (lv_at hl 2 rfl) ?_
                refine lv_aload_n hx hb dX1_giveOutPanels_63 rfl (lv_at hl 2 rfl) ?_
                refine lv_aload_n hx hb dX1_giveOutPanels_64 rfl (lv_at hl 0 rfl) ?_
                refine zgetN (own := RX1) (C := RX0) (T := TX0) (N := 13) (index := 147) (host := RX1) hx hb hts hinX0 hown hE hw (10 + 3 * i0) (yE_p (by omega) hp0) rfl 9 (by decide) (by decide +kernel) rfl dX1_giveOutPanels_65 ?_
                refine zcalll (va_runV (As := [.int (iI (p0.1 9))]) (rest := [.ref (ad 0), .ref (ad (10 + 3 * i0))]) ⟨hx, hb, hml, hown, hts⟩ (c_X1_panelsBusyIn l D cy A ad ya yi pr1 _ (FY pr (yi 5) K) (p0.1 9) hw (by first | decide | (constructor <;> omega)) hgv) (cwV 1 hts gX1_giveOutPanels_X1_panelsBusyIn rfl rfl rfl (by decide +kernel) ⟨(Nat.le_of_ble_eq_true rfl), (Nat.le_of_ble_eq_true rfl)⟩) (zPV hE hS hw (ci := 1) (k0 := 0) rfl yE_0) rfl rfl hl.1 rfl (lv_room (Nat.le_of_ble_eq_true rfl)) dX1_giveOutPanels_68 ⟨(Nat.le_of_ble_eq_true rfl), (Nat.le_of_ble_eq_true rfl)⟩) hS (fun z_68 H1 locs hq hz1 hk1 hS => ?_)
                obtain ⟨hqe, hv_68⟩ := hq
                replace hqe := hqe.symm
                subst hqe
                have hv68 : isM z_68 (fun k => tkn (bsY pr) (FY pr (yi 5) K) (p0.1 9) k 10) := isM_c hv_68 (fun k => tkn_c 10 (fun q hq => gvR_bs hgR hq _))
                refine lv_aload_n hx hb dX1_giveOutPanels_71 rfl (lv_at hl 0 rfl) ?_
                refine zgetN (own := RX1) (C := RX0) (T := TX0) (N := 13) (index := 107) (host := RX1) hx hb hts hinX0 hown hE hw (10 + 3 * i0) (yE_p (by omega) hp0) rfl 1 (by decide) (by decide +kernel) rfl dX1_giveOutPanels_72 ?_
                refine zcalll (va_runV (As := [.long (z_68), .int (iI (p0.1 1))]) (rest := [.ref (ad (10 + 3 * i0))]) ⟨hx, hb, hml, hown, hts⟩ (c_X1_lowestPanels l D cy A ad ya yi pr1 _ (fun k => tkn (bsY pr) (FY pr (yi 5) K) (p0.1 9) k 10) (z_68) (p0.1 1) hw hv68 (by omega) hg) (cwV 2 hts gX1_giveOutPanels_X1_lowestPanels rfl rfl rfl (by decide +kernel) ⟨(Nat.le_of_ble_eq_true rfl), (Nat.le_of_ble_eq_true rfl)⟩) (zPV hE hS hw (ci := 1) (k0 := 0) rfl yE_0) rfl rfl hl.1 rfl (lv_room (Nat.le_of_ble_eq_true rfl)) dX1_giveOutPanels_75 ⟨(Nat.le_of_ble_eq_true rfl), (Nat.le_of_ble_eq_true rfl)⟩) hS (fun z_75 H1 locs hq hz1 hk1 hS => ?_)
                obtain ⟨hqe, hv_75⟩ := hq
                replace hqe := hqe.symm
                subst hqe
                refine zputN (own := RX1) (C := RX0) (T := TX0) (N := 13) (index := 171) (host := RX1) hx hb hts hinX0 tyX0 tyX0_ok nmX0 hown hE hS hw (10 + 3 * i0) (yE_p (by omega) hp0) rfl 11 (by decide) (by decide +kernel) rfl (ty := .long) (by decide +kernel) rfl rfl (Nat.le_of_ble_eq_true rfl) dX1_giveOutPanels_78 (fun H locs hw hS => ?_)
                have hw := hw.cong (yU_g (by omega) hp0 (z_75))
                obtain ⟨pr_1, hpr_1⟩ : ∃ z, z = va_up pr1 i0 (some (p0.1, p0.2.1, p0.2.2.1, z_75)) := ⟨_, rfl⟩
                obtain ⟨q_1, hq_1⟩ : ∃ z : PS, z = (p0.1, p0.2.1, p0.2.2.1, z_75) := ⟨_, rfl⟩
                have hp_n1 : pr_1 i0 = some q_1 := by rw [hpr_1, hq_1, up_same]
                rw [← hpr_1] at hw
                refine lv_aload_n hx hb dX1_giveOutPanels_81 rfl (lv_at hl 0 rfl) ?_
                refine zi_const hx hb dX1_giveOutPanels_82 ?_
                refine zputN (own := RX1) (C := RX0) (T := TX0) (N := 13) (index := 202) (host := RX1) hx hb hts hinX0 tyX0 tyX0_ok nmX0 hown hE hS hw (10 + 3 * i0) (yE_p (by omega) hp_n1) rfl 12 (by decide) (by decide +kernel) rfl (ty := .boolean) (by decide +kernel) (by decide) (by decide) (Nat.le_of_ble_eq_true rfl) dX1_giveOutPanels_83 (fun H locs hw hS => ?_)
                have hw := hw.cong (yU_f (by omega) hp_n1 12 (by decide) (by decide) (1))
                obtain ⟨pr_2, hpr_2⟩ : ∃ z, z = va_up pr_1 i0 (some (va_up q_1.1 12 (1), q_1.2)) := ⟨_, rfl⟩
                obtain ⟨q_2, hq_2⟩ : ∃ z : PS, z = (va_up q_1.1 12 (1), q_1.2) := ⟨_, rfl⟩
                have hp_n2 : pr_2 i0 = some q_2 := by rw [hpr_2, hq_2, up_same]
                rw [← hpr_2] at hw
                refine zi_iinc (lv' := [(1, .int (iI ((t : Int) + 1))), (2, .ref (ad (10 + 3 * i0))), (0, .ref (ad 0))]) hx hb dX1_giveOutPanels_86 hl (k := 1) rfl (by decide) rfl (fun ls hl => ?_)
                refine lv_goto (tgt := 45) hx hb dX1_giveOutPanels_89 (by decide) ?_
                have hg2 : gv1 p0 q_2 := by rw [hq_2, hq_1]; exact ⟨fun j hj => up_ne _ _ hj, rfl, rfl⟩
                have hpr9 : pr_2 = va_up pr1 i0 (some q_2) := by rw [hq_2, hpr_2, hpr_1, up_up]
                have hq1 : q_2.1 12 = 1 := by rw [hq_2]; rfl
                have hqz : q_2.2.2.2 = z_75 := by rw [hq_2, hq_1]
                exact ih (t + 1) (10 * (p0.1 9).toNat + i0 + 1) pr_2 _ _ _ (by omega) (by omega) (by rw [hpr9]; exact gvR_u hgR hp0 hg2) (by rw [hpr9]; exact gvK_s hgR hb8 hgK hi0 hp0 hs0 hm0 hv_75 hg2 hqz hq1) (by omega) (by rw [hpr9, cS_up hp0 hs0 hq1 10 hi0, ht9]) hw hS (lv_sub hl [0, 2] rfl)
        exact loop_45 11 0 0 pr1 _ _ _ (by omega) (by omega) hgR (gvK_0 (fun j p hj hp => by obtain ⟨a9, ha9, hap⟩ := gvR_p hgR hj hp; have hz := hz9 j p (by omega) hp; exact ⟨hz.1, hz.2, by rw [hap.1 9 (by decide)]; exact (hb9 j a9 hj ha9).1.1⟩)) (by omega) (cS_0 10 (fun j p hj hp => (hz9 j p (by omega) hp).2)) hw hS (lv_sub hl [0, 3] rfl)
      · refine lv_aload_n hx hb dX1_giveOutPanels_15 rfl (lv_at hl 2 rfl) ?_
        refine lv_iload_n hx hb dX1_giveOutPanels_16 rfl (lv_at hl 0 rfl) ?_
        refine zaald hx hb hE hw 5 yE_5 i rfl (by omega) (by omega) dX1_giveOutPanels_17 ?_
        rcases hp_17 : pr1 i with _ | p_17
        · rw [yR_0 hp_17]
          refine lv_astoreN (lv' := [(4, .null), (3, .int (iI ((i : Int)))), (2, .int (iI (10))), (1, .ref (ad 5)), (0, .ref (ad 0))]) hx hb dX1_giveOutPanels_18 hl (by decide) rfl (fun ls hl => ?_)
          refine lv_aloadN hx hb dX1_giveOutPanels_20 (lv_at hl 0 rfl) ?_
          refine lv_ifnullN (tgt := 37) hx hb dX1_giveOutPanels_22 (by decide) ?_
          refine zi_iinc (lv' := [(3, .int (iI ((i : Int) + 1))), (4, .null), (2, .int (iI (10))), (1, .ref (ad 5)), (0, .ref (ad 0))]) hx hb dX1_giveOutPanels_37 hl (k := 1) rfl (by decide) rfl (fun ls hl => ?_)
          refine lv_goto (tgt := 10) hx hb dX1_giveOutPanels_40 (by decide) ?_
          exact ih (i + 1) pr1 _ _ _ (by omega) (by omega) hgR (fun j p hj hp => by by_cases hji : j = i; (subst hji; rw [hp_17] at hp; cases hp); exact hz9 j p (by omega) hp) hw hS (lv_sub hl [0, 2, 3, 4] rfl)
        · rw [yR_1 hp_17]
          refine lv_astore (lv' := [(4, .ref (ad (10 + 3 * i))), (3, .int (iI ((i : Int)))), (2, .int (iI (10))), (1, .ref (ad 5)), (0, .ref (ad 0))]) hx hb dX1_giveOutPanels_18 hl (by decide) rfl (fun ls hl => ?_)
          refine lv_aload hx hb dX1_giveOutPanels_20 (lv_at hl 0 rfl) ?_
          refine lv_ifnull hx hb dX1_giveOutPanels_22 ?_
          refine lv_aload hx hb dX1_giveOutPanels_25 (lv_at hl 0 rfl) ?_
          refine lv_lconst (v := 0) hx hb dX1_giveOutPanels_27 (by decide) ?_
          refine zputN (own := RX1) (C := RX0) (T := TX0) (N := 13) (index := 171) (host := RX1) hx hb hts hinX0 tyX0 tyX0_ok nmX0 hown hE hS hw (10 + 3 * i) (yE_p (by omega) hp_17) rfl 11 (by decide) (by decide +kernel) rfl (ty := .long) (by decide +kernel) rfl rfl (Nat.le_of_ble_eq_true rfl) dX1_giveOutPanels_28 (fun H locs hw hS => ?_)
          have hw := hw.cong (yU_g (by omega) hp_17 (0))
          obtain ⟨pr_3, hpr_3⟩ : ∃ z, z = va_up pr1 i (some (p_17.1, p_17.2.1, p_17.2.2.1, 0)) := ⟨_, rfl⟩
          obtain ⟨q_3, hq_3⟩ : ∃ z : PS, z = (p_17.1, p_17.2.1, p_17.2.2.1, 0) := ⟨_, rfl⟩
          have hp_n3 : pr_3 i = some q_3 := by rw [hpr_3, hq_3, up_same]
          rw [← hpr_3] at hw
          refine lv_aload hx hb dX1_giveOutPanels_31 (lv_at hl 0 rfl) ?_
          refine zi_const hx hb dX1_giveOutPanels_33 ?_
          refine zputN (own := RX1) (C := RX0) (T := TX0) (N := 13) (index := 202) (host := RX1) hx hb hts hinX0 tyX0 tyX0_ok nmX0 hown hE hS hw (10 + 3 * i) (yE_p (by omega) hp_n3) rfl 12 (by decide) (by decide +kernel) rfl (ty := .boolean) (by decide +kernel) (by decide) (by decide) (Nat.le_of_ble_eq_true rfl) dX1_giveOutPanels_34 (fun H locs hw hS => ?_)
          have hw := hw.cong (yU_f (by omega) hp_n3 12 (by decide) (by decide) (0))
          obtain ⟨pr_4, hpr_4⟩ : ∃ z, z = va_up pr_3 i (some (va_up q_3.1 12 (0), q_3.2)) := ⟨_, rfl⟩
          obtain ⟨q_4, hq_4⟩ : ∃ z : PS, z = (va_up q_3.1 12 (0), q_3.2) := ⟨_, rfl⟩
          have hp_n4 : pr_4 i = some q_4 := by rw [hpr_4, hq_4, up_same]
          rw [← hpr_4] at hw
          refine zi_iinc (lv' := [(3, .int (iI ((i : Int) + 1))), (4, .ref (ad (10 + 3 * i))), (2, .int (iI (10))), (1, .ref (ad 5)), (0, .ref (ad 0))]) hx hb dX1_giveOutPanels_37 hl (k := 1) rfl (by decide) rfl (fun ls hl => ?_)
          refine lv_goto (tgt := 10) hx hb dX1_giveOutPanels_40 (by decide) ?_
          have hg1 : gv1 p_17 q_4 := by rw [hq_4, hq_3]; exact ⟨fun j hj => up_ne _ _ hj, rfl, rfl⟩
          have hpr9 : pr_4 = va_up pr1 i (some q_4) := by rw [hq_4, hpr_4, hpr_3, up_up]
          exact ih (i + 1) pr_4 _ _ _ (by omega) (by omega) (by rw [hpr9]; exact gvR_u hgR hp_17 hg1) (fun j p hj hp => by rw [hpr9] at hp; by_cases hji : j = i; (subst hji; rw [up_same] at hp; cases hp; rw [hq_4, hq_3]; exact ⟨isM_0, rfl⟩); rw [up_ne _ _ hji] at hp; exact hz9 j p (by omega) hp) hw hS (lv_sub hl [0, 2, 3, 4] rfl)
  exact loop_10 11 0 pr _ _ _ (by omega) (by omega) gvR_0 (fun j p hj => absurd hj (Nat.not_lt_zero j)) hw hS (lv_sub hl [0, 1, 2, 3] rfl)

set_option maxHeartbeats 4000000 in
set_option maxRecDepth 100000 in
theorem c_X1_panelsOf_ok (l : Launch) (D : va_G) (cy : Nat → ClassId) (A : Nat → Prop) (ad : Nat → Nat) (ya : Nat → Nat → Int) (yi : Nat → Int) (pr : Nat → Option PS) (H0 : Heap) (i : Nat) (p0 : PS) (hw : zW D A ad (yE cy ad ya yi pr) H0) (hi : i < 10) (hp0 : pr i = some p0) (hb9 : ∀ i p, i < 10 → pr i = some p → (0 ≤ p.1 9 ∧ p.1 9 ≤ 900) ∧ (0 ≤ p.1 10 ∧ p.1 10 ≤ 1000) ∧ 1 ≤ p.1 1 ∧ p.1 1 ≤ 30) (hg : yB yi) : Met l yX1_panelsOf wsX1_panelsOf ({ frames := 3, cells := 0, slots := 0, locals := 72 }) (zPc D cy A [.ref (ad 0), .int (iI ((i : Int)))] H0) (zQi (fun z H1 => ∃ pr2, zW D A ad (yE cy ad ya yi pr2) H1 ∧ gvR pr pr2 ∧ z = sl (fun j => bI (FY pr (yi 5) 10000 i j)) 60) A) 0 0 A := by
  refine Met.ofW (cc := cX1_panelsOf) (maxL := 3) (ret := (some .int)) (by decide) rfl ?_
  intro pg en s mt args below meth c s₁ B hml hv
  obtain ⟨rfl, hH, hE⟩ := hv
  subst hH
  have hx := B.exec
  have hb := B.bytes
  have hr := B.returns
  have hts := atoms_spec (ws := wsX1_panelsOf) B.pre
  have hown : s.vm.findClass RX1 = some mt.cls := findClass_of_methodNamed B.named
  have hlocks := B.notSynchronized
  have hinX0 : ∀ w ∈ u_ws RX0 TX0 13, w ∈ wsX1_panelsOf := by decide +kernel
  have hS : va_S A s.heap s.heap [] := va_S.rf
  have hl := lv_entry ([.ref (ad 0), .int (iI ((i : Int)))]) (n := 3) (Nat.le_of_ble_eq_true rfl)
  rw [lg_entry_eq]
  generalize (lg_sl ([.ref (ad 0), .int (iI ((i : Int)))]) ++ List.replicate (3 - (lg_sl ([.ref (ad 0), .int (iI ((i : Int)))])).length) Slot.unset).toArray = ls at hl ⊢
  have hl : lv_has ls 3 [(0, .ref (ad 0)), (1, .int (iI ((i : Int))))] := hl
  refine lv_aload_n hx hb dX1_panelsOf_0 rfl (lv_at hl 0 rfl) ?_
  refine lv_iload_n hx hb dX1_panelsOf_1 rfl (lv_at hl 1 rfl) ?_
  refine zcallq (va_runV (As := [.int (iI ((i : Int)))]) (rest := []) ⟨hx, hb, hml, hown, hts⟩ (c_X1_existing_ok l D cy A ad ya yi pr _ i p0 hw (by omega) hp0) (cwV 1 hts gX1_panelsOf_X1_existing rfl rfl rfl (by decide +kernel) ⟨(Nat.le_of_ble_eq_true rfl), (Nat.le_of_ble_eq_true rfl)⟩) (zPV hE hS hw (ci := 1) (k0 := 0) rfl yE_0) rfl rfl hl.1 rfl (lv_room (Nat.le_of_ble_eq_true rfl)) dX1_panelsOf_2 ⟨(Nat.le_of_ble_eq_true rfl), (Nat.le_of_ble_eq_true rfl)⟩) hS (fun z_2 H1 locs hq hz1 hk1 hS => ?_)
  obtain ⟨hqe, hv_2⟩ := hq
  replace hqe := hqe.symm
  subst hqe
  subst hv_2
  rw [zrf]
  refine lv_astore_n (lv' := [(2, .ref (ad (10 + 3 * i))), (0, .ref (ad 0)), (1, .int (iI ((i : Int))))]) hx hb dX1_panelsOf_5 rfl hl (by decide) rfl (fun ls hl => ?_)
  refine lv_aload_n hx hb dX1_panelsOf_6 rfl (lv_at hl 1 rfl) ?_
  refine zcallv (va_runV (As := []) (rest := []) ⟨hx, hb, hml, hown, hts⟩ (c_X1_giveOutPanels l D cy A ad ya yi pr _ hw hb9 hg) (cwV 0 hts gX1_panelsOf_X1_giveOutPanels rfl rfl rfl (by decide +kernel) ⟨(Nat.le_of_ble_eq_true rfl), (Nat.le_of_ble_eq_true rfl)⟩) (zPV hE hS hw (ci := 1) (k0 := 0) rfl yE_0) rfl rfl hl.1 rfl (lv_room (Nat.le_of_ble_eq_true rfl)) dX1_panelsOf_7 ⟨(Nat.le_of_ble_eq_true rfl), (Nat.le_of_ble_eq_true rfl)⟩) hS (fun H1 locs hq hz1 hk1 hS => ?_)
  obtain ⟨pr_g, hw, hgR, hgG⟩ := hq
  obtain ⟨pg_0, hpg_0, hgg_0⟩ := gvR_q hgR (by omega) hp0
  refine lv_aload_n hx hb dX1_panelsOf_10 rfl (lv_at hl 0 rfl) ?_
  refine zgetN (own := RX1) (C := RX0) (T := TX0) (N := 13) (index := 171) (host := RX1) hx hb hts hinX0 hown hE hw (10 + 3 * i) (yE_p (by omega) hpg_0) rfl 11 (by decide) (by decide +kernel) rfl dX1_panelsOf_11 ?_
  refine zcalli (va_runS (As := [.long (pg_0.2.2.2)]) (rest := []) ⟨hx, hb, hml, hown, hts⟩ (c_J13_bitCount_95d88 l D cy A ad _ (pg_0.2.2.2) (FY pr (yi 5) 10000 i) (hgG i pg_0 (by omega) hpg_0)) (va_cwS 1 hts gX1_panelsOf_J13_bitCount_95d88 rfl rfl rfl (by decide +kernel) ⟨(Nat.le_of_ble_eq_true rfl), (Nat.le_of_ble_eq_true rfl)⟩) (zPS hE hS) rfl rfl hl.1 rfl (lv_room (Nat.le_of_ble_eq_true rfl)) dX1_panelsOf_14 ⟨(Nat.le_of_ble_eq_true rfl), (Nat.le_of_ble_eq_true rfl)⟩) hS (fun z_14 H1 locs hz_14 hq hz1 hk1 hS => ?_)
  obtain ⟨hqe, hv_14⟩ := hq
  replace hqe := hqe.symm
  subst hqe
  refine ziret hx hb hr hlocks hS (Nat.le_of_ble_eq_true rfl) (Nat.le_of_ble_eq_true rfl) (by first | decide | (constructor <;> omega)) ?_ dX1_panelsOf_17
  exact ⟨_, hw, hgR, hv_14⟩

set_option maxHeartbeats 4000000 in
set_option maxRecDepth 100000 in
theorem c_X1_pourOf_ok (l : Launch) (D : va_G) (cy : Nat → ClassId) (A : Nat → Prop) (ad : Nat → Nat) (ya : Nat → Nat → Int) (yi : Nat → Int) (pr : Nat → Option PS) (H0 : Heap) (k : Nat) (h : Int) (hw : zW D A ad (yE cy ad ya yi pr) H0) (hk9 : (k : Int) < yi 5) (h1 : 0 ≤ h ∧ h < 1000) (hb9 : ∀ i p, i < 10 → pr i = some p → (0 ≤ p.1 9 ∧ p.1 9 ≤ 900) ∧ (0 ≤ p.1 10 ∧ p.1 10 ≤ 1000) ∧ 1 ≤ p.1 1 ∧ p.1 1 ≤ 30) (hg : yB yi) : Met l yX1_pourOf wsX1_pourOf ({ frames := 3, cells := 0, slots := 0, locals := 72 }) (zPc D cy A [.ref (ad 0), .int (iI ((k : Int))), .int (iI (h))] H0) (zQi (fun z H1 => ∃ pr2, zW D A ad (yE cy ad ya yi pr2) H1 ∧ gvR pr pr2 ∧ ((z = -1 ∧ ∀ q, q < 10 → ¬ (∃ p, pr q = some p ∧ FY pr (yi 5) 10000 q k = true ∧ p.1 9 ≤ h ∧ h < p.1 10)) ∨ (0 ≤ z ∧ z < 10 ∧ (∃ p, pr z.toNat = some p ∧ FY pr (yi 5) 10000 z.toNat k = true ∧ p.1 9 ≤ h ∧ h < p.1 10)))) A) 0 0 A := by
  refine Met.ofW (cc := cX1_pourOf) (maxL := 7) (ret := (some .int)) (by decide) rfl ?_
  intro pg en s mt args below meth c s₁ B hml hv
  obtain ⟨rfl, hH, hE⟩ := hv
  subst hH
  have hx := B.exec
  have hb := B.bytes
  have hr := B.returns
  have hts := atoms_spec (ws := wsX1_pourOf) B.pre
  have hown : s.vm.findClass RX1 = some mt.cls := findClass_of_methodNamed B.named
  have hlocks := B.notSynchronized
  have hinX0 : ∀ w ∈ u_ws RX0 TX0 13, w ∈ wsX1_pourOf := by decide +kernel
  have hinX1 : ∀ w ∈ u_ws RX1 TX1 9, w ∈ wsX1_pourOf := by decide +kernel
  have hS : va_S A s.heap s.heap [] := va_S.rf
  have hl := lv_entry ([.ref (ad 0), .int (iI ((k : Int))), .int (iI (h))]) (n := 7) (Nat.le_of_ble_eq_true rfl)
  rw [lg_entry_eq]
  generalize (lg_sl ([.ref (ad 0), .int (iI ((k : Int))), .int (iI (h))]) ++ List.replicate (7 - (lg_sl ([.ref (ad 0), .int (iI ((k : Int))), .int (iI (h))])).length) Slot.unset).toArray = ls at hl ⊢
  have hl : lv_has ls 7 [(0, .ref (ad 0)), (1, .int (iI ((k : Int)))), (2, .int (iI (h)))] := hl
  obtain ⟨g1, g2, g3, g4⟩ := id hg
  refine lv_iload_n hx hb dX1_pourOf_0 rfl (lv_at hl 1 rfl) ?_
  refine zf_lt (tgt := 12) hx hb dX1_pourOf_1 (by decide) (by first | decide | (constructor <;> omega)) (fun c_1 => ?_) (fun c_1 => ?_)
  · exfalso; omega
  · refine lv_iload_n hx hb dX1_pourOf_4 rfl (lv_at hl 1 rfl) ?_
    refine lv_aload_n hx hb dX1_pourOf_5 rfl (lv_at hl 0 rfl) ?_
    refine zget (C := RX1) (T := TX1) (N := 9) hx hb hts hinX1 hown hE hw 0 yE_0 rfl 5 (by decide) (hts (.fieldLink RX1 28 "FormworkYard" "yardPanels" "I") (by decide +kernel)) rfl dX1_pourOf_6 ?_
    refine zc_lt (tgt := 20) hx hb dX1_pourOf_9 (by decide) (by first | decide | (constructor <;> omega)) (by first | decide | (constructor <;> omega)) (fun c_9 => ?_) (fun c_9 => ?_)
    · refine lv_iload_n hx hb dX1_pourOf_20 rfl (lv_at hl 2 rfl) ?_
      refine zcallv (va_runS (As := [.int (iI (h))]) (rest := []) ⟨hx, hb, hml, hown, hts⟩ (c_X1_requireHour_ok l D cy A ad _ (h) (by omega)) (va_cwS 1 hts gX1_pourOf_X1_requireHour rfl rfl rfl (by decide +kernel) ⟨(Nat.le_of_ble_eq_true rfl), (Nat.le_of_ble_eq_true rfl)⟩) (zPS hE hS) rfl rfl hl.1 rfl (lv_room (Nat.le_of_ble_eq_true rfl)) dX1_pourOf_21 ⟨(Nat.le_of_ble_eq_true rfl), (Nat.le_of_ble_eq_true rfl)⟩) hS (fun H1 locs hq hz1 hk1 hS => ?_)
      replace hq := hq.symm
      subst hq
      refine lv_aload_n hx hb dX1_pourOf_24 rfl (lv_at hl 0 rfl) ?_
      refine zcallv (va_runV (As := []) (rest := []) ⟨hx, hb, hml, hown, hts⟩ (c_X1_giveOutPanels l D cy A ad ya yi pr _ hw hb9 hg) (cwV 0 hts gX1_pourOf_X1_giveOutPanels rfl rfl rfl (by decide +kernel) ⟨(Nat.le_of_ble_eq_true rfl), (Nat.le_of_ble_eq_true rfl)⟩) (zPV hE hS hw (ci := 1) (k0 := 0) rfl yE_0) rfl rfl hl.1 rfl (lv_room (Nat.le_of_ble_eq_true rfl)) dX1_pourOf_25 ⟨(Nat.le_of_ble_eq_true rfl), (Nat.le_of_ble_eq_true rfl)⟩) hS (fun H1 locs hq hz1 hk1 hS => ?_)
      obtain ⟨pr_g, hw, hgR, hgG⟩ := hq
      refine lv_lconst (v := 1) hx hb dX1_pourOf_28 (by decide) ?_
      refine lv_iload_n hx hb dX1_pourOf_29 rfl (lv_at hl 1 rfl) ?_
      refine lv_lshl (v := lN (2 ^ k)) hx hb dX1_pourOf_30 (zshl (by omega)) ?_
      refine lv_lstore_n (lv' := [(3, .long (lN (2 ^ k))), (0, .ref (ad 0)), (1, .int (iI ((k : Int)))), (2, .int (iI (h)))]) hx hb dX1_pourOf_31 rfl hl (by decide) rfl (fun ls hl => ?_)
      refine zi_const hx hb dX1_pourOf_32 ?_
      refine lv_istore (lv' := [(5, .int (iI (0))), (3, .long (lN (2 ^ k))), (0, .ref (ad 0)), (1, .int (iI ((k : Int)))), (2, .int (iI (h)))]) hx hb dX1_pourOf_33 hl (by decide) rfl (fun ls hl => ?_)
      have loop_35 : ∀ (n : Nat) (i : Nat) (H : Heap) (locs : List Loc) (ls : Array Slot), 10 - i < n → (i ≤ 10) → (∀ q, q < i → ¬ (∃ p, pr q = some p ∧ FY pr (yi 5) 10000 q k = true ∧ p.1 9 ≤ h ∧ h < p.1 10)) → zW D A ad (yE cy ad ya yi pr_g) H → va_S A s.heap H locs → lv_has ls 7 [(5, .int (iI ((i : Int)))), (3, .long (lN (2 ^ k))), (0, .ref (ad 0)), (1, .int (iI ((k : Int)))), (2, .int (iI (h)))] → W pg l en (headSpec wsX1_pourOf ({ frames := 3, cells := 0, slots := 0, locals := 72 })).room s mt ([.ref (ad 0), .int (iI ((k : Int))), .int (iI (h))] : List Value).toArray below meth c H locs 0 0 (MQ below (zQi (fun z H1 => ∃ pr2, zW D A ad (yE cy ad ya yi pr2) H1 ∧ gvR pr pr2 ∧ ((z = -1 ∧ ∀ q, q < 10 → ¬ (∃ p, pr q = some p ∧ FY pr (yi 5) 10000 q k = true ∧ p.1 9 ≤ h ∧ h < p.1 10)) ∨ (0 ≤ z ∧ z < 10 ∧ (∃ p, pr z.toNat = some p ∧ FY pr (yi 5) 10000 z.toNat k = true ∧ p.1 9 ≤ h ∧ h < p.1 10)))) A) ([.ref (ad 0), .int (iI ((k : Int))), .int (iI (h))] : List Value).toArray s 0 0 A) (F0 mt 35 ls []) := by
        intro n
        induction n with
        | zero =>
          intro i H locs ls hm hi hno
          exfalso; omega
        | succ n ih =>
          intro i H locs ls hm hi hno hw hS hl
          refine lv_iload hx hb dX1_pourOf_35 (lv_at hl 0 rfl) ?_
          refine zi_bipush hx hb dX1_pourOf_37 (by decide) ?_
          refine zc_ge (tgt := 86) hx hb dX1_pourOf_39 (by decide) (by first | decide | (constructor <;> omega)) (by first | decide | (constructor <;> omega)) (fun c_39 => ?_) (fun c_39 => ?_)
          · refine zi_const hx hb dX1_pourOf_86 ?_
            refine ziret hx hb hr hlocks hS (Nat.le_of_ble_eq_true rfl) (Nat.le_of_ble_eq_true rfl) (by first | decide | (constructor <;> omega)) ?_ dX1_pourOf_87
            refine ⟨_, hw, hgR, ?_⟩
            exact Or.inl ⟨rfl, fun q hq => hno q (by omega)⟩
          · refine lv_aload_n hx hb dX1_pourOf_42 rfl (lv_at hl 2 rfl) ?_
            refine zget (C := RX1) (T := TX1) (N := 9) hx hb hts hinX1 hown hE hw 0 yE_0 rfl 4 (by decide) (hts (.fieldLink RX1 24 "FormworkYard" "pourList" "[LFormworkYard$Pour;") (by decide +kernel)) rfl dX1_pourOf_43 ?_
            refine lv_iload hx hb dX1_pourOf_46 (lv_at hl 0 rfl) ?_
            refine zaald hx hb hE hw 5 yE_5 i rfl (by omega) (by omega) dX1_pourOf_48 ?_
            rcases hp_48 : pr_g i with _ | p_48
            · rw [yR_0 hp_48]
              refine lv_astoreN (lv' := [(6, .null), (5, .int (iI ((i : Int)))), (3, .long (lN (2 ^ k))), (0, .ref (ad 0)), (1, .int (iI ((k : Int)))), (2, .int (iI (h)))]) hx hb dX1_pourOf_49 hl (by decide) rfl (fun ls hl => ?_)
              refine lv_aloadN hx hb dX1_pourOf_51 (lv_at hl 0 rfl) ?_
              refine lv_ifnullN (tgt := 80) hx hb dX1_pourOf_53 (by decide) ?_
              refine zi_iinc (lv' := [(5, .int (iI ((i : Int) + 1))), (6, .null), (3, .long (lN (2 ^ k))), (0, .ref (ad 0)), (1, .int (iI ((k : Int)))), (2, .int (iI (h)))]) hx hb dX1_pourOf_80 hl (k := 1) rfl (by decide) rfl (fun ls hl => ?_)
              refine lv_goto (tgt := 35) hx hb dX1_pourOf_83 (by decide) ?_
              exact ih (i + 1) _ _ _ (by omega) (by omega) (fun q hq => by by_cases hqi : q = i; (subst hqi; rintro ⟨p, hp, -⟩; have hx9 := gvR_q hgR (by omega) hp; obtain ⟨b, hb1, -⟩ := hx9; rw [hp_48] at hb1; cases hb1); exact hno q (by omega)) hw hS (lv_sub hl [0, 2, 3, 4, 5] rfl)
            · rw [yR_1 hp_48]
              obtain ⟨a0, ha0, hap0⟩ := gvR_p hgR (by omega) hp_48
              have hb0 := hb9 _ a0 (by omega) ha0
              have e9 := hap0.1 9 (by decide)
              have e10 := hap0.1 10 (by decide)
              have hA9 := isM_and (hgG i p_48 (by omega) hp_48) (k := k) (by omega)
              refine lv_astore (lv' := [(6, .ref (ad (10 + 3 * i))), (5, .int (iI ((i : Int)))), (3, .long (lN (2 ^ k))), (0, .ref (ad 0)), (1, .int (iI ((k : Int)))), (2, .int (iI (h)))]) hx hb dX1_pourOf_49 hl (by decide) rfl (fun ls hl => ?_)
              refine lv_aload hx hb dX1_pourOf_51 (lv_at hl 0 rfl) ?_
              refine lv_ifnull hx hb dX1_pourOf_53 ?_
              refine lv_aload hx hb dX1_pourOf_56 (lv_at hl 0 rfl) ?_
              refine zgetN (own := RX1) (C := RX0) (T := TX0) (N := 13) (index := 171) (host := RX1) hx hb hts hinX0 hown hE hw (10 + 3 * i) (yE_p (by omega) hp_48) rfl 11 (by decide) (by decide +kernel) rfl dX1_pourOf_58 ?_
              refine lv_lload_n hx hb dX1_pourOf_61 rfl (lv_at hl 2 rfl) ?_
              refine lv_land hx hb dX1_pourOf_62 ?_
              refine lv_lconst (v := 0) hx hb dX1_pourOf_63 (by decide) ?_
              refine W.lcmp hx hb dX1_pourOf_64 ?_
              obtain ⟨k_64, hk_640, hk_64⟩ := zlcmp ((p_48.2.2.2) &&& (lN (2 ^ k))) (0)
              rw [hk_64]
              refine zf_eq (tgt := 80) hx hb dX1_pourOf_65 (by decide) (by first | decide | (constructor <;> omega)) (fun c_65 => ?_) (fun c_65 => ?_)
              · refine zi_iinc (lv' := [(5, .int (iI ((i : Int) + 1))), (6, .ref (ad (10 + 3 * i))), (3, .long (lN (2 ^ k))), (0, .ref (ad 0)), (1, .int (iI ((k : Int)))), (2, .int (iI (h)))]) hx hb dX1_pourOf_80 hl (k := 1) rfl (by decide) rfl (fun ls hl => ?_)
                refine lv_goto (tgt := 35) hx hb dX1_pourOf_83 (by decide) ?_
                exact ih (i + 1) _ _ _ (by omega) (by omega) (fun q hq => by by_cases hqi : q = i; (subst hqi; rintro ⟨p, hp, h8, h7⟩; rw [ha0] at hp; cases hp; have hf := hA9.mp (by rcases hk_640 with h9 | h9; exact h9.2; omega); rw [h8] at hf; cases hf); exact hno q (by omega)) hw hS (lv_sub hl [0, 2, 3, 4, 5] rfl)
              · refine lv_aload hx hb dX1_pourOf_68 (lv_at hl 0 rfl) ?_
                refine lv_iload_n hx hb dX1_pourOf_70 rfl (lv_at hl 5 rfl) ?_
                refine zcalli (va_runVN (As := [.int (iI (h))]) (rest := []) ⟨hx, hb, hml, hown, hts⟩ (c_X0_isBusy l D cy A ad ya yi pr_g _ i p_48 (h) hw (by omega) hp_48 (by first | decide | (constructor <;> omega)) (by first | decide | (constructor <;> omega)) (by first | decide | (constructor <;> omega))) ⟨va_cnB 1 hts gX1_pourOf_X0_isBusy_n184 rfl rfl rfl (hE.2.1 (.methodLinkNest RX1 184 yX0_isBusy RX1) (by decide +kernel)) (hts (.initialized RX0) (by decide +kernel)) (by decide +kernel) ⟨(Nat.le_of_ble_eq_true rfl), (Nat.le_of_ble_eq_true rfl)⟩, hts (.instanceMethod yX0_isBusy) (by decide +kernel), hts (.selects RX0 yX0_isBusy yX0_isBusy) (by decide +kernel)⟩ (zPV hE hS hw (ci := 0) (k0 := 10 + 3 * i) rfl (yE_p (by omega) hp_48)) rfl rfl hl.1 rfl (lv_room (Nat.le_of_ble_eq_true rfl)) dX1_pourOf_71 ⟨(Nat.le_of_ble_eq_true rfl), (Nat.le_of_ble_eq_true rfl)⟩) hS (fun z_71 H1 locs hz_71 hq hz1 hk1 hS => ?_)
                obtain ⟨hqe, hv_71⟩ := hq
                replace hqe := hqe.symm
                subst hqe
                refine zf_eq (tgt := 80) hx hb dX1_pourOf_74 (by decide) (by first | decide | (constructor <;> omega)) (fun c_74 => ?_) (fun c_74 => ?_)
                · refine zi_iinc (lv' := [(5, .int (iI ((i : Int) + 1))), (6, .ref (ad (10 + 3 * i))), (3, .long (lN (2 ^ k))), (0, .ref (ad 0)), (1, .int (iI ((k : Int)))), (2, .int (iI (h)))]) hx hb dX1_pourOf_80 hl (k := 1) rfl (by decide) rfl (fun ls hl => ?_)
                  refine lv_goto (tgt := 35) hx hb dX1_pourOf_83 (by decide) ?_
                  exact ih (i + 1) _ _ _ (by omega) (by omega) (fun q hq => by by_cases hqi : q = i; (subst hqi; rintro ⟨p, hp, h8, h7⟩; rw [ha0] at hp; cases hp; omega); exact hno q (by omega)) hw hS (lv_sub hl [0, 2, 3, 4, 5] rfl)
                · refine lv_iload hx hb dX1_pourOf_77 (lv_at hl 1 rfl) ?_
                  refine ziret hx hb hr hlocks hS (Nat.le_of_ble_eq_true rfl) (Nat.le_of_ble_eq_true rfl) (by first | decide | (constructor <;> omega)) ?_ dX1_pourOf_79
                  refine ⟨_, hw, hgR, ?_⟩
                  refine Or.inr ⟨by omega, by omega, ?_⟩
                  rw [Int.toNat_natCast]
                  refine ⟨a0, ha0, ?_, by omega⟩
                  cases hf : FY pr (yi 5) 10000 i k with
                  | true => rfl
                  | false => have h9 := hA9.mpr hf; rcases hk_640 with h8 | h8; omega; exact absurd h9 h8.2
      exact loop_35 11 0 _ _ _ (by omega) (by omega) (fun q hq => absurd hq (Nat.not_lt_zero q)) hw hS (lv_sub hl [0, 1, 2, 3, 4] rfl)
    · exfalso; omega
end
section
/-! ===== new cells get a role ===== -/
section ZNEW
variable {D : va_G} {cy : Nat → ClassId} {A : Nat → Prop} {ad : Nat → Nat} {e : Nat → Option va_E} {H H1 : Heap}
theorem zW.push (hw : zW D A ad e H) {q : Nat} {x : va_E} (hP : va_P D vwCl (zL ad e ++ [(q, x)]) H1) (hD : va_D A (zL ad e ++ [(q, x)])) {k : Nat} (hk : k < 64) (he : e k = none) : zW D A (va_up ad k q) (va_up e k (some x)) H1 := by
  have hlast : (zL ad e ++ [(q, x)])[(zL ad e).length]? = some (q, x) := by
    rw [List.getElem?_append_right (Nat.le_refl _), Nat.sub_self]
    rfl
  have hleft : ∀ {j : Nat} {v : va_E}, e j = some v → ∃ i, i < (zL ad e).length ∧ (zL ad e ++ [(q, x)])[i]? = some (ad j, v) := by
    intro j v hj
    obtain ⟨i, hi⟩ := hw.ix hj
    have hl := (List.getElem?_eq_some_iff.mp hi).1
    exact ⟨i, hl, by rw [List.getElem?_append_left hl]; exact hi⟩
  refine ⟨fun j v hj => ?_, fun i j v w hi hj hij => ?_⟩
  · by_cases hjk : j = k
    · subst hjk
      rw [up_same] at hj
      cases hj
      rw [up_same]
      exact ⟨hk, hP _ _ hlast, hD.2 _ _ hlast⟩
    · rw [up_ne _ _ hjk] at hj
      rw [up_ne _ _ hjk]
      obtain ⟨i, hl, hi⟩ := hleft hj
      exact ⟨(hw.1 j v hj).1, hP _ _ hi, hD.2 _ _ hi⟩
  · by_cases hik : i = k
    · by_cases hjk : j = k
      · rw [hik, hjk]
      · exfalso
        subst hik
        rw [up_ne _ _ hjk] at hj
        rw [up_same, up_ne _ _ hjk] at hij
        obtain ⟨r, hl, hr⟩ := hleft hj
        have := hD.1 _ _ _ _ hlast hr hij
        omega
    · by_cases hjk : j = k
      · exfalso
        subst hjk
        rw [up_ne _ _ hik] at hi
        rw [up_same, up_ne _ _ hik] at hij
        obtain ⟨r, hl, hr⟩ := hleft hi
        have := hD.1 _ _ _ _ hr hlast hij
        omega
      · rw [up_ne _ _ hik] at hi hij
        rw [up_ne _ _ hjk] at hj hij
        exact hw.2 i j v w hi hj hij
theorem zRA_eq {U : State} {c1 c2 : ClassId} {ty : FieldType} (h1 : va_RA U c1 ty) (h2 : va_RA U c2 ty) : c1 = c2 := by
  cases ty with
  | object C =>
    obtain ⟨_, _, _, _, _, e1⟩ := h1
    obtain ⟨_, _, _, _, _, e2⟩ := h2
    exact Option.some.inj (e1.symm.trans e2)
  | _ => exact Option.some.inj (Eq.trans (Eq.symm h1) h2)
variable {p : Program} {l : Launch} {en : Env} {R : Room} {s : State} {m : MethodId} {args : Array Value} {below : List Frame} {meth : Method} {c : Code} {locs : List Loc} {cells slots : Nat} {Q : State → Prop}
variable {cc : ByteArray} {pc : Nat} {ls : Array Slot} {rest : List Value}
theorem znewa (hx : p.tables.exec = Jvm.exec) (hb : c.code = cc) {atype : ArrayType} (harr : (Cond.arrayClass (newarray.typeOf atype)).before args s = true) {ty : FieldType} (hty : newarray.typeOf atype = ty) (hE : EN D cy A s s.heap) (hS : va_S A s.heap H locs) (hAf : ∀ q, s.heap.size ≤ q → A q)
    (hw : zW D A ad e H) (k : Nat) (hk : k < 64) (he : e k = none) (t0 : Nat) (ht0 : (zTy cy)[t0]? = some (cy t0, ty)) {z : Int} {N' : Nat} {a0 : vp_A} (ha : ∀ cA : ClassId, vp_cell cA a0 = arrV cA N' (fun _ => defaultValue ty)) (hn : ¬ iI z < 0) (hN : (iI z).toNatClampNeg = N') (hbytes : N' * componentBytes ty ≤ 536870912) (hcells : cells + 1 ≤ R.cells) (hslots : slots + N' ≤ R.slots) (hdg : decode cc pc = .ok (.newarray atype, 2))
    (kk : ∀ (q : Nat) (H1 : Heap), zW D A (va_up ad k q) (va_up e k (some (.inl (cy t0, a0)))) H1 → va_S A s.heap H1 locs → W p l en R s m args below meth c H1 locs (cells + 1) (slots + N') Q (F0 m (pc + 2) ls (.ref q :: rest))) : W p l en R s m args below meth c H locs cells slots Q (F0 m pc ls (.int (iI z) :: rest)) := by
  refine va_newa hx hb harr hty hE.1 hw.P hw.dd hS hAf ha hn hN hbytes hcells hslots hdg (fun q cA H1 hK1 hP1 hD1 hS1 => ?_)
  have e1 : cA = cy t0 := zRA_eq (hK1.2 3 (cA, ty) rfl).2 (hE.1.2 t0 _ ht0).2
  subst e1
  exact kk q H1 (hw.push hP1 hD1 hk he) hS1
theorem znewq (hx : p.tables.exec = Jvm.exec) (hb : c.code = cc) {own : String} {index : Nat} (hown : s.vm.findClass own = some m.cls) (hclink : (Cond.classLink own index RX0).before args s = true) (hE : EN D cy A s s.heap) (hS : va_S A s.heap H locs) (hAf : ∀ q, s.heap.size ≤ q → A q)
    (hw : zW D A ad e H) (k : Nat) (hk : k < 64) (he : e k = none) {z : Int} {N' : Nat} (hn : ¬ iI z < 0) (hN : (iI z).toNatClampNeg = N') (hbytes : N' * 4 ≤ 536870912) (hcells : cells + 1 ≤ R.cells) (hslots : slots + N' ≤ R.slots) (hdg : decode cc pc = .ok (.anewarray index, 3))
    (kk : ∀ (q : Nat) (H1 : Heap), zW D A (va_up ad k q) (va_up e k (some (.inl (cy 2, N', .inr (.inr (.inr (.inr (fun _ => none)))))))) H1 → va_S A s.heap H1 locs → W p l en R s m args below meth c H1 locs (cells + 1) (slots + N') Q (F0 m (pc + 3) ls (.ref q :: rest))) : W p l en R s m args below meth c H locs cells slots Q (F0 m pc ls (.int (iI z) :: rest)) := by
  refine va_newq hx hb hown hclink hE.2.2.2.2.2.2.2 hE.1 hw.P hw.dd hS hAf hn hN hbytes hcells hslots hdg (fun q cA H1 hK1 hP1 hD1 hS1 => ?_)
  have e1 : cA = cy 2 := zRA_eq (hK1.2 3 (cA, .object RX0) rfl).2 (hE.1.2 2 _ rfl).2
  subst e1
  exact kk q H1 (hw.push hP1 hD1 hk he) hS1
theorem znew (hx : p.tables.exec = Jvm.exec) (hb : c.code = cc) {own C : String} {T : u_T} {N ci index : Nat} {Ts : List Cond} (hts : ∀ w ∈ Ts, w.before args s = true) (hin : ∀ w ∈ u_ws C T N, w ∈ Ts) (ty : Nat → FieldType) (hty : ∀ k, k < N → parseFieldDescriptor (T k).2.2.1 = some (ty k)) (hown : s.vm.findClass own = some m.cls) (hcl : (Cond.classLink own index C).before args s = true) (hinst : (Cond.instantiable C N).before args s = true) (hini : (Cond.initialized C).before args s = true)
    (hE : EN D cy A s s.heap) (hS : va_S A s.heap H locs) (hAf : ∀ q, s.heap.size ≤ q → A q) (hw : zW D A ad e H) (k : Nat) (hk : k < 64) (he : e k = none) (hc : vwCl[ci]? = some (C, T, N)) {fs : List Value} (hfs : ∀ j, j < N → defaultValue (ty j) = vp_V fs j) (hcells : cells + 1 ≤ R.cells) (hslots : slots + N ≤ R.slots) (hdg : decode cc pc = .ok (.new index, 3))
    (kk : ∀ (q : Nat) (H1 : Heap), zW D A (va_up ad k q) (va_up e k (some (.inr (ci, fs)))) H1 → va_S A s.heap H1 locs → W p l en R s m args below meth c H1 locs (cells + 1) (slots + N) Q (F0 m (pc + 3) ls (.ref q :: rest))) : W p l en R s m args below meth c H locs cells slots Q (F0 m pc ls rest) := by
  refine va_new hx hb hts hin ty hty hown hcl hinst hini hE.1 hw.P hw.dd hS hAf hc hfs hcells hslots hdg (fun q H1 hP1 hD1 hS1 => ?_)
  exact kk q H1 (hw.push hP1 hD1 hk he) hS1
theorem vz_i (n : Nat) (cA : ClassId) : vp_cell cA (n, .inl (fun _ => iI 0)) = arrV cA n (fun _ => defaultValue .int) := rfl
end ZNEW
end
section
def oE (ci : Nat) (fs : List Value) : Nat → Option va_E := fun k => if k = 0 then some (.inr (ci, fs)) else none
def yI0 : Nat → Int := fun j => match j with
  | 5 => 20
  | 6 => 10
  | 7 => 2
  | _ => 3
theorem yE_n {cy : Nat → ClassId} {ad : Nat → Nat} {ya : Nat → Nat → Int} {yi : Nat → Int} (k : Nat) : yE cy ad ya yi (fun _ => none) (k + 6) = none := by
  unfold yE
  rw [if_neg (by omega), if_neg (by omega), if_neg (by omega), if_neg (by omega), if_neg (by omega), if_neg (by omega)]
  split
  · rfl
  · split <;> rfl
set_option maxHeartbeats 4000000 in
set_option maxRecDepth 100000 in
theorem c_J7_fill_53178 (l : Launch) (D : va_G) (cy : Nat → ClassId) (A : Nat → Prop) (ad : Nat → Nat) (ya : Nat → Nat → Int) (yi : Nat → Int) (pr : Nat → Option PS) (H0 : Heap) (v : Int) (hw : zW D A ad (yE cy ad ya yi pr) H0) (h1 : zr v) : Met l yJ7_fill_53178 wsJ7_fill_53178 ({ frames := 0, cells := 0, slots := 0, locals := 0 }) (zPc D cy A [.ref (ad 1), .int (iI (v))] H0) (zQv (fun H1 => ∃ yb, zW D A ad (yE cy ad yb yi pr) H1 ∧ (∀ r, r ≠ 0 → yb r = ya r) ∧ ∀ j, j < 1000 → yb 0 j = v) A) 0 0 A := by
  refine Met.ofW (cc := cJ7_fill_53178) (maxL := 4) (ret := none) (by decide) rfl ?_
  intro pg en s mt args below meth c s₁ B hml hv
  obtain ⟨rfl, hH, hE⟩ := hv
  subst hH
  have hx := B.exec
  have hb := B.bytes
  have hr := B.returns
  have hts := atoms_spec (ws := wsJ7_fill_53178) B.pre
  have hown : s.vm.findClass RJ7 = some mt.cls := findClass_of_methodNamed B.named
  have hlocks := B.notSynchronized
  have hS : va_S A s.heap s.heap [] := va_S.rf
  have hl := lv_entry ([.ref (ad 1), .int (iI (v))]) (n := 4) (Nat.le_of_ble_eq_true rfl)
  rw [lg_entry_eq]
  generalize (lg_sl ([.ref (ad 1), .int (iI (v))]) ++ List.replicate (4 - (lg_sl ([.ref (ad 1), .int (iI (v))])).length) Slot.unset).toArray = ls at hl ⊢
  have hl : lv_has ls 4 [(0, .ref (ad 1)), (1, .int (iI (v)))] := hl
  refine zi_const hx hb dJ7_fill_53178_0 ?_
  refine lv_istore_n (lv' := [(2, .int (iI (0))), (0, .ref (ad 1)), (1, .int (iI (v)))]) hx hb dJ7_fill_53178_1 rfl hl (by decide) rfl (fun ls hl => ?_)
  refine lv_aload_n hx hb dJ7_fill_53178_2 rfl (lv_at hl 1 rfl) ?_
  refine zalen hx hb hE hw 1 0 yE_1 rfl (z := 1000) rfl dJ7_fill_53178_3 ?_
  refine lv_istore_n (lv' := [(3, .int (iI (1000))), (2, .int (iI (0))), (0, .ref (ad 1)), (1, .int (iI (v)))]) hx hb dJ7_fill_53178_4 rfl hl (by decide) rfl (fun ls hl => ?_)
  have loop_5 : ∀ (n : Nat) (x : Nat) (yb : Nat → Nat → Int) (H : Heap) (locs : List Loc) (ls : Array Slot), 1000 - x < n → (x ≤ 1000) → (∀ r, r ≠ 0 → yb r = ya r) → (∀ j, j < x → yb 0 j = v) → zW D A ad (yE cy ad yb yi pr) H → va_S A s.heap H locs → lv_has ls 4 [(2, .int (iI ((x : Int)))), (3, .int (iI (1000))), (0, .ref (ad 1)), (1, .int (iI (v)))] → W pg l en (headSpec wsJ7_fill_53178 ({ frames := 0, cells := 0, slots := 0, locals := 0 })).room s mt ([.ref (ad 1), .int (iI (v))] : List Value).toArray below meth c H locs 0 0 (MQ below (zQv (fun H1 => ∃ yb, zW D A ad (yE cy ad yb yi pr) H1 ∧ (∀ r, r ≠ 0 → yb r = ya r) ∧ ∀ j, j < 1000 → yb 0 j = v) A) ([.ref (ad 1), .int (iI (v))] : List Value).toArray s 0 0 A) (F0 mt 5 ls []) := by
    intro n
    induction n with
    | zero =>
      intro x yb H locs ls hm hx9 hr9 hv9
      exfalso; omega
    | succ n ih =>
      intro x yb H locs ls hm hx9 hr9 hv9 hw hS hl
      refine lv_iload_n hx hb dJ7_fill_53178_5 rfl (lv_at hl 0 rfl) ?_
      refine lv_iload_n hx hb dJ7_fill_53178_6 rfl (lv_at hl 1 rfl) ?_
      refine zc_ge (tgt := 20) hx hb dJ7_fill_53178_7 (by decide) (by first | decide | (constructor <;> omega)) (by first | decide | (constructor <;> omega)) (fun c_7 => ?_) (fun c_7 => ?_)
      · refine zvret hx hb hr hlocks hS (Nat.le_of_ble_eq_true rfl) (Nat.le_of_ble_eq_true rfl) ?_ dJ7_fill_53178_20
        exact ⟨_, hw, hr9, fun j hj => hv9 j (by omega)⟩
      · refine lv_aload_n hx hb dJ7_fill_53178_10 rfl (lv_at hl 2 rfl) ?_
        refine lv_iload_n hx hb dJ7_fill_53178_11 rfl (lv_at hl 0 rfl) ?_
        refine lv_iload_n hx hb dJ7_fill_53178_12 rfl (lv_at hl 3 rfl) ?_
        refine ziast hx hb hE hS hw 1 yE_1 x rfl (by omega) (by omega) dJ7_fill_53178_13 (fun H locs hw hS => ?_)
        have hw := hw.cong (yU_a 0 (by decide) (x) (v) rfl)
        obtain ⟨ya_1, hya_1⟩ : ∃ z : Nat → Nat → Int, z = va_up yb 0 (va_up (yb 0) (x) (v)) := ⟨_, rfl⟩
        rw [← hya_1] at hw
        refine zi_iinc (lv' := [(2, .int (iI ((x : Int) + 1))), (3, .int (iI (1000))), (0, .ref (ad 1)), (1, .int (iI (v)))]) hx hb dJ7_fill_53178_14 hl (k := 0) rfl (by decide) rfl (fun ls hl => ?_)
        refine lv_goto (tgt := 5) hx hb dJ7_fill_53178_17 (by decide) ?_
        have hS9 := rU_s (k := 0) (p := x) rU_r hya_1
        exact ih (x + 1) ya_1 _ _ _ (by omega) (by omega) (fun r hr => (rU_row hS9.1 hr).trans (hr9 r hr)) (fun j hj => by by_cases hj2 : j = x; (subst hj2; exact hS9.2); rw [hS9.1 0 j (Or.inr hj2)]; exact hv9 j (by omega)) hw hS (lv_sub hl [0, 1, 2, 3] rfl)
  exact loop_5 1001 0 ya _ _ _ (by omega) (by omega) (fun _ _ => rfl) (fun j hj => absurd hj (Nat.not_lt_zero j)) hw hS (lv_sub hl [1, 0, 2, 3] rfl)

set_option maxHeartbeats 4000000 in
set_option maxRecDepth 100000 in
theorem c_X1_init (l : Launch) (D : va_G) (cy : Nat → ClassId) (A : Nat → Prop) (ad : Nat → Nat) (H0 : Heap) (hAf : ∀ q, H0.size ≤ q → A q) (hw : zW D A ad (oE 1 [.null, .null, .null, .null, .null, .int 0, .int 0, .int 0, .int 0]) H0) : Met l yX1_init wsX1_init ({ frames := 2, cells := 5, slots := 4012, locals := 42 }) (zPc D cy A [.ref (ad 0)] H0) (zQv (fun H1 => ∃ ad2 yb, ad2 0 = ad 0 ∧ zW D A ad2 (yE cy ad2 yb yI0 (fun _ => none)) H1 ∧ (∀ j, j < 1000 → yb 0 j = 20) ∧ gnd (yb 0) yb) A) 5 4012 A := by
  refine Met.ofW (cc := cX1_init) (maxL := 1) (ret := none) (by decide) rfl ?_
  intro pg en s mt args below meth c s₁ B hml hv
  obtain ⟨rfl, hH, hE⟩ := hv
  subst hH
  have hx := B.exec
  have hb := B.bytes
  have hr := B.returns
  have hts := atoms_spec (ws := wsX1_init) B.pre
  have hown : s.vm.findClass RX1 = some mt.cls := findClass_of_methodNamed B.named
  have hlocks := B.notSynchronized
  have hinX1 : ∀ w ∈ u_ws RX1 TX1 9, w ∈ wsX1_init := by decide +kernel
  have hS : va_S A s.heap s.heap [] := va_S.rf
  have hl := lv_entry ([.ref (ad 0)]) (n := 1) (Nat.le_of_ble_eq_true rfl)
  rw [lg_entry_eq]
  generalize (lg_sl ([.ref (ad 0)]) ++ List.replicate (1 - (lg_sl ([.ref (ad 0)])).length) Slot.unset).toArray = ls at hl ⊢
  have hl : lv_has ls 1 [(0, .ref (ad 0))] := hl
  have hin2 : meth.name = "<init>" := (name_of_methodNamed B.named B.method).1
  refine lv_aload_n hx hb dX1_init_0 rfl (lv_at hl 0 rfl) ?_
  refine W.objInit hx hb hown (hts (.methodLink RX1 1 objectInit) (by decide +kernel)) (hts (.instanceMethod objectInit) (by decide +kernel)) (hts (.code objectInit ⟨#[0xb1]⟩ 1 none) (by decide +kernel)) rfl (by rw [hml]; exact hl.1) rfl dX1_init_1 (Nat.le_of_ble_eq_true rfl) (Nat.le_of_ble_eq_true rfl) ?_
  refine W.eq (g2 := F0 mt 4 ls []) rfl ?_
  refine lv_aload_n hx hb dX1_init_4 rfl (lv_at hl 0 rfl) ?_
  refine zi_sipush hx hb dX1_init_5 (by decide) ?_
  refine znewa (atype := .int) hx hb (hts (.arrayClass .int) (by decide +kernel)) (ty := .int) rfl hE hS hAf hw 1 (by decide) rfl 0 rfl (N' := 1000) (a0 := (1000, .inl (fun _ => iI 0))) (vz_i 1000) (by decide +kernel) (by decide +kernel) (by decide +kernel) (by decide +kernel) (by decide +kernel) dX1_init_8 (fun q_8 H hw hS => ?_)
  refine zputF (C := RX1) (T := TX1) (N := 9) hx hb hts hinX1 tyX1 tyX1_ok nmX1 hown hE hS hw 0 rfl rfl 0 (by decide) (hts (.fieldLink RX1 9 "FormworkYard" "temperatures" "[I") (by decide +kernel)) rfl hin2 rfl (ty := (.array .int)) (by decide +kernel) rfl rfl (Nat.le_of_ble_eq_true rfl) dX1_init_10 (fun H locs hw hS => ?_)
  simp only [List.set_cons_zero, List.set_cons_succ] at hw
  refine lv_aload_n hx hb dX1_init_13 rfl (lv_at hl 0 rfl) ?_
  refine zi_sipush hx hb dX1_init_14 (by decide) ?_
  refine znewa (atype := .int) hx hb (hts (.arrayClass .int) (by decide +kernel)) (ty := .int) rfl hE hS hAf hw 2 (by decide) rfl 0 rfl (N' := 1001) (a0 := (1001, .inl (fun _ => iI 0))) (vz_i 1001) (by decide +kernel) (by decide +kernel) (by decide +kernel) (by decide +kernel) (by decide +kernel) dX1_init_17 (fun q_17 H hw hS => ?_)
  refine zputF (C := RX1) (T := TX1) (N := 9) hx hb hts hinX1 tyX1 tyX1_ok nmX1 hown hE hS hw 0 rfl rfl 1 (by decide) (hts (.fieldLink RX1 13 "FormworkYard" "gained" "[I") (by decide +kernel)) rfl hin2 rfl (ty := (.array .int)) (by decide +kernel) rfl rfl (Nat.le_of_ble_eq_true rfl) dX1_init_19 (fun H locs hw hS => ?_)
  simp only [List.set_cons_zero, List.set_cons_succ] at hw
  refine lv_aload_n hx hb dX1_init_22 rfl (lv_at hl 0 rfl) ?_
  refine zi_sipush hx hb dX1_init_23 (by decide) ?_
  refine znewa (atype := .int) hx hb (hts (.arrayClass .int) (by decide +kernel)) (ty := .int) rfl hE hS hAf hw 3 (by decide) rfl 0 rfl (N' := 1000) (a0 := (1000, .inl (fun _ => iI 0))) (vz_i 1000) (by decide +kernel) (by decide +kernel) (by decide +kernel) (by decide +kernel) (by decide +kernel) dX1_init_26 (fun q_26 H hw hS => ?_)
  refine zputF (C := RX1) (T := TX1) (N := 9) hx hb hts hinX1 tyX1 tyX1_ok nmX1 hown hE hS hw 0 rfl rfl 2 (by decide) (hts (.fieldLink RX1 16 "FormworkYard" "needs" "[I") (by decide +kernel)) rfl hin2 rfl (ty := (.array .int)) (by decide +kernel) rfl rfl (Nat.le_of_ble_eq_true rfl) dX1_init_28 (fun H locs hw hS => ?_)
  simp only [List.set_cons_zero, List.set_cons_succ] at hw
  refine lv_aload_n hx hb dX1_init_31 rfl (lv_at hl 0 rfl) ?_
  refine zi_sipush hx hb dX1_init_32 (by decide) ?_
  refine znewa (atype := .int) hx hb (hts (.arrayClass .int) (by decide +kernel)) (ty := .int) rfl hE hS hAf hw 4 (by decide) rfl 0 rfl (N' := 1001) (a0 := (1001, .inl (fun _ => iI 0))) (vz_i 1001) (by decide +kernel) (by decide +kernel) (by decide +kernel) (by decide +kernel) (by decide +kernel) dX1_init_35 (fun q_35 H hw hS => ?_)
  refine zputF (C := RX1) (T := TX1) (N := 9) hx hb hts hinX1 tyX1 tyX1_ok nmX1 hown hE hS hw 0 rfl rfl 3 (by decide) (hts (.fieldLink RX1 19 "FormworkYard" "nextFull" "[I") (by decide +kernel)) rfl hin2 rfl (ty := (.array .int)) (by decide +kernel) rfl rfl (Nat.le_of_ble_eq_true rfl) dX1_init_37 (fun H locs hw hS => ?_)
  simp only [List.set_cons_zero, List.set_cons_succ] at hw
  refine lv_aload_n hx hb dX1_init_40 rfl (lv_at hl 0 rfl) ?_
  refine zi_bipush hx hb dX1_init_41 (by decide) ?_
  refine znewq hx hb hown (hts (.classLink RX1 22 RX0) (by decide +kernel)) hE hS hAf hw 5 (by decide) rfl (N' := 10) (by decide +kernel) (by decide +kernel) (by decide +kernel) (by decide +kernel) (by decide +kernel) dX1_init_43 (fun q_43 H hw hS => ?_)
  refine zputF (C := RX1) (T := TX1) (N := 9) hx hb hts hinX1 tyX1 tyX1_ok nmX1 hown hE hS hw 0 rfl rfl 4 (by decide) (hts (.fieldLink RX1 24 "FormworkYard" "pourList" "[LFormworkYard$Pour;") (by decide +kernel)) rfl hin2 rfl (ty := (.array (.object RX0))) (by decide +kernel) rfl rfl (Nat.le_of_ble_eq_true rfl) dX1_init_46 (fun H locs hw hS => ?_)
  simp only [List.set_cons_zero, List.set_cons_succ] at hw
  refine lv_aload_n hx hb dX1_init_49 rfl (lv_at hl 0 rfl) ?_
  refine zi_bipush hx hb dX1_init_50 (by decide) ?_
  refine zput (C := RX1) (T := TX1) (N := 9) hx hb hts hinX1 tyX1 tyX1_ok nmX1 hown hE hS hw 0 rfl rfl 5 (by decide) (hts (.fieldLink RX1 28 "FormworkYard" "yardPanels" "I") (by decide +kernel)) rfl (ty := .int) (by decide +kernel) rfl rfl (Nat.le_of_ble_eq_true rfl) dX1_init_52 (fun H locs hw hS => ?_)
  simp only [List.set_cons_zero, List.set_cons_succ] at hw
  refine lv_aload_n hx hb dX1_init_55 rfl (lv_at hl 0 rfl) ?_
  refine zi_bipush hx hb dX1_init_56 (by decide) ?_
  refine zput (C := RX1) (T := TX1) (N := 9) hx hb hts hinX1 tyX1 tyX1_ok nmX1 hown hE hS hw 0 rfl rfl 6 (by decide) (hts (.fieldLink RX1 32 "FormworkYard" "rate" "I") (by decide +kernel)) rfl (ty := .int) (by decide +kernel) rfl rfl (Nat.le_of_ble_eq_true rfl) dX1_init_58 (fun H locs hw hS => ?_)
  simp only [List.set_cons_zero, List.set_cons_succ] at hw
  refine lv_aload_n hx hb dX1_init_61 rfl (lv_at hl 0 rfl) ?_
  refine zi_const hx hb dX1_init_62 ?_
  refine zput (C := RX1) (T := TX1) (N := 9) hx hb hts hinX1 tyX1 tyX1_ok nmX1 hown hE hS hw 0 rfl rfl 7 (by decide) (hts (.fieldLink RX1 35 "FormworkYard" "setUpHours" "I") (by decide +kernel)) rfl (ty := .int) (by decide +kernel) rfl rfl (Nat.le_of_ble_eq_true rfl) dX1_init_63 (fun H locs hw hS => ?_)
  simp only [List.set_cons_zero, List.set_cons_succ] at hw
  refine lv_aload_n hx hb dX1_init_66 rfl (lv_at hl 0 rfl) ?_
  refine zi_const hx hb dX1_init_67 ?_
  refine zput (C := RX1) (T := TX1) (N := 9) hx hb hts hinX1 tyX1 tyX1_ok nmX1 hown hE hS hw 0 rfl rfl 8 (by decide) (hts (.fieldLink RX1 38 "FormworkYard" "cleaningHours" "I") (by decide +kernel)) rfl (ty := .int) (by decide +kernel) rfl rfl (Nat.le_of_ble_eq_true rfl) dX1_init_68 (fun H locs hw hS => ?_)
  simp only [List.set_cons_zero, List.set_cons_succ] at hw
  obtain ⟨ao, hao⟩ : ∃ z, z = ad := ⟨_, rfl⟩
  subst hao
  obtain ⟨ad, had⟩ : ∃ z : Nat → Nat, z = va_up (va_up (va_up (va_up (va_up ao 1 q_8) 2 q_17) 3 q_26) 4 q_35) 5 q_43 := ⟨_, rfl⟩
  rw [← had] at hw
  have hl : lv_has ls 1 [(0, .ref (ad 0))] := by rw [show ad 0 = _ from congrFun had 0]; exact hl
  have hw : zW D A ad (yE cy ad (fun _ _ => 0) yI0 (fun _ => none)) H := hw.cong (by
    intro k
    match k with
    | 0 => rw [yE_0]; unfold yO; rw [had]; rfl
    | 1 => rfl
    | 2 => rfl
    | 3 => rfl
    | 4 => rfl
    | 5 => rw [yE_5, yR_none]; rfl
    | k + 6 => rw [yE_n k]; rfl)
  refine lv_aload_n hx hb dX1_init_71 rfl (lv_at hl 0 rfl) ?_
  refine zget (C := RX1) (T := TX1) (N := 9) hx hb hts hinX1 hown hE hw 0 rfl rfl 0 (by decide) (hts (.fieldLink RX1 9 "FormworkYard" "temperatures" "[I") (by decide +kernel)) rfl dX1_init_72 ?_
  refine zi_bipush hx hb dX1_init_75 (by decide) ?_
  refine zcallv (va_runS (As := [.ref (ad 1), .int (iI (20))]) (rest := []) ⟨hx, hb, hml, hown, hts⟩ (c_J7_fill_53178 l D cy A ad (fun _ _ => 0) yI0 (fun _ => none) _ (20) hw (by first | decide | (constructor <;> omega))) (va_cwS 2 hts gX1_init_J7_fill_53178 rfl rfl rfl (by decide +kernel) ⟨(Nat.le_of_ble_eq_true rfl), (Nat.le_of_ble_eq_true rfl)⟩) (zPS hE hS) rfl rfl hl.1 rfl (lv_room (Nat.le_of_ble_eq_true rfl)) dX1_init_77 ⟨(Nat.le_of_ble_eq_true rfl), (Nat.le_of_ble_eq_true rfl)⟩) hS (fun H1 locs hq hz1 hk1 hS => ?_)
  obtain ⟨ya_f, hw, hfr, hfv⟩ := hq
  have ht9 : tOK (ya_f 0) := fun j hj => by rw [hfv j hj]; decide
  refine lv_aload_n hx hb dX1_init_80 rfl (lv_at hl 0 rfl) ?_
  refine zcallv (va_runV (As := []) (rest := []) ⟨hx, hb, hml, hown, hts⟩ (c_X1_sumGains l D cy A ad ya_f yI0 (fun _ => none) _ hw ht9) (cwV 0 hts gX1_init_X1_sumGains rfl rfl rfl (by decide +kernel) ⟨(Nat.le_of_ble_eq_true rfl), (Nat.le_of_ble_eq_true rfl)⟩) (zPV hE hS hw (ci := 1) (k0 := 0) rfl rfl) rfl rfl hl.1 rfl (lv_room (Nat.le_of_ble_eq_true rfl)) dX1_init_81 ⟨(Nat.le_of_ble_eq_true rfl), (Nat.le_of_ble_eq_true rfl)⟩) hS (fun H1 locs hq hz1 hk1 hS => ?_)
  obtain ⟨ya_c81, hw, hgr_81, hgg_81⟩ := hq
  refine zvret hx hb hr hlocks hS (Nat.le_of_ble_eq_true rfl) (Nat.le_of_ble_eq_true rfl) ?_ dX1_init_84
  have e0 := hgr_81 0 (by decide)
  exact ⟨ad, _, congrFun had 0, hw, fun j hj => by rw [e0]; exact hfv j hj, fun n hn => by rw [e0]; exact hgg_81 n hn⟩
end
section
def nP (a b d f : Int) : PS := (fun j => match j with
  | 0 => b
  | 1 => d
  | 2 => f
  | 3 => a
  | _ => 0, fun _ => 0, fun _ => 0, 0)
section YN
variable {cy : Nat → ClassId} {ad ad2 : Nat → Nat} {ya : Nat → Nat → Int} {yi : Nat → Int} {pr : Nat → Option PS} {p : PS}
theorem yE_n41 (h : pr 10 = none) : yE cy ad ya yi pr 41 = none := by rw [yE_hi (by omega) (by omega), show (41 - 10) / 3 = 10 by rfl, h]; rfl
theorem yE_n42 (h : pr 10 = none) : yE cy ad ya yi pr 42 = none := by rw [yE_hi (by omega) (by omega), show (42 - 10) / 3 = 10 by rfl, h]; rfl
theorem yE_n40 (h : pr 10 = none) : yE cy ad ya yi pr 40 = none := by rw [yE_hi (by omega) (by omega), show (40 - 10) / 3 = 10 by rfl, h]; rfl
theorem yE_40 : yE cy ad ya yi (va_up pr 10 (some p)) 40 = some (.inr (0, yP ad 10 p)) := yE_p (i := 10) (by decide) (up_same _ _ _)
theorem yE_41 : yE cy ad ya yi (va_up pr 10 (some p)) 41 = some (.inl (cy 0, 4, .inl (fun j => iI (p.2.1 j)))) := yE_q (i := 10) (by decide) (up_same _ _ _)
theorem yE_42 : yE cy ad ya yi (va_up pr 10 (some p)) 42 = some (.inl (cy 0, 4, .inl (fun j => iI (p.2.2.1 j)))) := yE_r (i := 10) (by decide) (up_same _ _ _)
theorem yR_ad {pr2 : Nat → Option PS} (h : ∀ k, k < 40 → ad2 k = ad k) (hp : ∀ i, i < 10 → (pr2 i).isSome = (pr i).isSome) : yR ad2 pr2 = yR ad pr := funext fun i => by
  unfold yR
  by_cases hi : i < 10
  · rw [if_pos hi, if_pos hi, h _ (by omega)]
    have h9 := hp i hi
    revert h9
    cases pr i <;> cases pr2 i <;> simp
  · rw [if_neg hi, if_neg hi]
theorem yE_lo {pr2 : Nat → Option PS} (h : ∀ k, k < 40 → ad2 k = ad k) (hp : ∀ i, i < 10 → pr2 i = pr i) {k : Nat} (hk : k < 40 ∨ 43 ≤ k) : yE cy ad2 ya yi pr2 k = yE cy ad ya yi pr k := by
  by_cases hl : 10 ≤ k ∧ k < 43
  · rw [yE_hi hl.1 hl.2, yE_hi hl.1 hl.2, hp _ (by omega)]
    have e1 := h (11 + 3 * ((k - 10) / 3)) (by omega)
    have e2 := h (12 + 3 * ((k - 10) / 3)) (by omega)
    have e : ∀ p : PS, yP ad2 ((k - 10) / 3) p = yP ad ((k - 10) / 3) p := fun p => by unfold yP; rw [e1, e2]
    simp only [e]
  · have e5 := yR_ad (pr := pr) (pr2 := pr2) h (fun i hi => by rw [hp i hi])
    have e0 : yO ad2 yi = yO ad yi := by
      unfold yO
      rw [h 1 (by decide), h 2 (by decide), h 3 (by decide), h 4 (by decide), h 5 (by decide)]
    unfold yE
    rw [e0, e5]
    by_cases h10 : k < 10
    · simp [h10]
    · have : ¬ k < 43 := by omega
      simp [h10, this]
theorem yE_ad (h : ∀ k, k ≠ 41 → k ≠ 42 → ad2 k = ad k) {k : Nat} (h0 : k ≠ 40) (h1 : k ≠ 41) (h2 : k ≠ 42) : yE cy ad2 ya yi (va_up pr 10 (some p)) k = yE cy ad ya yi pr k := yE_lo (fun k hk => h k (by omega) (by omega)) (fun i hi => up_ne _ _ (by omega)) (by omega)
end YN
/-- roles get other names -/
theorem zW.re {D : va_G} {A : Nat → Prop} {ad ad2 : Nat → Nat} {e e2 : Nat → Option va_E} {H : Heap} (h : zW D A ad e H) (σ : Nat → Nat) (h1 : ∀ k v, e2 k = some v → k < 64 ∧ e (σ k) = some v ∧ ad2 k = ad (σ k)) (h2 : ∀ i j v w, e2 i = some v → e2 j = some w → σ i = σ j → i = j) : zW D A ad2 e2 H := by
  refine ⟨fun k v hk => ?_, fun i j v w hi hj hij => ?_⟩
  · obtain ⟨a1, a2, a3⟩ := h1 k v hk
    obtain ⟨-, b2, b3⟩ := h.1 (σ k) v a2
    rw [a3]
    exact ⟨a1, b2, b3⟩
  · obtain ⟨-, a2, a3⟩ := h1 i v hi
    obtain ⟨-, b2, b3⟩ := h1 j w hj
    exact h2 i j v w hi hj (h.2 _ _ v w a2 b2 (by rw [← a3, ← b3]; exact hij))
set_option maxHeartbeats 4000000 in
set_option maxRecDepth 100000 in
theorem c_X0_init (l : Launch) (D : va_G) (cy : Nat → ClassId) (A : Nat → Prop) (ad : Nat → Nat) (H0 : Heap) (ya : Nat → Nat → Int) (yi : Nat → Int) (pr : Nat → Option PS) (a b d f : Int) (ha1 : zr a) (hb1 : zr b) (hd1 : zr d) (hf1 : zr f) (hpr : pr 10 = none) (hAf : ∀ q, H0.size ≤ q → A q) (hw : zW D A ad (va_up (yE cy ad ya yi pr) 40 (some (.inr (0, [.int 0, .int 0, .int 0, .int 0, .int 0, .null, .null, .int 0, .int 0, .int 0, .int 0, .long 0, .int 0])))) H0) : Met l yX0_init wsX0_init ({ frames := 1, cells := 2, slots := 8, locals := 21 }) (zPc D cy A [.ref (ad 40), .int (iI (a)), .int (iI (b)), .int (iI (d)), .int (iI (f))] H0) (zQv (fun H1 => ∃ ad2, (∀ k, k ≠ 41 → k ≠ 42 → ad2 k = ad k) ∧ zW D A ad2 (yE cy ad2 ya yi (va_up pr 10 (some (nP a b d f)))) H1) A) 2 8 A := by
  refine Met.ofW (cc := cX0_init) (maxL := 5) (ret := none) (by decide) rfl ?_
  intro pg en s mt args below meth c s₁ B hml hv
  obtain ⟨rfl, hH, hE⟩ := hv
  subst hH
  have hx := B.exec
  have hb := B.bytes
  have hr := B.returns
  have hts := atoms_spec (ws := wsX0_init) B.pre
  have hown : s.vm.findClass RX0 = some mt.cls := findClass_of_methodNamed B.named
  have hlocks := B.notSynchronized
  have hinX0 : ∀ w ∈ u_ws RX0 TX0 13, w ∈ wsX0_init := by decide +kernel
  have hS : va_S A s.heap s.heap [] := va_S.rf
  have hl := lv_entry ([.ref (ad 40), .int (iI (a)), .int (iI (b)), .int (iI (d)), .int (iI (f))]) (n := 5) (Nat.le_of_ble_eq_true rfl)
  rw [lg_entry_eq]
  generalize (lg_sl ([.ref (ad 40), .int (iI (a)), .int (iI (b)), .int (iI (d)), .int (iI (f))]) ++ List.replicate (5 - (lg_sl ([.ref (ad 40), .int (iI (a)), .int (iI (b)), .int (iI (d)), .int (iI (f))])).length) Slot.unset).toArray = ls at hl ⊢
  have hl : lv_has ls 5 [(0, .ref (ad 40)), (1, .int (iI (a))), (2, .int (iI (b))), (3, .int (iI (d))), (4, .int (iI (f)))] := hl
  have hin2 : meth.name = "<init>" := (name_of_methodNamed B.named B.method).1
  refine lv_aload_n hx hb dX0_init_0 rfl (lv_at hl 0 rfl) ?_
  refine W.objInit hx hb hown (hts (.methodLink RX0 3 objectInit) (by decide +kernel)) (hts (.instanceMethod objectInit) (by decide +kernel)) (hts (.code objectInit ⟨#[0xb1]⟩ 1 none) (by decide +kernel)) rfl (by rw [hml]; exact hl.1) rfl dX0_init_1 (Nat.le_of_ble_eq_true rfl) (Nat.le_of_ble_eq_true rfl) ?_
  refine W.eq (g2 := F0 mt 4 ls []) rfl ?_
  refine lv_aload_n hx hb dX0_init_4 rfl (lv_at hl 0 rfl) ?_
  refine zi_const hx hb dX0_init_5 ?_
  refine znewa (atype := .int) hx hb (hts (.arrayClass .int) (by decide +kernel)) (ty := .int) rfl hE hS hAf hw 41 (by decide) ((up_ne _ _ (by decide)).trans (yE_n41 hpr)) 0 rfl (N' := 4) (a0 := (4, .inl (fun _ => iI 0))) (vz_i 4) (by decide +kernel) (by decide +kernel) (by decide +kernel) (by decide +kernel) (by decide +kernel) dX0_init_6 (fun q_6 H hw hS => ?_)
  refine zputF (C := RX0) (T := TX0) (N := 13) hx hb hts hinX0 tyX0 tyX0_ok nmX0 hown hE hS hw 40 rfl rfl 5 (by decide) (hts (.fieldLink RX0 9 "FormworkYard$Pour" "parts" "[I") (by decide +kernel)) rfl hin2 rfl (ty := (.array .int)) (by decide +kernel) rfl rfl (Nat.le_of_ble_eq_true rfl) dX0_init_8 (fun H locs hw hS => ?_)
  simp only [List.set_cons_zero, List.set_cons_succ] at hw
  refine lv_aload_n hx hb dX0_init_11 rfl (lv_at hl 0 rfl) ?_
  refine zi_const hx hb dX0_init_12 ?_
  refine znewa (atype := .int) hx hb (hts (.arrayClass .int) (by decide +kernel)) (ty := .int) rfl hE hS hAf hw 42 (by decide) (by rw [up_ne _ _ (by decide), up_ne _ _ (by decide), up_ne _ _ (by decide)]; exact yE_n42 hpr) 0 rfl (N' := 4) (a0 := (4, .inl (fun _ => iI 0))) (vz_i 4) (by decide +kernel) (by decide +kernel) (by decide +kernel) (by decide +kernel) (by decide +kernel) dX0_init_13 (fun q_13 H hw hS => ?_)
  refine zputF (C := RX0) (T := TX0) (N := 13) hx hb hts hinX0 tyX0 tyX0_ok nmX0 hown hE hS hw 40 rfl rfl 6 (by decide) (hts (.fieldLink RX0 15 "FormworkYard$Pour" "lengths" "[I") (by decide +kernel)) rfl hin2 rfl (ty := (.array .int)) (by decide +kernel) rfl rfl (Nat.le_of_ble_eq_true rfl) dX0_init_15 (fun H locs hw hS => ?_)
  simp only [List.set_cons_zero, List.set_cons_succ] at hw
  refine lv_aload_n hx hb dX0_init_18 rfl (lv_at hl 0 rfl) ?_
  refine lv_iload_n hx hb dX0_init_19 rfl (lv_at hl 1 rfl) ?_
  refine zput (C := RX0) (T := TX0) (N := 13) hx hb hts hinX0 tyX0 tyX0_ok nmX0 hown hE hS hw 40 rfl rfl 3 (by decide) (hts (.fieldLink RX0 18 "FormworkYard$Pour" "start" "I") (by decide +kernel)) rfl (ty := .int) (by decide +kernel) rfl rfl (Nat.le_of_ble_eq_true rfl) dX0_init_20 (fun H locs hw hS => ?_)
  simp only [List.set_cons_zero, List.set_cons_succ] at hw
  refine lv_aload_n hx hb dX0_init_23 rfl (lv_at hl 0 rfl) ?_
  refine lv_iload_n hx hb dX0_init_24 rfl (lv_at hl 2 rfl) ?_
  refine zputF (C := RX0) (T := TX0) (N := 13) hx hb hts hinX0 tyX0 tyX0_ok nmX0 hown hE hS hw 40 rfl rfl 0 (by decide) (hts (.fieldLink RX0 22 "FormworkYard$Pour" "volume" "I") (by decide +kernel)) rfl hin2 rfl (ty := .int) (by decide +kernel) rfl rfl (Nat.le_of_ble_eq_true rfl) dX0_init_25 (fun H locs hw hS => ?_)
  simp only [List.set_cons_zero, List.set_cons_succ] at hw
  refine lv_aload_n hx hb dX0_init_28 rfl (lv_at hl 0 rfl) ?_
  refine lv_iload_n hx hb dX0_init_29 rfl (lv_at hl 3 rfl) ?_
  refine zputF (C := RX0) (T := TX0) (N := 13) hx hb hts hinX0 tyX0 tyX0_ok nmX0 hown hE hS hw 40 rfl rfl 1 (by decide) (hts (.fieldLink RX0 25 "FormworkYard$Pour" "panels" "I") (by decide +kernel)) rfl hin2 rfl (ty := .int) (by decide +kernel) rfl rfl (Nat.le_of_ble_eq_true rfl) dX0_init_30 (fun H locs hw hS => ?_)
  simp only [List.set_cons_zero, List.set_cons_succ] at hw
  refine lv_aload_n hx hb dX0_init_33 rfl (lv_at hl 0 rfl) ?_
  refine lv_iload hx hb dX0_init_34 (lv_at hl 4 rfl) ?_
  refine zputF (C := RX0) (T := TX0) (N := 13) hx hb hts hinX0 tyX0 tyX0_ok nmX0 hown hE hS hw 40 rfl rfl 2 (by decide) (hts (.fieldLink RX0 28 "FormworkYard$Pour" "wanted" "I") (by decide +kernel)) rfl hin2 rfl (ty := .int) (by decide +kernel) rfl rfl (Nat.le_of_ble_eq_true rfl) dX0_init_36 (fun H locs hw hS => ?_)
  simp only [List.set_cons_zero, List.set_cons_succ] at hw
  obtain ⟨ad2, had⟩ : ∃ z : Nat → Nat, z = va_up (va_up ad 41 q_6) 42 q_13 := ⟨_, rfl⟩
  rw [← had] at hw
  have ha : ∀ k, k ≠ 41 → k ≠ 42 → ad2 k = ad k := fun k h1 h2 => by rw [had, up_ne _ _ h2, up_ne _ _ h1]
  have hw : zW D A ad2 (yE cy ad2 ya yi (va_up pr 10 (some (nP a b d f)))) H := hw.cong (by
    intro k
    by_cases h0 : k = 40
    · subst h0
      rw [yE_40]
      unfold yP
      rw [had]
      rfl
    by_cases h1 : k = 41
    · subst h1
      rw [yE_41]
      rfl
    by_cases h2 : k = 42
    · subst h2
      rw [yE_42]
      rfl
    rw [yE_ad ha h0 h1 h2]
    simp [va_up, h0, h1, h2])
  refine zvret hx hb hr hlocks hS (Nat.le_of_ble_eq_true rfl) (Nat.le_of_ble_eq_true rfl) ?_ dX0_init_39
  exact ⟨_, ha, hw⟩
end
section
theorem yE_lt {cy : Nat → ClassId} {ad : Nat → Nat} {ya : Nat → Nat → Int} {yi : Nat → Int} {pr : Nat → Option PS} (hpr : pr 10 = none) {k : Nat} {v : va_E} (h : yE cy ad ya yi pr k = some v) : k < 40 := by
  rcases Nat.lt_or_ge k 40 with c | c
  · exact c
  · exfalso
    rcases Nat.lt_or_ge k 43 with c2 | c2
    · rw [yE_hi (by omega) c2, show (k - 10) / 3 = 10 by omega, hpr] at h
      cases h
    · unfold yE at h
      rw [if_neg (by omega), if_neg (by omega), if_neg (by omega), if_neg (by omega), if_neg (by omega), if_neg (by omega), if_neg (by omega), if_neg (by omega)] at h
      cases h
theorem yU_new {D : va_G} {A : Nat → Prop} {cy : Nat → ClassId} {ad : Nat → Nat} {ya : Nat → Nat → Int} {yi : Nat → Int} {pr : Nat → Option PS} {H : Heap} {n : Nat} {q : PS} (hn : n < 10) (hpn : pr n = none) (hpr : pr 10 = none) (h : zW D A ad (va_up (yE cy ad ya yi (va_up pr 10 (some q))) 5 (some (.inl (cy 2, 10, .inr (.inr (.inr (.inr (va_up (yR ad (va_up pr 10 (some q))) n (some (ad 40)))))))))) H) :
    ∃ ad2, (∀ k, k < 40 → (k < 10 + 3 * n ∨ 12 + 3 * n < k) → ad2 k = ad k) ∧ zW D A ad2 (yE cy ad2 ya yi (va_up pr n (some q))) H := by
  obtain ⟨σ, hσ⟩ : ∃ σ : Nat → Nat, σ = fun k => if 10 + 3 * n ≤ k ∧ k ≤ 12 + 3 * n then k + 30 - 3 * n else k := ⟨_, rfl⟩
  have s1 : ∀ k, 10 + 3 * n ≤ k → k ≤ 12 + 3 * n → σ k = k + 30 - 3 * n := fun k h1 h2 => by rw [hσ]; exact if_pos ⟨h1, h2⟩
  have s2 : ∀ k, (k < 10 + 3 * n ∨ 12 + 3 * n < k) → σ k = k := fun k h1 => by rw [hσ]; exact if_neg (by omega)
  have hq10 : va_up pr n (some q) 10 = none := by rw [up_ne _ _ (by omega)]; exact hpr
  obtain ⟨ad2, had⟩ : ∃ z : Nat → Nat, ∀ k, z k = ad (σ k) := ⟨fun k => ad (σ k), fun _ => rfl⟩
  have t1 : ∀ k, 10 + 3 * n ≤ k → k ≤ 12 + 3 * n → ad2 k = ad (k + 30 - 3 * n) := fun k h1 h2 => by rw [had, s1 k h1 h2]
  have t2 : ∀ k, (k < 10 + 3 * n ∨ 12 + 3 * n < k) → ad2 k = ad k := fun k h1 => by rw [had, s2 k h1]
  refine ⟨ad2, fun k _ hk => t2 k hk, h.re σ (fun k v hk => ?_) (fun i j v w hi hj hij => ?_)⟩
  · have hl := yE_lt hq10 hk
    refine ⟨by omega, ?_, had k⟩
    by_cases hr : 10 + 3 * n ≤ k ∧ k ≤ 12 + 3 * n
    · rw [s1 k hr.1 hr.2, up_ne _ _ (by omega), yE_hi (by omega) (by omega), show (k + 30 - 3 * n - 10) / 3 = 10 by omega, up_same, Option.map_some]
      rw [yE_hi (by omega) (by omega), show (k - 10) / 3 = n by omega, up_same, Option.map_some] at hk
      have e1 : (k + 30 - 3 * n) % 3 = k % 3 := by omega
      have e2 : yP ad2 n q = yP ad 10 q := by
        unfold yP
        rw [t1 (11 + 3 * n) (by omega) (by omega), t1 (12 + 3 * n) (by omega) (by omega), show 11 + 3 * n + 30 - 3 * n = 11 + 3 * 10 by omega, show 12 + 3 * n + 30 - 3 * n = 12 + 3 * 10 by omega]
      rw [e1, ← e2]
      exact hk
    · rw [s2 k (by omega)]
      by_cases h5 : k = 5
      · subst h5
        rw [up_same]
        rw [yE_5] at hk
        rw [← hk]
        have e9 : va_up (yR ad (va_up pr 10 (some q))) n (some (ad 40)) = yR ad2 (va_up pr n (some q)) := funext fun i => by
          unfold yR
          by_cases hi : i = n
          · subst hi
            rw [up_same, if_pos hn, up_same, Option.map_some, t1 (10 + 3 * i) (by omega) (by omega), show 10 + 3 * i + 30 - 3 * i = 40 by omega]
          · rw [up_ne _ _ hi]
            by_cases hi2 : i < 10
            · rw [if_pos hi2, if_pos hi2, up_ne _ _ hi, up_ne _ _ (show i ≠ 10 by omega), t2 (10 + 3 * i) (by omega)]
            · rw [if_neg hi2, if_neg hi2]
        rw [e9]
      · rw [up_ne _ _ h5]
        by_cases h10 : 10 ≤ k
        · rw [yE_hi h10 (by omega)] at hk ⊢
          rw [up_ne _ _ (show (k - 10) / 3 ≠ n by omega)] at hk
          rw [up_ne _ _ (show (k - 10) / 3 ≠ 10 by omega)]
          have e2 : ∀ p : PS, yP ad2 ((k - 10) / 3) p = yP ad ((k - 10) / 3) p := fun p => by
            unfold yP
            rw [t2 (11 + 3 * ((k - 10) / 3)) (by omega), t2 (12 + 3 * ((k - 10) / 3)) (by omega)]
          simp only [e2] at hk
          exact hk
        · have e0 : yO ad2 yi = yO ad yi := by
            unfold yO
            rw [t2 1 (by omega), t2 2 (by omega), t2 3 (by omega), t2 4 (by omega), t2 5 (by omega)]
          unfold yE at hk ⊢
          rw [e0] at hk
          have : k < 10 := by omega
          simp [h5, this] at hk ⊢
          exact hk
  · have l1 := yE_lt hq10 hi
    have l2 := yE_lt hq10 hj
    by_cases r1 : 10 + 3 * n ≤ i ∧ i ≤ 12 + 3 * n
    · by_cases r2 : 10 + 3 * n ≤ j ∧ j ≤ 12 + 3 * n
      · rw [s1 i r1.1 r1.2, s1 j r2.1 r2.2] at hij; omega
      · rw [s1 i r1.1 r1.2, s2 j (by omega)] at hij; omega
    · by_cases r2 : 10 + 3 * n ≤ j ∧ j ≤ 12 + 3 * n
      · rw [s2 i (by omega), s1 j r2.1 r2.2] at hij; omega
      · rw [s2 i (by omega), s2 j (by omega)] at hij; omega
set_option maxHeartbeats 4000000 in
set_option maxRecDepth 100000 in
theorem c_X1_plan_ok (l : Launch) (D : va_G) (cy : Nat → ClassId) (A : Nat → Prop) (ad : Nat → Nat) (ya : Nat → Nat → Int) (yi : Nat → Int) (pr : Nat → Option PS) (H0 : Heap) (T : Nat → Int) (a b d f : Int) (hw : zW D A ad (yE cy ad ya yi pr) H0) (h1 : plOK a b d f) (hpr : pr 10 = none) (hfree : ∃ i, i < 10 ∧ pr i = none) (hAf : ∀ q, H0.size ≤ q → A q) (hg : yB yi) (hG : gnd T ya) (ht : tOK T) : Met l yX1_plan wsX1_plan ({ frames := 4, cells := 3, slots := 21, locals := 90 }) (zPc D cy A [.ref (ad 0), .int (iI (a)), .int (iI (b)), .int (iI (d)), .int (iI (f))] H0) (zQi (fun z H1 => ∃ (ad2 : Nat → Nat) (n : Nat) (q : PS), z = n ∧ n < 10 ∧ (∀ j, j < n → pr j ≠ none) ∧ pr n = none ∧ (∀ k, k < 40 → (k < 10 + 3 * n ∨ 12 + 3 * n < k) → ad2 k = ad k) ∧ zW D A ad2 (yE cy ad2 ya yi (va_up pr n (some q))) H1 ∧ schR T yi (nP a b d f) q ∧ q.2.2.2 = 0) A) 3 21 A := by
  refine Met.ofW (cc := cX1_plan) (maxL := 7) (ret := (some .int)) (by decide) rfl ?_
  intro pg en s mt args below meth c s₁ B hml hv
  obtain ⟨rfl, hH, hE⟩ := hv
  subst hH
  have hx := B.exec
  have hb := B.bytes
  have hr := B.returns
  have hts := atoms_spec (ws := wsX1_plan) B.pre
  have hown : s.vm.findClass RX1 = some mt.cls := findClass_of_methodNamed B.named
  have hlocks := B.notSynchronized
  have hinX0 : ∀ w ∈ u_ws RX0 TX0 13, w ∈ wsX1_plan := by decide +kernel
  have hinX1 : ∀ w ∈ u_ws RX1 TX1 9, w ∈ wsX1_plan := by decide +kernel
  have hS : va_S A s.heap s.heap [] := va_S.rf
  have hl := lv_entry ([.ref (ad 0), .int (iI (a)), .int (iI (b)), .int (iI (d)), .int (iI (f))]) (n := 7) (Nat.le_of_ble_eq_true rfl)
  rw [lg_entry_eq]
  generalize (lg_sl ([.ref (ad 0), .int (iI (a)), .int (iI (b)), .int (iI (d)), .int (iI (f))]) ++ List.replicate (7 - (lg_sl ([.ref (ad 0), .int (iI (a)), .int (iI (b)), .int (iI (d)), .int (iI (f))])).length) Slot.unset).toArray = ls at hl ⊢
  have hl : lv_has ls 7 [(0, .ref (ad 0)), (1, .int (iI (a))), (2, .int (iI (b))), (3, .int (iI (d))), (4, .int (iI (f)))] := hl
  obtain ⟨g1, g2, g3, g4⟩ := id hg
  have hp9 : (0 ≤ a ∧ a ≤ 900) ∧ (1 ≤ b ∧ b ≤ 200) ∧ (1 ≤ d ∧ d ≤ 30) ∧ (1 ≤ f ∧ f ≤ 100) := h1
  have hpbN : pB (nP a b d f) := ⟨hp9.1, hp9.2.1, hp9.2.2.1, hp9.2.2.2, ⟨Int.le_refl 0, by show (0 : Int) ≤ 4; decide⟩, fun k hk => absurd (show (k : Int) < 0 from hk) (by omega)⟩
  refine lv_iload_n hx hb dX1_plan_0 rfl (lv_at hl 1 rfl) ?_
  refine lv_iload_n hx hb dX1_plan_1 rfl (lv_at hl 2 rfl) ?_
  refine lv_iload_n hx hb dX1_plan_2 rfl (lv_at hl 3 rfl) ?_
  refine lv_iload hx hb dX1_plan_3 (lv_at hl 4 rfl) ?_
  refine zcallv (va_runS (As := [.int (iI (a)), .int (iI (b)), .int (iI (d)), .int (iI (f))]) (rest := []) ⟨hx, hb, hml, hown, hts⟩ (c_X1_requirePour_ok l D cy A ad _ (a) (b) (d) (f) h1) (va_cwS 4 hts gX1_plan_X1_requirePour rfl rfl rfl (by decide +kernel) ⟨(Nat.le_of_ble_eq_true rfl), (Nat.le_of_ble_eq_true rfl)⟩) (zPS hE hS) rfl rfl hl.1 rfl (lv_room (Nat.le_of_ble_eq_true rfl)) dX1_plan_5 ⟨(Nat.le_of_ble_eq_true rfl), (Nat.le_of_ble_eq_true rfl)⟩) hS (fun H1 locs hq hz1 hk1 hS => ?_)
  replace hq := hq.symm
  subst hq
  refine lv_aload_n hx hb dX1_plan_8 rfl (lv_at hl 0 rfl) ?_
  refine zcalli (va_runV (As := []) (rest := []) ⟨hx, hb, hml, hown, hts⟩ (c_X1_freeNumber l D cy A ad ya yi pr _ hw ) (cwV 0 hts gX1_plan_X1_freeNumber rfl rfl rfl (by decide +kernel) ⟨(Nat.le_of_ble_eq_true rfl), (Nat.le_of_ble_eq_true rfl)⟩) (zPV hE hS hw (ci := 1) (k0 := 0) rfl yE_0) rfl rfl hl.1 rfl (lv_room (Nat.le_of_ble_eq_true rfl)) dX1_plan_9 ⟨(Nat.le_of_ble_eq_true rfl), (Nat.le_of_ble_eq_true rfl)⟩) hS (fun z_9 H1 locs hz_9 hq hz1 hk1 hS => ?_)
  obtain ⟨hqe, nf, hv_9, hn1, hn2, hn3⟩ := hq
  replace hqe := hqe.symm
  subst hqe
  have hnf : nf < 10 := by obtain ⟨i9, hi9, hn9⟩ := hfree; rcases Nat.lt_or_ge nf 10 with h | h; exact h; exact absurd hn9 (hn2 i9 (by omega))
  rw [if_pos hnf] at hv_9
  have hz9 : z_9 = (nf : Int) := hv_9
  refine lv_istore (lv' := [(5, .int (iI (z_9))), (0, .ref (ad 0)), (1, .int (iI (a))), (2, .int (iI (b))), (3, .int (iI (d))), (4, .int (iI (f)))]) hx hb dX1_plan_12 hl (by decide) rfl (fun ls hl => ?_)
  refine lv_iload hx hb dX1_plan_14 (lv_at hl 0 rfl) ?_
  refine zcalli (va_runS (As := [.int (iI (z_9))]) (rest := []) ⟨hx, hb, hml, hown, hts⟩ (c_X1_isNumber l D cy A ad _ (z_9) (by first | decide | (constructor <;> omega))) (va_cwS 1 hts gX1_plan_X1_isNumber rfl rfl rfl (by decide +kernel) ⟨(Nat.le_of_ble_eq_true rfl), (Nat.le_of_ble_eq_true rfl)⟩) (zPS hE hS) rfl rfl hl.1 rfl (lv_room (Nat.le_of_ble_eq_true rfl)) dX1_plan_16 ⟨(Nat.le_of_ble_eq_true rfl), (Nat.le_of_ble_eq_true rfl)⟩) hS (fun z_16 H1 locs hz_16 hq hz1 hk1 hS => ?_)
  obtain ⟨hqe, hv_16⟩ := hq
  replace hqe := hqe.symm
  subst hqe
  refine zf_ne (tgt := 30) hx hb dX1_plan_19 (by decide) (by first | decide | (constructor <;> omega)) (fun c_19 => ?_) (fun c_19 => ?_)
  · refine znew (own := RX1) (C := RX0) (T := TX0) (N := 13) (ci := 0) (fs := [.int 0, .int 0, .int 0, .int 0, .int 0, .null, .null, .int 0, .int 0, .int 0, .int 0, .long 0, .int 0]) hx hb hts hinX0 tyX0 tyX0_ok hown (hts (.classLink RX1 22 RX0) (by decide +kernel)) (hts (.instantiable RX0 13) (by decide +kernel)) (hts (.initialized RX0) (by decide +kernel)) hE hS hAf hw 40 (by decide) (yE_n40 hpr) rfl (fun j hj => (by rcases (show j = 0 ∨ j = 1 ∨ j = 2 ∨ j = 3 ∨ j = 4 ∨ j = 5 ∨ j = 6 ∨ j = 7 ∨ j = 8 ∨ j = 9 ∨ j = 10 ∨ j = 11 ∨ j = 12 by omega) with rfl | rfl | rfl | rfl | rfl | rfl | rfl | rfl | rfl | rfl | rfl | rfl | rfl <;> rfl)) (by decide +kernel) (by decide +kernel) dX1_plan_30 (fun q_30 H hw hS => ?_)
    obtain ⟨ao, hao⟩ : ∃ z, z = ad := ⟨_, rfl⟩
    subst hao
    obtain ⟨ad, had⟩ : ∃ z : Nat → Nat, z = va_up ao 40 q_30 := ⟨_, rfl⟩
    rw [← had] at hw
    have ha1 : ∀ k, k < 40 → ad k = ao k := fun k hk => by rw [had]; exact up_ne _ _ (by omega)
    have e40 : q_30 = ad 40 := by rw [had, up_same]
    have hw : zW D A ad (va_up (yE cy ad ya yi pr) 40 (some (.inr (0, [.int 0, .int 0, .int 0, .int 0, .int 0, .null, .null, .int 0, .int 0, .int 0, .int 0, .long 0, .int 0])))) H := hw.cong (by
      intro k
      by_cases h40 : k = 40
      · subst h40; rw [up_same, up_same]
      rw [up_ne _ _ h40, up_ne _ _ h40]
      by_cases h41 : k = 41
      · subst h41; rw [yE_n41 hpr, yE_n41 hpr]
      by_cases h42 : k = 42
      · subst h42; rw [yE_n42 hpr, yE_n42 hpr]
      exact yE_lo ha1 (fun _ _ => rfl) (by omega))
    have hl : lv_has ls 7 [(5, .int (iI (z_9))), (0, .ref (ad 0)), (1, .int (iI (a))), (2, .int (iI (b))), (3, .int (iI (d))), (4, .int (iI (f)))] := by rw [ha1 0 (by decide)]; exact hl
    rw [e40]
    refine lv_dup hx hb dX1_plan_33 rfl ?_
    refine lv_iload_n hx hb dX1_plan_34 rfl (lv_at hl 2 rfl) ?_
    refine lv_iload_n hx hb dX1_plan_35 rfl (lv_at hl 3 rfl) ?_
    refine lv_iload_n hx hb dX1_plan_36 rfl (lv_at hl 4 rfl) ?_
    refine lv_iload hx hb dX1_plan_37 (lv_at hl 5 rfl) ?_
    refine zcallv (va_runIN (As := [.int (iI a), .int (iI b), .int (iI d), .int (iI f)]) (rest := [.ref (ad 40)]) ⟨hx, hb, hml, hown, hts⟩ (c_X0_init l D cy A ad _ ya yi pr a b d f (by first | decide | (constructor <;> omega)) (by first | decide | (constructor <;> omega)) (by first | decide | (constructor <;> omega)) (by first | decide | (constructor <;> omega)) hpr (fun q hq => hAf q (Nat.le_trans hS.1 hq)) hw) ⟨va_cnB 4 hts gX1_plan_X0_init_n94 rfl rfl rfl (hE.2.1 (.methodLinkNest RX1 94 yX0_init RX1) (by decide +kernel)) (hts (.initialized RX0) (by decide +kernel)) (by decide +kernel) ⟨(Nat.le_of_ble_eq_true rfl), (Nat.le_of_ble_eq_true rfl)⟩, rfl, hts (.instanceMethod yX0_init) (by decide +kernel)⟩ (zPS hE hS) rfl rfl hl.1 rfl (lv_room (Nat.le_of_ble_eq_true rfl)) dX1_plan_39 ⟨(Nat.le_of_ble_eq_true rfl), (Nat.le_of_ble_eq_true rfl)⟩) hS (fun H1 locs hq hz1 hk1 hS => ?_)
    obtain ⟨ad2, ha2, hw⟩ := hq
    obtain ⟨a1, ha1e⟩ : ∃ z, z = ad := ⟨_, rfl⟩
    subst ha1e
    obtain ⟨ad, had2⟩ : ∃ z, z = ad2 := ⟨_, rfl⟩
    subst had2
    have hl : lv_has ls 7 [(5, .int (iI (z_9))), (0, .ref (ad 0)), (1, .int (iI (a))), (2, .int (iI (b))), (3, .int (iI (d))), (4, .int (iI (f)))] := by rw [ha2 0 (by decide) (by decide)]; exact hl
    rw [show a1 40 = ad 40 from (ha2 40 (by decide) (by decide)).symm]
    refine lv_astore (lv' := [(6, .ref (ad 40)), (5, .int (iI (z_9))), (0, .ref (ad 0)), (1, .int (iI (a))), (2, .int (iI (b))), (3, .int (iI (d))), (4, .int (iI (f)))]) hx hb dX1_plan_42 hl (by decide) rfl (fun ls hl => ?_)
    refine lv_aload_n hx hb dX1_plan_44 rfl (lv_at hl 2 rfl) ?_
    refine lv_aload hx hb dX1_plan_45 (lv_at hl 0 rfl) ?_
    refine zcallv (va_runV (As := [.ref (ad 40)]) (rest := []) ⟨hx, hb, hml, hown, hts⟩ (c_X1_schedule l D cy A ad ya yi (va_up pr 10 (some (nP a b d f))) _ T 10 (nP a b d f) hw (by omega) (up_same _ _ _) hpbN hg hG ht) (cwV 1 hts gX1_plan_X1_schedule rfl rfl rfl (by decide +kernel) ⟨(Nat.le_of_ble_eq_true rfl), (Nat.le_of_ble_eq_true rfl)⟩) (zPV hE hS hw (ci := 1) (k0 := 0) rfl yE_0) rfl rfl hl.1 rfl (lv_room (Nat.le_of_ble_eq_true rfl)) dX1_plan_47 ⟨(Nat.le_of_ble_eq_true rfl), (Nat.le_of_ble_eq_true rfl)⟩) hS (fun H1 locs hq hz1 hk1 hS => ?_)
    obtain ⟨q_s47, hw, hsch, hgv⟩ := hq
    refine lv_aload_n hx hb dX1_plan_50 rfl (lv_at hl 2 rfl) ?_
    refine zget (C := RX1) (T := TX1) (N := 9) hx hb hts hinX1 hown hE hw 0 yE_0 rfl 4 (by decide) (hts (.fieldLink RX1 24 "FormworkYard" "pourList" "[LFormworkYard$Pour;") (by decide +kernel)) rfl dX1_plan_51 ?_
    refine lv_iload hx hb dX1_plan_54 (lv_at hl 1 rfl) ?_
    refine lv_aload hx hb dX1_plan_56 (lv_at hl 0 rfl) ?_
    rw [up_up] at hw
    refine zaast hx hb hE hS hw 5 yE_5 40 (yE_p (i := 10) (by decide) (up_same _ _ _)) nf hz9 (by omega) (by omega) dX1_plan_58 (fun H locs hw hS => ?_)
    refine lv_iload hx hb dX1_plan_59 (lv_at hl 1 rfl) ?_
    refine ziret hx hb hr hlocks hS (Nat.le_of_ble_eq_true rfl) (Nat.le_of_ble_eq_true rfl) (by first | decide | (constructor <;> omega)) ?_ dX1_plan_61
    obtain ⟨ad3, ha3, hw3⟩ := yU_new hnf (hn3 hnf) hpr hw
    exact ⟨ad3, nf, q_s47, hz9, hnf, hn2, hn3 hnf, fun k hk hk2 => (ha3 k hk hk2).trans ((ha2 k (by omega) (by omega)).trans (ha1 k hk)), hw3, hsch, hgv⟩
  · exfalso; omega
end
section
/-! ===== the law's world: the yard at the roles 0 to 42, the law's five rows at 43 to 47 ===== -/
def rowN (r : Nat) : Nat := if r = 4 then 3 else 10
def lE (cy : Nat → ClassId) (ad : Nat → Nat) (ya : Nat → Nat → Int) (yi : Nat → Int) (pr : Nat → Option PS) (la : Nat → Nat → Int) : Nat → Option va_E := fun k =>
  if 43 ≤ k then (if k < 48 then some (.inl (cy 0, rowN (k - 43), .inl (fun j => iI (la (k - 43) j)))) else none) else yE cy ad ya yi pr k
/-- what the yard may touch while the law's rows stay -/
def lB (A : Nat → Prop) (ad : Nat → Nat) : Nat → Prop := fun q => A q ∧ ∀ r, r < 5 → q ≠ ad (43 + r)
section LES
variable {D : va_G} {A : Nat → Prop} {cy : Nat → ClassId} {ad ad2 : Nat → Nat} {ya ya2 : Nat → Nat → Int} {yi yi2 : Nat → Int} {pr pq : Nat → Option PS} {la : Nat → Nat → Int} {H H1 : Heap}
theorem lE_r {r : Nat} (hr : r < 5) : lE cy ad ya yi pr la (43 + r) = some (.inl (cy 0, rowN r, .inl (fun j => iI (la r j)))) := by
  unfold lE
  rw [if_pos (by omega), if_pos (by omega), show 43 + r - 43 = r by omega]
theorem lE_hi {k : Nat} (c : 43 ≤ k) : lE cy ad ya yi pr la k = lE cy ad2 ya2 yi2 pq la k := by
  unfold lE
  rw [if_pos c, if_pos c]
theorem lE_lo {k : Nat} (c : k < 43) : lE cy ad ya yi pr la k = yE cy ad ya yi pr k := by
  unfold lE
  rw [if_neg (by omega)]
theorem lE_y (h10 : pr 10 = none) {k : Nat} {v : va_E} (h : yE cy ad ya yi pr k = some v) : lE cy ad ya yi pr la k = some v := by
  have := yE_lt h10 h
  rw [lE_lo (by omega)]
  exact h
theorem lE_at {k : Nat} {v : va_E} (h : lE cy ad ya yi pr la k = some v) (c : 43 ≤ k) : k < 48 := by
  unfold lE at h
  rw [if_pos c] at h
  by_cases c2 : k < 48
  · exact c2
  · rw [if_neg c2] at h
    cases h
theorem zW.lpart (hw : zW D A ad (lE cy ad ya yi pr la) H) (h10 : pr 10 = none) : zW D (lB A ad) ad (yE cy ad ya yi pr) H := by
  refine ⟨fun k v hk => ?_, fun i j v w hi hj hij => hw.2 i j v w (lE_y h10 hi) (lE_y h10 hj) hij⟩
  obtain ⟨a1, a2, a3⟩ := hw.1 k v (lE_y h10 hk)
  refine ⟨a1, a2, a3, fun r hr he => ?_⟩
  have h1 := hw.2 k (43 + r) v _ (lE_y h10 hk) (lE_r hr) he
  have h2 := yE_lt h10 hk
  omega
theorem zW.ljoin (hw : zW D A ad (lE cy ad ya yi pr la) H) (hw1 : zW D (lB A ad) ad2 (yE cy ad2 ya2 yi2 pq) H1) (hk : ∀ q : Nat, q < H.size → ¬ lB A ad q → H1[q]? = H[q]?) (h2 : ∀ r, r < 5 → ad2 (43 + r) = ad (43 + r)) : zW D A ad2 (lE cy ad2 ya2 yi2 pq la) H1 := by
  refine ⟨fun k v hv => ?_, fun i j v w hi hj hij => ?_⟩
  · by_cases c : 43 ≤ k
    · have c2 := lE_at hv c
      rw [lE_hi (ad2 := ad) (ya2 := ya) (yi2 := yi) (pq := pr) c] at hv
      obtain ⟨a1, a2, a3⟩ := hw.1 k v hv
      have e := h2 (k - 43) (by omega)
      rw [show 43 + (k - 43) = k by omega] at e
      rw [e]
      refine ⟨a1, a2.kept (hk _ a2.lt (fun hb => hb.2 (k - 43) (by omega) (by rw [show 43 + (k - 43) = k by omega]))), a3⟩
    · rw [lE_lo (by omega)] at hv
      obtain ⟨a1, a2, a3⟩ := hw1.1 k v hv
      exact ⟨a1, a2, a3.1⟩
  · by_cases ci : 43 ≤ i
    · have ci2 := lE_at hi ci
      have ei := h2 (i - 43) (by omega)
      rw [show 43 + (i - 43) = i by omega] at ei
      rw [lE_hi (ad2 := ad) (ya2 := ya) (yi2 := yi) (pq := pr) ci] at hi
      by_cases cj : 43 ≤ j
      · have cj2 := lE_at hj cj
        have ej := h2 (j - 43) (by omega)
        rw [show 43 + (j - 43) = j by omega] at ej
        rw [lE_hi (ad2 := ad) (ya2 := ya) (yi2 := yi) (pq := pr) cj] at hj
        rw [ei, ej] at hij
        exact hw.2 i j v w hi hj hij
      · rw [lE_lo (by omega)] at hj
        rw [ei] at hij
        exact ((hw1.1 j w hj).2.2.2 (i - 43) (by omega) (by rw [show 43 + (i - 43) = i by omega]; exact hij.symm)).elim
    · rw [lE_lo (by omega)] at hi
      by_cases cj : 43 ≤ j
      · have cj2 := lE_at hj cj
        have ej := h2 (j - 43) (by omega)
        rw [show 43 + (j - 43) = j by omega] at ej
        rw [ej] at hij
        exact ((hw1.1 i v hi).2.2.2 (j - 43) (by omega) (by rw [show 43 + (j - 43) = j by omega]; exact hij)).elim
      · rw [lE_lo (by omega)] at hj
        exact hw1.2 i j v w hi hj hij
theorem zW.adc {e : Nat → Option va_E} (h : zW D A ad2 e H) (ha : ∀ k v, e k = some v → ad k = ad2 k) : zW D A ad e H := by
  refine ⟨fun k v hk => ?_, fun i j v w hi hj hij => ?_⟩
  · rw [ha k v hk]
    exact h.1 k v hk
  · rw [ha i v hi, ha j w hj] at hij
    exact h.2 i j v w hi hj hij
theorem yE_adq (h10 : pr 10 = none) (h : ∀ k, k < 40 → ad2 k = ad k) : yE cy ad2 ya yi pr = yE cy ad ya yi pr := funext fun k => by
  rcases Nat.lt_or_ge k 40 with c | c
  · exact yE_lo h (fun _ _ => rfl) (Or.inl c)
  · cases h1 : yE cy ad2 ya yi pr k with
    | some x => exact absurd (yE_lt h10 h1) (by omega)
    | none =>
      cases h2 : yE cy ad ya yi pr k with
      | some x => exact absurd (yE_lt h10 h2) (by omega)
      | none => rfl
end LES
/-! ===== the law's state: temperatures, the yard's ints, the pours (but for what giving out writes), the law's rows ===== -/
def LW (D : va_G) (cy : Nat → ClassId) (A : Nat → Prop) (ad : Nat → Nat) (T : Nat → Int) (yi : Nat → Int) (pr : Nat → Option PS) (la : Nat → Nat → Int) (H : Heap) : Prop :=
  ∃ (ya : Nat → Nat → Int) (pr2 : Nat → Option PS), zW D A ad (lE cy ad ya yi pr2 la) H ∧ ya 0 = T ∧ gnd T ya ∧ gvR pr pr2 ∧ pr2 10 = none
/-! ===== a contract that touches fewer cells serves where more may be touched ===== -/
section MWI
variable {l : Launch} {y : MethodName} {ws : List Cond} {rm : Room} {D : va_G} {cy : Nat → ClassId} {A B : Nat → Prop} {av : List Value} {H0 : Heap} {mc ms : Nat}
theorem Met.wideI {post post2 : Int → Heap → Prop} (h : Met l y ws rm (zPc D cy B av H0) (zQi post B) mc ms B) (hB : ∀ q, B q → A q) (hp : ∀ z H1, post z H1 → H0.size ≤ H1.size → (∀ q : Nat, q < H0.size → ¬ B q → H1[q]? = H0[q]?) → post2 z H1) : Met l y ws rm (zPc D cy A av H0) (zQi post2 A) mc ms A := by
  refine MetFree.mono h ?_ (fun _ _ _ _ _ h => h) ?_
  · rintro a s ⟨h1, h2, h3⟩
    exact ⟨h1, h2, h3.narrow hB⟩
  · rintro a s o t ⟨-, hH, -⟩ ⟨⟨⟨r, u, ho, ⟨z, hz, hr, hp0⟩, hu⟩, hF1, hF2⟩, L, hL1, hL2⟩
    have hu : t.heap = u := hu
    subst hu
    subst hH
    exact ⟨⟨⟨r, _, ho, ⟨z, hz, hr, hp z _ hp0 hF1 hF2⟩, rfl⟩, hF1, fun q h1 h2 => hF2 q h1 (fun hb => h2 (hB q hb))⟩, L, hL1, fun q hq => hB _ (hL2 q hq)⟩
theorem Met.wideV {post post2 : Heap → Prop} (h : Met l y ws rm (zPc D cy B av H0) (zQv post B) mc ms B) (hB : ∀ q, B q → A q) (hp : ∀ H1, post H1 → H0.size ≤ H1.size → (∀ q : Nat, q < H0.size → ¬ B q → H1[q]? = H0[q]?) → post2 H1) : Met l y ws rm (zPc D cy A av H0) (zQv post2 A) mc ms A := by
  refine MetFree.mono h ?_ (fun _ _ _ _ _ h => h) ?_
  · rintro a s ⟨h1, h2, h3⟩
    exact ⟨h1, h2, h3.narrow hB⟩
  · rintro a s o t ⟨-, hH, -⟩ ⟨⟨⟨u, ho, hp0, hu⟩, hF1, hF2⟩, L, hL1, hL2⟩
    have hu : t.heap = u := hu
    subst hu
    subst hH
    exact ⟨⟨⟨_, ho, hp _ hp0 hF1 hF2, rfl⟩, hF1, fun q h1 h2 => hF2 q h1 (fun hb => h2 (hB q hb))⟩, L, hL1, fun q hq => hB _ (hL2 q hq)⟩
end MWI
/-! ===== the law's rows read and written; the receiver of a call ===== -/
section LRW
variable {p : Program} {l : Launch} {e : Env} {R : Room} {s : State} {m : MethodId} {args : Array Value} {below : List Frame} {meth : Method} {c : Code} {H : Heap} {locs : List Loc} {cells slots : Nat} {Q : State → Prop}
variable {cc : ByteArray} {pc : Nat} {ls : Array Slot} {rest : List Value} {D : va_G} {cy : Nat → ClassId} {A : Nat → Prop} {ad : Nat → Nat} {T : Nat → Int} {yi : Nat → Int} {pr : Nat → Option PS} {la : Nat → Nat → Int}
theorem l_PV {As : List Value} (hE : EN D cy A s s.heap) (hS : va_S A s.heap H locs) (hw : LW D cy A ad T yi pr la H) : PreV s H RX1 (ad 0) (zPc D cy A (.ref (ad 0) :: As) H) As := by
  obtain ⟨ya, pr2, hw, -⟩ := hw
  exact zPV hE hS hw (ci := 1) (k0 := 0) rfl rfl
theorem rowN_s (r : Nat) : rowN r < 2147483648 := by unfold rowN; split <;> omega
theorem l_ald (hx : p.tables.exec = Jvm.exec) (hb : c.code = cc) (hE : EN D cy A s s.heap) (hw : LW D cy A ad T yi pr la H) (r : Nat) (hr : r < 5) {z : Int} (kz : Nat) (hz : z = (kz : Int)) (h1 : kz < rowN r) (hdg : decode cc pc = .ok (.iaload, 1))
    (kk : W p l e R s m args below meth c H locs cells slots Q (F0 m (pc + 1) ls (.int (iI (la r kz)) :: rest))) : W p l e R s m args below meth c H locs cells slots Q (F0 m pc ls (.int (iI z) :: .ref (ad (43 + r)) :: rest)) := by
  obtain ⟨ya, pr2, hw, -⟩ := hw
  exact ziald hx hb hE hw (43 + r) (lE_r hr) kz hz h1 (rowN_s r) hdg kk
theorem l_ast (hx : p.tables.exec = Jvm.exec) (hb : c.code = cc) (hE : EN D cy A s s.heap) (hS : va_S A s.heap H locs) (hw : LW D cy A ad T yi pr la H) (r : Nat) (hr : r < 5) {z x : Int} (kz : Nat) (hz : z = (kz : Int)) (h1 : kz < rowN r) (hdg : decode cc pc = .ok (.iastore, 1))
    (kk : ∀ (H1 : Heap) (locs1 : List Loc), LW D cy A ad T yi pr (va_up la r (va_up (la r) kz x)) H1 → va_S A s.heap H1 locs1 → W p l e R s m args below meth c H1 locs1 cells slots Q (F0 m (pc + 1) ls rest)) : W p l e R s m args below meth c H locs cells slots Q (F0 m pc ls (.int (iI x) :: .int (iI z) :: .ref (ad (43 + r)) :: rest)) := by
  obtain ⟨ya, pr2, hw, hT⟩ := hw
  refine ziast hx hb hE hS hw (43 + r) (lE_r hr) kz hz h1 (rowN_s r) hdg (fun H1 locs1 hw hS => kk H1 locs1 ⟨ya, pr2, hw.cong (fun k => ?_), hT⟩ hS)
  by_cases hk : k = 43 + r
  · subst hk
    rw [up_same, lE_r hr, up_same]
  · rw [up_ne _ _ hk]
    unfold lE
    by_cases c1 : 43 ≤ k
    · rw [if_pos c1, if_pos c1, up_ne _ _ (show k - 43 ≠ r by omega)]
    · rw [if_neg c1, if_neg c1]
end LRW
end
section
/-! ===== what follows of a pour ===== -/
def sc (T : Nat → Int) (yi : Nat → Int) (p : PS) : Prop := p.1 7 = endY yi p ∧ p.1 8 = (if kY T yi p < 1000 then kY T yi p else -1) ∧ p.1 9 = standS (yi 7) (p.1 3) ∧ p.1 10 = min 1000 (freeS (yi 8) (kY T yi p))
theorem sc_R {T : Nat → Int} {yi : Nat → Int} {p q : PS} (h : schR T yi p q) : sc T yi q := by
  obtain ⟨⟨h0, h1, h2, h3, h4⟩, h5, h6, h7, h8, h9, h10⟩ := h
  have e1 : endY yi q = endY yi p := by
    unfold endY
    rw [h3, h0, h6, h4]
  have e2 : kY T yi q = kY T yi p := by
    unfold kY
    rw [h2, e1]
  exact ⟨by rw [e1]; exact h7, by rw [e2]; exact h8, by rw [h3]; exact h9, by rw [e2]; exact h10⟩
theorem sc_5 {T : Nat → Int} {yi : Nat → Int} {v : Int} {p : PS} (h : sc T yi p) : sc T (va_up yi 5 v) p := by
  have e6 : va_up yi 5 v 6 = yi 6 := up_ne _ _ (by decide)
  have e7 : va_up yi 5 v 7 = yi 7 := up_ne _ _ (by decide)
  have e8 : va_up yi 5 v 8 = yi 8 := up_ne _ _ (by decide)
  unfold sc kY endY at h ⊢
  rw [e6, e7, e8]
  exact h
theorem sc_g {T : Nat → Int} {yi : Nat → Int} {p q : PS} (h : sc T yi p) (hg : gv1 p q) : sc T yi q := by
  obtain ⟨k1, k2, k3⟩ := hg
  unfold sc kY endY at h ⊢
  rw [k1 3 (by decide), k1 0 (by decide), k1 2 (by decide), k1 4 (by decide), k3, k1 7 (by decide), k1 8 (by decide), k1 9 (by decide), k1 10 (by decide)]
  exact h
theorem pB_g {p q : PS} (h : pB p) (hg : gv1 p q) : pB q := by
  obtain ⟨k1, k2, k3⟩ := hg
  unfold pB at h ⊢
  rw [k1 3 (by decide), k1 0 (by decide), k1 1 (by decide), k1 2 (by decide), k1 4 (by decide), k2, k3]
  exact h
theorem pB_R {T : Nat → Int} {yi : Nat → Int} {p q : PS} (h : schR T yi p q) (hp : pB p) : pB q := by
  obtain ⟨⟨h0, h1, h2, h3, h4⟩, h5, h6, -⟩ := h
  unfold pB at hp ⊢
  rw [h0, h1, h2, h3, h4, h5, h6]
  exact hp
/-- the yard's pours are worked out -/
def YS (T : Nat → Int) (yi : Nat → Int) (pr : Nat → Option PS) : Prop := tOK T ∧ yB yi ∧ ∀ i p, i < 10 → pr i = some p → pB p ∧ sc T yi p
/-- a pour's panels, strength and start are kept -/
def keep1 (a b : Option PS) : Prop := (a = none ∧ b = none) ∨ ∃ p q, a = some p ∧ b = some q ∧ q.1 1 = p.1 1 ∧ q.1 2 = p.1 2 ∧ q.1 3 = p.1 3
section YSS
variable {T : Nat → Int} {yi : Nat → Int} {pr pr2 : Nat → Option PS}
theorem YS.gv (h : YS T yi pr) (hg : gvR pr pr2) : YS T yi pr2 := ⟨h.1, h.2.1, fun i p hi hp => by
  obtain ⟨p0, hp0, hk⟩ := gvR_p hg hi hp
  obtain ⟨a, b⟩ := h.2.2 i p0 hi hp0
  exact ⟨pB_g a hk, sc_g b hk⟩⟩
theorem ys_p (h : YS T yi pr) {i : Nat} {p : PS} (hi : i < 10) (hp : pr i = some p) : (0 ≤ p.1 7 ∧ p.1 7 ≤ 1185) ∧ (-1 ≤ p.1 8 ∧ p.1 8 ≤ 999) ∧ p.1 9 = standS (yi 7) (p.1 3) ∧ (0 ≤ p.1 9 ∧ p.1 9 ≤ 900) ∧ (0 ≤ p.1 10 ∧ p.1 10 ≤ 1000) ∧ (1 ≤ p.1 1 ∧ p.1 1 ≤ 30) ∧ (1 ≤ p.1 2 ∧ p.1 2 ≤ 100) ∧ (0 ≤ p.1 3 ∧ p.1 3 ≤ 900) ∧ (p.1 8 < 0 → p.1 8 = -1 ∧ p.1 10 = 1000 ∧ (999 < p.1 7 ∨ strg (mat T (p.1 7) 999) < p.1 2)) ∧ (0 ≤ p.1 8 → p.1 7 < p.1 8 ∧ p.1 2 ≤ strg (mat T (p.1 7) (p.1 8)) ∧ strg (mat T (p.1 7) (p.1 8 - 1)) < p.1 2 ∧ p.1 10 = min 1000 (p.1 8 + yi 8)) := by
  obtain ⟨ht, hg, ha⟩ := h
  obtain ⟨hb, s7, s8, s9, s10⟩ := ha i p hi hp
  obtain ⟨-, -, -, -, e0, e1⟩ := endY_b hg hb
  have hkY : kY T yi p = strikeS T (p.1 2) (endY yi p) := rfl
  rw [hkY] at s8 s10
  rw [← s7] at s8 s10 e0 e1
  obtain ⟨b1, b2, b3, b4⟩ := strikeS_b T (p.1 2) (p.1 7)
  obtain ⟨q1, q2, q3, q4, q5, q6⟩ := hb
  obtain ⟨g1, g2, g3, g4⟩ := hg
  have hst : 0 ≤ p.1 9 ∧ p.1 9 ≤ 900 := by rw [s9]; unfold standS; split <;> omega
  have hz : strg (mat T (p.1 7) (p.1 7)) = 0 := by rw [mat_0]; decide
  generalize strikeS T (p.1 2) (p.1 7) = k at *
  unfold freeS at s10
  by_cases hk : k < 1000
  · rw [if_pos hk] at s8 s10
    have hne : k ≠ p.1 7 := fun he => by
      have := b3 hk
      rw [he, hz] at this
      omega
    have hlt : p.1 7 < k := by omega
    have h4 := b4 (k - 1) (by omega) (by omega)
    have h3 := b3 hk
    rw [s8]
    exact ⟨⟨e0, e1⟩, ⟨by omega, by omega⟩, s9, hst, ⟨by omega, by omega⟩, q3, q4, q1, fun hn => absurd hn (by omega), fun _ => ⟨hlt, h3, h4, s10⟩⟩
  · rw [if_neg hk] at s8 s10
    rw [s8]
    refine ⟨⟨e0, e1⟩, ⟨by omega, by omega⟩, s9, hst, ⟨by omega, by omega⟩, q3, q4, q1, fun _ => ⟨rfl, by omega, ?_⟩, fun hn => absurd hn (by omega)⟩
    by_cases h9 : 999 < p.1 7
    · exact Or.inl h9
    · exact Or.inr (b4 999 (by omega) (by omega))
theorem YS.b9 (h : YS T yi pr) : ∀ i p, i < 10 → pr i = some p → (0 ≤ p.1 9 ∧ p.1 9 ≤ 900) ∧ (0 ≤ p.1 10 ∧ p.1 10 ≤ 1000) ∧ 1 ≤ p.1 1 ∧ p.1 1 ≤ 30 := fun i p hi hp => by
  obtain ⟨-, -, -, h9, h10, h1, -⟩ := ys_p h hi hp
  exact ⟨h9, h10, h1⟩
theorem YS.pA (h : YS T yi pr) : pA pr := fun i p hi hp => by
  obtain ⟨h9, h10, -⟩ := h.b9 i p hi hp
  exact ⟨(h.2.2 i p hi hp).1, by omega, h10⟩
theorem YS.pBs (h : YS T yi pr) : ∀ j p, j < 10 → pr j = some p → pB p := fun j p hj hp => (h.2.2 j p hj hp).1
/-! ===== what is asked is the same when panels have been given out ===== -/
theorem nY_gv (hg : gvR pr pr2) {t : Int} : ∀ n, n ≤ 10 → nY pr2 t n = nY pr t n
  | 0, _ => rfl
  | n + 1, hn => by
    have ih := nY_gv hg (t := t) n (by omega)
    rcases hg n (by omega) with ⟨a, b⟩ | ⟨p, q, a, b, k, -⟩
    · rw [nY_n a, nY_n b, ih]
    · rw [nY_s a, nY_s b, ih, k 9 (by decide), k 10 (by decide), k 1 (by decide)]
theorem ovY_gv (hg : gvR pr pr2) : ∀ n, n ≤ 10 → ovY pr2 n = ovY pr n
  | 0, _ => rfl
  | n + 1, hn => by
    have ih := ovY_gv hg n (by omega)
    rcases hg n (by omega) with ⟨a, b⟩ | ⟨p, q, a, b, k, -⟩
    · rw [ovY_n a, ovY_n b, ih]
    · rw [ovY_s a, ovY_s b, ih, k 9 (by decide), nY_gv hg 10 (Nat.le_refl _)]
theorem cntY_gv (hg : gvR pr pr2) : ∀ n, n ≤ 10 → cntY pr2 n = cntY pr n
  | 0, _ => rfl
  | n + 1, hn => by
    have ih := cntY_gv hg n (by omega)
    rcases hg n (by omega) with ⟨a, b⟩ | ⟨p, q, a, b, -⟩
    · rw [cntY_n a, cntY_n b, ih]
    · rw [cntY_s a, cntY_s b, ih]
theorem FK_c {th th2 : Nat → Bool} {st st2 : Nat → Int} {by1 by2 : Nat → Int → Bool} {nd nd2 : Nat → Int} {n : Int} (h1 : ∀ q, q < 10 → th q = th2 q) (h2 : ∀ q, q < 10 → th q = true → st q = st2 q ∧ nd q = nd2 q) (h3 : ∀ q, q < 10 → ∀ t : Int, by1 q t = by2 q t) : ∀ K, FK th st by1 nd n K = FK th2 st2 by2 nd2 n K
  | 0 => rfl
  | K + 1 => by
    have ih := FK_c (n := n) h1 h2 h3 K
    have hq : K % 10 < 10 := Nat.mod_lt _ (by omega)
    by_cases c : th (K % 10) = true ∧ st (K % 10) = ((K / 10 : Nat) : Int)
    · obtain ⟨e1, e2⟩ := h2 _ hq c.1
      have c2 : th2 (K % 10) = true ∧ st2 (K % 10) = ((K / 10 : Nat) : Int) := ⟨by rw [← h1 _ hq]; exact c.1, by rw [← e1]; exact c.2⟩
      rw [FK_yes c, FK_yes c2, ih]
      funext q k
      unfold sv
      by_cases cq : q = K % 10
      · rw [if_pos cq, if_pos cq, e2]
        have e3 : (fun k => tkn by1 (FK th2 st2 by2 nd2 n K) ((K / 10 : Nat) : Int) k 10) = fun k => tkn by2 (FK th2 st2 by2 nd2 n K) ((K / 10 : Nat) : Int) k 10 := funext fun k => tkn_c 10 (fun q hq => h3 q hq _)
        rw [e3]
      · rw [if_neg cq, if_neg cq]
    · have c2 : ¬ (th2 (K % 10) = true ∧ st2 (K % 10) = ((K / 10 : Nat) : Int)) := fun d => by
        have d1 : th (K % 10) = true := by rw [h1 _ hq]; exact d.1
        exact c ⟨d1, by rw [(h2 _ hq d1).1]; exact d.2⟩
      rw [FK_no c, FK_no c2, ih]
theorem FY_gv (hg : gvR pr pr2) {n : Int} : FY pr2 n 10000 = FY pr n 10000 := by
  unfold FY
  refine FK_c (fun q hq => ?_) (fun q hq c => ?_) (fun q hq t => gvR_bs hg hq t) 10000
  · rcases hg q hq with ⟨a, b⟩ | ⟨p, r, a, b, -⟩
    · rw [thY_0 a, thY_0 b]
    · rw [thY_1 a, thY_1 b]
  · rcases hg q hq with ⟨a, b⟩ | ⟨p, r, a, b, k, -⟩
    · rw [thY_0 b] at c; cases c
    · rw [fdY_1 a, fdY_1 b, fdY_1 a, fdY_1 b, k 9 (by decide), k 1 (by decide)]
      exact ⟨rfl, rfl⟩
theorem gvR_t {pr3 : Nat → Option PS} (h1 : gvR pr pr2) (h2 : gvR pr2 pr3) : gvR pr pr3 := fun i hi => by
  rcases h1 i hi with ⟨a, b⟩ | ⟨p, q, a, b, k⟩
  · rcases h2 i hi with ⟨a2, b2⟩ | ⟨p2, q2, a2, b2, k2⟩
    · exact Or.inl ⟨a, b2⟩
    · rw [b] at a2; cases a2
  · rcases h2 i hi with ⟨a2, b2⟩ | ⟨p2, q2, a2, b2, k2⟩
    · rw [b] at a2; cases a2
    · rw [b] at a2
      cases a2
      exact Or.inr ⟨p, q2, a, b2, gv1_t k k2⟩
end YSS
/-! ===== the greatest need, found both ways ===== -/
theorem mx_at {f : Nat → Int} : ∀ {n k : Nat}, k < n → f k ≤ mx f n
  | 0, k, h => absurd h (Nat.not_lt_zero k)
  | n + 1, k, h => by
    simp only [mx]
    by_cases c : k = n
    · subst c; omega
    · have := mx_at (f := f) (n := n) (k := k) (by omega)
      omega
theorem mx_le {f : Nat → Int} {b : Int} (hb : 0 ≤ b) : ∀ {n : Nat}, (∀ k, k < n → f k ≤ b) → mx f n ≤ b
  | 0, _ => by simp only [mx]; exact hb
  | n + 1, h => by
    simp only [mx]
    have h1 := mx_le hb (n := n) (fun k hk => h k (by omega))
    have h2 := h n (by omega)
    omega
theorem mx_0 {f : Nat → Int} : ∀ n, 0 ≤ mx f n
  | 0 => by simp [mx]
  | n + 1 => by
    simp only [mx]
    have := mx_0 (f := f) n
    omega
/-- of the pours busy in an hour one begins to stand last -/
theorem last_busy {pr : Nat → Option PS} (t : Int) : ∀ n, (∀ i p, i < n → pr i = some p → ¬ (p.1 9 ≤ t ∧ t < p.1 10)) ∨ ∃ i p, i < n ∧ pr i = some p ∧ (p.1 9 ≤ t ∧ t < p.1 10) ∧ ∀ k q, k < n → pr k = some q → (q.1 9 ≤ t ∧ t < q.1 10) → q.1 9 ≤ p.1 9
  | 0 => Or.inl (fun i _ h => absurd h (Nat.not_lt_zero i))
  | n + 1 => by
    have ih := last_busy (pr := pr) t n
    have key : ∀ i, i < n + 1 → i = n ∨ i < n := fun i hi => by omega
    cases hn : pr n with
    | none =>
      rcases ih with c | ⟨i, p, hi, hp, hb, hm⟩
      · refine Or.inl (fun i p hi hp => ?_)
        rcases key i hi with e | e
        · rw [e, hn] at hp; cases hp
        · exact c i p e hp
      · refine Or.inr ⟨i, p, by omega, hp, hb, fun k q hk hq hqb => ?_⟩
        rcases key k hk with e | e
        · rw [e, hn] at hq; cases hq
        · exact hm k q e hq hqb
    | some r =>
      by_cases hr : r.1 9 ≤ t ∧ t < r.1 10
      · rcases ih with c | ⟨i, p, hi, hp, hb, hm⟩
        · refine Or.inr ⟨n, r, by omega, hn, hr, fun k q hk hq hqb => ?_⟩
          rcases key k hk with e | e
          · rw [e, hn] at hq; cases hq; exact Int.le_refl _
          · exact absurd hqb (c k q e hq)
        · by_cases hle : p.1 9 ≤ r.1 9
          · refine Or.inr ⟨n, r, by omega, hn, hr, fun k q hk hq hqb => ?_⟩
            rcases key k hk with e | e
            · rw [e, hn] at hq; cases hq; exact Int.le_refl _
            · have := hm k q e hq hqb
              omega
          · refine Or.inr ⟨i, p, by omega, hp, hb, fun k q hk hq hqb => ?_⟩
            rcases key k hk with e | e
            · rw [e, hn] at hq; cases hq; omega
            · exact hm k q e hq hqb
      · rcases ih with c | ⟨i, p, hi, hp, hb, hm⟩
        · refine Or.inl (fun i p hi hp => ?_)
          rcases key i hi with e | e
          · rw [e, hn] at hp; cases hp; exact hr
          · exact c i p e hp
        · refine Or.inr ⟨i, p, by omega, hp, hb, fun k q hk hq hqb => ?_⟩
          rcases key k hk with e | e
          · rw [e, hn] at hq; cases hq; exact absurd hqb hr
          · exact hm k q e hq hqb
theorem nY_z {pr : Nat → Option PS} {t : Int} : ∀ n, (∀ i p, i < n → pr i = some p → ¬ (p.1 9 ≤ t ∧ t < p.1 10)) → nY pr t n = 0
  | 0, _ => rfl
  | n + 1, h => by
    have ih := nY_z (pr := pr) (t := t) n (fun i p hi => h i p (by omega))
    cases hn : pr n with
    | none => rw [nY_n hn, ih]
    | some p => rw [nY_s hn, ih, if_neg (h n p (by omega) hn)]; rfl
theorem nY_m {pr : Nat → Option PS} {t u : Int} : ∀ n, (∀ i p, i < n → pr i = some p → 0 ≤ p.1 1 ∧ ((p.1 9 ≤ t ∧ t < p.1 10) → (p.1 9 ≤ u ∧ u < p.1 10))) → nY pr t n ≤ nY pr u n
  | 0, _ => Int.le_refl _
  | n + 1, h => by
    have ih := nY_m (pr := pr) (t := t) (u := u) n (fun i p hi => h i p (by omega))
    cases hn : pr n with
    | none => rw [nY_n hn, nY_n hn]; exact ih
    | some p =>
      obtain ⟨h0, h1⟩ := h n p (by omega) hn
      rw [nY_s hn, nY_s hn]
      by_cases c : p.1 9 ≤ t ∧ t < p.1 10
      · rw [if_pos c, if_pos (h1 c)]; omega
      · rw [if_neg c]
        split <;> omega
theorem ovY_at {pr : Nat → Option PS} : ∀ {n i : Nat} {p : PS}, i < n → pr i = some p → nY pr (p.1 9) 10 ≤ ovY pr n
  | 0, i, _, h, _ => absurd h (Nat.not_lt_zero i)
  | n + 1, i, p, h, hp => by
    by_cases c : i = n
    · subst c
      rw [ovY_s hp]
      omega
    · have ih := ovY_at (pr := pr) (n := n) (i := i) (p := p) (by omega) hp
      cases hn : pr n with
      | none => rw [ovY_n hn]; exact ih
      | some r => rw [ovY_s hn]; omega
theorem ovY_le {pr : Nat → Option PS} {b : Int} (hb : 0 ≤ b) : ∀ {n : Nat}, (∀ i p, i < n → pr i = some p → nY pr (p.1 9) 10 ≤ b) → ovY pr n ≤ b
  | 0, _ => by simp only [ovY]; exact hb
  | n + 1, h => by
    have ih := ovY_le hb (n := n) (fun i p hi => h i p (by omega))
    cases hn : pr n with
    | none => rw [ovY_n hn]; exact ih
    | some r =>
      rw [ovY_s hn]
      have := h n r (by omega) hn
      omega
theorem YS.ov {T : Nat → Int} {yi : Nat → Int} {pr : Nat → Option PS} (h : YS T yi pr) : ovY pr 10 = mx (fun j : Nat => nY pr j 10) 1000 := by
  have hA := h.pA
  refine Int.le_antisymm (ovY_le (mx_0 _) (fun i p hi hp => ?_)) (mx_le (ovY_b hA 10).1 (fun k hk => ?_))
  · obtain ⟨h9, -⟩ := h.b9 i p hi hp
    have := mx_at (f := fun j : Nat => nY pr j 10) (n := 1000) (k := (p.1 9).toNat) (by omega)
    rw [show ((p.1 9).toNat : Int) = p.1 9 by omega] at this
    exact this
  · show nY pr (k : Int) 10 ≤ ovY pr 10
    rcases last_busy (pr := pr) (k : Int) 10 with c | ⟨i, p, hi, hp, hb, hm⟩
    · rw [nY_z 10 c]
      exact (ovY_b hA 10).1
    · refine Int.le_trans (nY_m (u := p.1 9) 10 (fun j q hj hq => ?_)) (ovY_at hi hp)
      have h1 := (hA j q hj hq).1.2.2.1
      exact ⟨by omega, fun hc => ⟨hm j q hj hq hc, by omega⟩⟩
/-- the first hour that is short, beside the greatest need -/
def fsY (pr : Nat → Option PS) (n : Int) : Int := if fnd (fun h => n < nY pr h 10) 0 1000 < 1000 then fnd (fun h => n < nY pr h 10) 0 1000 else -1
theorem fsY_b (pr : Nat → Option PS) (n : Int) : -1 ≤ fsY pr n ∧ fsY pr n < 1000 := by
  obtain ⟨h1, -, -, -⟩ := fnd_b (fun h => n < nY pr h 10) 1000 0
  unfold fsY
  split <;> omega
theorem fsY_at {pr : Nat → Option PS} {n t : Int} (h0 : 0 ≤ t) (h1 : t < 1000) (h : n < nY pr t 10) : 0 ≤ fsY pr n ∧ fsY pr n ≤ t := by
  obtain ⟨a1, a2, a3, a4⟩ := fnd_b (fun h => n < nY pr h 10) 1000 0
  have hle : fnd (fun h => n < nY pr h 10) 0 1000 ≤ t := by
    rcases Int.lt_or_le t (fnd (fun h => n < nY pr h 10) 0 1000) with c | c
    · exact absurd h (a4 t h0 c)
    · exact c
  unfold fsY
  rw [if_pos (by omega)]
  exact ⟨a1, hle⟩
theorem fsY_pk {pr : Nat → Option PS} {n : Int} (hn : 0 ≤ n) : mx (fun j : Nat => nY pr j 10) 1000 ≤ n ↔ fsY pr n < 0 := by
  obtain ⟨a1, a2, a3, a4⟩ := fnd_b (fun h => n < nY pr h 10) 1000 0
  constructor
  · intro h
    unfold fsY
    split
    · rename_i c
      exfalso
      have h3 := a3 (by omega)
      have h4 := mx_at (f := fun j : Nat => nY pr j 10) (n := 1000) (k := (fnd (fun h => n < nY pr h 10) 0 1000).toNat) (by omega)
      (try dsimp only at h4)
      rw [show ((fnd (fun h => n < nY pr h 10) 0 1000).toNat : Int) = fnd (fun h => n < nY pr h 10) 0 1000 by omega] at h4
      omega
    · omega
  · intro h
    refine mx_le hn (fun k hk => ?_)
    rcases Int.lt_or_le n (nY pr (k : Int) 10) with c | c
    · have := fsY_at (pr := pr) (n := n) (t := (k : Int)) (by omega) (by omega) c
      omega
    · exact c
/-! ===== panels that are given, counted by pours and by panels ===== -/
theorem lo_cnt {bz : Nat → Bool} {nd n : Int} : ∀ m, sl (fun j => bI (lo bz nd n j)) m ≤ lc bz nd m
  | 0 => Int.le_refl _
  | m + 1 => by
    have ih := lo_cnt (bz := bz) (nd := nd) (n := n) m
    simp only [sl, lc]
    cases hl : lo bz nd n m with
    | false =>
      have : bI false = 0 := rfl
      split <;> omega
    | true =>
      unfold lo at hl
      rw [decide_eq_true_eq] at hl
      rw [if_pos ⟨hl.2.1, hl.2.2⟩]
      have : bI true = 1 := rfl
      omega
section FKT
variable {th : Nat → Bool} {st : Nat → Int} {bsy : Nat → Int → Bool} {nd : Nat → Int} {n : Int}
theorem FK_form : ∀ K q, (∀ k, FK th st bsy nd n K q k = false) ∨ ∃ bz : Nat → Bool, ∀ k, FK th st bsy nd n K q k = lo bz (nd q) n k
  | 0, q => Or.inl (fun _ => rfl)
  | K + 1, q => by
    by_cases c : th (K % 10) = true ∧ st (K % 10) = ((K / 10 : Nat) : Int)
    · rw [FK_yes c]
      unfold sv
      by_cases cq : q = K % 10
      · refine Or.inr ⟨_, fun k => by rw [if_pos cq, cq]⟩
      · rcases FK_form K q with h | ⟨bz, h⟩
        · exact Or.inl (fun k => by rw [if_neg cq]; exact h k)
        · exact Or.inr ⟨bz, fun k => by rw [if_neg cq]; exact h k⟩
    · rw [FK_no c]
      exact FK_form K q
theorem FK_lt {K q k : Nat} (h : FK th st bsy nd n K q k = true) : (k : Int) < n := by
  rcases FK_form (th := th) (st := st) (bsy := bsy) (nd := nd) (n := n) K q with c | ⟨bz, c⟩
  · rw [c k] at h; cases h
  · rw [c k] at h
    unfold lo at h
    rw [decide_eq_true_eq] at h
    exact h.1
theorem FK_cnt {q : Nat} (h0 : 0 ≤ nd q) (K m : Nat) : 0 ≤ sl (fun j => bI (FK th st bsy nd n K q j)) m ∧ sl (fun j => bI (FK th st bsy nd n K q j)) m ≤ nd q := by
  have hb := sl_b (f := fun j => bI (FK th st bsy nd n K q j)) (a := 0) (b := 1) (n := m) (fun k _ => by
    (try dsimp only)
    rcases bI_b (FK th st bsy nd n K q k) with ⟨h, -⟩ | ⟨h, -⟩ <;> omega)
  refine ⟨by omega, ?_⟩
  rcases FK_form (th := th) (st := st) (bsy := bsy) (nd := nd) (n := n) K q with c | ⟨bz, c⟩
  · have e : sl (fun j => bI (FK th st bsy nd n K q j)) m = sl (fun _ => 0) m := sl_c (fun k _ => by rw [c k]; rfl)
    have hz := sl_b (f := fun _ => 0) (a := 0) (b := 0) (n := m) (fun _ _ => by omega)
    rw [e]
    omega
  · have e : sl (fun j => bI (FK th st bsy nd n K q j)) m = sl (fun j => bI (lo bz (nd q) n j)) m := sl_c (fun k _ => by rw [c k])
    rw [e]
    exact Int.le_trans (lo_cnt m) (lc_b h0 m).2.2
end FKT
theorem sl_add {f g : Nat → Int} : ∀ n, sl (fun k => f k + g k) n = sl f n + sl g n
  | 0 => rfl
  | n + 1 => by
    simp only [sl]
    rw [sl_add n]
    omega
theorem sl_z : ∀ n, sl (fun _ => 0) n = 0
  | 0 => rfl
  | n + 1 => by
    simp only [sl]
    rw [sl_z n]
    rfl
theorem sl_cut {f : Nat → Int} (n : Nat) : ∀ d, (∀ k, n ≤ k → f k = 0) → sl f (n + d) = sl f n
  | 0, _ => rfl
  | d + 1, h => by
    show sl f (n + d) + f (n + d) = _
    rw [sl_cut n d h, h (n + d) (by omega)]
    omega
/-- panels given to the pours below i that are busy in the hour -/
def gS (pr : Nat → Option PS) (n h : Int) : Nat → Int
  | 0 => 0
  | i + 1 => gS pr n h i + (if bsY pr i h = true then sl (fun j => bI (FY pr n 10000 i j)) 60 else 0)
section GSS
variable {pr : Nat → Option PS} {n h : Int}
theorem tk_one {k q : Nat} (hq : q < 10) : bI (tkn (bsY pr) (FY pr n 10000) h k (q + 1)) = bI (tkn (bsY pr) (FY pr n 10000) h k q) + bI (FY pr n 10000 q k && bsY pr q h) := by
  have hb : ∀ q h, bsY pr q h = true → fdY pr 9 q ≤ h := fun q h c => (of_decide_eq_true c).2.1
  have hb2 : ∀ q h h2, bsY pr q h = true → fdY pr 9 q ≤ h2 → h2 ≤ h → bsY pr q h2 = true := fun q t u c c1 c2 => by
    have c3 := of_decide_eq_true c
    exact decide_eq_true ⟨c3.1, c1, by omega⟩
  simp only [tkn]
  cases hx : (FY pr n 10000 q k && bsY pr q h) with
  | false => rw [Bool.or_false]; exact (Int.add_zero _).symm
  | true =>
    have hf : tkn (bsY pr) (FY pr n 10000) h k q = false := by
      cases ht : tkn (bsY pr) (FY pr n 10000) h k q with
      | false => rfl
      | true =>
        exfalso
        obtain ⟨a, ha, h1, h2⟩ := (tkn_iff q).mp ht
        rw [Bool.and_eq_true] at hx
        have := FK_one (th := thY pr) (st := fdY pr 9) (bsy := bsY pr) (nd := fdY pr 1) (n := n) hb hb2 10000 a q k h h1 hx.1 h2 hx.2
        omega
    rw [hf]
    rfl
theorem gS_eq : ∀ q, q ≤ 10 → sl (fun k => bI (tkn (bsY pr) (FY pr n 10000) h k q)) 60 = gS pr n h q
  | 0, _ => by
    have e : sl (fun k => bI (tkn (bsY pr) (FY pr n 10000) h k 0)) 60 = sl (fun _ => 0) 60 := sl_c (fun _ _ => rfl)
    rw [e, sl_z]
    rfl
  | q + 1, hq => by
    have ih := gS_eq q (by omega)
    have e : sl (fun k => bI (tkn (bsY pr) (FY pr n 10000) h k (q + 1))) 60 = sl (fun k => bI (tkn (bsY pr) (FY pr n 10000) h k q) + bI (FY pr n 10000 q k && bsY pr q h)) 60 := sl_c (fun k _ => tk_one (by omega))
    rw [e, sl_add, ih]
    simp only [gS]
    congr 1
    by_cases c : bsY pr q h = true
    · rw [if_pos c]
      exact sl_c (fun k _ => by rw [c, Bool.and_true])
    · rw [if_neg c]
      have c2 : bsY pr q h = false := by
        cases hx : bsY pr q h with
        | false => rfl
        | true => exact absurd hx c
      have e2 : sl (fun k => bI (FY pr n 10000 q k && bsY pr q h)) 60 = sl (fun _ => 0) 60 := sl_c (fun k _ => by rw [c2, Bool.and_false]; rfl)
      rw [e2, sl_z]
theorem busy_eq (h0 : 0 ≤ n) (h1 : n ≤ 60) : sl (fun k => bI (tkn (bsY pr) (FY pr n 10000) h k 10)) n.toNat = gS pr n h 10 := by
  rw [← gS_eq 10 (Nat.le_refl _)]
  have e := sl_cut (f := fun k => bI (tkn (bsY pr) (FY pr n 10000) h k 10)) n.toNat (60 - n.toNat) (fun k hk => by
    have hf : tkn (bsY pr) (FY pr n 10000) h k 10 = false := by
      cases ht : tkn (bsY pr) (FY pr n 10000) h k 10 with
      | false => rfl
      | true =>
        exfalso
        obtain ⟨a, ha, c1, c2⟩ := (tkn_iff 10).mp ht
        have := FK_lt c1
        omega
    (try dsimp only)
    rw [hf]
    rfl)
  rw [show n.toNat + (60 - n.toNat) = 60 by omega] at e
  exact e.symm
theorem FY_cnt {T : Nat → Int} {yi : Nat → Int} (hY : YS T yi pr) {i : Nat} {p : PS} (hi : i < 10) (hp : pr i = some p) : 0 ≤ sl (fun j => bI (FY pr n 10000 i j)) 60 ∧ sl (fun j => bI (FY pr n 10000 i j)) 60 ≤ p.1 1 := by
  have h1 := (hY.b9 i p hi hp).2.2
  have h2 := FK_cnt (th := thY pr) (st := fdY pr 9) (bsy := bsY pr) (nd := fdY pr 1) (n := n) (q := i) (by rw [fdY_1 hp]; omega) 10000 60
  rw [fdY_1 hp] at h2
  exact h2
theorem gS_le {T : Nat → Int} {yi : Nat → Int} (hY : YS T yi pr) : ∀ i, i ≤ 10 → 0 ≤ gS pr n h i ∧ gS pr n h i ≤ nY pr h i
  | 0, _ => by simp [gS, nY]
  | i + 1, hi => by
    have ih := gS_le hY i (by omega)
    simp only [gS]
    cases hp : pr i with
    | none => rw [nY_n hp, bsY_0 hp, if_neg (by decide)]; omega
    | some p =>
      have h1 := FY_cnt (n := n) hY (by omega) hp
      have h2 := (hY.b9 i p (by omega) hp).2.2
      rw [nY_s hp]
      by_cases c : p.1 9 ≤ h ∧ h < p.1 10
      · rw [if_pos c, if_pos ((bsY_1 hp).mpr c)]; omega
      · rw [if_neg c, if_neg (fun d => c ((bsY_1 hp).mp d))]; omega
end GSS
end
section
/-! ===== a change keeps the rest ===== -/
theorem zW.drop {D : va_G} {A : Nat → Prop} {cy : Nat → ClassId} {ad : Nat → Nat} {ya : Nat → Nat → Int} {yi : Nat → Int} {pr : Nat → Option PS} {H : Heap} (h : zW D A ad (yE cy ad ya yi pr) H) : zW D A ad (yE cy ad ya yi (va_up pr 10 none)) H := by
  refine h.sub (fun k v hk => ?_)
  have hl := yE_lt (up_same _ _ _) hk
  rw [yE_lo (ad2 := ad) (pr := pr) (fun _ _ => rfl) (fun i hi => up_ne _ _ (by omega)) (Or.inl hl)] at hk
  exact hk
section CHG
variable {T T2 : Nat → Int} {yi yi2 : Nat → Int} {pr pr2 pq : Nat → Option PS}
theorem gvR_d (h : gvR pr pr2) : gvR pr (va_up pr2 10 none) := fun i hi => by
  rw [up_ne _ _ (show i ≠ 10 by omega)]
  exact h i hi
theorem gv_keep (h : gvR pr pr2) {i : Nat} (hi : i < 10) : keep1 (pr i) (pr2 i) := by
  rcases h i hi with c | ⟨p, q, a, b, k, -⟩
  · exact Or.inl c
  · exact Or.inr ⟨p, q, a, b, k 1 (by decide), k 2 (by decide), k 3 (by decide)⟩
theorem ys_5 (h : YS T yi pr) {v : Int} (hv : 0 ≤ v ∧ v ≤ 60) : YS T (va_up yi 5 v) pr := by
  obtain ⟨h1, h2, h3⟩ := h
  refine ⟨h1, ?_, fun i p hi hp => ⟨(h3 i p hi hp).1, sc_5 (h3 i p hi hp).2⟩⟩
  unfold yB at h2 ⊢
  rw [up_same, up_ne _ _ (by decide), up_ne _ _ (by decide), up_ne _ _ (by decide)]
  exact ⟨hv, h2.2⟩
theorem ys_put (h : YS T yi pr) {n : Nat} {q : PS} (hb : pB q) (hs : sc T yi q) : YS T yi (va_up pr n (some q)) := ⟨h.1, h.2.1, fun j p hj hp => by
  by_cases c : j = n
  · rw [c, up_same] at hp
    cases hp
    exact ⟨hb, hs⟩
  · rw [up_ne _ _ c] at hp
    exact h.2.2 j p hj hp⟩
theorem sch_YS (h : YS T yi pr) (hg : gvR pr pr2) (ht : tOK T2) (hy : yB yi2) (hs : schA T2 yi2 pr2 pq 10) : YS T2 yi2 (va_up pq 10 none) := ⟨ht, hy, fun j q hj hq => by
  rw [up_ne _ _ (show j ≠ 10 by omega)] at hq
  cases hp : pr2 j with
  | none => rw [(hs j hj).1 hp] at hq; cases hq
  | some p =>
    obtain ⟨q2, hq2, hd⟩ := (hs j hj).2 p hp
    rw [hq] at hq2
    cases hq2
    rcases hd with ⟨-, hr⟩ | ⟨hc, -⟩
    · exact ⟨pB_R hr ((h.gv hg).pBs j p hj hp), sc_R hr⟩
    · omega⟩
theorem sch_keep (hg : gvR pr pr2) (hs : schA T2 yi2 pr2 pq 10) : ∀ j, j < 10 → keep1 (pr j) (va_up pq 10 none j) := fun j hj => by
  rw [up_ne _ _ (show j ≠ 10 by omega)]
  rcases hg j hj with ⟨a, b⟩ | ⟨p, p2, a, b, k, -⟩
  · exact Or.inl ⟨a, (hs j hj).1 b⟩
  · obtain ⟨q2, hq2, hd⟩ := (hs j hj).2 p2 b
    rcases hd with ⟨-, hr⟩ | ⟨hc, -⟩
    · obtain ⟨⟨-, h1, h2, h3, -⟩, -⟩ := hr
      exact Or.inr ⟨p, q2, a, hq2, h1.trans (k 1 (by decide)), h2.trans (k 2 (by decide)), h3.trans (k 3 (by decide))⟩
    · omega
end CHG
/-! ===== the calls of the yard in the law's world ===== -/
theorem c_Q_endOf (l : Launch) (D : va_G) (cy : Nat → ClassId) (A : Nat → Prop) (ad : Nat → Nat) (T : Nat → Int) (yi : Nat → Int) (pr : Nat → Option PS) (la : Nat → Nat → Int) (H0 : Heap) (i : Nat) (p0 : PS) (hw : LW D cy A ad T yi pr la H0) (hys : YS T yi pr) (hi : i < 10) (hp0 : pr i = some p0) : Met l yX1_endOf wsX1_endOf ({ frames := 2, cells := 0, slots := 0, locals := 42 }) (zPc D cy A [.ref (ad 0), .int (iI ((i : Int)))] H0) (zQi (fun z H1 => LW D cy A ad T yi pr la H1 ∧ z = p0.1 7) A) 0 0 A := by
  obtain ⟨ya, pr2, hz, hT, hG, hg, h10⟩ := id hw
  obtain ⟨p2, hp2, k1, k2, k3⟩ := gvR_q hg hi hp0
  obtain ⟨f7, f8, f9, f9b, f10, -⟩ := ys_p hys hi hp0
  refine (c_X1_endOf_ok l D cy (lB A ad) ad ya yi pr2 H0 i p2 (hz.lpart h10) hi hp2 (by rw [k1 7 (by decide)]; constructor <;> omega)).wideI (fun q h => h.1) (fun z H1 hq hs1 hk1 => ?_)
  obtain ⟨rfl, rfl⟩ := hq
  exact ⟨hw, k1 7 (by decide)⟩
theorem c_Q_struck (l : Launch) (D : va_G) (cy : Nat → ClassId) (A : Nat → Prop) (ad : Nat → Nat) (T : Nat → Int) (yi : Nat → Int) (pr : Nat → Option PS) (la : Nat → Nat → Int) (H0 : Heap) (i : Nat) (p0 : PS) (hw : LW D cy A ad T yi pr la H0) (hys : YS T yi pr) (hi : i < 10) (hp0 : pr i = some p0) : Met l yX1_struck wsX1_struck ({ frames := 2, cells := 0, slots := 0, locals := 42 }) (zPc D cy A [.ref (ad 0), .int (iI ((i : Int)))] H0) (zQi (fun z H1 => LW D cy A ad T yi pr la H1 ∧ z = p0.1 8) A) 0 0 A := by
  obtain ⟨ya, pr2, hz, hT, hG, hg, h10⟩ := id hw
  obtain ⟨p2, hp2, k1, k2, k3⟩ := gvR_q hg hi hp0
  obtain ⟨f7, f8, f9, f9b, f10, -⟩ := ys_p hys hi hp0
  refine (c_X1_struck_ok l D cy (lB A ad) ad ya yi pr2 H0 i p2 (hz.lpart h10) hi hp2 (by rw [k1 8 (by decide)]; constructor <;> omega)).wideI (fun q h => h.1) (fun z H1 hq hs1 hk1 => ?_)
  obtain ⟨rfl, rfl⟩ := hq
  exact ⟨hw, k1 8 (by decide)⟩
theorem c_Q_freeFrom (l : Launch) (D : va_G) (cy : Nat → ClassId) (A : Nat → Prop) (ad : Nat → Nat) (T : Nat → Int) (yi : Nat → Int) (pr : Nat → Option PS) (la : Nat → Nat → Int) (H0 : Heap) (i : Nat) (p0 : PS) (hw : LW D cy A ad T yi pr la H0) (hys : YS T yi pr) (hi : i < 10) (hp0 : pr i = some p0) : Met l yX1_freeFrom wsX1_freeFrom ({ frames := 2, cells := 0, slots := 0, locals := 42 }) (zPc D cy A [.ref (ad 0), .int (iI ((i : Int)))] H0) (zQi (fun z H1 => LW D cy A ad T yi pr la H1 ∧ z = (if p0.1 10 < 1000 then p0.1 10 else -1)) A) 0 0 A := by
  obtain ⟨ya, pr2, hz, hT, hG, hg, h10⟩ := id hw
  obtain ⟨p2, hp2, k1, k2, k3⟩ := gvR_q hg hi hp0
  obtain ⟨f7, f8, f9, f9b, f10, -⟩ := ys_p hys hi hp0
  refine (c_X1_freeFrom_ok l D cy (lB A ad) ad ya yi pr2 H0 i p2 (hz.lpart h10) hi hp2 (by rw [k1 10 (by decide)]; exact f10)).wideI (fun q h => h.1) (fun z H1 hq hs1 hk1 => ?_)
  obtain ⟨rfl, rfl⟩ := hq
  exact ⟨hw, by rw [k1 10 (by decide)]⟩
theorem c_Q_maturity (l : Launch) (D : va_G) (cy : Nat → ClassId) (A : Nat → Prop) (ad : Nat → Nat) (T : Nat → Int) (yi : Nat → Int) (pr : Nat → Option PS) (la : Nat → Nat → Int) (H0 : Heap) (a b : Int) (hw : LW D cy A ad T yi pr la H0) (hys : YS T yi pr) (h1 : 0 ≤ a ∧ a < 1000) (h2 : 0 ≤ b ∧ b < 1000) : Met l yX1_maturity wsX1_maturity ({ frames := 2, cells := 0, slots := 0, locals := 44 }) (zPc D cy A [.ref (ad 0), .int (iI (a)), .int (iI (b))] H0) (zQi (fun z H1 => LW D cy A ad T yi pr la H1 ∧ z = mat T a b) A) 0 0 A := by
  obtain ⟨ya, pr2, hz, hT, hG, hg, h10⟩ := id hw
  refine (c_X1_maturity_ok l D cy (lB A ad) ad ya yi pr2 H0 T a b (hz.lpart h10) h1 h2 hG hys.1).wideI (fun q h => h.1) (fun z H1 hq hs1 hk1 => ?_)
  obtain ⟨rfl, rfl⟩ := hq
  exact ⟨hw, rfl⟩
theorem c_Q_strength (l : Launch) (D : va_G) (cy : Nat → ClassId) (A : Nat → Prop) (ad : Nat → Nat) (T : Nat → Int) (yi : Nat → Int) (pr : Nat → Option PS) (la : Nat → Nat → Int) (H0 : Heap) (v : Int) (hw : LW D cy A ad T yi pr la H0) (hys : YS T yi pr) (h1 : 0 ≤ v ∧ v ≤ 1000000) : Met l yX1_strength wsX1_strength ({ frames := 2, cells := 0, slots := 0, locals := 42 }) (zPc D cy A [.ref (ad 0), .int (iI (v))] H0) (zQi (fun z H1 => LW D cy A ad T yi pr la H1 ∧ z = strg v) A) 0 0 A := by
  obtain ⟨ya, pr2, hz, hT, hG, hg, h10⟩ := id hw
  refine (c_X1_strength_ok l D cy (lB A ad) ad ya yi pr2 H0 v (hz.lpart h10) h1).wideI (fun q h => h.1) (fun z H1 hq hs1 hk1 => ?_)
  obtain ⟨rfl, rfl⟩ := hq
  exact ⟨hw, rfl⟩
theorem c_Q_need (l : Launch) (D : va_G) (cy : Nat → ClassId) (A : Nat → Prop) (ad : Nat → Nat) (T : Nat → Int) (yi : Nat → Int) (pr : Nat → Option PS) (la : Nat → Nat → Int) (H0 : Heap) (h : Int) (hw : LW D cy A ad T yi pr la H0) (hys : YS T yi pr) (h1 : 0 ≤ h ∧ h < 1000) : Met l yX1_need wsX1_need ({ frames := 2, cells := 0, slots := 0, locals := 47 }) (zPc D cy A [.ref (ad 0), .int (iI (h))] H0) (zQi (fun z H1 => LW D cy A ad T yi pr la H1 ∧ z = nY pr h 10) A) 0 0 A := by
  obtain ⟨ya, pr2, hz, hT, hG, hg, h10⟩ := id hw
  refine (c_X1_need_ok l D cy (lB A ad) ad ya yi pr2 H0 h (hz.lpart h10) h1 (hys.gv hg).pA).wideI (fun q h => h.1) (fun z H1 hq hs1 hk1 => ?_)
  obtain ⟨rfl, rfl⟩ := hq
  exact ⟨hw, nY_gv hg 10 (Nat.le_refl _)⟩
theorem c_Q_pours (l : Launch) (D : va_G) (cy : Nat → ClassId) (A : Nat → Prop) (ad : Nat → Nat) (T : Nat → Int) (yi : Nat → Int) (pr : Nat → Option PS) (la : Nat → Nat → Int) (H0 : Heap) (hw : LW D cy A ad T yi pr la H0) (hys : YS T yi pr) : Met l yX1_pours wsX1_pours ({ frames := 0, cells := 0, slots := 0, locals := 0 }) (zPc D cy A [.ref (ad 0)] H0) (zQi (fun z H1 => LW D cy A ad T yi pr la H1 ∧ z = cntY pr 10) A) 0 0 A := by
  obtain ⟨ya, pr2, hz, hT, hG, hg, h10⟩ := id hw
  refine (c_X1_pours_ok l D cy (lB A ad) ad ya yi pr2 H0 (hz.lpart h10)).wideI (fun q h => h.1) (fun z H1 hq hs1 hk1 => ?_)
  obtain ⟨rfl, rfl⟩ := hq
  exact ⟨hw, cntY_gv hg 10 (Nat.le_refl _)⟩
theorem c_Q_peakByOverlaps (l : Launch) (D : va_G) (cy : Nat → ClassId) (A : Nat → Prop) (ad : Nat → Nat) (T : Nat → Int) (yi : Nat → Int) (pr : Nat → Option PS) (la : Nat → Nat → Int) (H0 : Heap) (hw : LW D cy A ad T yi pr la H0) (hys : YS T yi pr) : Met l yX1_peakByOverlaps wsX1_peakByOverlaps ({ frames := 2, cells := 0, slots := 0, locals := 47 }) (zPc D cy A [.ref (ad 0)] H0) (zQi (fun z H1 => LW D cy A ad T yi pr la H1 ∧ z = mx (fun j : Nat => nY pr j 10) 1000) A) 0 0 A := by
  obtain ⟨ya, pr2, hz, hT, hG, hg, h10⟩ := id hw
  refine (c_X1_peakByOverlaps_ok l D cy (lB A ad) ad ya yi pr2 H0 (hz.lpart h10) (hys.gv hg).pA).wideI (fun q h => h.1) (fun z H1 hq hs1 hk1 => ?_)
  obtain ⟨rfl, rfl⟩ := hq
  exact ⟨hw, by rw [ovY_gv hg 10 (Nat.le_refl _), hys.ov]⟩
theorem c_Q_peak (l : Launch) (D : va_G) (cy : Nat → ClassId) (A : Nat → Prop) (ad : Nat → Nat) (T : Nat → Int) (yi : Nat → Int) (pr : Nat → Option PS) (la : Nat → Nat → Int) (H0 : Heap) (hw : LW D cy A ad T yi pr la H0) (hys : YS T yi pr) : Met l yX1_peak wsX1_peak ({ frames := 3, cells := 0, slots := 0, locals := 68 }) (zPc D cy A [.ref (ad 0)] H0) (zQi (fun z H1 => LW D cy A ad T yi pr la H1 ∧ z = mx (fun j : Nat => nY pr j 10) 1000) A) 0 0 A := by
  obtain ⟨ya, pr2, hz, hT, hG, hg, h10⟩ := id hw
  refine (c_X1_peak_ok l D cy (lB A ad) ad ya yi pr2 H0 (hz.lpart h10) (hys.gv hg).pA).wideI (fun q h => h.1) (fun z H1 hq hs1 hk1 => ?_)
  obtain ⟨yb, hw1, hr, rfl⟩ := hq
  have e0 : yb 0 = ya 0 := hr 0 (by decide)
  have e1 : yb 1 = ya 1 := hr 1 (by decide)
  have hl : LW D cy A ad T yi pr la H1 := ⟨yb, pr2, hz.ljoin hw1 hk1 (fun _ _ => rfl), by rw [e0]; exact hT, fun n hn => by rw [e1]; exact hG n hn, hg, h10⟩
  exact ⟨hl, by rw [show (fun j : Nat => nY pr2 j 10) = fun j : Nat => nY pr j 10 from funext fun j => nY_gv hg 10 (Nat.le_refl _)]⟩
theorem c_Q_firstShort (l : Launch) (D : va_G) (cy : Nat → ClassId) (A : Nat → Prop) (ad : Nat → Nat) (T : Nat → Int) (yi : Nat → Int) (pr : Nat → Option PS) (la : Nat → Nat → Int) (H0 : Heap) (hw : LW D cy A ad T yi pr la H0) (hys : YS T yi pr) : Met l yX1_firstShort wsX1_firstShort ({ frames := 3, cells := 0, slots := 0, locals := 68 }) (zPc D cy A [.ref (ad 0)] H0) (zQi (fun z H1 => LW D cy A ad T yi pr la H1 ∧ z = fsY pr (yi 5)) A) 0 0 A := by
  obtain ⟨ya, pr2, hz, hT, hG, hg, h10⟩ := id hw
  refine (c_X1_firstShort_ok l D cy (lB A ad) ad ya yi pr2 H0 (hz.lpart h10) (hys.gv hg).pA hys.2.1).wideI (fun q h => h.1) (fun z H1 hq hs1 hk1 => ?_)
  obtain ⟨yb, hw1, hr, rfl⟩ := hq
  have e0 : yb 0 = ya 0 := hr 0 (by decide)
  have e1 : yb 1 = ya 1 := hr 1 (by decide)
  have hl : LW D cy A ad T yi pr la H1 := ⟨yb, pr2, hz.ljoin hw1 hk1 (fun _ _ => rfl), by rw [e0]; exact hT, fun n hn => by rw [e1]; exact hG n hn, hg, h10⟩
  refine ⟨hl, ?_⟩
  unfold fsY
  simp only [nY_gv hg 10 (Nat.le_refl _)]
theorem c_Q_panelsOf (l : Launch) (D : va_G) (cy : Nat → ClassId) (A : Nat → Prop) (ad : Nat → Nat) (T : Nat → Int) (yi : Nat → Int) (pr : Nat → Option PS) (la : Nat → Nat → Int) (H0 : Heap) (i : Nat) (p0 : PS) (hw : LW D cy A ad T yi pr la H0) (hys : YS T yi pr) (hi : i < 10) (hp0 : pr i = some p0) : Met l yX1_panelsOf wsX1_panelsOf ({ frames := 3, cells := 0, slots := 0, locals := 72 }) (zPc D cy A [.ref (ad 0), .int (iI ((i : Int)))] H0) (zQi (fun z H1 => LW D cy A ad T yi pr la H1 ∧ z = sl (fun j => bI (FY pr (yi 5) 10000 i j)) 60) A) 0 0 A := by
  obtain ⟨ya, pr2, hz, hT, hG, hg, h10⟩ := id hw
  obtain ⟨p2, hp2, k1, k2, k3⟩ := gvR_q hg hi hp0
  refine (c_X1_panelsOf_ok l D cy (lB A ad) ad ya yi pr2 H0 i p2 (hz.lpart h10) hi hp2 (hys.gv hg).b9 hys.2.1).wideI (fun q h => h.1) (fun z H1 hq hs1 hk1 => ?_)
  obtain ⟨pr3, hw1, hg3, rfl⟩ := hq
  have hl : LW D cy A ad T yi pr la H1 := ⟨ya, va_up pr3 10 none, hz.ljoin hw1.drop hk1 (fun _ _ => rfl), hT, hG, gvR_d (gvR_t hg hg3), up_same _ _ _⟩
  exact ⟨hl, by rw [FY_gv hg]⟩
theorem c_Q_pourOf (l : Launch) (D : va_G) (cy : Nat → ClassId) (A : Nat → Prop) (ad : Nat → Nat) (T : Nat → Int) (yi : Nat → Int) (pr : Nat → Option PS) (la : Nat → Nat → Int) (H0 : Heap) (k : Nat) (h : Int) (hw : LW D cy A ad T yi pr la H0) (hys : YS T yi pr) (hk9 : (k : Int) < yi 5) (h1 : 0 ≤ h ∧ h < 1000) : Met l yX1_pourOf wsX1_pourOf ({ frames := 3, cells := 0, slots := 0, locals := 72 }) (zPc D cy A [.ref (ad 0), .int (iI ((k : Int))), .int (iI (h))] H0) (zQi (fun z H1 => LW D cy A ad T yi pr la H1 ∧ ((z = -1 ∧ tkn (bsY pr) (FY pr (yi 5) 10000) h k 10 = false) ∨ (0 ≤ z ∧ z < 10 ∧ tkn (bsY pr) (FY pr (yi 5) 10000) h k 10 = true ∧ ∃ p, pr z.toNat = some p ∧ p.1 9 ≤ h ∧ h < p.1 10))) A) 0 0 A := by
  obtain ⟨ya, pr2, hz, hT, hG, hg, h10⟩ := id hw
  refine (c_X1_pourOf_ok l D cy (lB A ad) ad ya yi pr2 H0 k h (hz.lpart h10) hk9 h1 (hys.gv hg).b9 hys.2.1).wideI (fun q h => h.1) (fun z H1 hq hs1 hk1 => ?_)
  obtain ⟨pr3, hw1, hg3, hans⟩ := hq
  have hl : LW D cy A ad T yi pr la H1 := ⟨ya, va_up pr3 10 none, hz.ljoin hw1.drop hk1 (fun _ _ => rfl), hT, hG, gvR_d (gvR_t hg hg3), up_same _ _ _⟩
  refine ⟨hl, ?_⟩
  rw [FY_gv hg] at hans
  rcases hans with ⟨rfl, hno⟩ | ⟨h2, h3, p, hp, hf, hb⟩
  · refine Or.inl ⟨rfl, ?_⟩
    cases ht : tkn (bsY pr) (FY pr (yi 5) 10000) h k 10 with
    | false => rfl
    | true =>
      exfalso
      obtain ⟨q, hq, c1, c2⟩ := (tkn_iff 10).mp ht
      rw [← gvR_bs hg hq] at c2
      cases hp : pr2 q with
      | none => rw [bsY_0 hp] at c2; cases c2
      | some p => exact hno q hq ⟨p, hp, c1, (bsY_1 hp).mp c2⟩
  · obtain ⟨p9, hp9, k1, -⟩ := gvR_p hg (i := z.toNat) (by omega) hp
    rw [k1 9 (by decide), k1 10 (by decide)] at hb
    exact Or.inr ⟨h2, h3, (tkn_iff 10).mpr ⟨z.toNat, by omega, hf, (bsY_1 hp9).mpr hb⟩, p9, hp9, hb⟩
theorem c_Q_setPanels (l : Launch) (D : va_G) (cy : Nat → ClassId) (A : Nat → Prop) (ad : Nat → Nat) (T : Nat → Int) (yi : Nat → Int) (pr : Nat → Option PS) (la : Nat → Nat → Int) (H0 : Heap) (v : Int) (hw : LW D cy A ad T yi pr la H0) (hys : YS T yi pr) (h1 : 0 ≤ v ∧ v ≤ 60) : Met l yX1_setPanels wsX1_setPanels ({ frames := 2, cells := 0, slots := 0, locals := 42 }) (zPc D cy A [.ref (ad 0), .int (iI (v))] H0) (zQi (fun z H1 => LW D cy A ad T (va_up yi 5 v) pr la H1 ∧ YS T (va_up yi 5 v) pr ∧ z = yi 5) A) 0 0 A := by
  obtain ⟨ya, pr2, hz, hT, hG, hg, h10⟩ := id hw
  refine (c_X1_setPanels_ok l D cy (lB A ad) ad ya yi pr2 H0 v (hz.lpart h10) h1 hys.2.1).wideI (fun q h => h.1) (fun z H1 hq hs1 hk1 => ?_)
  obtain ⟨hw1, rfl⟩ := hq
  exact ⟨⟨ya, pr2, hz.ljoin hw1 hk1 (fun _ _ => rfl), hT, hG, hg, h10⟩, ys_5 hys h1, rfl⟩
theorem c_Q_setRates (l : Launch) (D : va_G) (cy : Nat → ClassId) (A : Nat → Prop) (ad : Nat → Nat) (T : Nat → Int) (yi : Nat → Int) (pr : Nat → Option PS) (la : Nat → Nat → Int) (H0 : Heap) (v u : Int) (hw : LW D cy A ad T yi pr la H0) (hys : YS T yi pr) (h1 : 1 ≤ v ∧ v ≤ 50) (h2 : 1 ≤ u ∧ u ≤ 50) : Met l yX1_setRates wsX1_setRates ({ frames := 5, cells := 0, slots := 0, locals := 114 }) (zPc D cy A [.ref (ad 0), .int (iI (v)), .int (iI (u))] H0) (zQi (fun z H1 => ∃ pq, LW D cy A ad T (va_up yi 6 (min v u)) pq la H1 ∧ YS T (va_up yi 6 (min v u)) pq ∧ (∀ j, j < 10 → keep1 (pr j) (pq j))) A) 0 0 A := by
  obtain ⟨ya, pr2, hz, hT, hG, hg, h10⟩ := id hw
  refine (c_X1_setRates_ok l D cy (lB A ad) ad ya yi pr2 H0 T v u (hz.lpart h10) h1 h2 (hys.gv hg).pBs hys.2.1 hG hys.1).wideI (fun q h => h.1) (fun z H1 hq hs1 hk1 => ?_)
  obtain ⟨pq, hw1, hsch, -⟩ := hq
  have hg6 : yB (va_up yi 6 (min v u)) := by have := hys.2.1; unfold yB at this ⊢; simp only [va_up]; simp; omega
  exact ⟨_, ⟨ya, va_up pq 10 none, hz.ljoin hw1.drop hk1 (fun _ _ => rfl), hT, hG, gvR_0, up_same _ _ _⟩, sch_YS hys hg hys.1 hg6 hsch, sch_keep hg hsch⟩
theorem c_Q_setCrew (l : Launch) (D : va_G) (cy : Nat → ClassId) (A : Nat → Prop) (ad : Nat → Nat) (T : Nat → Int) (yi : Nat → Int) (pr : Nat → Option PS) (la : Nat → Nat → Int) (H0 : Heap) (v u : Int) (hw : LW D cy A ad T yi pr la H0) (hys : YS T yi pr) (h1 : 0 ≤ v ∧ v ≤ 24) (h2 : 0 ≤ u ∧ u ≤ 24) : Met l yX1_setCrew wsX1_setCrew ({ frames := 5, cells := 0, slots := 0, locals := 114 }) (zPc D cy A [.ref (ad 0), .int (iI (v)), .int (iI (u))] H0) (zQv (fun H1 => ∃ pq, LW D cy A ad T (va_up (va_up yi 7 v) 8 u) pq la H1 ∧ YS T (va_up (va_up yi 7 v) 8 u) pq ∧ (∀ j, j < 10 → keep1 (pr j) (pq j))) A) 0 0 A := by
  obtain ⟨ya, pr2, hz, hT, hG, hg, h10⟩ := id hw
  refine (c_X1_setCrew_ok l D cy (lB A ad) ad ya yi pr2 H0 T v u (hz.lpart h10) h1 h2 (hys.gv hg).pBs hys.2.1 hG hys.1).wideV (fun q h => h.1) (fun H1 hq hs1 hk1 => ?_)
  obtain ⟨pq, hw1, hsch⟩ := hq
  have hg6 : yB (va_up (va_up yi 7 v) 8 u) := by have := hys.2.1; unfold yB at this ⊢; simp only [va_up]; simp; omega
  exact ⟨_, ⟨ya, va_up pq 10 none, hz.ljoin hw1.drop hk1 (fun _ _ => rfl), hT, hG, gvR_0, up_same _ _ _⟩, sch_YS hys hg hys.1 hg6 hsch, sch_keep hg hsch⟩
theorem c_Q_setTemperature (l : Launch) (D : va_G) (cy : Nat → ClassId) (A : Nat → Prop) (ad : Nat → Nat) (T : Nat → Int) (yi : Nat → Int) (pr : Nat → Option PS) (la : Nat → Nat → Int) (H0 : Heap) (a b t : Int) (hw : LW D cy A ad T yi pr la H0) (hys : YS T yi pr) (h1 : 0 ≤ a ∧ a ≤ b ∧ b < 1000) (h2 : -40 ≤ t ∧ t ≤ 50) : Met l yX1_setTemperature wsX1_setTemperature ({ frames := 5, cells := 0, slots := 0, locals := 114 }) (zPc D cy A [.ref (ad 0), .int (iI (a)), .int (iI (b)), .int (iI (t))] H0) (zQv (fun H1 => ∃ pq, LW D cy A ad (setT T a b t) yi pq la H1 ∧ YS (setT T a b t) yi pq ∧ (∀ j, j < 10 → keep1 (pr j) (pq j))) A) 0 0 A := by
  obtain ⟨ya, pr2, hz, hT, hG, hg, h10⟩ := id hw
  refine (c_X1_setTemperature_ok l D cy (lB A ad) ad ya yi pr2 H0 a b t (hz.lpart h10) h1 h2 (hys.gv hg).pBs hys.2.1 (by rw [hT]; exact hys.1)).wideV (fun q h => h.1) (fun H1 hq hs1 hk1 => ?_)
  obtain ⟨yb, pq, hw1, hy0, hgb, hsch⟩ := hq
  rw [hT] at hy0 hgb hsch
  exact ⟨_, ⟨yb, va_up pq 10 none, hz.ljoin hw1.drop hk1 (fun _ _ => rfl), hy0, hgb, gvR_0, up_same _ _ _⟩, sch_YS hys hg (setT_ok hys.1 h2.1 h2.2) hys.2.1 hsch, sch_keep hg hsch⟩
theorem c_Q_cancel (l : Launch) (D : va_G) (cy : Nat → ClassId) (A : Nat → Prop) (ad : Nat → Nat) (T : Nat → Int) (yi : Nat → Int) (pr : Nat → Option PS) (la : Nat → Nat → Int) (H0 : Heap) (i : Nat) (p0 : PS) (hw : LW D cy A ad T yi pr la H0) (hys : YS T yi pr) (hi : i < 10) (hp0 : pr i = some p0) : Met l yX1_cancel wsX1_cancel ({ frames := 2, cells := 0, slots := 0, locals := 42 }) (zPc D cy A [.ref (ad 0), .int (iI ((i : Int)))] H0) (zQi (fun z H1 => ∃ pq, LW D cy A ad T yi pq la H1 ∧ YS T yi pq ∧ pq i = none ∧ z = p0.1 1 ∧ ∀ j, j < 10 → j ≠ i → keep1 (pr j) (pq j)) A) 0 0 A := by
  obtain ⟨ya, pr2, hz, hT, hG, hg, h10⟩ := id hw
  obtain ⟨p2, hp2, k1, k2, k3⟩ := gvR_q hg hi hp0
  refine (c_X1_cancel_ok l D cy (lB A ad) ad ya yi pr2 H0 i p2 (hz.lpart h10) hi hp2 ((hys.gv hg).pBs i p2 hi hp2)).wideI (fun q h => h.1) (fun z H1 hq hs1 hk1 => ?_)
  obtain ⟨hw1, rfl⟩ := hq
  refine ⟨_, ⟨ya, va_up pr2 i none, hz.ljoin hw1 hk1 (fun _ _ => rfl), hT, hG, gvR_0, by rw [up_ne _ _ (by omega)]; exact h10⟩, ?_, up_same _ _ _, k1 1 (by decide), fun j hj hji => by rw [up_ne _ _ hji]; exact gv_keep hg hj⟩
  exact ⟨hys.1, hys.2.1, fun j p hj hp => by
    by_cases c : j = i
    · rw [c, up_same] at hp; cases hp
    · rw [up_ne _ _ c] at hp; exact (hys.gv hg).2.2 j p hj hp⟩
theorem c_Q_move (l : Launch) (D : va_G) (cy : Nat → ClassId) (A : Nat → Prop) (ad : Nat → Nat) (T : Nat → Int) (yi : Nat → Int) (pr : Nat → Option PS) (la : Nat → Nat → Int) (H0 : Heap) (i : Nat) (p0 : PS) (a : Int) (hw : LW D cy A ad T yi pr la H0) (hys : YS T yi pr) (hi : i < 10) (hp0 : pr i = some p0) (h1 : 0 ≤ a ∧ a ≤ 900) : Met l yX1_move wsX1_move ({ frames := 4, cells := 0, slots := 0, locals := 90 }) (zPc D cy A [.ref (ad 0), .int (iI ((i : Int))), .int (iI (a))] H0) (zQi (fun z H1 => ∃ pq q, LW D cy A ad T yi pq la H1 ∧ YS T yi pq ∧ pq i = some q ∧ q.1 1 = p0.1 1 ∧ q.1 2 = p0.1 2 ∧ q.1 3 = a ∧ z = p0.1 3 ∧ ∀ j, j < 10 → j ≠ i → keep1 (pr j) (pq j)) A) 0 0 A := by
  obtain ⟨ya, pr2, hz, hT, hG, hg, h10⟩ := id hw
  obtain ⟨p2, hp2, k1, k2, k3⟩ := gvR_q hg hi hp0
  have hb2 := (hys.gv hg).pBs i p2 hi hp2
  refine (c_X1_move_ok l D cy (lB A ad) ad ya yi pr2 H0 T i p2 a (hz.lpart h10) hi hp2 hb2 h1 hys.2.1 hG hys.1).wideI (fun q h => h.1) (fun z H1 hq hs1 hk1 => ?_)
  obtain ⟨q, hw1, hsch, rfl⟩ := hq
  have hbm : pB (va_up p2.1 3 a, p2.2) := by
    obtain ⟨q1, q2, q3, q4, q5, q6⟩ := hb2
    unfold pB
    dsimp only
    rw [up_same, up_ne (k := 3) (j := 0) p2.1 a (by decide), up_ne (k := 3) (j := 1) p2.1 a (by decide), up_ne (k := 3) (j := 2) p2.1 a (by decide), up_ne (k := 3) (j := 4) p2.1 a (by decide)]
    exact ⟨h1, q2, q3, q4, q5, q6⟩
  have e1 : q.1 1 = p2.1 1 := hsch.1.2.1.trans (up_ne (k := 3) (j := 1) p2.1 a (by decide))
  have e2 : q.1 2 = p2.1 2 := hsch.1.2.2.1.trans (up_ne (k := 3) (j := 2) p2.1 a (by decide))
  have e3 : q.1 3 = a := hsch.1.2.2.2.1.trans (up_same p2.1 3 a)
  refine ⟨_, q, ⟨ya, va_up pr2 i (some q), hz.ljoin hw1 hk1 (fun _ _ => rfl), hT, hG, gvR_0, by rw [up_ne _ _ (by omega)]; exact h10⟩, ys_put (hys.gv hg) (pB_R hsch hbm) (sc_R hsch), up_same _ _ _, e1.trans (k1 1 (by decide)), e2.trans (k1 2 (by decide)), e3, k1 3 (by decide), fun j hj hji => by rw [up_ne _ _ hji]; exact gv_keep hg hj⟩
theorem c_Q_plan (l : Launch) (D : va_G) (cy : Nat → ClassId) (A : Nat → Prop) (ad : Nat → Nat) (T : Nat → Int) (yi : Nat → Int) (pr : Nat → Option PS) (la : Nat → Nat → Int) (H0 : Heap) (a b d f : Int) (hw : LW D cy A ad T yi pr la H0) (hys : YS T yi pr) (h1 : plOK a b d f) (hfree : ∃ i, i < 10 ∧ pr i = none) (hAf : ∀ q, H0.size ≤ q → A q) : Met l yX1_plan wsX1_plan ({ frames := 4, cells := 3, slots := 21, locals := 90 }) (zPc D cy A [.ref (ad 0), .int (iI (a)), .int (iI (b)), .int (iI (d)), .int (iI (f))] H0) (zQi (fun z H1 => ∃ (ad2 : Nat → Nat) (n : Nat) (pq : Nat → Option PS) (q : PS), z = n ∧ n < 10 ∧ pr n = none ∧ ad2 0 = ad 0 ∧ (∀ r, r < 5 → ad2 (43 + r) = ad (43 + r)) ∧ LW D cy A ad2 T yi pq la H1 ∧ YS T yi pq ∧ pq n = some q ∧ q.1 1 = d ∧ q.1 2 = f ∧ q.1 3 = a ∧ ∀ j, j < 10 → j ≠ n → keep1 (pr j) (pq j)) A) 3 21 A := by
  obtain ⟨ya, pr2, hz, hT, hG, hg, h10⟩ := id hw
  have hfree2 : ∃ i, i < 10 ∧ pr2 i = none := by
    obtain ⟨i, hi, hp⟩ := hfree
    refine ⟨i, hi, ?_⟩
    rcases hg i hi with ⟨-, c⟩ | ⟨p, q, c, -⟩
    · exact c
    · rw [hp] at c; cases c
  have hAf2 : ∀ q, H0.size ≤ q → lB A ad q := fun q hq => ⟨hAf q hq, fun r hr he => by
    have := (hz.1 (43 + r) _ (lE_r hr)).2.1.lt
    (try dsimp only at this)
    omega⟩
  refine (c_X1_plan_ok l D cy (lB A ad) ad ya yi pr2 H0 T a b d f (hz.lpart h10) h1 h10 hfree2 hAf2 hys.2.1 hG hys.1).wideI (fun q h => h.1) (fun z H1 hq hs1 hk1 => ?_)
  obtain ⟨ad2, n, q, hzn, hn, -, hnn, had, hw1, hsch, -⟩ := hq
  have hq10 : va_up pr2 n (some q) 10 = none := by rw [up_ne _ _ (by omega)]; exact h10
  obtain ⟨ad3, h3a, h3b⟩ : ∃ ad3 : Nat → Nat, (∀ k, k < 40 → ad3 k = ad2 k) ∧ ∀ r, r < 5 → ad3 (43 + r) = ad (43 + r) := ⟨fun k => if k < 40 then ad2 k else ad k, fun k hk => if_pos hk, fun r hr => if_neg (by omega)⟩
  have hw3 : zW D (lB A ad) ad3 (yE cy ad3 ya yi (va_up pr2 n (some q))) H1 := by
    rw [yE_adq hq10 h3a]
    exact hw1.adc (fun k v hk => h3a k (yE_lt hq10 hk))
  have hpn : pr n = none := by
    rcases hg n hn with ⟨c, -⟩ | ⟨p, q9, -, c, -⟩
    · exact c
    · rw [hnn] at c; cases c
  have hbn : pB (nP a b d f) := ⟨h1.1, h1.2.1, h1.2.2.1, h1.2.2.2, ⟨Int.le_refl 0, (by decide : (0 : Int) ≤ 4)⟩, fun k hk => absurd hk (by show ¬ (k : Int) < 0; omega)⟩
  exact ⟨ad3, n, _, q, hzn, hn, hpn, (h3a 0 (by decide)).trans (had 0 (by decide) (by omega)), h3b, ⟨ya, va_up pr2 n (some q), hz.ljoin hw3 hk1 h3b, hT, hG, gvR_0, hq10⟩, ys_put (hys.gv hg) (pB_R hsch hbn) (sc_R hsch), up_same _ _ _, hsch.1.2.1, hsch.1.2.2.1, hsch.1.2.2.2.1, fun j hj hji => by rw [up_ne _ _ hji]; exact gv_keep hg hj⟩
end
section
/-! ===== the law's own helpers ===== -/
def LA (yi : Nat → Int) (pr : Nat → Option PS) (la : Nat → Nat → Int) : Prop := (∀ i, i < 10 → (la 0 i = 0 ∧ pr i = none) ∨ (la 0 i = 1 ∧ ∃ p, pr i = some p ∧ p.1 1 = la 1 i ∧ p.1 2 = la 2 i ∧ p.1 3 = la 3 i)) ∧ la 4 0 = yi 7 ∧ la 4 1 = yi 8 ∧ la 4 2 = yi 5
theorem LA.at {yi : Nat → Int} {pr : Nat → Option PS} {la : Nat → Nat → Int} (h : LA yi pr la) {i : Nat} {p : PS} (hi : i < 10) (hp : pr i = some p) : la 0 i = 1 ∧ p.1 1 = la 1 i ∧ p.1 2 = la 2 i ∧ p.1 3 = la 3 i := by
  rcases h.1 i hi with ⟨-, c⟩ | ⟨a, q, b, m1, m2, m3⟩
  · rw [hp] at c; cases c
  · rw [hp] at b
    cases b
    exact ⟨a, m1, m2, m3⟩
theorem low_and (v : Int) : ∃ m : Int, 0 ≤ m ∧ m < 2147483648 ∧ iI v &&& iI 2147483647 = iI m := by
  obtain ⟨z, h1, h2, hz⟩ := iI_of (iI v &&& iI 2147483647)
  obtain ⟨n, hn⟩ : ∃ n, (iI v &&& iI 2147483647).toBitVec.toNat = n := ⟨_, rfl⟩
  have hle : n ≤ 2147483647 := by
    rw [← hn, Int32.toBitVec_and, BitVec.toNat_and]
    exact Nat.and_le_right
  have ht : (iI v &&& iI 2147483647).toInt = (n : Int) := by
    rw [← hn]
    exact BitVec.toInt_eq_toNat_of_lt (by omega)
  have hzt : (iI v &&& iI 2147483647).toInt = z := by
    rw [hz]
    exact iI_T ⟨h1, h2⟩
  exact ⟨z, by omega, h2, hz⟩
section ZLR
variable {p : Program} {l : Launch} {e : Env} {R : Room} {s : State} {m : MethodId} {args : Array Value} {below : List Frame} {meth : Method} {c : Code} {H : Heap} {locs : List Loc} {cells slots : Nat} {Q : State → Prop}
variable {cc : ByteArray} {pc : Nat} {ls : Array Slot} {rest : List Value}
theorem zi_any {x : Int32} (k : ∀ z : Int, zr z → W p l e R s m args below meth c H locs cells slots Q (F0 m pc ls (.int (iI z) :: rest))) : W p l e R s m args below meth c H locs cells slots Q (F0 m pc ls (.int x :: rest)) := by
  obtain ⟨z, h1, h2, hz⟩ := iI_of x
  rw [hz]
  exact k z ⟨h1, h2⟩
theorem zi_rem (hx : p.tables.exec = Jvm.exec) (hb : c.code = cc) {a b : Int} (hdg : decode cc pc = .ok (.irem, 1)) (ha : 0 ≤ a) (ha2 : a < 2147483648) (hb1 : 0 < b) (hb2 : b < 2147483648) (k : W p l e R s m args below meth c H locs cells slots Q (F0 m (pc + 1) ls (.int (iI (a % b)) :: rest))) : W p l e R s m args below meth c H locs cells slots Q (F0 m pc ls (.int (iI b) :: .int (iI a) :: rest)) :=
  lv_irem hx hb hdg (by rw [iI_0, iI_eq ⟨by omega, by omega⟩ ⟨by omega, by omega⟩]; omega) (by rw [iI_div ha ha2 hb1 hb2, iI_mul, iI_sub, show a - a / b * b = a % b by rw [Int.emod_def, Int.mul_comm]]; exact k)
end ZLR
section GSN
variable {pr : Nat → Option PS} {n h : Int} {i : Nat} {p : PS}
theorem gS_n (hp : pr i = none) : gS pr n h (i + 1) = gS pr n h i := by
  simp only [gS]
  rw [bsY_0 hp, if_neg (by decide)]
  omega
theorem gS_0 (hp : pr i = some p) (hb : ¬ (p.1 9 ≤ h ∧ h < p.1 10)) : gS pr n h (i + 1) = gS pr n h i := by
  simp only [gS]
  rw [if_neg (fun d => hb ((bsY_1 hp).mp d))]
  omega
theorem gS_1 (hp : pr i = some p) (hb : p.1 9 ≤ h ∧ h < p.1 10) : gS pr n h (i + 1) = gS pr n h i + sl (fun j => bI (FY pr n 10000 i j)) 60 := by
  simp only [gS]
  rw [if_pos ((bsY_1 hp).mpr hb)]
end GSN
set_option maxHeartbeats 4000000 in
set_option maxRecDepth 100000 in
theorem c_L_low (l : Launch) (D : va_G) (cy : Nat → ClassId) (A : Nat → Prop) (ad : Nat → Nat) (H0 : Heap) (v n : Int) (hz : zr v) (hn : 1 ≤ n ∧ n ≤ 1000) : Met l yL_low wsL_low ({ frames := 0, cells := 0, slots := 0, locals := 0 }) (zPc D cy A [.int (iI (v)), .int (iI (n))] H0) (zQi (fun z H1 => H1 = H0 ∧ 0 ≤ z ∧ z < n) A) 0 0 A := by
  refine Met.ofW (cc := cL_low) (maxL := 2) (ret := (some .int)) (by decide) rfl ?_
  intro pg en s mt args below meth c s₁ B hml hv
  obtain ⟨rfl, hH, hE⟩ := hv
  subst hH
  have hx := B.exec
  have hb := B.bytes
  have hr := B.returns
  have hts := atoms_spec (ws := wsL_low) B.pre
  have hown : s.vm.findClass RL = some mt.cls := findClass_of_methodNamed B.named
  have hlocks := B.notSynchronized
  have hS : va_S A s.heap s.heap [] := va_S.rf
  have hl := lv_entry ([.int (iI (v)), .int (iI (n))]) (n := 2) (Nat.le_of_ble_eq_true rfl)
  rw [lg_entry_eq]
  generalize (lg_sl ([.int (iI (v)), .int (iI (n))]) ++ List.replicate (2 - (lg_sl ([.int (iI (v)), .int (iI (n))])).length) Slot.unset).toArray = ls at hl ⊢
  have hl : lv_has ls 2 [(0, .int (iI (v))), (1, .int (iI (n)))] := hl
  refine lv_iload_n hx hb dL_low_0 rfl (lv_at hl 0 rfl) ?_
  refine lv_ldc (v := iI 2147483647) hx hb hown (hts (.constant RL 7 (iI 2147483647)) (by decide +kernel)) dL_low_1 ?_
  refine lv_iand hx hb dL_low_3 ?_
  obtain ⟨m_3, hm_30, hm_31, hm_3⟩ := low_and (v)
  rw [hm_3]
  refine lv_iload_n hx hb dL_low_4 rfl (lv_at hl 1 rfl) ?_
  refine zi_rem hx hb dL_low_5 (by omega) (by omega) (by omega) (by omega) ?_
  refine zi_top (fun r_5 hr_5 => ?_)
  have hr0 := Int.emod_nonneg m_3 (show n ≠ 0 by omega)
  have hr1 := Int.emod_lt_of_pos m_3 (show 0 < n by omega)
  rw [← hr_5] at hr0 hr1
  refine ziret hx hb hr hlocks hS (Nat.le_of_ble_eq_true rfl) (Nat.le_of_ble_eq_true rfl) (by first | decide | (constructor <;> omega)) ?_ dL_low_6
  exact ⟨rfl, hr0, hr1⟩

set_option maxHeartbeats 4000000 in
set_option maxRecDepth 100000 in
theorem c_L_isBusy (l : Launch) (D : va_G) (cy : Nat → ClassId) (A : Nat → Prop) (ad : Nat → Nat) (T : Nat → Int) (yi : Nat → Int) (pr : Nat → Option PS) (la : Nat → Nat → Int) (H0 : Heap) (i : Nat) (p0 : PS) (h : Int) (hw : LW D cy A ad T yi pr la H0) (hys : YS T yi pr) (hla : LA yi pr la) (hi : i < 10) (hp0 : pr i = some p0) (h1 : 0 ≤ h ∧ h < 1000) : Met l yL_isBusy wsL_isBusy ({ frames := 3, cells := 0, slots := 0, locals := 64 }) (zPc D cy A [.ref (ad 0), .ref (ad 46), .ref (ad 47), .int (iI ((i : Int))), .int (iI (h))] H0) (zQi (fun z H1 => LW D cy A ad T yi pr la H1 ∧ ((z = 1 ∧ p0.1 9 ≤ h ∧ h < p0.1 10) ∨ (z = 0 ∧ ¬ (p0.1 9 ≤ h ∧ h < p0.1 10)))) A) 0 0 A := by
  refine Met.ofW (cc := cL_isBusy) (maxL := 7) (ret := (some .boolean)) (by decide) rfl ?_
  intro pg en s mt args below meth c s₁ B hml hv
  obtain ⟨rfl, hH, hE⟩ := hv
  subst hH
  have hx := B.exec
  have hb := B.bytes
  have hr := B.returns
  have hts := atoms_spec (ws := wsL_isBusy) B.pre
  have hown : s.vm.findClass RL = some mt.cls := findClass_of_methodNamed B.named
  have hlocks := B.notSynchronized
  have hS : va_S A s.heap s.heap [] := va_S.rf
  have hl := lv_entry ([.ref (ad 0), .ref (ad 46), .ref (ad 47), .int (iI ((i : Int))), .int (iI (h))]) (n := 7) (Nat.le_of_ble_eq_true rfl)
  rw [lg_entry_eq]
  generalize (lg_sl ([.ref (ad 0), .ref (ad 46), .ref (ad 47), .int (iI ((i : Int))), .int (iI (h))]) ++ List.replicate (7 - (lg_sl ([.ref (ad 0), .ref (ad 46), .ref (ad 47), .int (iI ((i : Int))), .int (iI (h))])).length) Slot.unset).toArray = ls at hl ⊢
  have hl : lv_has ls 7 [(0, .ref (ad 0)), (1, .ref (ad 46)), (2, .ref (ad 47)), (3, .int (iI ((i : Int)))), (4, .int (iI (h)))] := hl
  obtain ⟨f7, f8, f9, f9b, f10, f1, f2, f3, fneg, fpos⟩ := ys_p hys hi hp0
  obtain ⟨m0, m1, m2, m3⟩ := hla.at hi hp0
  obtain ⟨-, t0, t1, t2⟩ := id hla
  have hyb := hys.2.1
  unfold yB at hyb
  rw [m3] at f3 f9
  unfold standS at f9
  refine lv_aload_n hx hb dL_isBusy_0 rfl (lv_at hl 1 rfl) ?_
  refine lv_iload_n hx hb dL_isBusy_1 rfl (lv_at hl 3 rfl) ?_
  refine l_ald hx hb hE hw 3 (by decide) i rfl (by unfold rowN; simp; omega) dL_isBusy_2 ?_
  refine zi_top (fun v_2 hv_2 => ?_)
  refine lv_aload_n hx hb dL_isBusy_3 rfl (lv_at hl 2 rfl) ?_
  refine zi_const hx hb dL_isBusy_4 ?_
  refine l_ald hx hb hE hw 4 (by decide) 0 rfl (by decide) dL_isBusy_5 ?_
  refine zi_top (fun v_5 hv_5 => ?_)
  refine zi_sub hx hb dL_isBusy_6 ?_
  refine zi_top (fun x_7 hx_7 => ?_)
  refine lv_istore (lv' := [(5, .int (iI (x_7))), (0, .ref (ad 0)), (1, .ref (ad 46)), (2, .ref (ad 47)), (3, .int (iI ((i : Int)))), (4, .int (iI (h)))]) hx hb dL_isBusy_7 hl (by decide) rfl (fun ls hl => ?_)
  refine lv_aload_n hx hb dL_isBusy_9 rfl (lv_at hl 1 rfl) ?_
  refine lv_iload_n hx hb dL_isBusy_10 rfl (lv_at hl 4 rfl) ?_
  refine zcalli (va_runV (As := [.int (iI ((i : Int)))]) (rest := []) ⟨hx, hb, hml, hown, hts⟩ (c_Q_freeFrom l D cy A ad T yi pr la _ (i) p0 hw hys (by omega) hp0) (cwV 1 hts gL_isBusy_X1_freeFrom rfl rfl rfl (by decide +kernel) ⟨(Nat.le_of_ble_eq_true rfl), (Nat.le_of_ble_eq_true rfl)⟩) (l_PV hE hS hw) rfl rfl hl.1 rfl (lv_room (Nat.le_of_ble_eq_true rfl)) dL_isBusy_11 ⟨(Nat.le_of_ble_eq_true rfl), (Nat.le_of_ble_eq_true rfl)⟩) hS (fun z_11 H1 locs hz_11 hq hz1 hk1 hS => ?_)
  obtain ⟨hw, hv_11⟩ := hq
  have h11 : (p0.1 10 < 1000 ∧ z_11 = p0.1 10) ∨ (1000 ≤ p0.1 10 ∧ z_11 = -1) := by rw [hv_11]; split <;> omega
  refine lv_istore (lv' := [(6, .int (iI (z_11))), (5, .int (iI (x_7))), (0, .ref (ad 0)), (1, .ref (ad 46)), (2, .ref (ad 47)), (3, .int (iI ((i : Int)))), (4, .int (iI (h)))]) hx hb dL_isBusy_14 hl (by decide) rfl (fun ls hl => ?_)
  refine lv_iload hx hb dL_isBusy_16 (lv_at hl 6 rfl) ?_
  refine lv_iload hx hb dL_isBusy_18 (lv_at hl 1 rfl) ?_
  refine zc_lt (tgt := 39) hx hb dL_isBusy_20 (by decide) (by first | decide | (constructor <;> omega)) (by first | decide | (constructor <;> omega)) (fun c_20 => ?_) (fun c_20 => ?_)
  · refine zi_const hx hb dL_isBusy_39 ?_
    refine zzret hx hb hr hlocks hS (Nat.le_of_ble_eq_true rfl) (Nat.le_of_ble_eq_true rfl) (by omega) ?_ dL_isBusy_40
    refine ⟨hw, ?_⟩
    split at f9 <;> omega
  · refine lv_iload hx hb dL_isBusy_23 (lv_at hl 0 rfl) ?_
    refine zf_lt (tgt := 35) hx hb dL_isBusy_25 (by decide) (by first | decide | (constructor <;> omega)) (fun c_25 => ?_) (fun c_25 => ?_)
    · refine zi_const hx hb dL_isBusy_35 ?_
      refine lv_goto (tgt := 40) hx hb dL_isBusy_36 (by decide) ?_
      refine zzret hx hb hr hlocks hS (Nat.le_of_ble_eq_true rfl) (Nat.le_of_ble_eq_true rfl) (by omega) ?_ dL_isBusy_40
      refine ⟨hw, ?_⟩
      split at f9 <;> omega
    · refine lv_iload hx hb dL_isBusy_28 (lv_at hl 6 rfl) ?_
      refine lv_iload hx hb dL_isBusy_30 (lv_at hl 0 rfl) ?_
      refine zc_ge (tgt := 39) hx hb dL_isBusy_32 (by decide) (by first | decide | (constructor <;> omega)) (by first | decide | (constructor <;> omega)) (fun c_32 => ?_) (fun c_32 => ?_)
      · refine zi_const hx hb dL_isBusy_39 ?_
        refine zzret hx hb hr hlocks hS (Nat.le_of_ble_eq_true rfl) (Nat.le_of_ble_eq_true rfl) (by omega) ?_ dL_isBusy_40
        refine ⟨hw, ?_⟩
        split at f9 <;> omega
      · refine zi_const hx hb dL_isBusy_35 ?_
        refine lv_goto (tgt := 40) hx hb dL_isBusy_36 (by decide) ?_
        refine zzret hx hb hr hlocks hS (Nat.le_of_ble_eq_true rfl) (Nat.le_of_ble_eq_true rfl) (by omega) ?_ dL_isBusy_40
        refine ⟨hw, ?_⟩
        split at f9 <;> omega

set_option maxHeartbeats 4000000 in
set_option maxRecDepth 100000 in
theorem c_L_isStruck (l : Launch) (D : va_G) (cy : Nat → ClassId) (A : Nat → Prop) (ad : Nat → Nat) (T : Nat → Int) (yi : Nat → Int) (pr : Nat → Option PS) (la : Nat → Nat → Int) (H0 : Heap) (i : Nat) (p0 : PS) (hw : LW D cy A ad T yi pr la H0) (hys : YS T yi pr) (hla : LA yi pr la) (hi : i < 10) (hp0 : pr i = some p0) : Met l yL_isStruck wsL_isStruck ({ frames := 3, cells := 0, slots := 0, locals := 66 }) (zPc D cy A [.ref (ad 0), .ref (ad 45), .ref (ad 47), .int (iI ((i : Int)))] H0) (zQi (fun z H1 => LW D cy A ad T yi pr la H1 ∧ z = 1) A) 0 0 A := by
  refine Met.ofW (cc := cL_isStruck) (maxL := 8) (ret := (some .boolean)) (by decide) rfl ?_
  intro pg en s mt args below meth c s₁ B hml hv
  obtain ⟨rfl, hH, hE⟩ := hv
  subst hH
  have hx := B.exec
  have hb := B.bytes
  have hr := B.returns
  have hts := atoms_spec (ws := wsL_isStruck) B.pre
  have hown : s.vm.findClass RL = some mt.cls := findClass_of_methodNamed B.named
  have hlocks := B.notSynchronized
  have hS : va_S A s.heap s.heap [] := va_S.rf
  have hl := lv_entry ([.ref (ad 0), .ref (ad 45), .ref (ad 47), .int (iI ((i : Int)))]) (n := 8) (Nat.le_of_ble_eq_true rfl)
  rw [lg_entry_eq]
  generalize (lg_sl ([.ref (ad 0), .ref (ad 45), .ref (ad 47), .int (iI ((i : Int)))]) ++ List.replicate (8 - (lg_sl ([.ref (ad 0), .ref (ad 45), .ref (ad 47), .int (iI ((i : Int)))])).length) Slot.unset).toArray = ls at hl ⊢
  have hl : lv_has ls 8 [(0, .ref (ad 0)), (1, .ref (ad 45)), (2, .ref (ad 47)), (3, .int (iI ((i : Int))))] := hl
  obtain ⟨f7, f8, f9, f9b, f10, f1, f2, f3, fneg, fpos⟩ := ys_p hys hi hp0
  obtain ⟨m0, m1, m2, m3⟩ := hla.at hi hp0
  obtain ⟨-, t0, t1, t2⟩ := id hla
  have hyb := hys.2.1
  unfold yB at hyb
  refine lv_aload_n hx hb dL_isStruck_0 rfl (lv_at hl 0 rfl) ?_
  refine lv_iload_n hx hb dL_isStruck_1 rfl (lv_at hl 3 rfl) ?_
  refine zcalli (va_runV (As := [.int (iI ((i : Int)))]) (rest := []) ⟨hx, hb, hml, hown, hts⟩ (c_Q_endOf l D cy A ad T yi pr la _ (i) p0 hw hys (by omega) hp0) (cwV 1 hts gL_isStruck_X1_endOf rfl rfl rfl (by decide +kernel) ⟨(Nat.le_of_ble_eq_true rfl), (Nat.le_of_ble_eq_true rfl)⟩) (l_PV hE hS hw) rfl rfl hl.1 rfl (lv_room (Nat.le_of_ble_eq_true rfl)) dL_isStruck_2 ⟨(Nat.le_of_ble_eq_true rfl), (Nat.le_of_ble_eq_true rfl)⟩) hS (fun z_2 H1 locs hz_2 hq hz1 hk1 hS => ?_)
  obtain ⟨hw, hv_2⟩ := hq
  refine lv_istore (lv' := [(4, .int (iI (z_2))), (0, .ref (ad 0)), (1, .ref (ad 45)), (2, .ref (ad 47)), (3, .int (iI ((i : Int))))]) hx hb dL_isStruck_5 hl (by decide) rfl (fun ls hl => ?_)
  refine lv_aload_n hx hb dL_isStruck_7 rfl (lv_at hl 1 rfl) ?_
  refine lv_iload_n hx hb dL_isStruck_8 rfl (lv_at hl 4 rfl) ?_
  refine zcalli (va_runV (As := [.int (iI ((i : Int)))]) (rest := []) ⟨hx, hb, hml, hown, hts⟩ (c_Q_struck l D cy A ad T yi pr la _ (i) p0 hw hys (by omega) hp0) (cwV 1 hts gL_isStruck_X1_struck rfl rfl rfl (by decide +kernel) ⟨(Nat.le_of_ble_eq_true rfl), (Nat.le_of_ble_eq_true rfl)⟩) (l_PV hE hS hw) rfl rfl hl.1 rfl (lv_room (Nat.le_of_ble_eq_true rfl)) dL_isStruck_9 ⟨(Nat.le_of_ble_eq_true rfl), (Nat.le_of_ble_eq_true rfl)⟩) hS (fun z_9 H1 locs hz_9 hq hz1 hk1 hS => ?_)
  obtain ⟨hw, hv_9⟩ := hq
  refine lv_istore (lv' := [(5, .int (iI (z_9))), (4, .int (iI (z_2))), (0, .ref (ad 0)), (1, .ref (ad 45)), (2, .ref (ad 47)), (3, .int (iI ((i : Int))))]) hx hb dL_isStruck_12 hl (by decide) rfl (fun ls hl => ?_)
  refine lv_aload_n hx hb dL_isStruck_14 rfl (lv_at hl 2 rfl) ?_
  refine lv_iload_n hx hb dL_isStruck_15 rfl (lv_at hl 5 rfl) ?_
  refine zcalli (va_runV (As := [.int (iI ((i : Int)))]) (rest := []) ⟨hx, hb, hml, hown, hts⟩ (c_Q_freeFrom l D cy A ad T yi pr la _ (i) p0 hw hys (by omega) hp0) (cwV 1 hts gL_isStruck_X1_freeFrom rfl rfl rfl (by decide +kernel) ⟨(Nat.le_of_ble_eq_true rfl), (Nat.le_of_ble_eq_true rfl)⟩) (l_PV hE hS hw) rfl rfl hl.1 rfl (lv_room (Nat.le_of_ble_eq_true rfl)) dL_isStruck_16 ⟨(Nat.le_of_ble_eq_true rfl), (Nat.le_of_ble_eq_true rfl)⟩) hS (fun z_16 H1 locs hz_16 hq hz1 hk1 hS => ?_)
  obtain ⟨hw, hv_16⟩ := hq
  have h16 : (p0.1 10 < 1000 ∧ z_16 = p0.1 10) ∨ (1000 ≤ p0.1 10 ∧ z_16 = -1) := by rw [hv_16]; split <;> omega
  refine lv_istore (lv' := [(6, .int (iI (z_16))), (5, .int (iI (z_9))), (4, .int (iI (z_2))), (0, .ref (ad 0)), (1, .ref (ad 45)), (2, .ref (ad 47)), (3, .int (iI ((i : Int))))]) hx hb dL_isStruck_19 hl (by decide) rfl (fun ls hl => ?_)
  refine lv_iload hx hb dL_isStruck_21 (lv_at hl 1 rfl) ?_
  refine zf_ge (tgt := 71) hx hb dL_isStruck_23 (by decide) (by first | decide | (constructor <;> omega)) (fun c_23 => ?_) (fun c_23 => ?_)
  · obtain ⟨n1, n2, n3, n4⟩ := fpos (by omega)
    refine lv_iload hx hb dL_isStruck_71 (lv_at hl 1 rfl) ?_
    refine lv_iload hx hb dL_isStruck_73 (lv_at hl 2 rfl) ?_
    refine zc_le (tgt := 128) hx hb dL_isStruck_75 (by decide) (by first | decide | (constructor <;> omega)) (by first | decide | (constructor <;> omega)) (fun c_75 => ?_) (fun c_75 => ?_)
    · exfalso; omega
    · refine lv_iload hx hb dL_isStruck_78 (lv_at hl 1 rfl) ?_
      refine zi_sipush hx hb dL_isStruck_80 (by decide) ?_
      refine zc_gt (tgt := 128) hx hb dL_isStruck_83 (by decide) (by first | decide | (constructor <;> omega)) (by first | decide | (constructor <;> omega)) (fun c_83 => ?_) (fun c_83 => ?_)
      · exfalso; omega
      · refine lv_aload_n hx hb dL_isStruck_86 rfl (lv_at hl 3 rfl) ?_
        refine lv_aload_n hx hb dL_isStruck_87 rfl (lv_at hl 3 rfl) ?_
        refine lv_iload hx hb dL_isStruck_88 (lv_at hl 2 rfl) ?_
        refine lv_iload hx hb dL_isStruck_90 (lv_at hl 1 rfl) ?_
        refine zcalli (va_runV (As := [.int (iI (z_2)), .int (iI (z_9))]) (rest := [.ref (ad 0)]) ⟨hx, hb, hml, hown, hts⟩ (c_Q_maturity l D cy A ad T yi pr la _ (z_2) (z_9) hw hys (by omega) (by omega)) (cwV 2 hts gL_isStruck_X1_maturity rfl rfl rfl (by decide +kernel) ⟨(Nat.le_of_ble_eq_true rfl), (Nat.le_of_ble_eq_true rfl)⟩) (l_PV hE hS hw) rfl rfl hl.1 rfl (lv_room (Nat.le_of_ble_eq_true rfl)) dL_isStruck_92 ⟨(Nat.le_of_ble_eq_true rfl), (Nat.le_of_ble_eq_true rfl)⟩) hS (fun z_92 H1 locs hz_92 hq hz1 hk1 hS => ?_)
        obtain ⟨hw, hv_92⟩ := hq
        have hmb_92 := mat_b hys.1 z_2 z_9
        refine zcalli (va_runV (As := [.int (iI (z_92))]) (rest := []) ⟨hx, hb, hml, hown, hts⟩ (c_Q_strength l D cy A ad T yi pr la _ (z_92) hw hys (by omega)) (cwV 1 hts gL_isStruck_X1_strength rfl rfl rfl (by decide +kernel) ⟨(Nat.le_of_ble_eq_true rfl), (Nat.le_of_ble_eq_true rfl)⟩) (l_PV hE hS hw) rfl rfl hl.1 rfl (lv_room (Nat.le_of_ble_eq_true rfl)) dL_isStruck_95 ⟨(Nat.le_of_ble_eq_true rfl), (Nat.le_of_ble_eq_true rfl)⟩) hS (fun z_95 H1 locs hz_95 hq hz1 hk1 hS => ?_)
        obtain ⟨hw, hv_95⟩ := hq
        rw [hv_92, hv_2, hv_9] at hv_95
        refine lv_aload_n hx hb dL_isStruck_98 rfl (lv_at hl 4 rfl) ?_
        refine lv_iload_n hx hb dL_isStruck_99 rfl (lv_at hl 6 rfl) ?_
        refine l_ald hx hb hE hw 2 (by decide) i rfl (by unfold rowN; simp; omega) dL_isStruck_100 ?_
        refine zi_top (fun v_100 hv_100 => ?_)
        refine zc_lt (tgt := 128) hx hb dL_isStruck_101 (by decide) (by first | decide | (constructor <;> omega)) (by first | decide | (constructor <;> omega)) (fun c_101 => ?_) (fun c_101 => ?_)
        · exfalso; omega
        · refine lv_aload_n hx hb dL_isStruck_104 rfl (lv_at hl 3 rfl) ?_
          refine lv_aload_n hx hb dL_isStruck_105 rfl (lv_at hl 3 rfl) ?_
          refine lv_iload hx hb dL_isStruck_106 (lv_at hl 2 rfl) ?_
          refine lv_iload hx hb dL_isStruck_108 (lv_at hl 1 rfl) ?_
          refine zi_const hx hb dL_isStruck_110 ?_
          refine zi_sub hx hb dL_isStruck_111 ?_
          refine zcalli (va_runV (As := [.int (iI (z_2)), .int (iI (z_9 - 1))]) (rest := [.ref (ad 0)]) ⟨hx, hb, hml, hown, hts⟩ (c_Q_maturity l D cy A ad T yi pr la _ (z_2) (z_9 - 1) hw hys (by omega) (by omega)) (cwV 2 hts gL_isStruck_X1_maturity rfl rfl rfl (by decide +kernel) ⟨(Nat.le_of_ble_eq_true rfl), (Nat.le_of_ble_eq_true rfl)⟩) (l_PV hE hS hw) rfl rfl hl.1 rfl (lv_room (Nat.le_of_ble_eq_true rfl)) dL_isStruck_112 ⟨(Nat.le_of_ble_eq_true rfl), (Nat.le_of_ble_eq_true rfl)⟩) hS (fun z_112 H1 locs hz_112 hq hz1 hk1 hS => ?_)
          obtain ⟨hw, hv_112⟩ := hq
          have hmb_112 := mat_b hys.1 z_2 (z_9 - 1)
          refine zcalli (va_runV (As := [.int (iI (z_112))]) (rest := []) ⟨hx, hb, hml, hown, hts⟩ (c_Q_strength l D cy A ad T yi pr la _ (z_112) hw hys (by omega)) (cwV 1 hts gL_isStruck_X1_strength rfl rfl rfl (by decide +kernel) ⟨(Nat.le_of_ble_eq_true rfl), (Nat.le_of_ble_eq_true rfl)⟩) (l_PV hE hS hw) rfl rfl hl.1 rfl (lv_room (Nat.le_of_ble_eq_true rfl)) dL_isStruck_115 ⟨(Nat.le_of_ble_eq_true rfl), (Nat.le_of_ble_eq_true rfl)⟩) hS (fun z_115 H1 locs hz_115 hq hz1 hk1 hS => ?_)
          obtain ⟨hw, hv_115⟩ := hq
          rw [hv_112, hv_2, hv_9] at hv_115
          refine lv_aload_n hx hb dL_isStruck_118 rfl (lv_at hl 4 rfl) ?_
          refine lv_iload_n hx hb dL_isStruck_119 rfl (lv_at hl 6 rfl) ?_
          refine l_ald hx hb hE hw 2 (by decide) i rfl (by unfold rowN; simp; omega) dL_isStruck_120 ?_
          refine zi_top (fun v_120 hv_120 => ?_)
          refine zc_ge (tgt := 128) hx hb dL_isStruck_121 (by decide) (by first | decide | (constructor <;> omega)) (by first | decide | (constructor <;> omega)) (fun c_121 => ?_) (fun c_121 => ?_)
          · exfalso; omega
          · refine zi_const hx hb dL_isStruck_124 ?_
            refine lv_goto (tgt := 129) hx hb dL_isStruck_125 (by decide) ?_
            refine lv_istore (lv' := [(7, .int (iI (1))), (6, .int (iI (z_16))), (5, .int (iI (z_9))), (4, .int (iI (z_2))), (0, .ref (ad 0)), (1, .ref (ad 45)), (2, .ref (ad 47)), (3, .int (iI ((i : Int))))]) hx hb dL_isStruck_129 hl (by decide) rfl (fun ls hl => ?_)
            refine lv_iload hx hb dL_isStruck_131 (lv_at hl 0 rfl) ?_
            refine zf_eq (tgt := 167) hx hb dL_isStruck_133 (by decide) (by first | decide | (constructor <;> omega)) (fun c_133 => ?_) (fun c_133 => ?_)
            · exfalso; omega
            · refine lv_iload hx hb dL_isStruck_136 (lv_at hl 1 rfl) ?_
              refine lv_iload hx hb dL_isStruck_138 (lv_at hl 2 rfl) ?_
              refine lv_aload_n hx hb dL_isStruck_140 rfl (lv_at hl 6 rfl) ?_
              refine zi_const hx hb dL_isStruck_141 ?_
              refine l_ald hx hb hE hw 4 (by decide) 1 rfl (by decide) dL_isStruck_142 ?_
              refine zi_top (fun v_142 hv_142 => ?_)
              refine zi_add hx hb dL_isStruck_143 ?_
              refine zi_sipush hx hb dL_isStruck_144 (by decide) ?_
              refine zc_le (tgt := 154) hx hb dL_isStruck_147 (by decide) (by first | decide | (constructor <;> omega)) (by first | decide | (constructor <;> omega)) (fun c_147 => ?_) (fun c_147 => ?_)
              · refine lv_iload hx hb dL_isStruck_154 (lv_at hl 2 rfl) ?_
                refine lv_aload_n hx hb dL_isStruck_156 rfl (lv_at hl 6 rfl) ?_
                refine zi_const hx hb dL_isStruck_157 ?_
                refine l_ald hx hb hE hw 4 (by decide) 1 rfl (by decide) dL_isStruck_158 ?_
                refine zi_top (fun v_158 hv_158 => ?_)
                refine zi_add hx hb dL_isStruck_159 ?_
                refine zc_ne (tgt := 167) hx hb dL_isStruck_160 (by decide) (by first | decide | (constructor <;> omega)) (by first | decide | (constructor <;> omega)) (fun c_160 => ?_) (fun c_160 => ?_)
                · exfalso; omega
                · refine zi_const hx hb dL_isStruck_163 ?_
                  refine lv_goto (tgt := 168) hx hb dL_isStruck_164 (by decide) ?_
                  refine zzret hx hb hr hlocks hS (Nat.le_of_ble_eq_true rfl) (Nat.le_of_ble_eq_true rfl) (by omega) ?_ dL_isStruck_168
                  exact ⟨hw, rfl⟩
              · refine zi_const hx hb dL_isStruck_150 ?_
                refine lv_goto (tgt := 160) hx hb dL_isStruck_151 (by decide) ?_
                refine zc_ne (tgt := 167) hx hb dL_isStruck_160 (by decide) (by first | decide | (constructor <;> omega)) (by first | decide | (constructor <;> omega)) (fun c_160 => ?_) (fun c_160 => ?_)
                · exfalso; omega
                · refine zi_const hx hb dL_isStruck_163 ?_
                  refine lv_goto (tgt := 168) hx hb dL_isStruck_164 (by decide) ?_
                  refine zzret hx hb hr hlocks hS (Nat.le_of_ble_eq_true rfl) (Nat.le_of_ble_eq_true rfl) (by omega) ?_ dL_isStruck_168
                  exact ⟨hw, rfl⟩
  · obtain ⟨n1, n2, n3⟩ := fneg (by omega)
    refine lv_iload hx hb dL_isStruck_26 (lv_at hl 1 rfl) ?_
    refine zi_const hx hb dL_isStruck_28 ?_
    refine zc_ne (tgt := 69) hx hb dL_isStruck_29 (by decide) (by first | decide | (constructor <;> omega)) (by first | decide | (constructor <;> omega)) (fun c_29 => ?_) (fun c_29 => ?_)
    · exfalso; omega
    · refine lv_iload hx hb dL_isStruck_32 (lv_at hl 0 rfl) ?_
      refine zi_const hx hb dL_isStruck_34 ?_
      refine zc_ne (tgt := 69) hx hb dL_isStruck_35 (by decide) (by first | decide | (constructor <;> omega)) (by first | decide | (constructor <;> omega)) (fun c_35 => ?_) (fun c_35 => ?_)
      · exfalso; omega
      · refine lv_iload hx hb dL_isStruck_38 (lv_at hl 2 rfl) ?_
        refine zi_sipush hx hb dL_isStruck_40 (by decide) ?_
        refine zc_gt (tgt := 65) hx hb dL_isStruck_43 (by decide) (by first | decide | (constructor <;> omega)) (by first | decide | (constructor <;> omega)) (fun c_43 => ?_) (fun c_43 => ?_)
        · refine zi_const hx hb dL_isStruck_65 ?_
          refine lv_goto (tgt := 70) hx hb dL_isStruck_66 (by decide) ?_
          refine zzret hx hb hr hlocks hS (Nat.le_of_ble_eq_true rfl) (Nat.le_of_ble_eq_true rfl) (by omega) ?_ dL_isStruck_70
          exact ⟨hw, rfl⟩
        · refine lv_aload_n hx hb dL_isStruck_46 rfl (lv_at hl 3 rfl) ?_
          refine lv_aload_n hx hb dL_isStruck_47 rfl (lv_at hl 3 rfl) ?_
          refine lv_iload hx hb dL_isStruck_48 (lv_at hl 2 rfl) ?_
          refine zi_sipush hx hb dL_isStruck_50 (by decide) ?_
          refine zcalli (va_runV (As := [.int (iI (z_2)), .int (iI (999))]) (rest := [.ref (ad 0)]) ⟨hx, hb, hml, hown, hts⟩ (c_Q_maturity l D cy A ad T yi pr la _ (z_2) (999) hw hys (by omega) (by omega)) (cwV 2 hts gL_isStruck_X1_maturity rfl rfl rfl (by decide +kernel) ⟨(Nat.le_of_ble_eq_true rfl), (Nat.le_of_ble_eq_true rfl)⟩) (l_PV hE hS hw) rfl rfl hl.1 rfl (lv_room (Nat.le_of_ble_eq_true rfl)) dL_isStruck_53 ⟨(Nat.le_of_ble_eq_true rfl), (Nat.le_of_ble_eq_true rfl)⟩) hS (fun z_53 H1 locs hz_53 hq hz1 hk1 hS => ?_)
          obtain ⟨hw, hv_53⟩ := hq
          have hmb_53 := mat_b hys.1 z_2 999
          refine zcalli (va_runV (As := [.int (iI (z_53))]) (rest := []) ⟨hx, hb, hml, hown, hts⟩ (c_Q_strength l D cy A ad T yi pr la _ (z_53) hw hys (by omega)) (cwV 1 hts gL_isStruck_X1_strength rfl rfl rfl (by decide +kernel) ⟨(Nat.le_of_ble_eq_true rfl), (Nat.le_of_ble_eq_true rfl)⟩) (l_PV hE hS hw) rfl rfl hl.1 rfl (lv_room (Nat.le_of_ble_eq_true rfl)) dL_isStruck_56 ⟨(Nat.le_of_ble_eq_true rfl), (Nat.le_of_ble_eq_true rfl)⟩) hS (fun z_56 H1 locs hz_56 hq hz1 hk1 hS => ?_)
          obtain ⟨hw, hv_56⟩ := hq
          rw [hv_53, hv_2] at hv_56
          refine lv_aload_n hx hb dL_isStruck_59 rfl (lv_at hl 4 rfl) ?_
          refine lv_iload_n hx hb dL_isStruck_60 rfl (lv_at hl 6 rfl) ?_
          refine l_ald hx hb hE hw 2 (by decide) i rfl (by unfold rowN; simp; omega) dL_isStruck_61 ?_
          refine zi_top (fun v_61 hv_61 => ?_)
          refine zc_ge (tgt := 69) hx hb dL_isStruck_62 (by decide) (by first | decide | (constructor <;> omega)) (by first | decide | (constructor <;> omega)) (fun c_62 => ?_) (fun c_62 => ?_)
          · exfalso; omega
          · refine zi_const hx hb dL_isStruck_65 ?_
            refine lv_goto (tgt := 70) hx hb dL_isStruck_66 (by decide) ?_
            refine zzret hx hb hr hlocks hS (Nat.le_of_ble_eq_true rfl) (Nat.le_of_ble_eq_true rfl) (by omega) ?_ dL_isStruck_70
            exact ⟨hw, rfl⟩

set_option maxHeartbeats 4000000 in
set_option maxRecDepth 100000 in
theorem c_L_isHour (l : Launch) (D : va_G) (cy : Nat → ClassId) (A : Nat → Prop) (ad : Nat → Nat) (T : Nat → Int) (yi : Nat → Int) (pr : Nat → Option PS) (la : Nat → Nat → Int) (H0 : Heap) (h : Int) (hw : LW D cy A ad T yi pr la H0) (hys : YS T yi pr) (hla : LA yi pr la) (h1 : 0 ≤ h ∧ h < 1000) : Met l yL_isHour wsL_isHour ({ frames := 4, cells := 0, slots := 0, locals := 98 }) (zPc D cy A [.ref (ad 0), .ref (ad 43), .ref (ad 44), .ref (ad 46), .ref (ad 47), .int (iI (h))] H0) (zQi (fun z H1 => LW D cy A ad T yi pr la H1 ∧ z = 1) A) 0 0 A := by
  refine Met.ofW (cc := cL_isHour) (maxL := 11) (ret := (some .boolean)) (by decide) rfl ?_
  intro pg en s mt args below meth c s₁ B hml hv
  obtain ⟨rfl, hH, hE⟩ := hv
  subst hH
  have hx := B.exec
  have hb := B.bytes
  have hr := B.returns
  have hts := atoms_spec (ws := wsL_isHour) B.pre
  have hown : s.vm.findClass RL = some mt.cls := findClass_of_methodNamed B.named
  have hlocks := B.notSynchronized
  have hS : va_S A s.heap s.heap [] := va_S.rf
  have hl := lv_entry ([.ref (ad 0), .ref (ad 43), .ref (ad 44), .ref (ad 46), .ref (ad 47), .int (iI (h))]) (n := 11) (Nat.le_of_ble_eq_true rfl)
  rw [lg_entry_eq]
  generalize (lg_sl ([.ref (ad 0), .ref (ad 43), .ref (ad 44), .ref (ad 46), .ref (ad 47), .int (iI (h))]) ++ List.replicate (11 - (lg_sl ([.ref (ad 0), .ref (ad 43), .ref (ad 44), .ref (ad 46), .ref (ad 47), .int (iI (h))])).length) Slot.unset).toArray = ls at hl ⊢
  have hl : lv_has ls 11 [(0, .ref (ad 0)), (1, .ref (ad 43)), (2, .ref (ad 44)), (3, .ref (ad 46)), (4, .ref (ad 47)), (5, .int (iI (h)))] := hl
  obtain ⟨hl0, t0, t1, t2⟩ := id hla
  have hyb := hys.2.1
  unfold yB at hyb
  have hpA := hys.pA
  refine zi_const hx hb dL_isHour_0 ?_
  refine lv_istore (lv' := [(6, .int (iI (0))), (0, .ref (ad 0)), (1, .ref (ad 43)), (2, .ref (ad 44)), (3, .ref (ad 46)), (4, .ref (ad 47)), (5, .int (iI (h)))]) hx hb dL_isHour_1 hl (by decide) rfl (fun ls hl => ?_)
  refine zi_const hx hb dL_isHour_3 ?_
  refine lv_istore (lv' := [(7, .int (iI (0))), (6, .int (iI (0))), (0, .ref (ad 0)), (1, .ref (ad 43)), (2, .ref (ad 44)), (3, .ref (ad 46)), (4, .ref (ad 47)), (5, .int (iI (h)))]) hx hb dL_isHour_4 hl (by decide) rfl (fun ls hl => ?_)
  refine zi_const hx hb dL_isHour_6 ?_
  refine lv_istore (lv' := [(8, .int (iI (0))), (7, .int (iI (0))), (6, .int (iI (0))), (0, .ref (ad 0)), (1, .ref (ad 43)), (2, .ref (ad 44)), (3, .ref (ad 46)), (4, .ref (ad 47)), (5, .int (iI (h)))]) hx hb dL_isHour_7 hl (by decide) rfl (fun ls hl => ?_)
  have loop_9 : ∀ (n : Nat) (i : Nat) (w x : Int) (H : Heap) (locs : List Loc) (ls : Array Slot), 10 - i < n → (i ≤ 10) → (w = nY pr h i) → (x = gS pr (yi 5) h i) → LW D cy A ad T yi pr la H → va_S A s.heap H locs → lv_has ls 11 [(8, .int (iI ((i : Int)))), (7, .int (iI (x))), (6, .int (iI (w))), (5, .int (iI (h))), (4, .ref (ad 47)), (3, .ref (ad 46)), (2, .ref (ad 44)), (1, .ref (ad 43)), (0, .ref (ad 0))] → W pg l en (headSpec wsL_isHour ({ frames := 4, cells := 0, slots := 0, locals := 98 })).room s mt ([.ref (ad 0), .ref (ad 43), .ref (ad 44), .ref (ad 46), .ref (ad 47), .int (iI (h))] : List Value).toArray below meth c H locs 0 0 (MQ below (zQi (fun z H1 => LW D cy A ad T yi pr la H1 ∧ z = 1) A) ([.ref (ad 0), .ref (ad 43), .ref (ad 44), .ref (ad 46), .ref (ad 47), .int (iI (h))] : List Value).toArray s 0 0 A) (F0 mt 9 ls []) := by
    intro n
    induction n with
    | zero =>
      intro i w x H locs ls hm hi hk1 hk2
      exfalso; omega
    | succ n ih =>
      intro i w x H locs ls hm hi hk1 hk2 hw hS hl
      have hb1 := nY_b (h := h) hpA hi
      have hb2 := gS_le (n := yi 5) (h := h) hys i hi
      refine lv_iload hx hb dL_isHour_9 (lv_at hl 0 rfl) ?_
      refine zi_bipush hx hb dL_isHour_11 (by decide) ?_
      refine zc_ge (tgt := 89) hx hb dL_isHour_13 (by decide) (by first | decide | (constructor <;> omega)) (by first | decide | (constructor <;> omega)) (fun c_13 => ?_) (fun c_13 => ?_)
      · have hi10 : i = 10 := by omega
        rw [hi10] at hk1 hk2 hb1 hb2
        refine zi_const hx hb dL_isHour_89 ?_
        refine lv_istore (lv' := [(8, .int (iI (0))), (7, .int (iI (x))), (6, .int (iI (w))), (5, .int (iI (h))), (4, .ref (ad 47)), (3, .ref (ad 46)), (2, .ref (ad 44)), (1, .ref (ad 43)), (0, .ref (ad 0))]) hx hb dL_isHour_90 hl (by decide) rfl (fun ls hl => ?_)
        refine zi_const hx hb dL_isHour_92 ?_
        refine lv_istore (lv' := [(9, .int (iI (0))), (8, .int (iI (0))), (7, .int (iI (x))), (6, .int (iI (w))), (5, .int (iI (h))), (4, .ref (ad 47)), (3, .ref (ad 46)), (2, .ref (ad 44)), (1, .ref (ad 43)), (0, .ref (ad 0))]) hx hb dL_isHour_93 hl (by decide) rfl (fun ls hl => ?_)
        have loop_95 : ∀ (n : Nat) (k : Nat) (y : Int) (H : Heap) (locs : List Loc) (ls : Array Slot), (yi 5).toNat - k < n → ((k : Int) ≤ yi 5) → (y = sl (fun j => bI (tkn (bsY pr) (FY pr (yi 5) 10000) h j 10)) k) → LW D cy A ad T yi pr la H → va_S A s.heap H locs → lv_has ls 11 [(9, .int (iI ((k : Int)))), (8, .int (iI (y))), (7, .int (iI (x))), (6, .int (iI (w))), (5, .int (iI (h))), (4, .ref (ad 47)), (3, .ref (ad 46)), (2, .ref (ad 44)), (1, .ref (ad 43)), (0, .ref (ad 0))] → W pg l en (headSpec wsL_isHour ({ frames := 4, cells := 0, slots := 0, locals := 98 })).room s mt ([.ref (ad 0), .ref (ad 43), .ref (ad 44), .ref (ad 46), .ref (ad 47), .int (iI (h))] : List Value).toArray below meth c H locs 0 0 (MQ below (zQi (fun z H1 => LW D cy A ad T yi pr la H1 ∧ z = 1) A) ([.ref (ad 0), .ref (ad 43), .ref (ad 44), .ref (ad 46), .ref (ad 47), .int (iI (h))] : List Value).toArray s 0 0 A) (F0 mt 95 ls []) := by
          intro n
          induction n with
          | zero =>
            intro k y H locs ls hm hk hk3
            exfalso; omega
          | succ n ih =>
            intro k y H locs ls hm hk hk3 hw hS hl
            have hb3 := sl_b (f := fun j => bI (tkn (bsY pr) (FY pr (yi 5) 10000) h j 10)) (a := 0) (b := 1) (n := k) (fun j _ => by rcases bI_b (tkn (bsY pr) (FY pr (yi 5) 10000) h j 10) with ⟨c, -⟩ | ⟨c, -⟩ <;> ((try dsimp only); omega))
            refine lv_iload hx hb dL_isHour_95 (lv_at hl 0 rfl) ?_
            refine lv_aload hx hb dL_isHour_97 (lv_at hl 5 rfl) ?_
            refine zi_const hx hb dL_isHour_99 ?_
            refine l_ald hx hb hE hw 4 (by decide) 2 rfl (by decide) dL_isHour_100 ?_
            refine zi_top (fun v_100 hv_100 => ?_)
            refine zc_ge (tgt := 163) hx hb dL_isHour_101 (by decide) (by first | decide | (constructor <;> omega)) (by first | decide | (constructor <;> omega)) (fun c_101 => ?_) (fun c_101 => ?_)
            · have hk9 : k = (yi 5).toNat := by omega
              have hbe := busy_eq (pr := pr) (n := yi 5) (h := h) hyb.1.1 hyb.1.2
              rw [← hk9, ← hk3] at hbe
              refine lv_aload_n hx hb dL_isHour_163 rfl (lv_at hl 9 rfl) ?_
              refine lv_iload hx hb dL_isHour_164 (lv_at hl 4 rfl) ?_
              refine zcalli (va_runV (As := [.int (iI (h))]) (rest := []) ⟨hx, hb, hml, hown, hts⟩ (c_Q_need l D cy A ad T yi pr la _ (h) hw hys (by omega)) (cwV 1 hts gL_isHour_X1_need rfl rfl rfl (by decide +kernel) ⟨(Nat.le_of_ble_eq_true rfl), (Nat.le_of_ble_eq_true rfl)⟩) (l_PV hE hS hw) rfl rfl hl.1 rfl (lv_room (Nat.le_of_ble_eq_true rfl)) dL_isHour_166 ⟨(Nat.le_of_ble_eq_true rfl), (Nat.le_of_ble_eq_true rfl)⟩) hS (fun z_166 H1 locs hz_166 hq hz1 hk1 hS => ?_)
              obtain ⟨hw, hv_166⟩ := hq
              refine lv_iload hx hb dL_isHour_169 (lv_at hl 3 rfl) ?_
              refine zc_ne (tgt := 226) hx hb dL_isHour_171 (by decide) (by first | decide | (constructor <;> omega)) (by first | decide | (constructor <;> omega)) (fun c_171 => ?_) (fun c_171 => ?_)
              · exfalso; omega
              · refine lv_iload hx hb dL_isHour_174 (lv_at hl 1 rfl) ?_
                refine lv_iload hx hb dL_isHour_176 (lv_at hl 2 rfl) ?_
                refine zc_ne (tgt := 226) hx hb dL_isHour_178 (by decide) (by first | decide | (constructor <;> omega)) (by first | decide | (constructor <;> omega)) (fun c_178 => ?_) (fun c_178 => ?_)
                · exfalso; omega
                · refine lv_iload hx hb dL_isHour_181 (lv_at hl 1 rfl) ?_
                  refine lv_iload hx hb dL_isHour_183 (lv_at hl 3 rfl) ?_
                  refine zc_gt (tgt := 226) hx hb dL_isHour_185 (by decide) (by first | decide | (constructor <;> omega)) (by first | decide | (constructor <;> omega)) (fun c_185 => ?_) (fun c_185 => ?_)
                  · exfalso; omega
                  · refine lv_iload hx hb dL_isHour_188 (lv_at hl 3 rfl) ?_
                    refine lv_aload hx hb dL_isHour_190 (lv_at hl 5 rfl) ?_
                    refine zi_const hx hb dL_isHour_192 ?_
                    refine l_ald hx hb hE hw 4 (by decide) 2 rfl (by decide) dL_isHour_193 ?_
                    refine zi_top (fun v_193 hv_193 => ?_)
                    refine zc_le (tgt := 213) hx hb dL_isHour_194 (by decide) (by first | decide | (constructor <;> omega)) (by first | decide | (constructor <;> omega)) (fun c_194 => ?_) (fun c_194 => ?_)
                    · refine lv_aload_n hx hb dL_isHour_213 rfl (lv_at hl 9 rfl) ?_
                      refine zcalli (va_runV (As := []) (rest := []) ⟨hx, hb, hml, hown, hts⟩ (c_Q_peak l D cy A ad T yi pr la _ hw hys) (cwV 0 hts gL_isHour_X1_peak rfl rfl rfl (by decide +kernel) ⟨(Nat.le_of_ble_eq_true rfl), (Nat.le_of_ble_eq_true rfl)⟩) (l_PV hE hS hw) rfl rfl hl.1 rfl (lv_room (Nat.le_of_ble_eq_true rfl)) dL_isHour_214 ⟨(Nat.le_of_ble_eq_true rfl), (Nat.le_of_ble_eq_true rfl)⟩) hS (fun z_214 H1 locs hz_214 hq hz1 hk1 hS => ?_)
                      obtain ⟨hw, hv_214⟩ := hq
                      have hmx := mx_at (f := fun j : Nat => nY pr j 10) (n := 1000) (k := h.toNat) (by omega)
                      (try dsimp only at hmx)
                      rw [show (h.toNat : Int) = h by omega, ← hv_214] at hmx
                      refine lv_iload hx hb dL_isHour_217 (lv_at hl 3 rfl) ?_
                      refine zc_lt (tgt := 226) hx hb dL_isHour_219 (by decide) (by first | decide | (constructor <;> omega)) (by first | decide | (constructor <;> omega)) (fun c_219 => ?_) (fun c_219 => ?_)
                      · exfalso; omega
                      · refine zi_const hx hb dL_isHour_222 ?_
                        refine lv_goto (tgt := 227) hx hb dL_isHour_223 (by decide) ?_
                        refine zzret hx hb hr hlocks hS (Nat.le_of_ble_eq_true rfl) (Nat.le_of_ble_eq_true rfl) (by omega) ?_ dL_isHour_227
                        exact ⟨hw, rfl⟩
                    · have hfs := fsY_at (pr := pr) (n := yi 5) (t := h) h1.1 h1.2 (by omega)
                      refine lv_aload_n hx hb dL_isHour_197 rfl (lv_at hl 9 rfl) ?_
                      refine zcalli (va_runV (As := []) (rest := []) ⟨hx, hb, hml, hown, hts⟩ (c_Q_firstShort l D cy A ad T yi pr la _ hw hys) (cwV 0 hts gL_isHour_X1_firstShort rfl rfl rfl (by decide +kernel) ⟨(Nat.le_of_ble_eq_true rfl), (Nat.le_of_ble_eq_true rfl)⟩) (l_PV hE hS hw) rfl rfl hl.1 rfl (lv_room (Nat.le_of_ble_eq_true rfl)) dL_isHour_198 ⟨(Nat.le_of_ble_eq_true rfl), (Nat.le_of_ble_eq_true rfl)⟩) hS (fun z_198 H1 locs hz_198 hq hz1 hk1 hS => ?_)
                      obtain ⟨hw, hv_198⟩ := hq
                      refine zf_lt (tgt := 226) hx hb dL_isHour_201 (by decide) (by first | decide | (constructor <;> omega)) (fun c_201 => ?_) (fun c_201 => ?_)
                      · exfalso; omega
                      · refine lv_aload_n hx hb dL_isHour_204 rfl (lv_at hl 9 rfl) ?_
                        refine zcalli (va_runV (As := []) (rest := []) ⟨hx, hb, hml, hown, hts⟩ (c_Q_firstShort l D cy A ad T yi pr la _ hw hys) (cwV 0 hts gL_isHour_X1_firstShort rfl rfl rfl (by decide +kernel) ⟨(Nat.le_of_ble_eq_true rfl), (Nat.le_of_ble_eq_true rfl)⟩) (l_PV hE hS hw) rfl rfl hl.1 rfl (lv_room (Nat.le_of_ble_eq_true rfl)) dL_isHour_205 ⟨(Nat.le_of_ble_eq_true rfl), (Nat.le_of_ble_eq_true rfl)⟩) hS (fun z_205 H1 locs hz_205 hq hz1 hk1 hS => ?_)
                        obtain ⟨hw, hv_205⟩ := hq
                        refine lv_iload hx hb dL_isHour_208 (lv_at hl 4 rfl) ?_
                        refine zc_gt (tgt := 226) hx hb dL_isHour_210 (by decide) (by first | decide | (constructor <;> omega)) (by first | decide | (constructor <;> omega)) (fun c_210 => ?_) (fun c_210 => ?_)
                        · exfalso; omega
                        · refine lv_aload_n hx hb dL_isHour_213 rfl (lv_at hl 9 rfl) ?_
                          refine zcalli (va_runV (As := []) (rest := []) ⟨hx, hb, hml, hown, hts⟩ (c_Q_peak l D cy A ad T yi pr la _ hw hys) (cwV 0 hts gL_isHour_X1_peak rfl rfl rfl (by decide +kernel) ⟨(Nat.le_of_ble_eq_true rfl), (Nat.le_of_ble_eq_true rfl)⟩) (l_PV hE hS hw) rfl rfl hl.1 rfl (lv_room (Nat.le_of_ble_eq_true rfl)) dL_isHour_214 ⟨(Nat.le_of_ble_eq_true rfl), (Nat.le_of_ble_eq_true rfl)⟩) hS (fun z_214 H1 locs hz_214 hq hz1 hk1 hS => ?_)
                          obtain ⟨hw, hv_214⟩ := hq
                          have hmx := mx_at (f := fun j : Nat => nY pr j 10) (n := 1000) (k := h.toNat) (by omega)
                          (try dsimp only at hmx)
                          rw [show (h.toNat : Int) = h by omega, ← hv_214] at hmx
                          refine lv_iload hx hb dL_isHour_217 (lv_at hl 3 rfl) ?_
                          refine zc_lt (tgt := 226) hx hb dL_isHour_219 (by decide) (by first | decide | (constructor <;> omega)) (by first | decide | (constructor <;> omega)) (fun c_219 => ?_) (fun c_219 => ?_)
                          · exfalso; omega
                          · refine zi_const hx hb dL_isHour_222 ?_
                            refine lv_goto (tgt := 227) hx hb dL_isHour_223 (by decide) ?_
                            refine zzret hx hb hr hlocks hS (Nat.le_of_ble_eq_true rfl) (Nat.le_of_ble_eq_true rfl) (by omega) ?_ dL_isHour_227
                            exact ⟨hw, rfl⟩
            · refine lv_aload_n hx hb dL_isHour_104 rfl (lv_at hl 9 rfl) ?_
              refine lv_iload hx hb dL_isHour_105 (lv_at hl 0 rfl) ?_
              refine lv_iload hx hb dL_isHour_107 (lv_at hl 4 rfl) ?_
              refine zcalli (va_runV (As := [.int (iI ((k : Int))), .int (iI (h))]) (rest := []) ⟨hx, hb, hml, hown, hts⟩ (c_Q_pourOf l D cy A ad T yi pr la _ k (h) hw hys (by omega) (by omega)) (cwV 2 hts gL_isHour_X1_pourOf rfl rfl rfl (by decide +kernel) ⟨(Nat.le_of_ble_eq_true rfl), (Nat.le_of_ble_eq_true rfl)⟩) (l_PV hE hS hw) rfl rfl hl.1 rfl (lv_room (Nat.le_of_ble_eq_true rfl)) dL_isHour_109 ⟨(Nat.le_of_ble_eq_true rfl), (Nat.le_of_ble_eq_true rfl)⟩) hS (fun z_109 H1 locs hz_109 hq hz1 hk1 hS => ?_)
              obtain ⟨hw, hv_109⟩ := hq
              rcases hv_109 with ⟨hz9, ht9⟩ | ⟨hz0, hz10, ht9, p9, hp9, hb9⟩
              · subst hz9
                refine lv_istore (lv' := [(10, .int (iI ((-1)))), (9, .int (iI ((k : Int)))), (8, .int (iI (y))), (7, .int (iI (x))), (6, .int (iI (w))), (5, .int (iI (h))), (4, .ref (ad 47)), (3, .ref (ad 46)), (2, .ref (ad 44)), (1, .ref (ad 43)), (0, .ref (ad 0))]) hx hb dL_isHour_112 hl (by decide) rfl (fun ls hl => ?_)
                refine lv_iload hx hb dL_isHour_114 (lv_at hl 2 rfl) ?_
                refine lv_iload hx hb dL_isHour_116 (lv_at hl 0 rfl) ?_
                refine zf_ge (tgt := 125) hx hb dL_isHour_118 (by decide) (by first | decide | (constructor <;> omega)) (fun c_118 => ?_) (fun c_118 => ?_)
                · exfalso; omega
                · refine zi_const hx hb dL_isHour_121 ?_
                  refine lv_goto (tgt := 126) hx hb dL_isHour_122 (by decide) ?_
                  refine zi_add hx hb dL_isHour_126 ?_
                  refine zi_top (fun x_127 hx_127 => ?_)
                  refine lv_istore (lv' := [(8, .int (iI (x_127))), (10, .int (iI ((-1)))), (9, .int (iI ((k : Int)))), (7, .int (iI (x))), (6, .int (iI (w))), (5, .int (iI (h))), (4, .ref (ad 47)), (3, .ref (ad 46)), (2, .ref (ad 44)), (1, .ref (ad 43)), (0, .ref (ad 0))]) hx hb dL_isHour_127 hl (by decide) rfl (fun ls hl => ?_)
                  refine lv_iload hx hb dL_isHour_129 (lv_at hl 1 rfl) ?_
                  refine zf_lt (tgt := 157) hx hb dL_isHour_131 (by decide) (by first | decide | (constructor <;> omega)) (fun c_131 => ?_) (fun c_131 => ?_)
                  · refine zi_iinc (lv' := [(9, .int (iI ((k : Int) + 1))), (8, .int (iI (x_127))), (10, .int (iI ((-1)))), (7, .int (iI (x))), (6, .int (iI (w))), (5, .int (iI (h))), (4, .ref (ad 47)), (3, .ref (ad 46)), (2, .ref (ad 44)), (1, .ref (ad 43)), (0, .ref (ad 0))]) hx hb dL_isHour_157 hl (k := 2) rfl (by decide) rfl (fun ls hl => ?_)
                    refine lv_goto (tgt := 95) hx hb dL_isHour_160 (by decide) ?_
                    have hs9 : sl (fun j => bI (tkn (bsY pr) (FY pr (yi 5) 10000) h j 10)) (k + 1) = sl (fun j => bI (tkn (bsY pr) (FY pr (yi 5) 10000) h j 10)) k + 0 := by simp only [sl]; rw [ht9]; rfl
                    exact ih (k + 1) x_127 _ _ _ (by omega) (by omega) (by omega) hw hS (lv_sub hl [0, 1, 3, 4, 5, 6, 7, 8, 9, 10] rfl)
                  · exfalso; omega
              · obtain ⟨r, hr9⟩ : ∃ r : Nat, z_109 = (r : Int) := ⟨z_109.toNat, by omega⟩
                subst hr9
                rw [Int.toNat_natCast] at hp9
                obtain ⟨e0, -⟩ := hla.at (i := r) (by omega) hp9
                refine lv_istore (lv' := [(10, .int (iI ((r : Int)))), (9, .int (iI ((k : Int)))), (8, .int (iI (y))), (7, .int (iI (x))), (6, .int (iI (w))), (5, .int (iI (h))), (4, .ref (ad 47)), (3, .ref (ad 46)), (2, .ref (ad 44)), (1, .ref (ad 43)), (0, .ref (ad 0))]) hx hb dL_isHour_112 hl (by decide) rfl (fun ls hl => ?_)
                refine lv_iload hx hb dL_isHour_114 (lv_at hl 2 rfl) ?_
                refine lv_iload hx hb dL_isHour_116 (lv_at hl 0 rfl) ?_
                refine zf_ge (tgt := 125) hx hb dL_isHour_118 (by decide) (by first | decide | (constructor <;> omega)) (fun c_118 => ?_) (fun c_118 => ?_)
                · refine zi_const hx hb dL_isHour_125 ?_
                  refine zi_add hx hb dL_isHour_126 ?_
                  refine zi_top (fun x_127 hx_127 => ?_)
                  refine lv_istore (lv' := [(8, .int (iI (x_127))), (10, .int (iI ((r : Int)))), (9, .int (iI ((k : Int)))), (7, .int (iI (x))), (6, .int (iI (w))), (5, .int (iI (h))), (4, .ref (ad 47)), (3, .ref (ad 46)), (2, .ref (ad 44)), (1, .ref (ad 43)), (0, .ref (ad 0))]) hx hb dL_isHour_127 hl (by decide) rfl (fun ls hl => ?_)
                  refine lv_iload hx hb dL_isHour_129 (lv_at hl 1 rfl) ?_
                  refine zf_lt (tgt := 157) hx hb dL_isHour_131 (by decide) (by first | decide | (constructor <;> omega)) (fun c_131 => ?_) (fun c_131 => ?_)
                  · exfalso; omega
                  · refine lv_aload_n hx hb dL_isHour_134 rfl (lv_at hl 9 rfl) ?_
                    refine lv_iload hx hb dL_isHour_135 (lv_at hl 1 rfl) ?_
                    refine l_ald hx hb hE hw 0 (by decide) r rfl (by unfold rowN; simp; omega) dL_isHour_137 ?_
                    refine zi_top (fun v_137 hv_137 => ?_)
                    refine zf_eq (tgt := 155) hx hb dL_isHour_138 (by decide) (by first | decide | (constructor <;> omega)) (fun c_138 => ?_) (fun c_138 => ?_)
                    · exfalso; omega
                    · refine lv_aload_n hx hb dL_isHour_141 rfl (lv_at hl 10 rfl) ?_
                      refine lv_aload_n hx hb dL_isHour_142 rfl (lv_at hl 7 rfl) ?_
                      refine lv_aload hx hb dL_isHour_143 (lv_at hl 6 rfl) ?_
                      refine lv_iload hx hb dL_isHour_145 (lv_at hl 1 rfl) ?_
                      refine lv_iload hx hb dL_isHour_147 (lv_at hl 5 rfl) ?_
                      refine zcalli (va_runS (As := [.ref (ad 0), .ref (ad 46), .ref (ad 47), .int (iI ((r : Int))), .int (iI (h))]) (rest := []) ⟨hx, hb, hml, hown, hts⟩ (c_L_isBusy l D cy A ad T yi pr la _ (r) p9 (h) hw hys hla (by omega) hp9 (by omega)) (va_cwS 5 hts gL_isHour_L_isBusy rfl rfl rfl (by decide +kernel) ⟨(Nat.le_of_ble_eq_true rfl), (Nat.le_of_ble_eq_true rfl)⟩) (zPS hE hS) rfl rfl hl.1 rfl (lv_room (Nat.le_of_ble_eq_true rfl)) dL_isHour_149 ⟨(Nat.le_of_ble_eq_true rfl), (Nat.le_of_ble_eq_true rfl)⟩) hS (fun z_149 H1 locs hz_149 hq hz1 hk1 hS => ?_)
                      obtain ⟨hw, hv_149⟩ := hq
                      refine zf_ne (tgt := 157) hx hb dL_isHour_152 (by decide) (by first | decide | (constructor <;> omega)) (fun c_152 => ?_) (fun c_152 => ?_)
                      · refine zi_iinc (lv' := [(9, .int (iI ((k : Int) + 1))), (8, .int (iI (x_127))), (10, .int (iI ((r : Int)))), (7, .int (iI (x))), (6, .int (iI (w))), (5, .int (iI (h))), (4, .ref (ad 47)), (3, .ref (ad 46)), (2, .ref (ad 44)), (1, .ref (ad 43)), (0, .ref (ad 0))]) hx hb dL_isHour_157 hl (k := 2) rfl (by decide) rfl (fun ls hl => ?_)
                        refine lv_goto (tgt := 95) hx hb dL_isHour_160 (by decide) ?_
                        have hs9 : sl (fun j => bI (tkn (bsY pr) (FY pr (yi 5) 10000) h j 10)) (k + 1) = sl (fun j => bI (tkn (bsY pr) (FY pr (yi 5) 10000) h j 10)) k + 1 := by simp only [sl]; rw [ht9]; rfl
                        exact ih (k + 1) x_127 _ _ _ (by omega) (by omega) (by omega) hw hS (lv_sub hl [0, 1, 3, 4, 5, 6, 7, 8, 9, 10] rfl)
                      · exfalso; omega
                · exfalso; omega
        exact loop_95 61 0 0 _ _ _ (by omega) (by omega) rfl hw hS (lv_sub hl [0, 1, 2, 3, 4, 5, 6, 7, 8, 9] rfl)
      · rcases hl0 i (by omega) with ⟨m0, hpi⟩ | ⟨m0, p0, hpi, m1, m2, m3⟩
        · refine lv_aload_n hx hb dL_isHour_16 rfl (lv_at hl 7 rfl) ?_
          refine lv_iload hx hb dL_isHour_17 (lv_at hl 0 rfl) ?_
          refine l_ald hx hb hE hw 0 (by decide) i rfl (by unfold rowN; simp; omega) dL_isHour_19 ?_
          refine zi_top (fun v_19 hv_19 => ?_)
          refine zi_const hx hb dL_isHour_20 ?_
          refine zc_ne (tgt := 42) hx hb dL_isHour_21 (by decide) (by first | decide | (constructor <;> omega)) (by first | decide | (constructor <;> omega)) (fun c_21 => ?_) (fun c_21 => ?_)
          · refine zi_const hx hb dL_isHour_42 ?_
            refine lv_istore (lv' := [(9, .int (iI (0))), (8, .int (iI ((i : Int)))), (7, .int (iI (x))), (6, .int (iI (w))), (5, .int (iI (h))), (4, .ref (ad 47)), (3, .ref (ad 46)), (2, .ref (ad 44)), (1, .ref (ad 43)), (0, .ref (ad 0))]) hx hb dL_isHour_43 hl (by decide) rfl (fun ls hl => ?_)
            refine lv_iload hx hb dL_isHour_45 (lv_at hl 3 rfl) ?_
            refine lv_iload hx hb dL_isHour_47 (lv_at hl 0 rfl) ?_
            refine zf_eq (tgt := 59) hx hb dL_isHour_49 (by decide) (by first | decide | (constructor <;> omega)) (fun c_49 => ?_) (fun c_49 => ?_)
            · refine zi_const hx hb dL_isHour_59 ?_
              refine zi_add hx hb dL_isHour_60 ?_
              refine zi_top (fun x_61 hx_61 => ?_)
              refine lv_istore (lv' := [(6, .int (iI (x_61))), (9, .int (iI (0))), (8, .int (iI ((i : Int)))), (7, .int (iI (x))), (5, .int (iI (h))), (4, .ref (ad 47)), (3, .ref (ad 46)), (2, .ref (ad 44)), (1, .ref (ad 43)), (0, .ref (ad 0))]) hx hb dL_isHour_61 hl (by decide) rfl (fun ls hl => ?_)
              refine lv_iload hx hb dL_isHour_63 (lv_at hl 3 rfl) ?_
              refine lv_iload hx hb dL_isHour_65 (lv_at hl 1 rfl) ?_
              refine zf_eq (tgt := 79) hx hb dL_isHour_67 (by decide) (by first | decide | (constructor <;> omega)) (fun c_67 => ?_) (fun c_67 => ?_)
              · refine zi_const hx hb dL_isHour_79 ?_
                refine zi_add hx hb dL_isHour_80 ?_
                refine zi_top (fun x_81 hx_81 => ?_)
                refine lv_istore (lv' := [(7, .int (iI (x_81))), (6, .int (iI (x_61))), (9, .int (iI (0))), (8, .int (iI ((i : Int)))), (5, .int (iI (h))), (4, .ref (ad 47)), (3, .ref (ad 46)), (2, .ref (ad 44)), (1, .ref (ad 43)), (0, .ref (ad 0))]) hx hb dL_isHour_81 hl (by decide) rfl (fun ls hl => ?_)
                refine zi_iinc (lv' := [(8, .int (iI ((i : Int) + 1))), (7, .int (iI (x_81))), (6, .int (iI (x_61))), (9, .int (iI (0))), (5, .int (iI (h))), (4, .ref (ad 47)), (3, .ref (ad 46)), (2, .ref (ad 44)), (1, .ref (ad 43)), (0, .ref (ad 0))]) hx hb dL_isHour_83 hl (k := 3) rfl (by decide) rfl (fun ls hl => ?_)
                refine lv_goto (tgt := 9) hx hb dL_isHour_86 (by decide) ?_
                exact ih (i + 1) x_61 x_81 _ _ _ (by omega) (by omega) (by rw [nY_n hpi]; omega) (by rw [gS_n hpi]; omega) hw hS (lv_sub hl [0, 1, 2, 4, 5, 6, 7, 8, 9] rfl)
              · exfalso; omega
            · exfalso; omega
          · exfalso; omega
        · have hbp := hys.b9 i p0 (by omega) hpi
          refine lv_aload_n hx hb dL_isHour_16 rfl (lv_at hl 7 rfl) ?_
          refine lv_iload hx hb dL_isHour_17 (lv_at hl 0 rfl) ?_
          refine l_ald hx hb hE hw 0 (by decide) i rfl (by unfold rowN; simp; omega) dL_isHour_19 ?_
          refine zi_top (fun v_19 hv_19 => ?_)
          refine zi_const hx hb dL_isHour_20 ?_
          refine zc_ne (tgt := 42) hx hb dL_isHour_21 (by decide) (by first | decide | (constructor <;> omega)) (by first | decide | (constructor <;> omega)) (fun c_21 => ?_) (fun c_21 => ?_)
          · exfalso; omega
          · refine lv_aload_n hx hb dL_isHour_24 rfl (lv_at hl 8 rfl) ?_
            refine lv_aload_n hx hb dL_isHour_25 rfl (lv_at hl 5 rfl) ?_
            refine lv_aload hx hb dL_isHour_26 (lv_at hl 4 rfl) ?_
            refine lv_iload hx hb dL_isHour_28 (lv_at hl 0 rfl) ?_
            refine lv_iload hx hb dL_isHour_30 (lv_at hl 3 rfl) ?_
            refine zcalli (va_runS (As := [.ref (ad 0), .ref (ad 46), .ref (ad 47), .int (iI ((i : Int))), .int (iI (h))]) (rest := []) ⟨hx, hb, hml, hown, hts⟩ (c_L_isBusy l D cy A ad T yi pr la _ (i) p0 (h) hw hys hla (by omega) hpi (by omega)) (va_cwS 5 hts gL_isHour_L_isBusy rfl rfl rfl (by decide +kernel) ⟨(Nat.le_of_ble_eq_true rfl), (Nat.le_of_ble_eq_true rfl)⟩) (zPS hE hS) rfl rfl hl.1 rfl (lv_room (Nat.le_of_ble_eq_true rfl)) dL_isHour_32 ⟨(Nat.le_of_ble_eq_true rfl), (Nat.le_of_ble_eq_true rfl)⟩) hS (fun z_32 H1 locs hz_32 hq hz1 hk1 hS => ?_)
            obtain ⟨hw, hv_32⟩ := hq
            refine zf_eq (tgt := 42) hx hb dL_isHour_35 (by decide) (by first | decide | (constructor <;> omega)) (fun c_35 => ?_) (fun c_35 => ?_)
            · have hnb : ¬ (p0.1 9 ≤ h ∧ h < p0.1 10) := by omega
              refine zi_const hx hb dL_isHour_42 ?_
              refine lv_istore (lv' := [(9, .int (iI (0))), (8, .int (iI ((i : Int)))), (7, .int (iI (x))), (6, .int (iI (w))), (5, .int (iI (h))), (4, .ref (ad 47)), (3, .ref (ad 46)), (2, .ref (ad 44)), (1, .ref (ad 43)), (0, .ref (ad 0))]) hx hb dL_isHour_43 hl (by decide) rfl (fun ls hl => ?_)
              refine lv_iload hx hb dL_isHour_45 (lv_at hl 3 rfl) ?_
              refine lv_iload hx hb dL_isHour_47 (lv_at hl 0 rfl) ?_
              refine zf_eq (tgt := 59) hx hb dL_isHour_49 (by decide) (by first | decide | (constructor <;> omega)) (fun c_49 => ?_) (fun c_49 => ?_)
              · refine zi_const hx hb dL_isHour_59 ?_
                refine zi_add hx hb dL_isHour_60 ?_
                refine zi_top (fun x_61 hx_61 => ?_)
                refine lv_istore (lv' := [(6, .int (iI (x_61))), (9, .int (iI (0))), (8, .int (iI ((i : Int)))), (7, .int (iI (x))), (5, .int (iI (h))), (4, .ref (ad 47)), (3, .ref (ad 46)), (2, .ref (ad 44)), (1, .ref (ad 43)), (0, .ref (ad 0))]) hx hb dL_isHour_61 hl (by decide) rfl (fun ls hl => ?_)
                refine lv_iload hx hb dL_isHour_63 (lv_at hl 3 rfl) ?_
                refine lv_iload hx hb dL_isHour_65 (lv_at hl 1 rfl) ?_
                refine zf_eq (tgt := 79) hx hb dL_isHour_67 (by decide) (by first | decide | (constructor <;> omega)) (fun c_67 => ?_) (fun c_67 => ?_)
                · refine zi_const hx hb dL_isHour_79 ?_
                  refine zi_add hx hb dL_isHour_80 ?_
                  refine zi_top (fun x_81 hx_81 => ?_)
                  refine lv_istore (lv' := [(7, .int (iI (x_81))), (6, .int (iI (x_61))), (9, .int (iI (0))), (8, .int (iI ((i : Int)))), (5, .int (iI (h))), (4, .ref (ad 47)), (3, .ref (ad 46)), (2, .ref (ad 44)), (1, .ref (ad 43)), (0, .ref (ad 0))]) hx hb dL_isHour_81 hl (by decide) rfl (fun ls hl => ?_)
                  refine zi_iinc (lv' := [(8, .int (iI ((i : Int) + 1))), (7, .int (iI (x_81))), (6, .int (iI (x_61))), (9, .int (iI (0))), (5, .int (iI (h))), (4, .ref (ad 47)), (3, .ref (ad 46)), (2, .ref (ad 44)), (1, .ref (ad 43)), (0, .ref (ad 0))]) hx hb dL_isHour_83 hl (k := 3) rfl (by decide) rfl (fun ls hl => ?_)
                  refine lv_goto (tgt := 9) hx hb dL_isHour_86 (by decide) ?_
                  exact ih (i + 1) x_61 x_81 _ _ _ (by omega) (by omega) (by rw [nY_s hpi, if_neg hnb]; omega) (by rw [gS_0 hpi hnb]; omega) hw hS (lv_sub hl [0, 1, 2, 4, 5, 6, 7, 8, 9] rfl)
                · exfalso; omega
              · exfalso; omega
            · have hbz : p0.1 9 ≤ h ∧ h < p0.1 10 := by omega
              have hc9 := FY_cnt (n := yi 5) hys (by omega) hpi
              refine zi_const hx hb dL_isHour_38 ?_
              refine lv_goto (tgt := 43) hx hb dL_isHour_39 (by decide) ?_
              refine lv_istore (lv' := [(9, .int (iI (1))), (8, .int (iI ((i : Int)))), (7, .int (iI (x))), (6, .int (iI (w))), (5, .int (iI (h))), (4, .ref (ad 47)), (3, .ref (ad 46)), (2, .ref (ad 44)), (1, .ref (ad 43)), (0, .ref (ad 0))]) hx hb dL_isHour_43 hl (by decide) rfl (fun ls hl => ?_)
              refine lv_iload hx hb dL_isHour_45 (lv_at hl 3 rfl) ?_
              refine lv_iload hx hb dL_isHour_47 (lv_at hl 0 rfl) ?_
              refine zf_eq (tgt := 59) hx hb dL_isHour_49 (by decide) (by first | decide | (constructor <;> omega)) (fun c_49 => ?_) (fun c_49 => ?_)
              · exfalso; omega
              · refine lv_aload_n hx hb dL_isHour_52 rfl (lv_at hl 7 rfl) ?_
                refine lv_iload hx hb dL_isHour_53 (lv_at hl 1 rfl) ?_
                refine l_ald hx hb hE hw 1 (by decide) i rfl (by unfold rowN; simp; omega) dL_isHour_55 ?_
                refine zi_top (fun v_55 hv_55 => ?_)
                refine lv_goto (tgt := 60) hx hb dL_isHour_56 (by decide) ?_
                refine zi_add hx hb dL_isHour_60 ?_
                refine zi_top (fun x_61 hx_61 => ?_)
                refine lv_istore (lv' := [(6, .int (iI (x_61))), (9, .int (iI (1))), (8, .int (iI ((i : Int)))), (7, .int (iI (x))), (5, .int (iI (h))), (4, .ref (ad 47)), (3, .ref (ad 46)), (2, .ref (ad 44)), (1, .ref (ad 43)), (0, .ref (ad 0))]) hx hb dL_isHour_61 hl (by decide) rfl (fun ls hl => ?_)
                refine lv_iload hx hb dL_isHour_63 (lv_at hl 3 rfl) ?_
                refine lv_iload hx hb dL_isHour_65 (lv_at hl 1 rfl) ?_
                refine zf_eq (tgt := 79) hx hb dL_isHour_67 (by decide) (by first | decide | (constructor <;> omega)) (fun c_67 => ?_) (fun c_67 => ?_)
                · exfalso; omega
                · refine lv_aload_n hx hb dL_isHour_70 rfl (lv_at hl 9 rfl) ?_
                  refine lv_iload hx hb dL_isHour_71 (lv_at hl 2 rfl) ?_
                  refine zcalli (va_runV (As := [.int (iI ((i : Int)))]) (rest := [.int (iI (x))]) ⟨hx, hb, hml, hown, hts⟩ (c_Q_panelsOf l D cy A ad T yi pr la _ (i) p0 hw hys (by omega) hpi) (cwV 1 hts gL_isHour_X1_panelsOf rfl rfl rfl (by decide +kernel) ⟨(Nat.le_of_ble_eq_true rfl), (Nat.le_of_ble_eq_true rfl)⟩) (l_PV hE hS hw) rfl rfl hl.1 rfl (lv_room (Nat.le_of_ble_eq_true rfl)) dL_isHour_73 ⟨(Nat.le_of_ble_eq_true rfl), (Nat.le_of_ble_eq_true rfl)⟩) hS (fun z_73 H1 locs hz_73 hq hz1 hk1 hS => ?_)
                  obtain ⟨hw, hv_73⟩ := hq
                  refine lv_goto (tgt := 80) hx hb dL_isHour_76 (by decide) ?_
                  refine zi_add hx hb dL_isHour_80 ?_
                  refine zi_top (fun x_81 hx_81 => ?_)
                  refine lv_istore (lv' := [(7, .int (iI (x_81))), (6, .int (iI (x_61))), (9, .int (iI (1))), (8, .int (iI ((i : Int)))), (5, .int (iI (h))), (4, .ref (ad 47)), (3, .ref (ad 46)), (2, .ref (ad 44)), (1, .ref (ad 43)), (0, .ref (ad 0))]) hx hb dL_isHour_81 hl (by decide) rfl (fun ls hl => ?_)
                  refine zi_iinc (lv' := [(8, .int (iI ((i : Int) + 1))), (7, .int (iI (x_81))), (6, .int (iI (x_61))), (9, .int (iI (1))), (5, .int (iI (h))), (4, .ref (ad 47)), (3, .ref (ad 46)), (2, .ref (ad 44)), (1, .ref (ad 43)), (0, .ref (ad 0))]) hx hb dL_isHour_83 hl (k := 3) rfl (by decide) rfl (fun ls hl => ?_)
                  refine lv_goto (tgt := 9) hx hb dL_isHour_86 (by decide) ?_
                  exact ih (i + 1) x_61 x_81 _ _ _ (by omega) (by omega) (by rw [nY_s hpi, if_pos hbz]; omega) (by rw [gS_1 hpi hbz]; omega) hw hS (lv_sub hl [0, 1, 2, 4, 5, 6, 7, 8, 9] rfl)
  exact loop_9 11 0 0 0 _ _ _ (by omega) (by omega) rfl rfl hw hS (lv_sub hl [0, 1, 2, 8, 7, 6, 5, 4, 3] rfl)
end
