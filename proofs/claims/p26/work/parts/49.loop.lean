/-! THE CLAIM OUT OF ONE WALK OF THE LAW'S BODY. Your part is whole_start (and what it stands on); all else here is the same for every law, but numbers. -/
def R_law : String := "FormworkYardLaw"
def lw_P (b : Addr) (xs : List Int32) (args : Array Value) (s : State) : Prop := args = #[.ref b] ∧ s.IntsAt b xs ∧ xs.length ≤ 260 ∧ (Jvm.Cond.and given_1 narrow_1).before args s = true
def lw_Q (_ : Array Value) (s : State) (o : Outcome) (t : State) : Prop := o = .returned (some (.int 1)) ∧ Framed s o t [] 600104 7301314
def lw_Z (below : List Frame) (a : Array Value) (s : State) : State → Prop := fun t => ∃ o, t.status = .running ∧ Ended t below o ∧ lw_Q a s o t
/-- the law's own end, with 1 on the stack, nothing written that was there before, its room as the claim has it -/
theorem lw_ret {p : Program} {l : Launch} {e : Env} {s : State} {m : MethodId} {below : List Frame} {meth : Method} {c : Code} {b : Nat} (hx : p.tables.exec = Jvm.exec) (hb : c.code = code) (hr : meth.sig.returnType = ret) (hlocks : meth.locks = false) {pc : Nat} {H : Heap} {ls : Array Slot} (hdg : decode code pc = .ok (.ireturn, 1)) : W p l e room_1 s m #[Value.ref b] below meth c H [] 600104 7301314 (lw_Z below #[Value.ref b] s) (F0 m pc ls [.int 1]) := by
  intro T hT X
  obtain ⟨fs, hret, hrun, hended, hW, hframe⟩ := X.leave (v := some (.int 1)) (hlocks := hlocks) (fun h => by rw [hr] at h; cases h)
  have hmeth' : T.vm.method? m = some meth := X.method'
  refine ⟨T.setFrames fs, ?_, .returned (some (.int 1)), hrun, hended, rfl, ⟨_, rfl⟩, hW, hframe⟩
  jvm_step X.here [X.here.top, hx, hb, hdg, hmeth', hr, ret, narrow_b1]
  (try refine ⟨rfl, ?_⟩); (try refine ⟨rfl, ?_⟩)
  first | (intro acts; rw [hret _ acts rfl rfl rfl]) | rw [hret _ _ rfl rfl rfl]
  exact Steps.refl _
/-- what holds at the law's entry: the machine, the code, the tables' words (any of lw_tbl by 'hts w (by decide +kernel)'), the script of L ints xs at the cell b, what the Statement gives of the start (any of its parts by flat_of_before) -/
def lw_At (p : Program) (s : State) (m : MethodId) (meth : Method) (c : Code) (b L : Nat) (xs : Nat → Int32) : Prop :=
  p.tables.exec = Jvm.exec ∧ c.code = code ∧ meth.sig.returnType = ret ∧ c.maxLocals = 16 ∧ s.vm.findClass R_law = some m.cls ∧ (∀ w ∈ lw_tbl, w.before #[Value.ref b] s = true) ∧ va_X b L xs s s.heap ∧ b < s.heap.size ∧ meth.locks = false ∧ (Jvm.Cond.and given_1 narrow_1).before #[Value.ref b] s = true
set_option maxHeartbeats 4000000 in
set_option maxRecDepth 100000 in
/-- the law's loop, from turn k on -/
theorem law_loop {p : Program} {l : Launch} {e : Env} {s : State} {m : MethodId} {below : List Frame} {meth : Method} {c : Code} {b L : Nat} {xs : Nat → Int32} (hL : L ≤ 260) (C0 : lw_At p s m meth c b L xs) {D : va_G} {cy : Nat → ClassId} {A : Nat → Prop} (hE : EN D cy A s s.heap) (hAf : ∀ q, s.heap.size ≤ q → A q) (hAw : ∀ q, A q → s.heap.size ≤ q) {x0 r0 r1 r2 r3 r4 : Nat} :
    ∀ (n k : Nat), k ≤ 40 → 40 < k + n → ∀ (H : Heap) (locs : List Loc) (ls : Array Slot), va_S A s.heap H locs → LI D cy A x0 r0 r1 r2 r3 r4 H → lv_has ls 16 [(0, .ref b), (1, .ref x0), (2, .ref r0), (3, .ref r1), (4, .ref r2), (5, .ref r3), (6, .ref r4), (7, .int (iI (k : Int)))] → W p l e room_1 s m #[Value.ref b] below meth c H locs (11 + 3 * k) (4064 + 21 * k) (lw_Z below #[Value.ref b] s) (F0 m 54 ls []) := by
  obtain ⟨hx, hb, hr, hml, hown, hts, hX, hbl, hlocks, hgv⟩ := C0
  have hb : c.code = cL_law := hb
  have hown : s.vm.findClass RL = some m.cls := hown
  have htsL : ∀ w ∈ wsL_law, w.before #[Value.ref b] s = true := fun w h => hts w (in_law w h)
  have hbA : ¬ A b := fun h => by have := hAw b h; omega
  have hC : LC p s m c b D cy A := ⟨⟨hx, hb, hml, hown, htsL⟩, hE, hAf⟩
  intro n
  induction n with
  | zero =>
    intro k h1 h2
    exact absurd h2 (by omega)
  | succ n ih =>
    intro k hk1 hk2 H locs ls hS hI hl
    obtain ⟨ad, T, yi, pr, la, rfl, rfl, rfl, rfl, rfl, rfl, hw, hys, hla⟩ := hI
    have hc1 : 11 + 3 * k + 3 ≤ room_1.cells := Nat.le_trans (by omega : 11 + 3 * k + 3 ≤ 600104) (Nat.le_of_ble_eq_true rfl)
    have hs1 : 4064 + 21 * k + 21 ≤ room_1.slots := Nat.le_trans (by omega : 4064 + 21 * k + 21 ≤ 7301314) (Nat.le_of_ble_eq_true rfl)
    have hc2 : 11 + 3 * k + 3 + 3 ≤ room_1.cells := Nat.le_trans (by omega : 11 + 3 * k + 3 + 3 ≤ 600104) (Nat.le_of_ble_eq_true rfl)
    have hs2 : 4064 + 21 * k + 21 + 21 ≤ room_1.slots := Nat.le_trans (by omega : 4064 + 21 * k + 21 + 21 ≤ 7301314) (Nat.le_of_ble_eq_true rfl)
    refine k_head hC hS hc1 hs1 hX hbl hbA hL hw hys hla hk1 hl (fun H1 locs1 ls1 v w o i hk40 hzv hzw ho hi hS1 hw1 hl1 => ?_) (fun H1 locs1 ls1 hk40 hS1 hw1 hl1 => ?_)
    · have tail : ∀ (H2 : Heap) (locs2 : List Loc) (ls2 : Array Slot), va_S A s.heap H2 locs2 → LI D cy A (ad 0) (ad 43) (ad 44) (ad 45) (ad 46) (ad 47) H2 → lv_has ls2 16 [(0, .ref b), (1, .ref (ad 0)), (2, .ref (ad 43)), (3, .ref (ad 44)), (4, .ref (ad 45)), (5, .ref (ad 46)), (6, .ref (ad 47)), (7, .int (iI (k : Int))), (9, .int (iI (w)))] → W p l e room_1 s m #[Value.ref b] below meth c H2 locs2 (11 + 3 * k + 3) (4064 + 21 * k + 21) (lw_Z below #[Value.ref b] s) (F0 m 506 ls2 []) := by
        intro H2 locs2 ls2 hS2 hI2 hl2
        obtain ⟨ad2, T2, yi2, pr2, la2, g0, g1, g2, g3, g4, g5, hw2, hys2, hla2⟩ := hI2
        rw [← g0, ← g1, ← g2, ← g3, ← g4, ← g5] at hl2
        refine k_t1 hC hS2 hc2 hs2 hw2 hys2 hla2 hl2 (fun H3 locs3 ls3 hS3 hw3 hl3 => ?_)
        refine k_t2 hC hS3 hc2 hs2 hw3 hys2 hla2 hzw hl3 (fun H4 locs4 ls4 hS4 hw4 hl4 => ?_)
        rw [g0, g1, g2, g3, g4, g5] at hl4
        refine zi_iinc (k := 7) (lv' := [(7, .int (iI ((k : Int) + 1))), (0, .ref b), (1, .ref (ad 0)), (2, .ref (ad 43)), (3, .ref (ad 44)), (4, .ref (ad 45)), (5, .ref (ad 46)), (6, .ref (ad 47))]) hx hb dL_law_646 hl4 rfl (by decide) rfl (fun ls5 hl5 => ?_)
        refine lv_goto (tgt := 54) hx hb dL_law_649 (by decide) ?_
        have e1 : (k : Int) + 1 = ((k + 1 : Nat) : Int) := by omega
        rw [e1] at hl5
        exact W.widen (k := 11 + 3 * (k + 1)) (n := 4064 + 21 * (k + 1)) (by omega) (by omega) (ih (k + 1) (by omega) (by omega) H4 locs4 ls5 hS4 ⟨ad2, T2, yi2, pr2, la2, g0, g1, g2, g3, g4, g5, hw4, hys2, hla2⟩ (lv_sub hl5 [1, 2, 3, 4, 5, 6, 7, 0] rfl))
      exact k_plan hC hS1 hc1 hs1 hw1 hys hla hzv hzw ho hi hl1 tail (fun H2 locs2 ls2 hS2 hw2 hl2 => k_cancel hC hS2 hc1 hs1 hw2 hys hla hzv hzw ho hi hl2 tail (fun H3 locs3 ls3 hS3 hw3 hl3 => k_move hC hS3 hc1 hs1 hw3 hys hla hzv hzw ho hi hl3 tail (fun H4 locs4 ls4 hS4 hw4 hl4 => k_rest hC hS4 hc1 hs1 hw4 hys hla hzv hzw ho hi hl4 tail)))
    · refine lv_iconst (v := 1) hx hb dL_law_652 (by decide) ?_
      refine va_forget (fun q hq => hAw _ (hS1.2.2 q hq)) ?_
      refine W.widen (k := 600104) (n := 7301314) (by omega) (by omega) ?_
      exact lw_ret hx hb hr hlocks dL_law_653
