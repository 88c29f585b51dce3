/-! THE CLAIM OUT OF ONE WALK OF THE LAW'S BODY. Your part is whole_start (and what it stands on); all else here is the same for every law, but numbers. -/
def R_law : String := "FormworkYardLaw"
def lw_P (b : Addr) (xs : List Int32) (args : Array Value) (s : State) : Prop := args = #[.ref b] ∧ s.IntsAt b xs ∧ xs.length ≤ 2560 ∧ (Jvm.Cond.and given_1 narrow_1).before args s = true
def lw_Q (_ : Array Value) (s : State) (o : Outcome) (t : State) : Prop := o = .returned (some (.int 1)) ∧ Framed s o t [] 601024 7293034
def lw_Z (below : List Frame) (a : Array Value) (s : State) : State → Prop := fun t => ∃ o, t.status = .running ∧ Ended t below o ∧ lw_Q a s o t
/-- the law's own end, with 1 on the stack, nothing written that was there before, its room as the claim has it -/
theorem lw_ret {p : Program} {l : Launch} {e : Env} {s : State} {m : MethodId} {below : List Frame} {meth : Method} {c : Code} {b : Nat} (hx : p.tables.exec = Jvm.exec) (hb : c.code = code) (hr : meth.sig.returnType = ret) (hlocks : meth.locks = false) {pc : Nat} {H : Heap} {ls : Array Slot} (hdg : decode code pc = .ok (.ireturn, 1)) : W p l e room_1 s m #[Value.ref b] below meth c H [] 601024 7293034 (lw_Z below #[Value.ref b] s) (F0 m pc ls [.int 1]) := by
  intro T hT X
  obtain ⟨fs, hret, hrun, hended, hW, hframe⟩ := X.leave (v := some (.int 1)) (hlocks := hlocks) (fun h => by rw [hr] at h; cases h)
  have hmeth' : T.vm.method? m = some meth := X.method'
  refine ⟨T.setFrames fs, ?_, .returned (some (.int 1)), hrun, hended, rfl, ⟨_, rfl⟩, hW, hframe⟩
  jvm_step X.here [X.here.top, hx, hb, hdg, hmeth', hr, ret, narrow_b1]
  (try refine ⟨rfl, ?_⟩); (try refine ⟨rfl, ?_⟩)
  first | (intro acts; rw [hret _ acts rfl rfl rfl]) | rw [hret _ _ rfl rfl rfl]
  exact Steps.refl _
/-- what holds at the law's entry: the machine, the code, the tables' words (any of lw_tbl by 'hts w (by decide +kernel)'), the script of L ints xs at the cell b, what the Statement gives of the start (any of its parts by flat_of_before) -/
def lw_At (p : Program) (s : State) (m : MethodId) (meth : Method) (c : Code) (b L : Nat) (xs : Nat → Int32) : Prop :=
  p.tables.exec = Jvm.exec ∧ c.code = code ∧ meth.sig.returnType = ret ∧ c.maxLocals = 7 ∧ s.vm.findClass R_law = some m.cls ∧ (∀ w ∈ lw_tbl, w.before #[Value.ref b] s = true) ∧ va_X b L xs s s.heap ∧ b < s.heap.size ∧ meth.locks = false ∧ (Jvm.Cond.and given_1 narrow_1).before #[Value.ref b] s = true
set_option maxHeartbeats 4000000 in
set_option maxRecDepth 100000 in
/-- the law's loop: before call number k the two agree -/
theorem law_loop {p : Program} {l : Launch} {e : Env} {s : State} {m : MethodId} {below : List Frame} {meth : Method} {c : Code} {b L : Nat} {xs : Nat → Int32} (hL : L ≤ 2560) (C0 : lw_At p s m meth c b L xs) {D : va_G} {cy : Nat → ClassId} {AY AM : Nat → Prop} (hlf : l.stackTraces = false) (hE : EN D cy (fun q => s.heap.size ≤ q) s s.heap) (hY : ∀ q, AY q → s.heap.size ≤ q) (hM : ∀ q, AM q → s.heap.size ≤ q) (hYM : ∀ q, AY q → ¬ AM q) {n0 x0 m0 o0 : Nat} (hAf : ∀ q, n0 ≤ q → AY q) :
    ∀ (n k : Nat), 5 * k ≤ L → L < 5 * k + 5 * n → ∀ (H : Heap) (locs : List Loc) (ls : Array Slot), va_S (fun q => s.heap.size ≤ q) s.heap H locs → LI D cy AY AM n0 x0 m0 o0 H → lv_has ls 7 (lvB b x0 m0 o0 (5 * k)) → W p l e room_1 s m #[Value.ref b] below meth c H locs (21 + 3 * k) (5828 + 21 * k) (lw_Z below #[Value.ref b] s) (F0 m 23 ls []) := by
  obtain ⟨hx, hb, hr, hml, hown, hts, hX, hbl, hlocks, hgv⟩ := C0
  have hb : c.code = cL_law := hb
  have hown : s.vm.findClass RL = some m.cls := hown
  have htsL : ∀ w ∈ wsL_law, w.before #[Value.ref b] s = true := fun w h => hts w (in_law w h)
  have hbA : ¬ (fun q : Nat => s.heap.size ≤ q) b := Nat.not_le.mpr hbl
  have hC : LC p l s m c b D cy (fun q => s.heap.size ≤ q) AY := ⟨⟨hx, hb, hml, hown, htsL⟩, hlf, hE, hY⟩
  intro n
  induction n with
  | zero =>
    intro k h1 h2
    exact absurd h2 (by omega)
  | succ n ih =>
    intro k hk1 hk2 H locs ls hS hI hl
    have hl0 : lv_has ls 7 [(0, .ref b), (1, .ref x0), (2, .ref m0), (3, .ref o0), (4, .int (iI ((5 * k : Nat) : Int)))] := hl
    refine lv_iload hx hb dL_law_23 (lv_at hl0 4 rfl) ?_
    refine lv_aload_n hx hb dL_law_25 rfl (lv_at hl0 0 rfl) ?_
    refine va_slen hx hb hX hbl hbA hS dL_law_26 ?_
    rw [iI_n]
    refine zi_const hx hb dL_law_27 ?_
    refine zi_sub hx hb dL_law_28 ?_
    refine zc_gt (tgt := 1406) hx hb dL_law_29 (by decide) ⟨by omega, by omega⟩ ⟨by omega, by omega⟩ (fun c_1 => ?_) (fun c_1 => ?_)
    · refine lv_iconst (v := 1) hx hb dL_law_1406 (by decide) ?_
      refine va_forget (fun q hq => hS.2.2 q hq) ?_
      refine W.widen (k := 601024) (n := 7293034) (by omega) (by omega) ?_
      exact lw_ret hx hb hr hlocks dL_law_1407
    · have hi : 5 * k + 4 < L := by omega
      have hc : 21 + 3 * k + 3 ≤ room_1.cells := Nat.le_trans (by omega : 21 + 3 * k + 3 ≤ 601024) (Nat.le_of_ble_eq_true rfl)
      have hs : 5828 + 21 * k + 21 ≤ room_1.slots := Nat.le_trans (by omega : 5828 + 21 * k + 21 ≤ 7293034) (Nat.le_of_ble_eq_true rfl)
      have tail : ∀ (H1 : Heap) (locs1 : List Loc) (ls1 : Array Slot), va_S (fun q => s.heap.size ≤ q) s.heap H1 locs1 → LI D cy AY AM n0 x0 m0 o0 H1 → lv_has ls1 7 (lvB b x0 m0 o0 (5 * k)) → W p l e room_1 s m #[Value.ref b] below meth c H1 locs1 (21 + 3 * k + 3) (5828 + 21 * k + 21) (lw_Z below #[Value.ref b] s) (F0 m 1400 ls1 []) := by
        intro H1 locs1 ls1 hS1 hI1 hl1
        have hl2 : lv_has ls1 7 [(0, .ref b), (1, .ref x0), (2, .ref m0), (3, .ref o0), (4, .int (iI ((5 * k : Nat) : Int)))] := hl1
        refine zi_iinc (k := 4) (lv' := [(4, .int (iI (((5 * k : Nat) : Int) + 5))), (0, .ref b), (1, .ref x0), (2, .ref m0), (3, .ref o0)]) hx hb dL_law_1400 hl2 rfl (by decide) rfl (fun ls2 hl2 => ?_)
        refine lv_goto (tgt := 23) hx hb dL_law_1403 (by decide) ?_
        have e1 : ((5 * k : Nat) : Int) + 5 = ((5 * (k + 1) : Nat) : Int) := by omega
        rw [e1] at hl2
        exact W.widen (k := 21 + 3 * (k + 1)) (n := 5828 + 21 * (k + 1)) (by omega) (by omega) (ih (k + 1) (by omega) (by omega) H1 locs1 ls2 hS1 hI1 (lv_sub hl2 [1, 2, 3, 4, 0] rfl))
      refine lv_aload_n hx hb dL_law_32 rfl (lv_at hl0 0 rfl) ?_
      refine lv_iload hx hb dL_law_33 (lv_at hl0 4 rfl) ?_
      refine zsld hx hb hX hbl hbA hS (j := 5 * k) rfl (by omega) hL dL_law_35 ?_
      refine zi_bipush hx hb dL_law_36 (by decide) ?_
      refine lv_iand hx hb dL_law_38 ?_
      obtain ⟨r, hr32, hre⟩ := and31 (iI (xI xs (5 * k)))
      rw [hre]
      rcases Nat.lt_or_ge r 23 with hr | hr
      · rcases (show r = 0 ∨ r = 1 ∨ r = 2 ∨ r = 3 ∨ r = 4 ∨ r = 5 ∨ r = 6 ∨ r = 7 ∨ r = 8 ∨ r = 9 ∨ r = 10 ∨ r = 11 ∨ r = 12 ∨ r = 13 ∨ r = 14 ∨ r = 15 ∨ r = 16 ∨ r = 17 ∨ r = 18 ∨ r = 19 ∨ r = 20 ∨ r = 21 ∨ r = 22 by omega) with rfl | rfl | rfl | rfl | rfl | rfl | rfl | rfl | rfl | rfl | rfl | rfl | rfl | rfl | rfl | rfl | rfl | rfl | rfl | rfl | rfl | rfl | rfl
        · refine lv_tableIn (off := 105) (tgt := 144) hx hb dL_law_39 (by decide) (by decide) (by decide +kernel) (by decide) ?_
          exact k_setTemperature hL hX hbl hbA hC hM hYM hAf hS hI hc hs hi hl tail
        · refine lv_tableIn (off := 165) (tgt := 204) hx hb dL_law_39 (by decide) (by decide) (by decide +kernel) (by decide) ?_
          exact k_temperature hL hX hbl hbA hC hM hYM hAf hS hI hc hs hi hl tail
        · refine lv_tableIn (off := 221) (tgt := 260) hx hb dL_law_39 (by decide) (by decide) (by decide +kernel) (by decide) ?_
          exact k_maturity hL hX hbl hbA hC hM hYM hAf hS hI hc hs hi hl tail
        · refine lv_tableIn (off := 289) (tgt := 328) hx hb dL_law_39 (by decide) (by decide) (by decide +kernel) (by decide) ?_
          exact k_strength hL hX hbl hbA hC hM hYM hAf hS hI hc hs hi hl tail
        · refine lv_tableIn (off := 345) (tgt := 384) hx hb dL_law_39 (by decide) (by decide) (by decide +kernel) (by decide) ?_
          exact k_setPanels hL hX hbl hbA hC hM hYM hAf hS hI hc hs hi hl tail
        · refine lv_tableIn (off := 401) (tgt := 440) hx hb dL_law_39 (by decide) (by decide) (by decide +kernel) (by decide) ?_
          exact k_setRates hL hX hbl hbA hC hM hYM hAf hS hI hc hs hi hl tail
        · refine lv_tableIn (off := 469) (tgt := 508) hx hb dL_law_39 (by decide) (by decide) (by decide +kernel) (by decide) ?_
          exact k_setCrew hL hX hbl hbA hC hM hYM hAf hS hI hc hs hi hl tail
        · refine lv_tableIn (off := 517) (tgt := 556) hx hb dL_law_39 (by decide) (by decide) (by decide +kernel) (by decide) ?_
          exact k_plan hL hX hbl hbA hC hM hYM hAf hS hI hc hs hi hl tail
        · refine lv_tableIn (off := 609) (tgt := 648) hx hb dL_law_39 (by decide) (by decide) (by decide +kernel) (by decide) ?_
          exact k_move hL hX hbl hbA hC hM hYM hAf hS hI hc hs hi hl tail
        · refine lv_tableIn (off := 677) (tgt := 716) hx hb dL_law_39 (by decide) (by decide) (by decide +kernel) (by decide) ?_
          exact k_cancel hL hX hbl hbA hC hM hYM hAf hS hI hc hs hi hl tail
        · refine lv_tableIn (off := 733) (tgt := 772) hx hb dL_law_39 (by decide) (by decide) (by decide +kernel) (by decide) ?_
          exact k_delay hL hX hbl hbA hC hM hYM hAf hS hI hc hs hi hl tail
        · refine lv_tableIn (off := 813) (tgt := 852) hx hb dL_law_39 (by decide) (by decide) (by decide +kernel) (by decide) ?_
          exact k_pours hL hX hbl hbA hC hM hYM hAf hS hI hc hs hi hl tail
        · refine lv_tableIn (off := 826) (tgt := 865) hx hb dL_law_39 (by decide) (by decide) (by decide +kernel) (by decide) ?_
          exact k_endOf hL hX hbl hbA hC hM hYM hAf hS hI hc hs hi hl tail
        · refine lv_tableIn (off := 882) (tgt := 921) hx hb dL_law_39 (by decide) (by decide) (by decide +kernel) (by decide) ?_
          exact k_coldJoints hL hX hbl hbA hC hM hYM hAf hS hI hc hs hi hl tail
        · refine lv_tableIn (off := 938) (tgt := 977) hx hb dL_law_39 (by decide) (by decide) (by decide +kernel) (by decide) ?_
          exact k_struck hL hX hbl hbA hC hM hYM hAf hS hI hc hs hi hl tail
        · refine lv_tableIn (off := 994) (tgt := 1033) hx hb dL_law_39 (by decide) (by decide) (by decide +kernel) (by decide) ?_
          exact k_freeFrom hL hX hbl hbA hC hM hYM hAf hS hI hc hs hi hl tail
        · refine lv_tableIn (off := 1050) (tgt := 1089) hx hb dL_law_39 (by decide) (by decide) (by decide +kernel) (by decide) ?_
          exact k_need hL hX hbl hbA hC hM hYM hAf hS hI hc hs hi hl tail
        · refine lv_tableIn (off := 1106) (tgt := 1145) hx hb dL_law_39 (by decide) (by decide) (by decide +kernel) (by decide) ?_
          exact k_peak hL hX hbl hbA hC hM hYM hAf hS hI hc hs hi hl tail
        · refine lv_tableIn (off := 1119) (tgt := 1158) hx hb dL_law_39 (by decide) (by decide) (by decide +kernel) (by decide) ?_
          exact k_peakByOverlaps hL hX hbl hbA hC hM hYM hAf hS hI hc hs hi hl tail
        · refine lv_tableIn (off := 1132) (tgt := 1171) hx hb dL_law_39 (by decide) (by decide) (by decide +kernel) (by decide) ?_
          exact k_firstShort hL hX hbl hbA hC hM hYM hAf hS hI hc hs hi hl tail
        · refine lv_tableIn (off := 1145) (tgt := 1184) hx hb dL_law_39 (by decide) (by decide) (by decide +kernel) (by decide) ?_
          exact k_earliest hL hX hbl hbA hC hM hYM hAf hS hI hc hs hi hl tail
        · refine lv_tableIn (off := 1237) (tgt := 1276) hx hb dL_law_39 (by decide) (by decide) (by decide +kernel) (by decide) ?_
          exact k_panelsOf hL hX hbl hbA hC hM hYM hAf hS hI hc hs hi hl tail
        · refine lv_tableIn (off := 1293) (tgt := 1332) hx hb dL_law_39 (by decide) (by decide) (by decide +kernel) (by decide) ?_
          exact k_pourOf hL hX hbl hbA hC hM hYM hAf hS hI hc hs hi hl tail
      · refine lv_tableOut (tgt := 1400) hx hb dL_law_39 (Or.inr (by rw [iI_T ⟨by omega, by omega⟩]; omega)) (by decide) ?_
        exact W.widen (k := 21 + 3 * k + 3) (n := 5828 + 21 * k + 21) (by omega) (by omega) (tail _ _ _ hS hI hl)
