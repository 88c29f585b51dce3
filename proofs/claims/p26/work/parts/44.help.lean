/-! ===== the law's own helpers ===== -/
def LA (yi : Nat → Int) (pr : Nat → Option PS) (la : Nat → Nat → Int) : Prop := (∀ i, i < 10 → (la 0 i = 0 ∧ pr i = none) ∨ (la 0 i = 1 ∧ ∃ p, pr i = some p ∧ p.1 1 = la 1 i ∧ p.1 2 = la 2 i ∧ p.1 3 = la 3 i)) ∧ la 4 0 = yi 7 ∧ la 4 1 = yi 8 ∧ la 4 2 = yi 5
theorem LA.at {yi : Nat → Int} {pr : Nat → Option PS} {la : Nat → Nat → Int} (h : LA yi pr la) {i : Nat} {p : PS} (hi : i < 10) (hp : pr i = some p) : la 0 i = 1 ∧ p.1 1 = la 1 i ∧ p.1 2 = la 2 i ∧ p.1 3 = la 3 i := by
  rcases h.1 i hi with ⟨-, c⟩ | ⟨a, q, b, m1, m2, m3⟩
  · rw [hp] at c; cases c
  · rw [hp] at b
    cases b
    exact ⟨a, m1, m2, m3⟩
theorem low_and (v : Int) : ∃ m : Int, 0 ≤ m ∧ m < 2147483648 ∧ iI v &&& iI 2147483647 = iI m := by
  obtain ⟨z, h1, h2, hz⟩ := iI_of (iI v &&& iI 2147483647)
  obtain ⟨n, hn⟩ : ∃ n, (iI v &&& iI 2147483647).toBitVec.toNat = n := ⟨_, rfl⟩
  have hle : n ≤ 2147483647 := by
    rw [← hn, Int32.toBitVec_and, BitVec.toNat_and]
    exact Nat.and_le_right
  have ht : (iI v &&& iI 2147483647).toInt = (n : Int) := by
    rw [← hn]
    exact BitVec.toInt_eq_toNat_of_lt (by omega)
  have hzt : (iI v &&& iI 2147483647).toInt = z := by
    rw [hz]
    exact iI_T ⟨h1, h2⟩
  exact ⟨z, by omega, h2, hz⟩
section ZLR
variable {p : Program} {l : Launch} {e : Env} {R : Room} {s : State} {m : MethodId} {args : Array Value} {below : List Frame} {meth : Method} {c : Code} {H : Heap} {locs : List Loc} {cells slots : Nat} {Q : State → Prop}
variable {cc : ByteArray} {pc : Nat} {ls : Array Slot} {rest : List Value}
theorem zi_any {x : Int32} (k : ∀ z : Int, zr z → W p l e R s m args below meth c H locs cells slots Q (F0 m pc ls (.int (iI z) :: rest))) : W p l e R s m args below meth c H locs cells slots Q (F0 m pc ls (.int x :: rest)) := by
  obtain ⟨z, h1, h2, hz⟩ := iI_of x
  rw [hz]
  exact k z ⟨h1, h2⟩
theorem zi_rem (hx : p.tables.exec = Jvm.exec) (hb : c.code = cc) {a b : Int} (hdg : decode cc pc = .ok (.irem, 1)) (ha : 0 ≤ a) (ha2 : a < 2147483648) (hb1 : 0 < b) (hb2 : b < 2147483648) (k : W p l e R s m args below meth c H locs cells slots Q (F0 m (pc + 1) ls (.int (iI (a % b)) :: rest))) : W p l e R s m args below meth c H locs cells slots Q (F0 m pc ls (.int (iI b) :: .int (iI a) :: rest)) :=
  lv_irem hx hb hdg (by rw [iI_0, iI_eq ⟨by omega, by omega⟩ ⟨by omega, by omega⟩]; omega) (by rw [iI_div ha ha2 hb1 hb2, iI_mul, iI_sub, show a - a / b * b = a % b by rw [Int.emod_def, Int.mul_comm]]; exact k)
end ZLR
section GSN
variable {pr : Nat → Option PS} {n h : Int} {i : Nat} {p : PS}
theorem gS_n (hp : pr i = none) : gS pr n h (i + 1) = gS pr n h i := by
  simp only [gS]
  rw [bsY_0 hp, if_neg (by decide)]
  omega
theorem gS_0 (hp : pr i = some p) (hb : ¬ (p.1 9 ≤ h ∧ h < p.1 10)) : gS pr n h (i + 1) = gS pr n h i := by
  simp only [gS]
  rw [if_neg (fun d => hb ((bsY_1 hp).mp d))]
  omega
theorem gS_1 (hp : pr i = some p) (hb : p.1 9 ≤ h ∧ h < p.1 10) : gS pr n h (i + 1) = gS pr n h i + sl (fun j => bI (FY pr n 10000 i j)) 60 := by
  simp only [gS]
  rw [if_pos ((bsY_1 hp).mpr hb)]
end GSN
set_option maxHeartbeats 4000000 in
set_option maxRecDepth 100000 in
theorem c_L_low (l : Launch) (D : va_G) (cy : Nat → ClassId) (A : Nat → Prop) (ad : Nat → Nat) (H0 : Heap) (v n : Int) (hz : zr v) (hn : 1 ≤ n ∧ n ≤ 1000) : Met l yL_low wsL_low ({ frames := 0, cells := 0, slots := 0, locals := 0 }) (zPc D cy A [.int (iI (v)), .int (iI (n))] H0) (zQi (fun z H1 => H1 = H0 ∧ 0 ≤ z ∧ z < n) A) 0 0 A := by
  refine Met.ofW (cc := cL_low) (maxL := 2) (ret := (some .int)) (by decide) rfl ?_
  intro pg en s mt args below meth c s₁ B hml hv
  obtain ⟨rfl, hH, hE⟩ := hv
  subst hH
  have hx := B.exec
  have hb := B.bytes
  have hr := B.returns
  have hts := atoms_spec (ws := wsL_low) B.pre
  have hown : s.vm.findClass RL = some mt.cls := findClass_of_methodNamed B.named
  have hlocks := B.notSynchronized
  have hS : va_S A s.heap s.heap [] := va_S.rf
  have hl := lv_entry ([.int (iI (v)), .int (iI (n))]) (n := 2) (Nat.le_of_ble_eq_true rfl)
  rw [lg_entry_eq]
  generalize (lg_sl ([.int (iI (v)), .int (iI (n))]) ++ List.replicate (2 - (lg_sl ([.int (iI (v)), .int (iI (n))])).length) Slot.unset).toArray = ls at hl ⊢
  have hl : lv_has ls 2 [(0, .int (iI (v))), (1, .int (iI (n)))] := hl
  refine lv_iload_n hx hb dL_low_0 rfl (lv_at hl 0 rfl) ?_
  refine lv_ldc (v := iI 2147483647) hx hb hown (hts (.constant RL 7 (iI 2147483647)) (by decide +kernel)) dL_low_1 ?_
  refine lv_iand hx hb dL_low_3 ?_
  obtain ⟨m_3, hm_30, hm_31, hm_3⟩ := low_and (v)
  rw [hm_3]
  refine lv_iload_n hx hb dL_low_4 rfl (lv_at hl 1 rfl) ?_
  refine zi_rem hx hb dL_low_5 (by omega) (by omega) (by omega) (by omega) ?_
  refine zi_top (fun r_5 hr_5 => ?_)
  have hr0 := Int.emod_nonneg m_3 (show n ≠ 0 by omega)
  have hr1 := Int.emod_lt_of_pos m_3 (show 0 < n by omega)
  rw [← hr_5] at hr0 hr1
  refine ziret hx hb hr hlocks hS (Nat.le_of_ble_eq_true rfl) (Nat.le_of_ble_eq_true rfl) (by first | decide | (constructor <;> omega)) ?_ dL_low_6
  exact ⟨rfl, hr0, hr1⟩

set_option maxHeartbeats 4000000 in
set_option maxRecDepth 100000 in
theorem c_L_isBusy (l : Launch) (D : va_G) (cy : Nat → ClassId) (A : Nat → Prop) (ad : Nat → Nat) (T : Nat → Int) (yi : Nat → Int) (pr : Nat → Option PS) (la : Nat → Nat → Int) (H0 : Heap) (i : Nat) (p0 : PS) (h : Int) (hw : LW D cy A ad T yi pr la H0) (hys : YS T yi pr) (hla : LA yi pr la) (hi : i < 10) (hp0 : pr i = some p0) (h1 : 0 ≤ h ∧ h < 1000) : Met l yL_isBusy wsL_isBusy ({ frames := 3, cells := 0, slots := 0, locals := 64 }) (zPc D cy A [.ref (ad 0), .ref (ad 46), .ref (ad 47), .int (iI ((i : Int))), .int (iI (h))] H0) (zQi (fun z H1 => LW D cy A ad T yi pr la H1 ∧ ((z = 1 ∧ p0.1 9 ≤ h ∧ h < p0.1 10) ∨ (z = 0 ∧ ¬ (p0.1 9 ≤ h ∧ h < p0.1 10)))) A) 0 0 A := by
  refine Met.ofW (cc := cL_isBusy) (maxL := 7) (ret := (some .boolean)) (by decide) rfl ?_
  intro pg en s mt args below meth c s₁ B hml hv
  obtain ⟨rfl, hH, hE⟩ := hv
  subst hH
  have hx := B.exec
  have hb := B.bytes
  have hr := B.returns
  have hts := atoms_spec (ws := wsL_isBusy) B.pre
  have hown : s.vm.findClass RL = some mt.cls := findClass_of_methodNamed B.named
  have hlocks := B.notSynchronized
  have hS : va_S A s.heap s.heap [] := va_S.rf
  have hl := lv_entry ([.ref (ad 0), .ref (ad 46), .ref (ad 47), .int (iI ((i : Int))), .int (iI (h))]) (n := 7) (Nat.le_of_ble_eq_true rfl)
  rw [lg_entry_eq]
  generalize (lg_sl ([.ref (ad 0), .ref (ad 46), .ref (ad 47), .int (iI ((i : Int))), .int (iI (h))]) ++ List.replicate (7 - (lg_sl ([.ref (ad 0), .ref (ad 46), .ref (ad 47), .int (iI ((i : Int))), .int (iI (h))])).length) Slot.unset).toArray = ls at hl ⊢
  have hl : lv_has ls 7 [(0, .ref (ad 0)), (1, .ref (ad 46)), (2, .ref (ad 47)), (3, .int (iI ((i : Int)))), (4, .int (iI (h)))] := hl
  obtain ⟨f7, f8, f9, f9b, f10, f1, f2, f3, fneg, fpos⟩ := ys_p hys hi hp0
  obtain ⟨m0, m1, m2, m3⟩ := hla.at hi hp0
  obtain ⟨-, t0, t1, t2⟩ := id hla
  have hyb := hys.2.1
  unfold yB at hyb
  rw [m3] at f3 f9
  unfold standS at f9
  refine lv_aload_n hx hb dL_isBusy_0 rfl (lv_at hl 1 rfl) ?_
  refine lv_iload_n hx hb dL_isBusy_1 rfl (lv_at hl 3 rfl) ?_
  refine l_ald hx hb hE hw 3 (by decide) i rfl (by unfold rowN; simp; omega) dL_isBusy_2 ?_
  refine zi_top (fun v_2 hv_2 => ?_)
  refine lv_aload_n hx hb dL_isBusy_3 rfl (lv_at hl 2 rfl) ?_
  refine zi_const hx hb dL_isBusy_4 ?_
  refine l_ald hx hb hE hw 4 (by decide) 0 rfl (by decide) dL_isBusy_5 ?_
  refine zi_top (fun v_5 hv_5 => ?_)
  refine zi_sub hx hb dL_isBusy_6 ?_
  refine zi_top (fun x_7 hx_7 => ?_)
  refine lv_istore (lv' := [(5, .int (iI (x_7))), (0, .ref (ad 0)), (1, .ref (ad 46)), (2, .ref (ad 47)), (3, .int (iI ((i : Int)))), (4, .int (iI (h)))]) hx hb dL_isBusy_7 hl (by decide) rfl (fun ls hl => ?_)
  refine lv_aload_n hx hb dL_isBusy_9 rfl (lv_at hl 1 rfl) ?_
  refine lv_iload_n hx hb dL_isBusy_10 rfl (lv_at hl 4 rfl) ?_
  refine zcalli (va_runV (As := [.int (iI ((i : Int)))]) (rest := []) ⟨hx, hb, hml, hown, hts⟩ (c_Q_freeFrom l D cy A ad T yi pr la _ (i) p0 hw hys (by omega) hp0) (cwV 1 hts gL_isBusy_X1_freeFrom rfl rfl rfl (by decide +kernel) ⟨(Nat.le_of_ble_eq_true rfl), (Nat.le_of_ble_eq_true rfl)⟩) (l_PV hE hS hw) rfl rfl hl.1 rfl (lv_room (Nat.le_of_ble_eq_true rfl)) dL_isBusy_11 ⟨(Nat.le_of_ble_eq_true rfl), (Nat.le_of_ble_eq_true rfl)⟩) hS (fun z_11 H1 locs hz_11 hq hz1 hk1 hS => ?_)
  obtain ⟨hw, hv_11⟩ := hq
  have h11 : (p0.1 10 < 1000 ∧ z_11 = p0.1 10) ∨ (1000 ≤ p0.1 10 ∧ z_11 = -1) := by rw [hv_11]; split <;> omega
  refine lv_istore (lv' := [(6, .int (iI (z_11))), (5, .int (iI (x_7))), (0, .ref (ad 0)), (1, .ref (ad 46)), (2, .ref (ad 47)), (3, .int (iI ((i : Int)))), (4, .int (iI (h)))]) hx hb dL_isBusy_14 hl (by decide) rfl (fun ls hl => ?_)
  refine lv_iload hx hb dL_isBusy_16 (lv_at hl 6 rfl) ?_
  refine lv_iload hx hb dL_isBusy_18 (lv_at hl 1 rfl) ?_
  refine zc_lt (tgt := 39) hx hb dL_isBusy_20 (by decide) (by first | decide | (constructor <;> omega)) (by first | decide | (constructor <;> omega)) (fun c_20 => ?_) (fun c_20 => ?_)
  · refine zi_const hx hb dL_isBusy_39 ?_
    refine zzret hx hb hr hlocks hS (Nat.le_of_ble_eq_true rfl) (Nat.le_of_ble_eq_true rfl) (by omega) ?_ dL_isBusy_40
    refine ⟨hw, ?_⟩
    split at f9 <;> omega
  · refine lv_iload hx hb dL_isBusy_23 (lv_at hl 0 rfl) ?_
    refine zf_lt (tgt := 35) hx hb dL_isBusy_25 (by decide) (by first | decide | (constructor <;> omega)) (fun c_25 => ?_) (fun c_25 => ?_)
    · refine zi_const hx hb dL_isBusy_35 ?_
      refine lv_goto (tgt := 40) hx hb dL_isBusy_36 (by decide) ?_
      refine zzret hx hb hr hlocks hS (Nat.le_of_ble_eq_true rfl) (Nat.le_of_ble_eq_true rfl) (by omega) ?_ dL_isBusy_40
      refine ⟨hw, ?_⟩
      split at f9 <;> omega
    · refine lv_iload hx hb dL_isBusy_28 (lv_at hl 6 rfl) ?_
      refine lv_iload hx hb dL_isBusy_30 (lv_at hl 0 rfl) ?_
      refine zc_ge (tgt := 39) hx hb dL_isBusy_32 (by decide) (by first | decide | (constructor <;> omega)) (by first | decide | (constructor <;> omega)) (fun c_32 => ?_) (fun c_32 => ?_)
      · refine zi_const hx hb dL_isBusy_39 ?_
        refine zzret hx hb hr hlocks hS (Nat.le_of_ble_eq_true rfl) (Nat.le_of_ble_eq_true rfl) (by omega) ?_ dL_isBusy_40
        refine ⟨hw, ?_⟩
        split at f9 <;> omega
      · refine zi_const hx hb dL_isBusy_35 ?_
        refine lv_goto (tgt := 40) hx hb dL_isBusy_36 (by decide) ?_
        refine zzret hx hb hr hlocks hS (Nat.le_of_ble_eq_true rfl) (Nat.le_of_ble_eq_true rfl) (by omega) ?_ dL_isBusy_40
        refine ⟨hw, ?_⟩
        split at f9 <;> omega

set_option maxHeartbeats 4000000 in
set_option maxRecDepth 100000 in
theorem c_L_isStruck (l : Launch) (D : va_G) (cy : Nat → ClassId) (A : Nat → Prop) (ad : Nat → Nat) (T : Nat → Int) (yi : Nat → Int) (pr : Nat → Option PS) (la : Nat → Nat → Int) (H0 : Heap) (i : Nat) (p0 : PS) (hw : LW D cy A ad T yi pr la H0) (hys : YS T yi pr) (hla : LA yi pr la) (hi : i < 10) (hp0 : pr i = some p0) : Met l yL_isStruck wsL_isStruck ({ frames := 3, cells := 0, slots := 0, locals := 66 }) (zPc D cy A [.ref (ad 0), .ref (ad 45), .ref (ad 47), .int (iI ((i : Int)))] H0) (zQi (fun z H1 => LW D cy A ad T yi pr la H1 ∧ z = 1) A) 0 0 A := by
  refine Met.ofW (cc := cL_isStruck) (maxL := 8) (ret := (some .boolean)) (by decide) rfl ?_
  intro pg en s mt args below meth c s₁ B hml hv
  obtain ⟨rfl, hH, hE⟩ := hv
  subst hH
  have hx := B.exec
  have hb := B.bytes
  have hr := B.returns
  have hts := atoms_spec (ws := wsL_isStruck) B.pre
  have hown : s.vm.findClass RL = some mt.cls := findClass_of_methodNamed B.named
  have hlocks := B.notSynchronized
  have hS : va_S A s.heap s.heap [] := va_S.rf
  have hl := lv_entry ([.ref (ad 0), .ref (ad 45), .ref (ad 47), .int (iI ((i : Int)))]) (n := 8) (Nat.le_of_ble_eq_true rfl)
  rw [lg_entry_eq]
  generalize (lg_sl ([.ref (ad 0), .ref (ad 45), .ref (ad 47), .int (iI ((i : Int)))]) ++ List.replicate (8 - (lg_sl ([.ref (ad 0), .ref (ad 45), .ref (ad 47), .int (iI ((i : Int)))])).length) Slot.unset).toArray = ls at hl ⊢
  have hl : lv_has ls 8 [(0, .ref (ad 0)), (1, .ref (ad 45)), (2, .ref (ad 47)), (3, .int (iI ((i : Int))))] := hl
  obtain ⟨f7, f8, f9, f9b, f10, f1, f2, f3, fneg, fpos⟩ := ys_p hys hi hp0
  obtain ⟨m0, m1, m2, m3⟩ := hla.at hi hp0
  obtain ⟨-, t0, t1, t2⟩ := id hla
  have hyb := hys.2.1
  unfold yB at hyb
  refine lv_aload_n hx hb dL_isStruck_0 rfl (lv_at hl 0 rfl) ?_
  refine lv_iload_n hx hb dL_isStruck_1 rfl (lv_at hl 3 rfl) ?_
  refine zcalli (va_runV (As := [.int (iI ((i : Int)))]) (rest := []) ⟨hx, hb, hml, hown, hts⟩ (c_Q_endOf l D cy A ad T yi pr la _ (i) p0 hw hys (by omega) hp0) (cwV 1 hts gL_isStruck_X1_endOf rfl rfl rfl (by decide +kernel) ⟨(Nat.le_of_ble_eq_true rfl), (Nat.le_of_ble_eq_true rfl)⟩) (l_PV hE hS hw) rfl rfl hl.1 rfl (lv_room (Nat.le_of_ble_eq_true rfl)) dL_isStruck_2 ⟨(Nat.le_of_ble_eq_true rfl), (Nat.le_of_ble_eq_true rfl)⟩) hS (fun z_2 H1 locs hz_2 hq hz1 hk1 hS => ?_)
  obtain ⟨hw, hv_2⟩ := hq
  refine lv_istore (lv' := [(4, .int (iI (z_2))), (0, .ref (ad 0)), (1, .ref (ad 45)), (2, .ref (ad 47)), (3, .int (iI ((i : Int))))]) hx hb dL_isStruck_5 hl (by decide) rfl (fun ls hl => ?_)
  refine lv_aload_n hx hb dL_isStruck_7 rfl (lv_at hl 1 rfl) ?_
  refine lv_iload_n hx hb dL_isStruck_8 rfl (lv_at hl 4 rfl) ?_
  refine zcalli (va_runV (As := [.int (iI ((i : Int)))]) (rest := []) ⟨hx, hb, hml, hown, hts⟩ (c_Q_struck l D cy A ad T yi pr la _ (i) p0 hw hys (by omega) hp0) (cwV 1 hts gL_isStruck_X1_struck rfl rfl rfl (by decide +kernel) ⟨(Nat.le_of_ble_eq_true rfl), (Nat.le_of_ble_eq_true rfl)⟩) (l_PV hE hS hw) rfl rfl hl.1 rfl (lv_room (Nat.le_of_ble_eq_true rfl)) dL_isStruck_9 ⟨(Nat.le_of_ble_eq_true rfl), (Nat.le_of_ble_eq_true rfl)⟩) hS (fun z_9 H1 locs hz_9 hq hz1 hk1 hS => ?_)
  obtain ⟨hw, hv_9⟩ := hq
  refine lv_istore (lv' := [(5, .int (iI (z_9))), (4, .int (iI (z_2))), (0, .ref (ad 0)), (1, .ref (ad 45)), (2, .ref (ad 47)), (3, .int (iI ((i : Int))))]) hx hb dL_isStruck_12 hl (by decide) rfl (fun ls hl => ?_)
  refine lv_aload_n hx hb dL_isStruck_14 rfl (lv_at hl 2 rfl) ?_
  refine lv_iload_n hx hb dL_isStruck_15 rfl (lv_at hl 5 rfl) ?_
  refine zcalli (va_runV (As := [.int (iI ((i : Int)))]) (rest := []) ⟨hx, hb, hml, hown, hts⟩ (c_Q_freeFrom l D cy A ad T yi pr la _ (i) p0 hw hys (by omega) hp0) (cwV 1 hts gL_isStruck_X1_freeFrom rfl rfl rfl (by decide +kernel) ⟨(Nat.le_of_ble_eq_true rfl), (Nat.le_of_ble_eq_true rfl)⟩) (l_PV hE hS hw) rfl rfl hl.1 rfl (lv_room (Nat.le_of_ble_eq_true rfl)) dL_isStruck_16 ⟨(Nat.le_of_ble_eq_true rfl), (Nat.le_of_ble_eq_true rfl)⟩) hS (fun z_16 H1 locs hz_16 hq hz1 hk1 hS => ?_)
  obtain ⟨hw, hv_16⟩ := hq
  have h16 : (p0.1 10 < 1000 ∧ z_16 = p0.1 10) ∨ (1000 ≤ p0.1 10 ∧ z_16 = -1) := by rw [hv_16]; split <;> omega
  refine lv_istore (lv' := [(6, .int (iI (z_16))), (5, .int (iI (z_9))), (4, .int (iI (z_2))), (0, .ref (ad 0)), (1, .ref (ad 45)), (2, .ref (ad 47)), (3, .int (iI ((i : Int))))]) hx hb dL_isStruck_19 hl (by decide) rfl (fun ls hl => ?_)
  refine lv_iload hx hb dL_isStruck_21 (lv_at hl 1 rfl) ?_
  refine zf_ge (tgt := 71) hx hb dL_isStruck_23 (by decide) (by first | decide | (constructor <;> omega)) (fun c_23 => ?_) (fun c_23 => ?_)
  · obtain ⟨n1, n2, n3, n4⟩ := fpos (by omega)
    refine lv_iload hx hb dL_isStruck_71 (lv_at hl 1 rfl) ?_
    refine lv_iload hx hb dL_isStruck_73 (lv_at hl 2 rfl) ?_
    refine zc_le (tgt := 128) hx hb dL_isStruck_75 (by decide) (by first | decide | (constructor <;> omega)) (by first | decide | (constructor <;> omega)) (fun c_75 => ?_) (fun c_75 => ?_)
    · exfalso; omega
    · refine lv_iload hx hb dL_isStruck_78 (lv_at hl 1 rfl) ?_
      refine zi_sipush hx hb dL_isStruck_80 (by decide) ?_
      refine zc_gt (tgt := 128) hx hb dL_isStruck_83 (by decide) (by first | decide | (constructor <;> omega)) (by first | decide | (constructor <;> omega)) (fun c_83 => ?_) (fun c_83 => ?_)
      · exfalso; omega
      · refine lv_aload_n hx hb dL_isStruck_86 rfl (lv_at hl 3 rfl) ?_
        refine lv_aload_n hx hb dL_isStruck_87 rfl (lv_at hl 3 rfl) ?_
        refine lv_iload hx hb dL_isStruck_88 (lv_at hl 2 rfl) ?_
        refine lv_iload hx hb dL_isStruck_90 (lv_at hl 1 rfl) ?_
        refine zcalli (va_runV (As := [.int (iI (z_2)), .int (iI (z_9))]) (rest := [.ref (ad 0)]) ⟨hx, hb, hml, hown, hts⟩ (c_Q_maturity l D cy A ad T yi pr la _ (z_2) (z_9) hw hys (by omega) (by omega)) (cwV 2 hts gL_isStruck_X1_maturity rfl rfl rfl (by decide +kernel) ⟨(Nat.le_of_ble_eq_true rfl), (Nat.le_of_ble_eq_true rfl)⟩) (l_PV hE hS hw) rfl rfl hl.1 rfl (lv_room (Nat.le_of_ble_eq_true rfl)) dL_isStruck_92 ⟨(Nat.le_of_ble_eq_true rfl), (Nat.le_of_ble_eq_true rfl)⟩) hS (fun z_92 H1 locs hz_92 hq hz1 hk1 hS => ?_)
        obtain ⟨hw, hv_92⟩ := hq
        have hmb_92 := mat_b hys.1 z_2 z_9
        refine zcalli (va_runV (As := [.int (iI (z_92))]) (rest := []) ⟨hx, hb, hml, hown, hts⟩ (c_Q_strength l D cy A ad T yi pr la _ (z_92) hw hys (by omega)) (cwV 1 hts gL_isStruck_X1_strength rfl rfl rfl (by decide +kernel) ⟨(Nat.le_of_ble_eq_true rfl), (Nat.le_of_ble_eq_true rfl)⟩) (l_PV hE hS hw) rfl rfl hl.1 rfl (lv_room (Nat.le_of_ble_eq_true rfl)) dL_isStruck_95 ⟨(Nat.le_of_ble_eq_true rfl), (Nat.le_of_ble_eq_true rfl)⟩) hS (fun z_95 H1 locs hz_95 hq hz1 hk1 hS => ?_)
        obtain ⟨hw, hv_95⟩ := hq
        rw [hv_92, hv_2, hv_9] at hv_95
        refine lv_aload_n hx hb dL_isStruck_98 rfl (lv_at hl 4 rfl) ?_
        refine lv_iload_n hx hb dL_isStruck_99 rfl (lv_at hl 6 rfl) ?_
        refine l_ald hx hb hE hw 2 (by decide) i rfl (by unfold rowN; simp; omega) dL_isStruck_100 ?_
        refine zi_top (fun v_100 hv_100 => ?_)
        refine zc_lt (tgt := 128) hx hb dL_isStruck_101 (by decide) (by first | decide | (constructor <;> omega)) (by first | decide | (constructor <;> omega)) (fun c_101 => ?_) (fun c_101 => ?_)
        · exfalso; omega
        · refine lv_aload_n hx hb dL_isStruck_104 rfl (lv_at hl 3 rfl) ?_
          refine lv_aload_n hx hb dL_isStruck_105 rfl (lv_at hl 3 rfl) ?_
          refine lv_iload hx hb dL_isStruck_106 (lv_at hl 2 rfl) ?_
          refine lv_iload hx hb dL_isStruck_108 (lv_at hl 1 rfl) ?_
          refine zi_const hx hb dL_isStruck_110 ?_
          refine zi_sub hx hb dL_isStruck_111 ?_
          refine zcalli (va_runV (As := [.int (iI (z_2)), .int (iI (z_9 - 1))]) (rest := [.ref (ad 0)]) ⟨hx, hb, hml, hown, hts⟩ (c_Q_maturity l D cy A ad T yi pr la _ (z_2) (z_9 - 1) hw hys (by omega) (by omega)) (cwV 2 hts gL_isStruck_X1_maturity rfl rfl rfl (by decide +kernel) ⟨(Nat.le_of_ble_eq_true rfl), (Nat.le_of_ble_eq_true rfl)⟩) (l_PV hE hS hw) rfl rfl hl.1 rfl (lv_room (Nat.le_of_ble_eq_true rfl)) dL_isStruck_112 ⟨(Nat.le_of_ble_eq_true rfl), (Nat.le_of_ble_eq_true rfl)⟩) hS (fun z_112 H1 locs hz_112 hq hz1 hk1 hS => ?_)
          obtain ⟨hw, hv_112⟩ := hq
          have hmb_112 := mat_b hys.1 z_2 (z_9 - 1)
          refine zcalli (va_runV (As := [.int (iI (z_112))]) (rest := []) ⟨hx, hb, hml, hown, hts⟩ (c_Q_strength l D cy A ad T yi pr la _ (z_112) hw hys (by omega)) (cwV 1 hts gL_isStruck_X1_strength rfl rfl rfl (by decide +kernel) ⟨(Nat.le_of_ble_eq_true rfl), (Nat.le_of_ble_eq_true rfl)⟩) (l_PV hE hS hw) rfl rfl hl.1 rfl (lv_room (Nat.le_of_ble_eq_true rfl)) dL_isStruck_115 ⟨(Nat.le_of_ble_eq_true rfl), (Nat.le_of_ble_eq_true rfl)⟩) hS (fun z_115 H1 locs hz_115 hq hz1 hk1 hS => ?_)
          obtain ⟨hw, hv_115⟩ := hq
          rw [hv_112, hv_2, hv_9] at hv_115
          refine lv_aload_n hx hb dL_isStruck_118 rfl (lv_at hl 4 rfl) ?_
          refine lv_iload_n hx hb dL_isStruck_119 rfl (lv_at hl 6 rfl) ?_
          refine l_ald hx hb hE hw 2 (by decide) i rfl (by unfold rowN; simp; omega) dL_isStruck_120 ?_
          refine zi_top (fun v_120 hv_120 => ?_)
          refine zc_ge (tgt := 128) hx hb dL_isStruck_121 (by decide) (by first | decide | (constructor <;> omega)) (by first | decide | (constructor <;> omega)) (fun c_121 => ?_) (fun c_121 => ?_)
          · exfalso; omega
          · refine zi_const hx hb dL_isStruck_124 ?_
            refine lv_goto (tgt := 129) hx hb dL_isStruck_125 (by decide) ?_
            refine lv_istore (lv' := [(7, .int (iI (1))), (6, .int (iI (z_16))), (5, .int (iI (z_9))), (4, .int (iI (z_2))), (0, .ref (ad 0)), (1, .ref (ad 45)), (2, .ref (ad 47)), (3, .int (iI ((i : Int))))]) hx hb dL_isStruck_129 hl (by decide) rfl (fun ls hl => ?_)
            refine lv_iload hx hb dL_isStruck_131 (lv_at hl 0 rfl) ?_
            refine zf_eq (tgt := 167) hx hb dL_isStruck_133 (by decide) (by first | decide | (constructor <;> omega)) (fun c_133 => ?_) (fun c_133 => ?_)
            · exfalso; omega
            · refine lv_iload hx hb dL_isStruck_136 (lv_at hl 1 rfl) ?_
              refine lv_iload hx hb dL_isStruck_138 (lv_at hl 2 rfl) ?_
              refine lv_aload_n hx hb dL_isStruck_140 rfl (lv_at hl 6 rfl) ?_
              refine zi_const hx hb dL_isStruck_141 ?_
              refine l_ald hx hb hE hw 4 (by decide) 1 rfl (by decide) dL_isStruck_142 ?_
              refine zi_top (fun v_142 hv_142 => ?_)
              refine zi_add hx hb dL_isStruck_143 ?_
              refine zi_sipush hx hb dL_isStruck_144 (by decide) ?_
              refine zc_le (tgt := 154) hx hb dL_isStruck_147 (by decide) (by first | decide | (constructor <;> omega)) (by first | decide | (constructor <;> omega)) (fun c_147 => ?_) (fun c_147 => ?_)
              · refine lv_iload hx hb dL_isStruck_154 (lv_at hl 2 rfl) ?_
                refine lv_aload_n hx hb dL_isStruck_156 rfl (lv_at hl 6 rfl) ?_
                refine zi_const hx hb dL_isStruck_157 ?_
                refine l_ald hx hb hE hw 4 (by decide) 1 rfl (by decide) dL_isStruck_158 ?_
                refine zi_top (fun v_158 hv_158 => ?_)
                refine zi_add hx hb dL_isStruck_159 ?_
                refine zc_ne (tgt := 167) hx hb dL_isStruck_160 (by decide) (by first | decide | (constructor <;> omega)) (by first | decide | (constructor <;> omega)) (fun c_160 => ?_) (fun c_160 => ?_)
                · exfalso; omega
                · refine zi_const hx hb dL_isStruck_163 ?_
                  refine lv_goto (tgt := 168) hx hb dL_isStruck_164 (by decide) ?_
                  refine zzret hx hb hr hlocks hS (Nat.le_of_ble_eq_true rfl) (Nat.le_of_ble_eq_true rfl) (by omega) ?_ dL_isStruck_168
                  exact ⟨hw, rfl⟩
              · refine zi_const hx hb dL_isStruck_150 ?_
                refine lv_goto (tgt := 160) hx hb dL_isStruck_151 (by decide) ?_
                refine zc_ne (tgt := 167) hx hb dL_isStruck_160 (by decide) (by first | decide | (constructor <;> omega)) (by first | decide | (constructor <;> omega)) (fun c_160 => ?_) (fun c_160 => ?_)
                · exfalso; omega
                · refine zi_const hx hb dL_isStruck_163 ?_
                  refine lv_goto (tgt := 168) hx hb dL_isStruck_164 (by decide) ?_
                  refine zzret hx hb hr hlocks hS (Nat.le_of_ble_eq_true rfl) (Nat.le_of_ble_eq_true rfl) (by omega) ?_ dL_isStruck_168
                  exact ⟨hw, rfl⟩
  · obtain ⟨n1, n2, n3⟩ := fneg (by omega)
    refine lv_iload hx hb dL_isStruck_26 (lv_at hl 1 rfl) ?_
    refine zi_const hx hb dL_isStruck_28 ?_
    refine zc_ne (tgt := 69) hx hb dL_isStruck_29 (by decide) (by first | decide | (constructor <;> omega)) (by first | decide | (constructor <;> omega)) (fun c_29 => ?_) (fun c_29 => ?_)
    · exfalso; omega
    · refine lv_iload hx hb dL_isStruck_32 (lv_at hl 0 rfl) ?_
      refine zi_const hx hb dL_isStruck_34 ?_
      refine zc_ne (tgt := 69) hx hb dL_isStruck_35 (by decide) (by first | decide | (constructor <;> omega)) (by first | decide | (constructor <;> omega)) (fun c_35 => ?_) (fun c_35 => ?_)
      · exfalso; omega
      · refine lv_iload hx hb dL_isStruck_38 (lv_at hl 2 rfl) ?_
        refine zi_sipush hx hb dL_isStruck_40 (by decide) ?_
        refine zc_gt (tgt := 65) hx hb dL_isStruck_43 (by decide) (by first | decide | (constructor <;> omega)) (by first | decide | (constructor <;> omega)) (fun c_43 => ?_) (fun c_43 => ?_)
        · refine zi_const hx hb dL_isStruck_65 ?_
          refine lv_goto (tgt := 70) hx hb dL_isStruck_66 (by decide) ?_
          refine zzret hx hb hr hlocks hS (Nat.le_of_ble_eq_true rfl) (Nat.le_of_ble_eq_true rfl) (by omega) ?_ dL_isStruck_70
          exact ⟨hw, rfl⟩
        · refine lv_aload_n hx hb dL_isStruck_46 rfl (lv_at hl 3 rfl) ?_
          refine lv_aload_n hx hb dL_isStruck_47 rfl (lv_at hl 3 rfl) ?_
          refine lv_iload hx hb dL_isStruck_48 (lv_at hl 2 rfl) ?_
          refine zi_sipush hx hb dL_isStruck_50 (by decide) ?_
          refine zcalli (va_runV (As := [.int (iI (z_2)), .int (iI (999))]) (rest := [.ref (ad 0)]) ⟨hx, hb, hml, hown, hts⟩ (c_Q_maturity l D cy A ad T yi pr la _ (z_2) (999) hw hys (by omega) (by omega)) (cwV 2 hts gL_isStruck_X1_maturity rfl rfl rfl (by decide +kernel) ⟨(Nat.le_of_ble_eq_true rfl), (Nat.le_of_ble_eq_true rfl)⟩) (l_PV hE hS hw) rfl rfl hl.1 rfl (lv_room (Nat.le_of_ble_eq_true rfl)) dL_isStruck_53 ⟨(Nat.le_of_ble_eq_true rfl), (Nat.le_of_ble_eq_true rfl)⟩) hS (fun z_53 H1 locs hz_53 hq hz1 hk1 hS => ?_)
          obtain ⟨hw, hv_53⟩ := hq
          have hmb_53 := mat_b hys.1 z_2 999
          refine zcalli (va_runV (As := [.int (iI (z_53))]) (rest := []) ⟨hx, hb, hml, hown, hts⟩ (c_Q_strength l D cy A ad T yi pr la _ (z_53) hw hys (by omega)) (cwV 1 hts gL_isStruck_X1_strength rfl rfl rfl (by decide +kernel) ⟨(Nat.le_of_ble_eq_true rfl), (Nat.le_of_ble_eq_true rfl)⟩) (l_PV hE hS hw) rfl rfl hl.1 rfl (lv_room (Nat.le_of_ble_eq_true rfl)) dL_isStruck_56 ⟨(Nat.le_of_ble_eq_true rfl), (Nat.le_of_ble_eq_true rfl)⟩) hS (fun z_56 H1 locs hz_56 hq hz1 hk1 hS => ?_)
          obtain ⟨hw, hv_56⟩ := hq
          rw [hv_53, hv_2] at hv_56
          refine lv_aload_n hx hb dL_isStruck_59 rfl (lv_at hl 4 rfl) ?_
          refine lv_iload_n hx hb dL_isStruck_60 rfl (lv_at hl 6 rfl) ?_
          refine l_ald hx hb hE hw 2 (by decide) i rfl (by unfold rowN; simp; omega) dL_isStruck_61 ?_
          refine zi_top (fun v_61 hv_61 => ?_)
          refine zc_ge (tgt := 69) hx hb dL_isStruck_62 (by decide) (by first | decide | (constructor <;> omega)) (by first | decide | (constructor <;> omega)) (fun c_62 => ?_) (fun c_62 => ?_)
          · exfalso; omega
          · refine zi_const hx hb dL_isStruck_65 ?_
            refine lv_goto (tgt := 70) hx hb dL_isStruck_66 (by decide) ?_
            refine zzret hx hb hr hlocks hS (Nat.le_of_ble_eq_true rfl) (Nat.le_of_ble_eq_true rfl) (by omega) ?_ dL_isStruck_70
            exact ⟨hw, rfl⟩

set_option maxHeartbeats 4000000 in
set_option maxRecDepth 100000 in
theorem c_L_isHour (l : Launch) (D : va_G) (cy : Nat → ClassId) (A : Nat → Prop) (ad : Nat → Nat) (T : Nat → Int) (yi : Nat → Int) (pr : Nat → Option PS) (la : Nat → Nat → Int) (H0 : Heap) (h : Int) (hw : LW D cy A ad T yi pr la H0) (hys : YS T yi pr) (hla : LA yi pr la) (h1 : 0 ≤ h ∧ h < 1000) : Met l yL_isHour wsL_isHour ({ frames := 4, cells := 0, slots := 0, locals := 98 }) (zPc D cy A [.ref (ad 0), .ref (ad 43), .ref (ad 44), .ref (ad 46), .ref (ad 47), .int (iI (h))] H0) (zQi (fun z H1 => LW D cy A ad T yi pr la H1 ∧ z = 1) A) 0 0 A := by
  refine Met.ofW (cc := cL_isHour) (maxL := 11) (ret := (some .boolean)) (by decide) rfl ?_
  intro pg en s mt args below meth c s₁ B hml hv
  obtain ⟨rfl, hH, hE⟩ := hv
  subst hH
  have hx := B.exec
  have hb := B.bytes
  have hr := B.returns
  have hts := atoms_spec (ws := wsL_isHour) B.pre
  have hown : s.vm.findClass RL = some mt.cls := findClass_of_methodNamed B.named
  have hlocks := B.notSynchronized
  have hS : va_S A s.heap s.heap [] := va_S.rf
  have hl := lv_entry ([.ref (ad 0), .ref (ad 43), .ref (ad 44), .ref (ad 46), .ref (ad 47), .int (iI (h))]) (n := 11) (Nat.le_of_ble_eq_true rfl)
  rw [lg_entry_eq]
  generalize (lg_sl ([.ref (ad 0), .ref (ad 43), .ref (ad 44), .ref (ad 46), .ref (ad 47), .int (iI (h))]) ++ List.replicate (11 - (lg_sl ([.ref (ad 0), .ref (ad 43), .ref (ad 44), .ref (ad 46), .ref (ad 47), .int (iI (h))])).length) Slot.unset).toArray = ls at hl ⊢
  have hl : lv_has ls 11 [(0, .ref (ad 0)), (1, .ref (ad 43)), (2, .ref (ad 44)), (3, .ref (ad 46)), (4, .ref (ad 47)), (5, .int (iI (h)))] := hl
  obtain ⟨hl0, t0, t1, t2⟩ := id hla
  have hyb := hys.2.1
  unfold yB at hyb
  have hpA := hys.pA
  refine zi_const hx hb dL_isHour_0 ?_
  refine lv_istore (lv' := [(6, .int (iI (0))), (0, .ref (ad 0)), (1, .ref (ad 43)), (2, .ref (ad 44)), (3, .ref (ad 46)), (4, .ref (ad 47)), (5, .int (iI (h)))]) hx hb dL_isHour_1 hl (by decide) rfl (fun ls hl => ?_)
  refine zi_const hx hb dL_isHour_3 ?_
  refine lv_istore (lv' := [(7, .int (iI (0))), (6, .int (iI (0))), (0, .ref (ad 0)), (1, .ref (ad 43)), (2, .ref (ad 44)), (3, .ref (ad 46)), (4, .ref (ad 47)), (5, .int (iI (h)))]) hx hb dL_isHour_4 hl (by decide) rfl (fun ls hl => ?_)
  refine zi_const hx hb dL_isHour_6 ?_
  refine lv_istore (lv' := [(8, .int (iI (0))), (7, .int (iI (0))), (6, .int (iI (0))), (0, .ref (ad 0)), (1, .ref (ad 43)), (2, .ref (ad 44)), (3, .ref (ad 46)), (4, .ref (ad 47)), (5, .int (iI (h)))]) hx hb dL_isHour_7 hl (by decide) rfl (fun ls hl => ?_)
  have loop_9 : ∀ (n : Nat) (i : Nat) (w x : Int) (H : Heap) (locs : List Loc) (ls : Array Slot), 10 - i < n → (i ≤ 10) → (w = nY pr h i) → (x = gS pr (yi 5) h i) → LW D cy A ad T yi pr la H → va_S A s.heap H locs → lv_has ls 11 [(8, .int (iI ((i : Int)))), (7, .int (iI (x))), (6, .int (iI (w))), (5, .int (iI (h))), (4, .ref (ad 47)), (3, .ref (ad 46)), (2, .ref (ad 44)), (1, .ref (ad 43)), (0, .ref (ad 0))] → W pg l en (headSpec wsL_isHour ({ frames := 4, cells := 0, slots := 0, locals := 98 })).room s mt ([.ref (ad 0), .ref (ad 43), .ref (ad 44), .ref (ad 46), .ref (ad 47), .int (iI (h))] : List Value).toArray below meth c H locs 0 0 (MQ below (zQi (fun z H1 => LW D cy A ad T yi pr la H1 ∧ z = 1) A) ([.ref (ad 0), .ref (ad 43), .ref (ad 44), .ref (ad 46), .ref (ad 47), .int (iI (h))] : List Value).toArray s 0 0 A) (F0 mt 9 ls []) := by
    intro n
    induction n with
    | zero =>
      intro i w x H locs ls hm hi hk1 hk2
      exfalso; omega
    | succ n ih =>
      intro i w x H locs ls hm hi hk1 hk2 hw hS hl
      have hb1 := nY_b (h := h) hpA hi
      have hb2 := gS_le (n := yi 5) (h := h) hys i hi
      refine lv_iload hx hb dL_isHour_9 (lv_at hl 0 rfl) ?_
      refine zi_bipush hx hb dL_isHour_11 (by decide) ?_
      refine zc_ge (tgt := 89) hx hb dL_isHour_13 (by decide) (by first | decide | (constructor <;> omega)) (by first | decide | (constructor <;> omega)) (fun c_13 => ?_) (fun c_13 => ?_)
      · have hi10 : i = 10 := by omega
        rw [hi10] at hk1 hk2 hb1 hb2
        refine zi_const hx hb dL_isHour_89 ?_
        refine lv_istore (lv' := [(8, .int (iI (0))), (7, .int (iI (x))), (6, .int (iI (w))), (5, .int (iI (h))), (4, .ref (ad 47)), (3, .ref (ad 46)), (2, .ref (ad 44)), (1, .ref (ad 43)), (0, .ref (ad 0))]) hx hb dL_isHour_90 hl (by decide) rfl (fun ls hl => ?_)
        refine zi_const hx hb dL_isHour_92 ?_
        refine lv_istore (lv' := [(9, .int (iI (0))), (8, .int (iI (0))), (7, .int (iI (x))), (6, .int (iI (w))), (5, .int (iI (h))), (4, .ref (ad 47)), (3, .ref (ad 46)), (2, .ref (ad 44)), (1, .ref (ad 43)), (0, .ref (ad 0))]) hx hb dL_isHour_93 hl (by decide) rfl (fun ls hl => ?_)
        have loop_95 : ∀ (n : Nat) (k : Nat) (y : Int) (H : Heap) (locs : List Loc) (ls : Array Slot), (yi 5).toNat - k < n → ((k : Int) ≤ yi 5) → (y = sl (fun j => bI (tkn (bsY pr) (FY pr (yi 5) 10000) h j 10)) k) → LW D cy A ad T yi pr la H → va_S A s.heap H locs → lv_has ls 11 [(9, .int (iI ((k : Int)))), (8, .int (iI (y))), (7, .int (iI (x))), (6, .int (iI (w))), (5, .int (iI (h))), (4, .ref (ad 47)), (3, .ref (ad 46)), (2, .ref (ad 44)), (1, .ref (ad 43)), (0, .ref (ad 0))] → W pg l en (headSpec wsL_isHour ({ frames := 4, cells := 0, slots := 0, locals := 98 })).room s mt ([.ref (ad 0), .ref (ad 43), .ref (ad 44), .ref (ad 46), .ref (ad 47), .int (iI (h))] : List Value).toArray below meth c H locs 0 0 (MQ below (zQi (fun z H1 => LW D cy A ad T yi pr la H1 ∧ z = 1) A) ([.ref (ad 0), .ref (ad 43), .ref (ad 44), .ref (ad 46), .ref (ad 47), .int (iI (h))] : List Value).toArray s 0 0 A) (F0 mt 95 ls []) := by
          intro n
          induction n with
          | zero =>
            intro k y H locs ls hm hk hk3
            exfalso; omega
          | succ n ih =>
            intro k y H locs ls hm hk hk3 hw hS hl
            have hb3 := sl_b (f := fun j => bI (tkn (bsY pr) (FY pr (yi 5) 10000) h j 10)) (a := 0) (b := 1) (n := k) (fun j _ => by rcases bI_b (tkn (bsY pr) (FY pr (yi 5) 10000) h j 10) with ⟨c, -⟩ | ⟨c, -⟩ <;> ((try dsimp only); omega))
            refine lv_iload hx hb dL_isHour_95 (lv_at hl 0 rfl) ?_
            refine lv_aload hx hb dL_isHour_97 (lv_at hl 5 rfl) ?_
            refine zi_const hx hb dL_isHour_99 ?_
            refine l_ald hx hb hE hw 4 (by decide) 2 rfl (by decide) dL_isHour_100 ?_
            refine zi_top (fun v_100 hv_100 => ?_)
            refine zc_ge (tgt := 163) hx hb dL_isHour_101 (by decide) (by first | decide | (constructor <;> omega)) (by first | decide | (constructor <;> omega)) (fun c_101 => ?_) (fun c_101 => ?_)
            · have hk9 : k = (yi 5).toNat := by omega
              have hbe := busy_eq (pr := pr) (n := yi 5) (h := h) hyb.1.1 hyb.1.2
              rw [← hk9, ← hk3] at hbe
              refine lv_aload_n hx hb dL_isHour_163 rfl (lv_at hl 9 rfl) ?_
              refine lv_iload hx hb dL_isHour_164 (lv_at hl 4 rfl) ?_
              refine zcalli (va_runV (As := [.int (iI (h))]) (rest := []) ⟨hx, hb, hml, hown, hts⟩ (c_Q_need l D cy A ad T yi pr la _ (h) hw hys (by omega)) (cwV 1 hts gL_isHour_X1_need rfl rfl rfl (by decide +kernel) ⟨(Nat.le_of_ble_eq_true rfl), (Nat.le_of_ble_eq_true rfl)⟩) (l_PV hE hS hw) rfl rfl hl.1 rfl (lv_room (Nat.le_of_ble_eq_true rfl)) dL_isHour_166 ⟨(Nat.le_of_ble_eq_true rfl), (Nat.le_of_ble_eq_true rfl)⟩) hS (fun z_166 H1 locs hz_166 hq hz1 hk1 hS => ?_)
              obtain ⟨hw, hv_166⟩ := hq
              refine lv_iload hx hb dL_isHour_169 (lv_at hl 3 rfl) ?_
              refine zc_ne (tgt := 226) hx hb dL_isHour_171 (by decide) (by first | decide | (constructor <;> omega)) (by first | decide | (constructor <;> omega)) (fun c_171 => ?_) (fun c_171 => ?_)
              · exfalso; omega
              · refine lv_iload hx hb dL_isHour_174 (lv_at hl 1 rfl) ?_
                refine lv_iload hx hb dL_isHour_176 (lv_at hl 2 rfl) ?_
                refine zc_ne (tgt := 226) hx hb dL_isHour_178 (by decide) (by first | decide | (constructor <;> omega)) (by first | decide | (constructor <;> omega)) (fun c_178 => ?_) (fun c_178 => ?_)
                · exfalso; omega
                · refine lv_iload hx hb dL_isHour_181 (lv_at hl 1 rfl) ?_
                  refine lv_iload hx hb dL_isHour_183 (lv_at hl 3 rfl) ?_
                  refine zc_gt (tgt := 226) hx hb dL_isHour_185 (by decide) (by first | decide | (constructor <;> omega)) (by first | decide | (constructor <;> omega)) (fun c_185 => ?_) (fun c_185 => ?_)
                  · exfalso; omega
                  · refine lv_iload hx hb dL_isHour_188 (lv_at hl 3 rfl) ?_
                    refine lv_aload hx hb dL_isHour_190 (lv_at hl 5 rfl) ?_
                    refine zi_const hx hb dL_isHour_192 ?_
                    refine l_ald hx hb hE hw 4 (by decide) 2 rfl (by decide) dL_isHour_193 ?_
                    refine zi_top (fun v_193 hv_193 => ?_)
                    refine zc_le (tgt := 213) hx hb dL_isHour_194 (by decide) (by first | decide | (constructor <;> omega)) (by first | decide | (constructor <;> omega)) (fun c_194 => ?_) (fun c_194 => ?_)
                    · refine lv_aload_n hx hb dL_isHour_213 rfl (lv_at hl 9 rfl) ?_
                      refine zcalli (va_runV (As := []) (rest := []) ⟨hx, hb, hml, hown, hts⟩ (c_Q_peak l D cy A ad T yi pr la _ hw hys) (cwV 0 hts gL_isHour_X1_peak rfl rfl rfl (by decide +kernel) ⟨(Nat.le_of_ble_eq_true rfl), (Nat.le_of_ble_eq_true rfl)⟩) (l_PV hE hS hw) rfl rfl hl.1 rfl (lv_room (Nat.le_of_ble_eq_true rfl)) dL_isHour_214 ⟨(Nat.le_of_ble_eq_true rfl), (Nat.le_of_ble_eq_true rfl)⟩) hS (fun z_214 H1 locs hz_214 hq hz1 hk1 hS => ?_)
                      obtain ⟨hw, hv_214⟩ := hq
                      have hmx := mx_at (f := fun j : Nat => nY pr j 10) (n := 1000) (k := h.toNat) (by omega)
                      (try dsimp only at hmx)
                      rw [show (h.toNat : Int) = h by omega, ← hv_214] at hmx
                      refine lv_iload hx hb dL_isHour_217 (lv_at hl 3 rfl) ?_
                      refine zc_lt (tgt := 226) hx hb dL_isHour_219 (by decide) (by first | decide | (constructor <;> omega)) (by first | decide | (constructor <;> omega)) (fun c_219 => ?_) (fun c_219 => ?_)
                      · exfalso; omega
                      · refine zi_const hx hb dL_isHour_222 ?_
                        refine lv_goto (tgt := 227) hx hb dL_isHour_223 (by decide) ?_
                        refine zzret hx hb hr hlocks hS (Nat.le_of_ble_eq_true rfl) (Nat.le_of_ble_eq_true rfl) (by omega) ?_ dL_isHour_227
                        exact ⟨hw, rfl⟩
                    · have hfs := fsY_at (pr := pr) (n := yi 5) (t := h) h1.1 h1.2 (by omega)
                      refine lv_aload_n hx hb dL_isHour_197 rfl (lv_at hl 9 rfl) ?_
                      refine zcalli (va_runV (As := []) (rest := []) ⟨hx, hb, hml, hown, hts⟩ (c_Q_firstShort l D cy A ad T yi pr la _ hw hys) (cwV 0 hts gL_isHour_X1_firstShort rfl rfl rfl (by decide +kernel) ⟨(Nat.le_of_ble_eq_true rfl), (Nat.le_of_ble_eq_true rfl)⟩) (l_PV hE hS hw) rfl rfl hl.1 rfl (lv_room (Nat.le_of_ble_eq_true rfl)) dL_isHour_198 ⟨(Nat.le_of_ble_eq_true rfl), (Nat.le_of_ble_eq_true rfl)⟩) hS (fun z_198 H1 locs hz_198 hq hz1 hk1 hS => ?_)
                      obtain ⟨hw, hv_198⟩ := hq
                      refine zf_lt (tgt := 226) hx hb dL_isHour_201 (by decide) (by first | decide | (constructor <;> omega)) (fun c_201 => ?_) (fun c_201 => ?_)
                      · exfalso; omega
                      · refine lv_aload_n hx hb dL_isHour_204 rfl (lv_at hl 9 rfl) ?_
                        refine zcalli (va_runV (As := []) (rest := []) ⟨hx, hb, hml, hown, hts⟩ (c_Q_firstShort l D cy A ad T yi pr la _ hw hys) (cwV 0 hts gL_isHour_X1_firstShort rfl rfl rfl (by decide +kernel) ⟨(Nat.le_of_ble_eq_true rfl), (Nat.le_of_ble_eq_true rfl)⟩) (l_PV hE hS hw) rfl rfl hl.1 rfl (lv_room (Nat.le_of_ble_eq_true rfl)) dL_isHour_205 ⟨(Nat.le_of_ble_eq_true rfl), (Nat.le_of_ble_eq_true rfl)⟩) hS (fun z_205 H1 locs hz_205 hq hz1 hk1 hS => ?_)
                        obtain ⟨hw, hv_205⟩ := hq
                        refine lv_iload hx hb dL_isHour_208 (lv_at hl 4 rfl) ?_
                        refine zc_gt (tgt := 226) hx hb dL_isHour_210 (by decide) (by first | decide | (constructor <;> omega)) (by first | decide | (constructor <;> omega)) (fun c_210 => ?_) (fun c_210 => ?_)
                        · exfalso; omega
                        · refine lv_aload_n hx hb dL_isHour_213 rfl (lv_at hl 9 rfl) ?_
                          refine zcalli (va_runV (As := []) (rest := []) ⟨hx, hb, hml, hown, hts⟩ (c_Q_peak l D cy A ad T yi pr la _ hw hys) (cwV 0 hts gL_isHour_X1_peak rfl rfl rfl (by decide +kernel) ⟨(Nat.le_of_ble_eq_true rfl), (Nat.le_of_ble_eq_true rfl)⟩) (l_PV hE hS hw) rfl rfl hl.1 rfl (lv_room (Nat.le_of_ble_eq_true rfl)) dL_isHour_214 ⟨(Nat.le_of_ble_eq_true rfl), (Nat.le_of_ble_eq_true rfl)⟩) hS (fun z_214 H1 locs hz_214 hq hz1 hk1 hS => ?_)
                          obtain ⟨hw, hv_214⟩ := hq
                          have hmx := mx_at (f := fun j : Nat => nY pr j 10) (n := 1000) (k := h.toNat) (by omega)
                          (try dsimp only at hmx)
                          rw [show (h.toNat : Int) = h by omega, ← hv_214] at hmx
                          refine lv_iload hx hb dL_isHour_217 (lv_at hl 3 rfl) ?_
                          refine zc_lt (tgt := 226) hx hb dL_isHour_219 (by decide) (by first | decide | (constructor <;> omega)) (by first | decide | (constructor <;> omega)) (fun c_219 => ?_) (fun c_219 => ?_)
                          · exfalso; omega
                          · refine zi_const hx hb dL_isHour_222 ?_
                            refine lv_goto (tgt := 227) hx hb dL_isHour_223 (by decide) ?_
                            refine zzret hx hb hr hlocks hS (Nat.le_of_ble_eq_true rfl) (Nat.le_of_ble_eq_true rfl) (by omega) ?_ dL_isHour_227
                            exact ⟨hw, rfl⟩
            · refine lv_aload_n hx hb dL_isHour_104 rfl (lv_at hl 9 rfl) ?_
              refine lv_iload hx hb dL_isHour_105 (lv_at hl 0 rfl) ?_
              refine lv_iload hx hb dL_isHour_107 (lv_at hl 4 rfl) ?_
              refine zcalli (va_runV (As := [.int (iI ((k : Int))), .int (iI (h))]) (rest := []) ⟨hx, hb, hml, hown, hts⟩ (c_Q_pourOf l D cy A ad T yi pr la _ k (h) hw hys (by omega) (by omega)) (cwV 2 hts gL_isHour_X1_pourOf rfl rfl rfl (by decide +kernel) ⟨(Nat.le_of_ble_eq_true rfl), (Nat.le_of_ble_eq_true rfl)⟩) (l_PV hE hS hw) rfl rfl hl.1 rfl (lv_room (Nat.le_of_ble_eq_true rfl)) dL_isHour_109 ⟨(Nat.le_of_ble_eq_true rfl), (Nat.le_of_ble_eq_true rfl)⟩) hS (fun z_109 H1 locs hz_109 hq hz1 hk1 hS => ?_)
              obtain ⟨hw, hv_109⟩ := hq
              rcases hv_109 with ⟨hz9, ht9⟩ | ⟨hz0, hz10, ht9, p9, hp9, hb9⟩
              · subst hz9
                refine lv_istore (lv' := [(10, .int (iI ((-1)))), (9, .int (iI ((k : Int)))), (8, .int (iI (y))), (7, .int (iI (x))), (6, .int (iI (w))), (5, .int (iI (h))), (4, .ref (ad 47)), (3, .ref (ad 46)), (2, .ref (ad 44)), (1, .ref (ad 43)), (0, .ref (ad 0))]) hx hb dL_isHour_112 hl (by decide) rfl (fun ls hl => ?_)
                refine lv_iload hx hb dL_isHour_114 (lv_at hl 2 rfl) ?_
                refine lv_iload hx hb dL_isHour_116 (lv_at hl 0 rfl) ?_
                refine zf_ge (tgt := 125) hx hb dL_isHour_118 (by decide) (by first | decide | (constructor <;> omega)) (fun c_118 => ?_) (fun c_118 => ?_)
                · exfalso; omega
                · refine zi_const hx hb dL_isHour_121 ?_
                  refine lv_goto (tgt := 126) hx hb dL_isHour_122 (by decide) ?_
                  refine zi_add hx hb dL_isHour_126 ?_
                  refine zi_top (fun x_127 hx_127 => ?_)
                  refine lv_istore (lv' := [(8, .int (iI (x_127))), (10, .int (iI ((-1)))), (9, .int (iI ((k : Int)))), (7, .int (iI (x))), (6, .int (iI (w))), (5, .int (iI (h))), (4, .ref (ad 47)), (3, .ref (ad 46)), (2, .ref (ad 44)), (1, .ref (ad 43)), (0, .ref (ad 0))]) hx hb dL_isHour_127 hl (by decide) rfl (fun ls hl => ?_)
                  refine lv_iload hx hb dL_isHour_129 (lv_at hl 1 rfl) ?_
                  refine zf_lt (tgt := 157) hx hb dL_isHour_131 (by decide) (by first | decide | (constructor <;> omega)) (fun c_131 => ?_) (fun c_131 => ?_)
                  · refine zi_iinc (lv' := [(9, .int (iI ((k : Int) + 1))), (8, .int (iI (x_127))), (10, .int (iI ((-1)))), (7, .int (iI (x))), (6, .int (iI (w))), (5, .int (iI (h))), (4, .ref (ad 47)), (3, .ref (ad 46)), (2, .ref (ad 44)), (1, .ref (ad 43)), (0, .ref (ad 0))]) hx hb dL_isHour_157 hl (k := 2) rfl (by decide) rfl (fun ls hl => ?_)
                    refine lv_goto (tgt := 95) hx hb dL_isHour_160 (by decide) ?_
                    have hs9 : sl (fun j => bI (tkn (bsY pr) (FY pr (yi 5) 10000) h j 10)) (k + 1) = sl (fun j => bI (tkn (bsY pr) (FY pr (yi 5) 10000) h j 10)) k + 0 := by simp only [sl]; rw [ht9]; rfl
                    exact ih (k + 1) x_127 _ _ _ (by omega) (by omega) (by omega) hw hS (lv_sub hl [0, 1, 3, 4, 5, 6, 7, 8, 9, 10] rfl)
                  · exfalso; omega
              · obtain ⟨r, hr9⟩ : ∃ r : Nat, z_109 = (r : Int) := ⟨z_109.toNat, by omega⟩
                subst hr9
                rw [Int.toNat_natCast] at hp9
                obtain ⟨e0, -⟩ := hla.at (i := r) (by omega) hp9
                refine lv_istore (lv' := [(10, .int (iI ((r : Int)))), (9, .int (iI ((k : Int)))), (8, .int (iI (y))), (7, .int (iI (x))), (6, .int (iI (w))), (5, .int (iI (h))), (4, .ref (ad 47)), (3, .ref (ad 46)), (2, .ref (ad 44)), (1, .ref (ad 43)), (0, .ref (ad 0))]) hx hb dL_isHour_112 hl (by decide) rfl (fun ls hl => ?_)
                refine lv_iload hx hb dL_isHour_114 (lv_at hl 2 rfl) ?_
                refine lv_iload hx hb dL_isHour_116 (lv_at hl 0 rfl) ?_
                refine zf_ge (tgt := 125) hx hb dL_isHour_118 (by decide) (by first | decide | (constructor <;> omega)) (fun c_118 => ?_) (fun c_118 => ?_)
                · refine zi_const hx hb dL_isHour_125 ?_
                  refine zi_add hx hb dL_isHour_126 ?_
                  refine zi_top (fun x_127 hx_127 => ?_)
                  refine lv_istore (lv' := [(8, .int (iI (x_127))), (10, .int (iI ((r : Int)))), (9, .int (iI ((k : Int)))), (7, .int (iI (x))), (6, .int (iI (w))), (5, .int (iI (h))), (4, .ref (ad 47)), (3, .ref (ad 46)), (2, .ref (ad 44)), (1, .ref (ad 43)), (0, .ref (ad 0))]) hx hb dL_isHour_127 hl (by decide) rfl (fun ls hl => ?_)
                  refine lv_iload hx hb dL_isHour_129 (lv_at hl 1 rfl) ?_
                  refine zf_lt (tgt := 157) hx hb dL_isHour_131 (by decide) (by first | decide | (constructor <;> omega)) (fun c_131 => ?_) (fun c_131 => ?_)
                  · exfalso; omega
                  · refine lv_aload_n hx hb dL_isHour_134 rfl (lv_at hl 9 rfl) ?_
                    refine lv_iload hx hb dL_isHour_135 (lv_at hl 1 rfl) ?_
                    refine l_ald hx hb hE hw 0 (by decide) r rfl (by unfold rowN; simp; omega) dL_isHour_137 ?_
                    refine zi_top (fun v_137 hv_137 => ?_)
                    refine zf_eq (tgt := 155) hx hb dL_isHour_138 (by decide) (by first | decide | (constructor <;> omega)) (fun c_138 => ?_) (fun c_138 => ?_)
                    · exfalso; omega
                    · refine lv_aload_n hx hb dL_isHour_141 rfl (lv_at hl 10 rfl) ?_
                      refine lv_aload_n hx hb dL_isHour_142 rfl (lv_at hl 7 rfl) ?_
                      refine lv_aload hx hb dL_isHour_143 (lv_at hl 6 rfl) ?_
                      refine lv_iload hx hb dL_isHour_145 (lv_at hl 1 rfl) ?_
                      refine lv_iload hx hb dL_isHour_147 (lv_at hl 5 rfl) ?_
                      refine zcalli (va_runS (As := [.ref (ad 0), .ref (ad 46), .ref (ad 47), .int (iI ((r : Int))), .int (iI (h))]) (rest := []) ⟨hx, hb, hml, hown, hts⟩ (c_L_isBusy l D cy A ad T yi pr la _ (r) p9 (h) hw hys hla (by omega) hp9 (by omega)) (va_cwS 5 hts gL_isHour_L_isBusy rfl rfl rfl (by decide +kernel) ⟨(Nat.le_of_ble_eq_true rfl), (Nat.le_of_ble_eq_true rfl)⟩) (zPS hE hS) rfl rfl hl.1 rfl (lv_room (Nat.le_of_ble_eq_true rfl)) dL_isHour_149 ⟨(Nat.le_of_ble_eq_true rfl), (Nat.le_of_ble_eq_true rfl)⟩) hS (fun z_149 H1 locs hz_149 hq hz1 hk1 hS => ?_)
                      obtain ⟨hw, hv_149⟩ := hq
                      refine zf_ne (tgt := 157) hx hb dL_isHour_152 (by decide) (by first | decide | (constructor <;> omega)) (fun c_152 => ?_) (fun c_152 => ?_)
                      · refine zi_iinc (lv' := [(9, .int (iI ((k : Int) + 1))), (8, .int (iI (x_127))), (10, .int (iI ((r : Int)))), (7, .int (iI (x))), (6, .int (iI (w))), (5, .int (iI (h))), (4, .ref (ad 47)), (3, .ref (ad 46)), (2, .ref (ad 44)), (1, .ref (ad 43)), (0, .ref (ad 0))]) hx hb dL_isHour_157 hl (k := 2) rfl (by decide) rfl (fun ls hl => ?_)
                        refine lv_goto (tgt := 95) hx hb dL_isHour_160 (by decide) ?_
                        have hs9 : sl (fun j => bI (tkn (bsY pr) (FY pr (yi 5) 10000) h j 10)) (k + 1) = sl (fun j => bI (tkn (bsY pr) (FY pr (yi 5) 10000) h j 10)) k + 1 := by simp only [sl]; rw [ht9]; rfl
                        exact ih (k + 1) x_127 _ _ _ (by omega) (by omega) (by omega) hw hS (lv_sub hl [0, 1, 3, 4, 5, 6, 7, 8, 9, 10] rfl)
                      · exfalso; omega
                · exfalso; omega
        exact loop_95 61 0 0 _ _ _ (by omega) (by omega) rfl hw hS (lv_sub hl [0, 1, 2, 3, 4, 5, 6, 7, 8, 9] rfl)
      · rcases hl0 i (by omega) with ⟨m0, hpi⟩ | ⟨m0, p0, hpi, m1, m2, m3⟩
        · refine lv_aload_n hx hb dL_isHour_16 rfl (lv_at hl 7 rfl) ?_
          refine lv_iload hx hb dL_isHour_17 (lv_at hl 0 rfl) ?_
          refine l_ald hx hb hE hw 0 (by decide) i rfl (by unfold rowN; simp; omega) dL_isHour_19 ?_
          refine zi_top (fun v_19 hv_19 => ?_)
          refine zi_const hx hb dL_isHour_20 ?_
          refine zc_ne (tgt := 42) hx hb dL_isHour_21 (by decide) (by first | decide | (constructor <;> omega)) (by first | decide | (constructor <;> omega)) (fun c_21 => ?_) (fun c_21 => ?_)
          · refine zi_const hx hb dL_isHour_42 ?_
            refine lv_istore (lv' := [(9, .int (iI (0))), (8, .int (iI ((i : Int)))), (7, .int (iI (x))), (6, .int (iI (w))), (5, .int (iI (h))), (4, .ref (ad 47)), (3, .ref (ad 46)), (2, .ref (ad 44)), (1, .ref (ad 43)), (0, .ref (ad 0))]) hx hb dL_isHour_43 hl (by decide) rfl (fun ls hl => ?_)
            refine lv_iload hx hb dL_isHour_45 (lv_at hl 3 rfl) ?_
            refine lv_iload hx hb dL_isHour_47 (lv_at hl 0 rfl) ?_
            refine zf_eq (tgt := 59) hx hb dL_isHour_49 (by decide) (by first | decide | (constructor <;> omega)) (fun c_49 => ?_) (fun c_49 => ?_)
            · refine zi_const hx hb dL_isHour_59 ?_
              refine zi_add hx hb dL_isHour_60 ?_
              refine zi_top (fun x_61 hx_61 => ?_)
              refine lv_istore (lv' := [(6, .int (iI (x_61))), (9, .int (iI (0))), (8, .int (iI ((i : Int)))), (7, .int (iI (x))), (5, .int (iI (h))), (4, .ref (ad 47)), (3, .ref (ad 46)), (2, .ref (ad 44)), (1, .ref (ad 43)), (0, .ref (ad 0))]) hx hb dL_isHour_61 hl (by decide) rfl (fun ls hl => ?_)
              refine lv_iload hx hb dL_isHour_63 (lv_at hl 3 rfl) ?_
              refine lv_iload hx hb dL_isHour_65 (lv_at hl 1 rfl) ?_
              refine zf_eq (tgt := 79) hx hb dL_isHour_67 (by decide) (by first | decide | (constructor <;> omega)) (fun c_67 => ?_) (fun c_67 => ?_)
              · refine zi_const hx hb dL_isHour_79 ?_
                refine zi_add hx hb dL_isHour_80 ?_
                refine zi_top (fun x_81 hx_81 => ?_)
                refine lv_istore (lv' := [(7, .int (iI (x_81))), (6, .int (iI (x_61))), (9, .int (iI (0))), (8, .int (iI ((i : Int)))), (5, .int (iI (h))), (4, .ref (ad 47)), (3, .ref (ad 46)), (2, .ref (ad 44)), (1, .ref (ad 43)), (0, .ref (ad 0))]) hx hb dL_isHour_81 hl (by decide) rfl (fun ls hl => ?_)
                refine zi_iinc (lv' := [(8, .int (iI ((i : Int) + 1))), (7, .int (iI (x_81))), (6, .int (iI (x_61))), (9, .int (iI (0))), (5, .int (iI (h))), (4, .ref (ad 47)), (3, .ref (ad 46)), (2, .ref (ad 44)), (1, .ref (ad 43)), (0, .ref (ad 0))]) hx hb dL_isHour_83 hl (k := 3) rfl (by decide) rfl (fun ls hl => ?_)
                refine lv_goto (tgt := 9) hx hb dL_isHour_86 (by decide) ?_
                exact ih (i + 1) x_61 x_81 _ _ _ (by omega) (by omega) (by rw [nY_n hpi]; omega) (by rw [gS_n hpi]; omega) hw hS (lv_sub hl [0, 1, 2, 4, 5, 6, 7, 8, 9] rfl)
              · exfalso; omega
            · exfalso; omega
          · exfalso; omega
        · have hbp := hys.b9 i p0 (by omega) hpi
          refine lv_aload_n hx hb dL_isHour_16 rfl (lv_at hl 7 rfl) ?_
          refine lv_iload hx hb dL_isHour_17 (lv_at hl 0 rfl) ?_
          refine l_ald hx hb hE hw 0 (by decide) i rfl (by unfold rowN; simp; omega) dL_isHour_19 ?_
          refine zi_top (fun v_19 hv_19 => ?_)
          refine zi_const hx hb dL_isHour_20 ?_
          refine zc_ne (tgt := 42) hx hb dL_isHour_21 (by decide) (by first | decide | (constructor <;> omega)) (by first | decide | (constructor <;> omega)) (fun c_21 => ?_) (fun c_21 => ?_)
          · exfalso; omega
          · refine lv_aload_n hx hb dL_isHour_24 rfl (lv_at hl 8 rfl) ?_
            refine lv_aload_n hx hb dL_isHour_25 rfl (lv_at hl 5 rfl) ?_
            refine lv_aload hx hb dL_isHour_26 (lv_at hl 4 rfl) ?_
            refine lv_iload hx hb dL_isHour_28 (lv_at hl 0 rfl) ?_
            refine lv_iload hx hb dL_isHour_30 (lv_at hl 3 rfl) ?_
            refine zcalli (va_runS (As := [.ref (ad 0), .ref (ad 46), .ref (ad 47), .int (iI ((i : Int))), .int (iI (h))]) (rest := []) ⟨hx, hb, hml, hown, hts⟩ (c_L_isBusy l D cy A ad T yi pr la _ (i) p0 (h) hw hys hla (by omega) hpi (by omega)) (va_cwS 5 hts gL_isHour_L_isBusy rfl rfl rfl (by decide +kernel) ⟨(Nat.le_of_ble_eq_true rfl), (Nat.le_of_ble_eq_true rfl)⟩) (zPS hE hS) rfl rfl hl.1 rfl (lv_room (Nat.le_of_ble_eq_true rfl)) dL_isHour_32 ⟨(Nat.le_of_ble_eq_true rfl), (Nat.le_of_ble_eq_true rfl)⟩) hS (fun z_32 H1 locs hz_32 hq hz1 hk1 hS => ?_)
            obtain ⟨hw, hv_32⟩ := hq
            refine zf_eq (tgt := 42) hx hb dL_isHour_35 (by decide) (by first | decide | (constructor <;> omega)) (fun c_35 => ?_) (fun c_35 => ?_)
            · have hnb : ¬ (p0.1 9 ≤ h ∧ h < p0.1 10) := by omega
              refine zi_const hx hb dL_isHour_42 ?_
              refine lv_istore (lv' := [(9, .int (iI (0))), (8, .int (iI ((i : Int)))), (7, .int (iI (x))), (6, .int (iI (w))), (5, .int (iI (h))), (4, .ref (ad 47)), (3, .ref (ad 46)), (2, .ref (ad 44)), (1, .ref (ad 43)), (0, .ref (ad 0))]) hx hb dL_isHour_43 hl (by decide) rfl (fun ls hl => ?_)
              refine lv_iload hx hb dL_isHour_45 (lv_at hl 3 rfl) ?_
              refine lv_iload hx hb dL_isHour_47 (lv_at hl 0 rfl) ?_
              refine zf_eq (tgt := 59) hx hb dL_isHour_49 (by decide) (by first | decide | (constructor <;> omega)) (fun c_49 => ?_) (fun c_49 => ?_)
              · refine zi_const hx hb dL_isHour_59 ?_
                refine zi_add hx hb dL_isHour_60 ?_
                refine zi_top (fun x_61 hx_61 => ?_)
                refine lv_istore (lv' := [(6, .int (iI (x_61))), (9, .int (iI (0))), (8, .int (iI ((i : Int)))), (7, .int (iI (x))), (5, .int (iI (h))), (4, .ref (ad 47)), (3, .ref (ad 46)), (2, .ref (ad 44)), (1, .ref (ad 43)), (0, .ref (ad 0))]) hx hb dL_isHour_61 hl (by decide) rfl (fun ls hl => ?_)
                refine lv_iload hx hb dL_isHour_63 (lv_at hl 3 rfl) ?_
                refine lv_iload hx hb dL_isHour_65 (lv_at hl 1 rfl) ?_
                refine zf_eq (tgt := 79) hx hb dL_isHour_67 (by decide) (by first | decide | (constructor <;> omega)) (fun c_67 => ?_) (fun c_67 => ?_)
                · refine zi_const hx hb dL_isHour_79 ?_
                  refine zi_add hx hb dL_isHour_80 ?_
                  refine zi_top (fun x_81 hx_81 => ?_)
                  refine lv_istore (lv' := [(7, .int (iI (x_81))), (6, .int (iI (x_61))), (9, .int (iI (0))), (8, .int (iI ((i : Int)))), (5, .int (iI (h))), (4, .ref (ad 47)), (3, .ref (ad 46)), (2, .ref (ad 44)), (1, .ref (ad 43)), (0, .ref (ad 0))]) hx hb dL_isHour_81 hl (by decide) rfl (fun ls hl => ?_)
                  refine zi_iinc (lv' := [(8, .int (iI ((i : Int) + 1))), (7, .int (iI (x_81))), (6, .int (iI (x_61))), (9, .int (iI (0))), (5, .int (iI (h))), (4, .ref (ad 47)), (3, .ref (ad 46)), (2, .ref (ad 44)), (1, .ref (ad 43)), (0, .ref (ad 0))]) hx hb dL_isHour_83 hl (k := 3) rfl (by decide) rfl (fun ls hl => ?_)
                  refine lv_goto (tgt := 9) hx hb dL_isHour_86 (by decide) ?_
                  exact ih (i + 1) x_61 x_81 _ _ _ (by omega) (by omega) (by rw [nY_s hpi, if_neg hnb]; omega) (by rw [gS_0 hpi hnb]; omega) hw hS (lv_sub hl [0, 1, 2, 4, 5, 6, 7, 8, 9] rfl)
                · exfalso; omega
              · exfalso; omega
            · have hbz : p0.1 9 ≤ h ∧ h < p0.1 10 := by omega
              have hc9 := FY_cnt (n := yi 5) hys (by omega) hpi
              refine zi_const hx hb dL_isHour_38 ?_
              refine lv_goto (tgt := 43) hx hb dL_isHour_39 (by decide) ?_
              refine lv_istore (lv' := [(9, .int (iI (1))), (8, .int (iI ((i : Int)))), (7, .int (iI (x))), (6, .int (iI (w))), (5, .int (iI (h))), (4, .ref (ad 47)), (3, .ref (ad 46)), (2, .ref (ad 44)), (1, .ref (ad 43)), (0, .ref (ad 0))]) hx hb dL_isHour_43 hl (by decide) rfl (fun ls hl => ?_)
              refine lv_iload hx hb dL_isHour_45 (lv_at hl 3 rfl) ?_
              refine lv_iload hx hb dL_isHour_47 (lv_at hl 0 rfl) ?_
              refine zf_eq (tgt := 59) hx hb dL_isHour_49 (by decide) (by first | decide | (constructor <;> omega)) (fun c_49 => ?_) (fun c_49 => ?_)
              · exfalso; omega
              · refine lv_aload_n hx hb dL_isHour_52 rfl (lv_at hl 7 rfl) ?_
                refine lv_iload hx hb dL_isHour_53 (lv_at hl 1 rfl) ?_
                refine l_ald hx hb hE hw 1 (by decide) i rfl (by unfold rowN; simp; omega) dL_isHour_55 ?_
                refine zi_top (fun v_55 hv_55 => ?_)
                refine lv_goto (tgt := 60) hx hb dL_isHour_56 (by decide) ?_
                refine zi_add hx hb dL_isHour_60 ?_
                refine zi_top (fun x_61 hx_61 => ?_)
                refine lv_istore (lv' := [(6, .int (iI (x_61))), (9, .int (iI (1))), (8, .int (iI ((i : Int)))), (7, .int (iI (x))), (5, .int (iI (h))), (4, .ref (ad 47)), (3, .ref (ad 46)), (2, .ref (ad 44)), (1, .ref (ad 43)), (0, .ref (ad 0))]) hx hb dL_isHour_61 hl (by decide) rfl (fun ls hl => ?_)
                refine lv_iload hx hb dL_isHour_63 (lv_at hl 3 rfl) ?_
                refine lv_iload hx hb dL_isHour_65 (lv_at hl 1 rfl) ?_
                refine zf_eq (tgt := 79) hx hb dL_isHour_67 (by decide) (by first | decide | (constructor <;> omega)) (fun c_67 => ?_) (fun c_67 => ?_)
                · exfalso; omega
                · refine lv_aload_n hx hb dL_isHour_70 rfl (lv_at hl 9 rfl) ?_
                  refine lv_iload hx hb dL_isHour_71 (lv_at hl 2 rfl) ?_
                  refine zcalli (va_runV (As := [.int (iI ((i : Int)))]) (rest := [.int (iI (x))]) ⟨hx, hb, hml, hown, hts⟩ (c_Q_panelsOf l D cy A ad T yi pr la _ (i) p0 hw hys (by omega) hpi) (cwV 1 hts gL_isHour_X1_panelsOf rfl rfl rfl (by decide +kernel) ⟨(Nat.le_of_ble_eq_true rfl), (Nat.le_of_ble_eq_true rfl)⟩) (l_PV hE hS hw) rfl rfl hl.1 rfl (lv_room (Nat.le_of_ble_eq_true rfl)) dL_isHour_73 ⟨(Nat.le_of_ble_eq_true rfl), (Nat.le_of_ble_eq_true rfl)⟩) hS (fun z_73 H1 locs hz_73 hq hz1 hk1 hS => ?_)
                  obtain ⟨hw, hv_73⟩ := hq
                  refine lv_goto (tgt := 80) hx hb dL_isHour_76 (by decide) ?_
                  refine zi_add hx hb dL_isHour_80 ?_
                  refine zi_top (fun x_81 hx_81 => ?_)
                  refine lv_istore (lv' := [(7, .int (iI (x_81))), (6, .int (iI (x_61))), (9, .int (iI (1))), (8, .int (iI ((i : Int)))), (5, .int (iI (h))), (4, .ref (ad 47)), (3, .ref (ad 46)), (2, .ref (ad 44)), (1, .ref (ad 43)), (0, .ref (ad 0))]) hx hb dL_isHour_81 hl (by decide) rfl (fun ls hl => ?_)
                  refine zi_iinc (lv' := [(8, .int (iI ((i : Int) + 1))), (7, .int (iI (x_81))), (6, .int (iI (x_61))), (9, .int (iI (1))), (5, .int (iI (h))), (4, .ref (ad 47)), (3, .ref (ad 46)), (2, .ref (ad 44)), (1, .ref (ad 43)), (0, .ref (ad 0))]) hx hb dL_isHour_83 hl (k := 3) rfl (by decide) rfl (fun ls hl => ?_)
                  refine lv_goto (tgt := 9) hx hb dL_isHour_86 (by decide) ?_
                  exact ih (i + 1) x_61 x_81 _ _ _ (by omega) (by omega) (by rw [nY_s hpi, if_pos hbz]; omega) (by rw [gS_1 hpi hbz]; omega) hw hS (lv_sub hl [0, 1, 2, 4, 5, 6, 7, 8, 9] rfl)
  exact loop_9 11 0 0 0 _ _ _ (by omega) (by omega) rfl rfl hw hS (lv_sub hl [0, 1, 2, 8, 7, 6, 5, 4, 3] rfl)
