def oE (ci : Nat) (fs : List Value) : Nat → Option va_E := fun k => if k = 0 then some (.inr (ci, fs)) else none
def yI0 : Nat → Int := fun j => match j with
  | 5 => 20
  | 6 => 10
  | 7 => 2
  | _ => 3
theorem yE_n {cy : Nat → ClassId} {ad : Nat → Nat} {ya : Nat → Nat → Int} {yi : Nat → Int} (k : Nat) : yE cy ad ya yi (fun _ => none) (k + 6) = none := by
  unfold yE
  rw [if_neg (by omega), if_neg (by omega), if_neg (by omega), if_neg (by omega), if_neg (by omega), if_neg (by omega)]
  split
  · rfl
  · split <;> rfl
set_option maxHeartbeats 4000000 in
set_option maxRecDepth 100000 in
theorem c_J7_fill_53178 (l : Launch) (D : va_G) (cy : Nat → ClassId) (A : Nat → Prop) (ad : Nat → Nat) (ya : Nat → Nat → Int) (yi : Nat → Int) (pr : Nat → Option PS) (H0 : Heap) (v : Int) (hw : zW D A ad (yE cy ad ya yi pr) H0) (h1 : zr v) : Met l yJ7_fill_53178 wsJ7_fill_53178 ({ frames := 0, cells := 0, slots := 0, locals := 0 }) (zPc D cy A [.ref (ad 1), .int (iI (v))] H0) (zQv (fun H1 => ∃ yb, zW D A ad (yE cy ad yb yi pr) H1 ∧ (∀ r, r ≠ 0 → yb r = ya r) ∧ ∀ j, j < 1000 → yb 0 j = v) A) 0 0 A := by
  refine Met.ofW (cc := cJ7_fill_53178) (maxL := 4) (ret := none) (by decide) rfl ?_
  intro pg en s mt args below meth c s₁ B hml hv
  obtain ⟨rfl, hH, hE⟩ := hv
  subst hH
  have hx := B.exec
  have hb := B.bytes
  have hr := B.returns
  have hts := atoms_spec (ws := wsJ7_fill_53178) B.pre
  have hown : s.vm.findClass RJ7 = some mt.cls := findClass_of_methodNamed B.named
  have hlocks := B.notSynchronized
  have hS : va_S A s.heap s.heap [] := va_S.rf
  have hl := lv_entry ([.ref (ad 1), .int (iI (v))]) (n := 4) (Nat.le_of_ble_eq_true rfl)
  rw [lg_entry_eq]
  generalize (lg_sl ([.ref (ad 1), .int (iI (v))]) ++ List.replicate (4 - (lg_sl ([.ref (ad 1), .int (iI (v))])).length) Slot.unset).toArray = ls at hl ⊢
  have hl : lv_has ls 4 [(0, .ref (ad 1)), (1, .int (iI (v)))] := hl
  refine zi_const hx hb dJ7_fill_53178_0 ?_
  refine lv_istore_n (lv' := [(2, .int (iI (0))), (0, .ref (ad 1)), (1, .int (iI (v)))]) hx hb dJ7_fill_53178_1 rfl hl (by decide) rfl (fun ls hl => ?_)
  refine lv_aload_n hx hb dJ7_fill_53178_2 rfl (lv_at hl 1 rfl) ?_
  refine zalen hx hb hE hw 1 0 yE_1 rfl (z := 1000) rfl dJ7_fill_53178_3 ?_
  refine lv_istore_n (lv' := [(3, .int (iI (1000))), (2, .int (iI (0))), (0, .ref (ad 1)), (1, .int (iI (v)))]) hx hb dJ7_fill_53178_4 rfl hl (by decide) rfl (fun ls hl => ?_)
  have loop_5 : ∀ (n : Nat) (x : Nat) (yb : Nat → Nat → Int) (H : Heap) (locs : List Loc) (ls : Array Slot), 1000 - x < n → (x ≤ 1000) → (∀ r, r ≠ 0 → yb r = ya r) → (∀ j, j < x → yb 0 j = v) → zW D A ad (yE cy ad yb yi pr) H → va_S A s.heap H locs → lv_has ls 4 [(2, .int (iI ((x : Int)))), (3, .int (iI (1000))), (0, .ref (ad 1)), (1, .int (iI (v)))] → W pg l en (headSpec wsJ7_fill_53178 ({ frames := 0, cells := 0, slots := 0, locals := 0 })).room s mt ([.ref (ad 1), .int (iI (v))] : List Value).toArray below meth c H locs 0 0 (MQ below (zQv (fun H1 => ∃ yb, zW D A ad (yE cy ad yb yi pr) H1 ∧ (∀ r, r ≠ 0 → yb r = ya r) ∧ ∀ j, j < 1000 → yb 0 j = v) A) ([.ref (ad 1), .int (iI (v))] : List Value).toArray s 0 0 A) (F0 mt 5 ls []) := by
    intro n
    induction n with
    | zero =>
      intro x yb H locs ls hm hx9 hr9 hv9
      exfalso; omega
    | succ n ih =>
      intro x yb H locs ls hm hx9 hr9 hv9 hw hS hl
      refine lv_iload_n hx hb dJ7_fill_53178_5 rfl (lv_at hl 0 rfl) ?_
      refine lv_iload_n hx hb dJ7_fill_53178_6 rfl (lv_at hl 1 rfl) ?_
      refine zc_ge (tgt := 20) hx hb dJ7_fill_53178_7 (by decide) (by first | decide | (constructor <;> omega)) (by first | decide | (constructor <;> omega)) (fun c_7 => ?_) (fun c_7 => ?_)
      · refine zvret hx hb hr hlocks hS (Nat.le_of_ble_eq_true rfl) (Nat.le_of_ble_eq_true rfl) ?_ dJ7_fill_53178_20
        exact ⟨_, hw, hr9, fun j hj => hv9 j (by omega)⟩
      · refine lv_aload_n hx hb dJ7_fill_53178_10 rfl (lv_at hl 2 rfl) ?_
        refine lv_iload_n hx hb dJ7_fill_53178_11 rfl (lv_at hl 0 rfl) ?_
        refine lv_iload_n hx hb dJ7_fill_53178_12 rfl (lv_at hl 3 rfl) ?_
        refine ziast hx hb hE hS hw 1 yE_1 x rfl (by omega) (by omega) dJ7_fill_53178_13 (fun H locs hw hS => ?_)
        have hw := hw.cong (yU_a 0 (by decide) (x) (v) rfl)
        obtain ⟨ya_1, hya_1⟩ : ∃ z : Nat → Nat → Int, z = va_up yb 0 (va_up (yb 0) (x) (v)) := ⟨_, rfl⟩
        rw [← hya_1] at hw
        refine zi_iinc (lv' := [(2, .int (iI ((x : Int) + 1))), (3, .int (iI (1000))), (0, .ref (ad 1)), (1, .int (iI (v)))]) hx hb dJ7_fill_53178_14 hl (k := 0) rfl (by decide) rfl (fun ls hl => ?_)
        refine lv_goto (tgt := 5) hx hb dJ7_fill_53178_17 (by decide) ?_
        have hS9 := rU_s (k := 0) (p := x) rU_r hya_1
        exact ih (x + 1) ya_1 _ _ _ (by omega) (by omega) (fun r hr => (rU_row hS9.1 hr).trans (hr9 r hr)) (fun j hj => by by_cases hj2 : j = x; (subst hj2; exact hS9.2); rw [hS9.1 0 j (Or.inr hj2)]; exact hv9 j (by omega)) hw hS (lv_sub hl [0, 1, 2, 3] rfl)
  exact loop_5 1001 0 ya _ _ _ (by omega) (by omega) (fun _ _ => rfl) (fun j hj => absurd hj (Nat.not_lt_zero j)) hw hS (lv_sub hl [1, 0, 2, 3] rfl)

set_option maxHeartbeats 4000000 in
set_option maxRecDepth 100000 in
theorem c_X1_init (l : Launch) (D : va_G) (cy : Nat → ClassId) (A : Nat → Prop) (ad : Nat → Nat) (H0 : Heap) (hAf : ∀ q, H0.size ≤ q → A q) (hw : zW D A ad (oE 1 [.null, .null, .null, .null, .null, .int 0, .int 0, .int 0, .int 0]) H0) : Met l yX1_init wsX1_init ({ frames := 2, cells := 5, slots := 4012, locals := 42 }) (zPc D cy A [.ref (ad 0)] H0) (zQv (fun H1 => ∃ ad2 yb, ad2 0 = ad 0 ∧ zW D A ad2 (yE cy ad2 yb yI0 (fun _ => none)) H1 ∧ (∀ j, j < 1000 → yb 0 j = 20) ∧ gnd (yb 0) yb) A) 5 4012 A := by
  refine Met.ofW (cc := cX1_init) (maxL := 1) (ret := none) (by decide) rfl ?_
  intro pg en s mt args below meth c s₁ B hml hv
  obtain ⟨rfl, hH, hE⟩ := hv
  subst hH
  have hx := B.exec
  have hb := B.bytes
  have hr := B.returns
  have hts := atoms_spec (ws := wsX1_init) B.pre
  have hown : s.vm.findClass RX1 = some mt.cls := findClass_of_methodNamed B.named
  have hlocks := B.notSynchronized
  have hinX1 : ∀ w ∈ u_ws RX1 TX1 9, w ∈ wsX1_init := by decide +kernel
  have hS : va_S A s.heap s.heap [] := va_S.rf
  have hl := lv_entry ([.ref (ad 0)]) (n := 1) (Nat.le_of_ble_eq_true rfl)
  rw [lg_entry_eq]
  generalize (lg_sl ([.ref (ad 0)]) ++ List.replicate (1 - (lg_sl ([.ref (ad 0)])).length) Slot.unset).toArray = ls at hl ⊢
  have hl : lv_has ls 1 [(0, .ref (ad 0))] := hl
  have hin2 : meth.name = "<init>" := (name_of_methodNamed B.named B.method).1
  refine lv_aload_n hx hb dX1_init_0 rfl (lv_at hl 0 rfl) ?_
  refine W.objInit hx hb hown (hts (.methodLink RX1 1 objectInit) (by decide +kernel)) (hts (.instanceMethod objectInit) (by decide +kernel)) (hts (.code objectInit ⟨#[0xb1]⟩ 1 none) (by decide +kernel)) rfl (by rw [hml]; exact hl.1) rfl dX1_init_1 (Nat.le_of_ble_eq_true rfl) (Nat.le_of_ble_eq_true rfl) ?_
  refine W.eq (g2 := F0 mt 4 ls []) rfl ?_
  refine lv_aload_n hx hb dX1_init_4 rfl (lv_at hl 0 rfl) ?_
  refine zi_sipush hx hb dX1_init_5 (by decide) ?_
  refine znewa (atype := .int) hx hb (hts (.arrayClass .int) (by decide +kernel)) (ty := .int) rfl hE hS hAf hw 1 (by decide) rfl 0 rfl (N' := 1000) (a0 := (1000, .inl (fun _ => iI 0))) (vz_i 1000) (by decide +kernel) (by decide +kernel) (by decide +kernel) (by decide +kernel) (by decide +kernel) dX1_init_8 (fun q_8 H hw hS => ?_)
  refine zputF (C := RX1) (T := TX1) (N := 9) hx hb hts hinX1 tyX1 tyX1_ok nmX1 hown hE hS hw 0 rfl rfl 0 (by decide) (hts (.fieldLink RX1 9 "FormworkYard" "temperatures" "[I") (by decide +kernel)) rfl hin2 rfl (ty := (.array .int)) (by decide +kernel) rfl rfl (Nat.le_of_ble_eq_true rfl) dX1_init_10 (fun H locs hw hS => ?_)
  simp only [List.set_cons_zero, List.set_cons_succ] at hw
  refine lv_aload_n hx hb dX1_init_13 rfl (lv_at hl 0 rfl) ?_
  refine zi_sipush hx hb dX1_init_14 (by decide) ?_
  refine znewa (atype := .int) hx hb (hts (.arrayClass .int) (by decide +kernel)) (ty := .int) rfl hE hS hAf hw 2 (by decide) rfl 0 rfl (N' := 1001) (a0 := (1001, .inl (fun _ => iI 0))) (vz_i 1001) (by decide +kernel) (by decide +kernel) (by decide +kernel) (by decide +kernel) (by decide +kernel) dX1_init_17 (fun q_17 H hw hS => ?_)
  refine zputF (C := RX1) (T := TX1) (N := 9) hx hb hts hinX1 tyX1 tyX1_ok nmX1 hown hE hS hw 0 rfl rfl 1 (by decide) (hts (.fieldLink RX1 13 "FormworkYard" "gained" "[I") (by decide +kernel)) rfl hin2 rfl (ty := (.array .int)) (by decide +kernel) rfl rfl (Nat.le_of_ble_eq_true rfl) dX1_init_19 (fun H locs hw hS => ?_)
  simp only [List.set_cons_zero, List.set_cons_succ] at hw
  refine lv_aload_n hx hb dX1_init_22 rfl (lv_at hl 0 rfl) ?_
  refine zi_sipush hx hb dX1_init_23 (by decide) ?_
  refine znewa (atype := .int) hx hb (hts (.arrayClass .int) (by decide +kernel)) (ty := .int) rfl hE hS hAf hw 3 (by decide) rfl 0 rfl (N' := 1000) (a0 := (1000, .inl (fun _ => iI 0))) (vz_i 1000) (by decide +kernel) (by decide +kernel) (by decide +kernel) (by decide +kernel) (by decide +kernel) dX1_init_26 (fun q_26 H hw hS => ?_)
  refine zputF (C := RX1) (T := TX1) (N := 9) hx hb hts hinX1 tyX1 tyX1_ok nmX1 hown hE hS hw 0 rfl rfl 2 (by decide) (hts (.fieldLink RX1 16 "FormworkYard" "needs" "[I") (by decide +kernel)) rfl hin2 rfl (ty := (.array .int)) (by decide +kernel) rfl rfl (Nat.le_of_ble_eq_true rfl) dX1_init_28 (fun H locs hw hS => ?_)
  simp only [List.set_cons_zero, List.set_cons_succ] at hw
  refine lv_aload_n hx hb dX1_init_31 rfl (lv_at hl 0 rfl) ?_
  refine zi_sipush hx hb dX1_init_32 (by decide) ?_
  refine znewa (atype := .int) hx hb (hts (.arrayClass .int) (by decide +kernel)) (ty := .int) rfl hE hS hAf hw 4 (by decide) rfl 0 rfl (N' := 1001) (a0 := (1001, .inl (fun _ => iI 0))) (vz_i 1001) (by decide +kernel) (by decide +kernel) (by decide +kernel) (by decide +kernel) (by decide +kernel) dX1_init_35 (fun q_35 H hw hS => ?_)
  refine zputF (C := RX1) (T := TX1) (N := 9) hx hb hts hinX1 tyX1 tyX1_ok nmX1 hown hE hS hw 0 rfl rfl 3 (by decide) (hts (.fieldLink RX1 19 "FormworkYard" "nextFull" "[I") (by decide +kernel)) rfl hin2 rfl (ty := (.array .int)) (by decide +kernel) rfl rfl (Nat.le_of_ble_eq_true rfl) dX1_init_37 (fun H locs hw hS => ?_)
  simp only [List.set_cons_zero, List.set_cons_succ] at hw
  refine lv_aload_n hx hb dX1_init_40 rfl (lv_at hl 0 rfl) ?_
  refine zi_bipush hx hb dX1_init_41 (by decide) ?_
  refine znewq hx hb hown (hts (.classLink RX1 22 RX0) (by decide +kernel)) hE hS hAf hw 5 (by decide) rfl (N' := 10) (by decide +kernel) (by decide +kernel) (by decide +kernel) (by decide +kernel) (by decide +kernel) dX1_init_43 (fun q_43 H hw hS => ?_)
  refine zputF (C := RX1) (T := TX1) (N := 9) hx hb hts hinX1 tyX1 tyX1_ok nmX1 hown hE hS hw 0 rfl rfl 4 (by decide) (hts (.fieldLink RX1 24 "FormworkYard" "pourList" "[LFormworkYard$Pour;") (by decide +kernel)) rfl hin2 rfl (ty := (.array (.object RX0))) (by decide +kernel) rfl rfl (Nat.le_of_ble_eq_true rfl) dX1_init_46 (fun H locs hw hS => ?_)
  simp only [List.set_cons_zero, List.set_cons_succ] at hw
  refine lv_aload_n hx hb dX1_init_49 rfl (lv_at hl 0 rfl) ?_
  refine zi_bipush hx hb dX1_init_50 (by decide) ?_
  refine zput (C := RX1) (T := TX1) (N := 9) hx hb hts hinX1 tyX1 tyX1_ok nmX1 hown hE hS hw 0 rfl rfl 5 (by decide) (hts (.fieldLink RX1 28 "FormworkYard" "yardPanels" "I") (by decide +kernel)) rfl (ty := .int) (by decide +kernel) rfl rfl (Nat.le_of_ble_eq_true rfl) dX1_init_52 (fun H locs hw hS => ?_)
  simp only [List.set_cons_zero, List.set_cons_succ] at hw
  refine lv_aload_n hx hb dX1_init_55 rfl (lv_at hl 0 rfl) ?_
  refine zi_bipush hx hb dX1_init_56 (by decide) ?_
  refine zput (C := RX1) (T := TX1) (N := 9) hx hb hts hinX1 tyX1 tyX1_ok nmX1 hown hE hS hw 0 rfl rfl 6 (by decide) (hts (.fieldLink RX1 32 "FormworkYard" "rate" "I") (by decide +kernel)) rfl (ty := .int) (by decide +kernel) rfl rfl (Nat.le_of_ble_eq_true rfl) dX1_init_58 (fun H locs hw hS => ?_)
  simp only [List.set_cons_zero, List.set_cons_succ] at hw
  refine lv_aload_n hx hb dX1_init_61 rfl (lv_at hl 0 rfl) ?_
  refine zi_const hx hb dX1_init_62 ?_
  refine zput (C := RX1) (T := TX1) (N := 9) hx hb hts hinX1 tyX1 tyX1_ok nmX1 hown hE hS hw 0 rfl rfl 7 (by decide) (hts (.fieldLink RX1 35 "FormworkYard" "setUpHours" "I") (by decide +kernel)) rfl (ty := .int) (by decide +kernel) rfl rfl (Nat.le_of_ble_eq_true rfl) dX1_init_63 (fun H locs hw hS => ?_)
  simp only [List.set_cons_zero, List.set_cons_succ] at hw
  refine lv_aload_n hx hb dX1_init_66 rfl (lv_at hl 0 rfl) ?_
  refine zi_const hx hb dX1_init_67 ?_
  refine zput (C := RX1) (T := TX1) (N := 9) hx hb hts hinX1 tyX1 tyX1_ok nmX1 hown hE hS hw 0 rfl rfl 8 (by decide) (hts (.fieldLink RX1 38 "FormworkYard" "cleaningHours" "I") (by decide +kernel)) rfl (ty := .int) (by decide +kernel) rfl rfl (Nat.le_of_ble_eq_true rfl) dX1_init_68 (fun H locs hw hS => ?_)
  simp only [List.set_cons_zero, List.set_cons_succ] at hw
  obtain ⟨ao, hao⟩ : ∃ z, z = ad := ⟨_, rfl⟩
  subst hao
  obtain ⟨ad, had⟩ : ∃ z : Nat → Nat, z = va_up (va_up (va_up (va_up (va_up ao 1 q_8) 2 q_17) 3 q_26) 4 q_35) 5 q_43 := ⟨_, rfl⟩
  rw [← had] at hw
  have hl : lv_has ls 1 [(0, .ref (ad 0))] := by rw [show ad 0 = _ from congrFun had 0]; exact hl
  have hw : zW D A ad (yE cy ad (fun _ _ => 0) yI0 (fun _ => none)) H := hw.cong (by
    intro k
    match k with
    | 0 => rw [yE_0]; unfold yO; rw [had]; rfl
    | 1 => rfl
    | 2 => rfl
    | 3 => rfl
    | 4 => rfl
    | 5 => rw [yE_5, yR_none]; rfl
    | k + 6 => rw [yE_n k]; rfl)
  refine lv_aload_n hx hb dX1_init_71 rfl (lv_at hl 0 rfl) ?_
  refine zget (C := RX1) (T := TX1) (N := 9) hx hb hts hinX1 hown hE hw 0 rfl rfl 0 (by decide) (hts (.fieldLink RX1 9 "FormworkYard" "temperatures" "[I") (by decide +kernel)) rfl dX1_init_72 ?_
  refine zi_bipush hx hb dX1_init_75 (by decide) ?_
  refine zcallv (va_runS (As := [.ref (ad 1), .int (iI (20))]) (rest := []) ⟨hx, hb, hml, hown, hts⟩ (c_J7_fill_53178 l D cy A ad (fun _ _ => 0) yI0 (fun _ => none) _ (20) hw (by first | decide | (constructor <;> omega))) (va_cwS 2 hts gX1_init_J7_fill_53178 rfl rfl rfl (by decide +kernel) ⟨(Nat.le_of_ble_eq_true rfl), (Nat.le_of_ble_eq_true rfl)⟩) (zPS hE hS) rfl rfl hl.1 rfl (lv_room (Nat.le_of_ble_eq_true rfl)) dX1_init_77 ⟨(Nat.le_of_ble_eq_true rfl), (Nat.le_of_ble_eq_true rfl)⟩) hS (fun H1 locs hq hz1 hk1 hS => ?_)
  obtain ⟨ya_f, hw, hfr, hfv⟩ := hq
  have ht9 : tOK (ya_f 0) := fun j hj => by rw [hfv j hj]; decide
  refine lv_aload_n hx hb dX1_init_80 rfl (lv_at hl 0 rfl) ?_
  refine zcallv (va_runV (As := []) (rest := []) ⟨hx, hb, hml, hown, hts⟩ (c_X1_sumGains l D cy A ad ya_f yI0 (fun _ => none) _ hw ht9) (cwV 0 hts gX1_init_X1_sumGains rfl rfl rfl (by decide +kernel) ⟨(Nat.le_of_ble_eq_true rfl), (Nat.le_of_ble_eq_true rfl)⟩) (zPV hE hS hw (ci := 1) (k0 := 0) rfl rfl) rfl rfl hl.1 rfl (lv_room (Nat.le_of_ble_eq_true rfl)) dX1_init_81 ⟨(Nat.le_of_ble_eq_true rfl), (Nat.le_of_ble_eq_true rfl)⟩) hS (fun H1 locs hq hz1 hk1 hS => ?_)
  obtain ⟨ya_c81, hw, hgr_81, hgg_81⟩ := hq
  refine zvret hx hb hr hlocks hS (Nat.le_of_ble_eq_true rfl) (Nat.le_of_ble_eq_true rfl) ?_ dX1_init_84
  have e0 := hgr_81 0 (by decide)
  exact ⟨ad, _, congrFun had 0, hw, fun j hj => by rw [e0]; exact hfv j hj, fun n hn => by rw [e0]; exact hgg_81 n hn⟩
