def nP (a b d f : Int) : PS := (fun j => match j with
  | 0 => b
  | 1 => d
  | 2 => f
  | 3 => a
  | _ => 0, fun _ => 0, fun _ => 0, 0)
section YN
variable {cy : Nat → ClassId} {ad ad2 : Nat → Nat} {ya : Nat → Nat → Int} {yi : Nat → Int} {pr : Nat → Option PS} {p : PS}
theorem yE_n41 (h : pr 10 = none) : yE cy ad ya yi pr 41 = none := by rw [yE_hi (by omega) (by omega), show (41 - 10) / 3 = 10 by rfl, h]; rfl
theorem yE_n42 (h : pr 10 = none) : yE cy ad ya yi pr 42 = none := by rw [yE_hi (by omega) (by omega), show (42 - 10) / 3 = 10 by rfl, h]; rfl
theorem yE_n40 (h : pr 10 = none) : yE cy ad ya yi pr 40 = none := by rw [yE_hi (by omega) (by omega), show (40 - 10) / 3 = 10 by rfl, h]; rfl
theorem yE_40 : yE cy ad ya yi (va_up pr 10 (some p)) 40 = some (.inr (0, yP ad 10 p)) := yE_p (i := 10) (by decide) (up_same _ _ _)
theorem yE_41 : yE cy ad ya yi (va_up pr 10 (some p)) 41 = some (.inl (cy 0, 4, .inl (fun j => iI (p.2.1 j)))) := yE_q (i := 10) (by decide) (up_same _ _ _)
theorem yE_42 : yE cy ad ya yi (va_up pr 10 (some p)) 42 = some (.inl (cy 0, 4, .inl (fun j => iI (p.2.2.1 j)))) := yE_r (i := 10) (by decide) (up_same _ _ _)
theorem yR_ad {pr2 : Nat → Option PS} (h : ∀ k, k < 40 → ad2 k = ad k) (hp : ∀ i, i < 10 → (pr2 i).isSome = (pr i).isSome) : yR ad2 pr2 = yR ad pr := funext fun i => by
  unfold yR
  by_cases hi : i < 10
  · rw [if_pos hi, if_pos hi, h _ (by omega)]
    have h9 := hp i hi
    revert h9
    cases pr i <;> cases pr2 i <;> simp
  · rw [if_neg hi, if_neg hi]
theorem yE_lo {pr2 : Nat → Option PS} (h : ∀ k, k < 40 → ad2 k = ad k) (hp : ∀ i, i < 10 → pr2 i = pr i) {k : Nat} (hk : k < 40 ∨ 43 ≤ k) : yE cy ad2 ya yi pr2 k = yE cy ad ya yi pr k := by
  by_cases hl : 10 ≤ k ∧ k < 43
  · rw [yE_hi hl.1 hl.2, yE_hi hl.1 hl.2, hp _ (by omega)]
    have e1 := h (11 + 3 * ((k - 10) / 3)) (by omega)
    have e2 := h (12 + 3 * ((k - 10) / 3)) (by omega)
    have e : ∀ p : PS, yP ad2 ((k - 10) / 3) p = yP ad ((k - 10) / 3) p := fun p => by unfold yP; rw [e1, e2]
    simp only [e]
  · have e5 := yR_ad (pr := pr) (pr2 := pr2) h (fun i hi => by rw [hp i hi])
    have e0 : yO ad2 yi = yO ad yi := by
      unfold yO
      rw [h 1 (by decide), h 2 (by decide), h 3 (by decide), h 4 (by decide), h 5 (by decide)]
    unfold yE
    rw [e0, e5]
    by_cases h10 : k < 10
    · simp [h10]
    · have : ¬ k < 43 := by omega
      simp [h10, this]
theorem yE_ad (h : ∀ k, k ≠ 41 → k ≠ 42 → ad2 k = ad k) {k : Nat} (h0 : k ≠ 40) (h1 : k ≠ 41) (h2 : k ≠ 42) : yE cy ad2 ya yi (va_up pr 10 (some p)) k = yE cy ad ya yi pr k := yE_lo (fun k hk => h k (by omega) (by omega)) (fun i hi => up_ne _ _ (by omega)) (by omega)
end YN
/-- roles get other names -/
theorem zW.re {D : va_G} {A : Nat → Prop} {ad ad2 : Nat → Nat} {e e2 : Nat → Option va_E} {H : Heap} (h : zW D A ad e H) (σ : Nat → Nat) (h1 : ∀ k v, e2 k = some v → k < 64 ∧ e (σ k) = some v ∧ ad2 k = ad (σ k)) (h2 : ∀ i j v w, e2 i = some v → e2 j = some w → σ i = σ j → i = j) : zW D A ad2 e2 H := by
  refine ⟨fun k v hk => ?_, fun i j v w hi hj hij => ?_⟩
  · obtain ⟨a1, a2, a3⟩ := h1 k v hk
    obtain ⟨-, b2, b3⟩ := h.1 (σ k) v a2
    rw [a3]
    exact ⟨a1, b2, b3⟩
  · obtain ⟨-, a2, a3⟩ := h1 i v hi
    obtain ⟨-, b2, b3⟩ := h1 j w hj
    exact h2 i j v w hi hj (h.2 _ _ v w a2 b2 (by rw [← a3, ← b3]; exact hij))
set_option maxHeartbeats 4000000 in
set_option maxRecDepth 100000 in
theorem c_X0_init (l : Launch) (D : va_G) (cy : Nat → ClassId) (A : Nat → Prop) (ad : Nat → Nat) (H0 : Heap) (ya : Nat → Nat → Int) (yi : Nat → Int) (pr : Nat → Option PS) (a b d f : Int) (ha1 : zr a) (hb1 : zr b) (hd1 : zr d) (hf1 : zr f) (hpr : pr 10 = none) (hAf : ∀ q, H0.size ≤ q → A q) (hw : zW D A ad (va_up (yE cy ad ya yi pr) 40 (some (.inr (0, [.int 0, .int 0, .int 0, .int 0, .int 0, .null, .null, .int 0, .int 0, .int 0, .int 0, .long 0, .int 0])))) H0) : Met l yX0_init wsX0_init ({ frames := 1, cells := 2, slots := 8, locals := 21 }) (zPc D cy A [.ref (ad 40), .int (iI (a)), .int (iI (b)), .int (iI (d)), .int (iI (f))] H0) (zQv (fun H1 => ∃ ad2, (∀ k, k ≠ 41 → k ≠ 42 → ad2 k = ad k) ∧ zW D A ad2 (yE cy ad2 ya yi (va_up pr 10 (some (nP a b d f)))) H1) A) 2 8 A := by
  refine Met.ofW (cc := cX0_init) (maxL := 5) (ret := none) (by decide) rfl ?_
  intro pg en s mt args below meth c s₁ B hml hv
  obtain ⟨rfl, hH, hE⟩ := hv
  subst hH
  have hx := B.exec
  have hb := B.bytes
  have hr := B.returns
  have hts := atoms_spec (ws := wsX0_init) B.pre
  have hown : s.vm.findClass RX0 = some mt.cls := findClass_of_methodNamed B.named
  have hlocks := B.notSynchronized
  have hinX0 : ∀ w ∈ u_ws RX0 TX0 13, w ∈ wsX0_init := by decide +kernel
  have hS : va_S A s.heap s.heap [] := va_S.rf
  have hl := lv_entry ([.ref (ad 40), .int (iI (a)), .int (iI (b)), .int (iI (d)), .int (iI (f))]) (n := 5) (Nat.le_of_ble_eq_true rfl)
  rw [lg_entry_eq]
  generalize (lg_sl ([.ref (ad 40), .int (iI (a)), .int (iI (b)), .int (iI (d)), .int (iI (f))]) ++ List.replicate (5 - (lg_sl ([.ref (ad 40), .int (iI (a)), .int (iI (b)), .int (iI (d)), .int (iI (f))])).length) Slot.unset).toArray = ls at hl ⊢
  have hl : lv_has ls 5 [(0, .ref (ad 40)), (1, .int (iI (a))), (2, .int (iI (b))), (3, .int (iI (d))), (4, .int (iI (f)))] := hl
  have hin2 : meth.name = "<init>" := (name_of_methodNamed B.named B.method).1
  refine lv_aload_n hx hb dX0_init_0 rfl (lv_at hl 0 rfl) ?_
  refine W.objInit hx hb hown (hts (.methodLink RX0 3 objectInit) (by decide +kernel)) (hts (.instanceMethod objectInit) (by decide +kernel)) (hts (.code objectInit ⟨#[0xb1]⟩ 1 none) (by decide +kernel)) rfl (by rw [hml]; exact hl.1) rfl dX0_init_1 (Nat.le_of_ble_eq_true rfl) (Nat.le_of_ble_eq_true rfl) ?_
  refine W.eq (g2 := F0 mt 4 ls []) rfl ?_
  refine lv_aload_n hx hb dX0_init_4 rfl (lv_at hl 0 rfl) ?_
  refine zi_const hx hb dX0_init_5 ?_
  refine znewa (atype := .int) hx hb (hts (.arrayClass .int) (by decide +kernel)) (ty := .int) rfl hE hS hAf hw 41 (by decide) ((up_ne _ _ (by decide)).trans (yE_n41 hpr)) 0 rfl (N' := 4) (a0 := (4, .inl (fun _ => iI 0))) (vz_i 4) (by decide +kernel) (by decide +kernel) (by decide +kernel) (by decide +kernel) (by decide +kernel) dX0_init_6 (fun q_6 H hw hS => ?_)
  refine zputF (C := RX0) (T := TX0) (N := 13) hx hb hts hinX0 tyX0 tyX0_ok nmX0 hown hE hS hw 40 rfl rfl 5 (by decide) (hts (.fieldLink RX0 9 "FormworkYard$Pour" "parts" "[I") (by decide +kernel)) rfl hin2 rfl (ty := (.array .int)) (by decide +kernel) rfl rfl (Nat.le_of_ble_eq_true rfl) dX0_init_8 (fun H locs hw hS => ?_)
  simp only [List.set_cons_zero, List.set_cons_succ] at hw
  refine lv_aload_n hx hb dX0_init_11 rfl (lv_at hl 0 rfl) ?_
  refine zi_const hx hb dX0_init_12 ?_
  refine znewa (atype := .int) hx hb (hts (.arrayClass .int) (by decide +kernel)) (ty := .int) rfl hE hS hAf hw 42 (by decide) (by rw [up_ne _ _ (by decide), up_ne _ _ (by decide), up_ne _ _ (by decide)]; exact yE_n42 hpr) 0 rfl (N' := 4) (a0 := (4, .inl (fun _ => iI 0))) (vz_i 4) (by decide +kernel) (by decide +kernel) (by decide +kernel) (by decide +kernel) (by decide +kernel) dX0_init_13 (fun q_13 H hw hS => ?_)
  refine zputF (C := RX0) (T := TX0) (N := 13) hx hb hts hinX0 tyX0 tyX0_ok nmX0 hown hE hS hw 40 rfl rfl 6 (by decide) (hts (.fieldLink RX0 15 "FormworkYard$Pour" "lengths" "[I") (by decide +kernel)) rfl hin2 rfl (ty := (.array .int)) (by decide +kernel) rfl rfl (Nat.le_of_ble_eq_true rfl) dX0_init_15 (fun H locs hw hS => ?_)
  simp only [List.set_cons_zero, List.set_cons_succ] at hw
  refine lv_aload_n hx hb dX0_init_18 rfl (lv_at hl 0 rfl) ?_
  refine lv_iload_n hx hb dX0_init_19 rfl (lv_at hl 1 rfl) ?_
  refine zput (C := RX0) (T := TX0) (N := 13) hx hb hts hinX0 tyX0 tyX0_ok nmX0 hown hE hS hw 40 rfl rfl 3 (by decide) (hts (.fieldLink RX0 18 "FormworkYard$Pour" "start" "I") (by decide +kernel)) rfl (ty := .int) (by decide +kernel) rfl rfl (Nat.le_of_ble_eq_true rfl) dX0_init_20 (fun H locs hw hS => ?_)
  simp only [List.set_cons_zero, List.set_cons_succ] at hw
  refine lv_aload_n hx hb dX0_init_23 rfl (lv_at hl 0 rfl) ?_
  refine lv_iload_n hx hb dX0_init_24 rfl (lv_at hl 2 rfl) ?_
  refine zputF (C := RX0) (T := TX0) (N := 13) hx hb hts hinX0 tyX0 tyX0_ok nmX0 hown hE hS hw 40 rfl rfl 0 (by decide) (hts (.fieldLink RX0 22 "FormworkYard$Pour" "volume" "I") (by decide +kernel)) rfl hin2 rfl (ty := .int) (by decide +kernel) rfl rfl (Nat.le_of_ble_eq_true rfl) dX0_init_25 (fun H locs hw hS => ?_)
  simp only [List.set_cons_zero, List.set_cons_succ] at hw
  refine lv_aload_n hx hb dX0_init_28 rfl (lv_at hl 0 rfl) ?_
  refine lv_iload_n hx hb dX0_init_29 rfl (lv_at hl 3 rfl) ?_
  refine zputF (C := RX0) (T := TX0) (N := 13) hx hb hts hinX0 tyX0 tyX0_ok nmX0 hown hE hS hw 40 rfl rfl 1 (by decide) (hts (.fieldLink RX0 25 "FormworkYard$Pour" "panels" "I") (by decide +kernel)) rfl hin2 rfl (ty := .int) (by decide +kernel) rfl rfl (Nat.le_of_ble_eq_true rfl) dX0_init_30 (fun H locs hw hS => ?_)
  simp only [List.set_cons_zero, List.set_cons_succ] at hw
  refine lv_aload_n hx hb dX0_init_33 rfl (lv_at hl 0 rfl) ?_
  refine lv_iload hx hb dX0_init_34 (lv_at hl 4 rfl) ?_
  refine zputF (C := RX0) (T := TX0) (N := 13) hx hb hts hinX0 tyX0 tyX0_ok nmX0 hown hE hS hw 40 rfl rfl 2 (by decide) (hts (.fieldLink RX0 28 "FormworkYard$Pour" "wanted" "I") (by decide +kernel)) rfl hin2 rfl (ty := .int) (by decide +kernel) rfl rfl (Nat.le_of_ble_eq_true rfl) dX0_init_36 (fun H locs hw hS => ?_)
  simp only [List.set_cons_zero, List.set_cons_succ] at hw
  obtain ⟨ad2, had⟩ : ∃ z : Nat → Nat, z = va_up (va_up ad 41 q_6) 42 q_13 := ⟨_, rfl⟩
  rw [← had] at hw
  have ha : ∀ k, k ≠ 41 → k ≠ 42 → ad2 k = ad k := fun k h1 h2 => by rw [had, up_ne _ _ h2, up_ne _ _ h1]
  have hw : zW D A ad2 (yE cy ad2 ya yi (va_up pr 10 (some (nP a b d f)))) H := hw.cong (by
    intro k
    by_cases h0 : k = 40
    · subst h0
      rw [yE_40]
      unfold yP
      rw [had]
      rfl
    by_cases h1 : k = 41
    · subst h1
      rw [yE_41]
      rfl
    by_cases h2 : k = 42
    · subst h2
      rw [yE_42]
      rfl
    rw [yE_ad ha h0 h1 h2]
    simp [va_up, h0, h1, h2])
  refine zvret hx hb hr hlocks hS (Nat.le_of_ble_eq_true rfl) (Nat.le_of_ble_eq_true rfl) ?_ dX0_init_39
  exact ⟨_, ha, hw⟩
