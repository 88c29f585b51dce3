set_option maxHeartbeats 4000000 in
set_option maxRecDepth 100000 in
theorem whole_start {p : Program} {e : Env} {s : State} {m : MethodId} {below : List Frame} {meth : Method} {c : Code} (l : Launch) (hflags : l.flags = flags0) {b L : Nat} {xs : Nat → Int32} (hL : L ≤ 260) (C0 : lw_At p s m meth c b L xs) : W p l e room_1 s m #[Value.ref b] below meth c s.heap [] 0 0 (lw_Z below #[Value.ref b] s) (entryFrame m ([Value.ref b] : List Value).toArray 16) := by
  obtain ⟨hx, hb, hr, hml, hown, hts, hX, hbl, hlocks, hgv⟩ := id C0
  have hb : c.code = cL_law := hb
  have hown : s.vm.findClass RL = some m.cls := hown
  have htsL : ∀ w ∈ wsL_law, w.before #[Value.ref b] s = true := fun w h => hts w (in_law w h)
  obtain ⟨D, cy, hE⟩ := EN_start hts hgv
  obtain ⟨A0, hA0⟩ : ∃ A0 : Nat → Prop, A0 = fun q => s.heap.size ≤ q := ⟨_, rfl⟩
  rw [← hA0] at hE
  have hAf : ∀ q : Nat, s.heap.size ≤ q → A0 q := fun q h => by rw [hA0]; exact h
  have hAw : ∀ q : Nat, A0 q → s.heap.size ≤ q := fun q h => by rw [hA0] at h; exact h
  have hS : va_S A0 s.heap s.heap [] := va_S.rf
  have hw : zW D A0 (fun _ => 0) (fun _ => none) s.heap := ⟨fun k v h => (by cases h), fun i j v w h => (by cases h)⟩
  have hl := lv_entry ([.ref b]) (n := 16) (Nat.le_of_ble_eq_true rfl)
  rw [lg_entry_eq]
  generalize (lg_sl ([.ref b]) ++ List.replicate (16 - (lg_sl ([.ref b])).length) Slot.unset).toArray = ls at hl ⊢
  have hl : lv_has ls 16 [(0, .ref b)] := hl
  refine znew (own := RL) (C := RX1) (T := TX1) (N := 9) (ci := 1) (fs := [.null, .null, .null, .null, .null, .int 0, .int 0, .int 0, .int 0]) hx hb hts in_X10 tyX1 tyX1_ok hown (hts (.classLink RL 9 RX1) lwm_1) (hts (.instantiable RX1 9) lwm_2) (hts (.initialized RX1) lwm_3) hE hS hAf hw 0 (by decide) rfl rfl (fun j hj => (by rcases (show j = 0 ∨ j = 1 ∨ j = 2 ∨ j = 3 ∨ j = 4 ∨ j = 5 ∨ j = 6 ∨ j = 7 ∨ j = 8 by omega) with rfl | rfl | rfl | rfl | rfl | rfl | rfl | rfl | rfl <;> rfl)) (Nat.le_of_ble_eq_true rfl) (Nat.le_of_ble_eq_true rfl) dL_law_0 (fun qx H hw hS => ?_)
  have hw : zW D A0 (va_up (fun _ => 0) 0 qx) (oE 1 [.null, .null, .null, .null, .null, .int 0, .int 0, .int 0, .int 0]) H := hw.cong (fun k => by unfold oE va_up; split <;> rfl)
  obtain ⟨ad, had⟩ : ∃ ad : Nat → Nat, ad = va_up (fun _ => 0) 0 qx := ⟨_, rfl⟩
  rw [← had] at hw
  have hqx : qx = ad 0 := by rw [had]; exact (up_same _ _ _).symm
  rw [hqx]
  clear had hqx
  refine lv_dup hx hb dL_law_3 rfl ?_
  refine zcallv (va_runI (As := []) (rest := [.ref (ad 0)]) ⟨hx, hb, hml, hown, htsL⟩ (c_X1_init l D cy A0 ad H (fun q hq => hAf q (Nat.le_trans hS.1 hq)) hw) (cwI 0 htsL gL_law_X1_init rfl rfl rfl (hts (.initialized RX1) lwm_3) (hts (.methodLink RL 49 yX1_init) lwm_5) (hts (.instanceMethod yX1_init) lwm_6) rfl (by decide +kernel) ⟨(Nat.le_of_ble_eq_true rfl), (Nat.le_of_ble_eq_true rfl)⟩) (zPS hE hS) rfl rfl hl.1 rfl (lv_room (Nat.le_of_ble_eq_true rfl)) dL_law_4 ⟨(Nat.le_of_ble_eq_true rfl), (Nat.le_of_ble_eq_true rfl)⟩) hS (fun H1 locs1 hq hz1 hk1 hS => ?_)
  obtain ⟨ad2, yb, h0, hw, hT, hG⟩ := hq
  rw [← h0]
  refine lv_astore_n (lv' := [(1, .ref (ad2 0)), (0, .ref b)]) hx hb dL_law_7 rfl hl (by decide) rfl (fun ls hl => ?_)
  refine zi_bipush hx hb dL_law_8 (by decide) ?_
  refine znewa (atype := .int) hx hb (hts (.arrayClass .int) lwm_4) (ty := .int) rfl hE hS hAf hw 43 (by decide) (yE_n 37) 0 rfl (z := 10) (N' := 10) (a0 := (10, .inl (fun _ => iI 0))) (vz_i 10) (by decide +kernel) (by decide +kernel) (by decide +kernel) (by decide +kernel) (by decide +kernel) dL_law_10 (fun q43 H hw hS => ?_)
  refine lv_astore_n (lv' := [(2, .ref q43), (1, .ref (ad2 0)), (0, .ref b)]) hx hb dL_law_12 rfl hl (by decide) rfl (fun ls hl => ?_)
  refine zi_bipush hx hb dL_law_13 (by decide) ?_
  refine znewa (atype := .int) hx hb (hts (.arrayClass .int) lwm_4) (ty := .int) rfl hE hS hAf hw 44 (by decide) ((up_ne _ _ (by decide)).trans (yE_n 38)) 0 rfl (z := 10) (N' := 10) (a0 := (10, .inl (fun _ => iI 0))) (vz_i 10) (by decide +kernel) (by decide +kernel) (by decide +kernel) (by decide +kernel) (by decide +kernel) dL_law_15 (fun q44 H hw hS => ?_)
  refine lv_astore_n (lv' := [(3, .ref q44), (2, .ref q43), (1, .ref (ad2 0)), (0, .ref b)]) hx hb dL_law_17 rfl hl (by decide) rfl (fun ls hl => ?_)
  refine zi_bipush hx hb dL_law_18 (by decide) ?_
  refine znewa (atype := .int) hx hb (hts (.arrayClass .int) lwm_4) (ty := .int) rfl hE hS hAf hw 45 (by decide) ((up_ne _ _ (by decide)).trans ((up_ne _ _ (by decide)).trans (yE_n 39))) 0 rfl (z := 10) (N' := 10) (a0 := (10, .inl (fun _ => iI 0))) (vz_i 10) (by decide +kernel) (by decide +kernel) (by decide +kernel) (by decide +kernel) (by decide +kernel) dL_law_20 (fun q45 H hw hS => ?_)
  refine lv_astore (lv' := [(4, .ref q45), (3, .ref q44), (2, .ref q43), (1, .ref (ad2 0)), (0, .ref b)]) hx hb dL_law_22 hl (by decide) rfl (fun ls hl => ?_)
  refine zi_bipush hx hb dL_law_24 (by decide) ?_
  refine znewa (atype := .int) hx hb (hts (.arrayClass .int) lwm_4) (ty := .int) rfl hE hS hAf hw 46 (by decide) ((up_ne _ _ (by decide)).trans ((up_ne _ _ (by decide)).trans ((up_ne _ _ (by decide)).trans (yE_n 40)))) 0 rfl (z := 10) (N' := 10) (a0 := (10, .inl (fun _ => iI 0))) (vz_i 10) (by decide +kernel) (by decide +kernel) (by decide +kernel) (by decide +kernel) (by decide +kernel) dL_law_26 (fun q46 H hw hS => ?_)
  refine lv_astore (lv' := [(5, .ref q46), (4, .ref q45), (3, .ref q44), (2, .ref q43), (1, .ref (ad2 0)), (0, .ref b)]) hx hb dL_law_28 hl (by decide) rfl (fun ls hl => ?_)
  refine zi_const hx hb dL_law_30 ?_
  refine znewa (atype := .int) hx hb (hts (.arrayClass .int) lwm_4) (ty := .int) rfl hE hS hAf hw 47 (by decide) ((up_ne _ _ (by decide)).trans ((up_ne _ _ (by decide)).trans ((up_ne _ _ (by decide)).trans ((up_ne _ _ (by decide)).trans (yE_n 41))))) 0 rfl (z := 3) (N' := 3) (a0 := (3, .inl (fun _ => iI 0))) (vz_i 3) (by decide +kernel) (by decide +kernel) (by decide +kernel) (by decide +kernel) (by decide +kernel) dL_law_31 (fun q47 H hw hS => ?_)
  refine lv_astore (lv' := [(6, .ref q47), (5, .ref q46), (4, .ref q45), (3, .ref q44), (2, .ref q43), (1, .ref (ad2 0)), (0, .ref b)]) hx hb dL_law_33 hl (by decide) rfl (fun ls hl => ?_)
  obtain ⟨ad5, had5⟩ : ∃ z : Nat → Nat, z = (va_up (va_up (va_up (va_up (va_up ad2 43 q43) 44 q44) 45 q45) 46 q46) 47 q47) := ⟨_, rfl⟩
  rw [← had5] at hw
  have a43 : ad5 43 = q43 := by rw [had5]; simp [va_up]
  have a44 : ad5 44 = q44 := by rw [had5]; simp [va_up]
  have a45 : ad5 45 = q45 := by rw [had5]; simp [va_up]
  have a46 : ad5 46 = q46 := by rw [had5]; simp [va_up]
  have a47 : ad5 47 = q47 := by rw [had5]; simp [va_up]
  have alo : ∀ k, k < 43 → ad5 k = ad2 k := fun k hk => by rw [had5, up_ne _ _ (by omega), up_ne _ _ (by omega), up_ne _ _ (by omega), up_ne _ _ (by omega), up_ne _ _ (by omega)]
  have a0 : ad5 0 = ad2 0 := alo 0 (by decide)
  have hw : zW D A0 ad5 (lE cy ad5 yb yI0 (fun _ => none) (fun _ _ => 0)) H := by
    refine hw.cong (fun k => ?_)
    rcases Nat.lt_or_ge k 43 with c1 | c1
    · rw [lE_lo c1, up_ne _ _ (by omega), up_ne _ _ (by omega), up_ne _ _ (by omega), up_ne _ _ (by omega), up_ne _ _ (by omega), yE_adq rfl (fun k hk => alo k (by omega))]
    · by_cases c2 : k < 48
      · rcases (show k = 43 ∨ k = 44 ∨ k = 45 ∨ k = 46 ∨ k = 47 by omega) with rfl | rfl | rfl | rfl | rfl <;> simp [lE, va_up, rowN]
      · have h9 := yE_n (cy := cy) (ad := ad2) (ya := yb) (yi := yI0) (k - 6)
        rw [show k - 6 + 6 = k by omega] at h9
        rw [up_ne _ _ (by omega), up_ne _ _ (by omega), up_ne _ _ (by omega), up_ne _ _ (by omega), up_ne _ _ (by omega), h9]
        unfold lE
        rw [if_pos c1, if_neg c2]
  have hw : LW D cy A0 ad5 (yb 0) yI0 (fun _ => none) (fun _ _ => 0) H := ⟨yb, _, hw, rfl, hG, gvR_0, rfl⟩
  rw [← a0, ← a43, ← a44, ← a45, ← a46, ← a47] at hl
  have hl : lv_has ls 16 [(6, .ref (ad5 47)), (5, .ref (ad5 46)), (4, .ref (ad5 45)), (3, .ref (ad5 44)), (2, .ref (ad5 43)), (1, .ref (ad5 0)), (0, .ref b)] := hl
  refine lv_aload hx hb dL_law_35 (lv_at hl 0 rfl) ?_
  refine zi_const hx hb dL_law_37 ?_
  refine zi_const hx hb dL_law_38 ?_
  refine l_ast hx hb hE hS hw 4 (by decide) 0 rfl (by decide) dL_law_39 (fun H locs hw hS => ?_)
  obtain ⟨la_0, hla_0⟩ : ∃ z : Nat → Nat → Int, z = va_up (fun _ _ => 0) 4 (va_up ((fun _ _ => 0) 4) 0 (2)) := ⟨_, rfl⟩
  rw [← hla_0] at hw
  refine lv_aload hx hb dL_law_40 (lv_at hl 0 rfl) ?_
  refine zi_const hx hb dL_law_42 ?_
  refine zi_const hx hb dL_law_43 ?_
  refine l_ast hx hb hE hS hw 4 (by decide) 1 rfl (by decide) dL_law_44 (fun H locs hw hS => ?_)
  obtain ⟨la_1, hla_1⟩ : ∃ z : Nat → Nat → Int, z = va_up la_0 4 (va_up (la_0 4) 1 (3)) := ⟨_, rfl⟩
  rw [← hla_1] at hw
  refine lv_aload hx hb dL_law_45 (lv_at hl 0 rfl) ?_
  refine zi_const hx hb dL_law_47 ?_
  refine zi_bipush hx hb dL_law_48 (by decide) ?_
  refine l_ast hx hb hE hS hw 4 (by decide) 2 rfl (by decide) dL_law_50 (fun H locs hw hS => ?_)
  obtain ⟨la_2, hla_2⟩ : ∃ z : Nat → Nat → Int, z = va_up la_1 4 (va_up (la_1 4) 2 (20)) := ⟨_, rfl⟩
  rw [← hla_2] at hw
  refine zi_const hx hb dL_law_51 ?_
  refine lv_istore (lv' := [(7, .int (iI (0))), (6, .ref (ad5 47)), (5, .ref (ad5 46)), (4, .ref (ad5 45)), (3, .ref (ad5 44)), (2, .ref (ad5 43)), (1, .ref (ad5 0)), (0, .ref b)]) hx hb dL_law_52 hl (by decide) rfl (fun ls hl => ?_)
  have hys : YS (yb 0) yI0 (fun _ => none) := ⟨fun j hj => by rw [hT j hj]; exact ⟨by decide, by decide⟩, ⟨⟨by decide, by decide⟩, ⟨by decide, by decide⟩, ⟨by decide, by decide⟩, by decide, by decide⟩, fun i p _ h => by cases h⟩
  have hla : LA yI0 (fun _ => none) la_2 := by
    refine ⟨fun i hi => Or.inl ⟨?_, rfl⟩, ?_, ?_, ?_⟩
    · rw [hla_2, row_n (by omega), hla_1, row_n (by omega), hla_0, row_n (by omega)]
    · rw [hla_2, row_n (by omega), hla_1, row_n (by omega), hla_0]; exact row_s
    · rw [hla_2, row_n (by omega), hla_1]; exact row_s
    · rw [hla_2]; exact row_s
  exact W.widen (k := 11 + 3 * 0) (n := 4064 + 21 * 0) (Nat.le_of_ble_eq_true rfl) (Nat.le_of_ble_eq_true rfl) (law_loop hL C0 hE hAf hAw 41 0 (by omega) (by omega) H locs ls hS ⟨ad5, _, _, _, _, rfl, rfl, rfl, rfl, rfl, rfl, hw, hys, hla⟩ (lv_sub hl [7, 6, 5, 4, 3, 2, 1, 0] rfl))
