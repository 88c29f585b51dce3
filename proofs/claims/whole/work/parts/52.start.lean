set_option maxHeartbeats 4000000 in
set_option maxRecDepth 100000 in
theorem whole_start {p : Program} {e : Env} {s : State} {m : MethodId} {below : List Frame} {meth : Method} {c : Code} (l : Launch) (hflags : l.flags = flags0) {b L : Nat} {xs : Nat → Int32} (hL : L ≤ 2560) (C0 : lw_At p s m meth c b L xs) : W p l e room_1 s m #[Value.ref b] below meth c s.heap [] 0 0 (lw_Z below #[Value.ref b] s) (entryFrame m ([Value.ref b] : List Value).toArray 7) := by
  obtain ⟨hx, hb, hr, hml, hown, hts, hX, hbl, hlocks, hgv⟩ := id C0
  have hb : c.code = cL_law := hb
  have hown : s.vm.findClass RL = some m.cls := hown
  have htsL : ∀ w ∈ wsL_law, w.before #[Value.ref b] s = true := fun w h => hts w (in_law w h)
  have hlf : l.stackTraces = false := by
    rw [Launch.stackTraces, hflags]; decide +kernel
  obtain ⟨D, cy, hE⟩ := EN_start hts hgv
  obtain ⟨A0, hA0⟩ : ∃ A0 : Nat → Prop, A0 = fun q => s.heap.size ≤ q := ⟨_, rfl⟩
  rw [← hA0] at hE
  have hAf : ∀ q : Nat, s.heap.size ≤ q → A0 q := fun q h => by rw [hA0]; exact h
  have hS : va_S A0 s.heap s.heap [] := va_S.rf
  have hw : zW D A0 (fun _ => 0) (fun _ => none) s.heap := ⟨fun k v h => (by cases h), fun i j v w h => (by cases h)⟩
  have hl := lv_entry ([.ref b]) (n := 7) (Nat.le_of_ble_eq_true rfl)
  rw [lg_entry_eq]
  generalize (lg_sl ([.ref b]) ++ List.replicate (7 - (lg_sl ([.ref b])).length) Slot.unset).toArray = ls at hl ⊢
  have hl : lv_has ls 7 [(0, .ref b)] := hl
  refine znew (own := RL) (C := RX1) (T := TX1) (N := 9) (ci := 1) (fs := [.null, .null, .null, .null, .null, .int 0, .int 0, .int 0, .int 0]) hx hb hts in_X10 tyX1 tyX1_ok hown (hts (.classLink RL 8 RX1) (lwm 54 (by decide +kernel))) (hts (.instantiable RX1 9) (lwm 55 (by decide +kernel))) (hts (.initialized RX1) (lwm 41 (by decide +kernel))) hE hS hAf hw 0 (by decide) rfl rfl (fun j hj => (by rcases (show j = 0 ∨ j = 1 ∨ j = 2 ∨ j = 3 ∨ j = 4 ∨ j = 5 ∨ j = 6 ∨ j = 7 ∨ j = 8 by omega) with rfl | rfl | rfl | rfl | rfl | rfl | rfl | rfl | rfl <;> rfl)) (Nat.le_of_ble_eq_true rfl) (Nat.le_of_ble_eq_true rfl) dL_law_0 (fun qx H hw hS => ?_)
  have hw : zW D A0 (va_up (fun _ => 0) 0 qx) (oE 1 [.null, .null, .null, .null, .null, .int 0, .int 0, .int 0, .int 0]) H := hw.cong (fun k => by unfold oE va_up; split <;> rfl)
  obtain ⟨ad, had⟩ : ∃ ad : Nat → Nat, ad = va_up (fun _ => 0) 0 qx := ⟨_, rfl⟩
  rw [← had] at hw
  have hqx : qx = ad 0 := by rw [had]; exact (up_same _ _ _).symm
  rw [hqx]
  clear had hqx
  refine lv_dup hx hb dL_law_3 rfl ?_
  refine zcallv (va_runI (As := []) (rest := [.ref (ad 0)]) ⟨hx, hb, hml, hown, htsL⟩ (c_X1_init l D cy A0 ad H (fun q hq => hAf q (Nat.le_trans hS.1 hq)) hw) (cwI 0 htsL gL_law_X1_init rfl rfl rfl (hts (.initialized RX1) (lwm 41 (by decide +kernel))) (hts (.methodLink RL 80 yX1_init) (lwm 56 (by decide +kernel))) (hts (.instanceMethod yX1_init) (lwm 57 (by decide +kernel))) rfl (by decide +kernel) ⟨(Nat.le_of_ble_eq_true rfl), (Nat.le_of_ble_eq_true rfl)⟩) (zPS hE hS) rfl rfl hl.1 rfl (lv_room (Nat.le_of_ble_eq_true rfl)) dL_law_4 ⟨(Nat.le_of_ble_eq_true rfl), (Nat.le_of_ble_eq_true rfl)⟩) hS (fun H1 locs1 hq hz1 hk1 hS => ?_)
  obtain ⟨ad2, yb, h0, hy1, hT, hG⟩ := hq
  rw [← h0]
  refine lv_astore_n (lv' := [(1, .ref (ad2 0)), (0, .ref b)]) hx hb dL_law_7 rfl hl (by decide) rfl (fun ls hl => ?_)
  have hn61 : yE cy ad2 yb yI0 (fun _ => none) 61 = none := by
    cases h1 : yE cy ad2 yb yI0 (fun _ => none) 61 with
    | none => rfl
    | some x => exact absurd (yE0_lt h1) (by decide)
  refine znew (own := RL) (C := RX2) (T := TX2) (N := 19) (ci := 2) (fs := [.int 0, .null, .int 0, .int 0, .int 0, .int 0, .int 0, .null, .null, .null, .null, .null, .null, .null, .null, .null, .null, .null, .null]) hx hb hts in_X20 tyX2 tyX2_ok hown (hts (.classLink RL 81 RX2) (lwm 532 (by decide +kernel))) (hts (.instantiable RX2 19) (lwm 533 (by decide +kernel))) (hts (.initialized RX2) (lwm 44 (by decide +kernel))) hE hS hAf hy1 61 (by decide) hn61 rfl (fun j hj => (by rcases (show j = 0 ∨ j = 1 ∨ j = 2 ∨ j = 3 ∨ j = 4 ∨ j = 5 ∨ j = 6 ∨ j = 7 ∨ j = 8 ∨ j = 9 ∨ j = 10 ∨ j = 11 ∨ j = 12 ∨ j = 13 ∨ j = 14 ∨ j = 15 ∨ j = 16 ∨ j = 17 ∨ j = 18 by omega) with rfl | rfl | rfl | rfl | rfl | rfl | rfl | rfl | rfl | rfl | rfl | rfl | rfl | rfl | rfl | rfl | rfl | rfl | rfl <;> rfl)) (Nat.le_of_ble_eq_true rfl) (Nat.le_of_ble_eq_true rfl) dL_law_8 (fun qm H2 hw2 hS => ?_)
  have hne : ∀ k v, yE cy ad2 yb yI0 (fun _ => none) k = some v → k ≠ 61 := fun k v h h61 => by have := yE0_lt h; omega
  have hy2 : zW D A0 ad2 (yE cy ad2 yb yI0 (fun _ => none)) H2 := by
    refine zW.adc (ad2 := va_up ad2 61 qm) (hw2.sub (fun k v h => ?_)) (fun k v h => ?_)
    · rw [up_ne _ _ (hne k v h)]
      exact h
    · rw [up_ne _ _ (hne k v h)]
  obtain ⟨adm, hadm⟩ : ∃ adm : Nat → Nat, adm = fun _ => qm := ⟨_, rfl⟩
  have hqm : qm = adm 0 := by rw [hadm]
  obtain ⟨g1, g2, g3⟩ := hw2.1 61 _ (up_same _ _ _)
  rw [up_same] at g2 g3
  obtain ⟨AX, hAX⟩ : ∃ AX : Nat → Prop, AX = fun q => A0 q ∧ ∀ k v, yE cy ad2 yb yI0 (fun _ => none) k = some v → q ≠ ad2 k := ⟨_, rfl⟩
  have hXA : ∀ q, AX q → A0 q := fun q h => by rw [hAX] at h; exact h.1
  have hqX : AX qm := by
    rw [hAX]
    refine ⟨g3, fun k v h hh => hne k v h (hw2.2 k 61 v _ ?_ (up_same _ _ _) ?_)⟩
    · rw [up_ne _ _ (hne k v h)]
      exact h
    · rw [up_same, up_ne _ _ (hne k v h), hh]
  have hm2 : zW D AX adm (oE 2 [.int 0, .null, .int 0, .int 0, .int 0, .int 0, .int 0, .null, .null, .null, .null, .null, .null, .null, .null, .null, .null, .null, .null]) H2 := by
    have hk0 : ∀ k v, oE 2 [.int 0, .null, .int 0, .int 0, .int 0, .int 0, .int 0, .null, .null, .null, .null, .null, .null, .null, .null, .null, .null, .null, .null] k = some v → k = 0 ∧ v = .inr (2, [.int 0, .null, .int 0, .int 0, .int 0, .int 0, .int 0, .null, .null, .null, .null, .null, .null, .null, .null, .null, .null, .null, .null]) := fun k v h => by
      unfold oE at h
      by_cases c : k = 0
      · rw [if_pos c] at h
        cases h
        exact ⟨c, rfl⟩
      · rw [if_neg c] at h
        cases h
    refine ⟨fun k v h => ?_, fun i j v w hi hj _ => by rw [(hk0 i v hi).1, (hk0 j w hj).1]⟩
    obtain ⟨rfl, rfl⟩ := hk0 k v h
    rw [← hqm]
    exact ⟨by decide, g2, hqX⟩
  rw [hqm]
  have hfX : ∀ q, H2.size ≤ q → AX q := fun q hq => by
    rw [hAX]
    refine ⟨hAf q (Nat.le_trans hS.1 hq), fun k v h hh => ?_⟩
    have := (hy2.1 k v h).2.1.lt
    (try dsimp only at this)
    omega
  refine lv_dup hx hb dL_law_11 rfl ?_
  refine zcallvN hXA (va_runI (As := []) (rest := [.ref (adm 0)]) ⟨hx, hb, hml, hown, htsL⟩ (c_X2_init l D cy AX adm H2 hfX hm2) (cwI 0 htsL gL_law_X2_init rfl rfl rfl (hts (.initialized RX2) (lwm 44 (by decide +kernel))) (hts (.methodLink RL 83 yX2_init) (lwm 534 (by decide +kernel))) (hts (.instanceMethod yX2_init) (lwm 535 (by decide +kernel))) rfl (by decide +kernel) ⟨(Nat.le_of_ble_eq_true rfl), (Nat.le_of_ble_eq_true rfl)⟩) (zPSn hXA hE hS) rfl rfl hl.1 rfl (lv_room (Nat.le_of_ble_eq_true rfl)) dL_law_12 ⟨(Nat.le_of_ble_eq_true rfl), (Nat.le_of_ble_eq_true rfl)⟩) hS (fun H3 locs3 hq hz3 hk3 hS => ?_)
  obtain ⟨adn, mb, hn0, hm3, hT2, hZ2⟩ := hq
  have hy3 := hy2.kept hk3 (fun k v h hB => by rw [hAX] at hB; exact hB.2 k v h rfl)
  rw [← hn0]
  refine lv_astore_n (lv' := [(2, .ref (adn 0)), (1, .ref (ad2 0)), (0, .ref b)]) hx hb dL_law_15 rfl hl (by decide) rfl (fun ls hl => ?_)
  have hu := zW.union (hy3.reA (B := fun q => A0 q ∧ ∃ k v, yE cy ad2 yb yI0 (fun _ => none) k = some v ∧ q = ad2 k) (fun k v h => ⟨(hy3.1 k v h).2.2, k, v, h, rfl⟩)) hm3 (fun q h1 h2 => by
    obtain ⟨-, k, v, h, rfl⟩ := h1
    rw [hAX] at h2
    exact h2.2 k v h rfl) (fun k v h => Nat.lt_trans (yE0_lt h) (by decide)) (fun k v h => mE_lt h)
  have hu := hu.reA (B := A0) (fun k v h => (hu.1 k v h).2.2.elim (fun h => h.1) (fun h => hXA _ h))
  refine zi_const hx hb dL_law_16 ?_
  refine znewa (atype := .long) hx hb (hts (.arrayClass .long) (lwm 781 (by decide +kernel))) rfl hE hS hAf hu 60 (by decide) rfl 3 rfl (z := 1) (N' := 1) (a0 := (1, .inr (.inl (fun _ => 0)))) (fun cA => rfl) (by decide) (by decide) (Nat.le_of_ble_eq_true rfl) (Nat.le_of_ble_eq_true rfl) (Nat.le_of_ble_eq_true rfl) dL_law_17 (fun qo H4 hw4 hS => ?_)
  obtain ⟨AM, hAM⟩ : ∃ AM : Nat → Prop, AM = fun q => ∃ k v, mE cy adn mI0 mb k = some v ∧ q = adn k := ⟨_, rfl⟩
  obtain ⟨AY, hAY⟩ : ∃ AY : Nat → Prop, AY = fun q => s.heap.size ≤ q ∧ ¬ AM q := ⟨_, rfl⟩
  have q1 : ∀ k v, yE cy ad2 yb yI0 (fun _ => none) k = some v → k < 64 ∧ va_at D vwCl (ad2 k, v) H4 ∧ A0 (ad2 k) := fun k v h => by
    have hk := yE0_lt h
    have := hw4.1 k v (by rw [up_ne _ _ (by omega)]; (try dsimp only); rw [if_pos (by omega)]; exact h)
    rw [up_ne _ _ (by omega)] at this
    (try dsimp only at this)
    rw [if_pos (by omega)] at this
    exact this
  have q2 : ∀ k v, mE cy adn mI0 mb k = some v → k < 64 ∧ va_at D vwCl (adn k, v) H4 ∧ A0 (adn k) := fun k v h => by
    have hk := mE_lt h
    have := hw4.1 (k + 20) v (by rw [up_ne _ _ (by omega)]; (try dsimp only); rw [if_neg (by omega), if_pos (by omega), Nat.add_sub_cancel]; exact h)
    rw [up_ne _ _ (by omega)] at this
    (try dsimp only at this)
    rw [if_neg (by omega), Nat.add_sub_cancel] at this
    exact ⟨by omega, this.2⟩
  obtain ⟨q3, q4, q5⟩ := hw4.1 60 _ (up_same _ _ _)
  rw [up_same] at q4 q5
  have d1 : ∀ k v, yE cy ad2 yb yI0 (fun _ => none) k = some v → ad2 k ≠ qo := fun k v h hh => by
    have hk := yE0_lt h
    have := hw4.2 k 60 v _ (by rw [up_ne _ _ (by omega)]; (try dsimp only); rw [if_pos (by omega)]; exact h) (up_same _ _ _) (by rw [up_same, up_ne _ _ (by omega)]; (try dsimp only); rw [if_pos (by omega)]; exact hh)
    omega
  have d2 : ∀ k v, mE cy adn mI0 mb k = some v → adn k ≠ qo := fun k v h hh => by
    have hk := mE_lt h
    have := hw4.2 (k + 20) 60 v _ (by rw [up_ne _ _ (by omega)]; (try dsimp only); rw [if_neg (by omega), if_pos (by omega), Nat.add_sub_cancel]; exact h) (up_same _ _ _) (by rw [up_same, up_ne _ _ (by omega)]; (try dsimp only); rw [if_neg (by omega), Nat.add_sub_cancel]; exact hh)
    omega
  have d3 : ∀ k v j w, yE cy ad2 yb yI0 (fun _ => none) k = some v → mE cy adn mI0 mb j = some w → ad2 k ≠ adn j := fun k v j w h1 h2 hh => by
    have hX := (hm3.1 j w h2).2.2
    rw [hAX] at hX
    exact hX.2 k v h1 hh.symm
  have hM : ∀ q, AM q → s.heap.size ≤ q := fun q h => by
    rw [hAM] at h
    obtain ⟨k, v, h, rfl⟩ := h
    have := (q2 k v h).2.2
    rw [hA0] at this
    exact this
  have hYM : ∀ q, AY q → ¬ AM q := fun q h => by rw [hAY] at h; exact h.2
  have hY : ∀ q, AY q → s.heap.size ≤ q := fun q h => by rw [hAY] at h; exact h.1
  have hf4 : ∀ q, H4.size ≤ q → AY q := fun q hq => by
    rw [hAY]
    refine ⟨Nat.le_trans hS.1 hq, fun h => ?_⟩
    rw [hAM] at h
    obtain ⟨k, v, h, rfl⟩ := h
    have := (q2 k v h).2.1.lt
    (try dsimp only at this)
    omega
  have inY : ∀ q, A0 q → (∀ k v, mE cy adn mI0 mb k = some v → q ≠ adn k) → AY q := fun q h1 h2 => by
    rw [hAY]
    refine ⟨by rw [hA0] at h1; exact h1, fun h => ?_⟩
    rw [hAM] at h
    obtain ⟨k, v, h, e1⟩ := h
    exact h2 k v h e1
  have hyf : zW D AY (va_up ad2 60 qo) (yO60 cy (va_up ad2 60 qo) yb yI0 (fun _ => none) (fun _ => 0)) H4 := by
    unfold yO60
    refine ⟨fun k v h => ?_, fun i j v w hi hj hij => ?_⟩
    · by_cases c60 : k = 60
      · subst c60
        rw [up_same] at h
        cases h
        rw [up_same]
        exact ⟨q3, q4, inY _ q5 (fun j w hj => (d2 j w hj).symm)⟩
      · rw [up_ne _ _ c60, yE_60c] at h
        rw [up_ne _ _ c60]
        obtain ⟨r1, r2, r3⟩ := q1 k v h
        exact ⟨r1, r2, inY _ r3 (fun j w hj => d3 k v j w h hj)⟩
    · by_cases ci : i = 60
      · by_cases cj : j = 60
        · rw [ci, cj]
        · exfalso
          rw [up_ne _ _ cj, yE_60c] at hj
          rw [ci, up_same, up_ne _ _ cj] at hij
          exact d1 j w hj hij.symm
      · rw [up_ne _ _ ci, yE_60c] at hi
        by_cases cj : j = 60
        · exfalso
          rw [cj, up_same, up_ne _ _ ci] at hij
          exact d1 i v hi hij
        · rw [up_ne _ _ cj, yE_60c] at hj
          rw [up_ne _ _ ci, up_ne _ _ cj] at hij
          exact hy3.2 i j v w hi hj hij
  have hmf : zW D AM adn (mE cy adn mI0 mb) H4 := by
    refine ⟨fun k v h => ?_, fun i j v w hi hj hij => hm3.2 i j v w hi hj hij⟩
    obtain ⟨r1, r2, r3⟩ := q2 k v h
    exact ⟨r1, r2, by rw [hAM]; exact ⟨k, v, h, rfl⟩⟩
  have hI : LI D cy AY AM H4.size (ad2 0) (adn 0) qo H4 := ⟨Nat.le_refl _, va_up ad2 60 qo, adn, mI0, mb, yb, yI0, (fun _ => none), (fun _ => 0), up_ne _ _ (by decide), rfl, up_same _ _ _, hyf, hmf, RR_0 hT2 hZ2 hT hG⟩
  rw [hA0] at hE hS
  refine lv_astore_n (lv' := [(3, .ref qo), (2, .ref (adn 0)), (1, .ref (ad2 0)), (0, .ref b)]) hx hb dL_law_19 rfl hl (by decide) rfl (fun ls hl => ?_)
  refine zi_const hx hb dL_law_20 ?_
  refine lv_istore (lv' := [(4, .int (iI 0)), (3, .ref qo), (2, .ref (adn 0)), (1, .ref (ad2 0)), (0, .ref b)]) hx hb dL_law_21 hl (by decide) rfl (fun ls hl => ?_)
  exact W.widen (k := 21 + 3 * 0) (n := 5828 + 21 * 0) (Nat.le_of_ble_eq_true rfl) (Nat.le_of_ble_eq_true rfl) (law_loop hL C0 hlf hE hY hM hYM hf4 (L + 1) 0 (by omega) (by omega) H4 _ ls hS hI (lv_sub hl [4, 3, 2, 1, 0] rfl))
