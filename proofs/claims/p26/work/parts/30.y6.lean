set_option maxHeartbeats 4000000 in
set_option maxRecDepth 100000 in
theorem c_X1_giveOutPanels (l : Launch) (D : va_G) (cy : Nat → ClassId) (A : Nat → Prop) (ad : Nat → Nat) (ya : Nat → Nat → Int) (yi : Nat → Int) (pr : Nat → Option PS) (H0 : Heap) (hw : zW D A ad (yE cy ad ya yi pr) H0) (hb9 : ∀ i p, i < 10 → pr i = some p → (0 ≤ p.1 9 ∧ p.1 9 ≤ 900) ∧ (0 ≤ p.1 10 ∧ p.1 10 ≤ 1000) ∧ 1 ≤ p.1 1 ∧ p.1 1 ≤ 30) (hg : yB yi) : Met l yX1_giveOutPanels wsX1_giveOutPanels ({ frames := 2, cells := 0, slots := 0, locals := 48 }) (zPc D cy A [.ref (ad 0)] H0) (zQv (fun H1 => ∃ pr2, zW D A ad (yE cy ad ya yi pr2) H1 ∧ gvR pr pr2 ∧ ∀ i p, i < 10 → pr2 i = some p → isM p.2.2.2 (FY pr (yi 5) 10000 i)) A) 0 0 A := by
  refine Met.ofW (cc := cX1_giveOutPanels) (maxL := 5) (ret := none) (by decide) rfl ?_
  intro pg en s mt args below meth c s₁ B hml hv
  obtain ⟨rfl, hH, hE⟩ := hv
  subst hH
  have hx := B.exec
  have hb := B.bytes
  have hr := B.returns
  have hts := atoms_spec (ws := wsX1_giveOutPanels) B.pre
  have hown : s.vm.findClass RX1 = some mt.cls := findClass_of_methodNamed B.named
  have hlocks := B.notSynchronized
  have hinX0 : ∀ w ∈ u_ws RX0 TX0 13, w ∈ wsX1_giveOutPanels := by decide +kernel
  have hinX1 : ∀ w ∈ u_ws RX1 TX1 9, w ∈ wsX1_giveOutPanels := by decide +kernel
  have hS : va_S A s.heap s.heap [] := va_S.rf
  have hl := lv_entry ([.ref (ad 0)]) (n := 5) (Nat.le_of_ble_eq_true rfl)
  rw [lg_entry_eq]
  generalize (lg_sl ([.ref (ad 0)]) ++ List.replicate (5 - (lg_sl ([.ref (ad 0)])).length) Slot.unset).toArray = ls at hl ⊢
  have hl : lv_has ls 5 [(0, .ref (ad 0))] := hl
  obtain ⟨g1, g2, g3, g4⟩ := id hg
  have hb8 : ∀ i p, i < 10 → pr i = some p → 0 ≤ p.1 9 ∧ p.1 9 ≤ 900 := fun i p hi hp => (hb9 i p hi hp).1
  refine lv_aload_n hx hb dX1_giveOutPanels_0 rfl (lv_at hl 0 rfl) ?_
  refine zget (C := RX1) (T := TX1) (N := 9) hx hb hts hinX1 hown hE hw 0 yE_0 rfl 4 (by decide) (hts (.fieldLink RX1 24 "FormworkYard" "pourList" "[LFormworkYard$Pour;") (by decide +kernel)) rfl dX1_giveOutPanels_1 ?_
  refine lv_astore_n (lv' := [(1, .ref (ad 5)), (0, .ref (ad 0))]) hx hb dX1_giveOutPanels_4 rfl hl (by decide) rfl (fun ls hl => ?_)
  refine lv_aload_n hx hb dX1_giveOutPanels_5 rfl (lv_at hl 0 rfl) ?_
  refine zalen hx hb hE hw 5 2 yE_5 rfl (z := 10) rfl dX1_giveOutPanels_6 ?_
  refine lv_istore_n (lv' := [(2, .int (iI (10))), (1, .ref (ad 5)), (0, .ref (ad 0))]) hx hb dX1_giveOutPanels_7 rfl hl (by decide) rfl (fun ls hl => ?_)
  refine zi_const hx hb dX1_giveOutPanels_8 ?_
  refine lv_istore_n (lv' := [(3, .int (iI (0))), (2, .int (iI (10))), (1, .ref (ad 5)), (0, .ref (ad 0))]) hx hb dX1_giveOutPanels_9 rfl hl (by decide) rfl (fun ls hl => ?_)
  have loop_10 : ∀ (n : Nat) (i : Nat) (pr1 : Nat → Option PS) (H : Heap) (locs : List Loc) (ls : Array Slot), 10 - i < n → (i ≤ 10) → (gvR pr pr1) → (∀ j p, j < i → pr1 j = some p → isM p.2.2.2 (fun _ => false) ∧ p.1 12 = 0) → zW D A ad (yE cy ad ya yi pr1) H → va_S A s.heap H locs → lv_has ls 5 [(3, .int (iI ((i : Int)))), (2, .int (iI (10))), (1, .ref (ad 5)), (0, .ref (ad 0))] → W pg l en (headSpec wsX1_giveOutPanels ({ frames := 2, cells := 0, slots := 0, locals := 48 })).room s mt ([.ref (ad 0)] : List Value).toArray below meth c H locs 0 0 (MQ below (zQv (fun H1 => ∃ pr2, zW D A ad (yE cy ad ya yi pr2) H1 ∧ gvR pr pr2 ∧ ∀ i p, i < 10 → pr2 i = some p → isM p.2.2.2 (FY pr (yi 5) 10000 i)) A) ([.ref (ad 0)] : List Value).toArray s 0 0 A) (F0 mt 10 ls []) := by
    intro n
    induction n with
    | zero =>
      intro i pr1 H locs ls hm hi hgR hz9
      exfalso; omega
    | succ n ih =>
      intro i pr1 H locs ls hm hi hgR hz9 hw hS hl
      refine lv_iload_n hx hb dX1_giveOutPanels_10 rfl (lv_at hl 0 rfl) ?_
      refine lv_iload_n hx hb dX1_giveOutPanels_11 rfl (lv_at hl 1 rfl) ?_
      refine zc_ge (tgt := 43) hx hb dX1_giveOutPanels_12 (by decide) (by first | decide | (constructor <;> omega)) (by first | decide | (constructor <;> omega)) (fun c_12 => ?_) (fun c_12 => ?_)
      · refine zi_const hx hb dX1_giveOutPanels_43 ?_
        refine lv_istore_n (lv' := [(1, .int (iI (0))), (3, .int (iI ((i : Int)))), (2, .int (iI (10))), (0, .ref (ad 0))]) hx hb dX1_giveOutPanels_44 rfl hl (by decide) rfl (fun ls hl => ?_)
        have loop_45 : ∀ (n : Nat) (t K : Nat) (pr1 : Nat → Option PS) (H : Heap) (locs : List Loc) (ls : Array Slot), 10 - t < n → (t ≤ 10) → (gvR pr pr1) → (gvK pr pr1 (yi 5) K) → (K ≤ 10000) → (cS pr1 10 = t) → zW D A ad (yE cy ad ya yi pr1) H → va_S A s.heap H locs → lv_has ls 5 [(1, .int (iI ((t : Int)))), (0, .ref (ad 0))] → W pg l en (headSpec wsX1_giveOutPanels ({ frames := 2, cells := 0, slots := 0, locals := 48 })).room s mt ([.ref (ad 0)] : List Value).toArray below meth c H locs 0 0 (MQ below (zQv (fun H1 => ∃ pr2, zW D A ad (yE cy ad ya yi pr2) H1 ∧ gvR pr pr2 ∧ ∀ i p, i < 10 → pr2 i = some p → isM p.2.2.2 (FY pr (yi 5) 10000 i)) A) ([.ref (ad 0)] : List Value).toArray s 0 0 A) (F0 mt 45 ls []) := by
          intro n
          induction n with
          | zero =>
            intro t K pr1 H locs ls hm ht8 hgR hgK hK9 ht9
            exfalso; omega
          | succ n ih =>
            intro t K pr1 H locs ls hm ht8 hgR hgK hK9 ht9 hw hS hl
            have hnx : ∀ i p, i < 10 → pr1 i = some p → (0 ≤ p.1 9 ∧ p.1 9 ≤ 900) ∧ (p.1 12 = 0 ∨ p.1 12 = 1) := fun i p hi hp => by obtain ⟨a9, ha9, hap⟩ := gvR_p hgR hi hp; have hk := (hgK i p hi hp).2; rw [hap.1 9 (by decide)] at hk ⊢; exact ⟨hb8 i a9 hi ha9, by omega⟩
            refine lv_iload_n hx hb dX1_giveOutPanels_45 rfl (lv_at hl 0 rfl) ?_
            refine zi_bipush hx hb dX1_giveOutPanels_46 (by decide) ?_
            refine zc_ge (tgt := 92) hx hb dX1_giveOutPanels_48 (by decide) (by first | decide | (constructor <;> omega)) (by first | decide | (constructor <;> omega)) (fun c_48 => ?_) (fun c_48 => ?_)
            · refine zvret hx hb hr hlocks hS (Nat.le_of_ble_eq_true rfl) (Nat.le_of_ble_eq_true rfl) ?_ dX1_giveOutPanels_92
              have hg9 := gvK_e hgR hb8 hgK (fun i p hi hp => by obtain ⟨b, hb1, hb2⟩ := cS_full (pr := pr1) 10 (by omega) i hi; rw [hb1] at hp; cases hp; exact hb2) (by omega)
              exact ⟨_, hw, hgR, hg9⟩
            · refine lv_aload_n hx hb dX1_giveOutPanels_51 rfl (lv_at hl 1 rfl) ?_
              refine zcallq (va_runV (As := []) (rest := []) ⟨hx, hb, hml, hown, hts⟩ (c_X1_nextToServe l D cy A ad ya yi pr1 _ hw hnx) (cwV 0 hts gX1_giveOutPanels_X1_nextToServe rfl rfl rfl (by decide +kernel) ⟨(Nat.le_of_ble_eq_true rfl), (Nat.le_of_ble_eq_true rfl)⟩) (zPV hE hS hw (ci := 1) (k0 := 0) rfl yE_0) rfl rfl hl.1 rfl (lv_room (Nat.le_of_ble_eq_true rfl)) dX1_giveOutPanels_52 ⟨(Nat.le_of_ble_eq_true rfl), (Nat.le_of_ble_eq_true rfl)⟩) hS (fun z_52 H1 locs hq hz1 hk1 hS => ?_)
              obtain ⟨hqe, hq⟩ := hq
              replace hqe := hqe.symm
              subst hqe
              rcases hq with ⟨rfl, hnone⟩ | ⟨i0, p0, rfl, hi0, hp0, hs0, hm0⟩
              · refine lv_astore_nN (lv' := [(2, .null), (1, .int (iI ((t : Int)))), (0, .ref (ad 0))]) hx hb dX1_giveOutPanels_55 rfl hl (by decide) rfl (fun ls hl => ?_)
                refine lv_aload_nN hx hb dX1_giveOutPanels_56 rfl (lv_at hl 0 rfl) ?_
                refine lv_ifnonnullN hx hb dX1_giveOutPanels_57 ?_
                refine zvret hx hb hr hlocks hS (Nat.le_of_ble_eq_true rfl) (Nat.le_of_ble_eq_true rfl) ?_ dX1_giveOutPanels_60
                have hg9 := gvK_e hgR hb8 hgK (fun i p hi hp => by have hk := (hgK i p hi hp).2; have := hnone i p hi hp; omega) (by omega)
                exact ⟨_, hw, hgR, hg9⟩
              · obtain ⟨a0, ha0, hap0⟩ := gvR_p hgR hi0 hp0
                have hb0 := hb9 i0 a0 hi0 ha0
                have e9 := hap0.1 9 (by decide)
                have e1 := hap0.1 1 (by decide)
                have hgv : ∀ i p, i < 10 → pr1 i = some p → isM p.2.2.2 (FY pr (yi 5) K i) ∧ zr (p.1 9) ∧ zr (p.1 10) := fun i p hi hp => by obtain ⟨a9, ha9, hap⟩ := gvR_p hgR hi hp; have hk := hb9 i a9 hi ha9; refine ⟨(hgK i p hi hp).1, ?_, ?_⟩; (rw [hap.1 9 (by decide)]; constructor <;> omega); (rw [hap.1 10 (by decide)]; constructor <;> omega)
                refine lv_astore_n (lv' := [(2, .ref (ad (10 + 3 * i0))), (1, .int (iI ((t : Int)))), (0, .ref (ad 0))]) hx hb dX1_giveOutPanels_55 rfl hl (by decide) rfl (fun ls hl => ?_)
                refine lv_aload_n hx hb dX1_giveOutPanels_56 rfl (lv_at hl 0 rfl) ?_
                refine lv_ifnonnull (tgt := 61) hx hb dX1_giveOutPanels_57 (by decide) ?_
                refine lv_aload_n hx hb dX1_giveOutPanels_61 rfl (lv_at hl 0 rfl) ?_
                refine lv_aload_n hx hb dX1_giveOutPanels_62 rfl (lv_at hl 2 rfl) ?_
                refine lv_aload_n hx hb dX1_giveOutPanels_63 rfl (lv_at hl 2 rfl) ?_
                refine lv_aload_n hx hb dX1_giveOutPanels_64 rfl (lv_at hl 0 rfl) ?_
                refine zgetN (own := RX1) (C := RX0) (T := TX0) (N := 13) (index := 147) (host := RX1) hx hb hts hinX0 hown hE hw (10 + 3 * i0) (yE_p (by omega) hp0) rfl 9 (by decide) (by decide +kernel) rfl dX1_giveOutPanels_65 ?_
                refine zcalll (va_runV (As := [.int (iI (p0.1 9))]) (rest := [.ref (ad 0), .ref (ad (10 + 3 * i0))]) ⟨hx, hb, hml, hown, hts⟩ (c_X1_panelsBusyIn l D cy A ad ya yi pr1 _ (FY pr (yi 5) K) (p0.1 9) hw (by first | decide | (constructor <;> omega)) hgv) (cwV 1 hts gX1_giveOutPanels_X1_panelsBusyIn rfl rfl rfl (by decide +kernel) ⟨(Nat.le_of_ble_eq_true rfl), (Nat.le_of_ble_eq_true rfl)⟩) (zPV hE hS hw (ci := 1) (k0 := 0) rfl yE_0) rfl rfl hl.1 rfl (lv_room (Nat.le_of_ble_eq_true rfl)) dX1_giveOutPanels_68 ⟨(Nat.le_of_ble_eq_true rfl), (Nat.le_of_ble_eq_true rfl)⟩) hS (fun z_68 H1 locs hq hz1 hk1 hS => ?_)
                obtain ⟨hqe, hv_68⟩ := hq
                replace hqe := hqe.symm
                subst hqe
                have hv68 : isM z_68 (fun k => tkn (bsY pr) (FY pr (yi 5) K) (p0.1 9) k 10) := isM_c hv_68 (fun k => tkn_c 10 (fun q hq => gvR_bs hgR hq _))
                refine lv_aload_n hx hb dX1_giveOutPanels_71 rfl (lv_at hl 0 rfl) ?_
                refine zgetN (own := RX1) (C := RX0) (T := TX0) (N := 13) (index := 107) (host := RX1) hx hb hts hinX0 hown hE hw (10 + 3 * i0) (yE_p (by omega) hp0) rfl 1 (by decide) (by decide +kernel) rfl dX1_giveOutPanels_72 ?_
                refine zcalll (va_runV (As := [.long (z_68), .int (iI (p0.1 1))]) (rest := [.ref (ad (10 + 3 * i0))]) ⟨hx, hb, hml, hown, hts⟩ (c_X1_lowestPanels l D cy A ad ya yi pr1 _ (fun k => tkn (bsY pr) (FY pr (yi 5) K) (p0.1 9) k 10) (z_68) (p0.1 1) hw hv68 (by omega) hg) (cwV 2 hts gX1_giveOutPanels_X1_lowestPanels rfl rfl rfl (by decide +kernel) ⟨(Nat.le_of_ble_eq_true rfl), (Nat.le_of_ble_eq_true rfl)⟩) (zPV hE hS hw (ci := 1) (k0 := 0) rfl yE_0) rfl rfl hl.1 rfl (lv_room (Nat.le_of_ble_eq_true rfl)) dX1_giveOutPanels_75 ⟨(Nat.le_of_ble_eq_true rfl), (Nat.le_of_ble_eq_true rfl)⟩) hS (fun z_75 H1 locs hq hz1 hk1 hS => ?_)
                obtain ⟨hqe, hv_75⟩ := hq
                replace hqe := hqe.symm
                subst hqe
                refine zputN (own := RX1) (C := RX0) (T := TX0) (N := 13) (index := 171) (host := RX1) hx hb hts hinX0 tyX0 tyX0_ok nmX0 hown hE hS hw (10 + 3 * i0) (yE_p (by omega) hp0) rfl 11 (by decide) (by decide +kernel) rfl (ty := .long) (by decide +kernel) rfl rfl (Nat.le_of_ble_eq_true rfl) dX1_giveOutPanels_78 (fun H locs hw hS => ?_)
                have hw := hw.cong (yU_g (by omega) hp0 (z_75))
                obtain ⟨pr_1, hpr_1⟩ : ∃ z, z = va_up pr1 i0 (some (p0.1, p0.2.1, p0.2.2.1, z_75)) := ⟨_, rfl⟩
                obtain ⟨q_1, hq_1⟩ : ∃ z : PS, z = (p0.1, p0.2.1, p0.2.2.1, z_75) := ⟨_, rfl⟩
                have hp_n1 : pr_1 i0 = some q_1 := by rw [hpr_1, hq_1, up_same]
                rw [← hpr_1] at hw
                refine lv_aload_n hx hb dX1_giveOutPanels_81 rfl (lv_at hl 0 rfl) ?_
                refine zi_const hx hb dX1_giveOutPanels_82 ?_
                refine zputN (own := RX1) (C := RX0) (T := TX0) (N := 13) (index := 202) (host := RX1) hx hb hts hinX0 tyX0 tyX0_ok nmX0 hown hE hS hw (10 + 3 * i0) (yE_p (by omega) hp_n1) rfl 12 (by decide) (by decide +kernel) rfl (ty := .boolean) (by decide +kernel) (by decide) (by decide) (Nat.le_of_ble_eq_true rfl) dX1_giveOutPanels_83 (fun H locs hw hS => ?_)
                have hw := hw.cong (yU_f (by omega) hp_n1 12 (by decide) (by decide) (1))
                obtain ⟨pr_2, hpr_2⟩ : ∃ z, z = va_up pr_1 i0 (some (va_up q_1.1 12 (1), q_1.2)) := ⟨_, rfl⟩
                obtain ⟨q_2, hq_2⟩ : ∃ z : PS, z = (va_up q_1.1 12 (1), q_1.2) := ⟨_, rfl⟩
                have hp_n2 : pr_2 i0 = some q_2 := by rw [hpr_2, hq_2, up_same]
                rw [← hpr_2] at hw
                refine zi_iinc (lv' := [(1, .int (iI ((t : Int) + 1))), (2, .ref (ad (10 + 3 * i0))), (0, .ref (ad 0))]) hx hb dX1_giveOutPanels_86 hl (k := 1) rfl (by decide) rfl (fun ls hl => ?_)
                refine lv_goto (tgt := 45) hx hb dX1_giveOutPanels_89 (by decide) ?_
                have hg2 : gv1 p0 q_2 := by rw [hq_2, hq_1]; exact ⟨fun j hj => up_ne _ _ hj, rfl, rfl⟩
                have hpr9 : pr_2 = va_up pr1 i0 (some q_2) := by rw [hq_2, hpr_2, hpr_1, up_up]
                have hq1 : q_2.1 12 = 1 := by rw [hq_2]; rfl
                have hqz : q_2.2.2.2 = z_75 := by rw [hq_2, hq_1]
                exact ih (t + 1) (10 * (p0.1 9).toNat + i0 + 1) pr_2 _ _ _ (by omega) (by omega) (by rw [hpr9]; exact gvR_u hgR hp0 hg2) (by rw [hpr9]; exact gvK_s hgR hb8 hgK hi0 hp0 hs0 hm0 hv_75 hg2 hqz hq1) (by omega) (by rw [hpr9, cS_up hp0 hs0 hq1 10 hi0, ht9]) hw hS (lv_sub hl [0, 2] rfl)
        exact loop_45 11 0 0 pr1 _ _ _ (by omega) (by omega) hgR (gvK_0 (fun j p hj hp => by obtain ⟨a9, ha9, hap⟩ := gvR_p hgR hj hp; have hz := hz9 j p (by omega) hp; exact ⟨hz.1, hz.2, by rw [hap.1 9 (by decide)]; exact (hb9 j a9 hj ha9).1.1⟩)) (by omega) (cS_0 10 (fun j p hj hp => (hz9 j p (by omega) hp).2)) hw hS (lv_sub hl [0, 3] rfl)
      · refine lv_aload_n hx hb dX1_giveOutPanels_15 rfl (lv_at hl 2 rfl) ?_
        refine lv_iload_n hx hb dX1_giveOutPanels_16 rfl (lv_at hl 0 rfl) ?_
        refine zaald hx hb hE hw 5 yE_5 i rfl (by omega) (by omega) dX1_giveOutPanels_17 ?_
        rcases hp_17 : pr1 i with _ | p_17
        · rw [yR_0 hp_17]
          refine lv_astoreN (lv' := [(4, .null), (3, .int (iI ((i : Int)))), (2, .int (iI (10))), (1, .ref (ad 5)), (0, .ref (ad 0))]) hx hb dX1_giveOutPanels_18 hl (by decide) rfl (fun ls hl => ?_)
          refine lv_aloadN hx hb dX1_giveOutPanels_20 (lv_at hl 0 rfl) ?_
          refine lv_ifnullN (tgt := 37) hx hb dX1_giveOutPanels_22 (by decide) ?_
          refine zi_iinc (lv' := [(3, .int (iI ((i : Int) + 1))), (4, .null), (2, .int (iI (10))), (1, .ref (ad 5)), (0, .ref (ad 0))]) hx hb dX1_giveOutPanels_37 hl (k := 1) rfl (by decide) rfl (fun ls hl => ?_)
          refine lv_goto (tgt := 10) hx hb dX1_giveOutPanels_40 (by decide) ?_
          exact ih (i + 1) pr1 _ _ _ (by omega) (by omega) hgR (fun j p hj hp => by by_cases hji : j = i; (subst hji; rw [hp_17] at hp; cases hp); exact hz9 j p (by omega) hp) hw hS (lv_sub hl [0, 2, 3, 4] rfl)
        · rw [yR_1 hp_17]
          refine lv_astore (lv' := [(4, .ref (ad (10 + 3 * i))), (3, .int (iI ((i : Int)))), (2, .int (iI (10))), (1, .ref (ad 5)), (0, .ref (ad 0))]) hx hb dX1_giveOutPanels_18 hl (by decide) rfl (fun ls hl => ?_)
          refine lv_aload hx hb dX1_giveOutPanels_20 (lv_at hl 0 rfl) ?_
          refine lv_ifnull hx hb dX1_giveOutPanels_22 ?_
          refine lv_aload hx hb dX1_giveOutPanels_25 (lv_at hl 0 rfl) ?_
          refine lv_lconst (v := 0) hx hb dX1_giveOutPanels_27 (by decide) ?_
          refine zputN (own := RX1) (C := RX0) (T := TX0) (N := 13) (index := 171) (host := RX1) hx hb hts hinX0 tyX0 tyX0_ok nmX0 hown hE hS hw (10 + 3 * i) (yE_p (by omega) hp_17) rfl 11 (by decide) (by decide +kernel) rfl (ty := .long) (by decide +kernel) rfl rfl (Nat.le_of_ble_eq_true rfl) dX1_giveOutPanels_28 (fun H locs hw hS => ?_)
          have hw := hw.cong (yU_g (by omega) hp_17 (0))
          obtain ⟨pr_3, hpr_3⟩ : ∃ z, z = va_up pr1 i (some (p_17.1, p_17.2.1, p_17.2.2.1, 0)) := ⟨_, rfl⟩
          obtain ⟨q_3, hq_3⟩ : ∃ z : PS, z = (p_17.1, p_17.2.1, p_17.2.2.1, 0) := ⟨_, rfl⟩
          have hp_n3 : pr_3 i = some q_3 := by rw [hpr_3, hq_3, up_same]
          rw [← hpr_3] at hw
          refine lv_aload hx hb dX1_giveOutPanels_31 (lv_at hl 0 rfl) ?_
          refine zi_const hx hb dX1_giveOutPanels_33 ?_
          refine zputN (own := RX1) (C := RX0) (T := TX0) (N := 13) (index := 202) (host := RX1) hx hb hts hinX0 tyX0 tyX0_ok nmX0 hown hE hS hw (10 + 3 * i) (yE_p (by omega) hp_n3) rfl 12 (by decide) (by decide +kernel) rfl (ty := .boolean) (by decide +kernel) (by decide) (by decide) (Nat.le_of_ble_eq_true rfl) dX1_giveOutPanels_34 (fun H locs hw hS => ?_)
          have hw := hw.cong (yU_f (by omega) hp_n3 12 (by decide) (by decide) (0))
          obtain ⟨pr_4, hpr_4⟩ : ∃ z, z = va_up pr_3 i (some (va_up q_3.1 12 (0), q_3.2)) := ⟨_, rfl⟩
          obtain ⟨q_4, hq_4⟩ : ∃ z : PS, z = (va_up q_3.1 12 (0), q_3.2) := ⟨_, rfl⟩
          have hp_n4 : pr_4 i = some q_4 := by rw [hpr_4, hq_4, up_same]
          rw [← hpr_4] at hw
          refine zi_iinc (lv' := [(3, .int (iI ((i : Int) + 1))), (4, .ref (ad (10 + 3 * i))), (2, .int (iI (10))), (1, .ref (ad 5)), (0, .ref (ad 0))]) hx hb dX1_giveOutPanels_37 hl (k := 1) rfl (by decide) rfl (fun ls hl => ?_)
          refine lv_goto (tgt := 10) hx hb dX1_giveOutPanels_40 (by decide) ?_
          have hg1 : gv1 p_17 q_4 := by rw [hq_4, hq_3]; exact ⟨fun j hj => up_ne _ _ hj, rfl, rfl⟩
          have hpr9 : pr_4 = va_up pr1 i (some q_4) := by rw [hq_4, hpr_4, hpr_3, up_up]
          exact ih (i + 1) pr_4 _ _ _ (by omega) (by omega) (by rw [hpr9]; exact gvR_u hgR hp_17 hg1) (fun j p hj hp => by rw [hpr9] at hp; by_cases hji : j = i; (subst hji; rw [up_same] at hp; cases hp; rw [hq_4, hq_3]; exact ⟨isM_0, rfl⟩); rw [up_ne _ _ hji] at hp; exact hz9 j p (by omega) hp) hw hS (lv_sub hl [0, 2, 3, 4] rfl)
  exact loop_10 11 0 pr _ _ _ (by omega) (by omega) gvR_0 (fun j p hj => absurd hj (Nat.not_lt_zero j)) hw hS (lv_sub hl [0, 1, 2, 3] rfl)

set_option maxHeartbeats 4000000 in
set_option maxRecDepth 100000 in
theorem c_X1_panelsOf_ok (l : Launch) (D : va_G) (cy : Nat → ClassId) (A : Nat → Prop) (ad : Nat → Nat) (ya : Nat → Nat → Int) (yi : Nat → Int) (pr : Nat → Option PS) (H0 : Heap) (i : Nat) (p0 : PS) (hw : zW D A ad (yE cy ad ya yi pr) H0) (hi : i < 10) (hp0 : pr i = some p0) (hb9 : ∀ i p, i < 10 → pr i = some p → (0 ≤ p.1 9 ∧ p.1 9 ≤ 900) ∧ (0 ≤ p.1 10 ∧ p.1 10 ≤ 1000) ∧ 1 ≤ p.1 1 ∧ p.1 1 ≤ 30) (hg : yB yi) : Met l yX1_panelsOf wsX1_panelsOf ({ frames := 3, cells := 0, slots := 0, locals := 72 }) (zPc D cy A [.ref (ad 0), .int (iI ((i : Int)))] H0) (zQi (fun z H1 => ∃ pr2, zW D A ad (yE cy ad ya yi pr2) H1 ∧ gvR pr pr2 ∧ z = sl (fun j => bI (FY pr (yi 5) 10000 i j)) 60) A) 0 0 A := by
  refine Met.ofW (cc := cX1_panelsOf) (maxL := 3) (ret := (some .int)) (by decide) rfl ?_
  intro pg en s mt args below meth c s₁ B hml hv
  obtain ⟨rfl, hH, hE⟩ := hv
  subst hH
  have hx := B.exec
  have hb := B.bytes
  have hr := B.returns
  have hts := atoms_spec (ws := wsX1_panelsOf) B.pre
  have hown : s.vm.findClass RX1 = some mt.cls := findClass_of_methodNamed B.named
  have hlocks := B.notSynchronized
  have hinX0 : ∀ w ∈ u_ws RX0 TX0 13, w ∈ wsX1_panelsOf := by decide +kernel
  have hS : va_S A s.heap s.heap [] := va_S.rf
  have hl := lv_entry ([.ref (ad 0), .int (iI ((i : Int)))]) (n := 3) (Nat.le_of_ble_eq_true rfl)
  rw [lg_entry_eq]
  generalize (lg_sl ([.ref (ad 0), .int (iI ((i : Int)))]) ++ List.replicate (3 - (lg_sl ([.ref (ad 0), .int (iI ((i : Int)))])).length) Slot.unset).toArray = ls at hl ⊢
  have hl : lv_has ls 3 [(0, .ref (ad 0)), (1, .int (iI ((i : Int))))] := hl
  refine lv_aload_n hx hb dX1_panelsOf_0 rfl (lv_at hl 0 rfl) ?_
  refine lv_iload_n hx hb dX1_panelsOf_1 rfl (lv_at hl 1 rfl) ?_
  refine zcallq (va_runV (As := [.int (iI ((i : Int)))]) (rest := []) ⟨hx, hb, hml, hown, hts⟩ (c_X1_existing_ok l D cy A ad ya yi pr _ i p0 hw (by omega) hp0) (cwV 1 hts gX1_panelsOf_X1_existing rfl rfl rfl (by decide +kernel) ⟨(Nat.le_of_ble_eq_true rfl), (Nat.le_of_ble_eq_true rfl)⟩) (zPV hE hS hw (ci := 1) (k0 := 0) rfl yE_0) rfl rfl hl.1 rfl (lv_room (Nat.le_of_ble_eq_true rfl)) dX1_panelsOf_2 ⟨(Nat.le_of_ble_eq_true rfl), (Nat.le_of_ble_eq_true rfl)⟩) hS (fun z_2 H1 locs hq hz1 hk1 hS => ?_)
  obtain ⟨hqe, hv_2⟩ := hq
  replace hqe := hqe.symm
  subst hqe
  subst hv_2
  rw [zrf]
  refine lv_astore_n (lv' := [(2, .ref (ad (10 + 3 * i))), (0, .ref (ad 0)), (1, .int (iI ((i : Int))))]) hx hb dX1_panelsOf_5 rfl hl (by decide) rfl (fun ls hl => ?_)
  refine lv_aload_n hx hb dX1_panelsOf_6 rfl (lv_at hl 1 rfl) ?_
  refine zcallv (va_runV (As := []) (rest := []) ⟨hx, hb, hml, hown, hts⟩ (c_X1_giveOutPanels l D cy A ad ya yi pr _ hw hb9 hg) (cwV 0 hts gX1_panelsOf_X1_giveOutPanels rfl rfl rfl (by decide +kernel) ⟨(Nat.le_of_ble_eq_true rfl), (Nat.le_of_ble_eq_true rfl)⟩) (zPV hE hS hw (ci := 1) (k0 := 0) rfl yE_0) rfl rfl hl.1 rfl (lv_room (Nat.le_of_ble_eq_true rfl)) dX1_panelsOf_7 ⟨(Nat.le_of_ble_eq_true rfl), (Nat.le_of_ble_eq_true rfl)⟩) hS (fun H1 locs hq hz1 hk1 hS => ?_)
  obtain ⟨pr_g, hw, hgR, hgG⟩ := hq
  obtain ⟨pg_0, hpg_0, hgg_0⟩ := gvR_q hgR (by omega) hp0
  refine lv_aload_n hx hb dX1_panelsOf_10 rfl (lv_at hl 0 rfl) ?_
  refine zgetN (own := RX1) (C := RX0) (T := TX0) (N := 13) (index := 171) (host := RX1) hx hb hts hinX0 hown hE hw (10 + 3 * i) (yE_p (by omega) hpg_0) rfl 11 (by decide) (by decide +kernel) rfl dX1_panelsOf_11 ?_
  refine zcalli (va_runS (As := [.long (pg_0.2.2.2)]) (rest := []) ⟨hx, hb, hml, hown, hts⟩ (c_J13_bitCount_95d88 l D cy A ad _ (pg_0.2.2.2) (FY pr (yi 5) 10000 i) (hgG i pg_0 (by omega) hpg_0)) (va_cwS 1 hts gX1_panelsOf_J13_bitCount_95d88 rfl rfl rfl (by decide +kernel) ⟨(Nat.le_of_ble_eq_true rfl), (Nat.le_of_ble_eq_true rfl)⟩) (zPS hE hS) rfl rfl hl.1 rfl (lv_room (Nat.le_of_ble_eq_true rfl)) dX1_panelsOf_14 ⟨(Nat.le_of_ble_eq_true rfl), (Nat.le_of_ble_eq_true rfl)⟩) hS (fun z_14 H1 locs hz_14 hq hz1 hk1 hS => ?_)
  obtain ⟨hqe, hv_14⟩ := hq
  replace hqe := hqe.symm
  subst hqe
  refine ziret hx hb hr hlocks hS (Nat.le_of_ble_eq_true rfl) (Nat.le_of_ble_eq_true rfl) (by first | decide | (constructor <;> omega)) ?_ dX1_panelsOf_17
  exact ⟨_, hw, hgR, hv_14⟩

set_option maxHeartbeats 4000000 in
set_option maxRecDepth 100000 in
theorem c_X1_pourOf_ok (l : Launch) (D : va_G) (cy : Nat → ClassId) (A : Nat → Prop) (ad : Nat → Nat) (ya : Nat → Nat → Int) (yi : Nat → Int) (pr : Nat → Option PS) (H0 : Heap) (k : Nat) (h : Int) (hw : zW D A ad (yE cy ad ya yi pr) H0) (hk9 : (k : Int) < yi 5) (h1 : 0 ≤ h ∧ h < 1000) (hb9 : ∀ i p, i < 10 → pr i = some p → (0 ≤ p.1 9 ∧ p.1 9 ≤ 900) ∧ (0 ≤ p.1 10 ∧ p.1 10 ≤ 1000) ∧ 1 ≤ p.1 1 ∧ p.1 1 ≤ 30) (hg : yB yi) : Met l yX1_pourOf wsX1_pourOf ({ frames := 3, cells := 0, slots := 0, locals := 72 }) (zPc D cy A [.ref (ad 0), .int (iI ((k : Int))), .int (iI (h))] H0) (zQi (fun z H1 => ∃ pr2, zW D A ad (yE cy ad ya yi pr2) H1 ∧ gvR pr pr2 ∧ ((z = -1 ∧ ∀ q, q < 10 → ¬ (∃ p, pr q = some p ∧ FY pr (yi 5) 10000 q k = true ∧ p.1 9 ≤ h ∧ h < p.1 10)) ∨ (0 ≤ z ∧ z < 10 ∧ (∃ p, pr z.toNat = some p ∧ FY pr (yi 5) 10000 z.toNat k = true ∧ p.1 9 ≤ h ∧ h < p.1 10)))) A) 0 0 A := by
  refine Met.ofW (cc := cX1_pourOf) (maxL := 7) (ret := (some .int)) (by decide) rfl ?_
  intro pg en s mt args below meth c s₁ B hml hv
  obtain ⟨rfl, hH, hE⟩ := hv
  subst hH
  have hx := B.exec
  have hb := B.bytes
  have hr := B.returns
  have hts := atoms_spec (ws := wsX1_pourOf) B.pre
  have hown : s.vm.findClass RX1 = some mt.cls := findClass_of_methodNamed B.named
  have hlocks := B.notSynchronized
  have hinX0 : ∀ w ∈ u_ws RX0 TX0 13, w ∈ wsX1_pourOf := by decide +kernel
  have hinX1 : ∀ w ∈ u_ws RX1 TX1 9, w ∈ wsX1_pourOf := by decide +kernel
  have hS : va_S A s.heap s.heap [] := va_S.rf
  have hl := lv_entry ([.ref (ad 0), .int (iI ((k : Int))), .int (iI (h))]) (n := 7) (Nat.le_of_ble_eq_true rfl)
  rw [lg_entry_eq]
  generalize (lg_sl ([.ref (ad 0), .int (iI ((k : Int))), .int (iI (h))]) ++ List.replicate (7 - (lg_sl ([.ref (ad 0), .int (iI ((k : Int))), .int (iI (h))])).length) Slot.unset).toArray = ls at hl ⊢
  have hl : lv_has ls 7 [(0, .ref (ad 0)), (1, .int (iI ((k : Int)))), (2, .int (iI (h)))] := hl
  obtain ⟨g1, g2, g3, g4⟩ := id hg
  refine lv_iload_n hx hb dX1_pourOf_0 rfl (lv_at hl 1 rfl) ?_
  refine zf_lt (tgt := 12) hx hb dX1_pourOf_1 (by decide) (by first | decide | (constructor <;> omega)) (fun c_1 => ?_) (fun c_1 => ?_)
  · exfalso; omega
  · refine lv_iload_n hx hb dX1_pourOf_4 rfl (lv_at hl 1 rfl) ?_
    refine lv_aload_n hx hb dX1_pourOf_5 rfl (lv_at hl 0 rfl) ?_
    refine zget (C := RX1) (T := TX1) (N := 9) hx hb hts hinX1 hown hE hw 0 yE_0 rfl 5 (by decide) (hts (.fieldLink RX1 28 "FormworkYard" "yardPanels" "I") (by decide +kernel)) rfl dX1_pourOf_6 ?_
    refine zc_lt (tgt := 20) hx hb dX1_pourOf_9 (by decide) (by first | decide | (constructor <;> omega)) (by first | decide | (constructor <;> omega)) (fun c_9 => ?_) (fun c_9 => ?_)
    · refine lv_iload_n hx hb dX1_pourOf_20 rfl (lv_at hl 2 rfl) ?_
      refine zcallv (va_runS (As := [.int (iI (h))]) (rest := []) ⟨hx, hb, hml, hown, hts⟩ (c_X1_requireHour_ok l D cy A ad _ (h) (by omega)) (va_cwS 1 hts gX1_pourOf_X1_requireHour rfl rfl rfl (by decide +kernel) ⟨(Nat.le_of_ble_eq_true rfl), (Nat.le_of_ble_eq_true rfl)⟩) (zPS hE hS) rfl rfl hl.1 rfl (lv_room (Nat.le_of_ble_eq_true rfl)) dX1_pourOf_21 ⟨(Nat.le_of_ble_eq_true rfl), (Nat.le_of_ble_eq_true rfl)⟩) hS (fun H1 locs hq hz1 hk1 hS => ?_)
      replace hq := hq.symm
      subst hq
      refine lv_aload_n hx hb dX1_pourOf_24 rfl (lv_at hl 0 rfl) ?_
      refine zcallv (va_runV (As := []) (rest := []) ⟨hx, hb, hml, hown, hts⟩ (c_X1_giveOutPanels l D cy A ad ya yi pr _ hw hb9 hg) (cwV 0 hts gX1_pourOf_X1_giveOutPanels rfl rfl rfl (by decide +kernel) ⟨(Nat.le_of_ble_eq_true rfl), (Nat.le_of_ble_eq_true rfl)⟩) (zPV hE hS hw (ci := 1) (k0 := 0) rfl yE_0) rfl rfl hl.1 rfl (lv_room (Nat.le_of_ble_eq_true rfl)) dX1_pourOf_25 ⟨(Nat.le_of_ble_eq_true rfl), (Nat.le_of_ble_eq_true rfl)⟩) hS (fun H1 locs hq hz1 hk1 hS => ?_)
      obtain ⟨pr_g, hw, hgR, hgG⟩ := hq
      refine lv_lconst (v := 1) hx hb dX1_pourOf_28 (by decide) ?_
      refine lv_iload_n hx hb dX1_pourOf_29 rfl (lv_at hl 1 rfl) ?_
      refine lv_lshl (v := lN (2 ^ k)) hx hb dX1_pourOf_30 (zshl (by omega)) ?_
      refine lv_lstore_n (lv' := [(3, .long (lN (2 ^ k))), (0, .ref (ad 0)), (1, .int (iI ((k : Int)))), (2, .int (iI (h)))]) hx hb dX1_pourOf_31 rfl hl (by decide) rfl (fun ls hl => ?_)
      refine zi_const hx hb dX1_pourOf_32 ?_
      refine lv_istore (lv' := [(5, .int (iI (0))), (3, .long (lN (2 ^ k))), (0, .ref (ad 0)), (1, .int (iI ((k : Int)))), (2, .int (iI (h)))]) hx hb dX1_pourOf_33 hl (by decide) rfl (fun ls hl => ?_)
      have loop_35 : ∀ (n : Nat) (i : Nat) (H : Heap) (locs : List Loc) (ls : Array Slot), 10 - i < n → (i ≤ 10) → (∀ q, q < i → ¬ (∃ p, pr q = some p ∧ FY pr (yi 5) 10000 q k = true ∧ p.1 9 ≤ h ∧ h < p.1 10)) → zW D A ad (yE cy ad ya yi pr_g) H → va_S A s.heap H locs → lv_has ls 7 [(5, .int (iI ((i : Int)))), (3, .long (lN (2 ^ k))), (0, .ref (ad 0)), (1, .int (iI ((k : Int)))), (2, .int (iI (h)))] → W pg l en (headSpec wsX1_pourOf ({ frames := 3, cells := 0, slots := 0, locals := 72 })).room s mt ([.ref (ad 0), .int (iI ((k : Int))), .int (iI (h))] : List Value).toArray below meth c H locs 0 0 (MQ below (zQi (fun z H1 => ∃ pr2, zW D A ad (yE cy ad ya yi pr2) H1 ∧ gvR pr pr2 ∧ ((z = -1 ∧ ∀ q, q < 10 → ¬ (∃ p, pr q = some p ∧ FY pr (yi 5) 10000 q k = true ∧ p.1 9 ≤ h ∧ h < p.1 10)) ∨ (0 ≤ z ∧ z < 10 ∧ (∃ p, pr z.toNat = some p ∧ FY pr (yi 5) 10000 z.toNat k = true ∧ p.1 9 ≤ h ∧ h < p.1 10)))) A) ([.ref (ad 0), .int (iI ((k : Int))), .int (iI (h))] : List Value).toArray s 0 0 A) (F0 mt 35 ls []) := by
        intro n
        induction n with
        | zero =>
          intro i H locs ls hm hi hno
          exfalso; omega
        | succ n ih =>
          intro i H locs ls hm hi hno hw hS hl
          refine lv_iload hx hb dX1_pourOf_35 (lv_at hl 0 rfl) ?_
          refine zi_bipush hx hb dX1_pourOf_37 (by decide) ?_
          refine zc_ge (tgt := 86) hx hb dX1_pourOf_39 (by decide) (by first | decide | (constructor <;> omega)) (by first | decide | (constructor <;> omega)) (fun c_39 => ?_) (fun c_39 => ?_)
          · refine zi_const hx hb dX1_pourOf_86 ?_
            refine ziret hx hb hr hlocks hS (Nat.le_of_ble_eq_true rfl) (Nat.le_of_ble_eq_true rfl) (by first | decide | (constructor <;> omega)) ?_ dX1_pourOf_87
            refine ⟨_, hw, hgR, ?_⟩
            exact Or.inl ⟨rfl, fun q hq => hno q (by omega)⟩
          · refine lv_aload_n hx hb dX1_pourOf_42 rfl (lv_at hl 2 rfl) ?_
            refine zget (C := RX1) (T := TX1) (N := 9) hx hb hts hinX1 hown hE hw 0 yE_0 rfl 4 (by decide) (hts (.fieldLink RX1 24 "FormworkYard" "pourList" "[LFormworkYard$Pour;") (by decide +kernel)) rfl dX1_pourOf_43 ?_
            refine lv_iload hx hb dX1_pourOf_46 (lv_at hl 0 rfl) ?_
            refine zaald hx hb hE hw 5 yE_5 i rfl (by omega) (by omega) dX1_pourOf_48 ?_
            rcases hp_48 : pr_g i with _ | p_48
            · rw [yR_0 hp_48]
              refine lv_astoreN (lv' := [(6, .null), (5, .int (iI ((i : Int)))), (3, .long (lN (2 ^ k))), (0, .ref (ad 0)), (1, .int (iI ((k : Int)))), (2, .int (iI (h)))]) hx hb dX1_pourOf_49 hl (by decide) rfl (fun ls hl => ?_)
              refine lv_aloadN hx hb dX1_pourOf_51 (lv_at hl 0 rfl) ?_
              refine lv_ifnullN (tgt := 80) hx hb dX1_pourOf_53 (by decide) ?_
              refine zi_iinc (lv' := [(5, .int (iI ((i : Int) + 1))), (6, .null), (3, .long (lN (2 ^ k))), (0, .ref (ad 0)), (1, .int (iI ((k : Int)))), (2, .int (iI (h)))]) hx hb dX1_pourOf_80 hl (k := 1) rfl (by decide) rfl (fun ls hl => ?_)
              refine lv_goto (tgt := 35) hx hb dX1_pourOf_83 (by decide) ?_
              exact ih (i + 1) _ _ _ (by omega) (by omega) (fun q hq => by by_cases hqi : q = i; (subst hqi; rintro ⟨p, hp, -⟩; have hx9 := gvR_q hgR (by omega) hp; obtain ⟨b, hb1, -⟩ := hx9; rw [hp_48] at hb1; cases hb1); exact hno q (by omega)) hw hS (lv_sub hl [0, 2, 3, 4, 5] rfl)
            · rw [yR_1 hp_48]
              obtain ⟨a0, ha0, hap0⟩ := gvR_p hgR (by omega) hp_48
              have hb0 := hb9 _ a0 (by omega) ha0
              have e9 := hap0.1 9 (by decide)
              have e10 := hap0.1 10 (by decide)
              have hA9 := isM_and (hgG i p_48 (by omega) hp_48) (k := k) (by omega)
              refine lv_astore (lv' := [(6, .ref (ad (10 + 3 * i))), (5, .int (iI ((i : Int)))), (3, .long (lN (2 ^ k))), (0, .ref (ad 0)), (1, .int (iI ((k : Int)))), (2, .int (iI (h)))]) hx hb dX1_pourOf_49 hl (by decide) rfl (fun ls hl => ?_)
              refine lv_aload hx hb dX1_pourOf_51 (lv_at hl 0 rfl) ?_
              refine lv_ifnull hx hb dX1_pourOf_53 ?_
              refine lv_aload hx hb dX1_pourOf_56 (lv_at hl 0 rfl) ?_
              refine zgetN (own := RX1) (C := RX0) (T := TX0) (N := 13) (index := 171) (host := RX1) hx hb hts hinX0 hown hE hw (10 + 3 * i) (yE_p (by omega) hp_48) rfl 11 (by decide) (by decide +kernel) rfl dX1_pourOf_58 ?_
              refine lv_lload_n hx hb dX1_pourOf_61 rfl (lv_at hl 2 rfl) ?_
              refine lv_land hx hb dX1_pourOf_62 ?_
              refine lv_lconst (v := 0) hx hb dX1_pourOf_63 (by decide) ?_
              refine W.lcmp hx hb dX1_pourOf_64 ?_
              obtain ⟨k_64, hk_640, hk_64⟩ := zlcmp ((p_48.2.2.2) &&& (lN (2 ^ k))) (0)
              rw [hk_64]
              refine zf_eq (tgt := 80) hx hb dX1_pourOf_65 (by decide) (by first | decide | (constructor <;> omega)) (fun c_65 => ?_) (fun c_65 => ?_)
              · refine zi_iinc (lv' := [(5, .int (iI ((i : Int) + 1))), (6, .ref (ad (10 + 3 * i))), (3, .long (lN (2 ^ k))), (0, .ref (ad 0)), (1, .int (iI ((k : Int)))), (2, .int (iI (h)))]) hx hb dX1_pourOf_80 hl (k := 1) rfl (by decide) rfl (fun ls hl => ?_)
                refine lv_goto (tgt := 35) hx hb dX1_pourOf_83 (by decide) ?_
                exact ih (i + 1) _ _ _ (by omega) (by omega) (fun q hq => by by_cases hqi : q = i; (subst hqi; rintro ⟨p, hp, h8, h7⟩; rw [ha0] at hp; cases hp; have hf := hA9.mp (by rcases hk_640 with h9 | h9; exact h9.2; omega); rw [h8] at hf; cases hf); exact hno q (by omega)) hw hS (lv_sub hl [0, 2, 3, 4, 5] rfl)
              · refine lv_aload hx hb dX1_pourOf_68 (lv_at hl 0 rfl) ?_
                refine lv_iload_n hx hb dX1_pourOf_70 rfl (lv_at hl 5 rfl) ?_
                refine zcalli (va_runVN (As := [.int (iI (h))]) (rest := []) ⟨hx, hb, hml, hown, hts⟩ (c_X0_isBusy l D cy A ad ya yi pr_g _ i p_48 (h) hw (by omega) hp_48 (by first | decide | (constructor <;> omega)) (by first | decide | (constructor <;> omega)) (by first | decide | (constructor <;> omega))) ⟨va_cnB 1 hts gX1_pourOf_X0_isBusy_n184 rfl rfl rfl (hE.2.1 (.methodLinkNest RX1 184 yX0_isBusy RX1) (by decide +kernel)) (hts (.initialized RX0) (by decide +kernel)) (by decide +kernel) ⟨(Nat.le_of_ble_eq_true rfl), (Nat.le_of_ble_eq_true rfl)⟩, hts (.instanceMethod yX0_isBusy) (by decide +kernel), hts (.selects RX0 yX0_isBusy yX0_isBusy) (by decide +kernel)⟩ (zPV hE hS hw (ci := 0) (k0 := 10 + 3 * i) rfl (yE_p (by omega) hp_48)) rfl rfl hl.1 rfl (lv_room (Nat.le_of_ble_eq_true rfl)) dX1_pourOf_71 ⟨(Nat.le_of_ble_eq_true rfl), (Nat.le_of_ble_eq_true rfl)⟩) hS (fun z_71 H1 locs hz_71 hq hz1 hk1 hS => ?_)
                obtain ⟨hqe, hv_71⟩ := hq
                replace hqe := hqe.symm
                subst hqe
                refine zf_eq (tgt := 80) hx hb dX1_pourOf_74 (by decide) (by first | decide | (constructor <;> omega)) (fun c_74 => ?_) (fun c_74 => ?_)
                · refine zi_iinc (lv' := [(5, .int (iI ((i : Int) + 1))), (6, .ref (ad (10 + 3 * i))), (3, .long (lN (2 ^ k))), (0, .ref (ad 0)), (1, .int (iI ((k : Int)))), (2, .int (iI (h)))]) hx hb dX1_pourOf_80 hl (k := 1) rfl (by decide) rfl (fun ls hl => ?_)
                  refine lv_goto (tgt := 35) hx hb dX1_pourOf_83 (by decide) ?_
                  exact ih (i + 1) _ _ _ (by omega) (by omega) (fun q hq => by by_cases hqi : q = i; (subst hqi; rintro ⟨p, hp, h8, h7⟩; rw [ha0] at hp; cases hp; omega); exact hno q (by omega)) hw hS (lv_sub hl [0, 2, 3, 4, 5] rfl)
                · refine lv_iload hx hb dX1_pourOf_77 (lv_at hl 1 rfl) ?_
                  refine ziret hx hb hr hlocks hS (Nat.le_of_ble_eq_true rfl) (Nat.le_of_ble_eq_true rfl) (by first | decide | (constructor <;> omega)) ?_ dX1_pourOf_79
                  refine ⟨_, hw, hgR, ?_⟩
                  refine Or.inr ⟨by omega, by omega, ?_⟩
                  rw [Int.toNat_natCast]
                  refine ⟨a0, ha0, ?_, by omega⟩
                  cases hf : FY pr (yi 5) 10000 i k with
                  | true => rfl
                  | false => have h9 := hA9.mpr hf; rcases hk_640 with h8 | h8; omega; exact absurd h9 h8.2
      exact loop_35 11 0 _ _ _ (by omega) (by omega) (fun q hq => absurd hq (Nat.not_lt_zero q)) hw hS (lv_sub hl [0, 1, 2, 3, 4] rfl)
    · exfalso; omega
