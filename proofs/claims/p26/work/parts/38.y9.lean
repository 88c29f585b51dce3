theorem yE_lt {cy : Nat → ClassId} {ad : Nat → Nat} {ya : Nat → Nat → Int} {yi : Nat → Int} {pr : Nat → Option PS} (hpr : pr 10 = none) {k : Nat} {v : va_E} (h : yE cy ad ya yi pr k = some v) : k < 40 := by
  rcases Nat.lt_or_ge k 40 with c | c
  · exact c
  · exfalso
    rcases Nat.lt_or_ge k 43 with c2 | c2
    · rw [yE_hi (by omega) c2, show (k - 10) / 3 = 10 by omega, hpr] at h
      cases h
    · unfold yE at h
      rw [if_neg (by omega), if_neg (by omega), if_neg (by omega), if_neg (by omega), if_neg (by omega), if_neg (by omega), if_neg (by omega), if_neg (by omega)] at h
      cases h
theorem yU_new {D : va_G} {A : Nat → Prop} {cy : Nat → ClassId} {ad : Nat → Nat} {ya : Nat → Nat → Int} {yi : Nat → Int} {pr : Nat → Option PS} {H : Heap} {n : Nat} {q : PS} (hn : n < 10) (hpn : pr n = none) (hpr : pr 10 = none) (h : zW D A ad (va_up (yE cy ad ya yi (va_up pr 10 (some q))) 5 (some (.inl (cy 2, 10, .inr (.inr (.inr (.inr (va_up (yR ad (va_up pr 10 (some q))) n (some (ad 40)))))))))) H) :
    ∃ ad2, (∀ k, k < 40 → (k < 10 + 3 * n ∨ 12 + 3 * n < k) → ad2 k = ad k) ∧ zW D A ad2 (yE cy ad2 ya yi (va_up pr n (some q))) H := by
  obtain ⟨σ, hσ⟩ : ∃ σ : Nat → Nat, σ = fun k => if 10 + 3 * n ≤ k ∧ k ≤ 12 + 3 * n then k + 30 - 3 * n else k := ⟨_, rfl⟩
  have s1 : ∀ k, 10 + 3 * n ≤ k → k ≤ 12 + 3 * n → σ k = k + 30 - 3 * n := fun k h1 h2 => by rw [hσ]; exact if_pos ⟨h1, h2⟩
  have s2 : ∀ k, (k < 10 + 3 * n ∨ 12 + 3 * n < k) → σ k = k := fun k h1 => by rw [hσ]; exact if_neg (by omega)
  have hq10 : va_up pr n (some q) 10 = none := by rw [up_ne _ _ (by omega)]; exact hpr
  obtain ⟨ad2, had⟩ : ∃ z : Nat → Nat, ∀ k, z k = ad (σ k) := ⟨fun k => ad (σ k), fun _ => rfl⟩
  have t1 : ∀ k, 10 + 3 * n ≤ k → k ≤ 12 + 3 * n → ad2 k = ad (k + 30 - 3 * n) := fun k h1 h2 => by rw [had, s1 k h1 h2]
  have t2 : ∀ k, (k < 10 + 3 * n ∨ 12 + 3 * n < k) → ad2 k = ad k := fun k h1 => by rw [had, s2 k h1]
  refine ⟨ad2, fun k _ hk => t2 k hk, h.re σ (fun k v hk => ?_) (fun i j v w hi hj hij => ?_)⟩
  · have hl := yE_lt hq10 hk
    refine ⟨by omega, ?_, had k⟩
    by_cases hr : 10 + 3 * n ≤ k ∧ k ≤ 12 + 3 * n
    · rw [s1 k hr.1 hr.2, up_ne _ _ (by omega), yE_hi (by omega) (by omega), show (k + 30 - 3 * n - 10) / 3 = 10 by omega, up_same, Option.map_some]
      rw [yE_hi (by omega) (by omega), show (k - 10) / 3 = n by omega, up_same, Option.map_some] at hk
      have e1 : (k + 30 - 3 * n) % 3 = k % 3 := by omega
      have e2 : yP ad2 n q = yP ad 10 q := by
        unfold yP
        rw [t1 (11 + 3 * n) (by omega) (by omega), t1 (12 + 3 * n) (by omega) (by omega), show 11 + 3 * n + 30 - 3 * n = 11 + 3 * 10 by omega, show 12 + 3 * n + 30 - 3 * n = 12 + 3 * 10 by omega]
      rw [e1, ← e2]
      exact hk
    · rw [s2 k (by omega)]
      by_cases h5 : k = 5
      · subst h5
        rw [up_same]
        rw [yE_5] at hk
        rw [← hk]
        have e9 : va_up (yR ad (va_up pr 10 (some q))) n (some (ad 40)) = yR ad2 (va_up pr n (some q)) := funext fun i => by
          unfold yR
          by_cases hi : i = n
          · subst hi
            rw [up_same, if_pos hn, up_same, Option.map_some, t1 (10 + 3 * i) (by omega) (by omega), show 10 + 3 * i + 30 - 3 * i = 40 by omega]
          · rw [up_ne _ _ hi]
            by_cases hi2 : i < 10
            · rw [if_pos hi2, if_pos hi2, up_ne _ _ hi, up_ne _ _ (show i ≠ 10 by omega), t2 (10 + 3 * i) (by omega)]
            · rw [if_neg hi2, if_neg hi2]
        rw [e9]
      · rw [up_ne _ _ h5]
        by_cases h10 : 10 ≤ k
        · rw [yE_hi h10 (by omega)] at hk ⊢
          rw [up_ne _ _ (show (k - 10) / 3 ≠ n by omega)] at hk
          rw [up_ne _ _ (show (k - 10) / 3 ≠ 10 by omega)]
          have e2 : ∀ p : PS, yP ad2 ((k - 10) / 3) p = yP ad ((k - 10) / 3) p := fun p => by
            unfold yP
            rw [t2 (11 + 3 * ((k - 10) / 3)) (by omega), t2 (12 + 3 * ((k - 10) / 3)) (by omega)]
          simp only [e2] at hk
          exact hk
        · have e0 : yO ad2 yi = yO ad yi := by
            unfold yO
            rw [t2 1 (by omega), t2 2 (by omega), t2 3 (by omega), t2 4 (by omega), t2 5 (by omega)]
          unfold yE at hk ⊢
          rw [e0] at hk
          have : k < 10 := by omega
          simp [h5, this] at hk ⊢
          exact hk
  · have l1 := yE_lt hq10 hi
    have l2 := yE_lt hq10 hj
    by_cases r1 : 10 + 3 * n ≤ i ∧ i ≤ 12 + 3 * n
    · by_cases r2 : 10 + 3 * n ≤ j ∧ j ≤ 12 + 3 * n
      · rw [s1 i r1.1 r1.2, s1 j r2.1 r2.2] at hij; omega
      · rw [s1 i r1.1 r1.2, s2 j (by omega)] at hij; omega
    · by_cases r2 : 10 + 3 * n ≤ j ∧ j ≤ 12 + 3 * n
      · rw [s2 i (by omega), s1 j r2.1 r2.2] at hij; omega
      · rw [s2 i (by omega), s2 j (by omega)] at hij; omega
set_option maxHeartbeats 4000000 in
set_option maxRecDepth 100000 in
theorem c_X1_plan_ok (l : Launch) (D : va_G) (cy : Nat → ClassId) (A : Nat → Prop) (ad : Nat → Nat) (ya : Nat → Nat → Int) (yi : Nat → Int) (pr : Nat → Option PS) (H0 : Heap) (T : Nat → Int) (a b d f : Int) (hw : zW D A ad (yE cy ad ya yi pr) H0) (h1 : plOK a b d f) (hpr : pr 10 = none) (hfree : ∃ i, i < 10 ∧ pr i = none) (hAf : ∀ q, H0.size ≤ q → A q) (hg : yB yi) (hG : gnd T ya) (ht : tOK T) : Met l yX1_plan wsX1_plan ({ frames := 4, cells := 3, slots := 21, locals := 90 }) (zPc D cy A [.ref (ad 0), .int (iI (a)), .int (iI (b)), .int (iI (d)), .int (iI (f))] H0) (zQi (fun z H1 => ∃ (ad2 : Nat → Nat) (n : Nat) (q : PS), z = n ∧ n < 10 ∧ (∀ j, j < n → pr j ≠ none) ∧ pr n = none ∧ (∀ k, k < 40 → (k < 10 + 3 * n ∨ 12 + 3 * n < k) → ad2 k = ad k) ∧ zW D A ad2 (yE cy ad2 ya yi (va_up pr n (some q))) H1 ∧ schR T yi (nP a b d f) q ∧ q.2.2.2 = 0) A) 3 21 A := by
  refine Met.ofW (cc := cX1_plan) (maxL := 7) (ret := (some .int)) (by decide) rfl ?_
  intro pg en s mt args below meth c s₁ B hml hv
  obtain ⟨rfl, hH, hE⟩ := hv
  subst hH
  have hx := B.exec
  have hb := B.bytes
  have hr := B.returns
  have hts := atoms_spec (ws := wsX1_plan) B.pre
  have hown : s.vm.findClass RX1 = some mt.cls := findClass_of_methodNamed B.named
  have hlocks := B.notSynchronized
  have hinX0 : ∀ w ∈ u_ws RX0 TX0 13, w ∈ wsX1_plan := by decide +kernel
  have hinX1 : ∀ w ∈ u_ws RX1 TX1 9, w ∈ wsX1_plan := by decide +kernel
  have hS : va_S A s.heap s.heap [] := va_S.rf
  have hl := lv_entry ([.ref (ad 0), .int (iI (a)), .int (iI (b)), .int (iI (d)), .int (iI (f))]) (n := 7) (Nat.le_of_ble_eq_true rfl)
  rw [lg_entry_eq]
  generalize (lg_sl ([.ref (ad 0), .int (iI (a)), .int (iI (b)), .int (iI (d)), .int (iI (f))]) ++ List.replicate (7 - (lg_sl ([.ref (ad 0), .int (iI (a)), .int (iI (b)), .int (iI (d)), .int (iI (f))])).length) Slot.unset).toArray = ls at hl ⊢
  have hl : lv_has ls 7 [(0, .ref (ad 0)), (1, .int (iI (a))), (2, .int (iI (b))), (3, .int (iI (d))), (4, .int (iI (f)))] := hl
  obtain ⟨g1, g2, g3, g4⟩ := id hg
  have hp9 : (0 ≤ a ∧ a ≤ 900) ∧ (1 ≤ b ∧ b ≤ 200) ∧ (1 ≤ d ∧ d ≤ 30) ∧ (1 ≤ f ∧ f ≤ 100) := h1
  have hpbN : pB (nP a b d f) := ⟨hp9.1, hp9.2.1, hp9.2.2.1, hp9.2.2.2, ⟨Int.le_refl 0, by show (0 : Int) ≤ 4; decide⟩, fun k hk => absurd (show (k : Int) < 0 from hk) (by omega)⟩
  refine lv_iload_n hx hb dX1_plan_0 rfl (lv_at hl 1 rfl) ?_
  refine lv_iload_n hx hb dX1_plan_1 rfl (lv_at hl 2 rfl) ?_
  refine lv_iload_n hx hb dX1_plan_2 rfl (lv_at hl 3 rfl) ?_
  refine lv_iload hx hb dX1_plan_3 (lv_at hl 4 rfl) ?_
  refine zcallv (va_runS (As := [.int (iI (a)), .int (iI (b)), .int (iI (d)), .int (iI (f))]) (rest := []) ⟨hx, hb, hml, hown, hts⟩ (c_X1_requirePour_ok l D cy A ad _ (a) (b) (d) (f) h1) (va_cwS 4 hts gX1_plan_X1_requirePour rfl rfl rfl (by decide +kernel) ⟨(Nat.le_of_ble_eq_true rfl), (Nat.le_of_ble_eq_true rfl)⟩) (zPS hE hS) rfl rfl hl.1 rfl (lv_room (Nat.le_of_ble_eq_true rfl)) dX1_plan_5 ⟨(Nat.le_of_ble_eq_true rfl), (Nat.le_of_ble_eq_true rfl)⟩) hS (fun H1 locs hq hz1 hk1 hS => ?_)
  replace hq := hq.symm
  subst hq
  refine lv_aload_n hx hb dX1_plan_8 rfl (lv_at hl 0 rfl) ?_
  refine zcalli (va_runV (As := []) (rest := []) ⟨hx, hb, hml, hown, hts⟩ (c_X1_freeNumber l D cy A ad ya yi pr _ hw ) (cwV 0 hts gX1_plan_X1_freeNumber rfl rfl rfl (by decide +kernel) ⟨(Nat.le_of_ble_eq_true rfl), (Nat.le_of_ble_eq_true rfl)⟩) (zPV hE hS hw (ci := 1) (k0 := 0) rfl yE_0) rfl rfl hl.1 rfl (lv_room (Nat.le_of_ble_eq_true rfl)) dX1_plan_9 ⟨(Nat.le_of_ble_eq_true rfl), (Nat.le_of_ble_eq_true rfl)⟩) hS (fun z_9 H1 locs hz_9 hq hz1 hk1 hS => ?_)
  obtain ⟨hqe, nf, hv_9, hn1, hn2, hn3⟩ := hq
  replace hqe := hqe.symm
  subst hqe
  have hnf : nf < 10 := by obtain ⟨i9, hi9, hn9⟩ := hfree; rcases Nat.lt_or_ge nf 10 with h | h; exact h; exact absurd hn9 (hn2 i9 (by omega))
  rw [if_pos hnf] at hv_9
  have hz9 : z_9 = (nf : Int) := hv_9
  refine lv_istore (lv' := [(5, .int (iI (z_9))), (0, .ref (ad 0)), (1, .int (iI (a))), (2, .int (iI (b))), (3, .int (iI (d))), (4, .int (iI (f)))]) hx hb dX1_plan_12 hl (by decide) rfl (fun ls hl => ?_)
  refine lv_iload hx hb dX1_plan_14 (lv_at hl 0 rfl) ?_
  refine zcalli (va_runS (As := [.int (iI (z_9))]) (rest := []) ⟨hx, hb, hml, hown, hts⟩ (c_X1_isNumber l D cy A ad _ (z_9) (by first | decide | (constructor <;> omega))) (va_cwS 1 hts gX1_plan_X1_isNumber rfl rfl rfl (by decide +kernel) ⟨(Nat.le_of_ble_eq_true rfl), (Nat.le_of_ble_eq_true rfl)⟩) (zPS hE hS) rfl rfl hl.1 rfl (lv_room (Nat.le_of_ble_eq_true rfl)) dX1_plan_16 ⟨(Nat.le_of_ble_eq_true rfl), (Nat.le_of_ble_eq_true rfl)⟩) hS (fun z_16 H1 locs hz_16 hq hz1 hk1 hS => ?_)
  obtain ⟨hqe, hv_16⟩ := hq
  replace hqe := hqe.symm
  subst hqe
  refine zf_ne (tgt := 30) hx hb dX1_plan_19 (by decide) (by first | decide | (constructor <;> omega)) (fun c_19 => ?_) (fun c_19 => ?_)
  · refine znew (own := RX1) (C := RX0) (T := TX0) (N := 13) (ci := 0) (fs := [.int 0, .int 0, .int 0, .int 0, .int 0, .null, .null, .int 0, .int 0, .int 0, .int 0, .long 0, .int 0]) hx hb hts hinX0 tyX0 tyX0_ok hown (hts (.classLink RX1 22 RX0) (by decide +kernel)) (hts (.instantiable RX0 13) (by decide +kernel)) (hts (.initialized RX0) (by decide +kernel)) hE hS hAf hw 40 (by decide) (yE_n40 hpr) rfl (fun j hj => (by rcases (show j = 0 ∨ j = 1 ∨ j = 2 ∨ j = 3 ∨ j = 4 ∨ j = 5 ∨ j = 6 ∨ j = 7 ∨ j = 8 ∨ j = 9 ∨ j = 10 ∨ j = 11 ∨ j = 12 by omega) with rfl | rfl | rfl | rfl | rfl | rfl | rfl | rfl | rfl | rfl | rfl | rfl | rfl <;> rfl)) (by decide +kernel) (by decide +kernel) dX1_plan_30 (fun q_30 H hw hS => ?_)
    obtain ⟨ao, hao⟩ : ∃ z, z = ad := ⟨_, rfl⟩
    subst hao
    obtain ⟨ad, had⟩ : ∃ z : Nat → Nat, z = va_up ao 40 q_30 := ⟨_, rfl⟩
    rw [← had] at hw
    have ha1 : ∀ k, k < 40 → ad k = ao k := fun k hk => by rw [had]; exact up_ne _ _ (by omega)
    have e40 : q_30 = ad 40 := by rw [had, up_same]
    have hw : zW D A ad (va_up (yE cy ad ya yi pr) 40 (some (.inr (0, [.int 0, .int 0, .int 0, .int 0, .int 0, .null, .null, .int 0, .int 0, .int 0, .int 0, .long 0, .int 0])))) H := hw.cong (by
      intro k
      by_cases h40 : k = 40
      · subst h40; rw [up_same, up_same]
      rw [up_ne _ _ h40, up_ne _ _ h40]
      by_cases h41 : k = 41
      · subst h41; rw [yE_n41 hpr, yE_n41 hpr]
      by_cases h42 : k = 42
      · subst h42; rw [yE_n42 hpr, yE_n42 hpr]
      exact yE_lo ha1 (fun _ _ => rfl) (by omega))
    have hl : lv_has ls 7 [(5, .int (iI (z_9))), (0, .ref (ad 0)), (1, .int (iI (a))), (2, .int (iI (b))), (3, .int (iI (d))), (4, .int (iI (f)))] := by rw [ha1 0 (by decide)]; exact hl
    rw [e40]
    refine lv_dup hx hb dX1_plan_33 rfl ?_
    refine lv_iload_n hx hb dX1_plan_34 rfl (lv_at hl 2 rfl) ?_
    refine lv_iload_n hx hb dX1_plan_35 rfl (lv_at hl 3 rfl) ?_
    refine lv_iload_n hx hb dX1_plan_36 rfl (lv_at hl 4 rfl) ?_
    refine lv_iload hx hb dX1_plan_37 (lv_at hl 5 rfl) ?_
    refine zcallv (va_runIN (As := [.int (iI a), .int (iI b), .int (iI d), .int (iI f)]) (rest := [.ref (ad 40)]) ⟨hx, hb, hml, hown, hts⟩ (c_X0_init l D cy A ad _ ya yi pr a b d f (by first | decide | (constructor <;> omega)) (by first | decide | (constructor <;> omega)) (by first | decide | (constructor <;> omega)) (by first | decide | (constructor <;> omega)) hpr (fun q hq => hAf q (Nat.le_trans hS.1 hq)) hw) ⟨va_cnB 4 hts gX1_plan_X0_init_n94 rfl rfl rfl (hE.2.1 (.methodLinkNest RX1 94 yX0_init RX1) (by decide +kernel)) (hts (.initialized RX0) (by decide +kernel)) (by decide +kernel) ⟨(Nat.le_of_ble_eq_true rfl), (Nat.le_of_ble_eq_true rfl)⟩, rfl, hts (.instanceMethod yX0_init) (by decide +kernel)⟩ (zPS hE hS) rfl rfl hl.1 rfl (lv_room (Nat.le_of_ble_eq_true rfl)) dX1_plan_39 ⟨(Nat.le_of_ble_eq_true rfl), (Nat.le_of_ble_eq_true rfl)⟩) hS (fun H1 locs hq hz1 hk1 hS => ?_)
    obtain ⟨ad2, ha2, hw⟩ := hq
    obtain ⟨a1, ha1e⟩ : ∃ z, z = ad := ⟨_, rfl⟩
    subst ha1e
    obtain ⟨ad, had2⟩ : ∃ z, z = ad2 := ⟨_, rfl⟩
    subst had2
    have hl : lv_has ls 7 [(5, .int (iI (z_9))), (0, .ref (ad 0)), (1, .int (iI (a))), (2, .int (iI (b))), (3, .int (iI (d))), (4, .int (iI (f)))] := by rw [ha2 0 (by decide) (by decide)]; exact hl
    rw [show a1 40 = ad 40 from (ha2 40 (by decide) (by decide)).symm]
    refine lv_astore (lv' := [(6, .ref (ad 40)), (5, .int (iI (z_9))), (0, .ref (ad 0)), (1, .int (iI (a))), (2, .int (iI (b))), (3, .int (iI (d))), (4, .int (iI (f)))]) hx hb dX1_plan_42 hl (by decide) rfl (fun ls hl => ?_)
    refine lv_aload_n hx hb dX1_plan_44 rfl (lv_at hl 2 rfl) ?_
    refine lv_aload hx hb dX1_plan_45 (lv_at hl 0 rfl) ?_
    refine zcallv (va_runV (As := [.ref (ad 40)]) (rest := []) ⟨hx, hb, hml, hown, hts⟩ (c_X1_schedule l D cy A ad ya yi (va_up pr 10 (some (nP a b d f))) _ T 10 (nP a b d f) hw (by omega) (up_same _ _ _) hpbN hg hG ht) (cwV 1 hts gX1_plan_X1_schedule rfl rfl rfl (by decide +kernel) ⟨(Nat.le_of_ble_eq_true rfl), (Nat.le_of_ble_eq_true rfl)⟩) (zPV hE hS hw (ci := 1) (k0 := 0) rfl yE_0) rfl rfl hl.1 rfl (lv_room (Nat.le_of_ble_eq_true rfl)) dX1_plan_47 ⟨(Nat.le_of_ble_eq_true rfl), (Nat.le_of_ble_eq_true rfl)⟩) hS (fun H1 locs hq hz1 hk1 hS => ?_)
    obtain ⟨q_s47, hw, hsch, hgv⟩ := hq
    refine lv_aload_n hx hb dX1_plan_50 rfl (lv_at hl 2 rfl) ?_
    refine zget (C := RX1) (T := TX1) (N := 9) hx hb hts hinX1 hown hE hw 0 yE_0 rfl 4 (by decide) (hts (.fieldLink RX1 24 "FormworkYard" "pourList" "[LFormworkYard$Pour;") (by decide +kernel)) rfl dX1_plan_51 ?_
    refine lv_iload hx hb dX1_plan_54 (lv_at hl 1 rfl) ?_
    refine lv_aload hx hb dX1_plan_56 (lv_at hl 0 rfl) ?_
    rw [up_up] at hw
    refine zaast hx hb hE hS hw 5 yE_5 40 (yE_p (i := 10) (by decide) (up_same _ _ _)) nf hz9 (by omega) (by omega) dX1_plan_58 (fun H locs hw hS => ?_)
    refine lv_iload hx hb dX1_plan_59 (lv_at hl 1 rfl) ?_
    refine ziret hx hb hr hlocks hS (Nat.le_of_ble_eq_true rfl) (Nat.le_of_ble_eq_true rfl) (by first | decide | (constructor <;> omega)) ?_ dX1_plan_61
    obtain ⟨ad3, ha3, hw3⟩ := yU_new hnf (hn3 hnf) hpr hw
    exact ⟨ad3, nf, q_s47, hz9, hnf, hn2, hn3 hnf, fun k hk hk2 => (ha3 k hk hk2).trans ((ha2 k (by omega) (by omega)).trans (ha1 k hk)), hw3, hsch, hgv⟩
  · exfalso; omega

