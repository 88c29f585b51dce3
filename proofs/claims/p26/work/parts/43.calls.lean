/-! ===== a change keeps the rest ===== -/
theorem zW.drop {D : va_G} {A : Nat → Prop} {cy : Nat → ClassId} {ad : Nat → Nat} {ya : Nat → Nat → Int} {yi : Nat → Int} {pr : Nat → Option PS} {H : Heap} (h : zW D A ad (yE cy ad ya yi pr) H) : zW D A ad (yE cy ad ya yi (va_up pr 10 none)) H := by
  refine h.sub (fun k v hk => ?_)
  have hl := yE_lt (up_same _ _ _) hk
  rw [yE_lo (ad2 := ad) (pr := pr) (fun _ _ => rfl) (fun i hi => up_ne _ _ (by omega)) (Or.inl hl)] at hk
  exact hk
section CHG
variable {T T2 : Nat → Int} {yi yi2 : Nat → Int} {pr pr2 pq : Nat → Option PS}
theorem gvR_d (h : gvR pr pr2) : gvR pr (va_up pr2 10 none) := fun i hi => by
  rw [up_ne _ _ (show i ≠ 10 by omega)]
  exact h i hi
theorem gv_keep (h : gvR pr pr2) {i : Nat} (hi : i < 10) : keep1 (pr i) (pr2 i) := by
  rcases h i hi with c | ⟨p, q, a, b, k, -⟩
  · exact Or.inl c
  · exact Or.inr ⟨p, q, a, b, k 1 (by decide), k 2 (by decide), k 3 (by decide)⟩
theorem ys_5 (h : YS T yi pr) {v : Int} (hv : 0 ≤ v ∧ v ≤ 60) : YS T (va_up yi 5 v) pr := by
  obtain ⟨h1, h2, h3⟩ := h
  refine ⟨h1, ?_, fun i p hi hp => ⟨(h3 i p hi hp).1, sc_5 (h3 i p hi hp).2⟩⟩
  unfold yB at h2 ⊢
  rw [up_same, up_ne _ _ (by decide), up_ne _ _ (by decide), up_ne _ _ (by decide)]
  exact ⟨hv, h2.2⟩
theorem ys_put (h : YS T yi pr) {n : Nat} {q : PS} (hb : pB q) (hs : sc T yi q) : YS T yi (va_up pr n (some q)) := ⟨h.1, h.2.1, fun j p hj hp => by
  by_cases c : j = n
  · rw [c, up_same] at hp
    cases hp
    exact ⟨hb, hs⟩
  · rw [up_ne _ _ c] at hp
    exact h.2.2 j p hj hp⟩
theorem sch_YS (h : YS T yi pr) (hg : gvR pr pr2) (ht : tOK T2) (hy : yB yi2) (hs : schA T2 yi2 pr2 pq 10) : YS T2 yi2 (va_up pq 10 none) := ⟨ht, hy, fun j q hj hq => by
  rw [up_ne _ _ (show j ≠ 10 by omega)] at hq
  cases hp : pr2 j with
  | none => rw [(hs j hj).1 hp] at hq; cases hq
  | some p =>
    obtain ⟨q2, hq2, hd⟩ := (hs j hj).2 p hp
    rw [hq] at hq2
    cases hq2
    rcases hd with ⟨-, hr⟩ | ⟨hc, -⟩
    · exact ⟨pB_R hr ((h.gv hg).pBs j p hj hp), sc_R hr⟩
    · omega⟩
theorem sch_keep (hg : gvR pr pr2) (hs : schA T2 yi2 pr2 pq 10) : ∀ j, j < 10 → keep1 (pr j) (va_up pq 10 none j) := fun j hj => by
  rw [up_ne _ _ (show j ≠ 10 by omega)]
  rcases hg j hj with ⟨a, b⟩ | ⟨p, p2, a, b, k, -⟩
  · exact Or.inl ⟨a, (hs j hj).1 b⟩
  · obtain ⟨q2, hq2, hd⟩ := (hs j hj).2 p2 b
    rcases hd with ⟨-, hr⟩ | ⟨hc, -⟩
    · obtain ⟨⟨-, h1, h2, h3, -⟩, -⟩ := hr
      exact Or.inr ⟨p, q2, a, hq2, h1.trans (k 1 (by decide)), h2.trans (k 2 (by decide)), h3.trans (k 3 (by decide))⟩
    · omega
end CHG
/-! ===== the calls of the yard in the law's world ===== -/
theorem c_Q_endOf (l : Launch) (D : va_G) (cy : Nat → ClassId) (A : Nat → Prop) (ad : Nat → Nat) (T : Nat → Int) (yi : Nat → Int) (pr : Nat → Option PS) (la : Nat → Nat → Int) (H0 : Heap) (i : Nat) (p0 : PS) (hw : LW D cy A ad T yi pr la H0) (hys : YS T yi pr) (hi : i < 10) (hp0 : pr i = some p0) : Met l yX1_endOf wsX1_endOf ({ frames := 2, cells := 0, slots := 0, locals := 42 }) (zPc D cy A [.ref (ad 0), .int (iI ((i : Int)))] H0) (zQi (fun z H1 => LW D cy A ad T yi pr la H1 ∧ z = p0.1 7) A) 0 0 A := by
  obtain ⟨ya, pr2, hz, hT, hG, hg, h10⟩ := id hw
  obtain ⟨p2, hp2, k1, k2, k3⟩ := gvR_q hg hi hp0
  obtain ⟨f7, f8, f9, f9b, f10, -⟩ := ys_p hys hi hp0
  refine (c_X1_endOf_ok l D cy (lB A ad) ad ya yi pr2 H0 i p2 (hz.lpart h10) hi hp2 (by rw [k1 7 (by decide)]; constructor <;> omega)).wideI (fun q h => h.1) (fun z H1 hq hs1 hk1 => ?_)
  obtain ⟨rfl, rfl⟩ := hq
  exact ⟨hw, k1 7 (by decide)⟩
theorem c_Q_struck (l : Launch) (D : va_G) (cy : Nat → ClassId) (A : Nat → Prop) (ad : Nat → Nat) (T : Nat → Int) (yi : Nat → Int) (pr : Nat → Option PS) (la : Nat → Nat → Int) (H0 : Heap) (i : Nat) (p0 : PS) (hw : LW D cy A ad T yi pr la H0) (hys : YS T yi pr) (hi : i < 10) (hp0 : pr i = some p0) : Met l yX1_struck wsX1_struck ({ frames := 2, cells := 0, slots := 0, locals := 42 }) (zPc D cy A [.ref (ad 0), .int (iI ((i : Int)))] H0) (zQi (fun z H1 => LW D cy A ad T yi pr la H1 ∧ z = p0.1 8) A) 0 0 A := by
  obtain ⟨ya, pr2, hz, hT, hG, hg, h10⟩ := id hw
  obtain ⟨p2, hp2, k1, k2, k3⟩ := gvR_q hg hi hp0
  obtain ⟨f7, f8, f9, f9b, f10, -⟩ := ys_p hys hi hp0
  refine (c_X1_struck_ok l D cy (lB A ad) ad ya yi pr2 H0 i p2 (hz.lpart h10) hi hp2 (by rw [k1 8 (by decide)]; constructor <;> omega)).wideI (fun q h => h.1) (fun z H1 hq hs1 hk1 => ?_)
  obtain ⟨rfl, rfl⟩ := hq
  exact ⟨hw, k1 8 (by decide)⟩
theorem c_Q_freeFrom (l : Launch) (D : va_G) (cy : Nat → ClassId) (A : Nat → Prop) (ad : Nat → Nat) (T : Nat → Int) (yi : Nat → Int) (pr : Nat → Option PS) (la : Nat → Nat → Int) (H0 : Heap) (i : Nat) (p0 : PS) (hw : LW D cy A ad T yi pr la H0) (hys : YS T yi pr) (hi : i < 10) (hp0 : pr i = some p0) : Met l yX1_freeFrom wsX1_freeFrom ({ frames := 2, cells := 0, slots := 0, locals := 42 }) (zPc D cy A [.ref (ad 0), .int (iI ((i : Int)))] H0) (zQi (fun z H1 => LW D cy A ad T yi pr la H1 ∧ z = (if p0.1 10 < 1000 then p0.1 10 else -1)) A) 0 0 A := by
  obtain ⟨ya, pr2, hz, hT, hG, hg, h10⟩ := id hw
  obtain ⟨p2, hp2, k1, k2, k3⟩ := gvR_q hg hi hp0
  obtain ⟨f7, f8, f9, f9b, f10, -⟩ := ys_p hys hi hp0
  refine (c_X1_freeFrom_ok l D cy (lB A ad) ad ya yi pr2 H0 i p2 (hz.lpart h10) hi hp2 (by rw [k1 10 (by decide)]; exact f10)).wideI (fun q h => h.1) (fun z H1 hq hs1 hk1 => ?_)
  obtain ⟨rfl, rfl⟩ := hq
  exact ⟨hw, by rw [k1 10 (by decide)]⟩
theorem c_Q_maturity (l : Launch) (D : va_G) (cy : Nat → ClassId) (A : Nat → Prop) (ad : Nat → Nat) (T : Nat → Int) (yi : Nat → Int) (pr : Nat → Option PS) (la : Nat → Nat → Int) (H0 : Heap) (a b : Int) (hw : LW D cy A ad T yi pr la H0) (hys : YS T yi pr) (h1 : 0 ≤ a ∧ a < 1000) (h2 : 0 ≤ b ∧ b < 1000) : Met l yX1_maturity wsX1_maturity ({ frames := 2, cells := 0, slots := 0, locals := 44 }) (zPc D cy A [.ref (ad 0), .int (iI (a)), .int (iI (b))] H0) (zQi (fun z H1 => LW D cy A ad T yi pr la H1 ∧ z = mat T a b) A) 0 0 A := by
  obtain ⟨ya, pr2, hz, hT, hG, hg, h10⟩ := id hw
  refine (c_X1_maturity_ok l D cy (lB A ad) ad ya yi pr2 H0 T a b (hz.lpart h10) h1 h2 hG hys.1).wideI (fun q h => h.1) (fun z H1 hq hs1 hk1 => ?_)
  obtain ⟨rfl, rfl⟩ := hq
  exact ⟨hw, rfl⟩
theorem c_Q_strength (l : Launch) (D : va_G) (cy : Nat → ClassId) (A : Nat → Prop) (ad : Nat → Nat) (T : Nat → Int) (yi : Nat → Int) (pr : Nat → Option PS) (la : Nat → Nat → Int) (H0 : Heap) (v : Int) (hw : LW D cy A ad T yi pr la H0) (hys : YS T yi pr) (h1 : 0 ≤ v ∧ v ≤ 1000000) : Met l yX1_strength wsX1_strength ({ frames := 2, cells := 0, slots := 0, locals := 42 }) (zPc D cy A [.ref (ad 0), .int (iI (v))] H0) (zQi (fun z H1 => LW D cy A ad T yi pr la H1 ∧ z = strg v) A) 0 0 A := by
  obtain ⟨ya, pr2, hz, hT, hG, hg, h10⟩ := id hw
  refine (c_X1_strength_ok l D cy (lB A ad) ad ya yi pr2 H0 v (hz.lpart h10) h1).wideI (fun q h => h.1) (fun z H1 hq hs1 hk1 => ?_)
  obtain ⟨rfl, rfl⟩ := hq
  exact ⟨hw, rfl⟩
theorem c_Q_need (l : Launch) (D : va_G) (cy : Nat → ClassId) (A : Nat → Prop) (ad : Nat → Nat) (T : Nat → Int) (yi : Nat → Int) (pr : Nat → Option PS) (la : Nat → Nat → Int) (H0 : Heap) (h : Int) (hw : LW D cy A ad T yi pr la H0) (hys : YS T yi pr) (h1 : 0 ≤ h ∧ h < 1000) : Met l yX1_need wsX1_need ({ frames := 2, cells := 0, slots := 0, locals := 47 }) (zPc D cy A [.ref (ad 0), .int (iI (h))] H0) (zQi (fun z H1 => LW D cy A ad T yi pr la H1 ∧ z = nY pr h 10) A) 0 0 A := by
  obtain ⟨ya, pr2, hz, hT, hG, hg, h10⟩ := id hw
  refine (c_X1_need_ok l D cy (lB A ad) ad ya yi pr2 H0 h (hz.lpart h10) h1 (hys.gv hg).pA).wideI (fun q h => h.1) (fun z H1 hq hs1 hk1 => ?_)
  obtain ⟨rfl, rfl⟩ := hq
  exact ⟨hw, nY_gv hg 10 (Nat.le_refl _)⟩
theorem c_Q_pours (l : Launch) (D : va_G) (cy : Nat → ClassId) (A : Nat → Prop) (ad : Nat → Nat) (T : Nat → Int) (yi : Nat → Int) (pr : Nat → Option PS) (la : Nat → Nat → Int) (H0 : Heap) (hw : LW D cy A ad T yi pr la H0) (hys : YS T yi pr) : Met l yX1_pours wsX1_pours ({ frames := 0, cells := 0, slots := 0, locals := 0 }) (zPc D cy A [.ref (ad 0)] H0) (zQi (fun z H1 => LW D cy A ad T yi pr la H1 ∧ z = cntY pr 10) A) 0 0 A := by
  obtain ⟨ya, pr2, hz, hT, hG, hg, h10⟩ := id hw
  refine (c_X1_pours_ok l D cy (lB A ad) ad ya yi pr2 H0 (hz.lpart h10)).wideI (fun q h => h.1) (fun z H1 hq hs1 hk1 => ?_)
  obtain ⟨rfl, rfl⟩ := hq
  exact ⟨hw, cntY_gv hg 10 (Nat.le_refl _)⟩
theorem c_Q_peakByOverlaps (l : Launch) (D : va_G) (cy : Nat → ClassId) (A : Nat → Prop) (ad : Nat → Nat) (T : Nat → Int) (yi : Nat → Int) (pr : Nat → Option PS) (la : Nat → Nat → Int) (H0 : Heap) (hw : LW D cy A ad T yi pr la H0) (hys : YS T yi pr) : Met l yX1_peakByOverlaps wsX1_peakByOverlaps ({ frames := 2, cells := 0, slots := 0, locals := 47 }) (zPc D cy A [.ref (ad 0)] H0) (zQi (fun z H1 => LW D cy A ad T yi pr la H1 ∧ z = mx (fun j : Nat => nY pr j 10) 1000) A) 0 0 A := by
  obtain ⟨ya, pr2, hz, hT, hG, hg, h10⟩ := id hw
  refine (c_X1_peakByOverlaps_ok l D cy (lB A ad) ad ya yi pr2 H0 (hz.lpart h10) (hys.gv hg).pA).wideI (fun q h => h.1) (fun z H1 hq hs1 hk1 => ?_)
  obtain ⟨rfl, rfl⟩ := hq
  exact ⟨hw, by rw [ovY_gv hg 10 (Nat.le_refl _), hys.ov]⟩
theorem c_Q_peak (l : Launch) (D : va_G) (cy : Nat → ClassId) (A : Nat → Prop) (ad : Nat → Nat) (T : Nat → Int) (yi : Nat → Int) (pr : Nat → Option PS) (la : Nat → Nat → Int) (H0 : Heap) (hw : LW D cy A ad T yi pr la H0) (hys : YS T yi pr) : Met l yX1_peak wsX1_peak ({ frames := 3, cells := 0, slots := 0, locals := 68 }) (zPc D cy A [.ref (ad 0)] H0) (zQi (fun z H1 => LW D cy A ad T yi pr la H1 ∧ z = mx (fun j : Nat => nY pr j 10) 1000) A) 0 0 A := by
  obtain ⟨ya, pr2, hz, hT, hG, hg, h10⟩ := id hw
  refine (c_X1_peak_ok l D cy (lB A ad) ad ya yi pr2 H0 (hz.lpart h10) (hys.gv hg).pA).wideI (fun q h => h.1) (fun z H1 hq hs1 hk1 => ?_)
  obtain ⟨yb, hw1, hr, rfl⟩ := hq
  have e0 : yb 0 = ya 0 := hr 0 (by decide)
  have e1 : yb 1 = ya 1 := hr 1 (by decide)
  have hl : LW D cy A ad T yi pr la H1 := ⟨yb, pr2, hz.ljoin hw1 hk1 (fun _ _ => rfl), by rw [e0]; exact hT, fun n hn => by rw [e1]; exact hG n hn, hg, h10⟩
  exact ⟨hl, by rw [show (fun j : Nat => nY pr2 j 10) = fun j : Nat => nY pr j 10 from funext fun j => nY_gv hg 10 (Nat.le_refl _)]⟩
theorem c_Q_firstShort (l : Launch) (D : va_G) (cy : Nat → ClassId) (A : Nat → Prop) (ad : Nat → Nat) (T : Nat → Int) (yi : Nat → Int) (pr : Nat → Option PS) (la : Nat → Nat → Int) (H0 : Heap) (hw : LW D cy A ad T yi pr la H0) (hys : YS T yi pr) : Met l yX1_firstShort wsX1_firstShort ({ frames := 3, cells := 0, slots := 0, locals := 68 }) (zPc D cy A [.ref (ad 0)] H0) (zQi (fun z H1 => LW D cy A ad T yi pr la H1 ∧ z = fsY pr (yi 5)) A) 0 0 A := by
  obtain ⟨ya, pr2, hz, hT, hG, hg, h10⟩ := id hw
  refine (c_X1_firstShort_ok l D cy (lB A ad) ad ya yi pr2 H0 (hz.lpart h10) (hys.gv hg).pA hys.2.1).wideI (fun q h => h.1) (fun z H1 hq hs1 hk1 => ?_)
  obtain ⟨yb, hw1, hr, rfl⟩ := hq
  have e0 : yb 0 = ya 0 := hr 0 (by decide)
  have e1 : yb 1 = ya 1 := hr 1 (by decide)
  have hl : LW D cy A ad T yi pr la H1 := ⟨yb, pr2, hz.ljoin hw1 hk1 (fun _ _ => rfl), by rw [e0]; exact hT, fun n hn => by rw [e1]; exact hG n hn, hg, h10⟩
  refine ⟨hl, ?_⟩
  unfold fsY
  simp only [nY_gv hg 10 (Nat.le_refl _)]
theorem c_Q_panelsOf (l : Launch) (D : va_G) (cy : Nat → ClassId) (A : Nat → Prop) (ad : Nat → Nat) (T : Nat → Int) (yi : Nat → Int) (pr : Nat → Option PS) (la : Nat → Nat → Int) (H0 : Heap) (i : Nat) (p0 : PS) (hw : LW D cy A ad T yi pr la H0) (hys : YS T yi pr) (hi : i < 10) (hp0 : pr i = some p0) : Met l yX1_panelsOf wsX1_panelsOf ({ frames := 3, cells := 0, slots := 0, locals := 72 }) (zPc D cy A [.ref (ad 0), .int (iI ((i : Int)))] H0) (zQi (fun z H1 => LW D cy A ad T yi pr la H1 ∧ z = sl (fun j => bI (FY pr (yi 5) 10000 i j)) 60) A) 0 0 A := by
  obtain ⟨ya, pr2, hz, hT, hG, hg, h10⟩ := id hw
  obtain ⟨p2, hp2, k1, k2, k3⟩ := gvR_q hg hi hp0
  refine (c_X1_panelsOf_ok l D cy (lB A ad) ad ya yi pr2 H0 i p2 (hz.lpart h10) hi hp2 (hys.gv hg).b9 hys.2.1).wideI (fun q h => h.1) (fun z H1 hq hs1 hk1 => ?_)
  obtain ⟨pr3, hw1, hg3, rfl⟩ := hq
  have hl : LW D cy A ad T yi pr la H1 := ⟨ya, va_up pr3 10 none, hz.ljoin hw1.drop hk1 (fun _ _ => rfl), hT, hG, gvR_d (gvR_t hg hg3), up_same _ _ _⟩
  exact ⟨hl, by rw [FY_gv hg]⟩
theorem c_Q_pourOf (l : Launch) (D : va_G) (cy : Nat → ClassId) (A : Nat → Prop) (ad : Nat → Nat) (T : Nat → Int) (yi : Nat → Int) (pr : Nat → Option PS) (la : Nat → Nat → Int) (H0 : Heap) (k : Nat) (h : Int) (hw : LW D cy A ad T yi pr la H0) (hys : YS T yi pr) (hk9 : (k : Int) < yi 5) (h1 : 0 ≤ h ∧ h < 1000) : Met l yX1_pourOf wsX1_pourOf ({ frames := 3, cells := 0, slots := 0, locals := 72 }) (zPc D cy A [.ref (ad 0), .int (iI ((k : Int))), .int (iI (h))] H0) (zQi (fun z H1 => LW D cy A ad T yi pr la H1 ∧ ((z = -1 ∧ tkn (bsY pr) (FY pr (yi 5) 10000) h k 10 = false) ∨ (0 ≤ z ∧ z < 10 ∧ tkn (bsY pr) (FY pr (yi 5) 10000) h k 10 = true ∧ ∃ p, pr z.toNat = some p ∧ p.1 9 ≤ h ∧ h < p.1 10))) A) 0 0 A := by
  obtain ⟨ya, pr2, hz, hT, hG, hg, h10⟩ := id hw
  refine (c_X1_pourOf_ok l D cy (lB A ad) ad ya yi pr2 H0 k h (hz.lpart h10) hk9 h1 (hys.gv hg).b9 hys.2.1).wideI (fun q h => h.1) (fun z H1 hq hs1 hk1 => ?_)
  obtain ⟨pr3, hw1, hg3, hans⟩ := hq
  have hl : LW D cy A ad T yi pr la H1 := ⟨ya, va_up pr3 10 none, hz.ljoin hw1.drop hk1 (fun _ _ => rfl), hT, hG, gvR_d (gvR_t hg hg3), up_same _ _ _⟩
  refine ⟨hl, ?_⟩
  rw [FY_gv hg] at hans
  rcases hans with ⟨rfl, hno⟩ | ⟨h2, h3, p, hp, hf, hb⟩
  · refine Or.inl ⟨rfl, ?_⟩
    cases ht : tkn (bsY pr) (FY pr (yi 5) 10000) h k 10 with
    | false => rfl
    | true =>
      exfalso
      obtain ⟨q, hq, c1, c2⟩ := (tkn_iff 10).mp ht
      rw [← gvR_bs hg hq] at c2
      cases hp : pr2 q with
      | none => rw [bsY_0 hp] at c2; cases c2
      | some p => exact hno q hq ⟨p, hp, c1, (bsY_1 hp).mp c2⟩
  · obtain ⟨p9, hp9, k1, -⟩ := gvR_p hg (i := z.toNat) (by omega) hp
    rw [k1 9 (by decide), k1 10 (by decide)] at hb
    exact Or.inr ⟨h2, h3, (tkn_iff 10).mpr ⟨z.toNat, by omega, hf, (bsY_1 hp9).mpr hb⟩, p9, hp9, hb⟩
theorem c_Q_setPanels (l : Launch) (D : va_G) (cy : Nat → ClassId) (A : Nat → Prop) (ad : Nat → Nat) (T : Nat → Int) (yi : Nat → Int) (pr : Nat → Option PS) (la : Nat → Nat → Int) (H0 : Heap) (v : Int) (hw : LW D cy A ad T yi pr la H0) (hys : YS T yi pr) (h1 : 0 ≤ v ∧ v ≤ 60) : Met l yX1_setPanels wsX1_setPanels ({ frames := 2, cells := 0, slots := 0, locals := 42 }) (zPc D cy A [.ref (ad 0), .int (iI (v))] H0) (zQi (fun z H1 => LW D cy A ad T (va_up yi 5 v) pr la H1 ∧ YS T (va_up yi 5 v) pr ∧ z = yi 5) A) 0 0 A := by
  obtain ⟨ya, pr2, hz, hT, hG, hg, h10⟩ := id hw
  refine (c_X1_setPanels_ok l D cy (lB A ad) ad ya yi pr2 H0 v (hz.lpart h10) h1 hys.2.1).wideI (fun q h => h.1) (fun z H1 hq hs1 hk1 => ?_)
  obtain ⟨hw1, rfl⟩ := hq
  exact ⟨⟨ya, pr2, hz.ljoin hw1 hk1 (fun _ _ => rfl), hT, hG, hg, h10⟩, ys_5 hys h1, rfl⟩
theorem c_Q_setRates (l : Launch) (D : va_G) (cy : Nat → ClassId) (A : Nat → Prop) (ad : Nat → Nat) (T : Nat → Int) (yi : Nat → Int) (pr : Nat → Option PS) (la : Nat → Nat → Int) (H0 : Heap) (v u : Int) (hw : LW D cy A ad T yi pr la H0) (hys : YS T yi pr) (h1 : 1 ≤ v ∧ v ≤ 50) (h2 : 1 ≤ u ∧ u ≤ 50) : Met l yX1_setRates wsX1_setRates ({ frames := 5, cells := 0, slots := 0, locals := 114 }) (zPc D cy A [.ref (ad 0), .int (iI (v)), .int (iI (u))] H0) (zQi (fun z H1 => ∃ pq, LW D cy A ad T (va_up yi 6 (min v u)) pq la H1 ∧ YS T (va_up yi 6 (min v u)) pq ∧ (∀ j, j < 10 → keep1 (pr j) (pq j))) A) 0 0 A := by
  obtain ⟨ya, pr2, hz, hT, hG, hg, h10⟩ := id hw
  refine (c_X1_setRates_ok l D cy (lB A ad) ad ya yi pr2 H0 T v u (hz.lpart h10) h1 h2 (hys.gv hg).pBs hys.2.1 hG hys.1).wideI (fun q h => h.1) (fun z H1 hq hs1 hk1 => ?_)
  obtain ⟨pq, hw1, hsch, -⟩ := hq
  have hg6 : yB (va_up yi 6 (min v u)) := by have := hys.2.1; unfold yB at this ⊢; simp only [va_up]; simp; omega
  exact ⟨_, ⟨ya, va_up pq 10 none, hz.ljoin hw1.drop hk1 (fun _ _ => rfl), hT, hG, gvR_0, up_same _ _ _⟩, sch_YS hys hg hys.1 hg6 hsch, sch_keep hg hsch⟩
theorem c_Q_setCrew (l : Launch) (D : va_G) (cy : Nat → ClassId) (A : Nat → Prop) (ad : Nat → Nat) (T : Nat → Int) (yi : Nat → Int) (pr : Nat → Option PS) (la : Nat → Nat → Int) (H0 : Heap) (v u : Int) (hw : LW D cy A ad T yi pr la H0) (hys : YS T yi pr) (h1 : 0 ≤ v ∧ v ≤ 24) (h2 : 0 ≤ u ∧ u ≤ 24) : Met l yX1_setCrew wsX1_setCrew ({ frames := 5, cells := 0, slots := 0, locals := 114 }) (zPc D cy A [.ref (ad 0), .int (iI (v)), .int (iI (u))] H0) (zQv (fun H1 => ∃ pq, LW D cy A ad T (va_up (va_up yi 7 v) 8 u) pq la H1 ∧ YS T (va_up (va_up yi 7 v) 8 u) pq ∧ (∀ j, j < 10 → keep1 (pr j) (pq j))) A) 0 0 A := by
  obtain ⟨ya, pr2, hz, hT, hG, hg, h10⟩ := id hw
  refine (c_X1_setCrew_ok l D cy (lB A ad) ad ya yi pr2 H0 T v u (hz.lpart h10) h1 h2 (hys.gv hg).pBs hys.2.1 hG hys.1).wideV (fun q h => h.1) (fun H1 hq hs1 hk1 => ?_)
  obtain ⟨pq, hw1, hsch⟩ := hq
  have hg6 : yB (va_up (va_up yi 7 v) 8 u) := by have := hys.2.1; unfold yB at this ⊢; simp only [va_up]; simp; omega
  exact ⟨_, ⟨ya, va_up pq 10 none, hz.ljoin hw1.drop hk1 (fun _ _ => rfl), hT, hG, gvR_0, up_same _ _ _⟩, sch_YS hys hg hys.1 hg6 hsch, sch_keep hg hsch⟩
theorem c_Q_setTemperature (l : Launch) (D : va_G) (cy : Nat → ClassId) (A : Nat → Prop) (ad : Nat → Nat) (T : Nat → Int) (yi : Nat → Int) (pr : Nat → Option PS) (la : Nat → Nat → Int) (H0 : Heap) (a b t : Int) (hw : LW D cy A ad T yi pr la H0) (hys : YS T yi pr) (h1 : 0 ≤ a ∧ a ≤ b ∧ b < 1000) (h2 : -40 ≤ t ∧ t ≤ 50) : Met l yX1_setTemperature wsX1_setTemperature ({ frames := 5, cells := 0, slots := 0, locals := 114 }) (zPc D cy A [.ref (ad 0), .int (iI (a)), .int (iI (b)), .int (iI (t))] H0) (zQv (fun H1 => ∃ pq, LW D cy A ad (setT T a b t) yi pq la H1 ∧ YS (setT T a b t) yi pq ∧ (∀ j, j < 10 → keep1 (pr j) (pq j))) A) 0 0 A := by
  obtain ⟨ya, pr2, hz, hT, hG, hg, h10⟩ := id hw
  refine (c_X1_setTemperature_ok l D cy (lB A ad) ad ya yi pr2 H0 a b t (hz.lpart h10) h1 h2 (hys.gv hg).pBs hys.2.1 (by rw [hT]; exact hys.1)).wideV (fun q h => h.1) (fun H1 hq hs1 hk1 => ?_)
  obtain ⟨yb, pq, hw1, hy0, hgb, hsch⟩ := hq
  rw [hT] at hy0 hgb hsch
  exact ⟨_, ⟨yb, va_up pq 10 none, hz.ljoin hw1.drop hk1 (fun _ _ => rfl), hy0, hgb, gvR_0, up_same _ _ _⟩, sch_YS hys hg (setT_ok hys.1 h2.1 h2.2) hys.2.1 hsch, sch_keep hg hsch⟩
theorem c_Q_cancel (l : Launch) (D : va_G) (cy : Nat → ClassId) (A : Nat → Prop) (ad : Nat → Nat) (T : Nat → Int) (yi : Nat → Int) (pr : Nat → Option PS) (la : Nat → Nat → Int) (H0 : Heap) (i : Nat) (p0 : PS) (hw : LW D cy A ad T yi pr la H0) (hys : YS T yi pr) (hi : i < 10) (hp0 : pr i = some p0) : Met l yX1_cancel wsX1_cancel ({ frames := 2, cells := 0, slots := 0, locals := 42 }) (zPc D cy A [.ref (ad 0), .int (iI ((i : Int)))] H0) (zQi (fun z H1 => ∃ pq, LW D cy A ad T yi pq la H1 ∧ YS T yi pq ∧ pq i = none ∧ z = p0.1 1 ∧ ∀ j, j < 10 → j ≠ i → keep1 (pr j) (pq j)) A) 0 0 A := by
  obtain ⟨ya, pr2, hz, hT, hG, hg, h10⟩ := id hw
  obtain ⟨p2, hp2, k1, k2, k3⟩ := gvR_q hg hi hp0
  refine (c_X1_cancel_ok l D cy (lB A ad) ad ya yi pr2 H0 i p2 (hz.lpart h10) hi hp2 ((hys.gv hg).pBs i p2 hi hp2)).wideI (fun q h => h.1) (fun z H1 hq hs1 hk1 => ?_)
  obtain ⟨hw1, rfl⟩ := hq
  refine ⟨_, ⟨ya, va_up pr2 i none, hz.ljoin hw1 hk1 (fun _ _ => rfl), hT, hG, gvR_0, by rw [up_ne _ _ (by omega)]; exact h10⟩, ?_, up_same _ _ _, k1 1 (by decide), fun j hj hji => by rw [up_ne _ _ hji]; exact gv_keep hg hj⟩
  exact ⟨hys.1, hys.2.1, fun j p hj hp => by
    by_cases c : j = i
    · rw [c, up_same] at hp; cases hp
    · rw [up_ne _ _ c] at hp; exact (hys.gv hg).2.2 j p hj hp⟩
theorem c_Q_move (l : Launch) (D : va_G) (cy : Nat → ClassId) (A : Nat → Prop) (ad : Nat → Nat) (T : Nat → Int) (yi : Nat → Int) (pr : Nat → Option PS) (la : Nat → Nat → Int) (H0 : Heap) (i : Nat) (p0 : PS) (a : Int) (hw : LW D cy A ad T yi pr la H0) (hys : YS T yi pr) (hi : i < 10) (hp0 : pr i = some p0) (h1 : 0 ≤ a ∧ a ≤ 900) : Met l yX1_move wsX1_move ({ frames := 4, cells := 0, slots := 0, locals := 90 }) (zPc D cy A [.ref (ad 0), .int (iI ((i : Int))), .int (iI (a))] H0) (zQi (fun z H1 => ∃ pq q, LW D cy A ad T yi pq la H1 ∧ YS T yi pq ∧ pq i = some q ∧ q.1 1 = p0.1 1 ∧ q.1 2 = p0.1 2 ∧ q.1 3 = a ∧ z = p0.1 3 ∧ ∀ j, j < 10 → j ≠ i → keep1 (pr j) (pq j)) A) 0 0 A := by
  obtain ⟨ya, pr2, hz, hT, hG, hg, h10⟩ := id hw
  obtain ⟨p2, hp2, k1, k2, k3⟩ := gvR_q hg hi hp0
  have hb2 := (hys.gv hg).pBs i p2 hi hp2
  refine (c_X1_move_ok l D cy (lB A ad) ad ya yi pr2 H0 T i p2 a (hz.lpart h10) hi hp2 hb2 h1 hys.2.1 hG hys.1).wideI (fun q h => h.1) (fun z H1 hq hs1 hk1 => ?_)
  obtain ⟨q, hw1, hsch, rfl⟩ := hq
  have hbm : pB (va_up p2.1 3 a, p2.2) := by
    obtain ⟨q1, q2, q3, q4, q5, q6⟩ := hb2
    unfold pB
    dsimp only
    rw [up_same, up_ne (k := 3) (j := 0) p2.1 a (by decide), up_ne (k := 3) (j := 1) p2.1 a (by decide), up_ne (k := 3) (j := 2) p2.1 a (by decide), up_ne (k := 3) (j := 4) p2.1 a (by decide)]
    exact ⟨h1, q2, q3, q4, q5, q6⟩
  have e1 : q.1 1 = p2.1 1 := hsch.1.2.1.trans (up_ne (k := 3) (j := 1) p2.1 a (by decide))
  have e2 : q.1 2 = p2.1 2 := hsch.1.2.2.1.trans (up_ne (k := 3) (j := 2) p2.1 a (by decide))
  have e3 : q.1 3 = a := hsch.1.2.2.2.1.trans (up_same p2.1 3 a)
  refine ⟨_, q, ⟨ya, va_up pr2 i (some q), hz.ljoin hw1 hk1 (fun _ _ => rfl), hT, hG, gvR_0, by rw [up_ne _ _ (by omega)]; exact h10⟩, ys_put (hys.gv hg) (pB_R hsch hbm) (sc_R hsch), up_same _ _ _, e1.trans (k1 1 (by decide)), e2.trans (k1 2 (by decide)), e3, k1 3 (by decide), fun j hj hji => by rw [up_ne _ _ hji]; exact gv_keep hg hj⟩
theorem c_Q_plan (l : Launch) (D : va_G) (cy : Nat → ClassId) (A : Nat → Prop) (ad : Nat → Nat) (T : Nat → Int) (yi : Nat → Int) (pr : Nat → Option PS) (la : Nat → Nat → Int) (H0 : Heap) (a b d f : Int) (hw : LW D cy A ad T yi pr la H0) (hys : YS T yi pr) (h1 : plOK a b d f) (hfree : ∃ i, i < 10 ∧ pr i = none) (hAf : ∀ q, H0.size ≤ q → A q) : Met l yX1_plan wsX1_plan ({ frames := 4, cells := 3, slots := 21, locals := 90 }) (zPc D cy A [.ref (ad 0), .int (iI (a)), .int (iI (b)), .int (iI (d)), .int (iI (f))] H0) (zQi (fun z H1 => ∃ (ad2 : Nat → Nat) (n : Nat) (pq : Nat → Option PS) (q : PS), z = n ∧ n < 10 ∧ pr n = none ∧ ad2 0 = ad 0 ∧ (∀ r, r < 5 → ad2 (43 + r) = ad (43 + r)) ∧ LW D cy A ad2 T yi pq la H1 ∧ YS T yi pq ∧ pq n = some q ∧ q.1 1 = d ∧ q.1 2 = f ∧ q.1 3 = a ∧ ∀ j, j < 10 → j ≠ n → keep1 (pr j) (pq j)) A) 3 21 A := by
  obtain ⟨ya, pr2, hz, hT, hG, hg, h10⟩ := id hw
  have hfree2 : ∃ i, i < 10 ∧ pr2 i = none := by
    obtain ⟨i, hi, hp⟩ := hfree
    refine ⟨i, hi, ?_⟩
    rcases hg i hi with ⟨-, c⟩ | ⟨p, q, c, -⟩
    · exact c
    · rw [hp] at c; cases c
  have hAf2 : ∀ q, H0.size ≤ q → lB A ad q := fun q hq => ⟨hAf q hq, fun r hr he => by
    have := (hz.1 (43 + r) _ (lE_r hr)).2.1.lt
    (try dsimp only at this)
    omega⟩
  refine (c_X1_plan_ok l D cy (lB A ad) ad ya yi pr2 H0 T a b d f (hz.lpart h10) h1 h10 hfree2 hAf2 hys.2.1 hG hys.1).wideI (fun q h => h.1) (fun z H1 hq hs1 hk1 => ?_)
  obtain ⟨ad2, n, q, hzn, hn, -, hnn, had, hw1, hsch, -⟩ := hq
  have hq10 : va_up pr2 n (some q) 10 = none := by rw [up_ne _ _ (by omega)]; exact h10
  obtain ⟨ad3, h3a, h3b⟩ : ∃ ad3 : Nat → Nat, (∀ k, k < 40 → ad3 k = ad2 k) ∧ ∀ r, r < 5 → ad3 (43 + r) = ad (43 + r) := ⟨fun k => if k < 40 then ad2 k else ad k, fun k hk => if_pos hk, fun r hr => if_neg (by omega)⟩
  have hw3 : zW D (lB A ad) ad3 (yE cy ad3 ya yi (va_up pr2 n (some q))) H1 := by
    rw [yE_adq hq10 h3a]
    exact hw1.adc (fun k v hk => h3a k (yE_lt hq10 hk))
  have hpn : pr n = none := by
    rcases hg n hn with ⟨c, -⟩ | ⟨p, q9, -, c, -⟩
    · exact c
    · rw [hnn] at c; cases c
  have hbn : pB (nP a b d f) := ⟨h1.1, h1.2.1, h1.2.2.1, h1.2.2.2, ⟨Int.le_refl 0, (by decide : (0 : Int) ≤ 4)⟩, fun k hk => absurd hk (by show ¬ (k : Int) < 0; omega)⟩
  exact ⟨ad3, n, _, q, hzn, hn, hpn, (h3a 0 (by decide)).trans (had 0 (by decide) (by omega)), h3b, ⟨ya, va_up pr2 n (some q), hz.ljoin hw3 hk1 h3b, hT, hG, gvR_0, hq10⟩, ys_put (hys.gv hg) (pB_R hsch hbn) (sc_R hsch), up_same _ _ _, hsch.1.2.1, hsch.1.2.2.1, hsch.1.2.2.2.1, fun j hj hji => by rw [up_ne _ _ hji]; exact gv_keep hg hj⟩
