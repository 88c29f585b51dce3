/-! ===== each call keeps the relation ===== -/
section RC
variable {mi mi2 : Nat → Int} {ma mb ya yb : Nat → Nat → Int} {yi yi2 : Nat → Int} {pr pq : Nat → Option PS}
theorem up2 {f : Nat → Int} {a b : Nat} {x y : Int} {j : Nat} (ha : j ≠ a) (hb : j ≠ b) : va_up (va_up f a x) b y j = f j := (up_ne _ _ hb).trans (up_ne _ _ ha)
theorem up3 {f : Nat → Int} {a b c : Nat} {x y z : Int} {j : Nat} (ha : j ≠ a) (hb : j ≠ b) (hc : j ≠ c) : va_up (va_up (va_up f a x) b y) c z j = f j := (up_ne _ _ hc).trans (up2 ha hb)
theorem mOK_rows (h : mOK mi ma) (hg : gOK mi2) (ht : tOK (mb 1)) (hr : ∀ r, 7 ≤ r → r ≤ 14 → mb r = ma r) : mOK mi2 mb := by
  have e7 := hr 7 (by omega) (by omega)
  exact ⟨ht, hg, by rw [e7]; exact h.2.2.1, fun p hp h7 => (pOK_c (hr 8 (by omega) (by omega)) (hr 9 (by omega) (by omega)) (hr 10 (by omega) (by omega)) (hr 11 (by omega) (by omega)) (hr 12 (by omega) (by omega)) (hr 13 (by omega) (by omega)) (hr 14 (by omega) (by omega))).mpr (h.2.2.2 p hp (by rw [e7] at h7; exact h7))⟩
theorem tell_e {i : Nat} {p : PS} (h : ∀ r, 8 ≤ r → r ≤ 14 → mb r = ma r) (ht : tell ma i p) : tell mb i p := by
  unfold tell at ht ⊢
  rw [h 8 (by omega) (by omega), h 9 (by omega) (by omega), h 10 (by omega) (by omega), h 11 (by omega) (by omega), h 12 (by omega) (by omega), h 13 (by omega) (by omega), h 14 (by omega) (by omega)]
  exact ht
theorem RR.sch (h : RR mi ma ya yi pr) (hm : mOK mi2 mb) (hy : yi2 5 = mi2 2 ∧ yi2 6 = min (mi2 3) (mi2 4) ∧ yi2 7 = mi2 5 ∧ yi2 8 = mi2 6) (ht : ∀ j, j < 1000 → yb 0 j = mb 1 j) (hg : gnd (yb 0) yb) (h7 : ∀ r, 7 ≤ r → r ≤ 14 → mb r = ma r) (hs : schA (yb 0) yi2 pr pq 10) : RR mi2 mb yb yi2 (va_up pq 10 none) := by
  refine ⟨hm, hy, ht, hg, up_same _ _ _, fun i hi => ?_⟩
  have e : va_up pq 10 none i = pq i := up_ne _ _ (by omega)
  unfold PP
  rw [h7 7 (by omega) (by omega), e]
  rcases h.2.2.2.2.2 i hi with ⟨c, hn⟩ | ⟨c7, p, hp, ht1, hs1⟩
  · exact Or.inl ⟨c, (hs i hi).1 hn⟩
  · obtain ⟨q, hq, hq2⟩ := (hs i hi).2 p hp
    rcases hq2 with ⟨-, hr⟩ | ⟨hc, -⟩
    · exact Or.inr ⟨c7, q, hq, tell_R hr (tell_e (fun r a b => h7 r (by omega) b) ht1), sc_R hr⟩
    · omega
theorem r_setT (h : RR mi ma ya yi pr) {a b t c : Int} (h1 : -40 ≤ t) (h2 : t ≤ 50) (hb1 : mb 1 = setT (ma 1) a b t) (hbr : ∀ r, r ≠ 1 → mb r = ma r) (hy0 : yb 0 = setT (ya 0) a b t) (hg : gnd (setT (ya 0) a b t) yb) (hs : schA (setT (ya 0) a b t) yi pr pq 10) : RR (va_up mi 0 c) mb yb yi (va_up pq 10 none) := by
  have hr : ∀ r, 7 ≤ r → r ≤ 14 → mb r = ma r := fun r a b => hbr r (by omega)
  have hm : mOK mi mb := mOK_rows h.1 h.1.2.1 (by rw [hb1]; exact setT_ok h.1.1 h1 h2) hr
  exact (RR.sch (mi2 := mi) h hm h.2.1 (fun j hj => by rw [hy0, hb1]; exact setT_c h.2.2.1 a b t j hj) (by rw [hy0]; exact hg) hr (by rw [hy0]; exact hs)).c0 c
theorem r_setPanels (h : RR mi ma ya yi pr) {v : Int} (hv : 0 ≤ v ∧ v ≤ 60) : RR (va_up (va_up mi 0 0) 2 v) ma ya (va_up yi 5 v) pr := by
  obtain ⟨⟨h1, hg, h3, h4⟩, ⟨e5, e6, e7, e8⟩, h5, h6, h7, h8⟩ := h
  have m2 : va_up (va_up mi 0 0) 2 v 2 = v := up_same _ _ _
  have m3 : va_up (va_up mi 0 0) 2 v 3 = mi 3 := up2 (by decide) (by decide)
  have m4 : va_up (va_up mi 0 0) 2 v 4 = mi 4 := up2 (by decide) (by decide)
  have m5 : va_up (va_up mi 0 0) 2 v 5 = mi 5 := up2 (by decide) (by decide)
  have m6 : va_up (va_up mi 0 0) 2 v 6 = mi 6 := up2 (by decide) (by decide)
  refine ⟨⟨h1, ?_, h3, h4⟩, ⟨?_, ?_, ?_, ?_⟩, h5, h6, h7, fun i hi => ?_⟩
  · unfold gOK at hg ⊢
    rw [m2, m3, m4, m5, m6]
    exact ⟨hv, hg.2⟩
  · rw [m2]; exact up_same _ _ _
  · rw [m3, m4, up_ne _ _ (by decide)]; exact e6
  · rw [m5, up_ne _ _ (by decide)]; exact e7
  · rw [m6, up_ne _ _ (by decide)]; exact e8
  · rcases h8 i hi with c | ⟨c7, p, hp, ht, hs⟩
    · exact Or.inl c
    · exact Or.inr ⟨c7, p, hp, ht, sc_5 hs⟩
theorem r_setRates (h : RR mi ma ya yi pr) {v u : Int} (hv : 1 ≤ v ∧ v ≤ 50) (hu : 1 ≤ u ∧ u ≤ 50) (hs : schA (ya 0) (va_up yi 6 (min v u)) pr pq 10) : RR (va_up (va_up (va_up mi 0 0) 3 v) 4 u) ma ya (va_up yi 6 (min v u)) (va_up pq 10 none) := by
  have m2 : va_up (va_up (va_up mi 0 0) 3 v) 4 u 2 = mi 2 := up3 (by decide) (by decide) (by decide)
  have m3 : va_up (va_up (va_up mi 0 0) 3 v) 4 u 3 = v := (up_ne _ _ (by decide)).trans (up_same _ _ _)
  have m4 : va_up (va_up (va_up mi 0 0) 3 v) 4 u 4 = u := up_same _ _ _
  have m5 : va_up (va_up (va_up mi 0 0) 3 v) 4 u 5 = mi 5 := up3 (by decide) (by decide) (by decide)
  have m6 : va_up (va_up (va_up mi 0 0) 3 v) 4 u 6 = mi 6 := up3 (by decide) (by decide) (by decide)
  have hg := h.1.2.1
  have e := h.2.1
  refine RR.sch h ⟨h.1.1, ?_, h.1.2.2⟩ ⟨?_, ?_, ?_, ?_⟩ h.2.2.1 h.2.2.2.1 (fun _ _ _ => rfl) hs
  · unfold gOK at hg ⊢
    rw [m2, m3, m4, m5, m6]
    exact ⟨hg.1, hv, hu, hg.2.2.2⟩
  · rw [m2, up_ne _ _ (by decide)]; exact e.1
  · rw [m3, m4, up_same]
  · rw [m5, up_ne _ _ (by decide)]; exact e.2.2.1
  · rw [m6, up_ne _ _ (by decide)]; exact e.2.2.2
theorem r_setCrew (h : RR mi ma ya yi pr) {v u : Int} (hv : 0 ≤ v ∧ v ≤ 24) (hu : 0 ≤ u ∧ u ≤ 24) (hs : schA (ya 0) (va_up (va_up yi 7 v) 8 u) pr pq 10) : RR (va_up (va_up (va_up mi 0 0) 5 v) 6 u) ma ya (va_up (va_up yi 7 v) 8 u) (va_up pq 10 none) := by
  have m2 : va_up (va_up (va_up mi 0 0) 5 v) 6 u 2 = mi 2 := up3 (by decide) (by decide) (by decide)
  have m3 : va_up (va_up (va_up mi 0 0) 5 v) 6 u 3 = mi 3 := up3 (by decide) (by decide) (by decide)
  have m4 : va_up (va_up (va_up mi 0 0) 5 v) 6 u 4 = mi 4 := up3 (by decide) (by decide) (by decide)
  have m5 : va_up (va_up (va_up mi 0 0) 5 v) 6 u 5 = v := (up_ne _ _ (by decide)).trans (up_same _ _ _)
  have m6 : va_up (va_up (va_up mi 0 0) 5 v) 6 u 6 = u := up_same _ _ _
  have hg := h.1.2.1
  have e := h.2.1
  refine RR.sch h ⟨h.1.1, ?_, h.1.2.2⟩ ⟨?_, ?_, ?_, ?_⟩ h.2.2.1 h.2.2.2.1 (fun _ _ _ => rfl) hs
  · unfold gOK at hg ⊢
    rw [m2, m3, m4, m5, m6]
    exact ⟨hg.1, hg.2.1, hg.2.2.1, hv, hu⟩
  · rw [m2, up2 (by decide) (by decide)]; exact e.1
  · rw [m3, m4, up2 (by decide) (by decide)]; exact e.2.1
  · rw [m5, up_ne _ _ (by decide)]; exact up_same _ _ _
  · rw [m6, up_same]
/-- what is told of number j is the same on both sides -/
def eqj (ma mb : Nat → Nat → Int) (j : Nat) : Prop := mb 8 j = ma 8 j ∧ mb 9 j = ma 9 j ∧ mb 10 j = ma 10 j ∧ mb 11 j = ma 11 j ∧ mb 12 j = ma 12 j ∧ ∀ k : Nat, k < 4 → mb 13 (4 * j + k) = ma 13 (4 * j + k) ∧ mb 14 (4 * j + k) = ma 14 (4 * j + k)
theorem pOK_j {j : Nat} (h : eqj ma mb j) (hp : pOK ma j) : pOK mb j := by
  obtain ⟨e8, e9, e10, e11, e12, e13⟩ := h
  obtain ⟨q1, q2, q3, q4, q5, q6⟩ := hp
  unfold pOK
  rw [e8, e9, e10, e11, e12]
  refine ⟨q1, q2, q3, q4, q5, fun k hk => ?_⟩
  obtain ⟨a, b⟩ := e13 k (by omega)
  rw [a, b]
  exact q6 k hk
theorem tell_j {j : Nat} {p : PS} (h : eqj ma mb j) (h4 : ma 12 j ≤ 4) (ht : tell ma j p) : tell mb j p := by
  obtain ⟨e8, e9, e10, e11, e12, e13⟩ := h
  obtain ⟨q1, q2, q3, q4, q5, q6⟩ := ht
  unfold tell
  rw [e8, e9, e10, e11, e12]
  refine ⟨q1, q2, q3, q4, q5, fun k hk => ?_⟩
  obtain ⟨a, b⟩ := e13 k (by omega)
  rw [a, b]
  exact q6 k hk
theorem RR.put (h : RR mi ma ya yi pr) {i : Nat} (hi : i < 10) {q : PS} (h1 : mb 1 = ma 1) (hb7 : ∀ j, j ≠ i → mb 7 j = ma 7 j) (h7i : mb 7 i = 1) (hP : pOK mb i) (ht : tell mb i q) (hs : sc (ya 0) yi q) (ho : ∀ j, j < 10 → j ≠ i → eqj ma mb j) : RR mi mb ya yi (va_up pr i (some q)) := by
  obtain ⟨⟨m1, m2, m3, m4⟩, h2, h3, h4, h5, h6⟩ := h
  refine ⟨⟨by rw [h1]; exact m1, m2, fun j hj => ?_, fun p hp h7 => ?_⟩, h2, by rw [h1]; exact h3, h4, by rw [up_ne _ _ (by omega)]; exact h5, fun j hj => ?_⟩
  · by_cases c : j = i
    · rw [c]; exact Or.inr h7i
    · rw [hb7 j c]; exact m3 j hj
  · by_cases c : p = i
    · rw [c]; exact hP
    · exact pOK_j (ho p hp c) (m4 p hp (by rw [← hb7 p c]; exact h7))
  · by_cases c : j = i
    · subst c
      exact Or.inr ⟨h7i, q, up_same _ _ _, ht, hs⟩
    · unfold PP
      rw [hb7 j c, up_ne _ _ c]
      rcases h6 j hj with d | ⟨c7, p, hp, ht1, hs1⟩
      · exact Or.inl d
      · exact Or.inr ⟨c7, p, hp, tell_j (ho j hj c) (m4 j hj c7).2.2.2.2.1.2 ht1, hs1⟩
theorem RR.del (h : RR mi ma ya yi pr) {i : Nat} (hi : i < 10) (hb : mb = va_up ma 7 (va_up (ma 7) i 0)) : RR mi mb ya yi (va_up pr i none) := by
  subst hb
  obtain ⟨⟨m1, m2, m3, m4⟩, h2, h3, h4, h5, h6⟩ := h
  have er : ∀ r, r ≠ 7 → va_up ma 7 (va_up (ma 7) i 0) r = ma r := fun r hr => up_ne _ _ hr
  have e7 : va_up ma 7 (va_up (ma 7) i 0) 7 = va_up (ma 7) i 0 := up_same _ _ _
  refine ⟨⟨by rw [er 1 (by decide)]; exact m1, m2, fun j hj => ?_, fun p hp h7 => ?_⟩, h2, by rw [er 1 (by decide)]; exact h3, h4, by rw [up_ne _ _ (by omega)]; exact h5, fun j hj => ?_⟩
  · rw [e7]
    by_cases c : j = i
    · rw [c, up_same]; exact Or.inl rfl
    · rw [up_ne _ _ c]; exact m3 j hj
  · rw [e7] at h7
    by_cases c : p = i
    · rw [c, up_same] at h7; omega
    · rw [up_ne _ _ c] at h7
      exact (pOK_c (er 8 (by decide)) (er 9 (by decide)) (er 10 (by decide)) (er 11 (by decide)) (er 12 (by decide)) (er 13 (by decide)) (er 14 (by decide))).mpr (m4 p hp h7)
  · unfold PP
    rw [e7]
    by_cases c : j = i
    · rw [c, up_same, up_same]; exact Or.inl ⟨rfl, rfl⟩
    · rw [up_ne _ _ c, up_ne _ _ c]
      rcases h6 j hj with d | ⟨c7, p, hp, ht1, hs1⟩
      · exact Or.inl d
      · exact Or.inr ⟨c7, p, hp, tell_e (fun r a b => er r (by omega)) ht1, hs1⟩
/-- the lowest number that is free is one -/
theorem RR.free (h : RR mi ma ya yi pr) {nf n : Nat} (hfr : frN ma nf) (h10 : nf < 10) (hn : n < 10) (hn1 : ∀ j, j < n → pr j ≠ none) (hn2 : pr n = none) : n = nf := by
  obtain ⟨-, f1, f2⟩ := hfr
  rcases Nat.lt_trichotomy n nf with c | c | c
  · exfalso
    have h7 := f1 n c
    rcases h.2.2.2.2.2 n hn with ⟨d, -⟩ | ⟨-, p, hp, -⟩
    · omega
    · rw [hn2] at hp; cases hp
  · exact c
  · exfalso
    have h7 := f2 h10
    rcases h.2.2.2.2.2 nf h10 with ⟨-, d⟩ | ⟨d, -⟩
    · exact hn1 nf c d
    · omega
theorem r_plan (h : RR mi ma ya yi pr) {a b d f : Int} (hp : plOK a b d f) {nf : Nat} (h10 : nf < 10) (hl : layR nf a b d f (va_up ma 7 (va_up (ma 7) nf 1)) mb) {q : PS} (hs : schR (ya 0) yi (nP a b d f) q) : RR mi mb ya yi (va_up pr nf (some q)) := by
  obtain ⟨l8, l9, l10, l11, l12, lr⟩ := hl
  have er : ∀ r, r ≠ 7 → va_up ma 7 (va_up (ma 7) nf 1) r = ma r := fun r hr => up_ne _ _ hr
  rw [er 8 (by decide)] at l8
  rw [er 9 (by decide)] at l9
  rw [er 10 (by decide)] at l10
  rw [er 11 (by decide)] at l11
  rw [er 12 (by decide)] at l12
  have m7 : mb 7 = va_up (ma 7) nf 1 := (lr 7 (by omega)).trans (up_same _ _ _)
  have m1 : mb 1 = ma 1 := (lr 1 (by omega)).trans (er 1 (by decide))
  have m13 : mb 13 = ma 13 := (lr 13 (by omega)).trans (er 13 (by decide))
  have m14 : mb 14 = ma 14 := (lr 14 (by omega)).trans (er 14 (by decide))
  have v8 : mb 8 nf = a := by rw [l8, up_same]
  have v9 : mb 9 nf = b := by rw [l9, up_same]
  have v10 : mb 10 nf = d := by rw [l10, up_same]
  have v11 : mb 11 nf = f := by rw [l11, up_same]
  have v12 : mb 12 nf = 0 := by rw [l12, up_same]
  refine RR.put h h10 m1 (fun j hj => by rw [m7, up_ne _ _ hj]) (by rw [m7, up_same]) ?_ (tell_R hs ?_) (sc_R hs) (fun j _ hj => ?_)
  · unfold pOK
    rw [v8, v9, v10, v11, v12]
    exact ⟨hp.1, hp.2.1, hp.2.2.1, hp.2.2.2, by omega, fun k hk => by omega⟩
  · unfold tell
    rw [v8, v9, v10, v11, v12]
    exact ⟨rfl, rfl, rfl, rfl, rfl, fun k hk => by omega⟩
  · unfold eqj
    rw [l8, l9, l10, l11, l12, m13, m14, up_ne _ _ hj, up_ne _ _ hj, up_ne _ _ hj, up_ne _ _ hj, up_ne _ _ hj]
    exact ⟨rfl, rfl, rfl, rfl, rfl, fun _ _ => ⟨rfl, rfl⟩⟩
theorem r_move (h : RR mi ma ya yi pr) {i : Nat} (hi : i < 10) (h7 : ma 7 i = 1) {p q : PS} (hp : tell ma i p) {a : Int} (ha : 0 ≤ a ∧ a ≤ 900) (hb : mb = va_up ma 8 (va_up (ma 8) i a)) (hs : schR (ya 0) yi (va_up p.1 3 a, p.2) q) : RR mi mb ya yi (va_up pr i (some q)) := by
  subst hb
  have er : ∀ r, r ≠ 8 → va_up ma 8 (va_up (ma 8) i a) r = ma r := fun r hr => up_ne _ _ hr
  have e8 : va_up ma 8 (va_up (ma 8) i a) 8 = va_up (ma 8) i a := up_same _ _ _
  obtain ⟨q1, q2, q3, q4, q5, q6⟩ := h.1.2.2.2 i hi h7
  obtain ⟨t1, t2, t3, t4, t5, t6⟩ := hp
  refine RR.put h hi (er 1 (by decide)) (fun j _ => by rw [er 7 (by decide)]) (by rw [er 7 (by decide)]; exact h7) ?_ (tell_R hs ?_) (sc_R hs) (fun j _ hj => ?_)
  · unfold pOK
    rw [e8, er 9 (by decide), er 10 (by decide), er 11 (by decide), er 12 (by decide), er 13 (by decide), er 14 (by decide), up_same]
    exact ⟨ha, q2, q3, q4, q5, q6⟩
  · unfold tell
    rw [e8, er 9 (by decide), er 10 (by decide), er 11 (by decide), er 12 (by decide), er 13 (by decide), er 14 (by decide), up_same]
    exact ⟨up_same p.1 3 a, (up_ne (k := 3) (j := 0) p.1 a (by decide)).trans t2, (up_ne (k := 3) (j := 1) p.1 a (by decide)).trans t3, (up_ne (k := 3) (j := 2) p.1 a (by decide)).trans t4, (up_ne (k := 3) (j := 4) p.1 a (by decide)).trans t5, t6⟩
  · unfold eqj
    rw [e8, er 9 (by decide), er 10 (by decide), er 11 (by decide), er 12 (by decide), er 13 (by decide), er 14 (by decide), up_ne _ _ hj]
    exact ⟨rfl, rfl, rfl, rfl, rfl, fun _ _ => ⟨rfl, rfl⟩⟩
theorem ins_c {f g : Nat → Int} {pos n k : Nat} {v : Int} (h : ∀ i, i < n → f i = g i) (hp : pos ≤ n) (hk : k ≤ n) : ins f pos v k = ins g pos v k := by
  unfold ins
  by_cases c1 : k < pos
  · rw [if_pos c1, if_pos c1, h k (by omega)]
  · rw [if_neg c1, if_neg c1]
    by_cases c2 : k = pos
    · rw [if_pos c2, if_pos c2]
    · rw [if_neg c2, if_neg c2, h (k - 1) (by omega)]
theorem ins_b {f : Nat → Int} {pos n k : Nat} {v lo hi : Int} (h : ∀ i, i < n → lo ≤ f i ∧ f i ≤ hi) (hv : lo ≤ v ∧ v ≤ hi) (hp : pos ≤ n) (hk : k ≤ n) : lo ≤ ins f pos v k ∧ ins f pos v k ≤ hi := by
  unfold ins
  by_cases c1 : k < pos
  · rw [if_pos c1]; exact h k (by omega)
  · rw [if_neg c1]
    by_cases c2 : k = pos
    · rw [if_pos c2]; exact hv
    · rw [if_neg c2]; exact h (k - 1) (by omega)
theorem r_delay (h : RR mi ma ya yi pr) {i : Nat} (hi : i < 10) (h7 : ma 7 i = 1) {p qa q : PS} (hp : tell ma i p) {a b : Int} (h4 : ma 12 i < 4) (ha : 0 ≤ a ∧ a ≤ 199) (hb : 1 ≤ b ∧ b ≤ 9) (hd : dlR i a b ma mb) (hq : adR a b p qa) (hs : schR (ya 0) yi qa q) : RR mi mb ya yi (va_up pr i (some q)) := by
  obtain ⟨d12, dk, dj, dr⟩ := hd
  obtain ⟨q1, q2, q3, q4, q5, q6⟩ := h.1.2.2.2 i hi h7
  obtain ⟨t1, t2, t3, t4, t5, t6⟩ := hp
  obtain ⟨a1, a2, -⟩ := hq
  obtain ⟨n, hn⟩ : ∃ n : Nat, ma 12 i = (n : Int) := ⟨(ma 12 i).toNat, by omega⟩
  have hnn : (ma 12 i).toNat = n := by omega
  have v12 : mb 12 i = ma 12 i + 1 := by rw [d12, up_same]
  have c13 : ∀ k, k < n → p.2.1 k = ma 13 (4 * i + k) := fun k hk => (t6 k (by omega)).1
  have c14 : ∀ k, k < n → p.2.2.1 k = ma 14 (4 * i + k) := fun k hk => (t6 k (by omega)).2
  have ep : ipos p.2.1 a n = ipos (fun j => ma 13 (4 * i + j)) a n := ipos_c a n c13
  have hpos := ipos_b (fun j => ma 13 (4 * i + j)) a n
  refine RR.put h hi (dr 1 (by omega)) (fun j _ => by rw [dr 7 (by omega)]) (by rw [dr 7 (by omega)]; exact h7) ?_ (tell_R hs ?_) (sc_R hs) (fun j _ hj => ?_)
  · unfold pOK
    rw [dr 8 (by omega), dr 9 (by omega), dr 10 (by omega), dr 11 (by omega), v12]
    refine ⟨q1, q2, q3, q4, by omega, fun k hk => ?_⟩
    obtain ⟨e1, e2⟩ := dk k (by omega)
    rw [hnn] at e1 e2
    rw [e1, e2]
    have hk9 : k ≤ n := by omega
    exact ⟨ins_b (n := n) (fun i hi => (q6 i (by omega)).1) ha hpos hk9, ins_b (n := n) (fun i hi => (q6 i (by omega)).2) hb hpos hk9⟩
  · unfold tell
    rw [dr 8 (by omega), dr 9 (by omega), dr 10 (by omega), dr 11 (by omega), v12, a1]
    refine ⟨(up_ne _ _ (by decide)).trans t1, (up_ne _ _ (by decide)).trans t2, (up_ne _ _ (by decide)).trans t3, (up_ne _ _ (by decide)).trans t4, by rw [up_same, t5], fun k hk => ?_⟩
    obtain ⟨e1, e2⟩ := dk k (by omega)
    obtain ⟨f1, f2⟩ := a2 k (by omega)
    rw [hnn] at e1 e2
    rw [t5, hnn, ep] at f1 f2
    have hk9 : k ≤ n := by omega
    exact ⟨by rw [e1, f1]; exact ins_c c13 hpos hk9, by rw [e2, f2]; exact ins_c c14 hpos hk9⟩
  · unfold eqj
    rw [dr 8 (by omega), dr 9 (by omega), dr 10 (by omega), dr 11 (by omega), d12, up_ne _ _ hj]
    exact ⟨rfl, rfl, rfl, rfl, rfl, fun k hk => dj (4 * j + k) (by omega)⟩
end RC
