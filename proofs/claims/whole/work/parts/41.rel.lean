/-! ===== the yard beside the reference ===== -/
theorem gs_c {T U : Nat → Int} (h : ∀ j, j < 1000 → T j = U j) : ∀ n, gs T n = gs U n
  | 0 => rfl
  | n + 1 => by
    simp only [gs]
    rw [gs_c h n]
    by_cases hn : n < 1000
    · rw [if_pos hn, if_pos hn, h n hn]
    · rw [if_neg hn, if_neg hn]
theorem mat_c {T U : Nat → Int} (h : ∀ j, j < 1000 → T j = U j) (a b : Int) : mat T a b = mat U a b := by
  unfold mat
  rw [gs_c h, gs_c h]
theorem strikeS_c {T U : Nat → Int} (h : ∀ j, j < 1000 → T j = U j) (w e : Int) : strikeS T w e = strikeS U w e := by
  have e1 : mat T = mat U := funext fun a => funext fun b => mat_c h a b
  unfold strikeS
  simp only [e1]
theorem setT_c {T U : Nat → Int} (h : ∀ j, j < 1000 → T j = U j) (a b t : Int) : ∀ j, j < 1000 → setT T a b t j = setT U a b t j := fun j hj => by
  unfold setT
  rw [h j hj]
/-- what was told of a pour -/
def tell (ma : Nat → Nat → Int) (i : Nat) (p : PS) : Prop := p.1 3 = ma 8 i ∧ p.1 0 = ma 9 i ∧ p.1 1 = ma 10 i ∧ p.1 2 = ma 11 i ∧ p.1 4 = ma 12 i ∧ ∀ k : Nat, (k : Int) < ma 12 i → p.2.1 k = ma 13 (4 * i + k) ∧ p.2.2.1 k = ma 14 (4 * i + k)
/-- what follows of it -/
def sc (T : Nat → Int) (yi : Nat → Int) (p : PS) : Prop := p.1 7 = endY yi p ∧ p.1 8 = (if kY T yi p < 1000 then kY T yi p else -1) ∧ p.1 9 = standS (yi 7) (p.1 3) ∧ p.1 10 = min 1000 (freeS (yi 8) (kY T yi p))
def PP (ma : Nat → Nat → Int) (T : Nat → Int) (yi : Nat → Int) (pr : Nat → Option PS) (i : Nat) : Prop := (ma 7 i = 0 ∧ pr i = none) ∨ (ma 7 i = 1 ∧ ∃ p, pr i = some p ∧ tell ma i p ∧ sc T yi p)
def RR (mi : Nat → Int) (ma ya : Nat → Nat → Int) (yi : Nat → Int) (pr : Nat → Option PS) : Prop :=
  mOK mi ma ∧ (yi 5 = mi 2 ∧ yi 6 = min (mi 3) (mi 4) ∧ yi 7 = mi 5 ∧ yi 8 = mi 6) ∧ (∀ j, j < 1000 → ya 0 j = ma 1 j) ∧ gnd (ya 0) ya ∧ pr 10 = none ∧ ∀ i, i < 10 → PP ma (ya 0) yi pr i
theorem sc_R {T : Nat → Int} {yi : Nat → Int} {p q : PS} (h : schR T yi p q) : sc T yi q := by
  obtain ⟨⟨h0, h1, h2, h3, h4⟩, h5, h6, h7, h8, h9, h10⟩ := h
  have e1 : endY yi q = endY yi p := by
    unfold endY
    rw [h3, h0, h6, h4]
  have e2 : kY T yi q = kY T yi p := by
    unfold kY
    rw [h2, e1]
  exact ⟨by rw [e1]; exact h7, by rw [e2]; exact h8, by rw [h3]; exact h9, by rw [e2]; exact h10⟩
theorem tell_R {ma : Nat → Nat → Int} {i : Nat} {T : Nat → Int} {yi : Nat → Int} {p q : PS} (h : schR T yi p q) (ht : tell ma i p) : tell ma i q := by
  obtain ⟨⟨h0, h1, h2, h3, h4⟩, h5, h6, -⟩ := h
  unfold tell at ht ⊢
  rw [h0, h1, h2, h3, h4, h5, h6]
  exact ht
theorem tell_pB {ma : Nat → Nat → Int} {i : Nat} {p : PS} (ht : tell ma i p) (h : pOK ma i) : pB p := by
  obtain ⟨t1, t2, t3, t4, t5, t6⟩ := ht
  obtain ⟨q1, q2, q3, q4, q5, q6⟩ := h
  unfold pB
  rw [t1, t2, t3, t4, t5]
  refine ⟨q1, q2, q3, q4, q5, fun k hk => ?_⟩
  obtain ⟨s1, s2⟩ := t6 k hk
  rw [s1, s2]
  exact q6 k hk
section RRS
variable {mi : Nat → Int} {ma ya : Nat → Nat → Int} {yi : Nat → Int} {pr : Nat → Option PS}
theorem RR.yBd (h : RR mi ma ya yi pr) : yB yi := by
  obtain ⟨⟨-, hg, -, -⟩, ⟨e5, e6, e7, e8⟩, -⟩ := h
  obtain ⟨g1, g2, g3, g4, g5⟩ := hg
  unfold yB
  rw [e5, e6, e7, e8]
  omega
theorem RR.tOKd (h : RR mi ma ya yi pr) : tOK (ya 0) := fun j hj => by
  rw [h.2.2.1 j hj]
  exact h.1.1 j hj
theorem RR.en (h : RR mi ma ya yi pr) {i : Nat} {p : PS} (hi : i < 10) (h7 : ma 7 i = 1) (ht : tell ma i p) : endY yi p = endM mi ma i := by
  obtain ⟨t1, t2, t3, t4, t5, t6⟩ := ht
  obtain ⟨-, -, -, -, q5, -⟩ := h.1.2.2.2 i hi h7
  unfold endY endM endS
  rw [t1, t2, t5, h.2.1.2.1, sl_c (f := p.2.2.1) (g := fun k => ma 14 (4 * i + k)) (fun k hk => (t6 k (by omega)).2)]
theorem RR.ks (h : RR mi ma ya yi pr) {i : Nat} {p : PS} (hi : i < 10) (h7 : ma 7 i = 1) (ht : tell ma i p) : kY (ya 0) yi p = kS mi ma i := by
  unfold kY kS
  rw [h.en hi h7 ht, ht.2.2.2.1, strikeS_c h.2.2.1]
theorem RR.st (h : RR mi ma ya yi pr) {i : Nat} {p : PS} (ht : tell ma i p) (hs : sc (ya 0) yi p) : p.1 9 = stS mi ma i := by
  rw [hs.2.2.1, ht.1, h.2.1.2.2.1]
  rfl
theorem RR.fr (h : RR mi ma ya yi pr) {i : Nat} {p : PS} (hi : i < 10) (h7 : ma 7 i = 1) (ht : tell ma i p) (hs : sc (ya 0) yi p) : p.1 10 = min 1000 (frS mi ma i) := by
  rw [hs.2.2.2, h.ks hi h7 ht, h.2.1.2.2.2]
  rfl
/-- a number's pour on both sides -/
theorem RR.pt (h : RR mi ma ya yi pr) {i : Nat} (hi : i < 10) : (ma 7 i = 0 ∧ pr i = none) ∨ ∃ p, ma 7 i = 1 ∧ pr i = some p ∧ tell ma i p ∧ sc (ya 0) yi p ∧ pB p ∧ p.1 7 = endM mi ma i ∧ p.1 8 = (if kS mi ma i < 1000 then kS mi ma i else -1) ∧ p.1 9 = stS mi ma i ∧ p.1 10 = min 1000 (frS mi ma i) := by
  rcases h.2.2.2.2.2 i hi with c | ⟨h7, p, hp, ht, hs⟩
  · exact Or.inl c
  · refine Or.inr ⟨p, h7, hp, ht, hs, tell_pB ht (h.1.2.2.2 i hi h7), ?_, ?_, h.st ht hs, h.fr hi h7 ht hs⟩
    · rw [hs.1, h.en hi h7 ht]
    · rw [hs.2.1, h.ks hi h7 ht]
theorem RR.need (h : RR mi ma ya yi pr) {t : Int} (ht0 : t < 1000) : ∀ n, n ≤ 10 → nY pr t n = nS mi ma t n
  | 0, _ => rfl
  | n + 1, hn => by
    have ih := h.need ht0 n (by omega)
    rcases h.pt (i := n) (by omega) with ⟨h7, hp⟩ | ⟨p, h7, hp, ht, -, -, -, -, e9, e10⟩
    · rw [nY_n hp, ih]
      simp only [nS]
      rw [if_neg (by omega)]
      omega
    · rw [nY_s hp, ih]
      simp only [nS]
      rw [e9, e10, ht.2.2.1]
      by_cases c : stS mi ma n ≤ t ∧ t < min 1000 (frS mi ma n)
      · rw [if_pos c, if_pos ⟨h7, c.1, by omega⟩]
      · rw [if_neg c, if_neg (by omega)]
theorem RR.pAd (h : RR mi ma ya yi pr) : pA pr := fun i p hi hp => by
  rcases h.pt hi with ⟨-, hn⟩ | ⟨p2, h7, hp2, ht, hs, hb, -, -, e9, e10⟩
  · rw [hn] at hp; cases hp
  · rw [hp2] at hp
    cases hp
    have hP := h.1.2.2.2 i hi h7
    have hk := kS_b h.1.2.1 hP
    obtain ⟨g1, g2, g3, g4, g5, g6⟩ := h.1.2.1
    have h8 := hP.1
    have a1 : 0 ≤ stS mi ma i ∧ stS mi ma i ≤ 900 := by unfold stS standS; split <;> omega
    have a2 : 0 ≤ frS mi ma i := by unfold frS freeS; split <;> omega
    exact ⟨hb, by omega, by omega⟩
end RRS
