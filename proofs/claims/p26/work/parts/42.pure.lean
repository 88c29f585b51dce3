/-! ===== what follows of a pour ===== -/
def sc (T : Nat → Int) (yi : Nat → Int) (p : PS) : Prop := p.1 7 = endY yi p ∧ p.1 8 = (if kY T yi p < 1000 then kY T yi p else -1) ∧ p.1 9 = standS (yi 7) (p.1 3) ∧ p.1 10 = min 1000 (freeS (yi 8) (kY T yi p))
theorem sc_R {T : Nat → Int} {yi : Nat → Int} {p q : PS} (h : schR T yi p q) : sc T yi q := by
  obtain ⟨⟨h0, h1, h2, h3, h4⟩, h5, h6, h7, h8, h9, h10⟩ := h
  have e1 : endY yi q = endY yi p := by
    unfold endY
    rw [h3, h0, h6, h4]
  have e2 : kY T yi q = kY T yi p := by
    unfold kY
    rw [h2, e1]
  exact ⟨by rw [e1]; exact h7, by rw [e2]; exact h8, by rw [h3]; exact h9, by rw [e2]; exact h10⟩
theorem sc_5 {T : Nat → Int} {yi : Nat → Int} {v : Int} {p : PS} (h : sc T yi p) : sc T (va_up yi 5 v) p := by
  have e6 : va_up yi 5 v 6 = yi 6 := up_ne _ _ (by decide)
  have e7 : va_up yi 5 v 7 = yi 7 := up_ne _ _ (by decide)
  have e8 : va_up yi 5 v 8 = yi 8 := up_ne _ _ (by decide)
  unfold sc kY endY at h ⊢
  rw [e6, e7, e8]
  exact h
theorem sc_g {T : Nat → Int} {yi : Nat → Int} {p q : PS} (h : sc T yi p) (hg : gv1 p q) : sc T yi q := by
  obtain ⟨k1, k2, k3⟩ := hg
  unfold sc kY endY at h ⊢
  rw [k1 3 (by decide), k1 0 (by decide), k1 2 (by decide), k1 4 (by decide), k3, k1 7 (by decide), k1 8 (by decide), k1 9 (by decide), k1 10 (by decide)]
  exact h
theorem pB_g {p q : PS} (h : pB p) (hg : gv1 p q) : pB q := by
  obtain ⟨k1, k2, k3⟩ := hg
  unfold pB at h ⊢
  rw [k1 3 (by decide), k1 0 (by decide), k1 1 (by decide), k1 2 (by decide), k1 4 (by decide), k2, k3]
  exact h
theorem pB_R {T : Nat → Int} {yi : Nat → Int} {p q : PS} (h : schR T yi p q) (hp : pB p) : pB q := by
  obtain ⟨⟨h0, h1, h2, h3, h4⟩, h5, h6, -⟩ := h
  unfold pB at hp ⊢
  rw [h0, h1, h2, h3, h4, h5, h6]
  exact hp
/-- the yard's pours are worked out -/
def YS (T : Nat → Int) (yi : Nat → Int) (pr : Nat → Option PS) : Prop := tOK T ∧ yB yi ∧ ∀ i p, i < 10 → pr i = some p → pB p ∧ sc T yi p
/-- a pour's panels, strength and start are kept -/
def keep1 (a b : Option PS) : Prop := (a = none ∧ b = none) ∨ ∃ p q, a = some p ∧ b = some q ∧ q.1 1 = p.1 1 ∧ q.1 2 = p.1 2 ∧ q.1 3 = p.1 3
section YSS
variable {T : Nat → Int} {yi : Nat → Int} {pr pr2 : Nat → Option PS}
theorem YS.gv (h : YS T yi pr) (hg : gvR pr pr2) : YS T yi pr2 := ⟨h.1, h.2.1, fun i p hi hp => by
  obtain ⟨p0, hp0, hk⟩ := gvR_p hg hi hp
  obtain ⟨a, b⟩ := h.2.2 i p0 hi hp0
  exact ⟨pB_g a hk, sc_g b hk⟩⟩
theorem ys_p (h : YS T yi pr) {i : Nat} {p : PS} (hi : i < 10) (hp : pr i = some p) : (0 ≤ p.1 7 ∧ p.1 7 ≤ 1185) ∧ (-1 ≤ p.1 8 ∧ p.1 8 ≤ 999) ∧ p.1 9 = standS (yi 7) (p.1 3) ∧ (0 ≤ p.1 9 ∧ p.1 9 ≤ 900) ∧ (0 ≤ p.1 10 ∧ p.1 10 ≤ 1000) ∧ (1 ≤ p.1 1 ∧ p.1 1 ≤ 30) ∧ (1 ≤ p.1 2 ∧ p.1 2 ≤ 100) ∧ (0 ≤ p.1 3 ∧ p.1 3 ≤ 900) ∧ (p.1 8 < 0 → p.1 8 = -1 ∧ p.1 10 = 1000 ∧ (999 < p.1 7 ∨ strg (mat T (p.1 7) 999) < p.1 2)) ∧ (0 ≤ p.1 8 → p.1 7 < p.1 8 ∧ p.1 2 ≤ strg (mat T (p.1 7) (p.1 8)) ∧ strg (mat T (p.1 7) (p.1 8 - 1)) < p.1 2 ∧ p.1 10 = min 1000 (p.1 8 + yi 8)) := by
  obtain ⟨ht, hg, ha⟩ := h
  obtain ⟨hb, s7, s8, s9, s10⟩ := ha i p hi hp
  obtain ⟨-, -, -, -, e0, e1⟩ := endY_b hg hb
  have hkY : kY T yi p = strikeS T (p.1 2) (endY yi p) := rfl
  rw [hkY] at s8 s10
  rw [← s7] at s8 s10 e0 e1
  obtain ⟨b1, b2, b3, b4⟩ := strikeS_b T (p.1 2) (p.1 7)
  obtain ⟨q1, q2, q3, q4, q5, q6⟩ := hb
  obtain ⟨g1, g2, g3, g4⟩ := hg
  have hst : 0 ≤ p.1 9 ∧ p.1 9 ≤ 900 := by rw [s9]; unfold standS; split <;> omega
  have hz : strg (mat T (p.1 7) (p.1 7)) = 0 := by rw [mat_0]; decide
  generalize strikeS T (p.1 2) (p.1 7) = k at *
  unfold freeS at s10
  by_cases hk : k < 1000
  · rw [if_pos hk] at s8 s10
    have hne : k ≠ p.1 7 := fun he => by
      have := b3 hk
      rw [he, hz] at this
      omega
    have hlt : p.1 7 < k := by omega
    have h4 := b4 (k - 1) (by omega) (by omega)
    have h3 := b3 hk
    rw [s8]
    exact ⟨⟨e0, e1⟩, ⟨by omega, by omega⟩, s9, hst, ⟨by omega, by omega⟩, q3, q4, q1, fun hn => absurd hn (by omega), fun _ => ⟨hlt, h3, h4, s10⟩⟩
  · rw [if_neg hk] at s8 s10
    rw [s8]
    refine ⟨⟨e0, e1⟩, ⟨by omega, by omega⟩, s9, hst, ⟨by omega, by omega⟩, q3, q4, q1, fun _ => ⟨rfl, by omega, ?_⟩, fun hn => absurd hn (by omega)⟩
    by_cases h9 : 999 < p.1 7
    · exact Or.inl h9
    · exact Or.inr (b4 999 (by omega) (by omega))
theorem YS.b9 (h : YS T yi pr) : ∀ i p, i < 10 → pr i = some p → (0 ≤ p.1 9 ∧ p.1 9 ≤ 900) ∧ (0 ≤ p.1 10 ∧ p.1 10 ≤ 1000) ∧ 1 ≤ p.1 1 ∧ p.1 1 ≤ 30 := fun i p hi hp => by
  obtain ⟨-, -, -, h9, h10, h1, -⟩ := ys_p h hi hp
  exact ⟨h9, h10, h1⟩
theorem YS.pA (h : YS T yi pr) : pA pr := fun i p hi hp => by
  obtain ⟨h9, h10, -⟩ := h.b9 i p hi hp
  exact ⟨(h.2.2 i p hi hp).1, by omega, h10⟩
theorem YS.pBs (h : YS T yi pr) : ∀ j p, j < 10 → pr j = some p → pB p := fun j p hj hp => (h.2.2 j p hj hp).1
/-! ===== what is asked is the same when panels have been given out ===== -/
theorem nY_gv (hg : gvR pr pr2) {t : Int} : ∀ n, n ≤ 10 → nY pr2 t n = nY pr t n
  | 0, _ => rfl
  | n + 1, hn => by
    have ih := nY_gv hg (t := t) n (by omega)
    rcases hg n (by omega) with ⟨a, b⟩ | ⟨p, q, a, b, k, -⟩
    · rw [nY_n a, nY_n b, ih]
    · rw [nY_s a, nY_s b, ih, k 9 (by decide), k 10 (by decide), k 1 (by decide)]
theorem ovY_gv (hg : gvR pr pr2) : ∀ n, n ≤ 10 → ovY pr2 n = ovY pr n
  | 0, _ => rfl
  | n + 1, hn => by
    have ih := ovY_gv hg n (by omega)
    rcases hg n (by omega) with ⟨a, b⟩ | ⟨p, q, a, b, k, -⟩
    · rw [ovY_n a, ovY_n b, ih]
    · rw [ovY_s a, ovY_s b, ih, k 9 (by decide), nY_gv hg 10 (Nat.le_refl _)]
theorem cntY_gv (hg : gvR pr pr2) : ∀ n, n ≤ 10 → cntY pr2 n = cntY pr n
  | 0, _ => rfl
  | n + 1, hn => by
    have ih := cntY_gv hg n (by omega)
    rcases hg n (by omega) with ⟨a, b⟩ | ⟨p, q, a, b, -⟩
    · rw [cntY_n a, cntY_n b, ih]
    · rw [cntY_s a, cntY_s b, ih]
theorem FK_c {th th2 : Nat → Bool} {st st2 : Nat → Int} {by1 by2 : Nat → Int → Bool} {nd nd2 : Nat → Int} {n : Int} (h1 : ∀ q, q < 10 → th q = th2 q) (h2 : ∀ q, q < 10 → th q = true → st q = st2 q ∧ nd q = nd2 q) (h3 : ∀ q, q < 10 → ∀ t : Int, by1 q t = by2 q t) : ∀ K, FK th st by1 nd n K = FK th2 st2 by2 nd2 n K
  | 0 => rfl
  | K + 1 => by
    have ih := FK_c (n := n) h1 h2 h3 K
    have hq : K % 10 < 10 := Nat.mod_lt _ (by omega)
    by_cases c : th (K % 10) = true ∧ st (K % 10) = ((K / 10 : Nat) : Int)
    · obtain ⟨e1, e2⟩ := h2 _ hq c.1
      have c2 : th2 (K % 10) = true ∧ st2 (K % 10) = ((K / 10 : Nat) : Int) := ⟨by rw [← h1 _ hq]; exact c.1, by rw [← e1]; exact c.2⟩
      rw [FK_yes c, FK_yes c2, ih]
      funext q k
      unfold sv
      by_cases cq : q = K % 10
      · rw [if_pos cq, if_pos cq, e2]
        have e3 : (fun k => tkn by1 (FK th2 st2 by2 nd2 n K) ((K / 10 : Nat) : Int) k 10) = fun k => tkn by2 (FK th2 st2 by2 nd2 n K) ((K / 10 : Nat) : Int) k 10 := funext fun k => tkn_c 10 (fun q hq => h3 q hq _)
        rw [e3]
      · rw [if_neg cq, if_neg cq]
    · have c2 : ¬ (th2 (K % 10) = true ∧ st2 (K % 10) = ((K / 10 : Nat) : Int)) := fun d => by
        have d1 : th (K % 10) = true := by rw [h1 _ hq]; exact d.1
        exact c ⟨d1, by rw [(h2 _ hq d1).1]; exact d.2⟩
      rw [FK_no c, FK_no c2, ih]
theorem FY_gv (hg : gvR pr pr2) {n : Int} : FY pr2 n 10000 = FY pr n 10000 := by
  unfold FY
  refine FK_c (fun q hq => ?_) (fun q hq c => ?_) (fun q hq t => gvR_bs hg hq t) 10000
  · rcases hg q hq with ⟨a, b⟩ | ⟨p, r, a, b, -⟩
    · rw [thY_0 a, thY_0 b]
    · rw [thY_1 a, thY_1 b]
  · rcases hg q hq with ⟨a, b⟩ | ⟨p, r, a, b, k, -⟩
    · rw [thY_0 b] at c; cases c
    · rw [fdY_1 a, fdY_1 b, fdY_1 a, fdY_1 b, k 9 (by decide), k 1 (by decide)]
      exact ⟨rfl, rfl⟩
theorem gvR_t {pr3 : Nat → Option PS} (h1 : gvR pr pr2) (h2 : gvR pr2 pr3) : gvR pr pr3 := fun i hi => by
  rcases h1 i hi with ⟨a, b⟩ | ⟨p, q, a, b, k⟩
  · rcases h2 i hi with ⟨a2, b2⟩ | ⟨p2, q2, a2, b2, k2⟩
    · exact Or.inl ⟨a, b2⟩
    · rw [b] at a2; cases a2
  · rcases h2 i hi with ⟨a2, b2⟩ | ⟨p2, q2, a2, b2, k2⟩
    · rw [b] at a2; cases a2
    · rw [b] at a2
      cases a2
      exact Or.inr ⟨p, q2, a, b2, gv1_t k k2⟩
end YSS
/-! ===== the greatest need, found both ways ===== -/
theorem mx_at {f : Nat → Int} : ∀ {n k : Nat}, k < n → f k ≤ mx f n
  | 0, k, h => absurd h (Nat.not_lt_zero k)
  | n + 1, k, h => by
    simp only [mx]
    by_cases c : k = n
    · subst c; omega
    · have := mx_at (f := f) (n := n) (k := k) (by omega)
      omega
theorem mx_le {f : Nat → Int} {b : Int} (hb : 0 ≤ b) : ∀ {n : Nat}, (∀ k, k < n → f k ≤ b) → mx f n ≤ b
  | 0, _ => by simp only [mx]; exact hb
  | n + 1, h => by
    simp only [mx]
    have h1 := mx_le hb (n := n) (fun k hk => h k (by omega))
    have h2 := h n (by omega)
    omega
theorem mx_0 {f : Nat → Int} : ∀ n, 0 ≤ mx f n
  | 0 => by simp [mx]
  | n + 1 => by
    simp only [mx]
    have := mx_0 (f := f) n
    omega
/-- of the pours busy in an hour one begins to stand last -/
theorem last_busy {pr : Nat → Option PS} (t : Int) : ∀ n, (∀ i p, i < n → pr i = some p → ¬ (p.1 9 ≤ t ∧ t < p.1 10)) ∨ ∃ i p, i < n ∧ pr i = some p ∧ (p.1 9 ≤ t ∧ t < p.1 10) ∧ ∀ k q, k < n → pr k = some q → (q.1 9 ≤ t ∧ t < q.1 10) → q.1 9 ≤ p.1 9
  | 0 => Or.inl (fun i _ h => absurd h (Nat.not_lt_zero i))
  | n + 1 => by
    have ih := last_busy (pr := pr) t n
    have key : ∀ i, i < n + 1 → i = n ∨ i < n := fun i hi => by omega
    cases hn : pr n with
    | none =>
      rcases ih with c | ⟨i, p, hi, hp, hb, hm⟩
      · refine Or.inl (fun i p hi hp => ?_)
        rcases key i hi with e | e
        · rw [e, hn] at hp; cases hp
        · exact c i p e hp
      · refine Or.inr ⟨i, p, by omega, hp, hb, fun k q hk hq hqb => ?_⟩
        rcases key k hk with e | e
        · rw [e, hn] at hq; cases hq
        · exact hm k q e hq hqb
    | some r =>
      by_cases hr : r.1 9 ≤ t ∧ t < r.1 10
      · rcases ih with c | ⟨i, p, hi, hp, hb, hm⟩
        · refine Or.inr ⟨n, r, by omega, hn, hr, fun k q hk hq hqb => ?_⟩
          rcases key k hk with e | e
          · rw [e, hn] at hq; cases hq; exact Int.le_refl _
          · exact absurd hqb (c k q e hq)
        · by_cases hle : p.1 9 ≤ r.1 9
          · refine Or.inr ⟨n, r, by omega, hn, hr, fun k q hk hq hqb => ?_⟩
            rcases key k hk with e | e
            · rw [e, hn] at hq; cases hq; exact Int.le_refl _
            · have := hm k q e hq hqb
              omega
          · refine Or.inr ⟨i, p, by omega, hp, hb, fun k q hk hq hqb => ?_⟩
            rcases key k hk with e | e
            · rw [e, hn] at hq; cases hq; omega
            · exact hm k q e hq hqb
      · rcases ih with c | ⟨i, p, hi, hp, hb, hm⟩
        · refine Or.inl (fun i p hi hp => ?_)
          rcases key i hi with e | e
          · rw [e, hn] at hp; cases hp; exact hr
          · exact c i p e hp
        · refine Or.inr ⟨i, p, by omega, hp, hb, fun k q hk hq hqb => ?_⟩
          rcases key k hk with e | e
          · rw [e, hn] at hq; cases hq; exact absurd hqb hr
          · exact hm k q e hq hqb
theorem nY_z {pr : Nat → Option PS} {t : Int} : ∀ n, (∀ i p, i < n → pr i = some p → ¬ (p.1 9 ≤ t ∧ t < p.1 10)) → nY pr t n = 0
  | 0, _ => rfl
  | n + 1, h => by
    have ih := nY_z (pr := pr) (t := t) n (fun i p hi => h i p (by omega))
    cases hn : pr n with
    | none => rw [nY_n hn, ih]
    | some p => rw [nY_s hn, ih, if_neg (h n p (by omega) hn)]; rfl
theorem nY_m {pr : Nat → Option PS} {t u : Int} : ∀ n, (∀ i p, i < n → pr i = some p → 0 ≤ p.1 1 ∧ ((p.1 9 ≤ t ∧ t < p.1 10) → (p.1 9 ≤ u ∧ u < p.1 10))) → nY pr t n ≤ nY pr u n
  | 0, _ => Int.le_refl _
  | n + 1, h => by
    have ih := nY_m (pr := pr) (t := t) (u := u) n (fun i p hi => h i p (by omega))
    cases hn : pr n with
    | none => rw [nY_n hn, nY_n hn]; exact ih
    | some p =>
      obtain ⟨h0, h1⟩ := h n p (by omega) hn
      rw [nY_s hn, nY_s hn]
      by_cases c : p.1 9 ≤ t ∧ t < p.1 10
      · rw [if_pos c, if_pos (h1 c)]; omega
      · rw [if_neg c]
        split <;> omega
theorem ovY_at {pr : Nat → Option PS} : ∀ {n i : Nat} {p : PS}, i < n → pr i = some p → nY pr (p.1 9) 10 ≤ ovY pr n
  | 0, i, _, h, _ => absurd h (Nat.not_lt_zero i)
  | n + 1, i, p, h, hp => by
    by_cases c : i = n
    · subst c
      rw [ovY_s hp]
      omega
    · have ih := ovY_at (pr := pr) (n := n) (i := i) (p := p) (by omega) hp
      cases hn : pr n with
      | none => rw [ovY_n hn]; exact ih
      | some r => rw [ovY_s hn]; omega
theorem ovY_le {pr : Nat → Option PS} {b : Int} (hb : 0 ≤ b) : ∀ {n : Nat}, (∀ i p, i < n → pr i = some p → nY pr (p.1 9) 10 ≤ b) → ovY pr n ≤ b
  | 0, _ => by simp only [ovY]; exact hb
  | n + 1, h => by
    have ih := ovY_le hb (n := n) (fun i p hi => h i p (by omega))
    cases hn : pr n with
    | none => rw [ovY_n hn]; exact ih
    | some r =>
      rw [ovY_s hn]
      have := h n r (by omega) hn
      omega
theorem YS.ov {T : Nat → Int} {yi : Nat → Int} {pr : Nat → Option PS} (h : YS T yi pr) : ovY pr 10 = mx (fun j : Nat => nY pr j 10) 1000 := by
  have hA := h.pA
  refine Int.le_antisymm (ovY_le (mx_0 _) (fun i p hi hp => ?_)) (mx_le (ovY_b hA 10).1 (fun k hk => ?_))
  · obtain ⟨h9, -⟩ := h.b9 i p hi hp
    have := mx_at (f := fun j : Nat => nY pr j 10) (n := 1000) (k := (p.1 9).toNat) (by omega)
    rw [show ((p.1 9).toNat : Int) = p.1 9 by omega] at this
    exact this
  · show nY pr (k : Int) 10 ≤ ovY pr 10
    rcases last_busy (pr := pr) (k : Int) 10 with c | ⟨i, p, hi, hp, hb, hm⟩
    · rw [nY_z 10 c]
      exact (ovY_b hA 10).1
    · refine Int.le_trans (nY_m (u := p.1 9) 10 (fun j q hj hq => ?_)) (ovY_at hi hp)
      have h1 := (hA j q hj hq).1.2.2.1
      exact ⟨by omega, fun hc => ⟨hm j q hj hq hc, by omega⟩⟩
/-- the first hour that is short, beside the greatest need -/
def fsY (pr : Nat → Option PS) (n : Int) : Int := if fnd (fun h => n < nY pr h 10) 0 1000 < 1000 then fnd (fun h => n < nY pr h 10) 0 1000 else -1
theorem fsY_b (pr : Nat → Option PS) (n : Int) : -1 ≤ fsY pr n ∧ fsY pr n < 1000 := by
  obtain ⟨h1, -, -, -⟩ := fnd_b (fun h => n < nY pr h 10) 1000 0
  unfold fsY
  split <;> omega
theorem fsY_at {pr : Nat → Option PS} {n t : Int} (h0 : 0 ≤ t) (h1 : t < 1000) (h : n < nY pr t 10) : 0 ≤ fsY pr n ∧ fsY pr n ≤ t := by
  obtain ⟨a1, a2, a3, a4⟩ := fnd_b (fun h => n < nY pr h 10) 1000 0
  have hle : fnd (fun h => n < nY pr h 10) 0 1000 ≤ t := by
    rcases Int.lt_or_le t (fnd (fun h => n < nY pr h 10) 0 1000) with c | c
    · exact absurd h (a4 t h0 c)
    · exact c
  unfold fsY
  rw [if_pos (by omega)]
  exact ⟨a1, hle⟩
theorem fsY_pk {pr : Nat → Option PS} {n : Int} (hn : 0 ≤ n) : mx (fun j : Nat => nY pr j 10) 1000 ≤ n ↔ fsY pr n < 0 := by
  obtain ⟨a1, a2, a3, a4⟩ := fnd_b (fun h => n < nY pr h 10) 1000 0
  constructor
  · intro h
    unfold fsY
    split
    · rename_i c
      exfalso
      have h3 := a3 (by omega)
      have h4 := mx_at (f := fun j : Nat => nY pr j 10) (n := 1000) (k := (fnd (fun h => n < nY pr h 10) 0 1000).toNat) (by omega)
      (try dsimp only at h4)
      rw [show ((fnd (fun h => n < nY pr h 10) 0 1000).toNat : Int) = fnd (fun h => n < nY pr h 10) 0 1000 by omega] at h4
      omega
    · omega
  · intro h
    refine mx_le hn (fun k hk => ?_)
    rcases Int.lt_or_le n (nY pr (k : Int) 10) with c | c
    · have := fsY_at (pr := pr) (n := n) (t := (k : Int)) (by omega) (by omega) c
      omega
    · exact c
/-! ===== panels that are given, counted by pours and by panels ===== -/
theorem lo_cnt {bz : Nat → Bool} {nd n : Int} : ∀ m, sl (fun j => bI (lo bz nd n j)) m ≤ lc bz nd m
  | 0 => Int.le_refl _
  | m + 1 => by
    have ih := lo_cnt (bz := bz) (nd := nd) (n := n) m
    simp only [sl, lc]
    cases hl : lo bz nd n m with
    | false =>
      have : bI false = 0 := rfl
      split <;> omega
    | true =>
      unfold lo at hl
      rw [decide_eq_true_eq] at hl
      rw [if_pos ⟨hl.2.1, hl.2.2⟩]
      have : bI true = 1 := rfl
      omega
section FKT
variable {th : Nat → Bool} {st : Nat → Int} {bsy : Nat → Int → Bool} {nd : Nat → Int} {n : Int}
theorem FK_form : ∀ K q, (∀ k, FK th st bsy nd n K q k = false) ∨ ∃ bz : Nat → Bool, ∀ k, FK th st bsy nd n K q k = lo bz (nd q) n k
  | 0, q => Or.inl (fun _ => rfl)
  | K + 1, q => by
    by_cases c : th (K % 10) = true ∧ st (K % 10) = ((K / 10 : Nat) : Int)
    · rw [FK_yes c]
      unfold sv
      by_cases cq : q = K % 10
      · refine Or.inr ⟨_, fun k => by rw [if_pos cq, cq]⟩
      · rcases FK_form K q with h | ⟨bz, h⟩
        · exact Or.inl (fun k => by rw [if_neg cq]; exact h k)
        · exact Or.inr ⟨bz, fun k => by rw [if_neg cq]; exact h k⟩
    · rw [FK_no c]
      exact FK_form K q
theorem FK_lt {K q k : Nat} (h : FK th st bsy nd n K q k = true) : (k : Int) < n := by
  rcases FK_form (th := th) (st := st) (bsy := bsy) (nd := nd) (n := n) K q with c | ⟨bz, c⟩
  · rw [c k] at h; cases h
  · rw [c k] at h
    unfold lo at h
    rw [decide_eq_true_eq] at h
    exact h.1
theorem FK_cnt {q : Nat} (h0 : 0 ≤ nd q) (K m : Nat) : 0 ≤ sl (fun j => bI (FK th st bsy nd n K q j)) m ∧ sl (fun j => bI (FK th st bsy nd n K q j)) m ≤ nd q := by
  have hb := sl_b (f := fun j => bI (FK th st bsy nd n K q j)) (a := 0) (b := 1) (n := m) (fun k _ => by
    (try dsimp only)
    rcases bI_b (FK th st bsy nd n K q k) with ⟨h, -⟩ | ⟨h, -⟩ <;> omega)
  refine ⟨by omega, ?_⟩
  rcases FK_form (th := th) (st := st) (bsy := bsy) (nd := nd) (n := n) K q with c | ⟨bz, c⟩
  · have e : sl (fun j => bI (FK th st bsy nd n K q j)) m = sl (fun _ => 0) m := sl_c (fun k _ => by rw [c k]; rfl)
    have hz := sl_b (f := fun _ => 0) (a := 0) (b := 0) (n := m) (fun _ _ => by omega)
    rw [e]
    omega
  · have e : sl (fun j => bI (FK th st bsy nd n K q j)) m = sl (fun j => bI (lo bz (nd q) n j)) m := sl_c (fun k _ => by rw [c k])
    rw [e]
    exact Int.le_trans (lo_cnt m) (lc_b h0 m).2.2
end FKT
theorem sl_add {f g : Nat → Int} : ∀ n, sl (fun k => f k + g k) n = sl f n + sl g n
  | 0 => rfl
  | n + 1 => by
    simp only [sl]
    rw [sl_add n]
    omega
theorem sl_z : ∀ n, sl (fun _ => 0) n = 0
  | 0 => rfl
  | n + 1 => by
    simp only [sl]
    rw [sl_z n]
    rfl
theorem sl_cut {f : Nat → Int} (n : Nat) : ∀ d, (∀ k, n ≤ k → f k = 0) → sl f (n + d) = sl f n
  | 0, _ => rfl
  | d + 1, h => by
    show sl f (n + d) + f (n + d) = _
    rw [sl_cut n d h, h (n + d) (by omega)]
    omega
/-- panels given to the pours below i that are busy in the hour -/
def gS (pr : Nat → Option PS) (n h : Int) : Nat → Int
  | 0 => 0
  | i + 1 => gS pr n h i + (if bsY pr i h = true then sl (fun j => bI (FY pr n 10000 i j)) 60 else 0)
section GSS
variable {pr : Nat → Option PS} {n h : Int}
theorem tk_one {k q : Nat} (hq : q < 10) : bI (tkn (bsY pr) (FY pr n 10000) h k (q + 1)) = bI (tkn (bsY pr) (FY pr n 10000) h k q) + bI (FY pr n 10000 q k && bsY pr q h) := by
  have hb : ∀ q h, bsY pr q h = true → fdY pr 9 q ≤ h := fun q h c => (of_decide_eq_true c).2.1
  have hb2 : ∀ q h h2, bsY pr q h = true → fdY pr 9 q ≤ h2 → h2 ≤ h → bsY pr q h2 = true := fun q t u c c1 c2 => by
    have c3 := of_decide_eq_true c
    exact decide_eq_true ⟨c3.1, c1, by omega⟩
  simp only [tkn]
  cases hx : (FY pr n 10000 q k && bsY pr q h) with
  | false => rw [Bool.or_false]; exact (Int.add_zero _).symm
  | true =>
    have hf : tkn (bsY pr) (FY pr n 10000) h k q = false := by
      cases ht : tkn (bsY pr) (FY pr n 10000) h k q with
      | false => rfl
      | true =>
        exfalso
        obtain ⟨a, ha, h1, h2⟩ := (tkn_iff q).mp ht
        rw [Bool.and_eq_true] at hx
        have := FK_one (th := thY pr) (st := fdY pr 9) (bsy := bsY pr) (nd := fdY pr 1) (n := n) hb hb2 10000 a q k h h1 hx.1 h2 hx.2
        omega
    rw [hf]
    rfl
theorem gS_eq : ∀ q, q ≤ 10 → sl (fun k => bI (tkn (bsY pr) (FY pr n 10000) h k q)) 60 = gS pr n h q
  | 0, _ => by
    have e : sl (fun k => bI (tkn (bsY pr) (FY pr n 10000) h k 0)) 60 = sl (fun _ => 0) 60 := sl_c (fun _ _ => rfl)
    rw [e, sl_z]
    rfl
  | q + 1, hq => by
    have ih := gS_eq q (by omega)
    have e : sl (fun k => bI (tkn (bsY pr) (FY pr n 10000) h k (q + 1))) 60 = sl (fun k => bI (tkn (bsY pr) (FY pr n 10000) h k q) + bI (FY pr n 10000 q k && bsY pr q h)) 60 := sl_c (fun k _ => tk_one (by omega))
    rw [e, sl_add, ih]
    simp only [gS]
    congr 1
    by_cases c : bsY pr q h = true
    · rw [if_pos c]
      exact sl_c (fun k _ => by rw [c, Bool.and_true])
    · rw [if_neg c]
      have c2 : bsY pr q h = false := by
        cases hx : bsY pr q h with
        | false => rfl
        | true => exact absurd hx c
      have e2 : sl (fun k => bI (FY pr n 10000 q k && bsY pr q h)) 60 = sl (fun _ => 0) 60 := sl_c (fun k _ => by rw [c2, Bool.and_false]; rfl)
      rw [e2, sl_z]
theorem busy_eq (h0 : 0 ≤ n) (h1 : n ≤ 60) : sl (fun k => bI (tkn (bsY pr) (FY pr n 10000) h k 10)) n.toNat = gS pr n h 10 := by
  rw [← gS_eq 10 (Nat.le_refl _)]
  have e := sl_cut (f := fun k => bI (tkn (bsY pr) (FY pr n 10000) h k 10)) n.toNat (60 - n.toNat) (fun k hk => by
    have hf : tkn (bsY pr) (FY pr n 10000) h k 10 = false := by
      cases ht : tkn (bsY pr) (FY pr n 10000) h k 10 with
      | false => rfl
      | true =>
        exfalso
        obtain ⟨a, ha, c1, c2⟩ := (tkn_iff 10).mp ht
        have := FK_lt c1
        omega
    (try dsimp only)
    rw [hf]
    rfl)
  rw [show n.toNat + (60 - n.toNat) = 60 by omega] at e
  exact e.symm
theorem FY_cnt {T : Nat → Int} {yi : Nat → Int} (hY : YS T yi pr) {i : Nat} {p : PS} (hi : i < 10) (hp : pr i = some p) : 0 ≤ sl (fun j => bI (FY pr n 10000 i j)) 60 ∧ sl (fun j => bI (FY pr n 10000 i j)) 60 ≤ p.1 1 := by
  have h1 := (hY.b9 i p hi hp).2.2
  have h2 := FK_cnt (th := thY pr) (st := fdY pr 9) (bsy := bsY pr) (nd := fdY pr 1) (n := n) (q := i) (by rw [fdY_1 hp]; omega) 10000 60
  rw [fdY_1 hp] at h2
  exact h2
theorem gS_le {T : Nat → Int} {yi : Nat → Int} (hY : YS T yi pr) : ∀ i, i ≤ 10 → 0 ≤ gS pr n h i ∧ gS pr n h i ≤ nY pr h i
  | 0, _ => by simp [gS, nY]
  | i + 1, hi => by
    have ih := gS_le hY i (by omega)
    simp only [gS]
    cases hp : pr i with
    | none => rw [nY_n hp, bsY_0 hp, if_neg (by decide)]; omega
    | some p =>
      have h1 := FY_cnt (n := n) hY (by omega) hp
      have h2 := (hY.b9 i p (by omega) hp).2.2
      rw [nY_s hp]
      by_cases c : p.1 9 ≤ h ∧ h < p.1 10
      · rw [if_pos c, if_pos ((bsY_1 hp).mpr c)]; omega
      · rw [if_neg c, if_neg (fun d => c ((bsY_1 hp).mp d))]; omega
end GSS
