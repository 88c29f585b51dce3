/-! ===== the answers are the same ===== -/
section ANS
variable {mi : Nat → Int} {ma ya : Nat → Nat → Int} {yi : Nat → Int} {pr : Nat → Option PS}
theorem RR.cnt (h : RR mi ma ya yi pr) : ∀ n, n ≤ 10 → cntY pr n = sl (ma 7) n
  | 0, _ => rfl
  | n + 1, hn => by
    have ih := h.cnt n (by omega)
    rcases h.2.2.2.2.2 n (by omega) with ⟨h7, hp⟩ | ⟨h7, p, hp, -⟩
    · rw [cntY_n hp, ih]
      simp only [sl]
      omega
    · rw [cntY_s hp, ih]
      simp only [sl]
      omega
theorem mx_c {f g : Nat → Int} : ∀ {n : Nat}, (∀ k, k < n → f k = g k) → mx f n = mx g n
  | 0, _ => rfl
  | n + 1, h => by
    simp only [mx]
    rw [mx_c (fun k hk => h k (by omega)), h n (by omega)]
theorem mx_at {f : Nat → Int} : ∀ {n k : Nat}, k < n → f k ≤ mx f n
  | 0, k, h => absurd h (Nat.not_lt_zero k)
  | n + 1, k, h => by
    simp only [mx]
    by_cases c : k = n
    · subst c; omega
    · have := mx_at (f := f) (n := n) (k := k) (by omega)
      omega
theorem mx_le {f : Nat → Int} {b : Int} (hb : 0 ≤ b) : ∀ {n : Nat}, (∀ k, k < n → f k ≤ b) → mx f n ≤ b
  | 0, _ => by simp only [mx]; exact hb
  | n + 1, h => by
    simp only [mx]
    have h1 := mx_le hb (n := n) (fun k hk => h k (by omega))
    have h2 := h n (by omega)
    omega
theorem mx_0 {f : Nat → Int} : ∀ n, 0 ≤ mx f n
  | 0 => by simp [mx]
  | n + 1 => by
    simp only [mx]
    have := mx_0 (f := f) n
    omega
theorem RR.pk (h : RR mi ma ya yi pr) : mx (fun j : Nat => nY pr j 10) 1000 = pkS mi ma := mx_c (fun k hk => h.need (t := (k : Int)) (by omega) 10 (Nat.le_refl _))
/-- of the pours busy in an hour one begins to stand last -/
theorem last_busy {pr : Nat → Option PS} (t : Int) : ∀ n, (∀ i p, i < n → pr i = some p → ¬ (p.1 9 ≤ t ∧ t < p.1 10)) ∨ ∃ i p, i < n ∧ pr i = some p ∧ (p.1 9 ≤ t ∧ t < p.1 10) ∧ ∀ k q, k < n → pr k = some q → (q.1 9 ≤ t ∧ t < q.1 10) → q.1 9 ≤ p.1 9
  | 0 => Or.inl (fun i _ h => absurd h (Nat.not_lt_zero i))
  | n + 1 => by
    have ih := last_busy (pr := pr) t n
    have key : ∀ i, i < n + 1 → i = n ∨ i < n := fun i hi => by omega
    cases hn : pr n with
    | none =>
      rcases ih with c | ⟨i, p, hi, hp, hb, hm⟩
      · refine Or.inl (fun i p hi hp => ?_)
        rcases key i hi with e | e
        · rw [e, hn] at hp; cases hp
        · exact c i p e hp
      · refine Or.inr ⟨i, p, by omega, hp, hb, fun k q hk hq hqb => ?_⟩
        rcases key k hk with e | e
        · rw [e, hn] at hq; cases hq
        · exact hm k q e hq hqb
    | some r =>
      by_cases hr : r.1 9 ≤ t ∧ t < r.1 10
      · rcases ih with c | ⟨i, p, hi, hp, hb, hm⟩
        · refine Or.inr ⟨n, r, by omega, hn, hr, fun k q hk hq hqb => ?_⟩
          rcases key k hk with e | e
          · rw [e, hn] at hq; cases hq; exact Int.le_refl _
          · exact absurd hqb (c k q e hq)
        · by_cases hle : p.1 9 ≤ r.1 9
          · refine Or.inr ⟨n, r, by omega, hn, hr, fun k q hk hq hqb => ?_⟩
            rcases key k hk with e | e
            · rw [e, hn] at hq; cases hq; exact Int.le_refl _
            · have := hm k q e hq hqb
              omega
          · refine Or.inr ⟨i, p, by omega, hp, hb, fun k q hk hq hqb => ?_⟩
            rcases key k hk with e | e
            · rw [e, hn] at hq; cases hq; omega
            · exact hm k q e hq hqb
      · rcases ih with c | ⟨i, p, hi, hp, hb, hm⟩
        · refine Or.inl (fun i p hi hp => ?_)
          rcases key i hi with e | e
          · rw [e, hn] at hp; cases hp; exact hr
          · exact c i p e hp
        · refine Or.inr ⟨i, p, by omega, hp, hb, fun k q hk hq hqb => ?_⟩
          rcases key k hk with e | e
          · rw [e, hn] at hq; cases hq; exact absurd hqb hr
          · exact hm k q e hq hqb
theorem nY_z {pr : Nat → Option PS} {t : Int} : ∀ n, (∀ i p, i < n → pr i = some p → ¬ (p.1 9 ≤ t ∧ t < p.1 10)) → nY pr t n = 0
  | 0, _ => rfl
  | n + 1, h => by
    have ih := nY_z (pr := pr) (t := t) n (fun i p hi => h i p (by omega))
    cases hn : pr n with
    | none => rw [nY_n hn, ih]
    | some p => rw [nY_s hn, ih, if_neg (h n p (by omega) hn)]; rfl
theorem nY_m {pr : Nat → Option PS} {t u : Int} : ∀ n, (∀ i p, i < n → pr i = some p → 0 ≤ p.1 1 ∧ ((p.1 9 ≤ t ∧ t < p.1 10) → (p.1 9 ≤ u ∧ u < p.1 10))) → nY pr t n ≤ nY pr u n
  | 0, _ => Int.le_refl _
  | n + 1, h => by
    have ih := nY_m (pr := pr) (t := t) (u := u) n (fun i p hi => h i p (by omega))
    cases hn : pr n with
    | none => rw [nY_n hn, nY_n hn]; exact ih
    | some p =>
      obtain ⟨h0, h1⟩ := h n p (by omega) hn
      rw [nY_s hn, nY_s hn]
      by_cases c : p.1 9 ≤ t ∧ t < p.1 10
      · rw [if_pos c, if_pos (h1 c)]; omega
      · rw [if_neg c]
        split <;> omega
theorem ovY_at {pr : Nat → Option PS} : ∀ {n i : Nat} {p : PS}, i < n → pr i = some p → nY pr (p.1 9) 10 ≤ ovY pr n
  | 0, i, _, h, _ => absurd h (Nat.not_lt_zero i)
  | n + 1, i, p, h, hp => by
    by_cases c : i = n
    · subst c
      rw [ovY_s hp]
      omega
    · have ih := ovY_at (pr := pr) (n := n) (i := i) (p := p) (by omega) hp
      cases hn : pr n with
      | none => rw [ovY_n hn]; exact ih
      | some r => rw [ovY_s hn]; omega
theorem ovY_le {pr : Nat → Option PS} {b : Int} (hb : 0 ≤ b) : ∀ {n : Nat}, (∀ i p, i < n → pr i = some p → nY pr (p.1 9) 10 ≤ b) → ovY pr n ≤ b
  | 0, _ => by simp only [ovY]; exact hb
  | n + 1, h => by
    have ih := ovY_le hb (n := n) (fun i p hi => h i p (by omega))
    cases hn : pr n with
    | none => rw [ovY_n hn]; exact ih
    | some r =>
      rw [ovY_s hn]
      have := h n r (by omega) hn
      omega
theorem RR.b9 (h : RR mi ma ya yi pr) : ∀ i p, i < 10 → pr i = some p → (0 ≤ p.1 9 ∧ p.1 9 ≤ 900) ∧ (0 ≤ p.1 10 ∧ p.1 10 ≤ 1000) ∧ 1 ≤ p.1 1 ∧ p.1 1 ≤ 30 := fun i p hi hp => by
  obtain ⟨hb, -, h10⟩ := h.pAd i p hi hp
  rcases h.pt hi with ⟨-, hn⟩ | ⟨p2, h7, hp2, ht, hs, -, -, -, e9, -⟩
  · rw [hn] at hp; cases hp
  · rw [hp2] at hp
    cases hp
    have hP := h.1.2.2.2 i hi h7
    obtain ⟨g1, g2, g3, g4, g5, g6⟩ := h.1.2.1
    have h8 := hP.1
    have a1 : 0 ≤ stS mi ma i ∧ stS mi ma i ≤ 900 := by unfold stS standS; split <;> omega
    exact ⟨by omega, h10, hb.2.2.1⟩
theorem RR.ov (h : RR mi ma ya yi pr) : ovY pr 10 = pkS mi ma := by
  rw [← h.pk]
  have hA := h.pAd
  refine Int.le_antisymm (ovY_le (mx_0 _) (fun i p hi hp => ?_)) (mx_le (ovY_b hA 10).1 (fun k hk => ?_))
  · obtain ⟨h9, -⟩ := h.b9 i p hi hp
    have := mx_at (f := fun j : Nat => nY pr j 10) (n := 1000) (k := (p.1 9).toNat) (by omega)
    rw [show ((p.1 9).toNat : Int) = p.1 9 by omega] at this
    exact this
  · show nY pr (k : Int) 10 ≤ ovY pr 10
    rcases last_busy (pr := pr) (k : Int) 10 with c | ⟨i, p, hi, hp, hb, hm⟩
    · rw [nY_z 10 c]
      exact (ovY_b hA 10).1
    · refine Int.le_trans (nY_m (u := p.1 9) 10 (fun j q hj hq => ?_)) (ovY_at hi hp)
      have h1 := (hA j q hj hq).1.2.2.1
      exact ⟨by omega, fun hc => ⟨hm j q hj hq hc, by omega⟩⟩
theorem fnd_c {P Q : Int → Prop} [DecidablePred P] [DecidablePred Q] : ∀ {n : Nat} {h : Int}, (∀ x, h ≤ x → x < h + n → (P x ↔ Q x)) → fnd P h n = fnd Q h n
  | 0, _, _ => rfl
  | n + 1, h, hx => by
    have ih := fnd_c (P := P) (Q := Q) (n := n) (h := h + 1) (fun x a b => hx x (by omega) (by omega))
    have h0 := hx h (by omega) (by omega)
    simp only [fnd]
    by_cases c : P h
    · rw [if_pos c, if_pos (h0.mp c)]
    · rw [if_neg c, if_neg (fun d => c (h0.mpr d)), ih]
theorem RR.fs (h : RR mi ma ya yi pr) : (if fnd (fun h => yi 5 < nY pr h 10) 0 1000 < 1000 then fnd (fun h => yi 5 < nY pr h 10) 0 1000 else -1) = fsS mi ma := by
  have e : fnd (fun h => yi 5 < nY pr h 10) 0 1000 = fnd (fun h => mi 2 < nS mi ma h 10) 0 1000 := fnd_c (fun x a b => by
    rw [h.2.1.1, h.need (t := x) (by omega) 10 (Nat.le_refl _)])
  unfold fsS
  rw [e]
theorem RR.fit (h : RR mi ma ya yi pr) {b d f s : Int} : feY (ya 0) yi (fun h => nY pr h 10) b d f s ↔ fitS mi ma b d f s := by
  unfold feY fitS fitU
  rw [h.2.1.1, h.2.1.2.1, h.2.1.2.2.1, h.2.1.2.2.2, strikeS_c h.2.2.1]
  constructor
  · intro k x x1 x2 x3
    have := k x x1 x2 x3
    dsimp only at this ⊢
    rw [h.need (t := x) x3 10 (Nat.le_refl _)] at this
    exact this
  · intro k x x1 x2 x3
    have := k x x1 x2 x3
    dsimp only at this ⊢
    rw [h.need (t := x) x3 10 (Nat.le_refl _)]
    exact this
theorem RR.ear (h : RR mi ma ya yi pr) {a b d f z y : Int} (hy : earY (ya 0) yi (fun h => nY pr h 10) a b d f y) (hz : earS mi ma a b d f z) : y = z := by
  rcases hy with ⟨y1, y2, y3, y4⟩ | ⟨y1, y2⟩
  · rcases hz with ⟨z1, z2, z3, z4⟩ | ⟨z1, z2⟩
    · rcases Int.lt_trichotomy y z with c | c | c
      · exact absurd (h.fit.mp y3) (z4 y y1 c)
      · exact c
      · exact absurd (h.fit.mpr z3) (y4 z z1 c)
    · exact absurd (h.fit.mp y3) (z2 y y1 y2)
  · rcases hz with ⟨z1, z2, z3, z4⟩ | ⟨z1, z2⟩
    · exact absurd (h.fit.mpr z3) (y2 z z1 z2)
    · rw [y1, z1]
theorem RR.cj (h : RR mi ma ya yi pr) {i : Nat} (hi : i < 10) {p : PS} (h7 : ma 7 i = 1) (ht : tell ma i p) : sl (cyF (ya 0) yi p) (p.1 4).toNat = sl (cjF mi ma i) (ma 12 i).toNat := by
  obtain ⟨t1, t2, t3, t4, t5, t6⟩ := ht
  rw [t5]
  refine sl_c (fun k hk => ?_)
  have hk2 : (k : Int) < ma 12 i := by omega
  obtain ⟨s1, s2⟩ := t6 k hk2
  have e1 : cyB yi p k = cjB mi ma i k := by
    unfold cyB cjB
    rw [t1, s1, h.2.1.2.1, sl_c (f := p.2.2.1) (g := fun j => ma 14 (4 * i + j)) (fun j hj => (t6 j (by omega)).2)]
  unfold cyF cjF
  rw [e1, s2, mat_c h.2.2.1]
theorem FK_c {th th2 : Nat → Bool} {st st2 : Nat → Int} {by1 by2 : Nat → Int → Bool} {nd nd2 : Nat → Int} {n : Int} (h1 : ∀ q, q < 10 → th q = th2 q) (h2 : ∀ q, q < 10 → th q = true → st q = st2 q ∧ nd q = nd2 q) (h3 : ∀ q, q < 10 → ∀ t : Int, t < 1000 → by1 q t = by2 q t) : ∀ K, K ≤ 10000 → FK th st by1 nd n K = FK th2 st2 by2 nd2 n K
  | 0, _ => rfl
  | K + 1, hK => by
    have ih := FK_c (n := n) h1 h2 h3 K (by omega)
    have hq : K % 10 < 10 := Nat.mod_lt _ (by omega)
    have hd : ((K / 10 : Nat) : Int) < 1000 := by omega
    by_cases c : th (K % 10) = true ∧ st (K % 10) = ((K / 10 : Nat) : Int)
    · obtain ⟨e1, e2⟩ := h2 _ hq c.1
      have c2 : th2 (K % 10) = true ∧ st2 (K % 10) = ((K / 10 : Nat) : Int) := ⟨by rw [← h1 _ hq]; exact c.1, by rw [← e1]; exact c.2⟩
      rw [FK_yes c, FK_yes c2, ih]
      funext q k
      unfold sv
      by_cases cq : q = K % 10
      · rw [if_pos cq, if_pos cq, e2]
        have e3 : (fun k => tkn by1 (FK th2 st2 by2 nd2 n K) ((K / 10 : Nat) : Int) k 10) = fun k => tkn by2 (FK th2 st2 by2 nd2 n K) ((K / 10 : Nat) : Int) k 10 := funext fun k => tkn_c 10 (fun q hq => h3 q hq _ hd)
        rw [e3]
      · rw [if_neg cq, if_neg cq]
    · have c2 : ¬ (th2 (K % 10) = true ∧ st2 (K % 10) = ((K / 10 : Nat) : Int)) := fun d => by
        have d1 : th (K % 10) = true := by rw [h1 _ hq]; exact d.1
        exact c ⟨d1, by rw [(h2 _ hq d1).1]; exact d.2⟩
      rw [FK_no c, FK_no c2, ih]
theorem RR.th (h : RR mi ma ya yi pr) {q : Nat} (hq : q < 10) : thY pr q = thM ma q := by
  rcases h.2.2.2.2.2 q hq with ⟨h7, hp⟩ | ⟨h7, p, hp, -⟩
  · rw [thY_0 hp]
    unfold thM
    rw [h7]
    rfl
  · rw [thY_1 hp]
    unfold thM
    rw [h7]
    rfl
theorem RR.bs (h : RR mi ma ya yi pr) {q : Nat} (hq : q < 10) {t : Int} (ht : t < 1000) : bsY pr q t = bsM mi ma q t := by
  rcases h.pt hq with ⟨h7, hp⟩ | ⟨p, h7, hp, -, -, -, -, -, e9, e10⟩
  · rw [bsY_0 hp]
    unfold bsM
    rw [h7]
    exact (decide_eq_false (fun c => absurd c.1 (by decide))).symm
  · by_cases c : p.1 9 ≤ t ∧ t < p.1 10
    · rw [(bsY_1 hp).mpr c]
      unfold bsM
      exact (decide_eq_true ⟨h7, by omega, by omega⟩).symm
    · have : bsY pr q t = false := by
        cases hb : bsY pr q t with
        | false => rfl
        | true => exact absurd ((bsY_1 hp).mp hb) c
      rw [this]
      unfold bsM
      exact (decide_eq_false (fun d => c ⟨by omega, by omega⟩)).symm
theorem RR.F (h : RR mi ma ya yi pr) : FY pr (yi 5) 10000 = FM mi ma 10000 := by
  unfold FY FM
  rw [h.2.1.1]
  refine FK_c (fun q hq => h.th hq) (fun q hq c => ?_) (fun q hq t ht => h.bs hq ht) 10000 (Nat.le_refl _)
  rcases h.pt hq with ⟨h7, hp⟩ | ⟨p, h7, hp, ht, -, -, -, -, e9, -⟩
  · rw [thY_0 hp] at c; cases c
  · rw [fdY_1 hp, fdY_1 hp, e9, ht.2.2.1]
    exact ⟨rfl, rfl⟩
theorem RR.po (h : RR mi ma ya yi pr) {k : Nat} {t y z : Int} (ht : t < 1000)
    (hy : (y = -1 ∧ ∀ q, q < 10 → ¬ (∃ p, pr q = some p ∧ FY pr (yi 5) 10000 q k = true ∧ p.1 9 ≤ t ∧ t < p.1 10)) ∨ (0 ≤ y ∧ y < 10 ∧ (∃ p, pr y.toNat = some p ∧ FY pr (yi 5) 10000 y.toNat k = true ∧ p.1 9 ≤ t ∧ t < p.1 10)))
    (hz : (z = -1 ∧ ∀ q, q < 10 → ¬ (FM mi ma 10000 q k = true ∧ bsM mi ma q t = true)) ∨ (0 ≤ z ∧ z < 10 ∧ (FM mi ma 10000 z.toNat k = true ∧ bsM mi ma z.toNat t = true))) : y = z := by
  have eq : ∀ q, q < 10 → ((∃ p, pr q = some p ∧ FY pr (yi 5) 10000 q k = true ∧ p.1 9 ≤ t ∧ t < p.1 10) ↔ (FM mi ma 10000 q k = true ∧ bsM mi ma q t = true)) := fun q hq => by
    rw [h.F, ← h.bs hq ht]
    constructor
    · rintro ⟨p, hp, h1, h2⟩
      exact ⟨h1, (bsY_1 hp).mpr h2⟩
    · rintro ⟨h1, h2⟩
      cases hp : pr q with
      | none => rw [bsY_0 hp] at h2; cases h2
      | some p => exact ⟨p, rfl, h1, (bsY_1 hp).mp h2⟩
  have hb : ∀ q t, bsM mi ma q t = true → stS mi ma q ≤ t := fun q t c => (of_decide_eq_true c).2.1
  have hb2 : ∀ q t u, bsM mi ma q t = true → stS mi ma q ≤ u → u ≤ t → bsM mi ma q u = true := fun q t u c c1 c2 => by
    have c3 := of_decide_eq_true c
    exact decide_eq_true ⟨c3.1, c1, by omega⟩
  rcases hy with ⟨y1, y2⟩ | ⟨y1, y2, y3⟩
  · rcases hz with ⟨z1, z2⟩ | ⟨z1, z2, z3⟩
    · rw [y1, z1]
    · exact absurd ((eq z.toNat (by omega)).mpr z3) (y2 z.toNat (by omega))
  · have y4 := (eq y.toNat (by omega)).mp y3
    rcases hz with ⟨z1, z2⟩ | ⟨z1, z2, z3⟩
    · exact absurd y4 (z2 y.toNat (by omega))
    · have := FK_one hb hb2 10000 y.toNat z.toNat k t y4.1 z3.1 y4.2 z3.2
      omega
end ANS
