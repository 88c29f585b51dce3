def pkS (mi : Nat → Int) (ma : Nat → Nat → Int) : Int := mx (fun j => nS mi ma j 10) 1000
theorem pkS_0 {mi : Nat → Int} {ma : Nat → Nat → Int} {c : Int} : mx (fun j : Nat => nS (va_up mi 0 c) ma j 10) 1000 = pkS mi ma := by
  unfold pkS
  rw [show (fun j : Nat => nS (va_up mi 0 c) ma j 10) = (fun j : Nat => nS mi ma j 10) from funext fun j => nS_0 10]
theorem mx_b {f : Nat → Int} {b : Int} (hb : 0 ≤ b) : ∀ {n : Nat}, (∀ k, k < n → f k ≤ b) → 0 ≤ mx f n ∧ mx f n ≤ b
  | 0, _ => by simp [mx]; exact hb
  | n + 1, h => by
    have h1 := mx_b (f := f) (n := n) hb (fun k hk => h k (by omega))
    have h2 := h n (by omega)
    simp only [mx]
    omega
def fsS (mi : Nat → Int) (ma : Nat → Nat → Int) : Int := if fnd (fun h => mi 2 < nS mi ma h 10) 0 1000 < 1000 then fnd (fun h => mi 2 < nS mi ma h 10) 0 1000 else -1
/-- a further pour's panels fit in all of its hours -/
def fitU (N : Int → Int) (pn many lo hi : Int) : Prop := ∀ h, lo ≤ h → h < hi → h < 1000 → N h + many ≤ pn
def fitS (mi : Nat → Int) (ma : Nat → Nat → Int) (vol many str st : Int) : Prop := fitU (fun h => nS mi ma h 10) (mi 2) many (standS (mi 5) st) (freeS (mi 6) (strikeS (ma 1) str (st + (vol + min (mi 3) (mi 4) - 1) / min (mi 3) (mi 4))))
def earS (mi : Nat → Int) (ma : Nat → Nat → Int) (fr vol many str z : Int) : Prop := (fr ≤ z ∧ z ≤ 900 ∧ fitS mi ma vol many str z ∧ ∀ s, fr ≤ s → s < z → ¬ fitS mi ma vol many str s) ∨ (z = -1 ∧ ∀ s, fr ≤ s → s ≤ 900 → ¬ fitS mi ma vol many str s)
theorem nsum_c {ma mb : Nat → Nat → Int} {h : Int} : ∀ n, (∀ p, p < n → mb 7 p = ma 7 p ∧ mb 15 p = ma 15 p ∧ mb 17 p = ma 17 p ∧ mb 10 p = ma 10 p) → nsum mb h n = nsum ma h n
  | 0, _ => rfl
  | n + 1, hp => by
    obtain ⟨e1, e2, e3, e4⟩ := hp n (by omega)
    simp only [nsum]
    rw [nsum_c n (fun p q => hp p (by omega)), e1, e2, e3, e4]
/-- only the further pour's places may differ -/
def eU (ma mb : Nat → Nat → Int) : Prop := ∀ r j, (j ≠ 10 ∨ r < 8 ∨ 17 < r ∨ r = 13 ∨ r = 14) → mb r j = ma r j
/-- where a break goes -/
def ipos (f : Nat → Int) (v : Int) : Nat → Nat
  | 0 => 0
  | n + 1 => if v < f n then ipos f v n else n + 1
def ins (f : Nat → Int) (k : Nat) (v : Int) : Nat → Int := fun i => if i < k then f i else if i = k then v else f (i - 1)
theorem ipos_b (f : Nat → Int) (v : Int) : ∀ n, ipos f v n ≤ n
  | 0 => Nat.le_refl _
  | n + 1 => by
    have := ipos_b f v n
    simp only [ipos]
    split <;> omega
theorem ipos_c {f g : Nat → Int} (v : Int) : ∀ n, (∀ i, i < n → f i = g i) → ipos f v n = ipos g v n
  | 0, _ => rfl
  | n + 1, h => by
    simp only [ipos]
    rw [ipos_c v n (fun i hi => h i (by omega)), h n (by omega)]
/-- the state while a break is being put in: k is free, what was from k on stands one further -/
def dlI (f g : Nat → Int) (k nb : Nat) : Prop := (∀ i, i < k → g i = f i) ∧ (∀ i, k < i → i ≤ nb → g i = f (i - 1)) ∧ ∀ i, nb < i → g i = f i
theorem dlI_0 {f : Nat → Int} {nb : Nat} : dlI f f nb nb := ⟨fun _ _ => rfl, fun i h1 h2 => absurd h1 (by omega), fun _ _ => rfl⟩
theorem dlI_s {f g : Nat → Int} {k nb : Nat} (h : dlI f g (k + 1) nb) (hk : k + 1 ≤ nb) : dlI f (va_up g (k + 1) (g k)) k nb := by
  obtain ⟨h1, h2, h3⟩ := h
  refine ⟨fun i hi => ?_, fun i h4 h5 => ?_, fun i hi => ?_⟩
  · rw [up_ne _ _ (by omega)]
    exact h1 i (by omega)
  · by_cases hi : i = k + 1
    · subst hi
      rw [up_same]
      exact h1 k (by omega)
    · rw [up_ne _ _ hi]
      exact h2 i (by omega) h5
  · rw [up_ne _ _ (by omega)]
    exact h3 i hi
theorem dlI_e {f g : Nat → Int} {k nb : Nat} (h : dlI f g k nb) (v : Int) (hk : k ≤ nb) : (∀ i, i ≤ nb → va_up g k v i = ins f k v i) ∧ ∀ i, nb < i → va_up g k v i = f i := by
  obtain ⟨h1, h2, h3⟩ := h
  refine ⟨fun i hi => ?_, fun i hi => ?_⟩
  · unfold ins
    rcases Nat.lt_trichotomy i k with q | q | q
    · rw [if_pos q, up_ne _ _ (by omega)]
      exact h1 i q
    · subst q
      rw [up_same, if_neg (by omega), if_pos rfl]
    · rw [if_neg (by omega), if_neg (by omega), up_ne _ _ (by omega)]
      exact h2 i q hi
  · rw [up_ne _ _ (by omega)]
    exact h3 i hi
/-- what a break's telling makes of the rows -/
def dlR (p : Nat) (part hours : Int) (ma mb : Nat → Nat → Int) : Prop := mb 12 = va_up (ma 12) p (ma 12 p + 1) ∧ (∀ i : Nat, (i : Int) ≤ ma 12 p → mb 13 (4 * p + i) = ins (fun j => ma 13 (4 * p + j)) (ipos (fun j => ma 13 (4 * p + j)) part (ma 12 p).toNat) part i ∧ mb 14 (4 * p + i) = ins (fun j => ma 14 (4 * p + j)) (ipos (fun j => ma 13 (4 * p + j)) part (ma 12 p).toNat) hours i) ∧ (∀ j, (j < 4 * p ∨ 4 * p + 4 ≤ j) → mb 13 j = ma 13 j ∧ mb 14 j = ma 14 j) ∧ ∀ r, (r < 12 ∨ 14 < r) → mb r = ma r
theorem eU_row {ma mb : Nat → Nat → Int} (h : eU ma mb) {r : Nat} (hr : r < 8 ∨ 17 < r ∨ r = 13 ∨ r = 14) : mb r = ma r := funext fun j => h r j (by omega)
theorem eU_t {ma mb mc : Nat → Nat → Int} (h1 : eU ma mb) (h2 : eU mb mc) : eU ma mc := fun r j a => (h2 r j a).trans (h1 r j a)
theorem eU_l {a b d f : Int} {ma mb : Nat → Nat → Int} (h : layR 10 a b d f ma mb) : eU ma mb := by
  obtain ⟨h8, h9, h10, h11, h12, hr⟩ := h
  intro r j hj
  rcases Nat.lt_or_ge r 8 with q | q
  · rw [hr r (by omega)]
  · rcases Nat.lt_or_ge 12 r with q2 | q2
    · rw [hr r (by omega)]
    · rcases (show r = 8 ∨ r = 9 ∨ r = 10 ∨ r = 11 ∨ r = 12 by omega) with rfl | rfl | rfl | rfl | rfl
      · rw [h8, up_ne _ _ (by omega)]
      · rw [h9, up_ne _ _ (by omega)]
      · rw [h10, up_ne _ _ (by omega)]
      · rw [h11, up_ne _ _ (by omega)]
      · rw [h12, up_ne _ _ (by omega)]
theorem wU_e {ma mb : Nat → Nat → Int} (h : wU 10 ma mb) : eU ma mb := fun r j hj => h r j (by omega)
theorem eU_s {ma mb : Nat → Nat → Int} (h : eU ma mb) : sU ma mb := fun r j h1 h2 => h r j (by omega)
theorem fit_e {mi : Nat → Int} {ma mw mb : Nat → Nat → Int} {c x b d f : Int} (hm : mOK mi ma) (haU : aU ma mw) (haV : ∀ q, q < 10 → ma 7 q = 1 → wV (va_up mi 0 c) ma q mw) (hU : eU mw mb) (h8 : mb 8 10 = x) (h9 : mb 9 10 = b) (h10 : mb 10 10 = d) (h11 : mb 11 10 = f) (h12 : mb 12 10 = 0) (hx : 0 ≤ x) : fitU (fun h => nsum mb h 10) (va_up mi 0 c 2) (mb 10 10) (stS (va_up mi 0 c) mb 10) (frS (va_up mi 0 c) mb 10) = fitS mi ma b d f x := by
  have e1 : (fun h => nsum mb h 10) = fun h => nS mi ma h 10 := funext fun h => by
    rw [nsum_c 10 (fun p hp => ⟨hU 7 p (by omega), hU 15 p (by omega), hU 17 p (by omega), hU 10 p (by omega)⟩), nsum_nS haU haV 10 (Nat.le_refl _), nS_0]
  have e2 : stS (va_up mi 0 c) mb 10 = standS (mi 5) x := by
    unfold stS
    rw [h8]
    simp [va_up]
  have e3 : endM (va_up mi 0 c) mb 10 = x + (b + min (mi 3) (mi 4) - 1) / min (mi 3) (mi 4) := by
    rw [endM_0]
    unfold endM endS
    rw [h8, h9, h12]
    simp [sl]
  have e4 : mb 1 = ma 1 := (eU_row hU (by omega)).trans (aU_row haU (by omega))
  have e5 : frS (va_up mi 0 c) mb 10 = freeS (mi 6) (strikeS (ma 1) f (x + (b + min (mi 3) (mi 4) - 1) / min (mi 3) (mi 4))) := by
    unfold frS kS
    rw [e3, e4, h11]
    simp [va_up]
  rw [e1, e2, e5, h10]
  rfl
theorem sh_up (F : Nat → Int) (b x : Nat) (v : Int) : (fun j => va_up F (b + x) v (b + j)) = va_up (fun j => F (b + j)) x v := by
  funext j
  unfold va_up
  by_cases h : j = x
  · rw [if_pos h, if_pos (by omega)]
  · rw [if_neg h, if_neg (by omega)]
