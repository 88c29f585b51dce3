theorem zrf (a : Nat) : va_rf (some a) = .ref a := rfl
theorem zrn : va_rf none = .null := rfl
theorem up_self {α : Type} {f : Nat → α} {k : Nat} {v : α} (h : f k = v) : va_up f k v = f := by
  funext j
  unfold va_up
  split
  · rename_i hj
    rw [hj, h]
  · rfl
/-- the maturity of a break, in the yard's words -/
def cyB (yi : Nat → Int) (p : PS) (k : Nat) : Int := p.1 3 + p.2.1 k / yi 6 + sl p.2.2.1 k
def cyF (T : Nat → Int) (yi : Nat → Int) (p : PS) (k : Nat) : Int := if 90 ≤ mat T (cyB yi p k) (cyB yi p k + p.2.2.1 k) then 1 else 0
/-- how many are there -/
def cntY (pr : Nat → Option PS) : Nat → Int
  | 0 => 0
  | i + 1 => cntY pr i + (match pr i with
    | none => 0
    | some _ => 1)
theorem cntY_n {pr : Nat → Option PS} {i : Nat} (hp : pr i = none) : cntY pr (i + 1) = cntY pr i := by
  simp only [cntY, hp]
  omega
theorem cntY_s {pr : Nat → Option PS} {i : Nat} {p : PS} (hp : pr i = some p) : cntY pr (i + 1) = cntY pr i + 1 := by
  simp only [cntY, hp]
theorem cntY_b {pr : Nat → Option PS} : ∀ n, 0 ≤ cntY pr n ∧ cntY pr n ≤ n
  | 0 => by simp [cntY]
  | n + 1 => by
    have h := cntY_b (pr := pr) n
    cases hp : pr n with
    | none => rw [cntY_n hp]; omega
    | some p => rw [cntY_s hp]; omega
/-- the greatest need where panels of some pour begin to stand -/
def ovY (pr : Nat → Option PS) : Nat → Int
  | 0 => 0
  | i + 1 => (match pr i with
    | none => ovY pr i
    | some p => max (ovY pr i) (nY pr (p.1 9) 10))
theorem ovY_n {pr : Nat → Option PS} {i : Nat} (hp : pr i = none) : ovY pr (i + 1) = ovY pr i := by
  simp only [ovY, hp]
theorem ovY_s {pr : Nat → Option PS} {i : Nat} {p : PS} (hp : pr i = some p) : ovY pr (i + 1) = max (ovY pr i) (nY pr (p.1 9) 10) := by
  simp only [ovY, hp]
theorem ovY_b {pr : Nat → Option PS} (ha : pA pr) : ∀ n, 0 ≤ ovY pr n ∧ ovY pr n ≤ 300
  | 0 => by simp [ovY]
  | n + 1 => by
    have h := ovY_b ha n
    cases hp : pr n with
    | none => rw [ovY_n hp]; exact h
    | some p =>
      rw [ovY_s hp]
      have h2 := nY_b (h := p.1 9) ha (n := 10) (Nat.le_refl _)
      omega
def setT_a (T : Nat → Int) (a t : Int) : setT T a (a - 1) t = T := by
  funext j
  unfold setT
  rw [if_neg (by omega)]
theorem setT_s (T : Nat → Int) (a h t : Int) (h0 : 0 ≤ a) (h1 : a ≤ h) : va_up (setT T a (h - 1) t) h.toNat t = setT T a h t := by
  funext j
  unfold setT va_up
  by_cases hj : j = h.toNat
  · rw [if_pos hj, if_pos (by omega)]
  · rw [if_neg hj]
    show (if a ≤ (j : Int) ∧ (j : Int) ≤ h - 1 then t else T j) = (if a ≤ (j : Int) ∧ (j : Int) ≤ h then t else T j)
    by_cases h2 : a ≤ (j : Int) ∧ (j : Int) ≤ h
    · rw [if_pos (by omega), if_pos h2]
    · rw [if_neg (by omega), if_neg h2]
theorem setT_ok {T : Nat → Int} (ht : tOK T) {a b t : Int} (h1 : -40 ≤ t) (h2 : t ≤ 50) : tOK (setT T a b t) := by
  intro j hj
  unfold setT
  split
  · exact ⟨h1, h2⟩
  · exact ht j hj
def adR (part hours : Int) (p q : PS) : Prop := q.1 = va_up p.1 4 (p.1 4 + 1) ∧ (∀ j : Nat, (j : Int) ≤ p.1 4 → q.2.1 j = ins p.2.1 (ipos p.2.1 part (p.1 4).toNat) part j ∧ q.2.2.1 j = ins p.2.2.1 (ipos p.2.1 part (p.1 4).toNat) hours j) ∧ q.2.2.2 = p.2.2.2
def feY (T : Nat → Int) (yi : Nat → Int) (N : Int → Int) (vol many str st : Int) : Prop := ∀ h : Int, standS (yi 7) st ≤ h → h < freeS (yi 8) (strikeS T str (st + (vol + yi 6 - 1) / yi 6)) → h < 1000 → N h + many ≤ yi 5
theorem fnd_iff (P : Int → Prop) [DecidablePred P] {lo hi : Int} (h0 : lo ≤ 1000) : min 1000 hi ≤ fnd P lo (1000 - lo).toNat ∨ (hi ≤ lo) ↔ ∀ x, lo ≤ x → x < hi → x < 1000 → ¬ P x := by
  obtain ⟨h1, h2, h3, h4⟩ := fnd_b P (1000 - lo).toNat lo
  constructor
  · rintro (h | h) x a b d
    · exact h4 x a (by omega)
    · omega
  · intro h
    by_cases hl : hi ≤ lo
    · exact Or.inr hl
    · left
      rcases Int.lt_or_le (fnd P lo (1000 - lo).toNat) (min 1000 hi) with q | q
      · exact absurd (h3 (by omega)) (h _ h1 (by omega) (by omega))
      · exact q
theorem zW.sub {D : va_G} {A : Nat → Prop} {ad : Nat → Nat} {e e2 : Nat → Option va_E} {H : Heap} (h : zW D A ad e H) (he : ∀ k v, e2 k = some v → e k = some v) : zW D A ad e2 H := ⟨fun k v hk => h.1 k v (he k v hk), fun i j v w hi hj => h.2 i j v w (he i v hi) (he j w hj)⟩
theorem yR_up0 {ad : Nat → Nat} {pr : Nat → Option PS} {i : Nat} : yR ad (va_up pr i none) = va_up (yR ad pr) i none := by
  funext j
  unfold yR va_up
  by_cases h : j = i
  · simp [h]
  · simp [h]
theorem yU_c {D : va_G} {A : Nat → Prop} {cy : Nat → ClassId} {ad : Nat → Nat} {ya : Nat → Nat → Int} {yi : Nat → Int} {pr : Nat → Option PS} {H : Heap} {i : Nat} (h : zW D A ad (va_up (yE cy ad ya yi pr) 5 (some (.inl (cy 2, 10, .inr (.inr (.inr (.inr (va_up (yR ad pr) i none)))))))) H) : zW D A ad (yE cy ad ya yi (va_up pr i none)) H := by
  refine h.sub (fun k v hk => ?_)
  by_cases h5 : k = 5
  · subst h5
    rw [up_same]
    rw [yE_5, yR_up0] at hk
    exact hk
  · rw [up_ne _ _ h5]
    by_cases hl : 10 ≤ k ∧ k < 43
    · rw [yE_hi hl.1 hl.2] at hk ⊢
      by_cases hq : (k - 10) / 3 = i
      · rw [hq, up_same] at hk
        cases hk
      · rw [up_ne _ _ hq] at hk
        exact hk
    · by_cases h10 : k < 10
      · unfold yE at hk ⊢
        simp only [h5, h10, if_false, if_true] at hk ⊢
        exact hk
      · unfold yE at hk
        have h40 : ¬ k < 43 := by omega
        simp only [h5, h10, h40, if_false] at hk
        repeat' split at hk
        all_goals first | omega | cases hk
def earY (T : Nat → Int) (yi : Nat → Int) (N : Int → Int) (fr vol many str z : Int) : Prop := (fr ≤ z ∧ z ≤ 900 ∧ feY T yi N vol many str z ∧ ∀ s, fr ≤ s → s < z → ¬ feY T yi N vol many str s) ∨ (z = -1 ∧ ∀ s, fr ≤ s → s ≤ 900 → ¬ feY T yi N vol many str s)
