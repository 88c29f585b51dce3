/-! ===== what the document's words are worth, in integers ===== -/
theorem iI_max (a b : Int) (ha : zr a) (hb : zr b) : (if iI a < iI b then iI b else iI a) = iI (max a b) := by
  by_cases h : a < b
  · rw [if_pos ((iI_lt ha hb).mpr h), Int.max_eq_right (by omega)]
  · rw [if_neg (fun q => h ((iI_lt ha hb).mp q)), Int.max_eq_left (by omega)]
theorem iI_min (a b : Int) (ha : zr a) (hb : zr b) : (if iI b < iI a then iI b else iI a) = iI (min a b) := by
  by_cases h : b < a
  · rw [if_pos ((iI_lt hb ha).mpr h), Int.min_eq_right (by omega)]
  · rw [if_neg (fun q => h ((iI_lt hb ha).mp q)), Int.min_eq_left (by omega)]
/-- the gain of an hour of that temperature -/
def gn (t : Int) : Int := if t + 10 < 0 then 0 else t + 10
/-- the gains of the first n hours together; hours from 1000 on have none -/
def gs (T : Nat → Int) : Nat → Int
  | 0 => 0
  | n + 1 => gs T n + (if n < 1000 then gn (T n) else 0)
def gAt (T : Nat → Int) (h : Int) : Int := if 0 ≤ h ∧ h < 1000 then gn (T h.toNat) else 0
/-- the maturity from an hour to another one -/
def mat (T : Nat → Int) (a b : Int) : Int := if a < b then gs T b.toNat - gs T a.toNat else 0
def strg (m : Int) : Int := if 5000 ≤ m then 100 else if 2500 ≤ m then 75 + 25 * (m - 2500) / 2500 else if 1200 ≤ m then 50 + 25 * (m - 1200) / 1300 else if 500 ≤ m then 25 + 25 * (m - 500) / 700 else 25 * m / 500
/-- temperatures as they may be -/
def tOK (T : Nat → Int) : Prop := ∀ j, j < 1000 → -40 ≤ T j ∧ T j ≤ 50
theorem gn_b {t : Int} (h1 : -40 ≤ t) (h2 : t ≤ 50) : 0 ≤ gn t ∧ gn t ≤ 60 := by
  unfold gn
  split <;> omega
theorem gs_b {T : Nat → Int} (h : tOK T) : ∀ n, 0 ≤ gs T n ∧ gs T n ≤ 60 * n ∧ gs T n ≤ 60000
  | 0 => by simp [gs]
  | n + 1 => by
    have h1 := gs_b h n
    simp only [gs]
    by_cases hn : n < 1000
    · rw [if_pos hn]
      have h2 := gn_b (h n hn).1 (h n hn).2
      omega
    · rw [if_neg hn]
      omega
theorem gs_m {T : Nat → Int} (h : tOK T) (a : Nat) : ∀ d, gs T a ≤ gs T (a + d)
  | 0 => Int.le_refl _
  | d + 1 => by
    have h1 := gs_m h a d
    show gs T a ≤ gs T (a + d) + (if a + d < 1000 then gn (T (a + d)) else 0)
    by_cases hn : a + d < 1000
    · rw [if_pos hn]
      have h2 := gn_b (h _ hn).1 (h _ hn).2
      omega
    · rw [if_neg hn]
      omega
theorem gs_le {T : Nat → Int} (h : tOK T) {a b : Nat} (hab : a ≤ b) : gs T a ≤ gs T b := by
  have := gs_m h a (b - a)
  rwa [show a + (b - a) = b by omega] at this
theorem gs_top {T : Nat → Int} (b : Nat) : gs T (1000 + b) = gs T 1000 := by
  induction b with
  | zero => rfl
  | succ b ih =>
    show gs T (1000 + b) + (if 1000 + b < 1000 then gn (T (1000 + b)) else 0) = gs T 1000
    rw [if_neg (by omega), ih]
    omega
theorem gs_cap {T : Nat → Int} (b : Nat) (h : 1000 ≤ b) : gs T b = gs T 1000 := by
  have := gs_top (T := T) (b - 1000)
  rwa [show 1000 + (b - 1000) = b by omega] at this
theorem mat_b {T : Nat → Int} (h : tOK T) (a b : Int) : 0 ≤ mat T a b ∧ mat T a b ≤ 60000 := by
  unfold mat
  split
  · have h1 := gs_le h (a := a.toNat) (b := b.toNat) (by omega)
    have h2 := gs_b h a.toNat
    have h3 := gs_b h b.toNat
    omega
  · omega
theorem mat_s {T : Nat → Int} (a b : Int) (h0 : 0 ≤ a) (h : a ≤ b) : mat T a (b + 1) = mat T a b + gAt T b := by
  have e : gs T (b + 1).toNat = gs T b.toNat + (if b.toNat < 1000 then gn (T b.toNat) else 0) := by
    rw [show (b + 1).toNat = b.toNat + 1 by omega]
    rfl
  have e2 : gAt T b = (if b.toNat < 1000 then gn (T b.toNat) else 0) := by
    unfold gAt
    by_cases hb : b < 1000
    · rw [if_pos ⟨by omega, hb⟩, if_pos (by omega)]
    · rw [if_neg (by omega), if_neg (by omega)]
  unfold mat
  rw [if_pos (by omega), e, e2]
  by_cases hl : a < b
  · rw [if_pos hl]
    omega
  · rw [if_neg hl, show a = b by omega]
    omega
theorem mat_0 {T : Nat → Int} (a : Int) : mat T a a = 0 := by
  unfold mat
  rw [if_neg (by omega)]
theorem mat_m {T : Nat → Int} (h : tOK T) {a b d : Int} (hbd : b ≤ d) : mat T a b ≤ mat T a d := by
  unfold mat
  by_cases h1 : a < b
  · rw [if_pos h1, if_pos (by omega)]
    have := gs_le h (a := b.toNat) (b := d.toNat) (by omega)
    omega
  · rw [if_neg h1]
    split
    · have := gs_le h (a := a.toNat) (b := d.toNat) (by omega)
      omega
    · omega
theorem mat_cap {T : Nat → Int} (a b : Int) (h0 : 0 ≤ a) : mat T a b = if a < min b 1000 then gs T (min b 1000).toNat - gs T a.toNat else 0 := by
  unfold mat
  by_cases h1 : a < b
  · rw [if_pos h1]
    by_cases h2 : b ≤ 1000
    · rw [if_pos (by omega), show min b 1000 = b by omega]
    · rw [show min b 1000 = 1000 by omega, gs_cap b.toNat (by omega)]
      by_cases h3 : a < 1000
      · rw [if_pos h3]
        rfl
      · rw [if_neg h3, gs_cap a.toNat (by omega)]
        omega
  · rw [if_neg h1, if_neg (by omega)]
theorem strg_b {m : Int} (h : 0 ≤ m) : 0 ≤ strg m ∧ strg m ≤ 100 := by
  unfold strg
  repeat' split
  all_goals omega
theorem strg_m {a b : Int} (h0 : 0 ≤ a) (h : a ≤ b) : strg a ≤ strg b := by
  unfold strg
  repeat' split
  all_goals omega
