abbrev isP (ma : Nat → Nat → Int) (p : Int) : Prop := 0 ≤ p ∧ p < 10 ∧ ma 7 p.toNat = 1
/-- scratch alone differs -/
def sU (ma mb : Nat → Nat → Int) : Prop := ∀ r j, r < 15 → (j ≠ 10 ∨ r < 8 ∨ 12 < r) → mb r j = ma r j
theorem sU_r {ma : Nat → Nat → Int} : sU ma ma := fun _ _ _ _ => rfl
theorem sU_t {ma mb mc : Nat → Nat → Int} (h1 : sU ma mb) (h2 : sU mb mc) : sU ma mc := fun r j a b => (h2 r j a b).trans (h1 r j a b)
theorem wU_s {p : Nat} {ma mb : Nat → Nat → Int} (h : wU p ma mb) : sU ma mb := fun r j a _ => h r j (Or.inl a)
theorem aU_s {ma mb : Nat → Nat → Int} (h : aU ma mb) : sU ma mb := fun r j a _ => h r j (Or.inl a)
theorem sU_row {ma mb : Nat → Nat → Int} (h : sU ma mb) {r : Nat} (hr : r < 8 ∨ r = 13 ∨ r = 14) : mb r = ma r := funext fun j => h r j (by omega) (by omega)
theorem pOK_s {ma mb : Nat → Nat → Int} (h : sU ma mb) {p : Nat} (hp : p < 10) : pOK mb p ↔ pOK ma p := by
  unfold pOK
  rw [h 8 p (by omega) (by omega), h 9 p (by omega) (by omega), h 10 p (by omega) (by omega), h 11 p (by omega) (by omega), h 12 p (by omega) (by omega), sU_row h (r := 13) (by omega), sU_row h (r := 14) (by omega)]
theorem endM_s {mi : Nat → Int} {ma mb : Nat → Nat → Int} (h : sU ma mb) {p : Nat} (hp : p < 10) : endM mi mb p = endM mi ma p := by
  unfold endM
  rw [h 8 p (by omega) (by omega), h 9 p (by omega) (by omega), h 12 p (by omega) (by omega), sU_row h (r := 14) (by omega)]
theorem mOK_s {mi : Nat → Int} {ma mb : Nat → Nat → Int} (h : sU ma mb) : mOK mi mb ↔ mOK mi ma := by
  unfold mOK
  rw [sU_row h (r := 1) (by omega), sU_row h (r := 7) (by omega)]
  constructor
  · rintro ⟨h1, h2, h3, h4⟩
    exact ⟨h1, h2, h3, fun p hp h7 => (pOK_s h hp).mp (h4 p hp h7)⟩
  · rintro ⟨h1, h2, h3, h4⟩
    exact ⟨h1, h2, h3, fun p hp h7 => (pOK_s h hp).mpr (h4 p hp h7)⟩
theorem gOK_0 {mi : Nat → Int} {c : Int} : gOK (va_up mi 0 c) ↔ gOK mi := by simp [gOK, va_up]
theorem endM_0 {mi : Nat → Int} {ma : Nat → Nat → Int} {c : Int} {p : Nat} : endM (va_up mi 0 c) ma p = endM mi ma p := by simp [endM, va_up]
theorem wV_0 {mi : Nat → Int} {ma mb : Nat → Nat → Int} {c : Int} {p : Nat} : wV (va_up mi 0 c) ma p mb ↔ wV mi ma p mb := by
  unfold wV
  rw [endM_0]
  simp [va_up]
theorem mOK_0 {mi : Nat → Int} {ma : Nat → Nat → Int} {c : Int} : mOK (va_up mi 0 c) ma ↔ mOK mi ma := by
  unfold mOK
  rw [gOK_0]
def stS (mi : Nat → Int) (ma : Nat → Nat → Int) (p : Nat) : Int := standS (mi 5) (ma 8 p)
def kS (mi : Nat → Int) (ma : Nat → Nat → Int) (p : Nat) : Int := strikeS (ma 1) (ma 11 p) (endM mi ma p)
def frS (mi : Nat → Int) (ma : Nat → Nat → Int) (p : Nat) : Int := freeS (mi 6) (kS mi ma p)
/-- the need of an hour of the first n pours -/
def nS (mi : Nat → Int) (ma : Nat → Nat → Int) (h : Int) : Nat → Int
  | 0 => 0
  | p + 1 => nS mi ma h p + (if ma 7 p = 1 ∧ stS mi ma p ≤ h ∧ h < frS mi ma p then ma 10 p else 0)
theorem nsum_nS {mi : Nat → Int} {ma mb : Nat → Nat → Int} {h : Int} (hU : aU ma mb) (hV : ∀ q, q < 10 → ma 7 q = 1 → wV mi ma q mb) : ∀ n, n ≤ 10 → nsum mb h n = nS mi ma h n
  | 0, _ => rfl
  | n + 1, hn => by
    simp only [nsum, nS]
    rw [nsum_nS hU hV n (by omega), aU_row hU (r := 7) (by omega), aU_row hU (r := 10) (by omega)]
    congr 1
    by_cases h7 : ma 7 n = 1
    · obtain ⟨h1, -, h3⟩ := hV n (by omega) h7
      rw [h1, h3]
      rfl
    · rw [if_neg (fun q => h7 q.1), if_neg (fun q => h7 q.1)]
theorem nS_0 {mi : Nat → Int} {ma : Nat → Nat → Int} {h c : Int} : ∀ n, nS (va_up mi 0 c) ma h n = nS mi ma h n
  | 0 => rfl
  | n + 1 => by
    simp only [nS]
    rw [nS_0 n]
    have e1 : stS (va_up mi 0 c) ma n = stS mi ma n := by simp [stS, va_up]
    have e2 : frS (va_up mi 0 c) ma n = frS mi ma n := by
      unfold frS kS
      rw [endM_0]
      simp [va_up]
    rw [e1, e2]
theorem nS_b {mi : Nat → Int} {ma : Nat → Nat → Int} {h : Int} : ∀ {n : Nat}, (∀ p, p < n → ma 7 p = 1 → 1 ≤ ma 10 p ∧ ma 10 p ≤ 30) → 0 ≤ nS mi ma h n ∧ nS mi ma h n ≤ 30 * n
  | 0, _ => by simp [nS]
  | n + 1, hp => by
    have h1 := nS_b (mi := mi) (ma := ma) (h := h) (n := n) (fun p q => hp p (by omega))
    have h2 := hp n (by omega)
    simp only [nS]
    split
    · rename_i hc
      have := h2 hc.1
      omega
    · omega
theorem kS_b {mi : Nat → Int} {ma : Nat → Nat → Int} {p : Nat} (hg : gOK mi) (hp : pOK ma p) : 0 ≤ kS mi ma p ∧ kS mi ma p ≤ 1185 := by
  have h1 := strikeS_b (ma 1) (ma 11 p) (endM mi ma p)
  have h2 := endM_b hg hp
  unfold kS
  by_cases h : endM mi ma p ≤ 1000
  · have := h1.2.1 h
    omega
  · unfold strikeS at h1 ⊢
    rw [show (1000 - endM mi ma p).toNat = 0 by omega] at h1 ⊢
    simp only [fnd] at h1 ⊢
    omega
theorem wV_b {mi : Nat → Int} {ma mb : Nat → Nat → Int} {p : Nat} (hg : gOK mi) (hp : pOK ma p) (hv : wV mi ma p mb) : (0 ≤ mb 15 p ∧ mb 15 p ≤ 900) ∧ (-1 ≤ mb 16 p ∧ mb 16 p < 1000) ∧ 0 ≤ mb 17 p ∧ mb 17 p ≤ 1100 := by
  have h1 := kS_b hg hp
  obtain ⟨a, b, c⟩ := hv
  obtain ⟨q1, q2, q3, q4, q5, q6⟩ := hp
  obtain ⟨g1, g2, g3, g4, g5⟩ := hg
  unfold kS at h1
  rw [a, b, c]
  unfold standS freeS
  refine ⟨?_, ?_, ?_⟩ <;> repeat' split
  all_goals omega
/-- what needOf asks of the rows -/
theorem zr9 {mi : Nat → Int} {ma mb : Nat → Nat → Int} (hm : mOK mi ma) (hU : aU ma mb) (hV : ∀ q, q < 10 → ma 7 q = 1 → wV mi ma q mb) : (∀ j, j < 11 → mb 7 j = 0 ∨ mb 7 j = 1) ∧ ∀ q, q < 10 → mb 7 q = 1 → zr (mb 15 q) ∧ zr (mb 17 q) ∧ 1 ≤ mb 10 q ∧ mb 10 q ≤ 30 := by
  obtain ⟨h1, h2, h3, h4⟩ := hm
  rw [aU_row hU (r := 7) (by omega), aU_row hU (r := 10) (by omega)]
  refine ⟨h3, fun q hq h7 => ?_⟩
  have hb := wV_b h2 (h4 q hq h7) (hV q hq h7)
  have hp := h4 q hq h7
  obtain ⟨q1, q2, q3, q4, q5, q6⟩ := hp
  refine ⟨⟨by omega, by omega⟩, ⟨by omega, by omega⟩, by omega, by omega⟩
/-- the greatest of the first n, from 0 on -/
def mx (f : Nat → Int) : Nat → Int
  | 0 => 0
  | n + 1 => max (mx f n) (f n)
def frN (ma : Nat → Nat → Int) (n : Nat) : Prop := n ≤ 10 ∧ (∀ j, j < n → ma 7 j = 1) ∧ (n < 10 → ma 7 n = 0)
def layR (p : Nat) (a b d f : Int) (ma mb : Nat → Nat → Int) : Prop := mb 8 = va_up (ma 8) p a ∧ mb 9 = va_up (ma 9) p b ∧ mb 10 = va_up (ma 10) p d ∧ mb 11 = va_up (ma 11) p f ∧ mb 12 = va_up (ma 12) p 0 ∧ ∀ r, (r < 8 ∨ 12 < r) → mb r = ma r
abbrev plOK (a b d f : Int) : Prop := (0 ≤ a ∧ a ≤ 900) ∧ (1 ≤ b ∧ b ≤ 200) ∧ (1 ≤ d ∧ d ≤ 30) ∧ (1 ≤ f ∧ f ≤ 100)
/-- the maturity of a break -/
def cjB (mi : Nat → Int) (ma : Nat → Nat → Int) (p k : Nat) : Int := ma 8 p + ma 13 (4 * p + k) / min (mi 3) (mi 4) + sl (fun i => ma 14 (4 * p + i)) k
def cjF (mi : Nat → Int) (ma : Nat → Nat → Int) (p k : Nat) : Int := if 90 ≤ mat (ma 1) (cjB mi ma p k) (cjB mi ma p k + ma 14 (4 * p + k)) then 1 else 0
def setT (T : Nat → Int) (a b t : Int) : Nat → Int := fun j => if a ≤ (j : Int) ∧ (j : Int) ≤ b then t else T j
