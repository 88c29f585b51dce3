/-- the yard's own words: a pour's end, striking, stand, release out of what it holds -/
def endY (yi : Nat → Int) (p : PS) : Int := endS (yi 6) (p.1 3) (p.1 0) p.2.2.1 (p.1 4)
def kY (T : Nat → Int) (yi : Nat → Int) (p : PS) : Int := strikeS T (p.1 2) (endY yi p)
def schR (T : Nat → Int) (yi : Nat → Int) (p q : PS) : Prop := (q.1 0 = p.1 0 ∧ q.1 1 = p.1 1 ∧ q.1 2 = p.1 2 ∧ q.1 3 = p.1 3 ∧ q.1 4 = p.1 4) ∧ q.2.1 = p.2.1 ∧ q.2.2.1 = p.2.2.1 ∧ q.1 7 = endY yi p ∧ q.1 8 = (if kY T yi p < 1000 then kY T yi p else -1) ∧ q.1 9 = standS (yi 7) (p.1 3) ∧ q.1 10 = min 1000 (freeS (yi 8) (kY T yi p))
def pB (p : PS) : Prop := (0 ≤ p.1 3 ∧ p.1 3 ≤ 900) ∧ (1 ≤ p.1 0 ∧ p.1 0 ≤ 200) ∧ (1 ≤ p.1 1 ∧ p.1 1 ≤ 30) ∧ (1 ≤ p.1 2 ∧ p.1 2 ≤ 100) ∧ (0 ≤ p.1 4 ∧ p.1 4 ≤ 4) ∧ ∀ k : Nat, (k : Int) < p.1 4 → (0 ≤ p.2.1 k ∧ p.2.1 k ≤ 199) ∧ 1 ≤ p.2.2.1 k ∧ p.2.2.1 k ≤ 9
def yB (yi : Nat → Int) : Prop := (0 ≤ yi 5 ∧ yi 5 ≤ 60) ∧ (1 ≤ yi 6 ∧ yi 6 ≤ 50) ∧ (0 ≤ yi 7 ∧ yi 7 ≤ 24) ∧ 0 ≤ yi 8 ∧ yi 8 ≤ 24
def gnd (T : Nat → Int) (ya : Nat → Nat → Int) : Prop := ∀ n, n ≤ 1000 → ya 1 n = gs T n
theorem endY_b {yi : Nat → Int} {p : PS} (hg : yB yi) (hp : pB p) : 0 ≤ sl p.2.2.1 (p.1 4).toNat ∧ sl p.2.2.1 (p.1 4).toNat ≤ 36 ∧ 0 ≤ (p.1 0 + yi 6 - 1) / yi 6 ∧ (p.1 0 + yi 6 - 1) / yi 6 ≤ 249 ∧ 0 ≤ endY yi p ∧ endY yi p ≤ 1185 := by
  obtain ⟨h1, h2, h3, h4, h5, h6⟩ := hp
  obtain ⟨g1, g2, g3, g4⟩ := hg
  have hs := sl_b (f := p.2.2.1) (a := 0) (b := 9) (n := (p.1 4).toNat) (fun k hk => by have := h6 k (by omega); omega)
  have hd := div_b (a := p.1 0 + yi 6 - 1) (b := yi 6) (by omega) (by omega)
  unfold endY endS
  refine ⟨by omega, by omega, hd.1, by omega, by omega, by omega⟩
def nY (pr : Nat → Option PS) (h : Int) : Nat → Int
  | 0 => 0
  | i + 1 => nY pr h i + (match pr i with
    | none => 0
    | some p => if p.1 9 ≤ h ∧ h < p.1 10 then p.1 1 else 0)
theorem nY_n {pr : Nat → Option PS} {h : Int} {i : Nat} (hp : pr i = none) : nY pr h (i + 1) = nY pr h i := by
  simp only [nY, hp]
  omega
theorem nY_s {pr : Nat → Option PS} {h : Int} {i : Nat} {p : PS} (hp : pr i = some p) : nY pr h (i + 1) = nY pr h i + (if p.1 9 ≤ h ∧ h < p.1 10 then p.1 1 else 0) := by
  simp only [nY, hp]
/-- what is known of every pour that is there -/
def pA (pr : Nat → Option PS) : Prop := ∀ i p, i < 10 → pr i = some p → pB p ∧ (0 ≤ p.1 9 ∧ p.1 9 ≤ 1000) ∧ 0 ≤ p.1 10 ∧ p.1 10 ≤ 1000
theorem nY_b {pr : Nat → Option PS} {h : Int} (ha : pA pr) : ∀ {n : Nat}, n ≤ 10 → 0 ≤ nY pr h n ∧ nY pr h n ≤ 30 * n
  | 0, _ => by simp [nY]
  | n + 1, hn => by
    have h1 := nY_b (h := h) ha (n := n) (by omega)
    cases hp : pr n with
    | none => rw [nY_n hp]; omega
    | some p =>
      rw [nY_s hp]
      have h2 := (ha n p (by omega) hp).1.2.2.1
      split <;> omega
/-- the pours below n worked out anew, the others as they were -/
def schA (T : Nat → Int) (yi : Nat → Int) (pr pq : Nat → Option PS) (n : Nat) : Prop := ∀ i, i < 10 → (pr i = none → pq i = none) ∧ ∀ p, pr i = some p → ∃ q, pq i = some q ∧ ((i < n ∧ schR T yi p q) ∨ (n ≤ i ∧ q = p))
theorem schA_0 {T : Nat → Int} {yi : Nat → Int} {pr : Nat → Option PS} : schA T yi pr pr 0 := fun i _ => ⟨fun h => h, fun p hp => ⟨p, hp, Or.inr ⟨Nat.zero_le i, rfl⟩⟩⟩
theorem schA_n {T : Nat → Int} {yi : Nat → Int} {pr pq : Nat → Option PS} {n : Nat} (h : schA T yi pr pq n) (hn : n < 10) (hp : pq n = none) : schA T yi pr pq (n + 1) := by
  intro i hi
  refine ⟨(h i hi).1, fun p hpi => ?_⟩
  obtain ⟨q, h1, h2⟩ := (h i hi).2 p hpi
  refine ⟨q, h1, ?_⟩
  rcases h2 with ⟨h3, h4⟩ | ⟨h3, h4⟩
  · exact Or.inl ⟨by omega, h4⟩
  · refine Or.inr ⟨?_, h4⟩
    by_cases hin : i = n
    · subst hin; rw [hp] at h1; cases h1
    · omega
theorem schA_s {T : Nat → Int} {yi : Nat → Int} {pr pq : Nat → Option PS} {n : Nat} {p q : PS} (h : schA T yi pr pq n) (hn : n < 10) (hp : pq n = some p) (hq : schR T yi p q) : schA T yi pr (va_up pq n (some q)) (n + 1) := by
  intro i hi
  by_cases hin : i = n
  · subst hin
    refine ⟨fun h0 => ?_, fun p2 hp2 => ?_⟩
    · have := (h i hi).1 h0
      rw [hp] at this; cases this
    · obtain ⟨q2, h1, h2⟩ := (h i hi).2 p2 hp2
      refine ⟨q, up_same _ _ _, Or.inl ⟨by omega, ?_⟩⟩
      rcases h2 with ⟨h3, -⟩ | ⟨-, h4⟩
      · omega
      · rw [hp] at h1
        cases h1
        rw [← h4]
        exact hq
  · rw [up_ne _ _ hin]
    refine ⟨(h i hi).1, fun p2 hp2 => ?_⟩
    obtain ⟨q2, h1, h2⟩ := (h i hi).2 p2 hp2
    refine ⟨q2, h1, ?_⟩
    rcases h2 with ⟨h3, h4⟩ | ⟨h3, h4⟩
    · exact Or.inl ⟨by omega, h4⟩
    · exact Or.inr ⟨by omega, h4⟩
theorem schA_at {T : Nat → Int} {yi : Nat → Int} {pr pq : Nat → Option PS} {n : Nat} {p : PS} (h : schA T yi pr pq n) (hn : n < 10) (hp : pq n = some p) : pr n = some p := by
  cases h0 : pr n with
  | none => have := (h n hn).1 h0; rw [hp] at this; cases this
  | some p2 =>
    obtain ⟨q, h1, h2⟩ := (h n hn).2 p2 h0
    rw [hp] at h1
    cases h1
    rcases h2 with ⟨h3, -⟩ | ⟨-, h4⟩
    · omega
    · rw [h4]
theorem strike_lt {T : Nat → Int} {w e hr : Int} (ht : tOK T) (h1 : hr < 1000) (h2 : strg (mat T e hr) < w) : hr < strikeS T w e := by
  obtain ⟨b1, b2, b3, b4⟩ := strikeS_b T w e
  rcases Int.lt_or_le hr (strikeS T w e) with q | q
  · exact q
  · have h3 := b3 (by omega)
    have h4 := strg_m (mat_b ht e (strikeS T w e)).1 (mat_m ht (a := e) q)
    omega
theorem strike_le {T : Nat → Int} {w e hr : Int} (h0 : e ≤ hr) (h2 : w ≤ strg (mat T e hr)) : strikeS T w e ≤ hr := by
  obtain ⟨b1, b2, b3, b4⟩ := strikeS_b T w e
  rcases Int.lt_or_le hr (strikeS T w e) with q | q
  · have := b4 hr h0 q
    omega
  · exact q
theorem strike_hi {T : Nat → Int} {w e : Int} (h : 1000 < e) : strikeS T w e = e := by
  unfold strikeS
  rw [show (1000 - e).toNat = 0 by omega]
  rfl
def pw (L : Int) : Prop := L = 512 ∨ L = 256 ∨ L = 128 ∨ L = 64 ∨ L = 32 ∨ L = 16 ∨ L = 8 ∨ L = 4 ∨ L = 2 ∨ L = 1 ∨ L = 0
theorem pw_s {L : Int} (h : pw L) (h0 : 0 < L) : pw (L / 2) ∧ (L = 1 ∨ (2 * (L / 2) = L ∧ 1 ≤ L / 2)) ∧ L ≤ 512 ∧ 0 ≤ L / 2 ∧ L / 2 < L := by
  unfold pw at h ⊢
  rcases h with rfl | rfl | rfl | rfl | rfl | rfl | rfl | rfl | rfl | rfl | rfl <;> first | omega | decide
