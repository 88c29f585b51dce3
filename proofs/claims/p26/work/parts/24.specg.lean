/-! ===== which panel: the giving out, pour by pour in the order of the hours and numbers ===== -/
/-- panel k is busy in the hour h with a pour below n that got it -/
def tkn (bsy : Nat → Int → Bool) (hs : Nat → Nat → Bool) (h : Int) (k : Nat) : Nat → Bool
  | 0 => false
  | q + 1 => tkn bsy hs h k q || (hs q k && bsy q h)
theorem tkn_iff {bsy : Nat → Int → Bool} {hs : Nat → Nat → Bool} {h : Int} {k : Nat} : ∀ n, tkn bsy hs h k n = true ↔ ∃ q, q < n ∧ hs q k = true ∧ bsy q h = true
  | 0 => by simp [tkn]
  | n + 1 => by
    simp only [tkn, Bool.or_eq_true, Bool.and_eq_true]
    rw [tkn_iff n]
    constructor
    · rintro (⟨q, h1, h2⟩ | h2)
      · exact ⟨q, by omega, h2⟩
      · exact ⟨n, by omega, h2⟩
    · rintro ⟨q, h1, h2⟩
      by_cases hq : q = n
      · subst hq
        exact Or.inr h2
      · exact Or.inl ⟨q, by omega, h2⟩
/-- how many of the first k panels are taken -/
def lc (bz : Nat → Bool) (nd : Int) : Nat → Int
  | 0 => 0
  | k + 1 => lc bz nd k + (if bz k = false ∧ lc bz nd k < nd then 1 else 0)
def lo (bz : Nat → Bool) (nd n : Int) : Nat → Bool := fun k => decide ((k : Int) < n ∧ bz k = false ∧ lc bz nd k < nd)
theorem lc_m {bz : Nat → Bool} {nd : Int} (a : Nat) : ∀ d, lc bz nd a ≤ lc bz nd (a + d)
  | 0 => Int.le_refl _
  | d + 1 => by
    have h := lc_m (bz := bz) (nd := nd) a d
    show lc bz nd a ≤ lc bz nd (a + d) + (if bz (a + d) = false ∧ lc bz nd (a + d) < nd then 1 else 0)
    split <;> omega
theorem lc_le {bz : Nat → Bool} {nd : Int} {a b : Nat} (h : a ≤ b) : lc bz nd a ≤ lc bz nd b := by
  have := lc_m (bz := bz) (nd := nd) a (b - a)
  rwa [show a + (b - a) = b by omega] at this
theorem lc_b {bz : Nat → Bool} {nd : Int} (h0 : 0 ≤ nd) : ∀ k, 0 ≤ lc bz nd k ∧ lc bz nd k ≤ k ∧ lc bz nd k ≤ nd
  | 0 => by simp [lc]; exact h0
  | k + 1 => by
    have h := lc_b (bz := bz) h0 k
    simp only [lc]
    split <;> omega
def sv (bsy : Nat → Int → Bool) (nd : Nat → Int) (n : Int) (hs : Nat → Nat → Bool) (p : Nat) (h : Int) : Nat → Nat → Bool := fun q k => if q = p then lo (fun k => tkn bsy hs h k 10) (nd p) n k else hs q k
def FK (th : Nat → Bool) (st : Nat → Int) (bsy : Nat → Int → Bool) (nd : Nat → Int) (n : Int) : Nat → Nat → Nat → Bool
  | 0 => fun _ _ => false
  | K + 1 => if th (K % 10) = true ∧ st (K % 10) = ((K / 10 : Nat) : Int) then sv bsy nd n (FK th st bsy nd n K) (K % 10) ((K / 10 : Nat) : Int) else FK th st bsy nd n K
section FKS
variable {th : Nat → Bool} {st : Nat → Int} {bsy : Nat → Int → Bool} {nd : Nat → Int} {n : Int}
theorem FK_key : ∀ (K q k : Nat), FK th st bsy nd n K q k = true → th q = true ∧ q < 10 ∧ 10 * st q + q < K
  | 0, q, k, h => by simp [FK] at h
  | K + 1, q, k, h => by
    simp only [FK] at h
    split at h
    · rename_i hc
      unfold sv at h
      by_cases hq : q = K % 10
      · subst hq
        exact ⟨hc.1, by omega, by rw [hc.2]; omega⟩
      · rw [if_neg hq] at h
        have := FK_key K q k h
        exact ⟨this.1, this.2.1, by omega⟩
    · have := FK_key K q k h
      exact ⟨this.1, this.2.1, by omega⟩
theorem FK_no {K : Nat} (h : ¬ (th (K % 10) = true ∧ st (K % 10) = ((K / 10 : Nat) : Int))) : FK th st bsy nd n (K + 1) = FK th st bsy nd n K := by
  simp only [FK]
  rw [if_neg h]
theorem FK_yes {K : Nat} (h : th (K % 10) = true ∧ st (K % 10) = ((K / 10 : Nat) : Int)) : FK th st bsy nd n (K + 1) = sv bsy nd n (FK th st bsy nd n K) (K % 10) ((K / 10 : Nat) : Int) := by
  simp only [FK]
  rw [if_pos h]
/-- nobody begins between -/
theorem FK_skip (K : Nat) : ∀ d : Nat, (∀ q, q < 10 → th q = true → ¬ ((K : Int) ≤ 10 * st q + q ∧ 10 * st q + q < (K : Int) + (d : Int))) → FK th st bsy nd n (K + d) = FK th st bsy nd n K
  | 0, _ => rfl
  | d + 1, h => by
    show FK th st bsy nd n (K + d + 1) = _
    rw [FK_no, FK_skip K d (fun q hq ht hc => h q hq ht ⟨hc.1, by omega⟩)]
    rintro ⟨h1, h2⟩
    exact h ((K + d) % 10) (by omega) h1 ⟨by rw [h2]; omega, by rw [h2]; omega⟩
/-- two pours with one panel are not busy at one time -/
theorem FK_one (hb : ∀ q h, bsy q h = true → st q ≤ h) (hb2 : ∀ q h h2, bsy q h = true → st q ≤ h2 → h2 ≤ h → bsy q h2 = true) : ∀ (K a b k : Nat) (h : Int), FK th st bsy nd n K a k = true → FK th st bsy nd n K b k = true → bsy a h = true → bsy b h = true → a = b
  | 0, a, b, k, h, h1, _, _, _ => by simp [FK] at h1
  | K + 1, a, b, k, h, h1, h2, h3, h4 => by
    by_cases hc : th (K % 10) = true ∧ st (K % 10) = ((K / 10 : Nat) : Int)
    · rw [FK_yes hc] at h1 h2
      unfold sv at h1 h2
      have key : ∀ c, c ≠ K % 10 → FK th st bsy nd n K c k = true → lo (fun k => tkn bsy (FK th st bsy nd n K) ((K / 10 : Nat) : Int) k 10) (nd (K % 10)) n k = true → bsy c h = true → bsy (K % 10) h = true → False := by
        intro c hne hF hlo hc1 hc2
        have hk := FK_key K c k hF
        unfold lo at hlo
        rw [decide_eq_true_eq] at hlo
        have e1 := hb (K % 10) h hc2
        rw [hc.2] at e1
        have hbc : bsy c ((K / 10 : Nat) : Int) = true := hb2 c h _ hc1 (by omega) e1
        have ht : tkn bsy (FK th st bsy nd n K) ((K / 10 : Nat) : Int) k 10 = true := (tkn_iff 10).mpr ⟨c, hk.2.1, hF, hbc⟩
        have hlo2 : tkn bsy (FK th st bsy nd n K) ((K / 10 : Nat) : Int) k 10 = false := hlo.2.1
        rw [ht] at hlo2
        cases hlo2
      by_cases ha : a = K % 10
      · by_cases hb9 : b = K % 10
        · rw [ha, hb9]
        · rw [if_pos ha] at h1
          rw [if_neg hb9] at h2
          rw [ha] at h3
          exact absurd (key b hb9 h2 h1 h4 h3) id
      · by_cases hb9 : b = K % 10
        · rw [if_neg ha] at h1
          rw [if_pos hb9] at h2
          rw [hb9] at h4
          exact absurd (key a ha h1 h2 h3 h4) id
        · rw [if_neg ha] at h1
          rw [if_neg hb9] at h2
          exact FK_one hb hb2 K a b k h h1 h2 h3 h4
    · rw [FK_no hc] at h1 h2
      exact FK_one hb hb2 K a b k h h1 h2 h3 h4
end FKS
/-- the reference's own -/
def thM (ma : Nat → Nat → Int) : Nat → Bool := fun q => decide (ma 7 q = 1)
def bsM (mi : Nat → Int) (ma : Nat → Nat → Int) : Nat → Int → Bool := fun q h => decide (ma 7 q = 1 ∧ stS mi ma q ≤ h ∧ h < frS mi ma q)
def FM (mi : Nat → Int) (ma : Nat → Nat → Int) (K : Nat) : Nat → Nat → Bool := FK (thM ma) (stS mi ma) (bsM mi ma) (ma 10) (mi 2) K
def bI (b : Bool) : Int := if b = true then 1 else 0
def hM (hs : Nat → Nat → Bool) (mb : Nat → Nat → Int) : Prop := ∀ q, q < 10 → ∀ k, k < 60 → mb 18 (60 * q + k) = bI (hs q k)
theorem bI_b (b : Bool) : (bI b = 1 ∧ b = true) ∨ (bI b = 0 ∧ b = false) := by
  cases b
  · exact Or.inr ⟨rfl, rfl⟩
  · exact Or.inl ⟨rfl, rfl⟩
/-- rows of working out and of panels alone may differ -/
def gU (ma mb : Nat → Nat → Int) : Prop := ∀ r j, (r < 15 ∨ 18 < r ∨ (r ≠ 18 ∧ 10 ≤ j)) → mb r j = ma r j
theorem gU_row {ma mb : Nat → Nat → Int} (h : gU ma mb) {r : Nat} (hr : r < 15 ∨ 18 < r) : mb r = ma r := funext fun j => h r j (by omega)
theorem gU_s {ma mb : Nat → Nat → Int} (h : gU ma mb) : sU ma mb := fun r j a _ => h r j (Or.inl a)
/-- while one pour gets its panels -/
def hC (hs : Nat → Nat → Bool) (p : Nat) (f : Nat → Bool) (x : Nat) (mb : Nat → Nat → Int) : Prop := (∀ q, q < 10 → q ≠ p → ∀ k, k < 60 → mb 18 (60 * q + k) = bI (hs q k)) ∧ (∀ k, k < 60 → k < x → mb 18 (60 * p + k) = bI (f k)) ∧ ∀ k, k < 60 → x ≤ k → mb 18 (60 * p + k) = 0
theorem hC_0 {hs : Nat → Nat → Bool} {p : Nat} {f : Nat → Bool} {mb : Nat → Nat → Int} (h : hM hs mb) (hp : p < 10) (h0 : ∀ k, hs p k = false) : hC hs p f 0 mb := ⟨fun q hq _ k hk => h q hq k hk, fun k _ h1 => absurd h1 (Nat.not_lt_zero k), fun k hk _ => by rw [h p hp k hk, h0]; rfl⟩
theorem hC_n {hs : Nat → Nat → Bool} {p x : Nat} {f : Nat → Bool} {mb : Nat → Nat → Int} (h : hC hs p f x mb) (hx : x < 60) (hf : f x = false) : hC hs p f (x + 1) mb := ⟨h.1, fun k hk h1 => by
  by_cases hkx : k = x
  · subst hkx; rw [hf]; exact h.2.2 k hk (by omega)
  · exact h.2.1 k hk (by omega), fun k hk h1 => h.2.2 k hk (by omega)⟩
theorem hC_y {hs : Nat → Nat → Bool} {p x : Nat} {f : Nat → Bool} {mb mc : Nat → Nat → Int} (h : hC hs p f x mb) (hx : x < 60) (hf : f x = true) (hc : rU 18 (60 * p + x) mb mc ∧ mc 18 (60 * p + x) = 1) : hC hs p f (x + 1) mc := by
  refine ⟨fun q hq hqp k hk => ?_, fun k hk h1 => ?_, fun k hk h1 => ?_⟩
  · rw [hc.1 18 (60 * q + k) (Or.inr (by omega))]
    exact h.1 q hq hqp k hk
  · by_cases hkx : k = x
    · subst hkx; rw [hf]; exact hc.2
    · rw [hc.1 18 (60 * p + k) (Or.inr (by omega))]
      exact h.2.1 k hk (by omega)
  · rw [hc.1 18 (60 * p + k) (Or.inr (by omega))]
    exact h.2.2 k hk (by omega)
theorem hC_e {hs hs2 : Nat → Nat → Bool} {p x : Nat} {f : Nat → Bool} {mb : Nat → Nat → Int} (h : hC hs p f x mb) (hf : ∀ k, k < 60 → x ≤ k → f k = false) (h2 : ∀ q k, hs2 q k = if q = p then f k else hs q k) : hM hs2 mb := by
  intro q hq k hk
  rw [h2]
  by_cases hqp : q = p
  · subst hqp
    rw [if_pos rfl]
    rcases Nat.lt_or_ge k x with c | c
    · exact h.2.1 k hk c
    · rw [h.2.2 k hk c, hf k hk c]; rfl
  · rw [if_neg hqp]
    exact h.1 q hq hqp k hk
