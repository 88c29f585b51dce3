/-! ===== lN n to 2^64: shifts, and, or, masks, one bit ===== -/
theorem wb_tb (n : Nat) : (lN n).toBitVec = BitVec.ofNat 64 n := rfl
theorem wb_inj {a b : Int64} (h : a.toBitVec = b.toBitVec) : a = b := Int64.toBitVec_inj.mp h
theorem wb_tn {n : Nat} (h : n < 2 ^ 64) : (lN n).toBitVec.toNat = n := by rw [wb_tb, BitVec.toNat_ofNat, Nat.mod_eq_of_lt h]
theorem wb_of (x : Int64) : ∃ n, n < 2 ^ 64 ∧ x = lN n := ⟨x.toBitVec.toNat, x.toBitVec.isLt, wb_inj (by rw [wb_tb]; simp)⟩
theorem wb_of32 (x : Int32) : ∃ n, n < 2 ^ 32 ∧ x = nI n := ⟨x.toBitVec.toNat, x.toBitVec.isLt, Int32.toBitVec_inj.mp (by show _ = BitVec.ofNat 32 _; simp)⟩
theorem wb_c : ∀ k, k < 64 → ((nI k).toInt64 &&& 63) = lN k := by decide +kernel
theorem wb_cu : ∀ k, k < 64 → ((nI k).toInt64.toUInt64 &&& Int64.toUInt64 63) = UInt64.ofNat k := by decide +kernel
theorem wb_sm : ∀ k, k < 64 → (BitVec.ofNat 64 k).smod 64 = BitVec.ofNat 64 k := by decide +kernel
theorem wb_pw {a b : Nat} (h : a ≤ b) : 2 ^ b = 2 ^ a * 2 ^ (b - a) := by rw [← Nat.pow_add]; congr 1; omega
theorem wb_lt2 {a b : Nat} (h : a < b) : 2 ^ a < 2 ^ b := Nat.pow_lt_pow_right (by decide) h
theorem wb_mod (n : Nat) : lN n = lN (n % 2 ^ 64) := wb_inj (by rw [wb_tb, wb_tb]; apply BitVec.eq_of_toNat_eq; rw [BitVec.toNat_ofNat, BitVec.toNat_ofNat, Nat.mod_mod])
theorem wb_shr {n k : Nat} (hn : n < 2 ^ 64) (hk : k < 64) : ((lN n).toUInt64 >>> ((nI k).toInt64.toUInt64 &&& Int64.toUInt64 63)).toInt64 = lN (n / 2 ^ k) := by
  rw [wb_cu k hk]
  apply wb_inj
  apply BitVec.eq_of_toNat_eq
  show ((lN n).toUInt64 >>> UInt64.ofNat k).toNat = (BitVec.ofNat 64 _).toNat
  have h1 : (UInt64.ofNat k).toNat = k := by
    show (BitVec.ofNat 64 k).toNat = k
    rw [BitVec.toNat_ofNat, Nat.mod_eq_of_lt (by omega)]
  have h2 : (lN n).toUInt64.toNat = n := wb_tn hn
  rw [UInt64.toNat_shiftRight, h1, h2, Nat.mod_eq_of_lt hk, Nat.shiftRight_eq_div_pow, BitVec.toNat_ofNat, Nat.mod_eq_of_lt (Nat.lt_of_le_of_lt (Nat.div_le_self _ _) hn)]
theorem wb_shl (n : Nat) {k : Nat} (hk : k < 64) : lN n <<< ((nI k).toInt64 &&& 63) = lN (n * 2 ^ k) := by
  rw [wb_c k hk]
  apply wb_inj
  rw [Int64.toBitVec_shiftLeft, wb_tb, wb_tb, wb_tb, wb_sm k hk]
  apply BitVec.eq_of_toNat_eq
  rw [BitVec.shiftLeft_eq', BitVec.toNat_shiftLeft, BitVec.toNat_ofNat, BitVec.toNat_ofNat, BitVec.toNat_ofNat, Nat.mod_eq_of_lt (show k < 2 ^ 64 by omega), Nat.shiftLeft_eq, Nat.mul_mod, Nat.mod_mod, ← Nat.mul_mod]
theorem wb_and {a b : Nat} (ha : a < 2 ^ 64) (hb : b < 2 ^ 64) : lN a &&& lN b = lN (a &&& b) := by
  apply wb_inj
  rw [Int64.toBitVec_and, wb_tb, wb_tb, wb_tb]
  apply BitVec.eq_of_toNat_eq
  rw [BitVec.toNat_and, BitVec.toNat_ofNat, BitVec.toNat_ofNat, BitVec.toNat_ofNat, Nat.mod_eq_of_lt ha, Nat.mod_eq_of_lt hb, Nat.mod_eq_of_lt (Nat.and_lt_two_pow _ hb)]
theorem wb_or {a b : Nat} (ha : a < 2 ^ 64) (hb : b < 2 ^ 64) : lN a ||| lN b = lN (a ||| b) := by
  apply wb_inj
  rw [Int64.toBitVec_or, wb_tb, wb_tb, wb_tb]
  apply BitVec.eq_of_toNat_eq
  rw [BitVec.toNat_or, BitVec.toNat_ofNat, BitVec.toNat_ofNat, BitVec.toNat_ofNat, Nat.mod_eq_of_lt ha, Nat.mod_eq_of_lt hb, Nat.mod_eq_of_lt (Nat.or_lt_two_pow ha hb)]
theorem wb_mask {n k : Nat} (hn : n < 2 ^ 64) (hk : k < 64) : lN n &&& lN (2 ^ k - 1) = lN (n % 2 ^ k) := by
  rw [wb_and hn (by have := wb_lt2 hk; omega), Nat.and_two_pow_sub_one_eq_mod]
theorem wb_a1 {n : Nat} (hn : n < 2 ^ 64) : lN n &&& 1 = lN (n % 2) := wb_mask (k := 1) hn (by decide)
theorem wb_bit {n k : Nat} (hn : n < 2 ^ 64) (hk : k < 64) : ((lN n).toUInt64 >>> ((nI k).toInt64.toUInt64 &&& Int64.toUInt64 63)).toInt64 &&& 1 = lN (n / 2 ^ k % 2) := by
  rw [wb_shr hn hk, wb_a1 (Nat.lt_of_le_of_lt (Nat.div_le_self _ _) hn)]
/-! ===== a long as a set of panels ===== -/
def isM (x : Int64) (f : Nat → Bool) : Prop := ∃ n, x = lN n ∧ n < 2 ^ 60 ∧ ∀ k, n.testBit k = f k
theorem isM_0 : isM 0 (fun _ => false) := ⟨0, rfl, by decide, fun k => Nat.zero_testBit k⟩
theorem isM_or {x y : Int64} {f g : Nat → Bool} (hx : isM x f) (hy : isM y g) : isM (x ||| y) (fun k => f k || g k) := by
  obtain ⟨a, rfl, ha, hf⟩ := hx
  obtain ⟨b, rfl, hb, hg⟩ := hy
  refine ⟨a ||| b, wb_or (by omega) (by omega), Nat.or_lt_two_pow ha hb, fun k => ?_⟩
  rw [Nat.testBit_or, hf, hg]
theorem isM_bit {k : Nat} (hk : k < 60) : isM (lN (2 ^ k)) (fun j => decide (k = j)) := ⟨2 ^ k, rfl, wb_lt2 hk, fun j => Nat.testBit_two_pow⟩
theorem isM_c {x : Int64} {f g : Nat → Bool} (hx : isM x f) (h : ∀ k, f k = g k) : isM x g := by
  obtain ⟨a, hx, ha, hf⟩ := hx
  exact ⟨a, hx, ha, fun k => (hf k).trans (h k)⟩
theorem isM_lt {x : Int64} {f : Nat → Bool} (hx : isM x f) {k : Nat} (hk : 60 ≤ k) : f k = false := by
  obtain ⟨a, hx, ha, hf⟩ := hx
  rw [← hf, Nat.testBit_lt_two_pow (Nat.lt_of_lt_of_le ha (Nat.pow_le_pow_right (by decide) hk))]
theorem lN_0i {n : Nat} (h : n < 2 ^ 64) : lN n = 0 ↔ n = 0 := by
  constructor
  · intro h2
    have h3 := congrArg (fun y : Int64 => y.toBitVec.toNat) h2
    simp only [wb_tn h] at h3
    exact h3
  · rintro rfl
    rfl
theorem and_p2 (a k : Nat) : a &&& 2 ^ k = 0 ↔ a.testBit k = false := by
  constructor
  · intro h
    have h2 := congrArg (fun n : Nat => n.testBit k) h
    simp only [Nat.testBit_and, Nat.testBit_two_pow, Nat.zero_testBit] at h2
    simpa using h2
  · intro h
    apply Nat.eq_of_testBit_eq
    intro i
    rw [Nat.testBit_and, Nat.testBit_two_pow, Nat.zero_testBit]
    by_cases hi : k = i
    · subst hi
      rw [h]
      rfl
    · simp [hi]
theorem isM_and {x : Int64} {f : Nat → Bool} (hx : isM x f) {k : Nat} (hk : k < 60) : x &&& lN (2 ^ k) = 0 ↔ f k = false := by
  obtain ⟨a, rfl, ha, hf⟩ := hx
  have h2 := wb_lt2 (show k < 64 by omega)
  rw [wb_and (by omega) h2, lN_0i (Nat.and_lt_two_pow _ h2), and_p2, hf]
theorem zshl {k : Nat} (hk : k < 60) : (1 : Int64) <<< ((iI (k : Int)).toInt64 &&& 63) = lN (2 ^ k) := by
  have e : iI (k : Int) = nI k := rfl
  have h := wb_shl 1 (show k < 64 by omega)
  rw [Nat.one_mul] at h
  rw [e]
  exact h
theorem zlcmp (x y : Int64) : ∃ n : Int, ((n = 0 ∧ x = y) ∨ ((n = 1 ∨ n = -1) ∧ x ≠ y)) ∧ lg_cmp x y = iI n := by
  unfold lg_cmp
  by_cases h1 : y < x
  · exact ⟨1, Or.inr ⟨Or.inl rfl, fun h => by subst h; exact absurd h1 (Int64.lt_irrefl)⟩, by rw [if_pos h1]; rfl⟩
  · by_cases h2 : x = y
    · exact ⟨0, Or.inl ⟨rfl, h2⟩, by rw [if_neg h1, if_pos h2]; rfl⟩
    · exact ⟨-1, Or.inr ⟨Or.inr rfl, h2⟩, by rw [if_neg h1, if_neg h2]; rfl⟩
/-! ===== the yard's giving out ===== -/
def thY (pr : Nat → Option PS) : Nat → Bool := fun q => (pr q).isSome
def fdY (pr : Nat → Option PS) (j : Nat) : Nat → Int := fun q => match pr q with | some p => p.1 j | none => 0
def bsY (pr : Nat → Option PS) : Nat → Int → Bool := fun q h => decide (thY pr q = true ∧ fdY pr 9 q ≤ h ∧ h < fdY pr 10 q)
def FY (pr : Nat → Option PS) (n : Int) (K : Nat) : Nat → Nat → Bool := FK (thY pr) (fdY pr 9) (bsY pr) (fdY pr 1) n K
theorem thY_0 {pr : Nat → Option PS} {q : Nat} (h : pr q = none) : thY pr q = false := by unfold thY; rw [h]; rfl
theorem thY_1 {pr : Nat → Option PS} {q : Nat} {p : PS} (h : pr q = some p) : thY pr q = true := by unfold thY; rw [h]; rfl
theorem fdY_1 {pr : Nat → Option PS} {q j : Nat} {p : PS} (h : pr q = some p) : fdY pr j q = p.1 j := by unfold fdY; rw [h]
theorem bsY_0 {pr : Nat → Option PS} {q : Nat} {h : Int} (hp : pr q = none) : bsY pr q h = false := by
  unfold bsY
  rw [decide_eq_false_iff_not, thY_0 hp]
  rintro ⟨h1, -⟩
  cases h1
theorem bsY_1 {pr : Nat → Option PS} {q : Nat} {h : Int} {p : PS} (hp : pr q = some p) : bsY pr q h = true ↔ p.1 9 ≤ h ∧ h < p.1 10 := by
  unfold bsY
  rw [decide_eq_true_eq, thY_1 hp, fdY_1 hp, fdY_1 hp]
  exact ⟨fun h => h.2, fun h => ⟨rfl, h⟩⟩
theorem tkM_n {bsy : Nat → Int → Bool} {g : Nat → Nat → Bool} {h : Int} {i : Nat} {x : Int64} (hb : bsy i h = false) (hx : isM x (fun k => tkn bsy g h k i)) : isM x (fun k => tkn bsy g h k (i + 1)) := isM_c hx (fun k => by simp [tkn, hb])
theorem tkM_y {bsy : Nat → Int → Bool} {g : Nat → Nat → Bool} {h : Int} {i : Nat} {x y : Int64} (hb : bsy i h = true) (hx : isM x (fun k => tkn bsy g h k i)) (hy : isM y (g i)) : isM (x ||| y) (fun k => tkn bsy g h k (i + 1)) := isM_c (isM_or hx hy) (fun k => by simp [tkn, hb])
theorem loM_0 {bz : Nat → Bool} {nd : Int} : isM 0 (lo bz nd ((0 : Nat) : Int)) := isM_c isM_0 (fun k => by unfold lo; rw [eq_comm, decide_eq_false_iff_not]; rintro ⟨h, -⟩; omega)
theorem loM_n {bz : Nat → Bool} {nd : Int} {x : Nat} {w : Int64} (hb : bz x = true) (hw : isM w (lo bz nd (x : Int))) : isM w (lo bz nd ((x + 1 : Nat) : Int)) := isM_c hw (fun k => by
  rw [Bool.eq_iff_iff]
  unfold lo
  simp only [decide_eq_true_eq]
  constructor
  · rintro ⟨h1, h2, h3⟩
    exact ⟨by omega, h2, h3⟩
  · rintro ⟨h1, h2, h3⟩
    refine ⟨?_, h2, h3⟩
    by_cases hk : k = x
    · subst hk
      rw [hb] at h2
      cases h2
    · omega)
theorem loM_y {bz : Nat → Bool} {nd : Int} {x : Nat} {w : Int64} (hx : x < 60) (hb : bz x = false) (hl : lc bz nd x < nd) (hw : isM w (lo bz nd (x : Int))) : isM (w ||| lN (2 ^ x)) (lo bz nd ((x + 1 : Nat) : Int)) := isM_c (isM_or hw (isM_bit hx)) (fun k => by
  rw [Bool.eq_iff_iff]
  unfold lo
  simp only [Bool.or_eq_true, decide_eq_true_eq]
  constructor
  · rintro (⟨h1, h2, h3⟩ | h1)
    · exact ⟨by omega, h2, h3⟩
    · subst h1
      exact ⟨by omega, hb, hl⟩
  · rintro ⟨h1, h2, h3⟩
    by_cases hk : x = k
    · exact Or.inr hk
    · exact Or.inl ⟨by omega, h2, h3⟩)
theorem loM_e {bz : Nat → Bool} {nd n : Int} {x : Nat} {w : Int64} (hn : (x : Int) ≤ n) (hl : n ≤ (x : Int) ∨ nd ≤ lc bz nd x) (hw : isM w (lo bz nd (x : Int))) : isM w (lo bz nd n) := isM_c hw (fun k => by
  rw [Bool.eq_iff_iff]
  unfold lo
  simp only [decide_eq_true_eq]
  constructor
  · rintro ⟨h1, h2, h3⟩
    exact ⟨by omega, h2, h3⟩
  · rintro ⟨h1, h2, h3⟩
    refine ⟨?_, h2, h3⟩
    rcases hl with hl | hl
    · omega
    · rcases Nat.lt_or_ge k x with c | c
      · omega
      · have h9 := lc_le (bz := bz) (nd := nd) c
        omega)
/-- what the giving out keeps of a pour -/
def gv1 (p p2 : PS) : Prop := (∀ j, j ≠ 12 → p2.1 j = p.1 j) ∧ p2.2.1 = p.2.1 ∧ p2.2.2.1 = p.2.2.1
def gvR (pr pr2 : Nat → Option PS) : Prop := ∀ i, i < 10 → (pr i = none ∧ pr2 i = none) ∨ ∃ p p2, pr i = some p ∧ pr2 i = some p2 ∧ gv1 p p2
theorem gv1_r {p : PS} : gv1 p p := ⟨fun _ _ => rfl, rfl, rfl⟩
theorem gv1_t {p q r : PS} (h : gv1 p q) (h2 : gv1 q r) : gv1 p r := ⟨fun j hj => (h2.1 j hj).trans (h.1 j hj), h2.2.1.trans h.2.1, h2.2.2.trans h.2.2⟩
theorem gvR_0 {pr : Nat → Option PS} : gvR pr pr := fun i _ => by
  cases h : pr i with
  | none => exact Or.inl ⟨rfl, rfl⟩
  | some p => exact Or.inr ⟨p, p, rfl, rfl, gv1_r⟩
theorem gvR_u {pr pr2 : Nat → Option PS} {i : Nat} {p2 q : PS} (h : gvR pr pr2) (hp : pr2 i = some p2) (hq : gv1 p2 q) : gvR pr (va_up pr2 i (some q)) := fun k hk => by
  by_cases hki : k = i
  · subst hki
    rcases h k hk with h | ⟨a, b, h1, h2, h3⟩
    · rw [h.2] at hp; cases hp
    · rw [h2] at hp
      cases hp
      exact Or.inr ⟨a, q, h1, up_same _ _ _, gv1_t h3 hq⟩
  · rw [up_ne _ _ hki]
    exact h k hk
theorem gvR_p {pr pr2 : Nat → Option PS} (h : gvR pr pr2) {i : Nat} (hi : i < 10) {p2 : PS} (hp : pr2 i = some p2) : ∃ p, pr i = some p ∧ gv1 p p2 := by
  rcases h i hi with h | ⟨a, b, h1, h2, h3⟩
  · rw [h.2] at hp; cases hp
  · rw [h2] at hp
    cases hp
    exact ⟨a, h1, h3⟩
theorem gvR_q {pr pr2 : Nat → Option PS} (h : gvR pr pr2) {i : Nat} (hi : i < 10) {p : PS} (hp : pr i = some p) : ∃ p2, pr2 i = some p2 ∧ gv1 p p2 := by
  rcases h i hi with h | ⟨a, b, h1, h2, h3⟩
  · rw [h.1] at hp; cases hp
  · rw [h1] at hp
    cases hp
    exact ⟨b, h2, h3⟩
theorem gvR_bs {pr pr2 : Nat → Option PS} (h : gvR pr pr2) {i : Nat} (hi : i < 10) (t : Int) : bsY pr2 i t = bsY pr i t := by
  rcases h i hi with h | ⟨a, b, h1, h2, h3⟩
  · rw [bsY_0 h.1, bsY_0 h.2]
  · rw [Bool.eq_iff_iff, bsY_1 h1, bsY_1 h2, h3.1 9 (by decide), h3.1 10 (by decide)]
theorem tkn_c {b1 b2 : Nat → Int → Bool} {g : Nat → Nat → Bool} {h : Int} {k : Nat} : ∀ n, (∀ q, q < n → b1 q h = b2 q h) → tkn b1 g h k n = tkn b2 g h k n
  | 0, _ => rfl
  | n + 1, hq => by
    simp only [tkn]
    rw [tkn_c n (fun q h => hq q (by omega)), hq n (by omega)]
/-- what is given when all keys below K are served -/
def gvK (pr pr2 : Nat → Option PS) (n : Int) (K : Nat) : Prop := ∀ i p, i < 10 → pr2 i = some p → isM p.2.2.2 (FY pr n K i) ∧ ((p.1 12 = 1 ∧ 10 * p.1 9 + (i : Int) < (K : Int)) ∨ (p.1 12 = 0 ∧ (K : Int) ≤ 10 * p.1 9 + (i : Int)))
def cS (pr : Nat → Option PS) : Nat → Nat
  | 0 => 0
  | n + 1 => cS pr n + (match pr n with | some p => if p.1 12 = 1 then 1 else 0 | none => 0)
theorem cS_le {pr : Nat → Option PS} : ∀ n, cS pr n ≤ n
  | 0 => Nat.le_refl _
  | n + 1 => by
    have := cS_le (pr := pr) n
    simp only [cS]
    cases pr n with
    | none => simp only []; omega
    | some p => simp only []; split <;> omega
theorem cS_full {pr : Nat → Option PS} : ∀ n, cS pr n = n → ∀ i, i < n → ∃ p, pr i = some p ∧ p.1 12 = 1
  | 0, _, i, hi => absurd hi (Nat.not_lt_zero i)
  | n + 1, h, i, hi => by
    have h1 := cS_le (pr := pr) n
    simp only [cS] at h
    cases hp : pr n with
    | none => rw [hp] at h; simp only [] at h; omega
    | some p =>
      rw [hp] at h
      simp only [] at h
      by_cases hc : p.1 12 = 1
      · rw [if_pos hc] at h
        by_cases hin : i = n
        · subst hin
          exact ⟨p, hp, hc⟩
        · exact cS_full n (by omega) i (by omega)
      · rw [if_neg hc] at h
        omega
theorem cS_lo {pr : Nat → Option PS} {i : Nat} {q : Option PS} : ∀ n, n ≤ i → cS (va_up pr i q) n = cS pr n
  | 0, _ => rfl
  | n + 1, h => by
    simp only [cS]
    rw [cS_lo n (by omega), up_ne _ _ (show n ≠ i by omega)]
theorem cS_up {pr : Nat → Option PS} {i : Nat} {p q : PS} (hp : pr i = some p) (h0 : p.1 12 = 0) (h1 : q.1 12 = 1) : ∀ n, i < n → cS (va_up pr i (some q)) n = cS pr n + 1
  | 0, h => absurd h (Nat.not_lt_zero i)
  | n + 1, h => by
    simp only [cS]
    by_cases hin : i = n
    · subst hin
      rw [cS_lo i (Nat.le_refl i), up_same, hp]
      simp only []
      rw [if_pos h1, if_neg (by omega)]
    · rw [cS_up hp h0 h1 n (by omega), up_ne _ _ (show n ≠ i by omega)]
      omega
theorem cS_0 {pr : Nat → Option PS} : ∀ n, (∀ i p, i < n → pr i = some p → p.1 12 = 0) → cS pr n = 0
  | 0, _ => rfl
  | n + 1, h => by
    simp only [cS]
    rw [cS_0 n (fun i p hi hp => h i p (by omega) hp)]
    cases hp : pr n with
    | none => rfl
    | some p => simp only []; rw [if_neg (by rw [h n p (by omega) hp]; decide)]
theorem gvK_0 {pr pr2 : Nat → Option PS} {n : Int} (h : ∀ i p, i < 10 → pr2 i = some p → isM p.2.2.2 (fun _ => false) ∧ p.1 12 = 0 ∧ 0 ≤ p.1 9) : gvK pr pr2 n 0 := fun i p hi hp => by
  obtain ⟨h1, h2, h3⟩ := h i p hi hp
  exact ⟨h1, Or.inr ⟨h2, by omega⟩⟩
/-- all are served -/
theorem gvK_e {pr pr2 : Nat → Option PS} {n : Int} {K : Nat} (hR : gvR pr pr2) (hb : ∀ i p, i < 10 → pr i = some p → 0 ≤ p.1 9 ∧ p.1 9 ≤ 900) (hK : gvK pr pr2 n K) (h : ∀ i p, i < 10 → pr2 i = some p → p.1 12 = 1) (hle : K ≤ 10000) : ∀ i p, i < 10 → pr2 i = some p → isM p.2.2.2 (FY pr n 10000 i) := fun i p hi hp => by
  have e : FY pr n 10000 = FY pr n K := by
    have h9 := FK_skip (th := thY pr) (st := fdY pr 9) (bsy := bsY pr) (nd := fdY pr 1) (n := n) K (10000 - K) (fun q hq ht hc => by
      rcases hR q hq with h0 | ⟨a, b, h1, h2, h3⟩
      · rw [thY_0 h0.1] at ht; cases ht
      · rw [fdY_1 h1] at hc
        have hk := (hK q b hq h2).2
        have h12 := h q b hq h2
        rw [h3.1 9 (by decide)] at hk
        omega)
    rw [show K + (10000 - K) = 10000 by omega] at h9
    exact h9
  rw [e]
  exact (hK i p hi hp).1
/-- one is served -/
theorem gvK_s {pr pr2 : Nat → Option PS} {n : Int} {K i : Nat} {p q : PS} {z : Int64} (hR : gvR pr pr2) (hb : ∀ i p, i < 10 → pr i = some p → 0 ≤ p.1 9 ∧ p.1 9 ≤ 900) (hK : gvK pr pr2 n K) (hi : i < 10) (hp : pr2 i = some p) (h0 : p.1 12 = 0)
    (hm : ∀ j q, j < 10 → pr2 j = some q → q.1 12 = 0 → p.1 9 < q.1 9 ∨ (p.1 9 = q.1 9 ∧ i ≤ j)) (hz : isM z (lo (fun k => tkn (bsY pr) (FY pr n K) (p.1 9) k 10) (p.1 1) n)) (hq : gv1 p q) (hqz : q.2.2.2 = z) (hq1 : q.1 12 = 1) : gvK pr (va_up pr2 i (some q)) n (10 * (p.1 9).toNat + i + 1) := by
  obtain ⟨a, ha, hap⟩ := gvR_p hR hi hp
  have hb9 := hb i a hi ha
  have e9 := hap.1 9 (by decide)
  have e1 := hap.1 1 (by decide)
  have hKk := (hK i p hi hp).2
  have es : FY pr n (10 * (p.1 9).toNat + i) = FY pr n K := by
    have h9 := FK_skip (th := thY pr) (st := fdY pr 9) (bsy := bsY pr) (nd := fdY pr 1) (n := n) K (10 * (p.1 9).toNat + i - K) (fun r hr ht hc => by
      rcases hR r hr with h0 | ⟨a2, b2, h1, h2, h3⟩
      · rw [thY_0 h0.1] at ht; cases ht
      · rw [fdY_1 h1] at hc
        have hk := (hK r b2 hr h2).2
        have hm9 := hm r b2 hr h2
        rw [h3.1 9 (by decide)] at hk hm9
        omega)
    rw [show K + (10 * (p.1 9).toNat + i - K) = 10 * (p.1 9).toNat + i by omega] at h9
    exact h9
  have hmod : (10 * (p.1 9).toNat + i) % 10 = i := by omega
  have hdiv : ((((10 * (p.1 9).toNat + i) / 10 : Nat)) : Int) = p.1 9 := by omega
  have ey : FY pr n (10 * (p.1 9).toNat + i + 1) = sv (bsY pr) (fdY pr 1) n (FY pr n K) i (p.1 9) := by
    have h9 := FK_yes (th := thY pr) (st := fdY pr 9) (bsy := bsY pr) (nd := fdY pr 1) (n := n) (K := 10 * (p.1 9).toNat + i) (by
      rw [hmod, hdiv]
      exact ⟨thY_1 ha, by rw [fdY_1 ha]; exact e9.symm⟩)
    rw [hmod, hdiv] at h9
    show FK _ _ _ _ _ _ = _
    rw [h9]
    have es' : FK (thY pr) (fdY pr 9) (bsY pr) (fdY pr 1) n (10 * (p.1 9).toNat + i) = FY pr n K := es
    rw [es']
  intro r b hr hb2
  rw [ey]
  unfold sv
  by_cases hri : r = i
  · subst hri
    rw [up_same] at hb2
    cases hb2
    refine ⟨?_, Or.inl ⟨hq1, by rw [hq.1 9 (by decide)]; omega⟩⟩
    rw [hqz, fdY_1 ha, ← e1]
    exact isM_c hz (fun k => by simp)
  · rw [up_ne _ _ hri] at hb2
    have hk := hK r b hr hb2
    obtain ⟨a2, ha2, hap2⟩ := gvR_p hR hr hb2
    refine ⟨isM_c hk.1 (fun k => by simp [hri]), ?_⟩
    rcases hk.2 with h | h
    · exact Or.inl ⟨h.1, by omega⟩
    · have hm9 := hm r b hr hb2 h.1
      exact Or.inr ⟨h.1, by omega⟩
