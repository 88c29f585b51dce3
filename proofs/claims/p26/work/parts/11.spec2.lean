theorem gAt_b {T : Nat → Int} (h : tOK T) (x : Int) : 0 ≤ gAt T x ∧ gAt T x ≤ 60 := by
  unfold gAt
  split
  · have := h x.toNat (by omega)
    exact gn_b this.1 this.2
  · omega
/-- a sum of the first n -/
def sl (f : Nat → Int) : Nat → Int
  | 0 => 0
  | n + 1 => sl f n + f n
theorem sl_c {f g : Nat → Int} : ∀ {n : Nat}, (∀ k, k < n → f k = g k) → sl f n = sl g n
  | 0, _ => rfl
  | n + 1, h => by
    show sl f n + f n = sl g n + g n
    rw [sl_c (fun k hk => h k (by omega)), h n (by omega)]
theorem sl_b {f : Nat → Int} {a b : Int} : ∀ {n : Nat}, (∀ k, k < n → a ≤ f k ∧ f k ≤ b) → a * n ≤ sl f n ∧ sl f n ≤ b * n
  | 0, _ => by simp [sl]
  | n + 1, h => by
    have h1 := sl_b (f := f) (a := a) (b := b) (n := n) (fun k hk => h k (by omega))
    have h2 := h n (by omega)
    have e1 : a * ((n + 1 : Nat) : Int) = a * n + a := by rw [Int.natCast_add, Int.mul_add]; simp
    have e2 : b * ((n + 1 : Nat) : Int) = b * n + b := by rw [Int.natCast_add, Int.mul_add]; simp
    show _ ≤ sl f n + f n ∧ sl f n + f n ≤ _
    omega
def endS (rt st vol : Int) (ln : Nat → Int) (nb : Int) : Int := st + (vol + rt - 1) / rt + sl ln nb.toNat
def fnd (P : Int → Prop) [DecidablePred P] : Int → Nat → Int
  | h, 0 => h
  | h, n + 1 => if P h then h else fnd P (h + 1) n
theorem fnd_s (P : Int → Prop) [DecidablePred P] {h : Int} (hh : h < 1000) : fnd P h (1000 - h).toNat = if P h then h else fnd P (h + 1) (1000 - (h + 1)).toNat := by
  rw [show (1000 - h).toNat = (1000 - (h + 1)).toNat + 1 by omega]
  rfl
theorem fnd_e (P : Int → Prop) [DecidablePred P] {h : Int} (hh : 1000 ≤ h) : fnd P h (1000 - h).toNat = h := by
  rw [show (1000 - h).toNat = 0 by omega]
  rfl
theorem fnd_b (P : Int → Prop) [DecidablePred P] : ∀ (n : Nat) (h : Int), h ≤ fnd P h n ∧ fnd P h n ≤ h + n ∧ (fnd P h n < h + n → P (fnd P h n)) ∧ ∀ x, h ≤ x → x < fnd P h n → ¬ P x
  | 0, h => ⟨Int.le_refl _, by simp [fnd], fun q => by simp [fnd] at q, fun x h1 h2 => by simp [fnd] at h2; omega⟩
  | n + 1, h => by
    obtain ⟨h1, h2, h3, h4⟩ := fnd_b P n (h + 1)
    show h ≤ (if P h then h else fnd P (h + 1) n) ∧ (if P h then h else fnd P (h + 1) n) ≤ h + (n + 1 : Nat) ∧ ((if P h then h else fnd P (h + 1) n) < h + (n + 1 : Nat) → P (if P h then h else fnd P (h + 1) n)) ∧ ∀ x, h ≤ x → x < (if P h then h else fnd P (h + 1) n) → ¬ P x
    by_cases hP : P h
    · simp only [if_pos hP]
      refine ⟨Int.le_refl _, by omega, fun _ => hP, fun x a b => by omega⟩
    · simp only [if_neg hP]
      refine ⟨by omega, by omega, fun q => h3 (by omega), fun x a b => ?_⟩
      by_cases hx : x = h
      · rw [hx]; exact hP
      · exact h4 x (by omega) b
/-- the hour of striking; 1000 or more: never -/
def strikeS (T : Nat → Int) (w e : Int) : Int := fnd (fun h => w ≤ strg (mat T e h)) e (1000 - e).toNat
theorem strikeS_b (T : Nat → Int) (w e : Int) : e ≤ strikeS T w e ∧ (e ≤ 1000 → strikeS T w e ≤ 1000) ∧ (strikeS T w e < 1000 → w ≤ strg (mat T e (strikeS T w e))) ∧ ∀ x, e ≤ x → x < strikeS T w e → strg (mat T e x) < w := by
  obtain ⟨h1, h2, h3, h4⟩ := fnd_b (fun h => w ≤ strg (mat T e h)) (1000 - e).toNat e
  refine ⟨h1, fun h => ?_, fun h => h3 ?_, fun x a b => by have := h4 x a b; omega⟩
  · unfold strikeS; omega
  · unfold strikeS at h; omega
def standS (su st : Int) : Int := if st < su then 0 else st - su
def freeS (cl k : Int) : Int := if k < 1000 then k + cl else 1000
/-- the bounds of what is told of a pour -/
def pOK (ma : Nat → Nat → Int) (p : Nat) : Prop := (0 ≤ ma 8 p ∧ ma 8 p ≤ 900) ∧ (1 ≤ ma 9 p ∧ ma 9 p ≤ 200) ∧ (1 ≤ ma 10 p ∧ ma 10 p ≤ 30) ∧ (1 ≤ ma 11 p ∧ ma 11 p ≤ 100) ∧ (0 ≤ ma 12 p ∧ ma 12 p ≤ 4) ∧ ∀ k : Nat, (k : Int) < ma 12 p → (0 ≤ ma 13 (4 * p + k) ∧ ma 13 (4 * p + k) ≤ 199) ∧ 1 ≤ ma 14 (4 * p + k) ∧ ma 14 (4 * p + k) ≤ 9
def gOK (mi : Nat → Int) : Prop := (0 ≤ mi 2 ∧ mi 2 ≤ 60) ∧ (1 ≤ mi 3 ∧ mi 3 ≤ 50) ∧ (1 ≤ mi 4 ∧ mi 4 ≤ 50) ∧ (0 ≤ mi 5 ∧ mi 5 ≤ 24) ∧ 0 ≤ mi 6 ∧ mi 6 ≤ 24
def mOK (mi : Nat → Int) (ma : Nat → Nat → Int) : Prop := tOK (ma 1) ∧ gOK mi ∧ (∀ j, j < 11 → ma 7 j = 0 ∨ ma 7 j = 1) ∧ ∀ p, p < 10 → ma 7 p = 1 → pOK ma p
def endM (mi : Nat → Int) (ma : Nat → Nat → Int) (p : Nat) : Int := endS (min (mi 3) (mi 4)) (ma 8 p) (ma 9 p) (fun k => ma 14 (4 * p + k)) (ma 12 p)
theorem div_b {a b : Int} (ha : 0 ≤ a) (hb : 1 ≤ b) : 0 ≤ a / b ∧ a / b ≤ a := ⟨Int.ediv_nonneg ha (by omega), by
  have h1 := Int.mul_ediv_self_le (x := a) (k := b) (by omega)
  have h2 : 0 ≤ a / b := Int.ediv_nonneg ha (by omega)
  have h3 : 1 * (a / b) ≤ b * (a / b) := Int.mul_le_mul_of_nonneg_right hb h2
  omega⟩
theorem endM_b {mi : Nat → Int} {ma : Nat → Nat → Int} {p : Nat} (hg : gOK mi) (hp : pOK ma p) : 0 ≤ sl (fun k => ma 14 (4 * p + k)) (ma 12 p).toNat ∧ sl (fun k => ma 14 (4 * p + k)) (ma 12 p).toNat ≤ 36 ∧ 0 ≤ (ma 9 p + min (mi 3) (mi 4) - 1) / min (mi 3) (mi 4) ∧ (ma 9 p + min (mi 3) (mi 4) - 1) / min (mi 3) (mi 4) ≤ 249 ∧ 0 ≤ endM mi ma p ∧ endM mi ma p ≤ 1185 := by
  obtain ⟨h1, h2, h3, h4, h5, h6⟩ := hp
  obtain ⟨g1, g2, g3, g4, g5⟩ := hg
  have hs := sl_b (f := fun k => ma 14 (4 * p + k)) (a := 0) (b := 9) (n := (ma 12 p).toNat) (fun k hk => by have := h6 k (by omega); constructor <;> (try simp only []) <;> omega)
  have hd := div_b (a := ma 9 p + min (mi 3) (mi 4) - 1) (b := min (mi 3) (mi 4)) (by omega) (by omega)
  unfold endM endS
  refine ⟨by omega, by omega, hd.1, by omega, by omega, by omega⟩
/-- the rows of a pour's working out -/
def wV (mi : Nat → Int) (ma : Nat → Nat → Int) (p : Nat) (mb : Nat → Nat → Int) : Prop := mb 15 p = standS (mi 5) (ma 8 p) ∧ mb 16 p = (if strikeS (ma 1) (ma 11 p) (endM mi ma p) < 1000 then strikeS (ma 1) (ma 11 p) (endM mi ma p) else -1) ∧ mb 17 p = freeS (mi 6) (strikeS (ma 1) (ma 11 p) (endM mi ma p))
def rU (k p : Nat) (ma mb : Nat → Nat → Int) : Prop := ∀ r j, (r ≠ k ∨ j ≠ p) → mb r j = ma r j
theorem rU_r {k p : Nat} {ma : Nat → Nat → Int} : rU k p ma ma := fun _ _ _ => rfl
theorem rU_s {k p : Nat} {ma mb mc : Nat → Nat → Int} {v : Int} (h : rU k p ma mb) (e : mc = va_up mb k (va_up (mb k) p v)) : rU k p ma mc ∧ mc k p = v := by
  subst e
  refine ⟨fun r j hj => ?_, by rw [up_same, up_same]⟩
  by_cases hr : r = k
  · subst hr
    rw [up_same, up_ne _ _ (by rcases hj with q | q; exact absurd rfl q; exact q)]
    exact h r j hj
  · rw [up_ne _ _ hr]
    exact h r j hj
theorem rU_row {k p r : Nat} {ma mb : Nat → Nat → Int} (h : rU k p ma mb) (hr : r ≠ k) : mb r = ma r := funext fun j => h r j (Or.inl hr)
/-- only the rows 15, 16, 17 at p may differ -/
def wU (p : Nat) (ma mb : Nat → Nat → Int) : Prop := ∀ r j, (r < 15 ∨ 17 < r ∨ j ≠ p) → mb r j = ma r j
/-- .. at places below 10 -/
def aU (ma mb : Nat → Nat → Int) : Prop := ∀ r j, (r < 15 ∨ 17 < r ∨ 10 ≤ j) → mb r j = ma r j
theorem wU_row {p r : Nat} {ma mb : Nat → Nat → Int} (h : wU p ma mb) (hr : r < 15 ∨ 17 < r) : mb r = ma r := funext fun j => h r j (by omega)
theorem aU_row {r : Nat} {ma mb : Nat → Nat → Int} (h : aU ma mb) (hr : r < 15 ∨ 17 < r) : mb r = ma r := funext fun j => h r j (by omega)
theorem pOK_c {ma mb : Nat → Nat → Int} {p : Nat} (h8 : mb 8 = ma 8) (h9 : mb 9 = ma 9) (h10 : mb 10 = ma 10) (h11 : mb 11 = ma 11) (h12 : mb 12 = ma 12) (h13 : mb 13 = ma 13) (h14 : mb 14 = ma 14) : pOK mb p ↔ pOK ma p := by
  unfold pOK
  rw [h8, h9, h10, h11, h12, h13, h14]
theorem endM_c {mi : Nat → Int} {ma mb : Nat → Nat → Int} {p : Nat} (h8 : mb 8 = ma 8) (h9 : mb 9 = ma 9) (h12 : mb 12 = ma 12) (h14 : mb 14 = ma 14) : endM mi mb p = endM mi ma p := by
  unfold endM
  rw [h8, h9, h12, h14]
/-- the need of an hour, as the rows 15 and 17 say -/
def nsum (ma : Nat → Nat → Int) (h : Int) : Nat → Int
  | 0 => 0
  | p + 1 => nsum ma h p + (if ma 7 p = 1 ∧ ma 15 p ≤ h ∧ h < ma 17 p then ma 10 p else 0)
theorem nsum_b {ma : Nat → Nat → Int} {h : Int} : ∀ {n : Nat}, (∀ p, p < n → ma 7 p = 1 → 1 ≤ ma 10 p ∧ ma 10 p ≤ 30) → 0 ≤ nsum ma h n ∧ nsum ma h n ≤ 30 * n
  | 0, _ => by simp [nsum]
  | n + 1, hp => by
    have h1 := nsum_b (ma := ma) (h := h) (n := n) (fun p q => hp p (by omega))
    have h2 := hp n (by omega)
    simp only [nsum]
    split
    · rename_i hc
      have := h2 hc.1
      omega
    · omega
theorem up_up {α : Type} (f : Nat → α) (k : Nat) (v w : α) : va_up (va_up f k v) k w = va_up f k w := by
  funext j
  unfold va_up
  split <;> rfl
