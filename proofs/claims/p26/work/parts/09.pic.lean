/-! ===== the two objects as pictures ===== -/
/-- a pour: its ints by field, its two rows, the mask -/
abbrev PS : Type := (Nat → Int) × (Nat → Int) × (Nat → Int) × Int64
def yP (ad : Nat → Nat) (i : Nat) (p : PS) : List Value := [.int (iI (p.1 0)), .int (iI (p.1 1)), .int (iI (p.1 2)), .int (iI (p.1 3)), .int (iI (p.1 4)), .ref (ad (11 + 3 * i)), .ref (ad (12 + 3 * i)), .int (iI (p.1 7)), .int (iI (p.1 8)), .int (iI (p.1 9)), .int (iI (p.1 10)), .long p.2.2.2, .int (iI (p.1 12))]
def yO (ad : Nat → Nat) (yi : Nat → Int) : List Value := [.ref (ad 1), .ref (ad 2), .ref (ad 3), .ref (ad 4), .ref (ad 5), .int (iI (yi 5)), .int (iI (yi 6)), .int (iI (yi 7)), .int (iI (yi 8))]
def yR (ad : Nat → Nat) (pr : Nat → Option PS) : Nat → Option Nat := fun i => if i < 10 then (pr i).map (fun _ => ad (10 + 3 * i)) else none
def yE (cy : Nat → ClassId) (ad : Nat → Nat) (ya : Nat → Nat → Int) (yi : Nat → Int) (pr : Nat → Option PS) : Nat → Option va_E := fun k =>
  if k = 0 then some (.inr (1, yO ad yi))
  else if k = 1 then some (.inl (cy 0, 1000, .inl (fun j => iI (ya 0 j))))
  else if k = 2 then some (.inl (cy 0, 1001, .inl (fun j => iI (ya 1 j))))
  else if k = 3 then some (.inl (cy 0, 1000, .inl (fun j => iI (ya 2 j))))
  else if k = 4 then some (.inl (cy 0, 1001, .inl (fun j => iI (ya 3 j))))
  else if k = 5 then some (.inl (cy 2, 10, .inr (.inr (.inr (.inr (yR ad pr))))))
  else if k < 10 then none
  else if k < 43 then (pr ((k - 10) / 3)).map (fun p => if k % 3 = 1 then .inr (0, yP ad ((k - 10) / 3) p) else if k % 3 = 2 then .inl (cy 0, 4, .inl (fun j => iI (p.2.1 j))) else .inl (cy 0, 4, .inl (fun j => iI (p.2.2.1 j))))
  else none
section YE
variable {cy : Nat → ClassId} {ad : Nat → Nat} {ya : Nat → Nat → Int} {yi : Nat → Int} {pr : Nat → Option PS}
theorem yE_0 : yE cy ad ya yi pr 0 = some (.inr (1, yO ad yi)) := rfl
theorem yE_1 : yE cy ad ya yi pr 1 = some (.inl (cy 0, 1000, .inl (fun j => iI (ya 0 j)))) := rfl
theorem yE_2 : yE cy ad ya yi pr 2 = some (.inl (cy 0, 1001, .inl (fun j => iI (ya 1 j)))) := rfl
theorem yE_3 : yE cy ad ya yi pr 3 = some (.inl (cy 0, 1000, .inl (fun j => iI (ya 2 j)))) := rfl
theorem yE_4 : yE cy ad ya yi pr 4 = some (.inl (cy 0, 1001, .inl (fun j => iI (ya 3 j)))) := rfl
theorem yE_5 : yE cy ad ya yi pr 5 = some (.inl (cy 2, 10, .inr (.inr (.inr (.inr (yR ad pr)))))) := rfl
theorem yE_hi {k : Nat} (h1 : 10 ≤ k) (h2 : k < 43) : yE cy ad ya yi pr k = (pr ((k - 10) / 3)).map (fun p => if k % 3 = 1 then .inr (0, yP ad ((k - 10) / 3) p) else if k % 3 = 2 then .inl (cy 0, 4, .inl (fun j => iI (p.2.1 j))) else .inl (cy 0, 4, .inl (fun j => iI (p.2.2.1 j)))) := by
  unfold yE
  rw [if_neg (by omega), if_neg (by omega), if_neg (by omega), if_neg (by omega), if_neg (by omega), if_neg (by omega), if_neg (by omega), if_pos h2]
theorem yE_p {i : Nat} (hi : i < 11) {p : PS} (hp : pr i = some p) : yE cy ad ya yi pr (10 + 3 * i) = some (.inr (0, yP ad i p)) := by
  rw [yE_hi (by omega) (by omega), show (10 + 3 * i - 10) / 3 = i by omega, hp, Option.map_some, if_pos (by omega)]
theorem yE_q {i : Nat} (hi : i < 11) {p : PS} (hp : pr i = some p) : yE cy ad ya yi pr (11 + 3 * i) = some (.inl (cy 0, 4, .inl (fun j => iI (p.2.1 j)))) := by
  rw [yE_hi (by omega) (by omega), show (11 + 3 * i - 10) / 3 = i by omega, hp, Option.map_some, if_neg (by omega), if_pos (by omega)]
theorem yE_r {i : Nat} (hi : i < 11) {p : PS} (hp : pr i = some p) : yE cy ad ya yi pr (12 + 3 * i) = some (.inl (cy 0, 4, .inl (fun j => iI (p.2.2.1 j)))) := by
  rw [yE_hi (by omega) (by omega), show (12 + 3 * i - 10) / 3 = i by omega, hp, Option.map_some, if_neg (by omega), if_neg (by omega)]
theorem yR_0 {i : Nat} (h : pr i = none) : va_rf (yR ad pr i) = .null := by unfold yR; rw [h]; split <;> rfl
theorem yR_1 {i : Nat} {p : PS} (h : pr i = some p) (hi : i < 10 := by omega) : va_rf (yR ad pr i) = .ref (ad (10 + 3 * i)) := by unfold yR; rw [if_pos hi, h]; rfl
theorem yR_none : yR ad (fun _ => none) = fun _ => none := funext fun i => by unfold yR; split <;> rfl
theorem up_same {α : Type} (f : Nat → α) (k : Nat) (v : α) : va_up f k v k = v := if_pos rfl
theorem up_ne {α : Type} (f : Nat → α) {k j : Nat} (v : α) (h : j ≠ k) : va_up f k v j = f j := if_neg h
/-- an int array of the yard is written -/
theorem yU_a (a : Nat) (ha : a < 4) (i : Nat) (v : Int) {n : Nat} (h : yE cy ad ya yi pr (a + 1) = some (.inl (cy 0, n, .inl (fun j => iI (ya a j))))) : ∀ k, yE cy ad (va_up ya a (va_up (ya a) i v)) yi pr k = va_up (yE cy ad ya yi pr) (a + 1) (some (.inl (cy 0, n, .inl (fun j => iI (va_up (ya a) i v j))))) k := by
  intro k
  by_cases hk : k = a + 1
  · subst hk
    rw [up_same]
    rcases (show a = 0 ∨ a = 1 ∨ a = 2 ∨ a = 3 by omega) with rfl | rfl | rfl | rfl <;> (simp only [yE] at h ⊢; simp [up_same] at h ⊢; first | exact h | simp [h])
  · rw [up_ne _ _ hk]
    rcases (show a = 0 ∨ a = 1 ∨ a = 2 ∨ a = 3 by omega) with rfl | rfl | rfl | rfl <;>
    · unfold yE
      by_cases h0 : k = 0
      · simp [h0]
      by_cases h1 : k = 1
      · simp_all [va_up]
      by_cases h2 : k = 2
      · simp_all [va_up]
      by_cases h3 : k = 3
      · simp_all [va_up]
      by_cases h4 : k = 4
      · simp_all [va_up]
      simp [h0, h1, h2, h3, h4]
/-- an int of the yard is written -/
theorem yU_i (j : Nat) (hj : j = 5 ∨ j = 6 ∨ j = 7 ∨ j = 8) (v : Int) : ∀ k, yE cy ad ya (va_up yi j v) pr k = va_up (yE cy ad ya yi pr) 0 (some (.inr (1, (yO ad yi).set j (.int (iI v))))) k := by
  intro k
  by_cases hk : k = 0
  · subst hk
    rw [up_same, yE_0]
    rcases hj with rfl | rfl | rfl | rfl <;> simp [yO, va_up]
  · rw [up_ne _ _ hk]
    unfold yE
    simp [hk]
theorem yR_up {i : Nat} {p p2 : PS} (hp : pr i = some p) : yR ad (va_up pr i (some p2)) = yR ad pr := by
  funext j
  unfold yR va_up
  by_cases h : j = i
  · subst h; simp [hp]
  · simp [h]
/-- what a pour's three cells are when one of them changes -/
theorem yU_p {i : Nat} (hi : i < 11) {p p2 : PS} (hp : pr i = some p) (w : va_E) (r : Nat) (hr : r < 3) (hw : (if r = 0 then .inr (0, yP ad i p2) else if r = 1 then .inl (cy 0, 4, .inl (fun j => iI (p2.2.1 j))) else .inl (cy 0, 4, .inl (fun j => iI (p2.2.2.1 j)))) = w)
    (h0 : r ≠ 0 → yP ad i p2 = yP ad i p) (h1 : r ≠ 1 → p2.2.1 = p.2.1) (h2 : r ≠ 2 → p2.2.2.1 = p.2.2.1) : ∀ k, yE cy ad ya yi (va_up pr i (some p2)) k = va_up (yE cy ad ya yi pr) (10 + r + 3 * i) (some w) k := by
  intro k
  subst hw
  by_cases hk : k = 10 + r + 3 * i
  · subst hk
    rw [up_same, yE_hi (by omega) (by omega), show (10 + r + 3 * i - 10) / 3 = i by omega, up_same, Option.map_some]
    rcases (show r = 0 ∨ r = 1 ∨ r = 2 by omega) with rfl | rfl | rfl
    · rw [if_pos (by omega), if_pos rfl]
    · rw [if_neg (by omega), if_pos (by omega), if_neg (by omega), if_pos rfl]
    · rw [if_neg (by omega), if_neg (by omega), if_neg (by omega), if_neg (by omega)]
  · rw [up_ne _ _ hk]
    by_cases hl : 10 ≤ k ∧ k < 43
    · rw [yE_hi hl.1 hl.2, yE_hi hl.1 hl.2]
      by_cases hq : (k - 10) / 3 = i
      · rw [hq, up_same, hp, Option.map_some, Option.map_some]
        rcases (show k % 3 = 1 ∨ k % 3 = 2 ∨ k % 3 = 0 by omega) with h | h | h
        · rw [if_pos h, if_pos h, h0 (by omega)]
        · rw [if_neg (by omega), if_pos h, if_neg (by omega), if_pos h, h1 (by omega)]
        · rw [if_neg (by omega), if_neg (by omega), if_neg (by omega), if_neg (by omega), h2 (by omega)]
      · rw [up_ne _ _ hq]
    · unfold yE
      rw [yR_up hp]
      by_cases h10 : k < 10
      · simp [h10]
      · have : ¬ k < 43 := by omega
        simp [h10, this]
theorem yU_f {i : Nat} (hi : i < 11) {p : PS} (hp : pr i = some p) (j : Nat) (hj : j < 13) (hj2 : j ≠ 5 ∧ j ≠ 6 ∧ j ≠ 11) (v : Int) : ∀ k, yE cy ad ya yi (va_up pr i (some (va_up p.1 j v, p.2))) k = va_up (yE cy ad ya yi pr) (10 + 3 * i) (some (.inr (0, (yP ad i p).set j (.int (iI v))))) k :=
  yU_p hi hp _ 0 (by omega) (by
    rw [if_pos rfl]
    rcases (show j = 0 ∨ j = 1 ∨ j = 2 ∨ j = 3 ∨ j = 4 ∨ j = 7 ∨ j = 8 ∨ j = 9 ∨ j = 10 ∨ j = 12 by omega) with rfl | rfl | rfl | rfl | rfl | rfl | rfl | rfl | rfl | rfl <;> simp [yP, va_up]) (fun h => absurd rfl h) (fun _ => rfl) (fun _ => rfl)
theorem yU_g {i : Nat} (hi : i < 11) {p : PS} (hp : pr i = some p) (v : Int64) : ∀ k, yE cy ad ya yi (va_up pr i (some (p.1, p.2.1, p.2.2.1, v))) k = va_up (yE cy ad ya yi pr) (10 + 3 * i) (some (.inr (0, (yP ad i p).set 11 (.long v)))) k :=
  yU_p hi hp _ 0 (by omega) (by rw [if_pos rfl]; simp [yP]) (fun h => absurd rfl h) (fun _ => rfl) (fun _ => rfl)
theorem yU_q {i : Nat} (hi : i < 11) {p : PS} (hp : pr i = some p) (x : Nat) (v : Int) : ∀ k, yE cy ad ya yi (va_up pr i (some (p.1, va_up p.2.1 x v, p.2.2))) k = va_up (yE cy ad ya yi pr) (11 + 3 * i) (some (.inl (cy 0, 4, .inl (fun j => iI (va_up p.2.1 x v j))))) k := by
  have h := yU_p (cy := cy) (ad := ad) (ya := ya) (yi := yi) hi hp (p2 := (p.1, va_up p.2.1 x v, p.2.2)) _ 1 (by omega) rfl (fun _ => rfl) (fun h => absurd rfl h) (fun _ => rfl)
  rw [if_neg (by omega), if_pos rfl, show 10 + 1 + 3 * i = 11 + 3 * i by omega] at h
  exact h
theorem yU_r {i : Nat} (hi : i < 11) {p : PS} (hp : pr i = some p) (x : Nat) (v : Int) : ∀ k, yE cy ad ya yi (va_up pr i (some (p.1, p.2.1, va_up p.2.2.1 x v, p.2.2.2))) k = va_up (yE cy ad ya yi pr) (12 + 3 * i) (some (.inl (cy 0, 4, .inl (fun j => iI (va_up p.2.2.1 x v j))))) k := by
  have h := yU_p (cy := cy) (ad := ad) (ya := ya) (yi := yi) hi hp (p2 := (p.1, p.2.1, va_up p.2.2.1 x v, p.2.2.2)) _ 2 (by omega) rfl (fun _ => rfl) (fun _ => rfl) (fun h => absurd rfl h)
  rw [if_neg (by omega), if_neg (by omega), show 10 + 2 + 3 * i = 12 + 3 * i by omega] at h
  exact h
end YE
