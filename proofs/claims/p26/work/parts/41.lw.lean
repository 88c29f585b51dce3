/-! ===== the law's world: the yard at the roles 0 to 42, the law's five rows at 43 to 47 ===== -/
def rowN (r : Nat) : Nat := if r = 4 then 3 else 10
def lE (cy : Nat → ClassId) (ad : Nat → Nat) (ya : Nat → Nat → Int) (yi : Nat → Int) (pr : Nat → Option PS) (la : Nat → Nat → Int) : Nat → Option va_E := fun k =>
  if 43 ≤ k then (if k < 48 then some (.inl (cy 0, rowN (k - 43), .inl (fun j => iI (la (k - 43) j)))) else none) else yE cy ad ya yi pr k
/-- what the yard may touch while the law's rows stay -/
def lB (A : Nat → Prop) (ad : Nat → Nat) : Nat → Prop := fun q => A q ∧ ∀ r, r < 5 → q ≠ ad (43 + r)
section LES
variable {D : va_G} {A : Nat → Prop} {cy : Nat → ClassId} {ad ad2 : Nat → Nat} {ya ya2 : Nat → Nat → Int} {yi yi2 : Nat → Int} {pr pq : Nat → Option PS} {la : Nat → Nat → Int} {H H1 : Heap}
theorem lE_r {r : Nat} (hr : r < 5) : lE cy ad ya yi pr la (43 + r) = some (.inl (cy 0, rowN r, .inl (fun j => iI (la r j)))) := by
  unfold lE
  rw [if_pos (by omega), if_pos (by omega), show 43 + r - 43 = r by omega]
theorem lE_hi {k : Nat} (c : 43 ≤ k) : lE cy ad ya yi pr la k = lE cy ad2 ya2 yi2 pq la k := by
  unfold lE
  rw [if_pos c, if_pos c]
theorem lE_lo {k : Nat} (c : k < 43) : lE cy ad ya yi pr la k = yE cy ad ya yi pr k := by
  unfold lE
  rw [if_neg (by omega)]
theorem lE_y (h10 : pr 10 = none) {k : Nat} {v : va_E} (h : yE cy ad ya yi pr k = some v) : lE cy ad ya yi pr la k = some v := by
  have := yE_lt h10 h
  rw [lE_lo (by omega)]
  exact h
theorem lE_at {k : Nat} {v : va_E} (h : lE cy ad ya yi pr la k = some v) (c : 43 ≤ k) : k < 48 := by
  unfold lE at h
  rw [if_pos c] at h
  by_cases c2 : k < 48
  · exact c2
  · rw [if_neg c2] at h
    cases h
theorem zW.lpart (hw : zW D A ad (lE cy ad ya yi pr la) H) (h10 : pr 10 = none) : zW D (lB A ad) ad (yE cy ad ya yi pr) H := by
  refine ⟨fun k v hk => ?_, fun i j v w hi hj hij => hw.2 i j v w (lE_y h10 hi) (lE_y h10 hj) hij⟩
  obtain ⟨a1, a2, a3⟩ := hw.1 k v (lE_y h10 hk)
  refine ⟨a1, a2, a3, fun r hr he => ?_⟩
  have h1 := hw.2 k (43 + r) v _ (lE_y h10 hk) (lE_r hr) he
  have h2 := yE_lt h10 hk
  omega
theorem zW.ljoin (hw : zW D A ad (lE cy ad ya yi pr la) H) (hw1 : zW D (lB A ad) ad2 (yE cy ad2 ya2 yi2 pq) H1) (hk : ∀ q : Nat, q < H.size → ¬ lB A ad q → H1[q]? = H[q]?) (h2 : ∀ r, r < 5 → ad2 (43 + r) = ad (43 + r)) : zW D A ad2 (lE cy ad2 ya2 yi2 pq la) H1 := by
  refine ⟨fun k v hv => ?_, fun i j v w hi hj hij => ?_⟩
  · by_cases c : 43 ≤ k
    · have c2 := lE_at hv c
      rw [lE_hi (ad2 := ad) (ya2 := ya) (yi2 := yi) (pq := pr) c] at hv
      obtain ⟨a1, a2, a3⟩ := hw.1 k v hv
      have e := h2 (k - 43) (by omega)
      rw [show 43 + (k - 43) = k by omega] at e
      rw [e]
      refine ⟨a1, a2.kept (hk _ a2.lt (fun hb => hb.2 (k - 43) (by omega) (by rw [show 43 + (k - 43) = k by omega]))), a3⟩
    · rw [lE_lo (by omega)] at hv
      obtain ⟨a1, a2, a3⟩ := hw1.1 k v hv
      exact ⟨a1, a2, a3.1⟩
  · by_cases ci : 43 ≤ i
    · have ci2 := lE_at hi ci
      have ei := h2 (i - 43) (by omega)
      rw [show 43 + (i - 43) = i by omega] at ei
      rw [lE_hi (ad2 := ad) (ya2 := ya) (yi2 := yi) (pq := pr) ci] at hi
      by_cases cj : 43 ≤ j
      · have cj2 := lE_at hj cj
        have ej := h2 (j - 43) (by omega)
        rw [show 43 + (j - 43) = j by omega] at ej
        rw [lE_hi (ad2 := ad) (ya2 := ya) (yi2 := yi) (pq := pr) cj] at hj
        rw [ei, ej] at hij
        exact hw.2 i j v w hi hj hij
      · rw [lE_lo (by omega)] at hj
        rw [ei] at hij
        exact ((hw1.1 j w hj).2.2.2 (i - 43) (by omega) (by rw [show 43 + (i - 43) = i by omega]; exact hij.symm)).elim
    · rw [lE_lo (by omega)] at hi
      by_cases cj : 43 ≤ j
      · have cj2 := lE_at hj cj
        have ej := h2 (j - 43) (by omega)
        rw [show 43 + (j - 43) = j by omega] at ej
        rw [ej] at hij
        exact ((hw1.1 i v hi).2.2.2 (j - 43) (by omega) (by rw [show 43 + (j - 43) = j by omega]; exact hij)).elim
      · rw [lE_lo (by omega)] at hj
        exact hw1.2 i j v w hi hj hij
theorem zW.adc {e : Nat → Option va_E} (h : zW D A ad2 e H) (ha : ∀ k v, e k = some v → ad k = ad2 k) : zW D A ad e H := by
  refine ⟨fun k v hk => ?_, fun i j v w hi hj hij => ?_⟩
  · rw [ha k v hk]
    exact h.1 k v hk
  · rw [ha i v hi, ha j w hj] at hij
    exact h.2 i j v w hi hj hij
theorem yE_adq (h10 : pr 10 = none) (h : ∀ k, k < 40 → ad2 k = ad k) : yE cy ad2 ya yi pr = yE cy ad ya yi pr := funext fun k => by
  rcases Nat.lt_or_ge k 40 with c | c
  · exact yE_lo h (fun _ _ => rfl) (Or.inl c)
  · cases h1 : yE cy ad2 ya yi pr k with
    | some x => exact absurd (yE_lt h10 h1) (by omega)
    | none =>
      cases h2 : yE cy ad ya yi pr k with
      | some x => exact absurd (yE_lt h10 h2) (by omega)
      | none => rfl
end LES
/-! ===== the law's state: temperatures, the yard's ints, the pours (but for what giving out writes), the law's rows ===== -/
def LW (D : va_G) (cy : Nat → ClassId) (A : Nat → Prop) (ad : Nat → Nat) (T : Nat → Int) (yi : Nat → Int) (pr : Nat → Option PS) (la : Nat → Nat → Int) (H : Heap) : Prop :=
  ∃ (ya : Nat → Nat → Int) (pr2 : Nat → Option PS), zW D A ad (lE cy ad ya yi pr2 la) H ∧ ya 0 = T ∧ gnd T ya ∧ gvR pr pr2 ∧ pr2 10 = none
/-! ===== a contract that touches fewer cells serves where more may be touched ===== -/
section MWI
variable {l : Launch} {y : MethodName} {ws : List Cond} {rm : Room} {D : va_G} {cy : Nat → ClassId} {A B : Nat → Prop} {av : List Value} {H0 : Heap} {mc ms : Nat}
theorem Met.wideI {post post2 : Int → Heap → Prop} (h : Met l y ws rm (zPc D cy B av H0) (zQi post B) mc ms B) (hB : ∀ q, B q → A q) (hp : ∀ z H1, post z H1 → H0.size ≤ H1.size → (∀ q : Nat, q < H0.size → ¬ B q → H1[q]? = H0[q]?) → post2 z H1) : Met l y ws rm (zPc D cy A av H0) (zQi post2 A) mc ms A := by
  refine MetFree.mono h ?_ (fun _ _ _ _ _ h => h) ?_
  · rintro a s ⟨h1, h2, h3⟩
    exact ⟨h1, h2, h3.narrow hB⟩
  · rintro a s o t ⟨-, hH, -⟩ ⟨⟨⟨r, u, ho, ⟨z, hz, hr, hp0⟩, hu⟩, hF1, hF2⟩, L, hL1, hL2⟩
    have hu : t.heap = u := hu
    subst hu
    subst hH
    exact ⟨⟨⟨r, _, ho, ⟨z, hz, hr, hp z _ hp0 hF1 hF2⟩, rfl⟩, hF1, fun q h1 h2 => hF2 q h1 (fun hb => h2 (hB q hb))⟩, L, hL1, fun q hq => hB _ (hL2 q hq)⟩
theorem Met.wideV {post post2 : Heap → Prop} (h : Met l y ws rm (zPc D cy B av H0) (zQv post B) mc ms B) (hB : ∀ q, B q → A q) (hp : ∀ H1, post H1 → H0.size ≤ H1.size → (∀ q : Nat, q < H0.size → ¬ B q → H1[q]? = H0[q]?) → post2 H1) : Met l y ws rm (zPc D cy A av H0) (zQv post2 A) mc ms A := by
  refine MetFree.mono h ?_ (fun _ _ _ _ _ h => h) ?_
  · rintro a s ⟨h1, h2, h3⟩
    exact ⟨h1, h2, h3.narrow hB⟩
  · rintro a s o t ⟨-, hH, -⟩ ⟨⟨⟨u, ho, hp0, hu⟩, hF1, hF2⟩, L, hL1, hL2⟩
    have hu : t.heap = u := hu
    subst hu
    subst hH
    exact ⟨⟨⟨_, ho, hp _ hp0 hF1 hF2, rfl⟩, hF1, fun q h1 h2 => hF2 q h1 (fun hb => h2 (hB q hb))⟩, L, hL1, fun q hq => hB _ (hL2 q hq)⟩
end MWI
/-! ===== the law's rows read and written; the receiver of a call ===== -/
section LRW
variable {p : Program} {l : Launch} {e : Env} {R : Room} {s : State} {m : MethodId} {args : Array Value} {below : List Frame} {meth : Method} {c : Code} {H : Heap} {locs : List Loc} {cells slots : Nat} {Q : State → Prop}
variable {cc : ByteArray} {pc : Nat} {ls : Array Slot} {rest : List Value} {D : va_G} {cy : Nat → ClassId} {A : Nat → Prop} {ad : Nat → Nat} {T : Nat → Int} {yi : Nat → Int} {pr : Nat → Option PS} {la : Nat → Nat → Int}
theorem l_PV {As : List Value} (hE : EN D cy A s s.heap) (hS : va_S A s.heap H locs) (hw : LW D cy A ad T yi pr la H) : PreV s H RX1 (ad 0) (zPc D cy A (.ref (ad 0) :: As) H) As := by
  obtain ⟨ya, pr2, hw, -⟩ := hw
  exact zPV hE hS hw (ci := 1) (k0 := 0) rfl rfl
theorem rowN_s (r : Nat) : rowN r < 2147483648 := by unfold rowN; split <;> omega
theorem l_ald (hx : p.tables.exec = Jvm.exec) (hb : c.code = cc) (hE : EN D cy A s s.heap) (hw : LW D cy A ad T yi pr la H) (r : Nat) (hr : r < 5) {z : Int} (kz : Nat) (hz : z = (kz : Int)) (h1 : kz < rowN r) (hdg : decode cc pc = .ok (.iaload, 1))
    (kk : W p l e R s m args below meth c H locs cells slots Q (F0 m (pc + 1) ls (.int (iI (la r kz)) :: rest))) : W p l e R s m args below meth c H locs cells slots Q (F0 m pc ls (.int (iI z) :: .ref (ad (43 + r)) :: rest)) := by
  obtain ⟨ya, pr2, hw, -⟩ := hw
  exact ziald hx hb hE hw (43 + r) (lE_r hr) kz hz h1 (rowN_s r) hdg kk
theorem l_ast (hx : p.tables.exec = Jvm.exec) (hb : c.code = cc) (hE : EN D cy A s s.heap) (hS : va_S A s.heap H locs) (hw : LW D cy A ad T yi pr la H) (r : Nat) (hr : r < 5) {z x : Int} (kz : Nat) (hz : z = (kz : Int)) (h1 : kz < rowN r) (hdg : decode cc pc = .ok (.iastore, 1))
    (kk : ∀ (H1 : Heap) (locs1 : List Loc), LW D cy A ad T yi pr (va_up la r (va_up (la r) kz x)) H1 → va_S A s.heap H1 locs1 → W p l e R s m args below meth c H1 locs1 cells slots Q (F0 m (pc + 1) ls rest)) : W p l e R s m args below meth c H locs cells slots Q (F0 m pc ls (.int (iI x) :: .int (iI z) :: .ref (ad (43 + r)) :: rest)) := by
  obtain ⟨ya, pr2, hw, hT⟩ := hw
  refine ziast hx hb hE hS hw (43 + r) (lE_r hr) kz hz h1 (rowN_s r) hdg (fun H1 locs1 hw hS => kk H1 locs1 ⟨ya, pr2, hw.cong (fun k => ?_), hT⟩ hS)
  by_cases hk : k = 43 + r
  · subst hk
    rw [up_same, lE_r hr, up_same]
  · rw [up_ne _ _ hk]
    unfold lE
    by_cases c1 : 43 ≤ k
    · rw [if_pos c1, if_pos c1, up_ne _ _ (show k - 43 ≠ r by omega)]
    · rw [if_neg c1, if_neg c1]
end LRW
