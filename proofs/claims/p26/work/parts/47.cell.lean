/-! ===== the law's cell; what the law knows behind a change ===== -/
def LC (pg : Program) (s : State) (mt : MethodId) (c : Code) (b : Nat) (D : va_G) (cy : Nat → ClassId) (A : Nat → Prop) : Prop :=
  (pg.tables.exec = Jvm.exec ∧ c.code = cL_law ∧ c.maxLocals = 16 ∧ s.vm.findClass RL = some mt.cls ∧ (∀ w ∈ wsL_law, w.before #[Value.ref b] s = true)) ∧ EN D cy A s s.heap ∧ (∀ q, s.heap.size ≤ q → A q)
def LI (D : va_G) (cy : Nat → ClassId) (A : Nat → Prop) (x0 r0 r1 r2 r3 r4 : Nat) (H : Heap) : Prop :=
  ∃ (ad : Nat → Nat) (T : Nat → Int) (yi : Nat → Int) (pr : Nat → Option PS) (la : Nat → Nat → Int), ad 0 = x0 ∧ ad 43 = r0 ∧ ad 44 = r1 ∧ ad 45 = r2 ∧ ad 46 = r3 ∧ ad 47 = r4 ∧ LW D cy A ad T yi pr la H ∧ YS T yi pr ∧ LA yi pr la
theorem keep1_r {a : Option PS} : keep1 a a := by
  cases h : a with
  | none => exact Or.inl ⟨rfl, rfl⟩
  | some p => exact Or.inr ⟨p, p, rfl, rfl, rfl, rfl, rfl⟩
theorem cntY_free {pr : Nat → Option PS} : ∀ {n : Nat}, cntY pr n < n → ∃ i, i < n ∧ pr i = none
  | 0, h => by simp [cntY] at h
  | n + 1, h => by
    cases hp : pr n with
    | none => exact ⟨n, by omega, hp⟩
    | some p =>
      rw [cntY_s hp] at h
      obtain ⟨i, hi, h1⟩ := cntY_free (pr := pr) (n := n) (by omega)
      exact ⟨i, by omega, h1⟩
section LAS
variable {yi yi2 : Nat → Int} {pr pq : Nat → Option PS} {la la1 la2 la3 la4 : Nat → Nat → Int}
theorem LA.one {r0 r1 r2 r3 : Int} (h : LA yi pr la) {a b : Option PS} (hab : keep1 a b) {i : Nat} (ha : a = pr i) (hi : i < 10) (e0 : r0 = la 0 i) (e1 : r1 = la 1 i) (e2 : r2 = la 2 i) (e3 : r3 = la 3 i) : (r0 = 0 ∧ b = none) ∨ (r0 = 1 ∧ ∃ p, b = some p ∧ p.1 1 = r1 ∧ p.1 2 = r2 ∧ p.1 3 = r3) := by
  subst ha
  rw [e0, e1, e2, e3]
  rcases h.1 i hi with ⟨c0, hn⟩ | ⟨c0, p, hp, m1, m2, m3⟩
  · rcases hab with ⟨-, c⟩ | ⟨p, q, c, -⟩
    · exact Or.inl ⟨c0, c⟩
    · rw [hn] at c; cases c
  · rcases hab with ⟨c, -⟩ | ⟨p2, q, c, c2, k1, k2, k3⟩
    · rw [hp] at c; cases c
    · rw [hp] at c
      cases c
      exact Or.inr ⟨c0, q, c2, k1.trans m1, k2.trans m2, k3.trans m3⟩
theorem LA.all (h : LA yi pr la) (hk : ∀ j, j < 10 → keep1 (pr j) (pq j)) (hr : ∀ r, r < 4 → la2 r = la r) (h0 : la2 4 0 = yi2 7) (h1 : la2 4 1 = yi2 8) (h2 : la2 4 2 = yi2 5) : LA yi2 pq la2 :=
  ⟨fun j hj => by rw [hr 0 (by decide), hr 1 (by decide), hr 2 (by decide), hr 3 (by decide)]; exact h.one (hk j hj) rfl hj rfl rfl rfl rfl, h0, h1, h2⟩
theorem LA.put (h : LA yi pr la) {n : Nat} (hk : ∀ j, j < 10 → j ≠ n → keep1 (pr j) (pq j)) (hr : ∀ r j, r < 4 → j ≠ n → la2 r j = la r j) (h4 : la2 4 = la 4) (hn : (la2 0 n = 0 ∧ pq n = none) ∨ (la2 0 n = 1 ∧ ∃ p, pq n = some p ∧ p.1 1 = la2 1 n ∧ p.1 2 = la2 2 n ∧ p.1 3 = la2 3 n)) : LA yi pq la2 := by
  refine ⟨fun j hj => ?_, by rw [h4]; exact h.2⟩
  by_cases c : j = n
  · rw [c]; exact hn
  · exact h.one (hk j hj c) rfl hj (hr 0 j (by decide) c) (hr 1 j (by decide) c) (hr 2 j (by decide) c) (hr 3 j (by decide) c)
theorem row_s {n r : Nat} {v : Int} : va_up la r (va_up (la r) n v) r n = v := by rw [up_same, up_same]
theorem row_n {n r q j : Nat} {v : Int} (h : q ≠ r ∨ j ≠ n) : va_up la r (va_up (la r) n v) q j = la q j := by
  by_cases c : q = r
  · subst c
    rw [up_same]
    rcases h with h | h
    · exact absurd rfl h
    · rw [up_ne _ _ h]
  · rw [up_ne _ _ c]
theorem LA.plan (h : LA yi pr la) {n : Nat} {q : PS} {a d f : Int} (hk : ∀ j, j < 10 → j ≠ n → keep1 (pr j) (pq j)) (hq : pq n = some q) (e1 : q.1 1 = d) (e2 : q.1 2 = f) (e3 : q.1 3 = a) (h1 : la1 = va_up la 0 (va_up (la 0) n 1)) (h2 : la2 = va_up la1 1 (va_up (la1 1) n d)) (h3 : la3 = va_up la2 2 (va_up (la2 2) n f)) (h4 : la4 = va_up la3 3 (va_up (la3 3) n a)) : LA yi pq la4 := by
  have e4 : ∀ r j, r ≠ 3 ∨ j ≠ n → la4 r j = la3 r j := fun r j hc => by rw [h4]; exact row_n hc
  have e5 : ∀ r j, r ≠ 2 ∨ j ≠ n → la3 r j = la2 r j := fun r j hc => by rw [h3]; exact row_n hc
  have e6 : ∀ r j, r ≠ 1 ∨ j ≠ n → la2 r j = la1 r j := fun r j hc => by rw [h2]; exact row_n hc
  have e7 : ∀ r j, r ≠ 0 ∨ j ≠ n → la1 r j = la r j := fun r j hc => by rw [h1]; exact row_n hc
  refine h.put hk (fun r j _ hj => by rw [e4 r j (Or.inr hj), e5 r j (Or.inr hj), e6 r j (Or.inr hj), e7 r j (Or.inr hj)]) (funext fun j => by rw [e4 4 j (by omega), e5 4 j (by omega), e6 4 j (by omega), e7 4 j (by omega)]) (Or.inr ⟨?_, q, hq, ?_, ?_, ?_⟩)
  · rw [e4 0 n (by omega), e5 0 n (by omega), e6 0 n (by omega), h1]; exact row_s
  · rw [e4 1 n (by omega), e5 1 n (by omega), h2, e1]; exact row_s.symm
  · rw [e4 2 n (by omega), h3, e2]; exact row_s.symm
  · rw [h4, e3]; exact row_s.symm
theorem LA.cancel (h : LA yi pr la) {n : Nat} (hk : ∀ j, j < 10 → j ≠ n → keep1 (pr j) (pq j)) (hq : pq n = none) (h1 : la1 = va_up la 0 (va_up (la 0) n 0)) : LA yi pq la1 := by
  have e7 : ∀ r j, r ≠ 0 ∨ j ≠ n → la1 r j = la r j := fun r j hc => by rw [h1]; exact row_n hc
  refine h.put hk (fun r j _ hj => e7 r j (Or.inr hj)) (funext fun j => e7 4 j (by omega)) (Or.inl ⟨?_, hq⟩)
  rw [h1]
  exact row_s
theorem LA.move (h : LA yi pr la) {n : Nat} (hn : n < 10) {p q : PS} {a : Int} (hp : pr n = some p) (hk : ∀ j, j < 10 → j ≠ n → keep1 (pr j) (pq j)) (hq : pq n = some q) (e1 : q.1 1 = p.1 1) (e2 : q.1 2 = p.1 2) (e3 : q.1 3 = a) (h1 : la1 = va_up la 3 (va_up (la 3) n a)) : LA yi pq la1 := by
  have e7 : ∀ r j, r ≠ 3 ∨ j ≠ n → la1 r j = la r j := fun r j hc => by rw [h1]; exact row_n hc
  obtain ⟨m0, m1, m2, m3⟩ := h.at hn hp
  refine h.put hk (fun r j _ hj => e7 r j (Or.inr hj)) (funext fun j => e7 4 j (by omega)) (Or.inr ⟨?_, q, hq, ?_, ?_, ?_⟩)
  · rw [e7 0 n (by omega)]; exact m0
  · rw [e7 1 n (by omega), e1]; exact m1
  · rw [e7 2 n (by omega), e2]; exact m2
  · rw [h1, e3]; exact row_s.symm
end LAS
section CELL
variable {s : State} {H : Heap} {locs : List Loc} {A : Nat → Prop} {b L : Nat} {xs : Nat → Int32}
theorem cellPS {As : List Value} (hX : va_X b L xs s s.heap) (hbl : b < s.heap.size) (hbA : ¬ A b) (hS : va_S A s.heap H locs) : PreS s H (va_Pc As (fun U => U.heap = H ∧ va_X b L xs U H)) As :=
  ⟨fun _ U _ _ q => ⟨q.1, q.2.1, q.2.2.moved (u := U) (State.WarmedH.refl U).alike⟩, fun U hU hW => ⟨rfl, hU, (hX.kept (hS.2.1 b hbl hbA)).moved hW.alike⟩⟩
end CELL
set_option maxHeartbeats 4000000 in
set_option maxRecDepth 100000 in
theorem c_L_cell (l : Launch) (D : va_G) (cy : Nat → ClassId) (A : Nat → Prop) (ad : Nat → Nat) (H0 : Heap) (b L : Nat) (xs : Nat → Int32) (k : Int) (hbA : ¬ A b) (hL : L ≤ 260) (hk : 0 ≤ k ∧ k ≤ 100) : Met l yL_cell wsL_cell ({ frames := 0, cells := 0, slots := 0, locals := 0 }) (va_Pc [.ref b, .int (iI (k))] (fun U => U.heap = H0 ∧ va_X b L xs U H0)) (zQi (fun _ H1 => H1 = H0) A) 0 0 A := by
  refine Met.ofW (cc := cL_cell) (maxL := 2) (ret := (some .int)) (by decide) rfl ?_
  intro pg en s mt args below meth c s₁ B hml hv
  obtain ⟨rfl, hH, hX⟩ := hv
  subst hH
  have hx := B.exec
  have hb := B.bytes
  have hr := B.returns
  have hlocks := B.notSynchronized
  have hbl : b < s.heap.size := by
    obtain ⟨scr, h1, -⟩ := hX
    exact (Array.getElem?_eq_some_iff.mp h1).1
  have hS : va_S A s.heap s.heap [] := va_S.rf
  have hl := lv_entry ([.ref b, .int (iI (k))]) (n := 2) (Nat.le_of_ble_eq_true rfl)
  rw [lg_entry_eq]
  generalize (lg_sl ([.ref b, .int (iI (k))]) ++ List.replicate (2 - (lg_sl ([.ref b, .int (iI (k))])).length) Slot.unset).toArray = ls at hl ⊢
  have hl : lv_has ls 2 [(0, .ref b), (1, .int (iI (k)))] := hl
  refine lv_iload_n hx hb dL_cell_0 rfl (lv_at hl 1 rfl) ?_
  refine lv_aload_n hx hb dL_cell_1 rfl (lv_at hl 0 rfl) ?_
  refine va_slen hx hb hX hbl hbA hS dL_cell_2 ?_
  rw [iI_n]
  refine zc_ge (tgt := 12) hx hb dL_cell_3 (by decide) ⟨by omega, by omega⟩ ⟨by omega, by omega⟩ (fun c_3 => ?_) (fun c_3 => ?_)
  · refine zi_sipush hx hb dL_cell_12 (by decide) ?_
    refine lv_iload_n hx hb dL_cell_15 rfl (lv_at hl 1 rfl) ?_
    refine zi_const hx hb dL_cell_16 ?_
    refine zi_add hx hb dL_cell_17 ?_
    refine zi_mul hx hb dL_cell_18 ?_
    refine lv_iload_n hx hb dL_cell_19 rfl (lv_at hl 1 rfl) ?_
    refine zi_bipush hx hb dL_cell_20 (by decide) ?_
    refine zi_add hx hb dL_cell_22 ?_
    refine zi_mul hx hb dL_cell_23 ?_
    refine zi_any (fun z hz => ?_)
    refine ziret hx hb hr hlocks hS (Nat.le_of_ble_eq_true rfl) (Nat.le_of_ble_eq_true rfl) hz ?_ dL_cell_24
    rfl
  · refine lv_aload_n hx hb dL_cell_6 rfl (lv_at hl 0 rfl) ?_
    refine lv_iload_n hx hb dL_cell_7 rfl (lv_at hl 1 rfl) ?_
    refine va_sld hx hb hX hbl hbA hS (iI_in (z := k) (n := L) (by omega) (by omega) (by omega)) dL_cell_8 ?_
    refine zi_any (fun z hz => ?_)
    refine lv_goto (tgt := 24) hx hb dL_cell_9 (by decide) ?_
    refine ziret hx hb hr hlocks hS (Nat.le_of_ble_eq_true rfl) (Nat.le_of_ble_eq_true rfl) hz ?_ dL_cell_24
    rfl
