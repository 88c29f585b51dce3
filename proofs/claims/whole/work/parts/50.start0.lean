/-! ===== the law's start: what the Statement gives ===== -/
theorem nest_in : ∀ w ∈ zNest, w ∈ lw_tbl := by decide +kernel
theorem nest_on : ∀ w ∈ zNest, w.onTables = true := by decide +kernel
theorem face_in : ∀ w ∈ zFace, w ∈ lw_tbl := by decide +kernel
theorem face_on : ∀ w ∈ zFace, w.onTables = true := by decide +kernel
set_option maxHeartbeats 4000000 in
set_option maxRecDepth 100000 in
theorem EN_start {s : State} {b : Nat} (hts : ∀ w ∈ lw_tbl, w.before #[Value.ref b] s = true) (hgv : (Jvm.Cond.and given_1 narrow_1).before #[Value.ref b] s = true) : ∃ (D : va_G) (cy : Nat → ClassId), EN D cy (fun q => s.heap.size ≤ q) s s.heap := by
  have hs := flat_of_before _ hgv
  have hA : ∀ a : Nat, a < s.heap.size → ¬ (fun q => s.heap.size ≤ q) a := fun a h => Nat.not_le.mpr h
  obtain ⟨c0, i0, k0⟩ := u_known (C := RX0) (T := TX0) (N := 13) (n := 13) hts in_X00 (hts (.instantiable RX0 13) (lwm 122 (by decide +kernel)))
  obtain ⟨c1, i1, k1⟩ := u_known (C := RX1) (T := TX1) (N := 9) (n := 9) hts in_X10 (hts (.instantiable RX1 9) (lwm 55 (by decide +kernel)))
  obtain ⟨c2, i2, k2⟩ := u_known (C := RX2) (T := TX2) (N := 19) (n := 19) hts in_X20 (hts (.instantiable RX2 19) (lwm 533 (by decide +kernel)))
  obtain ⟨ta, kta, cta, a1, a2, a3⟩ := Cond.arrayClass_spec (type := .int) (hts (.arrayClass .int) (lwm 102 (by decide +kernel)))
  obtain ⟨tb, ktb, ctb, b1, b2, b3⟩ := Cond.arrayClass_spec (type := .boolean) (hts (.arrayClass .boolean) (lwm 596 (by decide +kernel)))
  obtain ⟨tl, ktl, ctl, l1, l2, l3⟩ := Cond.arrayClass_spec (type := .long) (hts (.arrayClass .long) (lwm 781 (by decide +kernel)))
  obtain ⟨cto, to, kto, o1, -, o3, o4, o5⟩ := Cond.arrayOver_spec (n := RX0) (hts (.arrayOver (.object RX0)) (lwm 63 (by decide +kernel)))
  have hST : ∃ t : Nat, (Term.static RX1 "STEPS" "[I").eval #[Value.ref b] s none [] s = some (.ref t) ∧ va_T .int t 5 zSteps (fun q => s.heap.size ≤ q) s s.heap := by
    refine va_Tof (by decide) (hs (.arrayOf (.static RX1 "STEPS" "[I") .int) (by decide +kernel)) (va_eqt (hs (.eq (.length (.static RX1 "STEPS" "[I")) (.int (Int32.ofNat 5))) (by decide +kernel))) (fun j hj => ?_) hA
    rcases (show j = 0 ∨ j = 1 ∨ j = 2 ∨ j = 3 ∨ j = 4 by omega) with rfl | rfl | rfl | rfl | rfl
    · exact va_eqt (hs (.eq (.elem (.static RX1 "STEPS" "[I") (.int (Int32.ofNat 0))) (.int (iI 0))) (by decide +kernel))
    · exact va_eqt (hs (.eq (.elem (.static RX1 "STEPS" "[I") (.int (Int32.ofNat 1))) (.int (iI 500))) (by decide +kernel))
    · exact va_eqt (hs (.eq (.elem (.static RX1 "STEPS" "[I") (.int (Int32.ofNat 2))) (.int (iI 1200))) (by decide +kernel))
    · exact va_eqt (hs (.eq (.elem (.static RX1 "STEPS" "[I") (.int (Int32.ofNat 3))) (.int (iI 2500))) (by decide +kernel))
    · exact va_eqt (hs (.eq (.elem (.static RX1 "STEPS" "[I") (.int (Int32.ofNat 4))) (.int (iI 5000))) (by decide +kernel))
  obtain ⟨t, ht, hT⟩ := hST
  refine ⟨(fun k => if k = 0 then c0 else if k = 1 then c1 else c2, fun k => if k = 0 then i0 else if k = 1 then i1 else i2), fun k => if k = 0 then ta else if k = 1 then tb else if k = 2 then to else tl, ⟨?_, ?_⟩, ?_, ⟨t, ?_, hT⟩, ?_, ?_, ?_, ?_, ?_⟩
  · intro k q hq
    match k, hq with
    | 0, hq => cases hq; exact k0
    | 1, hq => cases hq; exact k1
    | 2, hq => cases hq; exact k2
    | k + 3, hq => simp [vwCl] at hq
  · intro k q hq
    match k, hq with
    | 0, hq => cases hq; exact ⟨fun N z => ⟨(fun k h => by cases h), kta, a2, cta, a3⟩, a1⟩
    | 1, hq => cases hq; exact ⟨fun N z => ⟨(fun k h => by cases h), ktb, b2, ctb, b3⟩, b1⟩
    | 2, hq => cases hq; exact ⟨fun N z => ⟨(fun k h => by cases h), kto, o3, cto, o4⟩, ⟨kto, cto, o3, o4, o1, o5⟩⟩
    | 3, hq => cases hq; exact ⟨fun N z => ⟨(fun k h => by cases h), ktl, l2, ctl, l3⟩, l1⟩
    | k + 4, hq => simp [zTy] at hq
  · exact fun w hw => va_Nw.of (nest_on w hw) (hts w (nest_in w hw))
  · exact va_Zof (hts (.laysStatic RX1 "STEPS" "[I") (lwm 267 (by decide +kernel))) (hts (.initialized RX1) (lwm 41 (by decide +kernel))) ht hA
  · exact vx_Zqof (hts (.laysStatic Bundle.tN "UNASSIGNED_STACK" Bundle.steD) (by decide +kernel)) (hts (.initialized Bundle.tN) (by decide +kernel)) (hs (.isRef (.static Bundle.tN "UNASSIGNED_STACK" Bundle.steD)) (by decide +kernel)) hA
  · exact vx_Zqof (hts (.laysStatic Bundle.tN "SUPPRESSED_SENTINEL" Bundle.listD) (by decide +kernel)) (hts (.initialized Bundle.tN) (by decide +kernel)) (hs (.isRef (.static Bundle.tN "SUPPRESSED_SENTINEL" Bundle.listD)) (by decide +kernel)) hA
  · intro q hq
    simp only [zNc, List.mem_cons, List.not_mem_nil, or_false] at hq
    rcases hq with rfl | rfl | rfl | rfl
    · exact va_Nc.of (hs (.not (.castable "java/lang/IllegalArgumentException" "java/lang/IndexOutOfBoundsException")) (by decide +kernel))
    · exact va_Nc.of (hs (.not (.castable "java/lang/IllegalStateException" "java/lang/IllegalArgumentException")) (by decide +kernel))
    · exact va_Nc.of (hs (.not (.castable "java/lang/IllegalArgumentException" "java/util/NoSuchElementException")) (by decide +kernel))
    · exact va_Nc.of (hs (.not (.castable "java/lang/IllegalStateException" "java/util/NoSuchElementException")) (by decide +kernel))
  · exact fun w hw => va_Nw.of (face_on w hw) (hts w (face_in w hw))
  · exact va_AO.of (hts (.arrayOver (.object RX0)) (lwm 63 (by decide +kernel)))
theorem RR_0 {mb yb : Nat → Nat → Int} (h1 : ∀ j, j < 1000 → mb 1 j = 20) (h2 : ∀ r, r ≠ 1 → mb r = fun _ => 0) (h3 : ∀ j, j < 1000 → yb 0 j = 20) (h4 : gnd (yb 0) yb) : RR mI0 mb yb yI0 (fun _ => none) := by
  have e7 : ∀ j, mb 7 j = 0 := fun j => by rw [h2 7 (by decide)]
  refine ⟨⟨fun j hj => by rw [h1 j hj]; exact ⟨by decide, by decide⟩, ?_, fun j _ => Or.inl (e7 j), fun p _ h => ?_⟩, ⟨rfl, rfl, rfl, rfl⟩, fun j hj => by rw [h1 j hj, h3 j hj], h4, rfl, fun i _ => Or.inl ⟨e7 i, rfl⟩⟩
  · exact ⟨by decide, by decide, by decide, by decide, by decide⟩
  · have := e7 p
    omega
theorem and31 (x : Int32) : ∃ r : Nat, r < 32 ∧ x &&& iI 31 = iI (r : Int) := by
  obtain ⟨z, h1, h2, hz⟩ := iI_of (x &&& iI 31)
  obtain ⟨n, hn⟩ : ∃ n, (x &&& iI 31).toBitVec.toNat = n := ⟨_, rfl⟩
  have hle : n ≤ 31 := by
    rw [← hn, Int32.toBitVec_and, BitVec.toNat_and]
    exact Nat.and_le_right
  have ht : (x &&& iI 31).toInt = (n : Int) := by
    rw [← hn]
    exact BitVec.toInt_eq_toNat_of_lt (by omega)
  have hzt : (x &&& iI 31).toInt = z := by
    rw [hz]
    exact iI_T ⟨h1, h2⟩
  exact ⟨n, by omega, by rw [hz, show z = (n : Int) by omega]⟩
section ZUN
variable {D : va_G} {cy : Nat → ClassId} {A A1 A2 : Nat → Prop} {ad ad1 ad2 : Nat → Nat} {e e1 e2 : Nat → Option va_E} {H : Heap}
theorem zW.adc (h : zW D A ad2 e H) (ha : ∀ k v, e k = some v → ad1 k = ad2 k) : zW D A ad1 e H := by
  refine ⟨fun k v hk => ?_, fun i j v w hi hj hij => ?_⟩
  · rw [ha k v hk]
    exact h.1 k v hk
  · rw [ha i v hi, ha j w hj] at hij
    exact h.2 i j v w hi hj hij
theorem zW.union (h1 : zW D A1 ad1 e1 H) (h2 : zW D A2 ad2 e2 H) (hd : ∀ q, A1 q → A2 q → False) (l1 : ∀ k v, e1 k = some v → k < 20) (l2 : ∀ k v, e2 k = some v → k < 20) : zW D (fun q => A1 q ∨ A2 q) (fun k => if k < 20 then ad1 k else ad2 (k - 20)) (fun k => if k < 20 then e1 k else if k < 40 then e2 (k - 20) else none) H := by
  refine ⟨fun k v hk => ?_, fun i j v w hi hj hij => ?_⟩
  · dsimp only at hk ⊢
    by_cases c : k < 20
    · rw [if_pos c] at hk ⊢
      obtain ⟨x1, x2, x3⟩ := h1.1 k v hk
      exact ⟨x1, x2, Or.inl x3⟩
    · rw [if_neg c] at hk ⊢
      by_cases c2 : k < 40
      · rw [if_pos c2] at hk
        obtain ⟨x1, x2, x3⟩ := h2.1 _ v hk
        exact ⟨by omega, x2, Or.inr x3⟩
      · rw [if_neg c2] at hk
        cases hk
  · dsimp only at hi hj hij
    by_cases c : i < 20
    · rw [if_pos c] at hi hij
      by_cases d : j < 20
      · rw [if_pos d] at hj hij
        exact h1.2 i j v w hi hj hij
      · rw [if_neg d] at hj hij
        by_cases d2 : j < 40
        · rw [if_pos d2] at hj
          exact (hd _ (h1.1 i v hi).2.2 (by rw [hij]; exact (h2.1 _ w hj).2.2)).elim
        · rw [if_neg d2] at hj
          cases hj
    · rw [if_neg c] at hi hij
      by_cases c2 : i < 40
      · rw [if_pos c2] at hi
        by_cases d : j < 20
        · rw [if_pos d] at hj hij
          exact (hd _ (h1.1 j w hj).2.2 (by rw [← hij]; exact (h2.1 _ v hi).2.2)).elim
        · rw [if_neg d] at hj hij
          by_cases d2 : j < 40
          · rw [if_pos d2] at hj
            have := h2.2 _ _ v w hi hj hij
            omega
          · rw [if_neg d2] at hj
            cases hj
      · rw [if_neg c2] at hi
        cases hi
theorem yE0_lt {ya : Nat → Nat → Int} {yi : Nat → Int} {k : Nat} {v : va_E} (h : yE cy ad ya yi (fun _ => none) k = some v) : k < 6 := by
  rcases Nat.lt_or_ge k 6 with c | c
  · exact c
  · exfalso
    by_cases hl : 10 ≤ k ∧ k < 43
    · rw [yE_hi hl.1 hl.2] at h
      cases h
    · unfold yE at h
      rw [if_neg (by omega), if_neg (by omega), if_neg (by omega), if_neg (by omega), if_neg (by omega), if_neg (by omega)] at h
      by_cases c2 : k < 10
      · rw [if_pos c2] at h
        cases h
      · rw [if_neg c2, if_neg (by omega)] at h
        cases h
theorem yE_60c {ya : Nat → Nat → Int} {yi : Nat → Int} {v : Nat} : yE cy (va_up ad 60 v) ya yi (fun _ => none) = yE cy ad ya yi (fun _ => none) := funext fun k => by
  rcases Nat.lt_or_ge k 40 with c | c
  · exact yE_lo (fun j hj => up_ne _ _ (by omega)) (fun _ _ => rfl) (Or.inl c)
  · cases h1 : yE cy (va_up ad 60 v) ya yi (fun _ => none) k with
    | some x => exact absurd (yE0_lt h1) (by omega)
    | none =>
      cases h2 : yE cy ad ya yi (fun _ => none) k with
      | some x => exact absurd (yE0_lt h2) (by omega)
      | none => rfl
theorem mE_lt {mi : Nat → Int} {ma : Nat → Nat → Int} {k : Nat} {v : va_E} (h : mE cy ad mi ma k = some v) : k < 20 := by
  unfold mE at h
  by_cases c : k = 0
  · omega
  · rw [if_neg c, Option.map_eq_some_iff] at h
    obtain ⟨q, hq, -⟩ := h
    unfold mK at hq
    split at hq <;> first | omega | cases hq
end ZUN
