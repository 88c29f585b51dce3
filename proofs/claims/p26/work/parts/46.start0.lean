/-! ===== the law's start: what the Statement gives ===== -/
theorem nest_in : ∀ w ∈ zNest, w ∈ lw_tbl := by decide +kernel
theorem nest_on : ∀ w ∈ zNest, w.onTables = true := by decide +kernel
theorem face_in : ∀ w ∈ zFace, w ∈ lw_tbl := by decide +kernel
theorem face_on : ∀ w ∈ zFace, w.onTables = true := by decide +kernel
set_option maxHeartbeats 4000000 in
set_option maxRecDepth 100000 in
theorem EN_start {s : State} {b : Nat} (hts : ∀ w ∈ lw_tbl, w.before #[Value.ref b] s = true) (hgv : (Jvm.Cond.and given_1 narrow_1).before #[Value.ref b] s = true) : ∃ (D : va_G) (cy : Nat → ClassId), EN D cy (fun q => s.heap.size ≤ q) s s.heap := by
  have hs := flat_of_before _ hgv
  have hA : ∀ a : Nat, a < s.heap.size → ¬ (fun q => s.heap.size ≤ q) a := fun a h => Nat.not_le.mpr h
  obtain ⟨c0, i0, k0⟩ := u_known (C := RX0) (T := TX0) (N := 13) (n := 13) hts in_X00 (hts (.instantiable RX0 13) lwm_51)
  obtain ⟨c1, i1, k1⟩ := u_known (C := RX1) (T := TX1) (N := 9) (n := 9) hts in_X10 (hts (.instantiable RX1 9) lwm_2)
  obtain ⟨ta, kta, cta, a1, a2, a3⟩ := Cond.arrayClass_spec (type := .int) (hts (.arrayClass .int) lwm_4)
  obtain ⟨cto, to, kto, o1, -, o3, o4, o5⟩ := Cond.arrayOver_spec (n := RX0) (hts (.arrayOver (.object RX0)) (by decide +kernel))
  have hST : ∃ t : Nat, (Term.static RX1 "STEPS" "[I").eval #[Value.ref b] s none [] s = some (.ref t) ∧ va_T .int t 5 zSteps (fun q => s.heap.size ≤ q) s s.heap := by
    refine va_Tof (by decide) (hs (.arrayOf (.static RX1 "STEPS" "[I") .int) (by decide +kernel)) (va_eqt (hs (.eq (.length (.static RX1 "STEPS" "[I")) (.int (Int32.ofNat 5))) (by decide +kernel))) (fun j hj => ?_) hA
    rcases (show j = 0 ∨ j = 1 ∨ j = 2 ∨ j = 3 ∨ j = 4 by omega) with rfl | rfl | rfl | rfl | rfl
    · exact va_eqt (hs (.eq (.elem (.static RX1 "STEPS" "[I") (.int (Int32.ofNat 0))) (.int (iI 0))) (by decide +kernel))
    · exact va_eqt (hs (.eq (.elem (.static RX1 "STEPS" "[I") (.int (Int32.ofNat 1))) (.int (iI 500))) (by decide +kernel))
    · exact va_eqt (hs (.eq (.elem (.static RX1 "STEPS" "[I") (.int (Int32.ofNat 2))) (.int (iI 1200))) (by decide +kernel))
    · exact va_eqt (hs (.eq (.elem (.static RX1 "STEPS" "[I") (.int (Int32.ofNat 3))) (.int (iI 2500))) (by decide +kernel))
    · exact va_eqt (hs (.eq (.elem (.static RX1 "STEPS" "[I") (.int (Int32.ofNat 4))) (.int (iI 5000))) (by decide +kernel))
  obtain ⟨t, ht, hT⟩ := hST
  refine ⟨(fun k => if k = 0 then c0 else c1, fun k => if k = 0 then i0 else i1), fun k => if k = 0 then ta else to, ⟨?_, ?_⟩, ?_, ⟨t, ?_, hT⟩, ?_, ?_, ?_, ?_, ?_⟩
  · intro k q hq
    match k, hq with
    | 0, hq => cases hq; exact k0
    | 1, hq => cases hq; exact k1
    | k + 2, hq => simp [vwCl] at hq
  · intro k q hq
    match k, hq with
    | 0, hq => cases hq; exact ⟨fun N z => ⟨(fun k h => by cases h), kta, a2, cta, a3⟩, a1⟩
    | 1, hq => cases hq; exact ⟨fun N z => ⟨(fun k h => by cases h), kta, a2, cta, a3⟩, a1⟩
    | 2, hq => cases hq; exact ⟨fun N z => ⟨(fun k h => by cases h), kto, o3, cto, o4⟩, ⟨kto, cto, o3, o4, o1, o5⟩⟩
    | k + 3, hq => simp [zTy] at hq
  · exact fun w hw => va_Nw.of (nest_on w hw) (hts w (nest_in w hw))
  · exact va_Zof (hts (.laysStatic RX1 "STEPS" "[I") (by decide +kernel)) (hts (.initialized RX1) lwm_3) ht hA
  · exact vx_Zqof (hts (.laysStatic Bundle.tN "UNASSIGNED_STACK" Bundle.steD) (by decide +kernel)) (hts (.initialized Bundle.tN) (by decide +kernel)) (hs (.isRef (.static Bundle.tN "UNASSIGNED_STACK" Bundle.steD)) (by decide +kernel)) hA
  · exact vx_Zqof (hts (.laysStatic Bundle.tN "SUPPRESSED_SENTINEL" Bundle.listD) (by decide +kernel)) (hts (.initialized Bundle.tN) (by decide +kernel)) (hs (.isRef (.static Bundle.tN "SUPPRESSED_SENTINEL" Bundle.listD)) (by decide +kernel)) hA
  · intro q hq
    simp only [zNc, List.not_mem_nil] at hq
  · exact fun w hw => va_Nw.of (face_on w hw) (hts w (face_in w hw))
  · exact va_AO.of (hts (.arrayOver (.object RX0)) (by decide +kernel))
