section RRP
variable {mi : Nat → Int} {ma mb ya yb : Nat → Nat → Int} {yi : Nat → Int} {pr pr2 : Nat → Option PS}
theorem tell_c (h : sU ma mb) {i : Nat} (hi : i < 10) {p : PS} (ht : tell ma i p) : tell mb i p := by
  unfold tell at ht ⊢
  rw [h 8 i (by omega) (by omega), h 9 i (by omega) (by omega), h 10 i (by omega) (by omega), h 11 i (by omega) (by omega), h 12 i (by omega) (by omega), sU_row h (r := 13) (by omega), sU_row h (r := 14) (by omega)]
  exact ht
/-- rows of working out may differ -/
theorem RR.sU (h : RR mi ma ya yi pr) (hu : sU ma mb) : RR mi mb ya yi pr := by
  obtain ⟨h1, h2, h3, h4, h5, h6⟩ := h
  refine ⟨(mOK_s hu).mpr h1, h2, fun j hj => by rw [sU_row hu (r := 1) (by omega)]; exact h3 j hj, h4, h5, fun i hi => ?_⟩
  unfold PP
  rw [sU_row hu (r := 7) (by omega)]
  rcases h6 i hi with c | ⟨c7, p, hp, ht, hs⟩
  · exact Or.inl c
  · exact Or.inr ⟨c7, p, hp, tell_c hu hi ht, hs⟩
/-- the code of the last call may differ -/
theorem RR.c0 (h : RR mi ma ya yi pr) (c : Int) : RR (va_up mi 0 c) ma ya yi pr := by
  obtain ⟨h1, h2, h3⟩ := h
  refine ⟨mOK_0.mpr h1, ?_, h3⟩
  rw [up_ne _ _ (by decide), up_ne _ _ (by decide), up_ne _ _ (by decide), up_ne _ _ (by decide), up_ne _ _ (by decide)]
  exact h2
theorem RR.yas (h : RR mi ma ya yi pr) (e0 : yb 0 = ya 0) (e1 : yb 1 = ya 1) : RR mi ma yb yi pr := by
  obtain ⟨h1, h2, h3, h4, h5, h6⟩ := h
  refine ⟨h1, h2, fun j hj => by rw [e0]; exact h3 j hj, fun n hn => by rw [e0, e1]; exact h4 n hn, h5, fun i hi => by rw [e0]; exact h6 i hi⟩
theorem sc_5 {T : Nat → Int} {v : Int} {p : PS} (h : sc T yi p) : sc T (va_up yi 5 v) p := by
  have e6 : va_up yi 5 v 6 = yi 6 := up_ne _ _ (by decide)
  have e7 : va_up yi 5 v 7 = yi 7 := up_ne _ _ (by decide)
  have e8 : va_up yi 5 v 8 = yi 8 := up_ne _ _ (by decide)
  unfold sc kY endY at h ⊢
  rw [e6, e7, e8]
  exact h
theorem RR.gv (h : RR mi ma ya yi pr) (hg : gvR pr pr2) (h10 : pr2 10 = none) : RR mi ma ya yi pr2 := by
  obtain ⟨h1, h2, h3, h4, h5, h6⟩ := h
  refine ⟨h1, h2, h3, h4, h10, fun i hi => ?_⟩
  rcases h6 i hi with ⟨c, hn⟩ | ⟨c7, p, hp, ht, hs⟩
  · rcases hg i hi with ⟨-, e⟩ | ⟨a, b, e1, -, -⟩
    · exact Or.inl ⟨c, e⟩
    · rw [hn] at e1; cases e1
  · obtain ⟨p2, hp2, k1, k2, k3⟩ := gvR_q hg hi hp
    refine Or.inr ⟨c7, p2, hp2, ?_, ?_⟩
    · unfold tell at ht ⊢
      rw [k1 3 (by decide), k1 0 (by decide), k1 1 (by decide), k1 2 (by decide), k1 4 (by decide), k2, k3]
      exact ht
    · unfold sc kY endY at hs ⊢
      rw [k1 3 (by decide), k1 0 (by decide), k1 2 (by decide), k1 4 (by decide), k3, k1 7 (by decide), k1 8 (by decide), k1 9 (by decide), k1 10 (by decide)]
      exact hs
end RRP
/-- what is not in the list is let go -/
theorem zW.drop {D : va_G} {A : Nat → Prop} {cy : Nat → ClassId} {ad : Nat → Nat} {ya : Nat → Nat → Int} {yi : Nat → Int} {pr : Nat → Option PS} {H : Heap} (h : zW D A ad (yE cy ad ya yi pr) H) : zW D A ad (yE cy ad ya yi (va_up pr 10 none)) H := by
  refine h.sub (fun k v hk => ?_)
  have hl := yE_lt (up_same _ _ _) hk
  rw [yE_lo (ad2 := ad) (pr := pr) (fun _ _ => rfl) (fun i hi => up_ne _ _ (by omega)) (Or.inl hl)] at hk
  exact hk
