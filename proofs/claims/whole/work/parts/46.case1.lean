/-! ===== the law's cases ===== -/
def xI (xs : Nat → Int32) (j : Nat) : Int := (xs j).toInt
theorem xI_e (xs : Nat → Int32) (j : Nat) : iI (xI xs j) = xs j := by
  obtain ⟨z, h1, h2, h3⟩ := iI_of (xs j)
  unfold xI
  rw [h3, iI_T ⟨h1, h2⟩]
theorem xI_z (xs : Nat → Int32) (j : Nat) : zr (xI xs j) := by
  obtain ⟨z, h1, h2, h3⟩ := iI_of (xs j)
  unfold xI
  rw [h3, iI_T ⟨h1, h2⟩]
  exact ⟨h1, h2⟩
/-- the two objects, the answers' array, the relation -/
def LI (D : va_G) (cy : Nat → ClassId) (AY AM : Nat → Prop) (n0 x0 m0 o0 : Nat) (H : Heap) : Prop :=
  n0 ≤ H.size ∧ ∃ (ad adm : Nat → Nat) (mi : Nat → Int) (ma ya : Nat → Nat → Int) (yi : Nat → Int) (pr : Nat → Option PS) (fo : Nat → Int64), ad 0 = x0 ∧ adm 0 = m0 ∧ ad 60 = o0 ∧ zW D AY ad (yO60 cy ad ya yi pr fo) H ∧ zW D AM adm (mE cy adm mi ma) H ∧ RR mi ma ya yi pr
abbrev lvB (b0 x0 m0 o0 : Nat) (i : Nat) : List (Nat × Value) := [(0, .ref b0), (1, .ref x0), (2, .ref m0), (3, .ref o0), (4, .int (iI (i : Int)))]
section ZLD
variable {p : Program} {l : Launch} {e : Env} {R : Room} {s : State} {m : MethodId} {args : Array Value} {below : List Frame} {meth : Method} {c : Code} {H : Heap} {locs : List Loc} {cells slots : Nat} {Q : State → Prop} {cc : ByteArray} {pc : Nat} {ls : Array Slot} {rest : List Value} {D : va_G} {cy : Nat → ClassId} {A : Nat → Prop} {ad : Nat → Nat}
theorem zsld (hx : p.tables.exec = Jvm.exec) (hb : c.code = cc) {b L : Nat} {xs : Nat → Int32} (hX : va_X b L xs s s.heap) (hbl : b < s.heap.size) (hbA : ¬ A b) (hS : va_S A s.heap H locs) {z : Int} {j : Nat} (hz : z = (j : Int)) (hj : j < L) (hL : L ≤ 2560) (hdg : decode cc pc = .ok (.iaload, 1))
    (kk : W p l e R s m args below meth c H locs cells slots Q (F0 m (pc + 1) ls (.int (iI (xI xs j)) :: rest))) : W p l e R s m args below meth c H locs cells slots Q (F0 m pc ls (.int (iI z) :: .ref b :: rest)) :=
  va_sld hx hb hX hbl hbA hS (iI_in (z := z) (by omega) (by omega) (by omega)) hdg (by rw [iI_c ⟨by omega, by omega⟩, hz, Int.toNat_natCast, ← xI_e xs j]; exact kk)
theorem zlald (hx : p.tables.exec = Jvm.exec) (hb : c.code = cc) (hE : EN D cy A s s.heap) {AY : Nat → Prop} {e1 : Nat → Option va_E} {fo : Nat → Int64} (hw : zW D AY ad (va_up e1 60 (some (.inl (cy 3, 1, .inr (.inl fo))))) H) {o0 : Nat} (ho : ad 60 = o0) (hdg : decode cc pc = .ok (.laload, 1))
    (kk : W p l e R s m args below meth c H locs cells slots Q (F0 m (pc + 1) ls (.long (fo 0) :: rest))) : W p l e R s m args below meth c H locs cells slots Q (F0 m pc ls (.int (iI 0) :: .ref o0 :: rest)) := by
  subst ho
  exact va_lald hx hb hE.1 (hw.one (up_same _ _ _)) 0 3 rfl rfl (iI_in (z := 0) (n := 1) (by omega) (by omega) (by omega)) hdg (by rw [iI_c ⟨by omega, by omega⟩]; exact kk)
end ZLD
set_option maxHeartbeats 4000000 in
set_option maxRecDepth 100000 in
theorem k_setTemperature {p : Program} {l : Launch} {e : Env} {s : State} {m : MethodId} {below : List Frame} {meth : Method} {c : Code} {b0 L : Nat} {xs : Nat → Int32} (hL : L ≤ 2560) (hX : va_X b0 L xs s s.heap) (hbl : b0 < s.heap.size) {D : va_G} {cy : Nat → ClassId} {A0 AY AM : Nat → Prop} (hbA : ¬ A0 b0) (hC : LC p l s m c b0 D cy A0 AY) (hM : ∀ q, AM q → A0 q) (hYM : ∀ q, AY q → ¬ AM q) {n0 x0 m0 o0 : Nat} (hAf : ∀ q, n0 ≤ q → AY q) {H : Heap} {locs : List Loc} {cells slots : Nat} {Q : State → Prop} {ls : Array Slot} (hS : va_S A0 s.heap H locs) (hI : LI D cy AY AM n0 x0 m0 o0 H) (hc : cells + 3 ≤ room_1.cells) (hs : slots + 21 ≤ room_1.slots) {i : Nat} (hi : i + 4 < L) (hl : lv_has ls 7 (lvB b0 x0 m0 o0 i))
    (kk : ∀ (H1 : Heap) (locs1 : List Loc) (ls1 : Array Slot), va_S A0 s.heap H1 locs1 → LI D cy AY AM n0 x0 m0 o0 H1 → lv_has ls1 7 (lvB b0 x0 m0 o0 i) → W p l e room_1 s m #[Value.ref b0] below meth c H1 locs1 (cells + 3) (slots + 21) Q (F0 m 1400 ls1 [])) :
    W p l e room_1 s m #[Value.ref b0] below meth c H locs cells slots Q (F0 m 144 ls []) := by
  obtain ⟨⟨hx, hb, hml, hown, hts⟩, hlf, hE, hY⟩ := id hC
  obtain ⟨hn0, ad, adm, mi, ma, ya, yi, pr, fo, rfl, rfl, rfl, hw, hm, hR⟩ := hI
  have hAf2 : ∀ q, H.size ≤ q → AY q := fun q hq => hAf q (Nat.le_trans hn0 hq)
  have hl : lv_has ls 7 [(0, .ref b0), (1, .ref (ad 0)), (2, .ref (adm 0)), (3, .ref (ad 60)), (4, .int (iI (i : Int)))] := hl
  refine lv_aload_n hx hb dL_law_144 rfl (lv_at hl 1 rfl) ?_
  refine lv_aload_n hx hb dL_law_145 rfl (lv_at hl 0 rfl) ?_
  refine lv_iload hx hb dL_law_146 (lv_at hl 4 rfl) ?_
  refine zi_const hx hb dL_law_148 ?_
  refine zi_add hx hb dL_law_149 ?_
  refine zsld hx hb hX hbl hbA hS (j := i + 1) (by omega) (by omega) hL dL_law_150 ?_
  refine lv_aload_n hx hb dL_law_151 rfl (lv_at hl 0 rfl) ?_
  refine lv_iload hx hb dL_law_152 (lv_at hl 4 rfl) ?_
  refine zi_const hx hb dL_law_154 ?_
  refine zi_add hx hb dL_law_155 ?_
  refine zsld hx hb hX hbl hbA hS (j := i + 2) (by omega) (by omega) hL dL_law_156 ?_
  refine lv_aload_n hx hb dL_law_157 rfl (lv_at hl 0 rfl) ?_
  refine lv_iload hx hb dL_law_158 (lv_at hl 4 rfl) ?_
  refine zi_const hx hb dL_law_160 ?_
  refine zi_add hx hb dL_law_161 ?_
  refine zsld hx hb hX hbl hbA hS (j := i + 3) (by omega) (by omega) hL dL_law_162 ?_
  refine s_setTemperature hC hS hl.1 hc hs hw hR hAf2 (xI xs (i + 1)) (xI xs (i + 2)) (xI xs (i + 3)) (xI_z xs (i + 1)) (xI_z xs (i + 2)) (xI_z xs (i + 3)) dL_law_163 (fun k H1 locs1 hk hG hz1 hk1 hS1 => ?_)
  obtain ⟨ad2, ya2, yi2, pr2, fo2, hx0, ho0, hw1, hG⟩ := hG
  have hm1 := hm.kept hk1 (fun k v hk hB => hYM _ hB (hm.1 k v hk).2.2)
  refine lv_istore (lv' := [(5, .int (iI k)), (0, .ref b0), (1, .ref (ad 0)), (2, .ref (adm 0)), (3, .ref (ad 60)), (4, .int (iI (i : Int)))]) hx hb dL_law_166 hl (by decide) rfl (fun ls hl => ?_)
  refine lv_aload_n hx hb dL_law_168 rfl (lv_at hl 3 rfl) ?_
  refine lv_aload_n hx hb dL_law_169 rfl (lv_at hl 1 rfl) ?_
  refine lv_iload hx hb dL_law_170 (lv_at hl 5 rfl) ?_
  refine zi_const hx hb dL_law_172 ?_
  refine zi_add hx hb dL_law_173 ?_
  refine zsld hx hb hX hbl hbA hS1 (j := i + 1) (by omega) (by omega) hL dL_law_174 ?_
  refine lv_aload_n hx hb dL_law_175 rfl (lv_at hl 1 rfl) ?_
  refine lv_iload hx hb dL_law_176 (lv_at hl 5 rfl) ?_
  refine zi_const hx hb dL_law_178 ?_
  refine zi_add hx hb dL_law_179 ?_
  refine zsld hx hb hX hbl hbA hS1 (j := i + 2) (by omega) (by omega) hL dL_law_180 ?_
  refine lv_aload_n hx hb dL_law_181 rfl (lv_at hl 1 rfl) ?_
  refine lv_iload hx hb dL_law_182 (lv_at hl 5 rfl) ?_
  refine zi_const hx hb dL_law_184 ?_
  refine zi_add hx hb dL_law_185 ?_
  refine zsld hx hb hX hbl hbA hS1 (j := i + 3) (by omega) (by omega) hL dL_law_186 ?_
  refine zcallvN hM (va_runV (As := [.int (iI (xI xs (i + 1))), .int (iI (xI xs (i + 2))), .int (iI (xI xs (i + 3)))]) (rest := []) ⟨hx, hb, hml, hown, hts⟩ (c_X2_setTemperature l D cy AM adm mi ma H1 (xI xs (i + 1)) (xI xs (i + 2)) (xI xs (i + 3)) hm1 (xI_z xs (i + 1)) (xI_z xs (i + 2)) (xI_z xs (i + 3)) ) (cwV 3 hts gL_law_X2_setTemperature rfl rfl rfl (by decide +kernel) ⟨(Nat.le_of_ble_eq_true rfl), (Nat.le_of_ble_eq_true rfl)⟩) (zPVm hM hE hS1 hm1 (ci := 2) (k0 := 0) rfl mE_0) rfl rfl hl.1 rfl (lv_room (Nat.le_of_ble_eq_true rfl)) dL_law_187 ⟨hc, hs⟩) hS1 (fun H2 locs2 hq hz2 hk2 hS2 => ?_)
  obtain ⟨c2, mi2, mb, hm2, hmi, hF⟩ : ∃ (c2 : Int) (mi2 : Nat → Int) (mb : Nat → Nat → Int), zW D AM adm (mE cy adm mi2 mb) H2 ∧ mi2 0 = c2 ∧ (UR mi ma (if (0 ≤ (xI xs (i + 1)) ∧ (xI xs (i + 1)) < 1000) ∧ (0 ≤ (xI xs (i + 2)) ∧ (xI xs (i + 2)) < 1000) then (if (xI xs (i + 1)) ≤ (xI xs (i + 2)) ∧ -40 ≤ (xI xs (i + 3)) ∧ (xI xs (i + 3)) ≤ 50 then 0 else 2) else 1) (fun _ mi2 mb => mi2 = va_up mi 0 0 ∧ mb 1 = setT (ma 1) (xI xs (i + 1)) (xI xs (i + 2)) (xI xs (i + 3)) ∧ ∀ r, r ≠ 1 → mb r = ma r)) 0 c2 mi2 mb := by
    obtain ⟨c2, mb, hm2, hc2, hh⟩ := hq
    rcases hh with ⟨h1, h2⟩ | ⟨h1, h2, h3⟩
    · exact ⟨c2, _, mb, hm2, up_same _ _ _, hc2, Or.inl ⟨h1, rfl, h2⟩⟩
    · exact ⟨c2, _, mb, hm2, up_same _ _ _, hc2, Or.inr ⟨h1, by rw [h1], h2, h3⟩⟩
  obtain ⟨hek, hR2⟩ := hG _ _ _ _ hF
  have hw2 := hw1.kept hk2 (fun k v hk hB => hYM _ (hw1.1 k v hk).2.2 hB)
  have hI2 : LI D cy AY AM n0 (ad 0) (adm 0) (ad 60) H2 := ⟨by omega, ad2, adm, mi2, mb, ya2, yi2, pr2, fo2, hx0, rfl, ho0, hw2, hm2, hR2⟩
  refine lv_aload_n hx hb dL_law_190 rfl (lv_at hl 3 rfl) ?_
  refine zcalliN hM (va_runV (As := []) (rest := []) ⟨hx, hb, hml, hown, hts⟩ (c_X2_thrown l D cy AM adm mi2 mb H2 hm2 (by rw [hmi, hek]; exact hk)) (cwV 0 hts gL_law_X2_thrown rfl rfl rfl (by decide +kernel) ⟨(Nat.le_of_ble_eq_true rfl), (Nat.le_of_ble_eq_true rfl)⟩) (zPVm hM hE hS2 hm2 (ci := 2) (k0 := 0) rfl mE_0) rfl rfl hl.1 rfl (lv_room (Nat.le_of_ble_eq_true rfl)) dL_law_191 ⟨hc, hs⟩) hS2 (fun z3 H3 locs3 hz3 hq3 hzz3 hk3 hS3 => ?_)
  obtain ⟨hH3, hq3⟩ := hq3
  rw [hH3] at hS3 ⊢
  have hz3k : z3 = k := hq3.trans (hmi.trans hek)
  refine lv_iload hx hb dL_law_194 (lv_at hl 0 rfl) ?_
  refine zc_eq (tgt := 201) hx hb dL_law_196 (by decide) hz3 hk (fun c_1 => ?_) (fun c_1 => absurd hz3k c_1)
  refine lv_goto (tgt := 1400) hx hb dL_law_201 (by decide) ?_
  exact W.widen (k := cells + 3) (n := slots + 21) (by omega) (by omega) (kk _ _ _ hS3 hI2 (lv_sub hl [1, 2, 3, 4, 5] rfl))

set_option maxHeartbeats 4000000 in
set_option maxRecDepth 100000 in
theorem k_temperature {p : Program} {l : Launch} {e : Env} {s : State} {m : MethodId} {below : List Frame} {meth : Method} {c : Code} {b0 L : Nat} {xs : Nat → Int32} (hL : L ≤ 2560) (hX : va_X b0 L xs s s.heap) (hbl : b0 < s.heap.size) {D : va_G} {cy : Nat → ClassId} {A0 AY AM : Nat → Prop} (hbA : ¬ A0 b0) (hC : LC p l s m c b0 D cy A0 AY) (hM : ∀ q, AM q → A0 q) (hYM : ∀ q, AY q → ¬ AM q) {n0 x0 m0 o0 : Nat} (hAf : ∀ q, n0 ≤ q → AY q) {H : Heap} {locs : List Loc} {cells slots : Nat} {Q : State → Prop} {ls : Array Slot} (hS : va_S A0 s.heap H locs) (hI : LI D cy AY AM n0 x0 m0 o0 H) (hc : cells + 3 ≤ room_1.cells) (hs : slots + 21 ≤ room_1.slots) {i : Nat} (hi : i + 4 < L) (hl : lv_has ls 7 (lvB b0 x0 m0 o0 i))
    (kk : ∀ (H1 : Heap) (locs1 : List Loc) (ls1 : Array Slot), va_S A0 s.heap H1 locs1 → LI D cy AY AM n0 x0 m0 o0 H1 → lv_has ls1 7 (lvB b0 x0 m0 o0 i) → W p l e room_1 s m #[Value.ref b0] below meth c H1 locs1 (cells + 3) (slots + 21) Q (F0 m 1400 ls1 [])) :
    W p l e room_1 s m #[Value.ref b0] below meth c H locs cells slots Q (F0 m 204 ls []) := by
  obtain ⟨⟨hx, hb, hml, hown, hts⟩, hlf, hE, hY⟩ := id hC
  obtain ⟨hn0, ad, adm, mi, ma, ya, yi, pr, fo, rfl, rfl, rfl, hw, hm, hR⟩ := hI
  have hAf2 : ∀ q, H.size ≤ q → AY q := fun q hq => hAf q (Nat.le_trans hn0 hq)
  have hl : lv_has ls 7 [(0, .ref b0), (1, .ref (ad 0)), (2, .ref (adm 0)), (3, .ref (ad 60)), (4, .int (iI (i : Int)))] := hl
  refine lv_aload_n hx hb dL_law_204 rfl (lv_at hl 1 rfl) ?_
  refine lv_aload_n hx hb dL_law_205 rfl (lv_at hl 0 rfl) ?_
  refine lv_iload hx hb dL_law_206 (lv_at hl 4 rfl) ?_
  refine zi_const hx hb dL_law_208 ?_
  refine zi_add hx hb dL_law_209 ?_
  refine zsld hx hb hX hbl hbA hS (j := i + 1) (by omega) (by omega) hL dL_law_210 ?_
  refine lv_aload_n hx hb dL_law_211 rfl (lv_at hl 3 rfl) ?_
  refine s_temperature hC hS hl.1 hc hs hw hR hAf2 (xI xs (i + 1)) (xI_z xs (i + 1)) dL_law_212 (fun k H1 locs1 hk hG hz1 hk1 hS1 => ?_)
  obtain ⟨ad2, ya2, yi2, pr2, fo2, hx0, ho0, hw1, hG⟩ := hG
  have hm1 := hm.kept hk1 (fun k v hk hB => hYM _ hB (hm.1 k v hk).2.2)
  refine lv_istore (lv' := [(5, .int (iI k)), (0, .ref b0), (1, .ref (ad 0)), (2, .ref (adm 0)), (3, .ref (ad 60)), (4, .int (iI (i : Int)))]) hx hb dL_law_215 hl (by decide) rfl (fun ls hl => ?_)
  refine lv_aload_n hx hb dL_law_217 rfl (lv_at hl 3 rfl) ?_
  refine lv_aload_n hx hb dL_law_218 rfl (lv_at hl 1 rfl) ?_
  refine lv_iload hx hb dL_law_219 (lv_at hl 5 rfl) ?_
  refine zi_const hx hb dL_law_221 ?_
  refine zi_add hx hb dL_law_222 ?_
  refine zsld hx hb hX hbl hbA hS1 (j := i + 1) (by omega) (by omega) hL dL_law_223 ?_
  refine zcalliN hM (va_runV (As := [.int (iI (xI xs (i + 1)))]) (rest := []) ⟨hx, hb, hml, hown, hts⟩ (c_X2_temperature l D cy AM adm mi ma H1 (xI xs (i + 1)) hm1 (xI_z xs (i + 1)) hR.1.1) (cwV 1 hts gL_law_X2_temperature rfl rfl rfl (by decide +kernel) ⟨(Nat.le_of_ble_eq_true rfl), (Nat.le_of_ble_eq_true rfl)⟩) (zPVm hM hE hS1 hm1 (ci := 2) (k0 := 0) rfl mE_0) rfl rfl hl.1 rfl (lv_room (Nat.le_of_ble_eq_true rfl)) dL_law_224 ⟨hc, hs⟩) hS1 (fun z H2 locs2 hz hq hz2 hk2 hS2 => ?_)
  obtain ⟨c2, mi2, mb, hm2, hmi, hF⟩ : ∃ (c2 : Int) (mi2 : Nat → Int) (mb : Nat → Nat → Int), zW D AM adm (mE cy adm mi2 mb) H2 ∧ mi2 0 = c2 ∧ (QR mi ma (if 0 ≤ (xI xs (i + 1)) ∧ (xI xs (i + 1)) < 1000 then 0 else 1) (fun z => z = ma 1 (xI xs (i + 1)).toNat)) z c2 mi2 mb := by
    obtain ⟨c2, hm2, hc2, hans⟩ := hq
    exact ⟨c2, _, ma, hm2, up_same _ _ _, rfl, sU_r, hc2, hans⟩
  obtain ⟨hek, hR2, hans⟩ := hG _ _ _ _ hF
  have hw2 := hw1.kept hk2 (fun k v hk hB => hYM _ (hw1.1 k v hk).2.2 hB)
  have hI2 : LI D cy AY AM n0 (ad 0) (adm 0) (ad 60) H2 := ⟨by omega, ad2, adm, mi2, mb, ya2, yi2, pr2, fo2, hx0, rfl, ho0, hw2, hm2, hR2⟩
  refine lv_istore (lv' := [(6, .int (iI z)), (5, .int (iI k)), (0, .ref b0), (1, .ref (ad 0)), (2, .ref (adm 0)), (3, .ref (ad 60)), (4, .int (iI (i : Int)))]) hx hb dL_law_227 hl (by decide) rfl (fun ls hl => ?_)
  refine lv_aload_n hx hb dL_law_229 rfl (lv_at hl 4 rfl) ?_
  refine zcalliN hM (va_runV (As := []) (rest := []) ⟨hx, hb, hml, hown, hts⟩ (c_X2_thrown l D cy AM adm mi2 mb H2 hm2 (by rw [hmi, hek]; exact hk)) (cwV 0 hts gL_law_X2_thrown rfl rfl rfl (by decide +kernel) ⟨(Nat.le_of_ble_eq_true rfl), (Nat.le_of_ble_eq_true rfl)⟩) (zPVm hM hE hS2 hm2 (ci := 2) (k0 := 0) rfl mE_0) rfl rfl hl.1 rfl (lv_room (Nat.le_of_ble_eq_true rfl)) dL_law_230 ⟨hc, hs⟩) hS2 (fun z3 H3 locs3 hz3 hq3 hzz3 hk3 hS3 => ?_)
  obtain ⟨hH3, hq3⟩ := hq3
  rw [hH3] at hS3 ⊢
  have hz3k : z3 = k := hq3.trans (hmi.trans hek)
  refine lv_iload hx hb dL_law_233 (lv_at hl 1 rfl) ?_
  refine zc_eq (tgt := 240) hx hb dL_law_235 (by decide) hz3 hk (fun c_1 => ?_) (fun c_1 => absurd hz3k c_1)
  have fin : W p l e room_1 s m #[Value.ref b0] below meth c H2 locs3 (cells + 3 + 0 + 0) (slots + 21 + 0 + 0) Q (F0 m 257 ls []) := by
    refine lv_goto (tgt := 1400) hx hb dL_law_257 (by decide) ?_
    exact W.widen (k := cells + 3) (n := slots + 21) (by omega) (by omega) (kk _ _ _ hS3 hI2 (lv_sub hl [2, 3, 4, 5, 6] rfl))
  refine lv_iload hx hb dL_law_240 (lv_at hl 1 rfl) ?_
  refine zf_ne (tgt := 257) hx hb dL_law_242 (by decide) hk (fun _ => fin) (fun c_2 => ?_)
  refine lv_aload_n hx hb dL_law_245 rfl (lv_at hl 5 rfl) ?_
  refine zi_const hx hb dL_law_246 ?_
  refine zlald hx hb hE hw2 ho0 dL_law_247 ?_
  refine lv_iload hx hb dL_law_248 (lv_at hl 0 rfl) ?_
  refine lv_i2l hx hb dL_law_250 rfl ?_
  refine W.lcmp hx hb dL_law_251 ?_
  obtain ⟨r9, h90, h91⟩ := zlcmp (fo2 0) ((iI z).toInt64)
  rw [h91]
  have h92 : r9 = 0 := by
    rcases h90 with ⟨h, -⟩ | ⟨-, h⟩
    · exact h
    · exact absurd (hans c_2) h
  exact zf_eq (tgt := 257) hx hb dL_law_252 (by decide) (by rw [h92]; decide) (fun _ => fin) (fun c_3 => absurd h92 c_3)

set_option maxHeartbeats 4000000 in
set_option maxRecDepth 100000 in
theorem k_maturity {p : Program} {l : Launch} {e : Env} {s : State} {m : MethodId} {below : List Frame} {meth : Method} {c : Code} {b0 L : Nat} {xs : Nat → Int32} (hL : L ≤ 2560) (hX : va_X b0 L xs s s.heap) (hbl : b0 < s.heap.size) {D : va_G} {cy : Nat → ClassId} {A0 AY AM : Nat → Prop} (hbA : ¬ A0 b0) (hC : LC p l s m c b0 D cy A0 AY) (hM : ∀ q, AM q → A0 q) (hYM : ∀ q, AY q → ¬ AM q) {n0 x0 m0 o0 : Nat} (hAf : ∀ q, n0 ≤ q → AY q) {H : Heap} {locs : List Loc} {cells slots : Nat} {Q : State → Prop} {ls : Array Slot} (hS : va_S A0 s.heap H locs) (hI : LI D cy AY AM n0 x0 m0 o0 H) (hc : cells + 3 ≤ room_1.cells) (hs : slots + 21 ≤ room_1.slots) {i : Nat} (hi : i + 4 < L) (hl : lv_has ls 7 (lvB b0 x0 m0 o0 i))
    (kk : ∀ (H1 : Heap) (locs1 : List Loc) (ls1 : Array Slot), va_S A0 s.heap H1 locs1 → LI D cy AY AM n0 x0 m0 o0 H1 → lv_has ls1 7 (lvB b0 x0 m0 o0 i) → W p l e room_1 s m #[Value.ref b0] below meth c H1 locs1 (cells + 3) (slots + 21) Q (F0 m 1400 ls1 [])) :
    W p l e room_1 s m #[Value.ref b0] below meth c H locs cells slots Q (F0 m 260 ls []) := by
  obtain ⟨⟨hx, hb, hml, hown, hts⟩, hlf, hE, hY⟩ := id hC
  obtain ⟨hn0, ad, adm, mi, ma, ya, yi, pr, fo, rfl, rfl, rfl, hw, hm, hR⟩ := hI
  have hAf2 : ∀ q, H.size ≤ q → AY q := fun q hq => hAf q (Nat.le_trans hn0 hq)
  have hl : lv_has ls 7 [(0, .ref b0), (1, .ref (ad 0)), (2, .ref (adm 0)), (3, .ref (ad 60)), (4, .int (iI (i : Int)))] := hl
  refine lv_aload_n hx hb dL_law_260 rfl (lv_at hl 1 rfl) ?_
  refine lv_aload_n hx hb dL_law_261 rfl (lv_at hl 0 rfl) ?_
  refine lv_iload hx hb dL_law_262 (lv_at hl 4 rfl) ?_
  refine zi_const hx hb dL_law_264 ?_
  refine zi_add hx hb dL_law_265 ?_
  refine zsld hx hb hX hbl hbA hS (j := i + 1) (by omega) (by omega) hL dL_law_266 ?_
  refine lv_aload_n hx hb dL_law_267 rfl (lv_at hl 0 rfl) ?_
  refine lv_iload hx hb dL_law_268 (lv_at hl 4 rfl) ?_
  refine zi_const hx hb dL_law_270 ?_
  refine zi_add hx hb dL_law_271 ?_
  refine zsld hx hb hX hbl hbA hS (j := i + 2) (by omega) (by omega) hL dL_law_272 ?_
  refine lv_aload_n hx hb dL_law_273 rfl (lv_at hl 3 rfl) ?_
  refine s_maturity hC hS hl.1 hc hs hw hR hAf2 (xI xs (i + 1)) (xI xs (i + 2)) (xI_z xs (i + 1)) (xI_z xs (i + 2)) dL_law_274 (fun k H1 locs1 hk hG hz1 hk1 hS1 => ?_)
  obtain ⟨ad2, ya2, yi2, pr2, fo2, hx0, ho0, hw1, hG⟩ := hG
  have hm1 := hm.kept hk1 (fun k v hk hB => hYM _ hB (hm.1 k v hk).2.2)
  refine lv_istore (lv' := [(5, .int (iI k)), (0, .ref b0), (1, .ref (ad 0)), (2, .ref (adm 0)), (3, .ref (ad 60)), (4, .int (iI (i : Int)))]) hx hb dL_law_277 hl (by decide) rfl (fun ls hl => ?_)
  refine lv_aload_n hx hb dL_law_279 rfl (lv_at hl 3 rfl) ?_
  refine lv_aload_n hx hb dL_law_280 rfl (lv_at hl 1 rfl) ?_
  refine lv_iload hx hb dL_law_281 (lv_at hl 5 rfl) ?_
  refine zi_const hx hb dL_law_283 ?_
  refine zi_add hx hb dL_law_284 ?_
  refine zsld hx hb hX hbl hbA hS1 (j := i + 1) (by omega) (by omega) hL dL_law_285 ?_
  refine lv_aload_n hx hb dL_law_286 rfl (lv_at hl 1 rfl) ?_
  refine lv_iload hx hb dL_law_287 (lv_at hl 5 rfl) ?_
  refine zi_const hx hb dL_law_289 ?_
  refine zi_add hx hb dL_law_290 ?_
  refine zsld hx hb hX hbl hbA hS1 (j := i + 2) (by omega) (by omega) hL dL_law_291 ?_
  refine zcalliN hM (va_runV (As := [.int (iI (xI xs (i + 1))), .int (iI (xI xs (i + 2)))]) (rest := []) ⟨hx, hb, hml, hown, hts⟩ (c_X2_maturity l D cy AM adm mi ma H1 (xI xs (i + 1)) (xI xs (i + 2)) hm1 (xI_z xs (i + 1)) (xI_z xs (i + 2)) hR.1.1) (cwV 2 hts gL_law_X2_maturity rfl rfl rfl (by decide +kernel) ⟨(Nat.le_of_ble_eq_true rfl), (Nat.le_of_ble_eq_true rfl)⟩) (zPVm hM hE hS1 hm1 (ci := 2) (k0 := 0) rfl mE_0) rfl rfl hl.1 rfl (lv_room (Nat.le_of_ble_eq_true rfl)) dL_law_292 ⟨hc, hs⟩) hS1 (fun z H2 locs2 hz hq hz2 hk2 hS2 => ?_)
  obtain ⟨c2, mi2, mb, hm2, hmi, hF⟩ : ∃ (c2 : Int) (mi2 : Nat → Int) (mb : Nat → Nat → Int), zW D AM adm (mE cy adm mi2 mb) H2 ∧ mi2 0 = c2 ∧ (QR mi ma (if (0 ≤ (xI xs (i + 1)) ∧ (xI xs (i + 1)) < 1000) ∧ (0 ≤ (xI xs (i + 2)) ∧ (xI xs (i + 2)) < 1000) then 0 else 1) (fun z => z = mat (ma 1) (xI xs (i + 1)) (xI xs (i + 2)))) z c2 mi2 mb := by
    obtain ⟨c2, hm2, hc2, hans⟩ := hq
    exact ⟨c2, _, ma, hm2, up_same _ _ _, rfl, sU_r, hc2, hans⟩
  obtain ⟨hek, hR2, hans⟩ := hG _ _ _ _ hF
  have hw2 := hw1.kept hk2 (fun k v hk hB => hYM _ (hw1.1 k v hk).2.2 hB)
  have hI2 : LI D cy AY AM n0 (ad 0) (adm 0) (ad 60) H2 := ⟨by omega, ad2, adm, mi2, mb, ya2, yi2, pr2, fo2, hx0, rfl, ho0, hw2, hm2, hR2⟩
  refine lv_istore (lv' := [(6, .int (iI z)), (5, .int (iI k)), (0, .ref b0), (1, .ref (ad 0)), (2, .ref (adm 0)), (3, .ref (ad 60)), (4, .int (iI (i : Int)))]) hx hb dL_law_295 hl (by decide) rfl (fun ls hl => ?_)
  refine lv_aload_n hx hb dL_law_297 rfl (lv_at hl 4 rfl) ?_
  refine zcalliN hM (va_runV (As := []) (rest := []) ⟨hx, hb, hml, hown, hts⟩ (c_X2_thrown l D cy AM adm mi2 mb H2 hm2 (by rw [hmi, hek]; exact hk)) (cwV 0 hts gL_law_X2_thrown rfl rfl rfl (by decide +kernel) ⟨(Nat.le_of_ble_eq_true rfl), (Nat.le_of_ble_eq_true rfl)⟩) (zPVm hM hE hS2 hm2 (ci := 2) (k0 := 0) rfl mE_0) rfl rfl hl.1 rfl (lv_room (Nat.le_of_ble_eq_true rfl)) dL_law_298 ⟨hc, hs⟩) hS2 (fun z3 H3 locs3 hz3 hq3 hzz3 hk3 hS3 => ?_)
  obtain ⟨hH3, hq3⟩ := hq3
  rw [hH3] at hS3 ⊢
  have hz3k : z3 = k := hq3.trans (hmi.trans hek)
  refine lv_iload hx hb dL_law_301 (lv_at hl 1 rfl) ?_
  refine zc_eq (tgt := 308) hx hb dL_law_303 (by decide) hz3 hk (fun c_1 => ?_) (fun c_1 => absurd hz3k c_1)
  have fin : W p l e room_1 s m #[Value.ref b0] below meth c H2 locs3 (cells + 3 + 0 + 0) (slots + 21 + 0 + 0) Q (F0 m 325 ls []) := by
    refine lv_goto (tgt := 1400) hx hb dL_law_325 (by decide) ?_
    exact W.widen (k := cells + 3) (n := slots + 21) (by omega) (by omega) (kk _ _ _ hS3 hI2 (lv_sub hl [2, 3, 4, 5, 6] rfl))
  refine lv_iload hx hb dL_law_308 (lv_at hl 1 rfl) ?_
  refine zf_ne (tgt := 325) hx hb dL_law_310 (by decide) hk (fun _ => fin) (fun c_2 => ?_)
  refine lv_aload_n hx hb dL_law_313 rfl (lv_at hl 5 rfl) ?_
  refine zi_const hx hb dL_law_314 ?_
  refine zlald hx hb hE hw2 ho0 dL_law_315 ?_
  refine lv_iload hx hb dL_law_316 (lv_at hl 0 rfl) ?_
  refine lv_i2l hx hb dL_law_318 rfl ?_
  refine W.lcmp hx hb dL_law_319 ?_
  obtain ⟨r9, h90, h91⟩ := zlcmp (fo2 0) ((iI z).toInt64)
  rw [h91]
  have h92 : r9 = 0 := by
    rcases h90 with ⟨h, -⟩ | ⟨-, h⟩
    · exact h
    · exact absurd (hans c_2) h
  exact zf_eq (tgt := 325) hx hb dL_law_320 (by decide) (by rw [h92]; decide) (fun _ => fin) (fun c_3 => absurd h92 c_3)

set_option maxHeartbeats 4000000 in
set_option maxRecDepth 100000 in
theorem k_strength {p : Program} {l : Launch} {e : Env} {s : State} {m : MethodId} {below : List Frame} {meth : Method} {c : Code} {b0 L : Nat} {xs : Nat → Int32} (hL : L ≤ 2560) (hX : va_X b0 L xs s s.heap) (hbl : b0 < s.heap.size) {D : va_G} {cy : Nat → ClassId} {A0 AY AM : Nat → Prop} (hbA : ¬ A0 b0) (hC : LC p l s m c b0 D cy A0 AY) (hM : ∀ q, AM q → A0 q) (hYM : ∀ q, AY q → ¬ AM q) {n0 x0 m0 o0 : Nat} (hAf : ∀ q, n0 ≤ q → AY q) {H : Heap} {locs : List Loc} {cells slots : Nat} {Q : State → Prop} {ls : Array Slot} (hS : va_S A0 s.heap H locs) (hI : LI D cy AY AM n0 x0 m0 o0 H) (hc : cells + 3 ≤ room_1.cells) (hs : slots + 21 ≤ room_1.slots) {i : Nat} (hi : i + 4 < L) (hl : lv_has ls 7 (lvB b0 x0 m0 o0 i))
    (kk : ∀ (H1 : Heap) (locs1 : List Loc) (ls1 : Array Slot), va_S A0 s.heap H1 locs1 → LI D cy AY AM n0 x0 m0 o0 H1 → lv_has ls1 7 (lvB b0 x0 m0 o0 i) → W p l e room_1 s m #[Value.ref b0] below meth c H1 locs1 (cells + 3) (slots + 21) Q (F0 m 1400 ls1 [])) :
    W p l e room_1 s m #[Value.ref b0] below meth c H locs cells slots Q (F0 m 328 ls []) := by
  obtain ⟨⟨hx, hb, hml, hown, hts⟩, hlf, hE, hY⟩ := id hC
  obtain ⟨hn0, ad, adm, mi, ma, ya, yi, pr, fo, rfl, rfl, rfl, hw, hm, hR⟩ := hI
  have hAf2 : ∀ q, H.size ≤ q → AY q := fun q hq => hAf q (Nat.le_trans hn0 hq)
  have hl : lv_has ls 7 [(0, .ref b0), (1, .ref (ad 0)), (2, .ref (adm 0)), (3, .ref (ad 60)), (4, .int (iI (i : Int)))] := hl
  refine lv_aload_n hx hb dL_law_328 rfl (lv_at hl 1 rfl) ?_
  refine lv_aload_n hx hb dL_law_329 rfl (lv_at hl 0 rfl) ?_
  refine lv_iload hx hb dL_law_330 (lv_at hl 4 rfl) ?_
  refine zi_const hx hb dL_law_332 ?_
  refine zi_add hx hb dL_law_333 ?_
  refine zsld hx hb hX hbl hbA hS (j := i + 1) (by omega) (by omega) hL dL_law_334 ?_
  refine lv_aload_n hx hb dL_law_335 rfl (lv_at hl 3 rfl) ?_
  refine s_strength hC hS hl.1 hc hs hw hR hAf2 (xI xs (i + 1)) (xI_z xs (i + 1)) dL_law_336 (fun k H1 locs1 hk hG hz1 hk1 hS1 => ?_)
  obtain ⟨ad2, ya2, yi2, pr2, fo2, hx0, ho0, hw1, hG⟩ := hG
  have hm1 := hm.kept hk1 (fun k v hk hB => hYM _ hB (hm.1 k v hk).2.2)
  refine lv_istore (lv' := [(5, .int (iI k)), (0, .ref b0), (1, .ref (ad 0)), (2, .ref (adm 0)), (3, .ref (ad 60)), (4, .int (iI (i : Int)))]) hx hb dL_law_339 hl (by decide) rfl (fun ls hl => ?_)
  refine lv_aload_n hx hb dL_law_341 rfl (lv_at hl 3 rfl) ?_
  refine lv_aload_n hx hb dL_law_342 rfl (lv_at hl 1 rfl) ?_
  refine lv_iload hx hb dL_law_343 (lv_at hl 5 rfl) ?_
  refine zi_const hx hb dL_law_345 ?_
  refine zi_add hx hb dL_law_346 ?_
  refine zsld hx hb hX hbl hbA hS1 (j := i + 1) (by omega) (by omega) hL dL_law_347 ?_
  refine zcalliN hM (va_runV (As := [.int (iI (xI xs (i + 1)))]) (rest := []) ⟨hx, hb, hml, hown, hts⟩ (c_X2_strength l D cy AM adm mi ma H1 (xI xs (i + 1)) hm1 (xI_z xs (i + 1)) ) (cwV 1 hts gL_law_X2_strength rfl rfl rfl (by decide +kernel) ⟨(Nat.le_of_ble_eq_true rfl), (Nat.le_of_ble_eq_true rfl)⟩) (zPVm hM hE hS1 hm1 (ci := 2) (k0 := 0) rfl mE_0) rfl rfl hl.1 rfl (lv_room (Nat.le_of_ble_eq_true rfl)) dL_law_348 ⟨hc, hs⟩) hS1 (fun z H2 locs2 hz hq hz2 hk2 hS2 => ?_)
  obtain ⟨c2, mi2, mb, hm2, hmi, hF⟩ : ∃ (c2 : Int) (mi2 : Nat → Int) (mb : Nat → Nat → Int), zW D AM adm (mE cy adm mi2 mb) H2 ∧ mi2 0 = c2 ∧ (QR mi ma (if 0 ≤ (xI xs (i + 1)) ∧ (xI xs (i + 1)) ≤ 1000000 then 0 else 1) (fun z => z = strg (xI xs (i + 1)))) z c2 mi2 mb := by
    obtain ⟨c2, hm2, hc2, hans⟩ := hq
    exact ⟨c2, _, ma, hm2, up_same _ _ _, rfl, sU_r, hc2, hans⟩
  obtain ⟨hek, hR2, hans⟩ := hG _ _ _ _ hF
  have hw2 := hw1.kept hk2 (fun k v hk hB => hYM _ (hw1.1 k v hk).2.2 hB)
  have hI2 : LI D cy AY AM n0 (ad 0) (adm 0) (ad 60) H2 := ⟨by omega, ad2, adm, mi2, mb, ya2, yi2, pr2, fo2, hx0, rfl, ho0, hw2, hm2, hR2⟩
  refine lv_istore (lv' := [(6, .int (iI z)), (5, .int (iI k)), (0, .ref b0), (1, .ref (ad 0)), (2, .ref (adm 0)), (3, .ref (ad 60)), (4, .int (iI (i : Int)))]) hx hb dL_law_351 hl (by decide) rfl (fun ls hl => ?_)
  refine lv_aload_n hx hb dL_law_353 rfl (lv_at hl 4 rfl) ?_
  refine zcalliN hM (va_runV (As := []) (rest := []) ⟨hx, hb, hml, hown, hts⟩ (c_X2_thrown l D cy AM adm mi2 mb H2 hm2 (by rw [hmi, hek]; exact hk)) (cwV 0 hts gL_law_X2_thrown rfl rfl rfl (by decide +kernel) ⟨(Nat.le_of_ble_eq_true rfl), (Nat.le_of_ble_eq_true rfl)⟩) (zPVm hM hE hS2 hm2 (ci := 2) (k0 := 0) rfl mE_0) rfl rfl hl.1 rfl (lv_room (Nat.le_of_ble_eq_true rfl)) dL_law_354 ⟨hc, hs⟩) hS2 (fun z3 H3 locs3 hz3 hq3 hzz3 hk3 hS3 => ?_)
  obtain ⟨hH3, hq3⟩ := hq3
  rw [hH3] at hS3 ⊢
  have hz3k : z3 = k := hq3.trans (hmi.trans hek)
  refine lv_iload hx hb dL_law_357 (lv_at hl 1 rfl) ?_
  refine zc_eq (tgt := 364) hx hb dL_law_359 (by decide) hz3 hk (fun c_1 => ?_) (fun c_1 => absurd hz3k c_1)
  have fin : W p l e room_1 s m #[Value.ref b0] below meth c H2 locs3 (cells + 3 + 0 + 0) (slots + 21 + 0 + 0) Q (F0 m 381 ls []) := by
    refine lv_goto (tgt := 1400) hx hb dL_law_381 (by decide) ?_
    exact W.widen (k := cells + 3) (n := slots + 21) (by omega) (by omega) (kk _ _ _ hS3 hI2 (lv_sub hl [2, 3, 4, 5, 6] rfl))
  refine lv_iload hx hb dL_law_364 (lv_at hl 1 rfl) ?_
  refine zf_ne (tgt := 381) hx hb dL_law_366 (by decide) hk (fun _ => fin) (fun c_2 => ?_)
  refine lv_aload_n hx hb dL_law_369 rfl (lv_at hl 5 rfl) ?_
  refine zi_const hx hb dL_law_370 ?_
  refine zlald hx hb hE hw2 ho0 dL_law_371 ?_
  refine lv_iload hx hb dL_law_372 (lv_at hl 0 rfl) ?_
  refine lv_i2l hx hb dL_law_374 rfl ?_
  refine W.lcmp hx hb dL_law_375 ?_
  obtain ⟨r9, h90, h91⟩ := zlcmp (fo2 0) ((iI z).toInt64)
  rw [h91]
  have h92 : r9 = 0 := by
    rcases h90 with ⟨h, -⟩ | ⟨-, h⟩
    · exact h
    · exact absurd (hans c_2) h
  exact zf_eq (tgt := 381) hx hb dL_law_376 (by decide) (by rw [h92]; decide) (fun _ => fin) (fun c_3 => absurd h92 c_3)

set_option maxHeartbeats 4000000 in
set_option maxRecDepth 100000 in
theorem k_setPanels {p : Program} {l : Launch} {e : Env} {s : State} {m : MethodId} {below : List Frame} {meth : Method} {c : Code} {b0 L : Nat} {xs : Nat → Int32} (hL : L ≤ 2560) (hX : va_X b0 L xs s s.heap) (hbl : b0 < s.heap.size) {D : va_G} {cy : Nat → ClassId} {A0 AY AM : Nat → Prop} (hbA : ¬ A0 b0) (hC : LC p l s m c b0 D cy A0 AY) (hM : ∀ q, AM q → A0 q) (hYM : ∀ q, AY q → ¬ AM q) {n0 x0 m0 o0 : Nat} (hAf : ∀ q, n0 ≤ q → AY q) {H : Heap} {locs : List Loc} {cells slots : Nat} {Q : State → Prop} {ls : Array Slot} (hS : va_S A0 s.heap H locs) (hI : LI D cy AY AM n0 x0 m0 o0 H) (hc : cells + 3 ≤ room_1.cells) (hs : slots + 21 ≤ room_1.slots) {i : Nat} (hi : i + 4 < L) (hl : lv_has ls 7 (lvB b0 x0 m0 o0 i))
    (kk : ∀ (H1 : Heap) (locs1 : List Loc) (ls1 : Array Slot), va_S A0 s.heap H1 locs1 → LI D cy AY AM n0 x0 m0 o0 H1 → lv_has ls1 7 (lvB b0 x0 m0 o0 i) → W p l e room_1 s m #[Value.ref b0] below meth c H1 locs1 (cells + 3) (slots + 21) Q (F0 m 1400 ls1 [])) :
    W p l e room_1 s m #[Value.ref b0] below meth c H locs cells slots Q (F0 m 384 ls []) := by
  obtain ⟨⟨hx, hb, hml, hown, hts⟩, hlf, hE, hY⟩ := id hC
  obtain ⟨hn0, ad, adm, mi, ma, ya, yi, pr, fo, rfl, rfl, rfl, hw, hm, hR⟩ := hI
  have hAf2 : ∀ q, H.size ≤ q → AY q := fun q hq => hAf q (Nat.le_trans hn0 hq)
  have hl : lv_has ls 7 [(0, .ref b0), (1, .ref (ad 0)), (2, .ref (adm 0)), (3, .ref (ad 60)), (4, .int (iI (i : Int)))] := hl
  refine lv_aload_n hx hb dL_law_384 rfl (lv_at hl 1 rfl) ?_
  refine lv_aload_n hx hb dL_law_385 rfl (lv_at hl 0 rfl) ?_
  refine lv_iload hx hb dL_law_386 (lv_at hl 4 rfl) ?_
  refine zi_const hx hb dL_law_388 ?_
  refine zi_add hx hb dL_law_389 ?_
  refine zsld hx hb hX hbl hbA hS (j := i + 1) (by omega) (by omega) hL dL_law_390 ?_
  refine lv_aload_n hx hb dL_law_391 rfl (lv_at hl 3 rfl) ?_
  refine s_setPanels hC hS hl.1 hc hs hw hR hAf2 (xI xs (i + 1)) (xI_z xs (i + 1)) dL_law_392 (fun k H1 locs1 hk hG hz1 hk1 hS1 => ?_)
  obtain ⟨ad2, ya2, yi2, pr2, fo2, hx0, ho0, hw1, hG⟩ := hG
  have hm1 := hm.kept hk1 (fun k v hk hB => hYM _ hB (hm.1 k v hk).2.2)
  refine lv_istore (lv' := [(5, .int (iI k)), (0, .ref b0), (1, .ref (ad 0)), (2, .ref (adm 0)), (3, .ref (ad 60)), (4, .int (iI (i : Int)))]) hx hb dL_law_395 hl (by decide) rfl (fun ls hl => ?_)
  refine lv_aload_n hx hb dL_law_397 rfl (lv_at hl 3 rfl) ?_
  refine lv_aload_n hx hb dL_law_398 rfl (lv_at hl 1 rfl) ?_
  refine lv_iload hx hb dL_law_399 (lv_at hl 5 rfl) ?_
  refine zi_const hx hb dL_law_401 ?_
  refine zi_add hx hb dL_law_402 ?_
  refine zsld hx hb hX hbl hbA hS1 (j := i + 1) (by omega) (by omega) hL dL_law_403 ?_
  refine zcalliN hM (va_runV (As := [.int (iI (xI xs (i + 1)))]) (rest := []) ⟨hx, hb, hml, hown, hts⟩ (c_X2_setPanels l D cy AM adm mi ma H1 (xI xs (i + 1)) hm1 (xI_z xs (i + 1)) hR.1.2.1) (cwV 1 hts gL_law_X2_setPanels rfl rfl rfl (by decide +kernel) ⟨(Nat.le_of_ble_eq_true rfl), (Nat.le_of_ble_eq_true rfl)⟩) (zPVm hM hE hS1 hm1 (ci := 2) (k0 := 0) rfl mE_0) rfl rfl hl.1 rfl (lv_room (Nat.le_of_ble_eq_true rfl)) dL_law_404 ⟨hc, hs⟩) hS1 (fun z H2 locs2 hz hq hz2 hk2 hS2 => ?_)
  obtain ⟨c2, mi2, mb, hm2, hmi, hF⟩ : ∃ (c2 : Int) (mi2 : Nat → Int) (mb : Nat → Nat → Int), zW D AM adm (mE cy adm mi2 mb) H2 ∧ mi2 0 = c2 ∧ (UR mi ma (if 0 ≤ (xI xs (i + 1)) ∧ (xI xs (i + 1)) ≤ 60 then 0 else 1) (fun z mi2 mb => mi2 = va_up (va_up mi 0 0) 2 (xI xs (i + 1)) ∧ mb = ma ∧ z = mi 2)) z c2 mi2 mb := by
    obtain ⟨c2, mi2, hm2, hc2, hh⟩ := hq
    rcases hh with ⟨h1, h2⟩ | ⟨h1, h2, h3⟩
    · exact ⟨c2, mi2, ma, hm2, by rw [h2]; exact up_same _ _ _, hc2, Or.inl ⟨h1, h2, rfl⟩⟩
    · exact ⟨c2, mi2, ma, hm2, by rw [h2, h1]; rfl, hc2, Or.inr ⟨h1, h2, rfl, h3⟩⟩
  obtain ⟨hek, hR2, hans⟩ := hG _ _ _ _ hF
  have hw2 := hw1.kept hk2 (fun k v hk hB => hYM _ (hw1.1 k v hk).2.2 hB)
  have hI2 : LI D cy AY AM n0 (ad 0) (adm 0) (ad 60) H2 := ⟨by omega, ad2, adm, mi2, mb, ya2, yi2, pr2, fo2, hx0, rfl, ho0, hw2, hm2, hR2⟩
  refine lv_istore (lv' := [(6, .int (iI z)), (5, .int (iI k)), (0, .ref b0), (1, .ref (ad 0)), (2, .ref (adm 0)), (3, .ref (ad 60)), (4, .int (iI (i : Int)))]) hx hb dL_law_407 hl (by decide) rfl (fun ls hl => ?_)
  refine lv_aload_n hx hb dL_law_409 rfl (lv_at hl 4 rfl) ?_
  refine zcalliN hM (va_runV (As := []) (rest := []) ⟨hx, hb, hml, hown, hts⟩ (c_X2_thrown l D cy AM adm mi2 mb H2 hm2 (by rw [hmi, hek]; exact hk)) (cwV 0 hts gL_law_X2_thrown rfl rfl rfl (by decide +kernel) ⟨(Nat.le_of_ble_eq_true rfl), (Nat.le_of_ble_eq_true rfl)⟩) (zPVm hM hE hS2 hm2 (ci := 2) (k0 := 0) rfl mE_0) rfl rfl hl.1 rfl (lv_room (Nat.le_of_ble_eq_true rfl)) dL_law_410 ⟨hc, hs⟩) hS2 (fun z3 H3 locs3 hz3 hq3 hzz3 hk3 hS3 => ?_)
  obtain ⟨hH3, hq3⟩ := hq3
  rw [hH3] at hS3 ⊢
  have hz3k : z3 = k := hq3.trans (hmi.trans hek)
  refine lv_iload hx hb dL_law_413 (lv_at hl 1 rfl) ?_
  refine zc_eq (tgt := 420) hx hb dL_law_415 (by decide) hz3 hk (fun c_1 => ?_) (fun c_1 => absurd hz3k c_1)
  have fin : W p l e room_1 s m #[Value.ref b0] below meth c H2 locs3 (cells + 3 + 0 + 0) (slots + 21 + 0 + 0) Q (F0 m 437 ls []) := by
    refine lv_goto (tgt := 1400) hx hb dL_law_437 (by decide) ?_
    exact W.widen (k := cells + 3) (n := slots + 21) (by omega) (by omega) (kk _ _ _ hS3 hI2 (lv_sub hl [2, 3, 4, 5, 6] rfl))
  refine lv_iload hx hb dL_law_420 (lv_at hl 1 rfl) ?_
  refine zf_ne (tgt := 437) hx hb dL_law_422 (by decide) hk (fun _ => fin) (fun c_2 => ?_)
  refine lv_aload_n hx hb dL_law_425 rfl (lv_at hl 5 rfl) ?_
  refine zi_const hx hb dL_law_426 ?_
  refine zlald hx hb hE hw2 ho0 dL_law_427 ?_
  refine lv_iload hx hb dL_law_428 (lv_at hl 0 rfl) ?_
  refine lv_i2l hx hb dL_law_430 rfl ?_
  refine W.lcmp hx hb dL_law_431 ?_
  obtain ⟨r9, h90, h91⟩ := zlcmp (fo2 0) ((iI z).toInt64)
  rw [h91]
  have h92 : r9 = 0 := by
    rcases h90 with ⟨h, -⟩ | ⟨-, h⟩
    · exact h
    · exact absurd (hans c_2) h
  exact zf_eq (tgt := 437) hx hb dL_law_432 (by decide) (by rw [h92]; decide) (fun _ => fin) (fun c_3 => absurd h92 c_3)

set_option maxHeartbeats 4000000 in
set_option maxRecDepth 100000 in
theorem k_setRates {p : Program} {l : Launch} {e : Env} {s : State} {m : MethodId} {below : List Frame} {meth : Method} {c : Code} {b0 L : Nat} {xs : Nat → Int32} (hL : L ≤ 2560) (hX : va_X b0 L xs s s.heap) (hbl : b0 < s.heap.size) {D : va_G} {cy : Nat → ClassId} {A0 AY AM : Nat → Prop} (hbA : ¬ A0 b0) (hC : LC p l s m c b0 D cy A0 AY) (hM : ∀ q, AM q → A0 q) (hYM : ∀ q, AY q → ¬ AM q) {n0 x0 m0 o0 : Nat} (hAf : ∀ q, n0 ≤ q → AY q) {H : Heap} {locs : List Loc} {cells slots : Nat} {Q : State → Prop} {ls : Array Slot} (hS : va_S A0 s.heap H locs) (hI : LI D cy AY AM n0 x0 m0 o0 H) (hc : cells + 3 ≤ room_1.cells) (hs : slots + 21 ≤ room_1.slots) {i : Nat} (hi : i + 4 < L) (hl : lv_has ls 7 (lvB b0 x0 m0 o0 i))
    (kk : ∀ (H1 : Heap) (locs1 : List Loc) (ls1 : Array Slot), va_S A0 s.heap H1 locs1 → LI D cy AY AM n0 x0 m0 o0 H1 → lv_has ls1 7 (lvB b0 x0 m0 o0 i) → W p l e room_1 s m #[Value.ref b0] below meth c H1 locs1 (cells + 3) (slots + 21) Q (F0 m 1400 ls1 [])) :
    W p l e room_1 s m #[Value.ref b0] below meth c H locs cells slots Q (F0 m 440 ls []) := by
  obtain ⟨⟨hx, hb, hml, hown, hts⟩, hlf, hE, hY⟩ := id hC
  obtain ⟨hn0, ad, adm, mi, ma, ya, yi, pr, fo, rfl, rfl, rfl, hw, hm, hR⟩ := hI
  have hAf2 : ∀ q, H.size ≤ q → AY q := fun q hq => hAf q (Nat.le_trans hn0 hq)
  have hl : lv_has ls 7 [(0, .ref b0), (1, .ref (ad 0)), (2, .ref (adm 0)), (3, .ref (ad 60)), (4, .int (iI (i : Int)))] := hl
  refine lv_aload_n hx hb dL_law_440 rfl (lv_at hl 1 rfl) ?_
  refine lv_aload_n hx hb dL_law_441 rfl (lv_at hl 0 rfl) ?_
  refine lv_iload hx hb dL_law_442 (lv_at hl 4 rfl) ?_
  refine zi_const hx hb dL_law_444 ?_
  refine zi_add hx hb dL_law_445 ?_
  refine zsld hx hb hX hbl hbA hS (j := i + 1) (by omega) (by omega) hL dL_law_446 ?_
  refine lv_aload_n hx hb dL_law_447 rfl (lv_at hl 0 rfl) ?_
  refine lv_iload hx hb dL_law_448 (lv_at hl 4 rfl) ?_
  refine zi_const hx hb dL_law_450 ?_
  refine zi_add hx hb dL_law_451 ?_
  refine zsld hx hb hX hbl hbA hS (j := i + 2) (by omega) (by omega) hL dL_law_452 ?_
  refine lv_aload_n hx hb dL_law_453 rfl (lv_at hl 3 rfl) ?_
  refine s_setRates hC hS hl.1 hc hs hw hR hAf2 (xI xs (i + 1)) (xI xs (i + 2)) (xI_z xs (i + 1)) (xI_z xs (i + 2)) dL_law_454 (fun k H1 locs1 hk hG hz1 hk1 hS1 => ?_)
  obtain ⟨ad2, ya2, yi2, pr2, fo2, hx0, ho0, hw1, hG⟩ := hG
  have hm1 := hm.kept hk1 (fun k v hk hB => hYM _ hB (hm.1 k v hk).2.2)
  refine lv_istore (lv' := [(5, .int (iI k)), (0, .ref b0), (1, .ref (ad 0)), (2, .ref (adm 0)), (3, .ref (ad 60)), (4, .int (iI (i : Int)))]) hx hb dL_law_457 hl (by decide) rfl (fun ls hl => ?_)
  refine lv_aload_n hx hb dL_law_459 rfl (lv_at hl 3 rfl) ?_
  refine lv_aload_n hx hb dL_law_460 rfl (lv_at hl 1 rfl) ?_
  refine lv_iload hx hb dL_law_461 (lv_at hl 5 rfl) ?_
  refine zi_const hx hb dL_law_463 ?_
  refine zi_add hx hb dL_law_464 ?_
  refine zsld hx hb hX hbl hbA hS1 (j := i + 1) (by omega) (by omega) hL dL_law_465 ?_
  refine lv_aload_n hx hb dL_law_466 rfl (lv_at hl 1 rfl) ?_
  refine lv_iload hx hb dL_law_467 (lv_at hl 5 rfl) ?_
  refine zi_const hx hb dL_law_469 ?_
  refine zi_add hx hb dL_law_470 ?_
  refine zsld hx hb hX hbl hbA hS1 (j := i + 2) (by omega) (by omega) hL dL_law_471 ?_
  refine zcalliN hM (va_runV (As := [.int (iI (xI xs (i + 1))), .int (iI (xI xs (i + 2)))]) (rest := []) ⟨hx, hb, hml, hown, hts⟩ (c_X2_setRates l D cy AM adm mi ma H1 (xI xs (i + 1)) (xI xs (i + 2)) hm1 (xI_z xs (i + 1)) (xI_z xs (i + 2)) hR.1.2.1) (cwV 2 hts gL_law_X2_setRates rfl rfl rfl (by decide +kernel) ⟨(Nat.le_of_ble_eq_true rfl), (Nat.le_of_ble_eq_true rfl)⟩) (zPVm hM hE hS1 hm1 (ci := 2) (k0 := 0) rfl mE_0) rfl rfl hl.1 rfl (lv_room (Nat.le_of_ble_eq_true rfl)) dL_law_472 ⟨hc, hs⟩) hS1 (fun z H2 locs2 hz hq hz2 hk2 hS2 => ?_)
  obtain ⟨c2, mi2, mb, hm2, hmi, hF⟩ : ∃ (c2 : Int) (mi2 : Nat → Int) (mb : Nat → Nat → Int), zW D AM adm (mE cy adm mi2 mb) H2 ∧ mi2 0 = c2 ∧ (UR mi ma (if (1 ≤ (xI xs (i + 1)) ∧ (xI xs (i + 1)) ≤ 50) ∧ (1 ≤ (xI xs (i + 2)) ∧ (xI xs (i + 2)) ≤ 50) then 0 else 1) (fun z mi2 mb => mi2 = va_up (va_up (va_up mi 0 0) 3 (xI xs (i + 1))) 4 (xI xs (i + 2)) ∧ mb = ma ∧ z = min (xI xs (i + 1)) (xI xs (i + 2)))) z c2 mi2 mb := by
    obtain ⟨c2, mi2, hm2, hc2, hh⟩ := hq
    rcases hh with ⟨h1, h2⟩ | ⟨h1, h2, h3⟩
    · exact ⟨c2, mi2, ma, hm2, by rw [h2]; exact up_same _ _ _, hc2, Or.inl ⟨h1, h2, rfl⟩⟩
    · exact ⟨c2, mi2, ma, hm2, by rw [h2, h1]; rfl, hc2, Or.inr ⟨h1, h2, rfl, h3⟩⟩
  obtain ⟨hek, hR2, hans⟩ := hG _ _ _ _ hF
  have hw2 := hw1.kept hk2 (fun k v hk hB => hYM _ (hw1.1 k v hk).2.2 hB)
  have hI2 : LI D cy AY AM n0 (ad 0) (adm 0) (ad 60) H2 := ⟨by omega, ad2, adm, mi2, mb, ya2, yi2, pr2, fo2, hx0, rfl, ho0, hw2, hm2, hR2⟩
  refine lv_istore (lv' := [(6, .int (iI z)), (5, .int (iI k)), (0, .ref b0), (1, .ref (ad 0)), (2, .ref (adm 0)), (3, .ref (ad 60)), (4, .int (iI (i : Int)))]) hx hb dL_law_475 hl (by decide) rfl (fun ls hl => ?_)
  refine lv_aload_n hx hb dL_law_477 rfl (lv_at hl 4 rfl) ?_
  refine zcalliN hM (va_runV (As := []) (rest := []) ⟨hx, hb, hml, hown, hts⟩ (c_X2_thrown l D cy AM adm mi2 mb H2 hm2 (by rw [hmi, hek]; exact hk)) (cwV 0 hts gL_law_X2_thrown rfl rfl rfl (by decide +kernel) ⟨(Nat.le_of_ble_eq_true rfl), (Nat.le_of_ble_eq_true rfl)⟩) (zPVm hM hE hS2 hm2 (ci := 2) (k0 := 0) rfl mE_0) rfl rfl hl.1 rfl (lv_room (Nat.le_of_ble_eq_true rfl)) dL_law_478 ⟨hc, hs⟩) hS2 (fun z3 H3 locs3 hz3 hq3 hzz3 hk3 hS3 => ?_)
  obtain ⟨hH3, hq3⟩ := hq3
  rw [hH3] at hS3 ⊢
  have hz3k : z3 = k := hq3.trans (hmi.trans hek)
  refine lv_iload hx hb dL_law_481 (lv_at hl 1 rfl) ?_
  refine zc_eq (tgt := 488) hx hb dL_law_483 (by decide) hz3 hk (fun c_1 => ?_) (fun c_1 => absurd hz3k c_1)
  have fin : W p l e room_1 s m #[Value.ref b0] below meth c H2 locs3 (cells + 3 + 0 + 0) (slots + 21 + 0 + 0) Q (F0 m 505 ls []) := by
    refine lv_goto (tgt := 1400) hx hb dL_law_505 (by decide) ?_
    exact W.widen (k := cells + 3) (n := slots + 21) (by omega) (by omega) (kk _ _ _ hS3 hI2 (lv_sub hl [2, 3, 4, 5, 6] rfl))
  refine lv_iload hx hb dL_law_488 (lv_at hl 1 rfl) ?_
  refine zf_ne (tgt := 505) hx hb dL_law_490 (by decide) hk (fun _ => fin) (fun c_2 => ?_)
  refine lv_aload_n hx hb dL_law_493 rfl (lv_at hl 5 rfl) ?_
  refine zi_const hx hb dL_law_494 ?_
  refine zlald hx hb hE hw2 ho0 dL_law_495 ?_
  refine lv_iload hx hb dL_law_496 (lv_at hl 0 rfl) ?_
  refine lv_i2l hx hb dL_law_498 rfl ?_
  refine W.lcmp hx hb dL_law_499 ?_
  obtain ⟨r9, h90, h91⟩ := zlcmp (fo2 0) ((iI z).toInt64)
  rw [h91]
  have h92 : r9 = 0 := by
    rcases h90 with ⟨h, -⟩ | ⟨-, h⟩
    · exact h
    · exact absurd (hans c_2) h
  exact zf_eq (tgt := 505) hx hb dL_law_500 (by decide) (by rw [h92]; decide) (fun _ => fin) (fun c_3 => absurd h92 c_3)

set_option maxHeartbeats 4000000 in
set_option maxRecDepth 100000 in
theorem k_setCrew {p : Program} {l : Launch} {e : Env} {s : State} {m : MethodId} {below : List Frame} {meth : Method} {c : Code} {b0 L : Nat} {xs : Nat → Int32} (hL : L ≤ 2560) (hX : va_X b0 L xs s s.heap) (hbl : b0 < s.heap.size) {D : va_G} {cy : Nat → ClassId} {A0 AY AM : Nat → Prop} (hbA : ¬ A0 b0) (hC : LC p l s m c b0 D cy A0 AY) (hM : ∀ q, AM q → A0 q) (hYM : ∀ q, AY q → ¬ AM q) {n0 x0 m0 o0 : Nat} (hAf : ∀ q, n0 ≤ q → AY q) {H : Heap} {locs : List Loc} {cells slots : Nat} {Q : State → Prop} {ls : Array Slot} (hS : va_S A0 s.heap H locs) (hI : LI D cy AY AM n0 x0 m0 o0 H) (hc : cells + 3 ≤ room_1.cells) (hs : slots + 21 ≤ room_1.slots) {i : Nat} (hi : i + 4 < L) (hl : lv_has ls 7 (lvB b0 x0 m0 o0 i))
    (kk : ∀ (H1 : Heap) (locs1 : List Loc) (ls1 : Array Slot), va_S A0 s.heap H1 locs1 → LI D cy AY AM n0 x0 m0 o0 H1 → lv_has ls1 7 (lvB b0 x0 m0 o0 i) → W p l e room_1 s m #[Value.ref b0] below meth c H1 locs1 (cells + 3) (slots + 21) Q (F0 m 1400 ls1 [])) :
    W p l e room_1 s m #[Value.ref b0] below meth c H locs cells slots Q (F0 m 508 ls []) := by
  obtain ⟨⟨hx, hb, hml, hown, hts⟩, hlf, hE, hY⟩ := id hC
  obtain ⟨hn0, ad, adm, mi, ma, ya, yi, pr, fo, rfl, rfl, rfl, hw, hm, hR⟩ := hI
  have hAf2 : ∀ q, H.size ≤ q → AY q := fun q hq => hAf q (Nat.le_trans hn0 hq)
  have hl : lv_has ls 7 [(0, .ref b0), (1, .ref (ad 0)), (2, .ref (adm 0)), (3, .ref (ad 60)), (4, .int (iI (i : Int)))] := hl
  refine lv_aload_n hx hb dL_law_508 rfl (lv_at hl 1 rfl) ?_
  refine lv_aload_n hx hb dL_law_509 rfl (lv_at hl 0 rfl) ?_
  refine lv_iload hx hb dL_law_510 (lv_at hl 4 rfl) ?_
  refine zi_const hx hb dL_law_512 ?_
  refine zi_add hx hb dL_law_513 ?_
  refine zsld hx hb hX hbl hbA hS (j := i + 1) (by omega) (by omega) hL dL_law_514 ?_
  refine lv_aload_n hx hb dL_law_515 rfl (lv_at hl 0 rfl) ?_
  refine lv_iload hx hb dL_law_516 (lv_at hl 4 rfl) ?_
  refine zi_const hx hb dL_law_518 ?_
  refine zi_add hx hb dL_law_519 ?_
  refine zsld hx hb hX hbl hbA hS (j := i + 2) (by omega) (by omega) hL dL_law_520 ?_
  refine s_setCrew hC hS hl.1 hc hs hw hR hAf2 (xI xs (i + 1)) (xI xs (i + 2)) (xI_z xs (i + 1)) (xI_z xs (i + 2)) dL_law_521 (fun k H1 locs1 hk hG hz1 hk1 hS1 => ?_)
  obtain ⟨ad2, ya2, yi2, pr2, fo2, hx0, ho0, hw1, hG⟩ := hG
  have hm1 := hm.kept hk1 (fun k v hk hB => hYM _ hB (hm.1 k v hk).2.2)
  refine lv_istore (lv' := [(5, .int (iI k)), (0, .ref b0), (1, .ref (ad 0)), (2, .ref (adm 0)), (3, .ref (ad 60)), (4, .int (iI (i : Int)))]) hx hb dL_law_524 hl (by decide) rfl (fun ls hl => ?_)
  refine lv_aload_n hx hb dL_law_526 rfl (lv_at hl 3 rfl) ?_
  refine lv_aload_n hx hb dL_law_527 rfl (lv_at hl 1 rfl) ?_
  refine lv_iload hx hb dL_law_528 (lv_at hl 5 rfl) ?_
  refine zi_const hx hb dL_law_530 ?_
  refine zi_add hx hb dL_law_531 ?_
  refine zsld hx hb hX hbl hbA hS1 (j := i + 1) (by omega) (by omega) hL dL_law_532 ?_
  refine lv_aload_n hx hb dL_law_533 rfl (lv_at hl 1 rfl) ?_
  refine lv_iload hx hb dL_law_534 (lv_at hl 5 rfl) ?_
  refine zi_const hx hb dL_law_536 ?_
  refine zi_add hx hb dL_law_537 ?_
  refine zsld hx hb hX hbl hbA hS1 (j := i + 2) (by omega) (by omega) hL dL_law_538 ?_
  refine zcallvN hM (va_runV (As := [.int (iI (xI xs (i + 1))), .int (iI (xI xs (i + 2)))]) (rest := []) ⟨hx, hb, hml, hown, hts⟩ (c_X2_setCrew l D cy AM adm mi ma H1 (xI xs (i + 1)) (xI xs (i + 2)) hm1 (xI_z xs (i + 1)) (xI_z xs (i + 2)) ) (cwV 2 hts gL_law_X2_setCrew rfl rfl rfl (by decide +kernel) ⟨(Nat.le_of_ble_eq_true rfl), (Nat.le_of_ble_eq_true rfl)⟩) (zPVm hM hE hS1 hm1 (ci := 2) (k0 := 0) rfl mE_0) rfl rfl hl.1 rfl (lv_room (Nat.le_of_ble_eq_true rfl)) dL_law_539 ⟨hc, hs⟩) hS1 (fun H2 locs2 hq hz2 hk2 hS2 => ?_)
  obtain ⟨c2, mi2, mb, hm2, hmi, hF⟩ : ∃ (c2 : Int) (mi2 : Nat → Int) (mb : Nat → Nat → Int), zW D AM adm (mE cy adm mi2 mb) H2 ∧ mi2 0 = c2 ∧ (UR mi ma (if (0 ≤ (xI xs (i + 1)) ∧ (xI xs (i + 1)) ≤ 24) ∧ (0 ≤ (xI xs (i + 2)) ∧ (xI xs (i + 2)) ≤ 24) then 0 else 1) (fun z mi2 mb => mi2 = va_up (va_up (va_up mi 0 0) 5 (xI xs (i + 1))) 6 (xI xs (i + 2)) ∧ mb = ma)) 0 c2 mi2 mb := by
    obtain ⟨c2, mi2, hm2, hc2, hh⟩ := hq
    rcases hh with ⟨h1, h2⟩ | ⟨h1, h2⟩
    · exact ⟨c2, mi2, ma, hm2, by rw [h2]; exact up_same _ _ _, hc2, Or.inl ⟨h1, h2, rfl⟩⟩
    · exact ⟨c2, mi2, ma, hm2, by rw [h2, h1]; rfl, hc2, Or.inr ⟨h1, h2, rfl⟩⟩
  obtain ⟨hek, hR2⟩ := hG _ _ _ _ hF
  have hw2 := hw1.kept hk2 (fun k v hk hB => hYM _ (hw1.1 k v hk).2.2 hB)
  have hI2 : LI D cy AY AM n0 (ad 0) (adm 0) (ad 60) H2 := ⟨by omega, ad2, adm, mi2, mb, ya2, yi2, pr2, fo2, hx0, rfl, ho0, hw2, hm2, hR2⟩
  refine lv_aload_n hx hb dL_law_542 rfl (lv_at hl 3 rfl) ?_
  refine zcalliN hM (va_runV (As := []) (rest := []) ⟨hx, hb, hml, hown, hts⟩ (c_X2_thrown l D cy AM adm mi2 mb H2 hm2 (by rw [hmi, hek]; exact hk)) (cwV 0 hts gL_law_X2_thrown rfl rfl rfl (by decide +kernel) ⟨(Nat.le_of_ble_eq_true rfl), (Nat.le_of_ble_eq_true rfl)⟩) (zPVm hM hE hS2 hm2 (ci := 2) (k0 := 0) rfl mE_0) rfl rfl hl.1 rfl (lv_room (Nat.le_of_ble_eq_true rfl)) dL_law_543 ⟨hc, hs⟩) hS2 (fun z3 H3 locs3 hz3 hq3 hzz3 hk3 hS3 => ?_)
  obtain ⟨hH3, hq3⟩ := hq3
  rw [hH3] at hS3 ⊢
  have hz3k : z3 = k := hq3.trans (hmi.trans hek)
  refine lv_iload hx hb dL_law_546 (lv_at hl 0 rfl) ?_
  refine zc_eq (tgt := 553) hx hb dL_law_548 (by decide) hz3 hk (fun c_1 => ?_) (fun c_1 => absurd hz3k c_1)
  refine lv_goto (tgt := 1400) hx hb dL_law_553 (by decide) ?_
  exact W.widen (k := cells + 3) (n := slots + 21) (by omega) (by omega) (kk _ _ _ hS3 hI2 (lv_sub hl [1, 2, 3, 4, 5] rfl))

set_option maxHeartbeats 4000000 in
set_option maxRecDepth 100000 in
theorem k_plan {p : Program} {l : Launch} {e : Env} {s : State} {m : MethodId} {below : List Frame} {meth : Method} {c : Code} {b0 L : Nat} {xs : Nat → Int32} (hL : L ≤ 2560) (hX : va_X b0 L xs s s.heap) (hbl : b0 < s.heap.size) {D : va_G} {cy : Nat → ClassId} {A0 AY AM : Nat → Prop} (hbA : ¬ A0 b0) (hC : LC p l s m c b0 D cy A0 AY) (hM : ∀ q, AM q → A0 q) (hYM : ∀ q, AY q → ¬ AM q) {n0 x0 m0 o0 : Nat} (hAf : ∀ q, n0 ≤ q → AY q) {H : Heap} {locs : List Loc} {cells slots : Nat} {Q : State → Prop} {ls : Array Slot} (hS : va_S A0 s.heap H locs) (hI : LI D cy AY AM n0 x0 m0 o0 H) (hc : cells + 3 ≤ room_1.cells) (hs : slots + 21 ≤ room_1.slots) {i : Nat} (hi : i + 4 < L) (hl : lv_has ls 7 (lvB b0 x0 m0 o0 i))
    (kk : ∀ (H1 : Heap) (locs1 : List Loc) (ls1 : Array Slot), va_S A0 s.heap H1 locs1 → LI D cy AY AM n0 x0 m0 o0 H1 → lv_has ls1 7 (lvB b0 x0 m0 o0 i) → W p l e room_1 s m #[Value.ref b0] below meth c H1 locs1 (cells + 3) (slots + 21) Q (F0 m 1400 ls1 [])) :
    W p l e room_1 s m #[Value.ref b0] below meth c H locs cells slots Q (F0 m 556 ls []) := by
  obtain ⟨⟨hx, hb, hml, hown, hts⟩, hlf, hE, hY⟩ := id hC
  obtain ⟨hn0, ad, adm, mi, ma, ya, yi, pr, fo, rfl, rfl, rfl, hw, hm, hR⟩ := hI
  have hAf2 : ∀ q, H.size ≤ q → AY q := fun q hq => hAf q (Nat.le_trans hn0 hq)
  have hl : lv_has ls 7 [(0, .ref b0), (1, .ref (ad 0)), (2, .ref (adm 0)), (3, .ref (ad 60)), (4, .int (iI (i : Int)))] := hl
  refine lv_aload_n hx hb dL_law_556 rfl (lv_at hl 1 rfl) ?_
  refine lv_aload_n hx hb dL_law_557 rfl (lv_at hl 0 rfl) ?_
  refine lv_iload hx hb dL_law_558 (lv_at hl 4 rfl) ?_
  refine zi_const hx hb dL_law_560 ?_
  refine zi_add hx hb dL_law_561 ?_
  refine zsld hx hb hX hbl hbA hS (j := i + 1) (by omega) (by omega) hL dL_law_562 ?_
  refine lv_aload_n hx hb dL_law_563 rfl (lv_at hl 0 rfl) ?_
  refine lv_iload hx hb dL_law_564 (lv_at hl 4 rfl) ?_
  refine zi_const hx hb dL_law_566 ?_
  refine zi_add hx hb dL_law_567 ?_
  refine zsld hx hb hX hbl hbA hS (j := i + 2) (by omega) (by omega) hL dL_law_568 ?_
  refine lv_aload_n hx hb dL_law_569 rfl (lv_at hl 0 rfl) ?_
  refine lv_iload hx hb dL_law_570 (lv_at hl 4 rfl) ?_
  refine zi_const hx hb dL_law_572 ?_
  refine zi_add hx hb dL_law_573 ?_
  refine zsld hx hb hX hbl hbA hS (j := i + 3) (by omega) (by omega) hL dL_law_574 ?_
  refine lv_aload_n hx hb dL_law_575 rfl (lv_at hl 0 rfl) ?_
  refine lv_iload hx hb dL_law_576 (lv_at hl 4 rfl) ?_
  refine zi_const hx hb dL_law_578 ?_
  refine zi_add hx hb dL_law_579 ?_
  refine zsld hx hb hX hbl hbA hS (j := i + 4) (by omega) (by omega) hL dL_law_580 ?_
  refine lv_aload_n hx hb dL_law_581 rfl (lv_at hl 3 rfl) ?_
  refine s_plan hC hS hl.1 hc hs hw hR hAf2 (xI xs (i + 1)) (xI xs (i + 2)) (xI xs (i + 3)) (xI xs (i + 4)) (xI_z xs (i + 1)) (xI_z xs (i + 2)) (xI_z xs (i + 3)) (xI_z xs (i + 4)) dL_law_582 (fun k H1 locs1 hk hG hz1 hk1 hS1 => ?_)
  obtain ⟨ad2, ya2, yi2, pr2, fo2, hx0, ho0, hw1, hG⟩ := hG
  have hm1 := hm.kept hk1 (fun k v hk hB => hYM _ hB (hm.1 k v hk).2.2)
  refine lv_istore (lv' := [(5, .int (iI k)), (0, .ref b0), (1, .ref (ad 0)), (2, .ref (adm 0)), (3, .ref (ad 60)), (4, .int (iI (i : Int)))]) hx hb dL_law_585 hl (by decide) rfl (fun ls hl => ?_)
  refine lv_aload_n hx hb dL_law_587 rfl (lv_at hl 3 rfl) ?_
  refine lv_aload_n hx hb dL_law_588 rfl (lv_at hl 1 rfl) ?_
  refine lv_iload hx hb dL_law_589 (lv_at hl 5 rfl) ?_
  refine zi_const hx hb dL_law_591 ?_
  refine zi_add hx hb dL_law_592 ?_
  refine zsld hx hb hX hbl hbA hS1 (j := i + 1) (by omega) (by omega) hL dL_law_593 ?_
  refine lv_aload_n hx hb dL_law_594 rfl (lv_at hl 1 rfl) ?_
  refine lv_iload hx hb dL_law_595 (lv_at hl 5 rfl) ?_
  refine zi_const hx hb dL_law_597 ?_
  refine zi_add hx hb dL_law_598 ?_
  refine zsld hx hb hX hbl hbA hS1 (j := i + 2) (by omega) (by omega) hL dL_law_599 ?_
  refine lv_aload_n hx hb dL_law_600 rfl (lv_at hl 1 rfl) ?_
  refine lv_iload hx hb dL_law_601 (lv_at hl 5 rfl) ?_
  refine zi_const hx hb dL_law_603 ?_
  refine zi_add hx hb dL_law_604 ?_
  refine zsld hx hb hX hbl hbA hS1 (j := i + 3) (by omega) (by omega) hL dL_law_605 ?_
  refine lv_aload_n hx hb dL_law_606 rfl (lv_at hl 1 rfl) ?_
  refine lv_iload hx hb dL_law_607 (lv_at hl 5 rfl) ?_
  refine zi_const hx hb dL_law_609 ?_
  refine zi_add hx hb dL_law_610 ?_
  refine zsld hx hb hX hbl hbA hS1 (j := i + 4) (by omega) (by omega) hL dL_law_611 ?_
  refine zcalliN hM (va_runV (As := [.int (iI (xI xs (i + 1))), .int (iI (xI xs (i + 2))), .int (iI (xI xs (i + 3))), .int (iI (xI xs (i + 4)))]) (rest := []) ⟨hx, hb, hml, hown, hts⟩ (c_X2_plan l D cy AM adm mi ma H1 (xI xs (i + 1)) (xI xs (i + 2)) (xI xs (i + 3)) (xI xs (i + 4)) hm1 (xI_z xs (i + 1)) (xI_z xs (i + 2)) (xI_z xs (i + 3)) (xI_z xs (i + 4)) hR.1) (cwV 4 hts gL_law_X2_plan rfl rfl rfl (by decide +kernel) ⟨(Nat.le_of_ble_eq_true rfl), (Nat.le_of_ble_eq_true rfl)⟩) (zPVm hM hE hS1 hm1 (ci := 2) (k0 := 0) rfl mE_0) rfl rfl hl.1 rfl (lv_room (Nat.le_of_ble_eq_true rfl)) dL_law_612 ⟨hc, hs⟩) hS1 (fun z H2 locs2 hz hq hz2 hk2 hS2 => ?_)
  obtain ⟨c2, mi2, mb, hm2, hmi, hF⟩ : ∃ (c2 : Int) (mi2 : Nat → Int) (mb : Nat → Nat → Int), zW D AM adm (mE cy adm mi2 mb) H2 ∧ mi2 0 = c2 ∧ (PR mi ma (xI xs (i + 1)) (xI xs (i + 2)) (xI xs (i + 3)) (xI xs (i + 4))) z c2 mi2 mb := by
    obtain ⟨nf, c2, mb, hm2, hfr, hc2, hh⟩ := hq
    rcases hh with ⟨h1, h2⟩ | ⟨h1, h2, h3⟩
    · exact ⟨c2, _, mb, hm2, up_same _ _ _, nf, hfr, hc2, Or.inl ⟨h1, rfl, h2⟩⟩
    · exact ⟨c2, _, mb, hm2, up_same _ _ _, nf, hfr, hc2, Or.inr ⟨h1, by rw [h1], h2, h3⟩⟩
  obtain ⟨hek, hR2, hans⟩ := hG _ _ _ _ hF
  have hw2 := hw1.kept hk2 (fun k v hk hB => hYM _ (hw1.1 k v hk).2.2 hB)
  have hI2 : LI D cy AY AM n0 (ad 0) (adm 0) (ad 60) H2 := ⟨by omega, ad2, adm, mi2, mb, ya2, yi2, pr2, fo2, hx0, rfl, ho0, hw2, hm2, hR2⟩
  refine lv_istore (lv' := [(6, .int (iI z)), (5, .int (iI k)), (0, .ref b0), (1, .ref (ad 0)), (2, .ref (adm 0)), (3, .ref (ad 60)), (4, .int (iI (i : Int)))]) hx hb dL_law_615 hl (by decide) rfl (fun ls hl => ?_)
  refine lv_aload_n hx hb dL_law_617 rfl (lv_at hl 4 rfl) ?_
  refine zcalliN hM (va_runV (As := []) (rest := []) ⟨hx, hb, hml, hown, hts⟩ (c_X2_thrown l D cy AM adm mi2 mb H2 hm2 (by rw [hmi, hek]; exact hk)) (cwV 0 hts gL_law_X2_thrown rfl rfl rfl (by decide +kernel) ⟨(Nat.le_of_ble_eq_true rfl), (Nat.le_of_ble_eq_true rfl)⟩) (zPVm hM hE hS2 hm2 (ci := 2) (k0 := 0) rfl mE_0) rfl rfl hl.1 rfl (lv_room (Nat.le_of_ble_eq_true rfl)) dL_law_618 ⟨hc, hs⟩) hS2 (fun z3 H3 locs3 hz3 hq3 hzz3 hk3 hS3 => ?_)
  obtain ⟨hH3, hq3⟩ := hq3
  rw [hH3] at hS3 ⊢
  have hz3k : z3 = k := hq3.trans (hmi.trans hek)
  refine lv_iload hx hb dL_law_621 (lv_at hl 1 rfl) ?_
  refine zc_eq (tgt := 628) hx hb dL_law_623 (by decide) hz3 hk (fun c_1 => ?_) (fun c_1 => absurd hz3k c_1)
  have fin : W p l e room_1 s m #[Value.ref b0] below meth c H2 locs3 (cells + 3 + 0 + 0) (slots + 21 + 0 + 0) Q (F0 m 645 ls []) := by
    refine lv_goto (tgt := 1400) hx hb dL_law_645 (by decide) ?_
    exact W.widen (k := cells + 3) (n := slots + 21) (by omega) (by omega) (kk _ _ _ hS3 hI2 (lv_sub hl [2, 3, 4, 5, 6] rfl))
  refine lv_iload hx hb dL_law_628 (lv_at hl 1 rfl) ?_
  refine zf_ne (tgt := 645) hx hb dL_law_630 (by decide) hk (fun _ => fin) (fun c_2 => ?_)
  refine lv_aload_n hx hb dL_law_633 rfl (lv_at hl 5 rfl) ?_
  refine zi_const hx hb dL_law_634 ?_
  refine zlald hx hb hE hw2 ho0 dL_law_635 ?_
  refine lv_iload hx hb dL_law_636 (lv_at hl 0 rfl) ?_
  refine lv_i2l hx hb dL_law_638 rfl ?_
  refine W.lcmp hx hb dL_law_639 ?_
  obtain ⟨r9, h90, h91⟩ := zlcmp (fo2 0) ((iI z).toInt64)
  rw [h91]
  have h92 : r9 = 0 := by
    rcases h90 with ⟨h, -⟩ | ⟨-, h⟩
    · exact h
    · exact absurd (hans c_2) h
  exact zf_eq (tgt := 645) hx hb dL_law_640 (by decide) (by rw [h92]; decide) (fun _ => fin) (fun c_3 => absurd h92 c_3)
