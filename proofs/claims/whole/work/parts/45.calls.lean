/-! ===== the law calls the yard: what holds behind the call, whatever the reference will answer ===== -/
section ZCX
variable {p : Program} {l : Launch} {e : Env} {R : Room} {s : State} {m : MethodId} {args : Array Value} {below : List Frame} {meth : Method} {c : Code} {H : Heap} {locs : List Loc} {cells slots : Nat} {Q : State → Prop} {pc : Nat} {ls : Array Slot} {rest st0 : List Value} {A B : Nat → Prop} {a : Array Value} {mc ms : Nat}
theorem zcalliX {post : Int → Heap → Prop} (hB : ∀ q, B q → A q) (hr : vx_Run p l e R s m args below meth c H locs cells slots mc ms (F0 m pc ls st0) rest (zQi post B a) (fun _ _ _ => False) B) (hS : va_S A s.heap H locs)
    (kk : ∀ (z : Int) (H1 : Heap) (locs1 : List Loc), zr z → post z H1 → H.size ≤ H1.size → (∀ q : Nat, q < H.size → ¬ B q → H1[q]? = H[q]?) → va_S A s.heap H1 locs1 → W p l e R s m args below meth c H1 locs1 (cells + mc) (slots + ms) Q (F0 m (pc + 3) ls (.int (iI z) :: rest))) : W p l e R s m args below meth c H locs cells slots Q (F0 m pc ls st0) := by
  intro T hT X
  rcases hr T hT X with ⟨v, st₀, t, T', L, h0, X', hL, e1, e2, ⟨⟨r, u, hv, hp, hb⟩, hF⟩, st⟩ | ⟨q, st₀, t, T', L, E, ce, h0, X', hL, e1, e2, hf, -⟩
  · cases hv
    obtain ⟨k1, k2, k3⟩ := vx_keep h0 e1 hS (fun q _ h => hB q h) hB hL hF
    obtain ⟨z, hz1, rfl, hp⟩ := hp
    have eu : T'.heap = u := e1.trans hb
    obtain ⟨t2, a1, b1⟩ := kk z T'.heap (locs ++ L) hz1 (by rw [eu]; exact hp) k1 k2 k3 T' rfl X'
    exact ⟨t2, st t2 a1, b1⟩
  · exact hf.elim
theorem zPVm {D : va_G} {cy : Nat → ClassId} {A2 : Nat → Prop} {ad : Nat → Nat} {ew : Nat → Option va_E} {As : List Value} {k0 ci : Nat} {q : vw_C} {fs : List Value} (hB : ∀ q, B q → A q) (hE : EN D cy A s s.heap) (hS : va_S A s.heap H locs) (hw : zW D A2 ad ew H) (hc : vwCl[ci]? = some q) (he : ew k0 = some (.inr (ci, fs))) : PreV s H q.1 (ad k0) (zPc D cy B (.ref (ad k0) :: As) H) As := ⟨zBlind, va_recv hE.1 (hw.one he) hc (q0 := 0) rfl, fun U hU hW => ⟨rfl, hU, ((hE.at hS).narrow hB).move hW⟩⟩
end ZCX
def LC (p : Program) (l : Launch) (s : State) (m : MethodId) (c : Code) (b : Nat) (D : va_G) (cy : Nat → ClassId) (A0 AY : Nat → Prop) : Prop :=
  (p.tables.exec = Jvm.exec ∧ c.code = cL_law ∧ c.maxLocals = 7 ∧ s.vm.findClass RL = some m.cls ∧ (∀ w ∈ wsL_law, w.before #[Value.ref b] s = true)) ∧ l.stackTraces = false ∧ EN D cy A0 s s.heap ∧ (∀ q, AY q → A0 q)
abbrev RF : Type := Int → Int → (Nat → Int) → (Nat → Nat → Int) → Prop
/-- behind a wrapper: it answered c -/
def GO (D : va_G) (cy : Nat → ClassId) (AY : Nat → Prop) (x0 o0 : Nat) (REF : RF) (c : Int) (H : Heap) : Prop :=
  ∃ (ad : Nat → Nat) (ya : Nat → Nat → Int) (yi : Nat → Int) (pr : Nat → Option PS) (fo : Nat → Int64), ad 0 = x0 ∧ ad 60 = o0 ∧ zW D AY ad (yO60 cy ad ya yi pr fo) H ∧ ∀ z c2 mi2 mb, REF z c2 mi2 mb → c2 = c ∧ RR mi2 mb ya yi pr ∧ (c = 0 → fo 0 = (iI z).toInt64)
/-- behind a wrapper without an answer -/
def GV (D : va_G) (cy : Nat → ClassId) (AY : Nat → Prop) (x0 o0 : Nat) (REF : RF) (c : Int) (H : Heap) : Prop :=
  ∃ (ad : Nat → Nat) (ya : Nat → Nat → Int) (yi : Nat → Int) (pr : Nat → Option PS) (fo : Nat → Int64), ad 0 = x0 ∧ ad 60 = o0 ∧ zW D AY ad (yO60 cy ad ya yi pr fo) H ∧ ∀ z c2 mi2 mb, REF z c2 mi2 mb → c2 = c ∧ RR mi2 mb ya yi pr
/-- behind a call of the yard itself -/
def GD (D : va_G) (cy : Nat → ClassId) (AY : Nat → Prop) (x0 o0 : Nat) (REF : RF) (y : Int) (H : Heap) : Prop :=
  ∃ (ad : Nat → Nat) (ya : Nat → Nat → Int) (yi : Nat → Int) (pr : Nat → Option PS) (fo : Nat → Int64), ad 0 = x0 ∧ ad 60 = o0 ∧ zW D AY ad (yO60 cy ad ya yi pr fo) H ∧ ∀ z c2 mi2 mb, REF z c2 mi2 mb → RR mi2 mb ya yi pr ∧ z = y
def PY (cy : Nat → ClassId) (ad : Nat → Nat) (REF : RF) (z : Int) (ad2 : Nat → Nat) (e2 : Nat → Option va_E) : Prop := ∃ (yb : Nat → Nat → Int) (yi2 : Nat → Int) (pq : Nat → Option PS), e2 = yE cy ad2 yb yi2 pq ∧ ad2 0 = ad 0 ∧ ∀ z2 c2 mi2 mb, REF z2 c2 mi2 mb → c2 = 0 ∧ RR mi2 mb yb yi2 pq ∧ z2 = z
def PV (cy : Nat → ClassId) (ad : Nat → Nat) (REF : RF) (ad2 : Nat → Nat) (e2 : Nat → Option va_E) : Prop := ∃ (yb : Nat → Nat → Int) (yi2 : Nat → Int) (pq : Nat → Option PS), e2 = yE cy ad2 yb yi2 pq ∧ ad2 0 = ad 0 ∧ ∀ z2 c2 mi2 mb, REF z2 c2 mi2 mb → c2 = 0 ∧ RR mi2 mb yb yi2 pq
/-- a call that asks -/
def QR (mi : Nat → Int) (ma : Nat → Nat → Int) (k : Int) (ans : Int → Prop) : RF := fun z c2 mi2 mb => mi2 = va_up mi 0 c2 ∧ sU ma mb ∧ c2 = k ∧ (c2 = 0 → ans z)
/-- a call that changes -/
def UR (mi : Nat → Int) (ma : Nat → Nat → Int) (k : Int) (upd : Int → (Nat → Int) → (Nat → Nat → Int) → Prop) : RF := fun z c2 mi2 mb => c2 = k ∧ ((c2 ≠ 0 ∧ mi2 = va_up mi 0 c2 ∧ mb = ma) ∨ (c2 = 0 ∧ upd z mi2 mb))
section GOS
variable {D : va_G} {cy : Nat → ClassId} {A : Nat → Prop} {ad ad2 : Nat → Nat} {mi : Nat → Int} {ma ya yb : Nat → Nat → Int} {yi yi2 : Nat → Int} {pr pq : Nat → Option PS} {fo fo2 : Nat → Int64} {REF : RF} {H2 : Heap} {k z : Int} {ans : Int → Prop} {upd : Int → (Nat → Int) → (Nat → Nat → Int) → Prop} {e2 : Nat → Option va_E}
theorem GO_ok (hP : PY cy ad REF z ad2 e2) (hf : fo2 0 = (iI z).toInt64) (h60 : ad2 60 = ad 60) (hw : zW D A ad2 (va_up e2 60 (some (.inl (cy 3, 1, .inr (.inl fo2))))) H2) : GO D cy A (ad 0) (ad 60) REF 0 H2 := by
  obtain ⟨yb, yi2, pq, rfl, e0, hr⟩ := hP
  refine ⟨ad2, yb, yi2, pq, fo2, e0, h60, hw, fun z2 c2 mi2 mb h => ?_⟩
  obtain ⟨a, b, d⟩ := hr z2 c2 mi2 mb h
  exact ⟨a, b, fun _ => by rw [d]; exact hf⟩
theorem GV_ok (hP : PV cy ad REF ad2 e2) (h60 : ad2 60 = ad 60) (hw : zW D A ad2 (va_up e2 60 (some (.inl (cy 3, 1, .inr (.inl fo))))) H2) : GV D cy A (ad 0) (ad 60) REF 0 H2 := by
  obtain ⟨yb, yi2, pq, rfl, e0, hr⟩ := hP
  exact ⟨ad2, yb, yi2, pq, fo, e0, h60, hw, hr⟩
theorem GO_x (hk : k ≠ 0) (hR : RR mi ma ya yi pr) (hw : zW D A ad (yO60 cy ad ya yi pr fo) H2) (hr : ∀ z c2 mi2 mb, REF z c2 mi2 mb → c2 = k ∧ mi2 = va_up mi 0 k ∧ sU ma mb) : GO D cy A (ad 0) (ad 60) REF k H2 := by
  refine ⟨ad, ya, yi, pr, fo, rfl, rfl, hw, fun z c2 mi2 mb h => ?_⟩
  obtain ⟨a, b, d⟩ := hr z c2 mi2 mb h
  subst b
  exact ⟨a, (hR.sU d).c0 k, fun h => absurd h hk⟩
theorem GV_x (hR : RR mi ma ya yi pr) (hw : zW D A ad (yO60 cy ad ya yi pr fo) H2) (hr : ∀ z c2 mi2 mb, REF z c2 mi2 mb → c2 = k ∧ mi2 = va_up mi 0 k ∧ sU ma mb) : GV D cy A (ad 0) (ad 60) REF k H2 := by
  refine ⟨ad, ya, yi, pr, fo, rfl, rfl, hw, fun z c2 mi2 mb h => ?_⟩
  obtain ⟨a, b, d⟩ := hr z c2 mi2 mb h
  subst b
  exact ⟨a, (hR.sU d).c0 k⟩
theorem QR_x {j : Int} (hj : k = j) : ∀ z c2 mi2 mb, QR mi ma k ans z c2 mi2 mb → c2 = j ∧ mi2 = va_up mi 0 j ∧ sU ma mb := by
  rintro z c2 mi2 mb ⟨r1, r2, r3, -⟩
  subst hj
  subst r3
  exact ⟨rfl, r1, r2⟩
theorem UR_x {j : Int} (hj : k = j) (h0 : j ≠ 0) : ∀ z c2 mi2 mb, UR mi ma k upd z c2 mi2 mb → c2 = j ∧ mi2 = va_up mi 0 j ∧ sU ma mb := by
  rintro z c2 mi2 mb ⟨r3, ⟨-, r1, r2⟩ | ⟨r1, -⟩⟩
  · subst hj
    subst r3
    subst r2
    exact ⟨rfl, r1, sU_r⟩
  · exact absurd (hj.symm.trans (r3.symm.trans r1)) h0
theorem PY_q (hk : k = 0) (hR : RR mi ma yb yi2 pq) (ha : ∀ z2, ans z2 → z2 = z) (h0 : ad2 0 = ad 0) : PY cy ad (QR mi ma k ans) z ad2 (yE cy ad2 yb yi2 pq) := by
  refine ⟨yb, yi2, pq, rfl, h0, ?_⟩
  rintro z2 c2 mi2 mb ⟨r1, r2, r3, r4⟩
  have hc : c2 = 0 := r3.trans hk
  subst r1
  exact ⟨hc, (hR.sU r2).c0 _, ha z2 (r4 hc)⟩
theorem PY_u (hk : k = 0) (hu : ∀ z2 mi2 mb, upd z2 mi2 mb → RR mi2 mb yb yi2 pq ∧ z2 = z) (h0 : ad2 0 = ad 0) : PY cy ad (UR mi ma k upd) z ad2 (yE cy ad2 yb yi2 pq) := by
  refine ⟨yb, yi2, pq, rfl, h0, ?_⟩
  rintro z2 c2 mi2 mb ⟨r3, ⟨r1, -⟩ | ⟨r1, r2⟩⟩
  · exact absurd (r3.trans hk) r1
  · obtain ⟨a, b⟩ := hu z2 mi2 mb r2
    exact ⟨r1, a, b⟩
theorem PV_u (hk : k = 0) (hu : ∀ z2 mi2 mb, upd z2 mi2 mb → RR mi2 mb yb yi2 pq) (h0 : ad2 0 = ad 0) : PV cy ad (UR mi ma k upd) ad2 (yE cy ad2 yb yi2 pq) := by
  refine ⟨yb, yi2, pq, rfl, h0, ?_⟩
  rintro z2 c2 mi2 mb ⟨r3, ⟨r1, -⟩ | ⟨r1, r2⟩⟩
  · exact absurd (r3.trans hk) r1
  · exact ⟨r1, hu z2 mi2 mb r2⟩
/-- a number without a pour -/
theorem RR.bad (hR : RR mi ma ya yi pr) {v : Int} (h : ¬ isP ma v) : ∀ k : Nat, v = (k : Int) → k < 10 → pr k = none := by
  intro k hk h10
  rcases hR.2.2.2.2.2 k h10 with ⟨-, hn⟩ | ⟨h7, -⟩
  · exact hn
  · exact absurd ⟨by omega, by omega, by rw [hk, Int.toNat_natCast]; exact h7⟩ h
/-- a number with one -/
theorem RR.good (hR : RR mi ma ya yi pr) {v : Int} (h : isP ma v) : ∃ (i : Nat) (p : PS), v = (i : Int) ∧ i < 10 ∧ ma 7 i = 1 ∧ pr i = some p ∧ tell ma i p ∧ sc (ya 0) yi p ∧ pB p ∧ p.1 7 = endM mi ma i ∧ p.1 8 = (if kS mi ma i < 1000 then kS mi ma i else -1) ∧ p.1 9 = stS mi ma i ∧ p.1 10 = min 1000 (frS mi ma i) := by
  obtain ⟨h1, h2, h7⟩ := h
  rcases hR.pt (i := v.toNat) (by omega) with ⟨h0, -⟩ | ⟨p, -, h⟩
  · omega
  · exact ⟨v.toNat, p, by omega, by omega, h7, h⟩
theorem zW.reAd (hw : zW D A ad2 (yE cy ad2 ya yi pr) H2) (h10 : pr 10 = none) (v : Nat) : zW D A (va_up ad2 60 v) (yE cy (va_up ad2 60 v) ya yi pr) H2 := by
  have he : yE cy (va_up ad2 60 v) ya yi pr = yE cy ad2 ya yi pr := funext fun k => by
    rcases Nat.lt_or_ge k 40 with c | c
    · exact yE_lo (fun j hj => up_ne _ _ (by omega)) (fun _ _ => rfl) (Or.inl c)
    · cases h1 : yE cy (va_up ad2 60 v) ya yi pr k with
      | some x => exact absurd (yE_lt h10 h1) (by omega)
      | none =>
        cases h2 : yE cy ad2 ya yi pr k with
        | some x => exact absurd (yE_lt h10 h2) (by omega)
        | none => rfl
  rw [he]
  have hne : ∀ {k : Nat} {x : va_E}, yE cy ad2 ya yi pr k = some x → va_up ad2 60 v k = ad2 k := fun {k} {x} h => up_ne _ _ (by have := yE_lt h10 h; omega)
  refine ⟨fun k x h => ?_, fun i j x y hi hj hij => ?_⟩
  · rw [hne h]
    exact hw.1 k x h
  · rw [hne hi, hne hj] at hij
    exact hw.2 i j x y hi hj hij
end GOS
/-- a plan -/
def PR (mi : Nat → Int) (ma : Nat → Nat → Int) (a b d f : Int) : RF := fun z c2 mi2 mb => ∃ nf : Nat, frN ma nf ∧ c2 = (if plOK a b d f then (if nf = 10 then 2 else 0) else 1) ∧ ((c2 ≠ 0 ∧ mi2 = va_up mi 0 c2 ∧ mb = ma) ∨ (c2 = 0 ∧ mi2 = va_up mi 0 0 ∧ z = nf ∧ layR nf a b d f (va_up ma 7 (va_up (ma 7) nf 1)) mb))
/-- a call that asks and never throws -/
def DR (mi : Nat → Int) (ma : Nat → Nat → Int) (v : Int) : RF := fun z _ mi2 mb => mi2 = va_up mi 0 0 ∧ sU ma mb ∧ z = v
section PRS
variable {mi : Nat → Int} {ma ya : Nat → Nat → Int} {yi : Nat → Int} {pr pr2 : Nat → Option PS} {a b d f : Int}
theorem RR.full (hR : RR mi ma ya yi pr) (hfr : frN ma 10) (n : Nat) (hn : n < 10) (h : pr n = none) : False := by
  have h7 := hfr.2.1 n hn
  rcases hR.2.2.2.2.2 n hn with ⟨h0, -⟩ | ⟨-, p, hp, -⟩
  · omega
  · rw [h] at hp; cases hp
theorem PR_1 (h0 : ¬ plOK a b d f) : ∀ z c2 mi2 mb, PR mi ma a b d f z c2 mi2 mb → c2 = 1 ∧ mi2 = va_up mi 0 1 ∧ sU ma mb := by
  rintro z c2 mi2 mb ⟨nf, hfr, hc2, ⟨-, r1, r2⟩ | ⟨r1, -⟩⟩
  · rw [if_neg h0] at hc2
    subst hc2
    subst r2
    exact ⟨rfl, r1, sU_r⟩
  · rw [if_neg h0] at hc2
    omega
theorem PR_2 (hR : RR mi ma ya yi pr) (h0 : plOK a b d f) (hfull : ∀ i, i < 10 → pr i ≠ none) : ∀ z c2 mi2 mb, PR mi ma a b d f z c2 mi2 mb → c2 = 2 ∧ mi2 = va_up mi 0 2 ∧ sU ma mb := by
  rintro z c2 mi2 mb ⟨nf, hfr, hc2, hh⟩
  have h10 : nf = 10 := by
    rcases Nat.lt_or_ge nf 10 with c | c
    · exfalso
      have h7 := hfr.2.2 c
      rcases hR.2.2.2.2.2 nf c with ⟨-, hn⟩ | ⟨h1, -⟩
      · exact hfull nf c hn
      · omega
    · have := hfr.1
      omega
  rw [if_pos h0, if_pos h10] at hc2
  rcases hh with ⟨-, r1, r2⟩ | ⟨r1, -⟩
  · subst hc2
    subst r2
    exact ⟨rfl, r1, sU_r⟩
  · omega
theorem gvR_d (h : gvR pr pr2) : gvR pr (va_up pr2 10 none) := fun i hi => by
  rw [up_ne _ _ (by omega)]
  exact h i hi
theorem fr_eq {x : Int} : (if x < 1000 then x else -1) = (if min 1000 x < 1000 then min 1000 x else -1) := by
  by_cases c : x < 1000
  · rw [if_pos c, if_pos (by omega)]
    omega
  · rw [if_neg c, if_neg (by omega)]
end PRS

set_option maxHeartbeats 4000000 in
set_option maxRecDepth 100000 in
theorem s_temperature {p : Program} {l : Launch} {e : Env} {s : State} {m : MethodId} {below : List Frame} {meth : Method} {c : Code} {b0 : Nat} {D : va_G} {cy : Nat → ClassId} {A0 AY : Nat → Prop} (hC : LC p l s m c b0 D cy A0 AY) {H : Heap} {locs : List Loc} {cells slots : Nat} {Q : State → Prop} {ls : Array Slot} {pc : Nat} (hS : va_S A0 s.heap H locs) (hsz : ls.size = 7) (hc : cells + 3 ≤ room_1.cells) (hs : slots + 21 ≤ room_1.slots) {ad : Nat → Nat} {mi : Nat → Int} {ma ya : Nat → Nat → Int} {yi : Nat → Int} {pr : Nat → Option PS} {fo : Nat → Int64} (hw : zW D AY ad (yO60 cy ad ya yi pr fo) H) (hR : RR mi ma ya yi pr) (hAf : ∀ q, H.size ≤ q → AY q) (a : Int) (za : zr a) (hdg : decode cL_law pc = .ok (.invokestatic 94, 3))
    (kk : ∀ (k : Int) (H1 : Heap) (locs1 : List Loc), zr k → GO D cy AY (ad 0) (ad 60) (QR mi ma (if 0 ≤ a ∧ a < 1000 then 0 else 1) (fun z => z = ma 1 a.toNat)) k H1 → H.size ≤ H1.size → (∀ q : Nat, q < H.size → ¬ AY q → H1[q]? = H[q]?) → va_S A0 s.heap H1 locs1 → W p l e room_1 s m #[Value.ref b0] below meth c H1 locs1 (cells + 3) (slots + 21) Q (F0 m (pc + 3) ls [.int (iI k)])) :
    W p l e room_1 s m #[Value.ref b0] below meth c H locs cells slots Q (F0 m pc ls [.ref (ad 60), .int (iI a), .ref (ad 0)]) := by
  obtain ⟨⟨hx, hb, hml, hown, hts⟩, hlf, hE, hY⟩ := hC
  have he : yE cy ad ya yi pr 0 = some (.inr (1, yO ad yi)) := yE_0
  have hw0 := hw.part yE_60
  have hyB := hR.yBd
  have htO := hR.tOKd
  have hgn := hR.2.2.2.1
  by_cases h0 : 0 ≤ a ∧ a < 1000
  · have hV := w_L_temperature l D cy AY ad H a hw he (c_X1_temperature_ok l D cy (fun q => AY q ∧ q ≠ ad 60) ad ya yi pr H a hw0 h0 htO) (P := PY cy ad (QR mi ma (if 0 ≤ a ∧ a < 1000 then 0 else 1) (fun z => z = ma 1 a.toNat))) (by
      rintro z H1 ⟨rfl, hz⟩
      exact ⟨ad, _, rfl, yE_60, hw0, PY_q (if_pos h0) hR (fun z2 h => by rw [h, hz, hR.2.2.1 a.toNat (by omega)]) rfl⟩)
    refine zcalliX hY (vx_runSX (As := [.ref (ad 0), .int (iI a), .ref (ad 60)]) (rest := []) ⟨hx, hb, hml, hown, hts⟩ hV (vx_cwSW 3 hts gL_law_L_temperature rfl rfl rfl (by decide +kernel) ⟨(Nat.le_of_ble_eq_true rfl), (Nat.le_of_ble_eq_true rfl)⟩) (zPSn hY hE hS) rfl rfl hsz rfl (lv_room (Nat.le_of_ble_eq_true rfl)) hdg ⟨Nat.le_trans (Nat.add_le_add_left (by decide) _) hc, Nat.le_trans (Nat.add_le_add_left (by decide) _) hs⟩) hS (fun k H1 locs1 hk hq hz1 hk1 hS1 => ?_)
    obtain ⟨rfl, z, ad2, e2, fo2, hz, hP, hf2, h60, hn60, hw2⟩ := hq
    exact W.widen (k := cells + 3) (n := slots + 21) (by omega) (by omega) (kk _ H1 locs1 hk (GO_ok hP hf2 h60 hw2) hz1 hk1 hS1)
  · have hV := w_L_temperature_1 l D cy AY ad H a hw he (c_x_X1_temperature l hlf D cy (fun q => AY q ∧ q ≠ ad 60) ad ya yi pr H a hw0 za h0)
    refine zcalliX hY (vx_runSX (As := [.ref (ad 0), .int (iI a), .ref (ad 60)]) (rest := []) ⟨hx, hb, hml, hown, hts⟩ hV (vx_cwSW 3 hts gL_law_L_temperature rfl rfl rfl (by decide +kernel) ⟨(Nat.le_of_ble_eq_true rfl), (Nat.le_of_ble_eq_true rfl)⟩) (zPSn hY hE hS) rfl rfl hsz rfl (lv_room (Nat.le_of_ble_eq_true rfl)) hdg ⟨Nat.le_trans (Nat.add_le_add_left (by decide) _) hc, Nat.le_trans (Nat.add_le_add_left (by decide) _) hs⟩) hS (fun k H1 locs1 hk hq hz1 hk1 hS1 => ?_)
    obtain ⟨rfl, hw2⟩ := hq
    exact W.widen (k := cells + 3) (n := slots + 21) (by omega) (by omega) (kk _ H1 locs1 hk (GO_x (by decide) hR hw2 (QR_x (if_neg h0))) hz1 hk1 hS1)

set_option maxHeartbeats 4000000 in
set_option maxRecDepth 100000 in
theorem s_maturity {p : Program} {l : Launch} {e : Env} {s : State} {m : MethodId} {below : List Frame} {meth : Method} {c : Code} {b0 : Nat} {D : va_G} {cy : Nat → ClassId} {A0 AY : Nat → Prop} (hC : LC p l s m c b0 D cy A0 AY) {H : Heap} {locs : List Loc} {cells slots : Nat} {Q : State → Prop} {ls : Array Slot} {pc : Nat} (hS : va_S A0 s.heap H locs) (hsz : ls.size = 7) (hc : cells + 3 ≤ room_1.cells) (hs : slots + 21 ≤ room_1.slots) {ad : Nat → Nat} {mi : Nat → Int} {ma ya : Nat → Nat → Int} {yi : Nat → Int} {pr : Nat → Option PS} {fo : Nat → Int64} (hw : zW D AY ad (yO60 cy ad ya yi pr fo) H) (hR : RR mi ma ya yi pr) (hAf : ∀ q, H.size ≤ q → AY q) (a b : Int) (za : zr a) (zb : zr b) (hdg : decode cL_law pc = .ok (.invokestatic 98, 3))
    (kk : ∀ (k : Int) (H1 : Heap) (locs1 : List Loc), zr k → GO D cy AY (ad 0) (ad 60) (QR mi ma (if (0 ≤ a ∧ a < 1000) ∧ (0 ≤ b ∧ b < 1000) then 0 else 1) (fun z => z = mat (ma 1) a b)) k H1 → H.size ≤ H1.size → (∀ q : Nat, q < H.size → ¬ AY q → H1[q]? = H[q]?) → va_S A0 s.heap H1 locs1 → W p l e room_1 s m #[Value.ref b0] below meth c H1 locs1 (cells + 3) (slots + 21) Q (F0 m (pc + 3) ls [.int (iI k)])) :
    W p l e room_1 s m #[Value.ref b0] below meth c H locs cells slots Q (F0 m pc ls [.ref (ad 60), .int (iI b), .int (iI a), .ref (ad 0)]) := by
  obtain ⟨⟨hx, hb, hml, hown, hts⟩, hlf, hE, hY⟩ := hC
  have he : yE cy ad ya yi pr 0 = some (.inr (1, yO ad yi)) := yE_0
  have hw0 := hw.part yE_60
  have hyB := hR.yBd
  have htO := hR.tOKd
  have hgn := hR.2.2.2.1
  by_cases h0 : (0 ≤ a ∧ a < 1000) ∧ (0 ≤ b ∧ b < 1000)
  · have hV := w_L_maturity l D cy AY ad H a b hw he (c_X1_maturity_ok l D cy (fun q => AY q ∧ q ≠ ad 60) ad ya yi pr H (ya 0) a b hw0 h0.1 h0.2 hgn htO) (P := PY cy ad (QR mi ma (if (0 ≤ a ∧ a < 1000) ∧ (0 ≤ b ∧ b < 1000) then 0 else 1) (fun z => z = mat (ma 1) a b))) (by
      rintro z H1 ⟨rfl, hz⟩
      exact ⟨ad, _, rfl, yE_60, hw0, PY_q (if_pos h0) hR (fun z2 h => by rw [h, hz, mat_c hR.2.2.1]) rfl⟩)
    refine zcalliX hY (vx_runSX (As := [.ref (ad 0), .int (iI a), .int (iI b), .ref (ad 60)]) (rest := []) ⟨hx, hb, hml, hown, hts⟩ hV (vx_cwSW 4 hts gL_law_L_maturity rfl rfl rfl (by decide +kernel) ⟨(Nat.le_of_ble_eq_true rfl), (Nat.le_of_ble_eq_true rfl)⟩) (zPSn hY hE hS) rfl rfl hsz rfl (lv_room (Nat.le_of_ble_eq_true rfl)) hdg ⟨Nat.le_trans (Nat.add_le_add_left (by decide) _) hc, Nat.le_trans (Nat.add_le_add_left (by decide) _) hs⟩) hS (fun k H1 locs1 hk hq hz1 hk1 hS1 => ?_)
    obtain ⟨rfl, z, ad2, e2, fo2, hz, hP, hf2, h60, hn60, hw2⟩ := hq
    exact W.widen (k := cells + 3) (n := slots + 21) (by omega) (by omega) (kk _ H1 locs1 hk (GO_ok hP hf2 h60 hw2) hz1 hk1 hS1)
  · have hV := w_L_maturity_1 l D cy AY ad H a b hw he (c_x_X1_maturity l hlf D cy (fun q => AY q ∧ q ≠ ad 60) ad ya yi pr H a b hw0 za zb (by omega))
    refine zcalliX hY (vx_runSX (As := [.ref (ad 0), .int (iI a), .int (iI b), .ref (ad 60)]) (rest := []) ⟨hx, hb, hml, hown, hts⟩ hV (vx_cwSW 4 hts gL_law_L_maturity rfl rfl rfl (by decide +kernel) ⟨(Nat.le_of_ble_eq_true rfl), (Nat.le_of_ble_eq_true rfl)⟩) (zPSn hY hE hS) rfl rfl hsz rfl (lv_room (Nat.le_of_ble_eq_true rfl)) hdg ⟨Nat.le_trans (Nat.add_le_add_left (by decide) _) hc, Nat.le_trans (Nat.add_le_add_left (by decide) _) hs⟩) hS (fun k H1 locs1 hk hq hz1 hk1 hS1 => ?_)
    obtain ⟨rfl, hw2⟩ := hq
    exact W.widen (k := cells + 3) (n := slots + 21) (by omega) (by omega) (kk _ H1 locs1 hk (GO_x (by decide) hR hw2 (QR_x (if_neg h0))) hz1 hk1 hS1)

set_option maxHeartbeats 4000000 in
set_option maxRecDepth 100000 in
theorem s_strength {p : Program} {l : Launch} {e : Env} {s : State} {m : MethodId} {below : List Frame} {meth : Method} {c : Code} {b0 : Nat} {D : va_G} {cy : Nat → ClassId} {A0 AY : Nat → Prop} (hC : LC p l s m c b0 D cy A0 AY) {H : Heap} {locs : List Loc} {cells slots : Nat} {Q : State → Prop} {ls : Array Slot} {pc : Nat} (hS : va_S A0 s.heap H locs) (hsz : ls.size = 7) (hc : cells + 3 ≤ room_1.cells) (hs : slots + 21 ≤ room_1.slots) {ad : Nat → Nat} {mi : Nat → Int} {ma ya : Nat → Nat → Int} {yi : Nat → Int} {pr : Nat → Option PS} {fo : Nat → Int64} (hw : zW D AY ad (yO60 cy ad ya yi pr fo) H) (hR : RR mi ma ya yi pr) (hAf : ∀ q, H.size ≤ q → AY q) (a : Int) (za : zr a) (hdg : decode cL_law pc = .ok (.invokestatic 102, 3))
    (kk : ∀ (k : Int) (H1 : Heap) (locs1 : List Loc), zr k → GO D cy AY (ad 0) (ad 60) (QR mi ma (if 0 ≤ a ∧ a ≤ 1000000 then 0 else 1) (fun z => z = strg a)) k H1 → H.size ≤ H1.size → (∀ q : Nat, q < H.size → ¬ AY q → H1[q]? = H[q]?) → va_S A0 s.heap H1 locs1 → W p l e room_1 s m #[Value.ref b0] below meth c H1 locs1 (cells + 3) (slots + 21) Q (F0 m (pc + 3) ls [.int (iI k)])) :
    W p l e room_1 s m #[Value.ref b0] below meth c H locs cells slots Q (F0 m pc ls [.ref (ad 60), .int (iI a), .ref (ad 0)]) := by
  obtain ⟨⟨hx, hb, hml, hown, hts⟩, hlf, hE, hY⟩ := hC
  have he : yE cy ad ya yi pr 0 = some (.inr (1, yO ad yi)) := yE_0
  have hw0 := hw.part yE_60
  have hyB := hR.yBd
  have htO := hR.tOKd
  have hgn := hR.2.2.2.1
  by_cases h0 : 0 ≤ a ∧ a ≤ 1000000
  · have hV := w_L_strength l D cy AY ad H a hw he (c_X1_strength_ok l D cy (fun q => AY q ∧ q ≠ ad 60) ad ya yi pr H a hw0 h0) (P := PY cy ad (QR mi ma (if 0 ≤ a ∧ a ≤ 1000000 then 0 else 1) (fun z => z = strg a))) (by
      rintro z H1 ⟨rfl, hz⟩
      exact ⟨ad, _, rfl, yE_60, hw0, PY_q (if_pos h0) hR (fun z2 h => by rw [h, hz]) rfl⟩)
    refine zcalliX hY (vx_runSX (As := [.ref (ad 0), .int (iI a), .ref (ad 60)]) (rest := []) ⟨hx, hb, hml, hown, hts⟩ hV (vx_cwSW 3 hts gL_law_L_strength rfl rfl rfl (by decide +kernel) ⟨(Nat.le_of_ble_eq_true rfl), (Nat.le_of_ble_eq_true rfl)⟩) (zPSn hY hE hS) rfl rfl hsz rfl (lv_room (Nat.le_of_ble_eq_true rfl)) hdg ⟨Nat.le_trans (Nat.add_le_add_left (by decide) _) hc, Nat.le_trans (Nat.add_le_add_left (by decide) _) hs⟩) hS (fun k H1 locs1 hk hq hz1 hk1 hS1 => ?_)
    obtain ⟨rfl, z, ad2, e2, fo2, hz, hP, hf2, h60, hn60, hw2⟩ := hq
    exact W.widen (k := cells + 3) (n := slots + 21) (by omega) (by omega) (kk _ H1 locs1 hk (GO_ok hP hf2 h60 hw2) hz1 hk1 hS1)
  · have hV := w_L_strength_1 l D cy AY ad H a hw he (c_x_X1_strength l hlf D cy (fun q => AY q ∧ q ≠ ad 60) ad ya yi pr H a hw0 za h0)
    refine zcalliX hY (vx_runSX (As := [.ref (ad 0), .int (iI a), .ref (ad 60)]) (rest := []) ⟨hx, hb, hml, hown, hts⟩ hV (vx_cwSW 3 hts gL_law_L_strength rfl rfl rfl (by decide +kernel) ⟨(Nat.le_of_ble_eq_true rfl), (Nat.le_of_ble_eq_true rfl)⟩) (zPSn hY hE hS) rfl rfl hsz rfl (lv_room (Nat.le_of_ble_eq_true rfl)) hdg ⟨Nat.le_trans (Nat.add_le_add_left (by decide) _) hc, Nat.le_trans (Nat.add_le_add_left (by decide) _) hs⟩) hS (fun k H1 locs1 hk hq hz1 hk1 hS1 => ?_)
    obtain ⟨rfl, hw2⟩ := hq
    exact W.widen (k := cells + 3) (n := slots + 21) (by omega) (by omega) (kk _ H1 locs1 hk (GO_x (by decide) hR hw2 (QR_x (if_neg h0))) hz1 hk1 hS1)

set_option maxHeartbeats 4000000 in
set_option maxRecDepth 100000 in
theorem s_need {p : Program} {l : Launch} {e : Env} {s : State} {m : MethodId} {below : List Frame} {meth : Method} {c : Code} {b0 : Nat} {D : va_G} {cy : Nat → ClassId} {A0 AY : Nat → Prop} (hC : LC p l s m c b0 D cy A0 AY) {H : Heap} {locs : List Loc} {cells slots : Nat} {Q : State → Prop} {ls : Array Slot} {pc : Nat} (hS : va_S A0 s.heap H locs) (hsz : ls.size = 7) (hc : cells + 3 ≤ room_1.cells) (hs : slots + 21 ≤ room_1.slots) {ad : Nat → Nat} {mi : Nat → Int} {ma ya : Nat → Nat → Int} {yi : Nat → Int} {pr : Nat → Option PS} {fo : Nat → Int64} (hw : zW D AY ad (yO60 cy ad ya yi pr fo) H) (hR : RR mi ma ya yi pr) (hAf : ∀ q, H.size ≤ q → AY q) (a : Int) (za : zr a) (hdg : decode cL_law pc = .ok (.invokestatic 145, 3))
    (kk : ∀ (k : Int) (H1 : Heap) (locs1 : List Loc), zr k → GO D cy AY (ad 0) (ad 60) (QR mi ma (if 0 ≤ a ∧ a < 1000 then 0 else 1) (fun z => z = nS mi ma a 10)) k H1 → H.size ≤ H1.size → (∀ q : Nat, q < H.size → ¬ AY q → H1[q]? = H[q]?) → va_S A0 s.heap H1 locs1 → W p l e room_1 s m #[Value.ref b0] below meth c H1 locs1 (cells + 3) (slots + 21) Q (F0 m (pc + 3) ls [.int (iI k)])) :
    W p l e room_1 s m #[Value.ref b0] below meth c H locs cells slots Q (F0 m pc ls [.ref (ad 60), .int (iI a), .ref (ad 0)]) := by
  obtain ⟨⟨hx, hb, hml, hown, hts⟩, hlf, hE, hY⟩ := hC
  have he : yE cy ad ya yi pr 0 = some (.inr (1, yO ad yi)) := yE_0
  have hw0 := hw.part yE_60
  have hyB := hR.yBd
  have htO := hR.tOKd
  have hgn := hR.2.2.2.1
  by_cases h0 : 0 ≤ a ∧ a < 1000
  · have hV := w_L_need l D cy AY ad H a hw he (c_X1_need_ok l D cy (fun q => AY q ∧ q ≠ ad 60) ad ya yi pr H a hw0 h0 hR.pAd) (P := PY cy ad (QR mi ma (if 0 ≤ a ∧ a < 1000 then 0 else 1) (fun z => z = nS mi ma a 10))) (by
      rintro z H1 ⟨rfl, hz⟩
      exact ⟨ad, _, rfl, yE_60, hw0, PY_q (if_pos h0) hR (fun z2 h => by rw [h, hz, hR.need h0.2 10 (Nat.le_refl _)]) rfl⟩)
    refine zcalliX hY (vx_runSX (As := [.ref (ad 0), .int (iI a), .ref (ad 60)]) (rest := []) ⟨hx, hb, hml, hown, hts⟩ hV (vx_cwSW 3 hts gL_law_L_need rfl rfl rfl (by decide +kernel) ⟨(Nat.le_of_ble_eq_true rfl), (Nat.le_of_ble_eq_true rfl)⟩) (zPSn hY hE hS) rfl rfl hsz rfl (lv_room (Nat.le_of_ble_eq_true rfl)) hdg ⟨Nat.le_trans (Nat.add_le_add_left (by decide) _) hc, Nat.le_trans (Nat.add_le_add_left (by decide) _) hs⟩) hS (fun k H1 locs1 hk hq hz1 hk1 hS1 => ?_)
    obtain ⟨rfl, z, ad2, e2, fo2, hz, hP, hf2, h60, hn60, hw2⟩ := hq
    exact W.widen (k := cells + 3) (n := slots + 21) (by omega) (by omega) (kk _ H1 locs1 hk (GO_ok hP hf2 h60 hw2) hz1 hk1 hS1)
  · have hV := w_L_need_1 l D cy AY ad H a hw he (c_x_X1_need l hlf D cy (fun q => AY q ∧ q ≠ ad 60) ad ya yi pr H a hw0 za h0)
    refine zcalliX hY (vx_runSX (As := [.ref (ad 0), .int (iI a), .ref (ad 60)]) (rest := []) ⟨hx, hb, hml, hown, hts⟩ hV (vx_cwSW 3 hts gL_law_L_need rfl rfl rfl (by decide +kernel) ⟨(Nat.le_of_ble_eq_true rfl), (Nat.le_of_ble_eq_true rfl)⟩) (zPSn hY hE hS) rfl rfl hsz rfl (lv_room (Nat.le_of_ble_eq_true rfl)) hdg ⟨Nat.le_trans (Nat.add_le_add_left (by decide) _) hc, Nat.le_trans (Nat.add_le_add_left (by decide) _) hs⟩) hS (fun k H1 locs1 hk hq hz1 hk1 hS1 => ?_)
    obtain ⟨rfl, hw2⟩ := hq
    exact W.widen (k := cells + 3) (n := slots + 21) (by omega) (by omega) (kk _ H1 locs1 hk (GO_x (by decide) hR hw2 (QR_x (if_neg h0))) hz1 hk1 hS1)

set_option maxHeartbeats 4000000 in
set_option maxRecDepth 100000 in
theorem s_earliest {p : Program} {l : Launch} {e : Env} {s : State} {m : MethodId} {below : List Frame} {meth : Method} {c : Code} {b0 : Nat} {D : va_G} {cy : Nat → ClassId} {A0 AY : Nat → Prop} (hC : LC p l s m c b0 D cy A0 AY) {H : Heap} {locs : List Loc} {cells slots : Nat} {Q : State → Prop} {ls : Array Slot} {pc : Nat} (hS : va_S A0 s.heap H locs) (hsz : ls.size = 7) (hc : cells + 3 ≤ room_1.cells) (hs : slots + 21 ≤ room_1.slots) {ad : Nat → Nat} {mi : Nat → Int} {ma ya : Nat → Nat → Int} {yi : Nat → Int} {pr : Nat → Option PS} {fo : Nat → Int64} (hw : zW D AY ad (yO60 cy ad ya yi pr fo) H) (hR : RR mi ma ya yi pr) (hAf : ∀ q, H.size ≤ q → AY q) (a b d f : Int) (za : zr a) (zb : zr b) (zd : zr d) (zf : zr f) (hdg : decode cL_law pc = .ok (.invokestatic 160, 3))
    (kk : ∀ (k : Int) (H1 : Heap) (locs1 : List Loc), zr k → GO D cy AY (ad 0) (ad 60) (QR mi ma (if plOK a b d f then 0 else 1) (fun z => earS mi ma a b d f z)) k H1 → H.size ≤ H1.size → (∀ q : Nat, q < H.size → ¬ AY q → H1[q]? = H[q]?) → va_S A0 s.heap H1 locs1 → W p l e room_1 s m #[Value.ref b0] below meth c H1 locs1 (cells + 3) (slots + 21) Q (F0 m (pc + 3) ls [.int (iI k)])) :
    W p l e room_1 s m #[Value.ref b0] below meth c H locs cells slots Q (F0 m pc ls [.ref (ad 60), .int (iI f), .int (iI d), .int (iI b), .int (iI a), .ref (ad 0)]) := by
  obtain ⟨⟨hx, hb, hml, hown, hts⟩, hlf, hE, hY⟩ := hC
  have he : yE cy ad ya yi pr 0 = some (.inr (1, yO ad yi)) := yE_0
  have hw0 := hw.part yE_60
  have hyB := hR.yBd
  have htO := hR.tOKd
  have hgn := hR.2.2.2.1
  by_cases h0 : plOK a b d f
  · have hV := w_L_earliest l D cy AY ad H a b d f hw he (c_X1_earliest_ok l D cy (fun q => AY q ∧ q ≠ ad 60) ad ya yi pr H (ya 0) a b d f hw0 h0 hR.pAd hyB hgn htO) (P := PY cy ad (QR mi ma (if plOK a b d f then 0 else 1) (fun z => earS mi ma a b d f z))) (by
      rintro z H1 ⟨yb, hw1, hyb, hear⟩
      exact ⟨ad, _, rfl, yE_60, hw1, PY_q (if_pos h0) (hR.yas (hyb 0 (by decide) (by decide)) (hyb 1 (by decide) (by decide))) (fun z2 h => (hR.ear hear h).symm) rfl⟩)
    refine zcalliX hY (vx_runSX (As := [.ref (ad 0), .int (iI a), .int (iI b), .int (iI d), .int (iI f), .ref (ad 60)]) (rest := []) ⟨hx, hb, hml, hown, hts⟩ hV (vx_cwSW 6 hts gL_law_L_earliest rfl rfl rfl (by decide +kernel) ⟨(Nat.le_of_ble_eq_true rfl), (Nat.le_of_ble_eq_true rfl)⟩) (zPSn hY hE hS) rfl rfl hsz rfl (lv_room (Nat.le_of_ble_eq_true rfl)) hdg ⟨Nat.le_trans (Nat.add_le_add_left (by decide) _) hc, Nat.le_trans (Nat.add_le_add_left (by decide) _) hs⟩) hS (fun k H1 locs1 hk hq hz1 hk1 hS1 => ?_)
    obtain ⟨rfl, z, ad2, e2, fo2, hz, hP, hf2, h60, hn60, hw2⟩ := hq
    exact W.widen (k := cells + 3) (n := slots + 21) (by omega) (by omega) (kk _ H1 locs1 hk (GO_ok hP hf2 h60 hw2) hz1 hk1 hS1)
  · have hV := w_L_earliest_1 l D cy AY ad H a b d f hw he (c_x_X1_earliest l hlf D cy (fun q => AY q ∧ q ≠ ad 60) ad ya yi pr H a b d f hw0 za zb zd zf h0)
    refine zcalliX hY (vx_runSX (As := [.ref (ad 0), .int (iI a), .int (iI b), .int (iI d), .int (iI f), .ref (ad 60)]) (rest := []) ⟨hx, hb, hml, hown, hts⟩ hV (vx_cwSW 6 hts gL_law_L_earliest rfl rfl rfl (by decide +kernel) ⟨(Nat.le_of_ble_eq_true rfl), (Nat.le_of_ble_eq_true rfl)⟩) (zPSn hY hE hS) rfl rfl hsz rfl (lv_room (Nat.le_of_ble_eq_true rfl)) hdg ⟨Nat.le_trans (Nat.add_le_add_left (by decide) _) hc, Nat.le_trans (Nat.add_le_add_left (by decide) _) hs⟩) hS (fun k H1 locs1 hk hq hz1 hk1 hS1 => ?_)
    obtain ⟨rfl, hw2⟩ := hq
    exact W.widen (k := cells + 3) (n := slots + 21) (by omega) (by omega) (kk _ H1 locs1 hk (GO_x (by decide) hR hw2 (QR_x (if_neg h0))) hz1 hk1 hS1)

set_option maxHeartbeats 4000000 in
set_option maxRecDepth 100000 in
theorem s_endOf {p : Program} {l : Launch} {e : Env} {s : State} {m : MethodId} {below : List Frame} {meth : Method} {c : Code} {b0 : Nat} {D : va_G} {cy : Nat → ClassId} {A0 AY : Nat → Prop} (hC : LC p l s m c b0 D cy A0 AY) {H : Heap} {locs : List Loc} {cells slots : Nat} {Q : State → Prop} {ls : Array Slot} {pc : Nat} (hS : va_S A0 s.heap H locs) (hsz : ls.size = 7) (hc : cells + 3 ≤ room_1.cells) (hs : slots + 21 ≤ room_1.slots) {ad : Nat → Nat} {mi : Nat → Int} {ma ya : Nat → Nat → Int} {yi : Nat → Int} {pr : Nat → Option PS} {fo : Nat → Int64} (hw : zW D AY ad (yO60 cy ad ya yi pr fo) H) (hR : RR mi ma ya yi pr) (hAf : ∀ q, H.size ≤ q → AY q) (a : Int) (za : zr a) (hdg : decode cL_law pc = .ok (.invokestatic 133, 3))
    (kk : ∀ (k : Int) (H1 : Heap) (locs1 : List Loc), zr k → GO D cy AY (ad 0) (ad 60) (QR mi ma (if isP ma a then 0 else 1) (fun z => z = endM mi ma a.toNat)) k H1 → H.size ≤ H1.size → (∀ q : Nat, q < H.size → ¬ AY q → H1[q]? = H[q]?) → va_S A0 s.heap H1 locs1 → W p l e room_1 s m #[Value.ref b0] below meth c H1 locs1 (cells + 3) (slots + 21) Q (F0 m (pc + 3) ls [.int (iI k)])) :
    W p l e room_1 s m #[Value.ref b0] below meth c H locs cells slots Q (F0 m pc ls [.ref (ad 60), .int (iI a), .ref (ad 0)]) := by
  obtain ⟨⟨hx, hb, hml, hown, hts⟩, hlf, hE, hY⟩ := hC
  have he : yE cy ad ya yi pr 0 = some (.inr (1, yO ad yi)) := yE_0
  have hw0 := hw.part yE_60
  have hyB := hR.yBd
  have htO := hR.tOKd
  have hgn := hR.2.2.2.1
  by_cases hq0 : isP ma a
  · have hk0 : (if isP ma a then (0 : Int) else 1) = 0 := if_pos hq0
    obtain ⟨i, p0, rfl, hi, h7, hp0, ht, hsc, hpb, e7, e8, e9, e10⟩ := hR.good hq0
    have hz7 : zr (p0.1 7) := by
      have := endM_b hR.1.2.1 (hR.1.2.2.2 i hi h7)
      rw [e7]
      exact ⟨by omega, by omega⟩
    have hV := w_L_endOf l D cy AY ad H (i : Int) hw he (c_X1_endOf_ok l D cy (fun q => AY q ∧ q ≠ ad 60) ad ya yi pr H i p0 hw0 hi hp0 hz7) (P := PY cy ad (QR mi ma (if isP ma (i : Int) then 0 else 1) (fun z => z = endM mi ma (i : Int).toNat))) (by
        rintro z H1 ⟨rfl, hz⟩
        exact ⟨ad, _, rfl, yE_60, hw0, PY_q hk0 hR (fun z2 h => by rw [h, hz, e7, Int.toNat_natCast]) rfl⟩)
    refine zcalliX hY (vx_runSX (As := [.ref (ad 0), .int (iI (i : Int)), .ref (ad 60)]) (rest := []) ⟨hx, hb, hml, hown, hts⟩ hV (vx_cwSW 3 hts gL_law_L_endOf rfl rfl rfl (by decide +kernel) ⟨(Nat.le_of_ble_eq_true rfl), (Nat.le_of_ble_eq_true rfl)⟩) (zPSn hY hE hS) rfl rfl hsz rfl (lv_room (Nat.le_of_ble_eq_true rfl)) hdg ⟨Nat.le_trans (Nat.add_le_add_left (by decide) _) hc, Nat.le_trans (Nat.add_le_add_left (by decide) _) hs⟩) hS (fun k H1 locs1 hk hq hz1 hk1 hS1 => ?_)
    obtain ⟨rfl, z, ad2, e2, fo2, hz, hP, hf2, h60, hn60, hw2⟩ := hq
    exact W.widen (k := cells + 3) (n := slots + 21) (by omega) (by omega) (kk _ H1 locs1 hk (GO_ok hP hf2 h60 hw2) hz1 hk1 hS1)
  · have hV := w_L_endOf_1 l D cy AY ad H a hw he (c_x_X1_endOf l hlf D cy (fun q => AY q ∧ q ≠ ad 60) ad ya yi pr H a hw0 za (hR.bad hq0))
    refine zcalliX hY (vx_runSX (As := [.ref (ad 0), .int (iI a), .ref (ad 60)]) (rest := []) ⟨hx, hb, hml, hown, hts⟩ hV (vx_cwSW 3 hts gL_law_L_endOf rfl rfl rfl (by decide +kernel) ⟨(Nat.le_of_ble_eq_true rfl), (Nat.le_of_ble_eq_true rfl)⟩) (zPSn hY hE hS) rfl rfl hsz rfl (lv_room (Nat.le_of_ble_eq_true rfl)) hdg ⟨Nat.le_trans (Nat.add_le_add_left (by decide) _) hc, Nat.le_trans (Nat.add_le_add_left (by decide) _) hs⟩) hS (fun k H1 locs1 hk hq hz1 hk1 hS1 => ?_)
    obtain ⟨rfl, hw2⟩ := hq
    exact W.widen (k := cells + 3) (n := slots + 21) (by omega) (by omega) (kk _ H1 locs1 hk (GO_x (by decide) hR hw2 (QR_x (if_neg hq0))) hz1 hk1 hS1)

set_option maxHeartbeats 4000000 in
set_option maxRecDepth 100000 in
theorem s_struck {p : Program} {l : Launch} {e : Env} {s : State} {m : MethodId} {below : List Frame} {meth : Method} {c : Code} {b0 : Nat} {D : va_G} {cy : Nat → ClassId} {A0 AY : Nat → Prop} (hC : LC p l s m c b0 D cy A0 AY) {H : Heap} {locs : List Loc} {cells slots : Nat} {Q : State → Prop} {ls : Array Slot} {pc : Nat} (hS : va_S A0 s.heap H locs) (hsz : ls.size = 7) (hc : cells + 3 ≤ room_1.cells) (hs : slots + 21 ≤ room_1.slots) {ad : Nat → Nat} {mi : Nat → Int} {ma ya : Nat → Nat → Int} {yi : Nat → Int} {pr : Nat → Option PS} {fo : Nat → Int64} (hw : zW D AY ad (yO60 cy ad ya yi pr fo) H) (hR : RR mi ma ya yi pr) (hAf : ∀ q, H.size ≤ q → AY q) (a : Int) (za : zr a) (hdg : decode cL_law pc = .ok (.invokestatic 139, 3))
    (kk : ∀ (k : Int) (H1 : Heap) (locs1 : List Loc), zr k → GO D cy AY (ad 0) (ad 60) (QR mi ma (if isP ma a then 0 else 1) (fun z => z = (if kS mi ma a.toNat < 1000 then kS mi ma a.toNat else -1))) k H1 → H.size ≤ H1.size → (∀ q : Nat, q < H.size → ¬ AY q → H1[q]? = H[q]?) → va_S A0 s.heap H1 locs1 → W p l e room_1 s m #[Value.ref b0] below meth c H1 locs1 (cells + 3) (slots + 21) Q (F0 m (pc + 3) ls [.int (iI k)])) :
    W p l e room_1 s m #[Value.ref b0] below meth c H locs cells slots Q (F0 m pc ls [.ref (ad 60), .int (iI a), .ref (ad 0)]) := by
  obtain ⟨⟨hx, hb, hml, hown, hts⟩, hlf, hE, hY⟩ := hC
  have he : yE cy ad ya yi pr 0 = some (.inr (1, yO ad yi)) := yE_0
  have hw0 := hw.part yE_60
  have hyB := hR.yBd
  have htO := hR.tOKd
  have hgn := hR.2.2.2.1
  by_cases hq0 : isP ma a
  · have hk0 : (if isP ma a then (0 : Int) else 1) = 0 := if_pos hq0
    obtain ⟨i, p0, rfl, hi, h7, hp0, ht, hsc, hpb, e7, e8, e9, e10⟩ := hR.good hq0
    have hz8 : zr (p0.1 8) := by
      have := kS_b hR.1.2.1 (hR.1.2.2.2 i hi h7)
      rw [e8]
      split <;> exact ⟨by omega, by omega⟩
    have hV := w_L_struck l D cy AY ad H (i : Int) hw he (c_X1_struck_ok l D cy (fun q => AY q ∧ q ≠ ad 60) ad ya yi pr H i p0 hw0 hi hp0 hz8) (P := PY cy ad (QR mi ma (if isP ma (i : Int) then 0 else 1) (fun z => z = (if kS mi ma (i : Int).toNat < 1000 then kS mi ma (i : Int).toNat else -1)))) (by
        rintro z H1 ⟨rfl, hz⟩
        exact ⟨ad, _, rfl, yE_60, hw0, PY_q hk0 hR (fun z2 h => by rw [h, hz, e8, Int.toNat_natCast]) rfl⟩)
    refine zcalliX hY (vx_runSX (As := [.ref (ad 0), .int (iI (i : Int)), .ref (ad 60)]) (rest := []) ⟨hx, hb, hml, hown, hts⟩ hV (vx_cwSW 3 hts gL_law_L_struck rfl rfl rfl (by decide +kernel) ⟨(Nat.le_of_ble_eq_true rfl), (Nat.le_of_ble_eq_true rfl)⟩) (zPSn hY hE hS) rfl rfl hsz rfl (lv_room (Nat.le_of_ble_eq_true rfl)) hdg ⟨Nat.le_trans (Nat.add_le_add_left (by decide) _) hc, Nat.le_trans (Nat.add_le_add_left (by decide) _) hs⟩) hS (fun k H1 locs1 hk hq hz1 hk1 hS1 => ?_)
    obtain ⟨rfl, z, ad2, e2, fo2, hz, hP, hf2, h60, hn60, hw2⟩ := hq
    exact W.widen (k := cells + 3) (n := slots + 21) (by omega) (by omega) (kk _ H1 locs1 hk (GO_ok hP hf2 h60 hw2) hz1 hk1 hS1)
  · have hV := w_L_struck_1 l D cy AY ad H a hw he (c_x_X1_struck l hlf D cy (fun q => AY q ∧ q ≠ ad 60) ad ya yi pr H a hw0 za (hR.bad hq0))
    refine zcalliX hY (vx_runSX (As := [.ref (ad 0), .int (iI a), .ref (ad 60)]) (rest := []) ⟨hx, hb, hml, hown, hts⟩ hV (vx_cwSW 3 hts gL_law_L_struck rfl rfl rfl (by decide +kernel) ⟨(Nat.le_of_ble_eq_true rfl), (Nat.le_of_ble_eq_true rfl)⟩) (zPSn hY hE hS) rfl rfl hsz rfl (lv_room (Nat.le_of_ble_eq_true rfl)) hdg ⟨Nat.le_trans (Nat.add_le_add_left (by decide) _) hc, Nat.le_trans (Nat.add_le_add_left (by decide) _) hs⟩) hS (fun k H1 locs1 hk hq hz1 hk1 hS1 => ?_)
    obtain ⟨rfl, hw2⟩ := hq
    exact W.widen (k := cells + 3) (n := slots + 21) (by omega) (by omega) (kk _ H1 locs1 hk (GO_x (by decide) hR hw2 (QR_x (if_neg hq0))) hz1 hk1 hS1)

set_option maxHeartbeats 4000000 in
set_option maxRecDepth 100000 in
theorem s_freeFrom {p : Program} {l : Launch} {e : Env} {s : State} {m : MethodId} {below : List Frame} {meth : Method} {c : Code} {b0 : Nat} {D : va_G} {cy : Nat → ClassId} {A0 AY : Nat → Prop} (hC : LC p l s m c b0 D cy A0 AY) {H : Heap} {locs : List Loc} {cells slots : Nat} {Q : State → Prop} {ls : Array Slot} {pc : Nat} (hS : va_S A0 s.heap H locs) (hsz : ls.size = 7) (hc : cells + 3 ≤ room_1.cells) (hs : slots + 21 ≤ room_1.slots) {ad : Nat → Nat} {mi : Nat → Int} {ma ya : Nat → Nat → Int} {yi : Nat → Int} {pr : Nat → Option PS} {fo : Nat → Int64} (hw : zW D AY ad (yO60 cy ad ya yi pr fo) H) (hR : RR mi ma ya yi pr) (hAf : ∀ q, H.size ≤ q → AY q) (a : Int) (za : zr a) (hdg : decode cL_law pc = .ok (.invokestatic 142, 3))
    (kk : ∀ (k : Int) (H1 : Heap) (locs1 : List Loc), zr k → GO D cy AY (ad 0) (ad 60) (QR mi ma (if isP ma a then 0 else 1) (fun z => z = (if frS mi ma a.toNat < 1000 then frS mi ma a.toNat else -1))) k H1 → H.size ≤ H1.size → (∀ q : Nat, q < H.size → ¬ AY q → H1[q]? = H[q]?) → va_S A0 s.heap H1 locs1 → W p l e room_1 s m #[Value.ref b0] below meth c H1 locs1 (cells + 3) (slots + 21) Q (F0 m (pc + 3) ls [.int (iI k)])) :
    W p l e room_1 s m #[Value.ref b0] below meth c H locs cells slots Q (F0 m pc ls [.ref (ad 60), .int (iI a), .ref (ad 0)]) := by
  obtain ⟨⟨hx, hb, hml, hown, hts⟩, hlf, hE, hY⟩ := hC
  have he : yE cy ad ya yi pr 0 = some (.inr (1, yO ad yi)) := yE_0
  have hw0 := hw.part yE_60
  have hyB := hR.yBd
  have htO := hR.tOKd
  have hgn := hR.2.2.2.1
  by_cases hq0 : isP ma a
  · have hk0 : (if isP ma a then (0 : Int) else 1) = 0 := if_pos hq0
    obtain ⟨i, p0, rfl, hi, h7, hp0, ht, hsc, hpb, e7, e8, e9, e10⟩ := hR.good hq0
    have hz10 := (hR.b9 i p0 hi hp0).2.1
    have hV := w_L_freeFrom l D cy AY ad H (i : Int) hw he (c_X1_freeFrom_ok l D cy (fun q => AY q ∧ q ≠ ad 60) ad ya yi pr H i p0 hw0 hi hp0 hz10) (P := PY cy ad (QR mi ma (if isP ma (i : Int) then 0 else 1) (fun z => z = (if frS mi ma (i : Int).toNat < 1000 then frS mi ma (i : Int).toNat else -1)))) (by
        rintro z H1 ⟨rfl, hz⟩
        exact ⟨ad, _, rfl, yE_60, hw0, PY_q hk0 hR (fun z2 h => by rw [h, hz, e10, Int.toNat_natCast]; exact fr_eq) rfl⟩)
    refine zcalliX hY (vx_runSX (As := [.ref (ad 0), .int (iI (i : Int)), .ref (ad 60)]) (rest := []) ⟨hx, hb, hml, hown, hts⟩ hV (vx_cwSW 3 hts gL_law_L_freeFrom rfl rfl rfl (by decide +kernel) ⟨(Nat.le_of_ble_eq_true rfl), (Nat.le_of_ble_eq_true rfl)⟩) (zPSn hY hE hS) rfl rfl hsz rfl (lv_room (Nat.le_of_ble_eq_true rfl)) hdg ⟨Nat.le_trans (Nat.add_le_add_left (by decide) _) hc, Nat.le_trans (Nat.add_le_add_left (by decide) _) hs⟩) hS (fun k H1 locs1 hk hq hz1 hk1 hS1 => ?_)
    obtain ⟨rfl, z, ad2, e2, fo2, hz, hP, hf2, h60, hn60, hw2⟩ := hq
    exact W.widen (k := cells + 3) (n := slots + 21) (by omega) (by omega) (kk _ H1 locs1 hk (GO_ok hP hf2 h60 hw2) hz1 hk1 hS1)
  · have hV := w_L_freeFrom_1 l D cy AY ad H a hw he (c_x_X1_freeFrom l hlf D cy (fun q => AY q ∧ q ≠ ad 60) ad ya yi pr H a hw0 za (hR.bad hq0))
    refine zcalliX hY (vx_runSX (As := [.ref (ad 0), .int (iI a), .ref (ad 60)]) (rest := []) ⟨hx, hb, hml, hown, hts⟩ hV (vx_cwSW 3 hts gL_law_L_freeFrom rfl rfl rfl (by decide +kernel) ⟨(Nat.le_of_ble_eq_true rfl), (Nat.le_of_ble_eq_true rfl)⟩) (zPSn hY hE hS) rfl rfl hsz rfl (lv_room (Nat.le_of_ble_eq_true rfl)) hdg ⟨Nat.le_trans (Nat.add_le_add_left (by decide) _) hc, Nat.le_trans (Nat.add_le_add_left (by decide) _) hs⟩) hS (fun k H1 locs1 hk hq hz1 hk1 hS1 => ?_)
    obtain ⟨rfl, hw2⟩ := hq
    exact W.widen (k := cells + 3) (n := slots + 21) (by omega) (by omega) (kk _ H1 locs1 hk (GO_x (by decide) hR hw2 (QR_x (if_neg hq0))) hz1 hk1 hS1)

set_option maxHeartbeats 4000000 in
set_option maxRecDepth 100000 in
theorem s_coldJoints {p : Program} {l : Launch} {e : Env} {s : State} {m : MethodId} {below : List Frame} {meth : Method} {c : Code} {b0 : Nat} {D : va_G} {cy : Nat → ClassId} {A0 AY : Nat → Prop} (hC : LC p l s m c b0 D cy A0 AY) {H : Heap} {locs : List Loc} {cells slots : Nat} {Q : State → Prop} {ls : Array Slot} {pc : Nat} (hS : va_S A0 s.heap H locs) (hsz : ls.size = 7) (hc : cells + 3 ≤ room_1.cells) (hs : slots + 21 ≤ room_1.slots) {ad : Nat → Nat} {mi : Nat → Int} {ma ya : Nat → Nat → Int} {yi : Nat → Int} {pr : Nat → Option PS} {fo : Nat → Int64} (hw : zW D AY ad (yO60 cy ad ya yi pr fo) H) (hR : RR mi ma ya yi pr) (hAf : ∀ q, H.size ≤ q → AY q) (a : Int) (za : zr a) (hdg : decode cL_law pc = .ok (.invokestatic 136, 3))
    (kk : ∀ (k : Int) (H1 : Heap) (locs1 : List Loc), zr k → GO D cy AY (ad 0) (ad 60) (QR mi ma (if isP ma a then 0 else 1) (fun z => z = sl (cjF mi ma a.toNat) (ma 12 a.toNat).toNat)) k H1 → H.size ≤ H1.size → (∀ q : Nat, q < H.size → ¬ AY q → H1[q]? = H[q]?) → va_S A0 s.heap H1 locs1 → W p l e room_1 s m #[Value.ref b0] below meth c H1 locs1 (cells + 3) (slots + 21) Q (F0 m (pc + 3) ls [.int (iI k)])) :
    W p l e room_1 s m #[Value.ref b0] below meth c H locs cells slots Q (F0 m pc ls [.ref (ad 60), .int (iI a), .ref (ad 0)]) := by
  obtain ⟨⟨hx, hb, hml, hown, hts⟩, hlf, hE, hY⟩ := hC
  have he : yE cy ad ya yi pr 0 = some (.inr (1, yO ad yi)) := yE_0
  have hw0 := hw.part yE_60
  have hyB := hR.yBd
  have htO := hR.tOKd
  have hgn := hR.2.2.2.1
  by_cases hq0 : isP ma a
  · have hk0 : (if isP ma a then (0 : Int) else 1) = 0 := if_pos hq0
    obtain ⟨i, p0, rfl, hi, h7, hp0, ht, hsc, hpb, e7, e8, e9, e10⟩ := hR.good hq0
    have hV := w_L_coldJoints l D cy AY ad H (i : Int) hw he (c_X1_coldJoints_ok l D cy (fun q => AY q ∧ q ≠ ad 60) ad ya yi pr H (ya 0) i p0 hw0 hi hp0 hpb hyB hgn htO) (P := PY cy ad (QR mi ma (if isP ma (i : Int) then 0 else 1) (fun z => z = sl (cjF mi ma (i : Int).toNat) (ma 12 (i : Int).toNat).toNat))) (by
        rintro z H1 ⟨rfl, hz⟩
        exact ⟨ad, _, rfl, yE_60, hw0, PY_q hk0 hR (fun z2 h => by rw [h, hz, hR.cj hi h7 ht, Int.toNat_natCast]) rfl⟩)
    refine zcalliX hY (vx_runSX (As := [.ref (ad 0), .int (iI (i : Int)), .ref (ad 60)]) (rest := []) ⟨hx, hb, hml, hown, hts⟩ hV (vx_cwSW 3 hts gL_law_L_coldJoints rfl rfl rfl (by decide +kernel) ⟨(Nat.le_of_ble_eq_true rfl), (Nat.le_of_ble_eq_true rfl)⟩) (zPSn hY hE hS) rfl rfl hsz rfl (lv_room (Nat.le_of_ble_eq_true rfl)) hdg ⟨Nat.le_trans (Nat.add_le_add_left (by decide) _) hc, Nat.le_trans (Nat.add_le_add_left (by decide) _) hs⟩) hS (fun k H1 locs1 hk hq hz1 hk1 hS1 => ?_)
    obtain ⟨rfl, z, ad2, e2, fo2, hz, hP, hf2, h60, hn60, hw2⟩ := hq
    exact W.widen (k := cells + 3) (n := slots + 21) (by omega) (by omega) (kk _ H1 locs1 hk (GO_ok hP hf2 h60 hw2) hz1 hk1 hS1)
  · have hV := w_L_coldJoints_1 l D cy AY ad H a hw he (c_x_X1_coldJoints l hlf D cy (fun q => AY q ∧ q ≠ ad 60) ad ya yi pr H a hw0 za (hR.bad hq0))
    refine zcalliX hY (vx_runSX (As := [.ref (ad 0), .int (iI a), .ref (ad 60)]) (rest := []) ⟨hx, hb, hml, hown, hts⟩ hV (vx_cwSW 3 hts gL_law_L_coldJoints rfl rfl rfl (by decide +kernel) ⟨(Nat.le_of_ble_eq_true rfl), (Nat.le_of_ble_eq_true rfl)⟩) (zPSn hY hE hS) rfl rfl hsz rfl (lv_room (Nat.le_of_ble_eq_true rfl)) hdg ⟨Nat.le_trans (Nat.add_le_add_left (by decide) _) hc, Nat.le_trans (Nat.add_le_add_left (by decide) _) hs⟩) hS (fun k H1 locs1 hk hq hz1 hk1 hS1 => ?_)
    obtain ⟨rfl, hw2⟩ := hq
    exact W.widen (k := cells + 3) (n := slots + 21) (by omega) (by omega) (kk _ H1 locs1 hk (GO_x (by decide) hR hw2 (QR_x (if_neg hq0))) hz1 hk1 hS1)

set_option maxHeartbeats 4000000 in
set_option maxRecDepth 100000 in
theorem s_panelsOf {p : Program} {l : Launch} {e : Env} {s : State} {m : MethodId} {below : List Frame} {meth : Method} {c : Code} {b0 : Nat} {D : va_G} {cy : Nat → ClassId} {A0 AY : Nat → Prop} (hC : LC p l s m c b0 D cy A0 AY) {H : Heap} {locs : List Loc} {cells slots : Nat} {Q : State → Prop} {ls : Array Slot} {pc : Nat} (hS : va_S A0 s.heap H locs) (hsz : ls.size = 7) (hc : cells + 3 ≤ room_1.cells) (hs : slots + 21 ≤ room_1.slots) {ad : Nat → Nat} {mi : Nat → Int} {ma ya : Nat → Nat → Int} {yi : Nat → Int} {pr : Nat → Option PS} {fo : Nat → Int64} (hw : zW D AY ad (yO60 cy ad ya yi pr fo) H) (hR : RR mi ma ya yi pr) (hAf : ∀ q, H.size ≤ q → AY q) (a : Int) (za : zr a) (hdg : decode cL_law pc = .ok (.invokestatic 163, 3))
    (kk : ∀ (k : Int) (H1 : Heap) (locs1 : List Loc), zr k → GO D cy AY (ad 0) (ad 60) (QR mi ma (if isP ma a then 0 else 1) (fun z => z = sl (fun j => bI (FM mi ma 10000 a.toNat j)) 60)) k H1 → H.size ≤ H1.size → (∀ q : Nat, q < H.size → ¬ AY q → H1[q]? = H[q]?) → va_S A0 s.heap H1 locs1 → W p l e room_1 s m #[Value.ref b0] below meth c H1 locs1 (cells + 3) (slots + 21) Q (F0 m (pc + 3) ls [.int (iI k)])) :
    W p l e room_1 s m #[Value.ref b0] below meth c H locs cells slots Q (F0 m pc ls [.ref (ad 60), .int (iI a), .ref (ad 0)]) := by
  obtain ⟨⟨hx, hb, hml, hown, hts⟩, hlf, hE, hY⟩ := hC
  have he : yE cy ad ya yi pr 0 = some (.inr (1, yO ad yi)) := yE_0
  have hw0 := hw.part yE_60
  have hyB := hR.yBd
  have htO := hR.tOKd
  have hgn := hR.2.2.2.1
  by_cases hq0 : isP ma a
  · have hk0 : (if isP ma a then (0 : Int) else 1) = 0 := if_pos hq0
    obtain ⟨i, p0, rfl, hi, h7, hp0, ht, hsc, hpb, e7, e8, e9, e10⟩ := hR.good hq0
    have hV := w_L_panelsOf l D cy AY ad H (i : Int) hw he (c_X1_panelsOf_ok l D cy (fun q => AY q ∧ q ≠ ad 60) ad ya yi pr H i p0 hw0 hi hp0 hR.b9 hyB) (P := PY cy ad (QR mi ma (if isP ma (i : Int) then 0 else 1) (fun z => z = sl (fun j => bI (FM mi ma 10000 (i : Int).toNat j)) 60))) (by
        rintro z H1 ⟨pr2, hw1, hgv, hz⟩
        exact ⟨ad, _, rfl, yE_60, hw1.drop, PY_q hk0 (hR.gv (gvR_d hgv) (up_same _ _ _)) (fun z2 h => by rw [h, hz, hR.F, Int.toNat_natCast]) rfl⟩)
    refine zcalliX hY (vx_runSX (As := [.ref (ad 0), .int (iI (i : Int)), .ref (ad 60)]) (rest := []) ⟨hx, hb, hml, hown, hts⟩ hV (vx_cwSW 3 hts gL_law_L_panelsOf rfl rfl rfl (by decide +kernel) ⟨(Nat.le_of_ble_eq_true rfl), (Nat.le_of_ble_eq_true rfl)⟩) (zPSn hY hE hS) rfl rfl hsz rfl (lv_room (Nat.le_of_ble_eq_true rfl)) hdg ⟨Nat.le_trans (Nat.add_le_add_left (by decide) _) hc, Nat.le_trans (Nat.add_le_add_left (by decide) _) hs⟩) hS (fun k H1 locs1 hk hq hz1 hk1 hS1 => ?_)
    obtain ⟨rfl, z, ad2, e2, fo2, hz, hP, hf2, h60, hn60, hw2⟩ := hq
    exact W.widen (k := cells + 3) (n := slots + 21) (by omega) (by omega) (kk _ H1 locs1 hk (GO_ok hP hf2 h60 hw2) hz1 hk1 hS1)
  · have hV := w_L_panelsOf_1 l D cy AY ad H a hw he (c_x_X1_panelsOf l hlf D cy (fun q => AY q ∧ q ≠ ad 60) ad ya yi pr H a hw0 za (hR.bad hq0))
    refine zcalliX hY (vx_runSX (As := [.ref (ad 0), .int (iI a), .ref (ad 60)]) (rest := []) ⟨hx, hb, hml, hown, hts⟩ hV (vx_cwSW 3 hts gL_law_L_panelsOf rfl rfl rfl (by decide +kernel) ⟨(Nat.le_of_ble_eq_true rfl), (Nat.le_of_ble_eq_true rfl)⟩) (zPSn hY hE hS) rfl rfl hsz rfl (lv_room (Nat.le_of_ble_eq_true rfl)) hdg ⟨Nat.le_trans (Nat.add_le_add_left (by decide) _) hc, Nat.le_trans (Nat.add_le_add_left (by decide) _) hs⟩) hS (fun k H1 locs1 hk hq hz1 hk1 hS1 => ?_)
    obtain ⟨rfl, hw2⟩ := hq
    exact W.widen (k := cells + 3) (n := slots + 21) (by omega) (by omega) (kk _ H1 locs1 hk (GO_x (by decide) hR hw2 (QR_x (if_neg hq0))) hz1 hk1 hS1)

set_option maxHeartbeats 4000000 in
set_option maxRecDepth 100000 in
theorem s_pourOf {p : Program} {l : Launch} {e : Env} {s : State} {m : MethodId} {below : List Frame} {meth : Method} {c : Code} {b0 : Nat} {D : va_G} {cy : Nat → ClassId} {A0 AY : Nat → Prop} (hC : LC p l s m c b0 D cy A0 AY) {H : Heap} {locs : List Loc} {cells slots : Nat} {Q : State → Prop} {ls : Array Slot} {pc : Nat} (hS : va_S A0 s.heap H locs) (hsz : ls.size = 7) (hc : cells + 3 ≤ room_1.cells) (hs : slots + 21 ≤ room_1.slots) {ad : Nat → Nat} {mi : Nat → Int} {ma ya : Nat → Nat → Int} {yi : Nat → Int} {pr : Nat → Option PS} {fo : Nat → Int64} (hw : zW D AY ad (yO60 cy ad ya yi pr fo) H) (hR : RR mi ma ya yi pr) (hAf : ∀ q, H.size ≤ q → AY q) (a b : Int) (za : zr a) (zb : zr b) (hdg : decode cL_law pc = .ok (.invokestatic 166, 3))
    (kk : ∀ (k : Int) (H1 : Heap) (locs1 : List Loc), zr k → GO D cy AY (ad 0) (ad 60) (QR mi ma (if (0 ≤ a ∧ a < mi 2) ∧ 0 ≤ b ∧ b < 1000 then 0 else 1) (fun z => ∃ k : Nat, a = k ∧ ((z = -1 ∧ ∀ q, q < 10 → ¬ (FM mi ma 10000 q k = true ∧ bsM mi ma q b = true)) ∨ (0 ≤ z ∧ z < 10 ∧ (FM mi ma 10000 z.toNat k = true ∧ bsM mi ma z.toNat b = true))))) k H1 → H.size ≤ H1.size → (∀ q : Nat, q < H.size → ¬ AY q → H1[q]? = H[q]?) → va_S A0 s.heap H1 locs1 → W p l e room_1 s m #[Value.ref b0] below meth c H1 locs1 (cells + 3) (slots + 21) Q (F0 m (pc + 3) ls [.int (iI k)])) :
    W p l e room_1 s m #[Value.ref b0] below meth c H locs cells slots Q (F0 m pc ls [.ref (ad 60), .int (iI b), .int (iI a), .ref (ad 0)]) := by
  obtain ⟨⟨hx, hb, hml, hown, hts⟩, hlf, hE, hY⟩ := hC
  have he : yE cy ad ya yi pr 0 = some (.inr (1, yO ad yi)) := yE_0
  have hw0 := hw.part yE_60
  have hyB := hR.yBd
  have htO := hR.tOKd
  have hgn := hR.2.2.2.1
  by_cases h0 : (0 ≤ a ∧ a < mi 2) ∧ 0 ≤ b ∧ b < 1000
  · have hk0 : (if (0 ≤ a ∧ a < mi 2) ∧ 0 ≤ b ∧ b < 1000 then (0 : Int) else 1) = 0 := if_pos h0
    obtain ⟨i, rfl⟩ : ∃ i : Nat, a = (i : Int) := ⟨a.toNat, by omega⟩
    have hk9 : (i : Int) < yi 5 := by rw [hR.2.1.1]; exact h0.1.2
    have hV := w_L_pourOf l D cy AY ad H (i : Int) b hw he (c_X1_pourOf_ok l D cy (fun q => AY q ∧ q ≠ ad 60) ad ya yi pr H i b hw0 hk9 h0.2 hR.b9 hyB) (P := PY cy ad (QR mi ma (if (0 ≤ (i : Int) ∧ (i : Int) < mi 2) ∧ 0 ≤ b ∧ b < 1000 then 0 else 1) (fun z => ∃ k : Nat, (i : Int) = k ∧ ((z = -1 ∧ ∀ q, q < 10 → ¬ (FM mi ma 10000 q k = true ∧ bsM mi ma q b = true)) ∨ (0 ≤ z ∧ z < 10 ∧ (FM mi ma 10000 z.toNat k = true ∧ bsM mi ma z.toNat b = true)))))) (by
        rintro z H1 ⟨pr2, hw1, hgv, hz⟩
        refine ⟨ad, _, rfl, yE_60, hw1.drop, PY_q hk0 (hR.gv (gvR_d hgv) (up_same _ _ _)) (fun z2 h => ?_) rfl⟩
        obtain ⟨k, hk, h⟩ := h
        have hki : k = i := by omega
        subst hki
        exact (hR.po h0.2.2 hz h).symm)
    refine zcalliX hY (vx_runSX (As := [.ref (ad 0), .int (iI (i : Int)), .int (iI b), .ref (ad 60)]) (rest := []) ⟨hx, hb, hml, hown, hts⟩ hV (vx_cwSW 4 hts gL_law_L_pourOf rfl rfl rfl (by decide +kernel) ⟨(Nat.le_of_ble_eq_true rfl), (Nat.le_of_ble_eq_true rfl)⟩) (zPSn hY hE hS) rfl rfl hsz rfl (lv_room (Nat.le_of_ble_eq_true rfl)) hdg ⟨Nat.le_trans (Nat.add_le_add_left (by decide) _) hc, Nat.le_trans (Nat.add_le_add_left (by decide) _) hs⟩) hS (fun k H1 locs1 hk hq hz1 hk1 hS1 => ?_)
    obtain ⟨rfl, z, ad2, e2, fo2, hz, hP, hf2, h60, hn60, hw2⟩ := hq
    exact W.widen (k := cells + 3) (n := slots + 21) (by omega) (by omega) (kk _ H1 locs1 hk (GO_ok hP hf2 h60 hw2) hz1 hk1 hS1)
  · have hV := w_L_pourOf_1 l D cy AY ad H a b hw he (c_x_X1_pourOf l hlf D cy (fun q => AY q ∧ q ≠ ad 60) ad ya yi pr H a b hw0 za zb hyB (by rw [hR.2.1.1]; exact h0))
    refine zcalliX hY (vx_runSX (As := [.ref (ad 0), .int (iI a), .int (iI b), .ref (ad 60)]) (rest := []) ⟨hx, hb, hml, hown, hts⟩ hV (vx_cwSW 4 hts gL_law_L_pourOf rfl rfl rfl (by decide +kernel) ⟨(Nat.le_of_ble_eq_true rfl), (Nat.le_of_ble_eq_true rfl)⟩) (zPSn hY hE hS) rfl rfl hsz rfl (lv_room (Nat.le_of_ble_eq_true rfl)) hdg ⟨Nat.le_trans (Nat.add_le_add_left (by decide) _) hc, Nat.le_trans (Nat.add_le_add_left (by decide) _) hs⟩) hS (fun k H1 locs1 hk hq hz1 hk1 hS1 => ?_)
    obtain ⟨rfl, hw2⟩ := hq
    exact W.widen (k := cells + 3) (n := slots + 21) (by omega) (by omega) (kk _ H1 locs1 hk (GO_x (by decide) hR hw2 (QR_x (if_neg h0))) hz1 hk1 hS1)

set_option maxHeartbeats 4000000 in
set_option maxRecDepth 100000 in
theorem s_setPanels {p : Program} {l : Launch} {e : Env} {s : State} {m : MethodId} {below : List Frame} {meth : Method} {c : Code} {b0 : Nat} {D : va_G} {cy : Nat → ClassId} {A0 AY : Nat → Prop} (hC : LC p l s m c b0 D cy A0 AY) {H : Heap} {locs : List Loc} {cells slots : Nat} {Q : State → Prop} {ls : Array Slot} {pc : Nat} (hS : va_S A0 s.heap H locs) (hsz : ls.size = 7) (hc : cells + 3 ≤ room_1.cells) (hs : slots + 21 ≤ room_1.slots) {ad : Nat → Nat} {mi : Nat → Int} {ma ya : Nat → Nat → Int} {yi : Nat → Int} {pr : Nat → Option PS} {fo : Nat → Int64} (hw : zW D AY ad (yO60 cy ad ya yi pr fo) H) (hR : RR mi ma ya yi pr) (hAf : ∀ q, H.size ≤ q → AY q) (a : Int) (za : zr a) (hdg : decode cL_law pc = .ok (.invokestatic 105, 3))
    (kk : ∀ (k : Int) (H1 : Heap) (locs1 : List Loc), zr k → GO D cy AY (ad 0) (ad 60) (UR mi ma (if 0 ≤ a ∧ a ≤ 60 then 0 else 1) (fun z mi2 mb => mi2 = va_up (va_up mi 0 0) 2 a ∧ mb = ma ∧ z = mi 2)) k H1 → H.size ≤ H1.size → (∀ q : Nat, q < H.size → ¬ AY q → H1[q]? = H[q]?) → va_S A0 s.heap H1 locs1 → W p l e room_1 s m #[Value.ref b0] below meth c H1 locs1 (cells + 3) (slots + 21) Q (F0 m (pc + 3) ls [.int (iI k)])) :
    W p l e room_1 s m #[Value.ref b0] below meth c H locs cells slots Q (F0 m pc ls [.ref (ad 60), .int (iI a), .ref (ad 0)]) := by
  obtain ⟨⟨hx, hb, hml, hown, hts⟩, hlf, hE, hY⟩ := hC
  have he : yE cy ad ya yi pr 0 = some (.inr (1, yO ad yi)) := yE_0
  have hw0 := hw.part yE_60
  have hyB := hR.yBd
  have htO := hR.tOKd
  have hgn := hR.2.2.2.1
  by_cases h0 : 0 ≤ a ∧ a ≤ 60
  · have hV := w_L_setPanels l D cy AY ad H a hw he (c_X1_setPanels_ok l D cy (fun q => AY q ∧ q ≠ ad 60) ad ya yi pr H a hw0 h0 hyB) (P := PY cy ad (UR mi ma (if 0 ≤ a ∧ a ≤ 60 then 0 else 1) (fun z mi2 mb => mi2 = va_up (va_up mi 0 0) 2 a ∧ mb = ma ∧ z = mi 2))) (by
      rintro z H1 ⟨hw1, hz⟩
      exact ⟨ad, _, rfl, yE_60, hw1, PY_u (if_pos h0) (fun z2 mi2 mb r => ⟨by rw [r.1, r.2.1]; exact r_setPanels hR h0, by rw [r.2.2, hz, hR.2.1.1]⟩) rfl⟩)
    refine zcalliX hY (vx_runSX (As := [.ref (ad 0), .int (iI a), .ref (ad 60)]) (rest := []) ⟨hx, hb, hml, hown, hts⟩ hV (vx_cwSW 3 hts gL_law_L_setPanels rfl rfl rfl (by decide +kernel) ⟨(Nat.le_of_ble_eq_true rfl), (Nat.le_of_ble_eq_true rfl)⟩) (zPSn hY hE hS) rfl rfl hsz rfl (lv_room (Nat.le_of_ble_eq_true rfl)) hdg ⟨Nat.le_trans (Nat.add_le_add_left (by decide) _) hc, Nat.le_trans (Nat.add_le_add_left (by decide) _) hs⟩) hS (fun k H1 locs1 hk hq hz1 hk1 hS1 => ?_)
    obtain ⟨rfl, z, ad2, e2, fo2, hz, hP, hf2, h60, hn60, hw2⟩ := hq
    exact W.widen (k := cells + 3) (n := slots + 21) (by omega) (by omega) (kk _ H1 locs1 hk (GO_ok hP hf2 h60 hw2) hz1 hk1 hS1)
  · have hV := w_L_setPanels_1 l D cy AY ad H a hw he (c_x_X1_setPanels l hlf D cy (fun q => AY q ∧ q ≠ ad 60) ad ya yi pr H a hw0 za h0)
    refine zcalliX hY (vx_runSX (As := [.ref (ad 0), .int (iI a), .ref (ad 60)]) (rest := []) ⟨hx, hb, hml, hown, hts⟩ hV (vx_cwSW 3 hts gL_law_L_setPanels rfl rfl rfl (by decide +kernel) ⟨(Nat.le_of_ble_eq_true rfl), (Nat.le_of_ble_eq_true rfl)⟩) (zPSn hY hE hS) rfl rfl hsz rfl (lv_room (Nat.le_of_ble_eq_true rfl)) hdg ⟨Nat.le_trans (Nat.add_le_add_left (by decide) _) hc, Nat.le_trans (Nat.add_le_add_left (by decide) _) hs⟩) hS (fun k H1 locs1 hk hq hz1 hk1 hS1 => ?_)
    obtain ⟨rfl, hw2⟩ := hq
    exact W.widen (k := cells + 3) (n := slots + 21) (by omega) (by omega) (kk _ H1 locs1 hk (GO_x (by decide) hR hw2 (UR_x (if_neg h0) (by decide))) hz1 hk1 hS1)

set_option maxHeartbeats 4000000 in
set_option maxRecDepth 100000 in
theorem s_setRates {p : Program} {l : Launch} {e : Env} {s : State} {m : MethodId} {below : List Frame} {meth : Method} {c : Code} {b0 : Nat} {D : va_G} {cy : Nat → ClassId} {A0 AY : Nat → Prop} (hC : LC p l s m c b0 D cy A0 AY) {H : Heap} {locs : List Loc} {cells slots : Nat} {Q : State → Prop} {ls : Array Slot} {pc : Nat} (hS : va_S A0 s.heap H locs) (hsz : ls.size = 7) (hc : cells + 3 ≤ room_1.cells) (hs : slots + 21 ≤ room_1.slots) {ad : Nat → Nat} {mi : Nat → Int} {ma ya : Nat → Nat → Int} {yi : Nat → Int} {pr : Nat → Option PS} {fo : Nat → Int64} (hw : zW D AY ad (yO60 cy ad ya yi pr fo) H) (hR : RR mi ma ya yi pr) (hAf : ∀ q, H.size ≤ q → AY q) (a b : Int) (za : zr a) (zb : zr b) (hdg : decode cL_law pc = .ok (.invokestatic 108, 3))
    (kk : ∀ (k : Int) (H1 : Heap) (locs1 : List Loc), zr k → GO D cy AY (ad 0) (ad 60) (UR mi ma (if (1 ≤ a ∧ a ≤ 50) ∧ (1 ≤ b ∧ b ≤ 50) then 0 else 1) (fun z mi2 mb => mi2 = va_up (va_up (va_up mi 0 0) 3 a) 4 b ∧ mb = ma ∧ z = min a b)) k H1 → H.size ≤ H1.size → (∀ q : Nat, q < H.size → ¬ AY q → H1[q]? = H[q]?) → va_S A0 s.heap H1 locs1 → W p l e room_1 s m #[Value.ref b0] below meth c H1 locs1 (cells + 3) (slots + 21) Q (F0 m (pc + 3) ls [.int (iI k)])) :
    W p l e room_1 s m #[Value.ref b0] below meth c H locs cells slots Q (F0 m pc ls [.ref (ad 60), .int (iI b), .int (iI a), .ref (ad 0)]) := by
  obtain ⟨⟨hx, hb, hml, hown, hts⟩, hlf, hE, hY⟩ := hC
  have he : yE cy ad ya yi pr 0 = some (.inr (1, yO ad yi)) := yE_0
  have hw0 := hw.part yE_60
  have hyB := hR.yBd
  have htO := hR.tOKd
  have hgn := hR.2.2.2.1
  by_cases h0 : (1 ≤ a ∧ a ≤ 50) ∧ (1 ≤ b ∧ b ≤ 50)
  · have hV := w_L_setRates l D cy AY ad H a b hw he (c_X1_setRates_ok l D cy (fun q => AY q ∧ q ≠ ad 60) ad ya yi pr H (ya 0) a b hw0 h0.1 h0.2 (fun j p hj hp => (hR.pAd j p hj hp).1) hyB hgn htO) (P := PY cy ad (UR mi ma (if (1 ≤ a ∧ a ≤ 50) ∧ (1 ≤ b ∧ b ≤ 50) then 0 else 1) (fun z mi2 mb => mi2 = va_up (va_up (va_up mi 0 0) 3 a) 4 b ∧ mb = ma ∧ z = min a b))) (by
      rintro z H1 ⟨pq, hw1, hsch, hz⟩
      exact ⟨ad, _, rfl, yE_60, hw1.drop, PY_u (if_pos h0) (fun z2 mi2 mb r => ⟨by rw [r.1, r.2.1]; exact r_setRates hR h0.1 h0.2 hsch, by rw [r.2.2, hz]⟩) rfl⟩)
    refine zcalliX hY (vx_runSX (As := [.ref (ad 0), .int (iI a), .int (iI b), .ref (ad 60)]) (rest := []) ⟨hx, hb, hml, hown, hts⟩ hV (vx_cwSW 4 hts gL_law_L_setRates rfl rfl rfl (by decide +kernel) ⟨(Nat.le_of_ble_eq_true rfl), (Nat.le_of_ble_eq_true rfl)⟩) (zPSn hY hE hS) rfl rfl hsz rfl (lv_room (Nat.le_of_ble_eq_true rfl)) hdg ⟨Nat.le_trans (Nat.add_le_add_left (by decide) _) hc, Nat.le_trans (Nat.add_le_add_left (by decide) _) hs⟩) hS (fun k H1 locs1 hk hq hz1 hk1 hS1 => ?_)
    obtain ⟨rfl, z, ad2, e2, fo2, hz, hP, hf2, h60, hn60, hw2⟩ := hq
    exact W.widen (k := cells + 3) (n := slots + 21) (by omega) (by omega) (kk _ H1 locs1 hk (GO_ok hP hf2 h60 hw2) hz1 hk1 hS1)
  · have hV := w_L_setRates_1 l D cy AY ad H a b hw he (c_x_X1_setRates l hlf D cy (fun q => AY q ∧ q ≠ ad 60) ad ya yi pr H a b hw0 za zb (by omega))
    refine zcalliX hY (vx_runSX (As := [.ref (ad 0), .int (iI a), .int (iI b), .ref (ad 60)]) (rest := []) ⟨hx, hb, hml, hown, hts⟩ hV (vx_cwSW 4 hts gL_law_L_setRates rfl rfl rfl (by decide +kernel) ⟨(Nat.le_of_ble_eq_true rfl), (Nat.le_of_ble_eq_true rfl)⟩) (zPSn hY hE hS) rfl rfl hsz rfl (lv_room (Nat.le_of_ble_eq_true rfl)) hdg ⟨Nat.le_trans (Nat.add_le_add_left (by decide) _) hc, Nat.le_trans (Nat.add_le_add_left (by decide) _) hs⟩) hS (fun k H1 locs1 hk hq hz1 hk1 hS1 => ?_)
    obtain ⟨rfl, hw2⟩ := hq
    exact W.widen (k := cells + 3) (n := slots + 21) (by omega) (by omega) (kk _ H1 locs1 hk (GO_x (by decide) hR hw2 (UR_x (if_neg h0) (by decide))) hz1 hk1 hS1)

set_option maxHeartbeats 4000000 in
set_option maxRecDepth 100000 in
theorem s_setCrew {p : Program} {l : Launch} {e : Env} {s : State} {m : MethodId} {below : List Frame} {meth : Method} {c : Code} {b0 : Nat} {D : va_G} {cy : Nat → ClassId} {A0 AY : Nat → Prop} (hC : LC p l s m c b0 D cy A0 AY) {H : Heap} {locs : List Loc} {cells slots : Nat} {Q : State → Prop} {ls : Array Slot} {pc : Nat} (hS : va_S A0 s.heap H locs) (hsz : ls.size = 7) (hc : cells + 3 ≤ room_1.cells) (hs : slots + 21 ≤ room_1.slots) {ad : Nat → Nat} {mi : Nat → Int} {ma ya : Nat → Nat → Int} {yi : Nat → Int} {pr : Nat → Option PS} {fo : Nat → Int64} (hw : zW D AY ad (yO60 cy ad ya yi pr fo) H) (hR : RR mi ma ya yi pr) (hAf : ∀ q, H.size ≤ q → AY q) (a b : Int) (za : zr a) (zb : zr b) (hdg : decode cL_law pc = .ok (.invokestatic 111, 3))
    (kk : ∀ (k : Int) (H1 : Heap) (locs1 : List Loc), zr k → GV D cy AY (ad 0) (ad 60) (UR mi ma (if (0 ≤ a ∧ a ≤ 24) ∧ (0 ≤ b ∧ b ≤ 24) then 0 else 1) (fun z mi2 mb => mi2 = va_up (va_up (va_up mi 0 0) 5 a) 6 b ∧ mb = ma)) k H1 → H.size ≤ H1.size → (∀ q : Nat, q < H.size → ¬ AY q → H1[q]? = H[q]?) → va_S A0 s.heap H1 locs1 → W p l e room_1 s m #[Value.ref b0] below meth c H1 locs1 (cells + 3) (slots + 21) Q (F0 m (pc + 3) ls [.int (iI k)])) :
    W p l e room_1 s m #[Value.ref b0] below meth c H locs cells slots Q (F0 m pc ls [.int (iI b), .int (iI a), .ref (ad 0)]) := by
  obtain ⟨⟨hx, hb, hml, hown, hts⟩, hlf, hE, hY⟩ := hC
  have he : yE cy ad ya yi pr 0 = some (.inr (1, yO ad yi)) := yE_0
  have hw0 := hw.part yE_60
  have hyB := hR.yBd
  have htO := hR.tOKd
  have hgn := hR.2.2.2.1
  by_cases h0 : (0 ≤ a ∧ a ≤ 24) ∧ (0 ≤ b ∧ b ≤ 24)
  · have hV := w_L_setCrew l D cy AY ad H a b hw he (c_X1_setCrew_ok l D cy (fun q => AY q ∧ q ≠ ad 60) ad ya yi pr H (ya 0) a b hw0 h0.1 h0.2 (fun j p hj hp => (hR.pAd j p hj hp).1) hyB hgn htO) (P := PV cy ad (UR mi ma (if (0 ≤ a ∧ a ≤ 24) ∧ (0 ≤ b ∧ b ≤ 24) then 0 else 1) (fun z mi2 mb => mi2 = va_up (va_up (va_up mi 0 0) 5 a) 6 b ∧ mb = ma))) (by
      rintro H1 ⟨pq, hw1, hsch⟩
      exact ⟨ad, _, rfl, yE_60, hw1.drop, PV_u (if_pos h0) (fun z2 mi2 mb r => by rw [r.1, r.2]; exact r_setCrew hR h0.1 h0.2 hsch) rfl⟩)
    refine zcalliX hY (vx_runSX (As := [.ref (ad 0), .int (iI a), .int (iI b)]) (rest := []) ⟨hx, hb, hml, hown, hts⟩ hV (vx_cwSW 3 hts gL_law_L_setCrew rfl rfl rfl (by decide +kernel) ⟨(Nat.le_of_ble_eq_true rfl), (Nat.le_of_ble_eq_true rfl)⟩) (zPSn hY hE hS) rfl rfl hsz rfl (lv_room (Nat.le_of_ble_eq_true rfl)) hdg ⟨Nat.le_trans (Nat.add_le_add_left (by decide) _) hc, Nat.le_trans (Nat.add_le_add_left (by decide) _) hs⟩) hS (fun k H1 locs1 hk hq hz1 hk1 hS1 => ?_)
    obtain ⟨rfl, ad2, e2, hP, h60, hn60, hw2⟩ := hq
    exact W.widen (k := cells + 3) (n := slots + 21) (by omega) (by omega) (kk _ H1 locs1 hk (GV_ok hP h60 hw2) hz1 hk1 hS1)
  · have hV := w_L_setCrew_1 l D cy AY ad H a b hw he (c_x_X1_setCrew l hlf D cy (fun q => AY q ∧ q ≠ ad 60) ad ya yi pr H a b hw0 za zb (by omega))
    refine zcalliX hY (vx_runSX (As := [.ref (ad 0), .int (iI a), .int (iI b)]) (rest := []) ⟨hx, hb, hml, hown, hts⟩ hV (vx_cwSW 3 hts gL_law_L_setCrew rfl rfl rfl (by decide +kernel) ⟨(Nat.le_of_ble_eq_true rfl), (Nat.le_of_ble_eq_true rfl)⟩) (zPSn hY hE hS) rfl rfl hsz rfl (lv_room (Nat.le_of_ble_eq_true rfl)) hdg ⟨Nat.le_trans (Nat.add_le_add_left (by decide) _) hc, Nat.le_trans (Nat.add_le_add_left (by decide) _) hs⟩) hS (fun k H1 locs1 hk hq hz1 hk1 hS1 => ?_)
    obtain ⟨rfl, hw2⟩ := hq
    exact W.widen (k := cells + 3) (n := slots + 21) (by omega) (by omega) (kk _ H1 locs1 hk (GV_x hR hw2 (UR_x (if_neg h0) (by decide))) hz1 hk1 hS1)

set_option maxHeartbeats 4000000 in
set_option maxRecDepth 100000 in
theorem s_setTemperature {p : Program} {l : Launch} {e : Env} {s : State} {m : MethodId} {below : List Frame} {meth : Method} {c : Code} {b0 : Nat} {D : va_G} {cy : Nat → ClassId} {A0 AY : Nat → Prop} (hC : LC p l s m c b0 D cy A0 AY) {H : Heap} {locs : List Loc} {cells slots : Nat} {Q : State → Prop} {ls : Array Slot} {pc : Nat} (hS : va_S A0 s.heap H locs) (hsz : ls.size = 7) (hc : cells + 3 ≤ room_1.cells) (hs : slots + 21 ≤ room_1.slots) {ad : Nat → Nat} {mi : Nat → Int} {ma ya : Nat → Nat → Int} {yi : Nat → Int} {pr : Nat → Option PS} {fo : Nat → Int64} (hw : zW D AY ad (yO60 cy ad ya yi pr fo) H) (hR : RR mi ma ya yi pr) (hAf : ∀ q, H.size ≤ q → AY q) (a b d : Int) (za : zr a) (zb : zr b) (zd : zr d) (hdg : decode cL_law pc = .ok (.invokestatic 84, 3))
    (kk : ∀ (k : Int) (H1 : Heap) (locs1 : List Loc), zr k → GV D cy AY (ad 0) (ad 60) (UR mi ma (if (0 ≤ a ∧ a < 1000) ∧ (0 ≤ b ∧ b < 1000) then (if a ≤ b ∧ -40 ≤ d ∧ d ≤ 50 then 0 else 2) else 1) (fun _ mi2 mb => mi2 = va_up mi 0 0 ∧ mb 1 = setT (ma 1) a b d ∧ ∀ r, r ≠ 1 → mb r = ma r)) k H1 → H.size ≤ H1.size → (∀ q : Nat, q < H.size → ¬ AY q → H1[q]? = H[q]?) → va_S A0 s.heap H1 locs1 → W p l e room_1 s m #[Value.ref b0] below meth c H1 locs1 (cells + 3) (slots + 21) Q (F0 m (pc + 3) ls [.int (iI k)])) :
    W p l e room_1 s m #[Value.ref b0] below meth c H locs cells slots Q (F0 m pc ls [.int (iI d), .int (iI b), .int (iI a), .ref (ad 0)]) := by
  obtain ⟨⟨hx, hb, hml, hown, hts⟩, hlf, hE, hY⟩ := hC
  have he : yE cy ad ya yi pr 0 = some (.inr (1, yO ad yi)) := yE_0
  have hw0 := hw.part yE_60
  have hyB := hR.yBd
  have htO := hR.tOKd
  have hgn := hR.2.2.2.1
  by_cases h0 : (0 ≤ a ∧ a < 1000) ∧ (0 ≤ b ∧ b < 1000)
  · by_cases h3 : a ≤ b ∧ -40 ≤ d ∧ d ≤ 50
    · have hV := w_L_setTemperature l D cy AY ad H a b d hw he (c_X1_setTemperature_ok l D cy (fun q => AY q ∧ q ≠ ad 60) ad ya yi pr H a b d hw0 ⟨h0.1.1, h3.1, h0.2.2⟩ h3.2 (fun j p hj hp => (hR.pAd j p hj hp).1) hyB htO) (P := PV cy ad (UR mi ma (if (0 ≤ a ∧ a < 1000) ∧ (0 ≤ b ∧ b < 1000) then (if a ≤ b ∧ -40 ≤ d ∧ d ≤ 50 then 0 else 2) else 1) (fun _ mi2 mb => mi2 = va_up mi 0 0 ∧ mb 1 = setT (ma 1) a b d ∧ ∀ r, r ≠ 1 → mb r = ma r))) (by
        rintro H1 ⟨yb, pq, hw1, e0, eg, es⟩
        exact ⟨ad, _, rfl, yE_60, hw1.drop, PV_u ((if_pos h0).trans (if_pos h3)) (fun z2 mi2 mb r => by rw [r.1]; exact r_setT hR h3.2.1 h3.2.2 r.2.1 r.2.2 e0 eg es) rfl⟩)
      refine zcalliX hY (vx_runSX (As := [.ref (ad 0), .int (iI a), .int (iI b), .int (iI d)]) (rest := []) ⟨hx, hb, hml, hown, hts⟩ hV (vx_cwSW 4 hts gL_law_L_setTemperature rfl rfl rfl (by decide +kernel) ⟨(Nat.le_of_ble_eq_true rfl), (Nat.le_of_ble_eq_true rfl)⟩) (zPSn hY hE hS) rfl rfl hsz rfl (lv_room (Nat.le_of_ble_eq_true rfl)) hdg ⟨Nat.le_trans (Nat.add_le_add_left (by decide) _) hc, Nat.le_trans (Nat.add_le_add_left (by decide) _) hs⟩) hS (fun k H1 locs1 hk hq hz1 hk1 hS1 => ?_)
      obtain ⟨rfl, ad2, e2, hP, h60, hn60, hw2⟩ := hq
      exact W.widen (k := cells + 3) (n := slots + 21) (by omega) (by omega) (kk _ H1 locs1 hk (GV_ok hP h60 hw2) hz1 hk1 hS1)
    · have hV := w_L_setTemperature_2 l D cy AY ad H a b d hw he (c_x_X1_setTemperature_2 l hlf D cy (fun q => AY q ∧ q ≠ ad 60) ad ya yi pr H a b d hw0 h0.1 h0.2 zd (by omega))
      refine zcalliX hY (vx_runSX (As := [.ref (ad 0), .int (iI a), .int (iI b), .int (iI d)]) (rest := []) ⟨hx, hb, hml, hown, hts⟩ hV (vx_cwSW 4 hts gL_law_L_setTemperature rfl rfl rfl (by decide +kernel) ⟨(Nat.le_of_ble_eq_true rfl), (Nat.le_of_ble_eq_true rfl)⟩) (zPSn hY hE hS) rfl rfl hsz rfl (lv_room (Nat.le_of_ble_eq_true rfl)) hdg ⟨Nat.le_trans (Nat.add_le_add_left (by decide) _) hc, Nat.le_trans (Nat.add_le_add_left (by decide) _) hs⟩) hS (fun k H1 locs1 hk hq hz1 hk1 hS1 => ?_)
      obtain ⟨rfl, hw2⟩ := hq
      exact W.widen (k := cells + 3) (n := slots + 21) (by omega) (by omega) (kk _ H1 locs1 hk (GV_x hR hw2 (UR_x ((if_pos h0).trans (if_neg h3)) (by decide))) hz1 hk1 hS1)
  · have hV := w_L_setTemperature_1 l D cy AY ad H a b d hw he (c_x_X1_setTemperature_1 l hlf D cy (fun q => AY q ∧ q ≠ ad 60) ad ya yi pr H a b d hw0 za zb zd (by omega))
    refine zcalliX hY (vx_runSX (As := [.ref (ad 0), .int (iI a), .int (iI b), .int (iI d)]) (rest := []) ⟨hx, hb, hml, hown, hts⟩ hV (vx_cwSW 4 hts gL_law_L_setTemperature rfl rfl rfl (by decide +kernel) ⟨(Nat.le_of_ble_eq_true rfl), (Nat.le_of_ble_eq_true rfl)⟩) (zPSn hY hE hS) rfl rfl hsz rfl (lv_room (Nat.le_of_ble_eq_true rfl)) hdg ⟨Nat.le_trans (Nat.add_le_add_left (by decide) _) hc, Nat.le_trans (Nat.add_le_add_left (by decide) _) hs⟩) hS (fun k H1 locs1 hk hq hz1 hk1 hS1 => ?_)
    obtain ⟨rfl, hw2⟩ := hq
    exact W.widen (k := cells + 3) (n := slots + 21) (by omega) (by omega) (kk _ H1 locs1 hk (GV_x hR hw2 (UR_x (if_neg h0) (by decide))) hz1 hk1 hS1)

set_option maxHeartbeats 4000000 in
set_option maxRecDepth 100000 in
theorem s_move {p : Program} {l : Launch} {e : Env} {s : State} {m : MethodId} {below : List Frame} {meth : Method} {c : Code} {b0 : Nat} {D : va_G} {cy : Nat → ClassId} {A0 AY : Nat → Prop} (hC : LC p l s m c b0 D cy A0 AY) {H : Heap} {locs : List Loc} {cells slots : Nat} {Q : State → Prop} {ls : Array Slot} {pc : Nat} (hS : va_S A0 s.heap H locs) (hsz : ls.size = 7) (hc : cells + 3 ≤ room_1.cells) (hs : slots + 21 ≤ room_1.slots) {ad : Nat → Nat} {mi : Nat → Int} {ma ya : Nat → Nat → Int} {yi : Nat → Int} {pr : Nat → Option PS} {fo : Nat → Int64} (hw : zW D AY ad (yO60 cy ad ya yi pr fo) H) (hR : RR mi ma ya yi pr) (hAf : ∀ q, H.size ≤ q → AY q) (a b : Int) (za : zr a) (zb : zr b) (hdg : decode cL_law pc = .ok (.invokestatic 119, 3))
    (kk : ∀ (k : Int) (H1 : Heap) (locs1 : List Loc), zr k → GO D cy AY (ad 0) (ad 60) (UR mi ma (if isP ma a then (if 0 ≤ b ∧ b ≤ 900 then 0 else 2) else 1) (fun z mi2 mb => mi2 = va_up mi 0 0 ∧ mb = va_up ma 8 (va_up (ma 8) a.toNat b) ∧ z = ma 8 a.toNat)) k H1 → H.size ≤ H1.size → (∀ q : Nat, q < H.size → ¬ AY q → H1[q]? = H[q]?) → va_S A0 s.heap H1 locs1 → W p l e room_1 s m #[Value.ref b0] below meth c H1 locs1 (cells + 3) (slots + 21) Q (F0 m (pc + 3) ls [.int (iI k)])) :
    W p l e room_1 s m #[Value.ref b0] below meth c H locs cells slots Q (F0 m pc ls [.ref (ad 60), .int (iI b), .int (iI a), .ref (ad 0)]) := by
  obtain ⟨⟨hx, hb, hml, hown, hts⟩, hlf, hE, hY⟩ := hC
  have he : yE cy ad ya yi pr 0 = some (.inr (1, yO ad yi)) := yE_0
  have hw0 := hw.part yE_60
  have hyB := hR.yBd
  have htO := hR.tOKd
  have hgn := hR.2.2.2.1
  by_cases hq0 : isP ma a
  · obtain ⟨i, p0, rfl, hi, h7, hp0, ht, hsc, hpb, e7, e8, e9, e10⟩ := hR.good hq0
    by_cases h3 : 0 ≤ b ∧ b ≤ 900
    · have hV := w_L_move l D cy AY ad H (i : Int) b hw he (c_X1_move_ok l D cy (fun q => AY q ∧ q ≠ ad 60) ad ya yi pr H (ya 0) i p0 b hw0 hi hp0 hpb h3 hyB hgn htO) (P := PY cy ad (UR mi ma (if isP ma (i : Int) then (if 0 ≤ b ∧ b ≤ 900 then 0 else 2) else 1) (fun z mi2 mb => mi2 = va_up mi 0 0 ∧ mb = va_up ma 8 (va_up (ma 8) (i : Int).toNat b) ∧ z = ma 8 (i : Int).toNat))) (by
        rintro z H1 ⟨q, hw1, hsr, hz⟩
        exact ⟨ad, _, rfl, yE_60, hw1, PY_u ((if_pos hq0).trans (if_pos h3)) (fun z2 mi2 mb r => ⟨by rw [r.1]; exact (r_move hR hi h7 ht h3 (by rw [r.2.1, Int.toNat_natCast]) hsr).c0 0, by rw [r.2.2, hz, Int.toNat_natCast, ht.1]⟩) rfl⟩)
      refine zcalliX hY (vx_runSX (As := [.ref (ad 0), .int (iI (i : Int)), .int (iI b), .ref (ad 60)]) (rest := []) ⟨hx, hb, hml, hown, hts⟩ hV (vx_cwSW 4 hts gL_law_L_move rfl rfl rfl (by decide +kernel) ⟨(Nat.le_of_ble_eq_true rfl), (Nat.le_of_ble_eq_true rfl)⟩) (zPSn hY hE hS) rfl rfl hsz rfl (lv_room (Nat.le_of_ble_eq_true rfl)) hdg ⟨Nat.le_trans (Nat.add_le_add_left (by decide) _) hc, Nat.le_trans (Nat.add_le_add_left (by decide) _) hs⟩) hS (fun k H1 locs1 hk hq hz1 hk1 hS1 => ?_)
      obtain ⟨rfl, z, ad2, e2, fo2, hz, hP, hf2, h60, hn60, hw2⟩ := hq
      exact W.widen (k := cells + 3) (n := slots + 21) (by omega) (by omega) (kk _ H1 locs1 hk (GO_ok hP hf2 h60 hw2) hz1 hk1 hS1)
    · have hV := w_L_move_2 l D cy AY ad H (i : Int) b hw he (c_x_X1_move_2 l hlf D cy (fun q => AY q ∧ q ≠ ad 60) ad ya yi pr H i p0 b hw0 hi hp0 zb h3)
      refine zcalliX hY (vx_runSX (As := [.ref (ad 0), .int (iI (i : Int)), .int (iI b), .ref (ad 60)]) (rest := []) ⟨hx, hb, hml, hown, hts⟩ hV (vx_cwSW 4 hts gL_law_L_move rfl rfl rfl (by decide +kernel) ⟨(Nat.le_of_ble_eq_true rfl), (Nat.le_of_ble_eq_true rfl)⟩) (zPSn hY hE hS) rfl rfl hsz rfl (lv_room (Nat.le_of_ble_eq_true rfl)) hdg ⟨Nat.le_trans (Nat.add_le_add_left (by decide) _) hc, Nat.le_trans (Nat.add_le_add_left (by decide) _) hs⟩) hS (fun k H1 locs1 hk hq hz1 hk1 hS1 => ?_)
      obtain ⟨rfl, hw2⟩ := hq
      exact W.widen (k := cells + 3) (n := slots + 21) (by omega) (by omega) (kk _ H1 locs1 hk (GO_x (by decide) hR hw2 (UR_x ((if_pos hq0).trans (if_neg h3)) (by decide))) hz1 hk1 hS1)
  · have hV := w_L_move_1 l D cy AY ad H a b hw he (c_x_X1_move_1 l hlf D cy (fun q => AY q ∧ q ≠ ad 60) ad ya yi pr H a b hw0 za zb (hR.bad hq0))
    refine zcalliX hY (vx_runSX (As := [.ref (ad 0), .int (iI a), .int (iI b), .ref (ad 60)]) (rest := []) ⟨hx, hb, hml, hown, hts⟩ hV (vx_cwSW 4 hts gL_law_L_move rfl rfl rfl (by decide +kernel) ⟨(Nat.le_of_ble_eq_true rfl), (Nat.le_of_ble_eq_true rfl)⟩) (zPSn hY hE hS) rfl rfl hsz rfl (lv_room (Nat.le_of_ble_eq_true rfl)) hdg ⟨Nat.le_trans (Nat.add_le_add_left (by decide) _) hc, Nat.le_trans (Nat.add_le_add_left (by decide) _) hs⟩) hS (fun k H1 locs1 hk hq hz1 hk1 hS1 => ?_)
    obtain ⟨rfl, hw2⟩ := hq
    exact W.widen (k := cells + 3) (n := slots + 21) (by omega) (by omega) (kk _ H1 locs1 hk (GO_x (by decide) hR hw2 (UR_x (if_neg hq0) (by decide))) hz1 hk1 hS1)

set_option maxHeartbeats 4000000 in
set_option maxRecDepth 100000 in
theorem s_cancel {p : Program} {l : Launch} {e : Env} {s : State} {m : MethodId} {below : List Frame} {meth : Method} {c : Code} {b0 : Nat} {D : va_G} {cy : Nat → ClassId} {A0 AY : Nat → Prop} (hC : LC p l s m c b0 D cy A0 AY) {H : Heap} {locs : List Loc} {cells slots : Nat} {Q : State → Prop} {ls : Array Slot} {pc : Nat} (hS : va_S A0 s.heap H locs) (hsz : ls.size = 7) (hc : cells + 3 ≤ room_1.cells) (hs : slots + 21 ≤ room_1.slots) {ad : Nat → Nat} {mi : Nat → Int} {ma ya : Nat → Nat → Int} {yi : Nat → Int} {pr : Nat → Option PS} {fo : Nat → Int64} (hw : zW D AY ad (yO60 cy ad ya yi pr fo) H) (hR : RR mi ma ya yi pr) (hAf : ∀ q, H.size ≤ q → AY q) (a : Int) (za : zr a) (hdg : decode cL_law pc = .ok (.invokestatic 122, 3))
    (kk : ∀ (k : Int) (H1 : Heap) (locs1 : List Loc), zr k → GO D cy AY (ad 0) (ad 60) (UR mi ma (if isP ma a then 0 else 1) (fun z mi2 mb => mi2 = va_up mi 0 0 ∧ mb = va_up ma 7 (va_up (ma 7) a.toNat 0) ∧ z = ma 10 a.toNat)) k H1 → H.size ≤ H1.size → (∀ q : Nat, q < H.size → ¬ AY q → H1[q]? = H[q]?) → va_S A0 s.heap H1 locs1 → W p l e room_1 s m #[Value.ref b0] below meth c H1 locs1 (cells + 3) (slots + 21) Q (F0 m (pc + 3) ls [.int (iI k)])) :
    W p l e room_1 s m #[Value.ref b0] below meth c H locs cells slots Q (F0 m pc ls [.ref (ad 60), .int (iI a), .ref (ad 0)]) := by
  obtain ⟨⟨hx, hb, hml, hown, hts⟩, hlf, hE, hY⟩ := hC
  have he : yE cy ad ya yi pr 0 = some (.inr (1, yO ad yi)) := yE_0
  have hw0 := hw.part yE_60
  have hyB := hR.yBd
  have htO := hR.tOKd
  have hgn := hR.2.2.2.1
  by_cases hq0 : isP ma a
  · obtain ⟨i, p0, rfl, hi, h7, hp0, ht, hsc, hpb, e7, e8, e9, e10⟩ := hR.good hq0
    have hV := w_L_cancel l D cy AY ad H (i : Int) hw he (c_X1_cancel_ok l D cy (fun q => AY q ∧ q ≠ ad 60) ad ya yi pr H i p0 hw0 hi hp0 hpb) (P := PY cy ad (UR mi ma (if isP ma (i : Int) then 0 else 1) (fun z mi2 mb => mi2 = va_up mi 0 0 ∧ mb = va_up ma 7 (va_up (ma 7) (i : Int).toNat 0) ∧ z = ma 10 (i : Int).toNat))) (by
        rintro z H1 ⟨hw1, hz⟩
        exact ⟨ad, _, rfl, yE_60, hw1, PY_u (if_pos hq0) (fun z2 mi2 mb r => ⟨by rw [r.1]; exact (RR.del hR hi (by rw [r.2.1, Int.toNat_natCast])).c0 0, by rw [r.2.2, hz, Int.toNat_natCast, ht.2.2.1]⟩) rfl⟩)
    refine zcalliX hY (vx_runSX (As := [.ref (ad 0), .int (iI (i : Int)), .ref (ad 60)]) (rest := []) ⟨hx, hb, hml, hown, hts⟩ hV (vx_cwSW 3 hts gL_law_L_cancel rfl rfl rfl (by decide +kernel) ⟨(Nat.le_of_ble_eq_true rfl), (Nat.le_of_ble_eq_true rfl)⟩) (zPSn hY hE hS) rfl rfl hsz rfl (lv_room (Nat.le_of_ble_eq_true rfl)) hdg ⟨Nat.le_trans (Nat.add_le_add_left (by decide) _) hc, Nat.le_trans (Nat.add_le_add_left (by decide) _) hs⟩) hS (fun k H1 locs1 hk hq hz1 hk1 hS1 => ?_)
    obtain ⟨rfl, z, ad2, e2, fo2, hz, hP, hf2, h60, hn60, hw2⟩ := hq
    exact W.widen (k := cells + 3) (n := slots + 21) (by omega) (by omega) (kk _ H1 locs1 hk (GO_ok hP hf2 h60 hw2) hz1 hk1 hS1)
  · have hV := w_L_cancel_1 l D cy AY ad H a hw he (c_x_X1_cancel l hlf D cy (fun q => AY q ∧ q ≠ ad 60) ad ya yi pr H a hw0 za (hR.bad hq0))
    refine zcalliX hY (vx_runSX (As := [.ref (ad 0), .int (iI a), .ref (ad 60)]) (rest := []) ⟨hx, hb, hml, hown, hts⟩ hV (vx_cwSW 3 hts gL_law_L_cancel rfl rfl rfl (by decide +kernel) ⟨(Nat.le_of_ble_eq_true rfl), (Nat.le_of_ble_eq_true rfl)⟩) (zPSn hY hE hS) rfl rfl hsz rfl (lv_room (Nat.le_of_ble_eq_true rfl)) hdg ⟨Nat.le_trans (Nat.add_le_add_left (by decide) _) hc, Nat.le_trans (Nat.add_le_add_left (by decide) _) hs⟩) hS (fun k H1 locs1 hk hq hz1 hk1 hS1 => ?_)
    obtain ⟨rfl, hw2⟩ := hq
    exact W.widen (k := cells + 3) (n := slots + 21) (by omega) (by omega) (kk _ H1 locs1 hk (GO_x (by decide) hR hw2 (UR_x (if_neg hq0) (by decide))) hz1 hk1 hS1)

set_option maxHeartbeats 4000000 in
set_option maxRecDepth 100000 in
theorem s_delay {p : Program} {l : Launch} {e : Env} {s : State} {m : MethodId} {below : List Frame} {meth : Method} {c : Code} {b0 : Nat} {D : va_G} {cy : Nat → ClassId} {A0 AY : Nat → Prop} (hC : LC p l s m c b0 D cy A0 AY) {H : Heap} {locs : List Loc} {cells slots : Nat} {Q : State → Prop} {ls : Array Slot} {pc : Nat} (hS : va_S A0 s.heap H locs) (hsz : ls.size = 7) (hc : cells + 3 ≤ room_1.cells) (hs : slots + 21 ≤ room_1.slots) {ad : Nat → Nat} {mi : Nat → Int} {ma ya : Nat → Nat → Int} {yi : Nat → Int} {pr : Nat → Option PS} {fo : Nat → Int64} (hw : zW D AY ad (yO60 cy ad ya yi pr fo) H) (hR : RR mi ma ya yi pr) (hAf : ∀ q, H.size ≤ q → AY q) (a b d : Int) (za : zr a) (zb : zr b) (zd : zr d) (hdg : decode cL_law pc = .ok (.invokestatic 125, 3))
    (kk : ∀ (k : Int) (H1 : Heap) (locs1 : List Loc), zr k → GO D cy AY (ad 0) (ad 60) (UR mi ma (if isP ma a then (if (0 ≤ b ∧ b ≤ ma 9 a.toNat - 1) ∧ (1 ≤ d ∧ d ≤ 9) then (if ma 12 a.toNat = 4 then 3 else 0) else 2) else 1) (fun z mi2 mb => mi2 = va_up mi 0 0 ∧ dlR a.toNat b d ma mb ∧ z = ma 12 a.toNat + 1)) k H1 → H.size ≤ H1.size → (∀ q : Nat, q < H.size → ¬ AY q → H1[q]? = H[q]?) → va_S A0 s.heap H1 locs1 → W p l e room_1 s m #[Value.ref b0] below meth c H1 locs1 (cells + 3) (slots + 21) Q (F0 m (pc + 3) ls [.int (iI k)])) :
    W p l e room_1 s m #[Value.ref b0] below meth c H locs cells slots Q (F0 m pc ls [.ref (ad 60), .int (iI d), .int (iI b), .int (iI a), .ref (ad 0)]) := by
  obtain ⟨⟨hx, hb, hml, hown, hts⟩, hlf, hE, hY⟩ := hC
  have he : yE cy ad ya yi pr 0 = some (.inr (1, yO ad yi)) := yE_0
  have hw0 := hw.part yE_60
  have hyB := hR.yBd
  have htO := hR.tOKd
  have hgn := hR.2.2.2.1
  by_cases hq0 : isP ma a
  · obtain ⟨i, p0, rfl, hi, h7, hp0, ht, hsc, hpb, e7, e8, e9, e10⟩ := hR.good hq0
    have hv := ht.2.1
    have hbk := ht.2.2.2.2.1
    have hti : (i : Int).toNat = i := Int.toNat_natCast i
    have hP := hR.1.2.2.2 i hi h7
    by_cases h3 : (0 ≤ b ∧ b ≤ ma 9 (i : Int).toNat - 1) ∧ (1 ≤ d ∧ d ≤ 9)
    · by_cases h4 : ma 12 (i : Int).toNat = 4
      · have hV := w_L_delay_3 l D cy AY ad H (i : Int) b d hw he (c_x_X1_delay_3 l hlf D cy (fun q => AY q ∧ q ≠ ad 60) ad ya yi pr H i p0 b d hw0 hi hp0 hpb (by rw [hv, ← hti]; exact h3.1) h3.2 (by rw [hbk, ← hti]; exact h4))
        refine zcalliX hY (vx_runSX (As := [.ref (ad 0), .int (iI (i : Int)), .int (iI b), .int (iI d), .ref (ad 60)]) (rest := []) ⟨hx, hb, hml, hown, hts⟩ hV (vx_cwSW 5 hts gL_law_L_delay rfl rfl rfl (by decide +kernel) ⟨(Nat.le_of_ble_eq_true rfl), (Nat.le_of_ble_eq_true rfl)⟩) (zPSn hY hE hS) rfl rfl hsz rfl (lv_room (Nat.le_of_ble_eq_true rfl)) hdg ⟨Nat.le_trans (Nat.add_le_add_left (by decide) _) hc, Nat.le_trans (Nat.add_le_add_left (by decide) _) hs⟩) hS (fun k H1 locs1 hk hq hz1 hk1 hS1 => ?_)
        obtain ⟨rfl, hw2⟩ := hq
        exact W.widen (k := cells + 3) (n := slots + 21) (by omega) (by omega) (kk _ H1 locs1 hk (GO_x (by decide) hR hw2 (UR_x ((if_pos hq0).trans ((if_pos h3).trans (if_pos h4))) (by decide))) hz1 hk1 hS1)
      · have hV := w_L_delay l D cy AY ad H (i : Int) b d hw he (c_X1_delay_ok l D cy (fun q => AY q ∧ q ≠ ad 60) ad ya yi pr H (ya 0) i p0 b d hw0 hi hp0 hpb (by rw [hbk, ← hti]; have := (hP.2.2.2.2.1.2); rw [hti] at h4 ⊢; omega) (by rw [hv, ← hti]; exact h3.1) h3.2 hyB hgn htO) (P := PY cy ad (UR mi ma (if isP ma (i : Int) then (if (0 ≤ b ∧ b ≤ ma 9 (i : Int).toNat - 1) ∧ (1 ≤ d ∧ d ≤ 9) then (if ma 12 (i : Int).toNat = 4 then 3 else 0) else 2) else 1) (fun z mi2 mb => mi2 = va_up mi 0 0 ∧ dlR (i : Int).toNat b d ma mb ∧ z = ma 12 (i : Int).toNat + 1))) (by
          rintro z H1 ⟨qa, q, hw1, had, hsr, hz⟩
          have hd4 : ma 12 i < 4 := by
            rw [hti] at h4
            have := hP.2.2.2.2.1.2
            omega
          have hb9 : 0 ≤ b ∧ b ≤ 199 := by
            rw [hti] at h3
            have := hP.2.1
            omega
          exact ⟨ad, _, rfl, yE_60, hw1, PY_u ((if_pos hq0).trans ((if_pos h3).trans (if_neg h4))) (fun z2 mi2 mb r => ⟨by rw [r.1]; exact (r_delay hR hi h7 ht hd4 hb9 h3.2 (by rw [← hti]; exact r.2.1) had hsr).c0 0, by rw [r.2.2, hz, hti, hbk]⟩) rfl⟩)
        refine zcalliX hY (vx_runSX (As := [.ref (ad 0), .int (iI (i : Int)), .int (iI b), .int (iI d), .ref (ad 60)]) (rest := []) ⟨hx, hb, hml, hown, hts⟩ hV (vx_cwSW 5 hts gL_law_L_delay rfl rfl rfl (by decide +kernel) ⟨(Nat.le_of_ble_eq_true rfl), (Nat.le_of_ble_eq_true rfl)⟩) (zPSn hY hE hS) rfl rfl hsz rfl (lv_room (Nat.le_of_ble_eq_true rfl)) hdg ⟨Nat.le_trans (Nat.add_le_add_left (by decide) _) hc, Nat.le_trans (Nat.add_le_add_left (by decide) _) hs⟩) hS (fun k H1 locs1 hk hq hz1 hk1 hS1 => ?_)
        obtain ⟨rfl, z, ad2, e2, fo2, hz, hP, hf2, h60, hn60, hw2⟩ := hq
        exact W.widen (k := cells + 3) (n := slots + 21) (by omega) (by omega) (kk _ H1 locs1 hk (GO_ok hP hf2 h60 hw2) hz1 hk1 hS1)
    · have hV := w_L_delay_2 l D cy AY ad H (i : Int) b d hw he (c_x_X1_delay_2 l hlf D cy (fun q => AY q ∧ q ≠ ad 60) ad ya yi pr H i p0 b d hw0 hi hp0 hpb zb zd (by rw [hv]; rw [hti] at h3; omega))
      refine zcalliX hY (vx_runSX (As := [.ref (ad 0), .int (iI (i : Int)), .int (iI b), .int (iI d), .ref (ad 60)]) (rest := []) ⟨hx, hb, hml, hown, hts⟩ hV (vx_cwSW 5 hts gL_law_L_delay rfl rfl rfl (by decide +kernel) ⟨(Nat.le_of_ble_eq_true rfl), (Nat.le_of_ble_eq_true rfl)⟩) (zPSn hY hE hS) rfl rfl hsz rfl (lv_room (Nat.le_of_ble_eq_true rfl)) hdg ⟨Nat.le_trans (Nat.add_le_add_left (by decide) _) hc, Nat.le_trans (Nat.add_le_add_left (by decide) _) hs⟩) hS (fun k H1 locs1 hk hq hz1 hk1 hS1 => ?_)
      obtain ⟨rfl, hw2⟩ := hq
      exact W.widen (k := cells + 3) (n := slots + 21) (by omega) (by omega) (kk _ H1 locs1 hk (GO_x (by decide) hR hw2 (UR_x ((if_pos hq0).trans (if_neg h3)) (by decide))) hz1 hk1 hS1)
  · have hV := w_L_delay_1 l D cy AY ad H a b d hw he (c_x_X1_delay_1 l hlf D cy (fun q => AY q ∧ q ≠ ad 60) ad ya yi pr H a b d hw0 za zb zd (hR.bad hq0))
    refine zcalliX hY (vx_runSX (As := [.ref (ad 0), .int (iI a), .int (iI b), .int (iI d), .ref (ad 60)]) (rest := []) ⟨hx, hb, hml, hown, hts⟩ hV (vx_cwSW 5 hts gL_law_L_delay rfl rfl rfl (by decide +kernel) ⟨(Nat.le_of_ble_eq_true rfl), (Nat.le_of_ble_eq_true rfl)⟩) (zPSn hY hE hS) rfl rfl hsz rfl (lv_room (Nat.le_of_ble_eq_true rfl)) hdg ⟨Nat.le_trans (Nat.add_le_add_left (by decide) _) hc, Nat.le_trans (Nat.add_le_add_left (by decide) _) hs⟩) hS (fun k H1 locs1 hk hq hz1 hk1 hS1 => ?_)
    obtain ⟨rfl, hw2⟩ := hq
    exact W.widen (k := cells + 3) (n := slots + 21) (by omega) (by omega) (kk _ H1 locs1 hk (GO_x (by decide) hR hw2 (UR_x (if_neg hq0) (by decide))) hz1 hk1 hS1)

set_option maxHeartbeats 4000000 in
set_option maxRecDepth 100000 in
theorem s_plan {p : Program} {l : Launch} {e : Env} {s : State} {m : MethodId} {below : List Frame} {meth : Method} {c : Code} {b0 : Nat} {D : va_G} {cy : Nat → ClassId} {A0 AY : Nat → Prop} (hC : LC p l s m c b0 D cy A0 AY) {H : Heap} {locs : List Loc} {cells slots : Nat} {Q : State → Prop} {ls : Array Slot} {pc : Nat} (hS : va_S A0 s.heap H locs) (hsz : ls.size = 7) (hc : cells + 3 ≤ room_1.cells) (hs : slots + 21 ≤ room_1.slots) {ad : Nat → Nat} {mi : Nat → Int} {ma ya : Nat → Nat → Int} {yi : Nat → Int} {pr : Nat → Option PS} {fo : Nat → Int64} (hw : zW D AY ad (yO60 cy ad ya yi pr fo) H) (hR : RR mi ma ya yi pr) (hAf : ∀ q, H.size ≤ q → AY q) (a b d f : Int) (za : zr a) (zb : zr b) (zd : zr d) (zf : zr f) (hdg : decode cL_law pc = .ok (.invokestatic 115, 3))
    (kk : ∀ (k : Int) (H1 : Heap) (locs1 : List Loc), zr k → GO D cy AY (ad 0) (ad 60) (PR mi ma a b d f) k H1 → H.size ≤ H1.size → (∀ q : Nat, q < H.size → ¬ AY q → H1[q]? = H[q]?) → va_S A0 s.heap H1 locs1 → W p l e room_1 s m #[Value.ref b0] below meth c H1 locs1 (cells + 3) (slots + 21) Q (F0 m (pc + 3) ls [.int (iI k)])) :
    W p l e room_1 s m #[Value.ref b0] below meth c H locs cells slots Q (F0 m pc ls [.ref (ad 60), .int (iI f), .int (iI d), .int (iI b), .int (iI a), .ref (ad 0)]) := by
  obtain ⟨⟨hx, hb, hml, hown, hts⟩, hlf, hE, hY⟩ := hC
  have he : yE cy ad ya yi pr 0 = some (.inr (1, yO ad yi)) := yE_0
  have hw0 := hw.part yE_60
  have hyB := hR.yBd
  have htO := hR.tOKd
  have hgn := hR.2.2.2.1
  have h60 : ad 60 < H.size := (hw.1 60 _ (up_same _ _ _)).2.1.lt
  by_cases h0 : plOK a b d f
  · by_cases hfree : ∃ i, i < 10 ∧ pr i = none
    · have hV := w_L_plan l D cy AY ad H a b d f hw he (c_X1_plan_ok l D cy (fun q => AY q ∧ q ≠ ad 60) ad ya yi pr H (ya 0) a b d f hw0 h0 hR.2.2.2.2.1 hfree (fun q hq => ⟨hAf q hq, by omega⟩) hyB hgn htO) (P := PY cy ad (PR mi ma a b d f)) (by
        rintro z H1 ⟨ad2, n, q, hz, hn, hn1, hn2, had, hw1, hsr, -⟩
        have h10 : va_up pr n (some q) 10 = none := (up_ne _ _ (by omega)).trans hR.2.2.2.2.1
        refine ⟨va_up ad2 60 (ad 60), _, up_same _ _ _, yE_60, hw1.reAd h10 (ad 60), ya, yi, _, rfl, (up_ne _ _ (by decide)).trans (had 0 (by omega) (by omega)), ?_⟩
        rintro z2 c2 mi2 mb ⟨nf, hfr, hc2, ⟨r1, -⟩ | ⟨r1, r2, r3, r4⟩⟩
        · exfalso
          rw [if_pos h0] at hc2
          by_cases c10 : nf = 10
          · subst c10
            exact hR.full hfr n hn hn2
          · rw [if_neg c10] at hc2
            exact r1 hc2
        · have hnf : nf < 10 := by
            rw [if_pos h0] at hc2
            have := hfr.1
            rcases Nat.lt_or_ge nf 10 with c | c
            · exact c
            · rw [if_pos (by omega)] at hc2
              omega
          have e := hR.free hfr hnf hn hn1 hn2
          subst e
          exact ⟨r1, by rw [r2]; exact (r_plan hR h0 hn r4 hsr).c0 0, by rw [r3, hz]⟩)
      refine zcalliX hY (vx_runSX (As := [.ref (ad 0), .int (iI a), .int (iI b), .int (iI d), .int (iI f), .ref (ad 60)]) (rest := []) ⟨hx, hb, hml, hown, hts⟩ hV (vx_cwSW 6 hts gL_law_L_plan rfl rfl rfl (by decide +kernel) ⟨(Nat.le_of_ble_eq_true rfl), (Nat.le_of_ble_eq_true rfl)⟩) (zPSn hY hE hS) rfl rfl hsz rfl (lv_room (Nat.le_of_ble_eq_true rfl)) hdg ⟨Nat.le_trans (Nat.add_le_add_left (by decide) _) hc, Nat.le_trans (Nat.add_le_add_left (by decide) _) hs⟩) hS (fun k H1 locs1 hk hq hz1 hk1 hS1 => ?_)
      obtain ⟨rfl, z, ad2, e2, fo2, hz, hP, hf2, h60, hn60, hw2⟩ := hq
      exact W.widen (k := cells + 3) (n := slots + 21) (by omega) (by omega) (kk _ H1 locs1 hk (GO_ok hP hf2 h60 hw2) hz1 hk1 hS1)
    · have hV := w_L_plan_2 l D cy AY ad H a b d f hw he (c_x_X1_plan_2 l hlf D cy (fun q => AY q ∧ q ≠ ad 60) ad ya yi pr H a b d f hw0 za zb zd zf h0 (fun i hi hn => hfree ⟨i, hi, hn⟩))
      refine zcalliX hY (vx_runSX (As := [.ref (ad 0), .int (iI a), .int (iI b), .int (iI d), .int (iI f), .ref (ad 60)]) (rest := []) ⟨hx, hb, hml, hown, hts⟩ hV (vx_cwSW 6 hts gL_law_L_plan rfl rfl rfl (by decide +kernel) ⟨(Nat.le_of_ble_eq_true rfl), (Nat.le_of_ble_eq_true rfl)⟩) (zPSn hY hE hS) rfl rfl hsz rfl (lv_room (Nat.le_of_ble_eq_true rfl)) hdg ⟨Nat.le_trans (Nat.add_le_add_left (by decide) _) hc, Nat.le_trans (Nat.add_le_add_left (by decide) _) hs⟩) hS (fun k H1 locs1 hk hq hz1 hk1 hS1 => ?_)
      obtain ⟨rfl, hw2⟩ := hq
      exact W.widen (k := cells + 3) (n := slots + 21) (by omega) (by omega) (kk _ H1 locs1 hk (GO_x (by decide) hR hw2 (PR_2 hR h0 (fun i hi hn => hfree ⟨i, hi, hn⟩))) hz1 hk1 hS1)
  · have hV := w_L_plan_1 l D cy AY ad H a b d f hw he (c_x_X1_plan_1 l hlf D cy (fun q => AY q ∧ q ≠ ad 60) ad ya yi pr H a b d f hw0 za zb zd zf h0)
    refine zcalliX hY (vx_runSX (As := [.ref (ad 0), .int (iI a), .int (iI b), .int (iI d), .int (iI f), .ref (ad 60)]) (rest := []) ⟨hx, hb, hml, hown, hts⟩ hV (vx_cwSW 6 hts gL_law_L_plan rfl rfl rfl (by decide +kernel) ⟨(Nat.le_of_ble_eq_true rfl), (Nat.le_of_ble_eq_true rfl)⟩) (zPSn hY hE hS) rfl rfl hsz rfl (lv_room (Nat.le_of_ble_eq_true rfl)) hdg ⟨Nat.le_trans (Nat.add_le_add_left (by decide) _) hc, Nat.le_trans (Nat.add_le_add_left (by decide) _) hs⟩) hS (fun k H1 locs1 hk hq hz1 hk1 hS1 => ?_)
    obtain ⟨rfl, hw2⟩ := hq
    exact W.widen (k := cells + 3) (n := slots + 21) (by omega) (by omega) (kk _ H1 locs1 hk (GO_x (by decide) hR hw2 (PR_1 h0)) hz1 hk1 hS1)

set_option maxHeartbeats 4000000 in
set_option maxRecDepth 100000 in
theorem s_pours {p : Program} {l : Launch} {e : Env} {s : State} {m : MethodId} {below : List Frame} {meth : Method} {c : Code} {b0 : Nat} {D : va_G} {cy : Nat → ClassId} {A0 AY : Nat → Prop} (hC : LC p l s m c b0 D cy A0 AY) {H : Heap} {locs : List Loc} {cells slots : Nat} {Q : State → Prop} {ls : Array Slot} {pc : Nat} (hS : va_S A0 s.heap H locs) (hsz : ls.size = 7) (hc : cells + 3 ≤ room_1.cells) (hs : slots + 21 ≤ room_1.slots) {ad : Nat → Nat} {mi : Nat → Int} {ma ya : Nat → Nat → Int} {yi : Nat → Int} {pr : Nat → Option PS} {fo : Nat → Int64} (hw : zW D AY ad (yO60 cy ad ya yi pr fo) H) (hR : RR mi ma ya yi pr) (hAf : ∀ q, H.size ≤ q → AY q) (hdg : decode cL_law pc = .ok (.invokevirtual 129, 3))
    (kk : ∀ (k : Int) (H1 : Heap) (locs1 : List Loc), zr k → GD D cy AY (ad 0) (ad 60) (DR mi ma (sl (ma 7) 10)) k H1 → H.size ≤ H1.size → (∀ q : Nat, q < H.size → ¬ AY q → H1[q]? = H[q]?) → va_S A0 s.heap H1 locs1 → W p l e room_1 s m #[Value.ref b0] below meth c H1 locs1 (cells + 3) (slots + 21) Q (F0 m (pc + 3) ls [.int (iI k)])) :
    W p l e room_1 s m #[Value.ref b0] below meth c H locs cells slots Q (F0 m pc ls [.ref (ad 0)]) := by
  obtain ⟨⟨hx, hb, hml, hown, hts⟩, hlf, hE, hY⟩ := hC
  have hw0 := hw.part yE_60
  have hyB := hR.yBd
  have hBA : ∀ q, (AY q ∧ q ≠ ad 60) → A0 q := fun q h => hY q h.1
  refine zcalliN hBA (va_runV (As := []) (rest := []) ⟨hx, hb, hml, hown, hts⟩ (c_X1_pours_ok l D cy (fun q => AY q ∧ q ≠ ad 60) ad ya yi pr H hw0) (cwV 0 hts gL_law_X1_pours rfl rfl rfl (by decide +kernel) ⟨(Nat.le_of_ble_eq_true rfl), (Nat.le_of_ble_eq_true rfl)⟩) (zPVm hBA hE hS hw0 (ci := 1) (k0 := 0) rfl yE_0) rfl rfl hsz rfl (lv_room (Nat.le_of_ble_eq_true rfl)) hdg ⟨Nat.le_trans (Nat.add_le_add_left (by decide) _) hc, Nat.le_trans (Nat.add_le_add_left (by decide) _) hs⟩) hS (fun k H1 locs1 hk hq hz1 hk1 hS1 => ?_)
  have hkY : ∀ q : Nat, q < H.size → ¬ AY q → H1[q]? = H[q]? := fun q h1 h2 => hk1 q h1 (fun h => h2 h.1)
  obtain ⟨rfl, hz⟩ := hq
  have hw2 := hw.join (hw0) rfl yE_60 hk1
  refine W.widen (k := cells + 3) (n := slots + 21) (by omega) (by omega) (kk _ H1 locs1 hk ⟨ad, _, yi, pr, fo, rfl, rfl, hw2, ?_⟩ hz1 hkY hS1)
  rintro z c2 mi2 mb ⟨r1, r2, r3⟩
  exact ⟨by rw [r1]; exact (RR.sU (hR) r2).c0 0, by rw [r3, hz, hR.cnt 10 (Nat.le_refl _)]⟩

set_option maxHeartbeats 4000000 in
set_option maxRecDepth 100000 in
theorem s_peak {p : Program} {l : Launch} {e : Env} {s : State} {m : MethodId} {below : List Frame} {meth : Method} {c : Code} {b0 : Nat} {D : va_G} {cy : Nat → ClassId} {A0 AY : Nat → Prop} (hC : LC p l s m c b0 D cy A0 AY) {H : Heap} {locs : List Loc} {cells slots : Nat} {Q : State → Prop} {ls : Array Slot} {pc : Nat} (hS : va_S A0 s.heap H locs) (hsz : ls.size = 7) (hc : cells + 3 ≤ room_1.cells) (hs : slots + 21 ≤ room_1.slots) {ad : Nat → Nat} {mi : Nat → Int} {ma ya : Nat → Nat → Int} {yi : Nat → Int} {pr : Nat → Option PS} {fo : Nat → Int64} (hw : zW D AY ad (yO60 cy ad ya yi pr fo) H) (hR : RR mi ma ya yi pr) (hAf : ∀ q, H.size ≤ q → AY q) (hdg : decode cL_law pc = .ok (.invokevirtual 148, 3))
    (kk : ∀ (k : Int) (H1 : Heap) (locs1 : List Loc), zr k → GD D cy AY (ad 0) (ad 60) (DR mi ma (pkS mi ma)) k H1 → H.size ≤ H1.size → (∀ q : Nat, q < H.size → ¬ AY q → H1[q]? = H[q]?) → va_S A0 s.heap H1 locs1 → W p l e room_1 s m #[Value.ref b0] below meth c H1 locs1 (cells + 3) (slots + 21) Q (F0 m (pc + 3) ls [.int (iI k)])) :
    W p l e room_1 s m #[Value.ref b0] below meth c H locs cells slots Q (F0 m pc ls [.ref (ad 0)]) := by
  obtain ⟨⟨hx, hb, hml, hown, hts⟩, hlf, hE, hY⟩ := hC
  have hw0 := hw.part yE_60
  have hyB := hR.yBd
  have hBA : ∀ q, (AY q ∧ q ≠ ad 60) → A0 q := fun q h => hY q h.1
  refine zcalliN hBA (va_runV (As := []) (rest := []) ⟨hx, hb, hml, hown, hts⟩ (c_X1_peak_ok l D cy (fun q => AY q ∧ q ≠ ad 60) ad ya yi pr H hw0 hR.pAd) (cwV 0 hts gL_law_X1_peak rfl rfl rfl (by decide +kernel) ⟨(Nat.le_of_ble_eq_true rfl), (Nat.le_of_ble_eq_true rfl)⟩) (zPVm hBA hE hS hw0 (ci := 1) (k0 := 0) rfl yE_0) rfl rfl hsz rfl (lv_room (Nat.le_of_ble_eq_true rfl)) hdg ⟨Nat.le_trans (Nat.add_le_add_left (by decide) _) hc, Nat.le_trans (Nat.add_le_add_left (by decide) _) hs⟩) hS (fun k H1 locs1 hk hq hz1 hk1 hS1 => ?_)
  have hkY : ∀ q : Nat, q < H.size → ¬ AY q → H1[q]? = H[q]? := fun q h1 h2 => hk1 q h1 (fun h => h2 h.1)
  obtain ⟨yb, hw1, hyb, hz⟩ := hq
  have hw2 := hw.join (hw1) rfl yE_60 hk1
  refine W.widen (k := cells + 3) (n := slots + 21) (by omega) (by omega) (kk _ H1 locs1 hk ⟨ad, _, yi, pr, fo, rfl, rfl, hw2, ?_⟩ hz1 hkY hS1)
  rintro z c2 mi2 mb ⟨r1, r2, r3⟩
  exact ⟨by rw [r1]; exact (RR.sU (hR.yas (hyb 0 (by decide)) (hyb 1 (by decide))) r2).c0 0, by rw [r3, hz, hR.pk]⟩

set_option maxHeartbeats 4000000 in
set_option maxRecDepth 100000 in
theorem s_peakByOverlaps {p : Program} {l : Launch} {e : Env} {s : State} {m : MethodId} {below : List Frame} {meth : Method} {c : Code} {b0 : Nat} {D : va_G} {cy : Nat → ClassId} {A0 AY : Nat → Prop} (hC : LC p l s m c b0 D cy A0 AY) {H : Heap} {locs : List Loc} {cells slots : Nat} {Q : State → Prop} {ls : Array Slot} {pc : Nat} (hS : va_S A0 s.heap H locs) (hsz : ls.size = 7) (hc : cells + 3 ≤ room_1.cells) (hs : slots + 21 ≤ room_1.slots) {ad : Nat → Nat} {mi : Nat → Int} {ma ya : Nat → Nat → Int} {yi : Nat → Int} {pr : Nat → Option PS} {fo : Nat → Int64} (hw : zW D AY ad (yO60 cy ad ya yi pr fo) H) (hR : RR mi ma ya yi pr) (hAf : ∀ q, H.size ≤ q → AY q) (hdg : decode cL_law pc = .ok (.invokevirtual 152, 3))
    (kk : ∀ (k : Int) (H1 : Heap) (locs1 : List Loc), zr k → GD D cy AY (ad 0) (ad 60) (DR mi ma (pkS mi ma)) k H1 → H.size ≤ H1.size → (∀ q : Nat, q < H.size → ¬ AY q → H1[q]? = H[q]?) → va_S A0 s.heap H1 locs1 → W p l e room_1 s m #[Value.ref b0] below meth c H1 locs1 (cells + 3) (slots + 21) Q (F0 m (pc + 3) ls [.int (iI k)])) :
    W p l e room_1 s m #[Value.ref b0] below meth c H locs cells slots Q (F0 m pc ls [.ref (ad 0)]) := by
  obtain ⟨⟨hx, hb, hml, hown, hts⟩, hlf, hE, hY⟩ := hC
  have hw0 := hw.part yE_60
  have hyB := hR.yBd
  have hBA : ∀ q, (AY q ∧ q ≠ ad 60) → A0 q := fun q h => hY q h.1
  refine zcalliN hBA (va_runV (As := []) (rest := []) ⟨hx, hb, hml, hown, hts⟩ (c_X1_peakByOverlaps_ok l D cy (fun q => AY q ∧ q ≠ ad 60) ad ya yi pr H hw0 hR.pAd) (cwV 0 hts gL_law_X1_peakByOverlaps rfl rfl rfl (by decide +kernel) ⟨(Nat.le_of_ble_eq_true rfl), (Nat.le_of_ble_eq_true rfl)⟩) (zPVm hBA hE hS hw0 (ci := 1) (k0 := 0) rfl yE_0) rfl rfl hsz rfl (lv_room (Nat.le_of_ble_eq_true rfl)) hdg ⟨Nat.le_trans (Nat.add_le_add_left (by decide) _) hc, Nat.le_trans (Nat.add_le_add_left (by decide) _) hs⟩) hS (fun k H1 locs1 hk hq hz1 hk1 hS1 => ?_)
  have hkY : ∀ q : Nat, q < H.size → ¬ AY q → H1[q]? = H[q]? := fun q h1 h2 => hk1 q h1 (fun h => h2 h.1)
  obtain ⟨rfl, hz⟩ := hq
  have hw2 := hw.join (hw0) rfl yE_60 hk1
  refine W.widen (k := cells + 3) (n := slots + 21) (by omega) (by omega) (kk _ H1 locs1 hk ⟨ad, _, yi, pr, fo, rfl, rfl, hw2, ?_⟩ hz1 hkY hS1)
  rintro z c2 mi2 mb ⟨r1, r2, r3⟩
  exact ⟨by rw [r1]; exact (RR.sU (hR) r2).c0 0, by rw [r3, hz, hR.ov]⟩

set_option maxHeartbeats 4000000 in
set_option maxRecDepth 100000 in
theorem s_firstShort {p : Program} {l : Launch} {e : Env} {s : State} {m : MethodId} {below : List Frame} {meth : Method} {c : Code} {b0 : Nat} {D : va_G} {cy : Nat → ClassId} {A0 AY : Nat → Prop} (hC : LC p l s m c b0 D cy A0 AY) {H : Heap} {locs : List Loc} {cells slots : Nat} {Q : State → Prop} {ls : Array Slot} {pc : Nat} (hS : va_S A0 s.heap H locs) (hsz : ls.size = 7) (hc : cells + 3 ≤ room_1.cells) (hs : slots + 21 ≤ room_1.slots) {ad : Nat → Nat} {mi : Nat → Int} {ma ya : Nat → Nat → Int} {yi : Nat → Int} {pr : Nat → Option PS} {fo : Nat → Int64} (hw : zW D AY ad (yO60 cy ad ya yi pr fo) H) (hR : RR mi ma ya yi pr) (hAf : ∀ q, H.size ≤ q → AY q) (hdg : decode cL_law pc = .ok (.invokevirtual 156, 3))
    (kk : ∀ (k : Int) (H1 : Heap) (locs1 : List Loc), zr k → GD D cy AY (ad 0) (ad 60) (DR mi ma (fsS mi ma)) k H1 → H.size ≤ H1.size → (∀ q : Nat, q < H.size → ¬ AY q → H1[q]? = H[q]?) → va_S A0 s.heap H1 locs1 → W p l e room_1 s m #[Value.ref b0] below meth c H1 locs1 (cells + 3) (slots + 21) Q (F0 m (pc + 3) ls [.int (iI k)])) :
    W p l e room_1 s m #[Value.ref b0] below meth c H locs cells slots Q (F0 m pc ls [.ref (ad 0)]) := by
  obtain ⟨⟨hx, hb, hml, hown, hts⟩, hlf, hE, hY⟩ := hC
  have hw0 := hw.part yE_60
  have hyB := hR.yBd
  have hBA : ∀ q, (AY q ∧ q ≠ ad 60) → A0 q := fun q h => hY q h.1
  refine zcalliN hBA (va_runV (As := []) (rest := []) ⟨hx, hb, hml, hown, hts⟩ (c_X1_firstShort_ok l D cy (fun q => AY q ∧ q ≠ ad 60) ad ya yi pr H hw0 hR.pAd hyB) (cwV 0 hts gL_law_X1_firstShort rfl rfl rfl (by decide +kernel) ⟨(Nat.le_of_ble_eq_true rfl), (Nat.le_of_ble_eq_true rfl)⟩) (zPVm hBA hE hS hw0 (ci := 1) (k0 := 0) rfl yE_0) rfl rfl hsz rfl (lv_room (Nat.le_of_ble_eq_true rfl)) hdg ⟨Nat.le_trans (Nat.add_le_add_left (by decide) _) hc, Nat.le_trans (Nat.add_le_add_left (by decide) _) hs⟩) hS (fun k H1 locs1 hk hq hz1 hk1 hS1 => ?_)
  have hkY : ∀ q : Nat, q < H.size → ¬ AY q → H1[q]? = H[q]? := fun q h1 h2 => hk1 q h1 (fun h => h2 h.1)
  obtain ⟨yb, hw1, hyb, hz⟩ := hq
  have hw2 := hw.join (hw1) rfl yE_60 hk1
  refine W.widen (k := cells + 3) (n := slots + 21) (by omega) (by omega) (kk _ H1 locs1 hk ⟨ad, _, yi, pr, fo, rfl, rfl, hw2, ?_⟩ hz1 hkY hS1)
  rintro z c2 mi2 mb ⟨r1, r2, r3⟩
  exact ⟨by rw [r1]; exact (RR.sU (hR.yas (hyb 0 (by decide)) (hyb 1 (by decide))) r2).c0 0, by rw [r3, hz, hR.fs]⟩

