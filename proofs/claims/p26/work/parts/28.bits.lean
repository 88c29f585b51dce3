/-! ===== the bits of a long, counted in bytes ===== -/
def bs (f : Nat → Nat) : Nat → Nat → Nat
  | _, 0 => 0
  | x, k + 1 => f (x % 256) + 256 * bs f (x / 256) k
/-- the mask of k equal bytes -/
def rep (m : Nat) (k : Nat) : Nat := bs (fun _ => m) 0 k
theorem rep_s (m k : Nat) : rep m (k + 1) = m + 256 * rep m k := by
  show m + 256 * bs _ (0 / 256) k = _
  rfl
theorem rep_b {m : Nat} (hm : m < 256) : ∀ k, rep m k < 256 ^ k
  | 0 => by show 0 < 256 ^ 0; decide
  | k + 1 => by
    have := rep_b hm k
    rw [rep_s, Nat.pow_succ]
    omega
theorem and_byte {a A m M : Nat} (ha : a < 256) (hm : m < 256) : (a + 256 * A) &&& (m + 256 * M) = (a &&& m) + 256 * (A &&& M) := by
  have h1 := Nat.and_mod_two_pow (a := a + 256 * A) (b := m + 256 * M) (n := 8)
  have h2 := Nat.and_div_two_pow (a := a + 256 * A) (b := m + 256 * M) (n := 8)
  have e1 : (a + 256 * A) % 2 ^ 8 = a := by omega
  have e2 : (m + 256 * M) % 2 ^ 8 = m := by omega
  have e3 : (a + 256 * A) / 2 ^ 8 = A := by omega
  have e4 : (m + 256 * M) / 2 ^ 8 = M := by omega
  rw [e1, e2] at h1
  rw [e3, e4] at h2
  omega
theorem and_rep (m : Nat) (hm : m < 256) (z k : Nat) : z &&& rep m (k + 1) = (z % 256 &&& m) + 256 * (z / 256 &&& rep m k) := by
  have h := and_byte (a := z % 256) (A := z / 256) (m := m) (M := rep m k) (by omega) hm
  rw [show z % 256 + 256 * (z / 256) = z by omega] at h
  rw [rep_s, h]
theorem byte1 : ∀ c, c < 256 → ((c / 2) &&& 85) ≤ c ∧ ((c / 2 + 128) &&& 85) = ((c / 2) &&& 85) := by decide +kernel
theorem byte2 : ∀ c, c < 256 → ∀ d, d < 4 → ((c / 4 + 64 * d) &&& 51) = ((c / 4) &&& 51) := by decide +kernel
theorem byte3 : ∀ c, c < 256 → (c &&& 15) = c % 16 := by decide +kernel
def f1 (c : Nat) : Nat := c - ((c / 2) &&& 85)
def f2 (c : Nat) : Nat := (c &&& 51) + ((c / 4) &&& 51)
def f3 (c : Nat) : Nat := c % 16 + c / 16
def pc8 (c : Nat) : Nat := f3 (f2 (f1 c))
theorem f1_b : ∀ c, c < 256 → f1 c < 256 := by decide +kernel
theorem f2_b : ∀ c, c < 256 → f2 (f1 c) < 256 ∧ f2 (f1 c) % 16 ≤ 4 ∧ f2 (f1 c) / 16 ≤ 4 := by decide +kernel
theorem pc8_b : ∀ c, c < 256 → pc8 c ≤ 8 := by decide +kernel
theorem bstep1 : ∀ k x, x < 256 ^ k → x - (x / 2 &&& rep 85 k) = bs f1 x k ∧ (x / 2 &&& rep 85 k) ≤ x
  | 0, x, h => by
    have : x = 0 := by omega
    subst this
    exact ⟨rfl, by decide⟩
  | k + 1, x, h => by
    have hy : x / 256 < 256 ^ k := by rw [Nat.pow_succ] at h; omega
    obtain ⟨i1, i2⟩ := bstep1 k (x / 256) hy
    have e1 : x / 2 % 256 &&& 85 = (x % 256 / 2) &&& 85 := by
      have hb := (byte1 (x % 256) (by omega)).2
      rcases (show x / 2 % 256 = x % 256 / 2 ∨ x / 2 % 256 = x % 256 / 2 + 128 by omega) with h | h
      · rw [h]
      · rw [h, hb]
    have e2 : x / 2 / 256 = x / 256 / 2 := by omega
    have hb := (byte1 (x % 256) (by omega)).1
    rw [and_rep 85 (by decide), e1, e2]
    simp only [bs]
    rw [← i1]
    unfold f1
    omega
theorem bstep2 : ∀ k x, x < 256 ^ k → (x &&& rep 51 k) + (x / 4 &&& rep 51 k) = bs f2 x k
  | 0, x, h => by
    have : x = 0 := by omega
    subst this
    rfl
  | k + 1, x, h => by
    have hy : x / 256 < 256 ^ k := by rw [Nat.pow_succ] at h; omega
    have i1 := bstep2 k (x / 256) hy
    have e1 : x / 4 % 256 &&& 51 = (x % 256 / 4) &&& 51 := by
      have hb := byte2 (x % 256) (by omega) (x / 256 % 4) (by omega)
      rw [show x / 4 % 256 = x % 256 / 4 + 64 * (x / 256 % 4) by omega, hb]
    have e2 : x / 4 / 256 = x / 256 / 4 := by omega
    rw [and_rep 51 (by decide), and_rep 51 (by decide), e1, e2]
    simp only [bs]
    rw [← i1]
    unfold f2
    omega
theorem bs_lt {f : Nat → Nat} (hf : ∀ c, c < 256 → f c < 256) : ∀ k x, bs f x k < 256 ^ k
  | 0, _ => by show 0 < 256 ^ 0; decide
  | k + 1, x => by
    have h1 := bs_lt hf k (x / 256)
    have h2 := hf (x % 256) (by omega)
    simp only [bs]
    rw [Nat.pow_succ]
    omega
theorem bs_bs {f g : Nat → Nat} (hf : ∀ c, c < 256 → f c < 256) : ∀ k x, bs g (bs f x k) k = bs (fun c => g (f c)) x k
  | 0, _ => rfl
  | k + 1, x => by
    have h2 := hf (x % 256) (by omega)
    have e1 : (f (x % 256) + 256 * bs f (x / 256) k) % 256 = f (x % 256) := by omega
    have e2 : (f (x % 256) + 256 * bs f (x / 256) k) / 256 = bs f (x / 256) k := by omega
    simp only [bs]
    rw [e1, e2, bs_bs hf k (x / 256)]
theorem bs_h {f : Nat → Nat} (hf : ∀ c, c < 256 → f c < 256 ∧ f c % 16 ≤ 4 ∧ f c / 16 ≤ 4) : ∀ k x, bs f x k % 16 ≤ 4
  | 0, _ => by show 0 % 16 ≤ 4; decide
  | k + 1, x => by
    have h2 := hf (x % 256) (by omega)
    simp only [bs]
    omega
theorem bstep3 {f : Nat → Nat} (hf : ∀ c, c < 256 → f c < 256 ∧ f c % 16 ≤ 4 ∧ f c / 16 ≤ 4) : ∀ k x, (bs f x k + bs f x k / 16) &&& rep 15 k = bs (fun c => f3 (f c)) x k
  | 0, _ => by show (0 + 0 / 16) &&& 0 = 0; decide
  | k + 1, x => by
    have h2 := hf (x % 256) (by omega)
    have h3 := bs_h hf k (x / 256)
    have i1 := bstep3 hf k (x / 256)
    rw [and_rep 15 (by decide)]
    simp only [bs]
    generalize f (x % 256) = c at *
    generalize bs f (x / 256) k = w at *
    have e1 : (c + 256 * w + (c + 256 * w) / 16) % 256 = c + c / 16 + 16 * (w % 16) := by omega
    have e2 : (c + 256 * w + (c + 256 * w) / 16) / 256 = w + w / 16 := by omega
    rw [e1, e2, i1, byte3 _ (by omega)]
    unfold f3
    omega
def sN (f : Nat → Nat) : Nat → Nat → Nat
  | _, 0 => 0
  | x, k + 1 => f (x % 256) + sN f (x / 256) k
theorem dv {L H M : Nat} (hM : 0 < M) (h : L < M) : (L + M * H) / M = H := by
  rw [Nat.add_mul_div_left _ _ hM, Nat.div_eq_of_lt h, Nat.zero_add]
theorem bfa (p0 p1 p2 p3 p4 p5 p6 p7 : Nat) : (p0 + 256 * (p1 + 256 * (p2 + 256 * (p3 + 256 * (p4 + 256 * (p5 + 256 * (p6 + 256 * (p7 + 256 * 0)))))))) + (p1 + 256 * (p2 + 256 * (p3 + 256 * (p4 + 256 * (p5 + 256 * (p6 + 256 * (p7 + 256 * 0))))))) = ((p0 + p1) + 256 * (p1 + p2)) + 65536 * ((p2 + p3) + 256 * (p3 + p4) + 65536 * (p4 + p5) + 16777216 * (p5 + p6) + 4294967296 * (p6 + p7) + 1099511627776 * p7) := by omega
theorem bfb (p0 p1 p2 p3 p4 p5 p6 p7 : Nat) : ((p0 + p1) + 256 * (p1 + p2)) + 65536 * ((p2 + p3) + 256 * (p3 + p4) + 65536 * (p4 + p5) + 16777216 * (p5 + p6) + 4294967296 * (p6 + p7) + 1099511627776 * p7) + ((p2 + p3) + 256 * (p3 + p4) + 65536 * (p4 + p5) + 16777216 * (p5 + p6) + 4294967296 * (p6 + p7) + 1099511627776 * p7) = ((p0 + p1 + p2 + p3) + 256 * (p1 + p2 + p3 + p4) + 65536 * (p2 + p3 + p4 + p5) + 16777216 * (p3 + p4 + p5 + p6)) + 4294967296 * ((p4 + p5 + p6 + p7) + 256 * (p5 + p6 + p7) + 65536 * (p6 + p7) + 16777216 * p7) := by omega
theorem bfc (p0 p1 p2 p3 p4 p5 p6 p7 : Nat) : ((p0 + p1 + p2 + p3) + 256 * (p1 + p2 + p3 + p4) + 65536 * (p2 + p3 + p4 + p5) + 16777216 * (p3 + p4 + p5 + p6)) + 4294967296 * ((p4 + p5 + p6 + p7) + 256 * (p5 + p6 + p7) + 65536 * (p6 + p7) + 16777216 * p7) + ((p4 + p5 + p6 + p7) + 256 * (p5 + p6 + p7) + 65536 * (p6 + p7) + 16777216 * p7) = (p0 + p1 + p2 + p3 + p4 + p5 + p6 + p7) + 128 * (2 * (p1 + p2 + p3 + p4) + 512 * (p2 + p3 + p4 + p5) + 131072 * (p3 + p4 + p5 + p6) + 33554432 * ((p4 + p5 + p6 + p7) + 256 * (p5 + p6 + p7) + 65536 * (p6 + p7) + 16777216 * p7) + 2 * (p5 + p6 + p7) + 512 * (p6 + p7) + 131072 * p7) := by omega
theorem bld {p0 p1 p2 p3 p4 p5 p6 p7 d : Nat} (h0 : p0 ≤ 8) (h1 : p1 ≤ 8) (h2 : p2 ≤ 8) (h3 : p3 ≤ 8) (h4 : p4 ≤ 8) (h5 : p5 ≤ 8) (h6 : p6 ≤ 8) (h7 : p7 ≤ 8) (hd : d = ((p0 + p1 + p2 + p3) + 256 * (p1 + p2 + p3 + p4) + 65536 * (p2 + p3 + p4 + p5) + 16777216 * (p3 + p4 + p5 + p6)) + 4294967296 * ((p4 + p5 + p6 + p7) + 256 * (p5 + p6 + p7) + 65536 * (p6 + p7) + 16777216 * p7) + ((p4 + p5 + p6 + p7) + 256 * (p5 + p6 + p7) + 65536 * (p6 + p7) + 16777216 * p7)) : d < 2 ^ 64 := by omega
theorem bl0 {p0 p1 p2 p3 p4 p5 p6 p7 : Nat} (h0 : p0 ≤ 8) (h1 : p1 ≤ 8) (h2 : p2 ≤ 8) (h3 : p3 ≤ 8) (h4 : p4 ≤ 8) (h5 : p5 ≤ 8) (h6 : p6 ≤ 8) (h7 : p7 ≤ 8) : p0 < 2 ^ 8 := by omega
theorem bl1 {p0 p1 p2 p3 p4 p5 p6 p7 : Nat} (h0 : p0 ≤ 8) (h1 : p1 ≤ 8) (h2 : p2 ≤ 8) (h3 : p3 ≤ 8) (h4 : p4 ≤ 8) (h5 : p5 ≤ 8) (h6 : p6 ≤ 8) (h7 : p7 ≤ 8) : ((p0 + p1) + 256 * (p1 + p2)) < 2 ^ 16 := by omega
theorem bl3 {p0 p1 p2 p3 p4 p5 p6 p7 : Nat} (h0 : p0 ≤ 8) (h1 : p1 ≤ 8) (h2 : p2 ≤ 8) (h3 : p3 ≤ 8) (h4 : p4 ≤ 8) (h5 : p5 ≤ 8) (h6 : p6 ≤ 8) (h7 : p7 ≤ 8) : ((p0 + p1 + p2 + p3) + 256 * (p1 + p2 + p3 + p4) + 65536 * (p2 + p3 + p4 + p5) + 16777216 * (p3 + p4 + p5 + p6)) < 2 ^ 32 := by omega
theorem bl4 {p0 p1 p2 p3 p4 p5 p6 p7 : Nat} (h0 : p0 ≤ 8) (h1 : p1 ≤ 8) (h2 : p2 ≤ 8) (h3 : p3 ≤ 8) (h4 : p4 ≤ 8) (h5 : p5 ≤ 8) (h6 : p6 ≤ 8) (h7 : p7 ≤ 8) : p0 + p1 + p2 + p3 + p4 + p5 + p6 + p7 < 128 := by omega
theorem bl5 {p0 p1 p2 p3 p4 p5 p6 p7 : Nat} (h0 : p0 ≤ 8) (h1 : p1 ≤ 8) (h2 : p2 ≤ 8) (h3 : p3 ≤ 8) (h4 : p4 ≤ 8) (h5 : p5 ≤ 8) (h6 : p6 ≤ 8) (h7 : p7 ≤ 8) : ((p0 + p1) + 256 * (p1 + p2)) + 65536 * ((p2 + p3) + 256 * (p3 + p4) + 65536 * (p4 + p5) + 16777216 * (p5 + p6) + 4294967296 * (p6 + p7) + 1099511627776 * p7) < 2 ^ 64 := by omega
theorem bl6 {p0 p1 p2 p3 p4 p5 p6 p7 : Nat} (h0 : p0 ≤ 8) (h1 : p1 ≤ 8) (h2 : p2 ≤ 8) (h3 : p3 ≤ 8) (h4 : p4 ≤ 8) (h5 : p5 ≤ 8) (h6 : p6 ≤ 8) (h7 : p7 ≤ 8) : ((p0 + p1 + p2 + p3) + 256 * (p1 + p2 + p3 + p4) + 65536 * (p2 + p3 + p4 + p5) + 16777216 * (p3 + p4 + p5 + p6)) + 4294967296 * ((p4 + p5 + p6 + p7) + 256 * (p5 + p6 + p7) + 65536 * (p6 + p7) + 16777216 * p7) < 2 ^ 64 := by omega
theorem bl7 (p0 p1 p2 p3 p4 p5 p6 p7 : Nat) : p0 + p1 + p2 + p3 + p4 + p5 + p6 + p7 = p0 + (p1 + (p2 + (p3 + (p4 + (p5 + (p6 + (p7 + 0))))))) := by omega
theorem bf8 {p0 p1 p2 p3 p4 p5 p6 p7 : Nat} {a b d : Nat} (h0 : p0 ≤ 8) (h1 : p1 ≤ 8) (h2 : p2 ≤ 8) (h3 : p3 ≤ 8) (h4 : p4 ≤ 8) (h5 : p5 ≤ 8) (h6 : p6 ≤ 8) (h7 : p7 ≤ 8) (ha : a = (p0 + 256 * (p1 + 256 * (p2 + 256 * (p3 + 256 * (p4 + 256 * (p5 + 256 * (p6 + 256 * (p7 + 256 * 0)))))))) + (p0 + 256 * (p1 + 256 * (p2 + 256 * (p3 + 256 * (p4 + 256 * (p5 + 256 * (p6 + 256 * (p7 + 256 * 0)))))))) / 2 ^ 8) (hb : b = a + a / 2 ^ 16) (hd : d = b + b / 2 ^ 32) : d % 128 = p0 + (p1 + (p2 + (p3 + (p4 + (p5 + (p6 + (p7 + 0))))))) ∧ a < 2 ^ 64 ∧ b < 2 ^ 64 ∧ d < 2 ^ 64 := by
  have k1 : (p0 + 256 * (p1 + 256 * (p2 + 256 * (p3 + 256 * (p4 + 256 * (p5 + 256 * (p6 + 256 * (p7 + 256 * 0)))))))) / 2 ^ 8 = (p1 + 256 * (p2 + 256 * (p3 + 256 * (p4 + 256 * (p5 + 256 * (p6 + 256 * (p7 + 256 * 0))))))) := dv (M := 2 ^ 8) (by decide) (bl0 h0 h1 h2 h3 h4 h5 h6 h7)
  have ha2 : a = ((p0 + p1) + 256 * (p1 + p2)) + 65536 * ((p2 + p3) + 256 * (p3 + p4) + 65536 * (p4 + p5) + 16777216 * (p5 + p6) + 4294967296 * (p6 + p7) + 1099511627776 * p7) := by rw [ha, k1]; exact bfa ..
  have k2 : (((p0 + p1) + 256 * (p1 + p2)) + 65536 * ((p2 + p3) + 256 * (p3 + p4) + 65536 * (p4 + p5) + 16777216 * (p5 + p6) + 4294967296 * (p6 + p7) + 1099511627776 * p7)) / 2 ^ 16 = ((p2 + p3) + 256 * (p3 + p4) + 65536 * (p4 + p5) + 16777216 * (p5 + p6) + 4294967296 * (p6 + p7) + 1099511627776 * p7) := dv (M := 2 ^ 16) (by decide) (bl1 h0 h1 h2 h3 h4 h5 h6 h7)
  have hb2 : b = ((p0 + p1 + p2 + p3) + 256 * (p1 + p2 + p3 + p4) + 65536 * (p2 + p3 + p4 + p5) + 16777216 * (p3 + p4 + p5 + p6)) + 4294967296 * ((p4 + p5 + p6 + p7) + 256 * (p5 + p6 + p7) + 65536 * (p6 + p7) + 16777216 * p7) := by rw [hb, ha2, k2]; exact bfb ..
  have k3 : (((p0 + p1 + p2 + p3) + 256 * (p1 + p2 + p3 + p4) + 65536 * (p2 + p3 + p4 + p5) + 16777216 * (p3 + p4 + p5 + p6)) + 4294967296 * ((p4 + p5 + p6 + p7) + 256 * (p5 + p6 + p7) + 65536 * (p6 + p7) + 16777216 * p7)) / 2 ^ 32 = ((p4 + p5 + p6 + p7) + 256 * (p5 + p6 + p7) + 65536 * (p6 + p7) + 16777216 * p7) := dv (M := 2 ^ 32) (by decide) (bl3 h0 h1 h2 h3 h4 h5 h6 h7)
  have hd1 : d = ((p0 + p1 + p2 + p3) + 256 * (p1 + p2 + p3 + p4) + 65536 * (p2 + p3 + p4 + p5) + 16777216 * (p3 + p4 + p5 + p6)) + 4294967296 * ((p4 + p5 + p6 + p7) + 256 * (p5 + p6 + p7) + 65536 * (p6 + p7) + 16777216 * p7) + ((p4 + p5 + p6 + p7) + 256 * (p5 + p6 + p7) + 65536 * (p6 + p7) + 16777216 * p7) := by rw [hd, hb2, k3]
  have hd2 : d = (p0 + p1 + p2 + p3 + p4 + p5 + p6 + p7) + 128 * (2 * (p1 + p2 + p3 + p4) + 512 * (p2 + p3 + p4 + p5) + 131072 * (p3 + p4 + p5 + p6) + 33554432 * ((p4 + p5 + p6 + p7) + 256 * (p5 + p6 + p7) + 65536 * (p6 + p7) + 16777216 * p7) + 2 * (p5 + p6 + p7) + 512 * (p6 + p7) + 131072 * p7) := by rw [hd1]; exact bfc ..
  refine ⟨?_, ?_, ?_, bld h0 h1 h2 h3 h4 h5 h6 h7 hd1⟩
  · rw [hd2, Nat.add_mul_mod_self_left, Nat.mod_eq_of_lt (bl4 h0 h1 h2 h3 h4 h5 h6 h7)]
    exact bl7 ..
  · rw [ha2]; exact bl5 h0 h1 h2 h3 h4 h5 h6 h7
  · rw [hb2]; exact bl6 h0 h1 h2 h3 h4 h5 h6 h7
theorem bfin {p : Nat → Nat} (hp : ∀ c, c < 256 → p c ≤ 8) (x : Nat) {a b d : Nat} (ha : a = bs p x 8 + bs p x 8 / 2 ^ 8) (hb : b = a + a / 2 ^ 16) (hd : d = b + b / 2 ^ 32) : d % 128 = sN p x 8 ∧ a < 2 ^ 64 ∧ b < 2 ^ 64 ∧ d < 2 ^ 64 := by
  have hp2 : ∀ y : Nat, p (y % 256) ≤ 8 := fun y => hp _ (Nat.mod_lt _ (by decide))
  simp only [bs] at ha
  simp only [sN]
  exact bf8 (hp2 _) (hp2 _) (hp2 _) (hp2 _) (hp2 _) (hp2 _) (hp2 _) (hp2 _) ha hb hd
/-- bits counted one by one -/
def bN (b : Bool) : Nat := if b = true then 1 else 0
def cN (x : Nat) : Nat → Nat
  | 0 => 0
  | k + 1 => bN (x.testBit 0) + cN (x / 2) k
theorem pc8_e : ∀ c, c < 256 → ∀ x, x % 256 = c → cN x 8 = pc8 c := by
  intro c hc x hx
  have key : ∀ c, c < 256 → cN c 8 = pc8 c := by decide +kernel
  rw [← key c hc]
  simp only [cN, Nat.testBit_zero]
  have e : ∀ j, j < 8 → x / 2 ^ j % 2 = c / 2 ^ j % 2 := by
    intro j hj
    rcases (show j = 0 ∨ j = 1 ∨ j = 2 ∨ j = 3 ∨ j = 4 ∨ j = 5 ∨ j = 6 ∨ j = 7 by omega) with h | h | h | h | h | h | h | h <;> subst h <;> omega
  have e0 := e 0 (by omega)
  have e1 := e 1 (by omega)
  have e2 := e 2 (by omega)
  have e3 := e 3 (by omega)
  have e4 := e 4 (by omega)
  have e5 := e 5 (by omega)
  have e6 := e 6 (by omega)
  have e7 := e 7 (by omega)
  simp only [Nat.div_div_eq_div_mul] at *
  simp only [Nat.reducePow, Nat.reduceMul, Nat.div_one] at *
  rw [e0, e1, e2, e3, e4, e5, e6, e7]
theorem cN_add : ∀ a b x, cN x (a + b) = cN x a + cN (x / 2 ^ a) b
  | 0, b, x => by rw [Nat.zero_add, Nat.pow_zero, Nat.div_one]; simp [cN]
  | a + 1, b, x => by
    rw [show a + 1 + b = (a + b) + 1 by omega]
    simp only [cN]
    rw [cN_add a b (x / 2), Nat.div_div_eq_div_mul, ← Nat.pow_succ', show a.succ = a + 1 from rfl]
    omega
theorem cN_8 : ∀ k x, cN x (8 * k) = sN pc8 x k
  | 0, _ => rfl
  | k + 1, x => by
    rw [show 8 * (k + 1) = 8 + 8 * k by omega, cN_add, pc8_e (x % 256) (by omega) x rfl, cN_8 k]
    rfl
theorem cN_sl : ∀ k x, (cN x k : Int) = sl (fun j => bI (x.testBit j)) k := by
  have h1 : ∀ k x, cN x (k + 1) = cN x k + bN (x.testBit k) := by
    intro k x
    rw [cN_add k 1]
    simp only [cN, Nat.add_zero]
    rw [Nat.testBit_div_two_pow, Nat.zero_add]
  intro k
  induction k with
  | zero => intro x; rfl
  | succ k ih =>
    intro x
    rw [h1]
    simp only [sl]
    rw [← ih x]
    unfold bN bI
    split <;> simp
/-- the long's own steps -/
def lsr (x : Int64) (k : Int) : Int64 := (x.toUInt64 >>> ((iI k).toInt64.toUInt64 &&& Int64.toUInt64 63)).toInt64
theorem lsr_n {a k : Nat} (ha : a < 2 ^ 64) (hk : k < 64) : lsr (lN a) (k : Int) = lN (a / 2 ^ k) := wb_shr ha hk
theorem lN_s {a b : Nat} (h : b ≤ a) (ha : a < 2 ^ 64) : lN a - lN b = lN (a - b) := by
  apply wb_inj
  rw [Int64.toBitVec_sub, wb_tb, wb_tb, wb_tb]
  apply BitVec.eq_of_toNat_eq
  rw [BitVec.toNat_sub, BitVec.toNat_ofNat, BitVec.toNat_ofNat, BitVec.toNat_ofNat]
  omega
theorem lN_a (a b : Nat) : lN a + lN b = lN (a + b) := by
  apply wb_inj
  rw [Int64.toBitVec_add, wb_tb, wb_tb, wb_tb]
  apply BitVec.eq_of_toNat_eq
  rw [BitVec.toNat_add, BitVec.toNat_ofNat, BitVec.toNat_ofNat, BitVec.toNat_ofNat]
  omega
theorem l2i_n (m : Nat) : (lN m).toInt32 = nI m := by
  apply Int32.toBitVec_inj.mp
  show (lN m).toInt32.toBitVec = BitVec.ofNat 32 m
  rw [Int64.toBitVec_toInt32, wb_tb]
  apply BitVec.eq_of_getLsbD_eq
  intro i hi
  rw [BitVec.getLsbD_signExtend, if_pos (show i < 64 by omega), BitVec.getLsbD_ofNat, BitVec.getLsbD_ofNat]
  simp [hi, show i < 64 by omega]
theorem i127 (n : Nat) : nI n &&& iI 127 = iI ((n % 128 : Nat) : Int) := by
  have e : (iI 127 : Int32) = nI 127 := rfl
  have e2 : iI ((n % 128 : Nat) : Int) = nI (n % 128) := rfl
  rw [e, e2]
  apply Int32.toBitVec_inj.1
  show BitVec.ofNat 32 n &&& BitVec.ofNat 32 127 = BitVec.ofNat 32 (n % 128)
  apply BitVec.eq_of_toNat_eq
  rw [BitVec.toNat_and, BitVec.toNat_ofNat, BitVec.toNat_ofNat, BitVec.toNat_ofNat, show (127 % 2 ^ 32 : Nat) = 2 ^ 7 - 1 by decide, Nat.and_two_pow_sub_one_eq_mod]
  omega
theorem bcT {n : Nat} (hn : n < 2 ^ 64) {x1 x2 x3 x4 x5 x6 : Int64} (h1 : x1 = lN n - (lsr (lN n) 1 &&& 6148914691236517205)) (h2 : x2 = (x1 &&& 3689348814741910323) + (lsr x1 2 &&& 3689348814741910323)) (h3 : x3 = (x2 + lsr x2 4) &&& 1085102592571150095) (h4 : x4 = x3 + lsr x3 8) (h5 : x5 = x4 + lsr x4 16) (h6 : x6 = x5 + lsr x5 32) : x6.toInt32 &&& iI 127 = iI (sl (fun j => bI (n.testBit j)) 64) := by
  have hn8 : n < 256 ^ 8 := by omega
  obtain ⟨a1, a2⟩ := bstep1 8 n hn8
  have b1 : bs f1 n 8 < 256 ^ 8 := bs_lt f1_b 8 n
  have a3 := bstep2 8 _ b1
  have b2 : bs f2 (bs f1 n 8) 8 = bs (fun c => f2 (f1 c)) n 8 := bs_bs f1_b 8 n
  have b3 : bs (fun c => f2 (f1 c)) n 8 < 256 ^ 8 := bs_lt (fun c hc => (f2_b c hc).1) 8 n
  have a4 := bstep3 f2_b 8 n
  have r1 : rep 85 8 = 6148914691236517205 := by decide +kernel
  have r2 : rep 51 8 = 3689348814741910323 := by decide +kernel
  have r3 : rep 15 8 = 1085102592571150095 := by decide +kernel
  rw [r1] at a1 a2
  rw [r2, b2] at a3
  rw [r3] at a4
  have l1 : lsr (lN n) 1 = lN (n / 2 ^ 1) := lsr_n (k := 1) hn (by decide)
  have c1 : x1 = lN (bs f1 n 8) := by
    rw [h1, l1, show (6148914691236517205 : Int64) = lN 6148914691236517205 from rfl, wb_and (by omega) (by decide), show (2 : Nat) ^ 1 = 2 from rfl, lN_s a2 hn, a1]
  have l2 : lsr (lN (bs f1 n 8)) 2 = lN (bs f1 n 8 / 2 ^ 2) := lsr_n (k := 2) (by omega) (by decide)
  have c2 : x2 = lN (bs (fun c => f2 (f1 c)) n 8) := by
    rw [h2, c1, l2, show (3689348814741910323 : Int64) = lN 3689348814741910323 from rfl, wb_and (by omega) (by decide), wb_and (by omega) (by decide), show (2 : Nat) ^ 2 = 4 from rfl, lN_a, a3]
  have l3 : lsr (lN (bs (fun c => f2 (f1 c)) n 8)) 4 = lN (bs (fun c => f2 (f1 c)) n 8 / 2 ^ 4) := lsr_n (k := 4) (by omega) (by decide)
  have d3 : bs (fun c => f2 (f1 c)) n 8 + bs (fun c => f2 (f1 c)) n 8 / 16 < 2 ^ 64 := by
    simp only [bs]
    have g := fun c (hc : c < 256) => f2_b c hc
    have g0 := g (n % 256) (by omega)
    have g1 := g (n / 256 % 256) (by omega)
    have g2 := g (n / 256 / 256 % 256) (by omega)
    have g3 := g (n / 256 / 256 / 256 % 256) (by omega)
    have g4 := g (n / 256 / 256 / 256 / 256 % 256) (by omega)
    have g5 := g (n / 256 / 256 / 256 / 256 / 256 % 256) (by omega)
    have g6 := g (n / 256 / 256 / 256 / 256 / 256 / 256 % 256) (by omega)
    have g7 := g (n / 256 / 256 / 256 / 256 / 256 / 256 / 256 % 256) (by omega)
    omega
  have c3 : x3 = lN (bs (fun c => f3 (f2 (f1 c))) n 8) := by
    rw [h3, c2, l3, show (1085102592571150095 : Int64) = lN 1085102592571150095 from rfl, show (2 : Nat) ^ 4 = 16 from rfl, lN_a, wb_and d3 (by decide), a4]
  obtain ⟨q1, q2, q3, q4⟩ := bfin pc8_b n (a := bs pc8 n 8 + bs pc8 n 8 / 2 ^ 8) rfl rfl rfl
  have c3' : x3 = lN (bs pc8 n 8) := c3
  have b4 : bs pc8 n 8 < 2 ^ 64 := by omega
  have l4 : lsr (lN (bs pc8 n 8)) 8 = lN (bs pc8 n 8 / 2 ^ 8) := lsr_n (k := 8) b4 (by decide)
  have c4 : x4 = lN (bs pc8 n 8 + bs pc8 n 8 / 2 ^ 8) := by rw [h4, c3', l4, lN_a]
  generalize bs pc8 n 8 + bs pc8 n 8 / 2 ^ 8 = a at *
  have l5 : lsr (lN a) 16 = lN (a / 2 ^ 16) := lsr_n (k := 16) q2 (by decide)
  have c5 : x5 = lN (a + a / 2 ^ 16) := by rw [h5, c4, l5, lN_a]
  generalize a + a / 2 ^ 16 = b at *
  have l6 : lsr (lN b) 32 = lN (b / 2 ^ 32) := lsr_n (k := 32) q3 (by decide)
  have c6 : x6 = lN (b + b / 2 ^ 32) := by rw [h6, c5, l6, lN_a]
  rw [c6, l2i_n, i127, q1, ← cN_sl 64 n, cN_8 8 n]
theorem isM_bc {x : Int64} {f : Nat → Bool} (hx : isM x f) {x1 x2 x3 x4 x5 x6 : Int64} (h1 : x1 = x - (lsr x 1 &&& 6148914691236517205)) (h2 : x2 = (x1 &&& 3689348814741910323) + (lsr x1 2 &&& 3689348814741910323)) (h3 : x3 = (x2 + lsr x2 4) &&& 1085102592571150095) (h4 : x4 = x3 + lsr x3 8) (h5 : x5 = x4 + lsr x4 16) (h6 : x6 = x5 + lsr x5 32) : x6.toInt32 &&& iI 127 = iI (sl (fun j => bI (f j)) 60) := by
  have h60 := fun k (hk : 60 ≤ k) => isM_lt hx hk
  obtain ⟨n, rfl, hn, hf⟩ := hx
  rw [bcT (by omega) h1 h2 h3 h4 h5 h6]
  have e : (fun j => bI (n.testBit j)) = fun j => bI (f j) := funext fun j => by rw [hf]
  rw [e]
  simp only [sl]
  rw [h60 60 (by decide), h60 61 (by decide), h60 62 (by decide), h60 63 (by decide)]
  congr 1
  unfold bI
  simp
