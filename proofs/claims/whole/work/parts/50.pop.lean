/-! ===== how many bits ===== -/
def popR : Nat → Nat → Nat
  | 0, _ => 0
  | n + 1, x => x % 2 + popR n (x / 2)
def mA : Nat → Nat
  | 0 => 0
  | n + 1 => 1 + 4 * mA n
def m3 : Nat → Nat
  | 0 => 0
  | n + 1 => 3 + 16 * m3 n
def mF : Nat → Nat
  | 0 => 0
  | n + 1 => 15 + 256 * mF n
theorem and_sp (w x y : Nat) : x &&& y = (x % 2 ^ w &&& y % 2 ^ w) + 2 ^ w * (x / 2 ^ w &&& y / 2 ^ w) := by
  have h := Nat.mod_add_div (x &&& y) (2 ^ w)
  rw [Nat.and_mod_two_pow, Nat.and_div_two_pow] at h
  exact h.symm
theorem and_1 (x : Nat) : x &&& 1 = x % 2 := by
  have := Nat.and_two_pow_sub_one_eq_mod x 1
  exact this
theorem and_3 (x : Nat) : x &&& 3 = x % 4 := by
  have := Nat.and_two_pow_sub_one_eq_mod x 2
  exact this
theorem and_15 (x : Nat) : x &&& 15 = x % 16 := by
  have := Nat.and_two_pow_sub_one_eq_mod x 4
  exact this
def p4 : Nat → Nat → Nat
  | 0, _ => 0
  | n + 1, x => (x % 4 - x % 4 / 2) + 4 * p4 n (x / 4)
def p16 : Nat → Nat → Nat
  | 0, _ => 0
  | n + 1, y => (y % 4 + (y / 4) % 4) + 16 * p16 n (y / 16)
def p256 : Nat → Nat → Nat
  | 0, _ => 0
  | n + 1, z => (z % 16 + (z / 16) % 16) + 256 * p256 n (z / 256)
theorem st1 : ∀ (n x : Nat), x < 4 ^ n → x - ((x / 2) &&& mA n) = p4 n x ∧ ((x / 2) &&& mA n) ≤ x
  | 0, x, h => by
    have : x = 0 := by simpa using h
    subst this
    simp [mA, p4]
  | n + 1, x, h => by
    obtain ⟨i1, i2⟩ := st1 n (x / 4) (by rw [Nat.pow_succ] at h; omega)
    have e := and_sp 2 (x / 2) (mA (n + 1))
    rw [show mA (n + 1) = 1 + 4 * mA n from rfl] at e ⊢
    rw [show (1 + 4 * mA n) % 2 ^ 2 = 1 by omega, show (1 + 4 * mA n) / 2 ^ 2 = mA n by omega, and_1, show x / 2 / 2 ^ 2 = x / 4 / 2 by omega] at e
    rw [e]
    show _ = (x % 4 - x % 4 / 2) + 4 * p4 n (x / 4) ∧ _
    rw [← i1]
    generalize x / 4 / 2 &&& mA n = a at *
    omega
theorem st2 : ∀ (n y : Nat), (y &&& m3 n) + ((y / 4) &&& m3 n) = p16 n y
  | 0, y => by simp [m3, p16]
  | n + 1, y => by
    have ih := st2 n (y / 16)
    have e := and_sp 4 y (m3 (n + 1))
    have e2 := and_sp 4 (y / 4) (m3 (n + 1))
    rw [show m3 (n + 1) = 3 + 16 * m3 n from rfl] at e e2 ⊢
    rw [show (3 + 16 * m3 n) % 2 ^ 4 = 3 by omega, show (3 + 16 * m3 n) / 2 ^ 4 = m3 n by omega, and_3] at e e2
    rw [show y / 4 / 2 ^ 4 = y / 16 / 4 by omega] at e2
    rw [show y / 2 ^ 4 = y / 16 by omega] at e
    rw [e, e2]
    show _ = (y % 4 + (y / 4) % 4) + 16 * p16 n (y / 16)
    rw [← ih]
    generalize y / 16 &&& m3 n = a at *
    generalize y / 16 / 4 &&& m3 n = b at *
    omega
def Dg : Nat → Nat → Prop
  | 0, z => z = 0
  | n + 1, z => z % 16 ≤ 6 ∧ (z / 16) % 16 ≤ 6 ∧ Dg n (z / 256)
theorem dv3 (d0 d1 f0 F : Nat) (h0 : d0 ≤ 6) (h1 : d1 ≤ 6) (h2 : f0 ≤ 6) : (d0 + 16 * d1 + 256 * (f0 + 16 * F) + (d1 + 16 * (f0 + 16 * F))) / 256 = (f0 + 16 * F) + F := by omega
theorem dv16 (a0 a1 P : Nat) (h0 : a0 ≤ 6) (h1 : a1 ≤ 6) : (a0 + 16 * (a1 + 16 * P)) % 16 = a0 ∧ ((a0 + 16 * (a1 + 16 * P)) / 16) % 16 = a1 ∧ (a0 + 16 * (a1 + 16 * P)) / 256 = P := by omega
theorem dvB {B e E : Nat} (h : e < B) : (e + B * E) / B = E := by
  rw [Nat.add_mul_div_left _ _ (by omega), Nat.div_eq_of_lt h, Nat.zero_add]
theorem Dg_0 : ∀ {n z : Nat}, Dg n z → z % 16 ≤ 6
  | 0, z, h => by rw [show z = 0 from h]; omega
  | n + 1, z, h => h.1
theorem st3 : ∀ (n z : Nat), Dg n z → (z + z / 16) &&& mF n = p256 n z
  | 0, z, _ => by simp [mF, p256]
  | n + 1, z, h => by
    obtain ⟨h1, h2, h3⟩ := h
    have h4 := Dg_0 h3
    have ih := st3 n (z / 256) h3
    have hq : (z + z / 16) / 256 = z / 256 + z / 256 / 16 := by
      have := dv3 (z % 16) (z / 16 % 16) (z / 256 % 16) (z / 256 / 16) h1 h2 h4
      rw [show z / 256 % 16 + 16 * (z / 256 / 16) = z / 256 by omega, show z % 16 + 16 * (z / 16 % 16) + 256 * (z / 256) = z by omega, show z / 16 % 16 + 16 * (z / 256) = z / 16 by omega] at this
      exact this
    have e := and_sp 8 (z + z / 16) (mF (n + 1))
    rw [show mF (n + 1) = 15 + 256 * mF n from rfl] at e ⊢
    rw [show (15 + 256 * mF n) % 2 ^ 8 = 15 by omega, show (15 + 256 * mF n) / 2 ^ 8 = mF n by omega, and_15, show (z + z / 16) / 2 ^ 8 = z / 256 + z / 256 / 16 from hq, ih] at e
    rw [e]
    show _ = (z % 16 + (z / 16) % 16) + 256 * p256 n (z / 256)
    omega
def s4 : Nat → Nat → Nat
  | 0, _ => 0
  | n + 1, x => (x % 4 - x % 4 / 2) + s4 n (x / 4)
def s16 : Nat → Nat → Nat
  | 0, _ => 0
  | n + 1, y => (y % 4 + (y / 4) % 4) + s16 n (y / 16)
def s256 : Nat → Nat → Nat
  | 0, _ => 0
  | n + 1, z => (z % 16 + (z / 16) % 16) + s256 n (z / 256)
theorem s4_pop : ∀ (n x : Nat), s4 n x = popR (2 * n) x
  | 0, _ => rfl
  | n + 1, x => by
    have ih := s4_pop n (x / 4)
    show (x % 4 - x % 4 / 2) + s4 n (x / 4) = x % 2 + ((x / 2) % 2 + popR (2 * n) (x / 2 / 2))
    rw [ih, show x / 2 / 2 = x / 4 by omega]
    omega
theorem s16_s4 : ∀ (n x : Nat), s16 n (p4 (2 * n) x) = s4 (2 * n) x
  | 0, _ => rfl
  | n + 1, x => by
    have ih := s16_s4 n (x / 4 / 4)
    have e : p4 (2 * (n + 1)) x = (x % 4 - x % 4 / 2) + 4 * ((x / 4 % 4 - x / 4 % 4 / 2) + 4 * p4 (2 * n) (x / 4 / 4)) := rfl
    have e2 : s4 (2 * (n + 1)) x = (x % 4 - x % 4 / 2) + ((x / 4 % 4 - x / 4 % 4 / 2) + s4 (2 * n) (x / 4 / 4)) := rfl
    rw [e2, ← ih, e]
    show (_ % 4 + (_ / 4) % 4) + s16 n (_ / 16) = _
    rw [show ((x % 4 - x % 4 / 2) + 4 * ((x / 4 % 4 - x / 4 % 4 / 2) + 4 * p4 (2 * n) (x / 4 / 4))) / 16 = p4 (2 * n) (x / 4 / 4) by omega]
    omega
theorem s256_s16 : ∀ (n y : Nat), s256 n (p16 (2 * n) y) = s16 (2 * n) y
  | 0, _ => rfl
  | n + 1, y => by
    have ih := s256_s16 n (y / 16 / 16)
    have e : p16 (2 * (n + 1)) y = (y % 4 + (y / 4) % 4) + 16 * ((y / 16 % 4 + (y / 16 / 4) % 4) + 16 * p16 (2 * n) (y / 16 / 16)) := rfl
    have e2 : s16 (2 * (n + 1)) y = (y % 4 + (y / 4) % 4) + ((y / 16 % 4 + (y / 16 / 4) % 4) + s16 (2 * n) (y / 16 / 16)) := rfl
    obtain ⟨d1, d2, d3⟩ := dv16 (y % 4 + (y / 4) % 4) (y / 16 % 4 + (y / 16 / 4) % 4) (p16 (2 * n) (y / 16 / 16)) (by omega) (by omega)
    rw [e2, ← ih, e]
    show (_ % 16 + (_ / 16) % 16) + s256 n (_ / 256) = _
    rw [d1, d2, d3, Nat.add_assoc]
theorem Dg_p16 : ∀ (n y : Nat), Dg n (p16 (2 * n) y)
  | 0, _ => rfl
  | n + 1, y => by
    have ih := Dg_p16 n (y / 16 / 16)
    have e : p16 (2 * (n + 1)) y = (y % 4 + (y / 4) % 4) + 16 * ((y / 16 % 4 + (y / 16 / 4) % 4) + 16 * p16 (2 * n) (y / 16 / 16)) := rfl
    obtain ⟨d1, d2, d3⟩ := dv16 (y % 4 + (y / 4) % 4) (y / 16 % 4 + (y / 16 / 4) % 4) (p16 (2 * n) (y / 16 / 16)) (by omega) (by omega)
    rw [e]
    refine ⟨by rw [d1]; omega, by rw [d2]; omega, ?_⟩
    rw [d3]
    exact ih
theorem p4_lt : ∀ (n x : Nat), p4 n x < 4 ^ n
  | 0, _ => by simp [p4]
  | n + 1, x => by
    have := p4_lt n (x / 4)
    rw [Nat.pow_succ]
    show (x % 4 - x % 4 / 2) + 4 * p4 n (x / 4) < _
    omega
theorem p16_lt : ∀ (n x : Nat), p16 n x < 16 ^ n
  | 0, _ => by simp [p16]
  | n + 1, x => by
    have := p16_lt n (x / 16)
    rw [Nat.pow_succ]
    show (x % 4 + (x / 4) % 4) + 16 * p16 n (x / 16) < _
    omega
