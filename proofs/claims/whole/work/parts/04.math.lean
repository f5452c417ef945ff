/-! numbers: bytes, words of four bytes, the field, the box -/
theorem b_xor8 {x y x' y' : Nat} (h : y < 256) (h' : y' < 256) : (x * 256 + y) ^^^ (x' * 256 + y') = (x ^^^ x') * 256 + (y ^^^ y') := by
  have e : ∀ a b : Nat, a * 256 + b = 2 ^ 8 * a + b := fun a b => by omega
  apply Nat.eq_of_testBit_eq
  intro i
  rw [Nat.testBit_xor, e, e, e, Nat.testBit_two_pow_mul_add _ h, Nat.testBit_two_pow_mul_add _ h', Nat.testBit_two_pow_mul_add _ (Nat.xor_lt_two_pow (n := 8) h h')]
  split <;> simp
theorem b_or8 {x y x' y' : Nat} (h : y < 256) (h' : y' < 256) : (x * 256 + y) ||| (x' * 256 + y') = (x ||| x') * 256 + (y ||| y') := by
  have e : ∀ a b : Nat, a * 256 + b = 2 ^ 8 * a + b := fun a b => by omega
  apply Nat.eq_of_testBit_eq
  intro i
  rw [Nat.testBit_or, e, e, e, Nat.testBit_two_pow_mul_add _ h, Nat.testBit_two_pow_mul_add _ h', Nat.testBit_two_pow_mul_add _ (Nat.or_lt_two_pow (n := 8) h h')]
  split <;> simp
theorem b_and8 {x y x' y' : Nat} (h : y < 256) (h' : y' < 256) : (x * 256 + y) &&& (x' * 256 + y') = (x &&& x') * 256 + (y &&& y') := by
  have e : ∀ a b : Nat, a * 256 + b = 2 ^ 8 * a + b := fun a b => by omega
  apply Nat.eq_of_testBit_eq
  intro i
  rw [Nat.testBit_and, e, e, e, Nat.testBit_two_pow_mul_add _ h, Nat.testBit_two_pow_mul_add _ h', Nat.testBit_two_pow_mul_add _ (Nat.and_lt_two_pow (n := 8) y h')]
  split <;> simp
theorem b_x {a b : Nat} (h : a < 256) (h' : b < 256) : a ^^^ b < 256 := Nat.xor_lt_two_pow (n := 8) h h'
theorem b_o {a b : Nat} (h : a < 256) (h' : b < 256) : a ||| b < 256 := Nat.or_lt_two_pow (n := 8) h h'
theorem b_and255 (x : Nat) : x &&& 255 = x % 256 := Nat.and_two_pow_sub_one_eq_mod x 8
theorem b_and1 (x : Nat) : x &&& 1 = x % 2 := Nat.and_two_pow_sub_one_eq_mod x 1
def W4 (a b c d : Nat) : Nat := ((a * 256 + b) * 256 + c) * 256 + d
theorem W4_lt {a b c d : Nat} (ha : a < 256) (hb : b < 256) (hc : c < 256) (hd : d < 256) : W4 a b c d < 4294967296 := by unfold W4; omega
theorem W4_xor {a b c d a' b' c' d' : Nat} (hb : b < 256) (hc : c < 256) (hd : d < 256) (hb' : b' < 256) (hc' : c' < 256) (hd' : d' < 256) : W4 a b c d ^^^ W4 a' b' c' d' = W4 (a ^^^ a') (b ^^^ b') (c ^^^ c') (d ^^^ d') := by
  unfold W4
  rw [b_xor8 hd hd', b_xor8 hc hc', b_xor8 hb hb']
theorem W4_or {a b c d a' b' c' d' : Nat} (hb : b < 256) (hc : c < 256) (hd : d < 256) (hb' : b' < 256) (hc' : c' < 256) (hd' : d' < 256) : W4 a b c d ||| W4 a' b' c' d' = W4 (a ||| a') (b ||| b') (c ||| c') (d ||| d') := by
  unfold W4
  rw [b_or8 hd hd', b_or8 hc hc', b_or8 hb hb']
theorem W4_and {a b c d a' b' c' d' : Nat} (hb : b < 256) (hc : c < 256) (hd : d < 256) (hb' : b' < 256) (hc' : c' < 256) (hd' : d' < 256) : W4 a b c d &&& W4 a' b' c' d' = W4 (a &&& a') (b &&& b') (c &&& c') (d &&& d') := by
  unfold W4
  rw [b_and8 hd hd', b_and8 hc hc', b_and8 hb hb']
theorem W4_0 {a b c d : Nat} (hb : b < 256) (hc : c < 256) (hd : d < 256) : W4 a b c d / 16777216 = a := by unfold W4; omega
theorem W4_1 {a b c d : Nat} (hb : b < 256) (hc : c < 256) (hd : d < 256) : W4 a b c d / 65536 &&& 255 = b := by rw [b_and255]; unfold W4; omega
theorem W4_2 {a b c d : Nat} (hc : c < 256) (hd : d < 256) : W4 a b c d / 256 &&& 255 = c := by rw [b_and255]; unfold W4; omega
theorem W4_3 {a b c d : Nat} (hd : d < 256) : W4 a b c d &&& 255 = d := by rw [b_and255]; unfold W4; omega
/-- four bytes put together as the program does it -/
theorem W4_put {a b c d : Nat} (hb : b < 256) (hc : c < 256) (hd : d < 256) : ((a * 16777216 ||| b * 65536) ||| c * 256) ||| d = W4 a b c d := by
  rw [show a * 16777216 = W4 a 0 0 0 by unfold W4; omega, show b * 65536 = W4 0 b 0 0 by unfold W4; omega, show c * 256 = W4 0 0 c 0 by unfold W4; omega]
  conv => lhs; rhs; rw [show d = W4 0 0 0 d by unfold W4; omega]
  have z : 0 < 256 := by decide
  rw [W4_or z z z hb z z]
  simp only [Nat.or_zero, Nat.zero_or]
  rw [W4_or hb z z z hc z]
  simp only [Nat.or_zero, Nat.zero_or]
  rw [W4_or hb hc z z z hd]
  simp only [Nat.or_zero, Nat.zero_or]
theorem W4_r1 {a b c d : Nat} (ha : a < 256) (hb : b < 256) (hc : c < 256) (hd : d < 256) : W4 a b c d * 256 % 4294967296 ||| W4 a b c d / 16777216 = W4 b c d a := by
  have z : 0 < 256 := by decide
  rw [W4_0 hb hc hd, show W4 a b c d * 256 % 4294967296 = W4 b c d 0 by unfold W4; omega]
  conv => lhs; rhs; rw [show a = W4 0 0 0 a by unfold W4; omega]
  rw [W4_or hc hd z z z ha]
  simp
theorem W4_r2 {a b c d : Nat} (ha : a < 256) (hb : b < 256) (hc : c < 256) (hd : d < 256) : W4 a b c d * 65536 % 4294967296 ||| W4 a b c d / 65536 = W4 c d a b := by
  have z : 0 < 256 := by decide
  rw [show W4 a b c d * 65536 % 4294967296 = W4 c d 0 0 by unfold W4; omega, show W4 a b c d / 65536 = W4 0 0 a b by unfold W4; omega, W4_or hd z z z ha hb]
  simp
theorem W4_r3 {a b c d : Nat} (ha : a < 256) (hb : b < 256) (hc : c < 256) (hd : d < 256) : W4 a b c d * 16777216 % 4294967296 ||| W4 a b c d / 256 = W4 d a b c := by
  have z : 0 < 256 := by decide
  rw [show W4 a b c d * 16777216 % 4294967296 = W4 d 0 0 0 by unfold W4; omega, show W4 a b c d / 256 = W4 0 a b c by unfold W4; omega, W4_or z z z ha hb hc]
  simp
/-- twice a byte in the field -/
def xt (a : Nat) : Nat := (a * 2) ^^^ (if a.testBit 7 then 283 else 0)
theorem xt_lt : ∀ a, a < 256 → xt a < 256 := by decide +kernel
theorem xt_if : ∀ a, a < 256 → (if a < 128 then a * 2 else a * 2 ^^^ 283) = xt a := by decide +kernel
theorem xt_lo {a : Nat} (h : a < 128) : a * 2 = xt a := by rw [← xt_if a (by omega), if_pos h]
theorem xt_hi {a : Nat} (h : ¬ a < 128) (h2 : a < 256) : a * 2 ^^^ 283 = xt a := by rw [← xt_if a h2, if_neg h]
theorem xt_0 : xt 0 = 0 := by decide
theorem xt_xor (a b : Nat) : xt (a ^^^ b) = xt a ^^^ xt b := by
  have e2 : ∀ x : Nat, x * 2 = x <<< 1 := fun x => by rw [Nat.shiftLeft_eq]
  have key : ∀ (A B : Nat) (p q : Bool), (A ^^^ B) ^^^ (if (p ^^ q) = true then 283 else 0) = (A ^^^ (if p = true then 283 else 0)) ^^^ (B ^^^ (if q = true then 283 else 0)) := by
    intro A B p q
    cases p <;> cases q
    · show (A ^^^ B) ^^^ 0 = (A ^^^ 0) ^^^ (B ^^^ 0)
      rw [Nat.xor_zero, Nat.xor_zero, Nat.xor_zero]
    · show (A ^^^ B) ^^^ 283 = (A ^^^ 0) ^^^ (B ^^^ 283)
      rw [Nat.xor_zero, Nat.xor_assoc]
    · show (A ^^^ B) ^^^ 283 = (A ^^^ 283) ^^^ (B ^^^ 0)
      rw [Nat.xor_zero]
      ac_rfl
    · show (A ^^^ B) ^^^ 0 = (A ^^^ 283) ^^^ (B ^^^ 283)
      rw [show (A ^^^ 283) ^^^ (B ^^^ 283) = (A ^^^ B) ^^^ (283 ^^^ 283) by ac_rfl, Nat.xor_self]
  unfold xt
  rw [e2, e2, e2, Nat.shiftLeft_xor_distrib, Nat.testBit_xor]
  exact key _ _ _ _
theorem xt_w : ∀ a, a < 256 → ((a &&& 127) * 2) ^^^ (a / 128 * 27) = xt a := by decide +kernel
theorem W4_xt {a b c d : Nat} (ha : a < 256) (hb : b < 256) (hc : c < 256) (hd : d < 256) : ((W4 a b c d &&& 2139062143) * 2) ^^^ ((W4 a b c d / 128 &&& 16843009) * 27) = W4 (xt a) (xt b) (xt c) (xt d) := by
  have l : ∀ x : Nat, x &&& 127 = x % 128 := fun x => Nat.and_two_pow_sub_one_eq_mod x 7
  rw [show 2139062143 = W4 127 127 127 127 by decide, show 16843009 = W4 1 1 1 1 by decide, W4_and hb hc hd (by decide) (by decide) (by decide)]
  rw [show W4 a b c d / 128 = W4 (a / 128) (a % 128 * 2 + b / 128) (b % 128 * 2 + c / 128) (c % 128 * 2 + d / 128) by unfold W4; omega]
  rw [W4_and (by omega) (by omega) (by omega) (by decide) (by decide) (by decide)]
  rw [b_and1, b_and1, b_and1, b_and1, show a / 128 % 2 = a / 128 by omega, show (a % 128 * 2 + b / 128) % 2 = b / 128 by omega, show (b % 128 * 2 + c / 128) % 2 = c / 128 by omega, show (c % 128 * 2 + d / 128) % 2 = d / 128 by omega]
  have m2 : ∀ p q r s : Nat, W4 p q r s * 2 = W4 (p * 2) (q * 2) (r * 2) (s * 2) := fun p q r s => by unfold W4; omega
  have m27 : ∀ p q r s : Nat, W4 p q r s * 27 = W4 (p * 27) (q * 27) (r * 27) (s * 27) := fun p q r s => by unfold W4; omega
  rw [m2, m27, W4_xor (by rw [l]; omega) (by rw [l]; omega) (by rw [l]; omega) (by omega) (by omega) (by omega), xt_w a ha, xt_w b hb, xt_w c hc, xt_w d hd]
/-- one byte of a column mixed; and of one mixed twice -/
def mc (a b c d : Nat) : Nat := ((xt a ^^^ (b ^^^ xt b)) ^^^ c) ^^^ d
def m2 (a c : Nat) : Nat := a ^^^ xt (xt (a ^^^ c))
theorem mc_lt {a b c d : Nat} (ha : a < 256) (hb : b < 256) (hc : c < 256) (hd : d < 256) : mc a b c d < 256 := b_x (b_x (b_x (xt_lt a ha) (b_x hb (xt_lt b hb))) hc) hd
theorem m2_lt {a c : Nat} (ha : a < 256) (hc : c < 256) : m2 a c < 256 := b_x ha (xt_lt _ (xt_lt _ (b_x ha hc)))
def ic (a b c d : Nat) : Nat := mc (m2 a c) (m2 b d) (m2 c a) (m2 d b)
theorem ic_lt {a b c d : Nat} (ha : a < 256) (hb : b < 256) (hc : c < 256) (hd : d < 256) : ic a b c d < 256 := mc_lt (m2_lt ha hc) (m2_lt hb hd) (m2_lt hc ha) (m2_lt hd hb)
/-- products: as the class adds them up, as the reference does -/
def xti (a : Nat) : Nat → Nat
  | 0 => a
  | n + 1 => xt (xti a n)
theorem xti_lt {a : Nat} (h : a < 256) : ∀ n, xti a n < 256
  | 0 => h
  | n + 1 => xt_lt _ (xti_lt h n)
def ct (a b : Nat) : Nat → Nat
  | 0 => 0
  | n + 1 => if b / 2 ^ n % 2 = 1 then ct a b n ^^^ xti a n else ct a b n
def hm (a b : Nat) : Nat → Nat
  | 0 => 0
  | n + 1 => if b / 2 ^ (7 - n) % 2 = 1 then xt (hm a b n) ^^^ a else xt (hm a b n)
theorem ct_lt {a b : Nat} (h : a < 256) : ∀ n, ct a b n < 256
  | 0 => by show 0 < 256; decide
  | n + 1 => by
    unfold ct
    split
    · exact b_x (ct_lt h n) (xti_lt h n)
    · exact ct_lt h n
theorem hm_lt {a b : Nat} (h : a < 256) : ∀ n, hm a b n < 256
  | 0 => by show 0 < 256; decide
  | n + 1 => by
    unfold hm
    split
    · exact b_x (xt_lt _ (hm_lt h n)) h
    · exact xt_lt _ (hm_lt h n)
def mt (a b : Nat) : Nat := hm a b 8
theorem mt_lt {a : Nat} (b : Nat) (h : a < 256) : mt a b < 256 := hm_lt h 8
theorem xt_g (c : Prop) (h : Decidable c) (v x : Nat) : xt (if c then v ^^^ x else v) = if c then xt v ^^^ xt x else xt v := by
  split
  · exact xt_xor v x
  · rfl
theorem if_x (c : Prop) (h : Decidable c) (v x : Nat) : (if c then v ^^^ x else v) = v ^^^ (if c then x else 0) := by
  split
  · rfl
  · rw [Nat.xor_zero]
theorem xt_z (c : Prop) (h : Decidable c) (x : Nat) : xt (if c then x else 0) = if c then xt x else 0 := by
  split
  · rfl
  · exact xt_0
theorem ct_mt (a b : Nat) : ct a b 8 = mt a b := by
  unfold mt
  simp only [ct, hm, if_x, xt_xor, xt_z, xt_0, xti, Nat.zero_xor]
  simp only [Nat.sub_self, Nat.reduceSub]
  ac_rfl
theorem mt_1 : ∀ b, b < 256 → mt 1 b = b := by decide +kernel
theorem mt_2 : ∀ b, b < 256 → mt 2 b = xt b := by decide +kernel
theorem mt_3 : ∀ b, b < 256 → mt 3 b = b ^^^ xt b := by decide +kernel
theorem mt_x2 : ∀ a, a < 256 → mt a 2 = xt a := by decide +kernel
theorem mt_14 : ∀ b, b < 256 → mt 14 b = (xt (xt (xt b)) ^^^ xt (xt b)) ^^^ xt b := by decide +kernel
theorem mt_11 : ∀ b, b < 256 → mt 11 b = (xt (xt (xt b)) ^^^ xt b) ^^^ b := by decide +kernel
theorem mt_13 : ∀ b, b < 256 → mt 13 b = (xt (xt (xt b)) ^^^ xt (xt b)) ^^^ b := by decide +kernel
theorem mt_9 : ∀ b, b < 256 → mt 9 b = xt (xt (xt b)) ^^^ b := by decide +kernel
theorem mc_mt {a b c d : Nat} (ha : a < 256) (hb : b < 256) (hc : c < 256) (hd : d < 256) : ((mt 2 a ^^^ mt 3 b) ^^^ mt 1 c) ^^^ mt 1 d = mc a b c d := by
  rw [mt_2 a ha, mt_3 b hb, mt_1 c hc, mt_1 d hd]
  rfl
theorem x_can (a b : Nat) : a ^^^ (a ^^^ b) = b := by rw [← Nat.xor_assoc, Nat.xor_self, Nat.zero_xor]
theorem ic_mt {a b c d : Nat} (ha : a < 256) (hb : b < 256) (hc : c < 256) (hd : d < 256) : ((mt 14 a ^^^ mt 11 b) ^^^ mt 13 c) ^^^ mt 9 d = ic a b c d := by
  rw [mt_14 a ha, mt_11 b hb, mt_13 c hc, mt_9 d hd]
  unfold ic mc m2
  simp only [xt_xor]
  generalize xt (xt (xt a)) = a3
  generalize xt (xt (xt b)) = b3
  generalize xt (xt (xt c)) = c3
  generalize xt (xt (xt d)) = d3
  generalize xt (xt a) = a2
  generalize xt (xt b) = b2
  generalize xt (xt c) = c2
  generalize xt (xt d) = d2
  generalize xt a = a1
  generalize xt b = b1
  generalize xt c = c1
  generalize xt d = d1
  have key : ((a1 ^^^ (a3 ^^^ c3)) ^^^ ((b ^^^ (b2 ^^^ d2)) ^^^ (b1 ^^^ (b3 ^^^ d3)))) ^^^ (c ^^^ (c2 ^^^ a2)) ^^^ (d ^^^ (d2 ^^^ b2)) = (b2 ^^^ b2) ^^^ ((d2 ^^^ d2) ^^^ ((a3 ^^^ a2 ^^^ a1) ^^^ (b3 ^^^ b1 ^^^ b) ^^^ (c3 ^^^ c2 ^^^ c) ^^^ (d3 ^^^ d))) := by ac_rfl
  rw [key, Nat.xor_self, Nat.xor_self, Nat.zero_xor, Nat.zero_xor]
def ivL : List Nat := [0, 1, 141, 246, 203, 82, 123, 209, 232, 79, 41, 192, 176, 225, 229, 199, 116, 180, 170, 75, 153, 43, 96, 95, 88, 63, 253, 204, 255, 64, 238, 178, 58, 110, 90, 241, 85, 77, 168, 201, 193, 10, 152, 21, 48, 68, 162, 194, 44, 69, 146, 108, 243, 57, 102, 66, 242, 53, 32, 111, 119, 187, 89, 25, 29, 254, 55, 103, 45, 49, 245, 105, 167, 100, 171, 19, 84, 37, 233, 9, 237, 92, 5, 202, 76, 36, 135, 191, 24, 62, 34, 240, 81, 236, 97, 23, 22, 94, 175, 211, 73, 166, 54, 67, 244, 71, 145, 223, 51, 147, 33, 59, 121, 183, 151, 133, 16, 181, 186, 60, 182, 112, 208, 6, 161, 250, 129, 130, 131, 126, 127, 128, 150, 115, 190, 86, 155, 158, 149, 217, 247, 2, 185, 164, 222, 106, 50, 109, 216, 138, 132, 114, 42, 20, 159, 136, 249, 220, 137, 154, 251, 124, 46, 195, 143, 184, 101, 72, 38, 200, 18, 74, 206, 231, 210, 98, 12, 224, 31, 239, 17, 117, 120, 113, 165, 142, 118, 61, 189, 188, 134, 87, 11, 40, 47, 163, 218, 212, 228, 15, 169, 39, 83, 4, 27, 252, 172, 230, 122, 7, 174, 99, 197, 219, 226, 234, 148, 139, 196, 213, 157, 248, 144, 107, 177, 13, 214, 235, 198, 14, 207, 173, 8, 78, 215, 227, 93, 80, 30, 179, 91, 35, 56, 52, 104, 70, 3, 140, 221, 156, 125, 160, 205, 26, 65, 28]
def sbL : List Nat := [99, 124, 119, 123, 242, 107, 111, 197, 48, 1, 103, 43, 254, 215, 171, 118, 202, 130, 201, 125, 250, 89, 71, 240, 173, 212, 162, 175, 156, 164, 114, 192, 183, 253, 147, 38, 54, 63, 247, 204, 52, 165, 229, 241, 113, 216, 49, 21, 4, 199, 35, 195, 24, 150, 5, 154, 7, 18, 128, 226, 235, 39, 178, 117, 9, 131, 44, 26, 27, 110, 90, 160, 82, 59, 214, 179, 41, 227, 47, 132, 83, 209, 0, 237, 32, 252, 177, 91, 106, 203, 190, 57, 74, 76, 88, 207, 208, 239, 170, 251, 67, 77, 51, 133, 69, 249, 2, 127, 80, 60, 159, 168, 81, 163, 64, 143, 146, 157, 56, 245, 188, 182, 218, 33, 16, 255, 243, 210, 205, 12, 19, 236, 95, 151, 68, 23, 196, 167, 126, 61, 100, 93, 25, 115, 96, 129, 79, 220, 34, 42, 144, 136, 70, 238, 184, 20, 222, 94, 11, 219, 224, 50, 58, 10, 73, 6, 36, 92, 194, 211, 172, 98, 145, 149, 228, 121, 231, 200, 55, 109, 141, 213, 78, 169, 108, 86, 244, 234, 101, 122, 174, 8, 186, 120, 37, 46, 28, 166, 180, 198, 232, 221, 116, 31, 75, 189, 139, 138, 112, 62, 181, 102, 72, 3, 246, 14, 97, 53, 87, 185, 134, 193, 29, 158, 225, 248, 152, 17, 105, 217, 142, 148, 155, 30, 135, 233, 206, 85, 40, 223, 140, 161, 137, 13, 191, 230, 66, 104, 65, 153, 45, 15, 176, 84, 187, 22]
def bkL : List Nat := [82, 9, 106, 213, 48, 54, 165, 56, 191, 64, 163, 158, 129, 243, 215, 251, 124, 227, 57, 130, 155, 47, 255, 135, 52, 142, 67, 68, 196, 222, 233, 203, 84, 123, 148, 50, 166, 194, 35, 61, 238, 76, 149, 11, 66, 250, 195, 78, 8, 46, 161, 102, 40, 217, 36, 178, 118, 91, 162, 73, 109, 139, 209, 37, 114, 248, 246, 100, 134, 104, 152, 22, 212, 164, 92, 204, 93, 101, 182, 146, 108, 112, 72, 80, 253, 237, 185, 218, 94, 21, 70, 87, 167, 141, 157, 132, 144, 216, 171, 0, 140, 188, 211, 10, 247, 228, 88, 5, 184, 179, 69, 6, 208, 44, 30, 143, 202, 63, 15, 2, 193, 175, 189, 3, 1, 19, 138, 107, 58, 145, 17, 65, 79, 103, 220, 234, 151, 242, 207, 206, 240, 180, 230, 115, 150, 172, 116, 34, 231, 173, 53, 133, 226, 249, 55, 232, 28, 117, 223, 110, 71, 241, 26, 113, 29, 41, 197, 137, 111, 183, 98, 14, 170, 24, 190, 27, 252, 86, 62, 75, 198, 210, 121, 32, 154, 219, 192, 254, 120, 205, 90, 244, 31, 221, 168, 51, 136, 7, 199, 49, 177, 18, 16, 89, 39, 128, 236, 95, 96, 81, 127, 169, 25, 181, 74, 13, 45, 229, 122, 159, 147, 201, 156, 239, 160, 224, 59, 77, 174, 42, 245, 176, 200, 235, 187, 60, 131, 83, 153, 97, 23, 43, 4, 126, 186, 119, 214, 38, 225, 105, 20, 99, 85, 33, 12, 125]
def p3L : List Nat := [1, 3, 5, 15, 17, 51, 85, 255, 26, 46, 114, 150, 161, 248, 19, 53, 95, 225, 56, 72, 216, 115, 149, 164, 247, 2, 6, 10, 30, 34, 102, 170, 229, 52, 92, 228, 55, 89, 235, 38, 106, 190, 217, 112, 144, 171, 230, 49, 83, 245, 4, 12, 20, 60, 68, 204, 79, 209, 104, 184, 211, 110, 178, 205, 76, 212, 103, 169, 224, 59, 77, 215, 98, 166, 241, 8, 24, 40, 120, 136, 131, 158, 185, 208, 107, 189, 220, 127, 129, 152, 179, 206, 73, 219, 118, 154, 181, 196, 87, 249, 16, 48, 80, 240, 11, 29, 39, 105, 187, 214, 97, 163, 254, 25, 43, 125, 135, 146, 173, 236, 47, 113, 147, 174, 233, 32, 96, 160, 251, 22, 58, 78, 210, 109, 183, 194, 93, 231, 50, 86, 250, 21, 63, 65, 195, 94, 226, 61, 71, 201, 64, 192, 91, 237, 44, 116, 156, 191, 218, 117, 159, 186, 213, 100, 172, 239, 42, 126, 130, 157, 188, 223, 122, 142, 137, 128, 155, 182, 193, 88, 232, 35, 101, 175, 234, 37, 111, 177, 200, 67, 197, 84, 252, 31, 33, 99, 165, 244, 7, 9, 27, 45, 119, 153, 176, 203, 70, 202, 69, 207, 74, 222, 121, 139, 134, 145, 168, 227, 62, 66, 198, 81, 243, 14, 18, 54, 90, 238, 41, 123, 141, 140, 143, 138, 133, 148, 167, 242, 13, 23, 57, 75, 221, 124, 132, 151, 162, 253, 28, 36, 108, 180, 199, 82, 246, 1]
def lgL : List Nat := [0, 0, 25, 1, 50, 2, 26, 198, 75, 199, 27, 104, 51, 238, 223, 3, 100, 4, 224, 14, 52, 141, 129, 239, 76, 113, 8, 200, 248, 105, 28, 193, 125, 194, 29, 181, 249, 185, 39, 106, 77, 228, 166, 114, 154, 201, 9, 120, 101, 47, 138, 5, 33, 15, 225, 36, 18, 240, 130, 69, 53, 147, 218, 142, 150, 143, 219, 189, 54, 208, 206, 148, 19, 92, 210, 241, 64, 70, 131, 56, 102, 221, 253, 48, 191, 6, 139, 98, 179, 37, 226, 152, 34, 136, 145, 16, 126, 110, 72, 195, 163, 182, 30, 66, 58, 107, 40, 84, 250, 133, 61, 186, 43, 121, 10, 21, 155, 159, 94, 202, 78, 212, 172, 229, 243, 115, 167, 87, 175, 88, 168, 80, 244, 234, 214, 116, 79, 174, 233, 213, 231, 230, 173, 232, 44, 215, 117, 122, 235, 22, 11, 245, 89, 203, 95, 176, 156, 169, 81, 160, 127, 12, 246, 111, 23, 196, 73, 236, 216, 67, 31, 45, 164, 118, 123, 183, 204, 187, 62, 90, 251, 96, 177, 134, 59, 82, 161, 108, 170, 85, 41, 157, 151, 178, 135, 144, 97, 190, 220, 252, 188, 149, 207, 205, 55, 63, 91, 209, 83, 57, 132, 60, 65, 162, 109, 71, 20, 42, 158, 93, 86, 242, 211, 171, 68, 17, 146, 217, 35, 32, 46, 137, 180, 124, 184, 38, 119, 153, 227, 165, 103, 74, 237, 222, 197, 49, 254, 24, 13, 99, 140, 128, 192, 247, 112, 7]
def IV (a : Nat) : Nat := ivL.getD a 0
def SB (a : Nat) : Nat := sbL.getD a 0
def BK (a : Nat) : Nat := bkL.getD a 0
def P3 (i : Nat) : Nat := p3L.getD i 0
def LG (a : Nat) : Nat := lgL.getD a 0
theorem SB_lt : ∀ a, a < 256 → SB a < 256 := by decide +kernel
theorem BK_lt : ∀ a, a < 256 → BK a < 256 := by decide +kernel
theorem IV_lt : ∀ a, a < 256 → IV a < 256 := by decide +kernel
theorem P3_lt : ∀ i, i < 256 → P3 i < 256 := by decide +kernel
theorem BK_SB : ∀ a, a < 256 → BK (SB a) = a := by decide +kernel
theorem SB_BK : ∀ a, a < 256 → SB (BK a) = a := by decide +kernel
theorem P3_0 : P3 0 = 1 := by decide +kernel
theorem P3_up : ∀ i, i < 255 → P3 i ^^^ xt (P3 i) = P3 (i + 1) := by decide +kernel
theorem P3_LG : ∀ a, a < 256 → 0 < a → LG a < 255 ∧ P3 (LG a) = a := by decide +kernel
/-- the class's box of an inverse -/
def boi (b : Nat) : Nat := ((((((b ||| b * 256) ^^^ (b ||| b * 256) / 16) ^^^ (b ||| b * 256) / 32) ^^^ (b ||| b * 256) / 64) ^^^ (b ||| b * 256) / 128) &&& 255) ^^^ 99
theorem boi_0 : boi 0 = SB 0 := by decide +kernel
theorem boi_P3 : ∀ i, i < 255 → boi (P3 ((255 - i) % 255)) = SB (P3 i) := by decide +kernel
theorem IV_0 : IV 0 = 0 := by decide +kernel
theorem IV_P3 : ∀ i, i < 255 → IV (P3 i) = P3 ((255 - i) % 255) := by decide +kernel
theorem LG_P3 : ∀ i, i < 255 → LG (P3 i) = i ∧ 0 < P3 i := by decide +kernel
theorem P3_255 : P3 255 = 1 := by decide +kernel
theorem xti_xt (a : Nat) : ∀ n, xti (xt a) n = xt (xti a n)
  | 0 => rfl
  | n + 1 => congrArg xt (xti_xt a n)
theorem xti_xor (a b : Nat) : ∀ n, xti (a ^^^ b) n = xti a n ^^^ xti b n
  | 0 => rfl
  | n + 1 => by
    show xt (xti (a ^^^ b) n) = xt (xti a n) ^^^ xt (xti b n)
    rw [xti_xor a b n, xt_xor]
theorem ct_xt (a b : Nat) : ∀ n, ct (xt a) b n = xt (ct a b n)
  | 0 => xt_0.symm
  | n + 1 => by
    unfold ct
    rw [ct_xt a b n, xti_xt]
    split
    · rw [xt_xor]
    · rfl
theorem ct_xor (a a' b : Nat) : ∀ n, ct (a ^^^ a') b n = ct a b n ^^^ ct a' b n
  | 0 => by
    show 0 = 0 ^^^ 0
    decide
  | n + 1 => by
    unfold ct
    rw [ct_xor a a' b n, xti_xor]
    split
    · ac_rfl
    · rfl
theorem mt_P3 : ∀ i, i < 255 → ∀ j, j < 255 → mt (P3 i) (P3 j) = P3 ((i + j) % 255) := by
  intro i
  induction i with
  | zero =>
    intro _ j hj
    rw [P3_0, mt_1 _ (P3_lt j (by omega)), Nat.zero_add, Nat.mod_eq_of_lt hj]
  | succ i ih =>
    intro hi j hj
    have h1 := ih (by omega) j hj
    rw [← P3_up i (by omega), ← ct_mt, ct_xor, ct_xt, ct_mt, h1, P3_up _ (Nat.mod_lt _ (by decide))]
    by_cases h : (i + j) % 255 = 254
    · rw [h, P3_255, show (i + 1 + j) % 255 = 0 by omega, P3_0]
    · rw [show (i + 1 + j) % 255 = (i + j) % 255 + 1 by omega]
theorem mt_0b : ∀ b, b < 256 → mt 0 b = 0 := by decide +kernel
theorem mt_a0 : ∀ a, a < 256 → mt a 0 = 0 := by decide +kernel
theorem mt_IV : ∀ a, a < 256 → ∀ b, b < 256 → (mt a b = 1 ↔ 0 < a ∧ b = IV a) := by
  intro a ha b hb
  rcases Nat.eq_zero_or_pos a with h0 | h0
  · rw [h0, mt_0b b hb]
    exact ⟨fun h => absurd h (by decide), fun h => absurd h.1 (by decide)⟩
  · obtain ⟨hl, he⟩ := P3_LG a ha h0
    have hiv : IV a = P3 ((255 - LG a) % 255) := by
      have h1 := IV_P3 (LG a) hl
      rw [he] at h1
      exact h1
    rcases Nat.eq_zero_or_pos b with g0 | g0
    · rw [g0, mt_a0 a ha]
      have h2 := (LG_P3 ((255 - LG a) % 255) (Nat.mod_lt _ (by decide))).2
      exact ⟨fun h => absurd h (by decide), fun h => by rw [hiv] at h; omega⟩
    · obtain ⟨gl, ge⟩ := P3_LG b hb g0
      have h1 := mt_P3 (LG a) hl (LG b) gl
      rw [he, ge] at h1
      rw [h1]
      have hz : ∀ k, k < 255 → (P3 k = 1 ↔ k = 0) := fun k hk => ⟨fun h => by
        have e := (LG_P3 k hk).1
        rw [h] at e
        rw [← e]
        decide +kernel, fun h => by rw [h, P3_0]⟩
      rw [hz _ (Nat.mod_lt _ (by decide))]
      refine ⟨fun h => ⟨h0, ?_⟩, fun h => ?_⟩
      · rw [hiv, ← ge]
        congr 1
        omega
      · have e : LG b = (255 - LG a) % 255 := by
          rw [h.2, hiv]
          exact (LG_P3 _ (Nat.mod_lt _ (by decide))).1
        omega
theorem SB_0 : SB 0 = 99 := by decide +kernel
theorem boi_lt (b : Nat) : boi b < 256 := b_x (by rw [b_and255]; omega) (by decide)
/-- the class's tables as they grow -/
def fwc (i j : Nat) : Nat := if j = 0 ∨ (0 < j ∧ j < 256 ∧ LG j < i) then SB j else 0
def bwc (i j : Nat) : Nat := if BK j = 0 ∨ LG (BK j) < i then BK j else 0
theorem fwc_0 (j : Nat) : va_up (fun _ => 0) 0 (boi 0) j = fwc 0 j := by
  unfold va_up fwc
  rw [boi_0]
  by_cases h : j = 0
  · rw [if_pos h, if_pos (Or.inl h), h]
  · rw [if_neg h, if_neg (by omega)]
theorem bwc_0 (j : Nat) : va_up (fun _ => 0) (boi 0) 0 j = bwc 0 j := by
  unfold va_up bwc
  have h1 : (if j = boi 0 then 0 else 0) = 0 := by split <;> rfl
  rw [h1]
  split
  · rename_i h; omega
  · rfl
theorem fwc_up {i j : Nat} (hi : i < 255) (hj : j < 256) : va_up (fwc i) (P3 i) (SB (P3 i)) j = fwc (i + 1) j := by
  have hp := LG_P3 i hi
  unfold va_up fwc
  by_cases h : j = P3 i
  · rw [if_pos h, h, if_pos (Or.inr ⟨hp.2, P3_lt i (by omega), by omega⟩)]
  · rw [if_neg h]
    by_cases h0 : j = 0
    · rw [if_pos (Or.inl h0), if_pos (Or.inl h0)]
    · have hl := P3_LG j hj (by omega)
      have hne : LG j ≠ i := fun e => h (by rw [← e]; exact hl.2.symm)
      by_cases h2 : LG j < i
      · rw [if_pos (Or.inr ⟨by omega, hj, h2⟩), if_pos (Or.inr ⟨by omega, hj, by omega⟩)]
      · rw [if_neg (by omega), if_neg (by omega)]
theorem bwc_up {i j : Nat} (hi : i < 255) (hj : j < 256) : va_up (bwc i) (SB (P3 i)) (P3 i) j = bwc (i + 1) j := by
  have hp := LG_P3 i hi
  have hb := BK_SB (P3 i) (P3_lt i (by omega))
  unfold va_up bwc
  by_cases h : j = SB (P3 i)
  · rw [if_pos h, h, hb, if_pos (Or.inr (by omega))]
  · rw [if_neg h]
    by_cases h0 : BK j = 0
    · rw [if_pos (Or.inl h0), if_pos (Or.inl h0)]
    · have hl := P3_LG (BK j) (BK_lt j hj) (by omega)
      have hne : LG (BK j) ≠ i := fun e => h (by rw [← e, hl.2, SB_BK j hj])
      by_cases h2 : LG (BK j) < i
      · rw [if_pos (Or.inr h2), if_pos (Or.inr (by omega))]
      · rw [if_neg (by omega), if_neg (by omega)]
theorem fwc_255 {j : Nat} (hj : j < 256) : fwc 255 j = SB j := by
  unfold fwc
  by_cases h0 : j = 0
  · rw [if_pos (Or.inl h0)]
  · rw [if_pos (Or.inr ⟨by omega, hj, (P3_LG j hj (by omega)).1⟩)]
theorem bwc_255 {j : Nat} (hj : j < 256) : bwc 255 j = BK j := by
  unfold bwc
  by_cases h0 : BK j = 0
  · rw [if_pos (Or.inl h0)]
  · rw [if_pos (Or.inr (P3_LG (BK j) (BK_lt j hj) (by omega)).1)]
theorem ct_t {a b n : Nat} (h : b / 2 ^ n &&& 1 = 1) : ct a b n ^^^ xti a n = ct a b (n + 1) := by
  rw [b_and1] at h
  show _ = (if b / 2 ^ n % 2 = 1 then ct a b n ^^^ xti a n else ct a b n)
  rw [if_pos h]
theorem ct_f {a b n : Nat} (h : ¬ b / 2 ^ n &&& 1 = 1) : ct a b n = ct a b (n + 1) := by
  rw [b_and1] at h
  show _ = (if b / 2 ^ n % 2 = 1 then ct a b n ^^^ xti a n else ct a b n)
  rw [if_neg h]
def IVx (a : Nat) : Nat := if a = 0 then 256 else IV a
