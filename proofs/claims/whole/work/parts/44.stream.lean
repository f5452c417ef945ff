/-! modes of single bytes -/
def lkS (E : bF) (md sh : Nat) (V c : Nat → Nat) : Nat → Nat → Nat
  | 0 => if md = 6 then add V 0 else V
  | b + 1 => if md = 6 then add V (b + 1) else if md = 7 then E (lkS E md sh V c b) else fun k => if k < 16 then (if sh = 1 then c (16 * b + k) else c (16 * b + k) ^^^ E (lkS E md sh V c b) k) else 0
def osS (E : bF) (md sh : Nat) (V c : Nat → Nat) (j : Nat) : Nat := c j ^^^ E (lkS E md sh V c (j / 16)) (j % 16)
def hdS (E : bF) (md sh : Nat) (V c : Nat → Nat) (j : Nat) : Nat := if sh = 1 then c j else osS E md sh V c j
/-- the link with z bytes come -/
def lkZ (E : bF) (md sh : Nat) (V c : Nat → Nat) (z k : Nat) : Nat := if z % 16 = 0 then lkS E md sh V c (z / 16) k else if md = 8 then (if k < z % 16 then hdS E md sh V c (16 * (z / 16) + k) else lkS E md sh V c (z / 16) k) else lkS E md sh V c (z / 16 + 1) k
section STR
variable {E : bF} {md sh : Nat} {V c c' : Nat → Nat} {z : Nat}
theorem lkS_eq (h : ∀ j, j < z → c j = c' j) : ∀ b, 16 * b ≤ z → lkS E md sh V c b = lkS E md sh V c' b
  | 0, _ => rfl
  | b + 1, hb => by
    have ih := lkS_eq h b (by omega)
    unfold lkS
    rw [ih]
    split
    · rfl
    · split
      · rfl
      · funext k
        by_cases hk : k < 16
        · rw [if_pos hk, if_pos hk, h (16 * b + k) (by omega)]
        · rw [if_neg hk, if_neg hk]
theorem osS_eq (h : ∀ j, j < z → c j = c' j) {j : Nat} (hj : j < z) : osS E md sh V c j = osS E md sh V c' j := by
  unfold osS
  rw [lkS_eq h (j / 16) (by omega), h j hj]
theorem hdS_eq (h : ∀ j, j < z → c j = c' j) {j : Nat} (hj : j < z) : hdS E md sh V c j = hdS E md sh V c' j := by
  unfold hdS
  rw [osS_eq h hj, h j hj]
theorem lkS_lt (hE : bFok E) (hV : by8 16 V) (hc : ∀ j, j < z → c j < 256) : ∀ b, 16 * b ≤ z → by8 16 (lkS E md sh V c b)
  | 0, _ => by
    unfold lkS
    split
    · exact add_lt V 0 16
    · exact hV
  | b + 1, hb => by
    have ih := lkS_lt hE hV hc b (by omega)
    unfold lkS
    split
    · exact add_lt V (b + 1) 16
    · split
      · exact hE _ ih
      · intro k hk
        show (if k < 16 then _ else _) < 256
        rw [if_pos hk]
        split
        · exact hc _ (by omega)
        · exact b_x (hc _ (by omega)) (hE _ ih k hk)
theorem lkS_0 (hV : by8 16 V) {k : Nat} (hk : k < 16) : V k = lkZ E md sh V c 0 k := by
  show V k = if 0 % 16 = 0 then (if md = 6 then add V 0 else V) k else _
  rw [if_pos rfl]
  split
  · exact (add_0 hV hk).symm
  · rfl
/-- at a block's start -/
theorem lkZ_s {b : Nat} : lkZ E md sh V c (16 * b) = lkS E md sh V c b := by
  funext k
  unfold lkZ
  rw [if_pos (by omega), show 16 * b / 16 = b by omega]
theorem lkZ_z (h : z % 16 = 0) (k : Nat) : lkZ E md sh V c z k = lkS E md sh V c (z / 16) k := if_pos h
theorem lkZ_8 (h : ¬ z % 16 = 0) (h8 : md = 8) (k : Nat) : lkZ E md sh V c z k = if k < z % 16 then hdS E md sh V c (16 * (z / 16) + k) else lkS E md sh V c (z / 16) k := by
  unfold lkZ
  rw [if_neg h, if_pos h8]
theorem lkZ_7 (h : ¬ z % 16 = 0) (h8 : ¬ md = 8) (k : Nat) : lkZ E md sh V c z k = lkS E md sh V c (z / 16 + 1) k := by
  unfold lkZ
  rw [if_neg h, if_neg h8]
theorem lkZ_0 {x b : Nat} (hm : 6 ≤ md ∧ md ≤ 8) {k : Nat} (hk : k < 16) : (if md = 8 then va_up (slm E md (lkS E md sh V c b)) 0 (if sh = 1 then x else x ^^^ E (lkS E md sh V c b) 0) else slm E md (lkS E md sh V c b)) k = lkZ E md sh V (va_up c (16 * b) x) (16 * b + 1) k := by
  have hc1 : ∀ j, j < 16 * b → c j = va_up c (16 * b) x j := fun j hj => (va_up_ne c x (by omega)).symm
  have hl := lkS_eq (E := E) (md := md) (sh := sh) (V := V) hc1 b (Nat.le_refl _)
  have hx : va_up c (16 * b) x (16 * b) = x := va_up_self c _ x
  by_cases h8 : md = 8
  · have hs : slm E md (lkS E md sh V c b) = lkS E md sh V c b := by
      unfold slm
      rw [if_neg (by omega), if_neg (by omega)]
    rw [if_pos h8, lkZ_8 (by omega) h8, hs, show (16 * b + 1) / 16 = b by omega, show (16 * b + 1) % 16 = 1 by omega]
    by_cases h0 : k = 0
    · subst h0
      rw [va_up_self, if_pos (show 0 < 1 by decide)]
      show _ = hdS E md sh V (va_up c (16 * b) x) (16 * b)
      unfold hdS osS
      rw [hx, show 16 * b / 16 = b by omega, show 16 * b % 16 = 0 by omega, ← hl]
    · rw [va_up_ne _ _ h0, if_neg (show ¬ k < 1 by omega)]
      exact congrFun hl k
  · rw [if_neg h8, lkZ_7 (by omega) h8, show (16 * b + 1) / 16 = b by omega]
    by_cases h6 : md = 6
    · subst h6
      have e : lkS E 6 sh V c b = add V b := by cases b <;> rfl
      show inc (lkS E 6 sh V c b) k = add V (b + 1) k
      rw [e]
      exact add_inc hk
    · have h7 : md = 7 := by omega
      subst h7
      show E (lkS E 7 sh V c b) k = E (lkS E 7 sh V (va_up c (16 * b) x) b) k
      rw [hl]
/-- inside a block -/
theorem lkZ_n {x r b : Nat} (hm : 6 ≤ md ∧ md ≤ 8) (hr : 0 < r ∧ r < 16) (hz : z = 16 * b + r) {M : Nat → Nat} (hM : M r = E (lkS E md sh V c b) r) {k : Nat} (hk : k < 16) : (if md = 8 then va_up (lkZ E md sh V c z) r (if sh = 1 then x else x ^^^ M r) else lkZ E md sh V c z) k = lkZ E md sh V (va_up c z x) (z + 1) k := by
  have hc1 : ∀ j, j < z → c j = va_up c z x j := fun j hj => (va_up_ne c x (by omega)).symm
  have hl := lkS_eq (E := E) (md := md) (sh := sh) (V := V) hc1 b (by omega)
  have hx : va_up c z x z = x := va_up_self c _ x
  have hzb : z / 16 = b := by omega
  have hzr : z % 16 = r := by omega
  have hd : hdS E md sh V (va_up c z x) z = if sh = 1 then x else x ^^^ M r := by
    unfold hdS osS
    rw [hx, hzb, hzr, hM, ← hl]
  by_cases h8 : md = 8
  · rw [if_pos h8]
    have goal1 : va_up (lkZ E md sh V c z) r (if sh = 1 then x else x ^^^ M r) k = if k ≤ r then hdS E md sh V (va_up c z x) (16 * b + k) else lkS E md sh V (va_up c z x) b k := by
      by_cases h0 : k = r
      · subst h0
        rw [va_up_self, if_pos (Nat.le_refl k), ← hz]
        exact hd.symm
      · rw [va_up_ne _ _ h0, lkZ_8 (by omega) h8, hzb, hzr]
        by_cases h1 : k < r
        · rw [if_pos h1, if_pos (show k ≤ r by omega)]
          exact hdS_eq hc1 (by omega)
        · rw [if_neg h1, if_neg (show ¬ k ≤ r by omega)]
          exact congrFun hl k
    rw [goal1]
    by_cases h15 : r = 15
    · rw [if_pos (show k ≤ r by omega), lkZ_z (by omega), show (z + 1) / 16 = b + 1 by omega]
      subst h8
      show _ = (if k < 16 then (if sh = 1 then (va_up c z x) (16 * b + k) else (va_up c z x) (16 * b + k) ^^^ E (lkS E 8 sh V (va_up c z x) b) k) else 0)
      rw [if_pos hk]
      unfold hdS osS
      rw [show (16 * b + k) / 16 = b by omega, show (16 * b + k) % 16 = k by omega]
    · rw [lkZ_8 (by omega) h8, show (z + 1) / 16 = b by omega, show (z + 1) % 16 = r + 1 by omega]
      by_cases h1 : k ≤ r
      · rw [if_pos h1, if_pos (show k < r + 1 by omega)]
      · rw [if_neg h1, if_neg (show ¬ k < r + 1 by omega)]
  · rw [if_neg h8, lkZ_7 (by omega) h8, hzb]
    have e2 : lkS E md sh V c (b + 1) = lkS E md sh V (va_up c z x) (b + 1) := by
      unfold lkS
      by_cases h6 : md = 6
      · rw [if_pos h6, if_pos h6]
      · rw [if_neg h6, if_neg h6, if_pos (show md = 7 by omega), if_pos (show md = 7 by omega), hl]
    by_cases h15 : r = 15
    · rw [lkZ_z (by omega), show (z + 1) / 16 = b + 1 by omega, e2]
    · rw [lkZ_7 (by omega) h8, show (z + 1) / 16 = b by omega, e2]
theorem rS_up {ro : Nat → Nat} {x : Nat} {M : Nat → Nat} (hM : M (z % 16) = E (lkS E md sh V c (z / 16)) (z % 16)) (hr : ∀ j, j < z → ro j = osS E md sh V c j) : ∀ j, j < z + 1 → va_up ro z (x ^^^ M (z % 16)) j = osS E md sh V (va_up c z x) j := fun j hj => by
  have hc1 : ∀ j, j < z → c j = va_up c z x j := fun j hj => (va_up_ne c x (by omega)).symm
  unfold va_up
  by_cases h : j = z
  · rw [if_pos h, h, hM]
    show _ = (va_up c z x) z ^^^ _
    rw [va_up_self, lkS_eq hc1 (z / 16) (by omega)]
    rfl
  · rw [if_neg h, hr j (by omega)]
    exact osS_eq hc1 (by omega)
end STR
/-! mode 9 -/
def rgS (E : bF) (sh : Nat) (V c : Nat → Nat) : Nat → Nat → Nat
  | 0 => V
  | j + 1 => va_up (va_cpy (rgS E sh V c j) (rgS E sh V c j) 1 0 15) 15 (if sh = 1 then c j else c j ^^^ E (rgS E sh V c j) 0)
def os9 (E : bF) (sh : Nat) (V c : Nat → Nat) (j : Nat) : Nat := c j ^^^ E (rgS E sh V c j) 0
section S9
variable {E : bF} {sh : Nat} {V c c' : Nat → Nat} {z : Nat}
theorem rgS_eq (h : ∀ j, j < z → c j = c' j) : ∀ i, i ≤ z → rgS E sh V c i = rgS E sh V c' i
  | 0, _ => rfl
  | i + 1, hi => by
    have ih := rgS_eq h i (by omega)
    unfold rgS
    rw [ih, h i (by omega)]
theorem os9_eq (h : ∀ j, j < z → c j = c' j) {j : Nat} (hj : j < z) : os9 E sh V c j = os9 E sh V c' j := by
  unfold os9
  rw [rgS_eq h j (by omega), h j hj]
theorem rgS_lt (hE : bFok E) (hV : by8 16 V) (hc : ∀ j, j < z → c j < 256) : ∀ i, i ≤ z → by8 16 (rgS E sh V c i)
  | 0, _ => hV
  | i + 1, hi => fun k hk => by
    have ih := rgS_lt hE hV hc i (by omega)
    show va_up _ 15 _ k < 256
    unfold va_up
    split
    · split
      · exact hc i (by omega)
      · exact b_x (hc i (by omega)) (hE _ ih 0 (by decide))
    · unfold va_cpy
      split
      · exact ih _ (by omega)
      · exact ih k hk
theorem rgS_up {x : Nat} : va_up (va_cpy (slm E 9 (rgS E sh V c z)) (slm E 9 (rgS E sh V c z)) 1 0 15) 15 (if sh = 1 then x else x ^^^ E (rgS E sh V c z) 0) = rgS E sh V (va_up c z x) (z + 1) := by
  have hc1 : ∀ j, j < z → c j = va_up c z x j := fun j hj => (va_up_ne c x (by omega)).symm
  have hs : slm E 9 (rgS E sh V c z) = rgS E sh V c z := by
    unfold slm
    rw [if_neg (by decide), if_neg (by decide)]
  rw [hs]
  show _ = va_up (va_cpy (rgS E sh V (va_up c z x) z) (rgS E sh V (va_up c z x) z) 1 0 15) 15 (if sh = 1 then va_up c z x z else va_up c z x z ^^^ E (rgS E sh V (va_up c z x) z) 0)
  rw [← rgS_eq hc1 z (Nat.le_refl z), va_up_self]
theorem r9_up {ro : Nat → Nat} {x : Nat} (hr : ∀ j, j < z → ro j = os9 E sh V c j) : ∀ j, j < z + 1 → va_up ro z (x ^^^ E (rgS E sh V c z) 0) j = os9 E sh V (va_up c z x) j := fun j hj => by
  have hc1 : ∀ j, j < z → c j = va_up c z x j := fun j hj => (va_up_ne c x (by omega)).symm
  unfold va_up
  by_cases h : j = z
  · rw [if_pos h, h]
    show _ = (va_up c z x) z ^^^ _
    rw [va_up_self, rgS_eq hc1 z (Nat.le_refl z)]
    rfl
  · rw [if_neg h, hr j (by omega)]
    exact os9_eq hc1 (by omega)
end S9
