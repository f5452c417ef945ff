/-! modes of blocks: what is given out, block by block, and what goes on to the next block -/
def bx (s t : Nat → Nat) (k : Nat) : Nat := s k ^^^ t k
theorem bx_lt {n : Nat} {s t : Nat → Nat} (hs : by8 n s) (ht : by8 n t) : by8 n (bx s t) := fun k hk => b_x (hs k hk) (ht k hk)
/-- block i of a message; nothing behind its end -/
def bk (c : Nat → Nat) (i k : Nat) : Nat := if k < 16 then c (16 * i + k) else 0
theorem bk_in {c : Nat → Nat} {i k : Nat} (h : k < 16) : bk c i k = c (16 * i + k) := if_pos h
theorem bk_eq {c c' : Nat → Nat} {i n : Nat} (h : ∀ j, j < n → c j = c' j) (hi : 16 * i + 16 ≤ n) : bk c i = bk c' i := by
  funext k
  unfold bk
  split
  · exact h _ (by omega)
  · rfl
theorem bk_lt {c : Nat → Nat} {i n : Nat} (h : ∀ j, j < n → c j < 256) (hi : 16 * i + 16 ≤ n) : by8 16 (bk c i) := fun k hk => by rw [bk_in hk]; exact h _ (by omega)
/-- a tweak doubled -/
def dbc (t : Nat → Nat) : Nat → Nat
  | 0 => 0
  | k + 1 => (t k * 2 + dbc t k) / 256
def dbl (t : Nat → Nat) (k : Nat) : Nat := if k = 0 then (t 0 * 2 % 256) ^^^ (if dbc t 16 = 1 then 135 else 0) else (t k * 2 + dbc t k) % 256
theorem dbc_lt {t : Nat → Nat} (h : by8 16 t) : ∀ k, k ≤ 16 → dbc t k < 2
  | 0, _ => by show 0 < 2; decide
  | k + 1, hk => by
    have h1 := dbc_lt h k (by omega)
    have h2 := h k (by omega)
    show (t k * 2 + dbc t k) / 256 < 2
    omega
theorem dbl_lt (t : Nat → Nat) (n : Nat) : by8 n (dbl t) := fun k _ => by
  unfold dbl
  split
  · apply b_x
    · omega
    · split <;> decide
  · omega
abbrev bF : Type := (Nat → Nat) → Nat → Nat
def so (E D : bF) (md sh : Nat) (s t : Nat → Nat) : Nat → Nat :=
  if md = 0 then (if sh = 1 then D s else E s)
  else if md = 10 then bx ((if sh = 1 then D else E) (bx s t)) t
  else if sh = 1 then bx (D s) t else E (bx s t)
def sl (E : bF) (md sh : Nat) (s t : Nat → Nat) : Nat → Nat :=
  if md = 0 then t else if md = 10 then dbl t else if sh = 1 then s else E (bx s t)
/-- what goes to block i; what block i becomes -/
def lk (E : bF) (md sh : Nat) (T c : Nat → Nat) : Nat → Nat → Nat
  | 0 => T
  | i + 1 => sl E md sh (bk c i) (lk E md sh T c i)
def ob (E D : bF) (md sh : Nat) (T c : Nat → Nat) (i : Nat) : Nat → Nat := so E D md sh (bk c i) (lk E md sh T c i)
/-- a cipher's block functions give bytes -/
def bFok (E : bF) : Prop := ∀ s, by8 16 s → by8 16 (E s)
theorem so_lt {E D : bF} {md sh : Nat} {s t : Nat → Nat} (hE : bFok E) (hD : bFok D) (hs : by8 16 s) (ht : by8 16 t) : by8 16 (so E D md sh s t) := by
  unfold so
  split
  · split
    · exact hD s hs
    · exact hE s hs
  · split
    · split
      · exact bx_lt (hD _ (bx_lt hs ht)) ht
      · exact bx_lt (hE _ (bx_lt hs ht)) ht
    · split
      · exact bx_lt (hD s hs) ht
      · exact hE _ (bx_lt hs ht)
theorem sl_lt {E : bF} {md sh : Nat} {s t : Nat → Nat} (hE : bFok E) (hs : by8 16 s) (ht : by8 16 t) : by8 16 (sl E md sh s t) := by
  unfold sl
  split
  · exact ht
  · split
    · exact dbl_lt t 16
    · split
      · exact hs
      · exact hE _ (bx_lt hs ht)
theorem lk_lt {E : bF} {md sh : Nat} {T c : Nat → Nat} (hE : bFok E) (hT : by8 16 T) {n : Nat} (hc : ∀ j, j < n → c j < 256) : ∀ i, 16 * i ≤ n → by8 16 (lk E md sh T c i)
  | 0, _ => hT
  | i + 1, hi => sl_lt hE (bk_lt hc (by omega)) (lk_lt hE hT hc i (by omega))
theorem lk_eq {E : bF} {md sh : Nat} {T c c' : Nat → Nat} {n : Nat} (h : ∀ j, j < n → c j = c' j) : ∀ i, 16 * i ≤ n → lk E md sh T c i = lk E md sh T c' i
  | 0, _ => rfl
  | i + 1, hi => by
    show sl E md sh (bk c i) (lk E md sh T c i) = sl E md sh (bk c' i) (lk E md sh T c' i)
    rw [bk_eq h (by omega), lk_eq h i (by omega)]
theorem ob_eq {E D : bF} {md sh : Nat} {T c c' : Nat → Nat} {n i : Nat} (h : ∀ j, j < n → c j = c' j) (hi : 16 * i + 16 ≤ n) : ob E D md sh T c i = ob E D md sh T c' i := by
  unfold ob
  rw [bk_eq h hi, lk_eq h i (by omega)]
theorem ob_lt {E D : bF} {md sh : Nat} {T c : Nat → Nat} (hE : bFok E) (hD : bFok D) (hT : by8 16 T) {n i : Nat} (hc : ∀ j, j < n → c j < 256) (hi : 16 * i + 16 ≤ n) : by8 16 (ob E D md sh T c i) := so_lt hE hD (bk_lt hc hi) (lk_lt hE hT hc i (by omega))
/-- the bytes given out so far -/
def obs (E D : bF) (md sh : Nat) (T c : Nat → Nat) (j : Nat) : Nat := ob E D md sh T c (j / 16) (j % 16)
theorem obs_eq {E D : bF} {md sh : Nat} {T c c' : Nat → Nat} {n j : Nat} (h : ∀ j, j < n → c j = c' j) (hj : 16 * (j / 16) + 16 ≤ n) : obs E D md sh T c j = obs E D md sh T c' j := by
  unfold obs
  rw [ob_eq h hj]
