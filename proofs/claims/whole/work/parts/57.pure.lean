/-! what both sides give at a message's end is the same -/
theorem i_up {x : Int32} {n : Nat} (hn : n + 1 < 2 ^ 31) (h : x < 0 ∨ nI (n + 1) ≤ x) : x < 0 ∨ nI n < x := by
  rcases h with h | h
  · exact Or.inl h
  · right
    rw [Int32.le_iff_toInt_le, nI_toInt hn] at h
    rw [Int32.lt_iff_toInt_lt, nI_toInt (by omega)]
    omega
theorem i_ne {x : Int32} {n m : Nat} (hn : n < 2 ^ 31) (hm : m < n) (h : x < 0 ∨ nI n ≤ x) : ¬ x = nI m := by
  intro e
  subst e
  rcases h with h | h
  · exact nI_pos (by omega) h
  · exact nI_ge hm hn h
theorem i_key (x : Int32) : (∃ w : Nat, (w = 4 ∨ w = 6 ∨ w = 8) ∧ x = nI w) ∨ (¬ x = nI 4 ∧ ¬ x = nI 6 ∧ ¬ x = nI 8) := by
  by_cases h4 : x = nI 4
  · exact Or.inl ⟨4, Or.inl rfl, h4⟩
  · by_cases h6 : x = nI 6
    · exact Or.inl ⟨6, Or.inr (Or.inl rfl), h6⟩
    · by_cases h8 : x = nI 8
      · exact Or.inl ⟨8, Or.inr (Or.inr rfl), h8⟩
      · exact Or.inr ⟨h4, h6, h8⟩
theorem i_rng (x : Int32) {n : Nat} (hn : n < 2 ^ 31) : (∃ i : Nat, i < n ∧ x = nI i) ∨ (x < 0 ∨ nI n ≤ x) := by
  rcases pk_ix x hn with h | h | h
  · exact Or.inr (Or.inl h)
  · exact Or.inr (Or.inr h)
  · exact Or.inl h
theorem i_sz (x : Int32) : (∃ m : Nat, (1 ≤ m ∧ m ≤ 8) ∧ x = nI m) ∨ (x < nI 1 ∨ nI 8 < x) := by
  rcases i_rng x (n := 9) (by decide) with ⟨i, hi, rfl⟩ | h
  · by_cases h0 : i = 0
    · subst h0
      exact Or.inr (Or.inl (nI_lt (by decide) (by decide)))
    · exact Or.inl ⟨i, ⟨by omega, by omega⟩, rfl⟩
  · rcases i_up (n := 8) (by decide) h with h1 | h1
    · right; left
      rw [Int32.lt_iff_toInt_lt] at h1 ⊢
      rw [nI_toInt (by decide)]
      have : (0 : Int32).toInt = 0 := rfl
      omega
    · exact Or.inr (Or.inr h1)
theorem l_first (n : Nat) (p : Nat → Prop) : (∀ j, j < n → p j) ∨ ∃ k, k < n ∧ (∀ j, j < k → p j) ∧ ¬ p k := by
  induction n with
  | zero => exact Or.inl (fun j h => absurd h (by omega))
  | succ n ih =>
    rcases ih with h | ⟨k, h1, h2, h3⟩
    · by_cases hp : p n
      · left
        intro j hj
        by_cases e : j = n
        · rw [e]; exact hp
        · exact h j (by omega)
      · exact Or.inr ⟨n, by omega, h, hp⟩
    · exact Or.inr ⟨k, by omega, h2, h3⟩
theorem by8_sg {f : Nat → Nat} {v : Int64} {p n m : Nat} (hf : by8 n f) : by8 n (sSg (lb v) f p m) := fun j hj => by
  unfold sSg
  split
  · exact lb_lt _ _
  · exact hf j hj
theorem c_sg {C : Nat → Nat} {v : Int64} {z m : Nat} (hC : ∀ j, j < z → C j < 256) : ∀ j, j < z + m → sSg (fun q => lb v (8 - m + q)) C z m j < 256 := fun j hj => by
  by_cases h : j < z
  · rw [sSg_out (Or.inl h)]
    exact hC j h
  · rw [sSg_in (by omega) hj]
    exact lb_lt _ _
theorem cbf_01 (kd d : Nat) : cbf kd d = 1 ∨ cbf kd d = 0 := by
  unfold cbf
  by_cases h : kd = 3 ∨ (kd = 4 ∧ d = 16)
  · exact Or.inl (if_pos h)
  · exact Or.inr (if_neg h)
section PU
variable {E D : bF} {kd P nn z d q m : Nat} {V C W ro O Y Y1 Y2 Z1 Z1' Z2 Z2' t : Nat → Nat}
theorem sg_same (h : ∀ j, j < q → ro j = O j) : ∀ j, j < q + m → sSg Y ro q m j = sSg Y O q m j := fun j hj => by
  by_cases h1 : q ≤ j
  · rw [sSg_in h1 hj, sSg_in h1 hj]
  · rw [sSg_out (Or.inl (by omega)), sSg_out (Or.inl (by omega)), h j (by omega)]
theorem row_h1 (h : ∀ j, j < q → ro j = O j) (hd : d ≤ 16) : ∀ j, j < q + d + 16 → sSg Y2 (sSg Y1 ro q d) (q + d) 16 j = sSg Y1 (sSg Y2 (sSg Y1 O q 16) (q + d) 16) q d j := fun j hj => by
  by_cases h1 : j < q
  · rw [sSg_out (Or.inl (by omega)), sSg_out (Or.inl h1), sSg_out (Or.inl h1), sSg_out (Or.inl (by omega)), sSg_out (Or.inl h1), h j h1]
  · by_cases h2 : j < q + d
    · rw [sSg_out (Or.inl h2), sSg_in (by omega) h2, sSg_in (by omega) h2]
    · rw [sSg_in (by omega) hj, sSg_out (Or.inr (by omega)), sSg_in (by omega) hj]
theorem row_h0 (h : ∀ j, j < q → ro j = O j) : ∀ j, j < q + 16 + d → sSg Y1 (sSg Y2 ro q 16) (q + 16) d j = sSg Y1 (sSg Y2 (sSg Y1 O q 16) q 16) (q + 16) d j := fun j hj => by
  by_cases h1 : j < q
  · rw [sSg_out (Or.inl (by omega)), sSg_out (Or.inl h1), sSg_out (Or.inl (by omega)), sSg_out (Or.inl h1), sSg_out (Or.inl h1), h j h1]
  · by_cases h2 : j < q + 16
    · rw [sSg_out (Or.inl h2), sSg_in (by omega) h2, sSg_out (Or.inl h2), sSg_in (by omega) h2]
    · rw [sSg_in (by omega) hj, sSg_in (by omega) hj]
theorem row_s (h : ∀ j, j < q → ro j = O j) (h1 : ∀ k, k < d → Z1 k = Z1' k) (h2 : ∀ k, k < 16 → Z2 k = Z2' k) : ∀ j, j < q + 16 + d → sSg Z1 (sSg Z2 ro q 16) (q + 16) d j = sSg Z2' (sSg Z1' O (q + 16) d) q 16 j := fun j hj => by
  by_cases c1 : j < q
  · rw [sSg_out (Or.inl (by omega)), sSg_out (Or.inl c1), sSg_out (Or.inl c1), sSg_out (Or.inl (by omega)), h j c1]
  · by_cases c2 : j < q + 16
    · rw [sSg_out (Or.inl c2), sSg_in (by omega) c2, sSg_in (by omega) c2]
      exact h2 _ (by omega)
    · rw [sSg_in (by omega) hj, sSg_out (Or.inr (by omega)), sSg_in (by omega) hj]
      exact h1 _ (by omega)
theorem row_x2 (h : ∀ j, j < q → ro j = O j) : ∀ j, j < q + 16 + 16 → sSg Y2 (sSg Y1 ro q 16) (q + 16) 16 j = sSg Y2 (sSg Y1 O q 16) (q + 16) 16 j := sg_same (sg_same h)
theorem eq_2h (hz : z = 16 * P + nn) (hn : nn < 16) (hW : ∀ j, j < nn → W j = C (16 * P + j)) (h : ∀ j, j < 16 * P → ro j = O j) : ∀ j, j < 16 * P + 16 → sSg (so E D 2 0 (bk (sSg (fun _ => 16 - nn) W nn (16 - nn)) 0) (lk E 2 0 V C P)) ro (16 * P) 16 j = sSg (so E D 2 0 (bk (sSg (fun _ => 16 - nn) C z (16 - nn)) P) (lk E 2 0 V (sSg (fun _ => 16 - nn) C z (16 - nn)) P)) O (16 * P) 16 j := by
  have e1 : bk (sSg (fun _ => 16 - nn) W nn (16 - nn)) 0 = bk (sSg (fun _ => 16 - nn) C z (16 - nn)) P := tq_bk (fun j hj => by
    by_cases c1 : j < nn
    · rw [sSg_out (Or.inl c1), sSg_out (Or.inl (by omega))]
      exact hW j c1
    · rw [sSg_in (by omega) (by omega), sSg_in (by omega) (by omega)])
  have e2 : lk E 2 0 V (sSg (fun _ => 16 - nn) C z (16 - nn)) P = lk E 2 0 V C P := lk_eq (n := z) (fun j hj => sSg_out (Or.inl hj)) P (by omega)
  rw [e1, e2]
  exact sg_same h
theorem sl_so (h0 : ¬ kd = 0) (h10 : ¬ kd = 10) : sl E kd 0 Y t = so E D kd 0 Y t := by rw [sl_h h0 h10 (by decide), so_h h0 h10 (by decide)]
theorem tlz_eq (hW : ∀ j, j < 16 + d → W j = C (16 * P + j)) : tlz W d = tlz (fun q => C (16 * P + q)) d := by
  funext z
  unfold tlz
  by_cases c1 : z < d
  · rw [if_pos c1, if_pos c1]
    exact hW _ (by omega)
  · rw [if_neg c1, if_neg c1]
/-- what was hidden last, with the bytes that were taken from it -/
theorem cpy1 {K : Nat → Nat} {R : Nat} (hd : d ≤ 16) (hW : ∀ j, j < 16 + d → W j = C (16 * P + j)) : ∀ k, k < 16 → sho K R (fun z => W (d + z)) k = sho K R (fun q => C (16 * P + d + q)) k := sho_cg (fun k hk => by
  show W (d + k) = C (16 * P + d + k)
  rw [hW _ (by omega), Nat.add_assoc])
theorem cpy1x {K : Nat → Nat} {R : Nat} (hd : d ≤ 16) (hW : ∀ j, j < 16 + d → W j = C (16 * P + j)) : ∀ k, k < 16 → va_cpy W (sho K R (fun z => W (d + z))) 0 0 d k = (fun q => if q < d then C (16 * P + q) else (sho K R (fun q => C (16 * P + d + q))) q) k := fun k hk => by
  show va_cpy W (sho K R (fun z => W (d + z))) 0 0 d k = if k < d then C (16 * P + k) else (sho K R (fun q => C (16 * P + d + q))) k
  unfold va_cpy
  by_cases c1 : k < d
  · rw [if_pos (by omega), if_pos c1, show 0 + (k - 0) = k by omega]
    exact hW k (by omega)
  · rw [if_neg (by omega), if_neg c1]
    exact cpy1 hd hW k hk
theorem cpy0 {K : Nat → Nat} {R : Nat} (hW : ∀ j, j < 16 + d → W j = C (16 * P + j)) : ∀ k, k < 16 → sho K R W k = sho K R (fun q => C (16 * P + q)) k := sho_cg (fun k hk => hW k (by omega))
theorem cpy0x {K : Nat → Nat} {R : Nat} (hW : ∀ j, j < 16 + d → W j = C (16 * P + j)) : ∀ k, k < 16 → va_cpy W (sho K R W) 16 0 d k = (fun q => if q < d then C (16 * P + 16 + q) else (sho K R (fun q => C (16 * P + q))) q) k := fun k hk => by
  show va_cpy W (sho K R W) 16 0 d k = if k < d then C (16 * P + 16 + k) else (sho K R (fun q => C (16 * P + q))) k
  unfold va_cpy
  by_cases c1 : k < d
  · rw [if_pos (by omega), if_pos c1, show 16 + (k - 0) = 16 + k by omega, hW _ (by omega), Nat.add_assoc]
  · rw [if_neg (by omega), if_neg c1]
    exact cpy0 hW k hk
theorem cpyx (hW : ∀ j, j < 16 + d → W j = C (16 * P + j)) : va_cpy W Y 16 0 d = (fun q => if q < d then C (16 * P + 16 + q) else Y q) := by
  funext k
  unfold va_cpy
  by_cases c1 : k < d
  · rw [if_pos (by omega), if_pos c1, show 16 + (k - 0) = 16 + k by omega, hW _ (by omega), Nat.add_assoc]
  · rw [if_neg (by omega), if_neg c1]
theorem hid_bF (K : Nat → Nat) (R : Nat) : bFcg (hid K R) := fun _ _ h => hid_cg h
theorem sho_bF (K : Nat → Nat) (R : Nat) : bFcg (sho K R) := fun _ _ h => sho_cg h
theorem bx_cg (h1 : ∀ k, k < 16 → Z1 k = Z1' k) (h2 : ∀ k, k < 16 → Z2 k = Z2' k) : ∀ k, k < 16 → bx Z1 Z2 k = bx Z1' Z2' k := fun k hk => by
  unfold bx
  rw [h1 k hk, h2 k hk]
end PU
