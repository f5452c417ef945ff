/-! the cipher of a block depends on its 16 bytes alone -/
section CG
variable {K s t : Nat → Nat} {R : Nat}
theorem hsr_cg (h : ∀ k, k < 16 → s k = t k) : ∀ k, k < 16 → hsr s k = hsr t k := fun k _ => by
  unfold hsr
  rw [h _ (by omega)]
theorem ssr_cg (h : ∀ k, k < 16 → s k = t k) : ∀ k, k < 16 → ssr s k = ssr t k := fun k _ => by
  unfold ssr
  rw [h _ (by omega)]
theorem mxf_cg (h : ∀ k, k < 16 → s k = t k) : ∀ k, k < 16 → mxf s k = mxf t k := fun k hk => by
  unfold mxf
  rw [h k hk, h (k - k % 4 + (k % 4 + 1) % 4) (by omega), h (k - k % 4 + (k % 4 + 2) % 4) (by omega), h (k - k % 4 + (k % 4 + 3) % 4) (by omega)]
theorem imf_cg (h : ∀ k, k < 16 → s k = t k) : ∀ k, k < 16 → imf s k = imf t k := fun k hk => by
  unfold imf
  rw [h k hk, h (k - k % 4 + (k % 4 + 1) % 4) (by omega), h (k - k % 4 + (k % 4 + 2) % 4) (by omega), h (k - k % 4 + (k % 4 + 3) % 4) (by omega)]
theorem hst_cg (h : ∀ k, k < 16 → s k = t k) : ∀ r k, k < 16 → hst K s r k = hst K t r k
  | 0, k, hk => by
    show s k ^^^ K k = t k ^^^ K k
    rw [h k hk]
  | r + 1, k, hk => by
    show mxf (hsr (hst K s r)) k ^^^ K (16 * (r + 1) + k) = mxf (hsr (hst K t r)) k ^^^ K (16 * (r + 1) + k)
    rw [mxf_cg (hsr_cg (fun k hk => hst_cg h r k hk)) k hk]
theorem hid_cg (h : ∀ k, k < 16 → s k = t k) : ∀ k, k < 16 → hid K R s k = hid K R t k := fun k hk => by
  unfold hid
  rw [hsr_cg (fun k hk => hst_cg h (R - 1) k hk) k hk]
theorem sst_cg (h : ∀ k, k < 16 → s k = t k) : ∀ r k, k < 16 → sst K R s r k = sst K R t r k
  | 0, k, hk => by
    show s k ^^^ K (16 * R + k) = t k ^^^ K (16 * R + k)
    rw [h k hk]
  | r + 1, k, hk => by
    show imf (fun j => ssr (sst K R s r) j ^^^ K (16 * (R - 1 - r) + j)) k = imf (fun j => ssr (sst K R t r) j ^^^ K (16 * (R - 1 - r) + j)) k
    refine imf_cg (fun j hj => ?_) k hk
    show ssr (sst K R s r) j ^^^ _ = ssr (sst K R t r) j ^^^ _
    rw [ssr_cg (fun k hk => sst_cg h r k hk) j hj]
theorem sho_cg (h : ∀ k, k < 16 → s k = t k) : ∀ k, k < 16 → sho K R s k = sho K R t k := fun k hk => by
  unfold sho
  rw [ssr_cg (fun k hk => sst_cg h (R - 1) k hk) k hk]
end CG
def bFcg (E : bF) : Prop := ∀ s t : Nat → Nat, (∀ k, k < 16 → s k = t k) → ∀ k, k < 16 → E s k = E t k
section CG2
variable {E D : bF} {md sh : Nat} {s s' t t' : Nat → Nat}
theorem so_cg (hE : bFcg E) (hD : bFcg D) (h : ∀ k, k < 16 → s k = s' k) (ht : ∀ k, k < 16 → t k = t' k) : ∀ k, k < 16 → so E D md sh s t k = so E D md sh s' t' k := by
  have hb : ∀ k, k < 16 → bx s t k = bx s' t' k := fun k hk => by
    unfold bx
    rw [h k hk, ht k hk]
  intro k hk
  unfold so
  by_cases h0 : md = 0
  · rw [if_pos h0, if_pos h0]
    by_cases hs : sh = 1
    · rw [if_pos hs, if_pos hs]; exact hD _ _ h k hk
    · rw [if_neg hs, if_neg hs]; exact hE _ _ h k hk
  · rw [if_neg h0, if_neg h0]
    by_cases h1 : md = 10
    · rw [if_pos h1, if_pos h1]
      show (if sh = 1 then D else E) (bx s t) k ^^^ t k = (if sh = 1 then D else E) (bx s' t') k ^^^ t' k
      rw [ht k hk]
      by_cases hs : sh = 1
      · rw [if_pos hs, hD _ _ hb k hk]
      · rw [if_neg hs, hE _ _ hb k hk]
    · rw [if_neg h1, if_neg h1]
      by_cases hs : sh = 1
      · rw [if_pos hs, if_pos hs]
        show D s k ^^^ t k = D s' k ^^^ t' k
        rw [hD _ _ h k hk, ht k hk]
      · rw [if_neg hs, if_neg hs]; exact hE _ _ hb k hk
end CG2
