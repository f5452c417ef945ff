theorem E_OCH {l : Launch} {A B : Nat → Nat} {y1 y2 y3 x1 x2 x3 x4 x5 x7 c7 : sV} {f s u g8 ro g7 u12 u13 O : Nat → Nat} {n : Nat} {tl tm : sW} (hf : by8 64 f) (hs : by8 16 s) (hn : n ≤ 4112) (hr : ∀ j, j < n → ro j = O j) (hO : OCH A B y1 y2 y3 n ro tl x1 x2 x3 x4 x5 x7 O tm) : LPr l y_X_end c_X_end 2 y_M_end c_M_end 2 (some .int) A B [] oneI sameI ((xA A y1 y2 y3 f s u c7 g8 (.inl n) ro ++ tl) ++ (mA B x1 x2 x3 x4 x5 (.inl n) x7 f s g7 u12 u13 O ++ tm)) := by
  obtain ⟨kd, sh, w, z, nn, P, f0, g10, v14, v15, v16, v17, b1, b2, b3, v20, v21, v22, v23, v24, d1, d2, d3, v26, v27, e1, e2, e3, v29, v30, v31, v32, v33, g5, g6, V, C, H, m14, m15, hkd, ⟨hw, hsh, hf0, hg, hg5, hz, hz4, hV, hTT, hC, hW, hro, hOo⟩, rfl, rfl, rfl, rfl, rfl, rfl, rfl, rfl, rfl, rfl, rfl⟩ := hO
  have hK := fun j => KX_lt (w := w) (by omega) hf0 j
  have hE : bFok (hid (KX w f0) (w + 6)) := fun s hs => hid_lt hK hs
  have hD : bFok (sho (KX w f0) (w + 6)) := fun s hs => sho_lt hK hs
  have ht : by8 16 (lk (hid (KX w f0) (w + 6)) kd sh V C P) := lk_lt hE hV hC P (by omega)
  have hW8 : ∀ j, j < nn → v15 j < 256 := fun j hj => by rw [hW j hj]; exact hC _ (by omega)
  by_cases h2 : kd = 2
  · subst h2
    rcases (by omega : sh = 0 ∨ sh = 1) with rfl | rfl
    · rw [show nbh 2 0 = 0 from rfl] at hz
      refine ⟨_, _, _, _, rfl, b_X_end_CH_fin2h hw hf0 hg (by omega) hW8 ht (by omega), b_M_end_2h (z := z) (d := nn) (P := P) hw hf0 hg5 ⟨by omega, by omega, hz4⟩ hC hV hOo, (fun r w1 hX_ => by obtain ⟨W', u', rfl, rfl⟩ := hX_; exact ⟨_, _, rfl, rfl⟩), ?_⟩
      intro r w1 r' w2 hX_ hY_
      obtain ⟨W', u', rfl, rfl⟩ := hX_
      obtain ⟨s2', u2', rfl, rfl⟩ := hY_
      exact ⟨⟨_, _, _, rfl, rfl, rfl, rfl⟩, _, kXt.rf _, Inv.mk hf hs (by omega) (eq_2h (by omega) (by omega) hW hr) sT.mk sM.mk (Or.inl ⟨rfl, rfl⟩)⟩
    · rw [show nbh 2 1 = 1 from rfl] at hz
      by_cases h16 : nn = 16
      · subst h16
        have e : bk v15 0 = bk C P := tq_bk (fun j hj => hW j hj)
        have hY : ∃ Y, Y = so (hid (KX w f0) (w + 6)) (sho (KX w f0) (w + 6)) 2 1 (bk C P) (lk (hid (KX w f0) (w + 6)) 2 1 V C P) := ⟨_, rfl⟩
        obtain ⟨Y, eY⟩ := hY
        have eX : so (hid (KX w f0) (w + 6)) (sho (KX w f0) (w + 6)) 2 1 (bk v15 0) (lk (hid (KX w f0) (w + 6)) 2 1 V C P) = Y := by rw [eY, e]
        have hW16 : ∀ j, j < 16 → v15 j < 256 := hW8
        have hq : 16 * P + 16 ≤ 4112 := by omega
        have hzz : z = 16 * P + 16 ∧ z ≤ 4096 := ⟨by omega, hz4⟩
        by_cases hb : Y 15 < 1 ∨ 16 < Y 15
        · skip
          refine ⟨_, _, _, _, rfl, b_X_end_CH_fin2_f20 hw hf0 hg hW16 ht hq (by rw [eX]; exact hb), b_M_end_2s_f20 hw hf0 hg5 hzz hC hV (by rw [← eY]; exact hb), (fun r w1 hX_ => by obtain ⟨u', rfl, rfl⟩ := hX_; exact ⟨_, _, rfl, rfl⟩), ?_⟩
          intro r w1 r' w2 hX_ hY_
          obtain ⟨u', rfl, rfl⟩ := hX_
          obtain ⟨s2', u2', rfl, rfl⟩ := hY_
          exact ⟨⟨_, _, _, rfl, rfl, rfl, congrArg some (by decide +kernel)⟩, _, kXt.rf _, Inv.mk hf hs (hn) (fun j hj => (hr j hj).trans (sSg_out (Or.inl hj)).symm) sT.mk sM.mk (Or.inl ⟨rfl, rfl⟩)⟩
        · have hm1 : 1 ≤ Y 15 ∧ Y 15 ≤ 16 := by omega
          rcases l_first (Y 15) (fun j => Y (15 - j) = Y 15) with hall | ⟨k, hk, hbk, hnk⟩
          · have hxb : ∀ j, 16 - Y 15 ≤ j → j < 16 → Y j = Y 15 := fun j h1 h3 => by
              have h4 : Y (15 - (15 - j)) = Y 15 := hall (15 - j) (by omega)
              rw [show 15 - (15 - j) = j by omega] at h4
              exact h4
            refine ⟨_, _, _, _, rfl, b_X_end_CH_fin2_t hw hf0 hg hW16 ht hq (by rw [eX]; exact hm1) (by rw [eX]; exact hxb), b_M_end_2s_t hw hf0 hg5 hzz hC hV (by rw [← eY]; exact hm1) (by rw [← eY]; exact hall), (fun r w1 hX_ => by obtain ⟨u', rfl, rfl⟩ := hX_; exact ⟨_, _, rfl, rfl⟩), ?_⟩
            intro r w1 r' w2 hX_ hY_
            obtain ⟨u', rfl, rfl⟩ := hX_
            obtain ⟨s2', u2', rfl, rfl⟩ := hY_
            rw [eX, ← eY, show z - Y 15 = 16 * P + (16 - Y 15) by omega]
            exact ⟨⟨_, _, _, rfl, rfl, rfl, rfl⟩, _, kXt.rf _, Inv.mk hf hs (by omega) (fun j hj => by
              by_cases c1 : j < 16 * P
              · rw [sSg_out (Or.inl c1), sSg_out (Or.inl c1)]; exact hr j c1
              · rw [sSg_in (by omega) hj, sSg_in (by omega) (by omega)]) sT.mk sM.mk (Or.inl ⟨rfl, rfl⟩)⟩
          · rcases l_first (Y 15) (fun j => Y (16 - Y 15 + j) = Y 15) with hall | ⟨k2, hk2, hbk2, hnk2⟩
            · exact absurd (by have h4 : Y (16 - Y 15 + (Y 15 - 1 - k)) = Y 15 := hall (Y 15 - 1 - k) (by omega)
                               rw [show 16 - Y 15 + (Y 15 - 1 - k) = 15 - k by omega] at h4
                               exact h4) hnk
            · have hxb : ∀ j, 16 - Y 15 ≤ j → j < 16 - Y 15 + k2 → Y j = Y 15 := fun j h1 h3 => by
                have h4 : Y (16 - Y 15 + (j - (16 - Y 15))) = Y 15 := hbk2 (j - (16 - Y 15)) (by omega)
                rw [show 16 - Y 15 + (j - (16 - Y 15)) = j by omega] at h4
                exact h4
              refine ⟨_, _, _, _, rfl, b_X_end_CH_fin2_f2 (k := 16 - Y 15 + k2) hw hf0 hg hW16 ht hq (by rw [eX]; exact hm1) (by rw [eX]; omega) (by rw [eX]; exact hxb) (by rw [eX]; exact hnk2), b_M_end_2s_f2 (k := k) hw hf0 hg5 hzz hC hV (by rw [← eY]; exact hm1) (by rw [← eY]; exact hk) (by rw [← eY]; exact hbk) (by rw [← eY]; exact hnk), (fun r w1 hX_ => by obtain ⟨u', rfl, rfl⟩ := hX_; exact ⟨_, _, rfl, rfl⟩), ?_⟩
              intro r w1 r' w2 hX_ hY_
              obtain ⟨u', rfl, rfl⟩ := hX_
              obtain ⟨s2', u2', rfl, rfl⟩ := hY_
              exact ⟨⟨_, _, _, rfl, rfl, rfl, congrArg some (by decide +kernel)⟩, _, kXt.rf _, Inv.mk hf hs (hn) (fun j hj => (hr j hj).trans (sSg_out (Or.inl hj)).symm) sT.mk sM.mk (Or.inl ⟨rfl, rfl⟩)⟩
      · skip
        refine ⟨_, _, _, _, rfl, b_X_end_CH_fin2_f1 ⟨h16, by omega⟩, kBig.left (b_M_end_2s_f1 (z := z) hz4 (by omega)) _, (fun r w1 hX_ => by obtain ⟨rfl, rfl⟩ := hX_; exact ⟨_, _, rfl, rfl⟩), ?_⟩
        intro r w1 r' w2 hX_ hY_
        obtain ⟨rfl, rfl⟩ := hX_
        obtain ⟨v2, ⟨rfl, rfl⟩, rfl⟩ := hY_
        exact ⟨⟨_, _, _, rfl, rfl, rfl, congrArg some (by decide +kernel)⟩, _, kXt.rf _, Inv.mk hf hs (hn) (hr) sT.mk sM.mk (Or.inl ⟨rfl, rfl⟩)⟩
  · have hnb : nbh kd sh = 0 := by unfold nbh; rw [if_neg (by omega)]
    rw [hnb] at hz
    by_cases h0 : nn = 0
    · skip
      refine ⟨_, _, _, _, rfl, b_X_end_CH_fin01_0 (by omega) h0, kBig.left (b_M_end_01_0 (z := z) (by omega) hz4 (by omega)) _, (fun r w1 hX_ => by obtain ⟨rfl, rfl⟩ := hX_; exact ⟨_, _, rfl, rfl⟩), ?_⟩
      intro r w1 r' w2 hX_ hY_
      obtain ⟨rfl, rfl⟩ := hX_
      obtain ⟨v2, ⟨rfl, rfl⟩, rfl⟩ := hY_
      exact ⟨⟨_, _, _, rfl, rfl, rfl, rfl⟩, _, kXt.rf _, Inv.mk hf hs (hn) (hr) sT.mk sM.mk (Or.inl ⟨rfl, rfl⟩)⟩
    · skip
      refine ⟨_, _, _, _, rfl, b_X_end_CH_fin01_1 (by omega) ⟨h0, by omega⟩, kBig.left (b_M_end_01_1 (z := z) (by omega) hz4 (by omega)) _, (fun r w1 hX_ => by obtain ⟨rfl, rfl⟩ := hX_; exact ⟨_, _, rfl, rfl⟩), ?_⟩
      intro r w1 r' w2 hX_ hY_
      obtain ⟨rfl, rfl⟩ := hX_
      obtain ⟨v2, ⟨rfl, rfl⟩, rfl⟩ := hY_
      exact ⟨⟨_, _, _, rfl, rfl, rfl, congrArg some (by decide +kernel)⟩, _, kXt.rf _, Inv.mk hf hs (hn) (hr) sT.mk sM.mk (Or.inl ⟨rfl, rfl⟩)⟩
theorem E_OST {l : Launch} {A B : Nat → Nat} {y1 y2 y3 x1 x2 x3 x4 x5 x7 c7 : sV} {f s u g8 ro g7 u12 u13 O : Nat → Nat} {n : Nat} {tl tm : sW} (hf : by8 64 f) (hs : by8 16 s) (hn : n ≤ 4112) (hr : ∀ j, j < n → ro j = O j) (hO : OST A B y1 y2 y3 n ro tl x1 x2 x3 x4 x5 x7 O tm) : LPr l y_X_end c_X_end 2 y_M_end c_M_end 2 (some .int) A B [] oneI sameI ((xA A y1 y2 y3 f s u c7 g8 (.inl n) ro ++ tl) ++ (mA B x1 x2 x3 x4 x5 (.inl n) x7 f s g7 u12 u13 O ++ tm)) := by
  obtain ⟨kd, sh, w, z, nn, P, f0, g10, a1, a2, a3, v14, v15, v16, v17, v18, v20, v21, v22, v23, d1, d2, d3, v26, v27, e1, e2, e3, v29, v30, v31, v32, v33, g5, g6, V, C, H, m14, m15, hkd, ⟨hw, hsh, hf0, hg, hg5, hz, hz4, hV, hTT, hC, hW, hro, hOo⟩, rfl, rfl, rfl, rfl, rfl, rfl, rfl, rfl, rfl, rfl, rfl⟩ := hO
  have hK := fun j => KX_lt (w := w) (by omega) hf0 j
  have hE : bFok (hid (KX w f0) (w + 6)) := fun s hs => hid_lt hK hs
  have hD : bFok (sho (KX w f0) (w + 6)) := fun s hs => sho_lt hK hs
  have ht : by8 16 (lk (hid (KX w f0) (w + 6)) kd sh V C P) := lk_lt hE hV hC P (by omega)
  have hW8 : ∀ j, j < nn → v21 j < 256 := fun j hj => by rw [hW j hj]; exact hC _ (by omega)
  by_cases h1 : nn < 16
  · skip
    refine ⟨_, _, _, _, rfl, b_X_end_ST_fin_f h1, kBig.left (b_M_end_short (z := z) hkd (by omega)) _, (fun r w1 hX_ => by obtain ⟨rfl, rfl⟩ := hX_; exact ⟨_, _, rfl, rfl⟩), ?_⟩
    intro r w1 r' w2 hX_ hY_
    obtain ⟨rfl, rfl⟩ := hX_
    obtain ⟨v2, ⟨rfl, rfl⟩, rfl⟩ := hY_
    exact ⟨⟨_, _, _, rfl, rfl, rfl, congrArg some (by decide +kernel)⟩, _, kXt.rf _, Inv.mk hf hs (hn) (hr) sT.mk sM.mk (Or.inl ⟨rfl, rfl⟩)⟩
  · by_cases h16 : nn = 16
    · subst h16
      have hP : P = 0 := by omega
      subst hP
      have hz6 : z = 16 := by omega
      subst hz6
      have e : bk v21 0 = bk C 0 := tq_bk (fun j hj => hW j hj)
      rcases (by omega : sh = 0 ∨ sh = 1) with rfl | rfl
      · skip
        refine ⟨_, _, _, _, rfl, b_X_end_ST_fin_16 hw hf0 hg (by omega) (by omega) hW8 ht (by omega), b_M_end_10 hw hf0 hg5 hkd hC hV, (fun r w1 hX_ => by obtain ⟨W', u', rfl, rfl⟩ := hX_; exact ⟨_, _, rfl, rfl⟩), ?_⟩
        intro r w1 r' w2 hX_ hY_
        obtain ⟨W', u', rfl, rfl⟩ := hX_
        obtain ⟨u2', rfl, rfl⟩ := hY_
        rw [e]
        exact ⟨⟨_, _, _, rfl, rfl, rfl, rfl⟩, _, kXt.rf _, Inv.mk hf hs (by omega) (sg_same (fun j hj => absurd hj (by omega))) sT.mk sM.mk (Or.inl ⟨rfl, rfl⟩)⟩
      · skip
        refine ⟨_, _, _, _, rfl, b_X_end_ST_fin_16 hw hf0 hg (by omega) (by omega) hW8 ht (by omega), b_M_end_11 hw hf0 hg5 hkd hC hV, (fun r w1 hX_ => by obtain ⟨W', u', rfl, rfl⟩ := hX_; exact ⟨_, _, rfl, rfl⟩), ?_⟩
        intro r w1 r' w2 hX_ hY_
        obtain ⟨W', u', rfl, rfl⟩ := hX_
        obtain ⟨u2', rfl, rfl⟩ := hY_
        rw [e]
        exact ⟨⟨_, _, _, rfl, rfl, rfl, rfl⟩, _, kXt.rf _, Inv.mk hf hs (by omega) (sg_same (fun j hj => absurd hj (by omega))) sT.mk sM.mk (Or.inl ⟨rfl, rfl⟩)⟩
    · obtain ⟨d, rfl⟩ : ∃ d, nn = 16 + d := ⟨nn - 16, by omega⟩
      obtain ⟨hz1, hz2, hz3⟩ := hz
      subst hz1
      have hd : 1 ≤ d ∧ d ≤ 16 := by omega
      have hq : 16 * P + 16 + d ≤ 4112 := by omega
      have hzz : 16 * P + (16 + d) = 16 * P + 16 + d ∧ 1 ≤ d ∧ d ≤ 16 ∧ 16 * P + (16 + d) ≤ 4096 := ⟨by omega, by omega, by omega, hz4⟩
      have eb : bk v21 0 = bk C P := tq_bk (fun j hj => hW j (by omega))
      have et : tlz v21 d = tlz (fun q => C (16 * P + q)) d := tlz_eq hW
      have h0 : ¬ kd = 0 := by omega
      have h10 : ¬ kd = 10 := by omega
      rcases (by omega : sh = 0 ∨ sh = 1) with rfl | rfl
      · rcases cbf_01 kd d with hc | hc
        · skip
          refine ⟨_, _, _, _, rfl, b_X_end_ST_fin_0_1 hw hf0 hg (by omega) h0 hd hW8 ht hq hc, b_M_end_h1 (d := d) (P := P) hw hf0 hg5 hkd hzz hC hV hOo hc, (fun r w1 hX_ => by obtain ⟨u', rfl, rfl⟩ := hX_; exact ⟨_, _, rfl, rfl⟩), ?_⟩
          intro r w1 r' w2 hX_ hY_
          obtain ⟨u', rfl, rfl⟩ := hX_
          obtain ⟨u2', rfl, rfl⟩ := hY_
          rw [eb, et, sl_so (E := hid (KX w f0) (w + 6)) (D := sho (KX w f0) (w + 6)) (Y := bk C P) (t := lk (hid (KX w f0) (w + 6)) kd 0 V C P) h0 h10]
          rw [show 16 * P + d + 16 = 16 * P + (16 + d) by omega]
          exact ⟨⟨_, _, _, rfl, rfl, rfl, rfl⟩, _, kXt.rf _, Inv.mk hf hs (by omega) (fun j hj => row_h1 hr (by omega) j (by omega)) sT.mk sM.mk (Or.inl ⟨rfl, rfl⟩)⟩
        · skip
          refine ⟨_, _, _, _, rfl, b_X_end_ST_fin_0_0 hw hf0 hg (by omega) h0 hd hW8 ht hq hc, b_M_end_h0 (d := d) (P := P) hw hf0 hg5 hkd hzz hC hV hOo hc, (fun r w1 hX_ => by obtain ⟨u', rfl, rfl⟩ := hX_; exact ⟨_, _, rfl, rfl⟩), ?_⟩
          intro r w1 r' w2 hX_ hY_
          obtain ⟨u', rfl, rfl⟩ := hX_
          obtain ⟨u2', rfl, rfl⟩ := hY_
          rw [eb, et, sl_so (E := hid (KX w f0) (w + 6)) (D := sho (KX w f0) (w + 6)) (Y := bk C P) (t := lk (hid (KX w f0) (w + 6)) kd 0 V C P) h0 h10]
          rw [show 16 * P + 16 + d = 16 * P + (16 + d) by omega]
          exact ⟨⟨_, _, _, rfl, rfl, rfl, rfl⟩, _, kXt.rf _, Inv.mk hf hs (by omega) (fun j hj => row_h0 hr j (by omega)) sT.mk sM.mk (Or.inl ⟨rfl, rfl⟩)⟩
      · rcases cbf_01 kd d with hc | hc
        · skip
          refine ⟨_, _, _, _, rfl, b_X_end_ST_fin_1_1 hw hf0 hg (by omega) h0 hd hW8 ht hq hc, b_M_end_s1 (d := d) (P := P) hw hf0 hg5 hkd hzz hC hV hc, (fun r w1 hX_ => by obtain ⟨u', rfl, rfl⟩ := hX_; exact ⟨_, _, rfl, rfl⟩), ?_⟩
          intro r w1 r' w2 hX_ hY_
          obtain ⟨u', rfl, rfl⟩ := hX_
          obtain ⟨u2', rfl, rfl⟩ := hY_
          rw [show 16 * P + 16 + d = 16 * P + (16 + d) by omega]
          exact ⟨⟨_, _, _, rfl, rfl, rfl, rfl⟩, _, kXt.rf _, Inv.mk hf hs (by omega) (fun j hj => row_s hr (fun k hk => bx_cg (cpy1 (by omega) hW) (cpy1x (by omega) hW) k (by omega)) (so_cg (hid_bF _ _) (sho_bF _ _) (cpy1x (by omega) hW) (fun _ _ => rfl)) j (by omega)) sT.mk sM.mk (Or.inl ⟨rfl, rfl⟩)⟩
        · skip
          refine ⟨_, _, _, _, rfl, b_X_end_ST_fin_1_0 hw hf0 hg (by omega) h0 hd hW8 ht hq hc, b_M_end_s0 (d := d) (P := P) hw hf0 hg5 hkd hzz hC hV hc, (fun r w1 hX_ => by obtain ⟨u', rfl, rfl⟩ := hX_; exact ⟨_, _, rfl, rfl⟩), ?_⟩
          intro r w1 r' w2 hX_ hY_
          obtain ⟨u', rfl, rfl⟩ := hX_
          obtain ⟨u2', rfl, rfl⟩ := hY_
          rw [show 16 * P + 16 + d = 16 * P + (16 + d) by omega]
          exact ⟨⟨_, _, _, rfl, rfl, rfl, rfl⟩, _, kXt.rf _, Inv.mk hf hs (by omega) (fun j hj => row_s hr (fun k hk => bx_cg (cpy0 hW) (cpy0x hW) k (by omega)) (so_cg (hid_bF _ _) (sho_bF _ _) (cpy0x hW) (fun _ _ => rfl)) j (by omega)) sT.mk sM.mk (Or.inl ⟨rfl, rfl⟩)⟩
theorem E_OTW {l : Launch} {A B : Nat → Nat} {y1 y2 y3 x1 x2 x3 x4 x5 x7 c7 : sV} {f s u g8 ro g7 u12 u13 O : Nat → Nat} {n : Nat} {tl tm : sW} (hf : by8 64 f) (hs : by8 16 s) (hn : n ≤ 4112) (hr : ∀ j, j < n → ro j = O j) (hO : OTW A B y1 y2 y3 n ro tl x1 x2 x3 x4 x5 x7 O tm) : LPr l y_X_end c_X_end 2 y_M_end c_M_end 2 (some .int) A B [] oneI sameI ((xA A y1 y2 y3 f s u c7 g8 (.inl n) ro ++ tl) ++ (mA B x1 x2 x3 x4 x5 (.inl n) x7 f s g7 u12 u13 O ++ tm)) := by
  obtain ⟨sh, w, z, nn, P, f0, f2, H0, g10, a1, a2, a3, v14, v15, v16, v17, v18, b1, b2, b3, v20, v21, v22, v23, v24, d1, d2, d3, v26, v27, v29, v30, v31, v32, g5, g6, V, C, m14, m15, hf2, hg6, ⟨hw, hsh, hf0, hg, hg5, hz, hz4, hV, hTT, hC, hW, hro, hOo⟩, rfl, rfl, rfl, rfl, rfl, rfl, rfl, rfl, rfl, rfl, rfl, rfl⟩ := hO
  have hK := fun j => KX_lt (w := w) (by omega) hf0 j
  have hE : bFok (hid (KX w f0) (w + 6)) := fun s hs => hid_lt hK hs
  have hD : bFok (sho (KX w f0) (w + 6)) := fun s hs => sho_lt hK hs
  have ht : by8 16 (lk (hid (KX w f0) (w + 6)) 10 sh (hid (KX w f2) (w + 6) V) C P) := lk_lt hE hTT hC P (by omega)
  have hW8 : ∀ j, j < nn → v30 j < 256 := fun j hj => by rw [hW j hj]; exact hC _ (by omega)
  have eT : lk (hid (KX w f0) (w + 6)) 10 sh (hid (KX w f2) (w + 6) V) C P = twk (hid (KX w f2) (w + 6) V) P := lk_md10 P
  by_cases h1 : nn < 16
  · skip
    refine ⟨_, _, _, _, rfl, b_X_end_TW_fin_f h1, kBig.left (b_M_end_short10 (z := z) (by omega)) _, (fun r w1 hX_ => by obtain ⟨rfl, rfl⟩ := hX_; exact ⟨_, _, rfl, rfl⟩), ?_⟩
    intro r w1 r' w2 hX_ hY_
    obtain ⟨rfl, rfl⟩ := hX_
    obtain ⟨v2, ⟨rfl, rfl⟩, rfl⟩ := hY_
    exact ⟨⟨_, _, _, rfl, rfl, rfl, congrArg some (by decide +kernel)⟩, _, kXt.rf _, Inv.mk hf hs (hn) (hr) sT.mk sM.mk (Or.inl ⟨rfl, rfl⟩)⟩
  · by_cases h16 : nn = 16
    · subst h16
      have hP : P = 0 := by omega
      subst hP
      have hz6 : z = 16 := by omega
      subst hz6
      have e : bk v30 0 = bk C 0 := tq_bk (fun j hj => hW j hj)
      refine ⟨_, _, _, _, rfl, b_X_end_TW_fin_16 hw hf0 hg hsh hW8 ht (by omega), b_M_end_x1 hw hf0 hg5 hf2 hg6 hV hsh hC, (fun r w1 hX_ => by obtain ⟨W', u', rfl, rfl⟩ := hX_; exact ⟨_, _, rfl, rfl⟩), ?_⟩
      intro r w1 r' w2 hX_ hY_
      obtain ⟨W', u', rfl, rfl⟩ := hX_
      obtain ⟨u2', rfl, rfl⟩ := hY_
      rw [e, eT]
      exact ⟨⟨_, _, _, rfl, rfl, rfl, rfl⟩, _, kXt.rf _, Inv.mk hf hs (by omega) (sg_same (fun j hj => absurd hj (by omega))) sT.mk sM.mk (Or.inl ⟨rfl, rfl⟩)⟩
    · by_cases h32 : nn = 32
      · subst h32
        obtain ⟨hz1, hz2, hz3⟩ := hz
        subst hz1
        have e0 : bk v30 0 = bk C P := tq_bk (fun j hj => hW j (by omega))
        have e1 : bk v30 1 = bk C (P + 1) := by
          funext k
          unfold bk
          by_cases c1 : k < 16
          · rw [if_pos c1, if_pos c1, hW _ (by omega)]
            congr 1
            omega
          · rw [if_neg c1, if_neg c1]
        refine ⟨_, _, _, _, rfl, b_X_end_TW_fin_32 hw hf0 hg hsh hW8 ht (by omega), b_M_end_x2 (P := P) hw hf0 hg5 hf2 hg6 hV hsh ⟨rfl, hz4⟩ hC, (fun r w1 hX_ => by obtain ⟨W', u', rfl, rfl⟩ := hX_; exact ⟨_, _, rfl, rfl⟩), ?_⟩
        intro r w1 r' w2 hX_ hY_
        obtain ⟨W', u', rfl, rfl⟩ := hX_
        obtain ⟨u2', rfl, rfl⟩ := hY_
        rw [e0, e1, eT, sl_10 (s := bk C P), show 16 * P + 16 + 16 = 16 * P + 32 from rfl]
        exact ⟨⟨_, _, _, rfl, rfl, rfl, rfl⟩, _, kXt.rf _, Inv.mk hf hs (by omega) (fun j hj => row_x2 hr j (by omega)) sT.mk sM.mk (Or.inl ⟨rfl, rfl⟩)⟩
      · obtain ⟨d, rfl⟩ : ∃ d, nn = 16 + d := ⟨nn - 16, by omega⟩
        obtain ⟨hz1, hz2, hz3⟩ := hz
        subst hz1
        have hd : 1 ≤ d ∧ d ≤ 15 := by omega
        have hq : 16 * P + 16 + d ≤ 4112 := by omega
        have hzz : 16 * P + (16 + d) = 16 * P + 16 + d ∧ 1 ≤ d ∧ d ≤ 15 ∧ 16 * P + (16 + d) ≤ 4096 := ⟨by omega, by omega, by omega, hz4⟩
        have eb : bk v30 0 = bk C P := tq_bk (fun j hj => hW j (by omega))
        rcases (by omega : sh = 0 ∨ sh = 1) with rfl | rfl
        · skip
          refine ⟨_, _, _, _, rfl, b_X_end_TW_fin_d0 hw hf0 hg hd hW8 ht hq, b_M_end_t0 (d := d) (P := P) hw hf0 hg5 hf2 hg6 hzz hC hV, (fun r w1 hX_ => by obtain ⟨rfl, rfl⟩ := hX_; exact ⟨_, _, rfl, rfl⟩), ?_⟩
          intro r w1 r' w2 hX_ hY_
          obtain ⟨rfl, rfl⟩ := hX_
          obtain ⟨u2', w2', rfl, rfl⟩ := hY_
          rw [eb, eT, cpyx hW, sl_10 (s := bk C P)]
          rw [show 16 * P + 16 + d = 16 * P + (16 + d) by omega]
          exact ⟨⟨_, _, _, rfl, rfl, rfl, rfl⟩, _, kXt.rf _, Inv.mk hf hs (by omega) (fun j hj => row_s hr (fun _ _ => rfl) (fun _ _ => rfl) j (by omega)) sT.mk sM.mk (Or.inl ⟨rfl, rfl⟩)⟩
        · skip
          refine ⟨_, _, _, _, rfl, b_X_end_TW_fin_d1 hw hf0 hg hd hW8 ht hq, b_M_end_t1 (d := d) (P := P) hw hf0 hg5 hf2 hg6 hzz hC hV, (fun r w1 hX_ => by obtain ⟨rfl, rfl⟩ := hX_; exact ⟨_, _, rfl, rfl⟩), ?_⟩
          intro r w1 r' w2 hX_ hY_
          obtain ⟨rfl, rfl⟩ := hX_
          obtain ⟨u2', w2', rfl, rfl⟩ := hY_
          rw [eb, eT, cpyx hW]
          rw [show 16 * P + 16 + d = 16 * P + (16 + d) by omega]
          exact ⟨⟨_, _, _, rfl, rfl, rfl, rfl⟩, _, kXt.rf _, Inv.mk hf hs (by omega) (fun j hj => row_s hr (fun _ _ => rfl) (fun _ _ => rfl) j (by omega)) sT.mk sM.mk (Or.inl ⟨rfl, rfl⟩)⟩
theorem E_OSM {l : Launch} {A B : Nat → Nat} {y1 y2 y3 x1 x2 x3 x4 x5 x7 c7 : sV} {f s u g8 ro g7 u12 u13 O : Nat → Nat} {n : Nat} {tl tm : sW} (hf : by8 64 f) (hs : by8 16 s) (hn : n ≤ 4112) (hr : ∀ j, j < n → ro j = O j) (hO : OSM A B y1 y2 y3 n ro tl x1 x2 x3 x4 x5 x7 O tm) : LPr l y_X_end c_X_end 2 y_M_end c_M_end 2 (some .int) A B [] oneI sameI ((xA A y1 y2 y3 f s u c7 g8 (.inl n) ro ++ tl) ++ (mA B x1 x2 x3 x4 x5 (.inl n) x7 f s g7 u12 u13 O ++ tm)) := by
  obtain ⟨kd, sh, w, z, f0, g10, a1, a2, a3, v14, v15, v16, v17, v18, b1, b2, b3, v20, v21, v22, v23, v24, v26, e1, e2, e3, v29, v30, v31, v32, v33, g5, g6, V, C, H, m14, m15, hkd, ⟨hw, hsh, hf0, hg, hg5, hz4, hV, hC⟩, hmk, hro, hOo, hH, hnz, rfl, rfl, rfl, rfl, rfl, rfl, rfl, rfl, rfl, rfl⟩ := hO
  subst n
  refine ⟨_, _, _, _, rfl, b_X_end_SM_finish, kBig.left (b_M_end_s (md := kd) (z := z) (by omega) hz4) _, (fun r w1 hX_ => by obtain ⟨rfl, rfl⟩ := hX_; exact ⟨_, _, rfl, rfl⟩), ?_⟩
  intro r w1 r' w2 hX_ hY_
  obtain ⟨rfl, rfl⟩ := hX_
  obtain ⟨v2, ⟨rfl, rfl⟩, rfl⟩ := hY_
  exact ⟨⟨_, _, _, rfl, rfl, rfl, rfl⟩, _, kXt.rf _, Inv.mk hf hs (hn) (hr) sT.mk sM.mk (Or.inl ⟨rfl, rfl⟩)⟩
theorem E_OS9 {l : Launch} {A B : Nat → Nat} {y1 y2 y3 x1 x2 x3 x4 x5 x7 c7 : sV} {f s u g8 ro g7 u12 u13 O : Nat → Nat} {n : Nat} {tl tm : sW} (hf : by8 64 f) (hs : by8 16 s) (hn : n ≤ 4112) (hr : ∀ j, j < n → ro j = O j) (hO : OS9 A B y1 y2 y3 n ro tl x1 x2 x3 x4 x5 x7 O tm) : LPr l y_X_end c_X_end 2 y_M_end c_M_end 2 (some .int) A B [] oneI sameI ((xA A y1 y2 y3 f s u c7 g8 (.inl n) ro ++ tl) ++ (mA B x1 x2 x3 x4 x5 (.inl n) x7 f s g7 u12 u13 O ++ tm)) := by
  obtain ⟨sh, w, z, f0, g10, a1, a2, a3, v14, v15, v16, v17, v18, b1, b2, b3, v20, v21, v22, v23, v24, v26, e1, e2, e3, v29, v30, v31, v32, v33, g5, g6, V, C, H, m14, m15, ⟨hw, hsh, hf0, hg, hg5, hz4, hV, hC⟩, hro, hOo, hnz, rfl, rfl, rfl, rfl, rfl, rfl, rfl, rfl, rfl, rfl⟩ := hO
  subst n
  refine ⟨_, _, _, _, rfl, b_X_end_SM_finish, kBig.left (b_M_end_s (md := 9) (z := z) (by omega) hz4) _, (fun r w1 hX_ => by obtain ⟨rfl, rfl⟩ := hX_; exact ⟨_, _, rfl, rfl⟩), ?_⟩
  intro r w1 r' w2 hX_ hY_
  obtain ⟨rfl, rfl⟩ := hX_
  obtain ⟨v2, ⟨rfl, rfl⟩, rfl⟩ := hY_
  exact ⟨⟨_, _, _, rfl, rfl, rfl, rfl⟩, _, kXt.rf _, Inv.mk hf hs (hn) (hr) sT.mk sM.mk (Or.inl ⟨rfl, rfl⟩)⟩
theorem P_end {l : Launch} {A B : Nat → Nat} {w : sW} (hI : Inv A B w) : LPr l y_X_end c_X_end 2 y_M_end c_M_end 2 (some .int) A B [] oneI sameI w := by
  obtain ⟨y1, y2, y3, f, s, u, c7, g8, n, ro, tl, x1, x2, x3, x4, x5, x7, g7, u12, u13, O, tm, rfl, hf, hs, hn, hr, hT, hM, hO⟩ := hI
  rcases hO with ⟨rfl, rfl⟩ | hO | hO | hO | hO | hO
  · skip
    refine ⟨_, _, _, _, rfl, kBig.left (b_X_end_f) tl, kBig.left (b_M_end_f) tm, (fun r w1 hX_ => by obtain ⟨v1, ⟨rfl, rfl⟩, rfl⟩ := hX_; exact ⟨_, _, rfl, rfl⟩), ?_⟩
    intro r w1 r' w2 hX_ hY_
    obtain ⟨v1, ⟨rfl, rfl⟩, rfl⟩ := hX_
    obtain ⟨v2, ⟨rfl, rfl⟩, rfl⟩ := hY_
    exact ⟨⟨_, _, _, rfl, rfl, rfl, rfl⟩, _, kXt.rf _, Inv.mk hf hs hn hr hT hM (Or.inl ⟨rfl, rfl⟩)⟩
  · exact E_OCH hf hs hn hr hO
  · exact E_OST hf hs hn hr hO
  · exact E_OTW hf hs hn hr hO
  · exact E_OSM hf hs hn hr hO
  · exact E_OS9 hf hs hn hr hO
