theorem nb_ch {kd sh : Nat} (h : kd ≤ 2) : nbm kd sh = nbh kd sh := by
  unfold nbm nbh
  split
  · rfl
  · rw [if_pos (by omega)]
theorem nb_st {kd sh : Nat} (h : (3 ≤ kd ∧ kd ≤ 5) ∨ kd = 10) : nbm kd sh = 17 := by
  unfold nbm
  rw [if_neg (by omega), if_neg (by omega)]
theorem md_b {kd sh z : Nat} (h : kd ≤ 5 ∨ kd = 10) : mdue kd sh z = 16 * ((z - nbm kd sh) / 16) := by
  unfold mdue
  rw [if_neg (by omega)]
theorem bM_feed {l : Launch} {B : Nat → Nat} {x7 : sV} {f g V C O s u kf ks g7 g6 H m14 m15 : Nat → Nat} {w z m P P' md sh : Nat} {v : Int64} (hw : w = 4 ∨ w = 6 ∨ w = 8) (hf : by8 (4 * w) f) (hg : ∀ i, i < 16 * (w + 7) → g i = KX w f i) (hm : 1 ≤ m ∧ m ≤ 8) (hz2 : z + m ≤ 4096) (hC : ∀ j, j < z → C j < 256) (hV : by8 16 V) (hdm : mdue md sh (z + m) = 16 * P') (hPP : P ≤ P' ∧ 16 * P' ≤ z + m ∧ 16 * P ≤ z) (hO : ∀ j, j < 16 * P → O j = obs (hid (KX w f) (w + 6)) (sho (KX w f) (w + 6)) md sh V C j) (hsh : sh < 2) (hmd : md ≤ 5) : kBig l y_M_feed c_M_feed 6 (some .int) 8 (B 0) [.inr (.long v), .inl m] (mA B (.inl md) (.inl w) (.inl sh) (.inl 1) (.inl z) (.inl (16 * P)) x7 kf ks g7 s u O ++ tmW B g g6 V C H m14 m15) (fun r_ w_ => ∃ s' u', r_ = some (.inl (16 * P')) ∧ w_ = mA B (.inl md) (.inl w) (.inl sh) (.inl 1) (.inl (z + m)) (.inl (16 * P')) x7 kf ks g7 s' u' (sSg (obs (hid (KX w f) (w + 6)) (sho (KX w f) (w + 6)) md sh V (sSg (fun q => lb v (8 - m + q)) C z m)) O 0 (16 * P')) ++ tmW B g g6 V (sSg (fun q => lb v (8 - m + q)) C z m) (H) m14 m15) := by
  rcases Nat.eq_zero_or_pos md with rfl | h0
  · exact b_M_feed_0 hw hf hg hm hz2 hC hV hdm hPP hO hsh
  · rcases (by omega : sh = 0 ∨ sh = 1) with rfl | rfl
    · exact b_M_feed_c0 hw hf hg hm hz2 hC hV hdm hPP hO ⟨h0, hmd⟩
    · exact b_M_feed_c1 hw hf hg hm hz2 hC hV hdm hPP hO ⟨h0, hmd⟩
theorem bM_feeds {l : Launch} {B : Nat → Nat} {x7 : sV} {f g V C O s u kf ks g7 g6 H m14 m15 : Nat → Nat} {w z m md sh : Nat} {v : Int64} (hw : w = 4 ∨ w = 6 ∨ w = 8) (hf : by8 (4 * w) f) (hg : ∀ i, i < 16 * (w + 7) → g i = KX w f i) (hm : 1 ≤ m ∧ m ≤ 8) (hz2 : z + m ≤ 4096) (hC : ∀ j, j < z → C j < 256) (hV : by8 16 V) (hsh : sh < 2) (hO : ∀ j, j < z → O j = osS (hid (KX w f) (w + 6)) md sh V C j) (hH : ∀ j, j < 16 * ((z + 15) / 16) → H j = mskS (hid (KX w f) (w + 6)) md sh V C j) (hmd : 6 ≤ md ∧ md ≤ 8) : kBig l y_M_feed c_M_feed 6 (some .int) 8 (B 0) [.inr (.long v), .inl m] (mA B (.inl md) (.inl w) (.inl sh) (.inl 1) (.inl z) (.inl z) x7 kf ks g7 s u O ++ tmW B g g6 V C H m14 m15) (fun r_ w_ => ∃ s' u', r_ = some (.inl (z + m)) ∧ w_ = mA B (.inl md) (.inl w) (.inl sh) (.inl 1) (.inl (z + m)) (.inl (z + m)) x7 kf ks g7 s' u' (sSg (osS (hid (KX w f) (w + 6)) md sh V (sSg (fun q => lb v (8 - m + q)) C z m)) O 0 (z + m)) ++ tmW B g g6 V (sSg (fun q => lb v (8 - m + q)) C z m) (sSg (mskS (hid (KX w f) (w + 6)) md sh V (sSg (fun q => lb v (8 - m + q)) C z m)) H 0 (16 * ((z + m + 15) / 16))) m14 m15) := by
  rcases (by omega : md = 6 ∨ md = 7 ∨ md = 8) with rfl | rfl | rfl
  · exact b_M_feed_6 hw hf hg hm hz2 hC hV hsh hO hH
  · exact b_M_feed_7 hw hf hg hm hz2 hC hV hsh hO hH
  · exact b_M_feed_8 hw hf hg hm hz2 hC hV hsh hO hH
theorem F_OCH {l : Launch} {A B : Nat → Nat} {y1 y2 y3 x1 x2 x3 x4 x5 x7 c7 : sV} {f s u g8 ro g7 u12 u13 O : Nat → Nat} {n : Nat} {tl tm : sW} {m : Nat} {v : Int64} (hf : by8 64 f) (hs : by8 16 s) (hn : n ≤ 4112) (hr : ∀ j, j < n → ro j = O j) (hm : 1 ≤ m ∧ m ≤ 8) (hO : OCH A B y1 y2 y3 n ro tl x1 x2 x3 x4 x5 x7 O tm) : LPr l y_X_feed c_X_feed 5 y_M_feed c_M_feed 6 (some .int) A B [.inr (.long v), .inr (.int (nI m))] oneI sameI ((xA A y1 y2 y3 f s u c7 g8 (.inl n) ro ++ tl) ++ (mA B x1 x2 x3 x4 x5 (.inl n) x7 f s g7 u12 u13 O ++ tm)) := by
  have hO2 := hO
  obtain ⟨kd, sh, w, z, nn, P, f0, g10, v14, v15, v16, v17, b1, b2, b3, v20, v21, v22, v23, v24, d1, d2, d3, v26, v27, e1, e2, e3, v29, v30, v31, v32, v33, g5, g6, V, C, H, m14, m15, hkd, ⟨hw, hsh, hf0, hg, hg5, hz, hz4, hV, hTT, hC, hW, hro, hOo⟩, rfl, rfl, rfl, rfl, rfl, rfl, rfl, rfl, rfl, rfl, rfl⟩ := hO
  by_cases hz2 : z + m ≤ 4096
  · have hnb : nbm kd sh = nbh kd sh := nb_ch hkd
    have hdm : mdue kd sh (z + m) = 16 * ((z + m - nbm kd sh) / 16) := md_b (Or.inl (by omega))
    refine ⟨_, _, _, _, rfl, kBig.av (as' := [.inr (.long v), .inr (.int (nI m))]) (b_X_feed_CH hw hf0 hg hsh (by omega) hz hm hz2 hTT hC hW hro) rfl, kBig.av (as' := [.inr (.long v), .inr (.int (nI m))]) (bM_feed hw hf0 hg5 hm hz2 hC hV hdm (by omega) hOo hsh (by omega)) rfl, (fun r w1 hX_ => by obtain ⟨P', n', W', b', u', ro', rfl, hz', hW', hro', rfl⟩ := hX_; exact ⟨_, _, rfl, rfl⟩), ?_⟩
    intro r w1 r' w2 hX_ hY_
    obtain ⟨P', n', W', b', u', ro', rfl, hz', hW', hro', rfl⟩ := hX_
    obtain ⟨s2', u2', rfl, rfl⟩ := hY_
    have hP_ : P' = ((z + m - nbm kd sh) / 16) := by omega
    subst hP_
    exact ⟨⟨_, _, _, rfl, rfl, rfl, rfl⟩, _, kXt.rf _, Inv.mk hf hs (by omega) (fun j hj => (hro' j hj).trans (sSg_in (Nat.zero_le _) (by omega)).symm) sT.mk sM.mk (Or.inr (Or.inl (⟨kd, sh, w, z + m, n', ((z + m - nbm kd sh) / 16), f0, g10, u', W', b', v17, b1, b2, b3, v20, v21, v22, v23, v24, d1, d2, d3, v26, v27, e1, e2, e3, v29, v30, v31, v32, v33, g5, g6, V, sSg (fun q => lb v (8 - m + q)) C z m, H, m14, m15, hkd, ⟨hw, hsh, hf0, hg, hg5, hz', hz2, hV, hTT, c_sg hC, hW', hro', fun j hj => sSg_in (Nat.zero_le _) (by omega)⟩, rfl, rfl, rfl, rfl, rfl, rfl, rfl, rfl, rfl, rfl, rfl⟩)))⟩
  · skip
    refine ⟨_, _, _, _, rfl, kBig.left (kBig.av (as' := [.inr (.long v), .inr (.int (nI m))]) (b_X_feed_f3 (z := z) hm ⟨by omega, by omega⟩) rfl) _, kBig.left (kBig.av (as' := [.inr (.long v), .inr (.int (nI m))]) (b_M_feed_f3 (z := z) hm ⟨by omega, by omega⟩) rfl) _, (fun r w1 hX_ => by obtain ⟨v1, ⟨rfl, rfl⟩, rfl⟩ := hX_; exact ⟨_, _, rfl, rfl⟩), ?_⟩
    intro r w1 r' w2 hX_ hY_
    obtain ⟨v1, ⟨rfl, rfl⟩, rfl⟩ := hX_
    obtain ⟨v2, ⟨rfl, rfl⟩, rfl⟩ := hY_
    exact ⟨⟨_, _, _, rfl, rfl, rfl, rfl⟩, _, kXt.rf _, Inv.mk hf hs hn hr sT.mk sM.mk (Or.inr (Or.inl (hO2)))⟩
theorem F_OST {l : Launch} {A B : Nat → Nat} {y1 y2 y3 x1 x2 x3 x4 x5 x7 c7 : sV} {f s u g8 ro g7 u12 u13 O : Nat → Nat} {n : Nat} {tl tm : sW} {m : Nat} {v : Int64} (hf : by8 64 f) (hs : by8 16 s) (hn : n ≤ 4112) (hr : ∀ j, j < n → ro j = O j) (hm : 1 ≤ m ∧ m ≤ 8) (hO : OST A B y1 y2 y3 n ro tl x1 x2 x3 x4 x5 x7 O tm) : LPr l y_X_feed c_X_feed 5 y_M_feed c_M_feed 6 (some .int) A B [.inr (.long v), .inr (.int (nI m))] oneI sameI ((xA A y1 y2 y3 f s u c7 g8 (.inl n) ro ++ tl) ++ (mA B x1 x2 x3 x4 x5 (.inl n) x7 f s g7 u12 u13 O ++ tm)) := by
  have hO2 := hO
  obtain ⟨kd, sh, w, z, nn, P, f0, g10, a1, a2, a3, v14, v15, v16, v17, v18, v20, v21, v22, v23, d1, d2, d3, v26, v27, e1, e2, e3, v29, v30, v31, v32, v33, g5, g6, V, C, H, m14, m15, hkd, ⟨hw, hsh, hf0, hg, hg5, hz, hz4, hV, hTT, hC, hW, hro, hOo⟩, rfl, rfl, rfl, rfl, rfl, rfl, rfl, rfl, rfl, rfl, rfl⟩ := hO
  by_cases hz2 : z + m ≤ 4096
  · have hnb : nbm kd sh = 17 := nb_st (Or.inl hkd)
    have hdm : mdue kd sh (z + m) = 16 * ((z + m - nbm kd sh) / 16) := md_b (Or.inl (by omega))
    refine ⟨_, _, _, _, rfl, kBig.av (as' := [.inr (.long v), .inr (.int (nI m))]) (b_X_feed_ST hw hf0 hg hsh (by omega) hz hm hz2 hTT hC hW hro) rfl, kBig.av (as' := [.inr (.long v), .inr (.int (nI m))]) (bM_feed hw hf0 hg5 hm hz2 hC hV hdm (by omega) hOo hsh (by omega)) rfl, (fun r w1 hX_ => by obtain ⟨P', n', W', b', u', ro', rfl, hz', hW', hro', rfl⟩ := hX_; exact ⟨_, _, rfl, rfl⟩), ?_⟩
    intro r w1 r' w2 hX_ hY_
    obtain ⟨P', n', W', b', u', ro', rfl, hz', hW', hro', rfl⟩ := hX_
    obtain ⟨s2', u2', rfl, rfl⟩ := hY_
    have hP_ : P' = ((z + m - nbm kd sh) / 16) := by omega
    subst hP_
    exact ⟨⟨_, _, _, rfl, rfl, rfl, rfl⟩, _, kXt.rf _, Inv.mk hf hs (by omega) (fun j hj => (hro' j hj).trans (sSg_in (Nat.zero_le _) (by omega)).symm) sT.mk sM.mk (Or.inr (Or.inr (Or.inl (⟨kd, sh, w, z + m, n', ((z + m - nbm kd sh) / 16), f0, g10, a1, a2, a3, v14, v15, v16, v17, v18, u', W', b', v23, d1, d2, d3, v26, v27, e1, e2, e3, v29, v30, v31, v32, v33, g5, g6, V, sSg (fun q => lb v (8 - m + q)) C z m, H, m14, m15, hkd, ⟨hw, hsh, hf0, hg, hg5, hz', hz2, hV, hTT, c_sg hC, hW', hro', fun j hj => sSg_in (Nat.zero_le _) (by omega)⟩, rfl, rfl, rfl, rfl, rfl, rfl, rfl, rfl, rfl, rfl, rfl⟩))))⟩
  · skip
    refine ⟨_, _, _, _, rfl, kBig.left (kBig.av (as' := [.inr (.long v), .inr (.int (nI m))]) (b_X_feed_f3 (z := z) hm ⟨by omega, by omega⟩) rfl) _, kBig.left (kBig.av (as' := [.inr (.long v), .inr (.int (nI m))]) (b_M_feed_f3 (z := z) hm ⟨by omega, by omega⟩) rfl) _, (fun r w1 hX_ => by obtain ⟨v1, ⟨rfl, rfl⟩, rfl⟩ := hX_; exact ⟨_, _, rfl, rfl⟩), ?_⟩
    intro r w1 r' w2 hX_ hY_
    obtain ⟨v1, ⟨rfl, rfl⟩, rfl⟩ := hX_
    obtain ⟨v2, ⟨rfl, rfl⟩, rfl⟩ := hY_
    exact ⟨⟨_, _, _, rfl, rfl, rfl, rfl⟩, _, kXt.rf _, Inv.mk hf hs hn hr sT.mk sM.mk (Or.inr (Or.inr (Or.inl (hO2))))⟩
theorem F_OTW {l : Launch} {A B : Nat → Nat} {y1 y2 y3 x1 x2 x3 x4 x5 x7 c7 : sV} {f s u g8 ro g7 u12 u13 O : Nat → Nat} {n : Nat} {tl tm : sW} {m : Nat} {v : Int64} (hf : by8 64 f) (hs : by8 16 s) (hn : n ≤ 4112) (hr : ∀ j, j < n → ro j = O j) (hm : 1 ≤ m ∧ m ≤ 8) (hO : OTW A B y1 y2 y3 n ro tl x1 x2 x3 x4 x5 x7 O tm) : LPr l y_X_feed c_X_feed 5 y_M_feed c_M_feed 6 (some .int) A B [.inr (.long v), .inr (.int (nI m))] oneI sameI ((xA A y1 y2 y3 f s u c7 g8 (.inl n) ro ++ tl) ++ (mA B x1 x2 x3 x4 x5 (.inl n) x7 f s g7 u12 u13 O ++ tm)) := by
  have hO2 := hO
  obtain ⟨sh, w, z, nn, P, f0, f2, H0, g10, a1, a2, a3, v14, v15, v16, v17, v18, b1, b2, b3, v20, v21, v22, v23, v24, d1, d2, d3, v26, v27, v29, v30, v31, v32, g5, g6, V, C, m14, m15, hf2, hg6, ⟨hw, hsh, hf0, hg, hg5, hz, hz4, hV, hTT, hC, hW, hro, hOo⟩, rfl, rfl, rfl, rfl, rfl, rfl, rfl, rfl, rfl, rfl, rfl, rfl⟩ := hO
  by_cases hz2 : z + m ≤ 4096
  · have hnb : nbm 10 sh = 17 := nb_st (Or.inr rfl)
    have hdm : mdue 10 sh (z + m) = 16 * ((z + m - nbm 10 sh) / 16) := md_b (Or.inr rfl)
    refine ⟨_, _, _, _, rfl, kBig.av (as' := [.inr (.long v), .inr (.int (nI m))]) (b_X_feed_TW hw hf0 hg hsh hz hm hz2 hTT hC hW hro) rfl, kBig.av (as' := [.inr (.long v), .inr (.int (nI m))]) (b_M_feed_10 hw hf0 hg5 hm hz2 hC hV hdm (by omega) hOo hsh hf2 hg6) rfl, (fun r w1 hX_ => by obtain ⟨P', n', W', b', u', ro', rfl, hz', hW', hro', rfl⟩ := hX_; exact ⟨_, _, rfl, rfl⟩), ?_⟩
    intro r w1 r' w2 hX_ hY_
    obtain ⟨P', n', W', b', u', ro', rfl, hz', hW', hro', rfl⟩ := hX_
    obtain ⟨s2', u2', v_', rfl, rfl⟩ := hY_
    have hP_ : P' = ((z + m - nbm 10 sh) / 16) := by omega
    subst hP_
    exact ⟨⟨_, _, _, rfl, rfl, rfl, rfl⟩, _, kXt.rf _, Inv.mk hf hs (by omega) (fun j hj => (hro' j hj).trans (sSg_in (Nat.zero_le _) (by omega)).symm) sT.mk sM.mk (Or.inr (Or.inr (Or.inr (Or.inl (⟨sh, w, z + m, n', ((z + m - nbm 10 sh) / 16), f0, f2, H0, g10, a1, a2, a3, v14, v15, v16, v17, v18, b1, b2, b3, v20, v21, v22, v23, v24, d1, d2, d3, v26, v27, u', W', b', v32, g5, g6, V, sSg (fun q => lb v (8 - m + q)) C z m, v_', m15, hf2, hg6, ⟨hw, hsh, hf0, hg, hg5, hz', hz2, hV, hTT, c_sg hC, hW', hro', fun j hj => sSg_in (Nat.zero_le _) (by omega)⟩, rfl, rfl, rfl, rfl, rfl, rfl, rfl, rfl, rfl, rfl, rfl, rfl⟩)))))⟩
  · skip
    refine ⟨_, _, _, _, rfl, kBig.left (kBig.av (as' := [.inr (.long v), .inr (.int (nI m))]) (b_X_feed_f3 (z := z) hm ⟨by omega, by omega⟩) rfl) _, kBig.left (kBig.av (as' := [.inr (.long v), .inr (.int (nI m))]) (b_M_feed_f3 (z := z) hm ⟨by omega, by omega⟩) rfl) _, (fun r w1 hX_ => by obtain ⟨v1, ⟨rfl, rfl⟩, rfl⟩ := hX_; exact ⟨_, _, rfl, rfl⟩), ?_⟩
    intro r w1 r' w2 hX_ hY_
    obtain ⟨v1, ⟨rfl, rfl⟩, rfl⟩ := hX_
    obtain ⟨v2, ⟨rfl, rfl⟩, rfl⟩ := hY_
    exact ⟨⟨_, _, _, rfl, rfl, rfl, rfl⟩, _, kXt.rf _, Inv.mk hf hs hn hr sT.mk sM.mk (Or.inr (Or.inr (Or.inr (Or.inl (hO2)))))⟩
theorem F_OSM {l : Launch} {A B : Nat → Nat} {y1 y2 y3 x1 x2 x3 x4 x5 x7 c7 : sV} {f s u g8 ro g7 u12 u13 O : Nat → Nat} {n : Nat} {tl tm : sW} {m : Nat} {v : Int64} (hf : by8 64 f) (hs : by8 16 s) (hn : n ≤ 4112) (hr : ∀ j, j < n → ro j = O j) (hm : 1 ≤ m ∧ m ≤ 8) (hO : OSM A B y1 y2 y3 n ro tl x1 x2 x3 x4 x5 x7 O tm) : LPr l y_X_feed c_X_feed 5 y_M_feed c_M_feed 6 (some .int) A B [.inr (.long v), .inr (.int (nI m))] oneI sameI ((xA A y1 y2 y3 f s u c7 g8 (.inl n) ro ++ tl) ++ (mA B x1 x2 x3 x4 x5 (.inl n) x7 f s g7 u12 u13 O ++ tm)) := by
  have hO2 := hO
  obtain ⟨kd, sh, w, z, f0, g10, a1, a2, a3, v14, v15, v16, v17, v18, b1, b2, b3, v20, v21, v22, v23, v24, v26, e1, e2, e3, v29, v30, v31, v32, v33, g5, g6, V, C, H, m14, m15, hkd, ⟨hw, hsh, hf0, hg, hg5, hz4, hV, hC⟩, hmk, hro, hOo, hH, hnz, rfl, rfl, rfl, rfl, rfl, rfl, rfl, rfl, rfl, rfl⟩ := hO
  subst n
  by_cases hz2 : z + m ≤ 4096
  · skip
    refine ⟨_, _, _, _, rfl, kBig.av (as' := [.inr (.long v), .inr (.int (nI m))]) (b_X_feed_SM hw hf0 hg hsh hkd hm hz2 hV hC hmk hro) rfl, kBig.av (as' := [.inr (.long v), .inr (.int (nI m))]) (bM_feeds hw hf0 hg5 hm hz2 hC hV hsh hOo hH hkd) rfl, (fun r w1 hX_ => by obtain ⟨mk', ro', rfl, hmk', hro', rfl⟩ := hX_; exact ⟨_, _, rfl, rfl⟩), ?_⟩
    intro r w1 r' w2 hX_ hY_
    obtain ⟨mk', ro', rfl, hmk', hro', rfl⟩ := hX_
    obtain ⟨s2', u2', rfl, rfl⟩ := hY_
    exact ⟨⟨_, _, _, rfl, rfl, rfl, rfl⟩, _, kXt.rf _, Inv.mk hf hs (by omega) (fun j hj => (hro' j hj).trans (sSg_in (Nat.zero_le _) (by omega)).symm) sT.mk sM.mk (Or.inr (Or.inr (Or.inr (Or.inr (Or.inl (⟨kd, sh, w, z + m, f0, g10, a1, a2, a3, v14, v15, v16, v17, v18, b1, b2, b3, v20, v21, v22, v23, v24, mk', e1, e2, e3, v29, v30, v31, v32, v33, g5, g6, V, sSg (fun q => lb v (8 - m + q)) C z m, sSg (mskS (hid (KX w f0) (w + 6)) kd sh V (sSg (fun q => lb v (8 - m + q)) C z m)) H 0 (16 * ((z + m + 15) / 16)), m14, m15, hkd, ⟨hw, hsh, hf0, hg, hg5, hz2, hV, c_sg hC⟩, hmk', hro', (fun j hj => sSg_in (Nat.zero_le _) (by omega)), (fun j hj => sSg_in (Nat.zero_le _) (by omega)), rfl, rfl, rfl, rfl, rfl, rfl, rfl, rfl, rfl, rfl, rfl⟩))))))⟩
  · skip
    refine ⟨_, _, _, _, rfl, kBig.left (kBig.av (as' := [.inr (.long v), .inr (.int (nI m))]) (b_X_feed_f3 (z := z) hm ⟨by omega, by omega⟩) rfl) _, kBig.left (kBig.av (as' := [.inr (.long v), .inr (.int (nI m))]) (b_M_feed_f3 (z := z) hm ⟨by omega, by omega⟩) rfl) _, (fun r w1 hX_ => by obtain ⟨v1, ⟨rfl, rfl⟩, rfl⟩ := hX_; exact ⟨_, _, rfl, rfl⟩), ?_⟩
    intro r w1 r' w2 hX_ hY_
    obtain ⟨v1, ⟨rfl, rfl⟩, rfl⟩ := hX_
    obtain ⟨v2, ⟨rfl, rfl⟩, rfl⟩ := hY_
    exact ⟨⟨_, _, _, rfl, rfl, rfl, rfl⟩, _, kXt.rf _, Inv.mk hf hs hn hr sT.mk sM.mk (Or.inr (Or.inr (Or.inr (Or.inr (Or.inl (hO2))))))⟩
theorem F_OS9 {l : Launch} {A B : Nat → Nat} {y1 y2 y3 x1 x2 x3 x4 x5 x7 c7 : sV} {f s u g8 ro g7 u12 u13 O : Nat → Nat} {n : Nat} {tl tm : sW} {m : Nat} {v : Int64} (hf : by8 64 f) (hs : by8 16 s) (hn : n ≤ 4112) (hr : ∀ j, j < n → ro j = O j) (hm : 1 ≤ m ∧ m ≤ 8) (hO : OS9 A B y1 y2 y3 n ro tl x1 x2 x3 x4 x5 x7 O tm) : LPr l y_X_feed c_X_feed 5 y_M_feed c_M_feed 6 (some .int) A B [.inr (.long v), .inr (.int (nI m))] oneI sameI ((xA A y1 y2 y3 f s u c7 g8 (.inl n) ro ++ tl) ++ (mA B x1 x2 x3 x4 x5 (.inl n) x7 f s g7 u12 u13 O ++ tm)) := by
  have hO2 := hO
  obtain ⟨sh, w, z, f0, g10, a1, a2, a3, v14, v15, v16, v17, v18, b1, b2, b3, v20, v21, v22, v23, v24, v26, e1, e2, e3, v29, v30, v31, v32, v33, g5, g6, V, C, H, m14, m15, ⟨hw, hsh, hf0, hg, hg5, hz4, hV, hC⟩, hro, hOo, hnz, rfl, rfl, rfl, rfl, rfl, rfl, rfl, rfl, rfl, rfl⟩ := hO
  subst n
  by_cases hz2 : z + m ≤ 4096
  · skip
    refine ⟨_, _, _, _, rfl, kBig.av (as' := [.inr (.long v), .inr (.int (nI m))]) (b_X_feed_S9 hw hf0 hg hsh hm hz2 hV hC hro) rfl, kBig.av (as' := [.inr (.long v), .inr (.int (nI m))]) (b_M_feed_9 hw hf0 hg5 hm hz2 hC hV hsh hOo) rfl, (fun r w1 hX_ => by obtain ⟨mk', ro', rfl, hro', rfl⟩ := hX_; exact ⟨_, _, rfl, rfl⟩), ?_⟩
    intro r w1 r' w2 hX_ hY_
    obtain ⟨mk', ro', rfl, hro', rfl⟩ := hX_
    obtain ⟨s2', u2', rfl, rfl⟩ := hY_
    exact ⟨⟨_, _, _, rfl, rfl, rfl, rfl⟩, _, kXt.rf _, Inv.mk hf hs (by omega) (fun j hj => (hro' j hj).trans (sSg_in (Nat.zero_le _) (by omega)).symm) sT.mk sM.mk (Or.inr (Or.inr (Or.inr (Or.inr (Or.inr (⟨sh, w, z + m, f0, g10, a1, a2, a3, v14, v15, v16, v17, v18, b1, b2, b3, v20, v21, v22, v23, v24, mk', e1, e2, e3, v29, v30, v31, v32, v33, g5, g6, V, sSg (fun q => lb v (8 - m + q)) C z m, H, m14, m15, ⟨hw, hsh, hf0, hg, hg5, hz2, hV, c_sg hC⟩, hro', (fun j hj => sSg_in (Nat.zero_le _) (by omega)), rfl, rfl, rfl, rfl, rfl, rfl, rfl, rfl, rfl, rfl, rfl⟩))))))⟩
  · skip
    refine ⟨_, _, _, _, rfl, kBig.left (kBig.av (as' := [.inr (.long v), .inr (.int (nI m))]) (b_X_feed_f3 (z := z) hm ⟨by omega, by omega⟩) rfl) _, kBig.left (kBig.av (as' := [.inr (.long v), .inr (.int (nI m))]) (b_M_feed_f3 (z := z) hm ⟨by omega, by omega⟩) rfl) _, (fun r w1 hX_ => by obtain ⟨v1, ⟨rfl, rfl⟩, rfl⟩ := hX_; exact ⟨_, _, rfl, rfl⟩), ?_⟩
    intro r w1 r' w2 hX_ hY_
    obtain ⟨v1, ⟨rfl, rfl⟩, rfl⟩ := hX_
    obtain ⟨v2, ⟨rfl, rfl⟩, rfl⟩ := hY_
    exact ⟨⟨_, _, _, rfl, rfl, rfl, rfl⟩, _, kXt.rf _, Inv.mk hf hs hn hr sT.mk sM.mk (Or.inr (Or.inr (Or.inr (Or.inr (Or.inr (hO2))))))⟩
theorem P_feed {l : Launch} {A B : Nat → Nat} {w : sW} (hI : Inv A B w) (v : Int64) (a : Int32) : LPr l y_X_feed c_X_feed 5 y_M_feed c_M_feed 6 (some .int) A B [.inr (.long v), .inr (.int a)] oneI sameI w := by
  obtain ⟨y1, y2, y3, f, s, u, c7, g8, n, ro, tl, x1, x2, x3, x4, x5, x7, g7, u12, u13, O, tm, rfl, hf, hs, hn, hr, hT, hM, hO⟩ := hI
  rcases i_sz a with ⟨m, hm, rfl⟩ | ha
  · rcases hO with ⟨rfl, rfl⟩ | hO | hO | hO | hO | hO
    · skip
      refine ⟨_, _, _, _, rfl, kBig.left (kBig.av (as' := [.inr (.long v), .inr (.int (nI m))]) (b_X_feed_f2 hm) rfl) tl, kBig.left (kBig.av (as' := [.inr (.long v), .inr (.int (nI m))]) (b_M_feed_f2 hm) rfl) tm, (fun r w1 hX_ => by obtain ⟨v1, ⟨rfl, rfl⟩, rfl⟩ := hX_; exact ⟨_, _, rfl, rfl⟩), ?_⟩
      intro r w1 r' w2 hX_ hY_
      obtain ⟨v1, ⟨rfl, rfl⟩, rfl⟩ := hX_
      obtain ⟨v2, ⟨rfl, rfl⟩, rfl⟩ := hY_
      exact ⟨⟨_, _, _, rfl, rfl, rfl, rfl⟩, _, kXt.rf _, Inv.mk hf hs hn hr hT hM (Or.inl ⟨rfl, rfl⟩)⟩
    · exact F_OCH hf hs hn hr hm hO
    · exact F_OST hf hs hn hr hm hO
    · exact F_OTW hf hs hn hr hm hO
    · exact F_OSM hf hs hn hr hm hO
    · exact F_OS9 hf hs hn hr hm hO
  · skip
    refine ⟨_, _, _, _, rfl, kBig.left (kBig.av (as' := [.inr (.long v), .inr (.int a)]) (b_X_feed_f1 ha) rfl) tl, kBig.left (kBig.av (as' := [.inr (.long v), .inr (.int a)]) (b_M_feed_f1 ha) rfl) tm, (fun r w1 hX_ => by obtain ⟨v1, ⟨rfl, rfl⟩, rfl⟩ := hX_; exact ⟨_, _, rfl, rfl⟩), ?_⟩
    intro r w1 r' w2 hX_ hY_
    obtain ⟨v1, ⟨rfl, rfl⟩, rfl⟩ := hX_
    obtain ⟨v2, ⟨rfl, rfl⟩, rfl⟩ := hY_
    exact ⟨⟨_, _, _, rfl, rfl, rfl, rfl⟩, _, kXt.rf _, Inv.mk hf hs hn hr hT hM hO⟩
