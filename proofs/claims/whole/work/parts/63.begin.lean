theorem lk_z (E : bF) (md sh : Nat) (T c : Nat → Nat) : lk E md sh T c 0 = T := rfl
theorem rg_z (E : bF) (sh : Nat) (V c : Nat → Nat) : rgS E sh V c 0 = V := rfl
theorem B_OCH {l : Launch} {A B : Nat → Nat} {y1 y2 y3 x1 x2 x3 x4 x5 x7 c7 : sV} {f s u g8 ro g7 u12 u13 O : Nat → Nat} {n : Nat} {tl tm : sW} {md w d : Nat} (hf : by8 64 f) (hs : by8 16 s) (hT : sT A tl) (hM : sM B tm) (hw : w = 4 ∨ w = 6 ∨ w = 8) (hd : d < 2) (hk : md ≤ 2) : LPr l y_X_begin c_X_begin 4 y_M_begin c_M_begin 5 (some .int) A B [.inr (.int (nI md)), .inr (.int (nI w)), .inr (.int (nI d))] oneI sameI ((xA A y1 y2 y3 f s u c7 g8 (.inl n) ro ++ tl) ++ (mA B x1 x2 x3 x4 x5 (.inl n) x7 f s g7 u12 u13 O ++ tm)) := by
  obtain ⟨c9, g10, a1, a2, a3, v14, v15, v16, v17, v18, b1, b2, b3, v20, v21, v22, v23, v24, d1, d2, d3, v26, v27, e1, e2, e3, v29, v30, v31, v32, v33, rfl⟩ := hT
  obtain ⟨g5, g6, V, C, H, m14, m15, rfl⟩ := hM
  refine ⟨_, _, _, _, rfl, kBig.av (as' := [.inr (.int (nI md)), .inr (.int (nI w)), .inr (.int (nI d))]) (b_X_begin_CH hk hw hd hf hs) rfl, kBig.av (as' := [.inr (.int (nI md)), .inr (.int (nI w)), .inr (.int (nI d))]) (b_M_begin_n hw hd hf (by omega)) rfl, (fun r w1 hX_ => by obtain ⟨rfl, rfl⟩ := hX_; exact ⟨_, _, rfl, rfl⟩), ?_⟩
  intro r w1 r' w2 hX_ hY_
  obtain ⟨rfl, rfl⟩ := hX_
  obtain ⟨rfl, rfl⟩ := hY_
  exact ⟨⟨_, _, _, rfl, rfl, rfl, rfl⟩, _, kXt.rf _, Inv.mk hf hs (by decide) (fun j hj => absurd hj (by omega)) sT.mk sM.mk (Or.inr (Or.inl (⟨md, d, w, 0, 0, 0, fun j => f (0 + j), sSg (KW w (fun j => f (0 + j))) g10 0 (4 * (w + 7)), v14, v15, v16, v17, b1, b2, b3, v20, v21, v22, v23, v24, d1, d2, d3, v26, v27, e1, e2, e3, v29, v30, v31, v32, v33, sSg (KX w (fun z => f (0 + z))) g5 0 (16 * (w + 7)), g6, s, C, H, m14, m15, hk, ⟨hw, hd, (fun j hj => hf _ (by omega)), (fun i hi => sSg_in (Nat.zero_le _) (by omega)), (fun i hi => sSg_in (Nat.zero_le _) (by omega)), ⟨rfl, by omega, Or.inl rfl⟩, by omega, hs, hs, (fun j hj => absurd hj (by omega)), (fun j hj => absurd hj (by omega)), (fun j hj => absurd hj (by omega)), (fun j hj => absurd hj (by omega))⟩, rfl, rfl, rfl, rfl, rfl, rfl, rfl, rfl, rfl, rfl, rfl⟩)))⟩
theorem B_OST {l : Launch} {A B : Nat → Nat} {y1 y2 y3 x1 x2 x3 x4 x5 x7 c7 : sV} {f s u g8 ro g7 u12 u13 O : Nat → Nat} {n : Nat} {tl tm : sW} {md w d : Nat} (hf : by8 64 f) (hs : by8 16 s) (hT : sT A tl) (hM : sM B tm) (hw : w = 4 ∨ w = 6 ∨ w = 8) (hd : d < 2) (hk : 3 ≤ md ∧ md ≤ 5) : LPr l y_X_begin c_X_begin 4 y_M_begin c_M_begin 5 (some .int) A B [.inr (.int (nI md)), .inr (.int (nI w)), .inr (.int (nI d))] oneI sameI ((xA A y1 y2 y3 f s u c7 g8 (.inl n) ro ++ tl) ++ (mA B x1 x2 x3 x4 x5 (.inl n) x7 f s g7 u12 u13 O ++ tm)) := by
  obtain ⟨c9, g10, a1, a2, a3, v14, v15, v16, v17, v18, b1, b2, b3, v20, v21, v22, v23, v24, d1, d2, d3, v26, v27, e1, e2, e3, v29, v30, v31, v32, v33, rfl⟩ := hT
  obtain ⟨g5, g6, V, C, H, m14, m15, rfl⟩ := hM
  refine ⟨_, _, _, _, rfl, kBig.av (as' := [.inr (.int (nI md)), .inr (.int (nI w)), .inr (.int (nI d))]) (b_X_begin_ST hk hw hd hf hs) rfl, kBig.av (as' := [.inr (.int (nI md)), .inr (.int (nI w)), .inr (.int (nI d))]) (b_M_begin_n hw hd hf (by omega)) rfl, (fun r w1 hX_ => by obtain ⟨rfl, rfl⟩ := hX_; exact ⟨_, _, rfl, rfl⟩), ?_⟩
  intro r w1 r' w2 hX_ hY_
  obtain ⟨rfl, rfl⟩ := hX_
  obtain ⟨rfl, rfl⟩ := hY_
  exact ⟨⟨_, _, _, rfl, rfl, rfl, rfl⟩, _, kXt.rf _, Inv.mk hf hs (by decide) (fun j hj => absurd hj (by omega)) sT.mk sM.mk (Or.inr (Or.inr (Or.inl (⟨md, d, w, 0, 0, 0, fun j => f (0 + j), sSg (KW w (fun j => f (0 + j))) g10 0 (4 * (w + 7)), a1, a2, a3, v14, v15, v16, v17, v18, v20, v21, v22, v23, d1, d2, d3, v26, v27, e1, e2, e3, v29, v30, v31, v32, v33, sSg (KX w (fun z => f (0 + z))) g5 0 (16 * (w + 7)), g6, s, C, H, m14, m15, hk, ⟨hw, hd, (fun j hj => hf _ (by omega)), (fun i hi => sSg_in (Nat.zero_le _) (by omega)), (fun i hi => sSg_in (Nat.zero_le _) (by omega)), ⟨rfl, by omega, Or.inl rfl⟩, by omega, hs, hs, (fun j hj => absurd hj (by omega)), (fun j hj => absurd hj (by omega)), (fun j hj => absurd hj (by omega)), (fun j hj => absurd hj (by omega))⟩, rfl, rfl, rfl, rfl, rfl, rfl, rfl, rfl, rfl, rfl, rfl⟩))))⟩
theorem B_OTW {l : Launch} {A B : Nat → Nat} {y1 y2 y3 x1 x2 x3 x4 x5 x7 c7 : sV} {f s u g8 ro g7 u12 u13 O : Nat → Nat} {n : Nat} {tl tm : sW} {w d : Nat} (hf : by8 64 f) (hs : by8 16 s) (hT : sT A tl) (hM : sM B tm) (hw : w = 4 ∨ w = 6 ∨ w = 8) (hd : d < 2) (hk : ¬ w = 6) : LPr l y_X_begin c_X_begin 4 y_M_begin c_M_begin 5 (some .int) A B [.inr (.int (nI 10)), .inr (.int (nI w)), .inr (.int (nI d))] oneI sameI ((xA A y1 y2 y3 f s u c7 g8 (.inl n) ro ++ tl) ++ (mA B x1 x2 x3 x4 x5 (.inl n) x7 f s g7 u12 u13 O ++ tm)) := by
  obtain ⟨c9, g10, a1, a2, a3, v14, v15, v16, v17, v18, b1, b2, b3, v20, v21, v22, v23, v24, d1, d2, d3, v26, v27, e1, e2, e3, v29, v30, v31, v32, v33, rfl⟩ := hT
  obtain ⟨g5, g6, V, C, H, m14, m15, rfl⟩ := hM
  have hf2 : by8 (4 * w) (fun j => f (4 * w + j)) := fun j hj => hf _ (by omega)
  have hK2 := fun j => KX_lt (w := w) (by omega) hf2 j
  refine ⟨_, _, _, _, rfl, kBig.av (as' := [.inr (.int (nI 10)), .inr (.int (nI w)), .inr (.int (nI d))]) (b_X_begin_TW hk hw hd hf hs) rfl, kBig.av (as' := [.inr (.int (nI 10)), .inr (.int (nI w)), .inr (.int (nI d))]) (b_M_begin_10 hw hd hf hk) rfl, (fun r w1 hX_ => by obtain ⟨rfl, rfl⟩ := hX_; exact ⟨_, _, rfl, rfl⟩), ?_⟩
  intro r w1 r' w2 hX_ hY_
  obtain ⟨rfl, rfl⟩ := hX_
  obtain ⟨rfl, rfl⟩ := hY_
  rw [← twr_z (hid (KX w (fun j => f (4 * w + j))) (w + 6) s) H]
  exact ⟨⟨_, _, _, rfl, rfl, rfl, rfl⟩, _, kXt.rf _, Inv.mk hf hs (by decide) (fun j hj => absurd hj (by omega)) sT.mk sM.mk (Or.inr (Or.inr (Or.inr (Or.inl (⟨d, w, 0, 0, 0, fun j => f (0 + j), fun j => f (4 * w + j), H, sSg (KW w (fun j => f (0 + j))) (sSg (KW w (fun j => f (4 * w + j))) g10 0 (4 * (w + 7))) 0 (4 * (w + 7)), a1, a2, a3, v14, v15, v16, v17, v18, b1, b2, b3, v20, v21, v22, v23, v24, d1, d2, d3, v26, v27, v29, v30, v31, v32, sSg (KX w (fun z => f (0 + z))) g5 0 (16 * (w + 7)), sSg (KX w (fun z => f (4 * w + z))) g6 0 (16 * (w + 7)), s, C, m14, m15, hf2, (fun i hi => sSg_in (Nat.zero_le _) (by omega)), ⟨hw, hd, (fun j hj => hf _ (by omega)), (fun i hi => sSg_in (Nat.zero_le _) (by omega)), (fun i hi => sSg_in (Nat.zero_le _) (by omega)), ⟨rfl, by omega, Or.inl rfl⟩, by omega, hs, hid_lt hK2 hs, (fun j hj => absurd hj (by omega)), (fun j hj => absurd hj (by omega)), (fun j hj => absurd hj (by omega)), (fun j hj => absurd hj (by omega))⟩, rfl, rfl, rfl, rfl, rfl, rfl, rfl, rfl, rfl, rfl, rfl, rfl⟩)))))⟩
theorem B_OSM {l : Launch} {A B : Nat → Nat} {y1 y2 y3 x1 x2 x3 x4 x5 x7 c7 : sV} {f s u g8 ro g7 u12 u13 O : Nat → Nat} {n : Nat} {tl tm : sW} {md w d : Nat} (hf : by8 64 f) (hs : by8 16 s) (hT : sT A tl) (hM : sM B tm) (hw : w = 4 ∨ w = 6 ∨ w = 8) (hd : d < 2) (hk : 6 ≤ md ∧ md ≤ 8) : LPr l y_X_begin c_X_begin 4 y_M_begin c_M_begin 5 (some .int) A B [.inr (.int (nI md)), .inr (.int (nI w)), .inr (.int (nI d))] oneI sameI ((xA A y1 y2 y3 f s u c7 g8 (.inl n) ro ++ tl) ++ (mA B x1 x2 x3 x4 x5 (.inl n) x7 f s g7 u12 u13 O ++ tm)) := by
  obtain ⟨c9, g10, a1, a2, a3, v14, v15, v16, v17, v18, b1, b2, b3, v20, v21, v22, v23, v24, d1, d2, d3, v26, v27, e1, e2, e3, v29, v30, v31, v32, v33, rfl⟩ := hT
  obtain ⟨g5, g6, V, C, H, m14, m15, rfl⟩ := hM
  refine ⟨_, _, _, _, rfl, kBig.av (as' := [.inr (.int (nI md)), .inr (.int (nI w)), .inr (.int (nI d))]) (b_X_begin_SM (by omega) hw hd hf hs) rfl, kBig.av (as' := [.inr (.int (nI md)), .inr (.int (nI w)), .inr (.int (nI d))]) (b_M_begin_n hw hd hf (by omega)) rfl, (fun r w1 hX_ => by obtain ⟨rfl, rfl⟩ := hX_; exact ⟨_, _, rfl, rfl⟩), ?_⟩
  intro r w1 r' w2 hX_ hY_
  obtain ⟨rfl, rfl⟩ := hX_
  obtain ⟨rfl, rfl⟩ := hY_
  refine ⟨⟨_, _, _, rfl, rfl, rfl, rfl⟩, _, fun l_ cc_ nL_ own_ ini_ R_ Fin_ G_ h_ pc_ lv_ st_ k_ n_ kk_ => h_.ext 27 (b := A 27) (N := 16) (f := s) (lkZ (hid (KX w (fun j => f (0 + j))) (w + 6)) md d s C 0) rfl (fun j hj => lkS_0 hs hj) rfl kk_, ?_⟩
  show Inv A B ((xA A (.inr (.ref (A 25))) (.inl 1) (.inl 0) f s s c7 g8 (.inl 0) ro ++ tlW A (.inl (w + 6)) (sSg (KW w (fun j => f (0 + j))) g10 0 (4 * (w + 7))) a1 a2 a3 v14 v15 v16 v17 v18 b1 b2 b3 v20 v21 v22 v23 v24 (.inl (0 % 16)) (.inl md) (.inl d) v26 (lkZ (hid (KX w (fun j => f (0 + j))) (w + 6)) md d s C 0) e1 e2 e3 v29 v30 v31 v32 v33) ++ (mA B (.inl md) (.inl w) (.inl d) (.inl 1) (.inl 0) (.inl 0) (.inl 0) f s g7 u12 u13 O ++ tmW B (sSg (KX w (fun z => f (0 + z))) g5 0 (16 * (w + 7))) g6 s C H m14 m15))
  exact Inv.mk hf hs (by decide) (fun j hj => absurd hj (by omega)) sT.mk sM.mk (Or.inr (Or.inr (Or.inr (Or.inr (Or.inl (⟨md, d, w, 0, fun j => f (0 + j), sSg (KW w (fun j => f (0 + j))) g10 0 (4 * (w + 7)), a1, a2, a3, v14, v15, v16, v17, v18, b1, b2, b3, v20, v21, v22, v23, v24, v26, e1, e2, e3, v29, v30, v31, v32, v33, sSg (KX w (fun z => f (0 + z))) g5 0 (16 * (w + 7)), g6, s, C, H, m14, m15, hk, ⟨hw, hd, (fun j hj => hf _ (by omega)), (fun i hi => sSg_in (Nat.zero_le _) (by omega)), (fun i hi => sSg_in (Nat.zero_le _) (by omega)), by omega, hs, (fun j hj => absurd hj (by omega))⟩, (fun h_ => absurd rfl h_), (fun j hj => absurd hj (by omega)), (fun j hj => absurd hj (by omega)), (fun j hj => absurd hj (by omega)), rfl, rfl, rfl, rfl, rfl, rfl, rfl, rfl, rfl, rfl, rfl⟩))))))
theorem B_OS9 {l : Launch} {A B : Nat → Nat} {y1 y2 y3 x1 x2 x3 x4 x5 x7 c7 : sV} {f s u g8 ro g7 u12 u13 O : Nat → Nat} {n : Nat} {tl tm : sW} {w d : Nat} (hf : by8 64 f) (hs : by8 16 s) (hT : sT A tl) (hM : sM B tm) (hw : w = 4 ∨ w = 6 ∨ w = 8) (hd : d < 2) : LPr l y_X_begin c_X_begin 4 y_M_begin c_M_begin 5 (some .int) A B [.inr (.int (nI 9)), .inr (.int (nI w)), .inr (.int (nI d))] oneI sameI ((xA A y1 y2 y3 f s u c7 g8 (.inl n) ro ++ tl) ++ (mA B x1 x2 x3 x4 x5 (.inl n) x7 f s g7 u12 u13 O ++ tm)) := by
  obtain ⟨c9, g10, a1, a2, a3, v14, v15, v16, v17, v18, b1, b2, b3, v20, v21, v22, v23, v24, d1, d2, d3, v26, v27, e1, e2, e3, v29, v30, v31, v32, v33, rfl⟩ := hT
  obtain ⟨g5, g6, V, C, H, m14, m15, rfl⟩ := hM
  refine ⟨_, _, _, _, rfl, kBig.av (as' := [.inr (.int (nI 9)), .inr (.int (nI w)), .inr (.int (nI d))]) (b_X_begin_SM (md := 9) (by omega) hw hd hf hs) rfl, kBig.av (as' := [.inr (.int (nI 9)), .inr (.int (nI w)), .inr (.int (nI d))]) (b_M_begin_n (md := 9) hw hd hf (by omega)) rfl, (fun r w1 hX_ => by obtain ⟨rfl, rfl⟩ := hX_; exact ⟨_, _, rfl, rfl⟩), ?_⟩
  intro r w1 r' w2 hX_ hY_
  obtain ⟨rfl, rfl⟩ := hX_
  obtain ⟨rfl, rfl⟩ := hY_
  exact ⟨⟨_, _, _, rfl, rfl, rfl, rfl⟩, _, kXt.rf _, Inv.mk hf hs (by decide) (fun j hj => absurd hj (by omega)) sT.mk sM.mk (Or.inr (Or.inr (Or.inr (Or.inr (Or.inr (⟨d, w, 0, fun j => f (0 + j), sSg (KW w (fun j => f (0 + j))) g10 0 (4 * (w + 7)), a1, a2, a3, v14, v15, v16, v17, v18, b1, b2, b3, v20, v21, v22, v23, v24, v26, e1, e2, e3, v29, v30, v31, v32, v33, sSg (KX w (fun z => f (0 + z))) g5 0 (16 * (w + 7)), g6, s, C, H, m14, m15, ⟨hw, hd, (fun j hj => hf _ (by omega)), (fun i hi => sSg_in (Nat.zero_le _) (by omega)), (fun i hi => sSg_in (Nat.zero_le _) (by omega)), by omega, hs, (fun j hj => absurd hj (by omega))⟩, (fun j hj => absurd hj (by omega)), (fun j hj => absurd hj (by omega)), rfl, rfl, rfl, rfl, rfl, rfl, rfl, rfl, rfl, rfl, rfl⟩))))))⟩
theorem P_begin {l : Launch} {A B : Nat → Nat} {w : sW} (hI : Inv A B w) (a b c : Int32) : LPr l y_X_begin c_X_begin 4 y_M_begin c_M_begin 5 (some .int) A B [.inr (.int a), .inr (.int b), .inr (.int c)] oneI sameI w := by
  obtain ⟨y1, y2, y3, f, s, u, c7, g8, n, ro, tl, x1, x2, x3, x4, x5, x7, g7, u12, u13, O, tm, rfl, hf, hs, hn, hr, hT, hM, hO⟩ := hI
  rcases i_rng a (n := 11) (by decide) with ⟨md, hmd, rfl⟩ | ha
  · rcases i_key b with ⟨w, hw, rfl⟩ | hb
    · rcases i_rng c (n := 2) (by decide) with ⟨d, hd, rfl⟩ | hc
      · rcases (by omega : md ≤ 2 ∨ (3 ≤ md ∧ md ≤ 5) ∨ (6 ≤ md ∧ md ≤ 8) ∨ md = 9 ∨ md = 10) with hk | hk | hk | rfl | rfl
        · exact B_OCH hf hs hT hM hw hd hk
        · exact B_OST hf hs hT hM hw hd hk
        · exact B_OSM hf hs hT hM hw hd hk
        · exact B_OS9 hf hs hT hM hw hd
        · by_cases h6 : w = 6
          · subst h6
            refine ⟨_, _, _, _, rfl, kBig.left (kBig.av (as' := [.inr (.int (nI 10)), .inr (.int (nI 6)), .inr (.int (nI d))]) (b_X_begin_f3 hd) rfl) tl, kBig.left (kBig.av (as' := [.inr (.int (nI 10)), .inr (.int (nI 6)), .inr (.int (nI d))]) (b_M_begin_f3 (z2 := nI d)) rfl) tm, (fun r w1 hX_ => by obtain ⟨v1, ⟨rfl, rfl⟩, rfl⟩ := hX_; exact ⟨_, _, rfl, rfl⟩), ?_⟩
            intro r w1 r' w2 hX_ hY_
            obtain ⟨v1, ⟨rfl, rfl⟩, rfl⟩ := hX_
            obtain ⟨v2, ⟨rfl, rfl⟩, rfl⟩ := hY_
            exact ⟨⟨_, _, _, rfl, rfl, rfl, rfl⟩, _, kXt.rf _, Inv.mk hf hs hn hr hT hM hO⟩
          · exact B_OTW hf hs hT hM hw hd h6
      · skip
        refine ⟨_, _, _, _, rfl, kBig.left (kBig.av (as' := [.inr (.int (nI md)), .inr (.int (nI w)), .inr (.int c)]) (b_X_begin_f4 hmd hw ⟨i_ne (by decide) (by decide) hc, i_ne (by decide) (by decide) hc⟩) rfl) tl, kBig.left (kBig.av (as' := [.inr (.int (nI md)), .inr (.int (nI w)), .inr (.int c)]) (b_M_begin_f4 hmd hw (i_up (by decide) hc)) rfl) tm, (fun r w1 hX_ => by obtain ⟨v1, ⟨rfl, rfl⟩, rfl⟩ := hX_; exact ⟨_, _, rfl, rfl⟩), ?_⟩
        intro r w1 r' w2 hX_ hY_
        obtain ⟨v1, ⟨rfl, rfl⟩, rfl⟩ := hX_
        obtain ⟨v2, ⟨rfl, rfl⟩, rfl⟩ := hY_
        exact ⟨⟨_, _, _, rfl, rfl, rfl, rfl⟩, _, kXt.rf _, Inv.mk hf hs hn hr hT hM hO⟩
    · skip
      refine ⟨_, _, _, _, rfl, kBig.left (kBig.av (as' := [.inr (.int (nI md)), .inr (.int b), .inr (.int c)]) (b_X_begin_f2 hmd hb) rfl) tl, kBig.left (kBig.av (as' := [.inr (.int (nI md)), .inr (.int b), .inr (.int c)]) (b_M_begin_f2 hmd hb) rfl) tm, (fun r w1 hX_ => by obtain ⟨v1, ⟨rfl, rfl⟩, rfl⟩ := hX_; exact ⟨_, _, rfl, rfl⟩), ?_⟩
      intro r w1 r' w2 hX_ hY_
      obtain ⟨v1, ⟨rfl, rfl⟩, rfl⟩ := hX_
      obtain ⟨v2, ⟨rfl, rfl⟩, rfl⟩ := hY_
      exact ⟨⟨_, _, _, rfl, rfl, rfl, rfl⟩, _, kXt.rf _, Inv.mk hf hs hn hr hT hM hO⟩
  · skip
    refine ⟨_, _, _, _, rfl, kBig.left (kBig.av (as' := [.inr (.int a), .inr (.int b), .inr (.int c)]) (b_X_begin_f1 (i_up (by decide) ha)) rfl) tl, kBig.left (kBig.av (as' := [.inr (.int a), .inr (.int b), .inr (.int c)]) (b_M_begin_f1 (i_up (by decide) ha)) rfl) tm, (fun r w1 hX_ => by obtain ⟨v1, ⟨rfl, rfl⟩, rfl⟩ := hX_; exact ⟨_, _, rfl, rfl⟩), ?_⟩
    intro r w1 r' w2 hX_ hY_
    obtain ⟨v1, ⟨rfl, rfl⟩, rfl⟩ := hX_
    obtain ⟨v2, ⟨rfl, rfl⟩, rfl⟩ := hY_
    exact ⟨⟨_, _, _, rfl, rfl, rfl, rfl⟩, _, kXt.rf _, Inv.mk hf hs hn hr hT hM hO⟩
