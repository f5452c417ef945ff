theorem P_key {l : Launch} {A B : Nat → Nat} {w : sW} (hI : Inv A B w) (a : Int32) (v : Int64) : LPr l y_X_key c_X_key 4 y_M_key c_M_key 5 (some .boolean) A B [.inr (.int a), .inr (.long v)] oneI sameI w := by
  obtain ⟨y1, y2, y3, f, s, u, c7, g8, n, ro, tl, x1, x2, x3, x4, x5, x7, g7, u12, u13, O, tm, rfl, hf, hs, hn, hr, hT, hM, hO⟩ := hI
  rcases i_rng a (n := 8) (by decide) with ⟨i, hi, rfl⟩ | ha
  · skip
    refine ⟨_, _, _, _, rfl, kBig.left (kBig.av (as' := [.inr (.int (nI i)), .inr (.long v)]) (b_X_key hi) rfl) tl, kBig.left (kBig.av (as' := [.inr (.int (nI i)), .inr (.long v)]) (b_M_key hi) rfl) tm, (fun r w1 hX_ => by obtain ⟨v1, ⟨rfl, rfl⟩, rfl⟩ := hX_; exact ⟨_, _, rfl, rfl⟩), ?_⟩
    intro r w1 r' w2 hX_ hY_
    obtain ⟨v1, ⟨rfl, rfl⟩, rfl⟩ := hX_
    obtain ⟨v2, ⟨rfl, rfl⟩, rfl⟩ := hY_
    exact ⟨⟨_, _, _, rfl, rfl, rfl, rfl⟩, _, kXt.rf _, Inv.mk (by8_sg hf) hs hn hr hT hM hO⟩
  · skip
    refine ⟨_, _, _, _, rfl, kBig.left (kBig.av (as' := [.inr (.int a), .inr (.long v)]) (b_X_key_f ha) rfl) tl, kBig.left (kBig.av (as' := [.inr (.int a), .inr (.long v)]) (b_M_key_f (i_up (by decide) ha)) rfl) tm, (fun r w1 hX_ => by obtain ⟨v1, ⟨rfl, rfl⟩, rfl⟩ := hX_; exact ⟨_, _, rfl, rfl⟩), ?_⟩
    intro r w1 r' w2 hX_ hY_
    obtain ⟨v1, ⟨rfl, rfl⟩, rfl⟩ := hX_
    obtain ⟨v2, ⟨rfl, rfl⟩, rfl⟩ := hY_
    exact ⟨⟨_, _, _, rfl, rfl, rfl, rfl⟩, _, kXt.rf _, Inv.mk hf hs hn hr hT hM hO⟩
theorem P_initial {l : Launch} {A B : Nat → Nat} {w : sW} (hI : Inv A B w) (a : Int32) (v : Int64) : LPr l y_X_initial c_X_initial 4 y_M_initial c_M_initial 5 (some .boolean) A B [.inr (.int a), .inr (.long v)] oneI sameI w := by
  obtain ⟨y1, y2, y3, f, s, u, c7, g8, n, ro, tl, x1, x2, x3, x4, x5, x7, g7, u12, u13, O, tm, rfl, hf, hs, hn, hr, hT, hM, hO⟩ := hI
  rcases i_rng a (n := 2) (by decide) with ⟨i, hi, rfl⟩ | ha
  · skip
    refine ⟨_, _, _, _, rfl, kBig.left (kBig.av (as' := [.inr (.int (nI i)), .inr (.long v)]) (b_X_initial hi) rfl) tl, kBig.left (kBig.av (as' := [.inr (.int (nI i)), .inr (.long v)]) (b_M_initial hi) rfl) tm, (fun r w1 hX_ => by obtain ⟨v1, ⟨rfl, rfl⟩, rfl⟩ := hX_; exact ⟨_, _, rfl, rfl⟩), ?_⟩
    intro r w1 r' w2 hX_ hY_
    obtain ⟨v1, ⟨rfl, rfl⟩, rfl⟩ := hX_
    obtain ⟨v2, ⟨rfl, rfl⟩, rfl⟩ := hY_
    exact ⟨⟨_, _, _, rfl, rfl, rfl, rfl⟩, _, kXt.rf _, Inv.mk hf (by8_sg hs) hn hr hT hM hO⟩
  · skip
    refine ⟨_, _, _, _, rfl, kBig.left (kBig.av (as' := [.inr (.int a), .inr (.long v)]) (b_X_initial_f ha) rfl) tl, kBig.left (kBig.av (as' := [.inr (.int a), .inr (.long v)]) (b_M_initial_f (i_up (by decide) ha)) rfl) tm, (fun r w1 hX_ => by obtain ⟨v1, ⟨rfl, rfl⟩, rfl⟩ := hX_; exact ⟨_, _, rfl, rfl⟩), ?_⟩
    intro r w1 r' w2 hX_ hY_
    obtain ⟨v1, ⟨rfl, rfl⟩, rfl⟩ := hX_
    obtain ⟨v2, ⟨rfl, rfl⟩, rfl⟩ := hY_
    exact ⟨⟨_, _, _, rfl, rfl, rfl, rfl⟩, _, kXt.rf _, Inv.mk hf hs hn hr hT hM hO⟩
theorem P_given {l : Launch} {A B : Nat → Nat} {w : sW} (hI : Inv A B w) (a : Int32) : LPr l y_X_given c_X_given 2 y_M_given c_M_given 2 (some .int) A B [.inr (.int a)] oneI sameI w := by
  obtain ⟨y1, y2, y3, f, s, u, c7, g8, n, ro, tl, x1, x2, x3, x4, x5, x7, g7, u12, u13, O, tm, rfl, hf, hs, hn, hr, hT, hM, hO⟩ := hI
  rcases i_rng a (n := n) (by omega) with ⟨i, hi, rfl⟩ | ha
  · skip
    refine ⟨_, _, _, _, rfl, kBig.left (kBig.av (as' := [.inr (.int (nI i))]) (b_X_given hi hn) rfl) tl, kBig.left (kBig.av (as' := [.inr (.int (nI i))]) (b_M_given hi (by omega)) rfl) tm, (fun r w1 hX_ => by obtain ⟨v1, ⟨rfl, rfl⟩, rfl⟩ := hX_; exact ⟨_, _, rfl, rfl⟩), ?_⟩
    intro r w1 r' w2 hX_ hY_
    obtain ⟨v1, ⟨rfl, rfl⟩, rfl⟩ := hX_
    obtain ⟨v2, ⟨rfl, rfl⟩, rfl⟩ := hY_
    exact ⟨⟨_, _, nI (O i), rfl, rfl, congrArg some (congrArg nI (hr i hi)), rfl⟩, _, kXt.rf _, Inv.mk hf hs hn hr hT hM hO⟩
  · skip
    refine ⟨_, _, _, _, rfl, kBig.left (kBig.av (as' := [.inr (.int a)]) (b_X_given_f ha) rfl) tl, kBig.left (kBig.av (as' := [.inr (.int a)]) (b_M_given_f ha) rfl) tm, (fun r w1 hX_ => by obtain ⟨v1, ⟨rfl, rfl⟩, rfl⟩ := hX_; exact ⟨_, _, rfl, rfl⟩), ?_⟩
    intro r w1 r' w2 hX_ hY_
    obtain ⟨v1, ⟨rfl, rfl⟩, rfl⟩ := hX_
    obtain ⟨v2, ⟨rfl, rfl⟩, rfl⟩ := hY_
    exact ⟨⟨_, _, _, rfl, rfl, rfl, rfl⟩, _, kXt.rf _, Inv.mk hf hs hn hr hT hM hO⟩
theorem P_box {l : Launch} {A B : Nat → Nat} {w : sW} (hI : Inv A B w) (a b : Int32) : LPr l y_X_box c_X_box 3 y_M_box c_M_box 3 (some .int) A B [.inr (.int a), .inr (.int b)] oneI sameI w := by
  obtain ⟨y1, y2, y3, f, s, u, c7, g8, n, ro, tl, x1, x2, x3, x4, x5, x7, g7, u12, u13, O, tm, rfl, hf, hs, hn, hr, hT, hM, hO⟩ := hI
  rcases i_rng a (n := 256) (by decide) with ⟨i, hi, rfl⟩ | ha
  · rcases i_rng b (n := 2) (by decide) with ⟨d, hd, rfl⟩ | hb
    · skip
      refine ⟨_, _, _, _, rfl, kBig.left (kBig.av (as' := [.inr (.int (nI i)), .inr (.int (nI d))]) (b_X_box hi hd) rfl) tl, kBig.left (kBig.av (as' := [.inr (.int (nI i)), .inr (.int (nI d))]) (b_M_box hi hd) rfl) tm, (fun r w1 hX_ => by obtain ⟨v1, ⟨rfl, rfl⟩, rfl⟩ := hX_; exact ⟨_, _, rfl, rfl⟩), ?_⟩
      intro r w1 r' w2 hX_ hY_
      obtain ⟨v1, ⟨rfl, rfl⟩, rfl⟩ := hX_
      obtain ⟨v2, ⟨rfl, rfl⟩, rfl⟩ := hY_
      exact ⟨⟨_, _, _, rfl, rfl, rfl, rfl⟩, _, kXt.rf _, Inv.mk hf hs hn hr hT hM hO⟩
    · skip
      refine ⟨_, _, _, _, rfl, kBig.left (kBig.av (as' := [.inr (.int (nI i)), .inr (.int b)]) (b_X_box_f2 hi ⟨i_ne (by decide) (by decide) hb, i_ne (by decide) (by decide) hb⟩) rfl) tl, kBig.left (kBig.av (as' := [.inr (.int (nI i)), .inr (.int b)]) (b_M_box_f2 hi (i_up (by decide) hb)) rfl) tm, (fun r w1 hX_ => by obtain ⟨v1, ⟨rfl, rfl⟩, rfl⟩ := hX_; exact ⟨_, _, rfl, rfl⟩), ?_⟩
      intro r w1 r' w2 hX_ hY_
      obtain ⟨v1, ⟨rfl, rfl⟩, rfl⟩ := hX_
      obtain ⟨v2, ⟨rfl, rfl⟩, rfl⟩ := hY_
      exact ⟨⟨_, _, _, rfl, rfl, rfl, rfl⟩, _, kXt.rf _, Inv.mk hf hs hn hr hT hM hO⟩
  · skip
    refine ⟨_, _, _, _, rfl, kBig.left (kBig.av (as' := [.inr (.int a), .inr (.int b)]) (b_X_box_f1 (i_up (by decide) ha)) rfl) tl, kBig.left (kBig.av (as' := [.inr (.int a), .inr (.int b)]) (b_M_box_f1 ha) rfl) tm, (fun r w1 hX_ => by obtain ⟨v1, ⟨rfl, rfl⟩, rfl⟩ := hX_; exact ⟨_, _, rfl, rfl⟩), ?_⟩
    intro r w1 r' w2 hX_ hY_
    obtain ⟨v1, ⟨rfl, rfl⟩, rfl⟩ := hX_
    obtain ⟨v2, ⟨rfl, rfl⟩, rfl⟩ := hY_
    exact ⟨⟨_, _, _, rfl, rfl, rfl, rfl⟩, _, kXt.rf _, Inv.mk hf hs hn hr hT hM hO⟩
theorem P_product {l : Launch} {A B : Nat → Nat} {w : sW} (hI : Inv A B w) (a b : Int32) : LPr l y_X_product c_X_product 3 y_M_product c_M_product 3 (some .int) A B [.inr (.int a), .inr (.int b)] oneI sameI w := by
  obtain ⟨y1, y2, y3, f, s, u, c7, g8, n, ro, tl, x1, x2, x3, x4, x5, x7, g7, u12, u13, O, tm, rfl, hf, hs, hn, hr, hT, hM, hO⟩ := hI
  rcases i_rng a (n := 256) (by decide) with ⟨i, hi, rfl⟩ | ha
  · rcases i_rng b (n := 256) (by decide) with ⟨d, hd, rfl⟩ | hb
    · skip
      refine ⟨_, _, _, _, rfl, kBig.left (kBig.av (as' := [.inr (.int (nI i)), .inr (.int (nI d))]) (b_X_product hi hd) rfl) tl, kBig.left (kBig.av (as' := [.inr (.int (nI i)), .inr (.int (nI d))]) (b_M_product hi hd) rfl) tm, (fun r w1 hX_ => by obtain ⟨v1, ⟨rfl, rfl⟩, rfl⟩ := hX_; exact ⟨_, _, rfl, rfl⟩), ?_⟩
      intro r w1 r' w2 hX_ hY_
      obtain ⟨v1, ⟨rfl, rfl⟩, rfl⟩ := hX_
      obtain ⟨v2, ⟨rfl, rfl⟩, rfl⟩ := hY_
      exact ⟨⟨_, _, _, rfl, rfl, rfl, rfl⟩, _, kXt.rf _, Inv.mk hf hs hn hr hT hM hO⟩
    · skip
      refine ⟨_, _, _, _, rfl, kBig.left (kBig.av (as' := [.inr (.int (nI i)), .inr (.int b)]) (b_X_product_f2 hi (i_up (by decide) hb)) rfl) tl, kBig.left (kBig.av (as' := [.inr (.int (nI i)), .inr (.int b)]) (b_M_product_f2 hi hb) rfl) tm, (fun r w1 hX_ => by obtain ⟨v1, ⟨rfl, rfl⟩, rfl⟩ := hX_; exact ⟨_, _, rfl, rfl⟩), ?_⟩
      intro r w1 r' w2 hX_ hY_
      obtain ⟨v1, ⟨rfl, rfl⟩, rfl⟩ := hX_
      obtain ⟨v2, ⟨rfl, rfl⟩, rfl⟩ := hY_
      exact ⟨⟨_, _, _, rfl, rfl, rfl, rfl⟩, _, kXt.rf _, Inv.mk hf hs hn hr hT hM hO⟩
  · skip
    refine ⟨_, _, _, _, rfl, kBig.left (kBig.av (as' := [.inr (.int a), .inr (.int b)]) (b_X_product_f1 (i_up (by decide) ha)) rfl) tl, kBig.left (kBig.av (as' := [.inr (.int a), .inr (.int b)]) (b_M_product_f1 ha) rfl) tm, (fun r w1 hX_ => by obtain ⟨v1, ⟨rfl, rfl⟩, rfl⟩ := hX_; exact ⟨_, _, rfl, rfl⟩), ?_⟩
    intro r w1 r' w2 hX_ hY_
    obtain ⟨v1, ⟨rfl, rfl⟩, rfl⟩ := hX_
    obtain ⟨v2, ⟨rfl, rfl⟩, rfl⟩ := hY_
    exact ⟨⟨_, _, _, rfl, rfl, rfl, rfl⟩, _, kXt.rf _, Inv.mk hf hs hn hr hT hM hO⟩
theorem P_block {l : Launch} {A B : Nat → Nat} {w : sW} (hI : Inv A B w) (a b c : Int32) : LPr l y_X_block c_X_block 4 y_M_block c_M_block 7 (some .long) A B [.inr (.int a), .inr (.int b), .inr (.int c)] oneL sameL w := by
  obtain ⟨y1, y2, y3, f, s, u, c7, g8, n, ro, tl, x1, x2, x3, x4, x5, x7, g7, u12, u13, O, tm, rfl, hf, hs, hn, hr, hT, hM, hO⟩ := hI
  rcases i_key a with ⟨w, hw, rfl⟩ | ha
  · rcases i_rng b (n := 2) (by decide) with ⟨d, hd, rfl⟩ | hb
    · rcases i_rng c (n := 2) (by decide) with ⟨i, hi, rfl⟩ | hc
      · skip
        refine ⟨_, _, _, _, rfl, kBig.left (kBig.av (as' := [.inr (.int (nI w)), .inr (.int (nI d)), .inr (.int (nI i))]) (b_X_block hw hd hi hf hs) rfl) tl, kBig.left (kBig.av (as' := [.inr (.int (nI w)), .inr (.int (nI d)), .inr (.int (nI i))]) (b_M_block hw hd hi hf hs) rfl) tm, (fun r w1 hX_ => by obtain ⟨v1, ⟨g', u', rfl, rfl⟩, rfl⟩ := hX_; exact ⟨_, rfl⟩), ?_⟩
        intro r w1 r' w2 hX_ hY_
        obtain ⟨v1, ⟨g', u', rfl, rfl⟩, rfl⟩ := hX_
        obtain ⟨v2, ⟨g2', u2', t2', rfl, rfl⟩, rfl⟩ := hY_
        exact ⟨⟨_, rfl, rfl⟩, _, kXt.rf _, Inv.mk hf hs hn hr hT hM hO⟩
      · skip
        refine ⟨_, _, _, _, rfl, kBig.left (kBig.av (as' := [.inr (.int (nI w)), .inr (.int (nI d)), .inr (.int c)]) (b_X_block_f3 hw hd hc) rfl) tl, kBig.left (kBig.av (as' := [.inr (.int (nI w)), .inr (.int (nI d)), .inr (.int c)]) (b_M_block_f3 hw hd (i_up (by decide) hc)) rfl) tm, (fun r w1 hX_ => by obtain ⟨v1, ⟨rfl, rfl⟩, rfl⟩ := hX_; exact ⟨_, rfl⟩), ?_⟩
        intro r w1 r' w2 hX_ hY_
        obtain ⟨v1, ⟨rfl, rfl⟩, rfl⟩ := hX_
        obtain ⟨v2, ⟨rfl, rfl⟩, rfl⟩ := hY_
        exact ⟨⟨_, rfl, rfl⟩, _, kXt.rf _, Inv.mk hf hs hn hr hT hM hO⟩
    · skip
      refine ⟨_, _, _, _, rfl, kBig.left (kBig.av (as' := [.inr (.int (nI w)), .inr (.int b), .inr (.int c)]) (b_X_block_f2 hw ⟨i_ne (by decide) (by decide) hb, i_ne (by decide) (by decide) hb⟩) rfl) tl, kBig.left (kBig.av (as' := [.inr (.int (nI w)), .inr (.int b), .inr (.int c)]) (b_M_block_f2 hw (i_up (by decide) hb)) rfl) tm, (fun r w1 hX_ => by obtain ⟨v1, ⟨rfl, rfl⟩, rfl⟩ := hX_; exact ⟨_, rfl⟩), ?_⟩
      intro r w1 r' w2 hX_ hY_
      obtain ⟨v1, ⟨rfl, rfl⟩, rfl⟩ := hX_
      obtain ⟨v2, ⟨rfl, rfl⟩, rfl⟩ := hY_
      exact ⟨⟨_, rfl, rfl⟩, _, kXt.rf _, Inv.mk hf hs hn hr hT hM hO⟩
  · skip
    refine ⟨_, _, _, _, rfl, kBig.left (kBig.av (as' := [.inr (.int a), .inr (.int b), .inr (.int c)]) (b_X_block_f1 ha) rfl) tl, kBig.left (kBig.av (as' := [.inr (.int a), .inr (.int b), .inr (.int c)]) (b_M_block_f1 ha) rfl) tm, (fun r w1 hX_ => by obtain ⟨v1, ⟨rfl, rfl⟩, rfl⟩ := hX_; exact ⟨_, rfl⟩), ?_⟩
    intro r w1 r' w2 hX_ hY_
    obtain ⟨v1, ⟨rfl, rfl⟩, rfl⟩ := hX_
    obtain ⟨v2, ⟨rfl, rfl⟩, rfl⟩ := hY_
    exact ⟨⟨_, rfl, rfl⟩, _, kXt.rf _, Inv.mk hf hs hn hr hT hM hO⟩
