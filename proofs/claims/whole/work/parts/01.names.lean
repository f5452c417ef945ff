-- ===== PART A: goes FIRST, ahead of the names: the tables' words, and 'selects' of the private methods out of them =====
/-- a private method of a class that the tables say can be made, by its rows of tables_1 -/
def lw_okq (q : MethodName × Nat) : Prop := (q.1.cls ≠ "java/lang/invoke/MethodHandle" ∧ q.1.cls ≠ "java/lang/invoke/VarHandle") ∧ Cond.instantiable q.1.cls q.2 ∈ tables_1 ∧ Cond.privateMethod q.1 ∈ tables_1 ∧ Cond.instanceMethod q.1 ∈ tables_1
theorem lw_p0 : lw_okq (⟨"CipherModes$Boxes", "pair", "(II)V"⟩, 2) := ⟨⟨by decide +kernel, by decide +kernel⟩, List.mem_of_getElem? (i := 23) (by decide +kernel), List.mem_of_getElem? (i := 35) (by decide +kernel), List.mem_of_getElem? (i := 36) (by decide +kernel)⟩
theorem lw_p1 : lw_okq (⟨"CipherModes$BlockCipher", "boxed", "(I)I"⟩, 4) := ⟨⟨by decide +kernel, by decide +kernel⟩, List.mem_of_getElem? (i := 49) (by decide +kernel), List.mem_of_getElem? (i := 315) (by decide +kernel), List.mem_of_getElem? (i := 316) (by decide +kernel)⟩
theorem lw_p2 : lw_okq (⟨"CipherModes", "modeOf", "(I)LCipherModes$Mode;"⟩, 14) := ⟨⟨by decide +kernel, by decide +kernel⟩, List.mem_of_getElem? (i := 15) (by decide +kernel), List.mem_of_getElem? (i := 342) (by decide +kernel), List.mem_of_getElem? (i := 343) (by decide +kernel)⟩
theorem lw_p3 : lw_okq (⟨"CipherModes$StreamMode", "makeMask", "()V"⟩, 7) := ⟨⟨by decide +kernel, by decide +kernel⟩, List.mem_of_getElem? (i := 201) (by decide +kernel), List.mem_of_getElem? (i := 442) (by decide +kernel), List.mem_of_getElem? (i := 443) (by decide +kernel)⟩
theorem lw_p4 : lw_okq (⟨"CipherModes$StreamMode", "countLinkUp", "()V"⟩, 7) := ⟨⟨by decide +kernel, by decide +kernel⟩, List.mem_of_getElem? (i := 201) (by decide +kernel), List.mem_of_getElem? (i := 448) (by decide +kernel), List.mem_of_getElem? (i := 449) (by decide +kernel)⟩
theorem lw_p5 : lw_okq (⟨"CipherModes$ChainedMode", "giveUnpadded", "()I"⟩, 10) := ⟨⟨by decide +kernel, by decide +kernel⟩, List.mem_of_getElem? (i := 81) (by decide +kernel), List.mem_of_getElem? (i := 469) (by decide +kernel), List.mem_of_getElem? (i := 470) (by decide +kernel)⟩
theorem lw_p6 : lw_okq (⟨"CipherModes$ChainedMode", "endsWithPadding", "(I)Z"⟩, 10) := ⟨⟨by decide +kernel, by decide +kernel⟩, List.mem_of_getElem? (i := 81) (by decide +kernel), List.mem_of_getElem? (i := 474) (by decide +kernel), List.mem_of_getElem? (i := 475) (by decide +kernel)⟩
theorem lw_p7 : lw_okq (⟨"CipherModes$ChainedMode", "fillWithPadding", "()V"⟩, 10) := ⟨⟨by decide +kernel, by decide +kernel⟩, List.mem_of_getElem? (i := 81) (by decide +kernel), List.mem_of_getElem? (i := 479) (by decide +kernel), List.mem_of_getElem? (i := 480) (by decide +kernel)⟩
theorem lw_p8 : lw_okq (⟨"CipherModes$StolenMode", "giveShownTail", "(I)V"⟩, 10) := ⟨⟨by decide +kernel, by decide +kernel⟩, List.mem_of_getElem? (i := 184) (by decide +kernel), List.mem_of_getElem? (i := 494) (by decide +kernel), List.mem_of_getElem? (i := 495) (by decide +kernel)⟩
theorem lw_p9 : lw_okq (⟨"CipherModes$StolenMode", "cutBlockComesFirst", "(I)Z"⟩, 10) := ⟨⟨by decide +kernel, by decide +kernel⟩, List.mem_of_getElem? (i := 184) (by decide +kernel), List.mem_of_getElem? (i := 498) (by decide +kernel), List.mem_of_getElem? (i := 499) (by decide +kernel)⟩
theorem lw_p10 : lw_okq (⟨"CipherModes$StolenMode", "giveHiddenTail", "(I)V"⟩, 10) := ⟨⟨by decide +kernel, by decide +kernel⟩, List.mem_of_getElem? (i := 184) (by decide +kernel), List.mem_of_getElem? (i := 511) (by decide +kernel), List.mem_of_getElem? (i := 512) (by decide +kernel)⟩
theorem lw_p11 : lw_okq (⟨"CipherModes$TweakedMode", "giveStolenTail", "(I)V"⟩, 10) := ⟨⟨by decide +kernel, by decide +kernel⟩, List.mem_of_getElem? (i := 219) (by decide +kernel), List.mem_of_getElem? (i := 521) (by decide +kernel), List.mem_of_getElem? (i := 522) (by decide +kernel)⟩
theorem lw_p12 : lw_okq (⟨"CipherModesModel", "expand", "(II[I)V"⟩, 22) := ⟨⟨by decide +kernel, by decide +kernel⟩, List.mem_of_getElem? (i := 572) (by decide +kernel), List.mem_of_getElem? (i := 681) (by decide +kernel), List.mem_of_getElem? (i := 682) (by decide +kernel)⟩
theorem lw_p13 : lw_okq (⟨"CipherModesModel", "due", "()I"⟩, 22) := ⟨⟨by decide +kernel, by decide +kernel⟩, List.mem_of_getElem? (i := 572) (by decide +kernel), List.mem_of_getElem? (i := 689) (by decide +kernel), List.mem_of_getElem? (i := 690) (by decide +kernel)⟩
theorem lw_p14 : lw_okq (⟨"CipherModesModel", "whole", "(I)V"⟩, 22) := ⟨⟨by decide +kernel, by decide +kernel⟩, List.mem_of_getElem? (i := 572) (by decide +kernel), List.mem_of_getElem? (i := 693) (by decide +kernel), List.mem_of_getElem? (i := 694) (by decide +kernel)⟩
theorem lw_p15 : lw_okq (⟨"CipherModesModel", "turn", "(Z)V"⟩, 22) := ⟨⟨by decide +kernel, by decide +kernel⟩, List.mem_of_getElem? (i := 572) (by decide +kernel), List.mem_of_getElem? (i := 697) (by decide +kernel), List.mem_of_getElem? (i := 698) (by decide +kernel)⟩
def lw_privs_1 : List (MethodName × Nat) := [(⟨"CipherModes$Boxes", "pair", "(II)V"⟩, 2), (⟨"CipherModes$BlockCipher", "boxed", "(I)I"⟩, 4), (⟨"CipherModes", "modeOf", "(I)LCipherModes$Mode;"⟩, 14), (⟨"CipherModes$StreamMode", "makeMask", "()V"⟩, 7), (⟨"CipherModes$StreamMode", "countLinkUp", "()V"⟩, 7), (⟨"CipherModes$ChainedMode", "giveUnpadded", "()I"⟩, 10), (⟨"CipherModes$ChainedMode", "endsWithPadding", "(I)Z"⟩, 10), (⟨"CipherModes$ChainedMode", "fillWithPadding", "()V"⟩, 10), (⟨"CipherModes$StolenMode", "giveShownTail", "(I)V"⟩, 10), (⟨"CipherModes$StolenMode", "cutBlockComesFirst", "(I)Z"⟩, 10), (⟨"CipherModes$StolenMode", "giveHiddenTail", "(I)V"⟩, 10), (⟨"CipherModes$TweakedMode", "giveStolenTail", "(I)V"⟩, 10), (⟨"CipherModesModel", "expand", "(II[I)V"⟩, 22), (⟨"CipherModesModel", "due", "()I"⟩, 22), (⟨"CipherModesModel", "whole", "(I)V"⟩, 22), (⟨"CipherModesModel", "turn", "(Z)V"⟩, 22)]
theorem lw_r1 : ∀ q ∈ lw_privs_1, lw_okq q := List.forall_mem_cons.mpr ⟨lw_p0, List.forall_mem_cons.mpr ⟨lw_p1, List.forall_mem_cons.mpr ⟨lw_p2, List.forall_mem_cons.mpr ⟨lw_p3, List.forall_mem_cons.mpr ⟨lw_p4, List.forall_mem_cons.mpr ⟨lw_p5, List.forall_mem_cons.mpr ⟨lw_p6, List.forall_mem_cons.mpr ⟨lw_p7, List.forall_mem_cons.mpr ⟨lw_p8, List.forall_mem_cons.mpr ⟨lw_p9, List.forall_mem_cons.mpr ⟨lw_p10, List.forall_mem_cons.mpr ⟨lw_p11, List.forall_mem_cons.mpr ⟨lw_p12, List.forall_mem_cons.mpr ⟨lw_p13, List.forall_mem_cons.mpr ⟨lw_p14, List.forall_mem_cons.mpr ⟨lw_p15, fun _ h => absurd h List.not_mem_nil⟩⟩⟩⟩⟩⟩⟩⟩⟩⟩⟩⟩⟩⟩⟩⟩
theorem lw_p16 : lw_okq (⟨"CipherModesModel", "show", "([II)V"⟩, 22) := ⟨⟨by decide +kernel, by decide +kernel⟩, List.mem_of_getElem? (i := 572) (by decide +kernel), List.mem_of_getElem? (i := 701) (by decide +kernel), List.mem_of_getElem? (i := 702) (by decide +kernel)⟩
theorem lw_p17 : lw_okq (⟨"CipherModesModel", "addKey", "([II)V"⟩, 22) := ⟨⟨by decide +kernel, by decide +kernel⟩, List.mem_of_getElem? (i := 572) (by decide +kernel), List.mem_of_getElem? (i := 705) (by decide +kernel), List.mem_of_getElem? (i := 706) (by decide +kernel)⟩
theorem lw_p18 : lw_okq (⟨"CipherModesModel", "mix", "(IIII)V"⟩, 22) := ⟨⟨by decide +kernel, by decide +kernel⟩, List.mem_of_getElem? (i := 572) (by decide +kernel), List.mem_of_getElem? (i := 709) (by decide +kernel), List.mem_of_getElem? (i := 710) (by decide +kernel)⟩
theorem lw_p19 : lw_okq (⟨"CipherModesModel", "turnRows", "(I)V"⟩, 22) := ⟨⟨by decide +kernel, by decide +kernel⟩, List.mem_of_getElem? (i := 572) (by decide +kernel), List.mem_of_getElem? (i := 713) (by decide +kernel), List.mem_of_getElem? (i := 714) (by decide +kernel)⟩
theorem lw_p20 : lw_okq (⟨"CipherModesModel", "hide", "([II)V"⟩, 22) := ⟨⟨by decide +kernel, by decide +kernel⟩, List.mem_of_getElem? (i := 572) (by decide +kernel), List.mem_of_getElem? (i := 717) (by decide +kernel), List.mem_of_getElem? (i := 718) (by decide +kernel)⟩
theorem lw_p21 : lw_okq (⟨"CipherModesModel", "tweaked", "(I)V"⟩, 22) := ⟨⟨by decide +kernel, by decide +kernel⟩, List.mem_of_getElem? (i := 572) (by decide +kernel), List.mem_of_getElem? (i := 721) (by decide +kernel), List.mem_of_getElem? (i := 722) (by decide +kernel)⟩
theorem lw_p22 : lw_okq (⟨"CipherModesModel", "multiples", "(I)V"⟩, 22) := ⟨⟨by decide +kernel, by decide +kernel⟩, List.mem_of_getElem? (i := 572) (by decide +kernel), List.mem_of_getElem? (i := 725) (by decide +kernel), List.mem_of_getElem? (i := 726) (by decide +kernel)⟩
theorem lw_p23 : lw_okq (⟨"CipherModesModel", "before", "(II)I"⟩, 22) := ⟨⟨by decide +kernel, by decide +kernel⟩, List.mem_of_getElem? (i := 572) (by decide +kernel), List.mem_of_getElem? (i := 729) (by decide +kernel), List.mem_of_getElem? (i := 730) (by decide +kernel)⟩
theorem lw_p24 : lw_okq (⟨"CipherModesModel", "single", "(I)V"⟩, 22) := ⟨⟨by decide +kernel, by decide +kernel⟩, List.mem_of_getElem? (i := 572) (by decide +kernel), List.mem_of_getElem? (i := 733) (by decide +kernel), List.mem_of_getElem? (i := 734) (by decide +kernel)⟩
theorem lw_p25 : lw_okq (⟨"CipherModesModel", "hiddenByte", "(I)I"⟩, 22) := ⟨⟨by decide +kernel, by decide +kernel⟩, List.mem_of_getElem? (i := 572) (by decide +kernel), List.mem_of_getElem? (i := 737) (by decide +kernel), List.mem_of_getElem? (i := 738) (by decide +kernel)⟩
theorem lw_p26 : lw_okq (⟨"CipherModesModel", "help", "(I)V"⟩, 22) := ⟨⟨by decide +kernel, by decide +kernel⟩, List.mem_of_getElem? (i := 572) (by decide +kernel), List.mem_of_getElem? (i := 741) (by decide +kernel), List.mem_of_getElem? (i := 742) (by decide +kernel)⟩
theorem lw_p27 : lw_okq (⟨"CipherModesModel", "endShown", "(I)I"⟩, 22) := ⟨⟨by decide +kernel, by decide +kernel⟩, List.mem_of_getElem? (i := 572) (by decide +kernel), List.mem_of_getElem? (i := 749) (by decide +kernel), List.mem_of_getElem? (i := 750) (by decide +kernel)⟩
theorem lw_p28 : lw_okq (⟨"CipherModesModel", "endPadded", "(I)I"⟩, 22) := ⟨⟨by decide +kernel, by decide +kernel⟩, List.mem_of_getElem? (i := 572) (by decide +kernel), List.mem_of_getElem? (i := 753) (by decide +kernel), List.mem_of_getElem? (i := 754) (by decide +kernel)⟩
theorem lw_p29 : lw_okq (⟨"CipherModesModel", "endStolen", "()V"⟩, 22) := ⟨⟨by decide +kernel, by decide +kernel⟩, List.mem_of_getElem? (i := 572) (by decide +kernel), List.mem_of_getElem? (i := 757) (by decide +kernel), List.mem_of_getElem? (i := 758) (by decide +kernel)⟩
theorem lw_p30 : lw_okq (⟨"CipherModesModel", "endTweaked", "(II)V"⟩, 22) := ⟨⟨by decide +kernel, by decide +kernel⟩, List.mem_of_getElem? (i := 572) (by decide +kernel), List.mem_of_getElem? (i := 761) (by decide +kernel), List.mem_of_getElem? (i := 762) (by decide +kernel)⟩
theorem lw_p31 : lw_okq (⟨"CipherModesModel", "showStolen", "(II)V"⟩, 22) := ⟨⟨by decide +kernel, by decide +kernel⟩, List.mem_of_getElem? (i := 572) (by decide +kernel), List.mem_of_getElem? (i := 765) (by decide +kernel), List.mem_of_getElem? (i := 766) (by decide +kernel)⟩
def lw_privs_2 : List (MethodName × Nat) := [(⟨"CipherModesModel", "show", "([II)V"⟩, 22), (⟨"CipherModesModel", "addKey", "([II)V"⟩, 22), (⟨"CipherModesModel", "mix", "(IIII)V"⟩, 22), (⟨"CipherModesModel", "turnRows", "(I)V"⟩, 22), (⟨"CipherModesModel", "hide", "([II)V"⟩, 22), (⟨"CipherModesModel", "tweaked", "(I)V"⟩, 22), (⟨"CipherModesModel", "multiples", "(I)V"⟩, 22), (⟨"CipherModesModel", "before", "(II)I"⟩, 22), (⟨"CipherModesModel", "single", "(I)V"⟩, 22), (⟨"CipherModesModel", "hiddenByte", "(I)I"⟩, 22), (⟨"CipherModesModel", "help", "(I)V"⟩, 22), (⟨"CipherModesModel", "endShown", "(I)I"⟩, 22), (⟨"CipherModesModel", "endPadded", "(I)I"⟩, 22), (⟨"CipherModesModel", "endStolen", "()V"⟩, 22), (⟨"CipherModesModel", "endTweaked", "(II)V"⟩, 22), (⟨"CipherModesModel", "showStolen", "(II)V"⟩, 22)]
theorem lw_r2 : ∀ q ∈ lw_privs_2, lw_okq q := List.forall_mem_cons.mpr ⟨lw_p16, List.forall_mem_cons.mpr ⟨lw_p17, List.forall_mem_cons.mpr ⟨lw_p18, List.forall_mem_cons.mpr ⟨lw_p19, List.forall_mem_cons.mpr ⟨lw_p20, List.forall_mem_cons.mpr ⟨lw_p21, List.forall_mem_cons.mpr ⟨lw_p22, List.forall_mem_cons.mpr ⟨lw_p23, List.forall_mem_cons.mpr ⟨lw_p24, List.forall_mem_cons.mpr ⟨lw_p25, List.forall_mem_cons.mpr ⟨lw_p26, List.forall_mem_cons.mpr ⟨lw_p27, List.forall_mem_cons.mpr ⟨lw_p28, List.forall_mem_cons.mpr ⟨lw_p29, List.forall_mem_cons.mpr ⟨lw_p30, List.forall_mem_cons.mpr ⟨lw_p31, fun _ h => absurd h List.not_mem_nil⟩⟩⟩⟩⟩⟩⟩⟩⟩⟩⟩⟩⟩⟩⟩⟩
theorem lw_p32 : lw_okq (⟨"CipherModesModel", "isShortFirst", "(I)Z"⟩, 22) := ⟨⟨by decide +kernel, by decide +kernel⟩, List.mem_of_getElem? (i := 572) (by decide +kernel), List.mem_of_getElem? (i := 769) (by decide +kernel), List.mem_of_getElem? (i := 770) (by decide +kernel)⟩
theorem lw_p33 : lw_okq (⟨"CipherModesModel", "hideStolen", "(II)V"⟩, 22) := ⟨⟨by decide +kernel, by decide +kernel⟩, List.mem_of_getElem? (i := 572) (by decide +kernel), List.mem_of_getElem? (i := 773) (by decide +kernel), List.mem_of_getElem? (i := 774) (by decide +kernel)⟩
def lw_privs_3 : List (MethodName × Nat) := [(⟨"CipherModesModel", "isShortFirst", "(I)Z"⟩, 22), (⟨"CipherModesModel", "hideStolen", "(II)V"⟩, 22)]
theorem lw_r3 : ∀ q ∈ lw_privs_3, lw_okq q := List.forall_mem_cons.mpr ⟨lw_p32, List.forall_mem_cons.mpr ⟨lw_p33, fun _ h => absurd h List.not_mem_nil⟩⟩
def lw_privs : List (MethodName × Nat) := lw_privs_1 ++ (lw_privs_2 ++ (lw_privs_3))
def lw_tbl : List Cond := k2_sels lw_privs ++ tables_1
theorem lw_privs_ok : ∀ q ∈ lw_privs, lw_okq q := by
  show ∀ q ∈ lw_privs_1 ++ (lw_privs_2 ++ (lw_privs_3)), lw_okq q
  exact List.forall_mem_append.mpr ⟨lw_r1, List.forall_mem_append.mpr ⟨lw_r2, lw_r3⟩⟩
abbrev RBC : String := "CipherModes$BlockCipher"
abbrev RBX : String := "CipherModes$Boxes"
abbrev RCH : String := "CipherModes$ChainedMode"
abbrev ROU : String := "CipherModes$Output"
abbrev RST : String := "CipherModes$StolenMode"
abbrev RSM : String := "CipherModes$StreamMode"
abbrev RTW : String := "CipherModes$TweakedMode"
abbrev RX : String := "CipherModes"
abbrev RM : String := "CipherModesModel"
abbrev RRW : String := "CipherModes$Rows"
abbrev RMO : String := "CipherModes$Mode"
abbrev RBM : String := "CipherModes$BlockMode"
abbrev RL : String := "CipherModesLaw"
abbrev RSYS : String := "java/lang/System"
def TBC : u_T := fun k => match k with
  | 0 => ("CipherModes$BlockCipher", "forward", "[I", true)
  | 1 => ("CipherModes$BlockCipher", "backward", "[I", true)
  | 2 => ("CipherModes$BlockCipher", "roundKeys", "[I", true)
  | _ => ("CipherModes$BlockCipher", "rounds", "I", false)
def tyBC : Nat → FieldType := fun k => match k with
  | 0 => .array .int
  | 1 => .array .int
  | 2 => .array .int
  | _ => .int
theorem nmBC : ∀ a, a < 4 → ∀ b, b < 4 → a ≠ b → (TBC a).2.1 ≠ (TBC b).2.1 := by decide +kernel
theorem tyoBC : ∀ k, k < 4 → parseFieldDescriptor (TBC k).2.2.1 = some (tyBC k) := by decide +kernel
def TBX : u_T := fun k => match k with
  | 0 => ("CipherModes$Boxes", "forward", "[I", true)
  | _ => ("CipherModes$Boxes", "backward", "[I", true)
def tyBX : Nat → FieldType := fun k => match k with
  | 0 => .array .int
  | _ => .array .int
theorem nmBX : ∀ a, a < 2 → ∀ b, b < 2 → a ≠ b → (TBX a).2.1 ≠ (TBX b).2.1 := by decide +kernel
theorem tyoBX : ∀ k, k < 2 → parseFieldDescriptor (TBX k).2.2.1 = some (tyBX k) := by decide +kernel
def TCH : u_T := fun k => match k with
  | 0 => ("CipherModes$ChainedMode", "nextLink", "[I", true)
  | 1 => ("CipherModes$BlockMode", "waiting", "[I", true)
  | 2 => ("CipherModes$BlockMode", "waits", "I", false)
  | 3 => ("CipherModes$BlockMode", "block", "[I", true)
  | 4 => ("CipherModes$BlockMode", "other", "[I", true)
  | 5 => ("CipherModes$Mode", "cipher", "LCipherModes$BlockCipher;", true)
  | 6 => ("CipherModes$Mode", "output", "LCipherModes$Output;", true)
  | 7 => ("CipherModes$Mode", "link", "[I", true)
  | 8 => ("CipherModes$Mode", "kind", "I", false)
  | _ => ("CipherModes$Mode", "shows", "Z", false)
def tyCH : Nat → FieldType := fun k => match k with
  | 0 => .array .int
  | 1 => .array .int
  | 2 => .int
  | 3 => .array .int
  | 4 => .array .int
  | 5 => .object "CipherModes$BlockCipher"
  | 6 => .object "CipherModes$Output"
  | 7 => .array .int
  | 8 => .int
  | _ => .boolean
theorem nmCH : ∀ a, a < 10 → ∀ b, b < 10 → a ≠ b → (TCH a).2.1 ≠ (TCH b).2.1 := by decide +kernel
theorem tyoCH : ∀ k, k < 10 → parseFieldDescriptor (TCH k).2.2.1 = some (tyCH k) := by decide +kernel
def TOU : u_T := fun k => match k with
  | 0 => ("CipherModes$Output", "row", "[I", true)
  | _ => ("CipherModes$Output", "count", "I", false)
def tyOU : Nat → FieldType := fun k => match k with
  | 0 => .array .int
  | _ => .int
theorem nmOU : ∀ a, a < 2 → ∀ b, b < 2 → a ≠ b → (TOU a).2.1 ≠ (TOU b).2.1 := by decide +kernel
theorem tyoOU : ∀ k, k < 2 → parseFieldDescriptor (TOU k).2.2.1 = some (tyOU k) := by decide +kernel
def TST : u_T := fun k => match k with
  | 0 => ("CipherModes$ChainedMode", "nextLink", "[I", true)
  | 1 => ("CipherModes$BlockMode", "waiting", "[I", true)
  | 2 => ("CipherModes$BlockMode", "waits", "I", false)
  | 3 => ("CipherModes$BlockMode", "block", "[I", true)
  | 4 => ("CipherModes$BlockMode", "other", "[I", true)
  | 5 => ("CipherModes$Mode", "cipher", "LCipherModes$BlockCipher;", true)
  | 6 => ("CipherModes$Mode", "output", "LCipherModes$Output;", true)
  | 7 => ("CipherModes$Mode", "link", "[I", true)
  | 8 => ("CipherModes$Mode", "kind", "I", false)
  | _ => ("CipherModes$Mode", "shows", "Z", false)
def tyST : Nat → FieldType := fun k => match k with
  | 0 => .array .int
  | 1 => .array .int
  | 2 => .int
  | 3 => .array .int
  | 4 => .array .int
  | 5 => .object "CipherModes$BlockCipher"
  | 6 => .object "CipherModes$Output"
  | 7 => .array .int
  | 8 => .int
  | _ => .boolean
theorem nmST : ∀ a, a < 10 → ∀ b, b < 10 → a ≠ b → (TST a).2.1 ≠ (TST b).2.1 := by decide +kernel
theorem tyoST : ∀ k, k < 10 → parseFieldDescriptor (TST k).2.2.1 = some (tyST k) := by decide +kernel
def TSM : u_T := fun k => match k with
  | 0 => ("CipherModes$StreamMode", "mask", "[I", true)
  | 1 => ("CipherModes$StreamMode", "place", "I", false)
  | 2 => ("CipherModes$Mode", "cipher", "LCipherModes$BlockCipher;", true)
  | 3 => ("CipherModes$Mode", "output", "LCipherModes$Output;", true)
  | 4 => ("CipherModes$Mode", "link", "[I", true)
  | 5 => ("CipherModes$Mode", "kind", "I", false)
  | _ => ("CipherModes$Mode", "shows", "Z", false)
def tySM : Nat → FieldType := fun k => match k with
  | 0 => .array .int
  | 1 => .int
  | 2 => .object "CipherModes$BlockCipher"
  | 3 => .object "CipherModes$Output"
  | 4 => .array .int
  | 5 => .int
  | _ => .boolean
theorem nmSM : ∀ a, a < 7 → ∀ b, b < 7 → a ≠ b → (TSM a).2.1 ≠ (TSM b).2.1 := by decide +kernel
theorem tyoSM : ∀ k, k < 7 → parseFieldDescriptor (TSM k).2.2.1 = some (tySM k) := by decide +kernel
def TTW : u_T := fun k => match k with
  | 0 => ("CipherModes$TweakedMode", "earlierTweak", "[I", true)
  | 1 => ("CipherModes$BlockMode", "waiting", "[I", true)
  | 2 => ("CipherModes$BlockMode", "waits", "I", false)
  | 3 => ("CipherModes$BlockMode", "block", "[I", true)
  | 4 => ("CipherModes$BlockMode", "other", "[I", true)
  | 5 => ("CipherModes$Mode", "cipher", "LCipherModes$BlockCipher;", true)
  | 6 => ("CipherModes$Mode", "output", "LCipherModes$Output;", true)
  | 7 => ("CipherModes$Mode", "link", "[I", true)
  | 8 => ("CipherModes$Mode", "kind", "I", false)
  | _ => ("CipherModes$Mode", "shows", "Z", false)
def tyTW : Nat → FieldType := fun k => match k with
  | 0 => .array .int
  | 1 => .array .int
  | 2 => .int
  | 3 => .array .int
  | 4 => .array .int
  | 5 => .object "CipherModes$BlockCipher"
  | 6 => .object "CipherModes$Output"
  | 7 => .array .int
  | 8 => .int
  | _ => .boolean
theorem nmTW : ∀ a, a < 10 → ∀ b, b < 10 → a ≠ b → (TTW a).2.1 ≠ (TTW b).2.1 := by decide +kernel
theorem tyoTW : ∀ k, k < 10 → parseFieldDescriptor (TTW k).2.2.1 = some (tyTW k) := by decide +kernel
def TX : u_T := fun k => match k with
  | 0 => ("CipherModes", "boxes", "LCipherModes$Boxes;", true)
  | 1 => ("CipherModes", "keyRow", "[I", true)
  | 2 => ("CipherModes", "initialRow", "[I", true)
  | 3 => ("CipherModes", "work", "[I", true)
  | 4 => ("CipherModes", "askedCipher", "LCipherModes$BlockCipher;", true)
  | 5 => ("CipherModes", "messageCipher", "LCipherModes$BlockCipher;", true)
  | 6 => ("CipherModes", "output", "LCipherModes$Output;", true)
  | 7 => ("CipherModes", "chained", "LCipherModes$Mode;", true)
  | 8 => ("CipherModes", "stolen", "LCipherModes$Mode;", true)
  | 9 => ("CipherModes", "streamed", "LCipherModes$Mode;", true)
  | 10 => ("CipherModes", "tweaked", "LCipherModes$Mode;", true)
  | 11 => ("CipherModes", "current", "LCipherModes$Mode;", false)
  | 12 => ("CipherModes", "open", "Z", false)
  | _ => ("CipherModes", "come", "I", false)
def tyX : Nat → FieldType := fun k => match k with
  | 0 => .object "CipherModes$Boxes"
  | 1 => .array .int
  | 2 => .array .int
  | 3 => .array .int
  | 4 => .object "CipherModes$BlockCipher"
  | 5 => .object "CipherModes$BlockCipher"
  | 6 => .object "CipherModes$Output"
  | 7 => .object "CipherModes$Mode"
  | 8 => .object "CipherModes$Mode"
  | 9 => .object "CipherModes$Mode"
  | 10 => .object "CipherModes$Mode"
  | 11 => .object "CipherModes$Mode"
  | 12 => .boolean
  | _ => .int
theorem nmX : ∀ a, a < 14 → ∀ b, b < 14 → a ≠ b → (TX a).2.1 ≠ (TX b).2.1 := by decide +kernel
theorem tyoX : ∀ k, k < 14 → parseFieldDescriptor (TX k).2.2.1 = some (tyX k) := by decide +kernel
def TM : u_T := fun k => match k with
  | 0 => ("CipherModesModel", "keyRow", "[I", true)
  | 1 => ("CipherModesModel", "initialRow", "[I", true)
  | 2 => ("CipherModesModel", "boxes", "[I", true)
  | 3 => ("CipherModesModel", "backs", "[I", true)
  | 4 => ("CipherModesModel", "firstKeys", "[I", true)
  | 5 => ("CipherModesModel", "secondKeys", "[I", true)
  | 6 => ("CipherModesModel", "otherKeys", "[I", true)
  | 7 => ("CipherModesModel", "mode", "I", false)
  | 8 => ("CipherModesModel", "words", "I", false)
  | 9 => ("CipherModesModel", "shows", "Z", false)
  | 10 => ("CipherModesModel", "open", "Z", false)
  | 11 => ("CipherModesModel", "initial", "[I", true)
  | 12 => ("CipherModesModel", "come", "[I", true)
  | 13 => ("CipherModesModel", "size", "I", false)
  | 14 => ("CipherModesModel", "out", "[I", true)
  | 15 => ("CipherModesModel", "given", "I", false)
  | 16 => ("CipherModesModel", "helps", "[I", true)
  | 17 => ("CipherModesModel", "helped", "I", false)
  | 18 => ("CipherModesModel", "block", "[I", true)
  | 19 => ("CipherModesModel", "turned", "[I", true)
  | 20 => ("CipherModesModel", "one", "[I", true)
  | _ => ("CipherModesModel", "two", "[I", true)
def tyM : Nat → FieldType := fun k => match k with
  | 0 => .array .int
  | 1 => .array .int
  | 2 => .array .int
  | 3 => .array .int
  | 4 => .array .int
  | 5 => .array .int
  | 6 => .array .int
  | 7 => .int
  | 8 => .int
  | 9 => .boolean
  | 10 => .boolean
  | 11 => .array .int
  | 12 => .array .int
  | 13 => .int
  | 14 => .array .int
  | 15 => .int
  | 16 => .array .int
  | 17 => .int
  | 18 => .array .int
  | 19 => .array .int
  | 20 => .array .int
  | _ => .array .int
theorem nmM : ∀ a, a < 22 → ∀ b, b < 22 → a ≠ b → (TM a).2.1 ≠ (TM b).2.1 := by decide +kernel
theorem tyoM : ∀ k, k < 22 → parseFieldDescriptor (TM k).2.2.1 = some (tyM k) := by decide +kernel
abbrev vwCl : List vw_C := [(RBC, TBC, 4), (RBX, TBX, 2), (RCH, TCH, 10), (ROU, TOU, 2), (RST, TST, 10), (RSM, TSM, 7), (RTW, TTW, 10), (RX, TX, 14), (RM, TM, 22)]
def kNWok (w : Cond) : Bool := match w with
  | .fieldLinkNest .. => true
  | .methodLinkNest .. => true
  | .declares _ => true
  | _ => false
/-- all words of the tables that a caller can hand on; and those that go by va_Nw -/
def kWS : List Cond := lw_tbl.filter goodWord
def kNW : List Cond := lw_tbl.filter kNWok
theorem kt {w : Cond} (h : w ∈ tables_1) (hg : goodWord w = true) : w ∈ kWS := List.mem_filter.mpr ⟨List.mem_append_right _ h, hg⟩
theorem kp {w : Cond} (h : w ∈ k2_sels lw_privs) (hg : goodWord w = true) : w ∈ kWS := List.mem_filter.mpr ⟨List.mem_append_left _ h, hg⟩
theorem ktn {w : Cond} (h : w ∈ tables_1) (hg : kNWok w = true) : w ∈ kNW := List.mem_filter.mpr ⟨List.mem_append_right _ h, hg⟩
def y_X_init : MethodName := ⟨RX, "<init>", "()V"⟩
abbrev c_X_init : ByteArray := prog_1_method_1_code
def y_BX_init : MethodName := ⟨RBX, "<init>", "()V"⟩
abbrev c_BX_init : ByteArray := prog_4_method_1_code
def y_BX_twice : MethodName := ⟨RBX, "twice", "(I)I"⟩
abbrev c_BX_twice : ByteArray := prog_4_method_4_code
def y_BX_boxOfInverse : MethodName := ⟨RBX, "boxOfInverse", "(I)I"⟩
abbrev c_BX_boxOfInverse : ByteArray := prog_4_method_3_code
def y_BX_pair : MethodName := ⟨RBX, "pair", "(II)V"⟩
abbrev c_BX_pair : ByteArray := prog_4_method_2_code
def y_BC_init : MethodName := ⟨RBC, "<init>", "(LCipherModes$Boxes;)V"⟩
abbrev c_BC_init : ByteArray := prog_2_method_1_code
def y_OU_init : MethodName := ⟨ROU, "<init>", "()V"⟩
abbrev c_OU_init : ByteArray := prog_7_method_1_code
def y_CH_init : MethodName := ⟨RCH, "<init>", "(LCipherModes$BlockCipher;LCipherModes$Output;)V"⟩
abbrev c_CH_init : ByteArray := prog_5_method_1_code
def y_BM_init : MethodName := ⟨RBM, "<init>", "(LCipherModes$BlockCipher;LCipherModes$Output;)V"⟩
abbrev c_BM_init : ByteArray := prog_3_method_1_code
def y_MO_init : MethodName := ⟨RMO, "<init>", "(LCipherModes$BlockCipher;LCipherModes$Output;)V"⟩
abbrev c_MO_init : ByteArray := prog_6_method_1_code
def y_ST_init : MethodName := ⟨RST, "<init>", "(LCipherModes$BlockCipher;LCipherModes$Output;)V"⟩
abbrev c_ST_init : ByteArray := prog_9_method_1_code
def y_SM_init : MethodName := ⟨RSM, "<init>", "(LCipherModes$BlockCipher;LCipherModes$Output;)V"⟩
abbrev c_SM_init : ByteArray := prog_10_method_1_code
def y_TW_init : MethodName := ⟨RTW, "<init>", "(LCipherModes$BlockCipher;LCipherModes$Output;)V"⟩
abbrev c_TW_init : ByteArray := prog_11_method_1_code
def y_X_key : MethodName := ⟨RX, "key", "(IJ)Z"⟩
abbrev c_X_key : ByteArray := prog_1_method_2_code
def y_RW_putLong : MethodName := ⟨RRW, "putLong", "([IIJ)V"⟩
abbrev c_RW_putLong : ByteArray := prog_8_method_2_code
def y_X_initial : MethodName := ⟨RX, "initial", "(IJ)Z"⟩
abbrev c_X_initial : ByteArray := prog_1_method_3_code
def y_X_begin : MethodName := ⟨RX, "begin", "(III)I"⟩
abbrev c_X_begin : ByteArray := prog_1_method_4_code
def y_X_isKeySize : MethodName := ⟨RX, "isKeySize", "(I)Z"⟩
abbrev c_X_isKeySize : ByteArray := prog_1_method_12_code
def y_X_isDirection : MethodName := ⟨RX, "isDirection", "(I)Z"⟩
abbrev c_X_isDirection : ByteArray := prog_1_method_13_code
def y_RW_copy : MethodName := ⟨RRW, "copy", "([I[I)V"⟩
abbrev c_RW_copy : ByteArray := prog_8_method_6_code
def y_BC_takeKey : MethodName := ⟨RBC, "takeKey", "([III)V"⟩
abbrev c_BC_takeKey : ByteArray := prog_2_method_2_code
def y_RW_wordAt : MethodName := ⟨RRW, "wordAt", "([II)I"⟩
abbrev c_RW_wordAt : ByteArray := prog_8_method_5_code
def y_BC_boxed : MethodName := ⟨RBC, "boxed", "(I)I"⟩
abbrev c_BC_boxed : ByteArray := prog_2_method_3_code
def y_BC_picked : MethodName := ⟨RBC, "picked", "([IIIII)I"⟩
abbrev c_BC_picked : ByteArray := prog_2_method_7_code
def y_BC_hide : MethodName := ⟨RBC, "hide", "([I)V"⟩
abbrev c_BC_hide : ByteArray := prog_2_method_5_code
def y_BC_mixed : MethodName := ⟨RBC, "mixed", "(I)I"⟩
abbrev c_BC_mixed : ByteArray := prog_2_method_8_code
def y_BC_twiceEachByte : MethodName := ⟨RBC, "twiceEachByte", "(I)I"⟩
abbrev c_BC_twiceEachByte : ByteArray := prog_2_method_10_code
def y_RW_putWord : MethodName := ⟨RRW, "putWord", "([III)V"⟩
abbrev c_RW_putWord : ByteArray := prog_8_method_4_code
def y_OU_clear : MethodName := ⟨ROU, "clear", "()V"⟩
abbrev c_OU_clear : ByteArray := prog_7_method_2_code
def y_X_modeOf : MethodName := ⟨RX, "modeOf", "(I)LCipherModes$Mode;"⟩
abbrev c_X_modeOf : ByteArray := prog_1_method_11_code
def y_MO_start : MethodName := ⟨RMO, "start", "(IZ[I)V"⟩
abbrev c_MO_start : ByteArray := prog_6_method_2_code
def y_BM_forgetRest : MethodName := ⟨RBM, "forgetRest", "()V"⟩
abbrev c_BM_forgetRest : ByteArray := prog_3_method_2_code
def y_SM_forgetRest : MethodName := ⟨RSM, "forgetRest", "()V"⟩
abbrev c_SM_forgetRest : ByteArray := prog_10_method_2_code
def y_X_feed : MethodName := ⟨RX, "feed", "(JI)I"⟩
abbrev c_X_feed : ByteArray := prog_1_method_5_code
def y_BM_take : MethodName := ⟨RBM, "take", "(I)V"⟩
abbrev c_BM_take : ByteArray := prog_3_method_5_code
def y_CH_neededBehind : MethodName := ⟨RCH, "neededBehind", "()I"⟩
abbrev c_CH_neededBehind : ByteArray := prog_5_method_2_code
def y_ST_neededBehind : MethodName := ⟨RST, "neededBehind", "()I"⟩
abbrev c_ST_neededBehind : ByteArray := prog_9_method_2_code
def y_TW_neededBehind : MethodName := ⟨RTW, "neededBehind", "()I"⟩
abbrev c_TW_neededBehind : ByteArray := prog_11_method_2_code
def y_BM_giveFirstBlock : MethodName := ⟨RBM, "giveFirstBlock", "()V"⟩
abbrev c_BM_giveFirstBlock : ByteArray := prog_3_method_6_code
def y_CH_step : MethodName := ⟨RCH, "step", "([I)V"⟩
abbrev c_CH_step : ByteArray := prog_5_method_3_code
def y_BC_turn : MethodName := ⟨RBC, "turn", "([IZ)V"⟩
abbrev c_BC_turn : ByteArray := prog_2_method_4_code
def y_BC_show : MethodName := ⟨RBC, "show", "([I)V"⟩
abbrev c_BC_show : ByteArray := prog_2_method_6_code
def y_BC_mixedTwice : MethodName := ⟨RBC, "mixedTwice", "(I)I"⟩
abbrev c_BC_mixedTwice : ByteArray := prog_2_method_9_code
def y_RW_xor : MethodName := ⟨RRW, "xor", "([I[I)V"⟩
abbrev c_RW_xor : ByteArray := prog_8_method_7_code
def y_TW_step : MethodName := ⟨RTW, "step", "([I)V"⟩
abbrev c_TW_step : ByteArray := prog_11_method_3_code
def y_TW_doubleTweak : MethodName := ⟨RTW, "doubleTweak", "([I)V"⟩
abbrev c_TW_doubleTweak : ByteArray := prog_11_method_4_code
def y_OU_addFirst : MethodName := ⟨ROU, "addFirst", "([II)V"⟩
abbrev c_OU_addFirst : ByteArray := prog_7_method_6_code
def y_OU_add : MethodName := ⟨ROU, "add", "(I)V"⟩
abbrev c_OU_add : ByteArray := prog_7_method_5_code
def y_SM_take : MethodName := ⟨RSM, "take", "(I)V"⟩
abbrev c_SM_take : ByteArray := prog_10_method_3_code
def y_SM_makeMask : MethodName := ⟨RSM, "makeMask", "()V"⟩
abbrev c_SM_makeMask : ByteArray := prog_10_method_4_code
def y_SM_countLinkUp : MethodName := ⟨RSM, "countLinkUp", "()V"⟩
abbrev c_SM_countLinkUp : ByteArray := prog_10_method_5_code
def y_OU_count : MethodName := ⟨ROU, "count", "()I"⟩
abbrev c_OU_count : ByteArray := prog_7_method_3_code
def y_X_end : MethodName := ⟨RX, "end", "()I"⟩
abbrev c_X_end : ByteArray := prog_1_method_6_code
def y_CH_finish : MethodName := ⟨RCH, "finish", "()I"⟩
abbrev c_CH_finish : ByteArray := prog_5_method_4_code
def y_CH_giveUnpadded : MethodName := ⟨RCH, "giveUnpadded", "()I"⟩
abbrev c_CH_giveUnpadded : ByteArray := prog_5_method_6_code
def y_CH_endsWithPadding : MethodName := ⟨RCH, "endsWithPadding", "(I)Z"⟩
abbrev c_CH_endsWithPadding : ByteArray := prog_5_method_7_code
def y_CH_fillWithPadding : MethodName := ⟨RCH, "fillWithPadding", "()V"⟩
abbrev c_CH_fillWithPadding : ByteArray := prog_5_method_5_code
def y_ST_finish : MethodName := ⟨RST, "finish", "()I"⟩
abbrev c_ST_finish : ByteArray := prog_9_method_3_code
def y_ST_giveShownTail : MethodName := ⟨RST, "giveShownTail", "(I)V"⟩
abbrev c_ST_giveShownTail : ByteArray := prog_9_method_6_code
def y_ST_cutBlockComesFirst : MethodName := ⟨RST, "cutBlockComesFirst", "(I)Z"⟩
abbrev c_ST_cutBlockComesFirst : ByteArray := prog_9_method_4_code
def y_ST_giveHiddenTail : MethodName := ⟨RST, "giveHiddenTail", "(I)V"⟩
abbrev c_ST_giveHiddenTail : ByteArray := prog_9_method_5_code
def y_SM_finish : MethodName := ⟨RSM, "finish", "()I"⟩
abbrev c_SM_finish : ByteArray := prog_10_method_6_code
def y_TW_finish : MethodName := ⟨RTW, "finish", "()I"⟩
abbrev c_TW_finish : ByteArray := prog_11_method_5_code
def y_TW_giveStolenTail : MethodName := ⟨RTW, "giveStolenTail", "(I)V"⟩
abbrev c_TW_giveStolenTail : ByteArray := prog_11_method_6_code
def y_X_given : MethodName := ⟨RX, "given", "(I)I"⟩
abbrev c_X_given : ByteArray := prog_1_method_7_code
def y_OU_at : MethodName := ⟨ROU, "at", "(I)I"⟩
abbrev c_OU_at : ByteArray := prog_7_method_4_code
def y_X_block : MethodName := ⟨RX, "block", "(III)J"⟩
abbrev c_X_block : ByteArray := prog_1_method_8_code
def y_RW_longAt : MethodName := ⟨RRW, "longAt", "([II)J"⟩
abbrev c_RW_longAt : ByteArray := prog_8_method_3_code
def y_X_box : MethodName := ⟨RX, "box", "(II)I"⟩
abbrev c_X_box : ByteArray := prog_1_method_9_code
def y_X_isByte : MethodName := ⟨RX, "isByte", "(I)Z"⟩
abbrev c_X_isByte : ByteArray := prog_1_method_14_code
def y_BX_withBox : MethodName := ⟨RBX, "withBox", "(I)I"⟩
abbrev c_BX_withBox : ByteArray := prog_4_method_7_code
def y_BX_boxOf : MethodName := ⟨RBX, "boxOf", "(I)I"⟩
abbrev c_BX_boxOf : ByteArray := prog_4_method_6_code
def y_X_product : MethodName := ⟨RX, "product", "(II)I"⟩
abbrev c_X_product : ByteArray := prog_1_method_10_code
def y_BX_times : MethodName := ⟨RBX, "times", "(II)I"⟩
abbrev c_BX_times : ByteArray := prog_4_method_5_code
def y_M_init : MethodName := ⟨RM, "<init>", "()V"⟩
abbrev c_M_init : ByteArray := prog_13_method_1_code
def y_M_inverse : MethodName := ⟨RM, "inverse", "(I)I"⟩
abbrev c_M_inverse : ByteArray := prog_13_method_3_code
def y_M_times : MethodName := ⟨RM, "times", "(II)I"⟩
abbrev c_M_times : ByteArray := prog_13_method_2_code
def y_M_box : MethodName := ⟨RM, "box", "(II)I"⟩
abbrev c_M_box : ByteArray := prog_13_method_5_code
def y_M_isByte : MethodName := ⟨RM, "isByte", "(I)Z"⟩
abbrev c_M_isByte : ByteArray := prog_13_method_4_code
def y_M_product : MethodName := ⟨RM, "product", "(II)I"⟩
abbrev c_M_product : ByteArray := prog_13_method_6_code
def y_M_key : MethodName := ⟨RM, "key", "(IJ)Z"⟩
abbrev c_M_key : ByteArray := prog_13_method_15_code
def y_M_byteOf : MethodName := ⟨RM, "byteOf", "(JI)I"⟩
abbrev c_M_byteOf : ByteArray := prog_13_method_14_code
def y_M_initial : MethodName := ⟨RM, "initial", "(IJ)Z"⟩
abbrev c_M_initial : ByteArray := prog_13_method_16_code
def y_M_begin : MethodName := ⟨RM, "begin", "(III)I"⟩
abbrev c_M_begin : ByteArray := prog_13_method_18_code
def y_M_isKey : MethodName := ⟨RM, "isKey", "(I)Z"⟩
abbrev c_M_isKey : ByteArray := prog_13_method_17_code
def y_M_expand : MethodName := ⟨RM, "expand", "(II[I)V"⟩
abbrev c_M_expand : ByteArray := prog_13_method_7_code
def y_M_feed : MethodName := ⟨RM, "feed", "(JI)I"⟩
abbrev c_M_feed : ByteArray := prog_13_method_19_code
def y_M_due : MethodName := ⟨RM, "due", "()I"⟩
abbrev c_M_due : ByteArray := prog_13_method_20_code
def y_M_whole : MethodName := ⟨RM, "whole", "(I)V"⟩
abbrev c_M_whole : ByteArray := prog_13_method_22_code
def y_M_turn : MethodName := ⟨RM, "turn", "(Z)V"⟩
abbrev c_M_turn : ByteArray := prog_13_method_13_code
def y_M_show : MethodName := ⟨RM, "show", "([II)V"⟩
abbrev c_M_show : ByteArray := prog_13_method_12_code
def y_M_addKey : MethodName := ⟨RM, "addKey", "([II)V"⟩
abbrev c_M_addKey : ByteArray := prog_13_method_8_code
def y_M_mix : MethodName := ⟨RM, "mix", "(IIII)V"⟩
abbrev c_M_mix : ByteArray := prog_13_method_9_code
def y_M_turnRows : MethodName := ⟨RM, "turnRows", "(I)V"⟩
abbrev c_M_turnRows : ByteArray := prog_13_method_10_code
def y_M_hide : MethodName := ⟨RM, "hide", "([II)V"⟩
abbrev c_M_hide : ByteArray := prog_13_method_11_code
def y_M_tweaked : MethodName := ⟨RM, "tweaked", "(I)V"⟩
abbrev c_M_tweaked : ByteArray := prog_13_method_23_code
def y_M_multiples : MethodName := ⟨RM, "multiples", "(I)V"⟩
abbrev c_M_multiples : ByteArray := prog_13_method_24_code
def y_M_before : MethodName := ⟨RM, "before", "(II)I"⟩
abbrev c_M_before : ByteArray := prog_13_method_21_code
def y_M_single : MethodName := ⟨RM, "single", "(I)V"⟩
abbrev c_M_single : ByteArray := prog_13_method_25_code
def y_M_hiddenByte : MethodName := ⟨RM, "hiddenByte", "(I)I"⟩
abbrev c_M_hiddenByte : ByteArray := prog_13_method_26_code
def y_M_help : MethodName := ⟨RM, "help", "(I)V"⟩
abbrev c_M_help : ByteArray := prog_13_method_27_code
def y_M_end : MethodName := ⟨RM, "end", "()I"⟩
abbrev c_M_end : ByteArray := prog_13_method_28_code
def y_M_endShown : MethodName := ⟨RM, "endShown", "(I)I"⟩
abbrev c_M_endShown : ByteArray := prog_13_method_30_code
def y_M_endPadded : MethodName := ⟨RM, "endPadded", "(I)I"⟩
abbrev c_M_endPadded : ByteArray := prog_13_method_29_code
def y_M_endStolen : MethodName := ⟨RM, "endStolen", "()V"⟩
abbrev c_M_endStolen : ByteArray := prog_13_method_31_code
def y_M_endTweaked : MethodName := ⟨RM, "endTweaked", "(II)V"⟩
abbrev c_M_endTweaked : ByteArray := prog_13_method_35_code
def y_M_showStolen : MethodName := ⟨RM, "showStolen", "(II)V"⟩
abbrev c_M_showStolen : ByteArray := prog_13_method_34_code
def y_M_isShortFirst : MethodName := ⟨RM, "isShortFirst", "(I)Z"⟩
abbrev c_M_isShortFirst : ByteArray := prog_13_method_32_code
def y_M_hideStolen : MethodName := ⟨RM, "hideStolen", "(II)V"⟩
abbrev c_M_hideStolen : ByteArray := prog_13_method_33_code
def y_M_given : MethodName := ⟨RM, "given", "(I)I"⟩
abbrev c_M_given : ByteArray := prog_13_method_36_code
def y_M_block : MethodName := ⟨RM, "block", "(III)J"⟩
abbrev c_M_block : ByteArray := prog_13_method_37_code
set_option maxRecDepth 100000 in
theorem kuBC : ∀ x ∈ u_ws RBC TBC 4, x ∈ kWS := List.forall_mem_cons.mpr ⟨kt (List.mem_append_left _ (List.mem_of_getElem? (i := 58) rfl)) rfl, List.forall_mem_cons.mpr ⟨kt (List.mem_append_left _ (List.mem_of_getElem? (i := 60) rfl)) rfl, List.forall_mem_cons.mpr ⟨kt (List.mem_append_left _ (List.mem_of_getElem? (i := 62) rfl)) rfl, List.forall_mem_cons.mpr ⟨kt (List.mem_append_left _ (List.mem_of_getElem? (i := 64) rfl)) rfl, fun _ h => absurd h List.not_mem_nil⟩⟩⟩⟩
set_option maxRecDepth 100000 in
theorem kuBX : ∀ x ∈ u_ws RBX TBX 2, x ∈ kWS := List.forall_mem_cons.mpr ⟨kt (List.mem_append_left _ (List.mem_of_getElem? (i := 42) rfl)) rfl, List.forall_mem_cons.mpr ⟨kt (List.mem_append_left _ (List.mem_of_getElem? (i := 44) rfl)) rfl, fun _ h => absurd h List.not_mem_nil⟩⟩
set_option maxRecDepth 100000 in
theorem kuCH : ∀ x ∈ u_ws RCH TCH 10, x ∈ kWS := List.forall_mem_cons.mpr ⟨kt (List.mem_append_left _ (List.mem_of_getElem? (i := 162) rfl)) rfl, List.forall_mem_cons.mpr ⟨kt (List.mem_append_left _ (List.mem_of_getElem? (i := 164) rfl)) rfl, List.forall_mem_cons.mpr ⟨kt (List.mem_append_left _ (List.mem_of_getElem? (i := 166) rfl)) rfl, List.forall_mem_cons.mpr ⟨kt (List.mem_append_left _ (List.mem_of_getElem? (i := 168) rfl)) rfl, List.forall_mem_cons.mpr ⟨kt (List.mem_append_left _ (List.mem_of_getElem? (i := 170) rfl)) rfl, List.forall_mem_cons.mpr ⟨kt (List.mem_append_left _ (List.mem_of_getElem? (i := 172) rfl)) rfl, List.forall_mem_cons.mpr ⟨kt (List.mem_append_left _ (List.mem_of_getElem? (i := 174) rfl)) rfl, List.forall_mem_cons.mpr ⟨kt (List.mem_append_left _ (List.mem_of_getElem? (i := 176) rfl)) rfl, List.forall_mem_cons.mpr ⟨kt (List.mem_append_left _ (List.mem_of_getElem? (i := 178) rfl)) rfl, List.forall_mem_cons.mpr ⟨kt (List.mem_append_left _ (List.mem_of_getElem? (i := 180) rfl)) rfl, fun _ h => absurd h List.not_mem_nil⟩⟩⟩⟩⟩⟩⟩⟩⟩⟩
set_option maxRecDepth 100000 in
theorem kuOU : ∀ x ∈ u_ws ROU TOU 2, x ∈ kWS := List.forall_mem_cons.mpr ⟨kt (List.mem_append_left _ (List.mem_of_getElem? (i := 75) rfl)) rfl, List.forall_mem_cons.mpr ⟨kt (List.mem_append_left _ (List.mem_of_getElem? (i := 77) rfl)) rfl, fun _ h => absurd h List.not_mem_nil⟩⟩
set_option maxRecDepth 100000 in
theorem kuST : ∀ x ∈ u_ws RST TST 10, x ∈ kWS := List.forall_mem_cons.mpr ⟨kt (List.mem_append_left _ (List.mem_of_getElem? (i := 189) rfl)) rfl, List.forall_mem_cons.mpr ⟨kt (List.mem_append_left _ (List.mem_of_getElem? (i := 190) rfl)) rfl, List.forall_mem_cons.mpr ⟨kt (List.mem_append_left _ (List.mem_of_getElem? (i := 191) rfl)) rfl, List.forall_mem_cons.mpr ⟨kt (List.mem_append_left _ (List.mem_of_getElem? (i := 192) rfl)) rfl, List.forall_mem_cons.mpr ⟨kt (List.mem_append_left _ (List.mem_of_getElem? (i := 193) rfl)) rfl, List.forall_mem_cons.mpr ⟨kt (List.mem_append_left _ (List.mem_of_getElem? (i := 194) rfl)) rfl, List.forall_mem_cons.mpr ⟨kt (List.mem_append_left _ (List.mem_of_getElem? (i := 195) rfl)) rfl, List.forall_mem_cons.mpr ⟨kt (List.mem_append_left _ (List.mem_of_getElem? (i := 196) rfl)) rfl, List.forall_mem_cons.mpr ⟨kt (List.mem_append_left _ (List.mem_of_getElem? (i := 197) rfl)) rfl, List.forall_mem_cons.mpr ⟨kt (List.mem_append_left _ (List.mem_of_getElem? (i := 198) rfl)) rfl, fun _ h => absurd h List.not_mem_nil⟩⟩⟩⟩⟩⟩⟩⟩⟩⟩
set_option maxRecDepth 100000 in
theorem kuSM : ∀ x ∈ u_ws RSM TSM 7, x ∈ kWS := List.forall_mem_cons.mpr ⟨kt (List.mem_append_left _ (List.mem_of_getElem? (i := 208) rfl)) rfl, List.forall_mem_cons.mpr ⟨kt (List.mem_append_left _ (List.mem_of_getElem? (i := 210) rfl)) rfl, List.forall_mem_cons.mpr ⟨kt (List.mem_append_left _ (List.mem_of_getElem? (i := 212) rfl)) rfl, List.forall_mem_cons.mpr ⟨kt (List.mem_append_left _ (List.mem_of_getElem? (i := 213) rfl)) rfl, List.forall_mem_cons.mpr ⟨kt (List.mem_append_left _ (List.mem_of_getElem? (i := 214) rfl)) rfl, List.forall_mem_cons.mpr ⟨kt (List.mem_append_left _ (List.mem_of_getElem? (i := 215) rfl)) rfl, List.forall_mem_cons.mpr ⟨kt (List.mem_append_left _ (List.mem_of_getElem? (i := 216) rfl)) rfl, fun _ h => absurd h List.not_mem_nil⟩⟩⟩⟩⟩⟩⟩
set_option maxRecDepth 100000 in
theorem kuTW : ∀ x ∈ u_ws RTW TTW 10, x ∈ kWS := List.forall_mem_cons.mpr ⟨kt (List.mem_append_left _ (List.mem_of_getElem? (i := 225) rfl)) rfl, List.forall_mem_cons.mpr ⟨kt (List.mem_append_left _ (List.mem_of_getElem? (i := 227) rfl)) rfl, List.forall_mem_cons.mpr ⟨kt (List.mem_append_left _ (List.mem_of_getElem? (i := 228) rfl)) rfl, List.forall_mem_cons.mpr ⟨kt (List.mem_append_left _ (List.mem_of_getElem? (i := 229) rfl)) rfl, List.forall_mem_cons.mpr ⟨kt (List.mem_append_left _ (List.mem_of_getElem? (i := 230) rfl)) rfl, List.forall_mem_cons.mpr ⟨kt (List.mem_append_left _ (List.mem_of_getElem? (i := 231) rfl)) rfl, List.forall_mem_cons.mpr ⟨kt (List.mem_append_left _ (List.mem_of_getElem? (i := 232) rfl)) rfl, List.forall_mem_cons.mpr ⟨kt (List.mem_append_left _ (List.mem_of_getElem? (i := 233) rfl)) rfl, List.forall_mem_cons.mpr ⟨kt (List.mem_append_left _ (List.mem_of_getElem? (i := 234) rfl)) rfl, List.forall_mem_cons.mpr ⟨kt (List.mem_append_left _ (List.mem_of_getElem? (i := 235) rfl)) rfl, fun _ h => absurd h List.not_mem_nil⟩⟩⟩⟩⟩⟩⟩⟩⟩⟩
set_option maxRecDepth 100000 in
theorem kuX : ∀ x ∈ u_ws RX TX 14, x ∈ kWS := List.forall_mem_cons.mpr ⟨kt (List.mem_append_right _ (List.mem_append_left _ (List.mem_of_getElem? (i := 11) rfl))) rfl, List.forall_mem_cons.mpr ⟨kt (List.mem_append_right _ (List.mem_append_left _ (List.mem_of_getElem? (i := 13) rfl))) rfl, List.forall_mem_cons.mpr ⟨kt (List.mem_append_right _ (List.mem_append_left _ (List.mem_of_getElem? (i := 15) rfl))) rfl, List.forall_mem_cons.mpr ⟨kt (List.mem_append_right _ (List.mem_append_left _ (List.mem_of_getElem? (i := 17) rfl))) rfl, List.forall_mem_cons.mpr ⟨kt (List.mem_append_right _ (List.mem_append_left _ (List.mem_of_getElem? (i := 19) rfl))) rfl, List.forall_mem_cons.mpr ⟨kt (List.mem_append_right _ (List.mem_append_left _ (List.mem_of_getElem? (i := 21) rfl))) rfl, List.forall_mem_cons.mpr ⟨kt (List.mem_append_right _ (List.mem_append_left _ (List.mem_of_getElem? (i := 23) rfl))) rfl, List.forall_mem_cons.mpr ⟨kt (List.mem_append_right _ (List.mem_append_left _ (List.mem_of_getElem? (i := 25) rfl))) rfl, List.forall_mem_cons.mpr ⟨kt (List.mem_append_right _ (List.mem_append_left _ (List.mem_of_getElem? (i := 27) rfl))) rfl, List.forall_mem_cons.mpr ⟨kt (List.mem_append_right _ (List.mem_append_left _ (List.mem_of_getElem? (i := 29) rfl))) rfl, List.forall_mem_cons.mpr ⟨kt (List.mem_append_right _ (List.mem_append_left _ (List.mem_of_getElem? (i := 31) rfl))) rfl, List.forall_mem_cons.mpr ⟨kt (List.mem_append_right _ (List.mem_append_left _ (List.mem_of_getElem? (i := 33) rfl))) rfl, List.forall_mem_cons.mpr ⟨kt (List.mem_append_right _ (List.mem_append_left _ (List.mem_of_getElem? (i := 35) rfl))) rfl, List.forall_mem_cons.mpr ⟨kt (List.mem_append_right _ (List.mem_append_left _ (List.mem_of_getElem? (i := 37) rfl))) rfl, fun _ h => absurd h List.not_mem_nil⟩⟩⟩⟩⟩⟩⟩⟩⟩⟩⟩⟩⟩⟩
set_option maxRecDepth 100000 in
theorem kuM : ∀ x ∈ u_ws RM TM 22, x ∈ kWS := List.forall_mem_cons.mpr ⟨kt (List.mem_append_right _ (List.mem_append_right _ (List.mem_append_left _ (List.mem_of_getElem? (i := 125) rfl)))) rfl, List.forall_mem_cons.mpr ⟨kt (List.mem_append_right _ (List.mem_append_right _ (List.mem_append_left _ (List.mem_of_getElem? (i := 127) rfl)))) rfl, List.forall_mem_cons.mpr ⟨kt (List.mem_append_right _ (List.mem_append_right _ (List.mem_append_left _ (List.mem_of_getElem? (i := 129) rfl)))) rfl, List.forall_mem_cons.mpr ⟨kt (List.mem_append_right _ (List.mem_append_right _ (List.mem_append_left _ (List.mem_of_getElem? (i := 131) rfl)))) rfl, List.forall_mem_cons.mpr ⟨kt (List.mem_append_right _ (List.mem_append_right _ (List.mem_append_left _ (List.mem_of_getElem? (i := 133) rfl)))) rfl, List.forall_mem_cons.mpr ⟨kt (List.mem_append_right _ (List.mem_append_right _ (List.mem_append_left _ (List.mem_of_getElem? (i := 135) rfl)))) rfl, List.forall_mem_cons.mpr ⟨kt (List.mem_append_right _ (List.mem_append_right _ (List.mem_append_left _ (List.mem_of_getElem? (i := 137) rfl)))) rfl, List.forall_mem_cons.mpr ⟨kt (List.mem_append_right _ (List.mem_append_right _ (List.mem_append_left _ (List.mem_of_getElem? (i := 139) rfl)))) rfl, List.forall_mem_cons.mpr ⟨kt (List.mem_append_right _ (List.mem_append_right _ (List.mem_append_left _ (List.mem_of_getElem? (i := 141) rfl)))) rfl, List.forall_mem_cons.mpr ⟨kt (List.mem_append_right _ (List.mem_append_right _ (List.mem_append_left _ (List.mem_of_getElem? (i := 143) rfl)))) rfl, List.forall_mem_cons.mpr ⟨kt (List.mem_append_right _ (List.mem_append_right _ (List.mem_append_left _ (List.mem_of_getElem? (i := 145) rfl)))) rfl, List.forall_mem_cons.mpr ⟨kt (List.mem_append_right _ (List.mem_append_right _ (List.mem_append_left _ (List.mem_of_getElem? (i := 147) rfl)))) rfl, List.forall_mem_cons.mpr ⟨kt (List.mem_append_right _ (List.mem_append_right _ (List.mem_append_left _ (List.mem_of_getElem? (i := 149) rfl)))) rfl, List.forall_mem_cons.mpr ⟨kt (List.mem_append_right _ (List.mem_append_right _ (List.mem_append_left _ (List.mem_of_getElem? (i := 151) rfl)))) rfl, List.forall_mem_cons.mpr ⟨kt (List.mem_append_right _ (List.mem_append_right _ (List.mem_append_left _ (List.mem_of_getElem? (i := 153) rfl)))) rfl, List.forall_mem_cons.mpr ⟨kt (List.mem_append_right _ (List.mem_append_right _ (List.mem_append_left _ (List.mem_of_getElem? (i := 155) rfl)))) rfl, List.forall_mem_cons.mpr ⟨kt (List.mem_append_right _ (List.mem_append_right _ (List.mem_append_left _ (List.mem_of_getElem? (i := 157) rfl)))) rfl, List.forall_mem_cons.mpr ⟨kt (List.mem_append_right _ (List.mem_append_right _ (List.mem_append_left _ (List.mem_of_getElem? (i := 159) rfl)))) rfl, List.forall_mem_cons.mpr ⟨kt (List.mem_append_right _ (List.mem_append_right _ (List.mem_append_left _ (List.mem_of_getElem? (i := 161) rfl)))) rfl, List.forall_mem_cons.mpr ⟨kt (List.mem_append_right _ (List.mem_append_right _ (List.mem_append_left _ (List.mem_of_getElem? (i := 163) rfl)))) rfl, List.forall_mem_cons.mpr ⟨kt (List.mem_append_right _ (List.mem_append_right _ (List.mem_append_left _ (List.mem_of_getElem? (i := 165) rfl)))) rfl, List.forall_mem_cons.mpr ⟨kt (List.mem_append_right _ (List.mem_append_right _ (List.mem_append_left _ (List.mem_of_getElem? (i := 167) rfl)))) rfl, fun _ h => absurd h List.not_mem_nil⟩⟩⟩⟩⟩⟩⟩⟩⟩⟩⟩⟩⟩⟩⟩⟩⟩⟩⟩⟩⟩⟩
set_option maxRecDepth 100000 in
theorem kc_BC_64 : Cond.constant RBC 64 (nI 2139062143) ∈ kWS := kt (List.mem_append_right _ (List.mem_append_left _ (List.mem_of_getElem? (i := 92) rfl))) rfl
set_option maxRecDepth 100000 in
theorem kc_BC_65 : Cond.constant RBC 65 (nI 16843009) ∈ kWS := kt (List.mem_append_right _ (List.mem_append_left _ (List.mem_of_getElem? (i := 93) rfl))) rfl
set_option maxRecDepth 100000 in
theorem kc_RW_15 : Cond.constantLong RRW 15 (lN 4294967295) ∈ kWS := kt (List.mem_append_right _ (List.mem_append_right _ (List.mem_append_left _ (List.mem_of_getElem? (i := 68) rfl)))) rfl
set_option maxRecDepth 100000 in
theorem kc_M_92 : Cond.constantLong RM 92 (lN 255) ∈ kWS := kt (List.mem_append_right _ (List.mem_append_right _ (List.mem_append_left _ (List.mem_of_getElem? (i := 188) rfl)))) rfl
set_option maxRecDepth 100000 in
theorem kc_L_13 : Cond.constantLong RL 13 (lN 4294967295) ∈ kWS := kt (List.mem_append_right _ (List.mem_append_right _ (List.mem_append_right _ (List.mem_of_getElem? (i := 64) rfl)))) rfl
